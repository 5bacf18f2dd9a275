theorem dX4_paint_0 : decode cX4_paint 0 = .ok (.aload_n 0, 1) := by decide +kernel
theorem dX4_paint_1 : decode cX4_paint 1 = .ok (.iload_n 1, 1) := by decide +kernel
theorem dX4_paint_2 : decode cX4_paint 2 = .ok (.invokevirtual 52, 3) := by decide +kernel
theorem dX4_paint_5 : decode cX4_paint 5 = .ok (.ifCond .ne 5, 3) := by decide +kernel
theorem dX4_paint_8 : decode cX4_paint 8 = .ok (.iconst 1, 1) := by decide +kernel
theorem dX4_paint_9 : decode cX4_paint 9 = .ok (.ireturn, 1) := by decide +kernel
theorem dX4_paint_10 : decode cX4_paint 10 = .ok (.iconst 0, 1) := by decide +kernel
theorem dX4_paint_11 : decode cX4_paint 11 = .ok (.istore 4, 2) := by decide +kernel
theorem dX4_paint_13 : decode cX4_paint 13 = .ok (.iload 4, 2) := by decide +kernel
theorem dX4_paint_15 : decode cX4_paint 15 = .ok (.iload_n 3, 1) := by decide +kernel
theorem dX4_paint_16 : decode cX4_paint 16 = .ok (.if_icmp .ge 57, 3) := by decide +kernel
theorem dX4_paint_19 : decode cX4_paint 19 = .ok (.iload 4, 2) := by decide +kernel
theorem dX4_paint_21 : decode cX4_paint 21 = .ok (.iload_n 2, 1) := by decide +kernel
theorem dX4_paint_22 : decode cX4_paint 22 = .ok (.if_icmp .gt 51, 3) := by decide +kernel
theorem dX4_paint_25 : decode cX4_paint 25 = .ok (.aload_n 0, 1) := by decide +kernel
theorem dX4_paint_26 : decode cX4_paint 26 = .ok (.iload_n 1, 1) := by decide +kernel
theorem dX4_paint_27 : decode cX4_paint 27 = .ok (.iload 4, 2) := by decide +kernel
theorem dX4_paint_29 : decode cX4_paint 29 = .ok (.invokevirtual 60, 3) := by decide +kernel
theorem dX4_paint_32 : decode cX4_paint 32 = .ok (.ifCond .ne 6, 3) := by decide +kernel
theorem dX4_paint_35 : decode cX4_paint 35 = .ok (.goto 32, 3) := by decide +kernel
theorem dX4_paint_38 : decode cX4_paint 38 = .ok (.aload_n 0, 1) := by decide +kernel
theorem dX4_paint_39 : decode cX4_paint 39 = .ok (.getfield 34, 3) := by decide +kernel
theorem dX4_paint_42 : decode cX4_paint 42 = .ok (.iload_n 1, 1) := by decide +kernel
theorem dX4_paint_43 : decode cX4_paint 43 = .ok (.iload 4, 2) := by decide +kernel
theorem dX4_paint_45 : decode cX4_paint 45 = .ok (.iastore, 1) := by decide +kernel
theorem dX4_paint_46 : decode cX4_paint 46 = .ok (.aload_n 0, 1) := by decide +kernel
theorem dX4_paint_47 : decode cX4_paint 47 = .ok (.iload_n 1, 1) := by decide +kernel
theorem dX4_paint_48 : decode cX4_paint 48 = .ok (.iconst 1, 1) := by decide +kernel
theorem dX4_paint_49 : decode cX4_paint 49 = .ok (.iadd, 1) := by decide +kernel
theorem dX4_paint_50 : decode cX4_paint 50 = .ok (.iload_n 2, 1) := by decide +kernel
theorem dX4_paint_51 : decode cX4_paint 51 = .ok (.iload 4, 2) := by decide +kernel
theorem dX4_paint_53 : decode cX4_paint 53 = .ok (.iconst 1, 1) := by decide +kernel
theorem dX4_paint_54 : decode cX4_paint 54 = .ok (.iadd, 1) := by decide +kernel
theorem dX4_paint_55 : decode cX4_paint 55 = .ok (.invokestatic 64, 3) := by decide +kernel
theorem dX4_paint_58 : decode cX4_paint 58 = .ok (.iload_n 3, 1) := by decide +kernel
theorem dX4_paint_59 : decode cX4_paint 59 = .ok (.invokevirtual 56, 3) := by decide +kernel
theorem dX4_paint_62 : decode cX4_paint 62 = .ok (.ifCond .eq 5, 3) := by decide +kernel
theorem dX4_paint_65 : decode cX4_paint 65 = .ok (.iconst 1, 1) := by decide +kernel
theorem dX4_paint_66 : decode cX4_paint 66 = .ok (.ireturn, 1) := by decide +kernel
theorem dX4_paint_67 : decode cX4_paint 67 = .ok (.iinc 4 1, 3) := by decide +kernel
theorem dX4_paint_70 : decode cX4_paint 70 = .ok (.goto (-57), 3) := by decide +kernel
theorem dX4_paint_73 : decode cX4_paint 73 = .ok (.iconst 0, 1) := by decide +kernel
theorem dX4_paint_74 : decode cX4_paint 74 = .ok (.ireturn, 1) := by decide +kernel
def f_X4_paintB_67 (N : Nat) (rc : Nat → Int32 → (Nat → Int32) → (Nat → Int32) → Int32 → Int32 → Int32 → Option (Int32 × (Nat → Int32))) (k_13 : Int32 → (Nat → Int32) → (Nat → Int32) → Int32 → Int32 → Int32 → Int32 → Option (Int32 × (Nat → Int32))) (n_rep : Int32) (n_ul : Nat → Int32) (n_ow : Nat → Int32) (x1 : Int32) (x2 : Int32) (x3 : Int32) (x4 : Int32) : Option (Int32 × (Nat → Int32)) := k_13 n_rep n_ul n_ow x1 x2 x3 (x4 + (1 : Int32))
def f_X4_paintB_13 (N : Nat) (rc : Nat → Int32 → (Nat → Int32) → (Nat → Int32) → Int32 → Int32 → Int32 → Option (Int32 × (Nat → Int32))) : Nat → Int32 → (Nat → Int32) → (Nat → Int32) → Int32 → Int32 → Int32 → Int32 → Option (Int32 × (Nat → Int32))
  | 0, _, _, _, _, _, _, _ => none
  | n + 1, n_rep, n_ul, n_ow, x1, x2, x3, x4 => if x3 ≤ x4 then (some ((0 : Int32), n_ow)) else (if x2 < x4 then (some ((0 : Int32), n_ow)) else (ob1 (f_X4_fits N n_ul n_ow x1 x4) fun r29 => if r29 = 0 then (f_X4_paintB_67 N rc (f_X4_paintB_13 N rc n) n_rep n_ul n_ow x1 x2 x3 x4) else (sA n_ow 8 x1 x4 fun n_ow_45 => ob2 (rc 0 n_rep n_ul n_ow_45 (x1 + (1 : Int32)) (mxI x2 (x4 + (1 : Int32))) x3) fun r59 n_ow_59 => if r59 = 0 then (f_X4_paintB_67 N rc (f_X4_paintB_13 N rc n) n_rep n_ul n_ow_59 x1 x2 x3 x4) else (some ((1 : Int32), n_ow_59)))))
def f_X4_paintB (N : Nat) (rc : Nat → Int32 → (Nat → Int32) → (Nat → Int32) → Int32 → Int32 → Int32 → Option (Int32 × (Nat → Int32))) (n_rep : Int32) (n_ul : Nat → Int32) (n_ow : Nat → Int32) (p1 : Int32) (p2 : Int32) (p3 : Int32) : Option (Int32 × (Nat → Int32)) := ob1 (f_X4_reported N n_rep p1) fun r2 => if r2 = 0 then (some ((1 : Int32), n_ow)) else (f_X4_paintB_13 N rc N n_rep n_ul n_ow p1 p2 p3 (0 : Int32))

def f_PG (N : Nat) : Nat → Nat → Int32 → (Nat → Int32) → (Nat → Int32) → Int32 → Int32 → Int32 → Option (Int32 × (Nat → Int32))
  | 0, _, _, _, _, _, _, _ => none
  | n + 1, t, n_rep, n_ul, n_ow, p1, p2, p3 => if t = 0 then f_X4_paintB N (f_PG N n) n_rep n_ul n_ow p1 p2 p3 else none
def PG_ok (l : Launch) (N : Nat) (D : va_G) (cI cJ cZ cB cT : ClassId) (qn0 : Nat) (qn2 : Nat) (qn3 : Nat) (qn1 : Nat) (qn4 : Nat) (qn5 : Nat) (qn6 : Nat) (d t : Nat) (y : MethodName) (b : ByteArray) (n : Nat) : Prop := ∀ (n_calls : Int32) (n_bord : Int32) (n_rep : Int32) (n_unl : Int32) (n_pay : Int32) (n_ul : Nat → Int32) (n_ow : Nat → Int32) (p1 : Int32) (p2 : Int32) (p3 : Int32) (o_r : Int32) (o_n_ow : Nat → Int32), f_PG N d t n_rep n_ul n_ow p1 p2 p3 = some (o_r, o_n_ow) → ∀ sz, Met l y (mw y b n (some .boolean)) ({ frames := 4 + d, cells := 0, slots := 0, locals := 100 + 40 * d } : Room) (mPre D (mT cI cJ cZ cB cT) (W_N_0_2t3 qn0 qn2 qn3 qn1 qn4 qn5 qn6 cI cJ cZ cB cT n_calls n_bord n_rep n_unl n_pay n_ul n_ow) sz [.ref qn0, .int p1, .int p2, .int p3]) ((mQi D (W_N_0_2t3 qn0 qn2 qn3 qn1 qn4 qn5 qn6 cI cJ cZ cB cT n_calls n_bord n_rep n_unl n_pay n_ul o_n_ow) o_r (mB o_r)) (va_A (W_N_0_2t3 qn0 qn2 qn3 qn1 qn4 qn5 qn6 cI cJ cZ cB cT n_calls n_bord n_rep n_unl n_pay n_ul n_ow) sz)) 0 0 (va_A (W_N_0_2t3 qn0 qn2 qn3 qn1 qn4 qn5 qn6 cI cJ cZ cB cT n_calls n_bord n_rep n_unl n_pay n_ul n_ow) sz)
set_option maxHeartbeats 4000000 in
set_option maxRecDepth 100000 in
theorem k_X4_paintB (l : Launch) (N : Nat) (D : va_G) (cI cJ cZ cB cT : ClassId) (qn0 : Nat) (qn2 : Nat) (qn3 : Nat) (qn1 : Nat) (qn4 : Nat) (qn5 : Nat) (qn6 : Nat) (d : Nat) (hg_0 : PG_ok l N D cI cJ cZ cB cT qn0 qn2 qn3 qn1 qn4 qn5 qn6 d 0 yX4_paint cX4_paint 5) (n_calls : Int32) (n_bord : Int32) (n_rep : Int32) (n_unl : Int32) (n_pay : Int32) (n_ul : Nat → Int32) (n_ow : Nat → Int32) (p1 : Int32) (p2 : Int32) (p3 : Int32) (o_r : Int32) (o_n_ow : Nat → Int32) (hf : f_X4_paintB N (f_PG N d) n_rep n_ul n_ow p1 p2 p3 = some (o_r, o_n_ow)) : ∀ sz, Met l yX4_paint (mw yX4_paint cX4_paint 5 (some .boolean)) ({ frames := 4 + (d + 1), cells := 0, slots := 0, locals := 100 + 40 * (d + 1) } : Room) (mPre D (mT cI cJ cZ cB cT) (W_N_0_2t3 qn0 qn2 qn3 qn1 qn4 qn5 qn6 cI cJ cZ cB cT n_calls n_bord n_rep n_unl n_pay n_ul n_ow) sz [.ref qn0, .int p1, .int p2, .int p3]) ((mQi D (W_N_0_2t3 qn0 qn2 qn3 qn1 qn4 qn5 qn6 cI cJ cZ cB cT n_calls n_bord n_rep n_unl n_pay n_ul o_n_ow) o_r (mB o_r)) (va_A (W_N_0_2t3 qn0 qn2 qn3 qn1 qn4 qn5 qn6 cI cJ cZ cB cT n_calls n_bord n_rep n_unl n_pay n_ul n_ow) sz)) 0 0 (va_A (W_N_0_2t3 qn0 qn2 qn3 qn1 qn4 qn5 qn6 cI cJ cZ cB cT n_calls n_bord n_rep n_unl n_pay n_ul n_ow) sz) := by
  refine mMet (Qc := (mQi D (W_N_0_2t3 qn0 qn2 qn3 qn1 qn4 qn5 qn6 cI cJ cZ cB cT n_calls n_bord n_rep n_unl n_pay n_ul o_n_ow) o_r (mB o_r))) (by decide) (Nat.le_of_ble_eq_true rfl) (fun p e s m below meth c A ls hx hb hr hml hts hown hlocks hK hA hP hD hl => ?_)
  have hown : s.vm.findClass RX4 = some m.cls := hown
  have hl : lv_has ls 5 [(0, .ref qn0), (1, .int p1), (2, .int p2), (3, .int p3)] := hl
  have hS : va_S A s.heap s.heap [] := va_S.rf
  have b13 : ∀ n13 : Nat, ∀ (n_ow : Nat → Int32) (x1 : Int32) (x2 : Int32) (x3 : Int32) (x4 : Int32) (H : Heap) (locs : List Loc) (ls : Array Slot), f_X4_paintB_13 N (f_PG N d) n13 n_rep n_ul n_ow x1 x2 x3 x4 = some (o_r, o_n_ow) → va_P D vwCl (W_N_0_2t3 qn0 qn2 qn3 qn1 qn4 qn5 qn6 cI cJ cZ cB cT n_calls n_bord n_rep n_unl n_pay n_ul n_ow) H → va_D A (W_N_0_2t3 qn0 qn2 qn3 qn1 qn4 qn5 qn6 cI cJ cZ cB cT n_calls n_bord n_rep n_unl n_pay n_ul n_ow) → va_S A s.heap H locs → lv_has ls 5 [(0, .ref qn0), (1, .int x1), (2, .int x2), (3, .int x3), (4, .int x4)] → W p l e ({ frames := 4 + (d + 1), cells := 0, slots := 0, locals := 100 + 40 * (d + 1) } : Room) s m ([.ref qn0, .int p1, .int p2, .int p3] : List Value).toArray below meth c H locs 0 0 (MQ below ((mQi D (W_N_0_2t3 qn0 qn2 qn3 qn1 qn4 qn5 qn6 cI cJ cZ cB cT n_calls n_bord n_rep n_unl n_pay n_ul o_n_ow) o_r (mB o_r)) A) ([.ref qn0, .int p1, .int p2, .int p3] : List Value).toArray s 0 0 A) (F0 m 13 ls []) := by
    intro n13
    induction n13 with
    | zero =>
      intro n_ow x1 x2 x3 x4 H locs ls hf hP hD hS hl
      simp [f_X4_paintB_13] at hf
    | succ n13 ih13 =>
      have b67 : ∀ (n_ow : Nat → Int32) (x1 : Int32) (x2 : Int32) (x3 : Int32) (x4 : Int32) (H : Heap) (locs : List Loc) (ls : Array Slot), f_X4_paintB_67 N (f_PG N d) (f_X4_paintB_13 N (f_PG N d) n13) n_rep n_ul n_ow x1 x2 x3 x4 = some (o_r, o_n_ow) → va_P D vwCl (W_N_0_2t3 qn0 qn2 qn3 qn1 qn4 qn5 qn6 cI cJ cZ cB cT n_calls n_bord n_rep n_unl n_pay n_ul n_ow) H → va_D A (W_N_0_2t3 qn0 qn2 qn3 qn1 qn4 qn5 qn6 cI cJ cZ cB cT n_calls n_bord n_rep n_unl n_pay n_ul n_ow) → va_S A s.heap H locs → lv_has ls 5 [(0, .ref qn0), (1, .int x1), (2, .int x2), (3, .int x3), (4, .int x4)] → W p l e ({ frames := 4 + (d + 1), cells := 0, slots := 0, locals := 100 + 40 * (d + 1) } : Room) s m ([.ref qn0, .int p1, .int p2, .int p3] : List Value).toArray below meth c H locs 0 0 (MQ below ((mQi D (W_N_0_2t3 qn0 qn2 qn3 qn1 qn4 qn5 qn6 cI cJ cZ cB cT n_calls n_bord n_rep n_unl n_pay n_ul o_n_ow) o_r (mB o_r)) A) ([.ref qn0, .int p1, .int p2, .int p3] : List Value).toArray s 0 0 A) (F0 m 67 ls []) := by
        intro n_ow x1 x2 x3 x4 H locs ls hf hP hD hS hl
        unfold f_X4_paintB_67 at hf
        refine lv_iinc (v := (x4 + (1 : Int32))) (lv' := [(4, .int (x4 + (1 : Int32))), (0, .ref qn0), (1, .int x1), (2, .int x2), (3, .int x3)]) hx hb dX4_paint_67 hl (k := 4) rfl rfl (by decide) rfl (fun ls hl => ?_)
        refine lv_goto (tgt := 13) hx hb dX4_paint_70 (by decide) ?_
        exact ih13 n_ow x1 x2 x3 (x4 + (1 : Int32)) _ _ _ hf hP hD hS (lv_sub hl [1, 2, 3, 4, 0] rfl)
      intro n_ow x1 x2 x3 x4 H locs ls hf hP hD hS hl
      rw [f_X4_paintB_13.eq_2] at hf
      refine lv_iload hx hb dX4_paint_13 (lv_at hl 4 rfl) ?_
      refine lv_iload_n hx hb dX4_paint_15 rfl (lv_at hl 3 rfl) ?_
      refine xicmp_ge hx hb 73 dX4_paint_16 (by decide) hf (fun hf => ?_) (fun hf => ?_)
      · refine lv_iconst (v := (0 : Int32)) hx hb dX4_paint_73 (by decide) ?_
        cases hf
        exact mret_z hx hb hr hlocks hP hD hS dX4_paint_74 rfl rfl
      · refine lv_iload hx hb dX4_paint_19 (lv_at hl 4 rfl) ?_
        refine lv_iload_n hx hb dX4_paint_21 rfl (lv_at hl 2 rfl) ?_
        refine xicmp_gt hx hb 73 dX4_paint_22 (by decide) hf (fun hf => ?_) (fun hf => ?_)
        · refine lv_iconst (v := (0 : Int32)) hx hb dX4_paint_73 (by decide) ?_
          cases hf
          exact mret_z hx hb hr hlocks hP hD hS dX4_paint_74 rfl rfl
        · refine lv_aload_n hx hb dX4_paint_25 rfl (lv_at hl 0 rfl) ?_
          refine lv_iload_n hx hb dX4_paint_26 rfl (lv_at hl 1 rfl) ?_
          refine lv_iload hx hb dX4_paint_27 (lv_at hl 4 rfl) ?_
          obtain ⟨r29, hg29, hf⟩ := ob1_some hf
          refine mcV1_i (As := [.int x1, .int x4]) (rest := []) hx hb hml hown hts hK hP hD hS hA (k_X4_fits l N D cI cJ cZ cB cT qn0 qn2 qn3 qn1 qn4 qn5 qn6 n_calls n_bord n_rep n_unl n_pay n_ul n_ow x1 x4 r29 hg29) (kwX4_60 hts rfl rfl ⟨by dsimp only; omega, by dsimp only; omega⟩) 0 rfl rfl rfl rfl hl.1 rfl (Nat.le_of_ble_eq_true rfl) dX4_paint_29 ⟨Nat.zero_le _, Nat.zero_le _⟩ (fun hB29 H locs hP hD hS => ?_)
          have hP : va_P D vwCl (W_N_0_2t3 qn0 qn2 qn3 qn1 qn4 qn5 qn6 cI cJ cZ cB cT n_calls n_bord n_rep n_unl n_pay n_ul n_ow) H := hP
          have hD : va_D A (W_N_0_2t3 qn0 qn2 qn3 qn1 qn4 qn5 qn6 cI cJ cZ cB cT n_calls n_bord n_rep n_unl n_pay n_ul n_ow) := hD
          refine xif_ne hx hb 38 dX4_paint_32 (by decide) hf (fun hf => ?_) (fun hf => ?_)
          · refine lv_goto (tgt := 67) hx hb dX4_paint_35 (by decide) ?_
            exact b67 n_ow x1 x2 x3 x4 _ _ _ hf hP hD hS (lv_sub hl [0, 1, 2, 3, 4] rfl)
          · refine lv_aload_n hx hb dX4_paint_38 rfl (lv_at hl 0 rfl) ?_
            refine gfX4_34 hx hb hts hown hK hP 0 rfl rfl dX4_paint_39 ?_
            refine lv_iload_n hx hb dX4_paint_42 rfl (lv_at hl 1 rfl) ?_
            refine lv_iload hx hb dX4_paint_43 (lv_at hl 4 rfl) ?_
            refine xiast hx hb hK hP hD hS 2 0 rfl rfl dX4_paint_45 hf (fun n_ow_45 hf H locs hP hD hS => ?_)
            have hP : va_P D vwCl (W_N_0_2t3 qn0 qn2 qn3 qn1 qn4 qn5 qn6 cI cJ cZ cB cT n_calls n_bord n_rep n_unl n_pay n_ul n_ow_45) H := hP
            have hD : va_D A (W_N_0_2t3 qn0 qn2 qn3 qn1 qn4 qn5 qn6 cI cJ cZ cB cT n_calls n_bord n_rep n_unl n_pay n_ul n_ow_45) := hD
            refine lv_aload_n hx hb dX4_paint_46 rfl (lv_at hl 0 rfl) ?_
            refine lv_iload_n hx hb dX4_paint_47 rfl (lv_at hl 1 rfl) ?_
            refine lv_iconst (v := (1 : Int32)) hx hb dX4_paint_48 (by decide) ?_
            refine lv_iadd hx hb dX4_paint_49 ?_
            refine lv_iload_n hx hb dX4_paint_50 rfl (lv_at hl 2 rfl) ?_
            refine lv_iload hx hb dX4_paint_51 (lv_at hl 4 rfl) ?_
            refine lv_iconst (v := (1 : Int32)) hx hb dX4_paint_53 (by decide) ?_
            refine lv_iadd hx hb dX4_paint_54 ?_
            refine xmax hx hb hml hl.1 hown hts mtX4_64 (by dsimp only; omega) (by simp [Value.category]; omega) ⟨Nat.zero_le _, Nat.zero_le _⟩ dX4_paint_55 ?_
            refine lv_iload_n hx hb dX4_paint_58 rfl (lv_at hl 3 rfl) ?_
            obtain ⟨r59, n_ow_59, hg59, hf⟩ := ob2_some hf
            refine mcV1_i (As := [.int (x1 + (1 : Int32)), .int (mxI x2 (x4 + (1 : Int32))), .int x3]) (rest := []) hx hb hml hown hts hK hP hD hS hA (hg_0 n_calls n_bord n_rep n_unl n_pay n_ul n_ow_45 (x1 + (1 : Int32)) (mxI x2 (x4 + (1 : Int32))) x3 r59 n_ow_59 hg59) (kwX4_56 hts rfl rfl ⟨by dsimp only; omega, by dsimp only; omega⟩) 0 rfl rfl rfl rfl hl.1 rfl (Nat.le_of_ble_eq_true rfl) dX4_paint_59 ⟨Nat.zero_le _, Nat.zero_le _⟩ (fun hB59 H locs hP hD hS => ?_)
            have hP : va_P D vwCl (W_N_0_2t3 qn0 qn2 qn3 qn1 qn4 qn5 qn6 cI cJ cZ cB cT n_calls n_bord n_rep n_unl n_pay n_ul n_ow_59) H := hP
            have hD : va_D A (W_N_0_2t3 qn0 qn2 qn3 qn1 qn4 qn5 qn6 cI cJ cZ cB cT n_calls n_bord n_rep n_unl n_pay n_ul n_ow_59) := hD
            refine xif_eq hx hb 67 dX4_paint_62 (by decide) hf (fun hf => ?_) (fun hf => ?_)
            · exact b67 n_ow_59 x1 x2 x3 x4 _ _ _ hf hP hD hS (lv_sub hl [0, 1, 2, 3, 4] rfl)
            · refine lv_iconst (v := (1 : Int32)) hx hb dX4_paint_65 (by decide) ?_
              cases hf
              exact mret_z hx hb hr hlocks hP hD hS dX4_paint_66 rfl rfl
  unfold f_X4_paintB at hf
  refine lv_aload_n hx hb dX4_paint_0 rfl (lv_at hl 0 rfl) ?_
  refine lv_iload_n hx hb dX4_paint_1 rfl (lv_at hl 1 rfl) ?_
  obtain ⟨r2, hg2, hf⟩ := ob1_some hf
  refine mcV_i (wr := [(qn2, .inl (cI, 8, .inl n_ul)), (qn3, .inl (cI, 8, .inl n_ow))]) (As := [.int p1]) (rest := []) hx hb hml hown hts hK hP hD hS hA (k_X4_reported l N D cI cJ cZ cB cT qn0 qn1 qn2 qn3 qn4 qn5 qn6 n_calls n_bord n_rep n_unl n_pay p1 r2 hg2) (kwX4_52 hts rfl rfl ⟨by dsimp only; omega, by dsimp only; omega⟩) [0] [1, 2] rfl rfl rfl (by decide) rfl 0 rfl rfl rfl rfl hl.1 rfl (Nat.le_of_ble_eq_true rfl) dX4_paint_2 ⟨Nat.zero_le _, Nat.zero_le _⟩ (fun hB2 H locs hP hD hS => ?_)
  have hP := mP_sub (wc := (W_N_0_2t3 qn0 qn2 qn3 qn1 qn4 qn5 qn6 cI cJ cZ cB cT n_calls n_bord n_rep n_unl n_pay n_ul n_ow)) hP [2, 0, 1] rfl
  have hD := hD.sub (ws' := (W_N_0_2t3 qn0 qn2 qn3 qn1 qn4 qn5 qn6 cI cJ cZ cB cT n_calls n_bord n_rep n_unl n_pay n_ul n_ow)) [2, 0, 1] rfl rfl
  refine xif_ne hx hb 10 dX4_paint_5 (by decide) hf (fun hf => ?_) (fun hf => ?_)
  · refine lv_iconst (v := (1 : Int32)) hx hb dX4_paint_8 (by decide) ?_
    cases hf
    exact mret_z hx hb hr hlocks hP hD hS dX4_paint_9 rfl rfl
  · refine lv_iconst (v := (0 : Int32)) hx hb dX4_paint_10 (by decide) ?_
    refine lv_istore (lv' := [(4, .int (0 : Int32)), (0, .ref qn0), (1, .int p1), (2, .int p2), (3, .int p3)]) hx hb dX4_paint_11 hl (by decide) rfl (fun ls hl => ?_)
    exact b13 N n_ow p1 p2 p3 (0 : Int32) _ _ _ hf hP hD hS (lv_sub hl [1, 2, 3, 4, 0] rfl)
theorem kg_PG (l : Launch) (N : Nat) (D : va_G) (cI cJ cZ cB cT : ClassId) (qn0 : Nat) (qn2 : Nat) (qn3 : Nat) (qn1 : Nat) (qn4 : Nat) (qn5 : Nat) (qn6 : Nat) : ∀ d : Nat, PG_ok l N D cI cJ cZ cB cT qn0 qn2 qn3 qn1 qn4 qn5 qn6 d 0 yX4_paint cX4_paint 5 := by
  intro d
  induction d with
  | zero => exact (fun n_calls n_bord n_rep n_unl n_pay n_ul n_ow p1 p2 p3 o_r o_n_ow hf => by simp [f_PG] at hf)
  | succ d ih =>
    have hg_0 := ih
    exact fun n_calls n_bord n_rep n_unl n_pay n_ul n_ow p1 p2 p3 o_r o_n_ow hf => k_X4_paintB l N D cI cJ cZ cB cT qn0 qn2 qn3 qn1 qn4 qn5 qn6 d hg_0 n_calls n_bord n_rep n_unl n_pay n_ul n_ow p1 p2 p3 o_r o_n_ow hf
def f_X4_paint (N : Nat) (n_rep : Int32) (n_ul : Nat → Int32) (n_ow : Nat → Int32) (p1 : Int32) (p2 : Int32) (p3 : Int32) : Option (Int32 × (Nat → Int32)) := f_PG N 12 0 n_rep n_ul n_ow p1 p2 p3
theorem k_X4_paint (l : Launch) (N : Nat) (D : va_G) (cI cJ cZ cB cT : ClassId) (qn0 : Nat) (qn2 : Nat) (qn3 : Nat) (qn1 : Nat) (qn4 : Nat) (qn5 : Nat) (qn6 : Nat) (n_calls : Int32) (n_bord : Int32) (n_rep : Int32) (n_unl : Int32) (n_pay : Int32) (n_ul : Nat → Int32) (n_ow : Nat → Int32) (p1 : Int32) (p2 : Int32) (p3 : Int32) (o_r : Int32) (o_n_ow : Nat → Int32) (hf : f_X4_paint N n_rep n_ul n_ow p1 p2 p3 = some (o_r, o_n_ow)) : ∀ sz, Met l yX4_paint (mw yX4_paint cX4_paint 5 (some .boolean)) ({ frames := 16, cells := 0, slots := 0, locals := 580 } : Room) (mPre D (mT cI cJ cZ cB cT) (W_N_0_2t3 qn0 qn2 qn3 qn1 qn4 qn5 qn6 cI cJ cZ cB cT n_calls n_bord n_rep n_unl n_pay n_ul n_ow) sz [.ref qn0, .int p1, .int p2, .int p3]) ((mQi D (W_N_0_2t3 qn0 qn2 qn3 qn1 qn4 qn5 qn6 cI cJ cZ cB cT n_calls n_bord n_rep n_unl n_pay n_ul o_n_ow) o_r (mB o_r)) (va_A (W_N_0_2t3 qn0 qn2 qn3 qn1 qn4 qn5 qn6 cI cJ cZ cB cT n_calls n_bord n_rep n_unl n_pay n_ul n_ow) sz)) 0 0 (va_A (W_N_0_2t3 qn0 qn2 qn3 qn1 qn4 qn5 qn6 cI cJ cZ cB cT n_calls n_bord n_rep n_unl n_pay n_ul n_ow) sz) :=
  (kg_PG l N D cI cJ cZ cB cT qn0 qn2 qn3 qn1 qn4 qn5 qn6 12) n_calls n_bord n_rep n_unl n_pay n_ul n_ow p1 p2 p3 o_r o_n_ow hf
theorem dX4_paintFewest_0 : decode cX4_paintFewest 0 = .ok (.iconst 0, 1) := by decide +kernel
theorem dX4_paintFewest_1 : decode cX4_paintFewest 1 = .ok (.istore_n 1, 1) := by decide +kernel
theorem dX4_paintFewest_2 : decode cX4_paintFewest 2 = .ok (.iload_n 1, 1) := by decide +kernel
theorem dX4_paintFewest_3 : decode cX4_paintFewest 3 = .ok (.aload_n 0, 1) := by decide +kernel
theorem dX4_paintFewest_4 : decode cX4_paintFewest 4 = .ok (.getfield 18, 3) := by decide +kernel
theorem dX4_paintFewest_7 : decode cX4_paintFewest 7 = .ok (.if_icmp .gt 21, 3) := by decide +kernel
theorem dX4_paintFewest_10 : decode cX4_paintFewest 10 = .ok (.aload_n 0, 1) := by decide +kernel
theorem dX4_paintFewest_11 : decode cX4_paintFewest 11 = .ok (.iconst 0, 1) := by decide +kernel
theorem dX4_paintFewest_12 : decode cX4_paintFewest 12 = .ok (.iconst 0, 1) := by decide +kernel
theorem dX4_paintFewest_13 : decode cX4_paintFewest 13 = .ok (.iload_n 1, 1) := by decide +kernel
theorem dX4_paintFewest_14 : decode cX4_paintFewest 14 = .ok (.invokevirtual 56, 3) := by decide +kernel
theorem dX4_paintFewest_17 : decode cX4_paintFewest 17 = .ok (.ifCond .eq 5, 3) := by decide +kernel
theorem dX4_paintFewest_20 : decode cX4_paintFewest 20 = .ok (.iload_n 1, 1) := by decide +kernel
theorem dX4_paintFewest_21 : decode cX4_paintFewest 21 = .ok (.ireturn, 1) := by decide +kernel
theorem dX4_paintFewest_22 : decode cX4_paintFewest 22 = .ok (.iinc 1 1, 3) := by decide +kernel
theorem dX4_paintFewest_25 : decode cX4_paintFewest 25 = .ok (.goto (-23), 3) := by decide +kernel
theorem dX4_paintFewest_28 : decode cX4_paintFewest 28 = .ok (.aload_n 0, 1) := by decide +kernel
theorem dX4_paintFewest_29 : decode cX4_paintFewest 29 = .ok (.getfield 18, 3) := by decide +kernel
theorem dX4_paintFewest_32 : decode cX4_paintFewest 32 = .ok (.ireturn, 1) := by decide +kernel
def f_X4_paintFewest_2 (N : Nat) : Nat → Int32 → (Nat → Int32) → (Nat → Int32) → Int32 → Option (Int32 × (Nat → Int32))
  | 0, _, _, _, _ => none
  | n + 1, n_rep, n_ul, n_ow, x1 => if n_rep < x1 then (some (n_rep, n_ow)) else (ob2 (f_X4_paint N n_rep n_ul n_ow (0 : Int32) (0 : Int32) x1) fun r14 n_ow_14 => if r14 = 0 then ((f_X4_paintFewest_2 N n) n_rep n_ul n_ow_14 (x1 + (1 : Int32))) else (some (x1, n_ow_14)))
def f_X4_paintFewest (N : Nat) (n_rep : Int32) (n_ul : Nat → Int32) (n_ow : Nat → Int32) : Option (Int32 × (Nat → Int32)) := f_X4_paintFewest_2 N N n_rep n_ul n_ow (0 : Int32)
set_option maxHeartbeats 4000000 in
set_option maxRecDepth 100000 in
theorem k_X4_paintFewest (l : Launch) (N : Nat) (D : va_G) (cI cJ cZ cB cT : ClassId) (qn0 : Nat) (qn2 : Nat) (qn3 : Nat) (qn1 : Nat) (qn4 : Nat) (qn5 : Nat) (qn6 : Nat) (n_calls : Int32) (n_bord : Int32) (n_rep : Int32) (n_unl : Int32) (n_pay : Int32) (n_ul : Nat → Int32) (n_ow : Nat → Int32) (o_r : Int32) (o_n_ow : Nat → Int32) (hf : f_X4_paintFewest N n_rep n_ul n_ow = some (o_r, o_n_ow)) : ∀ sz, Met l yX4_paintFewest (mw yX4_paintFewest cX4_paintFewest 2 (some .int)) ({ frames := 17, cells := 0, slots := 0, locals := 604 } : Room) (mPre D (mT cI cJ cZ cB cT) (W_N_0_2t3 qn0 qn2 qn3 qn1 qn4 qn5 qn6 cI cJ cZ cB cT n_calls n_bord n_rep n_unl n_pay n_ul n_ow) sz [.ref qn0]) ((mQi D (W_N_0_2t3 qn0 qn2 qn3 qn1 qn4 qn5 qn6 cI cJ cZ cB cT n_calls n_bord n_rep n_unl n_pay n_ul o_n_ow) o_r True) (va_A (W_N_0_2t3 qn0 qn2 qn3 qn1 qn4 qn5 qn6 cI cJ cZ cB cT n_calls n_bord n_rep n_unl n_pay n_ul n_ow) sz)) 0 0 (va_A (W_N_0_2t3 qn0 qn2 qn3 qn1 qn4 qn5 qn6 cI cJ cZ cB cT n_calls n_bord n_rep n_unl n_pay n_ul n_ow) sz) := by
  refine mMet (Qc := (mQi D (W_N_0_2t3 qn0 qn2 qn3 qn1 qn4 qn5 qn6 cI cJ cZ cB cT n_calls n_bord n_rep n_unl n_pay n_ul o_n_ow) o_r True)) (by decide) (Nat.le_of_ble_eq_true rfl) (fun p e s m below meth c A ls hx hb hr hml hts hown hlocks hK hA hP hD hl => ?_)
  have hown : s.vm.findClass RX4 = some m.cls := hown
  have hl : lv_has ls 2 [(0, .ref qn0)] := hl
  have hS : va_S A s.heap s.heap [] := va_S.rf
  have b2 : ∀ n2 : Nat, ∀ (n_ow : Nat → Int32) (x1 : Int32) (H : Heap) (locs : List Loc) (ls : Array Slot), f_X4_paintFewest_2 N n2 n_rep n_ul n_ow x1 = some (o_r, o_n_ow) → va_P D vwCl (W_N_0_2t3 qn0 qn2 qn3 qn1 qn4 qn5 qn6 cI cJ cZ cB cT n_calls n_bord n_rep n_unl n_pay n_ul n_ow) H → va_D A (W_N_0_2t3 qn0 qn2 qn3 qn1 qn4 qn5 qn6 cI cJ cZ cB cT n_calls n_bord n_rep n_unl n_pay n_ul n_ow) → va_S A s.heap H locs → lv_has ls 2 [(0, .ref qn0), (1, .int x1)] → W p l e ({ frames := 17, cells := 0, slots := 0, locals := 604 } : Room) s m ([.ref qn0] : List Value).toArray below meth c H locs 0 0 (MQ below ((mQi D (W_N_0_2t3 qn0 qn2 qn3 qn1 qn4 qn5 qn6 cI cJ cZ cB cT n_calls n_bord n_rep n_unl n_pay n_ul o_n_ow) o_r True) A) ([.ref qn0] : List Value).toArray s 0 0 A) (F0 m 2 ls []) := by
    intro n2
    induction n2 with
    | zero =>
      intro n_ow x1 H locs ls hf hP hD hS hl
      simp [f_X4_paintFewest_2] at hf
    | succ n2 ih2 =>
      intro n_ow x1 H locs ls hf hP hD hS hl
      rw [f_X4_paintFewest_2.eq_2] at hf
      refine lv_iload_n hx hb dX4_paintFewest_2 rfl (lv_at hl 1 rfl) ?_
      refine lv_aload_n hx hb dX4_paintFewest_3 rfl (lv_at hl 0 rfl) ?_
      refine gfX4_18 hx hb hts hown hK hP 0 rfl rfl dX4_paintFewest_4 ?_
      refine xicmp_gt hx hb 28 dX4_paintFewest_7 (by decide) hf (fun hf => ?_) (fun hf => ?_)
      · refine lv_aload_n hx hb dX4_paintFewest_28 rfl (lv_at hl 0 rfl) ?_
        refine gfX4_18 hx hb hts hown hK hP 0 rfl rfl dX4_paintFewest_29 ?_
        cases hf
        exact mret_i hx hb hr hlocks hP hD hS dX4_paintFewest_32 rfl trivial
      · refine lv_aload_n hx hb dX4_paintFewest_10 rfl (lv_at hl 0 rfl) ?_
        refine lv_iconst (v := (0 : Int32)) hx hb dX4_paintFewest_11 (by decide) ?_
        refine lv_iconst (v := (0 : Int32)) hx hb dX4_paintFewest_12 (by decide) ?_
        refine lv_iload_n hx hb dX4_paintFewest_13 rfl (lv_at hl 1 rfl) ?_
        obtain ⟨r14, n_ow_14, hg14, hf⟩ := ob2_some hf
        refine mcV1_i (As := [.int (0 : Int32), .int (0 : Int32), .int x1]) (rest := []) hx hb hml hown hts hK hP hD hS hA (k_X4_paint l N D cI cJ cZ cB cT qn0 qn2 qn3 qn1 qn4 qn5 qn6 n_calls n_bord n_rep n_unl n_pay n_ul n_ow (0 : Int32) (0 : Int32) x1 r14 n_ow_14 hg14) (kwX4_56 hts rfl rfl ⟨Nat.le_of_ble_eq_true rfl, Nat.le_of_ble_eq_true rfl⟩) 0 rfl rfl rfl rfl hl.1 rfl (Nat.le_of_ble_eq_true rfl) dX4_paintFewest_14 ⟨Nat.zero_le _, Nat.zero_le _⟩ (fun hB14 H locs hP hD hS => ?_)
        have hP : va_P D vwCl (W_N_0_2t3 qn0 qn2 qn3 qn1 qn4 qn5 qn6 cI cJ cZ cB cT n_calls n_bord n_rep n_unl n_pay n_ul n_ow_14) H := hP
        have hD : va_D A (W_N_0_2t3 qn0 qn2 qn3 qn1 qn4 qn5 qn6 cI cJ cZ cB cT n_calls n_bord n_rep n_unl n_pay n_ul n_ow_14) := hD
        refine xif_eq hx hb 22 dX4_paintFewest_17 (by decide) hf (fun hf => ?_) (fun hf => ?_)
        · refine lv_iinc (v := (x1 + (1 : Int32))) (lv' := [(1, .int (x1 + (1 : Int32))), (0, .ref qn0)]) hx hb dX4_paintFewest_22 hl (k := 1) rfl rfl (by decide) rfl (fun ls hl => ?_)
          refine lv_goto (tgt := 2) hx hb dX4_paintFewest_25 (by decide) ?_
          exact ih2 n_ow_14 (x1 + (1 : Int32)) _ _ _ hf hP hD hS (lv_sub hl [1, 0] rfl)
        · refine lv_iload_n hx hb dX4_paintFewest_20 rfl (lv_at hl 1 rfl) ?_
          cases hf
          exact mret_i hx hb hr hlocks hP hD hS dX4_paintFewest_21 rfl trivial
  unfold f_X4_paintFewest at hf
  refine lv_iconst (v := (0 : Int32)) hx hb dX4_paintFewest_0 (by decide) ?_
  refine lv_istore_n (lv' := [(1, .int (0 : Int32)), (0, .ref qn0)]) hx hb dX4_paintFewest_1 rfl hl (by decide) rfl (fun ls hl => ?_)
  exact b2 N n_ow (0 : Int32) _ _ _ hf hP hD hS (lv_sub hl [1, 0] rfl)
theorem dX5_token_0 : decode cX5_token 0 = .ok (.aload_n 0, 1) := by decide +kernel
theorem dX5_token_1 : decode cX5_token 1 = .ok (.getfield 28, 3) := by decide +kernel
theorem dX5_token_4 : decode cX5_token 4 = .ok (.aload_n 0, 1) := by decide +kernel
theorem dX5_token_5 : decode cX5_token 5 = .ok (.getfield 22, 3) := by decide +kernel
theorem dX5_token_8 : decode cX5_token 8 = .ok (.invokevirtual 50, 3) := by decide +kernel
theorem dX5_token_11 : decode cX5_token 11 = .ok (.ireturn, 1) := by decide +kernel
def f_X5_token (N : Nat) (b_tok : Int32) (b_ki : Nat → Int32) (e_at : Int32) : Option (Int32) := ob1 (f_X8_kind N b_tok b_ki e_at) fun r8 => some r8
set_option maxHeartbeats 4000000 in
set_option maxRecDepth 100000 in
theorem k_X5_token (l : Launch) (N : Nat) (D : va_G) (cI cJ cZ cB cT : ClassId) (qb0 : Nat) (qb2 : Nat) (qe0 : Nat) (qb1 : Nat) (qb3 : Nat) (qb4 : Nat) (qx0 : Nat) (b_len : Int32) (b_tok : Int32) (b_ki : Nat → Int32) (e_fault : Int32) (e_place : Int32) (e_at : Int32) (e_law : Int32) (o_r : Int32) (hf : f_X5_token N b_tok b_ki e_at = some o_r) : ∀ sz, Met l yX5_token (mw yX5_token cX5_token 1 (some .int)) ({ frames := 1, cells := 0, slots := 0, locals := 21 } : Room) (mPre D (mT cI cJ cZ cB cT) (W_RD_0_2_10 qb0 qb2 qe0 qb1 qb3 qb4 qx0 cI cJ cZ cB cT b_len b_tok b_ki e_fault e_place e_at e_law) sz [.ref qe0]) ((mQi D (W_RD_0_2_10 qb0 qb2 qe0 qb1 qb3 qb4 qx0 cI cJ cZ cB cT b_len b_tok b_ki e_fault e_place e_at e_law) o_r True) (va_A (W_RD_0_2_10 qb0 qb2 qe0 qb1 qb3 qb4 qx0 cI cJ cZ cB cT b_len b_tok b_ki e_fault e_place e_at e_law) sz)) 0 0 (va_A (W_RD_0_2_10 qb0 qb2 qe0 qb1 qb3 qb4 qx0 cI cJ cZ cB cT b_len b_tok b_ki e_fault e_place e_at e_law) sz) := by
  refine mMet (Qc := (mQi D (W_RD_0_2_10 qb0 qb2 qe0 qb1 qb3 qb4 qx0 cI cJ cZ cB cT b_len b_tok b_ki e_fault e_place e_at e_law) o_r True)) (by decide) (Nat.le_of_ble_eq_true rfl) (fun p e s m below meth c A ls hx hb hr hml hts hown hlocks hK hA hP hD hl => ?_)
  have hown : s.vm.findClass RX5 = some m.cls := hown
  have hl : lv_has ls 1 [(0, .ref qe0)] := hl
  have hS : va_S A s.heap s.heap [] := va_S.rf
  unfold f_X5_token at hf
  refine lv_aload_n hx hb dX5_token_0 rfl (lv_at hl 0 rfl) ?_
  refine gfX5_28 hx hb hts hown hK hP 2 rfl rfl dX5_token_1 ?_
  refine lv_aload_n hx hb dX5_token_4 rfl (lv_at hl 0 rfl) ?_
  refine gfX5_22 hx hb hts hown hK hP 2 rfl rfl dX5_token_5 ?_
  obtain ⟨r8, hg8, hf⟩ := ob1_some hf
  refine mcV_i (wr := [(qe0, .inr (5, [.int e_fault, .int e_place, .ref qb0, .ref qx0, .int e_at, .int e_law]))]) (As := [.int e_at]) (rest := []) hx hb hml hown hts hK hP hD hS hA (k_X8_kind l N D cI cJ cZ cB cT qb0 qb2 qb1 qb3 qb4 b_len b_tok b_ki e_at r8 hg8) (kwX5_50 hts rfl rfl ⟨Nat.le_of_ble_eq_true rfl, Nat.le_of_ble_eq_true rfl⟩) [0, 1] [2] rfl rfl rfl (by decide) rfl 0 rfl rfl rfl rfl hl.1 rfl (Nat.le_of_ble_eq_true rfl) dX5_token_8 ⟨Nat.zero_le _, Nat.zero_le _⟩ (fun hB8 H locs hP hD hS => ?_)
  have hP := mP_sub (wc := (W_RD_0_2_10 qb0 qb2 qe0 qb1 qb3 qb4 qx0 cI cJ cZ cB cT b_len b_tok b_ki e_fault e_place e_at e_law)) hP [1, 2, 0] rfl
  have hD := hD.sub (ws' := (W_RD_0_2_10 qb0 qb2 qe0 qb1 qb3 qb4 qx0 cI cJ cZ cB cT b_len b_tok b_ki e_fault e_place e_at e_law)) [1, 2, 0] rfl rfl
  cases hf
  exact mret_i hx hb hr hlocks hP hD hS dX5_token_11 rfl trivial
theorem dX5_next_0 : decode cX5_next 0 = .ok (.aload_n 0, 1) := by decide +kernel
theorem dX5_next_1 : decode cX5_next 1 = .ok (.getfield 22, 3) := by decide +kernel
theorem dX5_next_4 : decode cX5_next 4 = .ok (.aload_n 0, 1) := by decide +kernel
theorem dX5_next_5 : decode cX5_next 5 = .ok (.getfield 28, 3) := by decide +kernel
theorem dX5_next_8 : decode cX5_next 8 = .ok (.getfield 54, 3) := by decide +kernel
theorem dX5_next_11 : decode cX5_next 11 = .ok (.iconst 1, 1) := by decide +kernel
theorem dX5_next_12 : decode cX5_next 12 = .ok (.isub, 1) := by decide +kernel
theorem dX5_next_13 : decode cX5_next 13 = .ok (.if_icmp .ge 13, 3) := by decide +kernel
theorem dX5_next_16 : decode cX5_next 16 = .ok (.aload_n 0, 1) := by decide +kernel
theorem dX5_next_17 : decode cX5_next 17 = .ok (.dup, 1) := by decide +kernel
theorem dX5_next_18 : decode cX5_next 18 = .ok (.getfield 22, 3) := by decide +kernel
theorem dX5_next_21 : decode cX5_next 21 = .ok (.iconst 1, 1) := by decide +kernel
theorem dX5_next_22 : decode cX5_next 22 = .ok (.iadd, 1) := by decide +kernel
theorem dX5_next_23 : decode cX5_next 23 = .ok (.putfield 22, 3) := by decide +kernel
theorem dX5_next_26 : decode cX5_next 26 = .ok (.return_, 1) := by decide +kernel
def f_X5_next (N : Nat) (b_tok : Int32) (e_at : Int32) : Option (Int32) := if (b_tok - (1 : Int32)) ≤ e_at then (some e_at) else (some (e_at + (1 : Int32)))
set_option maxHeartbeats 4000000 in
set_option maxRecDepth 100000 in
theorem k_X5_next (l : Launch) (N : Nat) (D : va_G) (cI cJ cZ cB cT : ClassId) (qb0 : Nat) (qe0 : Nat) (qb1 : Nat) (qb2 : Nat) (qb3 : Nat) (qb4 : Nat) (qx0 : Nat) (b_len : Int32) (b_tok : Int32) (e_fault : Int32) (e_place : Int32) (e_at : Int32) (e_law : Int32) (o_e_at : Int32) (hf : f_X5_next N b_tok e_at = some o_e_at) : ∀ sz, Met l yX5_next (mw yX5_next cX5_next 1 none) ({ frames := 0, cells := 0, slots := 0, locals := 0 } : Room) (mPre D (mT cI cJ cZ cB cT) (W_RD_0_10 qb0 qe0 qb1 qb2 qb3 qb4 qx0 cI cJ cZ cB cT b_len b_tok e_fault e_place e_at e_law) sz [.ref qe0]) ((mQv D (W_RD_0_10 qb0 qe0 qb1 qb2 qb3 qb4 qx0 cI cJ cZ cB cT b_len b_tok e_fault e_place o_e_at e_law)) (va_A (W_RD_0_10 qb0 qe0 qb1 qb2 qb3 qb4 qx0 cI cJ cZ cB cT b_len b_tok e_fault e_place e_at e_law) sz)) 0 0 (va_A (W_RD_0_10 qb0 qe0 qb1 qb2 qb3 qb4 qx0 cI cJ cZ cB cT b_len b_tok e_fault e_place e_at e_law) sz) := by
  refine mMet (Qc := (mQv D (W_RD_0_10 qb0 qe0 qb1 qb2 qb3 qb4 qx0 cI cJ cZ cB cT b_len b_tok e_fault e_place o_e_at e_law))) (by decide) (Nat.le_of_ble_eq_true rfl) (fun p e s m below meth c A ls hx hb hr hml hts hown hlocks hK hA hP hD hl => ?_)
  have hown : s.vm.findClass RX5 = some m.cls := hown
  have hl : lv_has ls 1 [(0, .ref qe0)] := hl
  have hS : va_S A s.heap s.heap [] := va_S.rf
  unfold f_X5_next at hf
  refine lv_aload_n hx hb dX5_next_0 rfl (lv_at hl 0 rfl) ?_
  refine gfX5_22 hx hb hts hown hK hP 1 rfl rfl dX5_next_1 ?_
  refine lv_aload_n hx hb dX5_next_4 rfl (lv_at hl 0 rfl) ?_
  refine gfX5_28 hx hb hts hown hK hP 1 rfl rfl dX5_next_5 ?_
  refine gfX5_54 hx hb hts hown hK hP 0 rfl rfl dX5_next_8 ?_
  refine lv_iconst (v := (1 : Int32)) hx hb dX5_next_11 (by decide) ?_
  refine lv_isub hx hb dX5_next_12 ?_
  refine xicmp_ge hx hb 26 dX5_next_13 (by decide) hf (fun hf => ?_) (fun hf => ?_)
  · cases hf
    exact mret_v hx hb hr hlocks hP hD hS dX5_next_26
  · refine lv_aload_n hx hb dX5_next_16 rfl (lv_at hl 0 rfl) ?_
    refine lv_dup hx hb dX5_next_17 rfl ?_
    refine gfX5_22 hx hb hts hown hK hP 1 rfl rfl dX5_next_18 ?_
    refine lv_iconst (v := (1 : Int32)) hx hb dX5_next_21 (by decide) ?_
    refine lv_iadd hx hb dX5_next_22 ?_
    refine pfX5_22 hx hb hts hown hK hP hD hS 1 rfl (Nat.le_of_ble_eq_true rfl) dX5_next_23 (fun H locs hP hD hS => ?_)
    have hP : va_P D vwCl (W_RD_0_10 qb0 qe0 qb1 qb2 qb3 qb4 qx0 cI cJ cZ cB cT b_len b_tok e_fault e_place (e_at + (1 : Int32)) e_law) H := hP
    have hD : va_D A (W_RD_0_10 qb0 qe0 qb1 qb2 qb3 qb4 qx0 cI cJ cZ cB cT b_len b_tok e_fault e_place (e_at + (1 : Int32)) e_law) := hD
    cases hf
    exact mret_v hx hb hr hlocks hP hD hS dX5_next_26
theorem dX5_fail_0 : decode cX5_fail 0 = .ok (.aload_n 0, 1) := by decide +kernel
theorem dX5_fail_1 : decode cX5_fail 1 = .ok (.iload_n 1, 1) := by decide +kernel
theorem dX5_fail_2 : decode cX5_fail 2 = .ok (.putfield 9, 3) := by decide +kernel
theorem dX5_fail_5 : decode cX5_fail 5 = .ok (.aload_n 0, 1) := by decide +kernel
theorem dX5_fail_6 : decode cX5_fail 6 = .ok (.aload_n 0, 1) := by decide +kernel
theorem dX5_fail_7 : decode cX5_fail 7 = .ok (.getfield 28, 3) := by decide +kernel
theorem dX5_fail_10 : decode cX5_fail 10 = .ok (.aload_n 0, 1) := by decide +kernel
theorem dX5_fail_11 : decode cX5_fail 11 = .ok (.getfield 22, 3) := by decide +kernel
theorem dX5_fail_14 : decode cX5_fail 14 = .ok (.invokevirtual 57, 3) := by decide +kernel
theorem dX5_fail_17 : decode cX5_fail 17 = .ok (.putfield 15, 3) := by decide +kernel
theorem dX5_fail_20 : decode cX5_fail 20 = .ok (.iconst 0, 1) := by decide +kernel
theorem dX5_fail_21 : decode cX5_fail 21 = .ok (.ireturn, 1) := by decide +kernel
def f_X5_fail (N : Nat) (b_len : Int32) (b_tok : Int32) (b_pl : Nat → Int32) (e_fault : Int32) (e_place : Int32) (e_at : Int32) (p1 : Int32) : Option (Int32 × Int32 × Int32) := ob1 (f_X8_place N b_len b_tok b_pl e_at) fun r14 => some ((0 : Int32), p1, r14)
set_option maxHeartbeats 4000000 in
set_option maxRecDepth 100000 in
theorem k_X5_fail (l : Launch) (N : Nat) (D : va_G) (cI cJ cZ cB cT : ClassId) (qb0 : Nat) (qb3 : Nat) (qe0 : Nat) (qb1 : Nat) (qb2 : Nat) (qb4 : Nat) (qx0 : Nat) (b_len : Int32) (b_tok : Int32) (b_pl : Nat → Int32) (e_fault : Int32) (e_place : Int32) (e_at : Int32) (e_law : Int32) (p1 : Int32) (o_r : Int32) (o_e_fault : Int32) (o_e_place : Int32) (hf : f_X5_fail N b_len b_tok b_pl e_fault e_place e_at p1 = some (o_r, o_e_fault, o_e_place)) : ∀ sz, Met l yX5_fail (mw yX5_fail cX5_fail 2 (some .boolean)) ({ frames := 1, cells := 0, slots := 0, locals := 21 } : Room) (mPre D (mT cI cJ cZ cB cT) (W_RD_0_3_10 qb0 qb3 qe0 qb1 qb2 qb4 qx0 cI cJ cZ cB cT b_len b_tok b_pl e_fault e_place e_at e_law) sz [.ref qe0, .int p1]) ((mQi D (W_RD_0_3_10 qb0 qb3 qe0 qb1 qb2 qb4 qx0 cI cJ cZ cB cT b_len b_tok b_pl o_e_fault o_e_place e_at e_law) o_r (mB o_r)) (va_A (W_RD_0_3_10 qb0 qb3 qe0 qb1 qb2 qb4 qx0 cI cJ cZ cB cT b_len b_tok b_pl e_fault e_place e_at e_law) sz)) 0 0 (va_A (W_RD_0_3_10 qb0 qb3 qe0 qb1 qb2 qb4 qx0 cI cJ cZ cB cT b_len b_tok b_pl e_fault e_place e_at e_law) sz) := by
  refine mMet (Qc := (mQi D (W_RD_0_3_10 qb0 qb3 qe0 qb1 qb2 qb4 qx0 cI cJ cZ cB cT b_len b_tok b_pl o_e_fault o_e_place e_at e_law) o_r (mB o_r))) (by decide) (Nat.le_of_ble_eq_true rfl) (fun p e s m below meth c A ls hx hb hr hml hts hown hlocks hK hA hP hD hl => ?_)
  have hown : s.vm.findClass RX5 = some m.cls := hown
  have hl : lv_has ls 2 [(0, .ref qe0), (1, .int p1)] := hl
  have hS : va_S A s.heap s.heap [] := va_S.rf
  unfold f_X5_fail at hf
  refine lv_aload_n hx hb dX5_fail_0 rfl (lv_at hl 0 rfl) ?_
  refine lv_iload_n hx hb dX5_fail_1 rfl (lv_at hl 1 rfl) ?_
  refine pfX5_9 hx hb hts hown hK hP hD hS 2 rfl (Nat.le_of_ble_eq_true rfl) dX5_fail_2 (fun H locs hP hD hS => ?_)
  have hP : va_P D vwCl (W_RD_0_3_10 qb0 qb3 qe0 qb1 qb2 qb4 qx0 cI cJ cZ cB cT b_len b_tok b_pl p1 e_place e_at e_law) H := hP
  have hD : va_D A (W_RD_0_3_10 qb0 qb3 qe0 qb1 qb2 qb4 qx0 cI cJ cZ cB cT b_len b_tok b_pl p1 e_place e_at e_law) := hD
  refine lv_aload_n hx hb dX5_fail_5 rfl (lv_at hl 0 rfl) ?_
  refine lv_aload_n hx hb dX5_fail_6 rfl (lv_at hl 0 rfl) ?_
  refine gfX5_28 hx hb hts hown hK hP 2 rfl rfl dX5_fail_7 ?_
  refine lv_aload_n hx hb dX5_fail_10 rfl (lv_at hl 0 rfl) ?_
  refine gfX5_22 hx hb hts hown hK hP 2 rfl rfl dX5_fail_11 ?_
  obtain ⟨r14, hg14, hf⟩ := ob1_some hf
  refine mcV_i (wr := [(qe0, .inr (5, [.int p1, .int e_place, .ref qb0, .ref qx0, .int e_at, .int e_law]))]) (As := [.int e_at]) (rest := [.ref qe0]) hx hb hml hown hts hK hP hD hS hA (k_X8_place l N D cI cJ cZ cB cT qb0 qb3 qb1 qb2 qb4 b_len b_tok b_pl e_at r14 hg14) (kwX5_57 hts rfl rfl ⟨Nat.le_of_ble_eq_true rfl, Nat.le_of_ble_eq_true rfl⟩) [0, 1] [2] rfl rfl rfl (by decide) rfl 0 rfl rfl rfl rfl hl.1 rfl (Nat.le_of_ble_eq_true rfl) dX5_fail_14 ⟨Nat.zero_le _, Nat.zero_le _⟩ (fun hB14 H locs hP hD hS => ?_)
  have hP := mP_sub (wc := (W_RD_0_3_10 qb0 qb3 qe0 qb1 qb2 qb4 qx0 cI cJ cZ cB cT b_len b_tok b_pl p1 e_place e_at e_law)) hP [1, 2, 0] rfl
  have hD := hD.sub (ws' := (W_RD_0_3_10 qb0 qb3 qe0 qb1 qb2 qb4 qx0 cI cJ cZ cB cT b_len b_tok b_pl p1 e_place e_at e_law)) [1, 2, 0] rfl rfl
  refine pfX5_15 hx hb hts hown hK hP hD hS 2 rfl (Nat.le_of_ble_eq_true rfl) dX5_fail_17 (fun H locs hP hD hS => ?_)
  have hP : va_P D vwCl (W_RD_0_3_10 qb0 qb3 qe0 qb1 qb2 qb4 qx0 cI cJ cZ cB cT b_len b_tok b_pl p1 r14 e_at e_law) H := hP
  have hD : va_D A (W_RD_0_3_10 qb0 qb3 qe0 qb1 qb2 qb4 qx0 cI cJ cZ cB cT b_len b_tok b_pl p1 r14 e_at e_law) := hD
  refine lv_iconst (v := (0 : Int32)) hx hb dX5_fail_20 (by decide) ?_
  cases hf
  exact mret_z hx hb hr hlocks hP hD hS dX5_fail_21 rfl rfl
theorem dX5_expect_0 : decode cX5_expect 0 = .ok (.aload_n 0, 1) := by decide +kernel
theorem dX5_expect_1 : decode cX5_expect 1 = .ok (.invokevirtual 42, 3) := by decide +kernel
theorem dX5_expect_4 : decode cX5_expect 4 = .ok (.iload_n 1, 1) := by decide +kernel
theorem dX5_expect_5 : decode cX5_expect 5 = .ok (.if_icmp .eq 9, 3) := by decide +kernel
theorem dX5_expect_8 : decode cX5_expect 8 = .ok (.aload_n 0, 1) := by decide +kernel
theorem dX5_expect_9 : decode cX5_expect 9 = .ok (.iconst 1, 1) := by decide +kernel
theorem dX5_expect_10 : decode cX5_expect 10 = .ok (.invokevirtual 59, 3) := by decide +kernel
theorem dX5_expect_13 : decode cX5_expect 13 = .ok (.ireturn, 1) := by decide +kernel
theorem dX5_expect_14 : decode cX5_expect 14 = .ok (.aload_n 0, 1) := by decide +kernel
theorem dX5_expect_15 : decode cX5_expect 15 = .ok (.invokevirtual 62, 3) := by decide +kernel
theorem dX5_expect_18 : decode cX5_expect 18 = .ok (.iconst 1, 1) := by decide +kernel
theorem dX5_expect_19 : decode cX5_expect 19 = .ok (.ireturn, 1) := by decide +kernel
def f_X5_expect (N : Nat) (b_len : Int32) (b_tok : Int32) (b_ki : Nat → Int32) (b_pl : Nat → Int32) (e_fault : Int32) (e_place : Int32) (e_at : Int32) (p1 : Int32) : Option (Int32 × Int32 × Int32 × Int32) := ob1 (f_X5_token N b_tok b_ki e_at) fun r1 => if r1 = p1 then (ob1 (f_X5_next N b_tok e_at) fun e_at_15 => some ((1 : Int32), e_fault, e_place, e_at_15)) else (ob3 (f_X5_fail N b_len b_tok b_pl e_fault e_place e_at (1 : Int32)) fun r10 e_fault_10 e_place_10 => some (r10, e_fault_10, e_place_10, e_at))
set_option maxHeartbeats 4000000 in
set_option maxRecDepth 100000 in
theorem k_X5_expect (l : Launch) (N : Nat) (D : va_G) (cI cJ cZ cB cT : ClassId) (qb0 : Nat) (qb2 : Nat) (qb3 : Nat) (qe0 : Nat) (qb1 : Nat) (qb4 : Nat) (qx0 : Nat) (b_len : Int32) (b_tok : Int32) (b_ki : Nat → Int32) (b_pl : Nat → Int32) (e_fault : Int32) (e_place : Int32) (e_at : Int32) (e_law : Int32) (p1 : Int32) (o_r : Int32) (o_e_fault : Int32) (o_e_place : Int32) (o_e_at : Int32) (hf : f_X5_expect N b_len b_tok b_ki b_pl e_fault e_place e_at p1 = some (o_r, o_e_fault, o_e_place, o_e_at)) : ∀ sz, Met l yX5_expect (mw yX5_expect cX5_expect 2 (some .boolean)) ({ frames := 2, cells := 0, slots := 0, locals := 42 } : Room) (mPre D (mT cI cJ cZ cB cT) (W_RD_0_2t3_10 qb0 qb2 qb3 qe0 qb1 qb4 qx0 cI cJ cZ cB cT b_len b_tok b_ki b_pl e_fault e_place e_at e_law) sz [.ref qe0, .int p1]) ((mQi D (W_RD_0_2t3_10 qb0 qb2 qb3 qe0 qb1 qb4 qx0 cI cJ cZ cB cT b_len b_tok b_ki b_pl o_e_fault o_e_place o_e_at e_law) o_r (mB o_r)) (va_A (W_RD_0_2t3_10 qb0 qb2 qb3 qe0 qb1 qb4 qx0 cI cJ cZ cB cT b_len b_tok b_ki b_pl e_fault e_place e_at e_law) sz)) 0 0 (va_A (W_RD_0_2t3_10 qb0 qb2 qb3 qe0 qb1 qb4 qx0 cI cJ cZ cB cT b_len b_tok b_ki b_pl e_fault e_place e_at e_law) sz) := by
  refine mMet (Qc := (mQi D (W_RD_0_2t3_10 qb0 qb2 qb3 qe0 qb1 qb4 qx0 cI cJ cZ cB cT b_len b_tok b_ki b_pl o_e_fault o_e_place o_e_at e_law) o_r (mB o_r))) (by decide) (Nat.le_of_ble_eq_true rfl) (fun p e s m below meth c A ls hx hb hr hml hts hown hlocks hK hA hP hD hl => ?_)
  have hown : s.vm.findClass RX5 = some m.cls := hown
  have hl : lv_has ls 2 [(0, .ref qe0), (1, .int p1)] := hl
  have hS : va_S A s.heap s.heap [] := va_S.rf
  unfold f_X5_expect at hf
  refine lv_aload_n hx hb dX5_expect_0 rfl (lv_at hl 0 rfl) ?_
  obtain ⟨r1, hg1, hf⟩ := ob1_some hf
  refine mcV_i (wr := [(qb3, .inl (cI, 301, .inl b_pl))]) (As := []) (rest := []) hx hb hml hown hts hK hP hD hS hA (k_X5_token l N D cI cJ cZ cB cT qb0 qb2 qe0 qb1 qb3 qb4 qx0 b_len b_tok b_ki e_fault e_place e_at e_law r1 hg1) (kwX5_42 hts rfl rfl ⟨Nat.le_of_ble_eq_true rfl, Nat.le_of_ble_eq_true rfl⟩) [0, 1, 3] [2] rfl rfl rfl (by decide) rfl 2 rfl rfl rfl rfl hl.1 rfl (Nat.le_of_ble_eq_true rfl) dX5_expect_1 ⟨Nat.zero_le _, Nat.zero_le _⟩ (fun hB1 H locs hP hD hS => ?_)
  have hP := mP_sub (wc := (W_RD_0_2t3_10 qb0 qb2 qb3 qe0 qb1 qb4 qx0 cI cJ cZ cB cT b_len b_tok b_ki b_pl e_fault e_place e_at e_law)) hP [1, 2, 0, 3] rfl
  have hD := hD.sub (ws' := (W_RD_0_2t3_10 qb0 qb2 qb3 qe0 qb1 qb4 qx0 cI cJ cZ cB cT b_len b_tok b_ki b_pl e_fault e_place e_at e_law)) [1, 2, 0, 3] rfl rfl
  refine lv_iload_n hx hb dX5_expect_4 rfl (lv_at hl 1 rfl) ?_
  refine xicmp_eq hx hb 14 dX5_expect_5 (by decide) hf (fun hf => ?_) (fun hf => ?_)
  · refine lv_aload_n hx hb dX5_expect_14 rfl (lv_at hl 0 rfl) ?_
    obtain ⟨e_at_15, hg15, hf⟩ := ob1_some hf
    refine mcV_v (wr := [(qb2, .inl (cI, 301, .inl b_ki)), (qb3, .inl (cI, 301, .inl b_pl))]) (As := []) (rest := []) hx hb hml hown hts hK hP hD hS hA (k_X5_next l N D cI cJ cZ cB cT qb0 qe0 qb1 qb2 qb3 qb4 qx0 b_len b_tok e_fault e_place e_at e_law e_at_15 hg15) (kwX5_62 hts rfl rfl ⟨Nat.le_of_ble_eq_true rfl, Nat.le_of_ble_eq_true rfl⟩) [0, 3] [1, 2] rfl rfl rfl (by decide) rfl 1 rfl rfl rfl rfl hl.1 rfl (Nat.le_of_ble_eq_true rfl) dX5_expect_15 ⟨Nat.zero_le _, Nat.zero_le _⟩ (fun H locs hP hD hS => ?_)
    have hP := mP_sub (wc := (W_RD_0_2t3_10 qb0 qb2 qb3 qe0 qb1 qb4 qx0 cI cJ cZ cB cT b_len b_tok b_ki b_pl e_fault e_place e_at_15 e_law)) hP [2, 0, 1, 3] rfl
    have hD := hD.sub (ws' := (W_RD_0_2t3_10 qb0 qb2 qb3 qe0 qb1 qb4 qx0 cI cJ cZ cB cT b_len b_tok b_ki b_pl e_fault e_place e_at_15 e_law)) [2, 0, 1, 3] rfl rfl
    refine lv_iconst (v := (1 : Int32)) hx hb dX5_expect_18 (by decide) ?_
    cases hf
    exact mret_z hx hb hr hlocks hP hD hS dX5_expect_19 rfl rfl
  · refine lv_aload_n hx hb dX5_expect_8 rfl (lv_at hl 0 rfl) ?_
    refine lv_iconst (v := (1 : Int32)) hx hb dX5_expect_9 (by decide) ?_
    obtain ⟨r10, e_fault_10, e_place_10, hg10, hf⟩ := ob3_some hf
    refine mcV_i (wr := [(qb2, .inl (cI, 301, .inl b_ki))]) (As := [.int (1 : Int32)]) (rest := []) hx hb hml hown hts hK hP hD hS hA (k_X5_fail l N D cI cJ cZ cB cT qb0 qb3 qe0 qb1 qb2 qb4 qx0 b_len b_tok b_pl e_fault e_place e_at e_law (1 : Int32) r10 e_fault_10 e_place_10 hg10) (kwX5_59 hts rfl rfl ⟨Nat.le_of_ble_eq_true rfl, Nat.le_of_ble_eq_true rfl⟩) [0, 2, 3] [1] rfl rfl rfl (by decide) rfl 2 rfl rfl rfl rfl hl.1 rfl (Nat.le_of_ble_eq_true rfl) dX5_expect_10 ⟨Nat.zero_le _, Nat.zero_le _⟩ (fun hB10 H locs hP hD hS => ?_)
    have hP := mP_sub (wc := (W_RD_0_2t3_10 qb0 qb2 qb3 qe0 qb1 qb4 qx0 cI cJ cZ cB cT b_len b_tok b_ki b_pl e_fault_10 e_place_10 e_at e_law)) hP [1, 0, 2, 3] rfl
    have hD := hD.sub (ws' := (W_RD_0_2t3_10 qb0 qb2 qb3 qe0 qb1 qb4 qx0 cI cJ cZ cB cT b_len b_tok b_ki b_pl e_fault_10 e_place_10 e_at e_law)) [1, 0, 2, 3] rfl rfl
    cases hf
    exact mret_z hx hb hr hlocks hP hD hS dX5_expect_13 rfl hB10
theorem dX5_number_0 : decode cX5_number 0 = .ok (.aload_n 0, 1) := by decide +kernel
theorem dX5_number_1 : decode cX5_number 1 = .ok (.invokevirtual 42, 3) := by decide +kernel
theorem dX5_number_4 : decode cX5_number 4 = .ok (.bipush 46, 2) := by decide +kernel
theorem dX5_number_6 : decode cX5_number 6 = .ok (.if_icmp .eq 9, 3) := by decide +kernel
theorem dX5_number_9 : decode cX5_number 9 = .ok (.aload_n 0, 1) := by decide +kernel
theorem dX5_number_10 : decode cX5_number 10 = .ok (.iconst 1, 1) := by decide +kernel
theorem dX5_number_11 : decode cX5_number 11 = .ok (.invokevirtual 59, 3) := by decide +kernel
theorem dX5_number_14 : decode cX5_number 14 = .ok (.ireturn, 1) := by decide +kernel
theorem dX5_number_15 : decode cX5_number 15 = .ok (.aload_n 0, 1) := by decide +kernel
theorem dX5_number_16 : decode cX5_number 16 = .ok (.getfield 28, 3) := by decide +kernel
theorem dX5_number_19 : decode cX5_number 19 = .ok (.aload_n 0, 1) := by decide +kernel
theorem dX5_number_20 : decode cX5_number 20 = .ok (.getfield 22, 3) := by decide +kernel
theorem dX5_number_23 : decode cX5_number 23 = .ok (.invokevirtual 91, 3) := by decide +kernel
theorem dX5_number_26 : decode cX5_number 26 = .ok (.istore_n 3, 1) := by decide +kernel
theorem dX5_number_27 : decode cX5_number 27 = .ok (.iload_n 3, 1) := by decide +kernel
theorem dX5_number_28 : decode cX5_number 28 = .ok (.iload_n 1, 1) := by decide +kernel
theorem dX5_number_29 : decode cX5_number 29 = .ok (.if_icmp .lt 8, 3) := by decide +kernel
theorem dX5_number_32 : decode cX5_number 32 = .ok (.iload_n 3, 1) := by decide +kernel
theorem dX5_number_33 : decode cX5_number 33 = .ok (.iload_n 2, 1) := by decide +kernel
theorem dX5_number_34 : decode cX5_number 34 = .ok (.if_icmp .le 9, 3) := by decide +kernel
theorem dX5_number_37 : decode cX5_number 37 = .ok (.aload_n 0, 1) := by decide +kernel
theorem dX5_number_38 : decode cX5_number 38 = .ok (.iconst 2, 1) := by decide +kernel
theorem dX5_number_39 : decode cX5_number 39 = .ok (.invokevirtual 59, 3) := by decide +kernel
theorem dX5_number_42 : decode cX5_number 42 = .ok (.ireturn, 1) := by decide +kernel
theorem dX5_number_43 : decode cX5_number 43 = .ok (.aload_n 0, 1) := by decide +kernel
theorem dX5_number_44 : decode cX5_number 44 = .ok (.getfield 18, 3) := by decide +kernel
theorem dX5_number_47 : decode cX5_number 47 = .ok (.iload_n 3, 1) := by decide +kernel
theorem dX5_number_48 : decode cX5_number 48 = .ok (.invokevirtual 93, 3) := by decide +kernel
theorem dX5_number_51 : decode cX5_number 51 = .ok (.aload_n 0, 1) := by decide +kernel
theorem dX5_number_52 : decode cX5_number 52 = .ok (.invokevirtual 62, 3) := by decide +kernel
theorem dX5_number_55 : decode cX5_number 55 = .ok (.iconst 1, 1) := by decide +kernel
theorem dX5_number_56 : decode cX5_number 56 = .ok (.ireturn, 1) := by decide +kernel
def f_X5_number_37 (N : Nat) (b_len : Int32) (b_tok : Int32) (b_ki : Nat → Int32) (b_pl : Nat → Int32) (b_nu : Nat → Int32) (x_cl : Int32) (x_pt : Int32) (x_rows : Nat → Int32) (e_fault : Int32) (e_place : Int32) (e_at : Int32) : Option (Int32 × Int32 × (Nat → Int32) × Int32 × Int32 × Int32) := ob3 (f_X5_fail N b_len b_tok b_pl e_fault e_place e_at (2 : Int32)) fun r39 e_fault_39 e_place_39 => some (r39, x_pt, x_rows, e_fault_39, e_place_39, e_at)
def f_X5_number (N : Nat) (b_len : Int32) (b_tok : Int32) (b_ki : Nat → Int32) (b_pl : Nat → Int32) (b_nu : Nat → Int32) (x_cl : Int32) (x_pt : Int32) (x_rows : Nat → Int32) (e_fault : Int32) (e_place : Int32) (e_at : Int32) (p1 : Int32) (p2 : Int32) : Option (Int32 × Int32 × (Nat → Int32) × Int32 × Int32 × Int32) := ob1 (f_X5_token N b_tok b_ki e_at) fun r1 => if r1 = (46 : Int32) then (ob1 (f_X8_number N b_tok b_nu e_at) fun r23 => if r23 < p1 then (f_X5_number_37 N b_len b_tok b_ki b_pl b_nu x_cl x_pt x_rows e_fault e_place e_at) else (if r23 ≤ p2 then (ob2 (f_X9_addPart N x_cl x_pt x_rows r23) fun x_pt_48 x_rows_48 => ob1 (f_X5_next N b_tok e_at) fun e_at_52 => some ((1 : Int32), x_pt_48, x_rows_48, e_fault, e_place, e_at_52)) else (f_X5_number_37 N b_len b_tok b_ki b_pl b_nu x_cl x_pt x_rows e_fault e_place e_at))) else (ob3 (f_X5_fail N b_len b_tok b_pl e_fault e_place e_at (1 : Int32)) fun r11 e_fault_11 e_place_11 => some (r11, x_pt, x_rows, e_fault_11, e_place_11, e_at))
set_option maxHeartbeats 4000000 in
set_option maxRecDepth 100000 in
theorem k_X5_number (l : Launch) (N : Nat) (D : va_G) (cI cJ cZ cB cT : ClassId) (qb0 : Nat) (qb2 : Nat) (qb3 : Nat) (qb4 : Nat) (qx0 : Nat) (qx4 : Nat) (qe0 : Nat) (qb1 : Nat) (qx1 : Nat) (qx2 : Nat) (qx3 : Nat) (b_len : Int32) (b_tok : Int32) (b_ki : Nat → Int32) (b_pl : Nat → Int32) (b_nu : Nat → Int32) (x_cl : Int32) (x_ln : Int32) (x_pt : Int32) (x_rows : Nat → Int32) (e_fault : Int32) (e_place : Int32) (e_at : Int32) (e_law : Int32) (p1 : Int32) (p2 : Int32) (o_r : Int32) (o_x_pt : Int32) (o_x_rows : Nat → Int32) (o_e_fault : Int32) (o_e_place : Int32) (o_e_at : Int32) (hf : f_X5_number N b_len b_tok b_ki b_pl b_nu x_cl x_pt x_rows e_fault e_place e_at p1 p2 = some (o_r, o_x_pt, o_x_rows, o_e_fault, o_e_place, o_e_at)) : ∀ sz, Met l yX5_number (mw yX5_number cX5_number 4 (some .boolean)) ({ frames := 2, cells := 0, slots := 0, locals := 42 } : Room) (mPre D (mT cI cJ cZ cB cT) (W_RD_0_2t5_9t10 qb0 qb2 qb3 qb4 qx0 qx4 qe0 qb1 qx1 qx2 qx3 cI cJ cZ cB cT b_len b_tok b_ki b_pl b_nu x_cl x_ln x_pt x_rows e_fault e_place e_at e_law) sz [.ref qe0, .int p1, .int p2]) ((mQi D (W_RD_0_2t5_9t10 qb0 qb2 qb3 qb4 qx0 qx4 qe0 qb1 qx1 qx2 qx3 cI cJ cZ cB cT b_len b_tok b_ki b_pl b_nu x_cl x_ln o_x_pt o_x_rows o_e_fault o_e_place o_e_at e_law) o_r (mB o_r)) (va_A (W_RD_0_2t5_9t10 qb0 qb2 qb3 qb4 qx0 qx4 qe0 qb1 qx1 qx2 qx3 cI cJ cZ cB cT b_len b_tok b_ki b_pl b_nu x_cl x_ln x_pt x_rows e_fault e_place e_at e_law) sz)) 0 0 (va_A (W_RD_0_2t5_9t10 qb0 qb2 qb3 qb4 qx0 qx4 qe0 qb1 qx1 qx2 qx3 cI cJ cZ cB cT b_len b_tok b_ki b_pl b_nu x_cl x_ln x_pt x_rows e_fault e_place e_at e_law) sz) := by
  refine mMet (Qc := (mQi D (W_RD_0_2t5_9t10 qb0 qb2 qb3 qb4 qx0 qx4 qe0 qb1 qx1 qx2 qx3 cI cJ cZ cB cT b_len b_tok b_ki b_pl b_nu x_cl x_ln o_x_pt o_x_rows o_e_fault o_e_place o_e_at e_law) o_r (mB o_r))) (by decide) (Nat.le_of_ble_eq_true rfl) (fun p e s m below meth c A ls hx hb hr hml hts hown hlocks hK hA hP hD hl => ?_)
  have hown : s.vm.findClass RX5 = some m.cls := hown
  have hl : lv_has ls 4 [(0, .ref qe0), (1, .int p1), (2, .int p2)] := hl
  have hS : va_S A s.heap s.heap [] := va_S.rf
  have b37 : ∀ (x_pt : Int32) (x_rows : Nat → Int32) (e_fault : Int32) (e_place : Int32) (e_at : Int32) (H : Heap) (locs : List Loc) (ls : Array Slot), f_X5_number_37 N b_len b_tok b_ki b_pl b_nu x_cl x_pt x_rows e_fault e_place e_at = some (o_r, o_x_pt, o_x_rows, o_e_fault, o_e_place, o_e_at) → va_P D vwCl (W_RD_0_2t5_9t10 qb0 qb2 qb3 qb4 qx0 qx4 qe0 qb1 qx1 qx2 qx3 cI cJ cZ cB cT b_len b_tok b_ki b_pl b_nu x_cl x_ln x_pt x_rows e_fault e_place e_at e_law) H → va_D A (W_RD_0_2t5_9t10 qb0 qb2 qb3 qb4 qx0 qx4 qe0 qb1 qx1 qx2 qx3 cI cJ cZ cB cT b_len b_tok b_ki b_pl b_nu x_cl x_ln x_pt x_rows e_fault e_place e_at e_law) → va_S A s.heap H locs → lv_has ls 4 [(0, .ref qe0)] → W p l e ({ frames := 2, cells := 0, slots := 0, locals := 42 } : Room) s m ([.ref qe0, .int p1, .int p2] : List Value).toArray below meth c H locs 0 0 (MQ below ((mQi D (W_RD_0_2t5_9t10 qb0 qb2 qb3 qb4 qx0 qx4 qe0 qb1 qx1 qx2 qx3 cI cJ cZ cB cT b_len b_tok b_ki b_pl b_nu x_cl x_ln o_x_pt o_x_rows o_e_fault o_e_place o_e_at e_law) o_r (mB o_r)) A) ([.ref qe0, .int p1, .int p2] : List Value).toArray s 0 0 A) (F0 m 37 ls []) := by
    intro x_pt x_rows e_fault e_place e_at H locs ls hf hP hD hS hl
    unfold f_X5_number_37 at hf
    refine lv_aload_n hx hb dX5_number_37 rfl (lv_at hl 0 rfl) ?_
    refine lv_iconst (v := (2 : Int32)) hx hb dX5_number_38 (by decide) ?_
    obtain ⟨r39, e_fault_39, e_place_39, hg39, hf⟩ := ob3_some hf
    refine mcV_i (wr := [(qb2, .inl (cI, 301, .inl b_ki)), (qb4, .inl (cI, 301, .inl b_nu)), (qx0, .inr (9, [.int x_cl, .int x_ln, .int x_pt, .ref qx1, .ref qx2, .ref qx3, .ref qx4])), (qx4, .inl (cI, 120, .inl x_rows))]) (As := [.int (2 : Int32)]) (rest := []) hx hb hml hown hts hK hP hD hS hA (k_X5_fail l N D cI cJ cZ cB cT qb0 qb3 qe0 qb1 qb2 qb4 qx0 b_len b_tok b_pl e_fault e_place e_at e_law (2 : Int32) r39 e_fault_39 e_place_39 hg39) (kwX5_59 hts rfl rfl ⟨Nat.le_of_ble_eq_true rfl, Nat.le_of_ble_eq_true rfl⟩) [0, 2, 6] [1, 3, 4, 5] rfl rfl rfl (by decide) rfl 2 rfl rfl rfl rfl hl.1 rfl (Nat.le_of_ble_eq_true rfl) dX5_number_39 ⟨Nat.zero_le _, Nat.zero_le _⟩ (fun hB39 H locs hP hD hS => ?_)
    have hP := mP_sub (wc := (W_RD_0_2t5_9t10 qb0 qb2 qb3 qb4 qx0 qx4 qe0 qb1 qx1 qx2 qx3 cI cJ cZ cB cT b_len b_tok b_ki b_pl b_nu x_cl x_ln x_pt x_rows e_fault_39 e_place_39 e_at e_law)) hP [4, 0, 5, 1, 2, 3, 6] rfl
    have hD := hD.sub (ws' := (W_RD_0_2t5_9t10 qb0 qb2 qb3 qb4 qx0 qx4 qe0 qb1 qx1 qx2 qx3 cI cJ cZ cB cT b_len b_tok b_ki b_pl b_nu x_cl x_ln x_pt x_rows e_fault_39 e_place_39 e_at e_law)) [4, 0, 5, 1, 2, 3, 6] rfl rfl
    cases hf
    exact mret_z hx hb hr hlocks hP hD hS dX5_number_42 rfl hB39
  unfold f_X5_number at hf
  refine lv_aload_n hx hb dX5_number_0 rfl (lv_at hl 0 rfl) ?_
  obtain ⟨r1, hg1, hf⟩ := ob1_some hf
  refine mcV_i (wr := [(qb3, .inl (cI, 301, .inl b_pl)), (qb4, .inl (cI, 301, .inl b_nu)), (qx0, .inr (9, [.int x_cl, .int x_ln, .int x_pt, .ref qx1, .ref qx2, .ref qx3, .ref qx4])), (qx4, .inl (cI, 120, .inl x_rows))]) (As := []) (rest := []) hx hb hml hown hts hK hP hD hS hA (k_X5_token l N D cI cJ cZ cB cT qb0 qb2 qe0 qb1 qb3 qb4 qx0 b_len b_tok b_ki e_fault e_place e_at e_law r1 hg1) (kwX5_42 hts rfl rfl ⟨Nat.le_of_ble_eq_true rfl, Nat.le_of_ble_eq_true rfl⟩) [0, 1, 6] [2, 3, 4, 5] rfl rfl rfl (by decide) rfl 2 rfl rfl rfl rfl hl.1 rfl (Nat.le_of_ble_eq_true rfl) dX5_number_1 ⟨Nat.zero_le _, Nat.zero_le _⟩ (fun hB1 H locs hP hD hS => ?_)
  have hP := mP_sub (wc := (W_RD_0_2t5_9t10 qb0 qb2 qb3 qb4 qx0 qx4 qe0 qb1 qx1 qx2 qx3 cI cJ cZ cB cT b_len b_tok b_ki b_pl b_nu x_cl x_ln x_pt x_rows e_fault e_place e_at e_law)) hP [4, 5, 0, 1, 2, 3, 6] rfl
  have hD := hD.sub (ws' := (W_RD_0_2t5_9t10 qb0 qb2 qb3 qb4 qx0 qx4 qe0 qb1 qx1 qx2 qx3 cI cJ cZ cB cT b_len b_tok b_ki b_pl b_nu x_cl x_ln x_pt x_rows e_fault e_place e_at e_law)) [4, 5, 0, 1, 2, 3, 6] rfl rfl
  refine lv_bipush (v := (46 : Int32)) hx hb dX5_number_4 (by decide) ?_
  refine xicmp_eq hx hb 15 dX5_number_6 (by decide) hf (fun hf => ?_) (fun hf => ?_)
  · refine lv_aload_n hx hb dX5_number_15 rfl (lv_at hl 0 rfl) ?_
    refine gfX5_28 hx hb hts hown hK hP 6 rfl rfl dX5_number_16 ?_
    refine lv_aload_n hx hb dX5_number_19 rfl (lv_at hl 0 rfl) ?_
    refine gfX5_22 hx hb hts hown hK hP 6 rfl rfl dX5_number_20 ?_
    obtain ⟨r23, hg23, hf⟩ := ob1_some hf
    refine mcV_i (wr := [(qb2, .inl (cI, 301, .inl b_ki)), (qb3, .inl (cI, 301, .inl b_pl)), (qx0, .inr (9, [.int x_cl, .int x_ln, .int x_pt, .ref qx1, .ref qx2, .ref qx3, .ref qx4])), (qx4, .inl (cI, 120, .inl x_rows)), (qe0, .inr (5, [.int e_fault, .int e_place, .ref qb0, .ref qx0, .int e_at, .int e_law]))]) (As := [.int e_at]) (rest := []) hx hb hml hown hts hK hP hD hS hA (k_X8_number l N D cI cJ cZ cB cT qb0 qb4 qb1 qb2 qb3 b_len b_tok b_nu e_at r23 hg23) (kwX5_91 hts rfl rfl ⟨Nat.le_of_ble_eq_true rfl, Nat.le_of_ble_eq_true rfl⟩) [0, 3] [1, 2, 4, 5, 6] rfl rfl rfl (by decide) rfl 0 rfl rfl rfl rfl hl.1 rfl (Nat.le_of_ble_eq_true rfl) dX5_number_23 ⟨Nat.zero_le _, Nat.zero_le _⟩ (fun hB23 H locs hP hD hS => ?_)
    have hP := mP_sub (wc := (W_RD_0_2t5_9t10 qb0 qb2 qb3 qb4 qx0 qx4 qe0 qb1 qx1 qx2 qx3 cI cJ cZ cB cT b_len b_tok b_ki b_pl b_nu x_cl x_ln x_pt x_rows e_fault e_place e_at e_law)) hP [5, 0, 1, 6, 2, 3, 4] rfl
    have hD := hD.sub (ws' := (W_RD_0_2t5_9t10 qb0 qb2 qb3 qb4 qx0 qx4 qe0 qb1 qx1 qx2 qx3 cI cJ cZ cB cT b_len b_tok b_ki b_pl b_nu x_cl x_ln x_pt x_rows e_fault e_place e_at e_law)) [5, 0, 1, 6, 2, 3, 4] rfl rfl
    refine lv_istore_n (lv' := [(3, .int r23), (0, .ref qe0), (1, .int p1), (2, .int p2)]) hx hb dX5_number_26 rfl hl (by decide) rfl (fun ls hl => ?_)
    refine lv_iload_n hx hb dX5_number_27 rfl (lv_at hl 0 rfl) ?_
    refine lv_iload_n hx hb dX5_number_28 rfl (lv_at hl 2 rfl) ?_
    refine xicmp_lt hx hb 37 dX5_number_29 (by decide) hf (fun hf => ?_) (fun hf => ?_)
    · exact b37 x_pt x_rows e_fault e_place e_at _ _ _ hf hP hD hS (lv_sub hl [1] rfl)
    · refine lv_iload_n hx hb dX5_number_32 rfl (lv_at hl 0 rfl) ?_
      refine lv_iload_n hx hb dX5_number_33 rfl (lv_at hl 3 rfl) ?_
      refine xicmp_le hx hb 43 dX5_number_34 (by decide) hf (fun hf => ?_) (fun hf => ?_)
      · refine lv_aload_n hx hb dX5_number_43 rfl (lv_at hl 1 rfl) ?_
        refine gfX5_18 hx hb hts hown hK hP 6 rfl rfl dX5_number_44 ?_
        refine lv_iload_n hx hb dX5_number_47 rfl (lv_at hl 0 rfl) ?_
        obtain ⟨x_pt_48, x_rows_48, hg48, hf⟩ := ob2_some hf
        refine mcV_v (wr := [(qb0, .inr (8, [.int b_len, .int b_tok, .ref qb1, .ref qb2, .ref qb3, .ref qb4])), (qb2, .inl (cI, 301, .inl b_ki)), (qb3, .inl (cI, 301, .inl b_pl)), (qb4, .inl (cI, 301, .inl b_nu)), (qe0, .inr (5, [.int e_fault, .int e_place, .ref qb0, .ref qx0, .int e_at, .int e_law]))]) (As := [.int r23]) (rest := []) hx hb hml hown hts hK hP hD hS hA (k_X9_addPart l N D cI cJ cZ cB cT qx0 qx4 qx1 qx2 qx3 x_cl x_ln x_pt x_rows r23 x_pt_48 x_rows_48 hg48) (kwX5_93 hts rfl rfl ⟨Nat.le_of_ble_eq_true rfl, Nat.le_of_ble_eq_true rfl⟩) [4, 5] [0, 1, 2, 3, 6] rfl rfl rfl (by decide) rfl 0 rfl rfl rfl rfl hl.1 rfl (Nat.le_of_ble_eq_true rfl) dX5_number_48 ⟨Nat.zero_le _, Nat.zero_le _⟩ (fun H locs hP hD hS => ?_)
        have hP := mP_sub (wc := (W_RD_0_2t5_9t10 qb0 qb2 qb3 qb4 qx0 qx4 qe0 qb1 qx1 qx2 qx3 cI cJ cZ cB cT b_len b_tok b_ki b_pl b_nu x_cl x_ln x_pt_48 x_rows_48 e_fault e_place e_at e_law)) hP [0, 1, 2, 3, 5, 6, 4] rfl
        have hD := hD.sub (ws' := (W_RD_0_2t5_9t10 qb0 qb2 qb3 qb4 qx0 qx4 qe0 qb1 qx1 qx2 qx3 cI cJ cZ cB cT b_len b_tok b_ki b_pl b_nu x_cl x_ln x_pt_48 x_rows_48 e_fault e_place e_at e_law)) [0, 1, 2, 3, 5, 6, 4] rfl rfl
        refine lv_aload_n hx hb dX5_number_51 rfl (lv_at hl 1 rfl) ?_
        obtain ⟨e_at_52, hg52, hf⟩ := ob1_some hf
        refine mcV_v (wr := [(qb2, .inl (cI, 301, .inl b_ki)), (qb3, .inl (cI, 301, .inl b_pl)), (qb4, .inl (cI, 301, .inl b_nu)), (qx0, .inr (9, [.int x_cl, .int x_ln, .int x_pt_48, .ref qx1, .ref qx2, .ref qx3, .ref qx4])), (qx4, .inl (cI, 120, .inl x_rows_48))]) (As := []) (rest := []) hx hb hml hown hts hK hP hD hS hA (k_X5_next l N D cI cJ cZ cB cT qb0 qe0 qb1 qb2 qb3 qb4 qx0 b_len b_tok e_fault e_place e_at e_law e_at_52 hg52) (kwX5_62 hts rfl rfl ⟨Nat.le_of_ble_eq_true rfl, Nat.le_of_ble_eq_true rfl⟩) [0, 6] [1, 2, 3, 4, 5] rfl rfl rfl (by decide) rfl 1 rfl rfl rfl rfl hl.1 rfl (Nat.le_of_ble_eq_true rfl) dX5_number_52 ⟨Nat.zero_le _, Nat.zero_le _⟩ (fun H locs hP hD hS => ?_)
        have hP := mP_sub (wc := (W_RD_0_2t5_9t10 qb0 qb2 qb3 qb4 qx0 qx4 qe0 qb1 qx1 qx2 qx3 cI cJ cZ cB cT b_len b_tok b_ki b_pl b_nu x_cl x_ln x_pt_48 x_rows_48 e_fault e_place e_at_52 e_law)) hP [5, 0, 1, 2, 3, 4, 6] rfl
        have hD := hD.sub (ws' := (W_RD_0_2t5_9t10 qb0 qb2 qb3 qb4 qx0 qx4 qe0 qb1 qx1 qx2 qx3 cI cJ cZ cB cT b_len b_tok b_ki b_pl b_nu x_cl x_ln x_pt_48 x_rows_48 e_fault e_place e_at_52 e_law)) [5, 0, 1, 2, 3, 4, 6] rfl rfl
        refine lv_iconst (v := (1 : Int32)) hx hb dX5_number_55 (by decide) ?_
        cases hf
        exact mret_z hx hb hr hlocks hP hD hS dX5_number_56 rfl rfl
      · exact b37 x_pt x_rows e_fault e_place e_at _ _ _ hf hP hD hS (lv_sub hl [1] rfl)
  · refine lv_aload_n hx hb dX5_number_9 rfl (lv_at hl 0 rfl) ?_
    refine lv_iconst (v := (1 : Int32)) hx hb dX5_number_10 (by decide) ?_
    obtain ⟨r11, e_fault_11, e_place_11, hg11, hf⟩ := ob3_some hf
    refine mcV_i (wr := [(qb2, .inl (cI, 301, .inl b_ki)), (qb4, .inl (cI, 301, .inl b_nu)), (qx0, .inr (9, [.int x_cl, .int x_ln, .int x_pt, .ref qx1, .ref qx2, .ref qx3, .ref qx4])), (qx4, .inl (cI, 120, .inl x_rows))]) (As := [.int (1 : Int32)]) (rest := []) hx hb hml hown hts hK hP hD hS hA (k_X5_fail l N D cI cJ cZ cB cT qb0 qb3 qe0 qb1 qb2 qb4 qx0 b_len b_tok b_pl e_fault e_place e_at e_law (1 : Int32) r11 e_fault_11 e_place_11 hg11) (kwX5_59 hts rfl rfl ⟨Nat.le_of_ble_eq_true rfl, Nat.le_of_ble_eq_true rfl⟩) [0, 2, 6] [1, 3, 4, 5] rfl rfl rfl (by decide) rfl 2 rfl rfl rfl rfl hl.1 rfl (Nat.le_of_ble_eq_true rfl) dX5_number_11 ⟨Nat.zero_le _, Nat.zero_le _⟩ (fun hB11 H locs hP hD hS => ?_)
    have hP := mP_sub (wc := (W_RD_0_2t5_9t10 qb0 qb2 qb3 qb4 qx0 qx4 qe0 qb1 qx1 qx2 qx3 cI cJ cZ cB cT b_len b_tok b_ki b_pl b_nu x_cl x_ln x_pt x_rows e_fault_11 e_place_11 e_at e_law)) hP [4, 0, 5, 1, 2, 3, 6] rfl
    have hD := hD.sub (ws' := (W_RD_0_2t5_9t10 qb0 qb2 qb3 qb4 qx0 qx4 qe0 qb1 qx1 qx2 qx3 cI cJ cZ cB cT b_len b_tok b_ki b_pl b_nu x_cl x_ln x_pt x_rows e_fault_11 e_place_11 e_at e_law)) [4, 0, 5, 1, 2, 3, 6] rfl rfl
    cases hf
    exact mret_z hx hb hr hlocks hP hD hS dX5_number_14 rfl hB11
theorem dX5_leaf_0 : decode cX5_leaf 0 = .ok (.iload_n 1, 1) := by decide +kernel
theorem dX5_leaf_1 : decode cX5_leaf 1 = .ok (.bipush 11, 2) := by decide +kernel
theorem dX5_leaf_3 : decode cX5_leaf 3 = .ok (.isub, 1) := by decide +kernel
theorem dX5_leaf_4 : decode cX5_leaf 4 = .ok (.istore_n 2, 1) := by decide +kernel
theorem dX5_leaf_5 : decode cX5_leaf 5 = .ok (.iload_n 1, 1) := by decide +kernel
theorem dX5_leaf_6 : decode cX5_leaf 6 = .ok (.bipush 46, 2) := by decide +kernel
theorem dX5_leaf_8 : decode cX5_leaf 8 = .ok (.if_icmp .ne 26, 3) := by decide +kernel
theorem dX5_leaf_11 : decode cX5_leaf 11 = .ok (.aload_n 0, 1) := by decide +kernel
theorem dX5_leaf_12 : decode cX5_leaf 12 = .ok (.getfield 28, 3) := by decide +kernel
theorem dX5_leaf_15 : decode cX5_leaf 15 = .ok (.aload_n 0, 1) := by decide +kernel
theorem dX5_leaf_16 : decode cX5_leaf 16 = .ok (.getfield 22, 3) := by decide +kernel
theorem dX5_leaf_19 : decode cX5_leaf 19 = .ok (.invokevirtual 91, 3) := by decide +kernel
theorem dX5_leaf_22 : decode cX5_leaf 22 = .ok (.sipush 9999, 3) := by decide +kernel
theorem dX5_leaf_25 : decode cX5_leaf 25 = .ok (.if_icmp .le 42, 3) := by decide +kernel
theorem dX5_leaf_28 : decode cX5_leaf 28 = .ok (.aload_n 0, 1) := by decide +kernel
theorem dX5_leaf_29 : decode cX5_leaf 29 = .ok (.iconst 2, 1) := by decide +kernel
theorem dX5_leaf_30 : decode cX5_leaf 30 = .ok (.invokevirtual 59, 3) := by decide +kernel
theorem dX5_leaf_33 : decode cX5_leaf 33 = .ok (.ireturn, 1) := by decide +kernel
theorem dX5_leaf_34 : decode cX5_leaf 34 = .ok (.iload_n 2, 1) := by decide +kernel
theorem dX5_leaf_35 : decode cX5_leaf 35 = .ok (.ifCond .lt 26, 3) := by decide +kernel
theorem dX5_leaf_38 : decode cX5_leaf 38 = .ok (.iload_n 2, 1) := by decide +kernel
theorem dX5_leaf_39 : decode cX5_leaf 39 = .ok (.getstatic 112, 3) := by decide +kernel
theorem dX5_leaf_42 : decode cX5_leaf 42 = .ok (.arraylength, 1) := by decide +kernel
theorem dX5_leaf_43 : decode cX5_leaf 43 = .ok (.if_icmp .ge 18, 3) := by decide +kernel
theorem dX5_leaf_46 : decode cX5_leaf 46 = .ok (.getstatic 112, 3) := by decide +kernel
theorem dX5_leaf_49 : decode cX5_leaf 49 = .ok (.iload_n 2, 1) := by decide +kernel
theorem dX5_leaf_50 : decode cX5_leaf 50 = .ok (.iaload, 1) := by decide +kernel
theorem dX5_leaf_51 : decode cX5_leaf 51 = .ok (.aload_n 0, 1) := by decide +kernel
theorem dX5_leaf_52 : decode cX5_leaf 52 = .ok (.getfield 25, 3) := by decide +kernel
theorem dX5_leaf_55 : decode cX5_leaf 55 = .ok (.ishr, 1) := by decide +kernel
theorem dX5_leaf_56 : decode cX5_leaf 56 = .ok (.iconst 1, 1) := by decide +kernel
theorem dX5_leaf_57 : decode cX5_leaf 57 = .ok (.iand, 1) := by decide +kernel
theorem dX5_leaf_58 : decode cX5_leaf 58 = .ok (.ifCond .ne 9, 3) := by decide +kernel
theorem dX5_leaf_61 : decode cX5_leaf 61 = .ok (.aload_n 0, 1) := by decide +kernel
theorem dX5_leaf_62 : decode cX5_leaf 62 = .ok (.iconst 5, 1) := by decide +kernel
theorem dX5_leaf_63 : decode cX5_leaf 63 = .ok (.invokevirtual 59, 3) := by decide +kernel
theorem dX5_leaf_66 : decode cX5_leaf 66 = .ok (.ireturn, 1) := by decide +kernel
theorem dX5_leaf_67 : decode cX5_leaf 67 = .ok (.aload_n 0, 1) := by decide +kernel
theorem dX5_leaf_68 : decode cX5_leaf 68 = .ok (.getfield 18, 3) := by decide +kernel
theorem dX5_leaf_71 : decode cX5_leaf 71 = .ok (.iload_n 1, 1) := by decide +kernel
theorem dX5_leaf_72 : decode cX5_leaf 72 = .ok (.aload_n 0, 1) := by decide +kernel
theorem dX5_leaf_73 : decode cX5_leaf 73 = .ok (.getfield 28, 3) := by decide +kernel
theorem dX5_leaf_76 : decode cX5_leaf 76 = .ok (.aload_n 0, 1) := by decide +kernel
theorem dX5_leaf_77 : decode cX5_leaf 77 = .ok (.getfield 22, 3) := by decide +kernel
theorem dX5_leaf_80 : decode cX5_leaf 80 = .ok (.invokevirtual 91, 3) := by decide +kernel
theorem dX5_leaf_83 : decode cX5_leaf 83 = .ok (.invokevirtual 99, 3) := by decide +kernel
theorem dX5_leaf_86 : decode cX5_leaf 86 = .ok (.aload_n 0, 1) := by decide +kernel
theorem dX5_leaf_87 : decode cX5_leaf 87 = .ok (.invokevirtual 62, 3) := by decide +kernel
theorem dX5_leaf_90 : decode cX5_leaf 90 = .ok (.iconst 1, 1) := by decide +kernel
theorem dX5_leaf_91 : decode cX5_leaf 91 = .ok (.ireturn, 1) := by decide +kernel
def f_X5_leaf_61 (N : Nat) (b_len : Int32) (b_tok : Int32) (b_pl : Nat → Int32) (b_nu : Nat → Int32) (x_ln : Int32) (x_code : Nat → Int32) (e_fault : Int32) (e_place : Int32) (e_at : Int32) (e_law : Int32) : Option (Int32 × Int32 × (Nat → Int32) × Int32 × Int32 × Int32) := ob3 (f_X5_fail N b_len b_tok b_pl e_fault e_place e_at (5 : Int32)) fun r63 e_fault_63 e_place_63 => some (r63, x_ln, x_code, e_fault_63, e_place_63, e_at)
def f_X5_leaf_67 (N : Nat) (b_len : Int32) (b_tok : Int32) (b_pl : Nat → Int32) (b_nu : Nat → Int32) (x_ln : Int32) (x_code : Nat → Int32) (e_fault : Int32) (e_place : Int32) (e_at : Int32) (e_law : Int32) (x1 : Int32) : Option (Int32 × Int32 × (Nat → Int32) × Int32 × Int32 × Int32) := ob1 (f_X8_number N b_tok b_nu e_at) fun r80 => ob2 (f_X9_put N x_ln x_code x1 r80) fun x_ln_83 x_code_83 => ob1 (f_X5_next N b_tok e_at) fun e_at_87 => some ((1 : Int32), x_ln_83, x_code_83, e_fault, e_place, e_at_87)
def f_X5_leaf (N : Nat) (b_len : Int32) (b_tok : Int32) (b_pl : Nat → Int32) (b_nu : Nat → Int32) (x_ln : Int32) (x_code : Nat → Int32) (e_fault : Int32) (e_place : Int32) (e_at : Int32) (e_law : Int32) (p1 : Int32) : Option (Int32 × Int32 × (Nat → Int32) × Int32 × Int32 × Int32) := if p1 = (46 : Int32) then (ob1 (f_X8_number N b_tok b_nu e_at) fun r19 => if r19 ≤ (9999 : Int32) then (f_X5_leaf_67 N b_len b_tok b_pl b_nu x_ln x_code e_fault e_place e_at e_law p1) else (ob3 (f_X5_fail N b_len b_tok b_pl e_fault e_place e_at (2 : Int32)) fun r30 e_fault_30 e_place_30 => some (r30, x_ln, x_code, e_fault_30, e_place_30, e_at))) else (if (p1 - (11 : Int32)) < 0 then (f_X5_leaf_61 N b_len b_tok b_pl b_nu x_ln x_code e_fault e_place e_at e_law) else (if (10 : Int32) ≤ (p1 - (11 : Int32)) then (f_X5_leaf_61 N b_len b_tok b_pl b_nu x_ln x_code e_fault e_place e_at e_law) else (gA nlF 10 (p1 - (11 : Int32)) fun v50 => if ((v50 >>> (e_law &&& 31)) &&& (1 : Int32)) = 0 then (f_X5_leaf_61 N b_len b_tok b_pl b_nu x_ln x_code e_fault e_place e_at e_law) else (f_X5_leaf_67 N b_len b_tok b_pl b_nu x_ln x_code e_fault e_place e_at e_law p1))))
set_option maxHeartbeats 4000000 in
set_option maxRecDepth 100000 in
theorem k_X5_leaf (l : Launch) (N : Nat) (D : va_G) (cI cJ cZ cB cT : ClassId) (qb0 : Nat) (qb3 : Nat) (qb4 : Nat) (qx0 : Nat) (qx1 : Nat) (qe0 : Nat) (qb1 : Nat) (qb2 : Nat) (qx2 : Nat) (qx3 : Nat) (qx4 : Nat) (b_len : Int32) (b_tok : Int32) (b_pl : Nat → Int32) (b_nu : Nat → Int32) (x_cl : Int32) (x_ln : Int32) (x_pt : Int32) (x_code : Nat → Int32) (e_fault : Int32) (e_place : Int32) (e_at : Int32) (e_law : Int32) (p1 : Int32) (o_r : Int32) (o_x_ln : Int32) (o_x_code : Nat → Int32) (o_e_fault : Int32) (o_e_place : Int32) (o_e_at : Int32) (hf : f_X5_leaf N b_len b_tok b_pl b_nu x_ln x_code e_fault e_place e_at e_law p1 = some (o_r, o_x_ln, o_x_code, o_e_fault, o_e_place, o_e_at)) : ∀ sz, Met l yX5_leaf (mw yX5_leaf cX5_leaf 3 (some .boolean)) ({ frames := 2, cells := 0, slots := 0, locals := 42 } : Room) (mPreE D (mT cI cJ cZ cB cT) (W_RD_0_3t6_10 qb0 qb3 qb4 qx0 qx1 qe0 qb1 qb2 qx2 qx3 qx4 cI cJ cZ cB cT b_len b_tok b_pl b_nu x_cl x_ln x_pt x_code e_fault e_place e_at e_law) sz [.ref qe0, .int p1]) ((mQi D (W_RD_0_3t6_10 qb0 qb3 qb4 qx0 qx1 qe0 qb1 qb2 qx2 qx3 qx4 cI cJ cZ cB cT b_len b_tok b_pl b_nu x_cl o_x_ln x_pt o_x_code o_e_fault o_e_place o_e_at e_law) o_r (mB o_r)) (va_A (W_RD_0_3t6_10 qb0 qb3 qb4 qx0 qx1 qe0 qb1 qb2 qx2 qx3 qx4 cI cJ cZ cB cT b_len b_tok b_pl b_nu x_cl x_ln x_pt x_code e_fault e_place e_at e_law) sz)) 0 0 (va_A (W_RD_0_3t6_10 qb0 qb3 qb4 qx0 qx1 qe0 qb1 qb2 qx2 qx3 qx4 cI cJ cZ cB cT b_len b_tok b_pl b_nu x_cl x_ln x_pt x_code e_fault e_place e_at e_law) sz) := by
  refine mMetE (Qc := (mQi D (W_RD_0_3t6_10 qb0 qb3 qb4 qx0 qx1 qe0 qb1 qb2 qx2 qx3 qx4 cI cJ cZ cB cT b_len b_tok b_pl b_nu x_cl o_x_ln x_pt o_x_code o_e_fault o_e_place o_e_at e_law) o_r (mB o_r))) (by decide) (Nat.le_of_ble_eq_true rfl) (fun p e s m below meth c A ls hx hb hr hml hts hown hlocks hK hA hP hD hl hE => ?_)
  have hown : s.vm.findClass RX5 = some m.cls := hown
  have hl : lv_has ls 3 [(0, .ref qe0), (1, .int p1)] := hl
  have hS : va_S A s.heap s.heap [] := va_S.rf
  obtain ⟨⟨tM, hZM, hTM⟩, ⟨tL, hZL, hTL⟩, ⟨hNX4, hNX10⟩, tS, tV, hRS, hZC, hZF, hKS⟩ := id hE
  have b61 : ∀ (x_ln : Int32) (x_code : Nat → Int32) (e_fault : Int32) (e_place : Int32) (e_at : Int32) (H : Heap) (locs : List Loc) (ls : Array Slot), f_X5_leaf_61 N b_len b_tok b_pl b_nu x_ln x_code e_fault e_place e_at e_law = some (o_r, o_x_ln, o_x_code, o_e_fault, o_e_place, o_e_at) → va_P D vwCl (W_RD_0_3t6_10 qb0 qb3 qb4 qx0 qx1 qe0 qb1 qb2 qx2 qx3 qx4 cI cJ cZ cB cT b_len b_tok b_pl b_nu x_cl x_ln x_pt x_code e_fault e_place e_at e_law) H → va_D A (W_RD_0_3t6_10 qb0 qb3 qb4 qx0 qx1 qe0 qb1 qb2 qx2 qx3 qx4 cI cJ cZ cB cT b_len b_tok b_pl b_nu x_cl x_ln x_pt x_code e_fault e_place e_at e_law) → va_S A s.heap H locs → lv_has ls 3 [(0, .ref qe0)] → W p l e ({ frames := 2, cells := 0, slots := 0, locals := 42 } : Room) s m ([.ref qe0, .int p1] : List Value).toArray below meth c H locs 0 0 (MQ below ((mQi D (W_RD_0_3t6_10 qb0 qb3 qb4 qx0 qx1 qe0 qb1 qb2 qx2 qx3 qx4 cI cJ cZ cB cT b_len b_tok b_pl b_nu x_cl o_x_ln x_pt o_x_code o_e_fault o_e_place o_e_at e_law) o_r (mB o_r)) A) ([.ref qe0, .int p1] : List Value).toArray s 0 0 A) (F0 m 61 ls []) := by
    intro x_ln x_code e_fault e_place e_at H locs ls hf hP hD hS hl
    unfold f_X5_leaf_61 at hf
    refine lv_aload_n hx hb dX5_leaf_61 rfl (lv_at hl 0 rfl) ?_
    refine lv_iconst (v := (5 : Int32)) hx hb dX5_leaf_62 (by decide) ?_
    obtain ⟨r63, e_fault_63, e_place_63, hg63, hf⟩ := ob3_some hf
    refine mcV_i (wr := [(qb4, .inl (cI, 301, .inl b_nu)), (qx0, .inr (9, [.int x_cl, .int x_ln, .int x_pt, .ref qx1, .ref qx2, .ref qx3, .ref qx4])), (qx1, .inl (cI, 301, .inl x_code))]) (As := [.int (5 : Int32)]) (rest := []) hx hb hml hown hts hK hP hD hS hA (k_X5_fail l N D cI cJ cZ cB cT qb0 qb3 qe0 qb1 qb2 qb4 qx0 b_len b_tok b_pl e_fault e_place e_at e_law (5 : Int32) r63 e_fault_63 e_place_63 hg63) (kwX5_59 hts rfl rfl ⟨Nat.le_of_ble_eq_true rfl, Nat.le_of_ble_eq_true rfl⟩) [0, 1, 5] [2, 3, 4] rfl rfl rfl (by decide) rfl 2 rfl rfl rfl rfl hl.1 rfl (Nat.le_of_ble_eq_true rfl) dX5_leaf_63 ⟨Nat.zero_le _, Nat.zero_le _⟩ (fun hB63 H locs hP hD hS => ?_)
    have hP := mP_sub (wc := (W_RD_0_3t6_10 qb0 qb3 qb4 qx0 qx1 qe0 qb1 qb2 qx2 qx3 qx4 cI cJ cZ cB cT b_len b_tok b_pl b_nu x_cl x_ln x_pt x_code e_fault_63 e_place_63 e_at e_law)) hP [3, 4, 0, 1, 2, 5] rfl
    have hD := hD.sub (ws' := (W_RD_0_3t6_10 qb0 qb3 qb4 qx0 qx1 qe0 qb1 qb2 qx2 qx3 qx4 cI cJ cZ cB cT b_len b_tok b_pl b_nu x_cl x_ln x_pt x_code e_fault_63 e_place_63 e_at e_law)) [3, 4, 0, 1, 2, 5] rfl rfl
    cases hf
    exact mret_z hx hb hr hlocks hP hD hS dX5_leaf_66 rfl hB63
  have b67 : ∀ (x_ln : Int32) (x_code : Nat → Int32) (e_fault : Int32) (e_place : Int32) (e_at : Int32) (x1 : Int32) (H : Heap) (locs : List Loc) (ls : Array Slot), f_X5_leaf_67 N b_len b_tok b_pl b_nu x_ln x_code e_fault e_place e_at e_law x1 = some (o_r, o_x_ln, o_x_code, o_e_fault, o_e_place, o_e_at) → va_P D vwCl (W_RD_0_3t6_10 qb0 qb3 qb4 qx0 qx1 qe0 qb1 qb2 qx2 qx3 qx4 cI cJ cZ cB cT b_len b_tok b_pl b_nu x_cl x_ln x_pt x_code e_fault e_place e_at e_law) H → va_D A (W_RD_0_3t6_10 qb0 qb3 qb4 qx0 qx1 qe0 qb1 qb2 qx2 qx3 qx4 cI cJ cZ cB cT b_len b_tok b_pl b_nu x_cl x_ln x_pt x_code e_fault e_place e_at e_law) → va_S A s.heap H locs → lv_has ls 3 [(0, .ref qe0), (1, .int x1)] → W p l e ({ frames := 2, cells := 0, slots := 0, locals := 42 } : Room) s m ([.ref qe0, .int p1] : List Value).toArray below meth c H locs 0 0 (MQ below ((mQi D (W_RD_0_3t6_10 qb0 qb3 qb4 qx0 qx1 qe0 qb1 qb2 qx2 qx3 qx4 cI cJ cZ cB cT b_len b_tok b_pl b_nu x_cl o_x_ln x_pt o_x_code o_e_fault o_e_place o_e_at e_law) o_r (mB o_r)) A) ([.ref qe0, .int p1] : List Value).toArray s 0 0 A) (F0 m 67 ls []) := by
    intro x_ln x_code e_fault e_place e_at x1 H locs ls hf hP hD hS hl
    unfold f_X5_leaf_67 at hf
    refine lv_aload_n hx hb dX5_leaf_67 rfl (lv_at hl 0 rfl) ?_
    refine gfX5_18 hx hb hts hown hK hP 5 rfl rfl dX5_leaf_68 ?_
    refine lv_iload_n hx hb dX5_leaf_71 rfl (lv_at hl 1 rfl) ?_
    refine lv_aload_n hx hb dX5_leaf_72 rfl (lv_at hl 0 rfl) ?_
    refine gfX5_28 hx hb hts hown hK hP 5 rfl rfl dX5_leaf_73 ?_
    refine lv_aload_n hx hb dX5_leaf_76 rfl (lv_at hl 0 rfl) ?_
    refine gfX5_22 hx hb hts hown hK hP 5 rfl rfl dX5_leaf_77 ?_
    obtain ⟨r80, hg80, hf⟩ := ob1_some hf
    refine mcV_i (wr := [(qb3, .inl (cI, 301, .inl b_pl)), (qx0, .inr (9, [.int x_cl, .int x_ln, .int x_pt, .ref qx1, .ref qx2, .ref qx3, .ref qx4])), (qx1, .inl (cI, 301, .inl x_code)), (qe0, .inr (5, [.int e_fault, .int e_place, .ref qb0, .ref qx0, .int e_at, .int e_law]))]) (As := [.int e_at]) (rest := [.int x1, .ref qx0]) hx hb hml hown hts hK hP hD hS hA (k_X8_number l N D cI cJ cZ cB cT qb0 qb4 qb1 qb2 qb3 b_len b_tok b_nu e_at r80 hg80) (kwX5_91 hts rfl rfl ⟨Nat.le_of_ble_eq_true rfl, Nat.le_of_ble_eq_true rfl⟩) [0, 2] [1, 3, 4, 5] rfl rfl rfl (by decide) rfl 0 rfl rfl rfl rfl hl.1 rfl (Nat.le_of_ble_eq_true rfl) dX5_leaf_80 ⟨Nat.zero_le _, Nat.zero_le _⟩ (fun hB80 H locs hP hD hS => ?_)
    have hP := mP_sub (wc := (W_RD_0_3t6_10 qb0 qb3 qb4 qx0 qx1 qe0 qb1 qb2 qx2 qx3 qx4 cI cJ cZ cB cT b_len b_tok b_pl b_nu x_cl x_ln x_pt x_code e_fault e_place e_at e_law)) hP [4, 0, 5, 1, 2, 3] rfl
    have hD := hD.sub (ws' := (W_RD_0_3t6_10 qb0 qb3 qb4 qx0 qx1 qe0 qb1 qb2 qx2 qx3 qx4 cI cJ cZ cB cT b_len b_tok b_pl b_nu x_cl x_ln x_pt x_code e_fault e_place e_at e_law)) [4, 0, 5, 1, 2, 3] rfl rfl
    obtain ⟨x_ln_83, x_code_83, hg83, hf⟩ := ob2_some hf
    refine mcV_v (wr := [(qb0, .inr (8, [.int b_len, .int b_tok, .ref qb1, .ref qb2, .ref qb3, .ref qb4])), (qb3, .inl (cI, 301, .inl b_pl)), (qb4, .inl (cI, 301, .inl b_nu)), (qe0, .inr (5, [.int e_fault, .int e_place, .ref qb0, .ref qx0, .int e_at, .int e_law]))]) (As := [.int x1, .int r80]) (rest := []) hx hb hml hown hts hK hP hD hS hA (k_X9_put l N D cI cJ cZ cB cT qx0 qx1 qx2 qx3 qx4 x_cl x_ln x_pt x_code x1 r80 x_ln_83 x_code_83 hg83) (kwX5_99 hts rfl rfl ⟨Nat.le_of_ble_eq_true rfl, Nat.le_of_ble_eq_true rfl⟩) [3, 4] [0, 1, 2, 5] rfl rfl rfl (by decide) rfl 0 rfl rfl rfl rfl hl.1 rfl (Nat.le_of_ble_eq_true rfl) dX5_leaf_83 ⟨Nat.zero_le _, Nat.zero_le _⟩ (fun H locs hP hD hS => ?_)
    have hP := mP_sub (wc := (W_RD_0_3t6_10 qb0 qb3 qb4 qx0 qx1 qe0 qb1 qb2 qx2 qx3 qx4 cI cJ cZ cB cT b_len b_tok b_pl b_nu x_cl x_ln_83 x_pt x_code_83 e_fault e_place e_at e_law)) hP [0, 1, 2, 4, 5, 3] rfl
    have hD := hD.sub (ws' := (W_RD_0_3t6_10 qb0 qb3 qb4 qx0 qx1 qe0 qb1 qb2 qx2 qx3 qx4 cI cJ cZ cB cT b_len b_tok b_pl b_nu x_cl x_ln_83 x_pt x_code_83 e_fault e_place e_at e_law)) [0, 1, 2, 4, 5, 3] rfl rfl
    refine lv_aload_n hx hb dX5_leaf_86 rfl (lv_at hl 0 rfl) ?_
    obtain ⟨e_at_87, hg87, hf⟩ := ob1_some hf
    refine mcV_v (wr := [(qb3, .inl (cI, 301, .inl b_pl)), (qb4, .inl (cI, 301, .inl b_nu)), (qx0, .inr (9, [.int x_cl, .int x_ln_83, .int x_pt, .ref qx1, .ref qx2, .ref qx3, .ref qx4])), (qx1, .inl (cI, 301, .inl x_code_83))]) (As := []) (rest := []) hx hb hml hown hts hK hP hD hS hA (k_X5_next l N D cI cJ cZ cB cT qb0 qe0 qb1 qb2 qb3 qb4 qx0 b_len b_tok e_fault e_place e_at e_law e_at_87 hg87) (kwX5_62 hts rfl rfl ⟨Nat.le_of_ble_eq_true rfl, Nat.le_of_ble_eq_true rfl⟩) [0, 5] [1, 2, 3, 4] rfl rfl rfl (by decide) rfl 1 rfl rfl rfl rfl hl.1 rfl (Nat.le_of_ble_eq_true rfl) dX5_leaf_87 ⟨Nat.zero_le _, Nat.zero_le _⟩ (fun H locs hP hD hS => ?_)
    have hP := mP_sub (wc := (W_RD_0_3t6_10 qb0 qb3 qb4 qx0 qx1 qe0 qb1 qb2 qx2 qx3 qx4 cI cJ cZ cB cT b_len b_tok b_pl b_nu x_cl x_ln_83 x_pt x_code_83 e_fault e_place e_at_87 e_law)) hP [4, 0, 1, 2, 3, 5] rfl
    have hD := hD.sub (ws' := (W_RD_0_3t6_10 qb0 qb3 qb4 qx0 qx1 qe0 qb1 qb2 qx2 qx3 qx4 cI cJ cZ cB cT b_len b_tok b_pl b_nu x_cl x_ln_83 x_pt x_code_83 e_fault e_place e_at_87 e_law)) [4, 0, 1, 2, 3, 5] rfl rfl
    refine lv_iconst (v := (1 : Int32)) hx hb dX5_leaf_90 (by decide) ?_
    cases hf
    exact mret_z hx hb hr hlocks hP hD hS dX5_leaf_91 rfl rfl
  unfold f_X5_leaf at hf
  refine lv_iload_n hx hb dX5_leaf_0 rfl (lv_at hl 1 rfl) ?_
  refine lv_bipush (v := (11 : Int32)) hx hb dX5_leaf_1 (by decide) ?_
  refine lv_isub hx hb dX5_leaf_3 ?_
  refine lv_istore_n (lv' := [(2, .int (p1 - (11 : Int32))), (0, .ref qe0), (1, .int p1)]) hx hb dX5_leaf_4 rfl hl (by decide) rfl (fun ls hl => ?_)
  refine lv_iload_n hx hb dX5_leaf_5 rfl (lv_at hl 2 rfl) ?_
  refine lv_bipush (v := (46 : Int32)) hx hb dX5_leaf_6 (by decide) ?_
  refine xicmp_ne hx hb 34 dX5_leaf_8 (by decide) hf (fun hf => ?_) (fun hf => ?_)
  · refine lv_aload_n hx hb dX5_leaf_11 rfl (lv_at hl 1 rfl) ?_
    refine gfX5_28 hx hb hts hown hK hP 5 rfl rfl dX5_leaf_12 ?_
    refine lv_aload_n hx hb dX5_leaf_15 rfl (lv_at hl 1 rfl) ?_
    refine gfX5_22 hx hb hts hown hK hP 5 rfl rfl dX5_leaf_16 ?_
    obtain ⟨r19, hg19, hf⟩ := ob1_some hf
    refine mcV_i (wr := [(qb3, .inl (cI, 301, .inl b_pl)), (qx0, .inr (9, [.int x_cl, .int x_ln, .int x_pt, .ref qx1, .ref qx2, .ref qx3, .ref qx4])), (qx1, .inl (cI, 301, .inl x_code)), (qe0, .inr (5, [.int e_fault, .int e_place, .ref qb0, .ref qx0, .int e_at, .int e_law]))]) (As := [.int e_at]) (rest := []) hx hb hml hown hts hK hP hD hS hA (k_X8_number l N D cI cJ cZ cB cT qb0 qb4 qb1 qb2 qb3 b_len b_tok b_nu e_at r19 hg19) (kwX5_91 hts rfl rfl ⟨Nat.le_of_ble_eq_true rfl, Nat.le_of_ble_eq_true rfl⟩) [0, 2] [1, 3, 4, 5] rfl rfl rfl (by decide) rfl 0 rfl rfl rfl rfl hl.1 rfl (Nat.le_of_ble_eq_true rfl) dX5_leaf_19 ⟨Nat.zero_le _, Nat.zero_le _⟩ (fun hB19 H locs hP hD hS => ?_)
    have hP := mP_sub (wc := (W_RD_0_3t6_10 qb0 qb3 qb4 qx0 qx1 qe0 qb1 qb2 qx2 qx3 qx4 cI cJ cZ cB cT b_len b_tok b_pl b_nu x_cl x_ln x_pt x_code e_fault e_place e_at e_law)) hP [4, 0, 5, 1, 2, 3] rfl
    have hD := hD.sub (ws' := (W_RD_0_3t6_10 qb0 qb3 qb4 qx0 qx1 qe0 qb1 qb2 qx2 qx3 qx4 cI cJ cZ cB cT b_len b_tok b_pl b_nu x_cl x_ln x_pt x_code e_fault e_place e_at e_law)) [4, 0, 5, 1, 2, 3] rfl rfl
    refine lv_sipush (v := (9999 : Int32)) hx hb dX5_leaf_22 (by decide) ?_
    refine xicmp_le hx hb 67 dX5_leaf_25 (by decide) hf (fun hf => ?_) (fun hf => ?_)
    · exact b67 x_ln x_code e_fault e_place e_at p1 _ _ _ hf hP hD hS (lv_sub hl [1, 2] rfl)
    · refine lv_aload_n hx hb dX5_leaf_28 rfl (lv_at hl 1 rfl) ?_
      refine lv_iconst (v := (2 : Int32)) hx hb dX5_leaf_29 (by decide) ?_
      obtain ⟨r30, e_fault_30, e_place_30, hg30, hf⟩ := ob3_some hf
      refine mcV_i (wr := [(qb4, .inl (cI, 301, .inl b_nu)), (qx0, .inr (9, [.int x_cl, .int x_ln, .int x_pt, .ref qx1, .ref qx2, .ref qx3, .ref qx4])), (qx1, .inl (cI, 301, .inl x_code))]) (As := [.int (2 : Int32)]) (rest := []) hx hb hml hown hts hK hP hD hS hA (k_X5_fail l N D cI cJ cZ cB cT qb0 qb3 qe0 qb1 qb2 qb4 qx0 b_len b_tok b_pl e_fault e_place e_at e_law (2 : Int32) r30 e_fault_30 e_place_30 hg30) (kwX5_59 hts rfl rfl ⟨Nat.le_of_ble_eq_true rfl, Nat.le_of_ble_eq_true rfl⟩) [0, 1, 5] [2, 3, 4] rfl rfl rfl (by decide) rfl 2 rfl rfl rfl rfl hl.1 rfl (Nat.le_of_ble_eq_true rfl) dX5_leaf_30 ⟨Nat.zero_le _, Nat.zero_le _⟩ (fun hB30 H locs hP hD hS => ?_)
      have hP := mP_sub (wc := (W_RD_0_3t6_10 qb0 qb3 qb4 qx0 qx1 qe0 qb1 qb2 qx2 qx3 qx4 cI cJ cZ cB cT b_len b_tok b_pl b_nu x_cl x_ln x_pt x_code e_fault_30 e_place_30 e_at e_law)) hP [3, 4, 0, 1, 2, 5] rfl
      have hD := hD.sub (ws' := (W_RD_0_3t6_10 qb0 qb3 qb4 qx0 qx1 qe0 qb1 qb2 qx2 qx3 qx4 cI cJ cZ cB cT b_len b_tok b_pl b_nu x_cl x_ln x_pt x_code e_fault_30 e_place_30 e_at e_law)) [3, 4, 0, 1, 2, 5] rfl rfl
      cases hf
      exact mret_z hx hb hr hlocks hP hD hS dX5_leaf_33 rfl hB30
  · refine lv_iload_n hx hb dX5_leaf_34 rfl (lv_at hl 0 rfl) ?_
    refine xif_lt hx hb 61 dX5_leaf_35 (by decide) hf (fun hf => ?_) (fun hf => ?_)
    · exact b61 x_ln x_code e_fault e_place e_at _ _ _ hf hP hD hS (lv_sub hl [1] rfl)
    · refine lv_iload_n hx hb dX5_leaf_38 rfl (lv_at hl 0 rfl) ?_
      refine va_gets hx hb hZL hS hown (hts _ flX5_112) (fun _ h => h) dX5_leaf_39 ?_
      refine va_tlen (v := (10 : Int32)) hx hb hTL hS rfl dX5_leaf_42 ?_
      refine xicmp_ge hx hb 61 dX5_leaf_43 (by decide) hf (fun hf => ?_) (fun hf => ?_)
      · exact b61 x_ln x_code e_fault e_place e_at _ _ _ hf hP hD hS (lv_sub hl [1] rfl)
      · refine va_gets hx hb hZL hS hown (hts _ flX5_112) (fun _ h => h) dX5_leaf_46 ?_
        refine lv_iload_n hx hb dX5_leaf_49 rfl (lv_at hl 0 rfl) ?_
        refine xti hx hb hTL hS dX5_leaf_50 hf (fun v50 hf => ?_)
        refine lv_aload_n hx hb dX5_leaf_51 rfl (lv_at hl 1 rfl) ?_
        refine gfX5_25 hx hb hts hown hK hP 5 rfl rfl dX5_leaf_52 ?_
        refine lv_ishr hx hb dX5_leaf_55 ?_
        refine lv_iconst (v := (1 : Int32)) hx hb dX5_leaf_56 (by decide) ?_
        refine lv_iand hx hb dX5_leaf_57 ?_
        refine xif_ne hx hb 67 dX5_leaf_58 (by decide) hf (fun hf => ?_) (fun hf => ?_)
        · exact b61 x_ln x_code e_fault e_place e_at _ _ _ hf hP hD hS (lv_sub hl [1] rfl)
        · exact b67 x_ln x_code e_fault e_place e_at p1 _ _ _ hf hP hD hS (lv_sub hl [1, 2] rfl)
theorem dX5_deedOf_0 : decode cX5_deedOf 0 = .ok (.bipush 7, 2) := by decide +kernel
theorem dX5_deedOf_2 : decode cX5_deedOf 2 = .ok (.istore_n 2, 1) := by decide +kernel
theorem dX5_deedOf_3 : decode cX5_deedOf 3 = .ok (.iconst 5, 1) := by decide +kernel
theorem dX5_deedOf_4 : decode cX5_deedOf 4 = .ok (.istore_n 3, 1) := by decide +kernel
theorem dX5_deedOf_5 : decode cX5_deedOf 5 = .ok (.iload_n 1, 1) := by decide +kernel
theorem dX5_deedOf_6 : decode cX5_deedOf 6 = .ok (.tableswitch 239 4 12 #[58, 91, 165, 198, 239, 239, 239, 50, 231], 50) := by decide +kernel
theorem dX5_deedOf_56 : decode cX5_deedOf 56 = .ok (.aload_n 0, 1) := by decide +kernel
theorem dX5_deedOf_57 : decode cX5_deedOf 57 = .ok (.iconst 0, 1) := by decide +kernel
theorem dX5_deedOf_58 : decode cX5_deedOf 58 = .ok (.bipush 9, 2) := by decide +kernel
theorem dX5_deedOf_60 : decode cX5_deedOf 60 = .ok (.invokevirtual 87, 3) := by decide +kernel
theorem dX5_deedOf_63 : decode cX5_deedOf 63 = .ok (.ireturn, 1) := by decide +kernel
theorem dX5_deedOf_64 : decode cX5_deedOf 64 = .ok (.aload_n 0, 1) := by decide +kernel
theorem dX5_deedOf_65 : decode cX5_deedOf 65 = .ok (.iconst 0, 1) := by decide +kernel
theorem dX5_deedOf_66 : decode cX5_deedOf 66 = .ok (.iload_n 2, 1) := by decide +kernel
theorem dX5_deedOf_67 : decode cX5_deedOf 67 = .ok (.invokevirtual 87, 3) := by decide +kernel
theorem dX5_deedOf_70 : decode cX5_deedOf 70 = .ok (.ifCond .eq 25, 3) := by decide +kernel
theorem dX5_deedOf_73 : decode cX5_deedOf 73 = .ok (.aload_n 0, 1) := by decide +kernel
theorem dX5_deedOf_74 : decode cX5_deedOf 74 = .ok (.bipush 21, 2) := by decide +kernel
theorem dX5_deedOf_76 : decode cX5_deedOf 76 = .ok (.invokevirtual 78, 3) := by decide +kernel
theorem dX5_deedOf_79 : decode cX5_deedOf 79 = .ok (.ifCond .eq 16, 3) := by decide +kernel
theorem dX5_deedOf_82 : decode cX5_deedOf 82 = .ok (.aload_n 0, 1) := by decide +kernel
theorem dX5_deedOf_83 : decode cX5_deedOf 83 = .ok (.iconst 0, 1) := by decide +kernel
theorem dX5_deedOf_84 : decode cX5_deedOf 84 = .ok (.iload_n 2, 1) := by decide +kernel
theorem dX5_deedOf_85 : decode cX5_deedOf 85 = .ok (.invokevirtual 87, 3) := by decide +kernel
theorem dX5_deedOf_88 : decode cX5_deedOf 88 = .ok (.ifCond .eq 7, 3) := by decide +kernel
theorem dX5_deedOf_91 : decode cX5_deedOf 91 = .ok (.iconst 1, 1) := by decide +kernel
theorem dX5_deedOf_92 : decode cX5_deedOf 92 = .ok (.goto 4, 3) := by decide +kernel
theorem dX5_deedOf_95 : decode cX5_deedOf 95 = .ok (.iconst 0, 1) := by decide +kernel
theorem dX5_deedOf_96 : decode cX5_deedOf 96 = .ok (.ireturn, 1) := by decide +kernel
theorem dX5_deedOf_97 : decode cX5_deedOf 97 = .ok (.aload_n 0, 1) := by decide +kernel
theorem dX5_deedOf_98 : decode cX5_deedOf 98 = .ok (.iconst 0, 1) := by decide +kernel
theorem dX5_deedOf_99 : decode cX5_deedOf 99 = .ok (.iload_n 2, 1) := by decide +kernel
theorem dX5_deedOf_100 : decode cX5_deedOf 100 = .ok (.invokevirtual 87, 3) := by decide +kernel
theorem dX5_deedOf_103 : decode cX5_deedOf 103 = .ok (.ifCond .eq 66, 3) := by decide +kernel
theorem dX5_deedOf_106 : decode cX5_deedOf 106 = .ok (.aload_n 0, 1) := by decide +kernel
theorem dX5_deedOf_107 : decode cX5_deedOf 107 = .ok (.bipush 14, 2) := by decide +kernel
theorem dX5_deedOf_109 : decode cX5_deedOf 109 = .ok (.invokevirtual 78, 3) := by decide +kernel
theorem dX5_deedOf_112 : decode cX5_deedOf 112 = .ok (.ifCond .eq 57, 3) := by decide +kernel
theorem dX5_deedOf_115 : decode cX5_deedOf 115 = .ok (.aload_n 0, 1) := by decide +kernel
theorem dX5_deedOf_116 : decode cX5_deedOf 116 = .ok (.iconst 0, 1) := by decide +kernel
theorem dX5_deedOf_117 : decode cX5_deedOf 117 = .ok (.bipush 9, 2) := by decide +kernel
theorem dX5_deedOf_119 : decode cX5_deedOf 119 = .ok (.invokevirtual 87, 3) := by decide +kernel
theorem dX5_deedOf_122 : decode cX5_deedOf 122 = .ok (.ifCond .eq 47, 3) := by decide +kernel
theorem dX5_deedOf_125 : decode cX5_deedOf 125 = .ok (.aload_n 0, 1) := by decide +kernel
theorem dX5_deedOf_126 : decode cX5_deedOf 126 = .ok (.bipush 18, 2) := by decide +kernel
theorem dX5_deedOf_128 : decode cX5_deedOf 128 = .ok (.invokevirtual 78, 3) := by decide +kernel
theorem dX5_deedOf_131 : decode cX5_deedOf 131 = .ok (.ifCond .eq 38, 3) := by decide +kernel
theorem dX5_deedOf_134 : decode cX5_deedOf 134 = .ok (.aload_n 0, 1) := by decide +kernel
theorem dX5_deedOf_135 : decode cX5_deedOf 135 = .ok (.iconst 0, 1) := by decide +kernel
theorem dX5_deedOf_136 : decode cX5_deedOf 136 = .ok (.sipush 9999, 3) := by decide +kernel
theorem dX5_deedOf_139 : decode cX5_deedOf 139 = .ok (.invokevirtual 87, 3) := by decide +kernel
theorem dX5_deedOf_142 : decode cX5_deedOf 142 = .ok (.ifCond .eq 27, 3) := by decide +kernel
theorem dX5_deedOf_145 : decode cX5_deedOf 145 = .ok (.aload_n 0, 1) := by decide +kernel
theorem dX5_deedOf_146 : decode cX5_deedOf 146 = .ok (.bipush 19, 2) := by decide +kernel
theorem dX5_deedOf_148 : decode cX5_deedOf 148 = .ok (.invokevirtual 78, 3) := by decide +kernel
theorem dX5_deedOf_151 : decode cX5_deedOf 151 = .ok (.ifCond .eq 18, 3) := by decide +kernel
theorem dX5_deedOf_154 : decode cX5_deedOf 154 = .ok (.aload_n 0, 1) := by decide +kernel
theorem dX5_deedOf_155 : decode cX5_deedOf 155 = .ok (.iconst 0, 1) := by decide +kernel
theorem dX5_deedOf_156 : decode cX5_deedOf 156 = .ok (.sipush 9999, 3) := by decide +kernel
theorem dX5_deedOf_159 : decode cX5_deedOf 159 = .ok (.invokevirtual 87, 3) := by decide +kernel
theorem dX5_deedOf_162 : decode cX5_deedOf 162 = .ok (.ifCond .eq 7, 3) := by decide +kernel
theorem dX5_deedOf_165 : decode cX5_deedOf 165 = .ok (.iconst 1, 1) := by decide +kernel
theorem dX5_deedOf_166 : decode cX5_deedOf 166 = .ok (.goto 4, 3) := by decide +kernel
theorem dX5_deedOf_169 : decode cX5_deedOf 169 = .ok (.iconst 0, 1) := by decide +kernel
theorem dX5_deedOf_170 : decode cX5_deedOf 170 = .ok (.ireturn, 1) := by decide +kernel
theorem dX5_deedOf_171 : decode cX5_deedOf 171 = .ok (.aload_n 0, 1) := by decide +kernel
theorem dX5_deedOf_172 : decode cX5_deedOf 172 = .ok (.iconst 0, 1) := by decide +kernel
theorem dX5_deedOf_173 : decode cX5_deedOf 173 = .ok (.iload_n 3, 1) := by decide +kernel
theorem dX5_deedOf_174 : decode cX5_deedOf 174 = .ok (.invokevirtual 87, 3) := by decide +kernel
theorem dX5_deedOf_177 : decode cX5_deedOf 177 = .ok (.ifCond .eq 25, 3) := by decide +kernel
theorem dX5_deedOf_180 : decode cX5_deedOf 180 = .ok (.aload_n 0, 1) := by decide +kernel
theorem dX5_deedOf_181 : decode cX5_deedOf 181 = .ok (.bipush 22, 2) := by decide +kernel
theorem dX5_deedOf_183 : decode cX5_deedOf 183 = .ok (.invokevirtual 78, 3) := by decide +kernel
theorem dX5_deedOf_186 : decode cX5_deedOf 186 = .ok (.ifCond .eq 16, 3) := by decide +kernel
theorem dX5_deedOf_189 : decode cX5_deedOf 189 = .ok (.aload_n 0, 1) := by decide +kernel
theorem dX5_deedOf_190 : decode cX5_deedOf 190 = .ok (.iconst 0, 1) := by decide +kernel
theorem dX5_deedOf_191 : decode cX5_deedOf 191 = .ok (.iload_n 2, 1) := by decide +kernel
theorem dX5_deedOf_192 : decode cX5_deedOf 192 = .ok (.invokevirtual 87, 3) := by decide +kernel
theorem dX5_deedOf_195 : decode cX5_deedOf 195 = .ok (.ifCond .eq 7, 3) := by decide +kernel
theorem dX5_deedOf_198 : decode cX5_deedOf 198 = .ok (.iconst 1, 1) := by decide +kernel
theorem dX5_deedOf_199 : decode cX5_deedOf 199 = .ok (.goto 4, 3) := by decide +kernel
theorem dX5_deedOf_202 : decode cX5_deedOf 202 = .ok (.iconst 0, 1) := by decide +kernel
theorem dX5_deedOf_203 : decode cX5_deedOf 203 = .ok (.ireturn, 1) := by decide +kernel
theorem dX5_deedOf_204 : decode cX5_deedOf 204 = .ok (.aload_n 0, 1) := by decide +kernel
theorem dX5_deedOf_205 : decode cX5_deedOf 205 = .ok (.iconst 0, 1) := by decide +kernel
theorem dX5_deedOf_206 : decode cX5_deedOf 206 = .ok (.iload_n 3, 1) := by decide +kernel
theorem dX5_deedOf_207 : decode cX5_deedOf 207 = .ok (.invokevirtual 87, 3) := by decide +kernel
theorem dX5_deedOf_210 : decode cX5_deedOf 210 = .ok (.ifCond .eq 25, 3) := by decide +kernel
theorem dX5_deedOf_213 : decode cX5_deedOf 213 = .ok (.aload_n 0, 1) := by decide +kernel
theorem dX5_deedOf_214 : decode cX5_deedOf 214 = .ok (.bipush 21, 2) := by decide +kernel
theorem dX5_deedOf_216 : decode cX5_deedOf 216 = .ok (.invokevirtual 78, 3) := by decide +kernel
theorem dX5_deedOf_219 : decode cX5_deedOf 219 = .ok (.ifCond .eq 16, 3) := by decide +kernel
theorem dX5_deedOf_222 : decode cX5_deedOf 222 = .ok (.aload_n 0, 1) := by decide +kernel
theorem dX5_deedOf_223 : decode cX5_deedOf 223 = .ok (.iconst 0, 1) := by decide +kernel
theorem dX5_deedOf_224 : decode cX5_deedOf 224 = .ok (.iload_n 2, 1) := by decide +kernel
theorem dX5_deedOf_225 : decode cX5_deedOf 225 = .ok (.invokevirtual 87, 3) := by decide +kernel
theorem dX5_deedOf_228 : decode cX5_deedOf 228 = .ok (.ifCond .eq 7, 3) := by decide +kernel
theorem dX5_deedOf_231 : decode cX5_deedOf 231 = .ok (.iconst 1, 1) := by decide +kernel
theorem dX5_deedOf_232 : decode cX5_deedOf 232 = .ok (.goto 4, 3) := by decide +kernel
theorem dX5_deedOf_235 : decode cX5_deedOf 235 = .ok (.iconst 0, 1) := by decide +kernel
theorem dX5_deedOf_236 : decode cX5_deedOf 236 = .ok (.ireturn, 1) := by decide +kernel
theorem dX5_deedOf_237 : decode cX5_deedOf 237 = .ok (.aload_n 0, 1) := by decide +kernel
theorem dX5_deedOf_238 : decode cX5_deedOf 238 = .ok (.iconst 1, 1) := by decide +kernel
theorem dX5_deedOf_239 : decode cX5_deedOf 239 = .ok (.bipush 60, 2) := by decide +kernel
theorem dX5_deedOf_241 : decode cX5_deedOf 241 = .ok (.invokevirtual 87, 3) := by decide +kernel
theorem dX5_deedOf_244 : decode cX5_deedOf 244 = .ok (.ireturn, 1) := by decide +kernel
theorem dX5_deedOf_245 : decode cX5_deedOf 245 = .ok (.aload_n 0, 1) := by decide +kernel
theorem dX5_deedOf_246 : decode cX5_deedOf 246 = .ok (.iconst 0, 1) := by decide +kernel
theorem dX5_deedOf_247 : decode cX5_deedOf 247 = .ok (.iload_n 3, 1) := by decide +kernel
theorem dX5_deedOf_248 : decode cX5_deedOf 248 = .ok (.invokevirtual 87, 3) := by decide +kernel
theorem dX5_deedOf_251 : decode cX5_deedOf 251 = .ok (.ifCond .eq 25, 3) := by decide +kernel
theorem dX5_deedOf_254 : decode cX5_deedOf 254 = .ok (.aload_n 0, 1) := by decide +kernel
theorem dX5_deedOf_255 : decode cX5_deedOf 255 = .ok (.bipush 23, 2) := by decide +kernel
theorem dX5_deedOf_257 : decode cX5_deedOf 257 = .ok (.invokevirtual 78, 3) := by decide +kernel
theorem dX5_deedOf_260 : decode cX5_deedOf 260 = .ok (.ifCond .eq 16, 3) := by decide +kernel
theorem dX5_deedOf_263 : decode cX5_deedOf 263 = .ok (.aload_n 0, 1) := by decide +kernel
theorem dX5_deedOf_264 : decode cX5_deedOf 264 = .ok (.iconst 0, 1) := by decide +kernel
theorem dX5_deedOf_265 : decode cX5_deedOf 265 = .ok (.iload_n 3, 1) := by decide +kernel
theorem dX5_deedOf_266 : decode cX5_deedOf 266 = .ok (.invokevirtual 87, 3) := by decide +kernel
theorem dX5_deedOf_269 : decode cX5_deedOf 269 = .ok (.ifCond .eq 7, 3) := by decide +kernel
theorem dX5_deedOf_272 : decode cX5_deedOf 272 = .ok (.iconst 1, 1) := by decide +kernel
theorem dX5_deedOf_273 : decode cX5_deedOf 273 = .ok (.goto 4, 3) := by decide +kernel
theorem dX5_deedOf_276 : decode cX5_deedOf 276 = .ok (.iconst 0, 1) := by decide +kernel
theorem dX5_deedOf_277 : decode cX5_deedOf 277 = .ok (.ireturn, 1) := by decide +kernel
def f_X5_deedOf_245 (N : Nat) (b_len : Int32) (b_tok : Int32) (b_ki : Nat → Int32) (b_pl : Nat → Int32) (b_nu : Nat → Int32) (x_cl : Int32) (x_pt : Int32) (x_rows : Nat → Int32) (e_fault : Int32) (e_place : Int32) (e_at : Int32) (x3 : Int32) : Option (Int32 × Int32 × (Nat → Int32) × Int32 × Int32 × Int32) := ob6 (f_X5_number N b_len b_tok b_ki b_pl b_nu x_cl x_pt x_rows e_fault e_place e_at (0 : Int32) x3) fun r248 x_pt_248 x_rows_248 e_fault_248 e_place_248 e_at_248 => if r248 = 0 then (some ((0 : Int32), x_pt_248, x_rows_248, e_fault_248, e_place_248, e_at_248)) else (ob4 (f_X5_expect N b_len b_tok b_ki b_pl e_fault_248 e_place_248 e_at_248 (23 : Int32)) fun r257 e_fault_257 e_place_257 e_at_257 => if r257 = 0 then (some ((0 : Int32), x_pt_248, x_rows_248, e_fault_257, e_place_257, e_at_257)) else (ob6 (f_X5_number N b_len b_tok b_ki b_pl b_nu x_cl x_pt_248 x_rows_248 e_fault_257 e_place_257 e_at_257 (0 : Int32) x3) fun r266 x_pt_266 x_rows_266 e_fault_266 e_place_266 e_at_266 => if r266 = 0 then (some ((0 : Int32), x_pt_266, x_rows_266, e_fault_266, e_place_266, e_at_266)) else (some ((1 : Int32), x_pt_266, x_rows_266, e_fault_266, e_place_266, e_at_266))))
def f_X5_deedOf (N : Nat) (b_len : Int32) (b_tok : Int32) (b_ki : Nat → Int32) (b_pl : Nat → Int32) (b_nu : Nat → Int32) (x_cl : Int32) (x_pt : Int32) (x_rows : Nat → Int32) (e_fault : Int32) (e_place : Int32) (e_at : Int32) (p1 : Int32) : Option (Int32 × Int32 × (Nat → Int32) × Int32 × Int32 × Int32) := if p1 = (4 : Int32) then (ob6 (f_X5_number N b_len b_tok b_ki b_pl b_nu x_cl x_pt x_rows e_fault e_place e_at (0 : Int32) (7 : Int32)) fun r67 x_pt_67 x_rows_67 e_fault_67 e_place_67 e_at_67 => if r67 = 0 then (some ((0 : Int32), x_pt_67, x_rows_67, e_fault_67, e_place_67, e_at_67)) else (ob4 (f_X5_expect N b_len b_tok b_ki b_pl e_fault_67 e_place_67 e_at_67 (21 : Int32)) fun r76 e_fault_76 e_place_76 e_at_76 => if r76 = 0 then (some ((0 : Int32), x_pt_67, x_rows_67, e_fault_76, e_place_76, e_at_76)) else (ob6 (f_X5_number N b_len b_tok b_ki b_pl b_nu x_cl x_pt_67 x_rows_67 e_fault_76 e_place_76 e_at_76 (0 : Int32) (7 : Int32)) fun r85 x_pt_85 x_rows_85 e_fault_85 e_place_85 e_at_85 => if r85 = 0 then (some ((0 : Int32), x_pt_85, x_rows_85, e_fault_85, e_place_85, e_at_85)) else (some ((1 : Int32), x_pt_85, x_rows_85, e_fault_85, e_place_85, e_at_85))))) else if p1 = (5 : Int32) then (ob6 (f_X5_number N b_len b_tok b_ki b_pl b_nu x_cl x_pt x_rows e_fault e_place e_at (0 : Int32) (7 : Int32)) fun r100 x_pt_100 x_rows_100 e_fault_100 e_place_100 e_at_100 => if r100 = 0 then (some ((0 : Int32), x_pt_100, x_rows_100, e_fault_100, e_place_100, e_at_100)) else (ob4 (f_X5_expect N b_len b_tok b_ki b_pl e_fault_100 e_place_100 e_at_100 (14 : Int32)) fun r109 e_fault_109 e_place_109 e_at_109 => if r109 = 0 then (some ((0 : Int32), x_pt_100, x_rows_100, e_fault_109, e_place_109, e_at_109)) else (ob6 (f_X5_number N b_len b_tok b_ki b_pl b_nu x_cl x_pt_100 x_rows_100 e_fault_109 e_place_109 e_at_109 (0 : Int32) (9 : Int32)) fun r119 x_pt_119 x_rows_119 e_fault_119 e_place_119 e_at_119 => if r119 = 0 then (some ((0 : Int32), x_pt_119, x_rows_119, e_fault_119, e_place_119, e_at_119)) else (ob4 (f_X5_expect N b_len b_tok b_ki b_pl e_fault_119 e_place_119 e_at_119 (18 : Int32)) fun r128 e_fault_128 e_place_128 e_at_128 => if r128 = 0 then (some ((0 : Int32), x_pt_119, x_rows_119, e_fault_128, e_place_128, e_at_128)) else (ob6 (f_X5_number N b_len b_tok b_ki b_pl b_nu x_cl x_pt_119 x_rows_119 e_fault_128 e_place_128 e_at_128 (0 : Int32) (9999 : Int32)) fun r139 x_pt_139 x_rows_139 e_fault_139 e_place_139 e_at_139 => if r139 = 0 then (some ((0 : Int32), x_pt_139, x_rows_139, e_fault_139, e_place_139, e_at_139)) else (ob4 (f_X5_expect N b_len b_tok b_ki b_pl e_fault_139 e_place_139 e_at_139 (19 : Int32)) fun r148 e_fault_148 e_place_148 e_at_148 => if r148 = 0 then (some ((0 : Int32), x_pt_139, x_rows_139, e_fault_148, e_place_148, e_at_148)) else (ob6 (f_X5_number N b_len b_tok b_ki b_pl b_nu x_cl x_pt_139 x_rows_139 e_fault_148 e_place_148 e_at_148 (0 : Int32) (9999 : Int32)) fun r159 x_pt_159 x_rows_159 e_fault_159 e_place_159 e_at_159 => if r159 = 0 then (some ((0 : Int32), x_pt_159, x_rows_159, e_fault_159, e_place_159, e_at_159)) else (some ((1 : Int32), x_pt_159, x_rows_159, e_fault_159, e_place_159, e_at_159))))))))) else if p1 = (6 : Int32) then (ob6 (f_X5_number N b_len b_tok b_ki b_pl b_nu x_cl x_pt x_rows e_fault e_place e_at (0 : Int32) (5 : Int32)) fun r174 x_pt_174 x_rows_174 e_fault_174 e_place_174 e_at_174 => if r174 = 0 then (some ((0 : Int32), x_pt_174, x_rows_174, e_fault_174, e_place_174, e_at_174)) else (ob4 (f_X5_expect N b_len b_tok b_ki b_pl e_fault_174 e_place_174 e_at_174 (22 : Int32)) fun r183 e_fault_183 e_place_183 e_at_183 => if r183 = 0 then (some ((0 : Int32), x_pt_174, x_rows_174, e_fault_183, e_place_183, e_at_183)) else (ob6 (f_X5_number N b_len b_tok b_ki b_pl b_nu x_cl x_pt_174 x_rows_174 e_fault_183 e_place_183 e_at_183 (0 : Int32) (7 : Int32)) fun r192 x_pt_192 x_rows_192 e_fault_192 e_place_192 e_at_192 => if r192 = 0 then (some ((0 : Int32), x_pt_192, x_rows_192, e_fault_192, e_place_192, e_at_192)) else (some ((1 : Int32), x_pt_192, x_rows_192, e_fault_192, e_place_192, e_at_192))))) else if p1 = (7 : Int32) then (ob6 (f_X5_number N b_len b_tok b_ki b_pl b_nu x_cl x_pt x_rows e_fault e_place e_at (0 : Int32) (5 : Int32)) fun r207 x_pt_207 x_rows_207 e_fault_207 e_place_207 e_at_207 => if r207 = 0 then (some ((0 : Int32), x_pt_207, x_rows_207, e_fault_207, e_place_207, e_at_207)) else (ob4 (f_X5_expect N b_len b_tok b_ki b_pl e_fault_207 e_place_207 e_at_207 (21 : Int32)) fun r216 e_fault_216 e_place_216 e_at_216 => if r216 = 0 then (some ((0 : Int32), x_pt_207, x_rows_207, e_fault_216, e_place_216, e_at_216)) else (ob6 (f_X5_number N b_len b_tok b_ki b_pl b_nu x_cl x_pt_207 x_rows_207 e_fault_216 e_place_216 e_at_216 (0 : Int32) (7 : Int32)) fun r225 x_pt_225 x_rows_225 e_fault_225 e_place_225 e_at_225 => if r225 = 0 then (some ((0 : Int32), x_pt_225, x_rows_225, e_fault_225, e_place_225, e_at_225)) else (some ((1 : Int32), x_pt_225, x_rows_225, e_fault_225, e_place_225, e_at_225))))) else if p1 = (11 : Int32) then (ob6 (f_X5_number N b_len b_tok b_ki b_pl b_nu x_cl x_pt x_rows e_fault e_place e_at (0 : Int32) (9 : Int32)) fun r60 x_pt_60 x_rows_60 e_fault_60 e_place_60 e_at_60 => some (r60, x_pt_60, x_rows_60, e_fault_60, e_place_60, e_at_60)) else if p1 = (12 : Int32) then (ob6 (f_X5_number N b_len b_tok b_ki b_pl b_nu x_cl x_pt x_rows e_fault e_place e_at (1 : Int32) (60 : Int32)) fun r241 x_pt_241 x_rows_241 e_fault_241 e_place_241 e_at_241 => some (r241, x_pt_241, x_rows_241, e_fault_241, e_place_241, e_at_241)) else (f_X5_deedOf_245 N b_len b_tok b_ki b_pl b_nu x_cl x_pt x_rows e_fault e_place e_at (5 : Int32))
set_option maxHeartbeats 4000000 in
set_option maxRecDepth 100000 in
theorem k_X5_deedOf (l : Launch) (N : Nat) (D : va_G) (cI cJ cZ cB cT : ClassId) (qb0 : Nat) (qb2 : Nat) (qb3 : Nat) (qb4 : Nat) (qx0 : Nat) (qx4 : Nat) (qe0 : Nat) (qb1 : Nat) (qx1 : Nat) (qx2 : Nat) (qx3 : Nat) (b_len : Int32) (b_tok : Int32) (b_ki : Nat → Int32) (b_pl : Nat → Int32) (b_nu : Nat → Int32) (x_cl : Int32) (x_ln : Int32) (x_pt : Int32) (x_rows : Nat → Int32) (e_fault : Int32) (e_place : Int32) (e_at : Int32) (e_law : Int32) (p1 : Int32) (o_r : Int32) (o_x_pt : Int32) (o_x_rows : Nat → Int32) (o_e_fault : Int32) (o_e_place : Int32) (o_e_at : Int32) (hf : f_X5_deedOf N b_len b_tok b_ki b_pl b_nu x_cl x_pt x_rows e_fault e_place e_at p1 = some (o_r, o_x_pt, o_x_rows, o_e_fault, o_e_place, o_e_at)) : ∀ sz, Met l yX5_deedOf (mw yX5_deedOf cX5_deedOf 4 (some .boolean)) ({ frames := 3, cells := 0, slots := 0, locals := 65 } : Room) (mPre D (mT cI cJ cZ cB cT) (W_RD_0_2t5_9t10 qb0 qb2 qb3 qb4 qx0 qx4 qe0 qb1 qx1 qx2 qx3 cI cJ cZ cB cT b_len b_tok b_ki b_pl b_nu x_cl x_ln x_pt x_rows e_fault e_place e_at e_law) sz [.ref qe0, .int p1]) ((mQi D (W_RD_0_2t5_9t10 qb0 qb2 qb3 qb4 qx0 qx4 qe0 qb1 qx1 qx2 qx3 cI cJ cZ cB cT b_len b_tok b_ki b_pl b_nu x_cl x_ln o_x_pt o_x_rows o_e_fault o_e_place o_e_at e_law) o_r (mB o_r)) (va_A (W_RD_0_2t5_9t10 qb0 qb2 qb3 qb4 qx0 qx4 qe0 qb1 qx1 qx2 qx3 cI cJ cZ cB cT b_len b_tok b_ki b_pl b_nu x_cl x_ln x_pt x_rows e_fault e_place e_at e_law) sz)) 0 0 (va_A (W_RD_0_2t5_9t10 qb0 qb2 qb3 qb4 qx0 qx4 qe0 qb1 qx1 qx2 qx3 cI cJ cZ cB cT b_len b_tok b_ki b_pl b_nu x_cl x_ln x_pt x_rows e_fault e_place e_at e_law) sz) := by
  refine mMet (Qc := (mQi D (W_RD_0_2t5_9t10 qb0 qb2 qb3 qb4 qx0 qx4 qe0 qb1 qx1 qx2 qx3 cI cJ cZ cB cT b_len b_tok b_ki b_pl b_nu x_cl x_ln o_x_pt o_x_rows o_e_fault o_e_place o_e_at e_law) o_r (mB o_r))) (by decide) (Nat.le_of_ble_eq_true rfl) (fun p e s m below meth c A ls hx hb hr hml hts hown hlocks hK hA hP hD hl => ?_)
  have hown : s.vm.findClass RX5 = some m.cls := hown
  have hl : lv_has ls 4 [(0, .ref qe0), (1, .int p1)] := hl
  have hS : va_S A s.heap s.heap [] := va_S.rf
  have b245 : ∀ (x_pt : Int32) (x_rows : Nat → Int32) (e_fault : Int32) (e_place : Int32) (e_at : Int32) (x3 : Int32) (H : Heap) (locs : List Loc) (ls : Array Slot), f_X5_deedOf_245 N b_len b_tok b_ki b_pl b_nu x_cl x_pt x_rows e_fault e_place e_at x3 = some (o_r, o_x_pt, o_x_rows, o_e_fault, o_e_place, o_e_at) → va_P D vwCl (W_RD_0_2t5_9t10 qb0 qb2 qb3 qb4 qx0 qx4 qe0 qb1 qx1 qx2 qx3 cI cJ cZ cB cT b_len b_tok b_ki b_pl b_nu x_cl x_ln x_pt x_rows e_fault e_place e_at e_law) H → va_D A (W_RD_0_2t5_9t10 qb0 qb2 qb3 qb4 qx0 qx4 qe0 qb1 qx1 qx2 qx3 cI cJ cZ cB cT b_len b_tok b_ki b_pl b_nu x_cl x_ln x_pt x_rows e_fault e_place e_at e_law) → va_S A s.heap H locs → lv_has ls 4 [(0, .ref qe0), (3, .int x3)] → W p l e ({ frames := 3, cells := 0, slots := 0, locals := 65 } : Room) s m ([.ref qe0, .int p1] : List Value).toArray below meth c H locs 0 0 (MQ below ((mQi D (W_RD_0_2t5_9t10 qb0 qb2 qb3 qb4 qx0 qx4 qe0 qb1 qx1 qx2 qx3 cI cJ cZ cB cT b_len b_tok b_ki b_pl b_nu x_cl x_ln o_x_pt o_x_rows o_e_fault o_e_place o_e_at e_law) o_r (mB o_r)) A) ([.ref qe0, .int p1] : List Value).toArray s 0 0 A) (F0 m 245 ls []) := by
    intro x_pt x_rows e_fault e_place e_at x3 H locs ls hf hP hD hS hl
    unfold f_X5_deedOf_245 at hf
    refine lv_aload_n hx hb dX5_deedOf_245 rfl (lv_at hl 0 rfl) ?_
    refine lv_iconst (v := (0 : Int32)) hx hb dX5_deedOf_246 (by decide) ?_
    refine lv_iload_n hx hb dX5_deedOf_247 rfl (lv_at hl 1 rfl) ?_
    obtain ⟨r248, x_pt_248, x_rows_248, e_fault_248, e_place_248, e_at_248, hg248, hf⟩ := ob6_some hf
    refine mcV1_i (As := [.int (0 : Int32), .int x3]) (rest := []) hx hb hml hown hts hK hP hD hS hA (k_X5_number l N D cI cJ cZ cB cT qb0 qb2 qb3 qb4 qx0 qx4 qe0 qb1 qx1 qx2 qx3 b_len b_tok b_ki b_pl b_nu x_cl x_ln x_pt x_rows e_fault e_place e_at e_law (0 : Int32) x3 r248 x_pt_248 x_rows_248 e_fault_248 e_place_248 e_at_248 hg248) (kwX5_87 hts rfl rfl ⟨Nat.le_of_ble_eq_true rfl, Nat.le_of_ble_eq_true rfl⟩) 6 rfl rfl rfl rfl hl.1 rfl (Nat.le_of_ble_eq_true rfl) dX5_deedOf_248 ⟨Nat.zero_le _, Nat.zero_le _⟩ (fun hB248 H locs hP hD hS => ?_)
    have hP : va_P D vwCl (W_RD_0_2t5_9t10 qb0 qb2 qb3 qb4 qx0 qx4 qe0 qb1 qx1 qx2 qx3 cI cJ cZ cB cT b_len b_tok b_ki b_pl b_nu x_cl x_ln x_pt_248 x_rows_248 e_fault_248 e_place_248 e_at_248 e_law) H := hP
    have hD : va_D A (W_RD_0_2t5_9t10 qb0 qb2 qb3 qb4 qx0 qx4 qe0 qb1 qx1 qx2 qx3 cI cJ cZ cB cT b_len b_tok b_ki b_pl b_nu x_cl x_ln x_pt_248 x_rows_248 e_fault_248 e_place_248 e_at_248 e_law) := hD
    refine xif_eq hx hb 276 dX5_deedOf_251 (by decide) hf (fun hf => ?_) (fun hf => ?_)
    · refine lv_iconst (v := (0 : Int32)) hx hb dX5_deedOf_276 (by decide) ?_
      cases hf
      exact mret_z hx hb hr hlocks hP hD hS dX5_deedOf_277 rfl rfl
    · refine lv_aload_n hx hb dX5_deedOf_254 rfl (lv_at hl 0 rfl) ?_
      refine lv_bipush (v := (23 : Int32)) hx hb dX5_deedOf_255 (by decide) ?_
      obtain ⟨r257, e_fault_257, e_place_257, e_at_257, hg257, hf⟩ := ob4_some hf
      refine mcV_i (wr := [(qb4, .inl (cI, 301, .inl b_nu)), (qx0, .inr (9, [.int x_cl, .int x_ln, .int x_pt_248, .ref qx1, .ref qx2, .ref qx3, .ref qx4])), (qx4, .inl (cI, 120, .inl x_rows_248))]) (As := [.int (23 : Int32)]) (rest := []) hx hb hml hown hts hK hP hD hS hA (k_X5_expect l N D cI cJ cZ cB cT qb0 qb2 qb3 qe0 qb1 qb4 qx0 b_len b_tok b_ki b_pl e_fault_248 e_place_248 e_at_248 e_law (23 : Int32) r257 e_fault_257 e_place_257 e_at_257 hg257) (kwX5_78 hts rfl rfl ⟨Nat.le_of_ble_eq_true rfl, Nat.le_of_ble_eq_true rfl⟩) [0, 1, 2, 6] [3, 4, 5] rfl rfl rfl (by decide) rfl 3 rfl rfl rfl rfl hl.1 rfl (Nat.le_of_ble_eq_true rfl) dX5_deedOf_257 ⟨Nat.zero_le _, Nat.zero_le _⟩ (fun hB257 H locs hP hD hS => ?_)
      have hP := mP_sub (wc := (W_RD_0_2t5_9t10 qb0 qb2 qb3 qb4 qx0 qx4 qe0 qb1 qx1 qx2 qx3 cI cJ cZ cB cT b_len b_tok b_ki b_pl b_nu x_cl x_ln x_pt_248 x_rows_248 e_fault_257 e_place_257 e_at_257 e_law)) hP [3, 4, 5, 0, 1, 2, 6] rfl
      have hD := hD.sub (ws' := (W_RD_0_2t5_9t10 qb0 qb2 qb3 qb4 qx0 qx4 qe0 qb1 qx1 qx2 qx3 cI cJ cZ cB cT b_len b_tok b_ki b_pl b_nu x_cl x_ln x_pt_248 x_rows_248 e_fault_257 e_place_257 e_at_257 e_law)) [3, 4, 5, 0, 1, 2, 6] rfl rfl
      refine xif_eq hx hb 276 dX5_deedOf_260 (by decide) hf (fun hf => ?_) (fun hf => ?_)
      · refine lv_iconst (v := (0 : Int32)) hx hb dX5_deedOf_276 (by decide) ?_
        cases hf
        exact mret_z hx hb hr hlocks hP hD hS dX5_deedOf_277 rfl rfl
      · refine lv_aload_n hx hb dX5_deedOf_263 rfl (lv_at hl 0 rfl) ?_
        refine lv_iconst (v := (0 : Int32)) hx hb dX5_deedOf_264 (by decide) ?_
        refine lv_iload_n hx hb dX5_deedOf_265 rfl (lv_at hl 1 rfl) ?_
        obtain ⟨r266, x_pt_266, x_rows_266, e_fault_266, e_place_266, e_at_266, hg266, hf⟩ := ob6_some hf
        refine mcV1_i (As := [.int (0 : Int32), .int x3]) (rest := []) hx hb hml hown hts hK hP hD hS hA (k_X5_number l N D cI cJ cZ cB cT qb0 qb2 qb3 qb4 qx0 qx4 qe0 qb1 qx1 qx2 qx3 b_len b_tok b_ki b_pl b_nu x_cl x_ln x_pt_248 x_rows_248 e_fault_257 e_place_257 e_at_257 e_law (0 : Int32) x3 r266 x_pt_266 x_rows_266 e_fault_266 e_place_266 e_at_266 hg266) (kwX5_87 hts rfl rfl ⟨Nat.le_of_ble_eq_true rfl, Nat.le_of_ble_eq_true rfl⟩) 6 rfl rfl rfl rfl hl.1 rfl (Nat.le_of_ble_eq_true rfl) dX5_deedOf_266 ⟨Nat.zero_le _, Nat.zero_le _⟩ (fun hB266 H locs hP hD hS => ?_)
        have hP : va_P D vwCl (W_RD_0_2t5_9t10 qb0 qb2 qb3 qb4 qx0 qx4 qe0 qb1 qx1 qx2 qx3 cI cJ cZ cB cT b_len b_tok b_ki b_pl b_nu x_cl x_ln x_pt_266 x_rows_266 e_fault_266 e_place_266 e_at_266 e_law) H := hP
        have hD : va_D A (W_RD_0_2t5_9t10 qb0 qb2 qb3 qb4 qx0 qx4 qe0 qb1 qx1 qx2 qx3 cI cJ cZ cB cT b_len b_tok b_ki b_pl b_nu x_cl x_ln x_pt_266 x_rows_266 e_fault_266 e_place_266 e_at_266 e_law) := hD
        refine xif_eq hx hb 276 dX5_deedOf_269 (by decide) hf (fun hf => ?_) (fun hf => ?_)
        · refine lv_iconst (v := (0 : Int32)) hx hb dX5_deedOf_276 (by decide) ?_
          cases hf
          exact mret_z hx hb hr hlocks hP hD hS dX5_deedOf_277 rfl rfl
        · refine lv_iconst (v := (1 : Int32)) hx hb dX5_deedOf_272 (by decide) ?_
          refine lv_goto (tgt := 277) hx hb dX5_deedOf_273 (by decide) ?_
          cases hf
          exact mret_z hx hb hr hlocks hP hD hS dX5_deedOf_277 rfl rfl
  unfold f_X5_deedOf at hf
  refine lv_bipush (v := (7 : Int32)) hx hb dX5_deedOf_0 (by decide) ?_
  refine lv_istore_n (lv' := [(2, .int (7 : Int32)), (0, .ref qe0), (1, .int p1)]) hx hb dX5_deedOf_2 rfl hl (by decide) rfl (fun ls hl => ?_)
  refine lv_iconst (v := (5 : Int32)) hx hb dX5_deedOf_3 (by decide) ?_
  refine lv_istore_n (lv' := [(3, .int (5 : Int32)), (2, .int (7 : Int32)), (0, .ref qe0), (1, .int p1)]) hx hb dX5_deedOf_4 rfl hl (by decide) rfl (fun ls hl => ?_)
  refine lv_iload_n hx hb dX5_deedOf_5 rfl (lv_at hl 3 rfl) ?_
  by_cases e6_4 : p1 = (4 : Int32)
  · replace hf := (if_pos e6_4).symm.trans hf
    refine lv_tableIn (off := 58) (tgt := 64) hx hb dX5_deedOf_6 (by rw [e6_4]; decide) (by rw [e6_4]; decide) (by rw [e6_4]; rfl) (by decide) ?_
    refine lv_aload_n hx hb dX5_deedOf_64 rfl (lv_at hl 2 rfl) ?_
    refine lv_iconst (v := (0 : Int32)) hx hb dX5_deedOf_65 (by decide) ?_
    refine lv_iload_n hx hb dX5_deedOf_66 rfl (lv_at hl 1 rfl) ?_
    obtain ⟨r67, x_pt_67, x_rows_67, e_fault_67, e_place_67, e_at_67, hg67, hf⟩ := ob6_some hf
    refine mcV1_i (As := [.int (0 : Int32), .int (7 : Int32)]) (rest := []) hx hb hml hown hts hK hP hD hS hA (k_X5_number l N D cI cJ cZ cB cT qb0 qb2 qb3 qb4 qx0 qx4 qe0 qb1 qx1 qx2 qx3 b_len b_tok b_ki b_pl b_nu x_cl x_ln x_pt x_rows e_fault e_place e_at e_law (0 : Int32) (7 : Int32) r67 x_pt_67 x_rows_67 e_fault_67 e_place_67 e_at_67 hg67) (kwX5_87 hts rfl rfl ⟨Nat.le_of_ble_eq_true rfl, Nat.le_of_ble_eq_true rfl⟩) 6 rfl rfl rfl rfl hl.1 rfl (Nat.le_of_ble_eq_true rfl) dX5_deedOf_67 ⟨Nat.zero_le _, Nat.zero_le _⟩ (fun hB67 H locs hP hD hS => ?_)
    have hP : va_P D vwCl (W_RD_0_2t5_9t10 qb0 qb2 qb3 qb4 qx0 qx4 qe0 qb1 qx1 qx2 qx3 cI cJ cZ cB cT b_len b_tok b_ki b_pl b_nu x_cl x_ln x_pt_67 x_rows_67 e_fault_67 e_place_67 e_at_67 e_law) H := hP
    have hD : va_D A (W_RD_0_2t5_9t10 qb0 qb2 qb3 qb4 qx0 qx4 qe0 qb1 qx1 qx2 qx3 cI cJ cZ cB cT b_len b_tok b_ki b_pl b_nu x_cl x_ln x_pt_67 x_rows_67 e_fault_67 e_place_67 e_at_67 e_law) := hD
    refine xif_eq hx hb 95 dX5_deedOf_70 (by decide) hf (fun hf => ?_) (fun hf => ?_)
    · refine lv_iconst (v := (0 : Int32)) hx hb dX5_deedOf_95 (by decide) ?_
      cases hf
      exact mret_z hx hb hr hlocks hP hD hS dX5_deedOf_96 rfl rfl
    · refine lv_aload_n hx hb dX5_deedOf_73 rfl (lv_at hl 2 rfl) ?_
      refine lv_bipush (v := (21 : Int32)) hx hb dX5_deedOf_74 (by decide) ?_
      obtain ⟨r76, e_fault_76, e_place_76, e_at_76, hg76, hf⟩ := ob4_some hf
      refine mcV_i (wr := [(qb4, .inl (cI, 301, .inl b_nu)), (qx0, .inr (9, [.int x_cl, .int x_ln, .int x_pt_67, .ref qx1, .ref qx2, .ref qx3, .ref qx4])), (qx4, .inl (cI, 120, .inl x_rows_67))]) (As := [.int (21 : Int32)]) (rest := []) hx hb hml hown hts hK hP hD hS hA (k_X5_expect l N D cI cJ cZ cB cT qb0 qb2 qb3 qe0 qb1 qb4 qx0 b_len b_tok b_ki b_pl e_fault_67 e_place_67 e_at_67 e_law (21 : Int32) r76 e_fault_76 e_place_76 e_at_76 hg76) (kwX5_78 hts rfl rfl ⟨Nat.le_of_ble_eq_true rfl, Nat.le_of_ble_eq_true rfl⟩) [0, 1, 2, 6] [3, 4, 5] rfl rfl rfl (by decide) rfl 3 rfl rfl rfl rfl hl.1 rfl (Nat.le_of_ble_eq_true rfl) dX5_deedOf_76 ⟨Nat.zero_le _, Nat.zero_le _⟩ (fun hB76 H locs hP hD hS => ?_)
      have hP := mP_sub (wc := (W_RD_0_2t5_9t10 qb0 qb2 qb3 qb4 qx0 qx4 qe0 qb1 qx1 qx2 qx3 cI cJ cZ cB cT b_len b_tok b_ki b_pl b_nu x_cl x_ln x_pt_67 x_rows_67 e_fault_76 e_place_76 e_at_76 e_law)) hP [3, 4, 5, 0, 1, 2, 6] rfl
      have hD := hD.sub (ws' := (W_RD_0_2t5_9t10 qb0 qb2 qb3 qb4 qx0 qx4 qe0 qb1 qx1 qx2 qx3 cI cJ cZ cB cT b_len b_tok b_ki b_pl b_nu x_cl x_ln x_pt_67 x_rows_67 e_fault_76 e_place_76 e_at_76 e_law)) [3, 4, 5, 0, 1, 2, 6] rfl rfl
      refine xif_eq hx hb 95 dX5_deedOf_79 (by decide) hf (fun hf => ?_) (fun hf => ?_)
      · refine lv_iconst (v := (0 : Int32)) hx hb dX5_deedOf_95 (by decide) ?_
        cases hf
        exact mret_z hx hb hr hlocks hP hD hS dX5_deedOf_96 rfl rfl
      · refine lv_aload_n hx hb dX5_deedOf_82 rfl (lv_at hl 2 rfl) ?_
        refine lv_iconst (v := (0 : Int32)) hx hb dX5_deedOf_83 (by decide) ?_
        refine lv_iload_n hx hb dX5_deedOf_84 rfl (lv_at hl 1 rfl) ?_
        obtain ⟨r85, x_pt_85, x_rows_85, e_fault_85, e_place_85, e_at_85, hg85, hf⟩ := ob6_some hf
        refine mcV1_i (As := [.int (0 : Int32), .int (7 : Int32)]) (rest := []) hx hb hml hown hts hK hP hD hS hA (k_X5_number l N D cI cJ cZ cB cT qb0 qb2 qb3 qb4 qx0 qx4 qe0 qb1 qx1 qx2 qx3 b_len b_tok b_ki b_pl b_nu x_cl x_ln x_pt_67 x_rows_67 e_fault_76 e_place_76 e_at_76 e_law (0 : Int32) (7 : Int32) r85 x_pt_85 x_rows_85 e_fault_85 e_place_85 e_at_85 hg85) (kwX5_87 hts rfl rfl ⟨Nat.le_of_ble_eq_true rfl, Nat.le_of_ble_eq_true rfl⟩) 6 rfl rfl rfl rfl hl.1 rfl (Nat.le_of_ble_eq_true rfl) dX5_deedOf_85 ⟨Nat.zero_le _, Nat.zero_le _⟩ (fun hB85 H locs hP hD hS => ?_)
        have hP : va_P D vwCl (W_RD_0_2t5_9t10 qb0 qb2 qb3 qb4 qx0 qx4 qe0 qb1 qx1 qx2 qx3 cI cJ cZ cB cT b_len b_tok b_ki b_pl b_nu x_cl x_ln x_pt_85 x_rows_85 e_fault_85 e_place_85 e_at_85 e_law) H := hP
        have hD : va_D A (W_RD_0_2t5_9t10 qb0 qb2 qb3 qb4 qx0 qx4 qe0 qb1 qx1 qx2 qx3 cI cJ cZ cB cT b_len b_tok b_ki b_pl b_nu x_cl x_ln x_pt_85 x_rows_85 e_fault_85 e_place_85 e_at_85 e_law) := hD
        refine xif_eq hx hb 95 dX5_deedOf_88 (by decide) hf (fun hf => ?_) (fun hf => ?_)
        · refine lv_iconst (v := (0 : Int32)) hx hb dX5_deedOf_95 (by decide) ?_
          cases hf
          exact mret_z hx hb hr hlocks hP hD hS dX5_deedOf_96 rfl rfl
        · refine lv_iconst (v := (1 : Int32)) hx hb dX5_deedOf_91 (by decide) ?_
          refine lv_goto (tgt := 96) hx hb dX5_deedOf_92 (by decide) ?_
          cases hf
          exact mret_z hx hb hr hlocks hP hD hS dX5_deedOf_96 rfl rfl
  replace hf := (if_neg e6_4).symm.trans hf
  by_cases e6_5 : p1 = (5 : Int32)
  · replace hf := (if_pos e6_5).symm.trans hf
    refine lv_tableIn (off := 91) (tgt := 97) hx hb dX5_deedOf_6 (by rw [e6_5]; decide) (by rw [e6_5]; decide) (by rw [e6_5]; rfl) (by decide) ?_
    refine lv_aload_n hx hb dX5_deedOf_97 rfl (lv_at hl 2 rfl) ?_
    refine lv_iconst (v := (0 : Int32)) hx hb dX5_deedOf_98 (by decide) ?_
    refine lv_iload_n hx hb dX5_deedOf_99 rfl (lv_at hl 1 rfl) ?_
    obtain ⟨r100, x_pt_100, x_rows_100, e_fault_100, e_place_100, e_at_100, hg100, hf⟩ := ob6_some hf
    refine mcV1_i (As := [.int (0 : Int32), .int (7 : Int32)]) (rest := []) hx hb hml hown hts hK hP hD hS hA (k_X5_number l N D cI cJ cZ cB cT qb0 qb2 qb3 qb4 qx0 qx4 qe0 qb1 qx1 qx2 qx3 b_len b_tok b_ki b_pl b_nu x_cl x_ln x_pt x_rows e_fault e_place e_at e_law (0 : Int32) (7 : Int32) r100 x_pt_100 x_rows_100 e_fault_100 e_place_100 e_at_100 hg100) (kwX5_87 hts rfl rfl ⟨Nat.le_of_ble_eq_true rfl, Nat.le_of_ble_eq_true rfl⟩) 6 rfl rfl rfl rfl hl.1 rfl (Nat.le_of_ble_eq_true rfl) dX5_deedOf_100 ⟨Nat.zero_le _, Nat.zero_le _⟩ (fun hB100 H locs hP hD hS => ?_)
    have hP : va_P D vwCl (W_RD_0_2t5_9t10 qb0 qb2 qb3 qb4 qx0 qx4 qe0 qb1 qx1 qx2 qx3 cI cJ cZ cB cT b_len b_tok b_ki b_pl b_nu x_cl x_ln x_pt_100 x_rows_100 e_fault_100 e_place_100 e_at_100 e_law) H := hP
    have hD : va_D A (W_RD_0_2t5_9t10 qb0 qb2 qb3 qb4 qx0 qx4 qe0 qb1 qx1 qx2 qx3 cI cJ cZ cB cT b_len b_tok b_ki b_pl b_nu x_cl x_ln x_pt_100 x_rows_100 e_fault_100 e_place_100 e_at_100 e_law) := hD
    refine xif_eq hx hb 169 dX5_deedOf_103 (by decide) hf (fun hf => ?_) (fun hf => ?_)
    · refine lv_iconst (v := (0 : Int32)) hx hb dX5_deedOf_169 (by decide) ?_
      cases hf
      exact mret_z hx hb hr hlocks hP hD hS dX5_deedOf_170 rfl rfl
    · refine lv_aload_n hx hb dX5_deedOf_106 rfl (lv_at hl 2 rfl) ?_
      refine lv_bipush (v := (14 : Int32)) hx hb dX5_deedOf_107 (by decide) ?_
      obtain ⟨r109, e_fault_109, e_place_109, e_at_109, hg109, hf⟩ := ob4_some hf
      refine mcV_i (wr := [(qb4, .inl (cI, 301, .inl b_nu)), (qx0, .inr (9, [.int x_cl, .int x_ln, .int x_pt_100, .ref qx1, .ref qx2, .ref qx3, .ref qx4])), (qx4, .inl (cI, 120, .inl x_rows_100))]) (As := [.int (14 : Int32)]) (rest := []) hx hb hml hown hts hK hP hD hS hA (k_X5_expect l N D cI cJ cZ cB cT qb0 qb2 qb3 qe0 qb1 qb4 qx0 b_len b_tok b_ki b_pl e_fault_100 e_place_100 e_at_100 e_law (14 : Int32) r109 e_fault_109 e_place_109 e_at_109 hg109) (kwX5_78 hts rfl rfl ⟨Nat.le_of_ble_eq_true rfl, Nat.le_of_ble_eq_true rfl⟩) [0, 1, 2, 6] [3, 4, 5] rfl rfl rfl (by decide) rfl 3 rfl rfl rfl rfl hl.1 rfl (Nat.le_of_ble_eq_true rfl) dX5_deedOf_109 ⟨Nat.zero_le _, Nat.zero_le _⟩ (fun hB109 H locs hP hD hS => ?_)
      have hP := mP_sub (wc := (W_RD_0_2t5_9t10 qb0 qb2 qb3 qb4 qx0 qx4 qe0 qb1 qx1 qx2 qx3 cI cJ cZ cB cT b_len b_tok b_ki b_pl b_nu x_cl x_ln x_pt_100 x_rows_100 e_fault_109 e_place_109 e_at_109 e_law)) hP [3, 4, 5, 0, 1, 2, 6] rfl
      have hD := hD.sub (ws' := (W_RD_0_2t5_9t10 qb0 qb2 qb3 qb4 qx0 qx4 qe0 qb1 qx1 qx2 qx3 cI cJ cZ cB cT b_len b_tok b_ki b_pl b_nu x_cl x_ln x_pt_100 x_rows_100 e_fault_109 e_place_109 e_at_109 e_law)) [3, 4, 5, 0, 1, 2, 6] rfl rfl
      refine xif_eq hx hb 169 dX5_deedOf_112 (by decide) hf (fun hf => ?_) (fun hf => ?_)
      · refine lv_iconst (v := (0 : Int32)) hx hb dX5_deedOf_169 (by decide) ?_
        cases hf
        exact mret_z hx hb hr hlocks hP hD hS dX5_deedOf_170 rfl rfl
      · refine lv_aload_n hx hb dX5_deedOf_115 rfl (lv_at hl 2 rfl) ?_
        refine lv_iconst (v := (0 : Int32)) hx hb dX5_deedOf_116 (by decide) ?_
        refine lv_bipush (v := (9 : Int32)) hx hb dX5_deedOf_117 (by decide) ?_
        obtain ⟨r119, x_pt_119, x_rows_119, e_fault_119, e_place_119, e_at_119, hg119, hf⟩ := ob6_some hf
        refine mcV1_i (As := [.int (0 : Int32), .int (9 : Int32)]) (rest := []) hx hb hml hown hts hK hP hD hS hA (k_X5_number l N D cI cJ cZ cB cT qb0 qb2 qb3 qb4 qx0 qx4 qe0 qb1 qx1 qx2 qx3 b_len b_tok b_ki b_pl b_nu x_cl x_ln x_pt_100 x_rows_100 e_fault_109 e_place_109 e_at_109 e_law (0 : Int32) (9 : Int32) r119 x_pt_119 x_rows_119 e_fault_119 e_place_119 e_at_119 hg119) (kwX5_87 hts rfl rfl ⟨Nat.le_of_ble_eq_true rfl, Nat.le_of_ble_eq_true rfl⟩) 6 rfl rfl rfl rfl hl.1 rfl (Nat.le_of_ble_eq_true rfl) dX5_deedOf_119 ⟨Nat.zero_le _, Nat.zero_le _⟩ (fun hB119 H locs hP hD hS => ?_)
        have hP : va_P D vwCl (W_RD_0_2t5_9t10 qb0 qb2 qb3 qb4 qx0 qx4 qe0 qb1 qx1 qx2 qx3 cI cJ cZ cB cT b_len b_tok b_ki b_pl b_nu x_cl x_ln x_pt_119 x_rows_119 e_fault_119 e_place_119 e_at_119 e_law) H := hP
        have hD : va_D A (W_RD_0_2t5_9t10 qb0 qb2 qb3 qb4 qx0 qx4 qe0 qb1 qx1 qx2 qx3 cI cJ cZ cB cT b_len b_tok b_ki b_pl b_nu x_cl x_ln x_pt_119 x_rows_119 e_fault_119 e_place_119 e_at_119 e_law) := hD
        refine xif_eq hx hb 169 dX5_deedOf_122 (by decide) hf (fun hf => ?_) (fun hf => ?_)
        · refine lv_iconst (v := (0 : Int32)) hx hb dX5_deedOf_169 (by decide) ?_
          cases hf
          exact mret_z hx hb hr hlocks hP hD hS dX5_deedOf_170 rfl rfl
        · refine lv_aload_n hx hb dX5_deedOf_125 rfl (lv_at hl 2 rfl) ?_
          refine lv_bipush (v := (18 : Int32)) hx hb dX5_deedOf_126 (by decide) ?_
          obtain ⟨r128, e_fault_128, e_place_128, e_at_128, hg128, hf⟩ := ob4_some hf
          refine mcV_i (wr := [(qb4, .inl (cI, 301, .inl b_nu)), (qx0, .inr (9, [.int x_cl, .int x_ln, .int x_pt_119, .ref qx1, .ref qx2, .ref qx3, .ref qx4])), (qx4, .inl (cI, 120, .inl x_rows_119))]) (As := [.int (18 : Int32)]) (rest := []) hx hb hml hown hts hK hP hD hS hA (k_X5_expect l N D cI cJ cZ cB cT qb0 qb2 qb3 qe0 qb1 qb4 qx0 b_len b_tok b_ki b_pl e_fault_119 e_place_119 e_at_119 e_law (18 : Int32) r128 e_fault_128 e_place_128 e_at_128 hg128) (kwX5_78 hts rfl rfl ⟨Nat.le_of_ble_eq_true rfl, Nat.le_of_ble_eq_true rfl⟩) [0, 1, 2, 6] [3, 4, 5] rfl rfl rfl (by decide) rfl 3 rfl rfl rfl rfl hl.1 rfl (Nat.le_of_ble_eq_true rfl) dX5_deedOf_128 ⟨Nat.zero_le _, Nat.zero_le _⟩ (fun hB128 H locs hP hD hS => ?_)
          have hP := mP_sub (wc := (W_RD_0_2t5_9t10 qb0 qb2 qb3 qb4 qx0 qx4 qe0 qb1 qx1 qx2 qx3 cI cJ cZ cB cT b_len b_tok b_ki b_pl b_nu x_cl x_ln x_pt_119 x_rows_119 e_fault_128 e_place_128 e_at_128 e_law)) hP [3, 4, 5, 0, 1, 2, 6] rfl
          have hD := hD.sub (ws' := (W_RD_0_2t5_9t10 qb0 qb2 qb3 qb4 qx0 qx4 qe0 qb1 qx1 qx2 qx3 cI cJ cZ cB cT b_len b_tok b_ki b_pl b_nu x_cl x_ln x_pt_119 x_rows_119 e_fault_128 e_place_128 e_at_128 e_law)) [3, 4, 5, 0, 1, 2, 6] rfl rfl
          refine xif_eq hx hb 169 dX5_deedOf_131 (by decide) hf (fun hf => ?_) (fun hf => ?_)
          · refine lv_iconst (v := (0 : Int32)) hx hb dX5_deedOf_169 (by decide) ?_
            cases hf
            exact mret_z hx hb hr hlocks hP hD hS dX5_deedOf_170 rfl rfl
          · refine lv_aload_n hx hb dX5_deedOf_134 rfl (lv_at hl 2 rfl) ?_
            refine lv_iconst (v := (0 : Int32)) hx hb dX5_deedOf_135 (by decide) ?_
            refine lv_sipush (v := (9999 : Int32)) hx hb dX5_deedOf_136 (by decide) ?_
            obtain ⟨r139, x_pt_139, x_rows_139, e_fault_139, e_place_139, e_at_139, hg139, hf⟩ := ob6_some hf
            refine mcV1_i (As := [.int (0 : Int32), .int (9999 : Int32)]) (rest := []) hx hb hml hown hts hK hP hD hS hA (k_X5_number l N D cI cJ cZ cB cT qb0 qb2 qb3 qb4 qx0 qx4 qe0 qb1 qx1 qx2 qx3 b_len b_tok b_ki b_pl b_nu x_cl x_ln x_pt_119 x_rows_119 e_fault_128 e_place_128 e_at_128 e_law (0 : Int32) (9999 : Int32) r139 x_pt_139 x_rows_139 e_fault_139 e_place_139 e_at_139 hg139) (kwX5_87 hts rfl rfl ⟨Nat.le_of_ble_eq_true rfl, Nat.le_of_ble_eq_true rfl⟩) 6 rfl rfl rfl rfl hl.1 rfl (Nat.le_of_ble_eq_true rfl) dX5_deedOf_139 ⟨Nat.zero_le _, Nat.zero_le _⟩ (fun hB139 H locs hP hD hS => ?_)
            have hP : va_P D vwCl (W_RD_0_2t5_9t10 qb0 qb2 qb3 qb4 qx0 qx4 qe0 qb1 qx1 qx2 qx3 cI cJ cZ cB cT b_len b_tok b_ki b_pl b_nu x_cl x_ln x_pt_139 x_rows_139 e_fault_139 e_place_139 e_at_139 e_law) H := hP
            have hD : va_D A (W_RD_0_2t5_9t10 qb0 qb2 qb3 qb4 qx0 qx4 qe0 qb1 qx1 qx2 qx3 cI cJ cZ cB cT b_len b_tok b_ki b_pl b_nu x_cl x_ln x_pt_139 x_rows_139 e_fault_139 e_place_139 e_at_139 e_law) := hD
            refine xif_eq hx hb 169 dX5_deedOf_142 (by decide) hf (fun hf => ?_) (fun hf => ?_)
            · refine lv_iconst (v := (0 : Int32)) hx hb dX5_deedOf_169 (by decide) ?_
              cases hf
              exact mret_z hx hb hr hlocks hP hD hS dX5_deedOf_170 rfl rfl
            · refine lv_aload_n hx hb dX5_deedOf_145 rfl (lv_at hl 2 rfl) ?_
              refine lv_bipush (v := (19 : Int32)) hx hb dX5_deedOf_146 (by decide) ?_
              obtain ⟨r148, e_fault_148, e_place_148, e_at_148, hg148, hf⟩ := ob4_some hf
              refine mcV_i (wr := [(qb4, .inl (cI, 301, .inl b_nu)), (qx0, .inr (9, [.int x_cl, .int x_ln, .int x_pt_139, .ref qx1, .ref qx2, .ref qx3, .ref qx4])), (qx4, .inl (cI, 120, .inl x_rows_139))]) (As := [.int (19 : Int32)]) (rest := []) hx hb hml hown hts hK hP hD hS hA (k_X5_expect l N D cI cJ cZ cB cT qb0 qb2 qb3 qe0 qb1 qb4 qx0 b_len b_tok b_ki b_pl e_fault_139 e_place_139 e_at_139 e_law (19 : Int32) r148 e_fault_148 e_place_148 e_at_148 hg148) (kwX5_78 hts rfl rfl ⟨Nat.le_of_ble_eq_true rfl, Nat.le_of_ble_eq_true rfl⟩) [0, 1, 2, 6] [3, 4, 5] rfl rfl rfl (by decide) rfl 3 rfl rfl rfl rfl hl.1 rfl (Nat.le_of_ble_eq_true rfl) dX5_deedOf_148 ⟨Nat.zero_le _, Nat.zero_le _⟩ (fun hB148 H locs hP hD hS => ?_)
              have hP := mP_sub (wc := (W_RD_0_2t5_9t10 qb0 qb2 qb3 qb4 qx0 qx4 qe0 qb1 qx1 qx2 qx3 cI cJ cZ cB cT b_len b_tok b_ki b_pl b_nu x_cl x_ln x_pt_139 x_rows_139 e_fault_148 e_place_148 e_at_148 e_law)) hP [3, 4, 5, 0, 1, 2, 6] rfl
              have hD := hD.sub (ws' := (W_RD_0_2t5_9t10 qb0 qb2 qb3 qb4 qx0 qx4 qe0 qb1 qx1 qx2 qx3 cI cJ cZ cB cT b_len b_tok b_ki b_pl b_nu x_cl x_ln x_pt_139 x_rows_139 e_fault_148 e_place_148 e_at_148 e_law)) [3, 4, 5, 0, 1, 2, 6] rfl rfl
              refine xif_eq hx hb 169 dX5_deedOf_151 (by decide) hf (fun hf => ?_) (fun hf => ?_)
              · refine lv_iconst (v := (0 : Int32)) hx hb dX5_deedOf_169 (by decide) ?_
                cases hf
                exact mret_z hx hb hr hlocks hP hD hS dX5_deedOf_170 rfl rfl
              · refine lv_aload_n hx hb dX5_deedOf_154 rfl (lv_at hl 2 rfl) ?_
                refine lv_iconst (v := (0 : Int32)) hx hb dX5_deedOf_155 (by decide) ?_
                refine lv_sipush (v := (9999 : Int32)) hx hb dX5_deedOf_156 (by decide) ?_
                obtain ⟨r159, x_pt_159, x_rows_159, e_fault_159, e_place_159, e_at_159, hg159, hf⟩ := ob6_some hf
                refine mcV1_i (As := [.int (0 : Int32), .int (9999 : Int32)]) (rest := []) hx hb hml hown hts hK hP hD hS hA (k_X5_number l N D cI cJ cZ cB cT qb0 qb2 qb3 qb4 qx0 qx4 qe0 qb1 qx1 qx2 qx3 b_len b_tok b_ki b_pl b_nu x_cl x_ln x_pt_139 x_rows_139 e_fault_148 e_place_148 e_at_148 e_law (0 : Int32) (9999 : Int32) r159 x_pt_159 x_rows_159 e_fault_159 e_place_159 e_at_159 hg159) (kwX5_87 hts rfl rfl ⟨Nat.le_of_ble_eq_true rfl, Nat.le_of_ble_eq_true rfl⟩) 6 rfl rfl rfl rfl hl.1 rfl (Nat.le_of_ble_eq_true rfl) dX5_deedOf_159 ⟨Nat.zero_le _, Nat.zero_le _⟩ (fun hB159 H locs hP hD hS => ?_)
                have hP : va_P D vwCl (W_RD_0_2t5_9t10 qb0 qb2 qb3 qb4 qx0 qx4 qe0 qb1 qx1 qx2 qx3 cI cJ cZ cB cT b_len b_tok b_ki b_pl b_nu x_cl x_ln x_pt_159 x_rows_159 e_fault_159 e_place_159 e_at_159 e_law) H := hP
                have hD : va_D A (W_RD_0_2t5_9t10 qb0 qb2 qb3 qb4 qx0 qx4 qe0 qb1 qx1 qx2 qx3 cI cJ cZ cB cT b_len b_tok b_ki b_pl b_nu x_cl x_ln x_pt_159 x_rows_159 e_fault_159 e_place_159 e_at_159 e_law) := hD
                refine xif_eq hx hb 169 dX5_deedOf_162 (by decide) hf (fun hf => ?_) (fun hf => ?_)
                · refine lv_iconst (v := (0 : Int32)) hx hb dX5_deedOf_169 (by decide) ?_
                  cases hf
                  exact mret_z hx hb hr hlocks hP hD hS dX5_deedOf_170 rfl rfl
                · refine lv_iconst (v := (1 : Int32)) hx hb dX5_deedOf_165 (by decide) ?_
                  refine lv_goto (tgt := 170) hx hb dX5_deedOf_166 (by decide) ?_
                  cases hf
                  exact mret_z hx hb hr hlocks hP hD hS dX5_deedOf_170 rfl rfl
  replace hf := (if_neg e6_5).symm.trans hf
  by_cases e6_6 : p1 = (6 : Int32)
  · replace hf := (if_pos e6_6).symm.trans hf
    refine lv_tableIn (off := 165) (tgt := 171) hx hb dX5_deedOf_6 (by rw [e6_6]; decide) (by rw [e6_6]; decide) (by rw [e6_6]; rfl) (by decide) ?_
    refine lv_aload_n hx hb dX5_deedOf_171 rfl (lv_at hl 2 rfl) ?_
    refine lv_iconst (v := (0 : Int32)) hx hb dX5_deedOf_172 (by decide) ?_
    refine lv_iload_n hx hb dX5_deedOf_173 rfl (lv_at hl 0 rfl) ?_
    obtain ⟨r174, x_pt_174, x_rows_174, e_fault_174, e_place_174, e_at_174, hg174, hf⟩ := ob6_some hf
    refine mcV1_i (As := [.int (0 : Int32), .int (5 : Int32)]) (rest := []) hx hb hml hown hts hK hP hD hS hA (k_X5_number l N D cI cJ cZ cB cT qb0 qb2 qb3 qb4 qx0 qx4 qe0 qb1 qx1 qx2 qx3 b_len b_tok b_ki b_pl b_nu x_cl x_ln x_pt x_rows e_fault e_place e_at e_law (0 : Int32) (5 : Int32) r174 x_pt_174 x_rows_174 e_fault_174 e_place_174 e_at_174 hg174) (kwX5_87 hts rfl rfl ⟨Nat.le_of_ble_eq_true rfl, Nat.le_of_ble_eq_true rfl⟩) 6 rfl rfl rfl rfl hl.1 rfl (Nat.le_of_ble_eq_true rfl) dX5_deedOf_174 ⟨Nat.zero_le _, Nat.zero_le _⟩ (fun hB174 H locs hP hD hS => ?_)
    have hP : va_P D vwCl (W_RD_0_2t5_9t10 qb0 qb2 qb3 qb4 qx0 qx4 qe0 qb1 qx1 qx2 qx3 cI cJ cZ cB cT b_len b_tok b_ki b_pl b_nu x_cl x_ln x_pt_174 x_rows_174 e_fault_174 e_place_174 e_at_174 e_law) H := hP
    have hD : va_D A (W_RD_0_2t5_9t10 qb0 qb2 qb3 qb4 qx0 qx4 qe0 qb1 qx1 qx2 qx3 cI cJ cZ cB cT b_len b_tok b_ki b_pl b_nu x_cl x_ln x_pt_174 x_rows_174 e_fault_174 e_place_174 e_at_174 e_law) := hD
    refine xif_eq hx hb 202 dX5_deedOf_177 (by decide) hf (fun hf => ?_) (fun hf => ?_)
    · refine lv_iconst (v := (0 : Int32)) hx hb dX5_deedOf_202 (by decide) ?_
      cases hf
      exact mret_z hx hb hr hlocks hP hD hS dX5_deedOf_203 rfl rfl
    · refine lv_aload_n hx hb dX5_deedOf_180 rfl (lv_at hl 2 rfl) ?_
      refine lv_bipush (v := (22 : Int32)) hx hb dX5_deedOf_181 (by decide) ?_
      obtain ⟨r183, e_fault_183, e_place_183, e_at_183, hg183, hf⟩ := ob4_some hf
      refine mcV_i (wr := [(qb4, .inl (cI, 301, .inl b_nu)), (qx0, .inr (9, [.int x_cl, .int x_ln, .int x_pt_174, .ref qx1, .ref qx2, .ref qx3, .ref qx4])), (qx4, .inl (cI, 120, .inl x_rows_174))]) (As := [.int (22 : Int32)]) (rest := []) hx hb hml hown hts hK hP hD hS hA (k_X5_expect l N D cI cJ cZ cB cT qb0 qb2 qb3 qe0 qb1 qb4 qx0 b_len b_tok b_ki b_pl e_fault_174 e_place_174 e_at_174 e_law (22 : Int32) r183 e_fault_183 e_place_183 e_at_183 hg183) (kwX5_78 hts rfl rfl ⟨Nat.le_of_ble_eq_true rfl, Nat.le_of_ble_eq_true rfl⟩) [0, 1, 2, 6] [3, 4, 5] rfl rfl rfl (by decide) rfl 3 rfl rfl rfl rfl hl.1 rfl (Nat.le_of_ble_eq_true rfl) dX5_deedOf_183 ⟨Nat.zero_le _, Nat.zero_le _⟩ (fun hB183 H locs hP hD hS => ?_)
      have hP := mP_sub (wc := (W_RD_0_2t5_9t10 qb0 qb2 qb3 qb4 qx0 qx4 qe0 qb1 qx1 qx2 qx3 cI cJ cZ cB cT b_len b_tok b_ki b_pl b_nu x_cl x_ln x_pt_174 x_rows_174 e_fault_183 e_place_183 e_at_183 e_law)) hP [3, 4, 5, 0, 1, 2, 6] rfl
      have hD := hD.sub (ws' := (W_RD_0_2t5_9t10 qb0 qb2 qb3 qb4 qx0 qx4 qe0 qb1 qx1 qx2 qx3 cI cJ cZ cB cT b_len b_tok b_ki b_pl b_nu x_cl x_ln x_pt_174 x_rows_174 e_fault_183 e_place_183 e_at_183 e_law)) [3, 4, 5, 0, 1, 2, 6] rfl rfl
      refine xif_eq hx hb 202 dX5_deedOf_186 (by decide) hf (fun hf => ?_) (fun hf => ?_)
      · refine lv_iconst (v := (0 : Int32)) hx hb dX5_deedOf_202 (by decide) ?_
        cases hf
        exact mret_z hx hb hr hlocks hP hD hS dX5_deedOf_203 rfl rfl
      · refine lv_aload_n hx hb dX5_deedOf_189 rfl (lv_at hl 2 rfl) ?_
        refine lv_iconst (v := (0 : Int32)) hx hb dX5_deedOf_190 (by decide) ?_
        refine lv_iload_n hx hb dX5_deedOf_191 rfl (lv_at hl 1 rfl) ?_
        obtain ⟨r192, x_pt_192, x_rows_192, e_fault_192, e_place_192, e_at_192, hg192, hf⟩ := ob6_some hf
        refine mcV1_i (As := [.int (0 : Int32), .int (7 : Int32)]) (rest := []) hx hb hml hown hts hK hP hD hS hA (k_X5_number l N D cI cJ cZ cB cT qb0 qb2 qb3 qb4 qx0 qx4 qe0 qb1 qx1 qx2 qx3 b_len b_tok b_ki b_pl b_nu x_cl x_ln x_pt_174 x_rows_174 e_fault_183 e_place_183 e_at_183 e_law (0 : Int32) (7 : Int32) r192 x_pt_192 x_rows_192 e_fault_192 e_place_192 e_at_192 hg192) (kwX5_87 hts rfl rfl ⟨Nat.le_of_ble_eq_true rfl, Nat.le_of_ble_eq_true rfl⟩) 6 rfl rfl rfl rfl hl.1 rfl (Nat.le_of_ble_eq_true rfl) dX5_deedOf_192 ⟨Nat.zero_le _, Nat.zero_le _⟩ (fun hB192 H locs hP hD hS => ?_)
        have hP : va_P D vwCl (W_RD_0_2t5_9t10 qb0 qb2 qb3 qb4 qx0 qx4 qe0 qb1 qx1 qx2 qx3 cI cJ cZ cB cT b_len b_tok b_ki b_pl b_nu x_cl x_ln x_pt_192 x_rows_192 e_fault_192 e_place_192 e_at_192 e_law) H := hP
        have hD : va_D A (W_RD_0_2t5_9t10 qb0 qb2 qb3 qb4 qx0 qx4 qe0 qb1 qx1 qx2 qx3 cI cJ cZ cB cT b_len b_tok b_ki b_pl b_nu x_cl x_ln x_pt_192 x_rows_192 e_fault_192 e_place_192 e_at_192 e_law) := hD
        refine xif_eq hx hb 202 dX5_deedOf_195 (by decide) hf (fun hf => ?_) (fun hf => ?_)
        · refine lv_iconst (v := (0 : Int32)) hx hb dX5_deedOf_202 (by decide) ?_
          cases hf
          exact mret_z hx hb hr hlocks hP hD hS dX5_deedOf_203 rfl rfl
        · refine lv_iconst (v := (1 : Int32)) hx hb dX5_deedOf_198 (by decide) ?_
          refine lv_goto (tgt := 203) hx hb dX5_deedOf_199 (by decide) ?_
          cases hf
          exact mret_z hx hb hr hlocks hP hD hS dX5_deedOf_203 rfl rfl
  replace hf := (if_neg e6_6).symm.trans hf
  by_cases e6_7 : p1 = (7 : Int32)
  · replace hf := (if_pos e6_7).symm.trans hf
    refine lv_tableIn (off := 198) (tgt := 204) hx hb dX5_deedOf_6 (by rw [e6_7]; decide) (by rw [e6_7]; decide) (by rw [e6_7]; rfl) (by decide) ?_
    refine lv_aload_n hx hb dX5_deedOf_204 rfl (lv_at hl 2 rfl) ?_
    refine lv_iconst (v := (0 : Int32)) hx hb dX5_deedOf_205 (by decide) ?_
    refine lv_iload_n hx hb dX5_deedOf_206 rfl (lv_at hl 0 rfl) ?_
    obtain ⟨r207, x_pt_207, x_rows_207, e_fault_207, e_place_207, e_at_207, hg207, hf⟩ := ob6_some hf
    refine mcV1_i (As := [.int (0 : Int32), .int (5 : Int32)]) (rest := []) hx hb hml hown hts hK hP hD hS hA (k_X5_number l N D cI cJ cZ cB cT qb0 qb2 qb3 qb4 qx0 qx4 qe0 qb1 qx1 qx2 qx3 b_len b_tok b_ki b_pl b_nu x_cl x_ln x_pt x_rows e_fault e_place e_at e_law (0 : Int32) (5 : Int32) r207 x_pt_207 x_rows_207 e_fault_207 e_place_207 e_at_207 hg207) (kwX5_87 hts rfl rfl ⟨Nat.le_of_ble_eq_true rfl, Nat.le_of_ble_eq_true rfl⟩) 6 rfl rfl rfl rfl hl.1 rfl (Nat.le_of_ble_eq_true rfl) dX5_deedOf_207 ⟨Nat.zero_le _, Nat.zero_le _⟩ (fun hB207 H locs hP hD hS => ?_)
    have hP : va_P D vwCl (W_RD_0_2t5_9t10 qb0 qb2 qb3 qb4 qx0 qx4 qe0 qb1 qx1 qx2 qx3 cI cJ cZ cB cT b_len b_tok b_ki b_pl b_nu x_cl x_ln x_pt_207 x_rows_207 e_fault_207 e_place_207 e_at_207 e_law) H := hP
    have hD : va_D A (W_RD_0_2t5_9t10 qb0 qb2 qb3 qb4 qx0 qx4 qe0 qb1 qx1 qx2 qx3 cI cJ cZ cB cT b_len b_tok b_ki b_pl b_nu x_cl x_ln x_pt_207 x_rows_207 e_fault_207 e_place_207 e_at_207 e_law) := hD
    refine xif_eq hx hb 235 dX5_deedOf_210 (by decide) hf (fun hf => ?_) (fun hf => ?_)
    · refine lv_iconst (v := (0 : Int32)) hx hb dX5_deedOf_235 (by decide) ?_
      cases hf
      exact mret_z hx hb hr hlocks hP hD hS dX5_deedOf_236 rfl rfl
    · refine lv_aload_n hx hb dX5_deedOf_213 rfl (lv_at hl 2 rfl) ?_
      refine lv_bipush (v := (21 : Int32)) hx hb dX5_deedOf_214 (by decide) ?_
      obtain ⟨r216, e_fault_216, e_place_216, e_at_216, hg216, hf⟩ := ob4_some hf
      refine mcV_i (wr := [(qb4, .inl (cI, 301, .inl b_nu)), (qx0, .inr (9, [.int x_cl, .int x_ln, .int x_pt_207, .ref qx1, .ref qx2, .ref qx3, .ref qx4])), (qx4, .inl (cI, 120, .inl x_rows_207))]) (As := [.int (21 : Int32)]) (rest := []) hx hb hml hown hts hK hP hD hS hA (k_X5_expect l N D cI cJ cZ cB cT qb0 qb2 qb3 qe0 qb1 qb4 qx0 b_len b_tok b_ki b_pl e_fault_207 e_place_207 e_at_207 e_law (21 : Int32) r216 e_fault_216 e_place_216 e_at_216 hg216) (kwX5_78 hts rfl rfl ⟨Nat.le_of_ble_eq_true rfl, Nat.le_of_ble_eq_true rfl⟩) [0, 1, 2, 6] [3, 4, 5] rfl rfl rfl (by decide) rfl 3 rfl rfl rfl rfl hl.1 rfl (Nat.le_of_ble_eq_true rfl) dX5_deedOf_216 ⟨Nat.zero_le _, Nat.zero_le _⟩ (fun hB216 H locs hP hD hS => ?_)
      have hP := mP_sub (wc := (W_RD_0_2t5_9t10 qb0 qb2 qb3 qb4 qx0 qx4 qe0 qb1 qx1 qx2 qx3 cI cJ cZ cB cT b_len b_tok b_ki b_pl b_nu x_cl x_ln x_pt_207 x_rows_207 e_fault_216 e_place_216 e_at_216 e_law)) hP [3, 4, 5, 0, 1, 2, 6] rfl
      have hD := hD.sub (ws' := (W_RD_0_2t5_9t10 qb0 qb2 qb3 qb4 qx0 qx4 qe0 qb1 qx1 qx2 qx3 cI cJ cZ cB cT b_len b_tok b_ki b_pl b_nu x_cl x_ln x_pt_207 x_rows_207 e_fault_216 e_place_216 e_at_216 e_law)) [3, 4, 5, 0, 1, 2, 6] rfl rfl
      refine xif_eq hx hb 235 dX5_deedOf_219 (by decide) hf (fun hf => ?_) (fun hf => ?_)
      · refine lv_iconst (v := (0 : Int32)) hx hb dX5_deedOf_235 (by decide) ?_
        cases hf
        exact mret_z hx hb hr hlocks hP hD hS dX5_deedOf_236 rfl rfl
      · refine lv_aload_n hx hb dX5_deedOf_222 rfl (lv_at hl 2 rfl) ?_
        refine lv_iconst (v := (0 : Int32)) hx hb dX5_deedOf_223 (by decide) ?_
        refine lv_iload_n hx hb dX5_deedOf_224 rfl (lv_at hl 1 rfl) ?_
        obtain ⟨r225, x_pt_225, x_rows_225, e_fault_225, e_place_225, e_at_225, hg225, hf⟩ := ob6_some hf
        refine mcV1_i (As := [.int (0 : Int32), .int (7 : Int32)]) (rest := []) hx hb hml hown hts hK hP hD hS hA (k_X5_number l N D cI cJ cZ cB cT qb0 qb2 qb3 qb4 qx0 qx4 qe0 qb1 qx1 qx2 qx3 b_len b_tok b_ki b_pl b_nu x_cl x_ln x_pt_207 x_rows_207 e_fault_216 e_place_216 e_at_216 e_law (0 : Int32) (7 : Int32) r225 x_pt_225 x_rows_225 e_fault_225 e_place_225 e_at_225 hg225) (kwX5_87 hts rfl rfl ⟨Nat.le_of_ble_eq_true rfl, Nat.le_of_ble_eq_true rfl⟩) 6 rfl rfl rfl rfl hl.1 rfl (Nat.le_of_ble_eq_true rfl) dX5_deedOf_225 ⟨Nat.zero_le _, Nat.zero_le _⟩ (fun hB225 H locs hP hD hS => ?_)
        have hP : va_P D vwCl (W_RD_0_2t5_9t10 qb0 qb2 qb3 qb4 qx0 qx4 qe0 qb1 qx1 qx2 qx3 cI cJ cZ cB cT b_len b_tok b_ki b_pl b_nu x_cl x_ln x_pt_225 x_rows_225 e_fault_225 e_place_225 e_at_225 e_law) H := hP
        have hD : va_D A (W_RD_0_2t5_9t10 qb0 qb2 qb3 qb4 qx0 qx4 qe0 qb1 qx1 qx2 qx3 cI cJ cZ cB cT b_len b_tok b_ki b_pl b_nu x_cl x_ln x_pt_225 x_rows_225 e_fault_225 e_place_225 e_at_225 e_law) := hD
        refine xif_eq hx hb 235 dX5_deedOf_228 (by decide) hf (fun hf => ?_) (fun hf => ?_)
        · refine lv_iconst (v := (0 : Int32)) hx hb dX5_deedOf_235 (by decide) ?_
          cases hf
          exact mret_z hx hb hr hlocks hP hD hS dX5_deedOf_236 rfl rfl
        · refine lv_iconst (v := (1 : Int32)) hx hb dX5_deedOf_231 (by decide) ?_
          refine lv_goto (tgt := 236) hx hb dX5_deedOf_232 (by decide) ?_
          cases hf
          exact mret_z hx hb hr hlocks hP hD hS dX5_deedOf_236 rfl rfl
  replace hf := (if_neg e6_7).symm.trans hf
  by_cases e6_11 : p1 = (11 : Int32)
  · replace hf := (if_pos e6_11).symm.trans hf
    refine lv_tableIn (off := 50) (tgt := 56) hx hb dX5_deedOf_6 (by rw [e6_11]; decide) (by rw [e6_11]; decide) (by rw [e6_11]; rfl) (by decide) ?_
    refine lv_aload_n hx hb dX5_deedOf_56 rfl (lv_at hl 2 rfl) ?_
    refine lv_iconst (v := (0 : Int32)) hx hb dX5_deedOf_57 (by decide) ?_
    refine lv_bipush (v := (9 : Int32)) hx hb dX5_deedOf_58 (by decide) ?_
    obtain ⟨r60, x_pt_60, x_rows_60, e_fault_60, e_place_60, e_at_60, hg60, hf⟩ := ob6_some hf
    refine mcV1_i (As := [.int (0 : Int32), .int (9 : Int32)]) (rest := []) hx hb hml hown hts hK hP hD hS hA (k_X5_number l N D cI cJ cZ cB cT qb0 qb2 qb3 qb4 qx0 qx4 qe0 qb1 qx1 qx2 qx3 b_len b_tok b_ki b_pl b_nu x_cl x_ln x_pt x_rows e_fault e_place e_at e_law (0 : Int32) (9 : Int32) r60 x_pt_60 x_rows_60 e_fault_60 e_place_60 e_at_60 hg60) (kwX5_87 hts rfl rfl ⟨Nat.le_of_ble_eq_true rfl, Nat.le_of_ble_eq_true rfl⟩) 6 rfl rfl rfl rfl hl.1 rfl (Nat.le_of_ble_eq_true rfl) dX5_deedOf_60 ⟨Nat.zero_le _, Nat.zero_le _⟩ (fun hB60 H locs hP hD hS => ?_)
    have hP : va_P D vwCl (W_RD_0_2t5_9t10 qb0 qb2 qb3 qb4 qx0 qx4 qe0 qb1 qx1 qx2 qx3 cI cJ cZ cB cT b_len b_tok b_ki b_pl b_nu x_cl x_ln x_pt_60 x_rows_60 e_fault_60 e_place_60 e_at_60 e_law) H := hP
    have hD : va_D A (W_RD_0_2t5_9t10 qb0 qb2 qb3 qb4 qx0 qx4 qe0 qb1 qx1 qx2 qx3 cI cJ cZ cB cT b_len b_tok b_ki b_pl b_nu x_cl x_ln x_pt_60 x_rows_60 e_fault_60 e_place_60 e_at_60 e_law) := hD
    cases hf
    exact mret_z hx hb hr hlocks hP hD hS dX5_deedOf_63 rfl hB60
  replace hf := (if_neg e6_11).symm.trans hf
  by_cases e6_12 : p1 = (12 : Int32)
  · replace hf := (if_pos e6_12).symm.trans hf
    refine lv_tableIn (off := 231) (tgt := 237) hx hb dX5_deedOf_6 (by rw [e6_12]; decide) (by rw [e6_12]; decide) (by rw [e6_12]; rfl) (by decide) ?_
    refine lv_aload_n hx hb dX5_deedOf_237 rfl (lv_at hl 2 rfl) ?_
    refine lv_iconst (v := (1 : Int32)) hx hb dX5_deedOf_238 (by decide) ?_
    refine lv_bipush (v := (60 : Int32)) hx hb dX5_deedOf_239 (by decide) ?_
    obtain ⟨r241, x_pt_241, x_rows_241, e_fault_241, e_place_241, e_at_241, hg241, hf⟩ := ob6_some hf
    refine mcV1_i (As := [.int (1 : Int32), .int (60 : Int32)]) (rest := []) hx hb hml hown hts hK hP hD hS hA (k_X5_number l N D cI cJ cZ cB cT qb0 qb2 qb3 qb4 qx0 qx4 qe0 qb1 qx1 qx2 qx3 b_len b_tok b_ki b_pl b_nu x_cl x_ln x_pt x_rows e_fault e_place e_at e_law (1 : Int32) (60 : Int32) r241 x_pt_241 x_rows_241 e_fault_241 e_place_241 e_at_241 hg241) (kwX5_87 hts rfl rfl ⟨Nat.le_of_ble_eq_true rfl, Nat.le_of_ble_eq_true rfl⟩) 6 rfl rfl rfl rfl hl.1 rfl (Nat.le_of_ble_eq_true rfl) dX5_deedOf_241 ⟨Nat.zero_le _, Nat.zero_le _⟩ (fun hB241 H locs hP hD hS => ?_)
    have hP : va_P D vwCl (W_RD_0_2t5_9t10 qb0 qb2 qb3 qb4 qx0 qx4 qe0 qb1 qx1 qx2 qx3 cI cJ cZ cB cT b_len b_tok b_ki b_pl b_nu x_cl x_ln x_pt_241 x_rows_241 e_fault_241 e_place_241 e_at_241 e_law) H := hP
    have hD : va_D A (W_RD_0_2t5_9t10 qb0 qb2 qb3 qb4 qx0 qx4 qe0 qb1 qx1 qx2 qx3 cI cJ cZ cB cT b_len b_tok b_ki b_pl b_nu x_cl x_ln x_pt_241 x_rows_241 e_fault_241 e_place_241 e_at_241 e_law) := hD
    cases hf
    exact mret_z hx hb hr hlocks hP hD hS dX5_deedOf_244 rfl hB241
  replace hf := (if_neg e6_12).symm.trans hf
  by_cases e6_8 : p1 = (8 : Int32)
  · refine lv_tableIn (off := 239) (tgt := 245) hx hb dX5_deedOf_6 (by rw [e6_8]; decide) (by rw [e6_8]; decide) (by rw [e6_8]; rfl) (by decide) ?_
    exact b245 x_pt x_rows e_fault e_place e_at (5 : Int32) _ _ _ hf hP hD hS (lv_sub hl [2, 0] rfl)
  by_cases e6_9 : p1 = (9 : Int32)
  · refine lv_tableIn (off := 239) (tgt := 245) hx hb dX5_deedOf_6 (by rw [e6_9]; decide) (by rw [e6_9]; decide) (by rw [e6_9]; rfl) (by decide) ?_
    exact b245 x_pt x_rows e_fault e_place e_at (5 : Int32) _ _ _ hf hP hD hS (lv_sub hl [2, 0] rfl)
  by_cases e6_10 : p1 = (10 : Int32)
  · refine lv_tableIn (off := 239) (tgt := 245) hx hb dX5_deedOf_6 (by rw [e6_10]; decide) (by rw [e6_10]; decide) (by rw [e6_10]; rfl) (by decide) ?_
    exact b245 x_pt x_rows e_fault e_place e_at (5 : Int32) _ _ _ hf hP hD hS (lv_sub hl [2, 0] rfl)
  have ne6_4 : p1.toInt ≠ (4 : Int) := sw_ne e6_4
  have ne6_5 : p1.toInt ≠ (5 : Int) := sw_ne e6_5
  have ne6_6 : p1.toInt ≠ (6 : Int) := sw_ne e6_6
  have ne6_7 : p1.toInt ≠ (7 : Int) := sw_ne e6_7
  have ne6_8 : p1.toInt ≠ (8 : Int) := sw_ne e6_8
  have ne6_9 : p1.toInt ≠ (9 : Int) := sw_ne e6_9
  have ne6_10 : p1.toInt ≠ (10 : Int) := sw_ne e6_10
  have ne6_11 : p1.toInt ≠ (11 : Int) := sw_ne e6_11
  have ne6_12 : p1.toInt ≠ (12 : Int) := sw_ne e6_12
  refine lv_tableOut (tgt := 245) hx hb dX5_deedOf_6 (by omega) (by decide) ?_
  exact b245 x_pt x_rows e_fault e_place e_at (5 : Int32) _ _ _ hf hP hD hS (lv_sub hl [2, 0] rfl)
