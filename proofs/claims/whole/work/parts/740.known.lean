def flat0 : List Cond := flatC (Jvm.Cond.and given_1 narrow_1)
theorem at_f {w : Cond} (k : Nat) (h : flat0[k]? = some w) : w ∈ flat0 := List.mem_of_getElem? h
set_option maxRecDepth 100000 in
theorem fl_nl_all : (List.range 10).map (fun j => Cond.eq (.elem (.static "WolfsHead$Reader" "NAME_LAWS" "[I") (.int (Int32.ofNat j))) (.int (nlF j))) = (flat0.drop 12).take 10 := by rfl
theorem fl_nl (j : Nat) (hj : j < 10) : Cond.eq (.elem (.static "WolfsHead$Reader" "NAME_LAWS" "[I") (.int (Int32.ofNat j))) (.int (nlF j)) ∈ flat0 := by
  have h : Cond.eq (.elem (.static "WolfsHead$Reader" "NAME_LAWS" "[I") (.int (Int32.ofNat j))) (.int (nlF j)) ∈ (flat0.drop 12).take 10 := by
    rw [← fl_nl_all]
    exact List.mem_map.mpr ⟨j, List.mem_range.mpr hj, rfl⟩
  exact List.mem_of_mem_drop (List.mem_of_mem_take h)
set_option maxRecDepth 100000 in
theorem fl_mo_all : (List.range 4).map (fun j => Cond.eq (.elem (.static "WolfsHead$Laws" "MOST" "[I") (.int (Int32.ofNat j))) (.int (mostF j))) = (flat0.drop 25).take 4 := by rfl
theorem fl_mo (j : Nat) (hj : j < 4) : Cond.eq (.elem (.static "WolfsHead$Laws" "MOST" "[I") (.int (Int32.ofNat j))) (.int (mostF j)) ∈ flat0 := by
  have h : Cond.eq (.elem (.static "WolfsHead$Laws" "MOST" "[I") (.int (Int32.ofNat j))) (.int (mostF j)) ∈ (flat0.drop 25).take 4 := by
    rw [← fl_mo_all]
    exact List.mem_map.mpr ⟨j, List.mem_range.mpr hj, rfl⟩
  exact List.mem_of_mem_drop (List.mem_of_mem_take h)
set_option maxRecDepth 100000 in
theorem fl_st_all : (List.range 169).map (fun j => Cond.eq (.elem (.field (.string "WolfsHead$Tape" 65) "java/lang/String" "value" "[B") (.int (Int32.ofNat j))) (.int (([wordsL].getD 0 []).getD j 0))) = (flat0.drop 33).take 169 := by rfl
theorem fl_st (j : Nat) (hj : j < 169) : Cond.eq (.elem (.field (.string "WolfsHead$Tape" 65) "java/lang/String" "value" "[B") (.int (Int32.ofNat j))) (.int (([wordsL].getD 0 []).getD j 0)) ∈ flat0 := by
  have h : Cond.eq (.elem (.field (.string "WolfsHead$Tape" 65) "java/lang/String" "value" "[B") (.int (Int32.ofNat j))) (.int (([wordsL].getD 0 []).getD j 0)) ∈ (flat0.drop 33).take 169 := by
    rw [← fl_st_all]
    exact List.mem_map.mpr ⟨j, List.mem_range.mpr hj, rfl⟩
  exact List.mem_of_mem_drop (List.mem_of_mem_take h)
set_option maxHeartbeats 4000000 in
set_option maxRecDepth 100000 in
theorem env_of {args : Array Value} {s : State} (hgv : (Jvm.Cond.and given_1 narrow_1).before args s = true) (hts0 : ∀ w ∈ lw_tbl, w.before args s = true) : mEnv (fun q : Nat => s.heap.size ≤ q) s s.heap := by
  have hf : ∀ c ∈ flat0, c.before args s = true := flat_of_before _ hgv
  have hAn : ∀ a : Nat, a < s.heap.size → ¬ (fun q : Nat => s.heap.size ≤ q) a := fun a h => Nat.not_le.mpr h
  obtain ⟨tM, hM1, hM2⟩ := va_Tof (tm := .static "WolfsHead$Laws" "MOST" "[I") (ty := .int) (N := 4) (f := fun j => .int (mostF j)) (by decide) (hf _ (at_f 23 rfl)) (va_eqt (hf _ (at_f 24 rfl))) (fun j hj => va_eqt (hf _ (fl_mo j hj))) hAn
  obtain ⟨tL, hL1, hL2⟩ := va_Tof (tm := .static "WolfsHead$Reader" "NAME_LAWS" "[I") (ty := .int) (N := 10) (f := fun j => .int (nlF j)) (by decide) (hf _ (at_f 10 rfl)) (va_eqt (hf _ (at_f 11 rfl))) (fun j hj => va_eqt (hf _ (fl_nl j hj))) hAn
  have z0 : ∀ i : Nat, i < 1 → i = 0 := fun i h => by omega
  obtain ⟨adK, adV, hS, hT⟩ := vk_Sof (N := 1) (tm := fun _ => .string "WolfsHead$Tape" 65) (len := [169]) (byt := [wordsL]) (A := fun q : Nat => s.heap.size ≤ q) (args := args) (s := s) (fun i hi => by have e := z0 i hi; subst e; decide) (fun i hi => hf _ (at_f 29 rfl)) (fun i hi => hf _ (at_f 30 rfl)) (fun i hi => hf _ (at_f 31 rfl)) (fun i hi => by have e := z0 i hi; subst e; exact hf _ (at_f 32 rfl)) (fun i hi j hj => by have e := z0 i hi; subst e; exact hf _ (fl_st j hj)) (fun i j hi hj hne => absurd ((z0 i hi).trans (z0 j hj).symm) hne) hAn
  refine ⟨⟨tM, va_Zof (hts0 _ (t4_in (List.mem_of_getElem? (i := 11) rfl))) (hts0 _ (t1_in (List.mem_of_getElem? (i := 9) rfl))) hM1 hAn, hM2⟩, ⟨tL, va_Zof (hts0 _ (t3_in (List.mem_of_getElem? (i := 119) rfl))) (hts0 _ (t1_in (List.mem_of_getElem? (i := 8) rfl))) hL1 hAn, hL2⟩, ⟨va_Nw.of rfl (hts0 _ (t5_in (List.mem_of_getElem? (i := 192) rfl))), va_Nw.of rfl (hts0 _ (t5_in (List.mem_of_getElem? (i := 26) rfl)))⟩, adK 0, adV 0, vk_R.of (hts0 (.stringRef RX8 65 wordsTx) (t2_in (List.mem_of_getElem? (i := 231) rfl))) (hT 0 (by decide)), va_Zof (hts0 _ (t3_in (List.mem_of_getElem? (i := 1) rfl))) (hts0 _ (t1_in (List.mem_of_getElem? (i := 14) rfl))) (va_eqi (hf _ (at_f 4 rfl))) hAn, va_Zqof (hts0 _ (t3_in (List.mem_of_getElem? (i := 17) rfl))) (hts0 _ (t1_in (List.mem_of_getElem? (i := 16) rfl))) (hf _ (at_f 5 rfl)) hAn, fun i hi => ?_, fun i j hi hj _ => by omega⟩
  have e := z0 i hi
  subst e
  exact hS.1 0 hi
set_option maxRecDepth 100000 in
theorem cenv_of {args : Array Value} {s : State} (hts0 : ∀ w ∈ lw_tbl, w.before args s = true) : cEnv s :=
  ⟨va_AO.of (hts0 (.arrayOver (.object "WolfsHead$Text")) (t1_in (List.mem_of_getElem? (i := 166) rfl))), va_Nw.of rfl (hts0 _ (t1_in (List.mem_of_getElem? (i := 31) rfl))), va_Nw.of rfl (hts0 _ (t1_in (List.mem_of_getElem? (i := 169) rfl))), va_Nw.of rfl (hts0 _ (t2_in (List.mem_of_getElem? (i := 21) rfl))), va_Nw.of rfl (hts0 _ (t2_in (List.mem_of_getElem? (i := 62) rfl))), va_Nw.of rfl (hts0 _ (t1_in (List.mem_of_getElem? (i := 37) rfl))), va_Nw.of rfl (hts0 _ (t1_in (List.mem_of_getElem? (i := 72) rfl))), va_Nw.of rfl (hts0 _ (t1_in (List.mem_of_getElem? (i := 89) rfl)))⟩
theorem arr_of {args : Array Value} {s : State} {ty : FieldType} (h : (Cond.arrayClass ty).before args s = true) : ∃ cA, ArrOfT s cA ty ∧ s.vm.findClass ("[" ++ ty.toString) = some cA := by
  obtain ⟨c, k, comp, h1, h2, h3⟩ := Cond.arrayClass_spec h
  exact ⟨c, fun n z => ⟨fun k h => (by cases h), k, h2, comp, h3⟩, h1⟩
theorem arrT_of {s : State} (h : va_AO "WolfsHead$Text" s) : ∃ cA, ArrOfT s cA (.object "WolfsHead$Text") ∧ va_RA s cA (.object "WolfsHead$Text") := by
  obtain ⟨comp, c, k, h1, h2, h3, h4, h5⟩ := Cond.arrayOver_spec h
  exact ⟨c, fun N z => ⟨(fun k h => by cases h), k, h3, comp, h4⟩, k, comp, h3, h4, h1, h5⟩
set_option maxHeartbeats 4000000 in
set_option maxRecDepth 100000 in
theorem known_of {args : Array Value} {s : State} (hts0 : ∀ w ∈ lw_tbl, w.before args s = true) : ∃ (D : va_G) (cI cJ cZ cB cT : ClassId), va_K D vwCl (mT cI cJ cZ cB cT) s := by
  have hts : ∀ w ∈ lw_g, w.before args s = true := fun w h => hts0 w (g_in h)
  obtain ⟨c0, i0, k0⟩ := u_known (C := RX0) (T := TX0) (N := 3) (n := 3) hts inX0 (hts0 _ (t2_in (List.mem_of_getElem? (i := 2) rfl)))
  obtain ⟨c1, i1, k1⟩ := u_known (C := RX1) (T := TX1) (N := 3) (n := 3) hts inX1 (hts0 _ (t1_in (List.mem_of_getElem? (i := 55) rfl)))
  obtain ⟨c2, i2, k2⟩ := u_known (C := RX2) (T := TX2) (N := 3) (n := 3) hts inX2 (hts0 _ (t1_in (List.mem_of_getElem? (i := 36) rfl)))
  obtain ⟨c3, i3, k3⟩ := u_known (C := RX3) (T := TX3) (N := 4) (n := 4) hts inX3 (hts0 _ (t1_in (List.mem_of_getElem? (i := 223) rfl)))
  obtain ⟨c4, i4, k4⟩ := u_known (C := RX4) (T := TX4) (N := 11) (n := 11) hts inX4 (hts0 _ (t1_in (List.mem_of_getElem? (i := 88) rfl)))
  obtain ⟨c5, i5, k5⟩ := u_known (C := RX5) (T := TX5) (N := 6) (n := 6) hts inX5 (hts0 _ (t1_in (List.mem_of_getElem? (i := 196) rfl)))
  obtain ⟨c6, i6, k6⟩ := u_known (C := RX6) (T := TX6) (N := 6) (n := 6) hts inX6 (hts0 _ (t1_in (List.mem_of_getElem? (i := 30) rfl)))
  obtain ⟨c7, i7, k7⟩ := u_known (C := RX7) (T := TX7) (N := 3) (n := 3) hts inX7 (hts0 _ (t1_in (List.mem_of_getElem? (i := 71) rfl)))
  obtain ⟨c8, i8, k8⟩ := u_known (C := RX8) (T := TX8) (N := 6) (n := 6) hts inX8 (hts0 _ (t1_in (List.mem_of_getElem? (i := 168) rfl)))
  obtain ⟨c9, i9, k9⟩ := u_known (C := RX9) (T := TX9) (N := 7) (n := 7) hts inX9 (hts0 _ (t2_in (List.mem_of_getElem? (i := 61) rfl)))
  obtain ⟨c10, i10, k10⟩ := u_known (C := RX10) (T := TX10) (N := 10) (n := 10) hts inX10 (hts0 _ (t2_in (List.mem_of_getElem? (i := 20) rfl)))
  obtain ⟨c11, i11, k11⟩ := u_known (C := RX11) (T := TX11) (N := 14) (n := 14) hts inX11 (hts0 _ (t1_in (List.mem_of_getElem? (i := 22) rfl)))
  obtain ⟨c12, i12, k12⟩ := u_known (C := RX12) (T := TX12) (N := 29) (n := 29) hts inX12 (hts0 _ (t6_in (List.mem_of_getElem? (i := 35) rfl)))
  obtain ⟨cI, aI, rI⟩ := arr_of (ty := .int) (hts0 _ (t1_in (List.mem_of_getElem? (i := 53) rfl)))
  obtain ⟨cJ, aJ, rJ⟩ := arr_of (ty := .long) (hts0 _ (t6_in (List.mem_of_getElem? (i := 131) rfl)))
  obtain ⟨cZ, aZ, rZ⟩ := arr_of (ty := .boolean) (hts0 _ (t6_in (List.mem_of_getElem? (i := 132) rfl)))
  obtain ⟨cB, aB, rB⟩ := arr_of (ty := .byte) (hts0 _ (t1_in (List.mem_of_getElem? (i := 194) rfl)))
  obtain ⟨cT, aT, rT⟩ := arrT_of (cenv_of hts0).1
  refine ⟨(fun k => if k = 0 then c0 else if k = 1 then c1 else if k = 2 then c2 else if k = 3 then c3 else if k = 4 then c4 else if k = 5 then c5 else if k = 6 then c6 else if k = 7 then c7 else if k = 8 then c8 else if k = 9 then c9 else if k = 10 then c10 else if k = 11 then c11 else c12, fun k => if k = 0 then i0 else if k = 1 then i1 else if k = 2 then i2 else if k = 3 then i3 else if k = 4 then i4 else if k = 5 then i5 else if k = 6 then i6 else if k = 7 then i7 else if k = 8 then i8 else if k = 9 then i9 else if k = 10 then i10 else if k = 11 then i11 else i12), cI, cJ, cZ, cB, cT, ?_, ?_⟩
  · intro k q hq
    match k, hq with
    | 0, hq => cases hq; exact k0
    | 1, hq => cases hq; exact k1
    | 2, hq => cases hq; exact k2
    | 3, hq => cases hq; exact k3
    | 4, hq => cases hq; exact k4
    | 5, hq => cases hq; exact k5
    | 6, hq => cases hq; exact k6
    | 7, hq => cases hq; exact k7
    | 8, hq => cases hq; exact k8
    | 9, hq => cases hq; exact k9
    | 10, hq => cases hq; exact k10
    | 11, hq => cases hq; exact k11
    | 12, hq => cases hq; exact k12
    | k + 13, hq => simp [vwCl] at hq
  · intro k q hq
    match k, hq with
    | 0, hq => cases hq; exact ⟨aI, rI⟩
    | 1, hq => cases hq; exact ⟨aJ, rJ⟩
    | 2, hq => cases hq; exact ⟨aZ, rZ⟩
    | 3, hq => cases hq; exact ⟨aB, rB⟩
    | 4, hq => cases hq; exact ⟨aT, rT⟩
    | k + 5, hq => simp [mT] at hq
theorem mP_T {D : va_G} {ws : va_W} {H : Heap} (k a : Nat) {cT : ClassId} {f f' : Nat → Option Nat} (hP : va_P D vwCl ws H) (hk : ws[k]? = some (a, .inl (cT, 4, .inr (.inr (.inr (.inr f)))))) (hf : ∀ j, j < 4 → f j = f' j) : va_P D vwCl (ws.set k (a, .inl (cT, 4, .inr (.inr (.inr (.inr f')))))) H := by
  intro i q hq
  by_cases e : i = k
  · subst e
    have hlt : i < ws.length := (List.getElem?_eq_some_iff.mp hk).1
    rw [List.getElem?_set_self hlt] at hq
    cases hq
    have h := hP i _ hk
    have e2 : vp_cell cT (4, .inr (.inr (.inr (.inr f)))) = vp_cell cT (4, .inr (.inr (.inr (.inr f')))) := by
      rw [vp_cell_q, vp_cell_q]
      unfold arrV
      congr 2
      funext j
      exact congrArg va_rf (hf j.val j.isLt)
    show H[a]? = some (vp_cell cT (4, .inr (.inr (.inr (.inr f')))))
    rw [← e2]
    exact h
  · rw [List.getElem?_set_ne (fun h => e h.symm)] at hq
    exact hP i q hq
theorem mD_T {A : Nat → Prop} {ws : va_W} (k a : Nat) {e e' : va_E} (hD : va_D A ws) (hk : ws[k]? = some (a, e)) : va_D A (ws.set k (a, e')) := by
  have key : ∀ (i : Nat) (q : Nat × va_E), (ws.set k (a, e'))[i]? = some q → ∃ q2 : Nat × va_E, ws[i]? = some q2 ∧ q2.1 = q.1 := by
    intro i q hq
    by_cases h : i = k
    · subst h
      have hlt : i < ws.length := (List.getElem?_eq_some_iff.mp hk).1
      rw [List.getElem?_set_self hlt] at hq
      cases hq
      exact ⟨_, hk, rfl⟩
    · rw [List.getElem?_set_ne (fun x => h x.symm)] at hq
      exact ⟨q, hq, rfl⟩
  refine ⟨fun i j p q hi hj hpq => ?_, fun i q hi => ?_⟩
  · obtain ⟨p2, h1, h2⟩ := key i p hi
    obtain ⟨q2, h3, h4⟩ := key j q hj
    exact hD.1 i j p2 q2 h1 h3 (by rw [h2, h4, hpq])
  · obtain ⟨q2, h1, h2⟩ := key i q hi
    rw [← h2]
    exact hD.2 i q2 h1
