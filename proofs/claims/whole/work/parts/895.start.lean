/-! the start, and the end -/
theorem lstep {N : Nat} (hN : 1000000000 ≤ N) : LStep N (Rl N) := ⟨ls_0 hN, ls_1 hN, ls_2 hN, ls_3 hN, ls_4 hN, ls_5 hN, ls_6 hN, ls_7 hN, ls_8 hN, ls_9 hN, ls_10 hN, ls_11 hN, ls_12 hN, ls_13 hN, ls_14 hN, ls_15 hN, ls_16 hN, ls_17 hN, ls_18 hN, ls_19 hN, ls_20 hN, ls_21 hN, ls_22 hN, ls_23 hN, ls_24 hN, ls_25 hN, ls_26 hN, ls_27 hN, ls_28 hN, ls_29 hN, ls_30 hN, ls_31 hN, ls_32 hN, ls_33 hN, ls_34 hN, ls_35 hN, ls_36 hN, ls_37 hN, ls_38 hN, ls_39 hN, ls_40 hN, ls_41 hN, ls_42 hN, ls_43 hN, ls_44 hN, ls_45 hN, ls_46 hN, ls_47⟩
def S0 : Nat → Nat := fun i => if i = 11 then 149 else 0
theorem S0_z {i : Nat} (h : i ≠ 11) : S0 i = 0 := if_neg h
theorem S0_x : S0 11 = 149 := if_pos rfl
theorem realm0 {a : Nat → Int32} (hA : TieA a S0) : RealmT (24 * 0) (0 : Int32) (fun _ => 0) (fun _ => 0) (upd (fun _ => 0) (1 : Int32).toNatClampNeg (149 : Int32)) (fun _ => 0) (fun _ => 0) (0 : Int32) (0 : Int32) (fun _ => 0) (0 : Int32) (0 : Int32) (0 : Int32) (0 : Int32) (0 : Int32) (fun _ => 0) (fun _ => 0) (fun _ => 0) (fun _ => 0) (fun _ => 0) (0 : Int32) (-1 : Int32) a S0 := by
  have z : ∀ i, i ≠ 11 → S0 i = 0 := fun i h => S0_z h
  have e1 : (1 : Int32).toNatClampNeg = 1 := by decide
  have z0 := z 0 (by omega); have z1 := z 1 (by omega); have z2 := z 2 (by omega); have z3 := z 3 (by omega); have z4 := z 4 (by omega); have z5 := z 5 (by omega); have z6 := z 6 (by omega); have z7 := z 7 (by omega); have z8 := z 8 (by omega); have z9 := z 9 (by omega); have z10 := z 10 (by omega); have z12 := z 12 (by omega)
  rw [e1]
  refine ⟨hA, ⟨?_, by omega, fun k hk => by omega, fun k hk => by omega, fun k _ _ => rfl, fun i k hi => by omega⟩, ⟨?_, ?_, ?_, ⟨0, by omega, ?_⟩, fun p k hp => by omega⟩, ⟨by omega, by omega, by rw [S0_x]; omega, fun p hp => by omega⟩, fun p hp => by omega, ⟨?_, fun i hi => by omega⟩, ⟨?_, by omega, 0, by omega, rfl, fun k hk => by omega⟩, ⟨⟨?_, by omega, fun k hk => by omega⟩, ⟨?_, by omega⟩, ⟨?_, by omega, ?_, by omega, fun k hk => by omega, fun _ => 0, fun i _ => ⟨rfl, (by show (0 : Nat) < 256; omega)⟩, fun i k hi hk => ?_⟩, fun k hk => ?_, ⟨?_, by omega, fun k hk => by omega⟩⟩, ⟨?_, by omega, ?_, by omega⟩, by omega⟩
  · rw [z0]; rfl
  · rw [upd_ne (by omega), z10]; rfl
  · rw [upd_eq rfl, S0_x]; rfl
  · rw [upd_ne (by omega), z1]; rfl
  · rw [upd_ne (by omega)]; rfl
  · rw [upd_ne (by omega), z12]; rfl
  · rw [z4]; rfl
  · rw [z5]; rfl
  · rw [z9]; rfl
  · rw [z6]; rfl
  · rw [z7]; rfl
  · rw [Nat.zero_testBit]
    refine ⟨fun h => (by cases h), fun h => ?_⟩
    obtain ⟨q, hq, -⟩ := h
    omega
  · rw [z (117 + k) (by omega)]; exact ⟨rfl, by omega⟩
  · rw [z8]; rfl
  · rw [z2]; rfl
  · rw [z3]; decide
theorem tie0 : TieA (upd (upd (fun _ => 0) (11 : Int32).toNatClampNeg (149 : Int32)) (3 : Int32).toNatClampNeg (-1 : Int32)) S0 := by
  have e1 : (11 : Int32).toNatClampNeg = 11 := by decide
  have e2 : (3 : Int32).toNatClampNeg = 3 := by decide
  rw [e1, e2]
  refine ⟨?_, fun i hi h3 => ?_⟩
  · rw [upd_eq rfl, S0_z (by omega)]; decide
  · rw [upd_ne h3]
    by_cases c : i = 11
    · rw [upd_eq c, c, S0_x]; rfl
    · rw [upd_ne c, S0_z c]; rfl
