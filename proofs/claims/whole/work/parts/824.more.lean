theorem cGain {N s f o : Nat} {ga : Nat → Int32} {S : Nat → Nat} (hG : GainT ga S) (hs : s < 2) (hf : f < 2) (ho : o < 2) : f_X4_gain N ga (nI s) (nI f) (nI o) = some (nI (S (117 + 4 * s + 2 * f + o))) := by
  have b1 : nI f &&& nI 1 = nI f := by rcases (show f = 0 ∨ f = 1 by omega) with e | e <;> subst e <;> decide
  have b2 : nI o &&& nI 1 = nI o := by rcases (show o = 0 ∨ o = 1 by omega) with e | e <;> subst e <;> decide
  have g := (hG (4 * s + 2 * f + o) (by omega)).1
  rw [show 117 + (4 * s + 2 * f + o) = 117 + 4 * s + 2 * f + o by omega] at g
  rcases (show s = 0 ∨ s = 1 by omega) with e | e <;> subst e
  · rw [show 4 * 0 + 2 * f + o = 0 + f * 2 + o by omega] at g
    simp (maxSteps := 1000000) (disch := omega) only [li, ob1_s, ob2_s, ob3_s, ob4_s, ob5_s, ob6_s, ob7_s, gA_n, gL_n, sA_n, sL_n, cpI_n, nI_add, pk_mul, nsub, nlt_t, nlt_f, nle_t, nle_f, neq_t, neq_f, rmI_n, dvI_n, upd_ne, upd_eq, un_ne, un_eq, Nat.add_zero, Bool.false_eq_true, ↓reduceIte, f_X4_gain, f_X4_gain_13, b1, b2, g]
  · rw [show 4 * 1 + 2 * f + o = 4 + f * 2 + o by omega] at g
    simp (maxSteps := 1000000) (disch := omega) only [li, ob1_s, ob2_s, ob3_s, ob4_s, ob5_s, ob6_s, ob7_s, gA_n, gL_n, sA_n, sL_n, cpI_n, nI_add, pk_mul, nsub, nlt_t, nlt_f, nle_t, nle_f, neq_t, neq_f, rmI_n, dvI_n, upd_ne, upd_eq, un_ne, un_eq, Nat.add_zero, Bool.false_eq_true, ↓reduceIte, f_X4_gain, f_X4_gain_13, b1, b2, g]
def qR (S : Nat → Nat) (f o : Nat) : Bool := decide (S (117 + 2 * (1 - f) + o) ≤ S (117 + 2 * f + o)) && decide (S (121 + 2 * f + (1 - o)) ≤ S (121 + 2 * f + o))
theorem cRest {N n acc f o : Nat} {ga : Nat → Int32} {S : Nat → Nat} (hG : GainT ga S) (hf : f < 2) (ho : o < 2) : f_X4_calmPairs_4 N (n + 1) ga (nI acc) (nI (f + 2 * o)) = f_X4_calmPairs_4 N n ga (nI (if qR S f o then acc ||| 2 ^ (f + 2 * o) else acc)) (nI (f + 2 * o + 1)) := by
  have b1 : nI (f + 2 * o) &&& nI 1 = nI f := by rcases (show f = 0 ∨ f = 1 by omega) with e | e <;> subst e <;> rcases (show o = 0 ∨ o = 1 by omega) with e | e <;> subst e <;> decide
  have b2 : nI (f + 2 * o) >>> (nI 1 &&& nI 31) = nI o := by rcases (show f = 0 ∨ f = 1 by omega) with e | e <;> subst e <;> rcases (show o = 0 ∨ o = 1 by omega) with e | e <;> subst e <;> decide
  have l1 := (hG (2 * (1 - f) + o) (by omega)).2
  have l2 := (hG (2 * f + o) (by omega)).2
  have l3 := (hG (4 + 2 * f + (1 - o)) (by omega)).2
  have l4 := (hG (4 + 2 * f + o) (by omega)).2
  have e1 := cGain (N := N) (s := 0) hG (by omega) hf ho
  have e2 := cGain (N := N) (s := 0) (f := 1 - f) hG (by omega) (by omega) ho
  have e3 := cGain (N := N) (s := 1) hG (by omega) hf ho
  have e4 := cGain (N := N) (s := 1) (o := 1 - o) hG (by omega) hf (by omega)
  rw [show 117 + 4 * 0 + 2 * f + o = 117 + 2 * f + o by omega] at e1
  rw [show 117 + 4 * 0 + 2 * (1 - f) + o = 117 + 2 * (1 - f) + o by omega] at e2
  rw [show 117 + 4 * 1 + 2 * f + o = 121 + 2 * f + o by omega] at e3
  rw [show 117 + 4 * 1 + 2 * f + (1 - o) = 121 + 2 * f + (1 - o) by omega] at e4
  rw [show 117 + (2 * (1 - f) + o) = 117 + 2 * (1 - f) + o by omega] at l1
  rw [show 117 + (2 * f + o) = 117 + 2 * f + o by omega] at l2
  rw [show 117 + (4 + 2 * f + (1 - o)) = 121 + 2 * f + (1 - o) by omega] at l3
  rw [show 117 + (4 + 2 * f + o) = 121 + 2 * f + o by omega] at l4
  by_cases c1 : S (117 + 2 * (1 - f) + o) ≤ S (117 + 2 * f + o) <;> by_cases c2 : S (121 + 2 * f + (1 - o)) ≤ S (121 + 2 * f + o)
  · rw [if_pos (by simp [qR, c1, c2])]
    simp (maxSteps := 1000000) (disch := omega) only [li, ob1_s, ob2_s, ob3_s, ob4_s, ob5_s, ob6_s, ob7_s, gA_n, gL_n, sA_n, sL_n, cpI_n, nI_add, pk_mul, nsub, nlt_t, nlt_f, nle_t, nle_f, neq_t, neq_f, rmI_n, dvI_n, upd_ne, upd_eq, un_ne, un_eq, Nat.add_zero, Bool.false_eq_true, ↓reduceIte, f_X4_calmPairs_4, f_X4_calmPairs_44, f_X4_calmPairs_72, f_X4_calmPairs_90, b1, b2, e1, e2, e3, e4, nshl1, nor]
  · rw [if_neg (by simp [qR, c2])]
    simp (maxSteps := 1000000) (disch := omega) only [li, ob1_s, ob2_s, ob3_s, ob4_s, ob5_s, ob6_s, ob7_s, gA_n, gL_n, sA_n, sL_n, cpI_n, nI_add, pk_mul, nsub, nlt_t, nlt_f, nle_t, nle_f, neq_t, neq_f, rmI_n, dvI_n, upd_ne, upd_eq, un_ne, un_eq, Nat.add_zero, Bool.false_eq_true, ↓reduceIte, f_X4_calmPairs_4, f_X4_calmPairs_44, f_X4_calmPairs_72, f_X4_calmPairs_90, b1, b2, e1, e2, e3, e4, nshl1, nor]
  · rw [if_neg (by simp [qR, c1])]
    simp (maxSteps := 1000000) (disch := omega) only [li, ob1_s, ob2_s, ob3_s, ob4_s, ob5_s, ob6_s, ob7_s, gA_n, gL_n, sA_n, sL_n, cpI_n, nI_add, pk_mul, nsub, nlt_t, nlt_f, nle_t, nle_f, neq_t, neq_f, rmI_n, dvI_n, upd_ne, upd_eq, un_ne, un_eq, Nat.add_zero, Bool.false_eq_true, ↓reduceIte, f_X4_calmPairs_4, f_X4_calmPairs_44, f_X4_calmPairs_72, f_X4_calmPairs_90, b1, b2, e1, e2, e3, e4, nshl1, nor]
  · rw [if_neg (by simp [qR, c1])]
    simp (maxSteps := 1000000) (disch := omega) only [li, ob1_s, ob2_s, ob3_s, ob4_s, ob5_s, ob6_s, ob7_s, gA_n, gL_n, sA_n, sL_n, cpI_n, nI_add, pk_mul, nsub, nlt_t, nlt_f, nle_t, nle_f, neq_t, neq_f, rmI_n, dvI_n, upd_ne, upd_eq, un_ne, un_eq, Nat.add_zero, Bool.false_eq_true, ↓reduceIte, f_X4_calmPairs_4, f_X4_calmPairs_44, f_X4_calmPairs_72, f_X4_calmPairs_90, b1, b2, e1, e2, e3, e4, nshl1, nor]
theorem rRest {N n acc f o : Nat} {k4 : (Nat → Int32) → Int32 → Int32 → Option Int32} {a ga : Nat → Int32} {S : Nat → Nat} (hA : TieA a S) (hG : GainT ga S) (hf : f < 2) (ho : o < 2) : f_X12_rests_11 N k4 (n + 1) a (nI acc) (nI f) (nI o) = f_X12_rests_11 N k4 n a (nI (acc ||| if qR S f o then 2 ^ (f + 2 * o) else 0)) (nI f) (nI (o + 1)) := by
  have l1 := (hG (2 * (1 - f) + o) (by omega)).2
  have l2 := (hG (2 * f + o) (by omega)).2
  have l3 := (hG (4 + 2 * f + (1 - o)) (by omega)).2
  have l4 := (hG (4 + 2 * f + o) (by omega)).2
  rw [show 117 + (2 * (1 - f) + o) = 117 + 2 * (1 - f) + o by omega] at l1
  rw [show 117 + (2 * f + o) = 117 + 2 * f + o by omega] at l2
  rw [show 117 + (4 + 2 * f + (1 - o)) = 121 + 2 * f + (1 - o) by omega] at l3
  rw [show 117 + (4 + 2 * f + o) = 121 + 2 * f + o by omega] at l4
  have ix : 121 + 2 * f + 1 - o = 121 + 2 * f + (1 - o) := by omega
  by_cases c1 : S (117 + 2 * (1 - f) + o) ≤ S (117 + 2 * f + o) <;> by_cases c2 : S (121 + 2 * f + (1 - o)) ≤ S (121 + 2 * f + o)
  · rw [if_pos (by simp [qR, c1, c2])]
    simp (maxSteps := 1000000) (disch := omega) only [li, ob1_s, ob2_s, ob3_s, ob4_s, ob5_s, ob6_s, ob7_s, gA_n, gL_n, sA_n, sL_n, cpI_n, nI_add, pk_mul, nsub, nlt_t, nlt_f, nle_t, nle_f, neq_t, neq_f, rmI_n, dvI_n, upd_ne, upd_eq, un_ne, un_eq, Nat.add_zero, Bool.false_eq_true, ↓reduceIte, f_X12_rests_11, f_X12_rests_82, f_X12_rests_83, f_X12_rests_102, hA.2, ix, nshl1, nor]
  · rw [if_neg (by simp [qR, c2])]
    simp (maxSteps := 1000000) (disch := omega) only [li, ob1_s, ob2_s, ob3_s, ob4_s, ob5_s, ob6_s, ob7_s, gA_n, gL_n, sA_n, sL_n, cpI_n, nI_add, pk_mul, nsub, nlt_t, nlt_f, nle_t, nle_f, neq_t, neq_f, rmI_n, dvI_n, upd_ne, upd_eq, un_ne, un_eq, Nat.add_zero, Bool.false_eq_true, ↓reduceIte, f_X12_rests_11, f_X12_rests_82, f_X12_rests_83, f_X12_rests_102, hA.2, ix, nshl1, nor]
  · rw [if_neg (by simp [qR, c1])]
    simp (maxSteps := 1000000) (disch := omega) only [li, ob1_s, ob2_s, ob3_s, ob4_s, ob5_s, ob6_s, ob7_s, gA_n, gL_n, sA_n, sL_n, cpI_n, nI_add, pk_mul, nsub, nlt_t, nlt_f, nle_t, nle_f, neq_t, neq_f, rmI_n, dvI_n, upd_ne, upd_eq, un_ne, un_eq, Nat.add_zero, Bool.false_eq_true, ↓reduceIte, f_X12_rests_11, f_X12_rests_82, f_X12_rests_83, f_X12_rests_102, hA.2, ix, nshl1, nor]
  · rw [if_neg (by simp [qR, c1])]
    simp (maxSteps := 1000000) (disch := omega) only [li, ob1_s, ob2_s, ob3_s, ob4_s, ob5_s, ob6_s, ob7_s, gA_n, gL_n, sA_n, sL_n, cpI_n, nI_add, pk_mul, nsub, nlt_t, nlt_f, nle_t, nle_f, neq_t, neq_f, rmI_n, dvI_n, upd_ne, upd_eq, un_ne, un_eq, Nat.add_zero, Bool.false_eq_true, ↓reduceIte, f_X12_rests_11, f_X12_rests_82, f_X12_rests_83, f_X12_rests_102, hA.2, ix, nshl1, nor]
theorem st_rests {j : Nat} {dn : Int32} {df dr row fe to : Nat → Int32} {cnt next : Int32} {store : Nat → Int32} {calls bord rep unl pay : Int32} {cl ul ga py pr : Nat → Int32} {tx rul : Int32} {a : Nat → Int32} {S : Nat → Nat} {N : Nat} (hN : 100 ≤ N) (h : RealmT j dn df dr row fe to cnt next store calls bord rep unl pay cl ul ga py pr tx rul a S) : ∃ r : Int32, f_X11_rests N ga = some r ∧ f_X12_rests N a = some r := by
  obtain ⟨hA, hL, hR, hW, hF, hB, hZ, hQ, hI, hj⟩ := h
  have hG := hQ.2.2.2.1
  obtain ⟨n, hn⟩ : ∃ n, N = n + 5 := ⟨N - 5, by omega⟩
  have c0 := fun acc m => cRest (N := N) (n := m) (acc := acc) (f := 0) (o := 0) hG (by omega) (by omega)
  have c1 := fun acc m => cRest (N := N) (n := m) (acc := acc) (f := 1) (o := 0) hG (by omega) (by omega)
  have c2 := fun acc m => cRest (N := N) (n := m) (acc := acc) (f := 0) (o := 1) hG (by omega) (by omega)
  have c3 := fun acc m => cRest (N := N) (n := m) (acc := acc) (f := 1) (o := 1) hG (by omega) (by omega)
  have r0 := fun k4 acc m => rRest (N := N) (k4 := k4) (n := m) (acc := acc) (f := 0) (o := 0) hA hG (by omega) (by omega)
  have r1 := fun k4 acc m => rRest (N := N) (k4 := k4) (n := m) (acc := acc) (f := 1) (o := 0) hA hG (by omega) (by omega)
  have r2 := fun k4 acc m => rRest (N := N) (k4 := k4) (n := m) (acc := acc) (f := 0) (o := 1) hA hG (by omega) (by omega)
  have r3 := fun k4 acc m => rRest (N := N) (k4 := k4) (n := m) (acc := acc) (f := 1) (o := 1) hA hG (by omega) (by omega)
  simp only [Nat.reduceMul, Nat.reduceAdd] at c0 c1 c2 c3 r0 r1 r2 r3
  have eN : ∀ x y, f_X4_calmPairs_4 N N ga x y = f_X4_calmPairs_4 N (n + 1 + 1 + 1 + 1 + 1) ga x y := fun x y => by rw [show n + 1 + 1 + 1 + 1 + 1 = N by omega]
  have eR : ∀ x y, f_X12_rests_4 N N a x y = f_X12_rests_4 N (n + 1 + 1 + 1 + 1 + 1) a x y := fun x y => by rw [show n + 1 + 1 + 1 + 1 + 1 = N by omega]
  have eR1 : ∀ k4 x y z, f_X12_rests_11 N k4 N a x y z = f_X12_rests_11 N k4 (n + 1 + 1 + 1 + 1 + 1) a x y z := fun k4 x y z => by rw [show n + 1 + 1 + 1 + 1 + 1 = N by omega]
  have z4 : ∀ m x, f_X4_calmPairs_4 N (m + 1) ga x (nI 4) = some x := fun m x => by simp (maxSteps := 1000000) (disch := omega) only [li, ob1_s, ob2_s, ob3_s, ob4_s, ob5_s, ob6_s, ob7_s, gA_n, gL_n, sA_n, sL_n, cpI_n, nI_add, pk_mul, nsub, nlt_t, nlt_f, nle_t, nle_f, neq_t, neq_f, rmI_n, dvI_n, upd_ne, upd_eq, un_ne, un_eq, Nat.add_zero, Bool.false_eq_true, ↓reduceIte, f_X4_calmPairs_4]
  have y0 : ∀ m x f, f < 2 → f_X12_rests_4 N (m + 1) a x (nI f) = f_X12_rests_11 N (f_X12_rests_4 N m) N a x (nI f) (nI 0) := fun m x f hf => by simp (maxSteps := 1000000) (disch := omega) only [li, ob1_s, ob2_s, ob3_s, ob4_s, ob5_s, ob6_s, ob7_s, gA_n, gL_n, sA_n, sL_n, cpI_n, nI_add, pk_mul, nsub, nlt_t, nlt_f, nle_t, nle_f, neq_t, neq_f, rmI_n, dvI_n, upd_ne, upd_eq, un_ne, un_eq, Nat.add_zero, Bool.false_eq_true, ↓reduceIte, f_X12_rests_4]
  have y1 : ∀ m x, f_X12_rests_4 N (m + 1) a x (nI 2) = some x := fun m x => by simp (maxSteps := 1000000) (disch := omega) only [li, ob1_s, ob2_s, ob3_s, ob4_s, ob5_s, ob6_s, ob7_s, gA_n, gL_n, sA_n, sL_n, cpI_n, nI_add, pk_mul, nsub, nlt_t, nlt_f, nle_t, nle_f, neq_t, neq_f, rmI_n, dvI_n, upd_ne, upd_eq, un_ne, un_eq, Nat.add_zero, Bool.false_eq_true, ↓reduceIte, f_X12_rests_4]
  have y2 : ∀ k4 m x f, f < 2 → f_X12_rests_11 N k4 (m + 1) a x (nI f) (nI 2) = k4 a x (nI (f + 1)) := fun k4 m x f hf => by simp (maxSteps := 1000000) (disch := omega) only [li, ob1_s, ob2_s, ob3_s, ob4_s, ob5_s, ob6_s, ob7_s, gA_n, gL_n, sA_n, sL_n, cpI_n, nI_add, pk_mul, nsub, nlt_t, nlt_f, nle_t, nle_f, neq_t, neq_f, rmI_n, dvI_n, upd_ne, upd_eq, un_ne, un_eq, Nat.add_zero, Bool.false_eq_true, ↓reduceIte, f_X12_rests_11]
  refine ⟨nI (if qR S 1 1 then (if qR S 0 1 then (if qR S 1 0 then (if qR S 0 0 then 0 ||| 2 ^ 0 else 0) ||| 2 ^ 1 else (if qR S 0 0 then 0 ||| 2 ^ 0 else 0)) ||| 2 ^ 2 else (if qR S 1 0 then (if qR S 0 0 then 0 ||| 2 ^ 0 else 0) ||| 2 ^ 1 else (if qR S 0 0 then 0 ||| 2 ^ 0 else 0))) ||| 2 ^ 3 else (if qR S 0 1 then (if qR S 1 0 then (if qR S 0 0 then 0 ||| 2 ^ 0 else 0) ||| 2 ^ 1 else (if qR S 0 0 then 0 ||| 2 ^ 0 else 0)) ||| 2 ^ 2 else (if qR S 1 0 then (if qR S 0 0 then 0 ||| 2 ^ 0 else 0) ||| 2 ^ 1 else (if qR S 0 0 then 0 ||| 2 ^ 0 else 0)))), ?_, ?_⟩
  · simp only [f_X11_rests, f_X4_calmPairs, li, eN]
    rw [c0, c1, c2, c3, z4]
    rfl
  · simp only [f_X12_rests, li, eR]
    rw [y0 _ _ 0 (by omega), eR1, r0, r2, y2 _ _ _ 0 (by omega), y0 _ _ 1 (by omega), eR1, r1, r3, y2 _ _ _ 1 (by omega), y1]
    cases qR S 0 0 <;> cases qR S 1 0 <;> cases qR S 0 1 <;> cases qR S 1 1 <;> rfl
theorem evenM {N : Nat} (hN : 100 ≤ N) (ga a : Nat → Int32) (x : Int32) (u v : Int) (hu : u.natAbs < 1000) (hv : v.natAbs < 1000) (h0 : 0 ≤ v) : ∃ r, f_X4_evenOdds_55 N ga x (iI u) (iI v) = some r ∧ f_X12_mixed_58 N a x (iI u) (iI v) = some r := by
  have g := cGcd (N := N) (a := u) (b := v) hN (by omega) (by omega)
  have z : nI 0 = iI 0 := iI_n 0
  by_cases h1 : u ≤ 0
  · have c : iI u ≤ nI 0 := by rw [z]; exact (iI_le ⟨by omega, by omega⟩ ⟨by omega, by omega⟩).mpr h1
    exact ⟨-nI 1, by simp only [f_X4_evenOdds_55, g, li, ob1_s, c, ↓reduceIte], by simp only [f_X12_mixed_58, li, c, ↓reduceIte]⟩
  · have c : ¬ iI u ≤ nI 0 := by rw [z]; exact fun h => h1 ((iI_le ⟨by omega, by omega⟩ ⟨by omega, by omega⟩).mp h)
    by_cases h2 : v ≤ u
    · have c2 : iI v ≤ iI u := (iI_le ⟨by omega, by omega⟩ ⟨by omega, by omega⟩).mpr h2
      have c3 : ¬ iI u < iI v := fun h => by have := (iI_lt ⟨by omega, by omega⟩ ⟨by omega, by omega⟩).mp h; omega
      exact ⟨-nI 1, by simp only [f_X4_evenOdds_55, g, li, ob1_s, c, c2, ↓reduceIte], by simp only [f_X12_mixed_58, li, c, c3, ↓reduceIte]⟩
    · have c2 : ¬ iI v ≤ iI u := fun h => h2 ((iI_le ⟨by omega, by omega⟩ ⟨by omega, by omega⟩).mp h)
      have c3 : iI u < iI v := (iI_lt ⟨by omega, by omega⟩ ⟨by omega, by omega⟩).mpr (by omega)
      have eu : iI u = nI u.natAbs := by rw [iI_n]; congr 1; omega
      have ev : iI v = nI v.natAbs := by rw [iI_n]; congr 1; omega
      have gp : 0 < Nat.gcd u.natAbs v.natAbs := Nat.gcd_pos_of_pos_left _ (by omega)
      have gl : Nat.gcd u.natAbs v.natAbs ≤ u.natAbs := Nat.gcd_le_left _ (by omega)
      have g2 := rGcd (N := N) (a := u.natAbs) (b := v.natAbs) hN (by omega) (by omega)
      rw [← eu, ← ev] at g2
      have d1 : ∀ w : Nat, w < 1000 → ∀ {β : Type} (k : Int32 → Option β), dvI (nI w) (nI (Nat.gcd u.natAbs v.natAbs)) k = k (nI (w / Nat.gcd u.natAbs v.natAbs)) := fun w hw β k => dvI_n (by omega) gp (by omega)
      have gz : ¬ nI (Nat.gcd u.natAbs v.natAbs) = nI 0 := fun h => by have := (neq (by omega) (by omega)).mp h; omega
      by_cases hx : x = nI 0
      · refine ⟨nI (u.natAbs / Nat.gcd u.natAbs v.natAbs), ?_, ?_⟩
        · simp only [f_X4_evenOdds_55, g, li, ob1_s, c, c2, gz, hx, ↓reduceIte]
          rw [eu, d1 _ (by omega)]
        · simp only [f_X12_mixed_58, f_X12_mixed_78, g2, li, ob1_s, c, c3, hx, ↓reduceIte]
          rw [eu, d1 _ (by omega)]
      · refine ⟨nI (v.natAbs / Nat.gcd u.natAbs v.natAbs), ?_, ?_⟩
        · simp only [f_X4_evenOdds_55, g, li, ob1_s, c, c2, gz, hx, ↓reduceIte]
          rw [ev, d1 _ (by omega)]
        · simp only [f_X12_mixed_58, f_X12_mixed_78, g2, li, ob1_s, c, c3, hx, ↓reduceIte]
          rw [ev, d1 _ (by omega)]
theorem st_mixed {j : Nat} {dn : Int32} {df dr row fe to : Nat → Int32} {cnt next : Int32} {store : Nat → Int32} {calls bord rep unl pay : Int32} {cl ul ga py pr : Nat → Int32} {tx rul : Int32} {a : Nat → Int32} {S : Nat → Nat} {N : Nat} (hN : 100 ≤ N) (x : Int32) (h : RealmT j dn df dr row fe to cnt next store calls bord rep unl pay cl ul ga py pr tx rul a S) : ∃ r : Int32, f_X11_mixed N ga x = some r ∧ f_X12_mixed N a x = some r := by
  obtain ⟨hA, hL, hR, hW, hF, hB, hZ, hQ, hI, hj⟩ := h
  have hG := hQ.2.2.2.1
  have l4 : S 121 ≤ 99 := (hG 4 (by omega)).2
  have l5 : S 122 ≤ 99 := (hG 5 (by omega)).2
  have l6 : S 123 ≤ 99 := (hG 6 (by omega)).2
  have l7 : S 124 ≤ 99 := (hG 7 (by omega)).2
  have e7 : f_X4_gain N ga (nI 1) (nI 1) (nI 1) = some (nI (S 124)) := cGain (s := 1) (f := 1) (o := 1) hG (by omega) (by omega) (by omega)
  have e6 : f_X4_gain N ga (nI 1) (nI 1) (nI 0) = some (nI (S 123)) := cGain (s := 1) (f := 1) (o := 0) hG (by omega) (by omega) (by omega)
  have e4 : f_X4_gain N ga (nI 1) (nI 0) (nI 0) = some (nI (S 121)) := cGain (s := 1) (f := 0) (o := 0) hG (by omega) (by omega) (by omega)
  have e5 : f_X4_gain N ga (nI 1) (nI 0) (nI 1) = some (nI (S 122)) := cGain (s := 1) (f := 0) (o := 1) hG (by omega) (by omega) (by omega)
  have z : nI 0 = iI 0 := iI_n 0
  have u1 : nI (S 124) - nI (S 123) = iI ((S 124 : Int) - S 123) := by rw [iI_n, iI_n, iI_sub]
  have v1 : iI ((S 124 : Int) - S 123) + (nI (S 121) - nI (S 122)) = iI ((S 124 : Int) - S 123 + (S 121 - S 122)) := by rw [iI_n, iI_n, iI_sub, iI_add]
  have v2 : nI (S 121) - nI (S 123) - nI (S 122) + nI (S 124) = iI ((S 124 : Int) - S 123 + (S 121 - S 122)) := by
    rw [iI_n, iI_n, iI_n, iI_n, iI_sub, iI_sub, iI_add]; congr 1; omega
  have a4 := hA.2 124 (by omega) (by omega)
  have a3 := hA.2 123 (by omega) (by omega)
  have a2 := hA.2 122 (by omega) (by omega)
  have a1 := hA.2 121 (by omega) (by omega)
  by_cases h0 : (0 : Int) ≤ (S 124 : Int) - S 123 + (S 121 - S 122)
  · have c : nI 0 ≤ iI ((S 124 : Int) - S 123 + (S 121 - S 122)) := by rw [z]; exact (iI_le ⟨by omega, by omega⟩ ⟨by omega, by omega⟩).mpr h0
    obtain ⟨r, g1, g2⟩ := evenM hN ga a x _ _ (show ((S 124 : Int) - S 123).natAbs < 1000 by omega) (show ((S 124 : Int) - S 123 + (S 121 - S 122)).natAbs < 1000 by omega) h0
    refine ⟨r, ?_, ?_⟩
    · simp only [f_X11_mixed, f_X4_evenOdds, li, e7, e6, e5, e4, ob1_s, v1, u1, c, g1, ↓reduceIte]
    · simp (disch := omega) only [f_X12_mixed, li, gA_n, a1, a2, a3, a4, v2, u1, c, g2, ↓reduceIte]
  · have c : ¬ nI 0 ≤ iI ((S 124 : Int) - S 123 + (S 121 - S 122)) := by rw [z]; exact fun h => h0 ((iI_le ⟨by omega, by omega⟩ ⟨by omega, by omega⟩).mp h)
    obtain ⟨r, g1, g2⟩ := evenM hN ga a x (-((S 124 : Int) - S 123)) (-((S 124 : Int) - S 123 + (S 121 - S 122))) (by omega) (by omega) (by omega)
    refine ⟨r, ?_, ?_⟩
    · simp only [f_X11_mixed, f_X4_evenOdds, li, e7, e6, e5, e4, ob1_s, v1, u1, c, iI_neg, g1, ↓reduceIte]
    · simp (disch := omega) only [f_X12_mixed, li, gA_n, a1, a2, a3, a4, v2, u1, c, iI_neg, g2, ↓reduceIte]
theorem st_reports {j : Nat} {dn : Int32} {df dr row fe to : Nat → Int32} {cnt next : Int32} {store : Nat → Int32} {calls bord rep unl pay : Int32} {cl ul ga py pr : Nat → Int32} {tx rul : Int32} {a : Nat → Int32} {S : Nat → Nat} {N : Nat} (hN : 100 ≤ N) (x : Int32) (h : RealmT j dn df dr row fe to cnt next store calls bord rep unl pay cl ul ga py pr tx rul a S) :
    ∃ (r rep' unl' : Int32) (ul' a' : Nat → Int32) (S' : Nat → Nat), f_X11_reports N rep unl ul x = some (r, rep', unl', ul') ∧ f_X12_reports N a x = some (r, a') ∧ RealmT (j + 1) dn df dr row fe to cnt next store calls bord rep' unl' pay cl ul' ga py pr tx rul a' S' ∧ S' 2 = S 2 := by
  have h0 := h
  obtain ⟨hA, hL, hR, hW, hF, hB, hZ, hQ, hI, hj⟩ := h
  obtain ⟨n1, n2, n3, n4, n5⟩ := hQ
  rcases inOut x 9 (by omega) with hx | ⟨k, hk, rfl⟩
  · refine ⟨0, rep, unl, ul, a, S, ?_, ?_, h0.later, rfl⟩
    · rcases hx with g | ⟨g, g0⟩
      · simp only [f_X11_reports, f_X4_tellReports, li, g, ob4_s, ↓reduceIte]
      · simp only [f_X11_reports, f_X4_tellReports, li, g0, ge_nle (n := 9) (m := 8) (by omega) (by omega) g, ob4_s, ↓reduceIte]
    · simp only [f_X12_reports, li, isIn_outT (m := 8) hx (by omega) (by omega), ob1_s, ↓reduceIte]
  · have key : ∀ q n i (ul : Nat → Int32), i + q = 8 → q < n → (∀ t, t < i → ul t = nI 0) → ∃ ul', f_X4_tellReports_24 N n (nI k) (nI 0) ul (nI i) = some (nI 1, nI k, nI 0, ul') ∧ ∀ t, t < 8 → ul' t = nI 0 := by
      intro q
      induction q with
      | zero =>
        intro n i ul e hn hz
        obtain ⟨n, rfl⟩ : ∃ m, n = m + 1 := ⟨n - 1, by omega⟩
        have e : i = 8 := by omega
        subst e
        exact ⟨ul, by simp (maxSteps := 1000000) (disch := omega) only [li, ob1_s, ob2_s, ob3_s, ob4_s, ob5_s, ob6_s, ob7_s, gA_n, gL_n, sA_n, sL_n, cpI_n, nI_add, pk_mul, nsub, nlt_t, nlt_f, nle_t, nle_f, neq_t, neq_f, rmI_n, dvI_n, upd_ne, upd_eq, un_ne, un_eq, Nat.add_zero, Bool.false_eq_true, ↓reduceIte, f_X4_tellReports_24], hz⟩
      | succ q ih =>
        intro n i ul e hn hz
        obtain ⟨n, rfl⟩ : ∃ m, n = m + 1 := ⟨n - 1, by omega⟩
        obtain ⟨ul', g1, g2⟩ := ih n (i + 1) (upd ul i (nI 0)) (by omega) (by omega) (fun t ht => by
          by_cases e2 : t = i
          · rw [upd_eq e2]
          · rw [upd_ne e2]; exact hz t (by omega))
        refine ⟨ul', ?_, g2⟩
        simp (maxSteps := 1000000) (disch := omega) only [li, ob1_s, ob2_s, ob3_s, ob4_s, ob5_s, ob6_s, ob7_s, gA_n, gL_n, sA_n, sL_n, cpI_n, nI_add, pk_mul, nsub, nlt_t, nlt_f, nle_t, nle_f, neq_t, neq_f, rmI_n, dvI_n, upd_ne, upd_eq, un_ne, un_eq, Nat.add_zero, Bool.false_eq_true, ↓reduceIte, f_X4_tellReports_24]
        exact g1
    obtain ⟨ul', g1, g2⟩ := key 8 N 0 ul (by omega) (by omega) (fun t ht => by omega)
    refine ⟨nI 1, nI k, nI 0, ul', upd (upd a 6 (nI k)) 7 (nI 0), un (un S 6 k) 7 0, ?_, ?_, ?_⟩
    · simp (maxSteps := 1000000) (disch := omega) only [li, ob1_s, ob2_s, ob3_s, ob4_s, ob5_s, ob6_s, ob7_s, gA_n, gL_n, sA_n, sL_n, cpI_n, nI_add, pk_mul, nsub, nlt_t, nlt_f, nle_t, nle_f, neq_t, neq_f, rmI_n, dvI_n, upd_ne, upd_eq, un_ne, un_eq, Nat.add_zero, Bool.false_eq_true, ↓reduceIte, f_X11_reports, f_X4_tellReports, g1]
    · simp (maxSteps := 1000000) (disch := omega) only [li, ob1_s, ob2_s, ob3_s, ob4_s, ob5_s, ob6_s, ob7_s, gA_n, gL_n, sA_n, sL_n, cpI_n, nI_add, pk_mul, nsub, nlt_t, nlt_f, nle_t, nle_f, neq_t, neq_f, rmI_n, dvI_n, upd_ne, upd_eq, un_ne, un_eq, Nat.add_zero, Bool.false_eq_true, ↓reduceIte, f_X12_reports, isIn_in]
    · refine h0.notes ((hA.up (by omega)).up (by omega)) (fun i hi => by simp (disch := omega) only [un_ne]) ⟨n1.cg (fun i hi => by simp (disch := omega) only [un_ne]) (by simp (disch := omega) only [un_ne]; omega), n2.cg (fun i hi => by simp (disch := omega) only [un_ne]), ⟨?_, ?_, ?_, ?_, ?_, fun _ => 0, fun i hi => ⟨g2 i hi, by show (0 : Nat) < 256; omega⟩, fun i q hi hq => ?_⟩, n4.cg (fun i hi => by simp (disch := omega) only [un_ne]), n5.cg (fun i hi => by simp (disch := omega) only [un_ne]) (by simp (disch := omega) only [un_ne]; omega)⟩
      · simp (maxSteps := 1000000) (disch := omega) only [li, ob1_s, ob2_s, ob3_s, ob4_s, ob5_s, ob6_s, ob7_s, gA_n, gL_n, sA_n, sL_n, cpI_n, nI_add, pk_mul, nsub, nlt_t, nlt_f, nle_t, nle_f, neq_t, neq_f, rmI_n, dvI_n, upd_ne, upd_eq, un_ne, un_eq, Nat.add_zero, Bool.false_eq_true, ↓reduceIte]
      · simp (maxSteps := 1000000) (disch := omega) only [li, ob1_s, ob2_s, ob3_s, ob4_s, ob5_s, ob6_s, ob7_s, gA_n, gL_n, sA_n, sL_n, cpI_n, nI_add, pk_mul, nsub, nlt_t, nlt_f, nle_t, nle_f, neq_t, neq_f, rmI_n, dvI_n, upd_ne, upd_eq, un_ne, un_eq, Nat.add_zero, Bool.false_eq_true, ↓reduceIte]; omega
      · simp (maxSteps := 1000000) (disch := omega) only [li, ob1_s, ob2_s, ob3_s, ob4_s, ob5_s, ob6_s, ob7_s, gA_n, gL_n, sA_n, sL_n, cpI_n, nI_add, pk_mul, nsub, nlt_t, nlt_f, nle_t, nle_f, neq_t, neq_f, rmI_n, dvI_n, upd_ne, upd_eq, un_ne, un_eq, Nat.add_zero, Bool.false_eq_true, ↓reduceIte]
      · simp (maxSteps := 1000000) (disch := omega) only [li, ob1_s, ob2_s, ob3_s, ob4_s, ob5_s, ob6_s, ob7_s, gA_n, gL_n, sA_n, sL_n, cpI_n, nI_add, pk_mul, nsub, nlt_t, nlt_f, nle_t, nle_f, neq_t, neq_f, rmI_n, dvI_n, upd_ne, upd_eq, un_ne, un_eq, Nat.add_zero, Bool.false_eq_true, ↓reduceIte]; omega
      · intro q hq
        rw [un_eq rfl] at hq; omega
      · constructor
        · intro g
          rw [Nat.zero_testBit] at g; cases g
        · rintro ⟨t, ht, -⟩
          rw [un_eq rfl] at ht; omega
theorem cRep_in {N n k : Nat} (h8 : n ≤ 8) (hk : k < n) : f_X4_reported N (nI n) (nI k) = some (nI 1) := by
  simp (maxSteps := 1000000) (disch := omega) only [li, ob1_s, ob2_s, ob3_s, ob4_s, ob5_s, ob6_s, ob7_s, gA_n, gL_n, sA_n, sL_n, cpI_n, nI_add, pk_mul, nsub, nlt_t, nlt_f, nle_t, nle_f, neq_t, neq_f, rmI_n, dvI_n, upd_ne, upd_eq, un_ne, un_eq, Nat.add_zero, Bool.false_eq_true, ↓reduceIte, f_X4_reported]
theorem cRep_out {N n : Nat} {x : Int32} (h8 : n ≤ 8) (hx : Out x n) : f_X4_reported N (nI n) x = some (nI 0) := by
  rcases hx with h | ⟨h, h0⟩
  · simp only [f_X4_reported, li, h, ↓reduceIte]
  · simp only [f_X4_reported, li, h, h0, ↓reduceIte]
theorem isIn_p {N p n : Nat} (h2 : p < n) (hb : n < 2147483648) : f_X12_isIn N (nI p) (nI 0) (nI (n - 1)) = some (nI 1) := isIn_in (by omega) (by omega) (by omega)
theorem st_unlike {j : Nat} {dn : Int32} {df dr row fe to : Nat → Int32} {cnt next : Int32} {store : Nat → Int32} {calls bord rep unl pay : Int32} {cl ul ga py pr : Nat → Int32} {tx rul : Int32} {a : Nat → Int32} {S : Nat → Nat} {N : Nat} (x y : Int32) (h : RealmT j dn df dr row fe to cnt next store calls bord rep unl pay cl ul ga py pr tx rul a S) :
    ∃ (r unl' : Int32) (ul' a' : Nat → Int32) (S' : Nat → Nat), f_X11_unlike N rep unl ul x y = some (r, unl', ul') ∧ f_X12_unlike N a x y = some (r, a') ∧ RealmT (j + 1) dn df dr row fe to cnt next store calls bord rep unl' pay cl ul' ga py pr tx rul a' S' ∧ S' 2 = S 2 := by
  have h0 := h
  obtain ⟨hA, hL, hR, hW, hF, hB, hZ, hQ, hI, hj⟩ := h
  obtain ⟨n1, n2, n3, n4, n5⟩ := hQ
  obtain ⟨c1, c2, c3, c4, c5, U, c6, c7⟩ := n3
  subst c1
  subst c3
  rcases inOut x (S 6) (by omega) with hx | ⟨p, hp, rfl⟩
  · refine ⟨-2, nI (S 7), ul, a, S, ?_, ?_, h0.later, rfl⟩
    · simp only [f_X11_unlike, f_X4_tellUnlike, cRep_out c2 hx, li, ob1_s, ob3_s, ↓reduceIte]
    · simp (disch := omega) only [f_X12_unlike, li, gA_n, hA.2, isIn_out hx (show S 6 < 2147483648 by omega), ob1_s, ↓reduceIte]
  rcases inOut y (S 6) (by omega) with hy | ⟨q, hq, rfl⟩
  · refine ⟨-2, nI (S 7), ul, a, S, ?_, ?_, h0.later, rfl⟩
    · simp (maxSteps := 1000000) (disch := omega) only [li, ob1_s, ob2_s, ob3_s, ob4_s, ob5_s, ob6_s, ob7_s, gA_n, gL_n, sA_n, sL_n, cpI_n, nI_add, pk_mul, nsub, nlt_t, nlt_f, nle_t, nle_f, neq_t, neq_f, rmI_n, dvI_n, upd_ne, upd_eq, un_ne, un_eq, Nat.add_zero, Bool.false_eq_true, ↓reduceIte, f_X11_unlike, f_X4_tellUnlike, cRep_in, cRep_out c2 hy]
    · have i1 := isIn_out (N := N) hy (show S 6 < 2147483648 by omega)
      rw [nsub (by omega)] at i1
      simp (maxSteps := 1000000) (disch := omega) only [li, ob1_s, ob2_s, ob3_s, ob4_s, ob5_s, ob6_s, ob7_s, gA_n, gL_n, sA_n, sL_n, cpI_n, nI_add, pk_mul, nsub, nlt_t, nlt_f, nle_t, nle_f, neq_t, neq_f, rmI_n, dvI_n, upd_ne, upd_eq, un_ne, un_eq, Nat.add_zero, Bool.false_eq_true, ↓reduceIte, f_X12_unlike, hA.2, isIn_p, i1]
  by_cases hpq : p = q
  · subst hpq
    refine ⟨-2, nI (S 7), ul, a, S, ?_, ?_, h0.later, rfl⟩
    · simp (maxSteps := 1000000) (disch := omega) only [li, ob1_s, ob2_s, ob3_s, ob4_s, ob5_s, ob6_s, ob7_s, gA_n, gL_n, sA_n, sL_n, cpI_n, nI_add, pk_mul, nsub, nlt_t, nlt_f, nle_t, nle_f, neq_t, neq_f, rmI_n, dvI_n, upd_ne, upd_eq, un_ne, un_eq, Nat.add_zero, Bool.false_eq_true, ↓reduceIte, f_X11_unlike, f_X4_tellUnlike, cRep_in]
    · simp (maxSteps := 1000000) (disch := omega) only [li, ob1_s, ob2_s, ob3_s, ob4_s, ob5_s, ob6_s, ob7_s, gA_n, gL_n, sA_n, sL_n, cpI_n, nI_add, pk_mul, nsub, nlt_t, nlt_f, nle_t, nle_f, neq_t, neq_f, rmI_n, dvI_n, upd_ne, upd_eq, un_ne, un_eq, Nat.add_zero, Bool.false_eq_true, ↓reduceIte, f_X12_unlike, hA.2, isIn_p]
  rcases Nat.lt_or_ge (S 7) 8 with h8 | h8
  · obtain ⟨p1, p2⟩ := c6 p (by omega)
    obtain ⟨q1, q2⟩ := c6 q (by omega)
    have tp := p28' (show p < 8 by omega)
    have tq := p28' (show q < 8 by omega)
    refine ⟨nI (S 7 + 1), nI (S 7 + 1), upd (upd ul p (nI (U p ||| 2 ^ q))) q (nI (U q ||| 2 ^ p)), upd (upd (upd a (101 + 2 * S 7) (nI p)) (102 + 2 * S 7) (nI q)) 7 (nI (S 7 + 1)), un (un (un S (101 + 2 * S 7) p) (102 + 2 * S 7) q) 7 (S 7 + 1), ?_, ?_, ?_⟩
    · simp (maxSteps := 1000000) (disch := omega) only [li, ob1_s, ob2_s, ob3_s, ob4_s, ob5_s, ob6_s, ob7_s, gA_n, gL_n, sA_n, sL_n, cpI_n, nI_add, pk_mul, nsub, nlt_t, nlt_f, nle_t, nle_f, neq_t, neq_f, rmI_n, dvI_n, upd_ne, upd_eq, un_ne, un_eq, Nat.add_zero, Bool.false_eq_true, ↓reduceIte, f_X11_unlike, f_X4_tellUnlike, cRep_in, p1, q1, nshl1, nor]
    · simp (maxSteps := 1000000) (disch := omega) only [li, ob1_s, ob2_s, ob3_s, ob4_s, ob5_s, ob6_s, ob7_s, gA_n, gL_n, sA_n, sL_n, cpI_n, nI_add, pk_mul, nsub, nlt_t, nlt_f, nle_t, nle_f, neq_t, neq_f, rmI_n, dvI_n, upd_ne, upd_eq, un_ne, un_eq, Nat.add_zero, Bool.false_eq_true, ↓reduceIte, f_X12_unlike, hA.2, isIn_p]
      rw [show 101 + 2 * S 7 + 1 = 102 + 2 * S 7 by omega]
    · refine h0.notes (((hA.up (by omega)).up (by omega)).up (by omega)) (fun i hi => by simp (disch := omega) only [un_ne]) ⟨n1.cg (fun i hi => by simp (disch := omega) only [un_ne]) (by simp (disch := omega) only [un_ne]; omega), n2.cg (fun i hi => by simp (disch := omega) only [un_ne]), ⟨?_, ?_, ?_, ?_, ?_, fun i => if i = q then U q ||| 2 ^ p else if i = p then U p ||| 2 ^ q else U i, fun i hi => ?_, fun i k hi hk => ?_⟩, n4.cg (fun i hi => by simp (disch := omega) only [un_ne]), n5.cg (fun i hi => by simp (disch := omega) only [un_ne]) (by simp (disch := omega) only [un_ne]; omega)⟩
      · simp (maxSteps := 1000000) (disch := omega) only [li, ob1_s, ob2_s, ob3_s, ob4_s, ob5_s, ob6_s, ob7_s, gA_n, gL_n, sA_n, sL_n, cpI_n, nI_add, pk_mul, nsub, nlt_t, nlt_f, nle_t, nle_f, neq_t, neq_f, rmI_n, dvI_n, upd_ne, upd_eq, un_ne, un_eq, Nat.add_zero, Bool.false_eq_true, ↓reduceIte]
      · simp (maxSteps := 1000000) (disch := omega) only [li, ob1_s, ob2_s, ob3_s, ob4_s, ob5_s, ob6_s, ob7_s, gA_n, gL_n, sA_n, sL_n, cpI_n, nI_add, pk_mul, nsub, nlt_t, nlt_f, nle_t, nle_f, neq_t, neq_f, rmI_n, dvI_n, upd_ne, upd_eq, un_ne, un_eq, Nat.add_zero, Bool.false_eq_true, ↓reduceIte]; exact c2
      · simp (maxSteps := 1000000) (disch := omega) only [li, ob1_s, ob2_s, ob3_s, ob4_s, ob5_s, ob6_s, ob7_s, gA_n, gL_n, sA_n, sL_n, cpI_n, nI_add, pk_mul, nsub, nlt_t, nlt_f, nle_t, nle_f, neq_t, neq_f, rmI_n, dvI_n, upd_ne, upd_eq, un_ne, un_eq, Nat.add_zero, Bool.false_eq_true, ↓reduceIte]
      · simp (maxSteps := 1000000) (disch := omega) only [li, ob1_s, ob2_s, ob3_s, ob4_s, ob5_s, ob6_s, ob7_s, gA_n, gL_n, sA_n, sL_n, cpI_n, nI_add, pk_mul, nsub, nlt_t, nlt_f, nle_t, nle_f, neq_t, neq_f, rmI_n, dvI_n, upd_ne, upd_eq, un_ne, un_eq, Nat.add_zero, Bool.false_eq_true, ↓reduceIte]; omega
      · intro t ht
        rw [un_eq rfl] at ht
        by_cases e : t = S 7
        · subst e
          simp (maxSteps := 1000000) (disch := omega) only [li, ob1_s, ob2_s, ob3_s, ob4_s, ob5_s, ob6_s, ob7_s, gA_n, gL_n, sA_n, sL_n, cpI_n, nI_add, pk_mul, nsub, nlt_t, nlt_f, nle_t, nle_f, neq_t, neq_f, rmI_n, dvI_n, upd_ne, upd_eq, un_ne, un_eq, Nat.add_zero, Bool.false_eq_true, ↓reduceIte]
          exact ⟨hp, hq, hpq⟩
        · simp (maxSteps := 1000000) (disch := omega) only [li, ob1_s, ob2_s, ob3_s, ob4_s, ob5_s, ob6_s, ob7_s, gA_n, gL_n, sA_n, sL_n, cpI_n, nI_add, pk_mul, nsub, nlt_t, nlt_f, nle_t, nle_f, neq_t, neq_f, rmI_n, dvI_n, upd_ne, upd_eq, un_ne, un_eq, Nat.add_zero, Bool.false_eq_true, ↓reduceIte]
          exact c5 t (by omega)
      · show _ = nI (if i = q then U q ||| 2 ^ p else if i = p then U p ||| 2 ^ q else U i) ∧ (if i = q then U q ||| 2 ^ p else if i = p then U p ||| 2 ^ q else U i) < 256
        by_cases e1 : i = q
        · rw [if_pos e1, upd_eq e1]
          exact ⟨rfl, Nat.or_lt_two_pow (n := 8) q2 tp⟩
        · by_cases e2 : i = p
          · rw [if_neg e1, if_pos e2, upd_ne e1, upd_eq e2]
            exact ⟨rfl, Nat.or_lt_two_pow (n := 8) p2 tq⟩
          · rw [if_neg e1, if_neg e2, upd_ne e1, upd_ne e2]
            exact c6 i hi
      · have key : unl2 (un (un (un S (101 + 2 * S 7) p) (102 + 2 * S 7) q) 7 (S 7 + 1)) i k ↔ unl2 S i k ∨ (p = i ∧ q = k) ∨ (p = k ∧ q = i) := by
          unfold unl2
          constructor
          · rintro ⟨t, ht, g⟩
            rw [un_eq rfl] at ht
            by_cases e : t = S 7
            · subst e
              simp (maxSteps := 1000000) (disch := omega) only [li, ob1_s, ob2_s, ob3_s, ob4_s, ob5_s, ob6_s, ob7_s, gA_n, gL_n, sA_n, sL_n, cpI_n, nI_add, pk_mul, nsub, nlt_t, nlt_f, nle_t, nle_f, neq_t, neq_f, rmI_n, dvI_n, upd_ne, upd_eq, un_ne, un_eq, Nat.add_zero, Bool.false_eq_true, ↓reduceIte] at g
              exact Or.inr g
            · simp (maxSteps := 1000000) (disch := omega) only [li, ob1_s, ob2_s, ob3_s, ob4_s, ob5_s, ob6_s, ob7_s, gA_n, gL_n, sA_n, sL_n, cpI_n, nI_add, pk_mul, nsub, nlt_t, nlt_f, nle_t, nle_f, neq_t, neq_f, rmI_n, dvI_n, upd_ne, upd_eq, un_ne, un_eq, Nat.add_zero, Bool.false_eq_true, ↓reduceIte] at g
              exact Or.inl ⟨t, by omega, g⟩
          · rintro (⟨t, ht, g⟩ | g)
            · refine ⟨t, by rw [un_eq rfl]; omega, ?_⟩
              simp (maxSteps := 1000000) (disch := omega) only [li, ob1_s, ob2_s, ob3_s, ob4_s, ob5_s, ob6_s, ob7_s, gA_n, gL_n, sA_n, sL_n, cpI_n, nI_add, pk_mul, nsub, nlt_t, nlt_f, nle_t, nle_f, neq_t, neq_f, rmI_n, dvI_n, upd_ne, upd_eq, un_ne, un_eq, Nat.add_zero, Bool.false_eq_true, ↓reduceIte]
              exact g
            · refine ⟨S 7, by rw [un_eq rfl]; omega, ?_⟩
              simp (maxSteps := 1000000) (disch := omega) only [li, ob1_s, ob2_s, ob3_s, ob4_s, ob5_s, ob6_s, ob7_s, gA_n, gL_n, sA_n, sL_n, cpI_n, nI_add, pk_mul, nsub, nlt_t, nlt_f, nle_t, nle_f, neq_t, neq_f, rmI_n, dvI_n, upd_ne, upd_eq, un_ne, un_eq, Nat.add_zero, Bool.false_eq_true, ↓reduceIte]
              exact g
        rw [key, ← c7 i k hi hk]
        show (if i = q then U q ||| 2 ^ p else if i = p then U p ||| 2 ^ q else U i).testBit k = true ↔ _
        by_cases e1 : i = q
        · subst e1
          rw [if_pos rfl, Nat.testBit_or, n1bit, Bool.or_eq_true, decide_eq_true_eq]
          constructor
          · rintro (g | g)
            · exact Or.inl g
            · exact Or.inr (Or.inr ⟨g, rfl⟩)
          · rintro (g | ⟨g, g2⟩ | ⟨g, g2⟩)
            · exact Or.inl g
            · exact absurd g hpq
            · exact Or.inr g
        · by_cases e2 : i = p
          · subst e2
            rw [if_neg e1, if_pos rfl, Nat.testBit_or, n1bit, Bool.or_eq_true, decide_eq_true_eq]
            constructor
            · rintro (g | g)
              · exact Or.inl g
              · exact Or.inr (Or.inl ⟨rfl, g⟩)
            · rintro (g | ⟨g, g2⟩ | ⟨g, g2⟩)
              · exact Or.inl g
              · exact Or.inr g2
              · exact absurd g2.symm hpq
          · rw [if_neg e1, if_neg e2]
            constructor
            · exact fun g => Or.inl g
            · rintro (g | ⟨g, g2⟩ | ⟨g, g2⟩)
              · exact g
              · exact absurd g.symm e2
              · exact absurd g2.symm e1
  · have h8 : S 7 = 8 := by omega
    refine ⟨-2, nI (S 7), ul, a, S, ?_, ?_, h0.later, rfl⟩
    · simp (maxSteps := 1000000) (disch := omega) only [li, ob1_s, ob2_s, ob3_s, ob4_s, ob5_s, ob6_s, ob7_s, gA_n, gL_n, sA_n, sL_n, cpI_n, nI_add, pk_mul, nsub, nlt_t, nlt_f, nle_t, nle_f, neq_t, neq_f, rmI_n, dvI_n, upd_ne, upd_eq, un_ne, un_eq, Nat.add_zero, Bool.false_eq_true, ↓reduceIte, f_X11_unlike, f_X4_tellUnlike, cRep_in]
    · simp (maxSteps := 1000000) (disch := omega) only [li, ob1_s, ob2_s, ob3_s, ob4_s, ob5_s, ob6_s, ob7_s, gA_n, gL_n, sA_n, sL_n, cpI_n, nI_add, pk_mul, nsub, nlt_t, nlt_f, nle_t, nle_f, neq_t, neq_f, rmI_n, dvI_n, upd_ne, upd_eq, un_ne, un_eq, Nat.add_zero, Bool.false_eq_true, ↓reduceIte, f_X12_unlike, hA.2, isIn_p]
/-- who and what in the book, as the machine divides -/
def bkP (S : Nat → Nat) (i : Nat) : Int32 := nI (bk S i) / nI 8 - nI (bk S i) / nI 8 / nI 8 * nI 8
def bkW (S : Nat → Nat) (i : Nat) : Int32 := nI (bk S i) - nI (bk S i) / nI 8 * nI 8
theorem st_befell {j : Nat} {dn : Int32} {df dr row fe to : Nat → Int32} {cnt next : Int32} {store : Nat → Int32} {calls bord rep unl pay : Int32} {cl ul ga py pr : Nat → Int32} {tx rul : Int32} {a : Nat → Int32} {S : Nat → Nat} {N : Nat} (hN : 100 ≤ N) (x y : Int32) (h : RealmT j dn df dr row fe to cnt next store calls bord rep unl pay cl ul ga py pr tx rul a S) (hJ : j ≤ 20000) : ∃ r : Int32, f_X11_befell N row x y = some r ∧ f_X12_befell N a x y = some r := by
  obtain ⟨hA, hL, hR, hW, hF, hB, hZ, hQ, hI, hj⟩ := h
  have hj2 : S 12 < 2147483000 := by omega
  have hle : min (S 12) 30 ≤ 30 := Nat.min_le_right _ _
  have w1 := hW.1
  have sh := rShown (N := N) hA (show S 12 < 2147483648 by omega)
  have cP : ∀ i, i < min (S 12) 30 → f_X1_entryPerson N row (nI i) = some (bkP S i) := fun i hi => by
    simp only [f_X1_entryPerson, cEntry hB hi, ob1_s, li, dv8, rm8]; rfl
  have cW : ∀ i, i < min (S 12) 30 → f_X1_entryWhat N row (nI i) = some (bkW S i) := fun i hi => by
    simp only [f_X1_entryWhat, cEntry hB hi, ob1_s, li, rm8]; rfl
  have rP : ∀ i, i < min (S 12) 30 → f_X12_entry N a (nI i) (nI 1) = some (bkP S i) := fun i hi => by
    rw [rEntry1 hA hj2 hi, dv8, rm8]; rfl
  have rW : ∀ i, i < min (S 12) 30 → f_X12_entry N a (nI i) (nI 2) = some (bkW S i) := fun i hi => by
    rw [rEntry2 hA hj2 hi, rm8]; rfl
  have key : ∀ k n i (c : Int32), i + k = min (S 12) 30 → k < n → ∃ r, f_X11_befell_34 N n row x y c (nI i) = some r ∧ f_X12_befell_31 N n a x y c (nI i) = some r := by
    intro k
    induction k with
    | zero =>
      intro n i c e hn
      obtain ⟨n, rfl⟩ : ∃ m, n = m + 1 := ⟨n - 1, by omega⟩
      have e : i = min (S 12) 30 := by omega
      rw [e]
      exact ⟨c, by simp (maxSteps := 1000000) (disch := omega) only [li, ob1_s, ob2_s, ob3_s, ob4_s, ob5_s, ob6_s, ob7_s, gA_n, gL_n, sA_n, sL_n, cpI_n, nI_add, pk_mul, nsub, nlt_t, nlt_f, nle_t, nle_f, neq_t, neq_f, rmI_n, dvI_n, upd_ne, upd_eq, un_ne, un_eq, Nat.add_zero, Bool.false_eq_true, ↓reduceIte, f_X11_befell_34, f_X1_written, hB.1], by simp (maxSteps := 1000000) (disch := omega) only [li, ob1_s, ob2_s, ob3_s, ob4_s, ob5_s, ob6_s, ob7_s, gA_n, gL_n, sA_n, sL_n, cpI_n, nI_add, pk_mul, nsub, nlt_t, nlt_f, nle_t, nle_f, neq_t, neq_f, rmI_n, dvI_n, upd_ne, upd_eq, un_ne, un_eq, Nat.add_zero, Bool.false_eq_true, ↓reduceIte, f_X12_befell_31, sh]⟩
    | succ k ih =>
      intro n i c e hn
      obtain ⟨n, rfl⟩ : ∃ m, n = m + 1 := ⟨n - 1, by omega⟩
      have hi : i < min (S 12) 30 := by omega
      have z : c + nI 0 = c := by rw [show nI 0 = (0 : Int32) from rfl]; exact Int32.add_zero c
      have f1 := cP i hi
      have f2 := cW i hi
      have f3 := rP i hi
      have f4 := rW i hi
      obtain ⟨r, g1, g2⟩ := ih n (i + 1) c (by omega) (by omega)
      obtain ⟨r', g1', g2'⟩ := ih n (i + 1) (c + nI 1) (by omega) (by omega)
      by_cases hw : bkW S i = y
      · by_cases hx : x = -nI 1
        · refine ⟨r', ?_, ?_⟩
          · simp (maxSteps := 1000000) (disch := omega) only [li, ob1_s, ob2_s, ob3_s, ob4_s, ob5_s, ob6_s, ob7_s, gA_n, gL_n, sA_n, sL_n, cpI_n, nI_add, pk_mul, nsub, nlt_t, nlt_f, nle_t, nle_f, neq_t, neq_f, rmI_n, dvI_n, upd_ne, upd_eq, un_ne, un_eq, Nat.add_zero, Bool.false_eq_true, ↓reduceIte, f_X11_befell_34, f_X11_befell_64, f_X11_befell_69, f_X11_befell_92, f_X1_written, hB.1, hx, f1, f2, hw]
            rw [← hx]; exact g1'
          · simp (maxSteps := 1000000) (disch := omega) only [li, ob1_s, ob2_s, ob3_s, ob4_s, ob5_s, ob6_s, ob7_s, gA_n, gL_n, sA_n, sL_n, cpI_n, nI_add, pk_mul, nsub, nlt_t, nlt_f, nle_t, nle_f, neq_t, neq_f, rmI_n, dvI_n, upd_ne, upd_eq, un_ne, un_eq, Nat.add_zero, Bool.false_eq_true, ↓reduceIte, f_X12_befell_31, f_X12_befell_68, f_X12_befell_72, f_X12_befell_73, sh, hx, f3, f4, hw]
            rw [← hx]; exact g2'
        · by_cases hp : bkP S i = x
          · refine ⟨r', ?_, ?_⟩
            · simp (maxSteps := 1000000) (disch := omega) only [li, ob1_s, ob2_s, ob3_s, ob4_s, ob5_s, ob6_s, ob7_s, gA_n, gL_n, sA_n, sL_n, cpI_n, nI_add, pk_mul, nsub, nlt_t, nlt_f, nle_t, nle_f, neq_t, neq_f, rmI_n, dvI_n, upd_ne, upd_eq, un_ne, un_eq, Nat.add_zero, Bool.false_eq_true, ↓reduceIte, f_X11_befell_34, f_X11_befell_64, f_X11_befell_69, f_X11_befell_92, f_X1_written, hB.1, hx, f1, f2, hw, hp]
              exact g1'
            · simp (maxSteps := 1000000) (disch := omega) only [li, ob1_s, ob2_s, ob3_s, ob4_s, ob5_s, ob6_s, ob7_s, gA_n, gL_n, sA_n, sL_n, cpI_n, nI_add, pk_mul, nsub, nlt_t, nlt_f, nle_t, nle_f, neq_t, neq_f, rmI_n, dvI_n, upd_ne, upd_eq, un_ne, un_eq, Nat.add_zero, Bool.false_eq_true, ↓reduceIte, f_X12_befell_31, f_X12_befell_68, f_X12_befell_72, f_X12_befell_73, sh, hx, f3, f4, hw, hp]
              exact g2'
          · refine ⟨r, ?_, ?_⟩
            · simp (maxSteps := 1000000) (disch := omega) only [li, ob1_s, ob2_s, ob3_s, ob4_s, ob5_s, ob6_s, ob7_s, gA_n, gL_n, sA_n, sL_n, cpI_n, nI_add, pk_mul, nsub, nlt_t, nlt_f, nle_t, nle_f, neq_t, neq_f, rmI_n, dvI_n, upd_ne, upd_eq, un_ne, un_eq, Nat.add_zero, Bool.false_eq_true, ↓reduceIte, f_X11_befell_34, f_X11_befell_64, f_X11_befell_69, f_X11_befell_92, f_X1_written, hB.1, hx, f1, f2, hw, hp]
              exact g1
            · simp (maxSteps := 1000000) (disch := omega) only [li, ob1_s, ob2_s, ob3_s, ob4_s, ob5_s, ob6_s, ob7_s, gA_n, gL_n, sA_n, sL_n, cpI_n, nI_add, pk_mul, nsub, nlt_t, nlt_f, nle_t, nle_f, neq_t, neq_f, rmI_n, dvI_n, upd_ne, upd_eq, un_ne, un_eq, Nat.add_zero, Bool.false_eq_true, ↓reduceIte, f_X12_befell_31, f_X12_befell_68, f_X12_befell_72, f_X12_befell_73, sh, hx, f3, f4, hw, hp, z]
              exact g2
      · refine ⟨r, ?_, ?_⟩
        · by_cases hx : x = -nI 1
          · simp (maxSteps := 1000000) (disch := omega) only [li, ob1_s, ob2_s, ob3_s, ob4_s, ob5_s, ob6_s, ob7_s, gA_n, gL_n, sA_n, sL_n, cpI_n, nI_add, pk_mul, nsub, nlt_t, nlt_f, nle_t, nle_f, neq_t, neq_f, rmI_n, dvI_n, upd_ne, upd_eq, un_ne, un_eq, Nat.add_zero, Bool.false_eq_true, ↓reduceIte, f_X11_befell_34, f_X11_befell_64, f_X11_befell_69, f_X11_befell_92, f_X1_written, hB.1, hx, f1, f2, hw]
            rw [← hx]; exact g1
          · by_cases hp : bkP S i = x
            · simp (maxSteps := 1000000) (disch := omega) only [li, ob1_s, ob2_s, ob3_s, ob4_s, ob5_s, ob6_s, ob7_s, gA_n, gL_n, sA_n, sL_n, cpI_n, nI_add, pk_mul, nsub, nlt_t, nlt_f, nle_t, nle_f, neq_t, neq_f, rmI_n, dvI_n, upd_ne, upd_eq, un_ne, un_eq, Nat.add_zero, Bool.false_eq_true, ↓reduceIte, f_X11_befell_34, f_X11_befell_64, f_X11_befell_69, f_X11_befell_92, f_X1_written, hB.1, hx, f1, f2, hw, hp]
              exact g1
            · simp (maxSteps := 1000000) (disch := omega) only [li, ob1_s, ob2_s, ob3_s, ob4_s, ob5_s, ob6_s, ob7_s, gA_n, gL_n, sA_n, sL_n, cpI_n, nI_add, pk_mul, nsub, nlt_t, nlt_f, nle_t, nle_f, neq_t, neq_f, rmI_n, dvI_n, upd_ne, upd_eq, un_ne, un_eq, Nat.add_zero, Bool.false_eq_true, ↓reduceIte, f_X11_befell_34, f_X11_befell_64, f_X11_befell_69, f_X11_befell_92, f_X1_written, hB.1, hx, f1, f2, hw, hp]
              exact g1
        · simp (maxSteps := 1000000) (disch := omega) only [li, ob1_s, ob2_s, ob3_s, ob4_s, ob5_s, ob6_s, ob7_s, gA_n, gL_n, sA_n, sL_n, cpI_n, nI_add, pk_mul, nsub, nlt_t, nlt_f, nle_t, nle_f, neq_t, neq_f, rmI_n, dvI_n, upd_ne, upd_eq, un_ne, un_eq, Nat.add_zero, Bool.false_eq_true, ↓reduceIte, f_X12_befell_31, f_X12_befell_68, f_X12_befell_72, f_X12_befell_73, sh, f3, f4, hw, z]
          exact g2
  obtain ⟨r, g1, g2⟩ := key (min (S 12) 30) N 0 (nI 0) (by omega) (by omega)
  rcases inOut y 7 (by omega) with hy | ⟨w, hw, rfl⟩
  · refine ⟨-2, ?_, ?_⟩
    · rcases hy with g | ⟨g, g0⟩
      · simp only [f_X11_befell, li, g, ↓reduceIte]
      · simp only [f_X11_befell, li, g0, ge_lt (n := 7) (m := 6) (by omega) (by omega) g, ↓reduceIte]
    · have e := isIn_outT (N := N) (m := 6) hy (by omega) (by omega)
      by_cases hx : x = -nI 1
      · simp only [f_X12_befell, f_X12_befell_13, li, hx, e, ob1_s, ↓reduceIte]
      · rcases inOut x (S 1) (by omega) with ho | ⟨p, hp, rfl⟩
        · simp only [f_X12_befell, f_X12_befell_13, li, hx, e, rPers_out hA w1 ho, ob1_s, ↓reduceIte]
        · simp (maxSteps := 1000000) (disch := omega) only [li, ob1_s, ob2_s, ob3_s, ob4_s, ob5_s, ob6_s, ob7_s, gA_n, gL_n, sA_n, sL_n, cpI_n, nI_add, pk_mul, nsub, nlt_t, nlt_f, nle_t, nle_f, neq_t, neq_f, rmI_n, dvI_n, upd_ne, upd_eq, un_ne, un_eq, Nat.add_zero, Bool.false_eq_true, ↓reduceIte, f_X12_befell, f_X12_befell_13, hx, e, rPers_in hA w1]
  · by_cases hx : x = -nI 1
    · refine ⟨r, ?_, ?_⟩
      · simp (maxSteps := 1000000) (disch := omega) only [li, ob1_s, ob2_s, ob3_s, ob4_s, ob5_s, ob6_s, ob7_s, gA_n, gL_n, sA_n, sL_n, cpI_n, nI_add, pk_mul, nsub, nlt_t, nlt_f, nle_t, nle_f, neq_t, neq_f, rmI_n, dvI_n, upd_ne, upd_eq, un_ne, un_eq, Nat.add_zero, Bool.false_eq_true, ↓reduceIte, f_X11_befell, f_X11_befell_29, hx]
        rw [← hx]; exact g1
      · simp (maxSteps := 1000000) (disch := omega) only [li, ob1_s, ob2_s, ob3_s, ob4_s, ob5_s, ob6_s, ob7_s, gA_n, gL_n, sA_n, sL_n, cpI_n, nI_add, pk_mul, nsub, nlt_t, nlt_f, nle_t, nle_f, neq_t, neq_f, rmI_n, dvI_n, upd_ne, upd_eq, un_ne, un_eq, Nat.add_zero, Bool.false_eq_true, ↓reduceIte, f_X12_befell, f_X12_befell_13, hx, isIn_in]
        rw [← hx]; exact g2
    · rcases inOut x (S 1) (by omega) with ho | ⟨p, hp, rfl⟩
      · refine ⟨-2, ?_, ?_⟩
        · simp (maxSteps := 1000000) (disch := omega) only [li, ob1_s, ob2_s, ob3_s, ob4_s, ob5_s, ob6_s, ob7_s, gA_n, gL_n, sA_n, sL_n, cpI_n, nI_add, pk_mul, nsub, nlt_t, nlt_f, nle_t, nle_f, neq_t, neq_f, rmI_n, dvI_n, upd_ne, upd_eq, un_ne, un_eq, Nat.add_zero, Bool.false_eq_true, ↓reduceIte, f_X11_befell, f_X11_befell_29, hx, cPers_out hR ho]
        · simp (maxSteps := 1000000) (disch := omega) only [li, ob1_s, ob2_s, ob3_s, ob4_s, ob5_s, ob6_s, ob7_s, gA_n, gL_n, sA_n, sL_n, cpI_n, nI_add, pk_mul, nsub, nlt_t, nlt_f, nle_t, nle_f, neq_t, neq_f, rmI_n, dvI_n, upd_ne, upd_eq, un_ne, un_eq, Nat.add_zero, Bool.false_eq_true, ↓reduceIte, f_X12_befell, f_X12_befell_13, hx, rPers_out hA w1 ho]
      · refine ⟨r, ?_, ?_⟩
        · simp (maxSteps := 1000000) (disch := omega) only [li, ob1_s, ob2_s, ob3_s, ob4_s, ob5_s, ob6_s, ob7_s, gA_n, gL_n, sA_n, sL_n, cpI_n, nI_add, pk_mul, nsub, nlt_t, nlt_f, nle_t, nle_f, neq_t, neq_f, rmI_n, dvI_n, upd_ne, upd_eq, un_ne, un_eq, Nat.add_zero, Bool.false_eq_true, ↓reduceIte, f_X11_befell, f_X11_befell_29, hx, cPers_in hR w1]
          exact g1
        · simp (maxSteps := 1000000) (disch := omega) only [li, ob1_s, ob2_s, ob3_s, ob4_s, ob5_s, ob6_s, ob7_s, gA_n, gL_n, sA_n, sL_n, cpI_n, nI_add, pk_mul, nsub, nlt_t, nlt_f, nle_t, nle_f, neq_t, neq_f, rmI_n, dvI_n, upd_ne, upd_eq, un_ne, un_eq, Nat.add_zero, Bool.false_eq_true, ↓reduceIte, f_X12_befell, f_X12_befell_13, hx, rPers_in hA w1, isIn_in]
          exact g2
