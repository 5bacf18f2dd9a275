/-! what a law's code is worth, as whole numbers -/
def clp (z : Int) : Int := if 1000000 < z then 1000000 else if z < -1000000 then -1000000 else z
def bd (z : Int) : Prop := -1000000 ≤ z ∧ z ≤ 1000000
theorem clp_b (z : Int) : bd (clp z) := by
  unfold clp bd
  split
  · omega
  · split <;> omega
theorem clp_id {z : Int} (h : bd z) : clp z = z := by
  unfold clp
  unfold bd at h
  rw [if_neg (by omega), if_neg (by omega)]
def two2 (o : Nat) (x y : Int) : Int := if o = 6 then clp (x + y) else if o = 7 then clp (x - y) else if o = 8 then clp (x * y) else if y = 0 then 0 else x.tdiv y
def ask2 (o : Nat) (x y : Int) : Bool := if o = 10 then decide (x < y) else if o = 11 then decide (x ≤ y) else if o = 12 then decide (y < x) else if o = 13 then decide (y ≤ x) else if o = 14 then decide (x = y) else decide (x ≠ y)
def pre1 (fv : Int → Nat) (o : Nat) (z : Int) : Int := if o = 5 then -z else if o = 2 then (pop3 z.natAbs : Int) else (fv z : Int)
def b2i (b : Bool) : Int := if b = true then 1 else 0
theorem tdiv_b {x y : Int} (h : bd x) : bd (x.tdiv y) := by
  unfold bd at *
  have h1 : (x.tdiv y).natAbs ≤ x.natAbs := by
    rw [Int.natAbs_tdiv]
    exact Nat.div_le_self _ _
  omega
theorem two2_b {o : Nat} {x y : Int} (hx : bd x) : bd (two2 o x y) := by
  unfold two2
  split
  · exact clp_b _
  · split
    · exact clp_b _
    · split
      · exact clp_b _
      · split
        · unfold bd; omega
        · exact tdiv_b hx
theorem pre1_b {fv : Int → Nat} {o : Nat} {z : Int} (h : bd z) (hf : fv z ≤ 9) : bd (pre1 fv o z) := by
  have := pop3_le z.natAbs
  unfold pre1
  unfold bd at *
  split
  · omega
  · split <;> omega
theorem b2i_b (b : Bool) : bd (b2i b) := by cases b <;> (unfold bd b2i; decide)
theorem clI {z : Int} (h1 : -2147483648 ≤ z) (h2 : z < 2147483648) : mxI (-nI 1000000) (mnI (nI 1000000) (iI z)) = iI (clp z) := by
  have e : -nI 1000000 = iI (-1000000) := by decide
  have e2 : nI 1000000 = iI 1000000 := by decide
  unfold mxI mnI clp
  rw [e, e2]
  by_cases c1 : z < 1000000
  · rw [if_pos ((iI_lt ⟨by omega, by omega⟩ ⟨by omega, by omega⟩).mpr c1), if_neg (show ¬ 1000000 < z by omega)]
    by_cases c2 : -1000000 < z
    · rw [if_pos ((iI_lt ⟨by omega, by omega⟩ ⟨by omega, by omega⟩).mpr c2), if_neg (by omega)]
    · rw [if_neg (fun h => c2 ((iI_lt ⟨by omega, by omega⟩ ⟨by omega, by omega⟩).mp h))]
      by_cases c3 : z < -1000000
      · rw [if_pos c3]
      · rw [if_neg c3]; congr 1; omega
  · rw [if_neg (fun h => c1 ((iI_lt ⟨by omega, by omega⟩ ⟨by omega, by omega⟩).mp h))]
    rw [if_pos ((iI_lt ⟨by omega, by omega⟩ ⟨by omega, by omega⟩).mpr (by omega))]
    by_cases c3 : 1000000 < z
    · rw [if_pos c3]
    · rw [if_neg c3, if_neg (by omega)]; congr 1; omega
theorem clL {z : Int} (h1 : -9223372036854775808 ≤ z) (h2 : z < 9223372036854775808) : mxL (-1000000 : Int64) (mnL (1000000 : Int64) (lI z)) = lI (clp z) := by
  have e : (-1000000 : Int64) = lI (-1000000) := by decide
  have e2 : (1000000 : Int64) = lI 1000000 := by decide
  have q1 : (lI z < lI 1000000) ↔ z < 1000000 := lI_lt ⟨by omega, by omega⟩ ⟨by omega, by omega⟩
  have q2 : (lI 1000000 < lI z) ↔ 1000000 < z := lI_lt ⟨by omega, by omega⟩ ⟨by omega, by omega⟩
  have q3 : (lI z < lI (-1000000)) ↔ z < -1000000 := lI_lt ⟨by omega, by omega⟩ ⟨by omega, by omega⟩
  have q4 : (lI (-1000000) < lI z) ↔ -1000000 < z := lI_lt ⟨by omega, by omega⟩ ⟨by omega, by omega⟩
  have q5 : ¬ lI 1000000 < lI (-1000000) := by decide
  have q6 : lI (-1000000) < lI 1000000 := by decide
  unfold mxL mnL clp
  rw [e, e2]
  rcases (show z < -1000000 ∨ z = -1000000 ∨ (-1000000 < z ∧ z < 1000000) ∨ z = 1000000 ∨ 1000000 < z by omega) with c | c | c | c | c
  · simp only [q1, q2, q3, q4, q5, q6, show z < 1000000 by omega, show ¬ 1000000 < z by omega, show ¬ -1000000 < z by omega, c, ↓reduceIte]
  · subst c; decide
  · simp only [q1, q2, q3, q4, q5, q6, show ¬ 1000000 < z by omega, show ¬ z < -1000000 by omega, c.1, c.2, ↓reduceIte]
  · subst c; decide
  · simp only [q1, q2, q3, q4, q5, q6, show ¬ z < 1000000 by omega, c, ↓reduceIte]
theorem rClip {N : Nat} {z : Int} (h1 : -9223372036854775808 ≤ z) (h2 : z < 9223372036854775808) : f_X12_clip N (lI z) = some (lI (clp z)) := by
  have e : (-1000000 : Int64) = lI (-1000000) := by decide
  have e2 : (1000000 : Int64) = lI 1000000 := by decide
  unfold f_X12_clip clp
  rw [e, e2, lcmp ⟨h1, h2⟩ ⟨by omega, by omega⟩, lcmp ⟨h1, h2⟩ ⟨by omega, by omega⟩]
  by_cases c1 : 1000000 < z
  · rw [if_pos c1, if_pos c1, if_neg (by decide)]
  · rw [if_neg c1, if_neg c1]
    have d1 : (if z = 1000000 then (0 : Int32) else -1) ≤ 0 := by split <;> decide
    rw [if_pos d1]
    by_cases c2 : z < -1000000
    · rw [if_pos c2, if_neg (show ¬ -1000000 < z by omega), if_neg (show ¬ z = -1000000 by omega), if_neg (by decide)]
    · rw [if_neg c2]
      have d2 : (0 : Int32) ≤ (if -1000000 < z then 1 else if z = -1000000 then 0 else -1) := by
        by_cases c3 : -1000000 < z
        · rw [if_pos c3]; decide
        · rw [if_neg c3, if_pos (by omega)]; decide
      rw [if_pos d2]
theorem iI_div {x y : Int} (hx : bd x) (hy : bd y) : iI x / iI y = iI (x.tdiv y) := by
  unfold bd at hx hy
  have hb := tdiv_b (x := x) (y := y) hx
  unfold bd at hb
  apply Int32.toInt_inj.mp
  rw [Int32.toInt_div, iI_t (by omega) (by omega), iI_t (by omega) (by omega), iI_t (by omega) (by omega), Int.bmod_eq_of_le (by omega) (by omega)]
theorem lI_div {x y : Int} (hx : bd x) (hy : bd y) : lI x / lI y = lI (x.tdiv y) := by
  unfold bd at hx hy
  have hb := tdiv_b (x := x) (y := y) hx
  unfold bd at hb
  apply Int64.toInt_inj.mp
  rw [Int64.toInt_div, lI_t (by omega) (by omega), lI_t (by omega) (by omega), lI_t (by omega) (by omega), Int.bmod_eq_of_le (by omega) (by omega)]
theorem mul_b {x y : Int} (hx : bd x) (hy : bd y) : -1000000000000 ≤ x * y ∧ x * y ≤ 1000000000000 := by
  unfold bd at hx hy
  have h1 : (x * y).natAbs ≤ 1000000 * 1000000 := by
    rw [Int.natAbs_mul]
    exact Nat.mul_le_mul (by omega) (by omega)
  omega
theorem i0 : nI 0 = iI 0 := by decide
def kOf (o : Nat) : Nat := if o = 6 then 39 else if o = 7 then 40 else if o = 8 then 41 else if o = 9 then 42 else if o = 10 then 35 else if o = 11 then 33 else if o = 12 then 36 else if o = 13 then 34 else if o = 14 then 37 else if o = 15 then 38 else if o = 21 then 31 else if o = 22 then 32 else if o = 20 then 30 else if o = 5 then 49 else if o = 2 then 24 else 25
theorem two2_6 {x y : Int} : two2 6 x y = clp (x + y) := by unfold two2; rw [if_pos rfl]
theorem two2_7 {x y : Int} : two2 7 x y = clp (x - y) := by unfold two2; rw [if_neg (by decide), if_pos rfl]
theorem two2_8 {x y : Int} : two2 8 x y = clp (x * y) := by unfold two2; rw [if_neg (by decide), if_neg (by decide), if_pos rfl]
theorem two2_9 {x y : Int} : two2 9 x y = if y = 0 then 0 else x.tdiv y := by unfold two2; rw [if_neg (by decide), if_neg (by decide), if_neg (by decide)]
theorem kOf_6 : kOf 6 = 39 := by decide
theorem kOf_7 : kOf 7 = 40 := by decide
theorem kOf_8 : kOf 8 = 41 := by decide
theorem kOf_9 : kOf 9 = 42 := by decide
/-- the class's sign of two numbers, held to the limit -/
def CW2 (N k : Nat) (x y z : Int) : Prop := ∃ r : Int64, f_X9_ofTwo N (nI k) (iI x).toInt64 (iI y).toInt64 = some r ∧ (mxL (-1000000 : Int64) (mnL (1000000 : Int64) r)).toInt32 = iI z
theorem CW2.of {N k : Nat} {x y z w : Int} (hx : bd x) (hy : bd y) (h1 : -9223372036854775808 ≤ w) (h2 : w < 9223372036854775808) (h : f_X9_ofTwo N (nI k) (lI x) (lI y) = some (lI w)) (hz : clp w = z) : CW2 N k x y z := by
  unfold bd at hx hy
  refine ⟨lI w, ?_, ?_⟩
  · rw [iI_l (by omega) (by omega), iI_l (by omega) (by omega)]; exact h
  · rw [clL h1 h2, lI_i, hz]
theorem lcmp0 {y : Int} (hy : bd y) : (lg_cmp (lI y) (lI 0) = nI 0) ↔ y = 0 := by
  unfold bd at hy
  rw [lcmp ⟨by omega, by omega⟩ ⟨by omega, by omega⟩]
  by_cases c1 : 0 < y
  · rw [if_pos c1]
    exact ⟨fun h => absurd h (by decide), fun h => by omega⟩
  · rw [if_neg c1]
    by_cases c2 : y = 0
    · rw [if_pos c2]; exact ⟨fun _ => c2, fun _ => rfl⟩
    · rw [if_neg c2]; exact ⟨fun h => absurd h (by decide), fun h => absurd h c2⟩
theorem cTwo {N o : Nat} {x y : Int} (ho : 6 ≤ o ∧ o ≤ 9) (hx : bd x) (hy : bd y) : CW2 N (kOf o) x y (two2 o x y) := by
  have hm := mul_b hx hy
  have hd := tdiv_b (y := y) hx
  have hx' := hx
  have hy' := hy
  unfold bd at hx hy
  rcases (show o = 6 ∨ o = 7 ∨ o = 8 ∨ o = 9 by omega) with e | e | e | e <;> subst e
  · rw [two2_6, kOf_6]
    refine CW2.of (w := x + y) hx' hy' (by omega) (by omega) ?_ rfl
    simp (maxSteps := 1000000) (disch := omega) only [li, ob1_s, ob2_s, ob3_s, ob4_s, ob5_s, ob6_s, ob7_s, gA_n, gL_n, sA_n, sL_n, cpI_n, nI_add, pk_mul, nsub, nlt_t, nlt_f, nle_t, nle_f, neq_t, neq_f, rmI_n, dvI_n, upd_ne, upd_eq, un_ne, un_eq, Nat.add_zero, Bool.false_eq_true, ↓reduceIte, f_X9_ofTwo, lI_add]
  · rw [two2_7, kOf_7]
    refine CW2.of (w := x - y) hx' hy' (by omega) (by omega) ?_ rfl
    simp (maxSteps := 1000000) (disch := omega) only [li, ob1_s, ob2_s, ob3_s, ob4_s, ob5_s, ob6_s, ob7_s, gA_n, gL_n, sA_n, sL_n, cpI_n, nI_add, pk_mul, nsub, nlt_t, nlt_f, nle_t, nle_f, neq_t, neq_f, rmI_n, dvI_n, upd_ne, upd_eq, un_ne, un_eq, Nat.add_zero, Bool.false_eq_true, ↓reduceIte, f_X9_ofTwo, lI_sub]
  · rw [two2_8, kOf_8]
    refine CW2.of (w := x * y) hx' hy' (by omega) (by omega) ?_ rfl
    simp (maxSteps := 1000000) (disch := omega) only [li, ob1_s, ob2_s, ob3_s, ob4_s, ob5_s, ob6_s, ob7_s, gA_n, gL_n, sA_n, sL_n, cpI_n, nI_add, pk_mul, nsub, nlt_t, nlt_f, nle_t, nle_f, neq_t, neq_f, rmI_n, dvI_n, upd_ne, upd_eq, un_ne, un_eq, Nat.add_zero, Bool.false_eq_true, ↓reduceIte, f_X9_ofTwo, lI_mul]
  · rw [two2_9, kOf_9]
    have z0 : (0 : Int64) = lI 0 := by decide
    by_cases h0 : y = 0
    · rw [if_pos h0]
      have := (lcmp0 hy').mpr h0
      refine CW2.of (w := 0) hx' hy' (by omega) (by omega) ?_ (by decide)
      simp (maxSteps := 1000000) (disch := omega) only [li, ob1_s, ob2_s, ob3_s, ob4_s, ob5_s, ob6_s, ob7_s, gA_n, gL_n, sA_n, sL_n, cpI_n, nI_add, pk_mul, nsub, nlt_t, nlt_f, nle_t, nle_f, neq_t, neq_f, rmI_n, dvI_n, upd_ne, upd_eq, un_ne, un_eq, Nat.add_zero, Bool.false_eq_true, ↓reduceIte, f_X9_ofTwo, z0, this]
    · rw [if_neg h0]
      have h1 : ¬ lg_cmp (lI y) (lI 0) = nI 0 := fun h => h0 ((lcmp0 hy').mp h)
      have h2 : ¬ lI y = lI 0 := fun h => h0 ((lI_eq ⟨by omega, by omega⟩ ⟨by omega, by omega⟩).mp h)
      have hd' := hd
      unfold bd at hd
      refine CW2.of (w := x.tdiv y) hx' hy' (by omega) (by omega) ?_ (clp_id hd')
      simp (maxSteps := 1000000) (disch := omega) only [li, ob1_s, ob2_s, ob3_s, ob4_s, ob5_s, ob6_s, ob7_s, gA_n, gL_n, sA_n, sL_n, cpI_n, nI_add, pk_mul, nsub, nlt_t, nlt_f, nle_t, nle_f, neq_t, neq_f, rmI_n, dvI_n, upd_ne, upd_eq, un_ne, un_eq, Nat.add_zero, Bool.false_eq_true, ↓reduceIte, f_X9_ofTwo, z0, h1, dvL, h2, lI_div hx' hy']
theorem rTwo {N o : Nat} {x y : Int} (ho : 6 ≤ o ∧ o ≤ 9) (hx : bd x) (hy : bd y) : f_X12_two N (nI o) (lI x) (lI y) = some (lI (two2 o x y)) := by
  have hm := mul_b hx hy
  have hd := tdiv_b (y := y) hx
  have hx' := hx
  have hy' := hy
  unfold bd at hx hy
  rcases (show o = 6 ∨ o = 7 ∨ o = 8 ∨ o = 9 by omega) with e | e | e | e <;> subst e
  · rw [two2_6]
    simp (maxSteps := 1000000) (disch := omega) only [li, ob1_s, ob2_s, ob3_s, ob4_s, ob5_s, ob6_s, ob7_s, gA_n, gL_n, sA_n, sL_n, cpI_n, nI_add, pk_mul, nsub, nlt_t, nlt_f, nle_t, nle_f, neq_t, neq_f, rmI_n, dvI_n, upd_ne, upd_eq, un_ne, un_eq, Nat.add_zero, Bool.false_eq_true, ↓reduceIte, f_X12_two, lI_add, rClip]
  · rw [two2_7]
    simp (maxSteps := 1000000) (disch := omega) only [li, ob1_s, ob2_s, ob3_s, ob4_s, ob5_s, ob6_s, ob7_s, gA_n, gL_n, sA_n, sL_n, cpI_n, nI_add, pk_mul, nsub, nlt_t, nlt_f, nle_t, nle_f, neq_t, neq_f, rmI_n, dvI_n, upd_ne, upd_eq, un_ne, un_eq, Nat.add_zero, Bool.false_eq_true, ↓reduceIte, f_X12_two, lI_sub, rClip]
  · rw [two2_8]
    simp (maxSteps := 1000000) (disch := omega) only [li, ob1_s, ob2_s, ob3_s, ob4_s, ob5_s, ob6_s, ob7_s, gA_n, gL_n, sA_n, sL_n, cpI_n, nI_add, pk_mul, nsub, nlt_t, nlt_f, nle_t, nle_f, neq_t, neq_f, rmI_n, dvI_n, upd_ne, upd_eq, un_ne, un_eq, Nat.add_zero, Bool.false_eq_true, ↓reduceIte, f_X12_two, lI_mul, rClip]
  · rw [two2_9]
    have z0 : (0 : Int64) = lI 0 := by decide
    have e0 : (lg_cmp (lI y) (lI 0) = nI 0) ↔ y = 0 := by
      rw [lcmp ⟨by omega, by omega⟩ ⟨by omega, by omega⟩]
      by_cases c1 : 0 < y
      · rw [if_pos c1]
        exact ⟨fun h => absurd h (by decide), fun h => by omega⟩
      · rw [if_neg c1]
        by_cases c2 : y = 0
        · rw [if_pos c2]; exact ⟨fun _ => c2, fun _ => rfl⟩
        · rw [if_neg c2]; exact ⟨fun h => absurd h (by decide), fun h => absurd h c2⟩
    by_cases h0 : y = 0
    · rw [if_pos h0]
      have := e0.mpr h0
      simp (maxSteps := 1000000) (disch := omega) only [li, ob1_s, ob2_s, ob3_s, ob4_s, ob5_s, ob6_s, ob7_s, gA_n, gL_n, sA_n, sL_n, cpI_n, nI_add, pk_mul, nsub, nlt_t, nlt_f, nle_t, nle_f, neq_t, neq_f, rmI_n, dvI_n, upd_ne, upd_eq, un_ne, un_eq, Nat.add_zero, Bool.false_eq_true, ↓reduceIte, f_X12_two, z0, this]
    · rw [if_neg h0]
      have h1 : ¬ lg_cmp (lI y) (lI 0) = nI 0 := fun h => h0 (e0.mp h)
      have h2 : ¬ lI y = lI 0 := fun h => h0 ((lI_eq ⟨by omega, by omega⟩ ⟨by omega, by omega⟩).mp h)
      unfold bd at hd
      have h3 := rClip (N := N) (z := x.tdiv y) (by omega) (by omega)
      rw [clp_id (show bd (x.tdiv y) from hd)] at h3
      simp (maxSteps := 1000000) (disch := omega) only [li, ob1_s, ob2_s, ob3_s, ob4_s, ob5_s, ob6_s, ob7_s, gA_n, gL_n, sA_n, sL_n, cpI_n, nI_add, pk_mul, nsub, nlt_t, nlt_f, nle_t, nle_f, neq_t, neq_f, rmI_n, dvI_n, upd_ne, upd_eq, un_ne, un_eq, Nat.add_zero, Bool.false_eq_true, ↓reduceIte, f_X12_two, z0, h1, dvL, h2, lI_div hx' hy', h3]
theorem cAsk {N o : Nat} {x y : Int} (ho : 10 ≤ o ∧ o ≤ 15) (hx : bd x) (hy : bd y) : CW2 N (kOf o) x y (b2i (ask2 o x y)) := by
  refine CW2.of (w := b2i (ask2 o x y)) hx hy (by have := b2i_b (ask2 o x y); unfold bd at this; omega) (by have := b2i_b (ask2 o x y); unfold bd at this; omega) ?_ (clp_id (b2i_b _))
  unfold bd at hx hy
  have lc := lcmp (x := x) (y := y) ⟨by omega, by omega⟩ ⟨by omega, by omega⟩
  have g1 : y < x → lg_cmp (lI x) (lI y) = nI 1 := fun h => by rw [lc, if_pos h]; rfl
  have g2 : x = y → lg_cmp (lI x) (lI y) = nI 0 := fun h => by rw [lc, if_neg (by omega), if_pos h]; rfl
  have g3 : x < y → lg_cmp (lI x) (lI y) = -nI 1 := fun h => by rw [lc, if_neg (by omega), if_neg (by omega)]; rfl
  have n1 : ¬ nI 0 ≤ -nI 1 := by decide
  have n2 : ¬ nI 0 < -nI 1 := by decide
  have n3 : -nI 1 ≤ nI 0 := by decide
  have n4 : -nI 1 < nI 0 := by decide
  have n5 : ¬ -nI 1 = nI 0 := by decide
  have z0 : (0 : Int64) = lI 0 := by decide
  have z1 : (1 : Int64) = lI 1 := by decide
  have bt : b2i true = 1 := by decide
  have bf : b2i false = 0 := by decide
  have o0 : kOf 10 = 35 := by decide
  have o1 : kOf 11 = 33 := by decide
  have o2 : kOf 12 = 36 := by decide
  have o3 : kOf 13 = 34 := by decide
  have o4 : kOf 14 = 37 := by decide
  have o5 : kOf 15 = 38 := by decide
  rcases Int.lt_trichotomy x y with h | h | h
  · have k1 : x ≤ y := by omega
    have k2 : ¬ y < x := by omega
    have k3 : ¬ y ≤ x := by omega
    have k4 : ¬ x = y := by omega
    rcases (show o = 10 ∨ o = 11 ∨ o = 12 ∨ o = 13 ∨ o = 14 ∨ o = 15 by omega) with e | e | e | e | e | e <;> subst e <;> simp (maxSteps := 1000000) (disch := omega) only [li, ob1_s, ob2_s, ob3_s, ob4_s, ob5_s, ob6_s, ob7_s, gA_n, gL_n, sA_n, sL_n, cpI_n, nI_add, pk_mul, nsub, nlt_t, nlt_f, nle_t, nle_f, neq_t, neq_f, rmI_n, dvI_n, upd_ne, upd_eq, un_ne, un_eq, Nat.add_zero, Bool.false_eq_true, ↓reduceIte, f_X9_ofTwo, f_X9_ofTwo_158, o0, o1, o2, o3, o4, o5, g3 h, n1, n2, n3, n4, n5, z0, z1, bt, bf, ask2, h, k1, k2, k3, k4, decide_true, decide_false, ne_eq, not_false_eq_true, Nat.reduceEqDiff]
  · have g4 := g2 h
    subst h
    rcases (show o = 10 ∨ o = 11 ∨ o = 12 ∨ o = 13 ∨ o = 14 ∨ o = 15 by omega) with e | e | e | e | e | e <;> subst e <;> simp (maxSteps := 1000000) (disch := omega) only [li, ob1_s, ob2_s, ob3_s, ob4_s, ob5_s, ob6_s, ob7_s, gA_n, gL_n, sA_n, sL_n, cpI_n, nI_add, pk_mul, nsub, nlt_t, nlt_f, nle_t, nle_f, neq_t, neq_f, rmI_n, dvI_n, upd_ne, upd_eq, un_ne, un_eq, Nat.add_zero, Bool.false_eq_true, ↓reduceIte, f_X9_ofTwo, f_X9_ofTwo_158, o0, o1, o2, o3, o4, o5, g4, z0, z1, bt, bf, ask2, decide_true, decide_false, ne_eq, not_true_eq_false, Int.lt_irrefl, Int.le_refl, Nat.reduceEqDiff]
  · have k1 : ¬ x ≤ y := by omega
    have k3 : y ≤ x := by omega
    have k4 : ¬ x = y := by omega
    have k5 : ¬ x < y := by omega
    rcases (show o = 10 ∨ o = 11 ∨ o = 12 ∨ o = 13 ∨ o = 14 ∨ o = 15 by omega) with e | e | e | e | e | e <;> subst e <;> simp (maxSteps := 1000000) (disch := omega) only [li, ob1_s, ob2_s, ob3_s, ob4_s, ob5_s, ob6_s, ob7_s, gA_n, gL_n, sA_n, sL_n, cpI_n, nI_add, pk_mul, nsub, nlt_t, nlt_f, nle_t, nle_f, neq_t, neq_f, rmI_n, dvI_n, upd_ne, upd_eq, un_ne, un_eq, Nat.add_zero, Bool.false_eq_true, ↓reduceIte, f_X9_ofTwo, f_X9_ofTwo_158, o0, o1, o2, o3, o4, o5, g1 h, z0, z1, bt, bf, ask2, h, k1, k3, k4, k5, decide_true, decide_false, ne_eq, not_false_eq_true, Nat.reduceEqDiff]
theorem rAsk {N o : Nat} {x y : Int} (ho : 10 ≤ o ∧ o ≤ 15) (hx : bd x) (hy : bd y) : f_X12_isAsked N (nI o) (lI x) (lI y) = some (if ask2 o x y = true then nI 1 else nI 0) := by
  unfold bd at hx hy
  have lc := lcmp (x := x) (y := y) ⟨by omega, by omega⟩ ⟨by omega, by omega⟩
  have g1 : y < x → lg_cmp (lI x) (lI y) = nI 1 := fun h => by rw [lc, if_pos h]; rfl
  have g2 : x = y → lg_cmp (lI x) (lI y) = nI 0 := fun h => by rw [lc, if_neg (by omega), if_pos h]; rfl
  have g3 : x < y → lg_cmp (lI x) (lI y) = -nI 1 := fun h => by rw [lc, if_neg (by omega), if_neg (by omega)]; rfl
  have n1 : ¬ nI 0 ≤ -nI 1 := by decide
  have n2 : ¬ nI 0 < -nI 1 := by decide
  have n3 : -nI 1 ≤ nI 0 := by decide
  have n4 : -nI 1 < nI 0 := by decide
  have n5 : ¬ -nI 1 = nI 0 := by decide
  rcases Int.lt_trichotomy x y with h | h | h
  · have k1 : x ≤ y := by omega
    have k2 : ¬ y < x := by omega
    have k3 : ¬ y ≤ x := by omega
    have k4 : ¬ x = y := by omega
    rcases (show o = 10 ∨ o = 11 ∨ o = 12 ∨ o = 13 ∨ o = 14 ∨ o = 15 by omega) with e | e | e | e | e | e <;> subst e <;> simp (maxSteps := 1000000) (disch := omega) only [li, ob1_s, ob2_s, ob3_s, ob4_s, ob5_s, ob6_s, ob7_s, gA_n, gL_n, sA_n, sL_n, cpI_n, nI_add, pk_mul, nsub, nlt_t, nlt_f, nle_t, nle_f, neq_t, neq_f, rmI_n, dvI_n, upd_ne, upd_eq, un_ne, un_eq, Nat.add_zero, Bool.false_eq_true, ↓reduceIte, f_X12_isAsked, g3 h, n1, n2, n3, n4, n5, ask2, h, k1, k2, k3, k4, decide_true, decide_false, ne_eq, not_false_eq_true, Nat.reduceEqDiff]
  · have g4 := g2 h
    subst h
    rcases (show o = 10 ∨ o = 11 ∨ o = 12 ∨ o = 13 ∨ o = 14 ∨ o = 15 by omega) with e | e | e | e | e | e <;> subst e <;> simp (maxSteps := 1000000) (disch := omega) only [li, ob1_s, ob2_s, ob3_s, ob4_s, ob5_s, ob6_s, ob7_s, gA_n, gL_n, sA_n, sL_n, cpI_n, nI_add, pk_mul, nsub, nlt_t, nlt_f, nle_t, nle_f, neq_t, neq_f, rmI_n, dvI_n, upd_ne, upd_eq, un_ne, un_eq, Nat.add_zero, Bool.false_eq_true, ↓reduceIte, f_X12_isAsked, g4, ask2, decide_true, decide_false, ne_eq, not_true_eq_false, Int.lt_irrefl, Int.le_refl, Nat.reduceEqDiff]
  · have k1 : ¬ x ≤ y := by omega
    have k3 : y ≤ x := by omega
    have k4 : ¬ x = y := by omega
    have k5 : ¬ x < y := by omega
    rcases (show o = 10 ∨ o = 11 ∨ o = 12 ∨ o = 13 ∨ o = 14 ∨ o = 15 by omega) with e | e | e | e | e | e <;> subst e <;> simp (maxSteps := 1000000) (disch := omega) only [li, ob1_s, ob2_s, ob3_s, ob4_s, ob5_s, ob6_s, ob7_s, gA_n, gL_n, sA_n, sL_n, cpI_n, nI_add, pk_mul, nsub, nlt_t, nlt_f, nle_t, nle_f, neq_t, neq_f, rmI_n, dvI_n, upd_ne, upd_eq, un_ne, un_eq, Nat.add_zero, Bool.false_eq_true, ↓reduceIte, f_X12_isAsked, g1 h, ask2, h, k1, k3, k4, k5, decide_true, decide_false, ne_eq, not_false_eq_true, Nat.reduceEqDiff]
/-- how much a person is feared, by number -/
def fOf (S : Nat → Nat) (z : Int) : Nat := if 0 ≤ z ∧ z < (S 1 : Int) then S (14 + 11 * z.toNat + 7) else 0
theorem cFear {N : Nat} {row fe : Nat → Int32} {S : Nat → Nat} {z : Int} (hR : RowC row S) (hF : FeaT fe S) (h6 : S 1 ≤ 6) (hz : bd z) : f_X1_fearOf N row fe (iI z) = some (nI (fOf S z)) ∧ fOf S z ≤ 9 := by
  unfold bd at hz
  unfold fOf
  by_cases h0 : 0 ≤ z ∧ z < (S 1 : Int)
  · rw [if_pos h0]
    obtain ⟨k, hk⟩ : ∃ k : Nat, z = k := ⟨z.toNat, by omega⟩
    subst hk
    obtain ⟨f1, f2⟩ := hF k (by omega)
    rw [← iI_n, Int.toNat_natCast]
    refine ⟨?_, f2⟩
    simp (maxSteps := 1000000) (disch := omega) only [li, ob1_s, ob2_s, ob3_s, ob4_s, ob5_s, ob6_s, ob7_s, gA_n, gL_n, sA_n, sL_n, cpI_n, nI_add, pk_mul, nsub, nlt_t, nlt_f, nle_t, nle_f, neq_t, neq_f, rmI_n, dvI_n, upd_ne, upd_eq, un_ne, un_eq, Nat.add_zero, Bool.false_eq_true, ↓reduceIte, f_X1_fearOf, hR.2.2.1, f1]
  · rw [if_neg h0]
    refine ⟨?_, by omega⟩
    by_cases h1 : z < 0
    · have : iI z < nI 0 := by rw [i0]; exact (iI_lt ⟨by omega, by omega⟩ ⟨by omega, by omega⟩).mpr h1
      simp only [f_X1_fearOf, li, this, ↓reduceIte]
    · obtain ⟨k, hk⟩ : ∃ k : Nat, z = k := ⟨z.toNat, by omega⟩
      subst hk
      rw [← iI_n]
      simp (maxSteps := 1000000) (disch := omega) only [li, ob1_s, ob2_s, ob3_s, ob4_s, ob5_s, ob6_s, ob7_s, gA_n, gL_n, sA_n, sL_n, cpI_n, nI_add, pk_mul, nsub, nlt_t, nlt_f, nle_t, nle_f, neq_t, neq_f, rmI_n, dvI_n, upd_ne, upd_eq, un_ne, un_eq, Nat.add_zero, Bool.false_eq_true, ↓reduceIte, f_X1_fearOf, hR.2.2.1]
theorem rFear {N : Nat} {a fe : Nat → Int32} {S : Nat → Nat} {z : Int} (hA : TieA a S) (hF : FeaT fe S) (h6 : S 1 ≤ 6) (hz : bd z) : f_X12_fearOf N a (lI z) = some (lI (fOf S z : Int)) := by
  unfold bd at hz
  unfold fOf
  have z0 : (0 : Int64) = lI 0 := by decide
  have lc := lcmp (x := z) (y := 0) ⟨by omega, by omega⟩ ⟨by omega, by omega⟩
  have s1 : (nI (S 1)).toInt64 = lI (S 1 : Int) := by rw [nIl (by omega), lI_n]
  have lc2 := lcmp (x := z) (y := (S 1 : Int)) ⟨by omega, by omega⟩ ⟨by omega, by omega⟩
  by_cases h1 : z < 0
  · rw [if_neg (by omega)]
    rw [if_neg (show ¬ 0 < z by omega), if_neg (show ¬ z = 0 by omega)] at lc
    have n4 : (-1 : Int32) < 0 := by decide
    unfold f_X12_fearOf
    rw [z0, lc, if_pos n4]
    rfl
  · have n4 : ¬ (if 0 < z then (1 : Int32) else if z = 0 then 0 else -1) < 0 := by
      by_cases h2 : 0 < z
      · rw [if_pos h2]; decide
      · rw [if_neg h2, if_pos (by omega)]; decide
    have n5 : ¬ lg_cmp (lI z) (lI 0) < nI 0 := by rw [lc]; exact n4
    by_cases h3 : z < (S 1 : Int)
    · rw [if_pos ⟨by omega, h3⟩]
      obtain ⟨k, hk⟩ : ∃ k : Nat, z = k := ⟨z.toNat, by omega⟩
      subst hk
      rw [if_neg (by omega), if_neg (by omega)] at lc2
      have n6 : ¬ nI 0 ≤ lg_cmp (lI (k : Int)) (lI (S 1 : Int)) := by rw [lc2]; decide
      have n7 : (lI (k : Int)).toInt32 = nI k := by rw [lI_i, iI_n]
      simp (maxSteps := 1000000) (disch := omega) only [li, ob1_s, ob2_s, ob3_s, ob4_s, ob5_s, ob6_s, ob7_s, gA_n, gL_n, sA_n, sL_n, cpI_n, nI_add, pk_mul, nsub, nlt_t, nlt_f, nle_t, nle_f, neq_t, neq_f, rmI_n, dvI_n, upd_ne, upd_eq, un_ne, un_eq, Nat.add_zero, Bool.false_eq_true, ↓reduceIte, f_X12_fearOf, z0, n5, hA.2, s1, n6, n7, rget hA, Int.toNat_natCast]
      have := (hF k (by omega)).2
      rw [nI_l (by omega), lI_n]
    · rw [if_neg (by omega)]
      have n6 : nI 0 ≤ lg_cmp (lI z) (lI (S 1 : Int)) := by
        rw [lc2]
        by_cases h4 : (S 1 : Int) < z
        · rw [if_pos h4]; decide
        · rw [if_neg h4, if_pos (by omega)]; decide
      simp (maxSteps := 1000000) (disch := omega) only [li, ob1_s, ob2_s, ob3_s, ob4_s, ob5_s, ob6_s, ob7_s, gA_n, gL_n, sA_n, sL_n, cpI_n, nI_add, pk_mul, nsub, nlt_t, nlt_f, nle_t, nle_f, neq_t, neq_f, rmI_n, dvI_n, upd_ne, upd_eq, un_ne, un_eq, Nat.add_zero, Bool.false_eq_true, ↓reduceIte, f_X12_fearOf, z0, n5, hA.2, s1, n6, f_X12_fearOf_30]
      rfl
