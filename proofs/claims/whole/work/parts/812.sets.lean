/-! sets of persons, and how many are in a set -/
def pop (v : Nat) : Nat := (if v.testBit 0 then 1 else 0) + (if v.testBit 1 then 1 else 0) + (if v.testBit 2 then 1 else 0) + (if v.testBit 3 then 1 else 0) + (if v.testBit 4 then 1 else 0) + (if v.testBit 5 then 1 else 0) + (if v.testBit 6 then 1 else 0) + (if v.testBit 7 then 1 else 0)
theorem bc8 : ∀ v, v < 256 → f_J6_bitCount_0f7a4 0 (nI v) = some (nI (pop v)) := by decide +kernel
theorem cBits {N v : Nat} (h : v < 256) : f_J6_bitCount_0f7a4 N (nI v) = some (nI (pop v)) := bc8 v h
theorem pop_step : ∀ v, v < 256 → v ≠ 0 → v &&& (v - 1) < 256 ∧ pop (v &&& (v - 1)) + 1 = pop v := by decide +kernel
theorem pop_le (v : Nat) : pop v ≤ 8 := by
  unfold pop
  repeat' split
  all_goals omega
theorem nandL (a b : Nat) : lN a &&& lN b = lN (a &&& b) := by
  apply Int64.toBitVec_inj.mp
  show BitVec.ofNat 64 a &&& BitVec.ofNat 64 b = BitVec.ofNat 64 (a &&& b)
  apply BitVec.eq_of_toNat_eq
  simp [BitVec.toNat_and, Nat.and_mod_two_pow]
theorem liL (n : Nat) : (OfNat.ofNat n : Int64) = lN (OfNat.ofNat n) := rfl
theorem nIl {n : Nat} (h : n < 2147483648) : (nI n).toInt64 = lN n := nI_l (by omega)
theorem cmp0 {v : Nat} (h : v < 2147483648) : (lg_cmp (lN v) (lN 0) = nI 0) ↔ v = 0 := by
  unfold lg_cmp
  have e : (lN v > lN 0) ↔ 0 < v := lN_lt (by omega) (by omega)
  have e2 : (lN v = lN 0) ↔ v = 0 := lN_eq (by omega) (by omega)
  by_cases hv : v = 0
  · subst hv
    exact ⟨fun _ => rfl, fun _ => by decide⟩
  · rw [if_pos (e.mpr (by omega))]
    simp only [hv, iff_false]
    decide
theorem rBits {N v : Nat} (h : v < 256) (hN : 100 ≤ N) : f_X12_bits N (lN v) = some (nI (pop v)) := by
  have key : ∀ k v c n, v < 256 → pop v = k → k < n → f_X12_bits_4 N n (nI c) (lN v) = some (nI (c + k)) := by
    intro k
    induction k with
    | zero =>
      intro v c n hv hk hn
      obtain ⟨n, rfl⟩ : ∃ m, n = m + 1 := ⟨n - 1, by omega⟩
      have h0 : v = 0 := Classical.byContradiction fun h => by
        have := (pop_step v hv h).2
        omega
      subst h0
      rw [f_X12_bits_4]
      rw [if_pos]
      · rfl
      · decide
    | succ k ih =>
      intro v c n hv hk hn
      obtain ⟨n, rfl⟩ : ∃ m, n = m + 1 := ⟨n - 1, by omega⟩
      have h0 : v ≠ 0 := fun h => by
        subst h
        have : pop 0 = 0 := by decide
        omega
      obtain ⟨g1, g2⟩ := pop_step v hv h0
      rw [f_X12_bits_4, if_neg]
      · have := ih (v &&& (v - 1)) (c + 1) n g1 (by omega) (by omega)
        rw [liL, lN_sub (by omega), nandL, nI_1, this, Nat.add_assoc, Nat.add_comm 1 k]
      · exact fun e => h0 ((cmp0 (by omega)).mp e)
  have := pop_le v
  have g := key (pop v) v 0 N h rfl (by omega)
  rw [Nat.zero_add] at g
  exact g
/-- those with q among the first n, as bits -/
def bset (q : Nat → Bool) : Nat → Nat
  | 0 => 0
  | n + 1 => if q n then bset q n ||| 2 ^ n else bset q n
theorem bset_lt (q : Nat → Bool) : ∀ n, bset q n < 2 ^ n := by
  intro n
  induction n with
  | zero => simp [bset]
  | succ n ih =>
    have e2 : 2 ^ (n + 1) = 2 * 2 ^ n := by rw [Nat.pow_succ, Nat.mul_comm]
    unfold bset
    split
    · exact Nat.or_lt_two_pow (by omega) (Nat.pow_lt_pow_right (by omega) (by omega))
    · omega
theorem bset_bit (q : Nat → Bool) (i : Nat) : ∀ n, (bset q n).testBit i = (decide (i < n) && q i) := by
  intro n
  induction n with
  | zero => simp [bset]
  | succ n ih =>
    unfold bset
    by_cases h : q n = true
    · rw [if_pos h, Nat.testBit_or, ih, n1bit]
      by_cases e : n = i
      · subst e; simp [h]
      · have : decide (i < n + 1) = decide (i < n) := by congr 1; exact propext ⟨fun _ => by omega, fun _ => by omega⟩
        simp [e, this]
    · rw [if_neg h, ih]
      by_cases e : n = i
      · subst e; simp [h]
      · have : decide (i < n + 1) = decide (i < n) := by congr 1; exact propext ⟨fun _ => by omega, fun _ => by omega⟩
        simp [this]
/-- in this land, not dead, not the one b -/
def qIn (S : Nat → Nat) (l b : Nat) : Nat → Bool := fun p => decide (p ≠ b) && decide (S (14 + 11 * p) = l) && decide (S (14 + 11 * p + 6) ≠ 3)
theorem bset_b {q : Nat → Bool} {n : Nat} (h : n ≤ 6) : bset q n < 64 := Nat.lt_of_lt_of_le (bset_lt q n) (Nat.pow_le_pow_right (n := 2) (i := n) (j := 6) (by omega) h)
theorem cOthers {N l b : Nat} {row : Nat → Int32} {S : Nat → Nat} {but : Int32} (hR : RowC row S) (hW : FolkX S) (hl : l < 2147483648) (hb : ∀ p, p < 6 → (nI p = but ↔ p = b)) (h0 : S 0 ≤ 8) (hN : 100 ≤ N) : f_X1_othersIn N row (nI l) but = some (nI (bset (qIn S l b) (S 1))) := by
  obtain ⟨w1, w2, w3, w4⟩ := id hW
  have key : ∀ k n p, p + k = S 1 → k < n → f_X1_othersIn_5 N n row (nI l) but (nI (bset (qIn S l b) p)) (nI p) = some (nI (bset (qIn S l b) (S 1))) := by
    intro k
    induction k with
    | zero =>
      intro n p e hn
      obtain ⟨n, rfl⟩ : ∃ m, n = m + 1 := ⟨n - 1, by omega⟩
      have e : p = S 1 := by omega
      subst e
      simp (maxSteps := 1000000) (disch := omega) only [li, ob1_s, ob2_s, ob3_s, ob4_s, ob5_s, ob6_s, ob7_s, gA_n, gL_n, sA_n, sL_n, cpI_n, nI_add, pk_mul, nsub, nlt_t, nlt_f, nle_t, nle_f, neq_t, neq_f, rmI_n, dvI_n, upd_ne, upd_eq, un_ne, un_eq, Nat.add_zero, Bool.false_eq_true, ↓reduceIte, f_X1_othersIn_5, hR.2.2.1]
    | succ k ih =>
      intro n p e hn
      obtain ⟨n, rfl⟩ : ∃ m, n = m + 1 := ⟨n - 1, by omega⟩
      have g := ih n (p + 1) (by omega) (by omega)
      obtain ⟨p0, p1, p2, p3, p4, p5, p6⟩ := hW.part (show p < S 1 by omega)
      have r0 : row (34 + 7 * p) = nI (S (14 + 11 * p)) := hR.2.2.2.2 p 0 (by omega) (by omega)
      have r6 := hR.2.2.2.2 p 6 (by omega) (by omega)
      have e7 : p * 7 = 7 * p := Nat.mul_comm _ _
      rw [show bset (qIn S l b) (p + 1) = (if qIn S l b p then bset (qIn S l b) p ||| 2 ^ p else bset (qIn S l b) p) from rfl] at g
      by_cases a1 : p = b
      · rw [if_neg (by simp [qIn, a1])] at g
        have : but = nI p := ((hb p (by omega)).mpr a1).symm
        subst this
        simp (maxSteps := 1000000) (disch := omega) only [li, ob1_s, ob2_s, ob3_s, ob4_s, ob5_s, ob6_s, ob7_s, gA_n, gL_n, sA_n, sL_n, cpI_n, nI_add, pk_mul, nsub, nlt_t, nlt_f, nle_t, nle_f, neq_t, neq_f, rmI_n, dvI_n, upd_ne, upd_eq, un_ne, un_eq, Nat.add_zero, Bool.false_eq_true, ↓reduceIte, f_X1_othersIn_5, f_X1_othersIn_73, hR.2.2.1]
        exact g
      · have hnb : ¬ nI p = but := fun h => a1 ((hb p (by omega)).mp h)
        by_cases a2 : S (14 + 11 * p) = l
        · by_cases a3 : S (14 + 11 * p + 6) = 3
          · rw [if_neg (by simp [qIn, a3])] at g
            simp (maxSteps := 1000000) (disch := omega) only [li, ob1_s, ob2_s, ob3_s, ob4_s, ob5_s, ob6_s, ob7_s, gA_n, gL_n, sA_n, sL_n, cpI_n, nI_add, pk_mul, nsub, nlt_t, nlt_f, nle_t, nle_f, neq_t, neq_f, rmI_n, dvI_n, upd_ne, upd_eq, un_ne, un_eq, Nat.add_zero, Bool.false_eq_true, ↓reduceIte, f_X1_othersIn_5, f_X1_othersIn_73, hR.2.2.1, hnb, e7, r0, r6, a2, a3]
            exact g
          · rw [if_pos (by simp [qIn, a1, a2, a3])] at g
            simp (maxSteps := 1000000) (disch := omega) only [li, ob1_s, ob2_s, ob3_s, ob4_s, ob5_s, ob6_s, ob7_s, gA_n, gL_n, sA_n, sL_n, cpI_n, nI_add, pk_mul, nsub, nlt_t, nlt_f, nle_t, nle_f, neq_t, neq_f, rmI_n, dvI_n, upd_ne, upd_eq, un_ne, un_eq, Nat.add_zero, Bool.false_eq_true, ↓reduceIte, f_X1_othersIn_5, f_X1_othersIn_73, hR.2.2.1, hnb, e7, r0, r6, a2, nshl1, nor]
            exact g
        · rw [if_neg (by simp [qIn, a2])] at g
          simp (maxSteps := 1000000) (disch := omega) only [li, ob1_s, ob2_s, ob3_s, ob4_s, ob5_s, ob6_s, ob7_s, gA_n, gL_n, sA_n, sL_n, cpI_n, nI_add, pk_mul, nsub, nlt_t, nlt_f, nle_t, nle_f, neq_t, neq_f, rmI_n, dvI_n, upd_ne, upd_eq, un_ne, un_eq, Nat.add_zero, Bool.false_eq_true, ↓reduceIte, f_X1_othersIn_5, f_X1_othersIn_73, hR.2.2.1, hnb, e7, r0, r6]
          exact g
  exact key (S 1) N 0 (by omega) (by omega)
theorem rAlive {N l : Nat} {a : Nat → Int32} {S : Nat → Nat} (hA : TieA a S) (hW : FolkX S) (hl : l < 2147483648) (h0 : S 0 ≤ 8) (hN : 100 ≤ N) : f_X12_aliveIn N a (nI l) = some (nI (bset (qIn S l 99) (S 1))) := by
  obtain ⟨w1, w2, w3, w4⟩ := id hW
  have key : ∀ k n p, p + k = S 1 → k < n → f_X12_aliveIn_4 N n a (nI l) (nI (bset (qIn S l 99) p)) (nI p) = some (nI (bset (qIn S l 99) (S 1))) := by
    intro k
    induction k with
    | zero =>
      intro n p e hn
      obtain ⟨n, rfl⟩ : ∃ m, n = m + 1 := ⟨n - 1, by omega⟩
      have e : p = S 1 := by omega
      subst e
      simp (maxSteps := 1000000) (disch := omega) only [li, ob1_s, ob2_s, ob3_s, ob4_s, ob5_s, ob6_s, ob7_s, gA_n, gL_n, sA_n, sL_n, cpI_n, nI_add, pk_mul, nsub, nlt_t, nlt_f, nle_t, nle_f, neq_t, neq_f, rmI_n, dvI_n, upd_ne, upd_eq, un_ne, un_eq, Nat.add_zero, Bool.false_eq_true, ↓reduceIte, f_X12_aliveIn_4, hA.2]
    | succ k ih =>
      intro n p e hn
      obtain ⟨n, rfl⟩ : ∃ m, n = m + 1 := ⟨n - 1, by omega⟩
      have g := ih n (p + 1) (by omega) (by omega)
      obtain ⟨p0, p1, p2, p3, p4, p5, p6⟩ := hW.part (show p < S 1 by omega)
      rw [show bset (qIn S l 99) (p + 1) = (if qIn S l 99 p then bset (qIn S l 99) p ||| 2 ^ p else bset (qIn S l 99) p) from rfl] at g
      have hn99 : p ≠ 99 := by omega
      by_cases a2 : S (14 + 11 * p) = l
      · by_cases a3 : S (14 + 11 * p + 6) = 3
        · rw [if_neg (by simp [qIn, a3])] at g
          simp (maxSteps := 1000000) (disch := omega) only [li, ob1_s, ob2_s, ob3_s, ob4_s, ob5_s, ob6_s, ob7_s, gA_n, gL_n, sA_n, sL_n, cpI_n, nI_add, pk_mul, nsub, nlt_t, nlt_f, nle_t, nle_f, neq_t, neq_f, rmI_n, dvI_n, upd_ne, upd_eq, un_ne, un_eq, Nat.add_zero, Bool.false_eq_true, ↓reduceIte, f_X12_aliveIn_4, f_X12_aliveIn_42, f_X12_aliveIn_43, rget hA, hA.2, a2, a3, nor, Nat.or_zero]
          exact g
        · rw [if_pos (by simp [qIn, a2, a3, hn99])] at g
          simp (maxSteps := 1000000) (disch := omega) only [li, ob1_s, ob2_s, ob3_s, ob4_s, ob5_s, ob6_s, ob7_s, gA_n, gL_n, sA_n, sL_n, cpI_n, nI_add, pk_mul, nsub, nlt_t, nlt_f, nle_t, nle_f, neq_t, neq_f, rmI_n, dvI_n, upd_ne, upd_eq, un_ne, un_eq, Nat.add_zero, Bool.false_eq_true, ↓reduceIte, f_X12_aliveIn_4, f_X12_aliveIn_42, f_X12_aliveIn_43, rget hA, hA.2, a2, nor, nshl1]
          exact g
      · rw [if_neg (by simp [qIn, a2])] at g
        simp (maxSteps := 1000000) (disch := omega) only [li, ob1_s, ob2_s, ob3_s, ob4_s, ob5_s, ob6_s, ob7_s, gA_n, gL_n, sA_n, sL_n, cpI_n, nI_add, pk_mul, nsub, nlt_t, nlt_f, nle_t, nle_f, neq_t, neq_f, rmI_n, dvI_n, upd_ne, upd_eq, un_ne, un_eq, Nat.add_zero, Bool.false_eq_true, ↓reduceIte, f_X12_aliveIn_4, f_X12_aliveIn_42, f_X12_aliveIn_43, rget hA, hA.2, nor, Nat.or_zero]
        exact g
  exact key (S 1) N 0 (by omega) (by omega)
theorem alive_but (S : Nat → Nat) (l p m : Nat) (hm : m ≤ 6) : nd (bset (qIn S l 99) m) (2 ^ p) = bset (qIn S l p) m := by
  apply Nat.eq_of_testBit_eq
  intro i
  rw [nd_bit, bset_bit, bset_bit, n1bit]
  by_cases h : i < m
  · have h9 : i ≠ 99 := by omega
    by_cases e : p = i
    · subst e; simp [qIn]
    · have e' : i ≠ p := fun h => e h.symm
      simp [qIn, h9, e, e', h]
  · simp [h]
/-- outlaws -/
def qOut (S : Nat → Nat) : Nat → Bool := fun p => decide (S (14 + 11 * p + 6) = 1)
theorem cOutlaws {N : Nat} {row : Nat → Int32} {S : Nat → Nat} (hR : RowC row S) (hW : FolkX S) (hN : 100 ≤ N) : f_X1_outlaws N row = some (nI (bset (qOut S) (S 1))) := by
  obtain ⟨w1, w2, w3, w4⟩ := id hW
  have key : ∀ k n p, p + k = S 1 → k < n → f_X1_outlaws_4 N n row (nI (bset (qOut S) p)) (nI p) = some (nI (bset (qOut S) (S 1))) := by
    intro k
    induction k with
    | zero =>
      intro n p e hn
      obtain ⟨n, rfl⟩ : ∃ m, n = m + 1 := ⟨n - 1, by omega⟩
      have e : p = S 1 := by omega
      subst e
      simp (maxSteps := 1000000) (disch := omega) only [li, ob1_s, ob2_s, ob3_s, ob4_s, ob5_s, ob6_s, ob7_s, gA_n, gL_n, sA_n, sL_n, cpI_n, nI_add, pk_mul, nsub, nlt_t, nlt_f, nle_t, nle_f, neq_t, neq_f, rmI_n, dvI_n, upd_ne, upd_eq, un_ne, un_eq, Nat.add_zero, Bool.false_eq_true, ↓reduceIte, f_X1_outlaws_4, f_X1_count, hR.2.2.1]
    | succ k ih =>
      intro n p e hn
      obtain ⟨n, rfl⟩ : ∃ m, n = m + 1 := ⟨n - 1, by omega⟩
      have g := ih n (p + 1) (by omega) (by omega)
      obtain ⟨p0, p1, p2, p3, p4, p5, p6⟩ := hW.part (show p < S 1 by omega)
      rw [show bset (qOut S) (p + 1) = (if qOut S p then bset (qOut S) p ||| 2 ^ p else bset (qOut S) p) from rfl] at g
      by_cases a3 : S (14 + 11 * p + 6) = 1
      · rw [if_pos (by simp [qOut, a3])] at g
        simp (maxSteps := 1000000) (disch := omega) only [li, ob1_s, ob2_s, ob3_s, ob4_s, ob5_s, ob6_s, ob7_s, gA_n, gL_n, sA_n, sL_n, cpI_n, nI_add, pk_mul, nsub, nlt_t, nlt_f, nle_t, nle_f, neq_t, neq_f, rmI_n, dvI_n, upd_ne, upd_eq, un_ne, un_eq, Nat.add_zero, Bool.false_eq_true, ↓reduceIte, f_X1_outlaws_4, f_X1_outlaws_29, f_X1_count, hR.2.2.1, cget hR w1, a3, nor, nshl1]
        exact g
      · rw [if_neg (by simp [qOut, a3])] at g
        simp (maxSteps := 1000000) (disch := omega) only [li, ob1_s, ob2_s, ob3_s, ob4_s, ob5_s, ob6_s, ob7_s, gA_n, gL_n, sA_n, sL_n, cpI_n, nI_add, pk_mul, nsub, nlt_t, nlt_f, nle_t, nle_f, neq_t, neq_f, rmI_n, dvI_n, upd_ne, upd_eq, un_ne, un_eq, Nat.add_zero, Bool.false_eq_true, ↓reduceIte, f_X1_outlaws_4, f_X1_outlaws_29, f_X1_count, hR.2.2.1, cget hR w1]
        exact g
  exact key (S 1) N 0 (by omega) (by omega)
theorem rOutlaw {N p : Nat} {a : Nat → Int32} {S : Nat → Nat} (hA : TieA a S) (hW : FolkX S) (hp : p < S 1) : f_X12_isOutlaw N a (nI p) = some (nI (if S (14 + 11 * p + 6) = 1 then 1 else 0)) := by
  obtain ⟨w1, w2, w3, w4⟩ := id hW
  obtain ⟨p0, p1, p2, p3, p4, p5, p6⟩ := hW.part hp
  by_cases e : S (14 + 11 * p + 6) = 1
  · simp (maxSteps := 1000000) (disch := omega) only [li, ob1_s, ob2_s, ob3_s, ob4_s, ob5_s, ob6_s, ob7_s, gA_n, gL_n, sA_n, sL_n, cpI_n, nI_add, pk_mul, nsub, nlt_t, nlt_f, nle_t, nle_f, neq_t, neq_f, rmI_n, dvI_n, upd_ne, upd_eq, un_ne, un_eq, Nat.add_zero, Bool.false_eq_true, ↓reduceIte, f_X12_isOutlaw, rPers_in hA w1, rget hA, e]
  · simp (maxSteps := 1000000) (disch := omega) only [li, ob1_s, ob2_s, ob3_s, ob4_s, ob5_s, ob6_s, ob7_s, gA_n, gL_n, sA_n, sL_n, cpI_n, nI_add, pk_mul, nsub, nlt_t, nlt_f, nle_t, nle_f, neq_t, neq_f, rmI_n, dvI_n, upd_ne, upd_eq, un_ne, un_eq, Nat.add_zero, Bool.false_eq_true, ↓reduceIte, f_X12_isOutlaw, rPers_in hA w1, rget hA, e]
theorem rAliv {N p : Nat} {a : Nat → Int32} {S : Nat → Nat} (hA : TieA a S) (hW : FolkX S) (hp : p < S 1) : f_X12_isAlive N a (nI p) = some (nI (if S (14 + 11 * p + 6) = 3 then 0 else 1)) := by
  obtain ⟨w1, w2, w3, w4⟩ := id hW
  obtain ⟨p0, p1, p2, p3, p4, p5, p6⟩ := hW.part hp
  by_cases e : S (14 + 11 * p + 6) = 3
  · simp (maxSteps := 1000000) (disch := omega) only [li, ob1_s, ob2_s, ob3_s, ob4_s, ob5_s, ob6_s, ob7_s, gA_n, gL_n, sA_n, sL_n, cpI_n, nI_add, pk_mul, nsub, nlt_t, nlt_f, nle_t, nle_f, neq_t, neq_f, rmI_n, dvI_n, upd_ne, upd_eq, un_ne, un_eq, Nat.add_zero, Bool.false_eq_true, ↓reduceIte, f_X12_isAlive, rPers_in hA w1, rget hA, e]
  · simp (maxSteps := 1000000) (disch := omega) only [li, ob1_s, ob2_s, ob3_s, ob4_s, ob5_s, ob6_s, ob7_s, gA_n, gL_n, sA_n, sL_n, cpI_n, nI_add, pk_mul, nsub, nlt_t, nlt_f, nle_t, nle_f, neq_t, neq_f, rmI_n, dvI_n, upd_ne, upd_eq, un_ne, un_eq, Nat.add_zero, Bool.false_eq_true, ↓reduceIte, f_X12_isAlive, rPers_in hA w1, rget hA, e]
theorem rWolves {N : Nat} {a : Nat → Int32} {S : Nat → Nat} (hA : TieA a S) (hW : FolkX S) (hN : 100 ≤ N) : f_X12_wolves N a = some (nI (bset (qOut S) (S 1))) := by
  have w1 := hW.1
  have key : ∀ k n p, p + k = S 1 → k < n → f_X12_wolves_4 N n a (nI (bset (qOut S) p)) (nI p) = some (nI (bset (qOut S) (S 1))) := by
    intro k
    induction k with
    | zero =>
      intro n p e hn
      obtain ⟨n, rfl⟩ : ∃ m, n = m + 1 := ⟨n - 1, by omega⟩
      have e : p = S 1 := by omega
      subst e
      simp (maxSteps := 1000000) (disch := omega) only [li, ob1_s, ob2_s, ob3_s, ob4_s, ob5_s, ob6_s, ob7_s, gA_n, gL_n, sA_n, sL_n, cpI_n, nI_add, pk_mul, nsub, nlt_t, nlt_f, nle_t, nle_f, neq_t, neq_f, rmI_n, dvI_n, upd_ne, upd_eq, un_ne, un_eq, Nat.add_zero, Bool.false_eq_true, ↓reduceIte, f_X12_wolves_4, hA.2]
    | succ k ih =>
      intro n p e hn
      obtain ⟨n, rfl⟩ : ∃ m, n = m + 1 := ⟨n - 1, by omega⟩
      have g := ih n (p + 1) (by omega) (by omega)
      rw [show bset (qOut S) (p + 1) = (if qOut S p then bset (qOut S) p ||| 2 ^ p else bset (qOut S) p) from rfl] at g
      by_cases a3 : S (14 + 11 * p + 6) = 1
      · rw [if_pos (by simp [qOut, a3])] at g
        simp (maxSteps := 1000000) (disch := omega) only [li, ob1_s, ob2_s, ob3_s, ob4_s, ob5_s, ob6_s, ob7_s, gA_n, gL_n, sA_n, sL_n, cpI_n, nI_add, pk_mul, nsub, nlt_t, nlt_f, nle_t, nle_f, neq_t, neq_f, rmI_n, dvI_n, upd_ne, upd_eq, un_ne, un_eq, Nat.add_zero, Bool.false_eq_true, ↓reduceIte, f_X12_wolves_4, f_X12_wolves_30, rOutlaw hA hW, hA.2, a3, nor, nshl1]
        exact g
      · rw [if_neg (by simp [qOut, a3])] at g
        simp (maxSteps := 1000000) (disch := omega) only [li, ob1_s, ob2_s, ob3_s, ob4_s, ob5_s, ob6_s, ob7_s, gA_n, gL_n, sA_n, sL_n, cpI_n, nI_add, pk_mul, nsub, nlt_t, nlt_f, nle_t, nle_f, neq_t, neq_f, rmI_n, dvI_n, upd_ne, upd_eq, un_ne, un_eq, Nat.add_zero, Bool.false_eq_true, ↓reduceIte, f_X12_wolves_4, f_X12_wolves_30, rOutlaw hA hW, hA.2, a3, nor, Nat.or_zero]
        exact g
  exact key (S 1) N 0 (by omega) (by omega)
