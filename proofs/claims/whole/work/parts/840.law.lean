/-! what the laws say, both sides, as long as the texts' codes agree -/
def lI (z : Int) : Int64 := Int64.ofInt z
theorem lI_t {z : Int} (h1 : -9223372036854775808 ≤ z) (h2 : z < 9223372036854775808) : (lI z).toInt = z := by
  unfold lI
  rw [Int64.toInt_ofInt, Int.bmod_eq_of_le (by simp [Int64.size]; omega) (by simp [Int64.size]; omega)]
theorem lI_n (n : Nat) : lN n = lI n := by
  apply Int64.toBitVec_inj.mp
  show BitVec.ofNat 64 n = BitVec.ofInt 64 n
  simp
theorem lI_add (x y : Int) : lI x + lI y = lI (x + y) := (Int64.ofInt_add x y).symm
theorem lI_sub (x y : Int) : lI x - lI y = lI (x - y) := (Int64.ofInt_sub x y).symm
theorem lI_neg (x : Int) : -lI x = lI (-x) := (Int64.ofInt_neg x).symm
theorem lI_mul (x y : Int) : lI x * lI y = lI (x * y) := (Int64.ofInt_mul x y).symm
theorem iI_l {z : Int} (h1 : -2147483648 ≤ z) (h2 : z < 2147483648) : (iI z).toInt64 = lI z := by
  apply Int64.toInt_inj.mp
  rw [Int32.toInt_toInt64, iI_t h1 h2, lI_t (by omega) (by omega)]
theorem lI_i (z : Int) : (lI z).toInt32 = iI z := by
  unfold lI iI
  exact Int64.toInt32_ofInt
theorem lI_lt {x y : Int} (hx : -9223372036854775808 ≤ x ∧ x < 9223372036854775808) (hy : -9223372036854775808 ≤ y ∧ y < 9223372036854775808) : lI x < lI y ↔ x < y := by
  rw [Int64.lt_iff_toInt_lt, lI_t hx.1 hx.2, lI_t hy.1 hy.2]
theorem lI_eq {x y : Int} (hx : -9223372036854775808 ≤ x ∧ x < 9223372036854775808) (hy : -9223372036854775808 ≤ y ∧ y < 9223372036854775808) : lI x = lI y ↔ x = y := by
  rw [← Int64.toInt_inj, lI_t hx.1 hx.2, lI_t hy.1 hy.2]
theorem lcmp {x y : Int} (hx : -9223372036854775808 ≤ x ∧ x < 9223372036854775808) (hy : -9223372036854775808 ≤ y ∧ y < 9223372036854775808) : lg_cmp (lI x) (lI y) = if y < x then 1 else if x = y then 0 else -1 := by
  unfold lg_cmp
  by_cases h1 : y < x
  · rw [if_pos h1, if_pos ((lI_lt hy hx).mpr h1)]
  · rw [if_neg h1, if_neg (fun h => h1 ((lI_lt hy hx).mp h))]
    by_cases h2 : x = y
    · rw [if_pos h2, if_pos (by rw [h2])]
    · rw [if_neg h2, if_neg (fun h => h2 ((lI_eq hx hy).mp h))]
theorem rCut {N : Nat} {z : Int} {top : Nat} (h1 : -2147483648 ≤ z) (h2 : z < 2147483648) (ht : top < 2147483648) : f_X12_cut N (lI z) (nI 0) (nI top) = some (nI (min z.toNat top)) := by
  have e0 : (nI 0).toInt64 = lI 0 := by decide
  have e1 : (nI top).toInt64 = lI top := by rw [nIl ht, lI_n]
  unfold f_X12_cut
  rw [e0, e1, lcmp ⟨by omega, by omega⟩ ⟨by omega, by omega⟩, lcmp ⟨by omega, by omega⟩ ⟨by omega, by omega⟩]
  by_cases c1 : z < 0
  · rw [if_neg (show ¬ (0 : Int) < z by omega), if_neg (show ¬ z = 0 by omega), if_neg (by decide), show min z.toNat top = 0 by omega]
  · have c0 : (0 : Int32) ≤ (if (0 : Int) < z then 1 else if z = 0 then 0 else -1) := by
      by_cases c2 : 0 < z
      · rw [if_pos c2]; decide
      · rw [if_neg c2, if_pos (by omega)]; decide
    rw [if_pos c0]
    by_cases c3 : (top : Int) < z
    · rw [if_pos c3, if_neg (by decide), show min z.toNat top = top by omega]
    · have c4 : (if (top : Int) < z then (1 : Int32) else if z = top then 0 else -1) ≤ 0 := by
        rw [if_neg c3]
        split <;> decide
      rw [if_pos c4, lI_i, show min z.toNat top = z.toNat by omega, iI_n]
      congr 2; omega
theorem cCut {z : Int} {top : Nat} (h1 : -2147483648 ≤ z) (h2 : z < 2147483648) (ht : top < 2147483648) : mxI (nI 0) (mnI (nI top) (iI z)) = nI (min z.toNat top) := by
  unfold mxI mnI
  rw [iI_n 0, iI_n top]
  by_cases c1 : z < top
  · rw [if_pos ((iI_lt ⟨by omega, by omega⟩ ⟨by omega, by omega⟩).mpr c1)]
    by_cases c2 : ((0 : Nat) : Int) < z
    · rw [if_pos ((iI_lt ⟨by omega, by omega⟩ ⟨by omega, by omega⟩).mpr c2), iI_n]
      congr 1; omega
    · rw [if_neg (fun h => c2 ((iI_lt ⟨by omega, by omega⟩ ⟨by omega, by omega⟩).mp h)), iI_n]
      congr 1; omega
  · rw [if_neg (fun h => c1 ((iI_lt ⟨by omega, by omega⟩ ⟨by omega, by omega⟩).mp h))]
    by_cases c2 : ((0 : Nat) : Int) < (top : Int)
    · rw [if_pos ((iI_lt ⟨by omega, by omega⟩ ⟨by omega, by omega⟩).mpr c2), iI_n]
      congr 1; omega
    · rw [if_neg (fun h => c2 ((iI_lt ⟨by omega, by omega⟩ ⟨by omega, by omega⟩).mp h)), iI_n]
      congr 1; omega
theorem pop_or : ∀ p, p < 8 → ∀ v, v < 256 → v < 2 ^ p → pop (v ||| 2 ^ p) = pop v + 1 := by decide +kernel
theorem pop_b (q : Nat → Bool) {p : Nat} (hp : p < 6) : pop (bset q (p + 1)) = pop (bset q p) + (if q p then 1 else 0) := by
  have h1 := bset_lt q p
  have h2 : 2 ^ p ≤ 256 := p28 (by omega)
  rw [show bset q (p + 1) = (if q p then bset q p ||| 2 ^ p else bset q p) from rfl]
  by_cases h : q p = true
  · rw [if_pos h, if_pos h, pop_or p (by omega) _ (by omega) h1]
  · rw [if_neg h, if_neg h]; rfl
theorem rCrowd {N p l : Nat} {a : Nat → Int32} {S : Nat → Nat} (hA : TieA a S) (hW : FolkX S) (hp : p < 2147483648) (hl : l < 2147483648) (h0 : S 0 ≤ 8) (hN : 100 ≤ N) : f_X12_crowdOf N a (nI p) (nI l) = some (nI (pop (bset (qIn S l p) (S 1)))) := by
  have w1 := hW.1
  have key : ∀ k n t, t + k = S 1 → k < n → f_X12_crowdOf_5 N n a (nI p) (nI l) (nI (pop (bset (qIn S l p) t))) (nI t) = some (nI (pop (bset (qIn S l p) (S 1)))) := by
    intro k
    induction k with
    | zero =>
      intro n t e hn
      obtain ⟨n, rfl⟩ : ∃ m, n = m + 1 := ⟨n - 1, by omega⟩
      have e : t = S 1 := by omega
      subst e
      simp (maxSteps := 1000000) (disch := omega) only [li, ob1_s, ob2_s, ob3_s, ob4_s, ob5_s, ob6_s, ob7_s, gA_n, gL_n, sA_n, sL_n, cpI_n, nI_add, pk_mul, nsub, nlt_t, nlt_f, nle_t, nle_f, neq_t, neq_f, rmI_n, dvI_n, upd_ne, upd_eq, un_ne, un_eq, Nat.add_zero, Bool.false_eq_true, ↓reduceIte, f_X12_crowdOf_5, hA.2]
    | succ k ih =>
      intro n t e hn
      obtain ⟨n, rfl⟩ : ∃ m, n = m + 1 := ⟨n - 1, by omega⟩
      have g := ih n (t + 1) (by omega) (by omega)
      obtain ⟨p0, p1, p2, p3, p4, p5, p6⟩ := hW.part (show t < S 1 by omega)
      rw [pop_b _ (by omega)] at g
      by_cases a1 : t = p
      · rw [if_neg (by simp [qIn, a1])] at g
        simp (maxSteps := 1000000) (disch := omega) only [li, ob1_s, ob2_s, ob3_s, ob4_s, ob5_s, ob6_s, ob7_s, gA_n, gL_n, sA_n, sL_n, cpI_n, nI_add, pk_mul, nsub, nlt_t, nlt_f, nle_t, nle_f, neq_t, neq_f, rmI_n, dvI_n, upd_ne, upd_eq, un_ne, un_eq, Nat.add_zero, Bool.false_eq_true, ↓reduceIte, f_X12_crowdOf_5, f_X12_crowdOf_50, f_X12_crowdOf_51, hA.2]
        exact g
      · by_cases a3 : S (14 + 11 * t + 6) = 3
        · rw [if_neg (by simp [qIn, a3])] at g
          simp (maxSteps := 1000000) (disch := omega) only [li, ob1_s, ob2_s, ob3_s, ob4_s, ob5_s, ob6_s, ob7_s, gA_n, gL_n, sA_n, sL_n, cpI_n, nI_add, pk_mul, nsub, nlt_t, nlt_f, nle_t, nle_f, neq_t, neq_f, rmI_n, dvI_n, upd_ne, upd_eq, un_ne, un_eq, Nat.add_zero, Bool.false_eq_true, ↓reduceIte, f_X12_crowdOf_5, f_X12_crowdOf_50, f_X12_crowdOf_51, hA.2, rget hA, a3]
          exact g
        · by_cases a2 : S (14 + 11 * t) = l
          · rw [if_pos (by simp [qIn, a1, a2, a3])] at g
            simp (maxSteps := 1000000) (disch := omega) only [li, ob1_s, ob2_s, ob3_s, ob4_s, ob5_s, ob6_s, ob7_s, gA_n, gL_n, sA_n, sL_n, cpI_n, nI_add, pk_mul, nsub, nlt_t, nlt_f, nle_t, nle_f, neq_t, neq_f, rmI_n, dvI_n, upd_ne, upd_eq, un_ne, un_eq, Nat.add_zero, Bool.false_eq_true, ↓reduceIte, f_X12_crowdOf_5, f_X12_crowdOf_50, f_X12_crowdOf_51, hA.2, rget hA, a2]
            exact g
          · rw [if_neg (by simp [qIn, a2])] at g
            simp (maxSteps := 1000000) (disch := omega) only [li, ob1_s, ob2_s, ob3_s, ob4_s, ob5_s, ob6_s, ob7_s, gA_n, gL_n, sA_n, sL_n, cpI_n, nI_add, pk_mul, nsub, nlt_t, nlt_f, nle_t, nle_f, neq_t, neq_f, rmI_n, dvI_n, upd_ne, upd_eq, un_ne, un_eq, Nat.add_zero, Bool.false_eq_true, ↓reduceIte, f_X12_crowdOf_5, f_X12_crowdOf_50, f_X12_crowdOf_51, hA.2, rget hA]
            exact g
  have z : pop (bset (qIn S l p) 0) = 0 := by show pop 0 = 0; decide
  have g := key (S 1) N 0 (by omega) (by omega)
  rw [z] at g
  exact g
/-- the ten names, in the order of each side -/
def sg (i : Nat) : Nat := if i = 0 then 3 else if i < 4 then i - 1 else i
def EnvT (nm nd : Nat → Int32) : Prop := ∀ i, i < 10 → ∃ v, v ≤ 9999 ∧ nm i = nI v ∧ nd (sg i) = nI v
def FeaT (fe : Nat → Int32) (S : Nat → Nat) : Prop := ∀ p, p < S 1 → fe p = nI (S (14 + 11 * p + 7)) ∧ S (14 + 11 * p + 7) ≤ 9
theorem dNames {N p l : Nat} {dn : Int32} {df row fe a nm0 nd0 : Nat → Int32} {S : Nat → Nat} (hN : 100 ≤ N) (hn : dn = nI (S 0)) (h8 : S 0 ≤ 8) (hf : ∀ k, k < S 0 → df k = nI (S (80 + k)) ∧ S (80 + k) ≤ 9) (hR : RowC row S) (hA : TieA a S) (hW : FolkX S) (hF : FeaT fe S) (hp : p < S 1) (hl : l < S 0) :
    ∃ nm nd, f_X3_fillNames N dn df row fe nm0 (nI p) (nI l) = some nm ∧ f_X12_nameIn N a nd0 (nI p) (nI l) = some nd ∧ EnvT nm nd := by
  subst hn
  have w1 := hW.1
  obtain ⟨p0, p1, p2, p3, p4, p5, p6⟩ := hW.part hp
  obtain ⟨f1, f2⟩ := hF p hp
  obtain ⟨l1, l2⟩ := hf l hl
  have eo := bset_b (q := qIn S l p) w1
  have e1 := cOthers (N := N) (l := l) (b := p) (but := nI p) hR hW (by omega) (fun q hq => neq (by omega) (by omega)) h8 hN
  have c1 := cBits (N := N) (v := bset (qIn S l p) (S 1)) (by omega)
  have c2 := rCrowd (N := N) (p := p) (l := l) hA hW (by omega) (by omega) h8 hN
  have pl := pop_le (bset (qIn S l p) (S 1))
  have w2 := hW.2.1
  refine ⟨upd (upd (upd (upd (upd (upd (upd (upd (upd (upd nm0 0 (nI l)) 1 (nI (S 10))) 2 (nI p)) 3 (nI (S (14 + 11 * p + 7)))) 4 (nI (S (80 + l)))) 5 (nI (S (14 + 11 * p + 4)))) 6 (nI (S (14 + 11 * p + 5)))) 7 (nI (S (14 + 11 * p + 1)))) 8 (nI (S (14 + 11 * p + 2)))) 9 (nI (pop (bset (qIn S l p) (S 1)))),
    upd (upd (upd (upd (upd (upd (upd (upd (upd (upd nd0 0 (nI (S 10))) 1 (nI p)) 2 (nI (S (14 + 11 * p + 7)))) 3 (nI l)) 4 (nI (S (80 + l)))) 5 (nI (S (14 + 11 * p + 4)))) 6 (nI (S (14 + 11 * p + 5)))) 7 (nI (S (14 + 11 * p + 1)))) 8 (nI (S (14 + 11 * p + 2)))) 9 (nI (pop (bset (qIn S l p) (S 1)))), ?_, ?_, ?_⟩
  · simp (maxSteps := 1000000) (disch := omega) only [li, ob1_s, ob2_s, ob3_s, ob4_s, ob5_s, ob6_s, ob7_s, gA_n, gL_n, sA_n, sL_n, cpI_n, nI_add, pk_mul, nsub, nlt_t, nlt_f, nle_t, nle_f, neq_t, neq_f, rmI_n, dvI_n, upd_ne, upd_eq, un_ne, un_eq, Nat.add_zero, Bool.false_eq_true, ↓reduceIte, f_X3_fillNames, f_X1_monthNow, hR.1, f_X1_fearOf, hR.2.2.1, f1, f_X2_forestOf, l1, cget hR w1, e1, c1]
  · simp (maxSteps := 1000000) (disch := omega) only [li, ob1_s, ob2_s, ob3_s, ob4_s, ob5_s, ob6_s, ob7_s, gA_n, gL_n, sA_n, sL_n, cpI_n, nI_add, pk_mul, nsub, nlt_t, nlt_f, nle_t, nle_f, neq_t, neq_f, rmI_n, dvI_n, upd_ne, upd_eq, un_ne, un_eq, Nat.add_zero, Bool.false_eq_true, ↓reduceIte, f_X12_nameIn, hA.2, rget hA, c2]
  · intro i hi
    rcases (show i = 0 ∨ i = 1 ∨ i = 2 ∨ i = 3 ∨ i = 4 ∨ i = 5 ∨ i = 6 ∨ i = 7 ∨ i = 8 ∨ i = 9 by omega) with e | e | e | e | e | e | e | e | e | e <;> subst e
    · exact ⟨l, by omega, by simp (maxSteps := 1000000) (disch := omega) only [li, ob1_s, ob2_s, ob3_s, ob4_s, ob5_s, ob6_s, ob7_s, gA_n, gL_n, sA_n, sL_n, cpI_n, nI_add, pk_mul, nsub, nlt_t, nlt_f, nle_t, nle_f, neq_t, neq_f, rmI_n, dvI_n, upd_ne, upd_eq, un_ne, un_eq, Nat.add_zero, Bool.false_eq_true, ↓reduceIte], by show upd _ _ _ 3 = _; simp (maxSteps := 1000000) (disch := omega) only [li, ob1_s, ob2_s, ob3_s, ob4_s, ob5_s, ob6_s, ob7_s, gA_n, gL_n, sA_n, sL_n, cpI_n, nI_add, pk_mul, nsub, nlt_t, nlt_f, nle_t, nle_f, neq_t, neq_f, rmI_n, dvI_n, upd_ne, upd_eq, un_ne, un_eq, Nat.add_zero, Bool.false_eq_true, ↓reduceIte]⟩
    · exact ⟨S 10, by omega, by simp (maxSteps := 1000000) (disch := omega) only [li, ob1_s, ob2_s, ob3_s, ob4_s, ob5_s, ob6_s, ob7_s, gA_n, gL_n, sA_n, sL_n, cpI_n, nI_add, pk_mul, nsub, nlt_t, nlt_f, nle_t, nle_f, neq_t, neq_f, rmI_n, dvI_n, upd_ne, upd_eq, un_ne, un_eq, Nat.add_zero, Bool.false_eq_true, ↓reduceIte], by show upd _ _ _ 0 = _; simp (maxSteps := 1000000) (disch := omega) only [li, ob1_s, ob2_s, ob3_s, ob4_s, ob5_s, ob6_s, ob7_s, gA_n, gL_n, sA_n, sL_n, cpI_n, nI_add, pk_mul, nsub, nlt_t, nlt_f, nle_t, nle_f, neq_t, neq_f, rmI_n, dvI_n, upd_ne, upd_eq, un_ne, un_eq, Nat.add_zero, Bool.false_eq_true, ↓reduceIte]⟩
    · exact ⟨p, by omega, by simp (maxSteps := 1000000) (disch := omega) only [li, ob1_s, ob2_s, ob3_s, ob4_s, ob5_s, ob6_s, ob7_s, gA_n, gL_n, sA_n, sL_n, cpI_n, nI_add, pk_mul, nsub, nlt_t, nlt_f, nle_t, nle_f, neq_t, neq_f, rmI_n, dvI_n, upd_ne, upd_eq, un_ne, un_eq, Nat.add_zero, Bool.false_eq_true, ↓reduceIte], by show upd _ _ _ 1 = _; simp (maxSteps := 1000000) (disch := omega) only [li, ob1_s, ob2_s, ob3_s, ob4_s, ob5_s, ob6_s, ob7_s, gA_n, gL_n, sA_n, sL_n, cpI_n, nI_add, pk_mul, nsub, nlt_t, nlt_f, nle_t, nle_f, neq_t, neq_f, rmI_n, dvI_n, upd_ne, upd_eq, un_ne, un_eq, Nat.add_zero, Bool.false_eq_true, ↓reduceIte]⟩
    · exact ⟨S (14 + 11 * p + 7), by omega, by simp (maxSteps := 1000000) (disch := omega) only [li, ob1_s, ob2_s, ob3_s, ob4_s, ob5_s, ob6_s, ob7_s, gA_n, gL_n, sA_n, sL_n, cpI_n, nI_add, pk_mul, nsub, nlt_t, nlt_f, nle_t, nle_f, neq_t, neq_f, rmI_n, dvI_n, upd_ne, upd_eq, un_ne, un_eq, Nat.add_zero, Bool.false_eq_true, ↓reduceIte], by show upd _ _ _ 2 = _; simp (maxSteps := 1000000) (disch := omega) only [li, ob1_s, ob2_s, ob3_s, ob4_s, ob5_s, ob6_s, ob7_s, gA_n, gL_n, sA_n, sL_n, cpI_n, nI_add, pk_mul, nsub, nlt_t, nlt_f, nle_t, nle_f, neq_t, neq_f, rmI_n, dvI_n, upd_ne, upd_eq, un_ne, un_eq, Nat.add_zero, Bool.false_eq_true, ↓reduceIte]⟩
    · exact ⟨S (80 + l), by omega, by simp (maxSteps := 1000000) (disch := omega) only [li, ob1_s, ob2_s, ob3_s, ob4_s, ob5_s, ob6_s, ob7_s, gA_n, gL_n, sA_n, sL_n, cpI_n, nI_add, pk_mul, nsub, nlt_t, nlt_f, nle_t, nle_f, neq_t, neq_f, rmI_n, dvI_n, upd_ne, upd_eq, un_ne, un_eq, Nat.add_zero, Bool.false_eq_true, ↓reduceIte], by show upd _ _ _ 4 = _; simp (maxSteps := 1000000) (disch := omega) only [li, ob1_s, ob2_s, ob3_s, ob4_s, ob5_s, ob6_s, ob7_s, gA_n, gL_n, sA_n, sL_n, cpI_n, nI_add, pk_mul, nsub, nlt_t, nlt_f, nle_t, nle_f, neq_t, neq_f, rmI_n, dvI_n, upd_ne, upd_eq, un_ne, un_eq, Nat.add_zero, Bool.false_eq_true, ↓reduceIte]⟩
    · exact ⟨S (14 + 11 * p + 4), by omega, by simp (maxSteps := 1000000) (disch := omega) only [li, ob1_s, ob2_s, ob3_s, ob4_s, ob5_s, ob6_s, ob7_s, gA_n, gL_n, sA_n, sL_n, cpI_n, nI_add, pk_mul, nsub, nlt_t, nlt_f, nle_t, nle_f, neq_t, neq_f, rmI_n, dvI_n, upd_ne, upd_eq, un_ne, un_eq, Nat.add_zero, Bool.false_eq_true, ↓reduceIte], by show upd _ _ _ 5 = _; simp (maxSteps := 1000000) (disch := omega) only [li, ob1_s, ob2_s, ob3_s, ob4_s, ob5_s, ob6_s, ob7_s, gA_n, gL_n, sA_n, sL_n, cpI_n, nI_add, pk_mul, nsub, nlt_t, nlt_f, nle_t, nle_f, neq_t, neq_f, rmI_n, dvI_n, upd_ne, upd_eq, un_ne, un_eq, Nat.add_zero, Bool.false_eq_true, ↓reduceIte]⟩
    · exact ⟨S (14 + 11 * p + 5), by omega, by simp (maxSteps := 1000000) (disch := omega) only [li, ob1_s, ob2_s, ob3_s, ob4_s, ob5_s, ob6_s, ob7_s, gA_n, gL_n, sA_n, sL_n, cpI_n, nI_add, pk_mul, nsub, nlt_t, nlt_f, nle_t, nle_f, neq_t, neq_f, rmI_n, dvI_n, upd_ne, upd_eq, un_ne, un_eq, Nat.add_zero, Bool.false_eq_true, ↓reduceIte], by show upd _ _ _ 6 = _; simp (maxSteps := 1000000) (disch := omega) only [li, ob1_s, ob2_s, ob3_s, ob4_s, ob5_s, ob6_s, ob7_s, gA_n, gL_n, sA_n, sL_n, cpI_n, nI_add, pk_mul, nsub, nlt_t, nlt_f, nle_t, nle_f, neq_t, neq_f, rmI_n, dvI_n, upd_ne, upd_eq, un_ne, un_eq, Nat.add_zero, Bool.false_eq_true, ↓reduceIte]⟩
    · exact ⟨S (14 + 11 * p + 1), by omega, by simp (maxSteps := 1000000) (disch := omega) only [li, ob1_s, ob2_s, ob3_s, ob4_s, ob5_s, ob6_s, ob7_s, gA_n, gL_n, sA_n, sL_n, cpI_n, nI_add, pk_mul, nsub, nlt_t, nlt_f, nle_t, nle_f, neq_t, neq_f, rmI_n, dvI_n, upd_ne, upd_eq, un_ne, un_eq, Nat.add_zero, Bool.false_eq_true, ↓reduceIte], by show upd _ _ _ 7 = _; simp (maxSteps := 1000000) (disch := omega) only [li, ob1_s, ob2_s, ob3_s, ob4_s, ob5_s, ob6_s, ob7_s, gA_n, gL_n, sA_n, sL_n, cpI_n, nI_add, pk_mul, nsub, nlt_t, nlt_f, nle_t, nle_f, neq_t, neq_f, rmI_n, dvI_n, upd_ne, upd_eq, un_ne, un_eq, Nat.add_zero, Bool.false_eq_true, ↓reduceIte]⟩
    · exact ⟨S (14 + 11 * p + 2), by omega, by simp (maxSteps := 1000000) (disch := omega) only [li, ob1_s, ob2_s, ob3_s, ob4_s, ob5_s, ob6_s, ob7_s, gA_n, gL_n, sA_n, sL_n, cpI_n, nI_add, pk_mul, nsub, nlt_t, nlt_f, nle_t, nle_f, neq_t, neq_f, rmI_n, dvI_n, upd_ne, upd_eq, un_ne, un_eq, Nat.add_zero, Bool.false_eq_true, ↓reduceIte], by show upd _ _ _ 8 = _; simp (maxSteps := 1000000) (disch := omega) only [li, ob1_s, ob2_s, ob3_s, ob4_s, ob5_s, ob6_s, ob7_s, gA_n, gL_n, sA_n, sL_n, cpI_n, nI_add, pk_mul, nsub, nlt_t, nlt_f, nle_t, nle_f, neq_t, neq_f, rmI_n, dvI_n, upd_ne, upd_eq, un_ne, un_eq, Nat.add_zero, Bool.false_eq_true, ↓reduceIte]⟩
    · exact ⟨pop (bset (qIn S l p) (S 1)), by omega, by simp (maxSteps := 1000000) (disch := omega) only [li, ob1_s, ob2_s, ob3_s, ob4_s, ob5_s, ob6_s, ob7_s, gA_n, gL_n, sA_n, sL_n, cpI_n, nI_add, pk_mul, nsub, nlt_t, nlt_f, nle_t, nle_f, neq_t, neq_f, rmI_n, dvI_n, upd_ne, upd_eq, un_ne, un_eq, Nat.add_zero, Bool.false_eq_true, ↓reduceIte], by show upd _ _ _ 9 = _; simp (maxSteps := 1000000) (disch := omega) only [li, ob1_s, ob2_s, ob3_s, ob4_s, ob5_s, ob6_s, ob7_s, gA_n, gL_n, sA_n, sL_n, cpI_n, nI_add, pk_mul, nsub, nlt_t, nlt_f, nle_t, nle_f, neq_t, neq_f, rmI_n, dvI_n, upd_ne, upd_eq, un_ne, un_eq, Nat.add_zero, Bool.false_eq_true, ↓reduceIte]⟩
/-- a law's sum is worth the same on both sides, whatever the names are -/
def ValT (N : Nat) (cd st en vt : Nat → Int32) (t law k : Nat) : Prop :=
  ∀ (nm nd row fe a stack truth : Nat → Int32) (values : Nat → Int64) (S : Nat → Nat), EnvT nm nd → RowC row S → FeaT fe S → S 1 ≤ 6 → TieA a S →
    ∃ (z : Int) (stack' truth' : Nat → Int32) (values' : Nat → Int64), -1000000 ≤ z ∧ z ≤ 1000000 ∧ f_X9_value N cd st en nm row fe stack (nI law) = some (iI z, stack') ∧ f_X12_summedUp N a vt nd values truth (nI t) (nI k) = some (lI z, values', truth')
def LawT (N : Nat) (cd st en vt : Nat → Int32) (t c law : Nat) : Prop :=
  (st law = -nI 1 ∧ ∀ k, k < c → ¬ vt (729 * t + 1 + 5 * k) = nI law) ∨
  (¬ st law = -nI 1 ∧ ∃ k, k < c ∧ vt (729 * t + 1 + 5 * k) = nI law ∧ (∀ q, q < k → ¬ vt (729 * t + 1 + 5 * q) = nI law) ∧ ValT N cd st en vt t law k)
def sortN (kd : Nat) : Nat := if kd < 4 then kd else if kd = 11 then 4 else if kd = 12 then 12 else kd + 1
def ClauseT (rows vt : Nat → Int32) (t k : Nat) : Prop :=
  ∃ kd v1 v2 v3 v4 : Nat, kd ≤ 12 ∧ rows (5 * k) = nI kd ∧ vt (729 * t + 1 + 5 * k) = nI (sortN kd) ∧
    (4 ≤ kd → rows (5 * k + 1) = nI v1 ∧ vt (729 * t + 1 + 5 * k + 1) = nI v1 ∧ v1 ≤ 9999) ∧
    (4 ≤ kd → kd ≤ 10 → rows (5 * k + 2) = nI v2 ∧ vt (729 * t + 1 + 5 * k + 2) = nI v2 ∧ v2 ≤ 9999) ∧
    (kd = 5 → rows (5 * k + 3) = nI v3 ∧ vt (729 * t + 1 + 5 * k + 3) = nI v3 ∧ v3 ≤ 9999 ∧ rows (5 * k + 4) = nI v4 ∧ vt (729 * t + 1 + 5 * k + 4) = nI v4 ∧ v4 ≤ 9999) ∧ (kd = 12 → v1 ≤ 60)
def TextT (N : Nat) (cl : Int32) (cd st en rows vt : Nat → Int32) (t : Nat) : Prop :=
  ∃ c, c ≤ 24 ∧ cl = nI c ∧ vt (729 * t) = nI c ∧ (∀ k, k < c → ClauseT rows vt t k) ∧ ∀ law, law < 4 → LawT N cd st en vt t c law
def TextsT (N : Nat) (tcl : Int32) (tcd tst ten trw : Nat → Int32) (ucl : Int32) (ucd ust uen urw : Nat → Int32) (wcl : Int32) (wcd wst wen wrw : Nat → Int32) (xcl : Int32) (xcd xst xen xrw : Nat → Int32) (vt : Nat → Int32) (n : Nat) : Prop :=
  (0 < n → TextT N tcl tcd tst ten trw vt 0) ∧ (1 < n → TextT N ucl ucd ust uen urw vt 1) ∧ (2 < n → TextT N wcl wcd wst wen wrw vt 2) ∧ (3 < n → TextT N xcl xcd xst xen xrw vt 3)
