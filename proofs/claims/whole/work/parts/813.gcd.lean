/-! whole numbers, and greatest common divisors -/
def iI (z : Int) : Int32 := Int32.ofInt z
theorem iI_n (n : Nat) : nI n = iI n := by
  apply Int32.toBitVec_inj.mp
  show BitVec.ofNat 32 n = BitVec.ofInt 32 n
  simp
theorem iI_t {z : Int} (h1 : -2147483648 ≤ z) (h2 : z < 2147483648) : (iI z).toInt = z := by
  unfold iI
  rw [Int32.toInt_ofInt, Int.bmod_eq_of_le (by simp [Int32.size]; omega) (by simp [Int32.size]; omega)]
theorem iI_add (x y : Int) : iI x + iI y = iI (x + y) := (Int32.ofInt_add x y).symm
theorem iI_sub (x y : Int) : iI x - iI y = iI (x - y) := (Int32.ofInt_sub x y).symm
theorem iI_neg (x : Int) : -iI x = iI (-x) := (Int32.ofInt_neg x).symm
theorem iI_mul (x y : Int) : iI x * iI y = iI (x * y) := (Int32.ofInt_mul x y).symm
theorem iI_lt {x y : Int} (hx : -2147483648 ≤ x ∧ x < 2147483648) (hy : -2147483648 ≤ y ∧ y < 2147483648) : iI x < iI y ↔ x < y := by
  rw [Int32.lt_iff_toInt_lt, iI_t hx.1 hx.2, iI_t hy.1 hy.2]
theorem iI_le {x y : Int} (hx : -2147483648 ≤ x ∧ x < 2147483648) (hy : -2147483648 ≤ y ∧ y < 2147483648) : iI x ≤ iI y ↔ x ≤ y := by
  rw [Int32.le_iff_toInt_le, iI_t hx.1 hx.2, iI_t hy.1 hy.2]
theorem iI_eq {x y : Int} (hx : -2147483648 ≤ x ∧ x < 2147483648) (hy : -2147483648 ≤ y ∧ y < 2147483648) : iI x = iI y ↔ x = y := by
  rw [← Int32.toInt_inj, iI_t hx.1 hx.2, iI_t hy.1 hy.2]
theorem mod_half {b r s : Nat} (hr : r < b) (h0 : 0 < r) (hb : b < 2 ^ (s + 1)) : b % r < 2 ^ s := by
  have h1 : b % r < r := Nat.mod_lt _ h0
  have h2 : b % r = (b - r) % r := (Nat.mod_eq_sub_mod (by omega))
  have h3 : (b - r) % r ≤ b - r := Nat.mod_le _ _
  rw [Nat.pow_succ] at hb
  omega
theorem cEuc {N : Nat} : ∀ s a b t n, a < 2147483648 → b < 2147483648 → b < 2 ^ s → t + 2 * s < 64 → 2 * s < n → f_X11_commonDivisor_13 N n (nI a) (nI b) (nI t) = some (nI (Nat.gcd a b)) := by
  intro s
  induction s with
  | zero =>
    intro a b t n ha hb0 hb ht hn
    obtain ⟨n, rfl⟩ : ∃ m, n = m + 1 := ⟨n - 1, by omega⟩
    have hb : b = 0 := by simpa using hb
    subst hb
    rw [Nat.gcd_zero_right]
    simp (maxSteps := 1000000) (disch := omega) only [li, ob1_s, ob2_s, ob3_s, ob4_s, ob5_s, ob6_s, ob7_s, gA_n, gL_n, sA_n, sL_n, cpI_n, nI_add, pk_mul, nsub, nlt_t, nlt_f, nle_t, nle_f, neq_t, neq_f, rmI_n, dvI_n, upd_ne, upd_eq, un_ne, un_eq, Nat.add_zero, Bool.false_eq_true, ↓reduceIte, f_X11_commonDivisor_13]
  | succ s ih =>
    intro a b t n ha hb0 hb ht hn
    obtain ⟨n, rfl⟩ : ∃ m, n = m + 2 := ⟨n - 2, by omega⟩
    by_cases h0 : b = 0
    · subst h0
      rw [Nat.gcd_zero_right]
      simp (maxSteps := 1000000) (disch := omega) only [li, ob1_s, ob2_s, ob3_s, ob4_s, ob5_s, ob6_s, ob7_s, gA_n, gL_n, sA_n, sL_n, cpI_n, nI_add, pk_mul, nsub, nlt_t, nlt_f, nle_t, nle_f, neq_t, neq_f, rmI_n, dvI_n, upd_ne, upd_eq, un_ne, un_eq, Nat.add_zero, Bool.false_eq_true, ↓reduceIte, f_X11_commonDivisor_13]
    · have hr : a % b < b := Nat.mod_lt _ (by omega)
      by_cases h1 : a % b = 0
      · have e : Nat.gcd a b = b := by rw [Nat.gcd_comm, Nat.gcd_rec, h1, Nat.gcd_zero_left]
        rw [e]
        simp (maxSteps := 1000000) (disch := omega) only [li, ob1_s, ob2_s, ob3_s, ob4_s, ob5_s, ob6_s, ob7_s, gA_n, gL_n, sA_n, sL_n, cpI_n, nI_add, pk_mul, nsub, nlt_t, nlt_f, nle_t, nle_f, neq_t, neq_f, rmI_n, dvI_n, upd_ne, upd_eq, un_ne, un_eq, Nat.add_zero, Bool.false_eq_true, ↓reduceIte, f_X11_commonDivisor_13, h1]
      · have g := ih (a % b) (b % (a % b)) (t + 1 + 1) n (by omega) (by have := Nat.mod_lt b (show 0 < a % b by omega); omega) (mod_half hr (by omega) hb) (by omega) (by omega)
        have e : Nat.gcd a b = Nat.gcd (a % b) (b % (a % b)) := by
          rw [Nat.gcd_comm, Nat.gcd_rec, Nat.gcd_rec, Nat.gcd_comm]
        rw [e]
        simp (maxSteps := 1000000) (disch := omega) only [li, ob1_s, ob2_s, ob3_s, ob4_s, ob5_s, ob6_s, ob7_s, gA_n, gL_n, sA_n, sL_n, cpI_n, nI_add, pk_mul, nsub, nlt_t, nlt_f, nle_t, nle_f, neq_t, neq_f, rmI_n, dvI_n, upd_ne, upd_eq, un_ne, un_eq, Nat.add_zero, Bool.false_eq_true, ↓reduceIte, f_X11_commonDivisor_13]
        exact g
theorem rEuc {N : Nat} : ∀ s a b n, a < 2147483648 → b < 2147483648 → b < 2 ^ s → 2 * s < n → f_X12_common_4 N n (nI a) (nI b) = some (nI (Nat.gcd a b)) := by
  intro s
  induction s with
  | zero =>
    intro a b n ha hb0 hb hn
    obtain ⟨n, rfl⟩ : ∃ m, n = m + 1 := ⟨n - 1, by omega⟩
    have hb : b = 0 := by simpa using hb
    subst hb
    rw [Nat.gcd_zero_right]
    simp (maxSteps := 1000000) (disch := omega) only [li, ob1_s, ob2_s, ob3_s, ob4_s, ob5_s, ob6_s, ob7_s, gA_n, gL_n, sA_n, sL_n, cpI_n, nI_add, pk_mul, nsub, nlt_t, nlt_f, nle_t, nle_f, neq_t, neq_f, rmI_n, dvI_n, upd_ne, upd_eq, un_ne, un_eq, Nat.add_zero, Bool.false_eq_true, ↓reduceIte, f_X12_common_4]
  | succ s ih =>
    intro a b n ha hb0 hb hn
    obtain ⟨n, rfl⟩ : ∃ m, n = m + 2 := ⟨n - 2, by omega⟩
    by_cases h0 : b = 0
    · subst h0
      rw [Nat.gcd_zero_right]
      simp (maxSteps := 1000000) (disch := omega) only [li, ob1_s, ob2_s, ob3_s, ob4_s, ob5_s, ob6_s, ob7_s, gA_n, gL_n, sA_n, sL_n, cpI_n, nI_add, pk_mul, nsub, nlt_t, nlt_f, nle_t, nle_f, neq_t, neq_f, rmI_n, dvI_n, upd_ne, upd_eq, un_ne, un_eq, Nat.add_zero, Bool.false_eq_true, ↓reduceIte, f_X12_common_4]
    · have hr : a % b < b := Nat.mod_lt _ (by omega)
      by_cases h1 : a % b = 0
      · have e : Nat.gcd a b = b := by rw [Nat.gcd_comm, Nat.gcd_rec, h1, Nat.gcd_zero_left]
        rw [e]
        simp (maxSteps := 1000000) (disch := omega) only [li, ob1_s, ob2_s, ob3_s, ob4_s, ob5_s, ob6_s, ob7_s, gA_n, gL_n, sA_n, sL_n, cpI_n, nI_add, pk_mul, nsub, nlt_t, nlt_f, nle_t, nle_f, neq_t, neq_f, rmI_n, dvI_n, upd_ne, upd_eq, un_ne, un_eq, Nat.add_zero, Bool.false_eq_true, ↓reduceIte, f_X12_common_4, h1]
      · have g := ih (a % b) (b % (a % b)) n (by omega) (by have := Nat.mod_lt b (show 0 < a % b by omega); omega) (mod_half hr (by omega) hb) (by omega)
        have e : Nat.gcd a b = Nat.gcd (a % b) (b % (a % b)) := by
          rw [Nat.gcd_comm, Nat.gcd_rec, Nat.gcd_rec, Nat.gcd_comm]
        rw [e]
        simp (maxSteps := 1000000) (disch := omega) only [li, ob1_s, ob2_s, ob3_s, ob4_s, ob5_s, ob6_s, ob7_s, gA_n, gL_n, sA_n, sL_n, cpI_n, nI_add, pk_mul, nsub, nlt_t, nlt_f, nle_t, nle_f, neq_t, neq_f, rmI_n, dvI_n, upd_ne, upd_eq, un_ne, un_eq, Nat.add_zero, Bool.false_eq_true, ↓reduceIte, f_X12_common_4]
        exact g
theorem rGcd {N a b : Nat} (hN : 100 ≤ N) (ha : a < 1048576) (hb : b < 1048576) : f_X12_common N (nI a) (nI b) = some (nI (Nat.gcd a b)) := rEuc 20 a b N (by omega) (by omega) hb (by omega)
theorem abI_i {z : Int} (h1 : -2147483647 ≤ z) (h2 : z < 2147483648) : abI (iI z) = nI z.natAbs := by
  unfold abI
  have e0 : (0 : Int32) = iI 0 := by decide
  rw [e0, iI_sub, iI_n]
  by_cases h : (0 : Int) ≤ z
  · rw [if_pos ((iI_le ⟨by omega, by omega⟩ ⟨by omega, by omega⟩).mpr h)]
    congr 1; omega
  · rw [if_neg (fun g => h ((iI_le ⟨by omega, by omega⟩ ⟨by omega, by omega⟩).mp g))]
    congr 1; omega
theorem cGcd {N : Nat} {a b : Int} (hN : 100 ≤ N) (ha : a.natAbs < 1048576) (hb : b.natAbs < 1048576) : f_X11_commonDivisor N (iI a) (iI b) = some (nI (Nat.gcd a.natAbs b.natAbs)) := by
  unfold f_X11_commonDivisor
  rw [abI_i (by omega) (by omega), abI_i (by omega) (by omega)]
  exact cEuc 20 _ _ 0 N (by omega) (by omega) hb (by omega) (by omega)
theorem rSpread {N : Nat} {a : Nat → Int32} {S : Nat → Nat} (hA : TieA a S) (h8 : S 0 ≤ 8) {s b : Nat} (hs : s < 256) (hN : 100 ≤ N) : f_X12_spread N a (nI s) (nI b) = some (nI (nd (spr (rd S) s (S 0)) b)) := by
  have key : ∀ k n l, l + k = S 0 → k < n → f_X12_spread_5 N n a (nI s) (nI b) (nI (spr (rd S) s l)) (nI l) = some (nI (nd (spr (rd S) s (S 0)) b)) := by
    intro k
    induction k with
    | zero =>
      intro n l e hn
      obtain ⟨n, rfl⟩ : ∃ m, n = m + 1 := ⟨n - 1, by omega⟩
      have e : l = S 0 := by omega
      subst e
      have c : nI (spr (rd S) s (S 0)) &&& (nI b ^^^ -nI 1) = nI (nd (spr (rd S) s (S 0)) b) := ncom _ _
      simp (maxSteps := 1000000) (disch := omega) only [li, ob1_s, ob2_s, ob3_s, ob4_s, ob5_s, ob6_s, ob7_s, gA_n, gL_n, sA_n, sL_n, cpI_n, nI_add, pk_mul, nsub, nlt_t, nlt_f, nle_t, nle_f, neq_t, neq_f, rmI_n, dvI_n, upd_ne, upd_eq, un_ne, un_eq, Nat.add_zero, Bool.false_eq_true, ↓reduceIte, f_X12_spread_5, hA.2, c]
    | succ k ih =>
      intro n l e hn
      obtain ⟨n, rfl⟩ : ∃ m, n = m + 1 := ⟨n - 1, by omega⟩
      have g := ih n (l + 1) (by omega) (by omega)
      rw [show spr (rd S) s (l + 1) = (if s.testBit l then spr (rd S) s l ||| rd S l else spr (rd S) s l) from rfl] at g
      by_cases hb : s.testBit l = true
      · rw [if_pos hb] at g
        simp (maxSteps := 1000000) (disch := omega) only [li, ob1_s, ob2_s, ob3_s, ob4_s, ob5_s, ob6_s, ob7_s, gA_n, gL_n, sA_n, sL_n, cpI_n, nI_add, pk_mul, nsub, nlt_t, nlt_f, nle_t, nle_f, neq_t, neq_f, rmI_n, dvI_n, upd_ne, upd_eq, un_ne, un_eq, Nat.add_zero, Bool.false_eq_true, ↓reduceIte, f_X12_spread_5, f_X12_spread_38, isWith_n, hA.2, hb, nor]
        exact g
      · rw [if_neg hb] at g
        simp (maxSteps := 1000000) (disch := omega) only [li, ob1_s, ob2_s, ob3_s, ob4_s, ob5_s, ob6_s, ob7_s, gA_n, gL_n, sA_n, sL_n, cpI_n, nI_add, pk_mul, nsub, nlt_t, nlt_f, nle_t, nle_f, neq_t, neq_f, rmI_n, dvI_n, upd_ne, upd_eq, un_ne, un_eq, Nat.add_zero, Bool.false_eq_true, ↓reduceIte, f_X12_spread_5, f_X12_spread_38, isWith_n, hA.2, hb, nor]
        exact g
  exact key (S 0) N 0 (by omega) (by omega)
theorem sprb {dn : Int32} {df dr : Nat → Int32} {S : Nat → Nat} (hL : LandT dn df dr S) {s : Nat} (hs : s < 256) : spr (rd S) s (S 0) < 256 := by
  refine spr_lt (m := 8) hs (S 0) (fun k hk => ?_)
  exact Nat.lt_of_lt_of_le (hL.2.2.2.1 k hk).2 (p28 hL.2.1)
