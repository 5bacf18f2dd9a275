theorem TieA.cg {a : Nat → Int32} {S T : Nat → Nat} (h : TieA a S) (e : ∀ i, i < 8762 → T i = S i) : TieA a T :=
  ⟨by rw [e 3 (by omega)]; exact h.1, fun i hi h3 => by rw [e i hi]; exact h.2 i hi h3⟩
theorem st_road {j : Nat} {dn : Int32} {df dr row fe to : Nat → Int32} {cnt next : Int32} {store : Nat → Int32} {calls bord rep unl pay : Int32} {cl ul ga py pr : Nat → Int32} {tx rul : Int32} {a : Nat → Int32} {S : Nat → Nat} {N : Nat} (x y : Int32) (h : RealmT j dn df dr row fe to cnt next store calls bord rep unl pay cl ul ga py pr tx rul a S) :
    ∃ (r : Int32) (dr' a' : Nat → Int32) (S' : Nat → Nat), f_X11_road N dn dr x y = some (r, dr') ∧ f_X12_road N a x y = some (r, a') ∧ RealmT (j + 1) dn df dr' row fe to cnt next store calls bord rep unl pay cl ul ga py pr tx rul a' S' ∧ S' 2 = S 2 := by
  have h0 := h
  obtain ⟨hA, hL, hR, hW, hF, hB, hZ, hQ, hI, hj⟩ := h
  obtain ⟨h1, h2, h3, h4, h5, h6⟩ := id hL
  subst h1
  rcases inOut x (S 0) (by omega) with hx | ⟨p, hp, rfl⟩
  · refine ⟨0, dr, a, S, ?_, ?_, h0.later, rfl⟩
    · simp only [f_X11_road, f_X2_join, cLand_out h2 hx, li, ob1_s, ob2_s, ↓reduceIte]
    · simp only [f_X12_road, rLand_out hA h2 hx, li, ob1_s, ↓reduceIte]
  rcases inOut y (S 0) (by omega) with hy | ⟨q, hq, rfl⟩
  · refine ⟨0, dr, a, S, ?_, ?_, h0.later, rfl⟩
    · simp (maxSteps := 1000000) (disch := omega) only [li, ob1_s, ob2_s, ob3_s, ob4_s, ob5_s, ob6_s, ob7_s, gA_n, gL_n, sA_n, sL_n, cpI_n, nI_add, pk_mul, nsub, nlt_t, nlt_f, nle_t, nle_f, neq_t, neq_f, rmI_n, dvI_n, upd_ne, upd_eq, un_ne, un_eq, Nat.add_zero, Bool.false_eq_true, ↓reduceIte, f_X11_road, f_X2_join, cLand_in, cLand_out h2 hy]
    · simp (maxSteps := 1000000) (disch := omega) only [li, ob1_s, ob2_s, ob3_s, ob4_s, ob5_s, ob6_s, ob7_s, gA_n, gL_n, sA_n, sL_n, cpI_n, nI_add, pk_mul, nsub, nlt_t, nlt_f, nle_t, nle_f, neq_t, neq_f, rmI_n, dvI_n, upd_ne, upd_eq, un_ne, un_eq, Nat.add_zero, Bool.false_eq_true, ↓reduceIte, f_X12_road, rLand_in hA h2, rLand_out hA h2 hy]
  by_cases hpq : p = q
  · subst hpq
    refine ⟨0, dr, a, S, ?_, ?_, h0.later, rfl⟩
    · simp (maxSteps := 1000000) (disch := omega) only [li, ob1_s, ob2_s, ob3_s, ob4_s, ob5_s, ob6_s, ob7_s, gA_n, gL_n, sA_n, sL_n, cpI_n, nI_add, pk_mul, nsub, nlt_t, nlt_f, nle_t, nle_f, neq_t, neq_f, rmI_n, dvI_n, upd_ne, upd_eq, un_ne, un_eq, Nat.add_zero, Bool.false_eq_true, ↓reduceIte, f_X11_road, f_X2_join, cLand_in]
    · simp (maxSteps := 1000000) (disch := omega) only [li, ob1_s, ob2_s, ob3_s, ob4_s, ob5_s, ob6_s, ob7_s, gA_n, gL_n, sA_n, sL_n, cpI_n, nI_add, pk_mul, nsub, nlt_t, nlt_f, nle_t, nle_f, neq_t, neq_f, rmI_n, dvI_n, upd_ne, upd_eq, un_ne, un_eq, Nat.add_zero, Bool.false_eq_true, ↓reduceIte, f_X12_road, rLand_in hA h2]
  obtain ⟨p1, p2⟩ := h4 p hp
  obtain ⟨q1, q2⟩ := h4 q hq
  have l8 := p28 h2
  by_cases hb : (S (88 + p)).testBit q = true
  · refine ⟨0, dr, a, S, ?_, ?_, h0.later, rfl⟩
    · simp (maxSteps := 1000000) (disch := omega) only [li, ob1_s, ob2_s, ob3_s, ob4_s, ob5_s, ob6_s, ob7_s, gA_n, gL_n, sA_n, sL_n, cpI_n, nI_add, pk_mul, nsub, nlt_t, nlt_f, nle_t, nle_f, neq_t, neq_f, rmI_n, dvI_n, upd_ne, upd_eq, un_ne, un_eq, Nat.add_zero, Bool.false_eq_true, ↓reduceIte, f_X11_road, f_X2_join, f_X2_joined, cLand_in, p1, nbit, hb]
    · simp (maxSteps := 1000000) (disch := omega) only [li, ob1_s, ob2_s, ob3_s, ob4_s, ob5_s, ob6_s, ob7_s, gA_n, gL_n, sA_n, sL_n, cpI_n, nI_add, pk_mul, nsub, nlt_t, nlt_f, nle_t, nle_f, neq_t, neq_f, rmI_n, dvI_n, upd_ne, upd_eq, un_ne, un_eq, Nat.add_zero, Bool.false_eq_true, ↓reduceIte, f_X12_road, rLand_in hA h2, hA.2, isWith_n, hb]
  · have tp : 2 ^ p < 2 ^ S 0 := Nat.pow_lt_pow_right (by omega) hp
    have tq : 2 ^ q < 2 ^ S 0 := Nat.pow_lt_pow_right (by omega) hq
    refine ⟨nI 1, upd (upd dr p (nI (S (88 + p) ||| 2 ^ q))) q (nI (S (88 + q) ||| 2 ^ p)), upd (upd a (88 + p) (nI (S (88 + p) ||| 2 ^ q))) (88 + q) (nI (S (88 + q) ||| 2 ^ p)), un (un S (88 + p) (S (88 + p) ||| 2 ^ q)) (88 + q) (S (88 + q) ||| 2 ^ p), ?_, ?_, ?_, ?_⟩
    · simp (maxSteps := 1000000) (disch := omega) only [li, ob1_s, ob2_s, ob3_s, ob4_s, ob5_s, ob6_s, ob7_s, gA_n, gL_n, sA_n, sL_n, cpI_n, nI_add, pk_mul, nsub, nlt_t, nlt_f, nle_t, nle_f, neq_t, neq_f, rmI_n, dvI_n, upd_ne, upd_eq, un_ne, un_eq, Nat.add_zero, Bool.false_eq_true, ↓reduceIte, f_X11_road, f_X2_join, f_X2_joined, cLand_in, p1, q1, nbit, hb, nshl1, nor]
    · simp (maxSteps := 1000000) (disch := omega) only [li, ob1_s, ob2_s, ob3_s, ob4_s, ob5_s, ob6_s, ob7_s, gA_n, gL_n, sA_n, sL_n, cpI_n, nI_add, pk_mul, nsub, nlt_t, nlt_f, nle_t, nle_f, neq_t, neq_f, rmI_n, dvI_n, upd_ne, upd_eq, un_ne, un_eq, Nat.add_zero, Bool.false_eq_true, ↓reduceIte, f_X12_road, rLand_in hA h2, hA.2, isWith_n, hb, nshl1, nor]
    · have e0 : S 0 ≤ un (un S (88 + p) (S (88 + p) ||| 2 ^ q)) (88 + q) (S (88 + q) ||| 2 ^ p) 0 := (by simp (disch := omega) only [un_ne]; omega)
      have e1 : S 1 ≤ un (un S (88 + p) (S (88 + p) ||| 2 ^ q)) (88 + q) (S (88 + q) ||| 2 ^ p) 1 := (by simp (disch := omega) only [un_ne]; omega)
      refine ⟨(hA.up (by omega)).up (by omega), ⟨by simp (maxSteps := 1000000) (disch := omega) only [li, ob1_s, ob2_s, ob3_s, ob4_s, ob5_s, ob6_s, ob7_s, gA_n, gL_n, sA_n, sL_n, cpI_n, nI_add, pk_mul, nsub, nlt_t, nlt_f, nle_t, nle_f, neq_t, neq_f, rmI_n, dvI_n, upd_ne, upd_eq, un_ne, un_eq, Nat.add_zero, Bool.false_eq_true, ↓reduceIte], by simp (maxSteps := 1000000) (disch := omega) only [li, ob1_s, ob2_s, ob3_s, ob4_s, ob5_s, ob6_s, ob7_s, gA_n, gL_n, sA_n, sL_n, cpI_n, nI_add, pk_mul, nsub, nlt_t, nlt_f, nle_t, nle_f, neq_t, neq_f, rmI_n, dvI_n, upd_ne, upd_eq, un_ne, un_eq, Nat.add_zero, Bool.false_eq_true, ↓reduceIte]; exact h2, fun k hk => ?_, fun k hk => ?_, fun k hk hk8 => ?_, fun i k hi hk => ?_⟩, hR.cg (fun i hi => by simp (disch := omega) only [un_ne]) hW.1, hW.cg (fun i hi => by simp (disch := omega) only [un_ne]) e0, hF.cg (fun i hi => by simp (disch := omega) only [un_ne]) e0 hW.1, ?_, hZ.cg (fun i hi => by simp (disch := omega) only [un_ne]) e0 e1 hW.1, hQ.cg (fun i hi => by simp (disch := omega) only [un_ne]) e0 e1, hI.cg (fun i hi => by simp (disch := omega) only [un_ne]), ?_⟩
      · simp (maxSteps := 1000000) (disch := omega) only [li, ob1_s, ob2_s, ob3_s, ob4_s, ob5_s, ob6_s, ob7_s, gA_n, gL_n, sA_n, sL_n, cpI_n, nI_add, pk_mul, nsub, nlt_t, nlt_f, nle_t, nle_f, neq_t, neq_f, rmI_n, dvI_n, upd_ne, upd_eq, un_ne, un_eq, Nat.add_zero, Bool.false_eq_true, ↓reduceIte] at hk
        simp (maxSteps := 1000000) (disch := omega) only [li, ob1_s, ob2_s, ob3_s, ob4_s, ob5_s, ob6_s, ob7_s, gA_n, gL_n, sA_n, sL_n, cpI_n, nI_add, pk_mul, nsub, nlt_t, nlt_f, nle_t, nle_f, neq_t, neq_f, rmI_n, dvI_n, upd_ne, upd_eq, un_ne, un_eq, Nat.add_zero, Bool.false_eq_true, ↓reduceIte]
        exact h3 k hk
      · simp (maxSteps := 1000000) (disch := omega) only [li, ob1_s, ob2_s, ob3_s, ob4_s, ob5_s, ob6_s, ob7_s, gA_n, gL_n, sA_n, sL_n, cpI_n, nI_add, pk_mul, nsub, nlt_t, nlt_f, nle_t, nle_f, neq_t, neq_f, rmI_n, dvI_n, upd_ne, upd_eq, un_ne, un_eq, Nat.add_zero, Bool.false_eq_true, ↓reduceIte] at hk ⊢
        by_cases eq : k = q
        · subst eq
          simp (maxSteps := 1000000) (disch := omega) only [li, ob1_s, ob2_s, ob3_s, ob4_s, ob5_s, ob6_s, ob7_s, gA_n, gL_n, sA_n, sL_n, cpI_n, nI_add, pk_mul, nsub, nlt_t, nlt_f, nle_t, nle_f, neq_t, neq_f, rmI_n, dvI_n, upd_ne, upd_eq, un_ne, un_eq, Nat.add_zero, Bool.false_eq_true, ↓reduceIte]
          exact ⟨trivial, Nat.or_lt_two_pow q2 tp⟩
        · by_cases ep : k = p
          · subst ep
            simp (maxSteps := 1000000) (disch := omega) only [li, ob1_s, ob2_s, ob3_s, ob4_s, ob5_s, ob6_s, ob7_s, gA_n, gL_n, sA_n, sL_n, cpI_n, nI_add, pk_mul, nsub, nlt_t, nlt_f, nle_t, nle_f, neq_t, neq_f, rmI_n, dvI_n, upd_ne, upd_eq, un_ne, un_eq, Nat.add_zero, Bool.false_eq_true, ↓reduceIte]
            exact ⟨trivial, Nat.or_lt_two_pow p2 tq⟩
          · simp (maxSteps := 1000000) (disch := omega) only [li, ob1_s, ob2_s, ob3_s, ob4_s, ob5_s, ob6_s, ob7_s, gA_n, gL_n, sA_n, sL_n, cpI_n, nI_add, pk_mul, nsub, nlt_t, nlt_f, nle_t, nle_f, neq_t, neq_f, rmI_n, dvI_n, upd_ne, upd_eq, un_ne, un_eq, Nat.add_zero, Bool.false_eq_true, ↓reduceIte]
            exact h4 k hk
      · simp (maxSteps := 1000000) (disch := omega) only [li, ob1_s, ob2_s, ob3_s, ob4_s, ob5_s, ob6_s, ob7_s, gA_n, gL_n, sA_n, sL_n, cpI_n, nI_add, pk_mul, nsub, nlt_t, nlt_f, nle_t, nle_f, neq_t, neq_f, rmI_n, dvI_n, upd_ne, upd_eq, un_ne, un_eq, Nat.add_zero, Bool.false_eq_true, ↓reduceIte] at hk ⊢
        exact h5 k hk hk8
      · simp (maxSteps := 1000000) (disch := omega) only [li, ob1_s, ob2_s, ob3_s, ob4_s, ob5_s, ob6_s, ob7_s, gA_n, gL_n, sA_n, sL_n, cpI_n, nI_add, pk_mul, nsub, nlt_t, nlt_f, nle_t, nle_f, neq_t, neq_f, rmI_n, dvI_n, upd_ne, upd_eq, un_ne, un_eq, Nat.add_zero, Bool.false_eq_true, ↓reduceIte] at hi hk
        have key : ∀ i k, i < S 0 → (un (un S (88 + p) (S (88 + p) ||| 2 ^ q)) (88 + q) (S (88 + q) ||| 2 ^ p) (88 + i)).testBit k = ((S (88 + i)).testBit k || (decide (i = p) && decide (q = k)) || (decide (i = q) && decide (p = k))) := by
          intro i k hi
          by_cases eq : i = q
          · subst eq
            simp (maxSteps := 1000000) (disch := omega) only [li, ob1_s, ob2_s, ob3_s, ob4_s, ob5_s, ob6_s, ob7_s, gA_n, gL_n, sA_n, sL_n, cpI_n, nI_add, pk_mul, nsub, nlt_t, nlt_f, nle_t, nle_f, neq_t, neq_f, rmI_n, dvI_n, upd_ne, upd_eq, un_ne, un_eq, Nat.add_zero, Bool.false_eq_true, ↓reduceIte, Nat.testBit_or, n1bit]
            have : decide (i = p) = false := by simp; omega
            simp [this]
          · by_cases ep : i = p
            · subst ep
              simp (maxSteps := 1000000) (disch := omega) only [li, ob1_s, ob2_s, ob3_s, ob4_s, ob5_s, ob6_s, ob7_s, gA_n, gL_n, sA_n, sL_n, cpI_n, nI_add, pk_mul, nsub, nlt_t, nlt_f, nle_t, nle_f, neq_t, neq_f, rmI_n, dvI_n, upd_ne, upd_eq, un_ne, un_eq, Nat.add_zero, Bool.false_eq_true, ↓reduceIte, Nat.testBit_or, n1bit]
              simp [eq]
            · simp (maxSteps := 1000000) (disch := omega) only [li, ob1_s, ob2_s, ob3_s, ob4_s, ob5_s, ob6_s, ob7_s, gA_n, gL_n, sA_n, sL_n, cpI_n, nI_add, pk_mul, nsub, nlt_t, nlt_f, nle_t, nle_f, neq_t, neq_f, rmI_n, dvI_n, upd_ne, upd_eq, un_ne, un_eq, Nat.add_zero, Bool.false_eq_true, ↓reduceIte]
              simp [eq, ep]
        rw [key i k hi, key k i hk, h6 i k hi hk]
        have s1 : (decide (i = p) && decide (q = k)) = (decide (k = q) && decide (p = i)) := by
          rw [Bool.and_comm]; congr 1 <;> simp [eq_comm]
        have s2 : (decide (i = q) && decide (p = k)) = (decide (k = p) && decide (q = i)) := by
          rw [Bool.and_comm]; congr 1 <;> simp [eq_comm]
        rw [s1, s2, Bool.or_assoc, Bool.or_assoc]
        congr 1
        exact Bool.or_comm _ _
      · simp (disch := omega) only [un_ne]
        exact hB.cg (fun i hi => by simp (disch := omega) only [un_ne])
      · simp (disch := omega) only [un_ne]
        omega
    · simp (disch := omega) only [un_ne]
/-- a person as it was told -/
def bgn (S : Nat → Nat) (p : Nat) : Nat → Nat := fun i => if 14 + 11 * p ≤ i ∧ i < 14 + 11 * p + 3 then S (i + 8) else if 14 + 11 * p + 3 ≤ i ∧ i < 14 + 11 * p + 7 then 0 else S i
theorem bgn_a {S : Nat → Nat} {p i : Nat} (h : 14 + 11 * p ≤ i) (h2 : i < 14 + 11 * p + 3) : bgn S p i = S (i + 8) := if_pos ⟨h, h2⟩
theorem bgn_b {S : Nat → Nat} {p i : Nat} (h : 14 + 11 * p + 3 ≤ i) (h2 : i < 14 + 11 * p + 7) : bgn S p i = 0 := by
  unfold bgn
  rw [if_neg (by omega), if_pos ⟨h, h2⟩]
theorem bgn_o {S : Nat → Nat} {p i : Nat} (h : i < 14 + 11 * p ∨ 14 + 11 * p + 7 ≤ i) : bgn S p i = S i := by
  unfold bgn
  rw [if_neg (by omega), if_neg (by omega)]
theorem rBegin {N p : Nat} {a : Nat → Int32} {S : Nat → Nat} (hA : TieA a S) (hp : p < 6) (hN : 10 ≤ N) : ∃ a', f_X12_begin N a (nI p) = some a' ∧ TieA a' (bgn S p) := by
  obtain ⟨n, rfl⟩ : ∃ n, N = n + 10 := ⟨N - 10, by omega⟩
  refine ⟨upd (upd (upd (upd (upd (upd (upd a (14 + 11 * p + 0) (nI (S (14 + 11 * p + 8)))) (14 + 11 * p + 1) (nI (S (14 + 11 * p + 9)))) (14 + 11 * p + 2) (nI (S (14 + 11 * p + 10)))) (14 + 11 * p + 3) (nI 0)) (14 + 11 * p + 4) (nI 0)) (14 + 11 * p + 5) (nI 0)) (14 + 11 * p + 6) (nI 0), ?_, ?_⟩
  · simp (maxSteps := 1000000) (disch := omega) only [li, ob1_s, ob2_s, ob3_s, ob4_s, ob5_s, ob6_s, ob7_s, gA_n, gL_n, sA_n, sL_n, cpI_n, nI_add, pk_mul, nsub, nlt_t, nlt_f, nle_t, nle_f, neq_t, neq_f, rmI_n, dvI_n, upd_ne, upd_eq, un_ne, un_eq, Nat.add_zero, Bool.false_eq_true, ↓reduceIte, f_X12_begin, f_X12_begin_2, f_X12_begin_30, f_X12_get, f_X12_put, hA.2, nI_1, Nat.reduceAdd]
  · refine ⟨?_, fun i hi h3 => ?_⟩
    · simp (maxSteps := 1000000) (disch := omega) only [li, ob1_s, ob2_s, ob3_s, ob4_s, ob5_s, ob6_s, ob7_s, gA_n, gL_n, sA_n, sL_n, cpI_n, nI_add, pk_mul, nsub, nlt_t, nlt_f, nle_t, nle_f, neq_t, neq_f, rmI_n, dvI_n, upd_ne, upd_eq, un_ne, un_eq, Nat.add_zero, Bool.false_eq_true, ↓reduceIte, bgn_o]
      exact hA.1
    · rcases (show i = 14 + 11 * p ∨ i = 14 + 11 * p + 1 ∨ i = 14 + 11 * p + 2 ∨ i = 14 + 11 * p + 3 ∨ i = 14 + 11 * p + 4 ∨ i = 14 + 11 * p + 5 ∨ i = 14 + 11 * p + 6 ∨ (i < 14 + 11 * p ∨ 14 + 11 * p + 7 ≤ i) by omega) with e | e | e | e | e | e | e | e
      · subst e; simp (maxSteps := 1000000) (disch := omega) only [li, ob1_s, ob2_s, ob3_s, ob4_s, ob5_s, ob6_s, ob7_s, gA_n, gL_n, sA_n, sL_n, cpI_n, nI_add, pk_mul, nsub, nlt_t, nlt_f, nle_t, nle_f, neq_t, neq_f, rmI_n, dvI_n, upd_ne, upd_eq, un_ne, un_eq, Nat.add_zero, Bool.false_eq_true, ↓reduceIte, bgn_a]
      · subst e; simp (maxSteps := 1000000) (disch := omega) only [li, ob1_s, ob2_s, ob3_s, ob4_s, ob5_s, ob6_s, ob7_s, gA_n, gL_n, sA_n, sL_n, cpI_n, nI_add, pk_mul, nsub, nlt_t, nlt_f, nle_t, nle_f, neq_t, neq_f, rmI_n, dvI_n, upd_ne, upd_eq, un_ne, un_eq, Nat.add_zero, Bool.false_eq_true, ↓reduceIte, bgn_a]
      · subst e; simp (maxSteps := 1000000) (disch := omega) only [li, ob1_s, ob2_s, ob3_s, ob4_s, ob5_s, ob6_s, ob7_s, gA_n, gL_n, sA_n, sL_n, cpI_n, nI_add, pk_mul, nsub, nlt_t, nlt_f, nle_t, nle_f, neq_t, neq_f, rmI_n, dvI_n, upd_ne, upd_eq, un_ne, un_eq, Nat.add_zero, Bool.false_eq_true, ↓reduceIte, bgn_a]
      · subst e; simp (maxSteps := 1000000) (disch := omega) only [li, ob1_s, ob2_s, ob3_s, ob4_s, ob5_s, ob6_s, ob7_s, gA_n, gL_n, sA_n, sL_n, cpI_n, nI_add, pk_mul, nsub, nlt_t, nlt_f, nle_t, nle_f, neq_t, neq_f, rmI_n, dvI_n, upd_ne, upd_eq, un_ne, un_eq, Nat.add_zero, Bool.false_eq_true, ↓reduceIte, bgn_b]
      · subst e; simp (maxSteps := 1000000) (disch := omega) only [li, ob1_s, ob2_s, ob3_s, ob4_s, ob5_s, ob6_s, ob7_s, gA_n, gL_n, sA_n, sL_n, cpI_n, nI_add, pk_mul, nsub, nlt_t, nlt_f, nle_t, nle_f, neq_t, neq_f, rmI_n, dvI_n, upd_ne, upd_eq, un_ne, un_eq, Nat.add_zero, Bool.false_eq_true, ↓reduceIte, bgn_b]
      · subst e; simp (maxSteps := 1000000) (disch := omega) only [li, ob1_s, ob2_s, ob3_s, ob4_s, ob5_s, ob6_s, ob7_s, gA_n, gL_n, sA_n, sL_n, cpI_n, nI_add, pk_mul, nsub, nlt_t, nlt_f, nle_t, nle_f, neq_t, neq_f, rmI_n, dvI_n, upd_ne, upd_eq, un_ne, un_eq, Nat.add_zero, Bool.false_eq_true, ↓reduceIte, bgn_b]
      · subst e; simp (maxSteps := 1000000) (disch := omega) only [li, ob1_s, ob2_s, ob3_s, ob4_s, ob5_s, ob6_s, ob7_s, gA_n, gL_n, sA_n, sL_n, cpI_n, nI_add, pk_mul, nsub, nlt_t, nlt_f, nle_t, nle_f, neq_t, neq_f, rmI_n, dvI_n, upd_ne, upd_eq, un_ne, un_eq, Nat.add_zero, Bool.false_eq_true, ↓reduceIte, bgn_b]
      · simp (maxSteps := 1000000) (disch := omega) only [li, ob1_s, ob2_s, ob3_s, ob4_s, ob5_s, ob6_s, ob7_s, gA_n, gL_n, sA_n, sL_n, cpI_n, nI_add, pk_mul, nsub, nlt_t, nlt_f, nle_t, nle_f, neq_t, neq_f, rmI_n, dvI_n, upd_ne, upd_eq, un_ne, un_eq, Nat.add_zero, Bool.false_eq_true, ↓reduceIte, bgn_o]
        exact hA.2 i hi h3
/-- the class's row, a person set as it was told -/
theorem cSettle {N p m : Nat} {row to : Nat → Int32} (h2 : row 2 = nI m) (hm : m ≤ 6) (hp : p < m) : ∃ row', f_X1_settle N row to (nI p) = some row' ∧ (∀ i, i < 34 + 7 * p ∨ 34 + 7 * p + 7 ≤ i → row' i = row i) ∧ row' (34 + 7 * p + 0) = to (3 * p) ∧ row' (34 + 7 * p + 1) = to (3 * p + 1) ∧ row' (34 + 7 * p + 2) = to (3 * p + 2) ∧ (∀ k, 3 ≤ k → k < 7 → row' (34 + 7 * p + k) = nI 0) := by
  refine ⟨upd (upd (upd (upd (upd (upd (upd row (34 + 7 * p + 0) (to (3 * p))) (34 + 7 * p + 1) (to (3 * p + 1))) (34 + 7 * p + 2) (to (3 * p + 2))) (34 + 7 * p + 3) (nI 0)) (34 + 7 * p + 4) (nI 0)) (34 + 7 * p + 5) (nI 0)) (34 + 7 * p + 6) (nI 0), ?_, ?_, ?_, ?_, ?_, ?_⟩
  · have e7 : p * 7 = 7 * p := Nat.mul_comm _ _
    have e3 : p * 3 = 3 * p := Nat.mul_comm _ _
    simp (maxSteps := 1000000) (disch := omega) only [li, ob1_s, ob2_s, ob3_s, ob4_s, ob5_s, ob6_s, ob7_s, gA_n, gL_n, sA_n, sL_n, cpI_n, nI_add, pk_mul, nsub, nlt_t, nlt_f, nle_t, nle_f, neq_t, neq_f, rmI_n, dvI_n, upd_ne, upd_eq, un_ne, un_eq, Nat.add_zero, Bool.false_eq_true, ↓reduceIte, f_X1_settle, f_X1_set, f_X1_told, h2, e7, e3]
  · intro i hi
    simp (maxSteps := 1000000) (disch := omega) only [li, ob1_s, ob2_s, ob3_s, ob4_s, ob5_s, ob6_s, ob7_s, gA_n, gL_n, sA_n, sL_n, cpI_n, nI_add, pk_mul, nsub, nlt_t, nlt_f, nle_t, nle_f, neq_t, neq_f, rmI_n, dvI_n, upd_ne, upd_eq, un_ne, un_eq, Nat.add_zero, Bool.false_eq_true, ↓reduceIte]
  · simp (maxSteps := 1000000) (disch := omega) only [li, ob1_s, ob2_s, ob3_s, ob4_s, ob5_s, ob6_s, ob7_s, gA_n, gL_n, sA_n, sL_n, cpI_n, nI_add, pk_mul, nsub, nlt_t, nlt_f, nle_t, nle_f, neq_t, neq_f, rmI_n, dvI_n, upd_ne, upd_eq, un_ne, un_eq, Nat.add_zero, Bool.false_eq_true, ↓reduceIte]
  · simp (maxSteps := 1000000) (disch := omega) only [li, ob1_s, ob2_s, ob3_s, ob4_s, ob5_s, ob6_s, ob7_s, gA_n, gL_n, sA_n, sL_n, cpI_n, nI_add, pk_mul, nsub, nlt_t, nlt_f, nle_t, nle_f, neq_t, neq_f, rmI_n, dvI_n, upd_ne, upd_eq, un_ne, un_eq, Nat.add_zero, Bool.false_eq_true, ↓reduceIte]
  · simp (maxSteps := 1000000) (disch := omega) only [li, ob1_s, ob2_s, ob3_s, ob4_s, ob5_s, ob6_s, ob7_s, gA_n, gL_n, sA_n, sL_n, cpI_n, nI_add, pk_mul, nsub, nlt_t, nlt_f, nle_t, nle_f, neq_t, neq_f, rmI_n, dvI_n, upd_ne, upd_eq, un_ne, un_eq, Nat.add_zero, Bool.false_eq_true, ↓reduceIte]
  · intro k h3 h7
    rcases (show k = 3 ∨ k = 4 ∨ k = 5 ∨ k = 6 by omega) with e | e | e | e <;> subst e <;> simp (maxSteps := 1000000) (disch := omega) only [li, ob1_s, ob2_s, ob3_s, ob4_s, ob5_s, ob6_s, ob7_s, gA_n, gL_n, sA_n, sL_n, cpI_n, nI_add, pk_mul, nsub, nlt_t, nlt_f, nle_t, nle_f, neq_t, neq_f, rmI_n, dvI_n, upd_ne, upd_eq, un_ne, un_eq, Nat.add_zero, Bool.false_eq_true, ↓reduceIte]
theorem st_person {j : Nat} {dn : Int32} {df dr row fe to : Nat → Int32} {cnt next : Int32} {store : Nat → Int32} {calls bord rep unl pay : Int32} {cl ul ga py pr : Nat → Int32} {tx rul : Int32} {a : Nat → Int32} {S : Nat → Nat} {N : Nat} (hN : 100 ≤ N) (x y z w : Int32) (h : RealmT j dn df dr row fe to cnt next store calls bord rep unl pay cl ul ga py pr tx rul a S) :
    ∃ (r : Int32) (row' fe' to' a' : Nat → Int32) (S' : Nat → Nat), f_X11_person N dn row fe to x y z w = some (r, row', fe', to') ∧ f_X12_person N a x y z w = some (r, a') ∧ RealmT (j + 1) dn df dr row' fe' to' cnt next store calls bord rep unl pay cl ul ga py pr tx rul a' S' ∧ S' 2 = S 2 ∧ Ans r := by
  have h0 := h
  obtain ⟨hA, hL, hR, hW, hF, hB, hZ, hQ, hI, hj⟩ := h
  obtain ⟨h1, h2, h3, h4, h5, h6⟩ := id hL
  obtain ⟨w1, w2, w3, w4⟩ := id hW
  obtain ⟨r1, r2, r3, r4, r5⟩ := id hR
  subst h1
  rcases inOut x (S 0) (by omega) with hx | ⟨l, hl, rfl⟩
  · refine ⟨-1, row, fe, to, a, S, ?_, ?_, h0.later, rfl, Or.inl rfl⟩
    · simp only [f_X11_person, cLand_out h2 hx, li, ob1_s, ↓reduceIte]
    · simp only [f_X12_person, rLand_out hA h2 hx, li, ob1_s, ↓reduceIte]
  rcases Nat.lt_or_ge (S 1) 6 with hm | hm
  · rcases inOut y 10 (by omega) with hy | ⟨f, hf, rfl⟩
    · refine ⟨-1, row, fe, to, a, S, ?_, ?_, h0.later, rfl, Or.inl rfl⟩
      · rcases hy with g | ⟨g, g0⟩
        · simp (maxSteps := 1000000) (disch := omega) only [li, ob1_s, ob2_s, ob3_s, ob4_s, ob5_s, ob6_s, ob7_s, gA_n, gL_n, sA_n, sL_n, cpI_n, nI_add, pk_mul, nsub, nlt_t, nlt_f, nle_t, nle_f, neq_t, neq_f, rmI_n, dvI_n, upd_ne, upd_eq, un_ne, un_eq, Nat.add_zero, Bool.false_eq_true, ↓reduceIte, f_X11_person, cLand_in, f_X1_tell, f_X1_count, r3, g]
        · simp (maxSteps := 1000000) (disch := omega) only [li, ob1_s, ob2_s, ob3_s, ob4_s, ob5_s, ob6_s, ob7_s, gA_n, gL_n, sA_n, sL_n, cpI_n, nI_add, pk_mul, nsub, nlt_t, nlt_f, nle_t, nle_f, neq_t, neq_f, rmI_n, dvI_n, upd_ne, upd_eq, un_ne, un_eq, Nat.add_zero, Bool.false_eq_true, ↓reduceIte, f_X11_person, cLand_in, f_X1_tell, f_X1_count, r3, g0, ge_nle (n := 10) (m := 9) (by omega) (by omega) g]
      · simp (maxSteps := 1000000) (disch := omega) only [li, ob1_s, ob2_s, ob3_s, ob4_s, ob5_s, ob6_s, ob7_s, gA_n, gL_n, sA_n, sL_n, cpI_n, nI_add, pk_mul, nsub, nlt_t, nlt_f, nle_t, nle_f, neq_t, neq_f, rmI_n, dvI_n, upd_ne, upd_eq, un_ne, un_eq, Nat.add_zero, Bool.false_eq_true, ↓reduceIte, f_X12_person, rLand_in hA h2, isIn_outT (m := 9) hy (by omega) (by omega)]
    rcases inOut z 10000 (by omega) with hz | ⟨g, hg, rfl⟩
    · refine ⟨-1, row, fe, to, a, S, ?_, ?_, h0.later, rfl, Or.inl rfl⟩
      · rcases hz with q | ⟨q, q0⟩
        · simp (maxSteps := 1000000) (disch := omega) only [li, ob1_s, ob2_s, ob3_s, ob4_s, ob5_s, ob6_s, ob7_s, gA_n, gL_n, sA_n, sL_n, cpI_n, nI_add, pk_mul, nsub, nlt_t, nlt_f, nle_t, nle_f, neq_t, neq_f, rmI_n, dvI_n, upd_ne, upd_eq, un_ne, un_eq, Nat.add_zero, Bool.false_eq_true, ↓reduceIte, f_X11_person, cLand_in, f_X1_tell, f_X1_count, r3, q]
        · simp (maxSteps := 1000000) (disch := omega) only [li, ob1_s, ob2_s, ob3_s, ob4_s, ob5_s, ob6_s, ob7_s, gA_n, gL_n, sA_n, sL_n, cpI_n, nI_add, pk_mul, nsub, nlt_t, nlt_f, nle_t, nle_f, neq_t, neq_f, rmI_n, dvI_n, upd_ne, upd_eq, un_ne, un_eq, Nat.add_zero, Bool.false_eq_true, ↓reduceIte, f_X11_person, cLand_in, f_X1_tell, f_X1_count, r3, q0, ge_lt (n := 10000) (m := 9999) (by omega) (by omega) q]
      · simp (maxSteps := 1000000) (disch := omega) only [li, ob1_s, ob2_s, ob3_s, ob4_s, ob5_s, ob6_s, ob7_s, gA_n, gL_n, sA_n, sL_n, cpI_n, nI_add, pk_mul, nsub, nlt_t, nlt_f, nle_t, nle_f, neq_t, neq_f, rmI_n, dvI_n, upd_ne, upd_eq, un_ne, un_eq, Nat.add_zero, Bool.false_eq_true, ↓reduceIte, f_X12_person, rLand_in hA h2, isIn_in, isIn_outT (m := 9999) hz (by omega) (by omega)]
    rcases inOut w 10000 (by omega) with hw | ⟨d, hd, rfl⟩
    · refine ⟨-1, row, fe, to, a, S, ?_, ?_, h0.later, rfl, Or.inl rfl⟩
      · rcases hw with q | ⟨q, q0⟩
        · simp (maxSteps := 1000000) (disch := omega) only [li, ob1_s, ob2_s, ob3_s, ob4_s, ob5_s, ob6_s, ob7_s, gA_n, gL_n, sA_n, sL_n, cpI_n, nI_add, pk_mul, nsub, nlt_t, nlt_f, nle_t, nle_f, neq_t, neq_f, rmI_n, dvI_n, upd_ne, upd_eq, un_ne, un_eq, Nat.add_zero, Bool.false_eq_true, ↓reduceIte, f_X11_person, cLand_in, f_X1_tell, f_X1_count, r3, q]
        · simp (maxSteps := 1000000) (disch := omega) only [li, ob1_s, ob2_s, ob3_s, ob4_s, ob5_s, ob6_s, ob7_s, gA_n, gL_n, sA_n, sL_n, cpI_n, nI_add, pk_mul, nsub, nlt_t, nlt_f, nle_t, nle_f, neq_t, neq_f, rmI_n, dvI_n, upd_ne, upd_eq, un_ne, un_eq, Nat.add_zero, Bool.false_eq_true, ↓reduceIte, f_X11_person, cLand_in, f_X1_tell, f_X1_count, r3, q0, ge_nle (n := 10000) (m := 9999) (by omega) (by omega) q]
      · simp (maxSteps := 1000000) (disch := omega) only [li, ob1_s, ob2_s, ob3_s, ob4_s, ob5_s, ob6_s, ob7_s, gA_n, gL_n, sA_n, sL_n, cpI_n, nI_add, pk_mul, nsub, nlt_t, nlt_f, nle_t, nle_f, neq_t, neq_f, rmI_n, dvI_n, upd_ne, upd_eq, un_ne, un_eq, Nat.add_zero, Bool.false_eq_true, ↓reduceIte, f_X12_person, rLand_in hA h2, isIn_in, isIn_outT (m := 9999) hw (by omega) (by omega)]
    generalize hp : S 1 = p at *
    have hA4 : TieA (upd (upd (upd (upd a (14 + 11 * p + 7) (nI f)) (14 + 11 * p + 8) (nI l)) (14 + 11 * p + 9) (nI g)) (14 + 11 * p + 10) (nI d)) (un (un (un (un S (14 + 11 * p + 7) f) (14 + 11 * p + 8) l) (14 + 11 * p + 9) g) (14 + 11 * p + 10) d) := (((hA.up (by omega)).up (by omega)).up (by omega)).up (by omega)
    obtain ⟨a5, g1, g2⟩ := rBegin (N := N) hA4 (show p < 6 by omega) (by omega)
    generalize hT : un (un (un (un S (14 + 11 * p + 7) f) (14 + 11 * p + 8) l) (14 + 11 * p + 9) g) (14 + 11 * p + 10) d = T at hA4 g2
    have t1 : T 1 = p := by rw [← hT]; simp (disch := omega) only [un_ne]; exact hp
    have tb : bgn T p 1 = p := by rw [bgn_o (by omega)]; exact t1
    obtain ⟨row5, k1, k2, k3, k4, k5, k6⟩ := cSettle (N := N) (p := p) (m := p + 1) (row := upd row 2 (nI (p + 1))) (to := upd (upd (upd to (3 * p) (nI l)) (3 * p + 1) (nI g)) (3 * p + 2) (nI d)) (upd_eq rfl) (by omega) (by omega)
    refine ⟨nI p, row5, upd fe p (nI f), upd (upd (upd to (3 * p) (nI l)) (3 * p + 1) (nI g)) (3 * p + 2) (nI d), upd a5 1 (nI (p + 1)), un (bgn T p) 1 (p + 1), ?_, ?_, ?_, ?_, Or.inr ⟨p, by omega, rfl⟩⟩
    · have e3 : p * 3 = 3 * p := Nat.mul_comm _ _
      simp (maxSteps := 1000000) (disch := omega) only [li, ob1_s, ob2_s, ob3_s, ob4_s, ob5_s, ob6_s, ob7_s, gA_n, gL_n, sA_n, sL_n, cpI_n, nI_add, pk_mul, nsub, nlt_t, nlt_f, nle_t, nle_f, neq_t, neq_f, rmI_n, dvI_n, upd_ne, upd_eq, un_ne, un_eq, Nat.add_zero, Bool.false_eq_true, ↓reduceIte, f_X11_person, cLand_in, f_X1_tell, f_X1_count, r3, e3, k1]
    · have e1 : a 1 = nI p := by rw [hA.2 1 (by omega) (by omega), hp]
      have e2 : a5 1 = nI p := by rw [g2.2 1 (by omega) (by omega), tb]
      simp (maxSteps := 1000000) (disch := omega) only [li, ob1_s, ob2_s, ob3_s, ob4_s, ob5_s, ob6_s, ob7_s, gA_n, gL_n, sA_n, sL_n, cpI_n, nI_add, pk_mul, nsub, nlt_t, nlt_f, nle_t, nle_f, neq_t, neq_f, rmI_n, dvI_n, upd_ne, upd_eq, un_ne, un_eq, Nat.add_zero, Bool.false_eq_true, ↓reduceIte, f_X12_person, rLand_in hA h2, isIn_in, e1, rput, g1, e2]
    · have tn : ∀ i, i < 14 + 11 * p ∨ 14 + 11 * p + 11 ≤ i → bgn T p i = S i := by
        intro i hi
        rw [bgn_o (by omega), ← hT]
        simp (disch := omega) only [un_ne]
      have e0 : S 0 ≤ un (bgn T p) 1 (p + 1) 0 := by rw [un_ne (by omega), tn 0 (by omega)]; omega
      have e1 : S 1 ≤ un (bgn T p) 1 (p + 1) 1 := by rw [un_eq rfl]; omega
      have cgo : ∀ i, i < 14 + 11 * p ∨ 14 + 11 * p + 11 ≤ i → i ≠ 1 → un (bgn T p) 1 (p + 1) i = S i := fun i hi h1 => by rw [un_ne h1, tn i hi]
      have u1 : un (bgn T p) 1 (p + 1) 1 = p + 1 := un_eq rfl
      have u0 : un (bgn T p) 1 (p + 1) 0 = S 0 := cgo 0 (by omega) (by omega)
      have u10 : un (bgn T p) 1 (p + 1) 10 = S 10 := cgo 10 (by omega) (by omega)
      have u12 : un (bgn T p) 1 (p + 1) 12 = S 12 := cgo 12 (by omega) (by omega)
      have q0 : un (bgn T p) 1 (p + 1) (14 + 11 * p + 0) = l := by rw [un_ne (by omega), bgn_a (by omega) (by omega), ← hT]; simp (maxSteps := 1000000) (disch := omega) only [li, ob1_s, ob2_s, ob3_s, ob4_s, ob5_s, ob6_s, ob7_s, gA_n, gL_n, sA_n, sL_n, cpI_n, nI_add, pk_mul, nsub, nlt_t, nlt_f, nle_t, nle_f, neq_t, neq_f, rmI_n, dvI_n, upd_ne, upd_eq, un_ne, un_eq, Nat.add_zero, Bool.false_eq_true, ↓reduceIte]
      have q1 : un (bgn T p) 1 (p + 1) (14 + 11 * p + 1) = g := by rw [un_ne (by omega), bgn_a (by omega) (by omega), ← hT]; simp (maxSteps := 1000000) (disch := omega) only [li, ob1_s, ob2_s, ob3_s, ob4_s, ob5_s, ob6_s, ob7_s, gA_n, gL_n, sA_n, sL_n, cpI_n, nI_add, pk_mul, nsub, nlt_t, nlt_f, nle_t, nle_f, neq_t, neq_f, rmI_n, dvI_n, upd_ne, upd_eq, un_ne, un_eq, Nat.add_zero, Bool.false_eq_true, ↓reduceIte]
      have q2 : un (bgn T p) 1 (p + 1) (14 + 11 * p + 2) = d := by rw [un_ne (by omega), bgn_a (by omega) (by omega), ← hT]; simp (maxSteps := 1000000) (disch := omega) only [li, ob1_s, ob2_s, ob3_s, ob4_s, ob5_s, ob6_s, ob7_s, gA_n, gL_n, sA_n, sL_n, cpI_n, nI_add, pk_mul, nsub, nlt_t, nlt_f, nle_t, nle_f, neq_t, neq_f, rmI_n, dvI_n, upd_ne, upd_eq, un_ne, un_eq, Nat.add_zero, Bool.false_eq_true, ↓reduceIte]
      have q3 : ∀ k, 3 ≤ k → k < 7 → un (bgn T p) 1 (p + 1) (14 + 11 * p + k) = 0 := fun k hk1 hk2 => by rw [un_ne (by omega), bgn_b (by omega) (by omega)]
      have q7 : un (bgn T p) 1 (p + 1) (14 + 11 * p + 7) = f := by rw [un_ne (by omega), bgn_o (by omega), ← hT]; simp (maxSteps := 1000000) (disch := omega) only [li, ob1_s, ob2_s, ob3_s, ob4_s, ob5_s, ob6_s, ob7_s, gA_n, gL_n, sA_n, sL_n, cpI_n, nI_add, pk_mul, nsub, nlt_t, nlt_f, nle_t, nle_f, neq_t, neq_f, rmI_n, dvI_n, upd_ne, upd_eq, un_ne, un_eq, Nat.add_zero, Bool.false_eq_true, ↓reduceIte]
      have q8 : un (bgn T p) 1 (p + 1) (14 + 11 * p + 8) = l := by rw [un_ne (by omega), bgn_o (by omega), ← hT]; simp (maxSteps := 1000000) (disch := omega) only [li, ob1_s, ob2_s, ob3_s, ob4_s, ob5_s, ob6_s, ob7_s, gA_n, gL_n, sA_n, sL_n, cpI_n, nI_add, pk_mul, nsub, nlt_t, nlt_f, nle_t, nle_f, neq_t, neq_f, rmI_n, dvI_n, upd_ne, upd_eq, un_ne, un_eq, Nat.add_zero, Bool.false_eq_true, ↓reduceIte]
      have q9 : un (bgn T p) 1 (p + 1) (14 + 11 * p + 9) = g := by rw [un_ne (by omega), bgn_o (by omega), ← hT]; simp (maxSteps := 1000000) (disch := omega) only [li, ob1_s, ob2_s, ob3_s, ob4_s, ob5_s, ob6_s, ob7_s, gA_n, gL_n, sA_n, sL_n, cpI_n, nI_add, pk_mul, nsub, nlt_t, nlt_f, nle_t, nle_f, neq_t, neq_f, rmI_n, dvI_n, upd_ne, upd_eq, un_ne, un_eq, Nat.add_zero, Bool.false_eq_true, ↓reduceIte]
      have q10 : un (bgn T p) 1 (p + 1) (14 + 11 * p + 10) = d := by rw [un_ne (by omega), bgn_o (by omega), ← hT]; simp (maxSteps := 1000000) (disch := omega) only [li, ob1_s, ob2_s, ob3_s, ob4_s, ob5_s, ob6_s, ob7_s, gA_n, gL_n, sA_n, sL_n, cpI_n, nI_add, pk_mul, nsub, nlt_t, nlt_f, nle_t, nle_f, neq_t, neq_f, rmI_n, dvI_n, upd_ne, upd_eq, un_ne, un_eq, Nat.add_zero, Bool.false_eq_true, ↓reduceIte]
      refine ⟨g2.up (by omega), hL.cg (fun i hi => cgo i (by omega) (by omega)), ⟨?_, ?_, ?_, ?_, ?_⟩, ⟨by omega, by omega, by rw [cgo 11 (by omega) (by omega)]; exact w3, ?_⟩, ?_, ?_, hZ.cg (fun i hi => cgo i (by omega) (by omega)) e0 e1 (by omega), hQ.cg (fun i hi => cgo i (by omega) (by omega)) e0 e1, hI.cg (fun i hi => cgo i (by omega) (by omega)), by omega⟩
      · rw [k2 0 (by omega), upd_ne (by omega), u10]; exact r1
      · rw [k2 1 (by omega), upd_ne (by omega), cgo 11 (by omega) (by omega)]; exact r2
      · rw [k2 2 (by omega), upd_eq rfl, u1]
      · obtain ⟨n, hn, e⟩ := r4
        exact ⟨n, hn, by rw [k2 3 (by omega), upd_ne (by omega)]; exact e⟩
      · intro q k hq hk
        rw [u1] at hq
        by_cases e : q = p
        · subst e
          rcases (show k = 0 ∨ k = 1 ∨ k = 2 ∨ 3 ≤ k by omega) with e | e | e | e
          · subst e; rw [k3, q0]; simp (maxSteps := 1000000) (disch := omega) only [li, ob1_s, ob2_s, ob3_s, ob4_s, ob5_s, ob6_s, ob7_s, gA_n, gL_n, sA_n, sL_n, cpI_n, nI_add, pk_mul, nsub, nlt_t, nlt_f, nle_t, nle_f, neq_t, neq_f, rmI_n, dvI_n, upd_ne, upd_eq, un_ne, un_eq, Nat.add_zero, Bool.false_eq_true, ↓reduceIte]
          · subst e; rw [k4, q1]; simp (maxSteps := 1000000) (disch := omega) only [li, ob1_s, ob2_s, ob3_s, ob4_s, ob5_s, ob6_s, ob7_s, gA_n, gL_n, sA_n, sL_n, cpI_n, nI_add, pk_mul, nsub, nlt_t, nlt_f, nle_t, nle_f, neq_t, neq_f, rmI_n, dvI_n, upd_ne, upd_eq, un_ne, un_eq, Nat.add_zero, Bool.false_eq_true, ↓reduceIte]
          · subst e; rw [k5, q2]; simp (maxSteps := 1000000) (disch := omega) only [li, ob1_s, ob2_s, ob3_s, ob4_s, ob5_s, ob6_s, ob7_s, gA_n, gL_n, sA_n, sL_n, cpI_n, nI_add, pk_mul, nsub, nlt_t, nlt_f, nle_t, nle_f, neq_t, neq_f, rmI_n, dvI_n, upd_ne, upd_eq, un_ne, un_eq, Nat.add_zero, Bool.false_eq_true, ↓reduceIte]
          · rw [k6 k e hk, q3 k e hk]
        · rw [k2 _ (by omega), upd_ne (by omega), cgo _ (by omega) (by omega)]
          exact r5 q k (by omega) hk
      · intro q hq
        rw [u1] at hq
        rw [u0, u10]
        by_cases e : q = p
        · subst e
          refine ⟨?_, ?_, ?_, ?_, ?_, ?_, ?_⟩
          · show un (bgn T q) 1 (q + 1) (14 + 11 * q + 0) < _; rw [q0]; exact hl
          · show un (bgn T q) 1 (q + 1) (14 + 11 * q + 1) ≤ _; rw [q1]; omega
          · show un (bgn T q) 1 (q + 1) (14 + 11 * q + 2) ≤ _; rw [q2]; omega
          · show un (bgn T q) 1 (q + 1) (14 + 11 * q + 3) ≤ _; rw [q3 3 (by omega) (by omega)]; omega
          · show un (bgn T q) 1 (q + 1) (14 + 11 * q + 4) ≤ _; rw [q3 4 (by omega) (by omega)]; omega
          · show un (bgn T q) 1 (q + 1) (14 + 11 * q + 5) ≤ _; rw [q3 5 (by omega) (by omega)]; omega
          · show un (bgn T q) 1 (q + 1) (14 + 11 * q + 6) ≤ _; rw [q3 6 (by omega) (by omega)]; omega
        · exact (w4 q (by omega)).mn (Nat.le_refl _) (Nat.le_refl _) (fun k hk => cgo _ (by omega) (by omega))
      · intro q hq
        rw [u1] at hq
        rw [u0]
        by_cases e : q = p
        · subst e
          rw [q7, q8, q9, q10]
          simp (maxSteps := 1000000) (disch := omega) only [li, ob1_s, ob2_s, ob3_s, ob4_s, ob5_s, ob6_s, ob7_s, gA_n, gL_n, sA_n, sL_n, cpI_n, nI_add, pk_mul, nsub, nlt_t, nlt_f, nle_t, nle_f, neq_t, neq_f, rmI_n, dvI_n, upd_ne, upd_eq, un_ne, un_eq, Nat.add_zero, Bool.false_eq_true, ↓reduceIte]
          exact ⟨trivial, by omega, trivial, hl, trivial, by omega, trivial, by omega⟩
        · have := hF q (by omega)
          rw [cgo _ (by omega) (by omega), cgo _ (by omega) (by omega), cgo _ (by omega) (by omega), cgo _ (by omega) (by omega)]
          simp (maxSteps := 1000000) (disch := omega) only [li, ob1_s, ob2_s, ob3_s, ob4_s, ob5_s, ob6_s, ob7_s, gA_n, gL_n, sA_n, sL_n, cpI_n, nI_add, pk_mul, nsub, nlt_t, nlt_f, nle_t, nle_f, neq_t, neq_f, rmI_n, dvI_n, upd_ne, upd_eq, un_ne, un_eq, Nat.add_zero, Bool.false_eq_true, ↓reduceIte]
          exact this
      · rw [u12]
        have hB2 : BookT row (un (bgn T p) 1 (p + 1)) (S 12) := hB.cg (fun i hi => cgo i (by omega) (by omega))
        refine ⟨by rw [k2 3 (by omega), upd_ne (by omega)]; exact hB2.1, fun i hi => ?_⟩
        rw [k2 (4 + i) (by omega), upd_ne (by omega)]
        exact hB2.2 i hi
    · rw [un_ne (by omega), bgn_o (by omega), ← hT]
      simp (disch := omega) only [un_ne]
  · have hm : S 1 = 6 := by omega
    refine ⟨-1, row, fe, to, a, S, ?_, ?_, h0.later, rfl, Or.inl rfl⟩
    · simp (maxSteps := 1000000) (disch := omega) only [li, ob1_s, ob2_s, ob3_s, ob4_s, ob5_s, ob6_s, ob7_s, gA_n, gL_n, sA_n, sL_n, cpI_n, nI_add, pk_mul, nsub, nlt_t, nlt_f, nle_t, nle_f, neq_t, neq_f, rmI_n, dvI_n, upd_ne, upd_eq, un_ne, un_eq, Nat.add_zero, Bool.false_eq_true, ↓reduceIte, f_X11_person, cLand_in, f_X1_tell, f_X1_count, r3]
    · rcases inOut y 10 (by omega) with hy | ⟨f, hf, rfl⟩
      · simp (maxSteps := 1000000) (disch := omega) only [li, ob1_s, ob2_s, ob3_s, ob4_s, ob5_s, ob6_s, ob7_s, gA_n, gL_n, sA_n, sL_n, cpI_n, nI_add, pk_mul, nsub, nlt_t, nlt_f, nle_t, nle_f, neq_t, neq_f, rmI_n, dvI_n, upd_ne, upd_eq, un_ne, un_eq, Nat.add_zero, Bool.false_eq_true, ↓reduceIte, f_X12_person, rLand_in hA h2, isIn_outT (m := 9) hy (by omega) (by omega)]
      rcases inOut z 10000 (by omega) with hz | ⟨g, hg, rfl⟩
      · simp (maxSteps := 1000000) (disch := omega) only [li, ob1_s, ob2_s, ob3_s, ob4_s, ob5_s, ob6_s, ob7_s, gA_n, gL_n, sA_n, sL_n, cpI_n, nI_add, pk_mul, nsub, nlt_t, nlt_f, nle_t, nle_f, neq_t, neq_f, rmI_n, dvI_n, upd_ne, upd_eq, un_ne, un_eq, Nat.add_zero, Bool.false_eq_true, ↓reduceIte, f_X12_person, rLand_in hA h2, isIn_in, isIn_outT (m := 9999) hz (by omega) (by omega)]
      rcases inOut w 10000 (by omega) with hw | ⟨d, hd, rfl⟩
      · simp (maxSteps := 1000000) (disch := omega) only [li, ob1_s, ob2_s, ob3_s, ob4_s, ob5_s, ob6_s, ob7_s, gA_n, gL_n, sA_n, sL_n, cpI_n, nI_add, pk_mul, nsub, nlt_t, nlt_f, nle_t, nle_f, neq_t, neq_f, rmI_n, dvI_n, upd_ne, upd_eq, un_ne, un_eq, Nat.add_zero, Bool.false_eq_true, ↓reduceIte, f_X12_person, rLand_in hA h2, isIn_in, isIn_outT (m := 9999) hw (by omega) (by omega)]
      simp (maxSteps := 1000000) (disch := omega) only [li, ob1_s, ob2_s, ob3_s, ob4_s, ob5_s, ob6_s, ob7_s, gA_n, gL_n, sA_n, sL_n, cpI_n, nI_add, pk_mul, nsub, nlt_t, nlt_f, nle_t, nle_f, neq_t, neq_f, rmI_n, dvI_n, upd_ne, upd_eq, un_ne, un_eq, Nat.add_zero, Bool.false_eq_true, ↓reduceIte, f_X12_person, rLand_in hA h2, isIn_in, hA.2]
