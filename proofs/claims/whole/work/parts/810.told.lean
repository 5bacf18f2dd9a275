/-! what is there: lands, persons, reports, on both sides -/
theorem isIn_in {N p lo hi : Nat} (h1 : lo ≤ p) (h2 : p ≤ hi) (hb : hi < 2147483648) : f_X12_isIn N (nI p) (nI lo) (nI hi) = some (nI 1) := by
  simp (maxSteps := 1000000) (disch := omega) only [li, ob1_s, ob2_s, ob3_s, ob4_s, ob5_s, ob6_s, ob7_s, gA_n, gL_n, sA_n, sL_n, cpI_n, nI_add, pk_mul, nsub, nlt_t, nlt_f, nle_t, nle_f, neq_t, neq_f, rmI_n, dvI_n, upd_ne, upd_eq, un_ne, un_eq, Nat.add_zero, Bool.false_eq_true, ↓reduceIte, f_X12_isIn]
theorem isIn_out {N n : Nat} {x : Int32} (h : Out x n) (hn : n < 2147483648) : f_X12_isIn N x (nI 0) (nI n - nI 1) = some (nI 0) := by
  rcases h with h | ⟨h, h0⟩
  · simp only [f_X12_isIn, li, h, ↓reduceIte]
  · simp only [f_X12_isIn, li, h0, ge_pred hn h h0, ↓reduceIte]
theorem isIn_outT {N n m : Nat} {x : Int32} (h : Out x n) (hn : n < 2147483648) (hm : m + 1 = n) : f_X12_isIn N x (nI 0) (nI m) = some (nI 0) := by
  have := isIn_out (N := N) h hn
  rwa [nsub (by omega), show n - 1 = m by omega] at this
theorem rLand_in {N k : Nat} {a : Nat → Int32} {S : Nat → Nat} (hA : TieA a S) (h8 : S 0 ≤ 8) (hk : k < S 0) : f_X12_isLand N a (nI k) = some (nI 1) := by
  simp (maxSteps := 1000000) (disch := omega) only [li, ob1_s, ob2_s, ob3_s, ob4_s, ob5_s, ob6_s, ob7_s, gA_n, gL_n, sA_n, sL_n, cpI_n, nI_add, pk_mul, nsub, nlt_t, nlt_f, nle_t, nle_f, neq_t, neq_f, rmI_n, dvI_n, upd_ne, upd_eq, un_ne, un_eq, Nat.add_zero, Bool.false_eq_true, ↓reduceIte, f_X12_isLand, hA.2, isIn_in]
theorem rLand_out {N : Nat} {x : Int32} {a : Nat → Int32} {S : Nat → Nat} (hA : TieA a S) (h8 : S 0 ≤ 8) (hx : Out x (S 0)) : f_X12_isLand N a x = some (nI 0) := by
  simp (disch := omega) only [f_X12_isLand, li, gA_n, hA.2, isIn_out hx (show S 0 < 2147483648 by omega), ob1_s]
theorem rPers_in {N k : Nat} {a : Nat → Int32} {S : Nat → Nat} (hA : TieA a S) (h6 : S 1 ≤ 6) (hk : k < S 1) : f_X12_isPerson N a (nI k) = some (nI 1) := by
  simp (maxSteps := 1000000) (disch := omega) only [li, ob1_s, ob2_s, ob3_s, ob4_s, ob5_s, ob6_s, ob7_s, gA_n, gL_n, sA_n, sL_n, cpI_n, nI_add, pk_mul, nsub, nlt_t, nlt_f, nle_t, nle_f, neq_t, neq_f, rmI_n, dvI_n, upd_ne, upd_eq, un_ne, un_eq, Nat.add_zero, Bool.false_eq_true, ↓reduceIte, f_X12_isPerson, hA.2, isIn_in]
theorem rPers_out {N : Nat} {x : Int32} {a : Nat → Int32} {S : Nat → Nat} (hA : TieA a S) (h6 : S 1 ≤ 6) (hx : Out x (S 1)) : f_X12_isPerson N a x = some (nI 0) := by
  simp (disch := omega) only [f_X12_isPerson, li, gA_n, hA.2, isIn_out hx (show S 1 < 2147483648 by omega), ob1_s]
theorem cLand_in {N n k : Nat} (h8 : n ≤ 8) (hk : k < n) : f_X2_told N (nI n) (nI k) = some (nI 1) := by
  simp (maxSteps := 1000000) (disch := omega) only [li, ob1_s, ob2_s, ob3_s, ob4_s, ob5_s, ob6_s, ob7_s, gA_n, gL_n, sA_n, sL_n, cpI_n, nI_add, pk_mul, nsub, nlt_t, nlt_f, nle_t, nle_f, neq_t, neq_f, rmI_n, dvI_n, upd_ne, upd_eq, un_ne, un_eq, Nat.add_zero, Bool.false_eq_true, ↓reduceIte, f_X2_told]
theorem cLand_out {N n : Nat} {x : Int32} (h8 : n ≤ 8) (hx : Out x n) : f_X2_told N (nI n) x = some (nI 0) := by
  rcases hx with h | ⟨h, h0⟩
  · simp only [f_X2_told, li, h, ↓reduceIte]
  · simp only [f_X2_told, li, h, h0, ↓reduceIte]
theorem cPers_in {N k : Nat} {row : Nat → Int32} {S : Nat → Nat} (hR : RowC row S) (h6 : S 1 ≤ 6) (hk : k < S 1) : f_X1_told N row (nI k) = some (nI 1) := by
  simp (maxSteps := 1000000) (disch := omega) only [li, ob1_s, ob2_s, ob3_s, ob4_s, ob5_s, ob6_s, ob7_s, gA_n, gL_n, sA_n, sL_n, cpI_n, nI_add, pk_mul, nsub, nlt_t, nlt_f, nle_t, nle_f, neq_t, neq_f, rmI_n, dvI_n, upd_ne, upd_eq, un_ne, un_eq, Nat.add_zero, Bool.false_eq_true, ↓reduceIte, f_X1_told, hR.2.2.1]
theorem cPers_out {N : Nat} {x : Int32} {row : Nat → Int32} {S : Nat → Nat} (hR : RowC row S) (hx : Out x (S 1)) : f_X1_told N row x = some (nI 0) := by
  rcases hx with h | ⟨h, h0⟩
  · simp only [f_X1_told, li, h, ↓reduceIte]
  · simp (disch := omega) only [f_X1_told, li, gA_n, hR.2.2.1, h, h0, ↓reduceIte]
theorem rget {N p k : Nat} {a : Nat → Int32} {S : Nat → Nat} (hA : TieA a S) (hp : p < 6) (hk : k < 11) : f_X12_get N a (nI p) (nI k) = some (nI (S (14 + 11 * p + k))) := by
  simp (maxSteps := 1000000) (disch := omega) only [li, ob1_s, ob2_s, ob3_s, ob4_s, ob5_s, ob6_s, ob7_s, gA_n, gL_n, sA_n, sL_n, cpI_n, nI_add, pk_mul, nsub, nlt_t, nlt_f, nle_t, nle_f, neq_t, neq_f, rmI_n, dvI_n, upd_ne, upd_eq, un_ne, un_eq, Nat.add_zero, Bool.false_eq_true, ↓reduceIte, f_X12_get, hA.2]
theorem rput {N p k v : Nat} {a : Nat → Int32} (hp : p < 6) (hk : k < 11) : f_X12_put N a (nI p) (nI k) (nI v) = some (upd a (14 + 11 * p + k) (nI v)) := by
  simp (maxSteps := 1000000) (disch := omega) only [li, ob1_s, ob2_s, ob3_s, ob4_s, ob5_s, ob6_s, ob7_s, gA_n, gL_n, sA_n, sL_n, cpI_n, nI_add, pk_mul, nsub, nlt_t, nlt_f, nle_t, nle_f, neq_t, neq_f, rmI_n, dvI_n, upd_ne, upd_eq, un_ne, un_eq, Nat.add_zero, Bool.false_eq_true, ↓reduceIte, f_X12_put]
theorem cget {N p k : Nat} {row : Nat → Int32} {S : Nat → Nat} (hR : RowC row S) (h6 : S 1 ≤ 6) (hp : p < S 1) (hk : k < 7) : f_X1_get N row (nI p) (nI k) = some (nI (S (14 + 11 * p + k))) := by
  have e := hR.2.2.2.2 p k hp hk
  rw [Nat.mul_comm] at e
  simp (maxSteps := 1000000) (disch := omega) only [li, ob1_s, ob2_s, ob3_s, ob4_s, ob5_s, ob6_s, ob7_s, gA_n, gL_n, sA_n, sL_n, cpI_n, nI_add, pk_mul, nsub, nlt_t, nlt_f, nle_t, nle_f, neq_t, neq_f, rmI_n, dvI_n, upd_ne, upd_eq, un_ne, un_eq, Nat.add_zero, Bool.false_eq_true, ↓reduceIte, f_X1_get, f_X1_get_24, f_X1_get_25, hR.2.2.1, e]
theorem cset {N p k : Nat} {v : Int32} {row : Nat → Int32} {S : Nat → Nat} (hR : RowC row S) (h6 : S 1 ≤ 6) (hp : p < S 1) (hk : k < 7) : f_X1_set N row (nI p) (nI k) v = some (upd row (34 + 7 * p + k) v) := by
  have e := cPers_in (N := N) hR h6 hp
  have e2 : p * 7 = 7 * p := Nat.mul_comm _ _
  simp (maxSteps := 1000000) (disch := omega) only [li, ob1_s, ob2_s, ob3_s, ob4_s, ob5_s, ob6_s, ob7_s, gA_n, gL_n, sA_n, sL_n, cpI_n, nI_add, pk_mul, nsub, nlt_t, nlt_f, nle_t, nle_f, neq_t, neq_f, rmI_n, dvI_n, upd_ne, upd_eq, un_ne, un_eq, Nat.add_zero, Bool.false_eq_true, ↓reduceIte, f_X1_set, e, e2]
/-- an answer: none, or a plain number -/
def Ans (r : Int32) : Prop := r = -nI 1 ∨ ∃ k, k < 2147483648 ∧ r = nI k
