theorem fitb_bad {S U c : Nat → Nat} {r h : Nat} (hr : r < S 6) (h6 : S 6 ≤ 8) (h5 : ∀ k, k < S 7 → S (101 + 2 * k) < S 6 ∧ S (102 + 2 * k) < S 6 ∧ S (101 + 2 * k) ≠ S (102 + 2 * k)) (hU : ∀ i k, i < 8 → k < 8 → ((U i).testBit k = true ↔ unl2 S i k)) :
    fitb U c r h = true ↔ ∀ t, t < S 7 → ¬ ((S (101 + 2 * t) = r ∧ S (102 + 2 * t) < r ∧ c (S (102 + 2 * t)) = h) ∨ (S (102 + 2 * t) = r ∧ S (101 + 2 * t) < r ∧ c (S (101 + 2 * t)) = h)) := by
  unfold fitb
  rw [decide_eq_true_eq]
  constructor
  · intro q t ht hb
    rcases hb with ⟨b1, b2, b3⟩ | ⟨b1, b2, b3⟩
    · have e := q _ b2 b3
      have : (U (S (102 + 2 * t))).testBit r = true := (hU _ r (by omega) (by omega)).mpr ⟨t, ht, Or.inr ⟨b1, rfl⟩⟩
      rw [this] at e; cases e
    · have e := q _ b2 b3
      have : (U (S (101 + 2 * t))).testBit r = true := (hU _ r (by omega) (by omega)).mpr ⟨t, ht, Or.inl ⟨rfl, b1⟩⟩
      rw [this] at e; cases e
  · intro q k hk he
    apply Bool.eq_false_iff.mpr
    intro hb
    obtain ⟨t, ht, g⟩ := (hU k r (by omega) (by omega)).mp hb
    refine q t ht ?_
    rcases g with ⟨g1, g2⟩ | ⟨g1, g2⟩
    · exact Or.inr ⟨g2, by omega, by rw [g1]; exact he⟩
    · exact Or.inl ⟨g1, by omega, by rw [g2]; exact he⟩
theorem rCan {N r h : Nat} {a hd : Nat → Int32} {S U c : Nat → Nat} (hA : TieA a S) (hr : r < S 6) (h6 : S 6 ≤ 8) (h7 : S 7 ≤ 8) (h5 : ∀ k, k < S 7 → S (101 + 2 * k) < S 6 ∧ S (102 + 2 * k) < S 6 ∧ S (101 + 2 * k) ≠ S (102 + 2 * k)) (hU : ∀ i k, i < 8 → k < 8 → ((U i).testBit k = true ↔ unl2 S i k))
    (hh : h < 100) (ho : ∀ i, i < r → hd i = nI (c i)) (hc : ∀ i, i < r → c i < 100) (hN : 100 ≤ N) : f_X12_canBe N a hd (nI r) (nI h) = some (nI (if fitb U c r h = true then 1 else 0)) := by
  have fb := fitb_bad (c := c) (h := h) hr h6 h5 hU
  have key : ∀ k n q, q + k = S 7 → k < n → (∀ t, t < q → ¬ ((S (101 + 2 * t) = r ∧ S (102 + 2 * t) < r ∧ c (S (102 + 2 * t)) = h) ∨ (S (102 + 2 * t) = r ∧ S (101 + 2 * t) < r ∧ c (S (101 + 2 * t)) = h))) → f_X12_canBe_2 N n a hd (nI r) (nI h) (nI q) = some (nI (if fitb U c r h = true then 1 else 0)) := by
    intro k
    induction k with
    | zero =>
      intro n q e hn hi
      obtain ⟨n, rfl⟩ : ∃ m, n = m + 1 := ⟨n - 1, by omega⟩
      have e : q = S 7 := by omega
      subst e
      rw [if_pos (fb.mpr hi)]
      simp (maxSteps := 1000000) (disch := omega) only [li, ob1_s, ob2_s, ob3_s, ob4_s, ob5_s, ob6_s, ob7_s, gA_n, gL_n, sA_n, sL_n, cpI_n, nI_add, pk_mul, nsub, nlt_t, nlt_f, nle_t, nle_f, neq_t, neq_f, rmI_n, dvI_n, upd_ne, upd_eq, un_ne, un_eq, Nat.add_zero, Bool.false_eq_true, ↓reduceIte, f_X12_canBe_2, hA.2]
    | succ k ih =>
      intro n q e hn hi
      obtain ⟨n, rfl⟩ : ∃ m, n = m + 1 := ⟨n - 1, by omega⟩
      obtain ⟨s1, s2, s3⟩ := h5 q (by omega)
      by_cases hb : (S (101 + 2 * q) = r ∧ S (102 + 2 * q) < r ∧ c (S (102 + 2 * q)) = h) ∨ (S (102 + 2 * q) = r ∧ S (101 + 2 * q) < r ∧ c (S (101 + 2 * q)) = h)
      · rw [if_neg (fun g => fb.mp g q (by omega) hb)]
        have e1 : 101 + 2 * q + 1 = 102 + 2 * q := by omega
        rcases hb with ⟨b1, b2, b3⟩ | ⟨b1, b2, b3⟩
        · have o1 := ho _ b2
          simp (maxSteps := 1000000) (disch := omega) only [li, ob1_s, ob2_s, ob3_s, ob4_s, ob5_s, ob6_s, ob7_s, gA_n, gL_n, sA_n, sL_n, cpI_n, nI_add, pk_mul, nsub, nlt_t, nlt_f, nle_t, nle_f, neq_t, neq_f, rmI_n, dvI_n, upd_ne, upd_eq, un_ne, un_eq, Nat.add_zero, Bool.false_eq_true, ↓reduceIte, f_X12_canBe_2, hA.2, e1, o1, b3]
        · have o1 := ho _ b2
          simp (maxSteps := 1000000) (disch := omega) only [li, ob1_s, ob2_s, ob3_s, ob4_s, ob5_s, ob6_s, ob7_s, gA_n, gL_n, sA_n, sL_n, cpI_n, nI_add, pk_mul, nsub, nlt_t, nlt_f, nle_t, nle_f, neq_t, neq_f, rmI_n, dvI_n, upd_ne, upd_eq, un_ne, un_eq, Nat.add_zero, Bool.false_eq_true, ↓reduceIte, f_X12_canBe_2, f_X12_canBe_64, hA.2, e1, o1, b3]
      · have g := ih n (q + 1) (by omega) (by omega) (fun t ht => by
          by_cases w : t = q
          · subst w; exact hb
          · exact hi t (by omega))
        have e1 : 101 + 2 * q + 1 = 102 + 2 * q := by omega
        by_cases b1 : S (101 + 2 * q) = r
        · by_cases b2 : S (102 + 2 * q) < r
          · have o1 := ho _ b2
            have c1 := hc _ b2
            have b3 : c (S (102 + 2 * q)) ≠ h := fun w => hb (Or.inl ⟨b1, b2, w⟩)
            simp (maxSteps := 1000000) (disch := omega) only [li, ob1_s, ob2_s, ob3_s, ob4_s, ob5_s, ob6_s, ob7_s, gA_n, gL_n, sA_n, sL_n, cpI_n, nI_add, pk_mul, nsub, nlt_t, nlt_f, nle_t, nle_f, neq_t, neq_f, rmI_n, dvI_n, upd_ne, upd_eq, un_ne, un_eq, Nat.add_zero, Bool.false_eq_true, ↓reduceIte, f_X12_canBe_2, f_X12_canBe_64, f_X12_canBe_89, hA.2, e1, o1]
            exact g
          · simp (maxSteps := 1000000) (disch := omega) only [li, ob1_s, ob2_s, ob3_s, ob4_s, ob5_s, ob6_s, ob7_s, gA_n, gL_n, sA_n, sL_n, cpI_n, nI_add, pk_mul, nsub, nlt_t, nlt_f, nle_t, nle_f, neq_t, neq_f, rmI_n, dvI_n, upd_ne, upd_eq, un_ne, un_eq, Nat.add_zero, Bool.false_eq_true, ↓reduceIte, f_X12_canBe_2, f_X12_canBe_64, f_X12_canBe_89, hA.2, e1]
            exact g
        · by_cases b4 : S (102 + 2 * q) = r
          · by_cases b2 : S (101 + 2 * q) < r
            · have o1 := ho _ b2
              have c1 := hc _ b2
              have b3 : c (S (101 + 2 * q)) ≠ h := fun w => hb (Or.inr ⟨b4, b2, w⟩)
              simp (maxSteps := 1000000) (disch := omega) only [li, ob1_s, ob2_s, ob3_s, ob4_s, ob5_s, ob6_s, ob7_s, gA_n, gL_n, sA_n, sL_n, cpI_n, nI_add, pk_mul, nsub, nlt_t, nlt_f, nle_t, nle_f, neq_t, neq_f, rmI_n, dvI_n, upd_ne, upd_eq, un_ne, un_eq, Nat.add_zero, Bool.false_eq_true, ↓reduceIte, f_X12_canBe_2, f_X12_canBe_64, f_X12_canBe_89, hA.2, e1, o1]
              exact g
            · simp (maxSteps := 1000000) (disch := omega) only [li, ob1_s, ob2_s, ob3_s, ob4_s, ob5_s, ob6_s, ob7_s, gA_n, gL_n, sA_n, sL_n, cpI_n, nI_add, pk_mul, nsub, nlt_t, nlt_f, nle_t, nle_f, neq_t, neq_f, rmI_n, dvI_n, upd_ne, upd_eq, un_ne, un_eq, Nat.add_zero, Bool.false_eq_true, ↓reduceIte, f_X12_canBe_2, f_X12_canBe_64, f_X12_canBe_89, hA.2, e1]
              exact g
          · simp (maxSteps := 1000000) (disch := omega) only [li, ob1_s, ob2_s, ob3_s, ob4_s, ob5_s, ob6_s, ob7_s, gA_n, gL_n, sA_n, sL_n, cpI_n, nI_add, pk_mul, nsub, nlt_t, nlt_f, nle_t, nle_f, neq_t, neq_f, rmI_n, dvI_n, upd_ne, upd_eq, un_ne, un_eq, Nat.add_zero, Bool.false_eq_true, ↓reduceIte, f_X12_canBe_2, f_X12_canBe_64, f_X12_canBe_89, hA.2, e1]
            exact g
  exact key (S 7) N 0 (by omega) (by omega) (fun t ht => by omega)
theorem rsEnd0 {N n n1 f : Nat} {a hd : Nat → Int32} (hn : n ≤ 8) : f_X12_isExplained_19 N (f_X12_isExplained_4 N (n1 + 1)) (f + 1) a hd (nI n) (nI 0) (nI n) = some (nI 0, hd) := by
  have m1 : ¬ nI 0 ≤ nI 0 + -nI 1 := by decide
  have m2 : nI 0 + -nI 1 < nI 0 := by decide
  rw [f_X12_isExplained_19]
  simp (maxSteps := 1000000) (disch := omega) only [li, ob1_s, ob2_s, ob3_s, ob4_s, ob5_s, ob6_s, ob7_s, gA_n, gL_n, sA_n, sL_n, cpI_n, nI_add, pk_mul, nsub, nlt_t, nlt_f, nle_t, nle_f, neq_t, neq_f, rmI_n, dvI_n, upd_ne, upd_eq, un_ne, un_eq, Nat.add_zero, Bool.false_eq_true, ↓reduceIte, f_X12_isExplained_39, f_X12_isExplained_78, m1]
  rw [f_X12_isExplained_4]
  simp (maxSteps := 1000000) (disch := omega) only [li, ob1_s, ob2_s, ob3_s, ob4_s, ob5_s, ob6_s, ob7_s, gA_n, gL_n, sA_n, sL_n, cpI_n, nI_add, pk_mul, nsub, nlt_t, nlt_f, nle_t, nle_f, neq_t, neq_f, rmI_n, dvI_n, upd_ne, upd_eq, un_ne, un_eq, Nat.add_zero, Bool.false_eq_true, ↓reduceIte, f_X12_isExplained_82, m2]
theorem rsEnd {N n n1 f r v : Nat} {a hd : Nat → Int32} (hn : n ≤ 8) (hr : 0 < r) (hr8 : r < 8) (ho : hd (r - 1) = nI v) : f_X12_isExplained_19 N (f_X12_isExplained_4 N n1) (f + 1) a hd (nI n) (nI r) (nI n) = f_X12_isExplained_4 N n1 a hd (nI n) (nI (r - 1)) (nI (v + 1)) := by
  have m1 : nI r + -nI 1 = nI (r - 1) := by rw [← nsub (by omega), Int32.sub_eq_add_neg]
  rw [f_X12_isExplained_19]
  generalize f_X12_isExplained_4 N n1 = K
  simp (maxSteps := 1000000) (disch := omega) only [li, ob1_s, ob2_s, ob3_s, ob4_s, ob5_s, ob6_s, ob7_s, gA_n, gL_n, sA_n, sL_n, cpI_n, nI_add, pk_mul, nsub, nlt_t, nlt_f, nle_t, nle_f, neq_t, neq_f, rmI_n, dvI_n, upd_ne, upd_eq, un_ne, un_eq, Nat.add_zero, Bool.false_eq_true, ↓reduceIte, f_X12_isExplained_39, f_X12_isExplained_78, m1, ho]
theorem rsSkip {N n n1 f r h : Nat} {a hd : Nat → Int32} (hn : n ≤ 8) (hh : h < n) (ca : f_X12_canBe N a hd (nI r) (nI h) = some (nI 0)) : f_X12_isExplained_19 N (f_X12_isExplained_4 N n1) (f + 1) a hd (nI n) (nI r) (nI h) = f_X12_isExplained_19 N (f_X12_isExplained_4 N n1) f a hd (nI n) (nI r) (nI (h + 1)) := by
  rw [f_X12_isExplained_19]
  generalize f_X12_isExplained_4 N n1 = K
  simp (maxSteps := 1000000) (disch := omega) only [li, ob1_s, ob2_s, ob3_s, ob4_s, ob5_s, ob6_s, ob7_s, gA_n, gL_n, sA_n, sL_n, cpI_n, nI_add, pk_mul, nsub, nlt_t, nlt_f, nle_t, nle_f, neq_t, neq_f, rmI_n, dvI_n, upd_ne, upd_eq, un_ne, un_eq, Nat.add_zero, Bool.false_eq_true, ↓reduceIte, ca]
theorem rsFit {N n n1 f r h : Nat} {a hd : Nat → Int32} (hn : n ≤ 8) (hh : h < n) (hr : r < 8) (ca : f_X12_canBe N a hd (nI r) (nI h) = some (nI 1)) : f_X12_isExplained_19 N (f_X12_isExplained_4 N n1) (f + 1) a hd (nI n) (nI r) (nI h) = f_X12_isExplained_4 N n1 a (upd hd r (nI h)) (nI n) (nI (r + 1)) (nI 0) := by
  rw [f_X12_isExplained_19]
  generalize f_X12_isExplained_4 N n1 = K
  simp (maxSteps := 1000000) (disch := omega) only [li, ob1_s, ob2_s, ob3_s, ob4_s, ob5_s, ob6_s, ob7_s, gA_n, gL_n, sA_n, sL_n, cpI_n, nI_add, pk_mul, nsub, nlt_t, nlt_f, nle_t, nle_f, neq_t, neq_f, rmI_n, dvI_n, upd_ne, upd_eq, un_ne, un_eq, Nat.add_zero, Bool.false_eq_true, ↓reduceIte, f_X12_isExplained_39, ca]
theorem rsOn {N n n1 r h : Nat} {a hd : Nat → Int32} {S : Nat → Nat} (hA : TieA a S) (h6 : S 6 ≤ 8) (hr : r < S 6) : f_X12_isExplained_4 N (n1 + 1) a hd (nI n) (nI r) (nI h) = f_X12_isExplained_19 N (f_X12_isExplained_4 N n1) N a hd (nI n) (nI r) (nI h) := by
  rw [f_X12_isExplained_4]
  generalize f_X12_isExplained_4 N n1 = K
  simp (maxSteps := 1000000) (disch := omega) only [li, ob1_s, ob2_s, ob3_s, ob4_s, ob5_s, ob6_s, ob7_s, gA_n, gL_n, sA_n, sL_n, cpI_n, nI_add, pk_mul, nsub, nlt_t, nlt_f, nle_t, nle_f, neq_t, neq_f, rmI_n, dvI_n, upd_ne, upd_eq, un_ne, un_eq, Nat.add_zero, Bool.false_eq_true, ↓reduceIte, hA.2]
theorem rsOut {N n n1 h : Nat} {a hd : Nat → Int32} {S : Nat → Nat} (hA : TieA a S) (h6 : S 6 ≤ 8) : f_X12_isExplained_4 N (n1 + 1) a hd (nI n) (nI (S 6)) (nI h) = some (nI 1, hd) := by
  rw [f_X12_isExplained_4]
  generalize f_X12_isExplained_4 N n1 = K
  simp (maxSteps := 1000000) (disch := omega) only [li, ob1_s, ob2_s, ob3_s, ob4_s, ob5_s, ob6_s, ob7_s, gA_n, gL_n, sA_n, sL_n, cpI_n, nI_add, pk_mul, nsub, nlt_t, nlt_f, nle_t, nle_f, neq_t, neq_f, rmI_n, dvI_n, upd_ne, upd_eq, un_ne, un_eq, Nat.add_zero, Bool.false_eq_true, ↓reduceIte, hA.2, f_X12_isExplained_82]
/-- the search goes on from report r, head h, with k reports behind r and m heads left; b: so many turns at most -/
theorem rSearch {N n : Nat} {a : Nat → Int32} {S U : Nat → Nat} (hA : TieA a S) (h6 : S 6 ≤ 8) (h7 : S 7 ≤ 8) (h5 : ∀ k, k < S 7 → S (101 + 2 * k) < S 6 ∧ S (102 + 2 * k) < S 6 ∧ S (101 + 2 * k) ≠ S (102 + 2 * k)) (hU : ∀ i k, i < 8 → k < 8 → ((U i).testBit k = true ↔ unl2 S i k)) (hn : n ≤ 8) (hN : 100 ≤ N) (B : Nat → Nat) (hB0 : 0 < B 0) (hB : ∀ k, B (k + 1) = 12 * B k) :
    ∀ k r, r + k + 1 = S 6 → ∀ m h f n1 (c : Nat → Nat) (hd : Nat → Int32), h + m = n → m < f → (m + 1) * B k < n1 → (∀ i, i < r → hd i = nI (c i)) → (∀ i, i < r → c i < n) →
    (∀ d, fst1 (lxg U n k r c) m h = some d → ∃ hd' : Nat → Int32, f_X12_isExplained_19 N (f_X12_isExplained_4 N n1) f a hd (nI n) (nI r) (nI h) = some (nI 1, hd') ∧ ∀ i, i < S 6 → hd' i = nI (d i)) ∧
    (fst1 (lxg U n k r c) m h = none → ∃ (hd' : Nat → Int32) (n2 : Nat), n1 ≤ n2 + (m + 1) * B k ∧ (∀ i, i < r → hd' i = nI (c i)) ∧ (r = 0 → f_X12_isExplained_19 N (f_X12_isExplained_4 N n1) f a hd (nI n) (nI r) (nI h) = some (nI 0, hd')) ∧ (0 < r → f_X12_isExplained_19 N (f_X12_isExplained_4 N n1) f a hd (nI n) (nI r) (nI h) = f_X12_isExplained_4 N n2 a hd' (nI n) (nI (r - 1)) (nI (c (r - 1) + 1)))) := by
  have hBp : ∀ k, 0 < B k := by
    intro k
    induction k with
    | zero => exact hB0
    | succ k ih => rw [hB]; omega
  have up : ∀ (r h : Nat) (c : Nat → Nat) (hd : Nat → Int32), (∀ i, i < r → hd i = nI (c i)) → ∀ i, i < r + 1 → upd hd r (nI h) i = nI (un c r h i) := fun r h c hd ho i hi => by
    by_cases w : i = r
    · rw [upd_eq w, un_eq w]
    · rw [upd_ne w, un_ne w]; exact ho i (by omega)
  intro k
  induction k with
  | zero =>
    intro r hr m
    induction m with
    | zero =>
      intro h f n1 c hd e hf hb ho hc
      obtain ⟨f, rfl⟩ : ∃ m, f = m + 1 := ⟨f - 1, by omega⟩
      obtain ⟨n1, rfl⟩ : ∃ m, n1 = m + 1 := ⟨n1 - 1, by omega⟩
      have e : h = n := by omega
      subst e
      refine ⟨fun d q => (by rw [fst1_z] at q; cases q), fun _ => ⟨hd, n1 + 1, by omega, ho, fun r0 => ?_, fun r0 => ?_⟩⟩
      · subst r0
        exact rsEnd0 hn
      · exact rsEnd hn r0 (by omega) (ho (r - 1) (by omega))
    | succ m ihm =>
      intro h f n1 c hd e hf hb ho hc
      have hm2 : (m + 1 + 1) * B 0 = (m + 1) * B 0 + B 0 := Nat.succ_mul (m + 1) _
      obtain ⟨f, rfl⟩ : ∃ m, f = m + 1 := ⟨f - 1, by omega⟩
      obtain ⟨n1, rfl⟩ : ∃ m, n1 = m + 1 := ⟨n1 - 1, by omega⟩
      have ca := rCan (N := N) (r := r) (h := h) (c := c) (hd := hd) hA (by omega) h6 h7 h5 hU (by omega) ho (fun i hi => by have := hc i hi; omega) hN
      by_cases a1 : fitb U c r h = true
      · rw [if_pos a1] at ca
        have hg : lxg U n 0 r c h = some (un c r h) := by unfold lxg; rw [if_pos a1, lx_z]
        rw [fst1_s hg]
        refine ⟨fun d q => ?_, fun q => (by cases q)⟩
        cases q
        refine ⟨upd hd r (nI h), ?_, fun i hi => up r h c hd ho i (by omega)⟩
        rw [rsFit hn (by omega) (by omega) ca, show r + 1 = S 6 by omega, rsOut hA h6]
      · rw [if_neg a1] at ca
        have hg : lxg U n 0 r c h = none := by unfold lxg; rw [if_neg a1]
        rw [fst1_n hg]
        obtain ⟨g1, g2⟩ := ihm (h + 1) f (n1 + 1) c hd (by omega) (by omega) (by omega) ho hc
        rw [rsSkip hn (by omega) ca]
        refine ⟨g1, fun q => ?_⟩
        obtain ⟨hd', n2, w1, w2⟩ := g2 q
        exact ⟨hd', n2, by omega, w2⟩
  | succ k ih =>
    intro r hr m
    induction m with
    | zero =>
      intro h f n1 c hd e hf hb ho hc
      have hp := hBp (k + 1)
      obtain ⟨f, rfl⟩ : ∃ m, f = m + 1 := ⟨f - 1, by omega⟩
      obtain ⟨n1, rfl⟩ : ∃ m, n1 = m + 1 := ⟨n1 - 1, by omega⟩
      have e : h = n := by omega
      subst e
      refine ⟨fun d q => (by rw [fst1_z] at q; cases q), fun _ => ⟨hd, n1 + 1, by omega, ho, fun r0 => ?_, fun r0 => ?_⟩⟩
      · subst r0
        exact rsEnd0 hn
      · exact rsEnd hn r0 (by omega) (ho (r - 1) (by omega))
    | succ m ihm =>
      intro h f n1 c hd e hf hb ho hc
      have hp := hBp k
      have hpk := hB k
      have hm2 : (m + 1 + 1) * B (k + 1) = (m + 1) * B (k + 1) + B (k + 1) := Nat.succ_mul (m + 1) _
      have hn9 : (n + 1) * B k ≤ 9 * B k := Nat.mul_le_mul_right _ (by omega)
      obtain ⟨f, rfl⟩ : ∃ m, f = m + 1 := ⟨f - 1, by omega⟩
      obtain ⟨n1, rfl⟩ : ∃ m, n1 = m + 1 := ⟨n1 - 1, by omega⟩
      have ca := rCan (N := N) (r := r) (h := h) (c := c) (hd := hd) hA (by omega) h6 h7 h5 hU (by omega) ho (fun i hi => by have := hc i hi; omega) hN
      by_cases a1 : fitb U c r h = true
      · rw [if_pos a1] at ca
        rw [rsFit hn (by omega) (by omega) ca, rsOn hA h6 (by omega)]
        have hc' : ∀ i, i < r + 1 → un c r h i < n := fun i hi => by
          by_cases w : i = r
          · rw [un_eq w]; omega
          · rw [un_ne w]; exact hc i (by omega)
        obtain ⟨g1, g2⟩ := ih (r + 1) (by omega) n 0 N n1 (un c r h) (upd hd r (nI h)) (by omega) (by omega) (by omega) (up r h c hd ho) hc'
        cases hl : fst1 (lxg U n k (r + 1) (un c r h)) n 0 with
        | some d =>
          have hg : lxg U n (k + 1) r c h = some d := by unfold lxg; rw [if_pos a1, lx_k]; exact hl
          rw [fst1_s hg]
          refine ⟨fun d' q => ?_, fun q => (by cases q)⟩
          cases q
          exact g1 d hl
        | none =>
          have hg : lxg U n (k + 1) r c h = none := by unfold lxg; rw [if_pos a1, lx_k]; exact hl
          rw [fst1_n hg]
          obtain ⟨hd', n2, w1, w2, -, w4⟩ := g2 hl
          rw [w4 (by omega)]
          obtain ⟨n2, rfl⟩ : ∃ m, n2 = m + 1 := ⟨n2 - 1, by omega⟩
          rw [Nat.add_sub_cancel, un_eq rfl, rsOn hA h6 (by omega)]
          obtain ⟨v1, v2⟩ := ihm (h + 1) N n2 c hd' (by omega) (by omega) (by omega) (fun i hi => by rw [w2 i (by omega), un_ne (by omega)]) hc
          refine ⟨v1, fun q => ?_⟩
          obtain ⟨hd2, n3, x1, x2⟩ := v2 q
          exact ⟨hd2, n3, by omega, x2⟩
      · rw [if_neg a1] at ca
        have hg : lxg U n (k + 1) r c h = none := by unfold lxg; rw [if_neg a1]
        rw [fst1_n hg]
        obtain ⟨g1, g2⟩ := ihm (h + 1) f (n1 + 1) c hd (by omega) (by omega) (by omega) ho hc
        rw [rsSkip hn (by omega) ca]
        refine ⟨g1, fun q => ?_⟩
        obtain ⟨hd', n2, w1, w2⟩ := g2 q
        exact ⟨hd', n2, by omega, w2⟩
theorem rExpl {N n : Nat} {a hd : Nat → Int32} {S U : Nat → Nat} (hA : TieA a S) (h6 : S 6 ≤ 8) (h0 : 0 < S 6) (h7 : S 7 ≤ 8) (h5 : ∀ k, k < S 7 → S (101 + 2 * k) < S 6 ∧ S (102 + 2 * k) < S 6 ∧ S (101 + 2 * k) ≠ S (102 + 2 * k)) (hU : ∀ i k, i < 8 → k < 8 → ((U i).testBit k = true ↔ unl2 S i k)) (hn : n ≤ 8) (hN : 1000000000 ≤ N) (c : Nat → Nat) :
    ∃ hd' : Nat → Int32, f_X12_isExplained N a hd (nI n) = some (nI (if lx U n (S 6) 0 c = none then 0 else 1), hd') ∧ ∀ d, lx U n (S 6) 0 c = some d → ∀ i, i < S 6 → hd' i = nI (d i) := by
  obtain ⟨k, hk⟩ : ∃ k, S 6 = k + 1 := ⟨S 6 - 1, by omega⟩
  obtain ⟨M, hM⟩ : ∃ M, N = M + 1 := ⟨N - 1, by omega⟩
  have p7 : 12 ^ k ≤ 12 ^ 7 := Nat.pow_le_pow_right (by omega) (by omega)
  have p8 : (12 : Nat) ^ 7 = 35831808 := by decide
  have p9 : (n + 1) * 12 ^ k ≤ 9 * 12 ^ k := Nat.mul_le_mul_right _ (by omega)
  have st : f_X12_isExplained N a hd (nI n) = f_X12_isExplained_4 N (M + 1) a hd (nI n) (nI 0) (nI 0) := by rw [← hM]; rfl
  rw [rsOn hA h6 h0] at st
  obtain ⟨g1, g2⟩ := rSearch (N := N) hA h6 h7 h5 hU hn (by omega) (fun k => 12 ^ k) (by decide) (fun k => by show 12 ^ (k + 1) = 12 * 12 ^ k; rw [Nat.pow_succ, Nat.mul_comm]) k 0 (by omega) n 0 N M c hd (by omega) (by omega) (by show (n + 1) * 12 ^ k < M; omega) (fun i hi => by omega) (fun i hi => by omega)
  rw [st, hk, lx_k]
  cases hl : fst1 (lxg U n k 0 c) n 0 with
  | some d =>
    obtain ⟨hd', w1, w2⟩ := g1 d hl
    rw [if_neg (fun q => by cases q)]
    refine ⟨hd', w1, fun d' q => ?_⟩
    cases q
    rw [← hk]; exact w2
  | none =>
    obtain ⟨hd', n2, -, -, w3, -⟩ := g2 hl
    rw [if_pos rfl]
    exact ⟨hd', w3 rfl, fun d' q => (by cases q)⟩
theorem st_heads {j : Nat} {dn : Int32} {df dr row fe to : Nat → Int32} {cnt next : Int32} {store : Nat → Int32} {calls bord rep unl pay : Int32} {cl ul ga py pr : Nat → Int32} {tx rul : Int32} {a : Nat → Int32} {S : Nat → Nat} {N : Nat} {ow hd : Nat → Int32} (x : Int32) (hN : 1000000000 ≤ N) (h : RealmT j dn df dr row fe to cnt next store calls bord rep unl pay cl ul ga py pr tx rul a S) : ∃ (r : Int32) (ow' hd' : Nat → Int32), f_X11_heads N rep ul ow x = some (r, ow') ∧ f_X12_heads N a hd x = some (r, hd') := by
  obtain ⟨hA, hL, hR, hW, hF, hB, hZ, hQ, hI, hj⟩ := h
  obtain ⟨n1, n2, n3, n4, n5⟩ := hQ
  obtain ⟨c1, c2, c3, c4, c5, U, c6, c7⟩ := n3
  subst c1
  have low : ∀ x : Int32, Out x (S 6) → x ≠ -nI 1 → f_X12_isIn N x (-nI 1) (nI (S 6) - nI 1) = some (nI 0) := by
    intro x hx hx1
    rcases hx with hx | ⟨hx, hx0⟩
    · have : x < -nI 1 := by
        rw [Int32.lt_iff_toInt_lt] at hx ⊢
        have e1 : (-nI 1).toInt = -1 := by decide
        have e2 : (nI 0).toInt = 0 := by decide
        have e3 : x.toInt ≠ -1 := fun w => hx1 (Int32.toInt_inj.mp (by rw [w, e1]))
        omega
      simp only [f_X12_isIn, li, this, ↓reduceIte]
    · have g := ge_pred (show S 6 < 2147483648 by omega) hx hx0
      have : ¬ x < -nI 1 := fun w => hx0 (by
        rw [Int32.lt_iff_toInt_lt] at w ⊢
        have e1 : (-nI 1).toInt = -1 := by decide
        have e2 : (nI 0).toInt = 0 := by decide
        omega)
      simp only [f_X12_isIn, li, this, g, ↓reduceIte]
  have inn : (x = -nI 1 ∨ ∃ p, p < S 6 ∧ x = nI p) → f_X12_isIn N x (-nI 1) (nI (S 6) - nI 1) = some (nI 1) := by
    intro hx
    have a1 : ¬ x < -nI 1 := by
      rcases hx with rfl | ⟨p, hp, rfl⟩
      · decide
      · rw [Int32.lt_iff_toInt_lt, nI_toInt (by omega)]
        have e1 : (-nI 1).toInt = -1 := by decide
        omega
    have a2 : ¬ nI (S 6) - nI 1 < x := by
      rcases hx with rfl | ⟨p, hp, rfl⟩
      · rcases Nat.eq_zero_or_pos (S 6) with w | w
        · rw [w]; decide
        · rw [nsub (by omega), Int32.lt_iff_toInt_lt, nI_toInt (by omega)]
          have e1 : (-nI 1).toInt = -1 := by decide
          omega
      · rw [nsub (by omega)]
        exact nI_nlt (by omega) (by omega)
    simp only [f_X12_isIn, li, a1, a2, ↓reduceIte]
  by_cases hx1 : x = -nI 1 ∨ ∃ p, p < S 6 ∧ x = nI p
  · have ii := inn hx1
    rcases Nat.eq_zero_or_pos (S 6) with w | w
    · have hxn : x = -nI 1 := by
        rcases hx1 with q | ⟨p, hp, -⟩
        · exact q
        · omega
      subst hxn
      obtain ⟨M, hM⟩ : ∃ M, N = M + 1 := ⟨N - 1, by omega⟩
      obtain ⟨ow', p1, p2, p3⟩ := cPaint (N := N) (R := S 6) (n := 0) c6 c2 (by omega) (by omega) (S 6) 0 12 (fun _ => 0) ow 0 (by omega) (by omega) (fun i hi => by omega) (fun i hi => by omega) (by omega)
      rw [w, lx_z, if_neg (fun q => by cases q)] at p1
      refine ⟨nI 0, ow', hd, ?_, ?_⟩
      · have st : f_X4_paintFewest N (nI 0) ul ow = some (nI 0, ow') := by
          have e1 : f_X4_paintFewest N (nI 0) ul ow = f_X4_paintFewest_2 N (M + 1) (nI 0) ul ow (nI 0) := by rw [← hM]; rfl
          rw [e1, f_X4_paintFewest_2]
          simp (maxSteps := 1000000) (disch := omega) only [li, ob1_s, ob2_s, ob3_s, ob4_s, ob5_s, ob6_s, ob7_s, gA_n, gL_n, sA_n, sL_n, cpI_n, nI_add, pk_mul, nsub, nlt_t, nlt_f, nle_t, nle_f, neq_t, neq_f, rmI_n, dvI_n, upd_ne, upd_eq, un_ne, un_eq, Nat.add_zero, Bool.false_eq_true, ↓reduceIte, f_X4_paint, p1]
        rw [w]
        simp (maxSteps := 1000000) (disch := omega) only [li, ob1_s, ob2_s, ob3_s, ob4_s, ob5_s, ob6_s, ob7_s, gA_n, gL_n, sA_n, sL_n, cpI_n, nI_add, pk_mul, nsub, nlt_t, nlt_f, nle_t, nle_f, neq_t, neq_f, rmI_n, dvI_n, upd_ne, upd_eq, un_ne, un_eq, Nat.add_zero, Bool.false_eq_true, ↓reduceIte, f_X11_heads, f_X11_heads_19, st]
      · have st : f_X12_heads_36 N N a hd (-nI 1) (nI 0) = some (nI 0, hd) := by
          have e1 : f_X12_heads_36 N N a hd (-nI 1) (nI 0) = f_X12_heads_36 N (M + 1) a hd (-nI 1) (nI 0) := by rw [← hM]
          rw [e1, f_X12_heads_36]
          simp (maxSteps := 1000000) (disch := omega) only [li, ob1_s, ob2_s, ob3_s, ob4_s, ob5_s, ob6_s, ob7_s, gA_n, gL_n, sA_n, sL_n, cpI_n, nI_add, pk_mul, nsub, nlt_t, nlt_f, nle_t, nle_f, neq_t, neq_f, rmI_n, dvI_n, upd_ne, upd_eq, un_ne, un_eq, Nat.add_zero, Bool.false_eq_true, ↓reduceIte, f_X12_heads_54]
        rw [w] at ii
        have z10 : (nI 1 = nI 0) = False := eq_false (by decide)
        simp (disch := omega) only [f_X12_heads, li, gA_n, hA.2, w, ii, ob1_s, z10, ↓reduceIte, f_X12_heads_35, st]
    · -- both loops
      have ex : ∃ n, n ≤ S 6 ∧ lx U n (S 6) 0 (fun _ => 0) ≠ none := ⟨S 6, Nat.le_refl _, lx_full (Nat.le_refl _)⟩
      have l0 : lx U 0 (S 6) 0 (fun _ => 0) = none := by
        obtain ⟨k, hk⟩ : ∃ k, S 6 = k + 1 := ⟨S 6 - 1, by omega⟩
        rw [hk]; rfl
      have cl : ∀ k n f (ow : Nat → Int32), n + k = S 6 → k + 1 < f → (∀ t, t < n → lx U t (S 6) 0 (fun _ => 0) = none) → ∃ (b : Nat) (d : Nat → Nat) (ow' : Nat → Int32), f_X4_paintFewest_2 N f (nI (S 6)) ul ow (nI n) = some (nI b, ow') ∧ b ≤ S 6 ∧ lx U b (S 6) 0 (fun _ => 0) = some d ∧ (∀ t, t < b → lx U t (S 6) 0 (fun _ => 0) = none) ∧ ∀ i, i < S 6 → ow' i = nI (d i) := by
        intro k
        induction k with
        | zero =>
          intro n f ow e hf hi
          obtain ⟨f, rfl⟩ : ∃ m, f = m + 1 := ⟨f - 1, by omega⟩
          obtain ⟨ow', p1, p2, p3⟩ := cPaint (N := N) (R := S 6) (n := n) c6 c2 (by omega) (by omega) (S 6) 0 12 (fun _ => 0) ow 0 (by omega) (by omega) (fun i hi => by omega) (fun i hi => by omega) (by omega)
          cases hl : lx U n (S 6) 0 (fun _ => 0) with
          | none => exact absurd hl (lx_full (by omega))
          | some d =>
            rw [hl, if_neg (fun q => by cases q)] at p1
            refine ⟨n, d, ow', ?_, by omega, hl, hi, p2 d hl⟩
            simp (maxSteps := 1000000) (disch := omega) only [li, ob1_s, ob2_s, ob3_s, ob4_s, ob5_s, ob6_s, ob7_s, gA_n, gL_n, sA_n, sL_n, cpI_n, nI_add, pk_mul, nsub, nlt_t, nlt_f, nle_t, nle_f, neq_t, neq_f, rmI_n, dvI_n, upd_ne, upd_eq, un_ne, un_eq, Nat.add_zero, Bool.false_eq_true, ↓reduceIte, f_X4_paintFewest_2.eq_2, f_X4_paint, p1]
        | succ k ih =>
          intro n f ow e hf hi
          obtain ⟨f, rfl⟩ : ∃ m, f = m + 1 := ⟨f - 1, by omega⟩
          obtain ⟨ow', p1, p2, p3⟩ := cPaint (N := N) (R := S 6) (n := n) c6 c2 (by omega) (by omega) (S 6) 0 12 (fun _ => 0) ow 0 (by omega) (by omega) (fun i hi => by omega) (fun i hi => by omega) (by omega)
          cases hl : lx U n (S 6) 0 (fun _ => 0) with
          | none =>
            rw [if_pos hl] at p1
            obtain ⟨b, d, ow2, q1, q2⟩ := ih (n + 1) f ow' (by omega) (by omega) (fun t ht => by
              by_cases g : t = n
              · subst g; exact hl
              · exact hi t (by omega))
            refine ⟨b, d, ow2, ?_, q2⟩
            simp (maxSteps := 1000000) (disch := omega) only [li, ob1_s, ob2_s, ob3_s, ob4_s, ob5_s, ob6_s, ob7_s, gA_n, gL_n, sA_n, sL_n, cpI_n, nI_add, pk_mul, nsub, nlt_t, nlt_f, nle_t, nle_f, neq_t, neq_f, rmI_n, dvI_n, upd_ne, upd_eq, un_ne, un_eq, Nat.add_zero, Bool.false_eq_true, ↓reduceIte, f_X4_paintFewest_2.eq_2, f_X4_paint, p1]
            exact q1
          | some d =>
            rw [hl, if_neg (fun q => by cases q)] at p1
            refine ⟨n, d, ow', ?_, by omega, hl, hi, p2 d hl⟩
            simp (maxSteps := 1000000) (disch := omega) only [li, ob1_s, ob2_s, ob3_s, ob4_s, ob5_s, ob6_s, ob7_s, gA_n, gL_n, sA_n, sL_n, cpI_n, nI_add, pk_mul, nsub, nlt_t, nlt_f, nle_t, nle_f, neq_t, neq_f, rmI_n, dvI_n, upd_ne, upd_eq, un_ne, un_eq, Nat.add_zero, Bool.false_eq_true, ↓reduceIte, f_X4_paintFewest_2.eq_2, f_X4_paint, p1]
      have rl : ∀ k n f (hd : Nat → Int32), n + k = S 6 → 0 < n → k + 1 < f → (∀ t, t < n → lx U t (S 6) 0 (fun _ => 0) = none) → ∃ (b : Nat) (d : Nat → Nat) (hd' : Nat → Int32), f_X12_heads_36 N f a hd x (nI n) = f_X12_heads_54 N a hd' x (nI b) ∧ b ≤ S 6 ∧ lx U b (S 6) 0 (fun _ => 0) = some d ∧ (∀ t, t < b → lx U t (S 6) 0 (fun _ => 0) = none) ∧ ∀ i, i < S 6 → hd' i = nI (d i) := by
        intro k
        induction k with
        | zero =>
          intro n f hd e hn0 hf hi
          obtain ⟨f, rfl⟩ : ∃ m, f = m + 1 := ⟨f - 1, by omega⟩
          obtain ⟨hd', p1, p2⟩ := rExpl (N := N) (n := n) (hd := hd) hA c2 w c4 c5 c7 (by omega) hN (fun _ => 0)
          cases hl : lx U n (S 6) 0 (fun _ => 0) with
          | none => exact absurd hl (lx_full (by omega))
          | some d =>
            rw [hl, if_neg (fun q => by cases q)] at p1
            refine ⟨n, d, hd', ?_, by omega, hl, hi, p2 d hl⟩
            simp (maxSteps := 1000000) (disch := omega) only [li, ob1_s, ob2_s, ob3_s, ob4_s, ob5_s, ob6_s, ob7_s, gA_n, gL_n, sA_n, sL_n, cpI_n, nI_add, pk_mul, nsub, nlt_t, nlt_f, nle_t, nle_f, neq_t, neq_f, rmI_n, dvI_n, upd_ne, upd_eq, un_ne, un_eq, Nat.add_zero, Bool.false_eq_true, ↓reduceIte, f_X12_heads_36.eq_2, p1]
        | succ k ih =>
          intro n f hd e hn0 hf hi
          obtain ⟨f, rfl⟩ : ∃ m, f = m + 1 := ⟨f - 1, by omega⟩
          obtain ⟨hd', p1, p2⟩ := rExpl (N := N) (n := n) (hd := hd) hA c2 w c4 c5 c7 (by omega) hN (fun _ => 0)
          cases hl : lx U n (S 6) 0 (fun _ => 0) with
          | none =>
            rw [if_pos hl] at p1
            obtain ⟨b, d, hd2, q1, q2⟩ := ih (n + 1) f hd' (by omega) (by omega) (by omega) (fun t ht => by
              by_cases g : t = n
              · subst g; exact hl
              · exact hi t (by omega))
            refine ⟨b, d, hd2, ?_, q2⟩
            simp (maxSteps := 1000000) (disch := omega) only [li, ob1_s, ob2_s, ob3_s, ob4_s, ob5_s, ob6_s, ob7_s, gA_n, gL_n, sA_n, sL_n, cpI_n, nI_add, pk_mul, nsub, nlt_t, nlt_f, nle_t, nle_f, neq_t, neq_f, rmI_n, dvI_n, upd_ne, upd_eq, un_ne, un_eq, Nat.add_zero, Bool.false_eq_true, ↓reduceIte, f_X12_heads_36.eq_2, p1]
            exact q1
          | some d =>
            rw [hl, if_neg (fun q => by cases q)] at p1
            refine ⟨n, d, hd', ?_, by omega, hl, hi, p2 d hl⟩
            simp (maxSteps := 1000000) (disch := omega) only [li, ob1_s, ob2_s, ob3_s, ob4_s, ob5_s, ob6_s, ob7_s, gA_n, gL_n, sA_n, sL_n, cpI_n, nI_add, pk_mul, nsub, nlt_t, nlt_f, nle_t, nle_f, neq_t, neq_f, rmI_n, dvI_n, upd_ne, upd_eq, un_ne, un_eq, Nat.add_zero, Bool.false_eq_true, ↓reduceIte, f_X12_heads_36.eq_2, p1]
      obtain ⟨b, d, ow', p1, p2, p3, p4, p5⟩ := cl (S 6) 0 N ow (by omega) (by omega) (fun t ht => by omega)
      obtain ⟨b2, d2, hd', q1, q2, q3, q4, q5⟩ := rl (S 6 - 1) 1 N hd (by omega) (by omega) (by omega) (fun t ht => by
        have : t = 0 := by omega
        subst this; exact l0)
      have eb : b = b2 := by
        rcases Nat.lt_trichotomy b b2 with g | g | g
        · have := q4 b g; rw [p3] at this; cases this
        · exact g
        · have := p4 b2 g; rw [q3] at this; cases this
      subst eb
      rw [p3] at q3
      cases q3
      have fi : f_X12_heads N a hd x = f_X12_heads_36 N N a hd x (nI 1) := by
        simp (disch := omega) only [f_X12_heads, li, gA_n, hA.2, ii, ob1_s, neq_f, ↓reduceIte, f_X12_heads_35]
      rcases hx1 with rfl | ⟨p, hp, rfl⟩
      · refine ⟨nI b, ow', hd', ?_, ?_⟩
        · simp only [f_X11_heads, f_X11_heads_19, li, f_X4_paintFewest, p1, ob2_s, ↓reduceIte]
        · rw [fi, q1]
          simp only [f_X12_heads_54, li, ↓reduceIte]
      · refine ⟨nI (d p), ow', hd', ?_, ?_⟩
        · have e1 : ¬ nI p = -nI 1 := m1_ne (by omega)
          simp (maxSteps := 1000000) (disch := omega) only [li, ob1_s, ob2_s, ob3_s, ob4_s, ob5_s, ob6_s, ob7_s, gA_n, gL_n, sA_n, sL_n, cpI_n, nI_add, pk_mul, nsub, nlt_t, nlt_f, nle_t, nle_f, neq_t, neq_f, rmI_n, dvI_n, upd_ne, upd_eq, un_ne, un_eq, Nat.add_zero, Bool.false_eq_true, ↓reduceIte, f_X11_heads, f_X11_heads_19, f_X4_paintFewest, p1, e1, cRep_in, f_X4_headOf, p5 p hp]
        · rw [fi, q1]
          have e1 : ¬ nI p = -nI 1 := m1_ne (by omega)
          simp (maxSteps := 1000000) (disch := omega) only [li, ob1_s, ob2_s, ob3_s, ob4_s, ob5_s, ob6_s, ob7_s, gA_n, gL_n, sA_n, sL_n, cpI_n, nI_add, pk_mul, nsub, nlt_t, nlt_f, nle_t, nle_f, neq_t, neq_f, rmI_n, dvI_n, upd_ne, upd_eq, un_ne, un_eq, Nat.add_zero, Bool.false_eq_true, ↓reduceIte, f_X12_heads_54, e1, q5 p hp]
  · have hxn : x ≠ -nI 1 := fun q => hx1 (Or.inl q)
    have hxo : Out x (S 6) := by
      rcases inOut x (S 6) (by omega) with q | ⟨p, hp, q⟩
      · exact q
      · exact absurd (Or.inr ⟨p, hp, q⟩) hx1
    refine ⟨-nI 2, ow, hd, ?_, ?_⟩
    · simp only [f_X11_heads, li, hxn, cRep_out c2 hxo, ob1_s, ↓reduceIte]
    · simp (disch := omega) only [f_X12_heads, li, gA_n, hA.2, low x hxo hxn, ob1_s, ↓reduceIte]
