/-- the tape: L bytes T, signed on one side -/
def TapeT (bl : Int32) (by_ tp : Nat → Int32) (td : Int32) (L : Nat) (T : Nat → Nat) : Prop := L ≤ 300 ∧ bl = nI L ∧ td = nI L ∧ ∀ i, i < L → T i < 256 ∧ tp i = nI (T i) ∧ by_ i = (nI (T i)).toInt8.toInt32
theorem st_end {N : Nat} {bl td : Int32} {by_ tp : Nat → Int32} {L : Nat} {T : Nat → Nat} (x : Int32) (h : TapeT bl by_ tp td L T) : ∃ (r bl' td' : Int32) (L' : Nat), f_X11_end N bl x = some (r, bl') ∧ f_X12_end N td x = some (r, td') ∧ TapeT bl' by_ tp td' L' T := by
  obtain ⟨h1, h2, h3, h4⟩ := id h
  subst h2
  subst h3
  rcases inOut x (L + 1) (by omega) with hx | ⟨k, hk, rfl⟩
  · refine ⟨-1, nI L, nI L, L, ?_, ?_, h⟩
    · rcases hx with g | ⟨g, g0⟩
      · simp only [f_X11_end, li, g, ↓reduceIte]
      · simp only [f_X11_end, li, g0, ge_nle (n := L + 1) (m := L) (by omega) (by omega) g, ↓reduceIte]
    · simp only [f_X12_end, li, isIn_outT (m := L) hx (by omega) rfl, ob1_s, ↓reduceIte]
  · refine ⟨nI k, nI k, nI k, k, ?_, ?_, by omega, rfl, rfl, fun i hi => h4 i (by omega)⟩
    · simp (maxSteps := 1000000) (disch := omega) only [li, ob1_s, ob2_s, ob3_s, ob4_s, ob5_s, ob6_s, ob7_s, gA_n, gL_n, sA_n, sL_n, cpI_n, nI_add, pk_mul, nsub, nlt_t, nlt_f, nle_t, nle_f, neq_t, neq_f, rmI_n, dvI_n, upd_ne, upd_eq, un_ne, un_eq, Nat.add_zero, Bool.false_eq_true, ↓reduceIte, f_X11_end]
    · simp (maxSteps := 1000000) (disch := omega) only [li, ob1_s, ob2_s, ob3_s, ob4_s, ob5_s, ob6_s, ob7_s, gA_n, gL_n, sA_n, sL_n, cpI_n, nI_add, pk_mul, nsub, nlt_t, nlt_f, nle_t, nle_f, neq_t, neq_f, rmI_n, dvI_n, upd_ne, upd_eq, un_ne, un_eq, Nat.add_zero, Bool.false_eq_true, ↓reduceIte, f_X12_end, isIn_in]
theorem take4 {N : Nat} {by_ tp : Nat → Int32} {L : Nat} {T : Nat → Nat} (hN : 100 ≤ N) (x : Int32) (h : TapeT (nI L) by_ tp (nI L) L T) (h4 : L + 4 ≤ 300) : ∃ (by' tp' : Nat → Int32) (T' : Nat → Nat), f_X8_take N (nI L) by_ x = some (nI (L + 4), by') ∧ f_X12_four N tp (nI L) x = some (tp', nI (L + 4)) ∧ TapeT (nI (L + 4)) by' tp' (nI (L + 4)) (L + 4) T' := by
  obtain ⟨n, hn⟩ : ∃ n, N = n + 5 := ⟨N - 5, by omega⟩
  have step : ∀ (by_ tp : Nat → Int32) (L k : Nat) (T : Nat → Nat) m, TapeT (nI L) by_ tp (nI L) L T → L < 300 → k ≤ 24 → ∃ (by' tp' : Nat → Int32) (T' : Nat → Nat), f_X8_take_3 N (m + 1) (nI L) by_ x (nI k) = f_X8_take_3 N m (nI (L + 1)) by' x (nI k + (-8 : Int32)) ∧ f_X12_four_3 N (m + 1) tp (nI L) x (nI k) = f_X12_four_3 N m tp' (nI (L + 1)) x (nI k + (-8 : Int32)) ∧ TapeT (nI (L + 1)) by' tp' (nI (L + 1)) (L + 1) T' := by
    intro by_ tp L k T m h hL hk
    obtain ⟨c, hc, e1, e2⟩ := byte_of x hk
    refine ⟨upd by_ L (nI c).toInt8.toInt32, upd tp L (nI c), un T L c, ?_, ?_, by omega, rfl, rfl, fun i hi => ?_⟩
    · simp (maxSteps := 1000000) (disch := omega) only [li, ob1_s, ob2_s, ob3_s, ob4_s, ob5_s, ob6_s, ob7_s, gA_n, gL_n, sA_n, sL_n, cpI_n, nI_add, pk_mul, nsub, nlt_t, nlt_f, nle_t, nle_f, neq_t, neq_f, rmI_n, dvI_n, upd_ne, upd_eq, un_ne, un_eq, Nat.add_zero, Bool.false_eq_true, ↓reduceIte, f_X8_take_3, f_X8_take_47, e2]
    · simp (maxSteps := 1000000) (disch := omega) only [li, ob1_s, ob2_s, ob3_s, ob4_s, ob5_s, ob6_s, ob7_s, gA_n, gL_n, sA_n, sL_n, cpI_n, nI_add, pk_mul, nsub, nlt_t, nlt_f, nle_t, nle_f, neq_t, neq_f, rmI_n, dvI_n, upd_ne, upd_eq, un_ne, un_eq, Nat.add_zero, Bool.false_eq_true, ↓reduceIte, f_X12_four_3, e1]
    · by_cases e : i = L
      · rw [un_eq e, upd_eq e, upd_eq e]
        exact ⟨hc, rfl, rfl⟩
      · rw [un_ne e, upd_ne e, upd_ne e]
        exact h.2.2.2 i (by omega)
  have k1 : nI 24 + (-8 : Int32) = nI 16 := by decide
  have k2 : nI 16 + (-8 : Int32) = nI 8 := by decide
  have k3 : nI 8 + (-8 : Int32) = nI 0 := by decide
  have k4 : (nI 0 + (-8 : Int32)) < 0 := by decide
  obtain ⟨b1, t1, T1, g1, g1', h1⟩ := step by_ tp L 24 T (n + 4) h (by omega) (by omega)
  rw [k1] at g1 g1'
  obtain ⟨b2, t2, T2, g2, g2', h2⟩ := step b1 t1 (L + 1) 16 T1 (n + 3) h1 (by omega) (by omega)
  rw [k2] at g2 g2'
  obtain ⟨b3, t3, T3, g3, g3', h3⟩ := step b2 t2 (L + 2) 8 T2 (n + 2) h2 (by omega) (by omega)
  rw [k3] at g3 g3'
  obtain ⟨b4, t4, T4, g5, g5', h5⟩ := step b3 t3 (L + 3) 0 T3 (n + 1) h3 (by omega) (by omega)
  refine ⟨b4, t4, T4, ?_, ?_, h5⟩
  · have e : f_X8_take N (nI L) by_ x = f_X8_take_3 N (n + 4 + 1) (nI L) by_ x (nI 24) := by rw [show n + 4 + 1 = N by omega]; rfl
    rw [e, g1, g2, g3, g5, f_X8_take_3, if_pos k4]
  · have e : f_X12_four N tp (nI L) x = f_X12_four_3 N (n + 4 + 1) tp (nI L) x (nI 24) := by rw [show n + 4 + 1 = N by omega]; rfl
    rw [e, g1', g2', g3', g5', f_X12_four_3, if_pos k4]
theorem st_feed {N : Nat} {bl td : Int32} {by_ tp : Nat → Int32} {L : Nat} {T : Nat → Nat} (hN : 100 ≤ N) (x1 x2 x3 x4 x5 : Int32) (h : TapeT bl by_ tp td L T) : ∃ (r bl' td' : Int32) (by' tp' : Nat → Int32) (L' : Nat) (T' : Nat → Nat), f_X11_feed N bl by_ x1 x2 x3 x4 x5 = some (r, bl', by') ∧ f_X12_feed N tp td x1 x2 x3 x4 x5 = some (r, tp', td') ∧ TapeT bl' by' tp' td' L' T' := by
  obtain ⟨h1, h2, h3, h4⟩ := id h
  subst h2
  subst h3
  by_cases hl : L + 20 ≤ 300
  · obtain ⟨b1, t1, T1, g1, g1', h1⟩ := take4 hN x1 h (by omega)
    obtain ⟨b2, t2, T2, g2, g2', h2⟩ := take4 hN x2 h1 (by omega)
    obtain ⟨b3, t3, T3, g3, g3', h3⟩ := take4 hN x3 h2 (by omega)
    obtain ⟨b4, t4, T4, g4, g4', h4⟩ := take4 hN x4 h3 (by omega)
    obtain ⟨b5, t5, T5, g5, g5', h5⟩ := take4 hN x5 h4 (by omega)
    refine ⟨nI (L + 4 + 4 + 4 + 4 + 4), _, _, b5, t5, _, T5, ?_, ?_, h5⟩
    · simp (maxSteps := 1000000) (disch := omega) only [li, ob1_s, ob2_s, ob3_s, ob4_s, ob5_s, ob6_s, ob7_s, gA_n, gL_n, sA_n, sL_n, cpI_n, nI_add, pk_mul, nsub, nlt_t, nlt_f, nle_t, nle_f, neq_t, neq_f, rmI_n, dvI_n, upd_ne, upd_eq, un_ne, un_eq, Nat.add_zero, Bool.false_eq_true, ↓reduceIte, f_X11_feed, f_X8_hasRoom, g1, g2, g3, g4, g5]
    · simp (maxSteps := 1000000) (disch := omega) only [li, ob1_s, ob2_s, ob3_s, ob4_s, ob5_s, ob6_s, ob7_s, gA_n, gL_n, sA_n, sL_n, cpI_n, nI_add, pk_mul, nsub, nlt_t, nlt_f, nle_t, nle_f, neq_t, neq_f, rmI_n, dvI_n, upd_ne, upd_eq, un_ne, un_eq, Nat.add_zero, Bool.false_eq_true, ↓reduceIte, f_X12_feed, g1', g2', g3', g4', g5']
  · refine ⟨-nI 1, nI L, nI L, by_, tp, L, T, ?_, ?_, h⟩
    · simp (maxSteps := 1000000) (disch := omega) only [li, ob1_s, ob2_s, ob3_s, ob4_s, ob5_s, ob6_s, ob7_s, gA_n, gL_n, sA_n, sL_n, cpI_n, nI_add, pk_mul, nsub, nlt_t, nlt_f, nle_t, nle_f, neq_t, neq_f, rmI_n, dvI_n, upd_ne, upd_eq, un_ne, un_eq, Nat.add_zero, Bool.false_eq_true, ↓reduceIte, f_X11_feed, f_X8_hasRoom]
    · simp (maxSteps := 1000000) (disch := omega) only [li, ob1_s, ob2_s, ob3_s, ob4_s, ob5_s, ob6_s, ob7_s, gA_n, gL_n, sA_n, sL_n, cpI_n, nI_add, pk_mul, nsub, nlt_t, nlt_f, nle_t, nle_f, neq_t, neq_f, rmI_n, dvI_n, upd_ne, upd_eq, un_ne, un_eq, Nat.add_zero, Bool.false_eq_true, ↓reduceIte, f_X12_feed]
/-- the reference's whole row copied -/
theorem rCopy {N : Nat} {fr to : Nat → Int32} {S : Nat → Nat} (hN : 10000 ≤ N) (h : TieA fr S) : ∃ to', f_X12_copy N fr to = some to' ∧ TieA to' S := by
  have key : ∀ k n i (to : Nat → Int32), i + k = 8762 → k < n → (∀ q, q < i → to q = fr q) → ∃ to', f_X12_copy_2 N n fr to (nI i) = some to' ∧ ∀ q, q < 8762 → to' q = fr q := by
    intro k
    induction k with
    | zero =>
      intro n i to e hn hz
      obtain ⟨n, rfl⟩ : ∃ m, n = m + 1 := ⟨n - 1, by omega⟩
      have e : i = 8762 := by omega
      subst e
      exact ⟨to, by simp (maxSteps := 1000000) (disch := omega) only [li, ob1_s, ob2_s, ob3_s, ob4_s, ob5_s, ob6_s, ob7_s, gA_n, gL_n, sA_n, sL_n, cpI_n, nI_add, pk_mul, nsub, nlt_t, nlt_f, nle_t, nle_f, neq_t, neq_f, rmI_n, dvI_n, upd_ne, upd_eq, un_ne, un_eq, Nat.add_zero, Bool.false_eq_true, ↓reduceIte, f_X12_copy_2], hz⟩
    | succ k ih =>
      intro n i to e hn hz
      obtain ⟨n, rfl⟩ : ∃ m, n = m + 1 := ⟨n - 1, by omega⟩
      obtain ⟨to', g1, g2⟩ := ih n (i + 1) (upd to i (fr i)) (by omega) (by omega) (fun t ht => by
        by_cases e2 : t = i
        · rw [upd_eq e2, e2]
        · rw [upd_ne e2]; exact hz t (by omega))
      refine ⟨to', ?_, g2⟩
      simp (maxSteps := 1000000) (disch := omega) only [li, ob1_s, ob2_s, ob3_s, ob4_s, ob5_s, ob6_s, ob7_s, gA_n, gL_n, sA_n, sL_n, cpI_n, nI_add, pk_mul, nsub, nlt_t, nlt_f, nle_t, nle_f, neq_t, neq_f, rmI_n, dvI_n, upd_ne, upd_eq, un_ne, un_eq, Nat.add_zero, Bool.false_eq_true, ↓reduceIte, f_X12_copy_2]
      exact g1
  obtain ⟨to', g1, g2⟩ := key 8762 N 0 to (by omega) (by omega) (fun t ht => by omega)
  refine ⟨to', g1, ?_, fun i hi h3 => ?_⟩
  · rw [g2 3 (by omega)]; exact h.1
  · rw [g2 i hi]; exact h.2 i hi h3
