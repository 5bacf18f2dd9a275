/-! the risks of a month, laid on both sides; the rows of the best -/
theorem jLay {N p : Nat} {tcl : Int32} {tcd tst ten trw : Nat → Int32} {ucl : Int32} {ucd ust uen urw : Nat → Int32} {wcl : Int32} {wcd wst wen wrw : Nat → Int32} {xcl : Int32} {xcd xst xen xrw : Nat → Int32} {vt : Nat → Int32} {up low : Int32} {way row fe df dr a : Nat → Int32} {dn tx rul x4 : Int32} {S : Nat → Nat} (hN : 10000 ≤ N) (hE : LE N tcl tcd tst ten trw ucl ucd ust uen urw wcl wcd wst wen wrw xcl xcd xst xen xrw vt tx rul dn df dr fe S) (hL : LandT dn df dr S) (hR : RowC row S) (hA : TieA a S) (hW : FolkX S) (hp : p < S 1) :
    ∀ r n t (liv best safe likely nm0 stack nd0 truth : Nat → Int32) (values : Nat → Int64) (L0 : Nat → Nat), t + r = S 0 → r < n → (∀ u, u < t → liv u = nI (L0 u) ∧ safe u = nI (L0 u) ∧ L0 u ≤ 10 ∧ best u = nI 1 ∧ likely u = nI 1) →
    ∃ (liv' best' safe' likely' nm' stack' nd' truth' : Nat → Int32) (values' : Nat → Int64) (L : Nat → Nat),
      f_X10_seekSurest_9 N n up low liv best way row fe dn df dr tcd tst ten ucd ust uen wcd wst wen xcd xst xen tx rul nm0 stack (nI p) x4 (nI t) = f_X10_seekSurest_66 N up low liv' best' way row fe dn df dr tcd tst ten ucd ust uen wcd wst wen xcd xst xen tx rul nm' stack' (nI p) x4 ∧
      f_X12_layLikely_2 N n a vt nd0 values truth likely safe (nI p) x4 (nI t) = f_X12_layLikely_42 N N a vt nd' values' truth' likely' safe' x4 (nI 1) ∧
      ∀ u, u < S 0 → liv' u = nI (L u) ∧ safe' u = nI (L u) ∧ L u ≤ 10 ∧ best' u = nI 1 ∧ likely' u = nI 1 := by
  obtain ⟨e1, h8, -⟩ := id hL
  subst e1
  intro r
  induction r with
  | zero =>
    intro n t liv best safe likely nm0 stack nd0 truth values L0 e hn hi
    obtain ⟨n, rfl⟩ : ∃ m, n = m + 1 := ⟨n - 1, by omega⟩
    have e : t = S 0 := by omega
    subst e
    exact ⟨liv, best, safe, likely, nm0, stack, nd0, truth, values, L0, by rw [f_X10_seekSurest_9]; simp (maxSteps := 1000000) (disch := omega) only [li, ob1_s, ob2_s, ob3_s, ob4_s, ob5_s, ob6_s, ob7_s, gA_n, gL_n, sA_n, sL_n, cpI_n, nI_add, pk_mul, nsub, nlt_t, nlt_f, nle_t, nle_f, neq_t, neq_f, rmI_n, dvI_n, upd_ne, upd_eq, un_ne, un_eq, Nat.add_zero, Bool.false_eq_true, ↓reduceIte], by rw [f_X12_layLikely_2]; simp (maxSteps := 1000000) (disch := omega) only [li, ob1_s, ob2_s, ob3_s, ob4_s, ob5_s, ob6_s, ob7_s, gA_n, gL_n, sA_n, sL_n, cpI_n, nI_add, pk_mul, nsub, nlt_t, nlt_f, nle_t, nle_f, neq_t, neq_f, rmI_n, dvI_n, upd_ne, upd_eq, un_ne, un_eq, Nat.add_zero, Bool.false_eq_true, ↓reduceIte, hA.2], hi⟩
  | succ r ih =>
    intro n t liv best safe likely nm0 stack nd0 truth values L0 e hn hi
    obtain ⟨n, rfl⟩ : ∃ m, n = m + 1 := ⟨n - 1, by omega⟩
    obtain ⟨v, nm1, stack1, nd1, values1, truth1, g1, g2, g3⟩ := dFin (nm0 := nm0) (nd0 := nd0) (stack := stack) (truth := truth) (values := values) hN hE hR hA hW hp (show t < S 0 by omega)
    obtain ⟨liv', best', safe', likely', nm', stack', nd', truth', values', L, q1, q2, q3⟩ := ih n (t + 1) (upd liv t (nI (10 - v))) (upd best t (nI 1)) (upd safe t (nI (10 - v))) (upd likely t (nI 1)) nm1 stack1 nd1 truth1 values1 (fun u => if u = t then 10 - v else L0 u) (by omega) (by omega) (fun u hu => by
      by_cases e2 : u = t
      · subst e2
        simp only [upd_eq, ↓reduceIte, true_and, and_true]
        omega
      · simp only [upd_ne e2, e2, ↓reduceIte]
        exact hi u (by omega))
    refine ⟨liv', best', safe', likely', nm', stack', nd', truth', values', L, ?_, ?_, q3⟩
    · rw [f_X10_seekSurest_9]
      simp (maxSteps := 1000000) (disch := omega) only [li, ob1_s, ob2_s, ob3_s, ob4_s, ob5_s, ob6_s, ob7_s, gA_n, gL_n, sA_n, sL_n, cpI_n, nI_add, pk_mul, nsub, nlt_t, nlt_f, nle_t, nle_f, neq_t, neq_f, rmI_n, dvI_n, upd_ne, upd_eq, un_ne, un_eq, Nat.add_zero, Bool.false_eq_true, ↓reduceIte, g2]
      exact q1
    · rw [f_X12_layLikely_2]
      simp (maxSteps := 1000000) (disch := omega) only [li, ob1_s, ob2_s, ob3_s, ob4_s, ob5_s, ob6_s, ob7_s, gA_n, gL_n, sA_n, sL_n, cpI_n, nI_add, pk_mul, nsub, nlt_t, nlt_f, nle_t, nle_f, neq_t, neq_f, rmI_n, dvI_n, upd_ne, upd_eq, un_ne, un_eq, Nat.add_zero, Bool.false_eq_true, ↓reduceIte, hA.2, g3]
      exact q2
theorem cRows {N n p : Nat} {tcd tst ten ucd ust uen wcd wst wen xcd xst xen : Nat → Int32} {up : Int32} {liv way row fe df dr nm stack : Nat → Int32} {dn tx rul : Int32} {S L : Nat → Nat} (hN : 100 ≤ N) (hL : LandT dn df dr S) (hn6 : n ≤ 6) (h1 : ∀ t, t < S 0 → liv t = nI (L t) ∧ L t ≤ 10) :
    ∀ r f m (best : Nat → Int32), m + r = n → r < f → (∀ u t, u ≤ m → t < S 0 → best (8 * u + t) = nI (Wm S L u t)) →
    ∃ best' : Nat → Int32, f_X10_seekSurest_74 N f up (nI (10 ^ m)) liv best way row fe dn df dr tcd tst ten ucd ust uen wcd wst wen xcd xst xen tx rul nm stack (nI p) (nI n) (nI (m + 1)) = f_X10_seekSurest_154 N up (nI (10 ^ n)) liv best' way row fe dn df dr tcd tst ten ucd ust uen wcd wst wen xcd xst xen tx rul nm stack (nI p) (nI n) ∧
      ∀ u t, u ≤ n → t < S 0 → best' (8 * u + t) = nI (Wm S L u t) := by
  obtain ⟨e1, h8, -⟩ := id hL
  subst e1
  intro r
  induction r with
  | zero =>
    intro f m best e hf hb
    obtain ⟨f, rfl⟩ : ∃ m, f = m + 1 := ⟨f - 1, by omega⟩
    have e : m = n := by omega
    subst e
    exact ⟨best, by rw [f_X10_seekSurest_74]; simp (maxSteps := 1000000) (disch := omega) only [li, ob1_s, ob2_s, ob3_s, ob4_s, ob5_s, ob6_s, ob7_s, gA_n, gL_n, sA_n, sL_n, cpI_n, nI_add, pk_mul, nsub, nlt_t, nlt_f, nle_t, nle_f, neq_t, neq_f, rmI_n, dvI_n, upd_ne, upd_eq, un_ne, un_eq, Nat.add_zero, Bool.false_eq_true, ↓reduceIte], hb⟩
  | succ r ih =>
    intro f m best e hf hb
    obtain ⟨f, rfl⟩ : ∃ m, f = m + 1 := ⟨f - 1, by omega⟩
    have inner : ∀ k f2 l (best : Nat → Int32), l + k = S 0 → k < f2 → (∀ u t, u ≤ m → t < S 0 → best (8 * u + t) = nI (Wm S L u t)) → (∀ t, t < l → best (8 * (m + 1) + t) = nI (Wm S L (m + 1) t)) →
        ∃ best' : Nat → Int32, f_X10_seekSurest_102 N (f_X10_seekSurest_74 N f) f2 up (nI (10 ^ (m + 1))) liv best way row fe (nI (S 0)) df dr tcd tst ten ucd ust uen wcd wst wen xcd xst xen tx rul nm stack (nI p) (nI n) (nI (m + 1)) (nI l) = f_X10_seekSurest_74 N f up (nI (10 ^ (m + 1))) liv best' way row fe (nI (S 0)) df dr tcd tst ten ucd ust uen wcd wst wen xcd xst xen tx rul nm stack (nI p) (nI n) (nI (m + 1 + 1)) ∧
        ∀ u t, u ≤ m + 1 → t < S 0 → best' (8 * u + t) = nI (Wm S L u t) := by
      intro k
      induction k with
      | zero =>
        intro f2 l best e2 hf2 hb1 hb2
        obtain ⟨f2, rfl⟩ : ∃ m, f2 = m + 1 := ⟨f2 - 1, by omega⟩
        have e2 : l = S 0 := by omega
        subst e2
        refine ⟨best, by rw [f_X10_seekSurest_102]; simp (maxSteps := 1000000) (disch := omega) only [li, ob1_s, ob2_s, ob3_s, ob4_s, ob5_s, ob6_s, ob7_s, gA_n, gL_n, sA_n, sL_n, cpI_n, nI_add, pk_mul, nsub, nlt_t, nlt_f, nle_t, nle_f, neq_t, neq_f, rmI_n, dvI_n, upd_ne, upd_eq, un_ne, un_eq, Nat.add_zero, Bool.false_eq_true, ↓reduceIte, f_X10_seekSurest_148], fun u t hu ht => ?_⟩
        by_cases e3 : u = m + 1
        · subst e3; exact hb2 t ht
        · exact hb1 u t (by omega) ht
      | succ k ihk =>
        intro f2 l best e2 hf2 hb1 hb2
        obtain ⟨f2, rfl⟩ : ∃ m, f2 = m + 1 := ⟨f2 - 1, by omega⟩
        have c := cBestFrom (N := N) (l := l) (m := m) (best := best) (V := Wm S L m) hL hN (by omega) (by omega) h1 (fun t ht => ⟨hb1 m t (Nat.le_refl _) ht, Nat.le_trans (Wm_b (fun t ht => (h1 t ht).2) m t) (p10 (by omega))⟩)
        obtain ⟨best', q1, q2⟩ := ihk f2 (l + 1) (upd best (8 * (m + 1) + l) (nI (Wm S L (m + 1) l))) (by omega) (by omega) (fun u t hu ht => by rw [upd_ne (by omega)]; exact hb1 u t hu ht) (fun t ht => by
          by_cases e3 : t = l
          · subst e3; rw [upd_eq rfl]
          · rw [upd_ne (by omega)]; exact hb2 t (by omega))
        refine ⟨best', ?_, q2⟩
        have em : (m + 1) * 8 + l = 8 * (m + 1) + l := by omega
        rw [f_X10_seekSurest_102]
        simp (maxSteps := 1000000) (disch := omega) only [li, ob1_s, ob2_s, ob3_s, ob4_s, ob5_s, ob6_s, ob7_s, gA_n, gL_n, sA_n, sL_n, cpI_n, nI_add, pk_mul, nsub, nlt_t, nlt_f, nle_t, nle_f, neq_t, neq_f, rmI_n, dvI_n, upd_ne, upd_eq, un_ne, un_eq, Nat.add_zero, Bool.false_eq_true, ↓reduceIte, c, em]
        exact q1
    obtain ⟨best1, q1, q2⟩ := inner (S 0) N 0 best (by omega) (by omega) hb (fun t ht => absurd ht (by omega))
    obtain ⟨best', q3, q4⟩ := ih f (m + 1) best1 (by omega) (by omega) q2
    refine ⟨best', ?_, q4⟩
    have ep : 10 ^ m * 10 = 10 ^ (m + 1) := (Nat.pow_succ ..).symm
    rw [f_X10_seekSurest_74]
    simp (maxSteps := 1000000) (disch := omega) only [li, ob1_s, ob2_s, ob3_s, ob4_s, ob5_s, ob6_s, ob7_s, gA_n, gL_n, sA_n, sL_n, cpI_n, nI_add, pk_mul, nsub, nlt_t, nlt_f, nle_t, nle_f, neq_t, neq_f, rmI_n, dvI_n, upd_ne, upd_eq, un_ne, un_eq, Nat.add_zero, Bool.false_eq_true, ↓reduceIte, ep]
    exact q1.trans q3
theorem rRows {N n : Nat} {a vt nd truth safe : Nat → Int32} {values : Nat → Int64} {dn : Int32} {df dr : Nat → Int32} {S L : Nat → Nat} (hA : TieA a S) (hN : 100 ≤ N) (hL : LandT dn df dr S) (hn6 : n ≤ 6) (h1 : ∀ t, t < S 0 → safe t = nI (L t) ∧ L t ≤ 10) :
    ∀ r f m (likely : Nat → Int32), m + r = n → r < f → (∀ u t, u ≤ m → t < S 0 → likely (8 * u + t) = nI (Wm S L u t)) →
    ∃ likely' : Nat → Int32, f_X12_layLikely_42 N f a vt nd values truth likely safe (nI n) (nI (m + 1)) = some (nd, values, truth, likely', safe) ∧
      ∀ u t, u ≤ n → t < S 0 → likely' (8 * u + t) = nI (Wm S L u t) := by
  obtain ⟨e1, h8, -⟩ := id hL
  intro r
  induction r with
  | zero =>
    intro f m likely e hf hb
    obtain ⟨f, rfl⟩ : ∃ m, f = m + 1 := ⟨f - 1, by omega⟩
    have e : m = n := by omega
    subst e
    exact ⟨likely, by rw [f_X12_layLikely_42]; simp (maxSteps := 1000000) (disch := omega) only [li, ob1_s, ob2_s, ob3_s, ob4_s, ob5_s, ob6_s, ob7_s, gA_n, gL_n, sA_n, sL_n, cpI_n, nI_add, pk_mul, nsub, nlt_t, nlt_f, nle_t, nle_f, neq_t, neq_f, rmI_n, dvI_n, upd_ne, upd_eq, un_ne, un_eq, Nat.add_zero, Bool.false_eq_true, ↓reduceIte], hb⟩
  | succ r ih =>
    intro f m likely e hf hb
    obtain ⟨f, rfl⟩ : ∃ m, f = m + 1 := ⟨f - 1, by omega⟩
    have inner : ∀ k f2 l (likely : Nat → Int32), l + k = S 0 → k < f2 → (∀ u t, u ≤ m → t < S 0 → likely (8 * u + t) = nI (Wm S L u t)) → (∀ t, t < l → likely (8 * (m + 1) + t) = nI (Wm S L (m + 1) t)) →
        ∃ likely' : Nat → Int32, f_X12_layLikely_50 N (f_X12_layLikely_42 N f) f2 a vt nd values truth likely safe (nI n) (nI (m + 1)) (nI l) = f_X12_layLikely_42 N f a vt nd values truth likely' safe (nI n) (nI (m + 1 + 1)) ∧
        ∀ u t, u ≤ m + 1 → t < S 0 → likely' (8 * u + t) = nI (Wm S L u t) := by
      intro k
      induction k with
      | zero =>
        intro f2 l likely e2 hf2 hb1 hb2
        obtain ⟨f2, rfl⟩ : ∃ m, f2 = m + 1 := ⟨f2 - 1, by omega⟩
        have e2 : l = S 0 := by omega
        subst e2
        refine ⟨likely, by rw [f_X12_layLikely_50]; simp (maxSteps := 1000000) (disch := omega) only [li, ob1_s, ob2_s, ob3_s, ob4_s, ob5_s, ob6_s, ob7_s, gA_n, gL_n, sA_n, sL_n, cpI_n, nI_add, pk_mul, nsub, nlt_t, nlt_f, nle_t, nle_f, neq_t, neq_f, rmI_n, dvI_n, upd_ne, upd_eq, un_ne, un_eq, Nat.add_zero, Bool.false_eq_true, ↓reduceIte, hA.2], fun u t hu ht => ?_⟩
        by_cases e3 : u = m + 1
        · subst e3; exact hb2 t ht
        · exact hb1 u t (by omega) ht
      | succ k ihk =>
        intro f2 l likely e2 hf2 hb1 hb2
        obtain ⟨f2, rfl⟩ : ∃ m, f2 = m + 1 := ⟨f2 - 1, by omega⟩
        have hl : l < S 0 := by omega
        have c := rNext (N := N) (l := l) (m := m) (likely := likely) (V := Wm S L m) hA hL hN hl (by omega) h1 (fun t ht => ⟨hb1 m t (Nat.le_refl _) ht, Nat.le_trans (Wm_b (fun t ht => (h1 t ht).2) m t) (p10 (by omega))⟩)
        obtain ⟨t0, u1, u2⟩ := qmx_ex (f := fun t => L t * Wm S L m t) hl
        have hto := lw_lt u1 u2
        have hy := lw_yes _ _ hto
        generalize lw (qmx S (fun t => L t * Wm S L m t) l) (S 0) = to at *
        have hv : L to * Wm S L m to = Wm S L (m + 1) l := by
          unfold qmx at hy
          rw [Bool.and_eq_true, decide_eq_true_eq] at hy
          exact hy.2
        obtain ⟨likely', q1, q2⟩ := ihk f2 (l + 1) (upd likely (8 * (m + 1) + l) (nI (Wm S L (m + 1) l))) (by omega) (by omega) (fun u t hu ht => by rw [upd_ne (by omega)]; exact hb1 u t hu ht) (fun t ht => by
          by_cases e3 : t = l
          · subst e3; rw [upd_eq rfl]
          · rw [upd_ne (by omega)]; exact hb2 t (by omega))
        refine ⟨likely', ?_, q2⟩
        obtain ⟨s1, s2⟩ := h1 to hto
        have b1 := hb1 m to (Nat.le_refl _) hto
        have em : m + 1 - 1 = m := by omega
        rw [f_X12_layLikely_50]
        simp (maxSteps := 1000000) (disch := omega) only [li, ob1_s, ob2_s, ob3_s, ob4_s, ob5_s, ob6_s, ob7_s, gA_n, gL_n, sA_n, sL_n, cpI_n, nI_add, pk_mul, nsub, nlt_t, nlt_f, nle_t, nle_f, neq_t, neq_f, rmI_n, dvI_n, upd_ne, upd_eq, un_ne, un_eq, Nat.add_zero, Bool.false_eq_true, ↓reduceIte, hA.2, c, em, s1, b1, hv]
        exact q1
    obtain ⟨likely1, q1, q2⟩ := inner (S 0) N 0 likely (by omega) (by omega) hb (fun t ht => absurd ht (by omega))
    obtain ⟨likely', q3, q4⟩ := ih f (m + 1) likely1 (by omega) (by omega) q2
    refine ⟨likely', ?_, q4⟩
    rw [f_X12_layLikely_42]
    simp (maxSteps := 1000000) (disch := omega) only [li, ob1_s, ob2_s, ob3_s, ob4_s, ob5_s, ob6_s, ob7_s, gA_n, gL_n, sA_n, sL_n, cpI_n, nI_add, pk_mul, nsub, nlt_t, nlt_f, nle_t, nle_f, neq_t, neq_f, rmI_n, dvI_n, upd_ne, upd_eq, un_ne, un_eq, Nat.add_zero, Bool.false_eq_true, ↓reduceIte]
    exact q1.trans q3
