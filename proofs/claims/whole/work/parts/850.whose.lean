theorem kZero {N : Nat} {a vt : Nat → Int32} {S : Nat → Nat} (hA : TieA a S) (h8 : S 8 ≤ 8) (K : (Nat → Int32) → (Nat → Int32) → (Nat → Int32) → (Nat → Int64) → (Nat → Int32) → Int32 → Int32 → Option (Int32 × (Nat → Int32) × (Nat → Int64) × (Nat → Int32))) (nd truth : Nat → Int32) (values : Nat → Int64) (x1 x2 : Int32) :
    ∀ r n k, k + r = S 8 → r < n → f_X12_whose_19 N K n a vt nd values truth x1 x2 (nI 0) (nI k) = f_X12_whose_93 N K a vt nd values truth x2 x1 (nI 0) := by
  intro r
  induction r with
  | zero =>
    intro n k e hn
    obtain ⟨n, rfl⟩ : ∃ m, n = m + 1 := ⟨n - 1, by omega⟩
    have e : k = S 8 := by omega
    subst e
    simp (maxSteps := 1000000) (disch := omega) only [li, ob1_s, ob2_s, ob3_s, ob4_s, ob5_s, ob6_s, ob7_s, gA_n, gL_n, sA_n, sL_n, cpI_n, nI_add, pk_mul, nsub, nlt_t, nlt_f, nle_t, nle_f, neq_t, neq_f, rmI_n, dvI_n, upd_ne, upd_eq, un_ne, un_eq, Nat.add_zero, Bool.false_eq_true, ↓reduceIte, f_X12_whose_19, hA.2]
  | succ r ih =>
    intro n k e hn
    obtain ⟨n, rfl⟩ : ∃ m, n = m + 1 := ⟨n - 1, by omega⟩
    have g := ih n (k + 1) (by omega) (by omega)
    simp (maxSteps := 1000000) (disch := omega) only [li, ob1_s, ob2_s, ob3_s, ob4_s, ob5_s, ob6_s, ob7_s, gA_n, gL_n, sA_n, sL_n, cpI_n, nI_add, pk_mul, nsub, nlt_t, nlt_f, nle_t, nle_f, neq_t, neq_f, rmI_n, dvI_n, upd_ne, upd_eq, un_ne, un_eq, Nat.add_zero, Bool.false_eq_true, ↓reduceIte, f_X12_whose_19, f_X12_whose_73, f_X12_whose_74, hA.2]
    exact g
theorem kExpl {N t : Nat} {tcl : Int32} {tcd tst ten trw : Nat → Int32} {ucl : Int32} {ucd ust uen urw : Nat → Int32} {wcl : Int32} {wcd wst wen wrw : Nat → Int32} {xcl : Int32} {xcd xst xen xrw : Nat → Int32} {vt : Nat → Int32} {tx rul dn pay : Int32} {df dr fe row a py pr : Nat → Int32} {S : Nat → Nat} (hN : 10000 ≤ N) (hE : LE N tcl tcd tst ten trw ucl ucd ust uen urw wcl wcd wst wen wrw xcl xcd xst xen xrw vt tx rul dn df dr fe S) (hR : RowC row S) (hA : TieA a S) (hW : FolkX S) (hP : PayT pay py pr S) (ht : t < S 2) (K : (Nat → Int32) → (Nat → Int32) → (Nat → Int32) → (Nat → Int64) → (Nat → Int32) → Int32 → Int32 → Option (Int32 × (Nat → Int32) × (Nat → Int64) × (Nat → Int32))) (x1 : Int32) :
    ∀ r n k (nm0 stack nd0 truth : Nat → Int32) (values : Nat → Int64), k + r = S 8 → r < n → ∃ b nm' stack' nd' values' truth', b ≤ 1 ∧ f_X11_explains_2 N n dn df row fe pay py pr tx tcd tst ten ucd ust uen wcd wst wen xcd xst xen nm0 stack (nI t) (nI k) = some (nI b, nm', stack') ∧ f_X12_whose_19 N K n a vt nd0 values truth x1 (nI t) (nI 1) (nI k) = f_X12_whose_93 N K a vt nd' values' truth' (nI t) x1 (if b = 0 then nI 0 else nI 1 <<< (nI t &&& nI 31)) := by
  obtain ⟨c1, c2, c3⟩ := id hP
  have w1 := hW.1
  subst c1
  intro r
  induction r with
  | zero =>
    intro n k nm0 stack nd0 truth values e hn
    obtain ⟨n, rfl⟩ : ∃ m, n = m + 1 := ⟨n - 1, by omega⟩
    have e : k = S 8 := by omega
    subst e
    refine ⟨1, nm0, stack, nd0, values, truth, by omega, ?_, ?_⟩
    · simp (maxSteps := 1000000) (disch := omega) only [li, ob1_s, ob2_s, ob3_s, ob4_s, ob5_s, ob6_s, ob7_s, gA_n, gL_n, sA_n, sL_n, cpI_n, nI_add, pk_mul, nsub, nlt_t, nlt_f, nle_t, nle_f, neq_t, neq_f, rmI_n, dvI_n, upd_ne, upd_eq, un_ne, un_eq, Nat.add_zero, Bool.false_eq_true, ↓reduceIte, f_X11_explains_2]
    · have n10 : ¬ (1 : Nat) = 0 := by omega
      simp (maxSteps := 1000000) (disch := omega) only [li, ob1_s, ob2_s, ob3_s, ob4_s, ob5_s, ob6_s, ob7_s, gA_n, gL_n, sA_n, sL_n, cpI_n, nI_add, pk_mul, nsub, nlt_t, nlt_f, nle_t, nle_f, neq_t, neq_f, rmI_n, dvI_n, upd_ne, upd_eq, un_ne, un_eq, Nat.add_zero, Bool.false_eq_true, ↓reduceIte, f_X12_whose_19, hA.2, n10]
  | succ r ih =>
    intro n k nm0 stack nd0 truth values e hn
    obtain ⟨n, rfl⟩ : ∃ m, n = m + 1 := ⟨n - 1, by omega⟩
    obtain ⟨q1, q2, q3, q4⟩ := c3 k (by omega)
    obtain ⟨v, nm', stack', nd', values', truth', g1, g2, g3⟩ := dPri (nm0 := nm0) (nd0 := nd0) (stack := stack) (truth := truth) (values := values) (nI t) hN hE (Or.inr ⟨t, ht, rfl⟩) hR hA hW q2
    have e126 : 125 + 2 * k + 1 = 126 + 2 * k := by omega
    by_cases hv : v = S (126 + 2 * k)
    · obtain ⟨b, r1, r2, r3, r4, r5, h1, h2, h3⟩ := ih n (k + 1) nm' stack' nd' truth' values' (by omega) (by omega)
      refine ⟨b, r1, r2, r3, r4, r5, h1, ?_, ?_⟩
      · simp (maxSteps := 1000000) (disch := omega) only [li, ob1_s, ob2_s, ob3_s, ob4_s, ob5_s, ob6_s, ob7_s, gA_n, gL_n, sA_n, sL_n, cpI_n, nI_add, pk_mul, nsub, nlt_t, nlt_f, nle_t, nle_f, neq_t, neq_f, rmI_n, dvI_n, upd_ne, upd_eq, un_ne, un_eq, Nat.add_zero, Bool.false_eq_true, ↓reduceIte, f_X11_explains_2, f_X4_payer, f_X4_payment, q1, q3, cget hR w1, g2]
        exact h2
      · simp (maxSteps := 1000000) (disch := omega) only [li, ob1_s, ob2_s, ob3_s, ob4_s, ob5_s, ob6_s, ob7_s, gA_n, gL_n, sA_n, sL_n, cpI_n, nI_add, pk_mul, nsub, nlt_t, nlt_f, nle_t, nle_f, neq_t, neq_f, rmI_n, dvI_n, upd_ne, upd_eq, un_ne, un_eq, Nat.add_zero, Bool.false_eq_true, ↓reduceIte, f_X12_whose_19, f_X12_whose_73, f_X12_whose_74, hA.2, g3, e126]
        exact h3
    · refine ⟨0, nm', stack', nd', values', truth', by omega, ?_, ?_⟩
      · simp (maxSteps := 1000000) (disch := omega) only [li, ob1_s, ob2_s, ob3_s, ob4_s, ob5_s, ob6_s, ob7_s, gA_n, gL_n, sA_n, sL_n, cpI_n, nI_add, pk_mul, nsub, nlt_t, nlt_f, nle_t, nle_f, neq_t, neq_f, rmI_n, dvI_n, upd_ne, upd_eq, un_ne, un_eq, Nat.add_zero, Bool.false_eq_true, ↓reduceIte, f_X11_explains_2, f_X4_payer, f_X4_payment, q1, q3, cget hR w1, g2]
      · have kz := kZero (N := N) (vt := vt) hA c2 K nd' truth' values' x1 (nI t) r n (k + 1) (by omega) (by omega)
        simp (maxSteps := 1000000) (disch := omega) only [li, ob1_s, ob2_s, ob3_s, ob4_s, ob5_s, ob6_s, ob7_s, gA_n, gL_n, sA_n, sL_n, cpI_n, nI_add, pk_mul, nsub, nlt_t, nlt_f, nle_t, nle_f, neq_t, neq_f, rmI_n, dvI_n, upd_ne, upd_eq, un_ne, un_eq, Nat.add_zero, Bool.false_eq_true, ↓reduceIte, f_X12_whose_19, f_X12_whose_73, f_X12_whose_74, hA.2, g3, e126]
        exact kz
theorem st_whose {j : Nat} {dn : Int32} {df dr row fe to : Nat → Int32} {cnt next : Int32} {store : Nat → Int32} {calls bord rep unl pay : Int32} {cl ul ga py pr : Nat → Int32} {tx rul : Int32} {a : Nat → Int32} {S : Nat → Nat} {N : Nat} {tcl : Int32} {tcd tst ten trw : Nat → Int32} {ucl : Int32} {ucd ust uen urw : Nat → Int32} {wcl : Int32} {wcd wst wen wrw : Nat → Int32} {xcl : Int32} {xcd xst xen xrw : Nat → Int32} {vt : Nat → Int32} {nm0 nd0 stack truth : Nat → Int32} {values : Nat → Int64} (hN : 10000 ≤ N) (hT : TextsT N tcl tcd tst ten trw ucl ucd ust uen urw wcl wcd wst wen wrw xcl xcd xst xen xrw vt (S 2)) (h : RealmT j dn df dr row fe to cnt next store calls bord rep unl pay cl ul ga py pr tx rul a S) :
    ∃ (r : Int32) (nm' stack' nd' : Nat → Int32) (values' : Nat → Int64) (truth' : Nat → Int32), f_X11_whose N dn df row fe pay py pr tx tcd tst ten ucd ust uen wcd wst wen xcd xst xen nm0 stack = some (r, nm', stack') ∧ f_X12_whose N a vt nd0 values truth = some (r, nd', values', truth') := by
  have hE := h.le hT
  obtain ⟨hA, hL, hR, hW, hF, hB, hZ, hQ, hI, hj⟩ := h
  obtain ⟨i1, i2, -, -⟩ := id hI
  have hP := hQ.2.2.2.2
  have key : ∀ r n t (s : Nat) (nm0 stack nd0 truth : Nat → Int32) (values : Nat → Int64), t + r = S 2 → r < n → ∃ (res : Int32) (nm' stack' nd' : Nat → Int32) (values' : Nat → Int64) (truth' : Nat → Int32), f_X11_whose_4 N n dn df row fe pay py pr tx tcd tst ten ucd ust uen wcd wst wen xcd xst xen nm0 stack (nI s) (nI t) = some (res, nm', stack') ∧ f_X12_whose_4 N n a vt nd0 values truth (nI s) (nI t) = some (res, nd', values', truth') := by
    intro r
    induction r with
    | zero =>
      intro n t s nm0 stack nd0 truth values e hn
      obtain ⟨n, rfl⟩ : ∃ m, n = m + 1 := ⟨n - 1, by omega⟩
      have e : t = S 2 := by omega
      subst e
      exact ⟨nI s, nm0, stack, nd0, values, truth, by simp (maxSteps := 1000000) (disch := omega) only [li, ob1_s, ob2_s, ob3_s, ob4_s, ob5_s, ob6_s, ob7_s, gA_n, gL_n, sA_n, sL_n, cpI_n, nI_add, pk_mul, nsub, nlt_t, nlt_f, nle_t, nle_f, neq_t, neq_f, rmI_n, dvI_n, upd_ne, upd_eq, un_ne, un_eq, Nat.add_zero, Bool.false_eq_true, ↓reduceIte, f_X11_whose_4, i1], by simp (maxSteps := 1000000) (disch := omega) only [li, ob1_s, ob2_s, ob3_s, ob4_s, ob5_s, ob6_s, ob7_s, gA_n, gL_n, sA_n, sL_n, cpI_n, nI_add, pk_mul, nsub, nlt_t, nlt_f, nle_t, nle_f, neq_t, neq_f, rmI_n, dvI_n, upd_ne, upd_eq, un_ne, un_eq, Nat.add_zero, Bool.false_eq_true, ↓reduceIte, f_X12_whose_4, hA.2]⟩
    | succ r ih =>
      intro n t s nm0 stack nd0 truth values e hn
      obtain ⟨n, rfl⟩ : ∃ m, n = m + 1 := ⟨n - 1, by omega⟩
      obtain ⟨b, nm', stack', nd', values', truth', h1, h2, h3⟩ := kExpl hN hE hR hA hW.x hP (show t < S 2 by omega) (f_X12_whose_4 N n) (nI s) (S 8) N 0 nm0 stack nd0 truth values (by omega) (by have := hP.2.1; omega)
      rcases (show b = 0 ∨ b = 1 by omega) with eb | eb
      · subst eb
        obtain ⟨res, r1, r2, r3, r4, r5, q1, q2⟩ := ih n (t + 1) s nm' stack' nd' truth' values' (by omega) (by omega)
        refine ⟨res, r1, r2, r3, r4, r5, ?_, ?_⟩
        · have h2' : f_X11_explains N dn df row fe pay py pr tx tcd tst ten ucd ust uen wcd wst wen xcd xst xen nm0 stack (nI t) = some (nI 0, nm', stack') := h2
          rw [f_X11_whose_4]
          rw [i1] at h2' q1 ⊢
          simp (maxSteps := 1000000) (disch := omega) only [li, ob1_s, ob2_s, ob3_s, ob4_s, ob5_s, ob6_s, ob7_s, gA_n, gL_n, sA_n, sL_n, cpI_n, nI_add, pk_mul, nsub, nlt_t, nlt_f, nle_t, nle_f, neq_t, neq_f, rmI_n, dvI_n, upd_ne, upd_eq, un_ne, un_eq, Nat.add_zero, Bool.false_eq_true, ↓reduceIte, f_X11_whose_29, h2']
          exact q1
        · simp (maxSteps := 1000000) (disch := omega) only [li, ob1_s, ob2_s, ob3_s, ob4_s, ob5_s, ob6_s, ob7_s, gA_n, gL_n, sA_n, sL_n, cpI_n, nI_add, pk_mul, nsub, nlt_t, nlt_f, nle_t, nle_f, neq_t, neq_f, rmI_n, dvI_n, upd_ne, upd_eq, un_ne, un_eq, Nat.add_zero, Bool.false_eq_true, ↓reduceIte, f_X12_whose_4, hA.2, h3, f_X12_whose_93, nor, Nat.or_zero]
          exact q2
      · subst eb
        obtain ⟨res, r1, r2, r3, r4, r5, q1, q2⟩ := ih n (t + 1) (s ||| 2 ^ t) nm' stack' nd' truth' values' (by omega) (by omega)
        refine ⟨res, r1, r2, r3, r4, r5, ?_, ?_⟩
        · have h2' : f_X11_explains N dn df row fe pay py pr tx tcd tst ten ucd ust uen wcd wst wen xcd xst xen nm0 stack (nI t) = some (nI 1, nm', stack') := h2
          rw [f_X11_whose_4]
          rw [i1] at h2' q1 ⊢
          simp (maxSteps := 1000000) (disch := omega) only [li, ob1_s, ob2_s, ob3_s, ob4_s, ob5_s, ob6_s, ob7_s, gA_n, gL_n, sA_n, sL_n, cpI_n, nI_add, pk_mul, nsub, nlt_t, nlt_f, nle_t, nle_f, neq_t, neq_f, rmI_n, dvI_n, upd_ne, upd_eq, un_ne, un_eq, Nat.add_zero, Bool.false_eq_true, ↓reduceIte, f_X11_whose_29, h2', nshl1, nor]
          exact q1
        · have n10 : ¬ (1 : Nat) = 0 := by omega
          simp (maxSteps := 1000000) (disch := omega) only [li, ob1_s, ob2_s, ob3_s, ob4_s, ob5_s, ob6_s, ob7_s, gA_n, gL_n, sA_n, sL_n, cpI_n, nI_add, pk_mul, nsub, nlt_t, nlt_f, nle_t, nle_f, neq_t, neq_f, rmI_n, dvI_n, upd_ne, upd_eq, un_ne, un_eq, Nat.add_zero, Bool.false_eq_true, ↓reduceIte, f_X12_whose_4, hA.2, h3, n10, f_X12_whose_93, nshl1, nor]
          exact q2
  exact key (S 2) N 0 0 nm0 stack nd0 truth values (by omega) (by omega)
