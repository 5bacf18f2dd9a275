theorem RealmT.le {j : Nat} {dn : Int32} {df dr row fe to : Nat → Int32} {cnt next : Int32} {store : Nat → Int32} {calls bord rep unl pay : Int32} {cl ul ga py pr : Nat → Int32} {tx rul : Int32} {a : Nat → Int32} {S : Nat → Nat} {N : Nat} {tcl : Int32} {tcd tst ten trw : Nat → Int32} {ucl : Int32} {ucd ust uen urw : Nat → Int32} {wcl : Int32} {wcd wst wen wrw : Nat → Int32} {xcl : Int32} {xcd xst xen xrw : Nat → Int32} {vt : Nat → Int32} (h : RealmT j dn df dr row fe to cnt next store calls bord rep unl pay cl ul ga py pr tx rul a S) (hT : TextsT N tcl tcd tst ten trw ucl ucd ust uen urw wcl wcd wst wen wrw xcl xcd xst xen xrw vt (S 2)) : LE N tcl tcd tst ten trw ucl ucd ust uen urw wcl wcd wst wen wrw xcl xcd xst xen xrw vt tx rul dn df dr fe S := by
  obtain ⟨hA, hL, hR, hW, hF, hB, hZ, hQ, hI, hj⟩ := h
  exact ⟨hT, hI, hL, fun p hp => ⟨(hF p hp).1, (hF p hp).2.1⟩⟩
theorem LE.kp {N : Nat} {tcl : Int32} {tcd tst ten trw : Nat → Int32} {ucl : Int32} {ucd ust uen urw : Nat → Int32} {wcl : Int32} {wcd wst wen wrw : Nat → Int32} {xcl : Int32} {xcd xst xen xrw : Nat → Int32} {vt : Nat → Int32} {tx rul dn : Int32} {df dr fe : Nat → Int32} {S : Nat → Nat} (h : LE N tcl tcd tst ten trw ucl ucd ust uen urw wcl wcd wst wen wrw xcl xcd xst xen xrw vt tx rul dn df dr fe S) (h6 : S 1 ≤ 6) : LE N tcl tcd tst ten trw ucl ucd ust uen urw wcl wcd wst wen wrw xcl xcd xst xen xrw vt tx rul dn df dr fe (kpS S) :=
  h.cg h6 (fun i hi => kp_o (by omega) (by omega)) (fun p hp => kp_o (by omega) (by omega))
/-- one month as a step -/
theorem dStepM {j : Nat} {dn : Int32} {df dr row fe to : Nat → Int32} {cnt next : Int32} {store : Nat → Int32} {calls bord rep unl pay : Int32} {cl ul ga py pr : Nat → Int32} {tx rul : Int32} {a : Nat → Int32} {S : Nat → Nat} {N : Nat} {tcl : Int32} {tcd tst ten trw : Nat → Int32} {ucl : Int32} {ucd ust uen urw : Nat → Int32} {wcl : Int32} {wcd wst wen wrw : Nat → Int32} {xcl : Int32} {xcd xst xen xrw : Nat → Int32} {vt : Nat → Int32} {nm0 nd0 stack truth : Nat → Int32} {values : Nat → Int64} (died : Int32) (hN : 10000 ≤ N) (hT : TextsT N tcl tcd tst ten trw ucl ucd ust uen urw wcl wcd wst wen wrw xcl xcd xst xen xrw vt (S 2)) (h : RealmT j dn df dr row fe to cnt next store calls bord rep unl pay cl ul ga py pr tx rul a S) (hm : S 10 < 9999) (hj2 : S 12 < 2147480000) :
    ∃ d store1 row' nm' stack' cnt' next' a1 a' nd' values' truth' S', d ≤ 6 ∧ f_X7_ahead N next store row = some store1 ∧ f_X0_passMonth N dn df tcd tst ten ucd ust uen wcd wst wen xcd xst xen row fe tx rul nm0 stack = some (nI d, row', nm', stack') ∧ f_X7_keep N cnt next = some (cnt', next') ∧ f_X12_keep N a = some a1 ∧ f_X12_goOn N a1 vt nd0 values truth (nI 1) died = some (a', nd', values', truth', addD died d) ∧
      (∀ j', S' 12 ≤ 20000 * j' → RealmT j' dn df dr row' fe to cnt' next' store1 calls bord rep unl pay cl ul ga py pr tx rul a' S') ∧ S' 2 = S 2 ∧ S' 10 = S 10 + 1 ∧ S' 12 ≤ S 12 + 6 := by
  have h0 := h
  have hE := h.le hT
  obtain ⟨hA, hL, hR, hW, hF, hB, hZ, hQ, hI, hj⟩ := h
  obtain ⟨z1, z2, nx, z3, z4, -⟩ := id hZ
  have w1 := hW.1
  obtain ⟨a1, k1, k2⟩ := rKeep hN hA z2
  have hG := h0.good (nx := nx) k2
  have ee : ∀ i, i ≠ 4 → i < 142 → kpS S i = S i := fun i h4 h1 => kp_o (by omega) h4
  have e10 := ee 10 (by omega) (by omega)
  have e12 := ee 12 (by omega) (by omega)
  rw [← e10] at hG
  obtain ⟨d, row', nm', stack', a', nd', values', truth', S', g1, g2, g3, g4, g5, g6, g7⟩ := dMonth (w := true) (nm0 := nm0) (nd0 := nd0) (stack := stack) (truth := truth) (values := values) died hN (hE.kp w1) hG (by omega) (by omega)
  obtain ⟨q1, q2, q3⟩ := h0.deed (n := 6) (nx := nx) z3 z4 g4 g5 (by omega)
  refine ⟨d, _, row', nm', stack', _, _, a1, a', nd', values', truth', S', g1, ?_, g2, ?_, k1, g3, q1, q2, by omega, q3⟩
  · rw [z4]; exact cAhead z3
  · rw [z4, z1]; exact cKeep z3 z2
theorem kMonth {N m : Nat} {tcl : Int32} {tcd tst ten trw : Nat → Int32} {ucl : Int32} {ucd ust uen urw : Nat → Int32} {wcl : Int32} {wcd wst wen wrw : Nat → Int32} {xcl : Int32} {xcd xst xen xrw : Nat → Int32} {vt : Nat → Int32} {dn tx rul : Int32} {df dr fe to : Nat → Int32} {calls bord rep unl pay : Int32} {cl ul ga py pr : Nat → Int32} (hN : 10000 ≤ N) {j2 : Nat} (hj2 : j2 ≤ 20001) {T2 : Nat} (hT : TextsT N tcl tcd tst ten trw ucl ucd ust uen urw wcl wcd wst wen wrw xcl xcd xst xen xrw vt T2) :
    ∀ r n i c (row : Nat → Int32) (cnt next : Int32) (store a nm0 nd0 stack truth : Nat → Int32) (values : Nat → Int64) (S : Nat → Nat), i + r = m → r < n → m ≤ 60 → c ≤ 6 * i → RealmT j2 dn df dr row fe to cnt next store calls bord rep unl pay cl ul ga py pr tx rul a S → S 10 + r ≤ 9999 → S 12 + 6 * r ≤ 20000 * j2 → S 2 = T2 →
    ∃ d row' cnt' next' store' nm' stack' a' nd' values' truth' S', d ≤ 360 ∧ f_X11_month_32 N n dn df row fe cnt next store tx rul tcd tst ten ucd ust uen wcd wst wen xcd xst xen nm0 stack (nI m) (nI c) (nI i) = some (nI d, row', cnt', next', store', nm', stack') ∧ f_X12_arePassed_7 N n a vt nd0 values truth (nI 1) (nI c) (nI m) (nI i) = some (nI 1, a', nd', values', truth', nI d) ∧ RealmT j2 dn df dr row' fe to cnt' next' store' calls bord rep unl pay cl ul ga py pr tx rul a' S' ∧ S' 2 = T2 := by
  intro r
  induction r with
  | zero =>
    intro n i c row cnt next store a nm0 nd0 stack truth values S e hn hm hc h h10 h12 h2
    obtain ⟨n, rfl⟩ : ∃ m, n = m + 1 := ⟨n - 1, by omega⟩
    have e : i = m := by omega
    subst e
    exact ⟨c, row, cnt, next, store, nm0, stack, a, nd0, values, truth, S, by omega, by simp (maxSteps := 1000000) (disch := omega) only [li, ob1_s, ob2_s, ob3_s, ob4_s, ob5_s, ob6_s, ob7_s, gA_n, gL_n, sA_n, sL_n, cpI_n, nI_add, pk_mul, nsub, nlt_t, nlt_f, nle_t, nle_f, neq_t, neq_f, rmI_n, dvI_n, upd_ne, upd_eq, un_ne, un_eq, Nat.add_zero, Bool.false_eq_true, ↓reduceIte, f_X11_month_32], by simp (maxSteps := 1000000) (disch := omega) only [li, ob1_s, ob2_s, ob3_s, ob4_s, ob5_s, ob6_s, ob7_s, gA_n, gL_n, sA_n, sL_n, cpI_n, nI_add, pk_mul, nsub, nlt_t, nlt_f, nle_t, nle_f, neq_t, neq_f, rmI_n, dvI_n, upd_ne, upd_eq, un_ne, un_eq, Nat.add_zero, Bool.false_eq_true, ↓reduceIte, f_X12_arePassed_7], h, h2⟩
  | succ r ih =>
    intro n i c row cnt next store a nm0 nd0 stack truth values S e hn hm hc h h10 h12 h2
    obtain ⟨n, rfl⟩ : ∃ m, n = m + 1 := ⟨n - 1, by omega⟩
    obtain ⟨d, store1, row', nm', stack', cnt', next', a1, a', nd', values', truth', S', d1, d2, d3, d4, d5, d6, d7, d8, d9, d10⟩ := dStepM (nm0 := nm0) (nd0 := nd0) (stack := stack) (truth := truth) (values := values) (nI c) hN (by rw [h2]; exact hT) h (by omega) (by omega)
    rw [addD_n] at d6
    obtain ⟨dd, r1, r2, r3, r4, r5, r6, r7, r8, r9, r10, r11, g1, g2, g3, g4, g5⟩ := ih n (i + 1) (c + d) row' cnt' next' store1 a' nm' nd' stack' truth' values' S' (by omega) (by omega) hm (by omega) (d7 j2 (by omega)) (by omega) (by omega) (by omega)
    refine ⟨dd, r1, r2, r3, r4, r5, r6, r7, r8, r9, r10, r11, g1, ?_, ?_, g4, g5⟩
    · simp (maxSteps := 1000000) (disch := omega) only [li, ob1_s, ob2_s, ob3_s, ob4_s, ob5_s, ob6_s, ob7_s, gA_n, gL_n, sA_n, sL_n, cpI_n, nI_add, pk_mul, nsub, nlt_t, nlt_f, nle_t, nle_f, neq_t, neq_f, rmI_n, dvI_n, upd_ne, upd_eq, un_ne, un_eq, Nat.add_zero, Bool.false_eq_true, ↓reduceIte, f_X11_month_32, d2, d3, d4, mxI]
      exact g2
    · have ha : a 10 = nI (S 10) := h.1.2 10 (by omega) (by omega)
      simp (maxSteps := 1000000) (disch := omega) only [li, ob1_s, ob2_s, ob3_s, ob4_s, ob5_s, ob6_s, ob7_s, gA_n, gL_n, sA_n, sL_n, cpI_n, nI_add, pk_mul, nsub, nlt_t, nlt_f, nle_t, nle_f, neq_t, neq_f, rmI_n, dvI_n, upd_ne, upd_eq, un_ne, un_eq, Nat.add_zero, Bool.false_eq_true, ↓reduceIte, f_X12_arePassed_7, ha, d5, d6]
      exact g3
theorem st_month {j : Nat} {dn : Int32} {df dr row fe to : Nat → Int32} {cnt next : Int32} {store : Nat → Int32} {calls bord rep unl pay : Int32} {cl ul ga py pr : Nat → Int32} {tx rul : Int32} {a : Nat → Int32} {S : Nat → Nat} {N : Nat} {tcl : Int32} {tcd tst ten trw : Nat → Int32} {ucl : Int32} {ucd ust uen urw : Nat → Int32} {wcl : Int32} {wcd wst wen wrw : Nat → Int32} {xcl : Int32} {xcd xst xen xrw : Nat → Int32} {vt : Nat → Int32} {nm0 nd0 stack truth : Nat → Int32} {values : Nat → Int64} (died : Int32) (hN : 10000 ≤ N) (hJ : j ≤ 20000) (hT : TextsT N tcl tcd tst ten trw ucl ucd ust uen urw wcl wcd wst wen wrw xcl xcd xst xen xrw vt (S 2)) (x : Int32) (h : RealmT j dn df dr row fe to cnt next store calls bord rep unl pay cl ul ga py pr tx rul a S) :
    ∃ (r : Int32) (row' : Nat → Int32) (cnt' next' : Int32) (store' nm' stack' a' nd' : Nat → Int32) (values' : Nat → Int64) (truth' : Nat → Int32) (died' : Int32) (S' : Nat → Nat), f_X11_month N dn df row fe cnt next store tx rul tcd tst ten ucd ust uen wcd wst wen xcd xst xen nm0 stack x = some (r, row', cnt', next', store', nm', stack') ∧ f_X12_month N a vt nd0 values truth (nI 1) died x = some (r, a', nd', values', truth', died') ∧ RealmT (j + 1) dn df dr row' fe to cnt' next' store' calls bord rep unl pay cl ul ga py pr tx rul a' S' ∧ S' 2 = S 2 := by
  have h0 := h
  obtain ⟨hA, hL, hR, hW, hF, hB, hZ, hQ, hI, hj⟩ := h
  have w2 := hW.2.1
  rcases inOut x 61 (by omega) with hx | ⟨m, hm, rfl⟩
  · refine ⟨-nI 1, row, cnt, next, store, nm0, stack, a, nd0, values, truth, died, S, ?_, ?_, h0.later, rfl⟩
    · rcases hx with g | ⟨g, g0⟩
      · simp only [f_X11_month, li, neg_lt (m := 1) (by omega) g, ↓reduceIte]
      · simp only [f_X11_month, li, ge_nlt (n := 61) (m := 1) (by omega) (by omega) g, ge_lt (n := 61) (m := 60) (by omega) (by omega) g, ↓reduceIte]
    · have e : f_X12_isIn N x (nI 1) (nI 60) = some (nI 0) := by
        rcases hx with g | ⟨g, g0⟩
        · simp only [f_X12_isIn, li, neg_lt (m := 1) (by omega) g, ↓reduceIte]
        · simp only [f_X12_isIn, li, ge_nlt (n := 61) (m := 1) (by omega) (by omega) g, ge_lt (n := 61) (m := 60) (by omega) (by omega) g, ↓reduceIte]
      simp only [f_X12_month, li, e, ob1_s, ↓reduceIte]
  · rcases Nat.eq_zero_or_pos m with e0 | e0
    · subst e0
      refine ⟨-nI 1, row, cnt, next, store, nm0, stack, a, nd0, values, truth, died, S, ?_, ?_, h0.later, rfl⟩
      · simp (maxSteps := 1000000) (disch := omega) only [li, ob1_s, ob2_s, ob3_s, ob4_s, ob5_s, ob6_s, ob7_s, gA_n, gL_n, sA_n, sL_n, cpI_n, nI_add, pk_mul, nsub, nlt_t, nlt_f, nle_t, nle_f, neq_t, neq_f, rmI_n, dvI_n, upd_ne, upd_eq, un_ne, un_eq, Nat.add_zero, Bool.false_eq_true, ↓reduceIte, f_X11_month]
      · have e : f_X12_isIn N (nI 0) (nI 1) (nI 60) = some (nI 0) := by simp (maxSteps := 1000000) (disch := omega) only [li, ob1_s, ob2_s, ob3_s, ob4_s, ob5_s, ob6_s, ob7_s, gA_n, gL_n, sA_n, sL_n, cpI_n, nI_add, pk_mul, nsub, nlt_t, nlt_f, nle_t, nle_f, neq_t, neq_f, rmI_n, dvI_n, upd_ne, upd_eq, un_ne, un_eq, Nat.add_zero, Bool.false_eq_true, ↓reduceIte, f_X12_isIn]
        simp (maxSteps := 1000000) (disch := omega) only [li, ob1_s, ob2_s, ob3_s, ob4_s, ob5_s, ob6_s, ob7_s, gA_n, gL_n, sA_n, sL_n, cpI_n, nI_add, pk_mul, nsub, nlt_t, nlt_f, nle_t, nle_f, neq_t, neq_f, rmI_n, dvI_n, upd_ne, upd_eq, un_ne, un_eq, Nat.add_zero, Bool.false_eq_true, ↓reduceIte, f_X12_month, e]
    · by_cases hl : S 10 + m ≤ 9999
      · obtain ⟨dd, r1, r2, r3, r4, r5, r6, r7, r8, r9, r10, r11, g1, g2, g3, g4, g5⟩ := kMonth (m := m) hN (show j + 1 ≤ 20001 by omega) hT m N 0 0 row cnt next store a nm0 nd0 stack truth values S (by omega) (by omega) (by omega) (by omega) h0.later (by omega) (by omega) rfl
        refine ⟨nI dd, r1, r2, r3, r4, r5, r6, r7, r8, r9, r10, nI dd, r11, ?_, ?_, g4, g5⟩
        · simp (maxSteps := 1000000) (disch := omega) only [li, ob1_s, ob2_s, ob3_s, ob4_s, ob5_s, ob6_s, ob7_s, gA_n, gL_n, sA_n, sL_n, cpI_n, nI_add, pk_mul, nsub, nlt_t, nlt_f, nle_t, nle_f, neq_t, neq_f, rmI_n, dvI_n, upd_ne, upd_eq, un_ne, un_eq, Nat.add_zero, Bool.false_eq_true, ↓reduceIte, f_X11_month, f_X1_monthNow, hR.1]
          exact g2
        · simp (maxSteps := 1000000) (disch := omega) only [li, ob1_s, ob2_s, ob3_s, ob4_s, ob5_s, ob6_s, ob7_s, gA_n, gL_n, sA_n, sL_n, cpI_n, nI_add, pk_mul, nsub, nlt_t, nlt_f, nle_t, nle_f, neq_t, neq_f, rmI_n, dvI_n, upd_ne, upd_eq, un_ne, un_eq, Nat.add_zero, Bool.false_eq_true, ↓reduceIte, f_X12_month, f_X12_arePassed, isIn_in, hA.2, g3]
      · refine ⟨-nI 1, row, cnt, next, store, nm0, stack, a, nd0, values, truth, died, S, ?_, ?_, h0.later, rfl⟩
        · simp (maxSteps := 1000000) (disch := omega) only [li, ob1_s, ob2_s, ob3_s, ob4_s, ob5_s, ob6_s, ob7_s, gA_n, gL_n, sA_n, sL_n, cpI_n, nI_add, pk_mul, nsub, nlt_t, nlt_f, nle_t, nle_f, neq_t, neq_f, rmI_n, dvI_n, upd_ne, upd_eq, un_ne, un_eq, Nat.add_zero, Bool.false_eq_true, ↓reduceIte, f_X11_month, f_X1_monthNow, hR.1]
        · simp (maxSteps := 1000000) (disch := omega) only [li, ob1_s, ob2_s, ob3_s, ob4_s, ob5_s, ob6_s, ob7_s, gA_n, gL_n, sA_n, sL_n, cpI_n, nI_add, pk_mul, nsub, nlt_t, nlt_f, nle_t, nle_f, neq_t, neq_f, rmI_n, dvI_n, upd_ne, upd_eq, un_ne, un_eq, Nat.add_zero, Bool.false_eq_true, ↓reduceIte, f_X12_month, isIn_in, hA.2]
/-- months of a script: as many as can pass -/
theorem kPass {N m : Nat} {tcl : Int32} {tcd tst ten trw : Nat → Int32} {ucl : Int32} {ucd ust uen urw : Nat → Int32} {wcl : Int32} {wcd wst wen wrw : Nat → Int32} {xcl : Int32} {xcd xst xen xrw : Nat → Int32} {vt : Nat → Int32} {dn tx rul : Int32} {df dr fe to : Nat → Int32} {calls bord rep unl pay : Int32} {cl ul ga py pr : Nat → Int32} (hN : 10000 ≤ N) {j2 : Nat} (hj2 : j2 ≤ 20001) {T2 : Nat} (hT : TextsT N tcl tcd tst ten trw ucl ucd ust uen urw wcl wcd wst wen wrw xcl xcd xst xen xrw vt T2) :
    ∀ r n i c (row : Nat → Int32) (cnt next : Int32) (store a nm0 nd0 stack truth : Nat → Int32) (values : Nat → Int64) (S : Nat → Nat), i + r = m → r < n → m ≤ 60 → c ≤ 6 * i → RealmT j2 dn df dr row fe to cnt next store calls bord rep unl pay cl ul ga py pr tx rul a S → S 12 + 6 * r ≤ 20000 * j2 → S 2 = T2 →
    ∃ b d row' cnt' next' store' nm' stack' a' nd' values' truth' S', b ≤ 1 ∧ d ≤ 360 ∧ f_X11_passAll_2 N n dn df row fe cnt next store tx rul tcd tst ten ucd ust uen wcd wst wen xcd xst xen nm0 stack (nI m) (nI i) = some (nI b, row', cnt', next', store', nm', stack') ∧ f_X12_arePassed_7 N n a vt nd0 values truth (nI 1) (nI c) (nI m) (nI i) = some (nI b, a', nd', values', truth', nI d) ∧ RealmT j2 dn df dr row' fe to cnt' next' store' calls bord rep unl pay cl ul ga py pr tx rul a' S' ∧ S' 2 = T2 ∧ S' 12 ≤ S 12 + 6 * r := by
  intro r
  induction r with
  | zero =>
    intro n i c row cnt next store a nm0 nd0 stack truth values S e hn hm hc h h12 h2
    obtain ⟨n, rfl⟩ : ∃ m, n = m + 1 := ⟨n - 1, by omega⟩
    have e : i = m := by omega
    subst e
    exact ⟨1, c, row, cnt, next, store, nm0, stack, a, nd0, values, truth, S, by omega, by omega, by simp (maxSteps := 1000000) (disch := omega) only [li, ob1_s, ob2_s, ob3_s, ob4_s, ob5_s, ob6_s, ob7_s, gA_n, gL_n, sA_n, sL_n, cpI_n, nI_add, pk_mul, nsub, nlt_t, nlt_f, nle_t, nle_f, neq_t, neq_f, rmI_n, dvI_n, upd_ne, upd_eq, un_ne, un_eq, Nat.add_zero, Bool.false_eq_true, ↓reduceIte, f_X11_passAll_2], by simp (maxSteps := 1000000) (disch := omega) only [li, ob1_s, ob2_s, ob3_s, ob4_s, ob5_s, ob6_s, ob7_s, gA_n, gL_n, sA_n, sL_n, cpI_n, nI_add, pk_mul, nsub, nlt_t, nlt_f, nle_t, nle_f, neq_t, neq_f, rmI_n, dvI_n, upd_ne, upd_eq, un_ne, un_eq, Nat.add_zero, Bool.false_eq_true, ↓reduceIte, f_X12_arePassed_7], h, h2, by omega⟩
  | succ r ih =>
    intro n i c row cnt next store a nm0 nd0 stack truth values S e hn hm hc h h12 h2
    obtain ⟨n, rfl⟩ : ∃ m, n = m + 1 := ⟨n - 1, by omega⟩
    have ha : a 10 = nI (S 10) := h.1.2 10 (by omega) (by omega)
    have hw2 := h.2.2.2.1.2.1
    have hr0 := h.2.2.1.1
    by_cases hm9 : S 10 < 9999
    · obtain ⟨d, store1, row', nm', stack', cnt', next', a1, a', nd', values', truth', S', d1, d2, d3, d4, d5, d6, d7, d8, d9, d10⟩ := dStepM (nm0 := nm0) (nd0 := nd0) (stack := stack) (truth := truth) (values := values) (nI c) hN (by rw [h2]; exact hT) h hm9 (by omega)
      rw [addD_n] at d6
      obtain ⟨bb, dd, r1, r2, r3, r4, r5, r6, r7, r8, r9, r10, r11, g0, g1, g2, g3, g4, g5, g6⟩ := ih n (i + 1) (c + d) row' cnt' next' store1 a' nm' nd' stack' truth' values' S' (by omega) (by omega) hm (by omega) (d7 j2 (by omega)) (by omega) (by omega)
      refine ⟨bb, dd, r1, r2, r3, r4, r5, r6, r7, r8, r9, r10, r11, g0, g1, ?_, ?_, g4, g5, by omega⟩
      · have hm1 : ¬ nI d = -nI 1 := m1_ne (by omega)
        simp (maxSteps := 1000000) (disch := omega) only [li, ob1_s, ob2_s, ob3_s, ob4_s, ob5_s, ob6_s, ob7_s, gA_n, gL_n, sA_n, sL_n, cpI_n, nI_add, pk_mul, nsub, nlt_t, nlt_f, nle_t, nle_f, neq_t, neq_f, rmI_n, dvI_n, upd_ne, upd_eq, un_ne, un_eq, Nat.add_zero, Bool.false_eq_true, ↓reduceIte, f_X11_passAll_2, d2, d3, d4, hm1]
        exact g2
      · simp (maxSteps := 1000000) (disch := omega) only [li, ob1_s, ob2_s, ob3_s, ob4_s, ob5_s, ob6_s, ob7_s, gA_n, gL_n, sA_n, sL_n, cpI_n, nI_add, pk_mul, nsub, nlt_t, nlt_f, nle_t, nle_f, neq_t, neq_f, rmI_n, dvI_n, upd_ne, upd_eq, un_ne, un_eq, Nat.add_zero, Bool.false_eq_true, ↓reduceIte, f_X12_arePassed_7, ha, d5, d6]
        exact g3
    · obtain ⟨z1, z2, nx, z3, z4, -⟩ := id h.2.2.2.2.2.2.1
      have hs : S 10 = 9999 := by omega
      have h12' : S 12 ≤ 20000 * j2 := by omega
      refine ⟨0, c, row, cnt, next, va_cpy row store 0 (76 * nx) 76, nm0, stack, a, nd0, values, truth, S, by omega, by omega, ?_, ?_, ?_, h2, by omega⟩
      · have ca := cAhead (N := N) (row := row) (store := store) z3
        rw [← z4] at ca
        simp (maxSteps := 1000000) (disch := omega) only [li, ob1_s, ob2_s, ob3_s, ob4_s, ob5_s, ob6_s, ob7_s, gA_n, gL_n, sA_n, sL_n, cpI_n, nI_add, pk_mul, nsub, nlt_t, nlt_f, nle_t, nle_f, neq_t, neq_f, rmI_n, dvI_n, upd_ne, upd_eq, un_ne, un_eq, Nat.add_zero, Bool.false_eq_true, ↓reduceIte, f_X11_passAll_2, ca, f_X0_passMonth, f_X1_monthNow, hr0]
      · simp (maxSteps := 1000000) (disch := omega) only [li, ob1_s, ob2_s, ob3_s, ob4_s, ob5_s, ob6_s, ob7_s, gA_n, gL_n, sA_n, sL_n, cpI_n, nI_add, pk_mul, nsub, nlt_t, nlt_f, nle_t, nle_f, neq_t, neq_f, rmI_n, dvI_n, upd_ne, upd_eq, un_ne, un_eq, Nat.add_zero, Bool.false_eq_true, ↓reduceIte, f_X12_arePassed_7, ha]
      · have hi := h.idle z3 z4
        obtain ⟨a1, a2, a3, a4, a5, a6, a7, a8, a9, -⟩ := hi
        exact ⟨a1, a2, a3, a4, a5, a6, a7, a8, a9, h12'⟩
