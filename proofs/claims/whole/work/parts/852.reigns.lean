theorem kReign {N m : Nat} {tcl : Int32} {tcd tst ten trw : Nat → Int32} {ucl : Int32} {ucd ust uen urw : Nat → Int32} {wcl : Int32} {wcd wst wen wrw : Nat → Int32} {xcl : Int32} {xcd xst xen xrw : Nat → Int32} {vt : Nat → Int32} {tx rul dn : Int32} {df dr fe store : Nat → Int32} {T0 : Nat → Nat} {nx c : Nat} (hN : 10000 ≤ N) (hnx : nx < 31) (hc : c ≤ 30) (hm : m ≤ 40) (hT0 : 0 < T0 1) (hT6 : T0 1 ≤ 6) (hj : T0 12 < 2147470000) :
    ∀ r n i (row a nm0 nd0 stack truth : Nat → Int32) (values : Nat → Int64) (died : Int32) (S : Nat → Nat), i + r = m → r < n → Good true (S 10) row a S → LE N tcl tcd tst ten trw ucl ucd ust uen urw wcl wcd wst wen wrw xcl xcd xst xen xrw vt tx rul dn df dr fe S → Fra (6 * i) T0 S →
    ∃ (v : Nat) (row' nm' stack' a' nd' truth' : Nat → Int32) (values' : Nat → Int64) (died' : Int32) (S' : Nat → Nat), f_X11_reigns_73 N n dn df dr row fe (nI c) (nI nx) store tx rul tcd tst ten ucd ust uen wcd wst wen xcd xst xen nm0 stack (nI m) (nI i) = some (nI v, row', nI (min (c + 1) 30), nI ((nx + 1) % 31), store, nm', stack') ∧ f_X12_reigns_52 N n a vt nd0 values truth (nI 1) died (nI m) (nI i) = some (nI v, a', nd', values', truth', died') ∧ Good true (S' 10) row' a' S' ∧ Fra (6 * m) T0 S' := by
  intro r
  induction r with
  | zero =>
    intro n i row a nm0 nd0 stack truth values died S e hn hG hE hF
    obtain ⟨n, rfl⟩ : ∃ m, n = m + 1 := ⟨n - 1, by omega⟩
    have e : i = m := by omega
    subst e
    exact ⟨S 10, row, nm0, stack, a, nd0, truth, values, died, S, by simp (maxSteps := 1000000) (disch := omega) only [li, ob1_s, ob2_s, ob3_s, ob4_s, ob5_s, ob6_s, ob7_s, gA_n, gL_n, sA_n, sL_n, cpI_n, nI_add, pk_mul, nsub, nlt_t, nlt_f, nle_t, nle_f, neq_t, neq_f, rmI_n, dvI_n, upd_ne, upd_eq, un_ne, un_eq, Nat.add_zero, Bool.false_eq_true, ↓reduceIte, f_X11_reigns_73, cKeep hnx hc, f_X1_monthNow, hG.1.1.1], by simp (maxSteps := 1000000) (disch := omega) only [li, ob1_s, ob2_s, ob3_s, ob4_s, ob5_s, ob6_s, ob7_s, gA_n, gL_n, sA_n, sL_n, cpI_n, nI_add, pk_mul, nsub, nlt_t, nlt_f, nle_t, nle_f, neq_t, neq_f, rmI_n, dvI_n, upd_ne, upd_eq, un_ne, un_eq, Nat.add_zero, Bool.false_eq_true, ↓reduceIte, f_X12_reigns_52, hG.2.1.2], hG, hF⟩
  | succ r ih =>
    intro n i row a nm0 nd0 stack truth values died S e hn hG hE hF
    obtain ⟨n, rfl⟩ : ∃ m, n = m + 1 := ⟨n - 1, by omega⟩
    have e1 : S 1 = T0 1 := hF.1 1 (by omega)
    have e12 := hF.2.2.2.1
    obtain ⟨row', nm', stack', a1, a', nd', values', truth', died', S', d1, d2, d3, d4, d5⟩ := dOnce (nm0 := nm0) (nd0 := nd0) (stack := stack) (truth := truth) (values := values) died hN hE hG (by omega) (by omega)
    have ha : a 11 = nI (S 11) := hG.2.1.2 11 (by omega) (by omega)
    obtain ⟨v, r1, r2, r3, r4, r5, r6, r7, r8, r9, q1, q2, q3, q4⟩ := ih n (i + 1) row' a' nm' nd' stack' truth' values' died' S' (by omega) (by omega) d4 (hE.fra hG.2.2.1.1 d5) ((hF.tr d5).mn (by omega))
    refine ⟨v, r1, r2, r3, r4, r5, r6, r7, r8, r9, ?_, ?_, q3, q4⟩
    · simp (maxSteps := 1000000) (disch := omega) only [li, ob1_s, ob2_s, ob3_s, ob4_s, ob5_s, ob6_s, ob7_s, gA_n, gL_n, sA_n, sL_n, cpI_n, nI_add, pk_mul, nsub, nlt_t, nlt_f, nle_t, nle_f, neq_t, neq_f, rmI_n, dvI_n, upd_ne, upd_eq, un_ne, un_eq, Nat.add_zero, Bool.false_eq_true, ↓reduceIte, f_X11_reigns_73, d1]
      exact q1
    · simp (maxSteps := 1000000) (disch := omega) only [li, ob1_s, ob2_s, ob3_s, ob4_s, ob5_s, ob6_s, ob7_s, gA_n, gL_n, sA_n, sL_n, cpI_n, nI_add, pk_mul, nsub, nlt_t, nlt_f, nle_t, nle_f, neq_t, neq_f, rmI_n, dvI_n, upd_ne, upd_eq, un_ne, un_eq, Nat.add_zero, Bool.false_eq_true, ↓reduceIte, f_X12_reigns_52, ha, d2, d3]
      exact q2
theorem st_reigns {j : Nat} {dn : Int32} {df dr row fe to : Nat → Int32} {cnt next : Int32} {store : Nat → Int32} {calls bord rep unl pay : Int32} {cl ul ga py pr : Nat → Int32} {tx rul : Int32} {a : Nat → Int32} {S : Nat → Nat} {N : Nat} {tcl : Int32} {tcd tst ten trw : Nat → Int32} {ucl : Int32} {ucd ust uen urw : Nat → Int32} {wcl : Int32} {wcd wst wen wrw : Nat → Int32} {xcl : Int32} {xcd xst xen xrw : Nat → Int32} {vt : Nat → Int32} {nm0 nd0 stack truth : Nat → Int32} {values : Nat → Int64} (died : Int32) (hN : 10000 ≤ N) (hJ : j ≤ 20000) (hT : TextsT N tcl tcd tst ten trw ucl ucd ust uen urw wcl wcd wst wen wrw xcl xcd xst xen xrw vt (S 2)) (x y : Int32) (h : RealmT j dn df dr row fe to cnt next store calls bord rep unl pay cl ul ga py pr tx rul a S) :
    ∃ (r : Int32) (row' : Nat → Int32) (cnt' next' : Int32) (store' nm' stack' a' nd' : Nat → Int32) (values' : Nat → Int64) (truth' : Nat → Int32) (died' : Int32) (S' : Nat → Nat), f_X11_reigns N dn df dr row fe cnt next store tx rul tcd tst ten ucd ust uen wcd wst wen xcd xst xen nm0 stack x y = some (r, row', cnt', next', store', nm', stack') ∧ f_X12_reigns N a vt nd0 values truth (nI 1) died x y = some (r, a', nd', values', truth', died') ∧ RealmT (j + 1) dn df dr row' fe to cnt' next' store' calls bord rep unl pay cl ul ga py pr tx rul a' S' ∧ S' 2 = S 2 := by
  have h0 := h
  have hE := h.le hT
  obtain ⟨hA, hL, hR, hW, hF, hB, hZ, hQ, hI, hj⟩ := h
  have w1 := hW.1
  obtain ⟨l1, l8, -⟩ := id hL
  obtain ⟨z1, z2, nx, z3, z4, -⟩ := id hZ
  have hR2 := hR.2.2.1
  have no : f_X11_reigns N dn df dr row fe cnt next store tx rul tcd tst ten ucd ust uen wcd wst wen xcd xst xen nm0 stack x y = some (-nI 1, row, cnt, next, store, nm0, stack) → f_X12_reigns N a vt nd0 values truth (nI 1) died x y = some (-nI 1, a, nd0, values, truth, died) → ∃ (r : Int32) (row' : Nat → Int32) (cnt' next' : Int32) (store' nm' stack' a' nd' : Nat → Int32) (values' : Nat → Int64) (truth' : Nat → Int32) (died' : Int32) (S' : Nat → Nat), f_X11_reigns N dn df dr row fe cnt next store tx rul tcd tst ten ucd ust uen wcd wst wen xcd xst xen nm0 stack x y = some (r, row', cnt', next', store', nm', stack') ∧ f_X12_reigns N a vt nd0 values truth (nI 1) died x y = some (r, a', nd', values', truth', died') ∧ RealmT (j + 1) dn df dr row' fe to cnt' next' store' calls bord rep unl pay cl ul ga py pr tx rul a' S' ∧ S' 2 = S 2 :=
    fun e1 e2 => ⟨-nI 1, row, cnt, next, store, nm0, stack, a, nd0, values, truth, died, S, e1, e2, h0.later, rfl⟩
  rcases inOut x 10000 (by omega) with hx | ⟨s, hs, rfl⟩
  · refine no ?_ (by simp only [f_X12_reigns, li, isIn_outT (m := 9999) hx (by omega) (by omega), ob1_s, ↓reduceIte])
    rcases hx with g | ⟨g, g0⟩
    · simp only [f_X11_reigns, li, g, ↓reduceIte]
    · simp only [f_X11_reigns, li, g0, ge_lt (n := 10000) (m := 9999) (by omega) (by omega) g, ↓reduceIte]
  rcases inOut y 41 (by omega) with hy | ⟨m, hm, rfl⟩
  · have e : f_X12_isIn N y (nI 1) (nI 40) = some (nI 0) := by
      rcases hy with g | ⟨g, g0⟩
      · simp only [f_X12_isIn, li, neg_lt (m := 1) (by omega) g, ↓reduceIte]
      · simp only [f_X12_isIn, li, ge_nlt (n := 41) (m := 1) (by omega) (by omega) g, ge_lt (n := 41) (m := 40) (by omega) (by omega) g, ↓reduceIte]
    refine no ?_ (by simp (maxSteps := 1000000) (disch := omega) only [li, ob1_s, ob2_s, ob3_s, ob4_s, ob5_s, ob6_s, ob7_s, gA_n, gL_n, sA_n, sL_n, cpI_n, nI_add, pk_mul, nsub, nlt_t, nlt_f, nle_t, nle_f, neq_t, neq_f, rmI_n, dvI_n, upd_ne, upd_eq, un_ne, un_eq, Nat.add_zero, Bool.false_eq_true, ↓reduceIte, f_X12_reigns, isIn_in, e])
    rcases hy with g | ⟨g, g0⟩
    · simp (maxSteps := 1000000) (disch := omega) only [li, ob1_s, ob2_s, ob3_s, ob4_s, ob5_s, ob6_s, ob7_s, gA_n, gL_n, sA_n, sL_n, cpI_n, nI_add, pk_mul, nsub, nlt_t, nlt_f, nle_t, nle_f, neq_t, neq_f, rmI_n, dvI_n, upd_ne, upd_eq, un_ne, un_eq, Nat.add_zero, Bool.false_eq_true, ↓reduceIte, f_X11_reigns, neg_lt (m := 1) (by omega) g]
    · simp (maxSteps := 1000000) (disch := omega) only [li, ob1_s, ob2_s, ob3_s, ob4_s, ob5_s, ob6_s, ob7_s, gA_n, gL_n, sA_n, sL_n, cpI_n, nI_add, pk_mul, nsub, nlt_t, nlt_f, nle_t, nle_f, neq_t, neq_f, rmI_n, dvI_n, upd_ne, upd_eq, un_ne, un_eq, Nat.add_zero, Bool.false_eq_true, ↓reduceIte, f_X11_reigns, ge_nlt (n := 41) (m := 1) (by omega) (by omega) g, ge_nle (n := 41) (m := 40) (by omega) (by omega) g]
  rcases Nat.eq_zero_or_pos m with e0 | e0
  · subst e0
    have e : f_X12_isIn N (nI 0) (nI 1) (nI 40) = some (nI 0) := by simp (maxSteps := 1000000) (disch := omega) only [li, ob1_s, ob2_s, ob3_s, ob4_s, ob5_s, ob6_s, ob7_s, gA_n, gL_n, sA_n, sL_n, cpI_n, nI_add, pk_mul, nsub, nlt_t, nlt_f, nle_t, nle_f, neq_t, neq_f, rmI_n, dvI_n, upd_ne, upd_eq, un_ne, un_eq, Nat.add_zero, Bool.false_eq_true, ↓reduceIte, f_X12_isIn]
    exact no (by simp (maxSteps := 1000000) (disch := omega) only [li, ob1_s, ob2_s, ob3_s, ob4_s, ob5_s, ob6_s, ob7_s, gA_n, gL_n, sA_n, sL_n, cpI_n, nI_add, pk_mul, nsub, nlt_t, nlt_f, nle_t, nle_f, neq_t, neq_f, rmI_n, dvI_n, upd_ne, upd_eq, un_ne, un_eq, Nat.add_zero, Bool.false_eq_true, ↓reduceIte, f_X11_reigns]) (by simp (maxSteps := 1000000) (disch := omega) only [li, ob1_s, ob2_s, ob3_s, ob4_s, ob5_s, ob6_s, ob7_s, gA_n, gL_n, sA_n, sL_n, cpI_n, nI_add, pk_mul, nsub, nlt_t, nlt_f, nle_t, nle_f, neq_t, neq_f, rmI_n, dvI_n, upd_ne, upd_eq, un_ne, un_eq, Nat.add_zero, Bool.false_eq_true, ↓reduceIte, f_X12_reigns, isIn_in, e])
  rcases Nat.eq_zero_or_pos (S 1) with e1 | e1
  · exact no (by simp (maxSteps := 1000000) (disch := omega) only [li, ob1_s, ob2_s, ob3_s, ob4_s, ob5_s, ob6_s, ob7_s, gA_n, gL_n, sA_n, sL_n, cpI_n, nI_add, pk_mul, nsub, nlt_t, nlt_f, nle_t, nle_f, neq_t, neq_f, rmI_n, dvI_n, upd_ne, upd_eq, un_ne, un_eq, Nat.add_zero, Bool.false_eq_true, ↓reduceIte, f_X11_reigns, f_X1_count, hR2, e1]) (by simp (maxSteps := 1000000) (disch := omega) only [li, ob1_s, ob2_s, ob3_s, ob4_s, ob5_s, ob6_s, ob7_s, gA_n, gL_n, sA_n, sL_n, cpI_n, nI_add, pk_mul, nsub, nlt_t, nlt_f, nle_t, nle_f, neq_t, neq_f, rmI_n, dvI_n, upd_ne, upd_eq, un_ne, un_eq, Nat.add_zero, Bool.false_eq_true, ↓reduceIte, f_X12_reigns, isIn_in, hA.2, e1])
  have hn : 0 < S 0 := by have := (hW.part e1).1; omega
  obtain ⟨a1, k1, k2⟩ := rKeep hN hA z2
  have hG := h0.good (nx := nx) k2
  have ee : ∀ i, i ≠ 4 → i < 142 → kpS S i = S i := fun i h4 h1 => kp_o (by omega) h4
  have hG2 := hG.x (v := s * 2 + 149) (by omega)
  have f1 : Fra 0 (kpS S) (un (kpS S) 11 (s * 2 + 149)) := Fra.x _ _
  have u10 : un (kpS S) 11 (s * 2 + 149) 10 = S 10 := by rw [un_ne (by omega), ee 10 (by omega) (by omega)]
  have k12 : kpS S 12 = S 12 := ee 12 (by omega) (by omega)
  have k1' : kpS S 1 = S 1 := ee 1 (by omega) (by omega)
  obtain ⟨v, row', nm', stack', a', nd', truth', values', died', S', q1, q2, q3, q4⟩ := kReign (m := m) (store := va_cpy row store 0 (76 * nx) 76) (T0 := kpS S) hN z3 z2 (by omega) (by omega) (by omega) (by omega) m N 0 _ _ nm0 nd0 stack truth values died _ (by omega) (by omega) (by rw [u10]; exact hG2) ((hE.kp w1).fra (by omega) f1) f1
  obtain ⟨t1, t2, t3⟩ := h0.deed (n := 6 * m) (nx := nx) z3 z4 q3 q4 (by omega)
  refine ⟨nI v, row', _, _, _, nm', stack', a', nd', values', truth', died', S', ?_, ?_, t1 (j + 1) (by omega), t2⟩
  · have ca := cAhead (N := N) (row := row) (store := store) z3
    rw [z4, z1, l1]
    rw [l1] at q1
    simp (maxSteps := 1000000) (disch := omega) only [li, ob1_s, ob2_s, ob3_s, ob4_s, ob5_s, ob6_s, ob7_s, gA_n, gL_n, sA_n, sL_n, cpI_n, nI_add, pk_mul, nsub, nlt_t, nlt_f, nle_t, nle_f, neq_t, neq_f, rmI_n, dvI_n, upd_ne, upd_eq, un_ne, un_eq, Nat.add_zero, Bool.false_eq_true, ↓reduceIte, f_X11_reigns, f_X1_count, f_X1_setX, hR2, ca]
    exact q1
  · simp (maxSteps := 1000000) (disch := omega) only [li, ob1_s, ob2_s, ob3_s, ob4_s, ob5_s, ob6_s, ob7_s, gA_n, gL_n, sA_n, sL_n, cpI_n, nI_add, pk_mul, nsub, nlt_t, nlt_f, nle_t, nle_f, neq_t, neq_f, rmI_n, dvI_n, upd_ne, upd_eq, un_ne, un_eq, Nat.add_zero, Bool.false_eq_true, ↓reduceIte, f_X12_reigns, isIn_in, hA.2, k1]
    exact q2
