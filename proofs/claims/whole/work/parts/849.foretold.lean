theorem Fra.dream {n : Nat} {S T : Nat → Nat} (h : Fra n S T) (e12 : T 12 = S 12) : ∀ i, i < 8762 → ¬ (10 ≤ i ∧ i < 80) → T i = S i := by
  intro i hi hn
  rcases Nat.lt_or_ge i 1522 with c | c
  · exact h.1 i (by omega)
  · have := h.2.2.2.2 (i - 1522) (by omega) (fun t h1 h2 => by omega)
    rw [show 1522 + (i - 1522) = i by omega] at this
    exact this
theorem kFore {N m p : Nat} {tcl : Int32} {tcd tst ten trw : Nat → Int32} {ucl : Int32} {ucd ust uen urw : Nat → Int32} {wcl : Int32} {wcd wst wen wrw : Nat → Int32} {xcl : Int32} {xcd xst xen xrw : Nat → Int32} {vt : Nat → Int32} {dn tx rul : Int32} {df dr row fe to hfe hto as : Nat → Int32} {S : Nat → Nat} (g : Int32) (hN : 10000 ≤ N) (hp : p < S 1) (h6 : S 1 ≤ 6) (has : ∀ i, 10 ≤ i → i < 80 → as i = nI (S i)) (hj : S 12 < 2147482000) :
    ∀ r n i (hrow a nm0 nd0 stack truth : Nat → Int32) (values : Nat → Int64) (died : Int32) (S0 : Nat → Nat), i + r = m → r < n → m ≤ 60 → Good false (S0 10) hrow a S0 → LE N tcl tcd tst ten trw ucl ucd ust uen urw wcl wcd wst wen wrw xcl xcd xst xen xrw vt tx rul dn df dr hfe S0 → (∀ i, i < 8762 → ¬ (10 ≤ i ∧ i < 80) → S0 i = S i) → S0 12 = S 12 →
    ∃ v nm' stack' hrow' a' nd' values' truth' died', f_X11_foretold_38 N n dn df row fe to tx rul tcd tst ten ucd ust uen wcd wst wen xcd xst xen nm0 stack hrow hfe hto (nI m) (nI p) g (nI i) = some (v, nm', stack', hrow', hfe, hto) ∧ f_X12_foretold_27 N n a vt nd0 values truth (nI 0) died as (nI m) (nI p) g (nI i) = some (v, a', nd', values', truth', nI 1, died', as) ∧ TieA a' S := by
  intro r
  induction r with
  | zero =>
    intro n i hrow a nm0 nd0 stack truth values died S0 e hn hm hG hE hag h12
    obtain ⟨n, rfl⟩ : ∃ m, n = m + 1 := ⟨n - 1, by omega⟩
    have e : i = m := by omega
    subst e
    obtain ⟨⟨hR, hB⟩, hA, hW, hO, h8⟩ := id hG
    have e1 : S0 1 = S 1 := hag 1 (by omega) (by omega)
    obtain ⟨a', k1, k2⟩ := rBack (N := N) (iw := nI 0) (by omega) hA has hag
    by_cases hg : g = nI 0
    · exact ⟨nI (S0 (14 + 11 * p + 6)), nm0, stack, hrow, a', nd0, values, truth, died, by simp (maxSteps := 1000000) (disch := omega) only [li, ob1_s, ob2_s, ob3_s, ob4_s, ob5_s, ob6_s, ob7_s, gA_n, gL_n, sA_n, sL_n, cpI_n, nI_add, pk_mul, nsub, nlt_t, nlt_f, nle_t, nle_f, neq_t, neq_f, rmI_n, dvI_n, upd_ne, upd_eq, un_ne, un_eq, Nat.add_zero, Bool.false_eq_true, ↓reduceIte, f_X11_foretold_38, f_X11_foretold_73, hg, cget hR hW.1], by simp (maxSteps := 1000000) (disch := omega) only [li, ob1_s, ob2_s, ob3_s, ob4_s, ob5_s, ob6_s, ob7_s, gA_n, gL_n, sA_n, sL_n, cpI_n, nI_add, pk_mul, nsub, nlt_t, nlt_f, nle_t, nle_f, neq_t, neq_f, rmI_n, dvI_n, upd_ne, upd_eq, un_ne, un_eq, Nat.add_zero, Bool.false_eq_true, ↓reduceIte, f_X12_foretold_27, f_X12_foretold_68, hg, rget hA, k1], k2⟩
    · exact ⟨nI (S0 (14 + 11 * p + 1)), nm0, stack, hrow, a', nd0, values, truth, died, by simp (maxSteps := 1000000) (disch := omega) only [li, ob1_s, ob2_s, ob3_s, ob4_s, ob5_s, ob6_s, ob7_s, gA_n, gL_n, sA_n, sL_n, cpI_n, nI_add, pk_mul, nsub, nlt_t, nlt_f, nle_t, nle_f, neq_t, neq_f, rmI_n, dvI_n, upd_ne, upd_eq, un_ne, un_eq, Nat.add_zero, Bool.false_eq_true, ↓reduceIte, f_X11_foretold_38, f_X11_foretold_73, hg, cget hR hW.1], by simp (maxSteps := 1000000) (disch := omega) only [li, ob1_s, ob2_s, ob3_s, ob4_s, ob5_s, ob6_s, ob7_s, gA_n, gL_n, sA_n, sL_n, cpI_n, nI_add, pk_mul, nsub, nlt_t, nlt_f, nle_t, nle_f, neq_t, neq_f, rmI_n, dvI_n, upd_ne, upd_eq, un_ne, un_eq, Nat.add_zero, Bool.false_eq_true, ↓reduceIte, f_X12_foretold_27, f_X12_foretold_68, hg, rget hA, k1], k2⟩
  | succ r ih =>
    intro n i hrow a nm0 nd0 stack truth values died S0 e hn hm hG hE hag h12
    obtain ⟨n, rfl⟩ : ∃ m, n = m + 1 := ⟨n - 1, by omega⟩
    obtain ⟨⟨hR, hB⟩, hA, hW, hO, h8⟩ := id hG
    have w2 := hW.2.1
    by_cases hm9 : S0 10 < 9999
    · obtain ⟨d, hrow', nm', stack', a', nd', values', truth', S', g1, g2, g3, g4, g5, g6, g7⟩ := dMonth (w := false) (nm0 := nm0) (nd0 := nd0) (stack := stack) (truth := truth) (values := values) died hN hE hG hm9 (by omega)
      have e12 := g7 rfl
      have g3 : f_X12_goOn N a vt nd0 values truth (nI 0) died = some (a', nd', values', truth', addD died d) := g3
      obtain ⟨v, r1, r2, r3, r4, r5, r6, r7, r8, q1, q2, q3⟩ := ih n (i + 1) hrow' a' nm' nd' stack' truth' values' _ S' (by omega) (by omega) hm g4 (hE.fra hW.1 g5) (fun q hq hn => by rw [g5.dream e12 q hq hn]; exact hag q hq hn) (by omega)
      refine ⟨v, r1, r2, r3, r4, r5, r6, r7, r8, ?_, ?_, q3⟩
      · simp (maxSteps := 1000000) (disch := omega) only [li, ob1_s, ob2_s, ob3_s, ob4_s, ob5_s, ob6_s, ob7_s, gA_n, gL_n, sA_n, sL_n, cpI_n, nI_add, pk_mul, nsub, nlt_t, nlt_f, nle_t, nle_f, neq_t, neq_f, rmI_n, dvI_n, upd_ne, upd_eq, un_ne, un_eq, Nat.add_zero, Bool.false_eq_true, ↓reduceIte, f_X11_foretold_38, g2]
        exact q1
      · simp (maxSteps := 1000000) (disch := omega) only [li, ob1_s, ob2_s, ob3_s, ob4_s, ob5_s, ob6_s, ob7_s, gA_n, gL_n, sA_n, sL_n, cpI_n, nI_add, pk_mul, nsub, nlt_t, nlt_f, nle_t, nle_f, neq_t, neq_f, rmI_n, dvI_n, upd_ne, upd_eq, un_ne, un_eq, Nat.add_zero, Bool.false_eq_true, ↓reduceIte, f_X12_foretold_27, f_X12_foretold_50, hA.2, g3]
        exact q2
    · obtain ⟨v, r1, r2, r3, r4, r5, r6, r7, r8, q1, q2, q3⟩ := ih n (i + 1) hrow a nm0 nd0 stack truth values died S0 (by omega) (by omega) hm hG hE hag h12
      refine ⟨v, r1, r2, r3, r4, r5, r6, r7, r8, ?_, ?_, q3⟩
      · have pm : f_X0_passMonth N dn df tcd tst ten ucd ust uen wcd wst wen xcd xst xen hrow hfe tx rul nm0 stack = some (-nI 1, hrow, nm0, stack) := by simp (maxSteps := 1000000) (disch := omega) only [li, ob1_s, ob2_s, ob3_s, ob4_s, ob5_s, ob6_s, ob7_s, gA_n, gL_n, sA_n, sL_n, cpI_n, nI_add, pk_mul, nsub, nlt_t, nlt_f, nle_t, nle_f, neq_t, neq_f, rmI_n, dvI_n, upd_ne, upd_eq, un_ne, un_eq, Nat.add_zero, Bool.false_eq_true, ↓reduceIte, f_X0_passMonth, f_X1_monthNow, hR.1]
        simp (maxSteps := 1000000) (disch := omega) only [li, ob1_s, ob2_s, ob3_s, ob4_s, ob5_s, ob6_s, ob7_s, gA_n, gL_n, sA_n, sL_n, cpI_n, nI_add, pk_mul, nsub, nlt_t, nlt_f, nle_t, nle_f, neq_t, neq_f, rmI_n, dvI_n, upd_ne, upd_eq, un_ne, un_eq, Nat.add_zero, Bool.false_eq_true, ↓reduceIte, f_X11_foretold_38, pm]
        exact q1
      · simp (maxSteps := 1000000) (disch := omega) only [li, ob1_s, ob2_s, ob3_s, ob4_s, ob5_s, ob6_s, ob7_s, gA_n, gL_n, sA_n, sL_n, cpI_n, nI_add, pk_mul, nsub, nlt_t, nlt_f, nle_t, nle_f, neq_t, neq_f, rmI_n, dvI_n, upd_ne, upd_eq, un_ne, un_eq, Nat.add_zero, Bool.false_eq_true, ↓reduceIte, f_X12_foretold_27, f_X12_foretold_50, hA.2]
        exact q2
theorem RealmT.dream {j : Nat} {dn : Int32} {df dr row fe to : Nat → Int32} {cnt next : Int32} {store : Nat → Int32} {calls bord rep unl pay : Int32} {cl ul ga py pr : Nat → Int32} {tx rul : Int32} {a : Nat → Int32} {S : Nat → Nat} {N : Nat} {tcl : Int32} {tcd tst ten trw : Nat → Int32} {ucl : Int32} {ucd ust uen urw : Nat → Int32} {wcl : Int32} {wcd wst wen wrw : Nat → Int32} {xcl : Int32} {xcd xst xen xrw : Nat → Int32} {vt : Nat → Int32} {h_row h_fe : Nat → Int32} (h : RealmT j dn df dr row fe to cnt next store calls bord rep unl pay cl ul ga py pr tx rul a S) (hT : TextsT N tcl tcd tst ten trw ucl ucd ust uen urw wcl wcd wst wen wrw xcl xcd xst xen xrw vt (S 2)) : Good false (S 10) (va_cpy row h_row 0 0 76) a S ∧ LE N tcl tcd tst ten trw ucl ucd ust uen urw wcl wcd wst wen wrw xcl xcd xst xen xrw vt tx rul dn df dr (va_cpy fe h_fe 0 0 6) S := by
  have hE := h.le hT
  obtain ⟨hA, hL, hR, hW, hF, hB, hZ, hQ, hI, hj⟩ := h
  exact ⟨⟨⟨hR.same hW.1 (fun i hi => cpy0 hi), fun h => by cases h⟩, hA, hW.x, hW.ob, hL.2.1⟩, hE.fe hW.1 (fun i hi => cpy0 hi)⟩
theorem st_foretold {j : Nat} {dn : Int32} {df dr row fe to : Nat → Int32} {cnt next : Int32} {store : Nat → Int32} {calls bord rep unl pay : Int32} {cl ul ga py pr : Nat → Int32} {tx rul : Int32} {a : Nat → Int32} {S : Nat → Nat} {N : Nat} {tcl : Int32} {tcd tst ten trw : Nat → Int32} {ucl : Int32} {ucd ust uen urw : Nat → Int32} {wcl : Int32} {wcd wst wen wrw : Nat → Int32} {xcl : Int32} {xcd xst xen xrw : Nat → Int32} {vt : Nat → Int32} {nm0 nd0 stack truth h_row h_fe h_to as : Nat → Int32} {values : Nat → Int64} (died : Int32) (hN : 10000 ≤ N) (hJ : j ≤ 20000) (hT : TextsT N tcl tcd tst ten trw ucl ucd ust uen urw wcl wcd wst wen wrw xcl xcd xst xen xrw vt (S 2)) (x y g : Int32) (h : RealmT j dn df dr row fe to cnt next store calls bord rep unl pay cl ul ga py pr tx rul a S) :
    ∃ (r : Int32) (nm' stack' hr' hf' ht' a' nd' : Nat → Int32) (values' : Nat → Int64) (truth' : Nat → Int32) (died' : Int32) (as' : Nat → Int32), f_X11_foretold N dn df row fe to tx rul tcd tst ten ucd ust uen wcd wst wen xcd xst xen nm0 stack h_row h_fe h_to x y g = some (r, nm', stack', hr', hf', ht') ∧ f_X12_foretold N a vt nd0 values truth (nI 1) died as x y g = some (r, a', nd', values', truth', nI 1, died', as') ∧ RealmT (j + 1) dn df dr row fe to cnt next store calls bord rep unl pay cl ul ga py pr tx rul a' S := by
  have h0 := h
  obtain ⟨hG, hE⟩ := h.dream (h_row := h_row) (h_fe := h_fe) hT
  obtain ⟨hA, hL, hR, hW, hF, hB, hZ, hQ, hI, hj⟩ := h
  have w1 := hW.1
  have fin : ∀ a', TieA a' S → RealmT (j + 1) dn df dr row fe to cnt next store calls bord rep unl pay cl ul ga py pr tx rul a' S := fun a' h => ⟨h, hL, hR, hW, hF, hB, hZ, hQ, hI, by omega⟩
  have no1 : f_X12_isIn N x (nI 1) (nI 60) = some (nI 0) → (x < nI 1 ∨ (¬ x < nI 1 ∧ nI 60 < x)) → ∃ (r : Int32) (nm' stack' hr' hf' ht' a' nd' : Nat → Int32) (values' : Nat → Int64) (truth' : Nat → Int32) (died' : Int32) (as' : Nat → Int32), f_X11_foretold N dn df row fe to tx rul tcd tst ten ucd ust uen wcd wst wen xcd xst xen nm0 stack h_row h_fe h_to x y g = some (r, nm', stack', hr', hf', ht') ∧ f_X12_foretold N a vt nd0 values truth (nI 1) died as x y g = some (r, a', nd', values', truth', nI 1, died', as') ∧ RealmT (j + 1) dn df dr row fe to cnt next store calls bord rep unl pay cl ul ga py pr tx rul a' S := by
    intro e hx
    refine ⟨-nI 1, nm0, stack, h_row, h_fe, h_to, a, nd0, values, truth, died, as, ?_, ?_, h0.later⟩
    · rcases hx with hx | ⟨hx, hx2⟩
      · simp only [f_X11_foretold, li, hx, ↓reduceIte]
      · simp only [f_X11_foretold, li, hx, hx2, ↓reduceIte]
    · simp only [f_X12_foretold, li, e, ob1_s, ↓reduceIte]
  rcases inOut x 61 (by omega) with hx | ⟨m, hm, rfl⟩
  · rcases hx with q | ⟨q, q0⟩
    · exact no1 (by simp only [f_X12_isIn, li, neg_lt (m := 1) (by omega) q, ↓reduceIte]) (Or.inl (neg_lt (by omega) q))
    · exact no1 (by simp only [f_X12_isIn, li, ge_nlt (n := 61) (m := 1) (by omega) (by omega) q, ge_lt (n := 61) (m := 60) (by omega) (by omega) q, ↓reduceIte]) (Or.inr ⟨ge_nlt (n := 61) (by omega) (by omega) q, ge_lt (n := 61) (by omega) (by omega) q⟩)
  rcases Nat.eq_zero_or_pos m with e0 | e0
  · subst e0
    exact no1 (by simp (maxSteps := 1000000) (disch := omega) only [li, ob1_s, ob2_s, ob3_s, ob4_s, ob5_s, ob6_s, ob7_s, gA_n, gL_n, sA_n, sL_n, cpI_n, nI_add, pk_mul, nsub, nlt_t, nlt_f, nle_t, nle_f, neq_t, neq_f, rmI_n, dvI_n, upd_ne, upd_eq, un_ne, un_eq, Nat.add_zero, Bool.false_eq_true, ↓reduceIte, f_X12_isIn]) (Or.inl (nI_lt (by omega) (by omega)))
  rcases inOut y (S 1) (by omega) with hy | ⟨p, hp, rfl⟩
  · refine ⟨-nI 1, nm0, stack, h_row, h_fe, h_to, a, nd0, values, truth, died, as, ?_, ?_, h0.later⟩
    · simp (maxSteps := 1000000) (disch := omega) only [li, ob1_s, ob2_s, ob3_s, ob4_s, ob5_s, ob6_s, ob7_s, gA_n, gL_n, sA_n, sL_n, cpI_n, nI_add, pk_mul, nsub, nlt_t, nlt_f, nle_t, nle_f, neq_t, neq_f, rmI_n, dvI_n, upd_ne, upd_eq, un_ne, un_eq, Nat.add_zero, Bool.false_eq_true, ↓reduceIte, f_X11_foretold, cPers_out hR hy]
    · simp (maxSteps := 1000000) (disch := omega) only [li, ob1_s, ob2_s, ob3_s, ob4_s, ob5_s, ob6_s, ob7_s, gA_n, gL_n, sA_n, sL_n, cpI_n, nI_add, pk_mul, nsub, nlt_t, nlt_f, nle_t, nle_f, neq_t, neq_f, rmI_n, dvI_n, upd_ne, upd_eq, un_ne, un_eq, Nat.add_zero, Bool.false_eq_true, ↓reduceIte, f_X12_foretold, isIn_in, rPers_out hA w1 hy]
  obtain ⟨as1, k1, k2⟩ := rAside (N := N) (a := a) (as := as) (iw := nI 1) (by omega)
  obtain ⟨v, r1, r2, r3, r4, r5, r6, r7, r8, q1, q2, q3⟩ := kFore (m := m) (p := p) (row := row) (fe := fe) (to := to) (hto := va_cpy to h_to 0 0 18) (as := as1) g hN hp w1 (fun i h1 h2 => by rw [k2 i h1 h2]; exact hA.2 i (by omega) (by omega)) (by omega) m N 0 _ a nm0 nd0 stack truth values died S (by omega) (by omega) (by omega) hG hE (fun _ _ _ => rfl) rfl
  refine ⟨v, r1, r2, r3, va_cpy fe h_fe 0 0 6, va_cpy to h_to 0 0 18, r4, r5, r6, r7, r8, as1, ?_, ?_, fin r4 q3⟩
  · simp (maxSteps := 1000000) (disch := omega) only [li, ob1_s, ob2_s, ob3_s, ob4_s, ob5_s, ob6_s, ob7_s, gA_n, gL_n, sA_n, sL_n, cpI_n, nI_add, pk_mul, nsub, nlt_t, nlt_f, nle_t, nle_f, neq_t, neq_f, rmI_n, dvI_n, upd_ne, upd_eq, un_ne, un_eq, Nat.add_zero, Bool.false_eq_true, ↓reduceIte, f_X11_foretold, cPers_in hR w1, cDream]
    exact q1
  · simp (maxSteps := 1000000) (disch := omega) only [li, ob1_s, ob2_s, ob3_s, ob4_s, ob5_s, ob6_s, ob7_s, gA_n, gL_n, sA_n, sL_n, cpI_n, nI_add, pk_mul, nsub, nlt_t, nlt_f, nle_t, nle_f, neq_t, neq_f, rmI_n, dvI_n, upd_ne, upd_eq, un_ne, un_eq, Nat.add_zero, Bool.false_eq_true, ↓reduceIte, f_X12_foretold, isIn_in, rPers_in hA w1, k1]
    exact q2
theorem kPayW {N p q : Nat} {tcl : Int32} {tcd tst ten trw : Nat → Int32} {ucl : Int32} {ucd ust uen urw : Nat → Int32} {wcl : Int32} {wcd wst wen wrw : Nat → Int32} {xcl : Int32} {xcd xst xen xrw : Nat → Int32} {vt : Nat → Int32} {dn tx rul : Int32} {df dr row fe to hfe hto as : Nat → Int32} {S : Nat → Nat} (hN : 10000 ≤ N) (hp : p < S 1) (hq : q < S 1) (h6 : S 1 ≤ 6) (has : ∀ i, 10 ≤ i → i < 80 → as i = nI (S i)) (hj : S 12 < 2147482000) :
    ∀ r n i (hrow a nm0 nd0 stack truth : Nat → Int32) (values : Nat → Int64) (died : Int32) (S0 : Nat → Nat), i + r = 61 → r + 1 < n → Good false (S0 10) hrow a S0 → LE N tcl tcd tst ten trw ucl ucd ust uen urw wcl wcd wst wen wrw xcl xcd xst xen xrw vt tx rul dn df dr hfe S0 → (∀ i, i < 8762 → ¬ (10 ≤ i ∧ i < 80) → S0 i = S i) → S0 12 = S 12 →
    ∃ v nm' stack' hrow' a' nd' values' truth' died', f_X11_toPay_37 N n dn df row fe to tx rul tcd tst ten ucd ust uen wcd wst wen xcd xst xen nm0 stack hrow hfe hto (nI p) (nI q) (nI i) = some (v, nm', stack', hrow', hfe, hto) ∧ f_X12_toPay_27 N n a vt nd0 values truth (nI 0) died as (nI p) (nI q) (-nI 1) (nI i) = some (v, a', nd', values', truth', nI 1, died', as) ∧ TieA a' S := by
  intro r
  induction r with
  | zero =>
    intro n i hrow a nm0 nd0 stack truth values died S0 e hn hG hE hag h12
    obtain ⟨n, rfl⟩ : ∃ m, n = m + 1 := ⟨n - 1, by omega⟩
    have e : i = 61 := by omega
    subst e
    obtain ⟨a', k1, k2⟩ := rBack (N := N) (iw := nI 0) (by omega) hG.2.1 has hag
    exact ⟨-nI 1, nm0, stack, hrow, a', nd0, values, truth, died, by simp (maxSteps := 1000000) (disch := omega) only [li, ob1_s, ob2_s, ob3_s, ob4_s, ob5_s, ob6_s, ob7_s, gA_n, gL_n, sA_n, sL_n, cpI_n, nI_add, pk_mul, nsub, nlt_t, nlt_f, nle_t, nle_f, neq_t, neq_f, rmI_n, dvI_n, upd_ne, upd_eq, un_ne, un_eq, Nat.add_zero, Bool.false_eq_true, ↓reduceIte, f_X11_toPay_37], by simp (maxSteps := 1000000) (disch := omega) only [li, ob1_s, ob2_s, ob3_s, ob4_s, ob5_s, ob6_s, ob7_s, gA_n, gL_n, sA_n, sL_n, cpI_n, nI_add, pk_mul, nsub, nlt_t, nlt_f, nle_t, nle_f, neq_t, neq_f, rmI_n, dvI_n, upd_ne, upd_eq, un_ne, un_eq, Nat.add_zero, Bool.false_eq_true, ↓reduceIte, f_X12_toPay_27, f_X12_toPay_77, k1], k2⟩
  | succ r ih =>
    intro n i hrow a nm0 nd0 stack truth values died S0 e hn hG hE hag h12
    obtain ⟨n, rfl⟩ : ∃ m, n = m + 2 := ⟨n - 2, by omega⟩
    obtain ⟨⟨hR, hB⟩, hA, hW, hO, h8⟩ := id hG
    have w2 := hW.2.1
    have e1 : S0 1 = S 1 := hag 1 (by omega) (by omega)
    obtain ⟨nm', stack', nd', values', truth', gg⟩ := dCan (nm0 := nm0) (nd0 := nd0) (stack := stack) (truth := truth) (values := values) hN hE hR hA hW (show p < S0 1 by omega) (show q < S0 1 by omega)
    have back : ∀ (a2 : Nat → Int32) (S2 : Nat → Nat), TieA a2 S2 → (∀ i, i < 8762 → ¬ (10 ≤ i ∧ i < 80) → S2 i = S i) → ∃ a', f_X12_putBack N a2 (nI 0) as = some (a', nI 1) ∧ TieA a' S := fun a2 S2 h1 h2 => rBack (N := N) (iw := nI 0) (by omega) h1 has h2
    rcases gg with ⟨c1, c2⟩ | ⟨v, hv, hvg, c1, c2, c3⟩
    · by_cases hm9 : S0 10 < 9999
      · obtain ⟨d, hrow', nm2, stack2, a', nd2, values2, truth2, S', g1, g2, g3, g4, g5, g6, g7⟩ := dMonth (w := false) (nm0 := nm') (nd0 := nd') (stack := stack') (truth := truth') (values := values') died hN hE hG hm9 (by omega)
        have e12 := g7 rfl
        have g3 : f_X12_goOn N a vt nd' values' truth' (nI 0) died = some (a', nd2, values2, truth2, addD died d) := g3
        obtain ⟨v, r1, r2, r3, r4, r5, r6, r7, r8, q1, q2, q3⟩ := ih (n + 1) (i + 1) hrow' a' nm2 nd2 stack2 truth2 values2 _ S' (by omega) (by omega) g4 (hE.fra hW.1 g5) (fun q hq hn => by rw [g5.dream e12 q hq hn]; exact hag q hq hn) (by omega)
        have hmd : ¬ nI d = -nI 1 := m1_ne (by omega)
        refine ⟨v, r1, r2, r3, r4, r5, r6, r7, r8, ?_, ?_, q3⟩
        · rw [f_X11_toPay_37]
          simp (maxSteps := 1000000) (disch := omega) only [li, ob1_s, ob2_s, ob3_s, ob4_s, ob5_s, ob6_s, ob7_s, gA_n, gL_n, sA_n, sL_n, cpI_n, nI_add, pk_mul, nsub, nlt_t, nlt_f, nle_t, nle_f, neq_t, neq_f, rmI_n, dvI_n, upd_ne, upd_eq, un_ne, un_eq, Nat.add_zero, Bool.false_eq_true, ↓reduceIte, c1, g2, hmd]
          exact q1
        · rw [f_X12_toPay_27]
          simp (maxSteps := 1000000) (disch := omega) only [li, ob1_s, ob2_s, ob3_s, ob4_s, ob5_s, ob6_s, ob7_s, gA_n, gL_n, sA_n, sL_n, cpI_n, nI_add, pk_mul, nsub, nlt_t, nlt_f, nle_t, nle_f, neq_t, neq_f, rmI_n, dvI_n, upd_ne, upd_eq, un_ne, un_eq, Nat.add_zero, Bool.false_eq_true, ↓reduceIte, f_X12_toPay_51, c2, hA.2, g3]
          exact q2
      · obtain ⟨a', k1, k2⟩ := back a S0 hA hag
        have pm : f_X0_passMonth N dn df tcd tst ten ucd ust uen wcd wst wen xcd xst xen hrow hfe tx rul nm' stack' = some (-nI 1, hrow, nm', stack') := by simp (maxSteps := 1000000) (disch := omega) only [li, ob1_s, ob2_s, ob3_s, ob4_s, ob5_s, ob6_s, ob7_s, gA_n, gL_n, sA_n, sL_n, cpI_n, nI_add, pk_mul, nsub, nlt_t, nlt_f, nle_t, nle_f, neq_t, neq_f, rmI_n, dvI_n, upd_ne, upd_eq, un_ne, un_eq, Nat.add_zero, Bool.false_eq_true, ↓reduceIte, f_X0_passMonth, f_X1_monthNow, hR.1]
        refine ⟨-nI 1, nm', stack', hrow, a', nd', values', truth', died, ?_, ?_, k2⟩
        · rw [f_X11_toPay_37]
          simp (maxSteps := 1000000) (disch := omega) only [li, ob1_s, ob2_s, ob3_s, ob4_s, ob5_s, ob6_s, ob7_s, gA_n, gL_n, sA_n, sL_n, cpI_n, nI_add, pk_mul, nsub, nlt_t, nlt_f, nle_t, nle_f, neq_t, neq_f, rmI_n, dvI_n, upd_ne, upd_eq, un_ne, un_eq, Nat.add_zero, Bool.false_eq_true, ↓reduceIte, c1, pm]
        · rw [f_X12_toPay_27]
          simp (maxSteps := 1000000) (disch := omega) only [li, ob1_s, ob2_s, ob3_s, ob4_s, ob5_s, ob6_s, ob7_s, gA_n, gL_n, sA_n, sL_n, cpI_n, nI_add, pk_mul, nsub, nlt_t, nlt_f, nle_t, nle_f, neq_t, neq_f, rmI_n, dvI_n, upd_ne, upd_eq, un_ne, un_eq, Nat.add_zero, Bool.false_eq_true, ↓reduceIte, f_X12_toPay_51, f_X12_toPay_77, c2, hA.2, k1]
    · have hm1 : ¬ nI v = -nI 1 := m1_ne (by omega)
      have hmi : ¬ nI i = -nI 1 := m1_ne (by omega)
      by_cases hm9 : S0 10 < 9999
      · obtain ⟨d, hrow', nm2, stack2, a2, nd2, values2, truth2, S', g1, g2, g3, g4, g5, g6, g7⟩ := dMonth (w := false) (nm0 := nm') (nd0 := nd') (stack := stack') (truth := truth') (values := values') died hN hE hG hm9 (by omega)
        have e12 := g7 rfl
        have g3 : f_X12_goOn N a vt nd' values' truth' (nI 0) died = some (a2, nd2, values2, truth2, addD died d) := g3
        obtain ⟨a', k1, k2⟩ := back a2 S' g4.2.1 (fun q hq hn => by rw [g5.dream e12 q hq hn]; exact hag q hq hn)
        refine ⟨nI i, nm', stack', hrow, a', nd2, values2, truth2, addD died d, ?_, ?_, k2⟩
        · rw [f_X11_toPay_37]
          simp (maxSteps := 1000000) (disch := omega) only [li, ob1_s, ob2_s, ob3_s, ob4_s, ob5_s, ob6_s, ob7_s, gA_n, gL_n, sA_n, sL_n, cpI_n, nI_add, pk_mul, nsub, nlt_t, nlt_f, nle_t, nle_f, neq_t, neq_f, rmI_n, dvI_n, upd_ne, upd_eq, un_ne, un_eq, Nat.add_zero, Bool.false_eq_true, ↓reduceIte, c1, hm1]
        · rw [f_X12_toPay_27]
          simp (maxSteps := 1000000) (disch := omega) only [li, ob1_s, ob2_s, ob3_s, ob4_s, ob5_s, ob6_s, ob7_s, gA_n, gL_n, sA_n, sL_n, cpI_n, nI_add, pk_mul, nsub, nlt_t, nlt_f, nle_t, nle_f, neq_t, neq_f, rmI_n, dvI_n, upd_ne, upd_eq, un_ne, un_eq, Nat.add_zero, Bool.false_eq_true, ↓reduceIte, f_X12_toPay_51, c2, hA.2, g3]
          rw [f_X12_toPay_27]
          by_cases h60 : 60 < i + 1
          · simp (maxSteps := 1000000) (disch := omega) only [li, ob1_s, ob2_s, ob3_s, ob4_s, ob5_s, ob6_s, ob7_s, gA_n, gL_n, sA_n, sL_n, cpI_n, nI_add, pk_mul, nsub, nlt_t, nlt_f, nle_t, nle_f, neq_t, neq_f, rmI_n, dvI_n, upd_ne, upd_eq, un_ne, un_eq, Nat.add_zero, Bool.false_eq_true, ↓reduceIte, f_X12_toPay_77, k1]
          · simp (maxSteps := 1000000) (disch := omega) only [li, ob1_s, ob2_s, ob3_s, ob4_s, ob5_s, ob6_s, ob7_s, gA_n, gL_n, sA_n, sL_n, cpI_n, nI_add, pk_mul, nsub, nlt_t, nlt_f, nle_t, nle_f, neq_t, neq_f, rmI_n, dvI_n, upd_ne, upd_eq, un_ne, un_eq, Nat.add_zero, Bool.false_eq_true, ↓reduceIte, f_X12_toPay_77, hmi, k1]
      · obtain ⟨a', k1, k2⟩ := back a S0 hA hag
        refine ⟨nI i, nm', stack', hrow, a', nd', values', truth', died, ?_, ?_, k2⟩
        · rw [f_X11_toPay_37]
          simp (maxSteps := 1000000) (disch := omega) only [li, ob1_s, ob2_s, ob3_s, ob4_s, ob5_s, ob6_s, ob7_s, gA_n, gL_n, sA_n, sL_n, cpI_n, nI_add, pk_mul, nsub, nlt_t, nlt_f, nle_t, nle_f, neq_t, neq_f, rmI_n, dvI_n, upd_ne, upd_eq, un_ne, un_eq, Nat.add_zero, Bool.false_eq_true, ↓reduceIte, c1, hm1]
        · rw [f_X12_toPay_27]
          simp (maxSteps := 1000000) (disch := omega) only [li, ob1_s, ob2_s, ob3_s, ob4_s, ob5_s, ob6_s, ob7_s, gA_n, gL_n, sA_n, sL_n, cpI_n, nI_add, pk_mul, nsub, nlt_t, nlt_f, nle_t, nle_f, neq_t, neq_f, rmI_n, dvI_n, upd_ne, upd_eq, un_ne, un_eq, Nat.add_zero, Bool.false_eq_true, ↓reduceIte, f_X12_toPay_51, f_X12_toPay_77, c2, hA.2, k1]
theorem st_toPay {j : Nat} {dn : Int32} {df dr row fe to : Nat → Int32} {cnt next : Int32} {store : Nat → Int32} {calls bord rep unl pay : Int32} {cl ul ga py pr : Nat → Int32} {tx rul : Int32} {a : Nat → Int32} {S : Nat → Nat} {N : Nat} {tcl : Int32} {tcd tst ten trw : Nat → Int32} {ucl : Int32} {ucd ust uen urw : Nat → Int32} {wcl : Int32} {wcd wst wen wrw : Nat → Int32} {xcl : Int32} {xcd xst xen xrw : Nat → Int32} {vt : Nat → Int32} {nm0 nd0 stack truth h_row h_fe h_to as : Nat → Int32} {values : Nat → Int64} (died : Int32) (hN : 10000 ≤ N) (hJ : j ≤ 20000) (hT : TextsT N tcl tcd tst ten trw ucl ucd ust uen urw wcl wcd wst wen wrw xcl xcd xst xen xrw vt (S 2)) (x y : Int32) (h : RealmT j dn df dr row fe to cnt next store calls bord rep unl pay cl ul ga py pr tx rul a S) :
    ∃ (r : Int32) (nm' stack' hr' hf' ht' a' nd' : Nat → Int32) (values' : Nat → Int64) (truth' : Nat → Int32) (died' : Int32) (as' : Nat → Int32), f_X11_toPay N dn df row fe to tx rul tcd tst ten ucd ust uen wcd wst wen xcd xst xen nm0 stack h_row h_fe h_to x y = some (r, nm', stack', hr', hf', ht') ∧ f_X12_toPay N a vt nd0 values truth (nI 1) died as x y = some (r, a', nd', values', truth', nI 1, died', as') ∧ RealmT (j + 1) dn df dr row fe to cnt next store calls bord rep unl pay cl ul ga py pr tx rul a' S := by
  have h0 := h
  obtain ⟨hG, hE⟩ := h.dream (h_row := h_row) (h_fe := h_fe) hT
  obtain ⟨hA, hL, hR, hW, hF, hB, hZ, hQ, hI, hj⟩ := h
  have w1 := hW.1
  have fin : ∀ a', TieA a' S → RealmT (j + 1) dn df dr row fe to cnt next store calls bord rep unl pay cl ul ga py pr tx rul a' S := fun a' h => ⟨h, hL, hR, hW, hF, hB, hZ, hQ, hI, by omega⟩
  rcases inOut x (S 1) (by omega) with hx | ⟨p, hp, rfl⟩
  · refine ⟨-nI 1, nm0, stack, h_row, h_fe, h_to, a, nd0, values, truth, died, as, ?_, ?_, h0.later⟩
    · simp only [f_X11_toPay, cPers_out hR hx, li, ob1_s, ↓reduceIte]
    · simp only [f_X12_toPay, rPers_out hA w1 hx, li, ob1_s, ↓reduceIte]
  rcases inOut y (S 1) (by omega) with hy | ⟨q, hq, rfl⟩
  · refine ⟨-nI 1, nm0, stack, h_row, h_fe, h_to, a, nd0, values, truth, died, as, ?_, ?_, h0.later⟩
    · simp (maxSteps := 1000000) (disch := omega) only [li, ob1_s, ob2_s, ob3_s, ob4_s, ob5_s, ob6_s, ob7_s, gA_n, gL_n, sA_n, sL_n, cpI_n, nI_add, pk_mul, nsub, nlt_t, nlt_f, nle_t, nle_f, neq_t, neq_f, rmI_n, dvI_n, upd_ne, upd_eq, un_ne, un_eq, Nat.add_zero, Bool.false_eq_true, ↓reduceIte, f_X11_toPay, cPers_in hR w1, cPers_out hR hy]
    · simp (maxSteps := 1000000) (disch := omega) only [li, ob1_s, ob2_s, ob3_s, ob4_s, ob5_s, ob6_s, ob7_s, gA_n, gL_n, sA_n, sL_n, cpI_n, nI_add, pk_mul, nsub, nlt_t, nlt_f, nle_t, nle_f, neq_t, neq_f, rmI_n, dvI_n, upd_ne, upd_eq, un_ne, un_eq, Nat.add_zero, Bool.false_eq_true, ↓reduceIte, f_X12_toPay, rPers_in hA w1, rPers_out hA w1 hy]
  obtain ⟨as1, k1, k2⟩ := rAside (N := N) (a := a) (as := as) (iw := nI 1) (by omega)
  obtain ⟨v, r1, r2, r3, r4, r5, r6, r7, r8, q1, q2, q3⟩ := kPayW (p := p) (q := q) (row := row) (fe := fe) (to := to) (hto := va_cpy to h_to 0 0 18) (as := as1) hN hp hq w1 (fun i h1 h2 => by rw [k2 i h1 h2]; exact hA.2 i (by omega) (by omega)) (by omega) 61 N 0 _ a nm0 nd0 stack truth values died S (by omega) (by omega) hG hE (fun _ _ _ => rfl) rfl
  refine ⟨v, r1, r2, r3, va_cpy fe h_fe 0 0 6, va_cpy to h_to 0 0 18, r4, r5, r6, r7, r8, as1, ?_, ?_, fin r4 q3⟩
  · simp (maxSteps := 1000000) (disch := omega) only [li, ob1_s, ob2_s, ob3_s, ob4_s, ob5_s, ob6_s, ob7_s, gA_n, gL_n, sA_n, sL_n, cpI_n, nI_add, pk_mul, nsub, nlt_t, nlt_f, nle_t, nle_f, neq_t, neq_f, rmI_n, dvI_n, upd_ne, upd_eq, un_ne, un_eq, Nat.add_zero, Bool.false_eq_true, ↓reduceIte, f_X11_toPay, cPers_in hR w1, cDream]
    exact q1
  · simp (maxSteps := 1000000) (disch := omega) only [li, ob1_s, ob2_s, ob3_s, ob4_s, ob5_s, ob6_s, ob7_s, gA_n, gL_n, sA_n, sL_n, cpI_n, nI_add, pk_mul, nsub, nlt_t, nlt_f, nle_t, nle_f, neq_t, neq_f, rmI_n, dvI_n, upd_ne, upd_eq, un_ne, un_eq, Nat.add_zero, Bool.false_eq_true, ↓reduceIte, f_X12_toPay, rPers_in hA w1, k1]
    exact q2
