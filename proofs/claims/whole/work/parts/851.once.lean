theorem dOnce {N : Nat} {tcl : Int32} {tcd tst ten trw : Nat → Int32} {ucl : Int32} {ucd ust uen urw : Nat → Int32} {wcl : Int32} {wcd wst wen wrw : Nat → Int32} {xcl : Int32} {xcd xst xen xrw : Nat → Int32} {vt : Nat → Int32} {tx rul dn : Int32} {df dr fe row a nm0 nd0 stack truth : Nat → Int32} {values : Nat → Int64} {S : Nat → Nat} (died : Int32) (hN : 10000 ≤ N) (hE : LE N tcl tcd tst ten trw ucl ucd ust uen urw wcl wcd wst wen wrw xcl xcd xst xen xrw vt tx rul dn df dr fe S) (h : Good true (S 10) row a S) (hm : 0 < S 1) (hj : S 12 < 2147480000) :
    ∃ row' nm' stack' a1 a' nd' values' truth' died' S', f_X11_reignOnce N dn df dr row fe tx rul tcd tst ten ucd ust uen wcd wst wen xcd xst xen nm0 stack = some (row', nm', stack') ∧ f_X12_anew N a = some a1 ∧ f_X12_happens N a1 vt nd0 values truth (nI 1) died (nI (S 11)) = some (a', nd', values', truth', died') ∧ Good true (S' 10) row' a' S' ∧ Fra 6 S S' := by
  obtain ⟨⟨hR, hB⟩, hA, hW, hO, h8⟩ := id h
  have w1 := hW.1
  have hx := hW.2.2.1
  have hn : 0 < S 0 := by have := (hW.part hm).1; omega
  have hdn : dn = nI (S 0) := hE.2.2.1.1
  have g := h.dr
  have f1 := Fra.dr S
  have cs := cStir (N := N) hR hx
  have ra := rAnew (N := N) hA hx
  have s1 : ∀ i, i ≠ 11 → aDr S i = S i := fun i hi => un_ne hi
  have hE1 := hE.fra w1 f1
  generalize hrow1 : upd row 1 (nI ((S 11 * 379 + 257) % 30469)) = row1 at g cs
  generalize ha1 : upd a 11 (nI ((S 11 * 379 + 257) % 30469)) = a1 at g ra
  generalize hS1 : aDr S = S1 at *
  obtain ⟨⟨gR, gB⟩, gA, gW, gO, g8⟩ := id g
  have u0 : S1 0 = S 0 := s1 0 (by omega)
  have u1 : S1 1 = S 1 := s1 1 (by omega)
  have u10 : S1 10 = S 10 := s1 10 (by omega)
  have u12 : S1 12 = S 12 := s1 12 (by omega)
  have a0 : a1 0 = nI (S 0) := by rw [gA.2 0 (by omega) (by omega), u0]
  have a1' : a1 1 = nI (S 1) := by rw [gA.2 1 (by omega) (by omega), u1]
  have hp : S 11 % S 1 < S 1 := Nat.mod_lt _ hm
  have hq : S 11 / 5 % S 1 < S 1 := Nat.mod_lt _ hm
  have hl : S 11 / 7 % S 0 < S 0 := Nat.mod_lt _ hn
  have k7 : S 11 % 7 < 7 := Nat.mod_lt _ (by omega)
  have x7 : S 11 / 7 < 30469 := by omega
  have x5 : S 11 / 5 < 30469 := by omega
  have hR2 := hR.2.2.1
  have hR1 := hR.2.1
  subst hdn
  generalize hpp : S 11 % S 1 = p at *
  generalize hqq : S 11 / 5 % S 1 = q at *
  generalize hll : S 11 / 7 % S 0 = l at *
  have gb : Good true (S1 10) row1 a1 S1 := by rw [u10]; exact g
  -- nothing happens
  have nth : ∀ nm' stack' nd' values' truth', f_X11_reignOnce N (nI (S 0)) df dr row fe tx rul tcd tst ten ucd ust uen wcd wst wen xcd xst xen nm0 stack = some (row1, nm', stack') → f_X12_happens N a1 vt nd0 values truth (nI 1) died (nI (S 11)) = some (a1, nd', values', truth', died) → ∃ row' nm' stack' a2 a' nd' values' truth' died' S', f_X11_reignOnce N (nI (S 0)) df dr row fe tx rul tcd tst ten ucd ust uen wcd wst wen xcd xst xen nm0 stack = some (row', nm', stack') ∧ f_X12_anew N a = some a2 ∧ f_X12_happens N a2 vt nd0 values truth (nI 1) died (nI (S 11)) = some (a', nd', values', truth', died') ∧ Good true (S' 10) row' a' S' ∧ Fra 6 S S' :=
    fun nm' stack' nd' values' truth' e1 e2 => ⟨row1, nm', stack', a1, a1, nd', values', truth', died, S1, e1, ra, e2, gb, f1.mn (by omega)⟩
  rcases (show S 11 % 7 = 0 ∨ S 11 % 7 = 1 ∨ S 11 % 7 = 2 ∨ S 11 % 7 = 3 ∨ S 11 % 7 = 4 ∨ S 11 % 7 = 5 ∨ S 11 % 7 = 6 by omega) with k | k | k | k | k | k | k
  · by_cases no : S1 (14 + 11 * p + 6) = 1 ∨ S1 (14 + 11 * p + 6) = 3
    · obtain ⟨c1, c2⟩ := dCall_no (N := N) (x := nI p) (y := nI l) gR gA gW g8 (Or.inr (Or.inr ⟨p, by omega, rfl, no⟩))
      rw [u0] at c1
      exact nth nm0 stack nd0 values truth (by simp (maxSteps := 1000000) (disch := omega) only [li, ob1_s, ob2_s, ob3_s, ob4_s, ob5_s, ob6_s, ob7_s, gA_n, gL_n, sA_n, sL_n, cpI_n, nI_add, pk_mul, nsub, nlt_t, nlt_f, nle_t, nle_f, neq_t, neq_f, rmI_n, dvI_n, upd_ne, upd_eq, un_ne, un_eq, Nat.add_zero, Bool.false_eq_true, ↓reduceIte, f_X11_reignOnce, f_X1_count, f_X1_x, hR2, hR1, cs, hpp, hqq, hll, k, c1]) (by simp (maxSteps := 1000000) (disch := omega) only [li, ob1_s, ob2_s, ob3_s, ob4_s, ob5_s, ob6_s, ob7_s, gA_n, gL_n, sA_n, sL_n, cpI_n, nI_add, pk_mul, nsub, nlt_t, nlt_f, nle_t, nle_f, neq_t, neq_f, rmI_n, dvI_n, upd_ne, upd_eq, un_ne, un_eq, Nat.add_zero, Bool.false_eq_true, ↓reduceIte, f_X12_happens, a0, a1', hpp, hqq, hll, k, c2])
    · obtain ⟨r, row', a', S', d1, d2, d3, d4, d5, d6, d7⟩ := dCall (N := N) (w := true) (p := p) (l := l) (by omega) g (by omega) (by omega) (by omega) (by omega) (by omega)
      rw [u0] at d1
      have d2 : f_X12_callNow N a1 (nI 1) (nI p) (nI l) = some a' := d2
      have cy := dCall_yes (N := N) (p := p) (l := l) gA gW g8 (by omega) (by omega) (by omega) (by omega)
      exact ⟨row', nm0, stack, a1, a', nd0, values, truth, died, S', by simp (maxSteps := 1000000) (disch := omega) only [li, ob1_s, ob2_s, ob3_s, ob4_s, ob5_s, ob6_s, ob7_s, gA_n, gL_n, sA_n, sL_n, cpI_n, nI_add, pk_mul, nsub, nlt_t, nlt_f, nle_t, nle_f, neq_t, neq_f, rmI_n, dvI_n, upd_ne, upd_eq, un_ne, un_eq, Nat.add_zero, Bool.false_eq_true, ↓reduceIte, f_X11_reignOnce, f_X1_count, f_X1_x, hR2, hR1, cs, hpp, hqq, hll, k, d1], ra, by simp (maxSteps := 1000000) (disch := omega) only [li, ob1_s, ob2_s, ob3_s, ob4_s, ob5_s, ob6_s, ob7_s, gA_n, gL_n, sA_n, sL_n, cpI_n, nI_add, pk_mul, nsub, nlt_t, nlt_f, nle_t, nle_f, neq_t, neq_f, rmI_n, dvI_n, upd_ne, upd_eq, un_ne, un_eq, Nat.add_zero, Bool.false_eq_true, ↓reduceIte, f_X12_happens, a0, a1', hpp, hqq, hll, k, cy, d2], by rw [d7, u10]; exact d5, (f1.tr d6).mn (by omega)⟩
  · by_cases no : S1 (14 + 11 * p + 6) = 1 ∨ S1 (14 + 11 * p + 6) = 3
    · obtain ⟨c1, c2⟩ := dCall_no (N := N) (x := nI p) (y := nI l) gR gA gW g8 (Or.inr (Or.inr ⟨p, by omega, rfl, no⟩))
      rw [u0] at c1
      exact nth nm0 stack nd0 values truth (by simp (maxSteps := 1000000) (disch := omega) only [li, ob1_s, ob2_s, ob3_s, ob4_s, ob5_s, ob6_s, ob7_s, gA_n, gL_n, sA_n, sL_n, cpI_n, nI_add, pk_mul, nsub, nlt_t, nlt_f, nle_t, nle_f, neq_t, neq_f, rmI_n, dvI_n, upd_ne, upd_eq, un_ne, un_eq, Nat.add_zero, Bool.false_eq_true, ↓reduceIte, f_X11_reignOnce, f_X1_count, f_X1_x, hR2, hR1, cs, hpp, hqq, hll, k, c1]) (by simp (maxSteps := 1000000) (disch := omega) only [li, ob1_s, ob2_s, ob3_s, ob4_s, ob5_s, ob6_s, ob7_s, gA_n, gL_n, sA_n, sL_n, cpI_n, nI_add, pk_mul, nsub, nlt_t, nlt_f, nle_t, nle_f, neq_t, neq_f, rmI_n, dvI_n, upd_ne, upd_eq, un_ne, un_eq, Nat.add_zero, Bool.false_eq_true, ↓reduceIte, f_X12_happens, a0, a1', hpp, hqq, hll, k, c2])
    · obtain ⟨r, row', a', S', d1, d2, d3, d4, d5, d6, d7⟩ := dCall (N := N) (w := true) (p := p) (l := l) (by omega) g (by omega) (by omega) (by omega) (by omega) (by omega)
      rw [u0] at d1
      have d2 : f_X12_callNow N a1 (nI 1) (nI p) (nI l) = some a' := d2
      have cy := dCall_yes (N := N) (p := p) (l := l) gA gW g8 (by omega) (by omega) (by omega) (by omega)
      exact ⟨row', nm0, stack, a1, a', nd0, values, truth, died, S', by simp (maxSteps := 1000000) (disch := omega) only [li, ob1_s, ob2_s, ob3_s, ob4_s, ob5_s, ob6_s, ob7_s, gA_n, gL_n, sA_n, sL_n, cpI_n, nI_add, pk_mul, nsub, nlt_t, nlt_f, nle_t, nle_f, neq_t, neq_f, rmI_n, dvI_n, upd_ne, upd_eq, un_ne, un_eq, Nat.add_zero, Bool.false_eq_true, ↓reduceIte, f_X11_reignOnce, f_X1_count, f_X1_x, hR2, hR1, cs, hpp, hqq, hll, k, d1], ra, by simp (maxSteps := 1000000) (disch := omega) only [li, ob1_s, ob2_s, ob3_s, ob4_s, ob5_s, ob6_s, ob7_s, gA_n, gL_n, sA_n, sL_n, cpI_n, nI_add, pk_mul, nsub, nlt_t, nlt_f, nle_t, nle_f, neq_t, neq_f, rmI_n, dvI_n, upd_ne, upd_eq, un_ne, un_eq, Nat.add_zero, Bool.false_eq_true, ↓reduceIte, f_X12_happens, a0, a1', hpp, hqq, hll, k, cy, d2], by rw [d7, u10]; exact d5, (f1.tr d6).mn (by omega)⟩
  · rcases dMove (N := N) (p := p) (l := l) hE1.2.2.1 gR gA gW (by omega) (by omega) with ⟨c1, c2⟩ | ⟨c1, c2⟩
    · exact nth nm0 stack nd0 values truth (by simp (maxSteps := 1000000) (disch := omega) only [li, ob1_s, ob2_s, ob3_s, ob4_s, ob5_s, ob6_s, ob7_s, gA_n, gL_n, sA_n, sL_n, cpI_n, nI_add, pk_mul, nsub, nlt_t, nlt_f, nle_t, nle_f, neq_t, neq_f, rmI_n, dvI_n, upd_ne, upd_eq, un_ne, un_eq, Nat.add_zero, Bool.false_eq_true, ↓reduceIte, f_X11_reignOnce, f_X1_count, f_X1_x, hR2, hR1, cs, hpp, hqq, hll, k, c1]) (by simp (maxSteps := 1000000) (disch := omega) only [li, ob1_s, ob2_s, ob3_s, ob4_s, ob5_s, ob6_s, ob7_s, gA_n, gL_n, sA_n, sL_n, cpI_n, nI_add, pk_mul, nsub, nlt_t, nlt_f, nle_t, nle_f, neq_t, neq_f, rmI_n, dvI_n, upd_ne, upd_eq, un_ne, un_eq, Nat.add_zero, Bool.false_eq_true, ↓reduceIte, f_X12_happens, a0, a1', hpp, hqq, hll, k, c2])
    · have d := g.set (p := p) (k := 0) (v := l) (by omega) (by omega) ⟨by omega, by omega, by omega, by omega, by omega, by omega, by omega⟩ (by omega)
      have rp : f_X12_put N a1 (nI p) (nI 0) (nI l) = some (upd a1 (14 + 11 * p + 0) (nI l)) := rput (by omega) (by omega)
      refine ⟨upd row1 (34 + 7 * p + 0) (nI l), nm0, stack, a1, upd a1 (14 + 11 * p + 0) (nI l), nd0, values, truth, died, _, ?_, ra, ?_, by rw [un_ne (by omega), u10]; exact d, (f1.tr (Fra.set S1 l (by omega) (by omega))).mn (by omega)⟩
      · simp (maxSteps := 1000000) (disch := omega) only [li, ob1_s, ob2_s, ob3_s, ob4_s, ob5_s, ob6_s, ob7_s, gA_n, gL_n, sA_n, sL_n, cpI_n, nI_add, pk_mul, nsub, nlt_t, nlt_f, nle_t, nle_f, neq_t, neq_f, rmI_n, dvI_n, upd_ne, upd_eq, un_ne, un_eq, Nat.add_zero, Bool.false_eq_true, ↓reduceIte, f_X11_reignOnce, f_X1_count, f_X1_x, hR2, hR1, cs, hpp, hqq, hll, k, c1]
      · simp (maxSteps := 1000000) (disch := omega) only [li, ob1_s, ob2_s, ob3_s, ob4_s, ob5_s, ob6_s, ob7_s, gA_n, gL_n, sA_n, sL_n, cpI_n, nI_add, pk_mul, nsub, nlt_t, nlt_f, nle_t, nle_f, neq_t, neq_f, rmI_n, dvI_n, upd_ne, upd_eq, un_ne, un_eq, Nat.add_zero, Bool.false_eq_true, ↓reduceIte, f_X12_happens, a0, a1', hpp, hqq, hll, k, c2, rp]
  · obtain ⟨v, hv, c1, c2, c3⟩ := dBeside (N := N) (p := p) (q := q) gR gA gW g8 (by omega) (by omega)
    rcases (show v = 0 ∨ v = 1 by omega) with e | e
    · subst e
      exact nth nm0 stack nd0 values truth (by simp (maxSteps := 1000000) (disch := omega) only [li, ob1_s, ob2_s, ob3_s, ob4_s, ob5_s, ob6_s, ob7_s, gA_n, gL_n, sA_n, sL_n, cpI_n, nI_add, pk_mul, nsub, nlt_t, nlt_f, nle_t, nle_f, neq_t, neq_f, rmI_n, dvI_n, upd_ne, upd_eq, un_ne, un_eq, Nat.add_zero, Bool.false_eq_true, ↓reduceIte, f_X11_reignOnce, f_X0_nourish, f_X1_count, f_X1_x, hR2, hR1, cs, hpp, hqq, hll, k, c1]) (by simp (maxSteps := 1000000) (disch := omega) only [li, ob1_s, ob2_s, ob3_s, ob4_s, ob5_s, ob6_s, ob7_s, gA_n, gL_n, sA_n, sL_n, cpI_n, nI_add, pk_mul, nsub, nlt_t, nlt_f, nle_t, nle_f, neq_t, neq_f, rmI_n, dvI_n, upd_ne, upd_eq, un_ne, un_eq, Nat.add_zero, Bool.false_eq_true, ↓reduceIte, f_X12_happens, a0, a1', hpp, hqq, hll, k, c2])
    · subst e
      obtain ⟨-, -, hpq, -⟩ := c3 rfl
      obtain ⟨r, row', nm', stack', a', nd', values', truth', S', d0, d1, d2, d2b, d3, d4, d5⟩ := dFeed (w := true) (p := p) (q := q) (nm0 := nm0) (nd0 := nd0) (stack := stack) (truth := truth) (values := values) hN hE1 g (by omega) (by omega) hpq c1 (by omega)
      have d2 : f_X12_feedNow N a1 vt nd0 values truth (nI 1) (nI p) (nI q) = some (a', nd', values', truth') := d2
      exact ⟨row', nm', stack', a1, a', nd', values', truth', died, S', by simp (maxSteps := 1000000) (disch := omega) only [li, ob1_s, ob2_s, ob3_s, ob4_s, ob5_s, ob6_s, ob7_s, gA_n, gL_n, sA_n, sL_n, cpI_n, nI_add, pk_mul, nsub, nlt_t, nlt_f, nle_t, nle_f, neq_t, neq_f, rmI_n, dvI_n, upd_ne, upd_eq, un_ne, un_eq, Nat.add_zero, Bool.false_eq_true, ↓reduceIte, f_X11_reignOnce, f_X1_count, f_X1_x, hR2, hR1, cs, hpp, hqq, hll, k, d1], ra, by simp (maxSteps := 1000000) (disch := omega) only [li, ob1_s, ob2_s, ob3_s, ob4_s, ob5_s, ob6_s, ob7_s, gA_n, gL_n, sA_n, sL_n, cpI_n, nI_add, pk_mul, nsub, nlt_t, nlt_f, nle_t, nle_f, neq_t, neq_f, rmI_n, dvI_n, upd_ne, upd_eq, un_ne, un_eq, Nat.add_zero, Bool.false_eq_true, ↓reduceIte, f_X12_happens, a0, a1', hpp, hqq, hll, k, c2, d2], by rw [d5, u10]; exact d3, (f1.tr d4).mn (by omega)⟩
  · by_cases k4 : S 11 % 4 = 0
    · obtain ⟨v, hv, c1, c2, c3⟩ := dBeside (N := N) (p := p) (q := q) gR gA gW g8 (by omega) (by omega)
      rcases (show v = 0 ∨ v = 1 by omega) with e | e
      · subst e
        exact nth nm0 stack nd0 values truth (by simp (maxSteps := 1000000) (disch := omega) only [li, ob1_s, ob2_s, ob3_s, ob4_s, ob5_s, ob6_s, ob7_s, gA_n, gL_n, sA_n, sL_n, cpI_n, nI_add, pk_mul, nsub, nlt_t, nlt_f, nle_t, nle_f, neq_t, neq_f, rmI_n, dvI_n, upd_ne, upd_eq, un_ne, un_eq, Nat.add_zero, Bool.false_eq_true, ↓reduceIte, f_X11_reignOnce, f_X0_slay, f_X1_count, f_X1_x, hR2, hR1, cs, hpp, hqq, hll, k, k4, c1]) (by simp (maxSteps := 1000000) (disch := omega) only [li, ob1_s, ob2_s, ob3_s, ob4_s, ob5_s, ob6_s, ob7_s, gA_n, gL_n, sA_n, sL_n, cpI_n, nI_add, pk_mul, nsub, nlt_t, nlt_f, nle_t, nle_f, neq_t, neq_f, rmI_n, dvI_n, upd_ne, upd_eq, un_ne, un_eq, Nat.add_zero, Bool.false_eq_true, ↓reduceIte, f_X12_happens, a0, a1', hpp, hqq, hll, k, k4, c2])
      · subst e
        obtain ⟨-, -, hpq, -⟩ := c3 rfl
        obtain ⟨row', a', died', S', d1, d2, d3, d4, d5⟩ := dKill (N := N) (w := true) (p := p) (q := q) died g (by omega) (by omega) hpq c1 (by omega)
        have d2 : f_X12_killNow N a1 (nI 1) died (nI p) (nI q) = some (a', died') := d2
        exact ⟨row', nm0, stack, a1, a', nd0, values, truth, died', S', by simp (maxSteps := 1000000) (disch := omega) only [li, ob1_s, ob2_s, ob3_s, ob4_s, ob5_s, ob6_s, ob7_s, gA_n, gL_n, sA_n, sL_n, cpI_n, nI_add, pk_mul, nsub, nlt_t, nlt_f, nle_t, nle_f, neq_t, neq_f, rmI_n, dvI_n, upd_ne, upd_eq, un_ne, un_eq, Nat.add_zero, Bool.false_eq_true, ↓reduceIte, f_X11_reignOnce, f_X1_count, f_X1_x, hR2, hR1, cs, hpp, hqq, hll, k, k4, d1], ra, by simp (maxSteps := 1000000) (disch := omega) only [li, ob1_s, ob2_s, ob3_s, ob4_s, ob5_s, ob6_s, ob7_s, gA_n, gL_n, sA_n, sL_n, cpI_n, nI_add, pk_mul, nsub, nlt_t, nlt_f, nle_t, nle_f, neq_t, neq_f, rmI_n, dvI_n, upd_ne, upd_eq, un_ne, un_eq, Nat.add_zero, Bool.false_eq_true, ↓reduceIte, f_X12_happens, a0, a1', hpp, hqq, hll, k, k4, c2, d2], by rw [d5, u10]; exact d3, (f1.tr d4).mn (by omega)⟩
    · exact nth nm0 stack nd0 values truth (by simp (maxSteps := 1000000) (disch := omega) only [li, ob1_s, ob2_s, ob3_s, ob4_s, ob5_s, ob6_s, ob7_s, gA_n, gL_n, sA_n, sL_n, cpI_n, nI_add, pk_mul, nsub, nlt_t, nlt_f, nle_t, nle_f, neq_t, neq_f, rmI_n, dvI_n, upd_ne, upd_eq, un_ne, un_eq, Nat.add_zero, Bool.false_eq_true, ↓reduceIte, f_X11_reignOnce, f_X1_count, f_X1_x, hR2, hR1, cs, hpp, hqq, hll, k]) (by simp (maxSteps := 1000000) (disch := omega) only [li, ob1_s, ob2_s, ob3_s, ob4_s, ob5_s, ob6_s, ob7_s, gA_n, gL_n, sA_n, sL_n, cpI_n, nI_add, pk_mul, nsub, nlt_t, nlt_f, nle_t, nle_f, neq_t, neq_f, rmI_n, dvI_n, upd_ne, upd_eq, un_ne, un_eq, Nat.add_zero, Bool.false_eq_true, ↓reduceIte, f_X12_happens, a0, a1', hpp, hqq, hll, k])
  · obtain ⟨nm', stack', nd', values', truth', gg⟩ := dCan (nm0 := nm0) (nd0 := nd0) (stack := stack) (truth := truth) (values := values) (p := p) (q := q) hN hE1 gR gA gW (by omega) (by omega)
    rcases gg with ⟨c1, c2⟩ | ⟨v, hv, hvg, c1, c2, c3⟩
    · exact nth nm' stack' nd' values' truth' (by simp (maxSteps := 1000000) (disch := omega) only [li, ob1_s, ob2_s, ob3_s, ob4_s, ob5_s, ob6_s, ob7_s, gA_n, gL_n, sA_n, sL_n, cpI_n, nI_add, pk_mul, nsub, nlt_t, nlt_f, nle_t, nle_f, neq_t, neq_f, rmI_n, dvI_n, upd_ne, upd_eq, un_ne, un_eq, Nat.add_zero, Bool.false_eq_true, ↓reduceIte, f_X11_reignOnce, f_X0_forgive, f_X1_count, f_X1_x, hR2, hR1, cs, hpp, hqq, hll, k, c1]) (by simp (maxSteps := 1000000) (disch := omega) only [li, ob1_s, ob2_s, ob3_s, ob4_s, ob5_s, ob6_s, ob7_s, gA_n, gL_n, sA_n, sL_n, cpI_n, nI_add, pk_mul, nsub, nlt_t, nlt_f, nle_t, nle_f, neq_t, neq_f, rmI_n, dvI_n, upd_ne, upd_eq, un_ne, un_eq, Nat.add_zero, Bool.false_eq_true, ↓reduceIte, f_X12_happens, a0, a1', hpp, hqq, hll, k, c2])
    · obtain ⟨row', a', nd2, values2, truth2, S', d1, d2, d3, d4, d5⟩ := dPay (w := true) (p := p) (q := q) (nd0 := nd') (truth := truth') (values := values') hN hE1 g (by omega) (by omega) hv hvg c1 c3 (by omega)
      have d2 : f_X12_payNow N a1 vt nd' values' truth' (nI 1) (nI p) (nI q) = some (nI v, a', nd2, values2, truth2) := d2
      exact ⟨row', nm', stack', a1, a', nd2, values2, truth2, died, S', by simp (maxSteps := 1000000) (disch := omega) only [li, ob1_s, ob2_s, ob3_s, ob4_s, ob5_s, ob6_s, ob7_s, gA_n, gL_n, sA_n, sL_n, cpI_n, nI_add, pk_mul, nsub, nlt_t, nlt_f, nle_t, nle_f, neq_t, neq_f, rmI_n, dvI_n, upd_ne, upd_eq, un_ne, un_eq, Nat.add_zero, Bool.false_eq_true, ↓reduceIte, f_X11_reignOnce, f_X1_count, f_X1_x, hR2, hR1, cs, hpp, hqq, hll, k, d1], ra, by simp (maxSteps := 1000000) (disch := omega) only [li, ob1_s, ob2_s, ob3_s, ob4_s, ob5_s, ob6_s, ob7_s, gA_n, gL_n, sA_n, sL_n, cpI_n, nI_add, pk_mul, nsub, nlt_t, nlt_f, nle_t, nle_f, neq_t, neq_f, rmI_n, dvI_n, upd_ne, upd_eq, un_ne, un_eq, Nat.add_zero, Bool.false_eq_true, ↓reduceIte, f_X12_happens, a0, a1', hpp, hqq, hll, k, c2, d2], by rw [d5, u10]; exact d3, (f1.tr d4).mn (by omega)⟩
  · have ha10 : a1 10 = nI (S1 10) := gA.2 10 (by omega) (by omega)
    have w2 := gW.2.1
    by_cases hm9 : S1 10 < 9999
    · obtain ⟨d, row', nm', stack', a', nd', values', truth', S', g1, g2, g3, g4, g5, g6, g7⟩ := dMonth (w := true) (nm0 := nm0) (nd0 := nd0) (stack := stack) (truth := truth) (values := values) died hN hE1 gb hm9 (by omega)
      have g3 : f_X12_goOn N a1 vt nd0 values truth (nI 1) died = some (a', nd', values', truth', addD died d) := g3
      exact ⟨row', nm', stack', a1, a', nd', values', truth', addD died d, S', by simp (maxSteps := 1000000) (disch := omega) only [li, ob1_s, ob2_s, ob3_s, ob4_s, ob5_s, ob6_s, ob7_s, gA_n, gL_n, sA_n, sL_n, cpI_n, nI_add, pk_mul, nsub, nlt_t, nlt_f, nle_t, nle_f, neq_t, neq_f, rmI_n, dvI_n, upd_ne, upd_eq, un_ne, un_eq, Nat.add_zero, Bool.false_eq_true, ↓reduceIte, f_X11_reignOnce, f_X1_count, f_X1_x, hR2, hR1, cs, hpp, hqq, hll, k, g2], ra, by simp (maxSteps := 1000000) (disch := omega) only [li, ob1_s, ob2_s, ob3_s, ob4_s, ob5_s, ob6_s, ob7_s, gA_n, gL_n, sA_n, sL_n, cpI_n, nI_add, pk_mul, nsub, nlt_t, nlt_f, nle_t, nle_f, neq_t, neq_f, rmI_n, dvI_n, upd_ne, upd_eq, un_ne, un_eq, Nat.add_zero, Bool.false_eq_true, ↓reduceIte, f_X12_happens, a0, a1', hpp, hqq, hll, k, ha10, g3], g4, (f1.tr g5).mn (by omega)⟩
    · have pm : f_X0_passMonth N (nI (S 0)) df tcd tst ten ucd ust uen wcd wst wen xcd xst xen row1 fe tx rul nm0 stack = some (-nI 1, row1, nm0, stack) := by simp (maxSteps := 1000000) (disch := omega) only [li, ob1_s, ob2_s, ob3_s, ob4_s, ob5_s, ob6_s, ob7_s, gA_n, gL_n, sA_n, sL_n, cpI_n, nI_add, pk_mul, nsub, nlt_t, nlt_f, nle_t, nle_f, neq_t, neq_f, rmI_n, dvI_n, upd_ne, upd_eq, un_ne, un_eq, Nat.add_zero, Bool.false_eq_true, ↓reduceIte, f_X0_passMonth, f_X1_monthNow, gR.1]
      exact nth nm0 stack nd0 values truth (by simp (maxSteps := 1000000) (disch := omega) only [li, ob1_s, ob2_s, ob3_s, ob4_s, ob5_s, ob6_s, ob7_s, gA_n, gL_n, sA_n, sL_n, cpI_n, nI_add, pk_mul, nsub, nlt_t, nlt_f, nle_t, nle_f, neq_t, neq_f, rmI_n, dvI_n, upd_ne, upd_eq, un_ne, un_eq, Nat.add_zero, Bool.false_eq_true, ↓reduceIte, f_X11_reignOnce, f_X1_count, f_X1_x, hR2, hR1, cs, hpp, hqq, hll, k, pm]) (by simp (maxSteps := 1000000) (disch := omega) only [li, ob1_s, ob2_s, ob3_s, ob4_s, ob5_s, ob6_s, ob7_s, gA_n, gL_n, sA_n, sL_n, cpI_n, nI_add, pk_mul, nsub, nlt_t, nlt_f, nle_t, nle_f, neq_t, neq_f, rmI_n, dvI_n, upd_ne, upd_eq, un_ne, un_eq, Nat.add_zero, Bool.false_eq_true, ↓reduceIte, f_X12_happens, a0, a1', hpp, hqq, hll, k, ha10])
