theorem Good.nextM {w : Bool} {row a : Nat → Int32} {S : Nat → Nat} (h : Good w (S 10 + 1) row a S) (hm : S 10 < 9999) : Good w (un S 10 (S 10 + 1) 10) (upd row 0 (nI (S 10 + 1))) (upd a 10 (nI (S 10 + 1))) (un S 10 (S 10 + 1)) := by
  obtain ⟨⟨⟨r1, r2, r3, r4, r5⟩, hB⟩, hA, hW, hO, h8⟩ := h
  have w1 := hW.1
  obtain ⟨u1, u2, u3, u4⟩ := hW
  refine ⟨⟨⟨?_, ?_, ?_, ?_, fun q t hq ht => ?_⟩, fun hw => ?_⟩, hA.up (by omega), ⟨by rw [un_ne (by omega)]; exact u1, by rw [un_eq rfl]; omega, by rw [un_ne (by omega)]; exact u3, fun p hp => ?_⟩, ?_, by rw [un_ne (by omega)]; exact h8⟩
  · simp (maxSteps := 1000000) (disch := omega) only [li, ob1_s, ob2_s, ob3_s, ob4_s, ob5_s, ob6_s, ob7_s, gA_n, gL_n, sA_n, sL_n, cpI_n, nI_add, pk_mul, nsub, nlt_t, nlt_f, nle_t, nle_f, neq_t, neq_f, rmI_n, dvI_n, upd_ne, upd_eq, un_ne, un_eq, Nat.add_zero, Bool.false_eq_true, ↓reduceIte]
  · simp (maxSteps := 1000000) (disch := omega) only [li, ob1_s, ob2_s, ob3_s, ob4_s, ob5_s, ob6_s, ob7_s, gA_n, gL_n, sA_n, sL_n, cpI_n, nI_add, pk_mul, nsub, nlt_t, nlt_f, nle_t, nle_f, neq_t, neq_f, rmI_n, dvI_n, upd_ne, upd_eq, un_ne, un_eq, Nat.add_zero, Bool.false_eq_true, ↓reduceIte]; exact r2
  · simp (maxSteps := 1000000) (disch := omega) only [li, ob1_s, ob2_s, ob3_s, ob4_s, ob5_s, ob6_s, ob7_s, gA_n, gL_n, sA_n, sL_n, cpI_n, nI_add, pk_mul, nsub, nlt_t, nlt_f, nle_t, nle_f, neq_t, neq_f, rmI_n, dvI_n, upd_ne, upd_eq, un_ne, un_eq, Nat.add_zero, Bool.false_eq_true, ↓reduceIte]; exact r3
  · simp (maxSteps := 1000000) (disch := omega) only [li, ob1_s, ob2_s, ob3_s, ob4_s, ob5_s, ob6_s, ob7_s, gA_n, gL_n, sA_n, sL_n, cpI_n, nI_add, pk_mul, nsub, nlt_t, nlt_f, nle_t, nle_f, neq_t, neq_f, rmI_n, dvI_n, upd_ne, upd_eq, un_ne, un_eq, Nat.add_zero, Bool.false_eq_true, ↓reduceIte]; exact r4
  · rw [un_ne (by omega)] at hq
    rw [upd_ne (by omega), un_ne (by omega)]; exact r5 q t hq ht
  · obtain ⟨b1, b2⟩ := hB hw
    rw [un_ne (by omega)]
    refine ⟨by simp (maxSteps := 1000000) (disch := omega) only [li, ob1_s, ob2_s, ob3_s, ob4_s, ob5_s, ob6_s, ob7_s, gA_n, gL_n, sA_n, sL_n, cpI_n, nI_add, pk_mul, nsub, nlt_t, nlt_f, nle_t, nle_f, neq_t, neq_f, rmI_n, dvI_n, upd_ne, upd_eq, un_ne, un_eq, Nat.add_zero, Bool.false_eq_true, ↓reduceIte]; exact b1, fun i hi => ?_⟩
    rw [upd_ne (by omega), un_ne (by omega)]; exact b2 i hi
  · rw [un_ne (by omega)] at hp
    rw [un_ne (by omega)]
    exact (u4 p hp).mn (Nat.le_refl _) (Nat.le_refl _) (fun k hk => un_ne (by omega))
  · rw [un_eq rfl]
    exact hO.cg (un_ne (by omega)) (fun p hp => un_ne (by omega))
def addD (died : Int32) : Nat → Int32
  | 0 => died
  | d + 1 => addD died d + nI 1
theorem addD_n (c : Nat) : ∀ d, addD (nI c) d = nI (c + d) := by
  intro d
  induction d with
  | zero => rfl
  | succ d ih =>
    show addD (nI c) d + nI 1 = _
    rw [ih, nI_add]
    rfl
theorem dMonth {N : Nat} {w : Bool} {tcl : Int32} {tcd tst ten trw : Nat → Int32} {ucl : Int32} {ucd ust uen urw : Nat → Int32} {wcl : Int32} {wcd wst wen wrw : Nat → Int32} {xcl : Int32} {xcd xst xen xrw : Nat → Int32} {vt : Nat → Int32} {tx rul dn : Int32} {df dr fe row a nm0 nd0 stack truth : Nat → Int32} {values : Nat → Int64} {S : Nat → Nat} (died : Int32) (hN : 10000 ≤ N) (hE : LE N tcl tcd tst ten trw ucl ucd ust uen urw wcl wcd wst wen wrw xcl xcd xst xen xrw vt tx rul dn df dr fe S) (h : Good w (S 10) row a S) (hm : S 10 < 9999) (hj : S 12 < 2147482000) :
    ∃ d row' nm' stack' a' nd' values' truth' S', d ≤ 6 ∧ f_X0_passMonth N dn df tcd tst ten ucd ust uen wcd wst wen xcd xst xen row fe tx rul nm0 stack = some (nI d, row', nm', stack') ∧ f_X12_goOn N a vt nd0 values truth (wI w) died = some (a', nd', values', truth', addD died d) ∧ Good w (S' 10) row' a' S' ∧ Fra 6 S S' ∧ S' 10 = S 10 + 1 ∧ (w = false → S' 12 = S 12) := by
  have key : ∀ k n p c (S0 : Nat → Nat) (row a nm0 nd0 stack truth : Nat → Int32) (values : Nat → Int64), p + k = S 1 → k < n → c ≤ p → Good w (S 10 + 1) row a S0 → Fra p S S0 → S0 10 = S 10 → (∀ q, p ≤ q → q < S 1 → S0 (14 + 11 * q + 5) ≤ S 10) → (w = false → S0 12 = S 12) →
      ∃ d row' nm' stack' a' nd' values' truth' S', d ≤ S 1 ∧ f_X0_passMonth_19 N n dn df tcd tst ten ucd ust uen wcd wst wen xcd xst xen row fe tx rul nm0 stack (nI c) (nI p) = some (nI d, row', nm', stack') ∧ f_X12_goOn_2 N n a vt nd0 values truth (wI w) (addD died c) (nI p) = some (a', nd', values', truth', addD died d) ∧ Good w (S' 10) row' a' S' ∧ Fra (S 1) S S' ∧ S' 10 = S 10 + 1 ∧ (w = false → S' 12 = S 12) := by
    intro k
    induction k with
    | zero =>
      intro n p c S0 row a nm0 nd0 stack truth values e hn hc hG hF h10 hO hw12
      obtain ⟨n, rfl⟩ : ∃ m, n = m + 1 := ⟨n - 1, by omega⟩
      have e : p = S 1 := by omega
      obtain ⟨⟨hR, hB⟩, hA, hW, hO2, h8⟩ := id hG
      have w1 := hW.1
      have e1 : S0 1 = S 1 := hF.1 1 (by omega)
      rw [← h10] at hG
      have g := hG.nextM (by omega)
      refine ⟨c, _, nm0, stack, _, nd0, values, truth, _, by omega, ?_, ?_, g, ?_, ?_⟩
      · simp (maxSteps := 1000000) (disch := omega) only [li, ob1_s, ob2_s, ob3_s, ob4_s, ob5_s, ob6_s, ob7_s, gA_n, gL_n, sA_n, sL_n, cpI_n, nI_add, pk_mul, nsub, nlt_t, nlt_f, nle_t, nle_f, neq_t, neq_f, rmI_n, dvI_n, upd_ne, upd_eq, un_ne, un_eq, Nat.add_zero, Bool.false_eq_true, ↓reduceIte, f_X0_passMonth_19, f_X1_count, f_X1_nextMonth, hR.2.2.1, hR.1]
      · simp (maxSteps := 1000000) (disch := omega) only [li, ob1_s, ob2_s, ob3_s, ob4_s, ob5_s, ob6_s, ob7_s, gA_n, gL_n, sA_n, sL_n, cpI_n, nI_add, pk_mul, nsub, nlt_t, nlt_f, nle_t, nle_f, neq_t, neq_f, rmI_n, dvI_n, upd_ne, upd_eq, un_ne, un_eq, Nat.add_zero, Bool.false_eq_true, ↓reduceIte, f_X12_goOn_2, hA.2]
      · rw [← e]
        exact hF.tr (Fra.m S0 _)
      · exact ⟨by rw [un_eq rfl, h10], fun hw => by rw [un_ne (by omega)]; exact hw12 hw⟩
    | succ k ih =>
      intro n p c S0 row a nm0 nd0 stack truth values e hn hc hG hF h10 hO hw12
      obtain ⟨n, rfl⟩ : ∃ m, n = m + 1 := ⟨n - 1, by omega⟩
      obtain ⟨⟨hR, hB⟩, hA, hW, hO2, h8⟩ := id hG
      have w1 := hW.1
      have e1 : S0 1 = S 1 := hF.1 1 (by omega)
      have e12 := hF.2.2.2.1
      have hp : p < S0 1 := by omega
      have hE0 := hE.fra (by omega) hF
      have hob := hO p (Nat.le_refl _) (by omega)
      obtain ⟨p0, p1, p2, p3, p4, p5, p6⟩ := hW.part hp
      by_cases c1 : S0 (14 + 11 * p + 6) = 1
      · obtain ⟨d, row', nm', stack', a', nd', values', truth', S', d1, d2, d3, d4, d5, d6, d7, d8⟩ := dHide (nm0 := nm0) (nd0 := nd0) (stack := stack) (truth := truth) (values := values) (addD died c) hN hE0 hG hp c1 (by omega) (by omega) (by omega)
        obtain ⟨d', row2, nm2, stack2, a2, nd2, values2, truth2, S2, g1, g2, g3, g4⟩ := ih n (p + 1) (c + d) S' row' a' nm' nd' stack' truth' values' (by omega) (by omega) (by omega) d4 (hF.tr d5) (by omega) (fun q hq1 hq2 => by rw [d7 q (by omega) (by omega)]; exact hO q (by omega) hq2) (fun hw => by rw [d8 hw]; exact hw12 hw)
        refine ⟨d', row2, nm2, stack2, a2, nd2, values2, truth2, S2, g1, ?_, ?_, g4⟩
        · rcases (show d = 0 ∨ d = 1 by omega) with ed | ed <;> subst ed
          · simp (maxSteps := 1000000) (disch := omega) only [li, ob1_s, ob2_s, ob3_s, ob4_s, ob5_s, ob6_s, ob7_s, gA_n, gL_n, sA_n, sL_n, cpI_n, nI_add, pk_mul, nsub, nlt_t, nlt_f, nle_t, nle_f, neq_t, neq_f, rmI_n, dvI_n, upd_ne, upd_eq, un_ne, un_eq, Nat.add_zero, Bool.false_eq_true, ↓reduceIte, f_X0_passMonth_19, f_X0_passMonth_52, f_X0_passMonth_70, f_X1_count, hR.2.2.1, cOutl hR hW hp, c1, d2]
            exact g2
          · simp (maxSteps := 1000000) (disch := omega) only [li, ob1_s, ob2_s, ob3_s, ob4_s, ob5_s, ob6_s, ob7_s, gA_n, gL_n, sA_n, sL_n, cpI_n, nI_add, pk_mul, nsub, nlt_t, nlt_f, nle_t, nle_f, neq_t, neq_f, rmI_n, dvI_n, upd_ne, upd_eq, un_ne, un_eq, Nat.add_zero, Bool.false_eq_true, ↓reduceIte, f_X0_passMonth_19, f_X0_passMonth_52, f_X0_passMonth_70, f_X1_count, hR.2.2.1, cOutl hR hW hp, c1, d2]
            exact g2
        · simp (maxSteps := 1000000) (disch := omega) only [li, ob1_s, ob2_s, ob3_s, ob4_s, ob5_s, ob6_s, ob7_s, gA_n, gL_n, sA_n, sL_n, cpI_n, nI_add, pk_mul, nsub, nlt_t, nlt_f, nle_t, nle_f, neq_t, neq_f, rmI_n, dvI_n, upd_ne, upd_eq, un_ne, un_eq, Nat.add_zero, Bool.false_eq_true, ↓reduceIte, f_X12_goOn_2, hA.2, d3]
          rcases (show d = 0 ∨ d = 1 by omega) with ed | ed <;> subst ed
          · exact g3
          · exact g3
      · by_cases c3 : S0 (14 + 11 * p + 6) = 3
        · obtain ⟨d', row2, nm2, stack2, a2, nd2, values2, truth2, S2, g1, g2, g3, g4⟩ := ih n (p + 1) c S0 row a nm0 nd0 stack truth values (by omega) (by omega) (by omega) hG (hF.mn (by omega)) h10 (fun q hq1 hq2 => hO q (by omega) hq2) hw12
          refine ⟨d', row2, nm2, stack2, a2, nd2, values2, truth2, S2, g1, ?_, ?_, g4⟩
          · simp (maxSteps := 1000000) (disch := omega) only [li, ob1_s, ob2_s, ob3_s, ob4_s, ob5_s, ob6_s, ob7_s, gA_n, gL_n, sA_n, sL_n, cpI_n, nI_add, pk_mul, nsub, nlt_t, nlt_f, nle_t, nle_f, neq_t, neq_f, rmI_n, dvI_n, upd_ne, upd_eq, un_ne, un_eq, Nat.add_zero, Bool.false_eq_true, ↓reduceIte, f_X0_passMonth_19, f_X0_passMonth_70, f_X1_count, hR.2.2.1, cOutl hR hW hp, cAliv hR hW hp, c1, c3]
            exact g2
          · have lv : f_X12_live N a vt nd0 values truth (wI w) (addD died c) (nI p) = some (a, nd0, values, truth, addD died c) := by simp (maxSteps := 1000000) (disch := omega) only [li, ob1_s, ob2_s, ob3_s, ob4_s, ob5_s, ob6_s, ob7_s, gA_n, gL_n, sA_n, sL_n, cpI_n, nI_add, pk_mul, nsub, nlt_t, nlt_f, nle_t, nle_f, neq_t, neq_f, rmI_n, dvI_n, upd_ne, upd_eq, un_ne, un_eq, Nat.add_zero, Bool.false_eq_true, ↓reduceIte, f_X12_live, rget hA, c3]
            simp (maxSteps := 1000000) (disch := omega) only [li, ob1_s, ob2_s, ob3_s, ob4_s, ob5_s, ob6_s, ob7_s, gA_n, gL_n, sA_n, sL_n, cpI_n, nI_add, pk_mul, nsub, nlt_t, nlt_f, nle_t, nle_f, neq_t, neq_f, rmI_n, dvI_n, upd_ne, upd_eq, un_ne, un_eq, Nat.add_zero, Bool.false_eq_true, ↓reduceIte, f_X12_goOn_2, hA.2, lv]
            exact g3
        · obtain ⟨row', nm', stack', a', nd', values', truth', S', d2, d3, d4, d5, d6⟩ := dEarn (nm0 := nm0) (nd0 := nd0) (stack := stack) (truth := truth) (values := values) (addD died c) hN hE0 hG hp c1 c3
          obtain ⟨d', row2, nm2, stack2, a2, nd2, values2, truth2, S2, g1, g2, g3, g4⟩ := ih n (p + 1) c S' row' a' nm' nd' stack' truth' values' (by omega) (by omega) (by omega) d4 ((hF.tr d5).mn (by omega)) (by rw [d6 10 (by omega)]; exact h10) (fun q hq1 hq2 => by rw [d6 _ (by omega)]; exact hO q (by omega) hq2) (fun hw => by rw [d6 12 (by omega)]; exact hw12 hw)
          refine ⟨d', row2, nm2, stack2, a2, nd2, values2, truth2, S2, g1, ?_, ?_, g4⟩
          · simp (maxSteps := 1000000) (disch := omega) only [li, ob1_s, ob2_s, ob3_s, ob4_s, ob5_s, ob6_s, ob7_s, gA_n, gL_n, sA_n, sL_n, cpI_n, nI_add, pk_mul, nsub, nlt_t, nlt_f, nle_t, nle_f, neq_t, neq_f, rmI_n, dvI_n, upd_ne, upd_eq, un_ne, un_eq, Nat.add_zero, Bool.false_eq_true, ↓reduceIte, f_X0_passMonth_19, f_X0_passMonth_70, f_X1_count, hR.2.2.1, cOutl hR hW hp, cAliv hR hW hp, c1, c3, d2]
            exact g2
          · simp (maxSteps := 1000000) (disch := omega) only [li, ob1_s, ob2_s, ob3_s, ob4_s, ob5_s, ob6_s, ob7_s, gA_n, gL_n, sA_n, sL_n, cpI_n, nI_add, pk_mul, nsub, nlt_t, nlt_f, nle_t, nle_f, neq_t, neq_f, rmI_n, dvI_n, upd_ne, upd_eq, un_ne, un_eq, Nat.add_zero, Bool.false_eq_true, ↓reduceIte, f_X12_goOn_2, hA.2, d3]
            exact g3
  obtain ⟨⟨hR, hB⟩, hA, hW, hO, h8⟩ := id h
  have w1 := hW.1
  have hG : Good w (S 10 + 1) row a S := ⟨⟨hR, hB⟩, hA, hW, fun p hp => Nat.le_succ_of_le (hO p hp), h8⟩
  obtain ⟨d, row', nm', stack', a', nd', values', truth', S', g1, g2, g3, g4, g5, g6⟩ := key (S 1) N 0 0 S row a nm0 nd0 stack truth values (by omega) (by omega) (by omega) hG (Fra.rf S) rfl (fun q _ hq => hO q hq) (fun _ => rfl)
  refine ⟨d, row', nm', stack', a', nd', values', truth', S', by omega, ?_, g3, g4, g5.mn w1, g6⟩
  simp (maxSteps := 1000000) (disch := omega) only [li, ob1_s, ob2_s, ob3_s, ob4_s, ob5_s, ob6_s, ob7_s, gA_n, gL_n, sA_n, sL_n, cpI_n, nI_add, pk_mul, nsub, nlt_t, nlt_f, nle_t, nle_f, neq_t, neq_f, rmI_n, dvI_n, upd_ne, upd_eq, un_ne, un_eq, Nat.add_zero, Bool.false_eq_true, ↓reduceIte, f_X0_passMonth, f_X1_monthNow, hR.1]
  exact g2
