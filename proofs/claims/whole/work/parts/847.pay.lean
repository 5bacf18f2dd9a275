/-- the price that the object asked is the one the reference finds, whatever its scratch rows hold -/
theorem dPri2 {N p v : Nat} {tcl : Int32} {tcd tst ten trw : Nat → Int32} {ucl : Int32} {ucd ust uen urw : Nat → Int32} {wcl : Int32} {wcd wst wen wrw : Nat → Int32} {xcl : Int32} {xcd xst xen xrw : Nat → Int32} {vt : Nat → Int32} {tx rul dn : Int32} {df dr fe row a nm0 nm1 stack st1 : Nat → Int32} {S : Nat → Nat} (hN : 10000 ≤ N) (hE : LE N tcl tcd tst ten trw ucl ucd ust uen urw wcl wcd wst wen wrw xcl xcd xst xen xrw vt tx rul dn df dr fe S) (hR : RowC row S) (hA : TieA a S) (hW : FolkX S) (hp : p < S 1) (hv : v ≤ 9999) (hc : f_X3_rule N dn df tcd tst ten ucd ust uen wcd wst wen xcd xst xen row fe tx nm0 stack rul (nI 2) (nI p) (nI (S (14 + 11 * p))) = some (nI v, nm1, st1)) (nd truth : Nat → Int32) (values : Nat → Int64) : ∃ nd' values' truth', f_X12_priceOf N a vt nd values truth rul (nI p) = some (nI v, nd', values', truth') := by
  obtain ⟨v2, nm', stack', nd', values', truth', g1, g2, g3⟩ := dPri (nm0 := nm0) (nd0 := nd) (stack := stack) (truth := truth) (values := values) rul hN hE (ruls hE.2.1) hR hA hW hp
  rw [hc] at g2
  have e : nI v = nI v2 := by
    have := Option.some.inj g2
    exact (Prod.mk.inj this).1
  have : v = v2 := (neq (by omega) (by omega)).mp e
  subst this
  exact ⟨nd', values', truth', g3⟩
/-- can one pay: price and answer of both sides -/
theorem dCan {N p q : Nat} {tcl : Int32} {tcd tst ten trw : Nat → Int32} {ucl : Int32} {ucd ust uen urw : Nat → Int32} {wcl : Int32} {wcd wst wen wrw : Nat → Int32} {xcl : Int32} {xcd xst xen xrw : Nat → Int32} {vt : Nat → Int32} {tx rul dn : Int32} {df dr fe row a nm0 nd0 stack truth : Nat → Int32} {values : Nat → Int64} {S : Nat → Nat} (hN : 10000 ≤ N) (hE : LE N tcl tcd tst ten trw ucl ucd ust uen urw wcl wcd wst wen wrw xcl xcd xst xen xrw vt tx rul dn df dr fe S) (hR : RowC row S) (hA : TieA a S) (hW : FolkX S) (hp : p < S 1) (hq : q < S 1) :
    ∃ nm' stack' nd' values' truth', (f_X0_priceFor N dn df tcd tst ten ucd ust uen wcd wst wen xcd xst xen row fe tx rul nm0 stack (nI p) (nI q) = some (-nI 1, nm', stack') ∧ f_X12_canPardon N a vt nd0 values truth (nI p) (nI q) = some (nI 0, nd', values', truth')) ∨
      (∃ v, v ≤ 9999 ∧ v ≤ S (14 + 11 * q + 1) ∧ f_X0_priceFor N dn df tcd tst ten ucd ust uen wcd wst wen xcd xst xen row fe tx rul nm0 stack (nI p) (nI q) = some (nI v, nm', stack') ∧ f_X12_canPardon N a vt nd0 values truth (nI p) (nI q) = some (nI 1, nd', values', truth') ∧ f_X3_rule N dn df tcd tst ten ucd ust uen wcd wst wen xcd xst xen row fe tx nm0 stack rul (nI 2) (nI p) (nI (S (14 + 11 * p))) = some (nI v, nm', stack')) := by
  have w1 := hW.1
  obtain ⟨p0, p1, p2, p3, p4, p5, p6⟩ := hW.part hp
  obtain ⟨q0, q1, q2, q3, q4, q5, q6⟩ := hW.part hq
  by_cases e1 : S (14 + 11 * p + 6) = 1
  · by_cases e3 : S (14 + 11 * q + 6) = 3
    · exact ⟨nm0, stack, nd0, values, truth, Or.inl ⟨by simp (maxSteps := 1000000) (disch := omega) only [li, ob1_s, ob2_s, ob3_s, ob4_s, ob5_s, ob6_s, ob7_s, gA_n, gL_n, sA_n, sL_n, cpI_n, nI_add, pk_mul, nsub, nlt_t, nlt_f, nle_t, nle_f, neq_t, neq_f, rmI_n, dvI_n, upd_ne, upd_eq, un_ne, un_eq, Nat.add_zero, Bool.false_eq_true, ↓reduceIte, f_X0_priceFor, cOutl hR hW hp, cAliv hR hW hq, e1, e3], by simp (maxSteps := 1000000) (disch := omega) only [li, ob1_s, ob2_s, ob3_s, ob4_s, ob5_s, ob6_s, ob7_s, gA_n, gL_n, sA_n, sL_n, cpI_n, nI_add, pk_mul, nsub, nlt_t, nlt_f, nle_t, nle_f, neq_t, neq_f, rmI_n, dvI_n, upd_ne, upd_eq, un_ne, un_eq, Nat.add_zero, Bool.false_eq_true, ↓reduceIte, f_X12_canPardon, rOutlaw hA hW hp, rAliv hA hW hq, e1, e3]⟩⟩
    · obtain ⟨v, nm', stack', nd', values', truth', g1, g2, g3⟩ := dPri (nm0 := nm0) (nd0 := nd0) (stack := stack) (truth := truth) (values := values) rul hN hE (ruls hE.2.1) hR hA hW hp
      have r3 := rul3 hE.2.1 hA
      by_cases hv : S (14 + 11 * q + 1) < v
      · exact ⟨nm', stack', nd', values', truth', Or.inl ⟨by simp (maxSteps := 1000000) (disch := omega) only [li, ob1_s, ob2_s, ob3_s, ob4_s, ob5_s, ob6_s, ob7_s, gA_n, gL_n, sA_n, sL_n, cpI_n, nI_add, pk_mul, nsub, nlt_t, nlt_f, nle_t, nle_f, neq_t, neq_f, rmI_n, dvI_n, upd_ne, upd_eq, un_ne, un_eq, Nat.add_zero, Bool.false_eq_true, ↓reduceIte, f_X0_priceFor, cOutl hR hW hp, cAliv hR hW hq, e1, e3, cget hR w1, g2], by simp (maxSteps := 1000000) (disch := omega) only [li, ob1_s, ob2_s, ob3_s, ob4_s, ob5_s, ob6_s, ob7_s, gA_n, gL_n, sA_n, sL_n, cpI_n, nI_add, pk_mul, nsub, nlt_t, nlt_f, nle_t, nle_f, neq_t, neq_f, rmI_n, dvI_n, upd_ne, upd_eq, un_ne, un_eq, Nat.add_zero, Bool.false_eq_true, ↓reduceIte, f_X12_canPardon, rOutlaw hA hW hp, rAliv hA hW hq, e1, e3, rget hA, r3, g3]⟩⟩
      · exact ⟨nm', stack', nd', values', truth', Or.inr ⟨v, g1, by omega, by simp (maxSteps := 1000000) (disch := omega) only [li, ob1_s, ob2_s, ob3_s, ob4_s, ob5_s, ob6_s, ob7_s, gA_n, gL_n, sA_n, sL_n, cpI_n, nI_add, pk_mul, nsub, nlt_t, nlt_f, nle_t, nle_f, neq_t, neq_f, rmI_n, dvI_n, upd_ne, upd_eq, un_ne, un_eq, Nat.add_zero, Bool.false_eq_true, ↓reduceIte, f_X0_priceFor, cOutl hR hW hp, cAliv hR hW hq, e1, e3, cget hR w1, g2], by simp (maxSteps := 1000000) (disch := omega) only [li, ob1_s, ob2_s, ob3_s, ob4_s, ob5_s, ob6_s, ob7_s, gA_n, gL_n, sA_n, sL_n, cpI_n, nI_add, pk_mul, nsub, nlt_t, nlt_f, nle_t, nle_f, neq_t, neq_f, rmI_n, dvI_n, upd_ne, upd_eq, un_ne, un_eq, Nat.add_zero, Bool.false_eq_true, ↓reduceIte, f_X12_canPardon, rOutlaw hA hW hp, rAliv hA hW hq, e1, e3, rget hA, r3, g3], g2⟩⟩
  · exact ⟨nm0, stack, nd0, values, truth, Or.inl ⟨by simp (maxSteps := 1000000) (disch := omega) only [li, ob1_s, ob2_s, ob3_s, ob4_s, ob5_s, ob6_s, ob7_s, gA_n, gL_n, sA_n, sL_n, cpI_n, nI_add, pk_mul, nsub, nlt_t, nlt_f, nle_t, nle_f, neq_t, neq_f, rmI_n, dvI_n, upd_ne, upd_eq, un_ne, un_eq, Nat.add_zero, Bool.false_eq_true, ↓reduceIte, f_X0_priceFor, cOutl hR hW hp, e1], by simp (maxSteps := 1000000) (disch := omega) only [li, ob1_s, ob2_s, ob3_s, ob4_s, ob5_s, ob6_s, ob7_s, gA_n, gL_n, sA_n, sL_n, cpI_n, nI_add, pk_mul, nsub, nlt_t, nlt_f, nle_t, nle_f, neq_t, neq_f, rmI_n, dvI_n, upd_ne, upd_eq, un_ne, un_eq, Nat.add_zero, Bool.false_eq_true, ↓reduceIte, f_X12_canPardon, rOutlaw hA hW hp, e1]⟩⟩
theorem dCan_o {N : Nat} {x y : Int32} {tcd tst ten ucd ust uen wcd wst wen xcd xst xen vt : Nat → Int32} {tx rul dn : Int32} {df fe row a nm0 nd0 stack truth : Nat → Int32} {values : Nat → Int64} {S : Nat → Nat} (hR : RowC row S) (hA : TieA a S) (hW : FolkX S) (h : Out x (S 1) ∨ Out y (S 1)) : f_X0_priceFor N dn df tcd tst ten ucd ust uen wcd wst wen xcd xst xen row fe tx rul nm0 stack x y = some (-nI 1, nm0, stack) ∧ f_X12_canPardon N a vt nd0 values truth x y = some (nI 0, nd0, values, truth) := by
  have w1 := hW.1
  rcases inOut x (S 1) (by omega) with hx | ⟨p, hp, rfl⟩
  · exact ⟨by simp only [f_X0_priceFor, cOutl_o hR hx, li, ob1_s, ↓reduceIte], by simp only [f_X12_canPardon, rOutl_o hA w1 hx, li, ob1_s, ↓reduceIte]⟩
  · have hy : Out y (S 1) := by
      rcases h with h | h
      · exact (out_not hp (by omega) h).elim
      · exact h
    by_cases e1 : S (14 + 11 * p + 6) = 1
    · exact ⟨by simp (maxSteps := 1000000) (disch := omega) only [li, ob1_s, ob2_s, ob3_s, ob4_s, ob5_s, ob6_s, ob7_s, gA_n, gL_n, sA_n, sL_n, cpI_n, nI_add, pk_mul, nsub, nlt_t, nlt_f, nle_t, nle_f, neq_t, neq_f, rmI_n, dvI_n, upd_ne, upd_eq, un_ne, un_eq, Nat.add_zero, Bool.false_eq_true, ↓reduceIte, f_X0_priceFor, cOutl hR hW hp, cAliv_o hR hy, e1], by simp (maxSteps := 1000000) (disch := omega) only [li, ob1_s, ob2_s, ob3_s, ob4_s, ob5_s, ob6_s, ob7_s, gA_n, gL_n, sA_n, sL_n, cpI_n, nI_add, pk_mul, nsub, nlt_t, nlt_f, nle_t, nle_f, neq_t, neq_f, rmI_n, dvI_n, upd_ne, upd_eq, un_ne, un_eq, Nat.add_zero, Bool.false_eq_true, ↓reduceIte, f_X12_canPardon, rOutlaw hA hW hp, rAliv_o hA w1 hy, e1]⟩
    · exact ⟨by simp (maxSteps := 1000000) (disch := omega) only [li, ob1_s, ob2_s, ob3_s, ob4_s, ob5_s, ob6_s, ob7_s, gA_n, gL_n, sA_n, sL_n, cpI_n, nI_add, pk_mul, nsub, nlt_t, nlt_f, nle_t, nle_f, neq_t, neq_f, rmI_n, dvI_n, upd_ne, upd_eq, un_ne, un_eq, Nat.add_zero, Bool.false_eq_true, ↓reduceIte, f_X0_priceFor, cOutl hR hW hp, e1], by simp (maxSteps := 1000000) (disch := omega) only [li, ob1_s, ob2_s, ob3_s, ob4_s, ob5_s, ob6_s, ob7_s, gA_n, gL_n, sA_n, sL_n, cpI_n, nI_add, pk_mul, nsub, nlt_t, nlt_f, nle_t, nle_f, neq_t, neq_f, rmI_n, dvI_n, upd_ne, upd_eq, un_ne, un_eq, Nat.add_zero, Bool.false_eq_true, ↓reduceIte, f_X12_canPardon, rOutlaw hA hW hp, e1]⟩
/-- paid and pardoned -/
theorem dPay {N : Nat} {w : Bool} {b p q v : Nat} {tcl : Int32} {tcd tst ten trw : Nat → Int32} {ucl : Int32} {ucd ust uen urw : Nat → Int32} {wcl : Int32} {wcd wst wen wrw : Nat → Int32} {xcl : Int32} {xcd xst xen xrw : Nat → Int32} {vt : Nat → Int32} {tx rul dn : Int32} {df dr fe row a nm0 nd0 stack truth nm' stack' : Nat → Int32} {values : Nat → Int64} {S : Nat → Nat} (hN : 10000 ≤ N) (hE : LE N tcl tcd tst ten trw ucl ucd ust uen urw wcl wcd wst wen wrw xcl xcd xst xen xrw vt tx rul dn df dr fe S) (h : Good w b row a S) (hp : p < S 1) (hq : q < S 1) (hv : v ≤ 9999) (hvg : v ≤ S (14 + 11 * q + 1)) (hpf : f_X0_priceFor N dn df tcd tst ten ucd ust uen wcd wst wen xcd xst xen row fe tx rul nm0 stack (nI p) (nI q) = some (nI v, nm', stack')) (hc : f_X3_rule N dn df tcd tst ten ucd ust uen wcd wst wen xcd xst xen row fe tx nm0 stack rul (nI 2) (nI p) (nI (S (14 + 11 * p))) = some (nI v, nm', stack')) (hj : S 12 < 2147483000) :
    ∃ row' a' nd' values' truth' S', f_X0_forgive N dn df tcd tst ten ucd ust uen wcd wst wen xcd xst xen row fe tx rul nm0 stack (nI p) (nI q) = some (nI v, row', nm', stack') ∧ f_X12_payNow N a vt nd0 values truth (wI w) (nI p) (nI q) = some (nI v, a', nd', values', truth') ∧ Good w b row' a' S' ∧ Fra 1 S S' ∧ S' 10 = S 10 := by
  obtain ⟨⟨hR, hB⟩, hA, hW, hO, h8⟩ := id h
  have w1 := hW.1
  obtain ⟨q0, q1, q2, q3, q4, q5, q6⟩ := hW.part hq
  obtain ⟨nd', values', truth', g3⟩ := dPri2 hN hE hR hA hW hp hv hc nd0 truth values
  have r3 := rul3 hE.2.1 hA
  have c := h.set (p := q) (k := 1) (v := S (14 + 11 * q + 1) - v) hq (by omega) ⟨by omega, by omega, by omega, by omega, by omega, by omega, by omega⟩ (by omega)
  have u1 : un S (14 + 11 * q + 1) (S (14 + 11 * q + 1) - v) 1 = S 1 := un_ne (by omega)
  obtain ⟨row2, a2, S2, d1, d2, d3, d4, d5⟩ := dFree (N := N) (p := p) c (by rw [u1]; exact hp)
  obtain ⟨row', a', k1, k2, k3⟩ := d3.wr (N := N) (p := p) (c := 6) (by rw [d5 1 (by omega), u1]; exact hp) (by omega) (by rw [d5 12 (by omega), un_ne (by omega)]; exact hj)
  have hm : ¬ nI v = -nI 1 := m1_ne (by omega)
  refine ⟨row', a', nd', values', truth', _, ?_, ?_, k3, ((Fra.set S _ (by omega) (by omega)).tr d4).tr (Fra.wr w _ p 6), ?_⟩
  · simp (maxSteps := 1000000) (disch := omega) only [li, ob1_s, ob2_s, ob3_s, ob4_s, ob5_s, ob6_s, ob7_s, gA_n, gL_n, sA_n, sL_n, cpI_n, nI_add, pk_mul, nsub, nlt_t, nlt_f, nle_t, nle_f, neq_t, neq_f, rmI_n, dvI_n, upd_ne, upd_eq, un_ne, un_eq, Nat.add_zero, Bool.false_eq_true, ↓reduceIte, f_X0_forgive, hpf, hm, cget hR w1, cset hR w1, d1, k1]
  · simp (maxSteps := 1000000) (disch := omega) only [li, ob1_s, ob2_s, ob3_s, ob4_s, ob5_s, ob6_s, ob7_s, gA_n, gL_n, sA_n, sL_n, cpI_n, nI_add, pk_mul, nsub, nlt_t, nlt_f, nle_t, nle_f, neq_t, neq_f, rmI_n, dvI_n, upd_ne, upd_eq, un_ne, un_eq, Nat.add_zero, Bool.false_eq_true, ↓reduceIte, f_X12_payNow, r3, g3, rget hA, rput, d2, k2]
  · rw [aWr_o (by omega) (by omega), d5 10 (by omega), un_ne (by omega)]
theorem st_pardon {j : Nat} {dn : Int32} {df dr row fe to : Nat → Int32} {cnt next : Int32} {store : Nat → Int32} {calls bord rep unl pay : Int32} {cl ul ga py pr : Nat → Int32} {tx rul : Int32} {a : Nat → Int32} {S : Nat → Nat} {N : Nat} {tcl : Int32} {tcd tst ten trw : Nat → Int32} {ucl : Int32} {ucd ust uen urw : Nat → Int32} {wcl : Int32} {wcd wst wen wrw : Nat → Int32} {xcl : Int32} {xcd xst xen xrw : Nat → Int32} {vt : Nat → Int32} {nm0 nd0 stack truth : Nat → Int32} {values : Nat → Int64} (hN : 10000 ≤ N) (hJ : j ≤ 20000) (hT : TextsT N tcl tcd tst ten trw ucl ucd ust uen urw wcl wcd wst wen wrw xcl xcd xst xen xrw vt (S 2)) (x y : Int32) (h : RealmT j dn df dr row fe to cnt next store calls bord rep unl pay cl ul ga py pr tx rul a S) :
    ∃ (r : Int32) (row' : Nat → Int32) (cnt' next' : Int32) (store' nm' stack' a' nd' : Nat → Int32) (values' : Nat → Int64) (truth' : Nat → Int32) (S' : Nat → Nat), f_X11_pardon N dn df row fe cnt next store tx rul tcd tst ten ucd ust uen wcd wst wen xcd xst xen nm0 stack x y = some (r, row', cnt', next', store', nm', stack') ∧ f_X12_pardon N a vt nd0 values truth (nI 1) x y = some (r, a', nd', values', truth') ∧ RealmT (j + 1) dn df dr row' fe to cnt' next' store' calls bord rep unl pay cl ul ga py pr tx rul a' S' ∧ S' 2 = S 2 ∧ Ans r := by
  have h0 := h
  have hE := h.le hT
  obtain ⟨hA, hL, hR, hW, hF, hB, hZ, hQ, hI, hj⟩ := h
  have h8 := hL.2.1
  obtain ⟨z1, z2, nx, z3, z4, -⟩ := id hZ
  have w1 := hW.1
  have no : ∀ nm' stack' nd' values' truth', f_X0_priceFor N dn df tcd tst ten ucd ust uen wcd wst wen xcd xst xen row fe tx rul nm0 stack x y = some (-nI 1, nm', stack') → f_X12_canPardon N a vt nd0 values truth x y = some (nI 0, nd', values', truth') → ∃ (r : Int32) (row' : Nat → Int32) (cnt' next' : Int32) (store' nm' stack' a' nd' : Nat → Int32) (values' : Nat → Int64) (truth' : Nat → Int32) (S' : Nat → Nat), f_X11_pardon N dn df row fe cnt next store tx rul tcd tst ten ucd ust uen wcd wst wen xcd xst xen nm0 stack x y = some (r, row', cnt', next', store', nm', stack') ∧ f_X12_pardon N a vt nd0 values truth (nI 1) x y = some (r, a', nd', values', truth') ∧ RealmT (j + 1) dn df dr row' fe to cnt' next' store' calls bord rep unl pay cl ul ga py pr tx rul a' S' ∧ S' 2 = S 2 ∧ Ans r := by
    intro nm' stack' nd' values' truth' g1 g2
    refine ⟨-nI 1, row, cnt, next, _, nm', stack', a, nd', values', truth', S, ?_, ?_, h0.idle z3 z4, rfl, Or.inl rfl⟩
    · rw [z4]
      simp only [f_X11_pardon, f_X0_forgive, cAhead z3, g1, li, ob1_s, ob3_s, ob4_s, ↓reduceIte]
    · simp only [f_X12_pardon, g2, li, ob1_s, ob4_s, ↓reduceIte]
  rcases inOut x (S 1) (by omega) with hx | ⟨p, hp, rfl⟩
  · obtain ⟨g1, g2⟩ := dCan_o (N := N) (y := y) (nm0 := nm0) (stack := stack) (nd0 := nd0) (values := values) (truth := truth) hR hA hW.x (Or.inl hx)
    exact no _ _ _ _ _ g1 g2
  rcases inOut y (S 1) (by omega) with hy | ⟨q, hq, rfl⟩
  · obtain ⟨g1, g2⟩ := dCan_o (N := N) (x := nI p) (nm0 := nm0) (stack := stack) (nd0 := nd0) (values := values) (truth := truth) hR hA hW.x (Or.inr hy)
    exact no _ _ _ _ _ g1 g2
  obtain ⟨nm', stack', nd', values', truth', g⟩ := dCan (nm0 := nm0) (nd0 := nd0) (stack := stack) (truth := truth) (values := values) hN hE hR hA hW.x hp hq
  rcases g with ⟨g1, g2⟩ | ⟨v, hv, hvg, g1, g2, g3⟩
  · exact no _ _ _ _ _ g1 g2
  obtain ⟨a1, k1, k2⟩ := rKeep hN hA z2
  have hG := h0.good (nx := nx) k2
  have ee : ∀ i, i ≠ 4 → i < 142 → kpS S i = S i := fun i h4 h1 => kp_o (by omega) h4
  obtain ⟨row', a', nd2, values2, truth2, S', d1, d2, d3, d4, d5⟩ := dPay (w := true) (p := p) (q := q) (nd0 := nd') (truth := truth') (values := values') hN (hE.kp w1) hG (by rw [ee 1 (by omega) (by omega)]; exact hp) (by rw [ee 1 (by omega) (by omega)]; exact hq) hv (by rw [ee _ (by omega) (by omega)]; exact hvg) g1 (by rw [ee _ (by omega) (by omega)]; exact g3) (by rw [ee 12 (by omega) (by omega)]; omega)
  rw [ee 10 (by omega) (by omega)] at d5
  obtain ⟨q1, q2, q3⟩ := h0.deed (n := 1) (nx := nx) z3 z4 (by rw [d5]; exact d3) d4 (by omega)
  refine ⟨nI v, row', _, _, _, nm', stack', a', nd2, values2, truth2, S', ?_, ?_, q1 (j + 1) (by omega), q2, Or.inr ⟨v, by omega, rfl⟩⟩
  · rw [z4]
    have hm : ¬ nI v = -nI 1 := m1_ne (by omega)
    simp only [f_X11_pardon, cAhead z3, d1, z1, li, ob1_s, ob2_s, ob4_s, hm, cKeep z3 z2, ↓reduceIte]
  · have d2 : f_X12_payNow N a1 vt nd' values' truth' (nI 1) (nI p) (nI q) = some (nI v, a', nd2, values2, truth2) := d2
    simp (maxSteps := 1000000) (disch := omega) only [li, ob1_s, ob2_s, ob3_s, ob4_s, ob5_s, ob6_s, ob7_s, gA_n, gL_n, sA_n, sL_n, cpI_n, nI_add, pk_mul, nsub, nlt_t, nlt_f, nle_t, nle_f, neq_t, neq_f, rmI_n, dvI_n, upd_ne, upd_eq, un_ne, un_eq, Nat.add_zero, Bool.false_eq_true, ↓reduceIte, f_X12_pardon, g2, k1, d2]
