theorem un_comm (S : Nat → Nat) {i j : Nat} (h : i ≠ j) (v w : Nat) : un (un S i v) j w = un (un S j w) i v := by
  funext k
  by_cases e1 : k = i
  · subst e1; rw [un_ne h, un_eq rfl, un_eq rfl]
  · by_cases e2 : k = j
    · subst e2; rw [un_eq rfl, un_ne e1, un_eq rfl]
    · rw [un_ne e2, un_ne e1, un_ne e1, un_ne e2]
theorem aWr_un (w : Bool) (S : Nat → Nat) (p c : Nat) {i : Nat} (v : Nat) (h1 : i < 1522) (h12 : i ≠ 12) (h10 : i ≠ 10) : aWr w (un S i v) p c = un (aWr w S p c) i v := by
  unfold aWr
  cases w
  · rfl
  · have e12 : un S i v 12 = S 12 := un_ne (Ne.symm h12)
    have e10 : un S i v 10 = S 10 := un_ne (Ne.symm h10)
    rw [if_pos rfl, if_pos rfl, e12, e10, un_comm S (show i ≠ 1522 + S 12 % 7240 by omega), un_comm _ h12]
theorem dFeed {N : Nat} {w : Bool} {b p q : Nat} {tcl : Int32} {tcd tst ten trw : Nat → Int32} {ucl : Int32} {ucd ust uen urw : Nat → Int32} {wcl : Int32} {wcd wst wen wrw : Nat → Int32} {xcl : Int32} {xcd xst xen xrw : Nat → Int32} {vt : Nat → Int32} {tx rul dn : Int32} {df dr fe row a nm0 nd0 stack truth : Nat → Int32} {values : Nat → Int64} {S : Nat → Nat} (hN : 10000 ≤ N) (hE : LE N tcl tcd tst ten trw ucl ucd ust uen urw wcl wcd wst wen wrw xcl xcd xst xen xrw vt tx rul dn df dr fe S) (h : Good w b row a S) (hp : p < S 1) (hq : q < S 1) (hpq : p ≠ q) (hm : f_X0_meets N row (nI q) (nI p) = some (nI 1)) (hj : S 12 < 2147483000) :
    ∃ r row' nm' stack' a' nd' values' truth' S', r ≤ 4 ∧ f_X0_nourish N dn df tcd tst ten ucd ust uen wcd wst wen xcd xst xen row fe tx rul nm0 stack (nI p) (nI q) = some (nI r, row', nm', stack') ∧ f_X12_feedNow N a vt nd0 values truth (wI w) (nI p) (nI q) = some (a', nd', values', truth') ∧ S' (14 + 11 * q + 3) = r ∧ Good w b row' a' S' ∧ Fra 1 S S' ∧ S' 10 = S 10 := by
  obtain ⟨⟨hR, hB⟩, hA, hW, hO, h8⟩ := id h
  have w1 := hW.1
  obtain ⟨p0, p1, p2, p3, p4, p5, p6⟩ := hW.part hp
  obtain ⟨q0, q1, q2, q3, q4, q5, q6⟩ := hW.part hq
  have c := h.set (p := p) (k := 4) (v := 0) hp (by omega) ⟨by omega, by omega, by omega, by omega, by omega, by omega, by omega⟩ (by omega)
  have f1 : Fra 0 S (un S (14 + 11 * p + 4) 0) := Fra.set S _ (by omega) (by omega)
  generalize hS1 : un S (14 + 11 * p + 4) 0 = S1 at c f1
  have s1 : ∀ i, i ≠ 14 + 11 * p + 4 → S1 i = S i := fun i hi => by rw [← hS1]; exact un_ne hi
  obtain ⟨⟨cR, cB⟩, cA, cW, cO, c8⟩ := id c
  have u1 : S1 1 = S 1 := s1 1 (by omega)
  have uq3 : S1 (14 + 11 * q + 3) = S (14 + 11 * q + 3) := s1 _ (by omega)
  have uq6 : S1 (14 + 11 * q + 6) = S (14 + 11 * q + 6) := s1 _ (by omega)
  have up0 : S1 (14 + 11 * p) = S (14 + 11 * p) := s1 _ (by omega)
  have u11 : S1 11 = S 11 := s1 11 (by omega)
  obtain ⟨roww, a2, k1, k2, k3⟩ := c.wr (N := N) (p := p) (c := 2) (by rw [u1]; exact hp) (by omega) (by rw [s1 12 (by omega)]; exact hj)
  have ho := cOutl (N := N) cR cW (show q < S1 1 by rw [u1]; exact hq)
  have hg3 := cget (N := N) (p := q) (k := 3) cR cW.1 (by rw [u1]; exact hq) (by omega)
  have hgp := cget (N := N) (p := p) (k := 0) cR cW.1 (by rw [u1]; exact hp) (by omega)
  rw [uq6] at ho
  rw [uq3] at hg3
  rw [show 14 + 11 * p + 0 = 14 + 11 * p by omega, up0] at hgp
  have aw : ∀ i, i < 1522 → i ≠ 12 → aWr w S1 p 2 i = S1 i := fun i h1 h2 => aWr_o h1 h2
  have rg6 := rget (N := N) (p := q) (k := 6) k3.2.1 (by omega) (by omega)
  rw [aw _ (by omega) (by omega), uq6] at rg6
  by_cases eo : S (14 + 11 * q + 6) = 1
  · refine ⟨S (14 + 11 * q + 3), roww, nm0, stack, a2, nd0, values, truth, _, q3, ?_, ?_, ?_, k3, f1.tr (Fra.wr w S1 p 2), ?_⟩
    · simp (maxSteps := 1000000) (disch := omega) only [li, ob1_s, ob2_s, ob3_s, ob4_s, ob5_s, ob6_s, ob7_s, gA_n, gL_n, sA_n, sL_n, cpI_n, nI_add, pk_mul, nsub, nlt_t, nlt_f, nle_t, nle_f, neq_t, neq_f, rmI_n, dvI_n, upd_ne, upd_eq, un_ne, un_eq, Nat.add_zero, Bool.false_eq_true, ↓reduceIte, f_X0_nourish, f_X0_nourish_104, hm, cset hR w1, hg3, ho, eo, k1]
    · simp (maxSteps := 1000000) (disch := omega) only [li, ob1_s, ob2_s, ob3_s, ob4_s, ob5_s, ob6_s, ob7_s, gA_n, gL_n, sA_n, sL_n, cpI_n, nI_add, pk_mul, nsub, nlt_t, nlt_f, nle_t, nle_f, neq_t, neq_f, rmI_n, dvI_n, upd_ne, upd_eq, un_ne, un_eq, Nat.add_zero, Bool.false_eq_true, ↓reduceIte, f_X12_feedNow, rput, k2, rg6, eo]
    · rw [aw _ (by omega) (by omega), uq3]
    · rw [aw _ (by omega) (by omega), s1 10 (by omega)]
  · have hE2 := (hE.fra w1 f1).fra cW.1 (Fra.wr w S1 p 2)
    have cR2 : RowC (upd row (34 + 7 * p + 4) (nI 0)) (aWr w S1 p 2) := cR.cg (fun i hi => aw i (by omega) (by omega)) cW.1
    obtain ⟨v, nm', stack', nd', values', truth', g1, g2, g3⟩ := dFinO (nm0 := nm0) (nd0 := nd0) (stack := stack) (truth := truth) (values := values) (p := p) hN hE2 cR2 k3.2.1 k3.2.2.1 (by rw [aw _ (by omega) (by omega), u1]; exact hp)
    rw [aw _ (by omega) (by omega), up0] at g2
    have cx := cDraw (N := N) cR cW.2.2.1
    have rx := rDraw (N := N) k3.2.1 k3.2.2.1.2.2.1
    rw [aw 11 (by omega) (by omega)] at rx
    rw [u11] at cx rx
    have hd10 : S 11 % 10 < 10 := Nat.mod_lt _ (by decide)
    have xlt : (S 11 * 379 + 257) % 30469 < 30469 := Nat.mod_lt _ (by decide)
    have cd := c.x xlt
    have kd := k3.2.1.up (i := 11) (v := (S 11 * 379 + 257) % 30469) (by decide)
    generalize hX : (S 11 * 379 + 257) % 30469 = X at *
    obtain ⟨⟨dR, dB⟩, dA, dW, dO, d8⟩ := id cd
    have v1 : un S1 11 X 1 = S 1 := by rw [un_ne (by omega), u1]
    have v12 : un S1 11 X 12 = S 12 := by rw [un_ne (by omega), s1 12 (by omega)]
    have f2 : Fra 0 S (un S1 11 X) := f1.tr (Fra.x _ _)
    by_cases hf : v ≤ S 11 % 10
    · obtain ⟨row', ax, t1, t2, t3⟩ := cd.wr (N := N) (p := p) (c := 2) (by rw [v1]; exact hp) (by omega) (by rw [v12]; exact hj)
      have ec := aWr_un w S1 p 2 (i := 11) X (by omega) (by omega) (by omega)
      refine ⟨S (14 + 11 * q + 3), row', nm', stack', _, nd', values', truth', _, q3, ?_, ?_, ?_, ⟨t3.1, by rw [ec]; exact kd, t3.2.2⟩, f2.tr (Fra.wr w _ p 2), ?_⟩
      · simp (maxSteps := 1000000) (disch := omega) only [li, ob1_s, ob2_s, ob3_s, ob4_s, ob5_s, ob6_s, ob7_s, gA_n, gL_n, sA_n, sL_n, cpI_n, nI_add, pk_mul, nsub, nlt_t, nlt_f, nle_t, nle_f, neq_t, neq_f, rmI_n, dvI_n, upd_ne, upd_eq, un_ne, un_eq, Nat.add_zero, Bool.false_eq_true, ↓reduceIte, f_X0_nourish, f_X0_nourish_104, hm, cset hR w1, hg3, ho, eo, hgp, g2, cx, t1]
      · simp (maxSteps := 1000000) (disch := omega) only [li, ob1_s, ob2_s, ob3_s, ob4_s, ob5_s, ob6_s, ob7_s, gA_n, gL_n, sA_n, sL_n, cpI_n, nI_add, pk_mul, nsub, nlt_t, nlt_f, nle_t, nle_f, neq_t, neq_f, rmI_n, dvI_n, upd_ne, upd_eq, un_ne, un_eq, Nat.add_zero, Bool.false_eq_true, ↓reduceIte, f_X12_feedNow, rput, k2, rg6, eo, g3, rx]
      · rw [aWr_o (by omega) (by omega), un_ne (by omega), uq3]
      · rw [aWr_o (by omega) (by omega), un_ne (by omega), s1 10 (by omega)]
    · have hmn : min (S (14 + 11 * q + 3) + 1) 4 ≤ 4 := Nat.min_le_right _ _
      have cs := cd.set (p := q) (k := 3) (v := min (S (14 + 11 * q + 3) + 1) 4) (by rw [v1]; exact hq) (by omega) ⟨by omega, by omega, by omega, fun _ => hmn, by omega, by omega, by omega⟩ (by omega)
      obtain ⟨row', ax, t1, t2, t3⟩ := cs.wr (N := N) (p := p) (c := 2) (by rw [un_ne (by omega), v1]; exact hp) (by omega) (by rw [un_ne (by omega), v12]; exact hj)
      have ec : aWr w (un (un S1 11 X) (14 + 11 * q + 3) (min (S (14 + 11 * q + 3) + 1) 4)) p 2 = un (un (aWr w S1 p 2) 11 X) (14 + 11 * q + 3) (min (S (14 + 11 * q + 3) + 1) 4) := by
        rw [aWr_un w _ p 2 _ (by omega) (by omega) (by omega), aWr_un w S1 p 2 X (by omega) (by omega) (by omega)]
      have rg3 := rget (N := N) (p := q) (k := 3) kd (by omega) (by omega)
      rw [un_ne (by omega), aw _ (by omega) (by omega), uq3] at rg3
      refine ⟨min (S (14 + 11 * q + 3) + 1) 4, row', nm', stack', _, nd', values', truth', _, hmn, ?_, ?_, ?_, ⟨t3.1, by rw [ec]; exact kd.up (by omega), t3.2.2⟩, (f2.tr (Fra.set _ _ (by omega) (by omega))).tr (Fra.wr w _ p 2), ?_⟩
      · simp (maxSteps := 1000000) (disch := omega) only [li, ob1_s, ob2_s, ob3_s, ob4_s, ob5_s, ob6_s, ob7_s, gA_n, gL_n, sA_n, sL_n, cpI_n, nI_add, pk_mul, nsub, nlt_t, nlt_f, nle_t, nle_f, neq_t, neq_f, rmI_n, dvI_n, upd_ne, upd_eq, un_ne, un_eq, Nat.add_zero, Bool.false_eq_true, ↓reduceIte, f_X0_nourish, f_X0_nourish_104, hm, cset hR w1, hg3, ho, eo, hgp, g2, cx, mnI_n, cset dR dW.1, t1]
      · simp (maxSteps := 1000000) (disch := omega) only [li, ob1_s, ob2_s, ob3_s, ob4_s, ob5_s, ob6_s, ob7_s, gA_n, gL_n, sA_n, sL_n, cpI_n, nI_add, pk_mul, nsub, nlt_t, nlt_f, nle_t, nle_f, neq_t, neq_f, rmI_n, dvI_n, upd_ne, upd_eq, un_ne, un_eq, Nat.add_zero, Bool.false_eq_true, ↓reduceIte, f_X12_feedNow, rput, k2, rg6, eo, g3, rx, rg3, rCutN]
      · rw [aWr_o (by omega) (by omega), un_eq rfl]
      · rw [aWr_o (by omega) (by omega), un_ne (by omega), un_ne (by omega), s1 10 (by omega)]
theorem st_feeds {j : Nat} {dn : Int32} {df dr row fe to : Nat → Int32} {cnt next : Int32} {store : Nat → Int32} {calls bord rep unl pay : Int32} {cl ul ga py pr : Nat → Int32} {tx rul : Int32} {a : Nat → Int32} {S : Nat → Nat} {N : Nat} {tcl : Int32} {tcd tst ten trw : Nat → Int32} {ucl : Int32} {ucd ust uen urw : Nat → Int32} {wcl : Int32} {wcd wst wen wrw : Nat → Int32} {xcl : Int32} {xcd xst xen xrw : Nat → Int32} {vt : Nat → Int32} {nm0 nd0 stack truth : Nat → Int32} {values : Nat → Int64} (hN : 10000 ≤ N) (hJ : j ≤ 20000) (hT : TextsT N tcl tcd tst ten trw ucl ucd ust uen urw wcl wcd wst wen wrw xcl xcd xst xen xrw vt (S 2)) (x y : Int32) (h : RealmT j dn df dr row fe to cnt next store calls bord rep unl pay cl ul ga py pr tx rul a S) :
    ∃ (r : Int32) (row' : Nat → Int32) (cnt' next' : Int32) (store' nm' stack' a' nd' : Nat → Int32) (values' : Nat → Int64) (truth' : Nat → Int32) (S' : Nat → Nat), f_X11_feeds N dn df row fe cnt next store tx rul tcd tst ten ucd ust uen wcd wst wen xcd xst xen nm0 stack x y = some (r, row', cnt', next', store', nm', stack') ∧ f_X12_feeds N a vt nd0 values truth (nI 1) x y = some (r, a', nd', values', truth') ∧ RealmT (j + 1) dn df dr row' fe to cnt' next' store' calls bord rep unl pay cl ul ga py pr tx rul a' S' ∧ S' 2 = S 2 ∧ Ans r := by
  have h0 := h
  have hE := h.le hT
  obtain ⟨hA, hL, hR, hW, hF, hB, hZ, hQ, hI, hj⟩ := h
  have h8 := hL.2.1
  obtain ⟨z1, z2, nx, z3, z4, -⟩ := id hZ
  have w1 := hW.1
  have no : f_X0_meets N row y x = some (nI 0) → f_X12_areBeside N a x y = some (nI 0) → ∃ (r : Int32) (row' : Nat → Int32) (cnt' next' : Int32) (store' nm' stack' a' nd' : Nat → Int32) (values' : Nat → Int64) (truth' : Nat → Int32) (S' : Nat → Nat), f_X11_feeds N dn df row fe cnt next store tx rul tcd tst ten ucd ust uen wcd wst wen xcd xst xen nm0 stack x y = some (r, row', cnt', next', store', nm', stack') ∧ f_X12_feeds N a vt nd0 values truth (nI 1) x y = some (r, a', nd', values', truth') ∧ RealmT (j + 1) dn df dr row' fe to cnt' next' store' calls bord rep unl pay cl ul ga py pr tx rul a' S' ∧ S' 2 = S 2 ∧ Ans r := by
    intro g1 g2
    refine ⟨-nI 1, row, cnt, next, _, nm0, stack, a, nd0, values, truth, S, ?_, ?_, h0.idle z3 z4, rfl, Or.inl rfl⟩
    · rw [z4]
      simp only [f_X11_feeds, f_X0_nourish, cAhead z3, g1, li, ob1_s, ob4_s, ↓reduceIte]
    · simp only [f_X12_feeds, g2, li, ob1_s, ↓reduceIte]
  rcases inOut x (S 1) (by omega) with hx | ⟨p, hp, rfl⟩
  · obtain ⟨g1, g2⟩ := dBeside_o (N := N) (y := y) hR hA hW.x (Or.inl hx)
    exact no g1 g2
  rcases inOut y (S 1) (by omega) with hy | ⟨q, hq, rfl⟩
  · obtain ⟨g1, g2⟩ := dBeside_o (N := N) (x := nI p) hR hA hW.x (Or.inr hy)
    exact no g1 g2
  obtain ⟨v, hv, g1, g2, g3⟩ := dBeside (N := N) hR hA hW.x h8 hp hq
  rcases (show v = 0 ∨ v = 1 by omega) with e | e
  · subst e
    exact no g1 g2
  subst e
  obtain ⟨-, -, hpq, -⟩ := g3 rfl
  obtain ⟨a1, k1, k2⟩ := rKeep hN hA z2
  have hG := h0.good (nx := nx) k2
  have ee : ∀ i, i ≠ 4 → i < 142 → kpS S i = S i := fun i h4 h1 => kp_o (by omega) h4
  obtain ⟨r, row', nm', stack', a', nd', values', truth', S', d0, d1, d2, d2b, d3, d4, d5⟩ := dFeed (w := true) (p := p) (q := q) (nm0 := nm0) (nd0 := nd0) (stack := stack) (truth := truth) (values := values) hN (hE.kp w1) hG (by rw [ee 1 (by omega) (by omega)]; exact hp) (by rw [ee 1 (by omega) (by omega)]; exact hq) hpq g1 (by rw [ee 12 (by omega) (by omega)]; omega)
  rw [ee 10 (by omega) (by omega)] at d5
  obtain ⟨q1, q2, q3⟩ := h0.deed (n := 1) (nx := nx) z3 z4 (by rw [d5]; exact d3) d4 (by omega)
  refine ⟨nI r, row', _, _, _, nm', stack', a', nd', values', truth', S', ?_, ?_, q1 (j + 1) (by omega), q2, Or.inr ⟨r, by omega, rfl⟩⟩
  · rw [z4]
    have hm : ¬ nI r = -nI 1 := m1_ne (by omega)
    simp only [f_X11_feeds, cAhead z3, d1, z1, li, ob1_s, ob2_s, ob4_s, hm, cKeep z3 z2, ↓reduceIte]
  · have d2 : f_X12_feedNow N a1 vt nd0 values truth (nI 1) (nI p) (nI q) = some (a', nd', values', truth') := d2
    have gg : f_X12_get N a' (nI q) (nI 3) = some (nI r) := by rw [rget d3.2.1 (by omega) (by omega), d2b]
    simp (maxSteps := 1000000) (disch := omega) only [li, ob1_s, ob2_s, ob3_s, ob4_s, ob5_s, ob6_s, ob7_s, gA_n, gL_n, sA_n, sL_n, cpI_n, nI_add, pk_mul, nsub, nlt_t, nlt_f, nle_t, nle_f, neq_t, neq_f, rmI_n, dvI_n, upd_ne, upd_eq, un_ne, un_eq, Nat.add_zero, Bool.false_eq_true, ↓reduceIte, f_X12_feeds, g2, k1, d2, gg]
