def LE (N : Nat) (tcl : Int32) (tcd tst ten trw : Nat → Int32) (ucl : Int32) (ucd ust uen urw : Nat → Int32) (wcl : Int32) (wcd wst wen wrw : Nat → Int32) (xcl : Int32) (xcd xst xen xrw : Nat → Int32) (vt : Nat → Int32) (tx rul dn : Int32) (df dr fe : Nat → Int32) (S : Nat → Nat) : Prop :=
  TextsT N tcl tcd tst ten trw ucl ucd ust uen urw wcl wcd wst wen wrw xcl xcd xst xen xrw vt (S 2) ∧ IdxT tx rul S ∧ LandT dn df dr S ∧ FeaT fe S
theorem LE.cg {N : Nat} {tcl : Int32} {tcd tst ten trw : Nat → Int32} {ucl : Int32} {ucd ust uen urw : Nat → Int32} {wcl : Int32} {wcd wst wen wrw : Nat → Int32} {xcl : Int32} {xcd xst xen xrw : Nat → Int32} {vt : Nat → Int32} {tx rul dn : Int32} {df dr fe : Nat → Int32} {S T : Nat → Nat} (h : LE N tcl tcd tst ten trw ucl ucd ust uen urw wcl wcd wst wen wrw xcl xcd xst xen xrw vt tx rul dn df dr fe S) (h6 : S 1 ≤ 6) (e : ∀ i, i < 4 ∨ (80 ≤ i ∧ i < 96) → T i = S i) (ef : ∀ p, p < 6 → T (14 + 11 * p + 7) = S (14 + 11 * p + 7)) : LE N tcl tcd tst ten trw ucl ucd ust uen urw wcl wcd wst wen wrw xcl xcd xst xen xrw vt tx rul dn df dr fe T := by
  obtain ⟨h1, h2, h3, h4⟩ := h
  refine ⟨by rw [e 2 (by omega)]; exact h1, h2.cg (fun i hi => e i (by omega)), h3.cg (fun i hi => e i (by omega)), fun p hp => ?_⟩
  rw [e 1 (by omega)] at hp
  rw [ef p (by omega)]; exact h4 p hp
theorem LE.fra {N n : Nat} {tcl : Int32} {tcd tst ten trw : Nat → Int32} {ucl : Int32} {ucd ust uen urw : Nat → Int32} {wcl : Int32} {wcd wst wen wrw : Nat → Int32} {xcl : Int32} {xcd xst xen xrw : Nat → Int32} {vt : Nat → Int32} {tx rul dn : Int32} {df dr fe : Nat → Int32} {S T : Nat → Nat} (h : LE N tcl tcd tst ten trw ucl ucd ust uen urw wcl wcd wst wen wrw xcl xcd xst xen xrw vt tx rul dn df dr fe S) (h6 : S 1 ≤ 6) (hf : Fra n S T) : LE N tcl tcd tst ten trw ucl ucd ust uen urw wcl wcd wst wen wrw xcl xcd xst xen xrw vt tx rul dn df dr fe T :=
  h.cg h6 (fun i hi => hf.1 i (by omega)) (fun p hp => hf.2.1 p 7 hp (by omega) (by omega))
theorem ruls {tx rul : Int32} {S : Nat → Nat} (h : IdxT tx rul S) : rul = -nI 1 ∨ ∃ t, t < S 2 ∧ rul = nI t := by
  obtain ⟨h1, h2, h3, h4⟩ := h
  rcases Nat.eq_zero_or_pos (S 3) with e | e
  · rw [h3, e]; exact Or.inl (by decide)
  · refine Or.inr ⟨S 3 - 1, by omega, ?_⟩
    rw [h3]
    show nI (S 3) - nI 1 = _
    exact nsub (by omega)
theorem rul3 {tx rul : Int32} {a : Nat → Int32} {S : Nat → Nat} (h : IdxT tx rul S) (hA : TieA a S) : a 3 = rul := by rw [hA.1, h.2.2.1]
theorem dHun {N p : Nat} {tcl : Int32} {tcd tst ten trw : Nat → Int32} {ucl : Int32} {ucd ust uen urw : Nat → Int32} {wcl : Int32} {wcd wst wen wrw : Nat → Int32} {xcl : Int32} {xcd xst xen xrw : Nat → Int32} {vt : Nat → Int32} {tx rul dn : Int32} {df dr fe row a nm0 nd0 stack truth : Nat → Int32} {values : Nat → Int64} {S : Nat → Nat} (hN : 10000 ≤ N) (hE : LE N tcl tcd tst ten trw ucl ucd ust uen urw wcl wcd wst wen wrw xcl xcd xst xen xrw vt tx rul dn df dr fe S) (hR : RowC row S) (hA : TieA a S) (hW : FolkX S) (hp : p < S 1) :
    ∃ v nm' stack' nd' values' truth', v ≤ 9 ∧ f_X3_rule N dn df tcd tst ten ucd ust uen wcd wst wen xcd xst xen row fe tx nm0 stack rul (nI 0) (nI p) (nI (S (14 + 11 * p))) = some (nI v, nm', stack') ∧ f_X12_hungersOf N a vt nd0 values truth (nI p) = some (nI v, nd', values', truth') := by
  obtain ⟨h1, h2, h3, h4⟩ := hE
  obtain ⟨p0, -⟩ := hW.part hp
  have w1 := hW.1
  obtain ⟨v, nm', stack', nd', values', truth', g1, g2, g3, g4⟩ := dRule (law := 0) (nm0 := nm0) (nd0 := nd0) (stack := stack) (truth := truth) (values := values) rul hN h1 h2.2.1 h2.1 (ruls h2) (by omega) h3.1 h3.2.1 h3.2.2.1 hR hA hW h4 hp p0
  have e1 : iI (woN S 0 p (S (14 + 11 * p))) = nI 1 := by rw [iI_n]; rfl
  have e2 : topN 0 = 9 := rfl
  rw [e1, e2] at g4
  refine ⟨v, nm', stack', nd', values', truth', g1, g2, ?_⟩
  simp (maxSteps := 1000000) (disch := omega) only [li, ob1_s, ob2_s, ob3_s, ob4_s, ob5_s, ob6_s, ob7_s, gA_n, gL_n, sA_n, sL_n, cpI_n, nI_add, pk_mul, nsub, nlt_t, nlt_f, nle_t, nle_f, neq_t, neq_f, rmI_n, dvI_n, upd_ne, upd_eq, un_ne, un_eq, Nat.add_zero, Bool.false_eq_true, ↓reduceIte, f_X12_hungersOf, rget hA, g3, rul3 h2 hA, g4]
theorem dFin {N p l : Nat} {tcl : Int32} {tcd tst ten trw : Nat → Int32} {ucl : Int32} {ucd ust uen urw : Nat → Int32} {wcl : Int32} {wcd wst wen wrw : Nat → Int32} {xcl : Int32} {xcd xst xen xrw : Nat → Int32} {vt : Nat → Int32} {tx rul dn : Int32} {df dr fe row a nm0 nd0 stack truth : Nat → Int32} {values : Nat → Int64} {S : Nat → Nat} (hN : 10000 ≤ N) (hE : LE N tcl tcd tst ten trw ucl ucd ust uen urw wcl wcd wst wen wrw xcl xcd xst xen xrw vt tx rul dn df dr fe S) (hR : RowC row S) (hA : TieA a S) (hW : FolkX S) (hp : p < S 1) (hl : l < S 0) :
    ∃ v nm' stack' nd' values' truth', v ≤ 10 ∧ f_X3_rule N dn df tcd tst ten ucd ust uen wcd wst wen xcd xst xen row fe tx nm0 stack rul (nI 1) (nI p) (nI l) = some (nI v, nm', stack') ∧ f_X12_findsIn N a vt nd0 values truth (nI p) (nI l) = some (nI v, nd', values', truth') := by
  obtain ⟨h1, h2, h3, h4⟩ := hE
  have w1 := hW.1
  have h8 := h3.2.1
  obtain ⟨l1, l2⟩ := h3.2.2.1 l hl
  obtain ⟨v, nm', stack', nd', values', truth', g1, g2, g3, g4⟩ := dRule (law := 1) (nm0 := nm0) (nd0 := nd0) (stack := stack) (truth := truth) (values := values) rul hN h1 h2.2.1 h2.1 (ruls h2) (by omega) h3.1 h8 h3.2.2.1 hR hA hW h4 hp hl
  have e1 : iI (woN S 1 p l) = nI (5 - S (80 + l) / 2) := by
    rw [iI_n]
    show iI ((5 : Int) - (S (80 + l) / 2 : Nat)) = _
    congr 1
    omega
  have e2 : topN 1 = 10 := rfl
  rw [e1, e2] at g4
  refine ⟨v, nm', stack', nd', values', truth', g1, g2, ?_⟩
  simp (maxSteps := 1000000) (disch := omega) only [li, ob1_s, ob2_s, ob3_s, ob4_s, ob5_s, ob6_s, ob7_s, gA_n, gL_n, sA_n, sL_n, cpI_n, nI_add, pk_mul, nsub, nlt_t, nlt_f, nle_t, nle_f, neq_t, neq_f, rmI_n, dvI_n, upd_ne, upd_eq, un_ne, un_eq, Nat.add_zero, Bool.false_eq_true, ↓reduceIte, f_X12_findsIn, g3, rul3 h2 hA, hA.2, g4]
theorem dFinO {N p : Nat} {tcl : Int32} {tcd tst ten trw : Nat → Int32} {ucl : Int32} {ucd ust uen urw : Nat → Int32} {wcl : Int32} {wcd wst wen wrw : Nat → Int32} {xcl : Int32} {xcd xst xen xrw : Nat → Int32} {vt : Nat → Int32} {tx rul dn : Int32} {df dr fe row a nm0 nd0 stack truth : Nat → Int32} {values : Nat → Int64} {S : Nat → Nat} (hN : 10000 ≤ N) (hE : LE N tcl tcd tst ten trw ucl ucd ust uen urw wcl wcd wst wen wrw xcl xcd xst xen xrw vt tx rul dn df dr fe S) (hR : RowC row S) (hA : TieA a S) (hW : FolkX S) (hp : p < S 1) :
    ∃ v nm' stack' nd' values' truth', v ≤ 10 ∧ f_X3_rule N dn df tcd tst ten ucd ust uen wcd wst wen xcd xst xen row fe tx nm0 stack rul (nI 1) (nI p) (nI (S (14 + 11 * p))) = some (nI v, nm', stack') ∧ f_X12_findsOf N a vt nd0 values truth (nI p) = some (nI v, nd', values', truth') := by
  obtain ⟨p0, -⟩ := hW.part hp
  have w1 := hW.1
  obtain ⟨v, nm', stack', nd', values', truth', g1, g2, g3⟩ := dFin (nm0 := nm0) (nd0 := nd0) (stack := stack) (truth := truth) (values := values) hN hE hR hA hW hp p0
  refine ⟨v, nm', stack', nd', values', truth', g1, g2, ?_⟩
  simp (maxSteps := 1000000) (disch := omega) only [li, ob1_s, ob2_s, ob3_s, ob4_s, ob5_s, ob6_s, ob7_s, gA_n, gL_n, sA_n, sL_n, cpI_n, nI_add, pk_mul, nsub, nlt_t, nlt_f, nle_t, nle_f, neq_t, neq_f, rmI_n, dvI_n, upd_ne, upd_eq, un_ne, un_eq, Nat.add_zero, Bool.false_eq_true, ↓reduceIte, f_X12_findsOf, rget hA, g3]
theorem dPri {N p : Nat} {tcl : Int32} {tcd tst ten trw : Nat → Int32} {ucl : Int32} {ucd ust uen urw : Nat → Int32} {wcl : Int32} {wcd wst wen wrw : Nat → Int32} {xcl : Int32} {xcd xst xen xrw : Nat → Int32} {vt : Nat → Int32} {tx rul dn : Int32} {df dr fe row a nm0 nd0 stack truth : Nat → Int32} {values : Nat → Int64} {S : Nat → Nat} (tI : Int32) (hN : 10000 ≤ N) (hE : LE N tcl tcd tst ten trw ucl ucd ust uen urw wcl wcd wst wen wrw xcl xcd xst xen xrw vt tx rul dn df dr fe S) (htI : tI = -nI 1 ∨ ∃ t, t < S 2 ∧ tI = nI t) (hR : RowC row S) (hA : TieA a S) (hW : FolkX S) (hp : p < S 1) :
    ∃ v nm' stack' nd' values' truth', v ≤ 9999 ∧ f_X3_rule N dn df tcd tst ten ucd ust uen wcd wst wen xcd xst xen row fe tx nm0 stack tI (nI 2) (nI p) (nI (S (14 + 11 * p))) = some (nI v, nm', stack') ∧ f_X12_priceOf N a vt nd0 values truth tI (nI p) = some (nI v, nd', values', truth') := by
  obtain ⟨h1, h2, h3, h4⟩ := hE
  obtain ⟨p0, p1, p2, p3, p4, p5, p6⟩ := hW.part hp
  have w1 := hW.1
  obtain ⟨v, nm', stack', nd', values', truth', g1, g2, g3, g4⟩ := dRule (law := 2) (nm0 := nm0) (nd0 := nd0) (stack := stack) (truth := truth) (values := values) tI hN h1 h2.2.1 h2.1 htI (by omega) h3.1 h3.2.1 h3.2.2.1 hR hA hW h4 hp p0
  have e1 : iI (woN S 2 p (S (14 + 11 * p))) = nI (100 + 20 * S (14 + 11 * p + 5)) := by
    rw [iI_n]
    show iI ((100 : Int) + 20 * (S (14 + 11 * p + 5) : Nat)) = _
    congr 1
  have e2 : topN 2 = 9999 := rfl
  rw [e1, e2] at g4
  refine ⟨v, nm', stack', nd', values', truth', g1, g2, ?_⟩
  simp (maxSteps := 1000000) (disch := omega) only [li, ob1_s, ob2_s, ob3_s, ob4_s, ob5_s, ob6_s, ob7_s, gA_n, gL_n, sA_n, sL_n, cpI_n, nI_add, pk_mul, nsub, nlt_t, nlt_f, nle_t, nle_f, neq_t, neq_f, rmI_n, dvI_n, upd_ne, upd_eq, un_ne, un_eq, Nat.add_zero, Bool.false_eq_true, ↓reduceIte, f_X12_priceOf, rget hA, g3, g4]
theorem dEar {N p : Nat} {tcl : Int32} {tcd tst ten trw : Nat → Int32} {ucl : Int32} {ucd ust uen urw : Nat → Int32} {wcl : Int32} {wcd wst wen wrw : Nat → Int32} {xcl : Int32} {xcd xst xen xrw : Nat → Int32} {vt : Nat → Int32} {tx rul dn : Int32} {df dr fe row a nm0 nd0 stack truth : Nat → Int32} {values : Nat → Int64} {S : Nat → Nat} (hN : 10000 ≤ N) (hE : LE N tcl tcd tst ten trw ucl ucd ust uen urw wcl wcd wst wen wrw xcl xcd xst xen xrw vt tx rul dn df dr fe S) (hR : RowC row S) (hA : TieA a S) (hW : FolkX S) (hp : p < S 1) :
    ∃ v nm' stack' nd' values' truth', v ≤ 99 ∧ f_X3_rule N dn df tcd tst ten ucd ust uen wcd wst wen xcd xst xen row fe tx nm0 stack rul (nI 3) (nI p) (nI (S (14 + 11 * p))) = some (nI v, nm', stack') ∧ f_X12_earnsOf N a vt nd0 values truth (nI p) = some (nI v, nd', values', truth') := by
  obtain ⟨h1, h2, h3, h4⟩ := hE
  obtain ⟨p0, -⟩ := hW.part hp
  have w1 := hW.1
  obtain ⟨v, nm', stack', nd', values', truth', g1, g2, g3, g4⟩ := dRule (law := 3) (nm0 := nm0) (nd0 := nd0) (stack := stack) (truth := truth) (values := values) rul hN h1 h2.2.1 h2.1 (ruls h2) (by omega) h3.1 h3.2.1 h3.2.2.1 hR hA hW h4 hp p0
  have e1 : iI (woN S 3 p (S (14 + 11 * p))) = nI 10 := by rw [iI_n]; rfl
  have e2 : topN 3 = 99 := rfl
  rw [e1, e2] at g4
  refine ⟨v, nm', stack', nd', values', truth', g1, g2, ?_⟩
  simp (maxSteps := 1000000) (disch := omega) only [li, ob1_s, ob2_s, ob3_s, ob4_s, ob5_s, ob6_s, ob7_s, gA_n, gL_n, sA_n, sL_n, cpI_n, nI_add, pk_mul, nsub, nlt_t, nlt_f, nle_t, nle_f, neq_t, neq_f, rmI_n, dvI_n, upd_ne, upd_eq, un_ne, un_eq, Nat.add_zero, Bool.false_eq_true, ↓reduceIte, f_X12_earnsOf, rget hA, g3, rul3 h2 hA, g4]
/-! draws -/
def aDr (S : Nat → Nat) : Nat → Nat := un S 11 ((S 11 * 379 + 257) % 30469)
theorem rmL_n {β : Type} {a d : Nat} {k : Int64 → Option β} (ha : a < 2147483648) (h0 : 0 < d) (hd : d < 2147483648) : rmL (lN a) (lN d) k = k (lN (a % d)) := by
  unfold rmL
  rw [if_neg (by intro e; have := (lN_eq (a := d) (b := 0) (by omega) (by omega)).mp e; omega), pk_lRem (by omega) h0 (by omega)]
theorem rAnew {N : Nat} {a : Nat → Int32} {S : Nat → Nat} (hA : TieA a S) (hx : S 11 < 30469) : f_X12_anew N a = some (upd a 11 (nI ((S 11 * 379 + 257) % 30469))) := by
  simp (maxSteps := 1000000) (disch := omega) only [li, ob1_s, ob2_s, ob3_s, ob4_s, ob5_s, ob6_s, ob7_s, gA_n, gL_n, sA_n, sL_n, cpI_n, nI_add, pk_mul, nsub, nlt_t, nlt_f, nle_t, nle_f, neq_t, neq_f, rmI_n, dvI_n, upd_ne, upd_eq, un_ne, un_eq, Nat.add_zero, Bool.false_eq_true, ↓reduceIte, f_X12_anew, hA.2, nIl, liL, lN_mul, lN_add, rmL_n, lN_i]
theorem rDraw {N : Nat} {a : Nat → Int32} {S : Nat → Nat} (hA : TieA a S) (hx : S 11 < 30469) : f_X12_drawn N a (nI 10) = some (nI (S 11 % 10), upd a 11 (nI ((S 11 * 379 + 257) % 30469))) := by
  simp (maxSteps := 1000000) (disch := omega) only [li, ob1_s, ob2_s, ob3_s, ob4_s, ob5_s, ob6_s, ob7_s, gA_n, gL_n, sA_n, sL_n, cpI_n, nI_add, pk_mul, nsub, nlt_t, nlt_f, nle_t, nle_f, neq_t, neq_f, rmI_n, dvI_n, upd_ne, upd_eq, un_ne, un_eq, Nat.add_zero, Bool.false_eq_true, ↓reduceIte, f_X12_drawn, hA.2, rAnew hA hx]
theorem cStir {N : Nat} {row : Nat → Int32} {S : Nat → Nat} (hR : RowC row S) (hx : S 11 < 30469) : f_X1_stir N row = some (upd row 1 (nI ((S 11 * 379 + 257) % 30469))) := by
  simp (maxSteps := 1000000) (disch := omega) only [li, ob1_s, ob2_s, ob3_s, ob4_s, ob5_s, ob6_s, ob7_s, gA_n, gL_n, sA_n, sL_n, cpI_n, nI_add, pk_mul, nsub, nlt_t, nlt_f, nle_t, nle_f, neq_t, neq_f, rmI_n, dvI_n, upd_ne, upd_eq, un_ne, un_eq, Nat.add_zero, Bool.false_eq_true, ↓reduceIte, f_X1_stir, hR.2.1]
theorem cDraw {N : Nat} {row : Nat → Int32} {S : Nat → Nat} (hR : RowC row S) (hx : S 11 < 30469) : f_X1_drawByTen N row = some (nI (S 11 % 10), upd row 1 (nI ((S 11 * 379 + 257) % 30469))) := by
  simp (maxSteps := 1000000) (disch := omega) only [li, ob1_s, ob2_s, ob3_s, ob4_s, ob5_s, ob6_s, ob7_s, gA_n, gL_n, sA_n, sL_n, cpI_n, nI_add, pk_mul, nsub, nlt_t, nlt_f, nle_t, nle_f, neq_t, neq_f, rmI_n, dvI_n, upd_ne, upd_eq, un_ne, un_eq, Nat.add_zero, Bool.false_eq_true, ↓reduceIte, f_X1_drawByTen, hR.2.1, cStir hR hx]
theorem Good.x {w : Bool} {b : Nat} {row a : Nat → Int32} {S : Nat → Nat} (h : Good w b row a S) {v : Nat} (hv : v < 30469) : Good w b (upd row 1 (nI v)) (upd a 11 (nI v)) (un S 11 v) := by
  obtain ⟨⟨⟨r1, r2, r3, r4, r5⟩, hB⟩, hA, hW, hO, h8⟩ := h
  have w1 := hW.1
  obtain ⟨u1, u2, u3, u4⟩ := hW
  refine ⟨⟨⟨?_, ?_, ?_, ?_, fun q t hq ht => ?_⟩, fun hw => ?_⟩, hA.up (by omega), ⟨by rw [un_ne (by omega)]; exact u1, by rw [un_ne (by omega)]; exact u2, by rw [un_eq rfl]; exact hv, fun p hp => ?_⟩, hO.cg (un_ne (by omega)) (fun p hp => un_ne (by omega)), by rw [un_ne (by omega)]; exact h8⟩
  · simp (maxSteps := 1000000) (disch := omega) only [li, ob1_s, ob2_s, ob3_s, ob4_s, ob5_s, ob6_s, ob7_s, gA_n, gL_n, sA_n, sL_n, cpI_n, nI_add, pk_mul, nsub, nlt_t, nlt_f, nle_t, nle_f, neq_t, neq_f, rmI_n, dvI_n, upd_ne, upd_eq, un_ne, un_eq, Nat.add_zero, Bool.false_eq_true, ↓reduceIte]; exact r1
  · simp (maxSteps := 1000000) (disch := omega) only [li, ob1_s, ob2_s, ob3_s, ob4_s, ob5_s, ob6_s, ob7_s, gA_n, gL_n, sA_n, sL_n, cpI_n, nI_add, pk_mul, nsub, nlt_t, nlt_f, nle_t, nle_f, neq_t, neq_f, rmI_n, dvI_n, upd_ne, upd_eq, un_ne, un_eq, Nat.add_zero, Bool.false_eq_true, ↓reduceIte]
  · simp (maxSteps := 1000000) (disch := omega) only [li, ob1_s, ob2_s, ob3_s, ob4_s, ob5_s, ob6_s, ob7_s, gA_n, gL_n, sA_n, sL_n, cpI_n, nI_add, pk_mul, nsub, nlt_t, nlt_f, nle_t, nle_f, neq_t, neq_f, rmI_n, dvI_n, upd_ne, upd_eq, un_ne, un_eq, Nat.add_zero, Bool.false_eq_true, ↓reduceIte]; exact r3
  · simp (maxSteps := 1000000) (disch := omega) only [li, ob1_s, ob2_s, ob3_s, ob4_s, ob5_s, ob6_s, ob7_s, gA_n, gL_n, sA_n, sL_n, cpI_n, nI_add, pk_mul, nsub, nlt_t, nlt_f, nle_t, nle_f, neq_t, neq_f, rmI_n, dvI_n, upd_ne, upd_eq, un_ne, un_eq, Nat.add_zero, Bool.false_eq_true, ↓reduceIte]; exact r4
  · rw [un_ne (by omega)] at hq
    rw [upd_ne (by omega), un_ne (by omega)]; exact r5 q t hq ht
  · obtain ⟨b1, b2⟩ := hB hw
    rw [un_ne (by omega)]
    refine ⟨by simp (maxSteps := 1000000) (disch := omega) only [li, ob1_s, ob2_s, ob3_s, ob4_s, ob5_s, ob6_s, ob7_s, gA_n, gL_n, sA_n, sL_n, cpI_n, nI_add, pk_mul, nsub, nlt_t, nlt_f, nle_t, nle_f, neq_t, neq_f, rmI_n, dvI_n, upd_ne, upd_eq, un_ne, un_eq, Nat.add_zero, Bool.false_eq_true, ↓reduceIte]; exact b1, fun i hi => ?_⟩
    rw [upd_ne (by omega), un_ne (by omega)]; exact b2 i hi
  · rw [un_ne (by omega)] at hp
    rw [un_ne (by omega)]
    exact (u4 p hp).mn (Nat.le_refl _) (Nat.le_refl _) (fun k hk => un_ne (by omega))
theorem Good.dr {w : Bool} {b : Nat} {row a : Nat → Int32} {S : Nat → Nat} (h : Good w b row a S) : Good w b (upd row 1 (nI ((S 11 * 379 + 257) % 30469))) (upd a 11 (nI ((S 11 * 379 + 257) % 30469))) (aDr S) := h.x (Nat.mod_lt _ (by omega))
theorem Fra.dr (S : Nat → Nat) : Fra 0 S (aDr S) := Fra.x S _
