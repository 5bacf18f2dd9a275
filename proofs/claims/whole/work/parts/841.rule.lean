def topN (law : Nat) : Nat := if law = 0 then 9 else if law = 1 then 10 else if law = 2 then 9999 else 99
/-- without a text -/
def woN (S : Nat → Nat) (law p l : Nat) : Int := if law = 0 then 1 else if law = 1 then 5 - (S (80 + l) / 2 : Nat) else if law = 2 then 100 + 20 * (S (14 + 11 * p + 5) : Nat) else 10
theorem most_n : ∀ law, law < 4 → mostF law = nI (topN law) := by decide
theorem cWithout {N law p l : Nat} {df row : Nat → Int32} {S : Nat → Nat} (hlw : law < 4) (h8 : S 0 ≤ 8) (hf : ∀ k, k < S 0 → df k = nI (S (80 + k)) ∧ S (80 + k) ≤ 9) (hR : RowC row S) (hW : FolkX S) (hp : p < S 1) (hl : l < S 0) : f_X3_without N (nI (S 0)) df row (nI law) (nI p) (nI l) = some (iI (woN S law p l)) := by
  have w1 := hW.1
  obtain ⟨l1, l2⟩ := hf l hl
  obtain ⟨p0, p1, p2, p3, p4, p5, p6⟩ := hW.part hp
  rcases (show law = 0 ∨ law = 1 ∨ law = 2 ∨ law = 3 by omega) with e | e | e | e <;> subst e
  · simp (maxSteps := 1000000) (disch := omega) only [li, ob1_s, ob2_s, ob3_s, ob4_s, ob5_s, ob6_s, ob7_s, gA_n, gL_n, sA_n, sL_n, cpI_n, nI_add, pk_mul, nsub, nlt_t, nlt_f, nle_t, nle_f, neq_t, neq_f, rmI_n, dvI_n, upd_ne, upd_eq, un_ne, un_eq, Nat.add_zero, Bool.false_eq_true, ↓reduceIte, f_X3_without]
    rfl
  · simp (maxSteps := 1000000) (disch := omega) only [li, ob1_s, ob2_s, ob3_s, ob4_s, ob5_s, ob6_s, ob7_s, gA_n, gL_n, sA_n, sL_n, cpI_n, nI_add, pk_mul, nsub, nlt_t, nlt_f, nle_t, nle_f, neq_t, neq_f, rmI_n, dvI_n, upd_ne, upd_eq, un_ne, un_eq, Nat.add_zero, Bool.false_eq_true, ↓reduceIte, f_X3_without, f_X2_forestOf, l1]
    rw [iI_n]
    congr 1
    show iI _ = iI _
    congr 1
    show _ = (5 : Int) - (S (80 + l) / 2 : Nat)
    omega
  · simp (maxSteps := 1000000) (disch := omega) only [li, ob1_s, ob2_s, ob3_s, ob4_s, ob5_s, ob6_s, ob7_s, gA_n, gL_n, sA_n, sL_n, cpI_n, nI_add, pk_mul, nsub, nlt_t, nlt_f, nle_t, nle_f, neq_t, neq_f, rmI_n, dvI_n, upd_ne, upd_eq, un_ne, un_eq, Nat.add_zero, Bool.false_eq_true, ↓reduceIte, f_X3_without, cget hR w1]
    rw [iI_n]
    congr 1
  · simp (maxSteps := 1000000) (disch := omega) only [li, ob1_s, ob2_s, ob3_s, ob4_s, ob5_s, ob6_s, ob7_s, gA_n, gL_n, sA_n, sL_n, cpI_n, nI_add, pk_mul, nsub, nlt_t, nlt_f, nle_t, nle_f, neq_t, neq_f, rmI_n, dvI_n, upd_ne, upd_eq, un_ne, un_eq, Nat.add_zero, Bool.false_eq_true, ↓reduceIte, f_X3_without]
    rfl
theorem woN_b {S : Nat → Nat} {law p l : Nat} (h9 : S (80 + l) ≤ 9) (ho : S (14 + 11 * p + 5) ≤ 9999) : -1000000 ≤ woN S law p l ∧ woN S law p l ≤ 1000000 := by
  unfold woN
  repeat' split
  all_goals omega
theorem topN_b (law : Nat) : topN law ≤ 9999 := by
  unfold topN
  repeat' split
  all_goals omega
theorem rSaysGo {N t c law : Nat} {a vt nd truth : Nat → Int32} {values : Nat → Int64} {x3 x4 : Int32} (ht : t < 4) (hc : c ≤ 24) (hv : vt (729 * t) = nI c) {k0 : Nat} (hk0 : k0 ≤ c) (hno : ∀ q, q < k0 → ¬ vt (729 * t + 1 + 5 * q) = nI law) : ∀ r n k, k + r = k0 → f_X12_says_3 N (n + r) a vt nd values truth (nI t) (nI law) x3 x4 (nI k) = f_X12_says_3 N n a vt nd values truth (nI t) (nI law) x3 x4 (nI k0) := by
  intro r
  induction r with
  | zero =>
    intro n k e
    have : k = k0 := by omega
    rw [this]; rfl
  | succ r ih =>
    intro n k e
    have g := ih n (k + 1) (by omega)
    have hn := hno k (by omega)
    have e2 : n + (r + 1) = (n + r) + 1 := by omega
    rw [e2]
    rw [f_X12_says_3]
    simp (maxSteps := 1000000) (disch := omega) only [li, ob1_s, ob2_s, ob3_s, ob4_s, ob5_s, ob6_s, ob7_s, gA_n, gL_n, sA_n, sL_n, cpI_n, nI_add, pk_mul, nsub, nlt_t, nlt_f, nle_t, nle_f, neq_t, neq_f, rmI_n, dvI_n, upd_ne, upd_eq, un_ne, un_eq, Nat.add_zero, Bool.false_eq_true, ↓reduceIte, hv, hn]
    exact g
theorem dRule {N law p l : Nat} {tcl : Int32} {tcd tst ten trw : Nat → Int32} {ucl : Int32} {ucd ust uen urw : Nat → Int32} {wcl : Int32} {wcd wst wen wrw : Nat → Int32} {xcl : Int32} {xcd xst xen xrw : Nat → Int32} {vt : Nat → Int32} {dn tx : Int32} {df row fe a nm0 nd0 stack truth : Nat → Int32} {values : Nat → Int64} {S : Nat → Nat} (tI : Int32) (hN : 10000 ≤ N) (hT : TextsT N tcl tcd tst ten trw ucl ucd ust uen urw wcl wcd wst wen wrw xcl xcd xst xen xrw vt (S 2)) (h2 : S 2 ≤ 4) (htx : tx = nI (S 2)) (htI : tI = -nI 1 ∨ ∃ t, t < S 2 ∧ tI = nI t) (hlw : law < 4)
    (hn : dn = nI (S 0)) (h8 : S 0 ≤ 8) (hf : ∀ k, k < S 0 → df k = nI (S (80 + k)) ∧ S (80 + k) ≤ 9) (hR : RowC row S) (hA : TieA a S) (hW : FolkX S) (hF : FeaT fe S) (hp : p < S 1) (hl : l < S 0) :
    ∃ v nm' stack' nd' values' truth', v ≤ topN law ∧ f_X3_rule N dn df tcd tst ten ucd ust uen wcd wst wen xcd xst xen row fe tx nm0 stack tI (nI law) (nI p) (nI l) = some (nI v, nm', stack') ∧ f_X12_nameIn N a nd0 (nI p) (nI l) = some nd' ∧ f_X12_says N a vt nd' values truth tI (nI law) (iI (woN S law p l)) (nI (topN law)) = some (nI v, values', truth') := by
  obtain ⟨nm, nd, g1, g2, g3⟩ := dNames (N := N) (nm0 := nm0) (nd0 := nd0) (by omega) hn h8 hf hR hA hW hF hp hl
  subst hn
  subst htx
  have w1 := hW.1
  obtain ⟨p0, p1, p2, p3, p4, p5, p6⟩ := hW.part hp
  have hwo := cWithout (N := N) hlw h8 hf hR hW hp hl
  have hwb := woN_b (law := law) (hf l hl).2 p5
  have htb := topN_b law
  have hmost := most_n law hlw
  obtain ⟨N1, hN1⟩ : ∃ m, N = m + 1 := ⟨N - 1, by omega⟩
  have e63 : ∀ vals tru, f_X12_says_63 N a vt nd vals tru (iI (woN S law p l)) (nI (topN law)) = some (nI (min (woN S law p l).toNat (topN law)), vals, tru) := fun vals tru => by
    rw [f_X12_says_63, iI_l (by omega) (by omega)]
    have := rCut (N := N) (z := woN S law p l) (top := topN law) (by omega) (by omega) (by omega)
    simp only [li, this, ob1_s]
  have c105 : ∀ (nm st : Nat → Int32) (z : Int), -1000000 ≤ z → z ≤ 1000000 → f_X3_rule_105 N (nI (S 0)) df tcd tst ten ucd ust uen wcd wst wen xcd xst xen row fe (nI (S 2)) nm st (nI law) (iI z) = some (nI (min z.toNat (topN law)), nm, st) := fun nm st z hz1 hz2 => by
    have := cCut (z := z) (top := topN law) (by omega) (by omega) (by omega)
    simp (maxSteps := 1000000) (disch := omega) only [li, ob1_s, ob2_s, ob3_s, ob4_s, ob5_s, ob6_s, ob7_s, gA_n, gL_n, sA_n, sL_n, cpI_n, nI_add, pk_mul, nsub, nlt_t, nlt_f, nle_t, nle_f, neq_t, neq_f, rmI_n, dvI_n, upd_ne, upd_eq, un_ne, un_eq, Nat.add_zero, Bool.false_eq_true, ↓reduceIte, f_X3_rule_105, hmost, this]
  have gen : ∀ (cl : Int32) (cd st en rw_ : Nat → Int32) (t : Nat), t < 4 → t < S 2 → TextT N cl cd st en rw_ vt t → (f_X3_rule N (nI (S 0)) df tcd tst ten ucd ust uen wcd wst wen xcd xst xen row fe (nI (S 2)) nm0 stack (nI t) (nI law) (nI p) (nI l) = ob1 (f_X9_begun N st (nI law)) fun r58 => if r58 = nI 0 then (f_X3_rule_93 N (nI (S 0)) df tcd tst ten ucd ust uen wcd wst wen xcd xst xen row fe (nI (S 2)) nm0 stack (nI law) (nI p) (nI l)) else (ob1 (f_X3_fillNames N (nI (S 0)) df row fe nm0 (nI p) (nI l)) fun l_names_70 => ob2 (f_X9_value N cd st en l_names_70 row fe stack (nI law)) fun r85 l_stack_85 => f_X3_rule_105 N (nI (S 0)) df tcd tst ten ucd ust uen wcd wst wen xcd xst xen row fe (nI (S 2)) l_names_70 l_stack_85 (nI law) r85)) →
      ∃ v nm' stack' nd' values' truth', v ≤ topN law ∧ f_X3_rule N (nI (S 0)) df tcd tst ten ucd ust uen wcd wst wen xcd xst xen row fe (nI (S 2)) nm0 stack (nI t) (nI law) (nI p) (nI l) = some (nI v, nm', stack') ∧ f_X12_nameIn N a nd0 (nI p) (nI l) = some nd' ∧ f_X12_says N a vt nd' values truth (nI t) (nI law) (iI (woN S law p l)) (nI (topN law)) = some (nI v, values', truth') := by
    intro cl cd st en rw_ t ht4 htS hTT hE
    obtain ⟨c, hc, hcl, hvc, -, hlaw⟩ := hTT
    rcases hlaw law hlw with ⟨s1, s2⟩ | ⟨s1, k, hk, s2, s3, s4⟩
    · refine ⟨min (woN S law p l).toNat (topN law), nm0, stack, nd, values, truth, Nat.min_le_right _ _, ?_, g2, ?_⟩
      · rw [hE]
        have : f_X9_begun N st (nI law) = some (nI 0) := by simp (maxSteps := 1000000) (disch := omega) only [li, ob1_s, ob2_s, ob3_s, ob4_s, ob5_s, ob6_s, ob7_s, gA_n, gL_n, sA_n, sL_n, cpI_n, nI_add, pk_mul, nsub, nlt_t, nlt_f, nle_t, nle_f, neq_t, neq_f, rmI_n, dvI_n, upd_ne, upd_eq, un_ne, un_eq, Nat.add_zero, Bool.false_eq_true, ↓reduceIte, f_X9_begun, s1]
        simp only [this, ob1_s, ↓reduceIte, f_X3_rule_93, hwo]
        exact c105 nm0 stack _ hwb.1 hwb.2
      · obtain ⟨n, hn⟩ : ∃ n, N = (n + 1) + c := ⟨N - 1 - c, by omega⟩
        have go := rSaysGo (N := N) (a := a) (nd := nd) (truth := truth) (values := values) (x3 := iI (woN S law p l)) (x4 := nI (topN law)) ht4 hc hvc (Nat.le_refl c) (fun q hq => s2 q hq) c (n + 1) 0 (by omega)
        rw [← hn] at go
        show f_X12_says_3 N N a vt nd values truth (nI t) (nI law) (iI (woN S law p l)) (nI (topN law)) (nI 0) = _
        rw [go, f_X12_says_3]
        simp (maxSteps := 1000000) (disch := omega) only [li, ob1_s, ob2_s, ob3_s, ob4_s, ob5_s, ob6_s, ob7_s, gA_n, gL_n, sA_n, sL_n, cpI_n, nI_add, pk_mul, nsub, nlt_t, nlt_f, nle_t, nle_f, neq_t, neq_f, rmI_n, dvI_n, upd_ne, upd_eq, un_ne, un_eq, Nat.add_zero, Bool.false_eq_true, ↓reduceIte, hvc, e63]
    · obtain ⟨z, stack', truth', values', z1, z2, v1, v2⟩ := s4 nm nd row fe a stack truth values S g3 hR hF w1 hA
      refine ⟨min z.toNat (topN law), nm, stack', nd, values', truth', Nat.min_le_right _ _, ?_, g2, ?_⟩
      · rw [hE]
        have : f_X9_begun N st (nI law) = some (nI 1) := by simp (maxSteps := 1000000) (disch := omega) only [li, ob1_s, ob2_s, ob3_s, ob4_s, ob5_s, ob6_s, ob7_s, gA_n, gL_n, sA_n, sL_n, cpI_n, nI_add, pk_mul, nsub, nlt_t, nlt_f, nle_t, nle_f, neq_t, neq_f, rmI_n, dvI_n, upd_ne, upd_eq, un_ne, un_eq, Nat.add_zero, Bool.false_eq_true, ↓reduceIte, f_X9_begun, s1]
        have h10 : ¬ nI 1 = nI 0 := by decide
        simp only [this, ob1_s, ob2_s, h10, ↓reduceIte, g1, v1]
        exact c105 nm stack' z z1 z2
      · obtain ⟨n, hn⟩ : ∃ n, N = (n + 1) + k := ⟨N - 1 - k, by omega⟩
        have go := rSaysGo (N := N) (a := a) (nd := nd) (truth := truth) (values := values) (x3 := iI (woN S law p l)) (x4 := nI (topN law)) ht4 hc hvc (Nat.le_of_lt hk) (fun q hq => s3 q hq) k (n + 1) 0 (by omega)
        rw [← hn] at go
        show f_X12_says_3 N N a vt nd values truth (nI t) (nI law) (iI (woN S law p l)) (nI (topN law)) (nI 0) = _
        rw [go, f_X12_says_3]
        have cu := rCut (N := N) (z := z) (top := topN law) (by omega) (by omega) (by omega)
        simp (maxSteps := 1000000) (disch := omega) only [li, ob1_s, ob2_s, ob3_s, ob4_s, ob5_s, ob6_s, ob7_s, gA_n, gL_n, sA_n, sL_n, cpI_n, nI_add, pk_mul, nsub, nlt_t, nlt_f, nle_t, nle_f, neq_t, neq_f, rmI_n, dvI_n, upd_ne, upd_eq, un_ne, un_eq, Nat.add_zero, Bool.false_eq_true, ↓reduceIte, hvc, s2, v2, cu]
  rcases htI with e | ⟨t, ht, e⟩
  · subst e
    refine ⟨min (woN S law p l).toNat (topN law), nm0, stack, nd, values, truth, Nat.min_le_right _ _, ?_, g2, ?_⟩
    · have hm : -nI 1 < nI 0 := by decide
      simp (maxSteps := 1000000) (disch := omega) only [li, ob1_s, ob2_s, ob3_s, ob4_s, ob5_s, ob6_s, ob7_s, gA_n, gL_n, sA_n, sL_n, cpI_n, nI_add, pk_mul, nsub, nlt_t, nlt_f, nle_t, nle_f, neq_t, neq_f, rmI_n, dvI_n, upd_ne, upd_eq, un_ne, un_eq, Nat.add_zero, Bool.false_eq_true, ↓reduceIte, f_X3_rule, f_X3_rule_47, f_X3_rule_48_4, f_X3_rule_93, hm, hwo]
      exact c105 nm0 stack _ hwb.1 hwb.2
    · show f_X12_says_3 N N a vt nd values truth (-nI 1) (nI law) (iI (woN S law p l)) (nI (topN law)) (nI 0) = _
      have : f_X12_says_3 N N a vt nd values truth (-nI 1) (nI law) (iI (woN S law p l)) (nI (topN law)) (nI 0) = f_X12_says_3 N (N1 + 1) a vt nd values truth (-nI 1) (nI law) (iI (woN S law p l)) (nI (topN law)) (nI 0) := by rw [← hN1]
      rw [this, f_X12_says_3]
      have hm : (-nI 1 : Int32) < 0 := by decide
      rw [if_pos hm, e63]
  · subst e
    rcases (show t = 0 ∨ t = 1 ∨ t = 2 ∨ t = 3 by omega) with e | e | e | e <;> subst e
    · exact gen tcl tcd tst ten trw 0 (by omega) ht (hT.1 ht) (by simp (maxSteps := 1000000) (disch := omega) only [li, ob1_s, ob2_s, ob3_s, ob4_s, ob5_s, ob6_s, ob7_s, gA_n, gL_n, sA_n, sL_n, cpI_n, nI_add, pk_mul, nsub, nlt_t, nlt_f, nle_t, nle_f, neq_t, neq_f, rmI_n, dvI_n, upd_ne, upd_eq, un_ne, un_eq, Nat.add_zero, Bool.false_eq_true, ↓reduceIte, f_X3_rule, f_X3_rule_48_0])
    · exact gen ucl ucd ust uen urw 1 (by omega) ht (hT.2.1 ht) (by simp (maxSteps := 1000000) (disch := omega) only [li, ob1_s, ob2_s, ob3_s, ob4_s, ob5_s, ob6_s, ob7_s, gA_n, gL_n, sA_n, sL_n, cpI_n, nI_add, pk_mul, nsub, nlt_t, nlt_f, nle_t, nle_f, neq_t, neq_f, rmI_n, dvI_n, upd_ne, upd_eq, un_ne, un_eq, Nat.add_zero, Bool.false_eq_true, ↓reduceIte, f_X3_rule, f_X3_rule_48_1])
    · exact gen wcl wcd wst wen wrw 2 (by omega) ht (hT.2.2.1 ht) (by simp (maxSteps := 1000000) (disch := omega) only [li, ob1_s, ob2_s, ob3_s, ob4_s, ob5_s, ob6_s, ob7_s, gA_n, gL_n, sA_n, sL_n, cpI_n, nI_add, pk_mul, nsub, nlt_t, nlt_f, nle_t, nle_f, neq_t, neq_f, rmI_n, dvI_n, upd_ne, upd_eq, un_ne, un_eq, Nat.add_zero, Bool.false_eq_true, ↓reduceIte, f_X3_rule, f_X3_rule_48_2])
    · exact gen xcl xcd xst xen xrw 3 (by omega) ht (hT.2.2.2 ht) (by simp (maxSteps := 1000000) (disch := omega) only [li, ob1_s, ob2_s, ob3_s, ob4_s, ob5_s, ob6_s, ob7_s, gA_n, gL_n, sA_n, sL_n, cpI_n, nI_add, pk_mul, nsub, nlt_t, nlt_f, nle_t, nle_f, neq_t, neq_f, rmI_n, dvI_n, upd_ne, upd_eq, un_ne, un_eq, Nat.add_zero, Bool.false_eq_true, ↓reduceIte, f_X3_rule, f_X3_rule_48_3])
