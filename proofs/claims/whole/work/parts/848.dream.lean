theorem st_of {j : Nat} {dn : Int32} {df dr row fe to : Nat → Int32} {cnt next : Int32} {store : Nat → Int32} {calls bord rep unl pay : Int32} {cl ul ga py pr : Nat → Int32} {tx rul : Int32} {a : Nat → Int32} {S : Nat → Nat} {N : Nat} {tcl : Int32} {tcd tst ten trw : Nat → Int32} {ucl : Int32} {ucd ust uen urw : Nat → Int32} {wcl : Int32} {wcd wst wen wrw : Nat → Int32} {xcl : Int32} {xcd xst xen xrw : Nat → Int32} {vt : Nat → Int32} {nm0 nd0 stack truth : Nat → Int32} {values : Nat → Int64} (hN : 10000 ≤ N) (hT : TextsT N tcl tcd tst ten trw ucl ucd ust uen urw wcl wcd wst wen wrw xcl xcd xst xen xrw vt (S 2)) (x y : Int32) (h : RealmT j dn df dr row fe to cnt next store calls bord rep unl pay cl ul ga py pr tx rul a S) :
    ∃ (r : Int32) (nm' stack' nd' : Nat → Int32) (values' : Nat → Int64) (truth' : Nat → Int32), f_X11_of N dn df row fe tx rul tcd tst ten ucd ust uen wcd wst wen xcd xst xen nm0 stack x y = some (r, nm', stack') ∧ f_X12_of N a vt nd0 values truth x y = some (r, nd', values', truth') := by
  have hE := h.le hT
  obtain ⟨hA, hL, hR, hW, hF, hB, hZ, hQ, hI, hj⟩ := h
  have w1 := hW.1
  have hX := hW.x
  have h8 := hL.2.1
  rcases inOut x (S 1) (by omega) with hx | ⟨p, hp, rfl⟩
  · exact ⟨-nI 1, nm0, stack, nd0, values, truth, by simp only [f_X11_of, cPers_out hR hx, li, ob1_s, ↓reduceIte], by simp only [f_X12_of, rPers_out hA w1 hx, li, ob1_s, ↓reduceIte]⟩
  obtain ⟨p0, p1, p2, p3, p4, p5, p6⟩ := hX.part hp
  obtain ⟨f1, f2, -⟩ := hF p hp
  rcases inOut y 13 (by omega) with hy | ⟨k, hk, rfl⟩
  · have n : ∀ k, k < 13 → ¬ y = nI k := fun k hk => out_ne hy hk (by omega)
    have n0 := n 0 (by omega); have n1 := n 1 (by omega); have n2 := n 2 (by omega); have n3 := n 3 (by omega); have n4 := n 4 (by omega); have n5 := n 5 (by omega); have n6 := n 6 (by omega); have n7 := n 7 (by omega); have n8 := n 8 (by omega); have n9 := n 9 (by omega); have n10 := n 10 (by omega); have n11 := n 11 (by omega); have n12 := n 12 (by omega)
    have e : f_X12_isIn N y (nI 2) (nI 7) = some (nI 0) := by
      rcases hy with g | ⟨g, g0⟩
      · simp only [f_X12_isIn, li, neg_lt (m := 2) (by omega) g, ↓reduceIte]
      · simp only [f_X12_isIn, li, ge_nlt (n := 13) (m := 2) (by omega) (by omega) g, ge_lt (n := 13) (m := 7) (by omega) (by omega) g, ↓reduceIte]
    exact ⟨-nI 1, nm0, stack, nd0, values, truth, by simp (maxSteps := 1000000) (disch := omega) only [li, ob1_s, ob2_s, ob3_s, ob4_s, ob5_s, ob6_s, ob7_s, gA_n, gL_n, sA_n, sL_n, cpI_n, nI_add, pk_mul, nsub, nlt_t, nlt_f, nle_t, nle_f, neq_t, neq_f, rmI_n, dvI_n, upd_ne, upd_eq, un_ne, un_eq, Nat.add_zero, Bool.false_eq_true, ↓reduceIte, f_X11_of, cPers_in hR w1, cget hR w1, n0, n1, n2, n3, n4, n5, n6, n7, n8, n9, n10, n11, n12], by simp (maxSteps := 1000000) (disch := omega) only [li, ob1_s, ob2_s, ob3_s, ob4_s, ob5_s, ob6_s, ob7_s, gA_n, gL_n, sA_n, sL_n, cpI_n, nI_add, pk_mul, nsub, nlt_t, nlt_f, nle_t, nle_f, neq_t, neq_f, rmI_n, dvI_n, upd_ne, upd_eq, un_ne, un_eq, Nat.add_zero, Bool.false_eq_true, ↓reduceIte, f_X12_of, f_X12_of_133, rPers_in hA w1, n0, n1, n8, n9, n10, n11, n12, e]⟩
  · have cf : f_X1_fearOf N row fe (nI p) = some (nI (S (14 + 11 * p + 7))) := by simp (maxSteps := 1000000) (disch := omega) only [li, ob1_s, ob2_s, ob3_s, ob4_s, ob5_s, ob6_s, ob7_s, gA_n, gL_n, sA_n, sL_n, cpI_n, nI_add, pk_mul, nsub, nlt_t, nlt_f, nle_t, nle_f, neq_t, neq_f, rmI_n, dvI_n, upd_ne, upd_eq, un_ne, un_eq, Nat.add_zero, Bool.false_eq_true, ↓reduceIte, f_X1_fearOf, hR.2.2.1, f1]
    rcases (show k = 0 ∨ k = 1 ∨ (2 ≤ k ∧ k ≤ 7) ∨ k = 8 ∨ k = 9 ∨ k = 10 ∨ k = 11 ∨ k = 12 by omega) with e | e | e | e | e | e | e | e
    · subst e
      exact ⟨nI (S (14 + 11 * p)), nm0, stack, nd0, values, truth, by simp (maxSteps := 1000000) (disch := omega) only [li, ob1_s, ob2_s, ob3_s, ob4_s, ob5_s, ob6_s, ob7_s, gA_n, gL_n, sA_n, sL_n, cpI_n, nI_add, pk_mul, nsub, nlt_t, nlt_f, nle_t, nle_f, neq_t, neq_f, rmI_n, dvI_n, upd_ne, upd_eq, un_ne, un_eq, Nat.add_zero, Bool.false_eq_true, ↓reduceIte, f_X11_of, cPers_in hR w1, cget hR w1], by simp (maxSteps := 1000000) (disch := omega) only [li, ob1_s, ob2_s, ob3_s, ob4_s, ob5_s, ob6_s, ob7_s, gA_n, gL_n, sA_n, sL_n, cpI_n, nI_add, pk_mul, nsub, nlt_t, nlt_f, nle_t, nle_f, neq_t, neq_f, rmI_n, dvI_n, upd_ne, upd_eq, un_ne, un_eq, Nat.add_zero, Bool.false_eq_true, ↓reduceIte, f_X12_of, rPers_in hA w1, rget hA]⟩
    · subst e
      exact ⟨nI (S (14 + 11 * p + 7)), nm0, stack, nd0, values, truth, by simp (maxSteps := 1000000) (disch := omega) only [li, ob1_s, ob2_s, ob3_s, ob4_s, ob5_s, ob6_s, ob7_s, gA_n, gL_n, sA_n, sL_n, cpI_n, nI_add, pk_mul, nsub, nlt_t, nlt_f, nle_t, nle_f, neq_t, neq_f, rmI_n, dvI_n, upd_ne, upd_eq, un_ne, un_eq, Nat.add_zero, Bool.false_eq_true, ↓reduceIte, f_X11_of, cPers_in hR w1, cget hR w1, cf], by simp (maxSteps := 1000000) (disch := omega) only [li, ob1_s, ob2_s, ob3_s, ob4_s, ob5_s, ob6_s, ob7_s, gA_n, gL_n, sA_n, sL_n, cpI_n, nI_add, pk_mul, nsub, nlt_t, nlt_f, nle_t, nle_f, neq_t, neq_f, rmI_n, dvI_n, upd_ne, upd_eq, un_ne, un_eq, Nat.add_zero, Bool.false_eq_true, ↓reduceIte, f_X12_of, rPers_in hA w1, rget hA]⟩
    · refine ⟨nI (S (14 + 11 * p + (k - 1))), nm0, stack, nd0, values, truth, ?_, ?_⟩
      · rcases (show k = 2 ∨ k = 3 ∨ k = 4 ∨ k = 5 ∨ k = 6 ∨ k = 7 by omega) with e | e | e | e | e | e <;> subst e <;> simp (maxSteps := 1000000) (disch := omega) only [li, ob1_s, ob2_s, ob3_s, ob4_s, ob5_s, ob6_s, ob7_s, gA_n, gL_n, sA_n, sL_n, cpI_n, nI_add, pk_mul, nsub, nlt_t, nlt_f, nle_t, nle_f, neq_t, neq_f, rmI_n, dvI_n, upd_ne, upd_eq, un_ne, un_eq, Nat.add_zero, Bool.false_eq_true, ↓reduceIte, f_X11_of, cPers_in hR w1, cget hR w1]
      · simp (maxSteps := 1000000) (disch := omega) only [li, ob1_s, ob2_s, ob3_s, ob4_s, ob5_s, ob6_s, ob7_s, gA_n, gL_n, sA_n, sL_n, cpI_n, nI_add, pk_mul, nsub, nlt_t, nlt_f, nle_t, nle_f, neq_t, neq_f, rmI_n, dvI_n, upd_ne, upd_eq, un_ne, un_eq, Nat.add_zero, Bool.false_eq_true, ↓reduceIte, f_X12_of, f_X12_of_133, rPers_in hA w1, isIn_in, rget hA]
    · subst e
      obtain ⟨v, nm', stack', nd', values', truth', g1, g2, g3⟩ := dHun (nm0 := nm0) (nd0 := nd0) (stack := stack) (truth := truth) (values := values) hN hE hR hA hX hp
      exact ⟨nI v, nm', stack', nd', values', truth', by simp (maxSteps := 1000000) (disch := omega) only [li, ob1_s, ob2_s, ob3_s, ob4_s, ob5_s, ob6_s, ob7_s, gA_n, gL_n, sA_n, sL_n, cpI_n, nI_add, pk_mul, nsub, nlt_t, nlt_f, nle_t, nle_f, neq_t, neq_f, rmI_n, dvI_n, upd_ne, upd_eq, un_ne, un_eq, Nat.add_zero, Bool.false_eq_true, ↓reduceIte, f_X11_of, cPers_in hR w1, cget hR w1, g2], by simp (maxSteps := 1000000) (disch := omega) only [li, ob1_s, ob2_s, ob3_s, ob4_s, ob5_s, ob6_s, ob7_s, gA_n, gL_n, sA_n, sL_n, cpI_n, nI_add, pk_mul, nsub, nlt_t, nlt_f, nle_t, nle_f, neq_t, neq_f, rmI_n, dvI_n, upd_ne, upd_eq, un_ne, un_eq, Nat.add_zero, Bool.false_eq_true, ↓reduceIte, f_X12_of, rPers_in hA w1, g3]⟩
    · subst e
      obtain ⟨v, nm', stack', nd', values', truth', g1, g2, g3⟩ := dFinO (nm0 := nm0) (nd0 := nd0) (stack := stack) (truth := truth) (values := values) hN hE hR hA hX hp
      exact ⟨nI v, nm', stack', nd', values', truth', by simp (maxSteps := 1000000) (disch := omega) only [li, ob1_s, ob2_s, ob3_s, ob4_s, ob5_s, ob6_s, ob7_s, gA_n, gL_n, sA_n, sL_n, cpI_n, nI_add, pk_mul, nsub, nlt_t, nlt_f, nle_t, nle_f, neq_t, neq_f, rmI_n, dvI_n, upd_ne, upd_eq, un_ne, un_eq, Nat.add_zero, Bool.false_eq_true, ↓reduceIte, f_X11_of, cPers_in hR w1, cget hR w1, g2], by simp (maxSteps := 1000000) (disch := omega) only [li, ob1_s, ob2_s, ob3_s, ob4_s, ob5_s, ob6_s, ob7_s, gA_n, gL_n, sA_n, sL_n, cpI_n, nI_add, pk_mul, nsub, nlt_t, nlt_f, nle_t, nle_f, neq_t, neq_f, rmI_n, dvI_n, upd_ne, upd_eq, un_ne, un_eq, Nat.add_zero, Bool.false_eq_true, ↓reduceIte, f_X12_of, rPers_in hA w1, g3]⟩
    · subst e
      obtain ⟨v, nm', stack', nd', values', truth', g1, g2, g3⟩ := dPri (nm0 := nm0) (nd0 := nd0) (stack := stack) (truth := truth) (values := values) rul hN hE (ruls hI) hR hA hX hp
      exact ⟨nI v, nm', stack', nd', values', truth', by simp (maxSteps := 1000000) (disch := omega) only [li, ob1_s, ob2_s, ob3_s, ob4_s, ob5_s, ob6_s, ob7_s, gA_n, gL_n, sA_n, sL_n, cpI_n, nI_add, pk_mul, nsub, nlt_t, nlt_f, nle_t, nle_f, neq_t, neq_f, rmI_n, dvI_n, upd_ne, upd_eq, un_ne, un_eq, Nat.add_zero, Bool.false_eq_true, ↓reduceIte, f_X11_of, cPers_in hR w1, cget hR w1, g2], by simp (maxSteps := 1000000) (disch := omega) only [li, ob1_s, ob2_s, ob3_s, ob4_s, ob5_s, ob6_s, ob7_s, gA_n, gL_n, sA_n, sL_n, cpI_n, nI_add, pk_mul, nsub, nlt_t, nlt_f, nle_t, nle_f, neq_t, neq_f, rmI_n, dvI_n, upd_ne, upd_eq, un_ne, un_eq, Nat.add_zero, Bool.false_eq_true, ↓reduceIte, f_X12_of, rPers_in hA w1, rul3 hI hA, g3]⟩
    · subst e
      obtain ⟨v, nm', stack', nd', values', truth', g1, g2, g3⟩ := dEar (nm0 := nm0) (nd0 := nd0) (stack := stack) (truth := truth) (values := values) hN hE hR hA hX hp
      exact ⟨nI v, nm', stack', nd', values', truth', by simp (maxSteps := 1000000) (disch := omega) only [li, ob1_s, ob2_s, ob3_s, ob4_s, ob5_s, ob6_s, ob7_s, gA_n, gL_n, sA_n, sL_n, cpI_n, nI_add, pk_mul, nsub, nlt_t, nlt_f, nle_t, nle_f, neq_t, neq_f, rmI_n, dvI_n, upd_ne, upd_eq, un_ne, un_eq, Nat.add_zero, Bool.false_eq_true, ↓reduceIte, f_X11_of, cPers_in hR w1, cget hR w1, g2], by simp (maxSteps := 1000000) (disch := omega) only [li, ob1_s, ob2_s, ob3_s, ob4_s, ob5_s, ob6_s, ob7_s, gA_n, gL_n, sA_n, sL_n, cpI_n, nI_add, pk_mul, nsub, nlt_t, nlt_f, nle_t, nle_f, neq_t, neq_f, rmI_n, dvI_n, upd_ne, upd_eq, un_ne, un_eq, Nat.add_zero, Bool.false_eq_true, ↓reduceIte, f_X12_of, rPers_in hA w1, g3]⟩
    · subst e
      have eo := bset_b (q := qIn S (S (14 + 11 * p)) p) w1
      have e1 := cOthers (N := N) (l := S (14 + 11 * p)) (b := p) (but := nI p) hR hX (by omega) (fun q hq => neq (by omega) (by omega)) h8 (by omega)
      have c1 := cBits (N := N) (v := bset (qIn S (S (14 + 11 * p)) p) (S 1)) (by omega)
      have c2 := rCrowd (N := N) (p := p) (l := S (14 + 11 * p)) hA hX (by omega) (by omega) h8 (by omega)
      exact ⟨nI (pop (bset (qIn S (S (14 + 11 * p)) p) (S 1))), nm0, stack, nd0, values, truth, by simp (maxSteps := 1000000) (disch := omega) only [li, ob1_s, ob2_s, ob3_s, ob4_s, ob5_s, ob6_s, ob7_s, gA_n, gL_n, sA_n, sL_n, cpI_n, nI_add, pk_mul, nsub, nlt_t, nlt_f, nle_t, nle_f, neq_t, neq_f, rmI_n, dvI_n, upd_ne, upd_eq, un_ne, un_eq, Nat.add_zero, Bool.false_eq_true, ↓reduceIte, f_X11_of, cPers_in hR w1, cget hR w1, e1, c1], by simp (maxSteps := 1000000) (disch := omega) only [li, ob1_s, ob2_s, ob3_s, ob4_s, ob5_s, ob6_s, ob7_s, gA_n, gL_n, sA_n, sL_n, cpI_n, nI_add, pk_mul, nsub, nlt_t, nlt_f, nle_t, nle_f, neq_t, neq_f, rmI_n, dvI_n, upd_ne, upd_eq, un_ne, un_eq, Nat.add_zero, Bool.false_eq_true, ↓reduceIte, f_X12_of, rPers_in hA w1, rget hA, c2]⟩
/-! what is only foretold: set aside, and put back -/
theorem rAside {N : Nat} {a as : Nat → Int32} {iw : Int32} (hN : 100 ≤ N) : ∃ as', f_X12_setAside N a iw as = some (nI 0, as') ∧ ∀ i, 10 ≤ i → i < 80 → as' i = a i := by
  have key : ∀ k n i (as : Nat → Int32), i + k = 80 → 10 ≤ i → k < n → (∀ q, 10 ≤ q → q < i → as q = a q) → ∃ as', f_X12_setAside_3 N n a iw as (nI i) = some (nI 0, as') ∧ ∀ q, 10 ≤ q → q < 80 → as' q = a q := by
    intro k
    induction k with
    | zero =>
      intro n i as e h10 hn hz
      obtain ⟨n, rfl⟩ : ∃ m, n = m + 1 := ⟨n - 1, by omega⟩
      have e : i = 80 := by omega
      subst e
      exact ⟨as, by simp (maxSteps := 1000000) (disch := omega) only [li, ob1_s, ob2_s, ob3_s, ob4_s, ob5_s, ob6_s, ob7_s, gA_n, gL_n, sA_n, sL_n, cpI_n, nI_add, pk_mul, nsub, nlt_t, nlt_f, nle_t, nle_f, neq_t, neq_f, rmI_n, dvI_n, upd_ne, upd_eq, un_ne, un_eq, Nat.add_zero, Bool.false_eq_true, ↓reduceIte, f_X12_setAside_3], hz⟩
    | succ k ih =>
      intro n i as e h10 hn hz
      obtain ⟨n, rfl⟩ : ∃ m, n = m + 1 := ⟨n - 1, by omega⟩
      obtain ⟨as', g1, g2⟩ := ih n (i + 1) (upd as i (a i)) (by omega) (by omega) (by omega) (fun t ht1 ht => by
        by_cases e2 : t = i
        · rw [upd_eq e2, e2]
        · rw [upd_ne e2]; exact hz t ht1 (by omega))
      refine ⟨as', ?_, g2⟩
      simp (maxSteps := 1000000) (disch := omega) only [li, ob1_s, ob2_s, ob3_s, ob4_s, ob5_s, ob6_s, ob7_s, gA_n, gL_n, sA_n, sL_n, cpI_n, nI_add, pk_mul, nsub, nlt_t, nlt_f, nle_t, nle_f, neq_t, neq_f, rmI_n, dvI_n, upd_ne, upd_eq, un_ne, un_eq, Nat.add_zero, Bool.false_eq_true, ↓reduceIte, f_X12_setAside_3]
      exact g1
  exact key 70 N 10 as (by omega) (by omega) (by omega) (fun t h1 h2 => by omega)
theorem rBack {N : Nat} {a as : Nat → Int32} {iw : Int32} {S T : Nat → Nat} (hN : 100 ≤ N) (hA : TieA a T) (has : ∀ i, 10 ≤ i → i < 80 → as i = nI (S i)) (e : ∀ i, i < 8762 → ¬ (10 ≤ i ∧ i < 80) → T i = S i) : ∃ a', f_X12_putBack N a iw as = some (a', nI 1) ∧ TieA a' S := by
  have key : ∀ k n i (a : Nat → Int32), i + k = 80 → 10 ≤ i → k < n → TieA a (fun q => if 10 ≤ q ∧ q < i then S q else T q) → ∃ a', f_X12_putBack_3 N n a iw as (nI i) = some (a', nI 1) ∧ TieA a' S := by
    intro k
    induction k with
    | zero =>
      intro n i a e0 h10 hn h
      obtain ⟨n, rfl⟩ : ∃ m, n = m + 1 := ⟨n - 1, by omega⟩
      have e0 : i = 80 := by omega
      subst e0
      refine ⟨a, by simp (maxSteps := 1000000) (disch := omega) only [li, ob1_s, ob2_s, ob3_s, ob4_s, ob5_s, ob6_s, ob7_s, gA_n, gL_n, sA_n, sL_n, cpI_n, nI_add, pk_mul, nsub, nlt_t, nlt_f, nle_t, nle_f, neq_t, neq_f, rmI_n, dvI_n, upd_ne, upd_eq, un_ne, un_eq, Nat.add_zero, Bool.false_eq_true, ↓reduceIte, f_X12_putBack_3], h.cg (fun q hq => ?_)⟩
      by_cases c : 10 ≤ q ∧ q < 80
      · rw [if_pos c]
      · rw [if_neg c, e q hq c]
    | succ k ih =>
      intro n i a e0 h10 hn h
      obtain ⟨n, rfl⟩ : ∃ m, n = m + 1 := ⟨n - 1, by omega⟩
      have hv := has i h10 (by omega)
      obtain ⟨a', g1, g2⟩ := ih n (i + 1) (upd a i (nI (S i))) (by omega) (by omega) (by omega) ((h.up (by omega)).cg (fun q hq => by
        by_cases e2 : q = i
        · rw [un_eq e2, if_pos (by omega), e2]
        · rw [un_ne e2]
          by_cases c : 10 ≤ q ∧ q < i
          · rw [if_pos c, if_pos (by omega)]
          · rw [if_neg c, if_neg (by omega)]))
      refine ⟨a', ?_, g2⟩
      simp (maxSteps := 1000000) (disch := omega) only [li, ob1_s, ob2_s, ob3_s, ob4_s, ob5_s, ob6_s, ob7_s, gA_n, gL_n, sA_n, sL_n, cpI_n, nI_add, pk_mul, nsub, nlt_t, nlt_f, nle_t, nle_f, neq_t, neq_f, rmI_n, dvI_n, upd_ne, upd_eq, un_ne, un_eq, Nat.add_zero, Bool.false_eq_true, ↓reduceIte, f_X12_putBack_3, hv]
      exact g1
  exact key 70 N 10 a (by omega) (by omega) (by omega) (hA.cg (fun q hq => if_neg (by omega)))
theorem cDream {N : Nat} {h_row h_fe h_to row fe to : Nat → Int32} : f_X1_become N h_row h_fe h_to row fe to = some (va_cpy row h_row 0 0 76, va_cpy fe h_fe 0 0 6, va_cpy to h_to 0 0 18) := by
  simp (disch := omega) only [f_X1_become, li, cpI_n]
theorem RowC.same {row row2 : Nat → Int32} {S : Nat → Nat} (h : RowC row S) (h6 : S 1 ≤ 6) (e : ∀ i, i < 76 → row2 i = row i) : RowC row2 S := by
  obtain ⟨r1, r2, r3, r4, r5⟩ := h
  exact ⟨by rw [e 0 (by omega)]; exact r1, by rw [e 1 (by omega)]; exact r2, by rw [e 2 (by omega)]; exact r3, by rw [e 3 (by omega)]; exact r4, fun p k hp hk => by rw [e _ (by omega)]; exact r5 p k hp hk⟩
theorem LE.fe {N : Nat} {tcl : Int32} {tcd tst ten trw : Nat → Int32} {ucl : Int32} {ucd ust uen urw : Nat → Int32} {wcl : Int32} {wcd wst wen wrw : Nat → Int32} {xcl : Int32} {xcd xst xen xrw : Nat → Int32} {vt : Nat → Int32} {tx rul dn : Int32} {df dr fe fe2 : Nat → Int32} {S : Nat → Nat} (h : LE N tcl tcd tst ten trw ucl ucd ust uen urw wcl wcd wst wen wrw xcl xcd xst xen xrw vt tx rul dn df dr fe S) (h6 : S 1 ≤ 6) (e : ∀ i, i < 6 → fe2 i = fe i) : LE N tcl tcd tst ten trw ucl ucd ust uen urw wcl wcd wst wen wrw xcl xcd xst xen xrw vt tx rul dn df dr fe2 S :=
  ⟨h.1, h.2.1, h.2.2.1, fun p hp => by rw [e p (by omega)]; exact h.2.2.2 p hp⟩
