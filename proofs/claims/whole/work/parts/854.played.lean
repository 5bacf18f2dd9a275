theorem RealmT.up {j : Nat} {dn : Int32} {df dr row fe to : Nat → Int32} {cnt next : Int32} {store : Nat → Int32} {calls bord rep unl pay : Int32} {cl ul ga py pr : Nat → Int32} {tx rul : Int32} {a : Nat → Int32} {S : Nat → Nat} {j' : Nat} (h : RealmT j dn df dr row fe to cnt next store calls bord rep unl pay cl ul ga py pr tx rul a S) (hj' : j ≤ j') : RealmT j' dn df dr row fe to cnt next store calls bord rep unl pay cl ul ga py pr tx rul a S := by
  obtain ⟨hA, hL, hR, hW, hF, hB, hZ, hQ, hI, hj⟩ := h
  exact ⟨hA, hL, hR, hW, hF, hB, hZ, hQ, hI, by have := Nat.mul_le_mul_left 20000 hj'; omega⟩
theorem kPlay0 {N c : Nat} {tcl : Int32} {tcd tst ten trw : Nat → Int32} {ucl : Int32} {ucd ust uen urw : Nat → Int32} {wcl : Int32} {wcd wst wen wrw : Nat → Int32} {xcl : Int32} {xcd xst xen xrw : Nat → Int32} {vt : Nat → Int32} {tx rul : Int32} {calls bord rep unl pay : Int32} {cl ul ga py pr : Nat → Int32} {T2 j2 : Nat} (hN : 10000 ≤ N) (hT : TextsT N tcl tcd tst ten trw ucl ucd ust uen urw wcl wcd wst wen wrw xcl xcd xst xen xrw vt T2) (hc : c ≤ 24) (hcl : tcl = nI c) (hvc : vt (729 * 0) = nI c) (hK : ∀ k, k < c → ClauseT trw vt 0 k) (hj2 : j2 ≤ 20000) :
    ∀ q n k j (dn : Int32) (df dr row fe to : Nat → Int32) (cnt next : Int32) (store nm0 stack a nd0 truth : Nat → Int32) (values : Nat → Int64) (died : Int32) (S : Nat → Nat), k + q = c → q < n → j + q ≤ j2 → S 2 = T2 → RealmT j dn df dr row fe to cnt next store calls bord rep unl pay cl ul ga py pr tx rul a S →
    ∃ (r : Int32) (dn' : Int32) (df' dr' row' fe' to' : Nat → Int32) (cnt' next' : Int32) (store' nm' stack' a' nd' : Nat → Int32) (values' : Nat → Int64) (truth' : Nat → Int32) (died' : Int32) (S' : Nat → Nat), f_X11_played_27_0 N n dn df dr row fe to cnt next store tx rul tcl tcd tst ten trw ucl ucd ust uen urw wcl wcd wst wen wrw xcl xcd xst xen xrw nm0 stack (nI k) = some (r, dn', df', dr', row', fe', to', cnt', next', store', nm', stack') ∧ f_X12_played_21 N n a vt nd0 values truth (nI 1) died (nI 0) (nI k) = some (r, a', nd', values', truth', died') ∧ RealmT j2 dn' df' dr' row' fe' to' cnt' next' store' calls bord rep unl pay cl ul ga py pr tx rul a' S' ∧ S' 2 = T2 := by
  intro q
  induction q with
  | zero =>
    intro n k j dn df dr row fe to cnt next store nm0 stack a nd0 truth values died S e hn hj h2 h
    obtain ⟨n, rfl⟩ : ∃ m, n = m + 1 := ⟨n - 1, by omega⟩
    have e : k = c := by omega
    subst e
    refine ⟨-nI 1, dn, df, dr, row, fe, to, cnt, next, store, nm0, stack, a, nd0, values, truth, died, S, ?_, ?_, h.up (by omega), h2⟩
    · simp (maxSteps := 1000000) (disch := omega) only [li, ob1_s, ob2_s, ob3_s, ob4_s, ob5_s, ob6_s, ob7_s, gA_n, gL_n, sA_n, sL_n, cpI_n, nI_add, pk_mul, nsub, nlt_t, nlt_f, nle_t, nle_f, neq_t, neq_f, rmI_n, dvI_n, upd_ne, upd_eq, un_ne, un_eq, Nat.add_zero, Bool.false_eq_true, ↓reduceIte, f_X11_played_27_0, hcl]
    · simp (maxSteps := 1000000) (disch := omega) only [li, ob1_s, ob2_s, ob3_s, ob4_s, ob5_s, ob6_s, ob7_s, gA_n, gL_n, sA_n, sL_n, cpI_n, nI_add, pk_mul, nsub, nlt_t, nlt_f, nle_t, nle_f, neq_t, neq_f, rmI_n, dvI_n, upd_ne, upd_eq, un_ne, un_eq, Nat.add_zero, Bool.false_eq_true, ↓reduceIte, f_X12_played_21, hvc]
  | succ q ih =>
    intro n k j dn df dr row fe to cnt next store nm0 stack a nd0 truth values died S e hn hj h2 h
    obtain ⟨n, rfl⟩ : ∃ m, n = m + 1 := ⟨n - 1, by omega⟩
    obtain ⟨b, dn1, df1, dr1, row1, fe1, to1, cnt1, next1, store1, nm1, stack1, a1, nd1, values1, truth1, died1, S1, g1, g2, g3, g4⟩ := kPerf0 (nm0 := nm0) (nd0 := nd0) (stack := stack) (truth := truth) (values := values) died hN (by omega) (by rw [h2]; exact hT) hc hcl (show k < c by omega) (hK k (by omega)) h
    have ex : 729 * 0 + 1 + 5 * k < 2916 := by omega
    by_cases hb : b = nI 0
    · refine ⟨nI k, dn1, df1, dr1, row1, fe1, to1, cnt1, next1, store1, nm1, stack1, a1, nd1, values1, truth1, died1, S1, ?_, ?_, g3.up (by omega), by omega⟩
      · rw [f_X11_played_27_0]
        rw [hcl] at g1 ⊢
        simp (maxSteps := 1000000) (disch := omega) only [li, ob1_s, ob2_s, ob3_s, ob4_s, ob5_s, ob6_s, ob7_s, gA_n, gL_n, sA_n, sL_n, cpI_n, nI_add, pk_mul, nsub, nlt_t, nlt_f, nle_t, nle_f, neq_t, neq_f, rmI_n, dvI_n, upd_ne, upd_eq, un_ne, un_eq, Nat.add_zero, Bool.false_eq_true, ↓reduceIte, g1, ob12, hb]
      · rw [f_X12_played_21]
        simp (maxSteps := 1000000) (disch := omega) only [li, ob1_s, ob2_s, ob3_s, ob4_s, ob5_s, ob6_s, ob7_s, gA_n, gL_n, sA_n, sL_n, cpI_n, nI_add, pk_mul, nsub, nlt_t, nlt_f, nle_t, nle_f, neq_t, neq_f, rmI_n, dvI_n, upd_ne, upd_eq, un_ne, un_eq, Nat.add_zero, Bool.false_eq_true, ↓reduceIte, hvc, g2, hb]
    · obtain ⟨r, dn2, df2, dr2, row2, fe2, to2, cnt2, next2, store2, nm2, stack2, a2, nd2, values2, truth2, died2, S2, q1, q2, q3, q4⟩ := ih n (k + 1) (j + 1) dn1 df1 dr1 row1 fe1 to1 cnt1 next1 store1 nm1 stack1 a1 nd1 truth1 values1 died1 S1 (by omega) (by omega) (by omega) (by omega) g3
      refine ⟨r, dn2, df2, dr2, row2, fe2, to2, cnt2, next2, store2, nm2, stack2, a2, nd2, values2, truth2, died2, S2, ?_, ?_, q3, q4⟩
      · rw [f_X11_played_27_0]
        rw [hcl] at g1 q1 ⊢
        simp (maxSteps := 1000000) (disch := omega) only [li, ob1_s, ob2_s, ob3_s, ob4_s, ob5_s, ob6_s, ob7_s, gA_n, gL_n, sA_n, sL_n, cpI_n, nI_add, pk_mul, nsub, nlt_t, nlt_f, nle_t, nle_f, neq_t, neq_f, rmI_n, dvI_n, upd_ne, upd_eq, un_ne, un_eq, Nat.add_zero, Bool.false_eq_true, ↓reduceIte, g1, ob12, hb]
        exact q1
      · rw [f_X12_played_21]
        simp (maxSteps := 1000000) (disch := omega) only [li, ob1_s, ob2_s, ob3_s, ob4_s, ob5_s, ob6_s, ob7_s, gA_n, gL_n, sA_n, sL_n, cpI_n, nI_add, pk_mul, nsub, nlt_t, nlt_f, nle_t, nle_f, neq_t, neq_f, rmI_n, dvI_n, upd_ne, upd_eq, un_ne, un_eq, Nat.add_zero, Bool.false_eq_true, ↓reduceIte, hvc, g2, hb]
        exact q2
theorem kPlay1 {N c : Nat} {tcl : Int32} {tcd tst ten trw : Nat → Int32} {ucl : Int32} {ucd ust uen urw : Nat → Int32} {wcl : Int32} {wcd wst wen wrw : Nat → Int32} {xcl : Int32} {xcd xst xen xrw : Nat → Int32} {vt : Nat → Int32} {tx rul : Int32} {calls bord rep unl pay : Int32} {cl ul ga py pr : Nat → Int32} {T2 j2 : Nat} (hN : 10000 ≤ N) (hT : TextsT N tcl tcd tst ten trw ucl ucd ust uen urw wcl wcd wst wen wrw xcl xcd xst xen xrw vt T2) (hc : c ≤ 24) (hcl : ucl = nI c) (hvc : vt (729 * 1) = nI c) (hK : ∀ k, k < c → ClauseT urw vt 1 k) (hj2 : j2 ≤ 20000) :
    ∀ q n k j (dn : Int32) (df dr row fe to : Nat → Int32) (cnt next : Int32) (store nm0 stack a nd0 truth : Nat → Int32) (values : Nat → Int64) (died : Int32) (S : Nat → Nat), k + q = c → q < n → j + q ≤ j2 → S 2 = T2 → RealmT j dn df dr row fe to cnt next store calls bord rep unl pay cl ul ga py pr tx rul a S →
    ∃ (r : Int32) (dn' : Int32) (df' dr' row' fe' to' : Nat → Int32) (cnt' next' : Int32) (store' nm' stack' a' nd' : Nat → Int32) (values' : Nat → Int64) (truth' : Nat → Int32) (died' : Int32) (S' : Nat → Nat), f_X11_played_27_1 N n dn df dr row fe to cnt next store tx rul tcl tcd tst ten trw ucl ucd ust uen urw wcl wcd wst wen wrw xcl xcd xst xen xrw nm0 stack (nI k) = some (r, dn', df', dr', row', fe', to', cnt', next', store', nm', stack') ∧ f_X12_played_21 N n a vt nd0 values truth (nI 1) died (nI 1) (nI k) = some (r, a', nd', values', truth', died') ∧ RealmT j2 dn' df' dr' row' fe' to' cnt' next' store' calls bord rep unl pay cl ul ga py pr tx rul a' S' ∧ S' 2 = T2 := by
  intro q
  induction q with
  | zero =>
    intro n k j dn df dr row fe to cnt next store nm0 stack a nd0 truth values died S e hn hj h2 h
    obtain ⟨n, rfl⟩ : ∃ m, n = m + 1 := ⟨n - 1, by omega⟩
    have e : k = c := by omega
    subst e
    refine ⟨-nI 1, dn, df, dr, row, fe, to, cnt, next, store, nm0, stack, a, nd0, values, truth, died, S, ?_, ?_, h.up (by omega), h2⟩
    · simp (maxSteps := 1000000) (disch := omega) only [li, ob1_s, ob2_s, ob3_s, ob4_s, ob5_s, ob6_s, ob7_s, gA_n, gL_n, sA_n, sL_n, cpI_n, nI_add, pk_mul, nsub, nlt_t, nlt_f, nle_t, nle_f, neq_t, neq_f, rmI_n, dvI_n, upd_ne, upd_eq, un_ne, un_eq, Nat.add_zero, Bool.false_eq_true, ↓reduceIte, f_X11_played_27_1, hcl]
    · simp (maxSteps := 1000000) (disch := omega) only [li, ob1_s, ob2_s, ob3_s, ob4_s, ob5_s, ob6_s, ob7_s, gA_n, gL_n, sA_n, sL_n, cpI_n, nI_add, pk_mul, nsub, nlt_t, nlt_f, nle_t, nle_f, neq_t, neq_f, rmI_n, dvI_n, upd_ne, upd_eq, un_ne, un_eq, Nat.add_zero, Bool.false_eq_true, ↓reduceIte, f_X12_played_21, hvc]
  | succ q ih =>
    intro n k j dn df dr row fe to cnt next store nm0 stack a nd0 truth values died S e hn hj h2 h
    obtain ⟨n, rfl⟩ : ∃ m, n = m + 1 := ⟨n - 1, by omega⟩
    obtain ⟨b, dn1, df1, dr1, row1, fe1, to1, cnt1, next1, store1, nm1, stack1, a1, nd1, values1, truth1, died1, S1, g1, g2, g3, g4⟩ := kPerf1 (nm0 := nm0) (nd0 := nd0) (stack := stack) (truth := truth) (values := values) died hN (by omega) (by rw [h2]; exact hT) hc hcl (show k < c by omega) (hK k (by omega)) h
    have ex : 729 * 1 + 1 + 5 * k < 2916 := by omega
    by_cases hb : b = nI 0
    · refine ⟨nI k, dn1, df1, dr1, row1, fe1, to1, cnt1, next1, store1, nm1, stack1, a1, nd1, values1, truth1, died1, S1, ?_, ?_, g3.up (by omega), by omega⟩
      · rw [f_X11_played_27_1]
        rw [hcl] at g1 ⊢
        simp (maxSteps := 1000000) (disch := omega) only [li, ob1_s, ob2_s, ob3_s, ob4_s, ob5_s, ob6_s, ob7_s, gA_n, gL_n, sA_n, sL_n, cpI_n, nI_add, pk_mul, nsub, nlt_t, nlt_f, nle_t, nle_f, neq_t, neq_f, rmI_n, dvI_n, upd_ne, upd_eq, un_ne, un_eq, Nat.add_zero, Bool.false_eq_true, ↓reduceIte, g1, ob12, hb]
      · rw [f_X12_played_21]
        simp (maxSteps := 1000000) (disch := omega) only [li, ob1_s, ob2_s, ob3_s, ob4_s, ob5_s, ob6_s, ob7_s, gA_n, gL_n, sA_n, sL_n, cpI_n, nI_add, pk_mul, nsub, nlt_t, nlt_f, nle_t, nle_f, neq_t, neq_f, rmI_n, dvI_n, upd_ne, upd_eq, un_ne, un_eq, Nat.add_zero, Bool.false_eq_true, ↓reduceIte, hvc, g2, hb]
    · obtain ⟨r, dn2, df2, dr2, row2, fe2, to2, cnt2, next2, store2, nm2, stack2, a2, nd2, values2, truth2, died2, S2, q1, q2, q3, q4⟩ := ih n (k + 1) (j + 1) dn1 df1 dr1 row1 fe1 to1 cnt1 next1 store1 nm1 stack1 a1 nd1 truth1 values1 died1 S1 (by omega) (by omega) (by omega) (by omega) g3
      refine ⟨r, dn2, df2, dr2, row2, fe2, to2, cnt2, next2, store2, nm2, stack2, a2, nd2, values2, truth2, died2, S2, ?_, ?_, q3, q4⟩
      · rw [f_X11_played_27_1]
        rw [hcl] at g1 q1 ⊢
        simp (maxSteps := 1000000) (disch := omega) only [li, ob1_s, ob2_s, ob3_s, ob4_s, ob5_s, ob6_s, ob7_s, gA_n, gL_n, sA_n, sL_n, cpI_n, nI_add, pk_mul, nsub, nlt_t, nlt_f, nle_t, nle_f, neq_t, neq_f, rmI_n, dvI_n, upd_ne, upd_eq, un_ne, un_eq, Nat.add_zero, Bool.false_eq_true, ↓reduceIte, g1, ob12, hb]
        exact q1
      · rw [f_X12_played_21]
        simp (maxSteps := 1000000) (disch := omega) only [li, ob1_s, ob2_s, ob3_s, ob4_s, ob5_s, ob6_s, ob7_s, gA_n, gL_n, sA_n, sL_n, cpI_n, nI_add, pk_mul, nsub, nlt_t, nlt_f, nle_t, nle_f, neq_t, neq_f, rmI_n, dvI_n, upd_ne, upd_eq, un_ne, un_eq, Nat.add_zero, Bool.false_eq_true, ↓reduceIte, hvc, g2, hb]
        exact q2
theorem kPlay2 {N c : Nat} {tcl : Int32} {tcd tst ten trw : Nat → Int32} {ucl : Int32} {ucd ust uen urw : Nat → Int32} {wcl : Int32} {wcd wst wen wrw : Nat → Int32} {xcl : Int32} {xcd xst xen xrw : Nat → Int32} {vt : Nat → Int32} {tx rul : Int32} {calls bord rep unl pay : Int32} {cl ul ga py pr : Nat → Int32} {T2 j2 : Nat} (hN : 10000 ≤ N) (hT : TextsT N tcl tcd tst ten trw ucl ucd ust uen urw wcl wcd wst wen wrw xcl xcd xst xen xrw vt T2) (hc : c ≤ 24) (hcl : wcl = nI c) (hvc : vt (729 * 2) = nI c) (hK : ∀ k, k < c → ClauseT wrw vt 2 k) (hj2 : j2 ≤ 20000) :
    ∀ q n k j (dn : Int32) (df dr row fe to : Nat → Int32) (cnt next : Int32) (store nm0 stack a nd0 truth : Nat → Int32) (values : Nat → Int64) (died : Int32) (S : Nat → Nat), k + q = c → q < n → j + q ≤ j2 → S 2 = T2 → RealmT j dn df dr row fe to cnt next store calls bord rep unl pay cl ul ga py pr tx rul a S →
    ∃ (r : Int32) (dn' : Int32) (df' dr' row' fe' to' : Nat → Int32) (cnt' next' : Int32) (store' nm' stack' a' nd' : Nat → Int32) (values' : Nat → Int64) (truth' : Nat → Int32) (died' : Int32) (S' : Nat → Nat), f_X11_played_27_2 N n dn df dr row fe to cnt next store tx rul tcl tcd tst ten trw ucl ucd ust uen urw wcl wcd wst wen wrw xcl xcd xst xen xrw nm0 stack (nI k) = some (r, dn', df', dr', row', fe', to', cnt', next', store', nm', stack') ∧ f_X12_played_21 N n a vt nd0 values truth (nI 1) died (nI 2) (nI k) = some (r, a', nd', values', truth', died') ∧ RealmT j2 dn' df' dr' row' fe' to' cnt' next' store' calls bord rep unl pay cl ul ga py pr tx rul a' S' ∧ S' 2 = T2 := by
  intro q
  induction q with
  | zero =>
    intro n k j dn df dr row fe to cnt next store nm0 stack a nd0 truth values died S e hn hj h2 h
    obtain ⟨n, rfl⟩ : ∃ m, n = m + 1 := ⟨n - 1, by omega⟩
    have e : k = c := by omega
    subst e
    refine ⟨-nI 1, dn, df, dr, row, fe, to, cnt, next, store, nm0, stack, a, nd0, values, truth, died, S, ?_, ?_, h.up (by omega), h2⟩
    · simp (maxSteps := 1000000) (disch := omega) only [li, ob1_s, ob2_s, ob3_s, ob4_s, ob5_s, ob6_s, ob7_s, gA_n, gL_n, sA_n, sL_n, cpI_n, nI_add, pk_mul, nsub, nlt_t, nlt_f, nle_t, nle_f, neq_t, neq_f, rmI_n, dvI_n, upd_ne, upd_eq, un_ne, un_eq, Nat.add_zero, Bool.false_eq_true, ↓reduceIte, f_X11_played_27_2, hcl]
    · simp (maxSteps := 1000000) (disch := omega) only [li, ob1_s, ob2_s, ob3_s, ob4_s, ob5_s, ob6_s, ob7_s, gA_n, gL_n, sA_n, sL_n, cpI_n, nI_add, pk_mul, nsub, nlt_t, nlt_f, nle_t, nle_f, neq_t, neq_f, rmI_n, dvI_n, upd_ne, upd_eq, un_ne, un_eq, Nat.add_zero, Bool.false_eq_true, ↓reduceIte, f_X12_played_21, hvc]
  | succ q ih =>
    intro n k j dn df dr row fe to cnt next store nm0 stack a nd0 truth values died S e hn hj h2 h
    obtain ⟨n, rfl⟩ : ∃ m, n = m + 1 := ⟨n - 1, by omega⟩
    obtain ⟨b, dn1, df1, dr1, row1, fe1, to1, cnt1, next1, store1, nm1, stack1, a1, nd1, values1, truth1, died1, S1, g1, g2, g3, g4⟩ := kPerf2 (nm0 := nm0) (nd0 := nd0) (stack := stack) (truth := truth) (values := values) died hN (by omega) (by rw [h2]; exact hT) hc hcl (show k < c by omega) (hK k (by omega)) h
    have ex : 729 * 2 + 1 + 5 * k < 2916 := by omega
    by_cases hb : b = nI 0
    · refine ⟨nI k, dn1, df1, dr1, row1, fe1, to1, cnt1, next1, store1, nm1, stack1, a1, nd1, values1, truth1, died1, S1, ?_, ?_, g3.up (by omega), by omega⟩
      · rw [f_X11_played_27_2]
        rw [hcl] at g1 ⊢
        simp (maxSteps := 1000000) (disch := omega) only [li, ob1_s, ob2_s, ob3_s, ob4_s, ob5_s, ob6_s, ob7_s, gA_n, gL_n, sA_n, sL_n, cpI_n, nI_add, pk_mul, nsub, nlt_t, nlt_f, nle_t, nle_f, neq_t, neq_f, rmI_n, dvI_n, upd_ne, upd_eq, un_ne, un_eq, Nat.add_zero, Bool.false_eq_true, ↓reduceIte, g1, ob12, hb]
      · rw [f_X12_played_21]
        simp (maxSteps := 1000000) (disch := omega) only [li, ob1_s, ob2_s, ob3_s, ob4_s, ob5_s, ob6_s, ob7_s, gA_n, gL_n, sA_n, sL_n, cpI_n, nI_add, pk_mul, nsub, nlt_t, nlt_f, nle_t, nle_f, neq_t, neq_f, rmI_n, dvI_n, upd_ne, upd_eq, un_ne, un_eq, Nat.add_zero, Bool.false_eq_true, ↓reduceIte, hvc, g2, hb]
    · obtain ⟨r, dn2, df2, dr2, row2, fe2, to2, cnt2, next2, store2, nm2, stack2, a2, nd2, values2, truth2, died2, S2, q1, q2, q3, q4⟩ := ih n (k + 1) (j + 1) dn1 df1 dr1 row1 fe1 to1 cnt1 next1 store1 nm1 stack1 a1 nd1 truth1 values1 died1 S1 (by omega) (by omega) (by omega) (by omega) g3
      refine ⟨r, dn2, df2, dr2, row2, fe2, to2, cnt2, next2, store2, nm2, stack2, a2, nd2, values2, truth2, died2, S2, ?_, ?_, q3, q4⟩
      · rw [f_X11_played_27_2]
        rw [hcl] at g1 q1 ⊢
        simp (maxSteps := 1000000) (disch := omega) only [li, ob1_s, ob2_s, ob3_s, ob4_s, ob5_s, ob6_s, ob7_s, gA_n, gL_n, sA_n, sL_n, cpI_n, nI_add, pk_mul, nsub, nlt_t, nlt_f, nle_t, nle_f, neq_t, neq_f, rmI_n, dvI_n, upd_ne, upd_eq, un_ne, un_eq, Nat.add_zero, Bool.false_eq_true, ↓reduceIte, g1, ob12, hb]
        exact q1
      · rw [f_X12_played_21]
        simp (maxSteps := 1000000) (disch := omega) only [li, ob1_s, ob2_s, ob3_s, ob4_s, ob5_s, ob6_s, ob7_s, gA_n, gL_n, sA_n, sL_n, cpI_n, nI_add, pk_mul, nsub, nlt_t, nlt_f, nle_t, nle_f, neq_t, neq_f, rmI_n, dvI_n, upd_ne, upd_eq, un_ne, un_eq, Nat.add_zero, Bool.false_eq_true, ↓reduceIte, hvc, g2, hb]
        exact q2
theorem kPlay3 {N c : Nat} {tcl : Int32} {tcd tst ten trw : Nat → Int32} {ucl : Int32} {ucd ust uen urw : Nat → Int32} {wcl : Int32} {wcd wst wen wrw : Nat → Int32} {xcl : Int32} {xcd xst xen xrw : Nat → Int32} {vt : Nat → Int32} {tx rul : Int32} {calls bord rep unl pay : Int32} {cl ul ga py pr : Nat → Int32} {T2 j2 : Nat} (hN : 10000 ≤ N) (hT : TextsT N tcl tcd tst ten trw ucl ucd ust uen urw wcl wcd wst wen wrw xcl xcd xst xen xrw vt T2) (hc : c ≤ 24) (hcl : xcl = nI c) (hvc : vt (729 * 3) = nI c) (hK : ∀ k, k < c → ClauseT xrw vt 3 k) (hj2 : j2 ≤ 20000) :
    ∀ q n k j (dn : Int32) (df dr row fe to : Nat → Int32) (cnt next : Int32) (store nm0 stack a nd0 truth : Nat → Int32) (values : Nat → Int64) (died : Int32) (S : Nat → Nat), k + q = c → q < n → j + q ≤ j2 → S 2 = T2 → RealmT j dn df dr row fe to cnt next store calls bord rep unl pay cl ul ga py pr tx rul a S →
    ∃ (r : Int32) (dn' : Int32) (df' dr' row' fe' to' : Nat → Int32) (cnt' next' : Int32) (store' nm' stack' a' nd' : Nat → Int32) (values' : Nat → Int64) (truth' : Nat → Int32) (died' : Int32) (S' : Nat → Nat), f_X11_played_27_3 N n dn df dr row fe to cnt next store tx rul tcl tcd tst ten trw ucl ucd ust uen urw wcl wcd wst wen wrw xcl xcd xst xen xrw nm0 stack (nI k) = some (r, dn', df', dr', row', fe', to', cnt', next', store', nm', stack') ∧ f_X12_played_21 N n a vt nd0 values truth (nI 1) died (nI 3) (nI k) = some (r, a', nd', values', truth', died') ∧ RealmT j2 dn' df' dr' row' fe' to' cnt' next' store' calls bord rep unl pay cl ul ga py pr tx rul a' S' ∧ S' 2 = T2 := by
  intro q
  induction q with
  | zero =>
    intro n k j dn df dr row fe to cnt next store nm0 stack a nd0 truth values died S e hn hj h2 h
    obtain ⟨n, rfl⟩ : ∃ m, n = m + 1 := ⟨n - 1, by omega⟩
    have e : k = c := by omega
    subst e
    refine ⟨-nI 1, dn, df, dr, row, fe, to, cnt, next, store, nm0, stack, a, nd0, values, truth, died, S, ?_, ?_, h.up (by omega), h2⟩
    · simp (maxSteps := 1000000) (disch := omega) only [li, ob1_s, ob2_s, ob3_s, ob4_s, ob5_s, ob6_s, ob7_s, gA_n, gL_n, sA_n, sL_n, cpI_n, nI_add, pk_mul, nsub, nlt_t, nlt_f, nle_t, nle_f, neq_t, neq_f, rmI_n, dvI_n, upd_ne, upd_eq, un_ne, un_eq, Nat.add_zero, Bool.false_eq_true, ↓reduceIte, f_X11_played_27_3, hcl]
    · simp (maxSteps := 1000000) (disch := omega) only [li, ob1_s, ob2_s, ob3_s, ob4_s, ob5_s, ob6_s, ob7_s, gA_n, gL_n, sA_n, sL_n, cpI_n, nI_add, pk_mul, nsub, nlt_t, nlt_f, nle_t, nle_f, neq_t, neq_f, rmI_n, dvI_n, upd_ne, upd_eq, un_ne, un_eq, Nat.add_zero, Bool.false_eq_true, ↓reduceIte, f_X12_played_21, hvc]
  | succ q ih =>
    intro n k j dn df dr row fe to cnt next store nm0 stack a nd0 truth values died S e hn hj h2 h
    obtain ⟨n, rfl⟩ : ∃ m, n = m + 1 := ⟨n - 1, by omega⟩
    obtain ⟨b, dn1, df1, dr1, row1, fe1, to1, cnt1, next1, store1, nm1, stack1, a1, nd1, values1, truth1, died1, S1, g1, g2, g3, g4⟩ := kPerf3 (nm0 := nm0) (nd0 := nd0) (stack := stack) (truth := truth) (values := values) died hN (by omega) (by rw [h2]; exact hT) hc hcl (show k < c by omega) (hK k (by omega)) h
    have ex : 729 * 3 + 1 + 5 * k < 2916 := by omega
    by_cases hb : b = nI 0
    · refine ⟨nI k, dn1, df1, dr1, row1, fe1, to1, cnt1, next1, store1, nm1, stack1, a1, nd1, values1, truth1, died1, S1, ?_, ?_, g3.up (by omega), by omega⟩
      · rw [f_X11_played_27_3]
        rw [hcl] at g1 ⊢
        simp (maxSteps := 1000000) (disch := omega) only [li, ob1_s, ob2_s, ob3_s, ob4_s, ob5_s, ob6_s, ob7_s, gA_n, gL_n, sA_n, sL_n, cpI_n, nI_add, pk_mul, nsub, nlt_t, nlt_f, nle_t, nle_f, neq_t, neq_f, rmI_n, dvI_n, upd_ne, upd_eq, un_ne, un_eq, Nat.add_zero, Bool.false_eq_true, ↓reduceIte, g1, ob12, hb]
      · rw [f_X12_played_21]
        simp (maxSteps := 1000000) (disch := omega) only [li, ob1_s, ob2_s, ob3_s, ob4_s, ob5_s, ob6_s, ob7_s, gA_n, gL_n, sA_n, sL_n, cpI_n, nI_add, pk_mul, nsub, nlt_t, nlt_f, nle_t, nle_f, neq_t, neq_f, rmI_n, dvI_n, upd_ne, upd_eq, un_ne, un_eq, Nat.add_zero, Bool.false_eq_true, ↓reduceIte, hvc, g2, hb]
    · obtain ⟨r, dn2, df2, dr2, row2, fe2, to2, cnt2, next2, store2, nm2, stack2, a2, nd2, values2, truth2, died2, S2, q1, q2, q3, q4⟩ := ih n (k + 1) (j + 1) dn1 df1 dr1 row1 fe1 to1 cnt1 next1 store1 nm1 stack1 a1 nd1 truth1 values1 died1 S1 (by omega) (by omega) (by omega) (by omega) g3
      refine ⟨r, dn2, df2, dr2, row2, fe2, to2, cnt2, next2, store2, nm2, stack2, a2, nd2, values2, truth2, died2, S2, ?_, ?_, q3, q4⟩
      · rw [f_X11_played_27_3]
        rw [hcl] at g1 q1 ⊢
        simp (maxSteps := 1000000) (disch := omega) only [li, ob1_s, ob2_s, ob3_s, ob4_s, ob5_s, ob6_s, ob7_s, gA_n, gL_n, sA_n, sL_n, cpI_n, nI_add, pk_mul, nsub, nlt_t, nlt_f, nle_t, nle_f, neq_t, neq_f, rmI_n, dvI_n, upd_ne, upd_eq, un_ne, un_eq, Nat.add_zero, Bool.false_eq_true, ↓reduceIte, g1, ob12, hb]
        exact q1
      · rw [f_X12_played_21]
        simp (maxSteps := 1000000) (disch := omega) only [li, ob1_s, ob2_s, ob3_s, ob4_s, ob5_s, ob6_s, ob7_s, gA_n, gL_n, sA_n, sL_n, cpI_n, nI_add, pk_mul, nsub, nlt_t, nlt_f, nle_t, nle_f, neq_t, neq_f, rmI_n, dvI_n, upd_ne, upd_eq, un_ne, un_eq, Nat.add_zero, Bool.false_eq_true, ↓reduceIte, hvc, g2, hb]
        exact q2
theorem st_played {j : Nat} {dn : Int32} {df dr row fe to : Nat → Int32} {cnt next : Int32} {store : Nat → Int32} {calls bord rep unl pay : Int32} {cl ul ga py pr : Nat → Int32} {tx rul : Int32} {a : Nat → Int32} {S : Nat → Nat} {N : Nat} {tcl : Int32} {tcd tst ten trw : Nat → Int32} {ucl : Int32} {ucd ust uen urw : Nat → Int32} {wcl : Int32} {wcd wst wen wrw : Nat → Int32} {xcl : Int32} {xcd xst xen xrw : Nat → Int32} {vt : Nat → Int32} {nm0 nd0 stack truth : Nat → Int32} {values : Nat → Int64} (died : Int32) (hN : 10000 ≤ N) (hJ : j + 24 ≤ 20000) (hT : TextsT N tcl tcd tst ten trw ucl ucd ust uen urw wcl wcd wst wen wrw xcl xcd xst xen xrw vt (S 2)) (x : Int32) (h : RealmT j dn df dr row fe to cnt next store calls bord rep unl pay cl ul ga py pr tx rul a S) :
    ∃ (r : Int32) (dn' : Int32) (df' dr' row' fe' to' : Nat → Int32) (cnt' next' : Int32) (store' nm' stack' a' nd' : Nat → Int32) (values' : Nat → Int64) (truth' : Nat → Int32) (died' : Int32) (S' : Nat → Nat), f_X11_played N dn df dr row fe to cnt next store tx rul tcl tcd tst ten trw ucl ucd ust uen urw wcl wcd wst wen wrw xcl xcd xst xen xrw nm0 stack x = some (r, dn', df', dr', row', fe', to', cnt', next', store', nm', stack') ∧ f_X12_played N a vt nd0 values truth (nI 1) died x = some (r, a', nd', values', truth', died') ∧ RealmT (j + 24) dn' df' dr' row' fe' to' cnt' next' store' calls bord rep unl pay cl ul ga py pr tx rul a' S' ∧ S' 2 = S 2 := by
  have h0 := h
  obtain ⟨hA, hL, hR, hW, hF, hB, hZ, hQ, hI, hj⟩ := h
  obtain ⟨i1, i2, -, -⟩ := id hI
  rcases inOut x (S 2) (by omega) with hx | ⟨t, ht, rfl⟩
  · refine ⟨-nI 2, dn, df, dr, row, fe, to, cnt, next, store, nm0, stack, a, nd0, values, truth, died, S, ?_, ?_, h0.up (by omega), rfl⟩
    · rw [i1]
      rcases hx with g | ⟨g, g0⟩
      · simp only [f_X11_played, f_X11_textTold, li, g, ob1_s, ↓reduceIte]
      · simp only [f_X11_played, f_X11_textTold, li, g, g0, ob1_s, ↓reduceIte]
    · have e := isIn_out (N := N) hx (show S 2 < 2147483648 by omega)
      simp (disch := omega) only [f_X12_played, li, gA_n, hA.2, e, ob1_s, ↓reduceIte]
  · rcases (show t = 0 ∨ t = 1 ∨ t = 2 ∨ t = 3 by omega) with e | e | e | e <;> subst e
    · obtain ⟨c, hc, hcl, hvc, hK, -⟩ := hT.1 ht
      obtain ⟨r, dn2, df2, dr2, row2, fe2, to2, cnt2, next2, store2, nm2, stack2, a2, nd2, values2, truth2, died2, S2, q1, q2, q3, q4⟩ := kPlay0 (j2 := j + 24) hN hT hc hcl hvc hK (by omega) c N 0 j dn df dr row fe to cnt next store nm0 stack a nd0 truth values died S (by omega) (by omega) (by omega) rfl h0
      refine ⟨r, dn2, df2, dr2, row2, fe2, to2, cnt2, next2, store2, nm2, stack2, a2, nd2, values2, truth2, died2, S2, ?_, ?_, q3, q4⟩
      · rw [i1] at q1 ⊢
        simp (maxSteps := 1000000) (disch := omega) only [li, ob1_s, ob2_s, ob3_s, ob4_s, ob5_s, ob6_s, ob7_s, gA_n, gL_n, sA_n, sL_n, cpI_n, nI_add, pk_mul, nsub, nlt_t, nlt_f, nle_t, nle_f, neq_t, neq_f, rmI_n, dvI_n, upd_ne, upd_eq, un_ne, un_eq, Nat.add_zero, Bool.false_eq_true, ↓reduceIte, f_X11_played, f_X11_textTold]
        exact q1
      · simp (maxSteps := 1000000) (disch := omega) only [li, ob1_s, ob2_s, ob3_s, ob4_s, ob5_s, ob6_s, ob7_s, gA_n, gL_n, sA_n, sL_n, cpI_n, nI_add, pk_mul, nsub, nlt_t, nlt_f, nle_t, nle_f, neq_t, neq_f, rmI_n, dvI_n, upd_ne, upd_eq, un_ne, un_eq, Nat.add_zero, Bool.false_eq_true, ↓reduceIte, f_X12_played, hA.2, isIn_p]
        exact q2
    · obtain ⟨c, hc, hcl, hvc, hK, -⟩ := hT.2.1 ht
      obtain ⟨r, dn2, df2, dr2, row2, fe2, to2, cnt2, next2, store2, nm2, stack2, a2, nd2, values2, truth2, died2, S2, q1, q2, q3, q4⟩ := kPlay1 (j2 := j + 24) hN hT hc hcl hvc hK (by omega) c N 0 j dn df dr row fe to cnt next store nm0 stack a nd0 truth values died S (by omega) (by omega) (by omega) rfl h0
      refine ⟨r, dn2, df2, dr2, row2, fe2, to2, cnt2, next2, store2, nm2, stack2, a2, nd2, values2, truth2, died2, S2, ?_, ?_, q3, q4⟩
      · rw [i1] at q1 ⊢
        simp (maxSteps := 1000000) (disch := omega) only [li, ob1_s, ob2_s, ob3_s, ob4_s, ob5_s, ob6_s, ob7_s, gA_n, gL_n, sA_n, sL_n, cpI_n, nI_add, pk_mul, nsub, nlt_t, nlt_f, nle_t, nle_f, neq_t, neq_f, rmI_n, dvI_n, upd_ne, upd_eq, un_ne, un_eq, Nat.add_zero, Bool.false_eq_true, ↓reduceIte, f_X11_played, f_X11_textTold]
        exact q1
      · simp (maxSteps := 1000000) (disch := omega) only [li, ob1_s, ob2_s, ob3_s, ob4_s, ob5_s, ob6_s, ob7_s, gA_n, gL_n, sA_n, sL_n, cpI_n, nI_add, pk_mul, nsub, nlt_t, nlt_f, nle_t, nle_f, neq_t, neq_f, rmI_n, dvI_n, upd_ne, upd_eq, un_ne, un_eq, Nat.add_zero, Bool.false_eq_true, ↓reduceIte, f_X12_played, hA.2, isIn_p]
        exact q2
    · obtain ⟨c, hc, hcl, hvc, hK, -⟩ := hT.2.2.1 ht
      obtain ⟨r, dn2, df2, dr2, row2, fe2, to2, cnt2, next2, store2, nm2, stack2, a2, nd2, values2, truth2, died2, S2, q1, q2, q3, q4⟩ := kPlay2 (j2 := j + 24) hN hT hc hcl hvc hK (by omega) c N 0 j dn df dr row fe to cnt next store nm0 stack a nd0 truth values died S (by omega) (by omega) (by omega) rfl h0
      refine ⟨r, dn2, df2, dr2, row2, fe2, to2, cnt2, next2, store2, nm2, stack2, a2, nd2, values2, truth2, died2, S2, ?_, ?_, q3, q4⟩
      · rw [i1] at q1 ⊢
        simp (maxSteps := 1000000) (disch := omega) only [li, ob1_s, ob2_s, ob3_s, ob4_s, ob5_s, ob6_s, ob7_s, gA_n, gL_n, sA_n, sL_n, cpI_n, nI_add, pk_mul, nsub, nlt_t, nlt_f, nle_t, nle_f, neq_t, neq_f, rmI_n, dvI_n, upd_ne, upd_eq, un_ne, un_eq, Nat.add_zero, Bool.false_eq_true, ↓reduceIte, f_X11_played, f_X11_textTold]
        exact q1
      · simp (maxSteps := 1000000) (disch := omega) only [li, ob1_s, ob2_s, ob3_s, ob4_s, ob5_s, ob6_s, ob7_s, gA_n, gL_n, sA_n, sL_n, cpI_n, nI_add, pk_mul, nsub, nlt_t, nlt_f, nle_t, nle_f, neq_t, neq_f, rmI_n, dvI_n, upd_ne, upd_eq, un_ne, un_eq, Nat.add_zero, Bool.false_eq_true, ↓reduceIte, f_X12_played, hA.2, isIn_p]
        exact q2
    · obtain ⟨c, hc, hcl, hvc, hK, -⟩ := hT.2.2.2 ht
      obtain ⟨r, dn2, df2, dr2, row2, fe2, to2, cnt2, next2, store2, nm2, stack2, a2, nd2, values2, truth2, died2, S2, q1, q2, q3, q4⟩ := kPlay3 (j2 := j + 24) hN hT hc hcl hvc hK (by omega) c N 0 j dn df dr row fe to cnt next store nm0 stack a nd0 truth values died S (by omega) (by omega) (by omega) rfl h0
      refine ⟨r, dn2, df2, dr2, row2, fe2, to2, cnt2, next2, store2, nm2, stack2, a2, nd2, values2, truth2, died2, S2, ?_, ?_, q3, q4⟩
      · rw [i1] at q1 ⊢
        simp (maxSteps := 1000000) (disch := omega) only [li, ob1_s, ob2_s, ob3_s, ob4_s, ob5_s, ob6_s, ob7_s, gA_n, gL_n, sA_n, sL_n, cpI_n, nI_add, pk_mul, nsub, nlt_t, nlt_f, nle_t, nle_f, neq_t, neq_f, rmI_n, dvI_n, upd_ne, upd_eq, un_ne, un_eq, Nat.add_zero, Bool.false_eq_true, ↓reduceIte, f_X11_played, f_X11_textTold]
        exact q1
      · simp (maxSteps := 1000000) (disch := omega) only [li, ob1_s, ob2_s, ob3_s, ob4_s, ob5_s, ob6_s, ob7_s, gA_n, gL_n, sA_n, sL_n, cpI_n, nI_add, pk_mul, nsub, nlt_t, nlt_f, nle_t, nle_f, neq_t, neq_f, rmI_n, dvI_n, upd_ne, upd_eq, un_ne, un_eq, Nat.add_zero, Bool.false_eq_true, ↓reduceIte, f_X12_played, hA.2, isIn_p]
        exact q2
