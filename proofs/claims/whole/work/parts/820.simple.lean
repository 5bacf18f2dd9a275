theorem RealmT.later {j : Nat} {dn : Int32} {df dr row fe to : Nat → Int32} {cnt next : Int32} {store : Nat → Int32} {calls bord rep unl pay : Int32} {cl ul ga py pr : Nat → Int32} {tx rul : Int32} {a : Nat → Int32} {S : Nat → Nat} (h : RealmT j dn df dr row fe to cnt next store calls bord rep unl pay cl ul ga py pr tx rul a S) : RealmT (j + 1) dn df dr row fe to cnt next store calls bord rep unl pay cl ul ga py pr tx rul a S := by
  obtain ⟨hA, hL, hR, hW, hF, hB, hZ, hQ, hI, hj⟩ := h
  exact ⟨hA, hL, hR, hW, hF, hB, hZ, hQ, hI, by omega⟩
theorem st_land {j : Nat} {dn : Int32} {df dr row fe to : Nat → Int32} {cnt next : Int32} {store : Nat → Int32} {calls bord rep unl pay : Int32} {cl ul ga py pr : Nat → Int32} {tx rul : Int32} {a : Nat → Int32} {S : Nat → Nat} {N : Nat} (x : Int32) (h : RealmT j dn df dr row fe to cnt next store calls bord rep unl pay cl ul ga py pr tx rul a S) :
    ∃ (r dn' : Int32) (df' a' : Nat → Int32) (S' : Nat → Nat), f_X11_land N dn df x = some (r, dn', df') ∧ f_X12_land N a x = some (r, a') ∧ RealmT (j + 1) dn' df' dr row fe to cnt next store calls bord rep unl pay cl ul ga py pr tx rul a' S' ∧ S' 2 = S 2 ∧ Ans r := by
  have h0 := h
  obtain ⟨hA, hL, hR, hW, hF, hB, hZ, hQ, hI, hj⟩ := h
  obtain ⟨h1, h2, h3, h4, h5, h6⟩ := id hL
  subst h1
  rcases inOut x 10 (by omega) with hx | ⟨f, hf, rfl⟩
  · refine ⟨-1, nI (S 0), df, a, S, ?_, ?_, h0.later, rfl, Or.inl rfl⟩
    · rcases hx with h | ⟨h, h0⟩
      · simp only [f_X11_land, f_X2_tell, li, h, ↓reduceIte, ob3_s]
      · simp only [f_X11_land, f_X2_tell, li, h0, ge_lt (m := 9) (by omega) (by omega) h, ↓reduceIte, ob3_s]
    · simp only [f_X12_land, li, isIn_outT (m := 9) hx (by omega) (by omega), ob1_s, ↓reduceIte]
  · rcases Nat.lt_or_ge (S 0) 8 with h8 | h8
    · refine ⟨nI (S 0), nI (S 0 + 1), upd df (S 0) (nI f), upd (upd (upd a (80 + S 0) (nI f)) (88 + S 0) (nI 0)) 0 (nI (S 0 + 1)), un (un (un S (80 + S 0) f) (88 + S 0) 0) 0 (S 0 + 1), ?_, ?_, ?_, ?_, Or.inr ⟨S 0, by omega, rfl⟩⟩
      · simp (maxSteps := 1000000) (disch := omega) only [li, ob1_s, ob2_s, ob3_s, ob4_s, ob5_s, ob6_s, ob7_s, gA_n, gL_n, sA_n, sL_n, cpI_n, nI_add, pk_mul, nsub, nlt_t, nlt_f, nle_t, nle_f, neq_t, neq_f, rmI_n, dvI_n, upd_ne, upd_eq, un_ne, un_eq, Nat.add_zero, Bool.false_eq_true, ↓reduceIte, f_X11_land, f_X2_tell]
        simp
      · simp (maxSteps := 1000000) (disch := omega) only [li, ob1_s, ob2_s, ob3_s, ob4_s, ob5_s, ob6_s, ob7_s, gA_n, gL_n, sA_n, sL_n, cpI_n, nI_add, pk_mul, nsub, nlt_t, nlt_f, nle_t, nle_f, neq_t, neq_f, rmI_n, dvI_n, upd_ne, upd_eq, un_ne, un_eq, Nat.add_zero, Bool.false_eq_true, ↓reduceIte, f_X12_land, isIn_in, hA.2]
        simp
      · have u0 : un (un (un S (80 + S 0) f) (88 + S 0) 0) 0 (S 0 + 1) 0 = S 0 + 1 := un_eq rfl
        have e0 : S 0 ≤ un (un (un S (80 + S 0) f) (88 + S 0) 0) 0 (S 0 + 1) 0 := by omega
        have e1 : S 1 ≤ un (un (un S (80 + S 0) f) (88 + S 0) 0) 0 (S 0 + 1) 1 := by simp (disch := omega) only [un_ne]; omega
        refine ⟨((hA.up (by omega)).up (by omega)).up (by omega), ⟨by rw [u0], by omega, fun k hk => ?_, fun k hk => ?_, fun k hk hk8 => h5 k (by omega) hk8, fun i k hi hk => ?_⟩, hR.cg (fun i hi => by simp (disch := omega) only [un_ne]) hW.1, hW.cg (fun i hi => by simp (disch := omega) only [un_ne]) e0, hF.cg (fun i hi => by simp (disch := omega) only [un_ne]) e0 hW.1, ?_, hZ.cg (fun i hi => by simp (disch := omega) only [un_ne]) e0 e1 hW.1, hQ.cg (fun i hi => by simp (disch := omega) only [un_ne]) e0 e1, hI.cg (fun i hi => by simp (disch := omega) only [un_ne]), ?_⟩
        · by_cases e : k = S 0
          · subst e
            simp (maxSteps := 1000000) (disch := omega) only [li, ob1_s, ob2_s, ob3_s, ob4_s, ob5_s, ob6_s, ob7_s, gA_n, gL_n, sA_n, sL_n, cpI_n, nI_add, pk_mul, nsub, nlt_t, nlt_f, nle_t, nle_f, neq_t, neq_f, rmI_n, dvI_n, upd_ne, upd_eq, un_ne, un_eq, Nat.add_zero, Bool.false_eq_true, ↓reduceIte]
            exact ⟨trivial, by omega⟩
          · simp (maxSteps := 1000000) (disch := omega) only [li, ob1_s, ob2_s, ob3_s, ob4_s, ob5_s, ob6_s, ob7_s, gA_n, gL_n, sA_n, sL_n, cpI_n, nI_add, pk_mul, nsub, nlt_t, nlt_f, nle_t, nle_f, neq_t, neq_f, rmI_n, dvI_n, upd_ne, upd_eq, un_ne, un_eq, Nat.add_zero, Bool.false_eq_true, ↓reduceIte]
            exact h3 k (by omega)
        · rw [u0]
          have e2 : 2 ^ (S 0 + 1) = 2 * 2 ^ S 0 := by rw [Nat.pow_succ, Nat.mul_comm]
          by_cases e : k = S 0
          · subst e
            simp (maxSteps := 1000000) (disch := omega) only [li, ob1_s, ob2_s, ob3_s, ob4_s, ob5_s, ob6_s, ob7_s, gA_n, gL_n, sA_n, sL_n, cpI_n, nI_add, pk_mul, nsub, nlt_t, nlt_f, nle_t, nle_f, neq_t, neq_f, rmI_n, dvI_n, upd_ne, upd_eq, un_ne, un_eq, Nat.add_zero, Bool.false_eq_true, ↓reduceIte]
            exact ⟨h5 _ (by omega) h8, by have := Nat.two_pow_pos (S 0); omega⟩
          · simp (maxSteps := 1000000) (disch := omega) only [li, ob1_s, ob2_s, ob3_s, ob4_s, ob5_s, ob6_s, ob7_s, gA_n, gL_n, sA_n, sL_n, cpI_n, nI_add, pk_mul, nsub, nlt_t, nlt_f, nle_t, nle_f, neq_t, neq_f, rmI_n, dvI_n, upd_ne, upd_eq, un_ne, un_eq, Nat.add_zero, Bool.false_eq_true, ↓reduceIte]
            have := h4 k (by omega)
            exact ⟨this.1, by omega⟩
        · rw [u0] at hi hk
          by_cases ei : i = S 0 <;> by_cases ek : k = S 0
          · rw [ei, ek]
          · have hz := bitlt (i := S 0) (h4 k (by omega)).2 (Nat.le_refl _)
            subst ei
            simp (maxSteps := 1000000) (disch := omega) only [li, ob1_s, ob2_s, ob3_s, ob4_s, ob5_s, ob6_s, ob7_s, gA_n, gL_n, sA_n, sL_n, cpI_n, nI_add, pk_mul, nsub, nlt_t, nlt_f, nle_t, nle_f, neq_t, neq_f, rmI_n, dvI_n, upd_ne, upd_eq, un_ne, un_eq, Nat.add_zero, Bool.false_eq_true, ↓reduceIte, Nat.zero_testBit, hz]
          · have hz := bitlt (i := S 0) (h4 i (by omega)).2 (Nat.le_refl _)
            subst ek
            simp (maxSteps := 1000000) (disch := omega) only [li, ob1_s, ob2_s, ob3_s, ob4_s, ob5_s, ob6_s, ob7_s, gA_n, gL_n, sA_n, sL_n, cpI_n, nI_add, pk_mul, nsub, nlt_t, nlt_f, nle_t, nle_f, neq_t, neq_f, rmI_n, dvI_n, upd_ne, upd_eq, un_ne, un_eq, Nat.add_zero, Bool.false_eq_true, ↓reduceIte, Nat.zero_testBit, hz]
          · simp (maxSteps := 1000000) (disch := omega) only [li, ob1_s, ob2_s, ob3_s, ob4_s, ob5_s, ob6_s, ob7_s, gA_n, gL_n, sA_n, sL_n, cpI_n, nI_add, pk_mul, nsub, nlt_t, nlt_f, nle_t, nle_f, neq_t, neq_f, rmI_n, dvI_n, upd_ne, upd_eq, un_ne, un_eq, Nat.add_zero, Bool.false_eq_true, ↓reduceIte]
            exact h6 i k (by omega) (by omega)
        · simp (disch := omega) only [un_ne]
          exact hB.cg (fun i hi => by simp (disch := omega) only [un_ne])
        · simp (disch := omega) only [un_ne]
          omega
      · simp (disch := omega) only [un_ne]
    · have h8 : S 0 = 8 := by omega
      refine ⟨-1, nI (S 0), df, a, S, ?_, ?_, h0.later, rfl, Or.inl rfl⟩
      · simp (maxSteps := 1000000) (disch := omega) only [li, ob1_s, ob2_s, ob3_s, ob4_s, ob5_s, ob6_s, ob7_s, gA_n, gL_n, sA_n, sL_n, cpI_n, nI_add, pk_mul, nsub, nlt_t, nlt_f, nle_t, nle_f, neq_t, neq_f, rmI_n, dvI_n, upd_ne, upd_eq, un_ne, un_eq, Nat.add_zero, Bool.false_eq_true, ↓reduceIte, f_X11_land, f_X2_tell]
      · simp (maxSteps := 1000000) (disch := omega) only [li, ob1_s, ob2_s, ob3_s, ob4_s, ob5_s, ob6_s, ob7_s, gA_n, gL_n, sA_n, sL_n, cpI_n, nI_add, pk_mul, nsub, nlt_t, nlt_f, nle_t, nle_f, neq_t, neq_f, rmI_n, dvI_n, upd_ne, upd_eq, un_ne, un_eq, Nat.add_zero, Bool.false_eq_true, ↓reduceIte, f_X12_land, isIn_in, hA.2]
theorem st_borders {j : Nat} {dn : Int32} {df dr row fe to : Nat → Int32} {cnt next : Int32} {store : Nat → Int32} {calls bord rep unl pay : Int32} {cl ul ga py pr : Nat → Int32} {tx rul : Int32} {a : Nat → Int32} {S : Nat → Nat} {N : Nat} (x : Int32) (h : RealmT j dn df dr row fe to cnt next store calls bord rep unl pay cl ul ga py pr tx rul a S) :
    ∃ (r bord' : Int32) (a' : Nat → Int32) (S' : Nat → Nat), f_X11_borders N bord x = some (r, bord') ∧ f_X12_borders N a x = some (r, a') ∧ RealmT (j + 1) dn df dr row fe to cnt next store calls bord' rep unl pay cl ul ga py pr tx rul a' S' ∧ S' 2 = S 2 := by
  have h0 := h
  obtain ⟨hA, hL, hR, hW, hF, hB, hZ, hQ, hI, hj⟩ := h
  rcases inOut x 256 (by omega) with hx | ⟨f, hf, rfl⟩
  · refine ⟨0, bord, a, S, ?_, ?_, h0.later, rfl⟩
    · rcases hx with h | ⟨h, h1⟩
      · simp only [f_X11_borders, li, h, ↓reduceIte]
      · simp only [f_X11_borders, li, h1, ge_nlt (n := 256) (m := 256) (by omega) (by omega) h, ↓reduceIte]
    · simp only [f_X12_borders, li, isIn_outT (m := 255) hx (by omega) (by omega), ob1_s, ↓reduceIte]
  · refine ⟨1, nI f, upd a 9 (nI f), un S 9 f, ?_, ?_, ?_⟩
    · simp (maxSteps := 1000000) (disch := omega) only [li, ob1_s, ob2_s, ob3_s, ob4_s, ob5_s, ob6_s, ob7_s, gA_n, gL_n, sA_n, sL_n, cpI_n, nI_add, pk_mul, nsub, nlt_t, nlt_f, nle_t, nle_f, neq_t, neq_f, rmI_n, dvI_n, upd_ne, upd_eq, un_ne, un_eq, Nat.add_zero, Bool.false_eq_true, ↓reduceIte, f_X11_borders]
    · simp (maxSteps := 1000000) (disch := omega) only [li, ob1_s, ob2_s, ob3_s, ob4_s, ob5_s, ob6_s, ob7_s, gA_n, gL_n, sA_n, sL_n, cpI_n, nI_add, pk_mul, nsub, nlt_t, nlt_f, nle_t, nle_f, neq_t, neq_f, rmI_n, dvI_n, upd_ne, upd_eq, un_ne, un_eq, Nat.add_zero, Bool.false_eq_true, ↓reduceIte, f_X12_borders, isIn_in]
    · obtain ⟨n1, n2, n3, n4, n5⟩ := hQ
      refine h0.notes (hA.up (by omega)) (fun i hi => by simp (disch := omega) only [un_ne]) ⟨n1.cg (fun i hi => by simp (disch := omega) only [un_ne]) (by simp (disch := omega) only [un_ne]; omega), ⟨by rw [un_eq rfl], by rw [un_eq rfl]; exact hf⟩, n3.cg (fun i hi => by simp (disch := omega) only [un_ne]), n4.cg (fun i hi => by simp (disch := omega) only [un_ne]), n5.cg (fun i hi => by simp (disch := omega) only [un_ne]) (by simp (disch := omega) only [un_ne]; omega)⟩
theorem st_crowd {j : Nat} {dn : Int32} {df dr row fe to : Nat → Int32} {cnt next : Int32} {store : Nat → Int32} {calls bord rep unl pay : Int32} {cl ul ga py pr : Nat → Int32} {tx rul : Int32} {a : Nat → Int32} {S : Nat → Nat} {N : Nat} (x : Int32) (h : RealmT j dn df dr row fe to cnt next store calls bord rep unl pay cl ul ga py pr tx rul a S) :
    ∃ (r calls' : Int32) (cl' a' : Nat → Int32) (S' : Nat → Nat), f_X11_crowd N dn calls cl x = some (r, calls', cl') ∧ f_X12_crowd N a x = some (r, a') ∧ RealmT (j + 1) dn df dr row fe to cnt next store calls' bord rep unl pay cl' ul ga py pr tx rul a' S' ∧ S' 2 = S 2 := by
  have h0 := h
  obtain ⟨hA, hL, hR, hW, hF, hB, hZ, hQ, hI, hj⟩ := h
  obtain ⟨n1, n2, n3, n4, n5⟩ := hQ
  obtain ⟨c1, c2, c3⟩ := id n1
  by_cases hx : x = -nI 1
  · subst hx
    refine ⟨0, 0, cl, upd a 5 (nI 0), un S 5 0, ?_, ?_, ?_⟩
    · simp only [f_X11_crowd, f_X4_forgetCalls, li, ob1_s, ↓reduceIte]
    · simp (disch := omega) only [f_X12_crowd, li, sA_n, ↓reduceIte]
    · refine h0.notes (hA.up (by omega)) (fun i hi => by simp (disch := omega) only [un_ne]) ⟨⟨by rw [un_eq rfl]; rfl, by rw [un_eq rfl]; omega, fun k hk => ?_⟩, n2.cg (fun i hi => by simp (disch := omega) only [un_ne]), n3.cg (fun i hi => by simp (disch := omega) only [un_ne]), n4.cg (fun i hi => by simp (disch := omega) only [un_ne]), n5.cg (fun i hi => by simp (disch := omega) only [un_ne]) (by simp (disch := omega) only [un_ne]; omega)⟩
      rw [un_eq rfl] at hk; omega
  · obtain ⟨l1, l2, -⟩ := id hL
    subst l1
    rcases inOut x (S 0) (by omega) with ho | ⟨k, hk, rfl⟩
    · refine ⟨-2, calls, cl, a, S, ?_, ?_, h0.later, rfl⟩
      · simp only [f_X11_crowd, hx, cLand_out l2 ho, li, ob1_s, ↓reduceIte]
      · simp only [f_X12_crowd, hx, rLand_out hA l2 ho, li, ob1_s, ↓reduceIte]
    · subst c1
      rcases Nat.lt_or_ge (S 5) 5 with h5 | h5
      · refine ⟨nI (S 5 + 1), nI (S 5 + 1), upd cl (S 5) (nI k), upd (upd a (96 + S 5) (nI k)) 5 (nI (S 5 + 1)), un (un S (96 + S 5) k) 5 (S 5 + 1), ?_, ?_, ?_⟩
        · simp (maxSteps := 1000000) (disch := omega) only [li, ob1_s, ob2_s, ob3_s, ob4_s, ob5_s, ob6_s, ob7_s, gA_n, gL_n, sA_n, sL_n, cpI_n, nI_add, pk_mul, nsub, nlt_t, nlt_f, nle_t, nle_f, neq_t, neq_f, rmI_n, dvI_n, upd_ne, upd_eq, un_ne, un_eq, Nat.add_zero, Bool.false_eq_true, ↓reduceIte, f_X11_crowd, hx, cLand_in, f_X4_noteCall]
        · simp (maxSteps := 1000000) (disch := omega) only [li, ob1_s, ob2_s, ob3_s, ob4_s, ob5_s, ob6_s, ob7_s, gA_n, gL_n, sA_n, sL_n, cpI_n, nI_add, pk_mul, nsub, nlt_t, nlt_f, nle_t, nle_f, neq_t, neq_f, rmI_n, dvI_n, upd_ne, upd_eq, un_ne, un_eq, Nat.add_zero, Bool.false_eq_true, ↓reduceIte, f_X12_crowd, hx, rLand_in hA l2, hA.2]
        · refine h0.notes ((hA.up (by omega)).up (by omega)) (fun i hi => by simp (disch := omega) only [un_ne]) ⟨⟨by rw [un_eq rfl], by rw [un_eq rfl]; omega, fun q hq => ?_⟩, n2.cg (fun i hi => by simp (disch := omega) only [un_ne]), n3.cg (fun i hi => by simp (disch := omega) only [un_ne]), n4.cg (fun i hi => by simp (disch := omega) only [un_ne]), n5.cg (fun i hi => by simp (disch := omega) only [un_ne]) (by simp (disch := omega) only [un_ne]; omega)⟩
          rw [un_eq rfl] at hq
          by_cases e : q = S 5
          · subst e
            simp (maxSteps := 1000000) (disch := omega) only [li, ob1_s, ob2_s, ob3_s, ob4_s, ob5_s, ob6_s, ob7_s, gA_n, gL_n, sA_n, sL_n, cpI_n, nI_add, pk_mul, nsub, nlt_t, nlt_f, nle_t, nle_f, neq_t, neq_f, rmI_n, dvI_n, upd_ne, upd_eq, un_ne, un_eq, Nat.add_zero, Bool.false_eq_true, ↓reduceIte]
            exact ⟨trivial, hk⟩
          · simp (maxSteps := 1000000) (disch := omega) only [li, ob1_s, ob2_s, ob3_s, ob4_s, ob5_s, ob6_s, ob7_s, gA_n, gL_n, sA_n, sL_n, cpI_n, nI_add, pk_mul, nsub, nlt_t, nlt_f, nle_t, nle_f, neq_t, neq_f, rmI_n, dvI_n, upd_ne, upd_eq, un_ne, un_eq, Nat.add_zero, Bool.false_eq_true, ↓reduceIte]
            exact c3 q (by omega)
      · have h5 : S 5 = 5 := by omega
        refine ⟨-2, nI (S 5), cl, a, S, ?_, ?_, h0.later, rfl⟩
        · simp (maxSteps := 1000000) (disch := omega) only [li, ob1_s, ob2_s, ob3_s, ob4_s, ob5_s, ob6_s, ob7_s, gA_n, gL_n, sA_n, sL_n, cpI_n, nI_add, pk_mul, nsub, nlt_t, nlt_f, nle_t, nle_f, neq_t, neq_f, rmI_n, dvI_n, upd_ne, upd_eq, un_ne, un_eq, Nat.add_zero, Bool.false_eq_true, ↓reduceIte, f_X11_crowd, hx, cLand_in, f_X4_noteCall]
        · simp (maxSteps := 1000000) (disch := omega) only [li, ob1_s, ob2_s, ob3_s, ob4_s, ob5_s, ob6_s, ob7_s, gA_n, gL_n, sA_n, sL_n, cpI_n, nI_add, pk_mul, nsub, nlt_t, nlt_f, nle_t, nle_f, neq_t, neq_f, rmI_n, dvI_n, upd_ne, upd_eq, un_ne, un_eq, Nat.add_zero, Bool.false_eq_true, ↓reduceIte, f_X12_crowd, hx, rLand_in hA l2, hA.2]
theorem st_has {j : Nat} {dn : Int32} {df dr row fe to : Nat → Int32} {cnt next : Int32} {store : Nat → Int32} {calls bord rep unl pay : Int32} {cl ul ga py pr : Nat → Int32} {tx rul : Int32} {a : Nat → Int32} {S : Nat → Nat} {N : Nat} (s x y z : Int32) (h : RealmT j dn df dr row fe to cnt next store calls bord rep unl pay cl ul ga py pr tx rul a S) :
    ∃ (r : Int32) (ga' a' : Nat → Int32) (S' : Nat → Nat), f_X11_has N ga s x y z = some (r, ga') ∧ f_X12_has N a s x y z = some (r, a') ∧ RealmT (j + 1) dn df dr row fe to cnt next store calls bord rep unl pay cl ul ga' py pr tx rul a' S' ∧ S' 2 = S 2 := by
  have h0 := h
  obtain ⟨hA, hL, hR, hW, hF, hB, hZ, hQ, hI, hj⟩ := h
  obtain ⟨n1, n2, n3, n4, n5⟩ := hQ
  rcases inOut x 2 (by omega) with hx | ⟨x, hx, rfl⟩
  · refine ⟨0, ga, a, S, ?_, ?_, h0.later, rfl⟩
    · rcases hx with h | ⟨h, h1⟩
      · simp only [f_X11_has, li, h, ↓reduceIte]
      · simp only [f_X11_has, li, h1, ge_lt (n := 2) (m := 1) (by omega) (by omega) h, ↓reduceIte]
    · simp only [f_X12_has, li, isIn_outT (m := 1) hx (by omega) (by omega), ob1_s, ↓reduceIte]
  rcases inOut y 2 (by omega) with hy | ⟨y, hy, rfl⟩
  · refine ⟨0, ga, a, S, ?_, ?_, h0.later, rfl⟩
    · rcases hy with h | ⟨h, h1⟩
      · simp (maxSteps := 1000000) (disch := omega) only [li, ob1_s, ob2_s, ob3_s, ob4_s, ob5_s, ob6_s, ob7_s, gA_n, gL_n, sA_n, sL_n, cpI_n, nI_add, pk_mul, nsub, nlt_t, nlt_f, nle_t, nle_f, neq_t, neq_f, rmI_n, dvI_n, upd_ne, upd_eq, un_ne, un_eq, Nat.add_zero, Bool.false_eq_true, ↓reduceIte, f_X11_has, h]
      · simp (maxSteps := 1000000) (disch := omega) only [li, ob1_s, ob2_s, ob3_s, ob4_s, ob5_s, ob6_s, ob7_s, gA_n, gL_n, sA_n, sL_n, cpI_n, nI_add, pk_mul, nsub, nlt_t, nlt_f, nle_t, nle_f, neq_t, neq_f, rmI_n, dvI_n, upd_ne, upd_eq, un_ne, un_eq, Nat.add_zero, Bool.false_eq_true, ↓reduceIte, f_X11_has, h1, ge_nle (n := 2) (m := 1) (by omega) (by omega) h]
    · simp (maxSteps := 1000000) (disch := omega) only [li, ob1_s, ob2_s, ob3_s, ob4_s, ob5_s, ob6_s, ob7_s, gA_n, gL_n, sA_n, sL_n, cpI_n, nI_add, pk_mul, nsub, nlt_t, nlt_f, nle_t, nle_f, neq_t, neq_f, rmI_n, dvI_n, upd_ne, upd_eq, un_ne, un_eq, Nat.add_zero, Bool.false_eq_true, ↓reduceIte, f_X12_has, isIn_in, isIn_outT (m := 1) hy (by omega) (by omega)]
  rcases inOut z 100 (by omega) with hz | ⟨z, hz, rfl⟩
  · refine ⟨0, ga, a, S, ?_, ?_, h0.later, rfl⟩
    · rcases hz with h | ⟨h, h1⟩
      · simp (maxSteps := 1000000) (disch := omega) only [li, ob1_s, ob2_s, ob3_s, ob4_s, ob5_s, ob6_s, ob7_s, gA_n, gL_n, sA_n, sL_n, cpI_n, nI_add, pk_mul, nsub, nlt_t, nlt_f, nle_t, nle_f, neq_t, neq_f, rmI_n, dvI_n, upd_ne, upd_eq, un_ne, un_eq, Nat.add_zero, Bool.false_eq_true, ↓reduceIte, f_X11_has, f_X4_tellGain, h]
      · simp (maxSteps := 1000000) (disch := omega) only [li, ob1_s, ob2_s, ob3_s, ob4_s, ob5_s, ob6_s, ob7_s, gA_n, gL_n, sA_n, sL_n, cpI_n, nI_add, pk_mul, nsub, nlt_t, nlt_f, nle_t, nle_f, neq_t, neq_f, rmI_n, dvI_n, upd_ne, upd_eq, un_ne, un_eq, Nat.add_zero, Bool.false_eq_true, ↓reduceIte, f_X11_has, f_X4_tellGain, h1, ge_nle (n := 100) (m := 99) (by omega) (by omega) h]
    · simp (maxSteps := 1000000) (disch := omega) only [li, ob1_s, ob2_s, ob3_s, ob4_s, ob5_s, ob6_s, ob7_s, gA_n, gL_n, sA_n, sL_n, cpI_n, nI_add, pk_mul, nsub, nlt_t, nlt_f, nle_t, nle_f, neq_t, neq_f, rmI_n, dvI_n, upd_ne, upd_eq, un_ne, un_eq, Nat.add_zero, Bool.false_eq_true, ↓reduceIte, f_X12_has, isIn_in, isIn_outT (m := 99) hz (by omega) (by omega)]
  have key : ∀ b, b ≤ 4 → ∃ (ga' a' : Nat → Int32) (S' : Nat → Nat), f_X4_tellGain_27 N ga (nI x) (nI y) (nI z) (nI b) = some (nI 1, ga') ∧ f_X12_has_46 N a (nI x) (nI y) (nI z) (nI 117) (nI b) = some (nI 1, a') ∧ RealmT (j + 1) dn df dr row fe to cnt next store calls bord rep unl pay cl ul ga' py pr tx rul a' S' ∧ S' 2 = S 2 := by
    intro b hb
    have ex : x &&& 1 = x := by rw [Nat.and_one_is_mod]; omega
    have ey : y &&& 1 = y := by rw [Nat.and_one_is_mod]; omega
    refine ⟨upd ga (b + 2 * x + y) (nI z), upd a (117 + (b + 2 * x + y)) (nI z), un S (117 + (b + 2 * x + y)) z, ?_, ?_, ?_⟩
    · simp (maxSteps := 1000000) (disch := omega) only [li, ob1_s, ob2_s, ob3_s, ob4_s, ob5_s, ob6_s, ob7_s, gA_n, gL_n, sA_n, sL_n, cpI_n, nI_add, pk_mul, nsub, nlt_t, nlt_f, nle_t, nle_f, neq_t, neq_f, rmI_n, dvI_n, upd_ne, upd_eq, un_ne, un_eq, Nat.add_zero, Bool.false_eq_true, ↓reduceIte, f_X4_tellGain_27, nand, ex, ey]
      rw [show b + x * 2 + y = b + 2 * x + y by omega]
    · simp (maxSteps := 1000000) (disch := omega) only [li, ob1_s, ob2_s, ob3_s, ob4_s, ob5_s, ob6_s, ob7_s, gA_n, gL_n, sA_n, sL_n, cpI_n, nI_add, pk_mul, nsub, nlt_t, nlt_f, nle_t, nle_f, neq_t, neq_f, rmI_n, dvI_n, upd_ne, upd_eq, un_ne, un_eq, Nat.add_zero, Bool.false_eq_true, ↓reduceIte, f_X12_has_46]
      rw [show 117 + b + 2 * x + y = 117 + (b + 2 * x + y) by omega]
    · refine h0.notes (hA.up (by omega)) (fun i hi => by simp (disch := omega) only [un_ne]) ⟨n1.cg (fun i hi => by simp (disch := omega) only [un_ne]) (by simp (disch := omega) only [un_ne]; omega), n2.cg (fun i hi => by simp (disch := omega) only [un_ne]), n3.cg (fun i hi => by simp (disch := omega) only [un_ne]), fun k hk => ?_, n5.cg (fun i hi => by simp (disch := omega) only [un_ne]) (by simp (disch := omega) only [un_ne]; omega)⟩
      by_cases e : k = b + 2 * x + y
      · subst e
        simp (maxSteps := 1000000) (disch := omega) only [li, ob1_s, ob2_s, ob3_s, ob4_s, ob5_s, ob6_s, ob7_s, gA_n, gL_n, sA_n, sL_n, cpI_n, nI_add, pk_mul, nsub, nlt_t, nlt_f, nle_t, nle_f, neq_t, neq_f, rmI_n, dvI_n, upd_ne, upd_eq, un_ne, un_eq, Nat.add_zero, Bool.false_eq_true, ↓reduceIte]
        exact ⟨trivial, by omega⟩
      · simp (maxSteps := 1000000) (disch := omega) only [li, ob1_s, ob2_s, ob3_s, ob4_s, ob5_s, ob6_s, ob7_s, gA_n, gL_n, sA_n, sL_n, cpI_n, nI_add, pk_mul, nsub, nlt_t, nlt_f, nle_t, nle_f, neq_t, neq_f, rmI_n, dvI_n, upd_ne, upd_eq, un_ne, un_eq, Nat.add_zero, Bool.false_eq_true, ↓reduceIte]
        exact n4 k hk
  by_cases hs : s = nI 0
  · obtain ⟨ga', a', S', g1, g2, g3⟩ := key 0 (by omega)
    refine ⟨nI 1, ga', a', S', ?_, ?_, g3⟩
    · simp (maxSteps := 1000000) (disch := omega) only [li, ob1_s, ob2_s, ob3_s, ob4_s, ob5_s, ob6_s, ob7_s, gA_n, gL_n, sA_n, sL_n, cpI_n, nI_add, pk_mul, nsub, nlt_t, nlt_f, nle_t, nle_f, neq_t, neq_f, rmI_n, dvI_n, upd_ne, upd_eq, un_ne, un_eq, Nat.add_zero, Bool.false_eq_true, ↓reduceIte, f_X11_has, f_X4_tellGain, hs, g1]
    · simp (maxSteps := 1000000) (disch := omega) only [li, ob1_s, ob2_s, ob3_s, ob4_s, ob5_s, ob6_s, ob7_s, gA_n, gL_n, sA_n, sL_n, cpI_n, nI_add, pk_mul, nsub, nlt_t, nlt_f, nle_t, nle_f, neq_t, neq_f, rmI_n, dvI_n, upd_ne, upd_eq, un_ne, un_eq, Nat.add_zero, Bool.false_eq_true, ↓reduceIte, f_X12_has, isIn_in, hs, g2]
  · obtain ⟨ga', a', S', g1, g2, g3⟩ := key 4 (by omega)
    refine ⟨nI 1, ga', a', S', ?_, ?_, g3⟩
    · simp (maxSteps := 1000000) (disch := omega) only [li, ob1_s, ob2_s, ob3_s, ob4_s, ob5_s, ob6_s, ob7_s, gA_n, gL_n, sA_n, sL_n, cpI_n, nI_add, pk_mul, nsub, nlt_t, nlt_f, nle_t, nle_f, neq_t, neq_f, rmI_n, dvI_n, upd_ne, upd_eq, un_ne, un_eq, Nat.add_zero, Bool.false_eq_true, ↓reduceIte, f_X11_has, f_X4_tellGain, hs, g1]
    · simp (maxSteps := 1000000) (disch := omega) only [li, ob1_s, ob2_s, ob3_s, ob4_s, ob5_s, ob6_s, ob7_s, gA_n, gL_n, sA_n, sL_n, cpI_n, nI_add, pk_mul, nsub, nlt_t, nlt_f, nle_t, nle_f, neq_t, neq_f, rmI_n, dvI_n, upd_ne, upd_eq, un_ne, un_eq, Nat.add_zero, Bool.false_eq_true, ↓reduceIte, f_X12_has, isIn_in, hs, g2]
theorem st_paid {j : Nat} {dn : Int32} {df dr row fe to : Nat → Int32} {cnt next : Int32} {store : Nat → Int32} {calls bord rep unl pay : Int32} {cl ul ga py pr : Nat → Int32} {tx rul : Int32} {a : Nat → Int32} {S : Nat → Nat} {N : Nat} (x y : Int32) (h : RealmT j dn df dr row fe to cnt next store calls bord rep unl pay cl ul ga py pr tx rul a S) :
    ∃ (r pay' : Int32) (py' pr' a' : Nat → Int32) (S' : Nat → Nat), f_X11_paid N row pay py pr x y = some (r, pay', py', pr') ∧ f_X12_paid N a x y = some (r, a') ∧ RealmT (j + 1) dn df dr row fe to cnt next store calls bord rep unl pay' cl ul ga py' pr' tx rul a' S' ∧ S' 2 = S 2 := by
  have h0 := h
  obtain ⟨hA, hL, hR, hW, hF, hB, hZ, hQ, hI, hj⟩ := h
  obtain ⟨n1, n2, n3, n4, n5⟩ := hQ
  obtain ⟨c1, c2, c3⟩ := id n5
  have h6 := hW.1
  by_cases hx : x = -nI 1
  · subst hx
    refine ⟨0, 0, py, pr, upd a 8 (nI 0), un S 8 0, ?_, ?_, ?_⟩
    · simp only [f_X11_paid, f_X4_forgetPaid, li, ob1_s, ↓reduceIte]
    · simp (disch := omega) only [f_X12_paid, li, sA_n, ↓reduceIte]
    · refine h0.notes (hA.up (by omega)) (fun i hi => by simp (disch := omega) only [un_ne]) ⟨n1.cg (fun i hi => by simp (disch := omega) only [un_ne]) (by simp (disch := omega) only [un_ne]; omega), n2.cg (fun i hi => by simp (disch := omega) only [un_ne]), n3.cg (fun i hi => by simp (disch := omega) only [un_ne]), n4.cg (fun i hi => by simp (disch := omega) only [un_ne]), ⟨by rw [un_eq rfl]; rfl, by rw [un_eq rfl]; omega, fun k hk => ?_⟩⟩
      rw [un_eq rfl] at hk; omega
  · rcases inOut x (S 1) (by omega) with ho | ⟨k, hk, rfl⟩
    · refine ⟨-2, pay, py, pr, a, S, ?_, ?_, h0.later, rfl⟩
      · simp only [f_X11_paid, hx, cPers_out hR ho, li, ob1_s, ↓reduceIte]
      · simp only [f_X12_paid, hx, rPers_out hA h6 ho, li, ob1_s, ↓reduceIte]
    rcases inOut y 10000 (by omega) with hy | ⟨y, hy, rfl⟩
    · refine ⟨-2, pay, py, pr, a, S, ?_, ?_, h0.later, rfl⟩
      · rcases hy with h | ⟨h, h1⟩
        · simp (maxSteps := 1000000) (disch := omega) only [li, ob1_s, ob2_s, ob3_s, ob4_s, ob5_s, ob6_s, ob7_s, gA_n, gL_n, sA_n, sL_n, cpI_n, nI_add, pk_mul, nsub, nlt_t, nlt_f, nle_t, nle_f, neq_t, neq_f, rmI_n, dvI_n, upd_ne, upd_eq, un_ne, un_eq, Nat.add_zero, Bool.false_eq_true, ↓reduceIte, f_X11_paid, hx, cPers_in hR h6, h]
        · simp (maxSteps := 1000000) (disch := omega) only [li, ob1_s, ob2_s, ob3_s, ob4_s, ob5_s, ob6_s, ob7_s, gA_n, gL_n, sA_n, sL_n, cpI_n, nI_add, pk_mul, nsub, nlt_t, nlt_f, nle_t, nle_f, neq_t, neq_f, rmI_n, dvI_n, upd_ne, upd_eq, un_ne, un_eq, Nat.add_zero, Bool.false_eq_true, ↓reduceIte, f_X11_paid, hx, cPers_in hR h6, h1, ge_nle (n := 10000) (m := 9999) (by omega) (by omega) h]
      · simp (maxSteps := 1000000) (disch := omega) only [li, ob1_s, ob2_s, ob3_s, ob4_s, ob5_s, ob6_s, ob7_s, gA_n, gL_n, sA_n, sL_n, cpI_n, nI_add, pk_mul, nsub, nlt_t, nlt_f, nle_t, nle_f, neq_t, neq_f, rmI_n, dvI_n, upd_ne, upd_eq, un_ne, un_eq, Nat.add_zero, Bool.false_eq_true, ↓reduceIte, f_X12_paid, hx, rPers_in hA h6, isIn_outT (m := 9999) hy (by omega) (by omega)]
    subst c1
    rcases Nat.lt_or_ge (S 8) 8 with h8 | h8
    · refine ⟨nI (S 8 + 1), nI (S 8 + 1), upd py (S 8) (nI k), upd pr (S 8) (nI y), upd (upd (upd a (125 + 2 * S 8) (nI k)) (126 + 2 * S 8) (nI y)) 8 (nI (S 8 + 1)), un (un (un S (125 + 2 * S 8) k) (126 + 2 * S 8) y) 8 (S 8 + 1), ?_, ?_, ?_⟩
      · simp (maxSteps := 1000000) (disch := omega) only [li, ob1_s, ob2_s, ob3_s, ob4_s, ob5_s, ob6_s, ob7_s, gA_n, gL_n, sA_n, sL_n, cpI_n, nI_add, pk_mul, nsub, nlt_t, nlt_f, nle_t, nle_f, neq_t, neq_f, rmI_n, dvI_n, upd_ne, upd_eq, un_ne, un_eq, Nat.add_zero, Bool.false_eq_true, ↓reduceIte, f_X11_paid, hx, cPers_in hR h6, f_X4_notePaid]
      · simp (maxSteps := 1000000) (disch := omega) only [li, ob1_s, ob2_s, ob3_s, ob4_s, ob5_s, ob6_s, ob7_s, gA_n, gL_n, sA_n, sL_n, cpI_n, nI_add, pk_mul, nsub, nlt_t, nlt_f, nle_t, nle_f, neq_t, neq_f, rmI_n, dvI_n, upd_ne, upd_eq, un_ne, un_eq, Nat.add_zero, Bool.false_eq_true, ↓reduceIte, f_X12_paid, hx, rPers_in hA h6, isIn_in, hA.2]
        rw [show 125 + 2 * S 8 + 1 = 126 + 2 * S 8 by omega]
      · refine h0.notes (((hA.up (by omega)).up (by omega)).up (by omega)) (fun i hi => by simp (disch := omega) only [un_ne]) ⟨n1.cg (fun i hi => by simp (disch := omega) only [un_ne]) (by simp (disch := omega) only [un_ne]; omega), n2.cg (fun i hi => by simp (disch := omega) only [un_ne]), n3.cg (fun i hi => by simp (disch := omega) only [un_ne]), n4.cg (fun i hi => by simp (disch := omega) only [un_ne]), ⟨by rw [un_eq rfl], by rw [un_eq rfl]; omega, fun q hq => ?_⟩⟩
        rw [un_eq rfl] at hq
        by_cases e : q = S 8
        · subst e
          simp (maxSteps := 1000000) (disch := omega) only [li, ob1_s, ob2_s, ob3_s, ob4_s, ob5_s, ob6_s, ob7_s, gA_n, gL_n, sA_n, sL_n, cpI_n, nI_add, pk_mul, nsub, nlt_t, nlt_f, nle_t, nle_f, neq_t, neq_f, rmI_n, dvI_n, upd_ne, upd_eq, un_ne, un_eq, Nat.add_zero, Bool.false_eq_true, ↓reduceIte]
          exact ⟨trivial, hk, trivial, by omega⟩
        · simp (maxSteps := 1000000) (disch := omega) only [li, ob1_s, ob2_s, ob3_s, ob4_s, ob5_s, ob6_s, ob7_s, gA_n, gL_n, sA_n, sL_n, cpI_n, nI_add, pk_mul, nsub, nlt_t, nlt_f, nle_t, nle_f, neq_t, neq_f, rmI_n, dvI_n, upd_ne, upd_eq, un_ne, un_eq, Nat.add_zero, Bool.false_eq_true, ↓reduceIte]
          exact c3 q (by omega)
    · have h8 : S 8 = 8 := by omega
      refine ⟨-2, nI (S 8), py, pr, a, S, ?_, ?_, h0.later, rfl⟩
      · simp (maxSteps := 1000000) (disch := omega) only [li, ob1_s, ob2_s, ob3_s, ob4_s, ob5_s, ob6_s, ob7_s, gA_n, gL_n, sA_n, sL_n, cpI_n, nI_add, pk_mul, nsub, nlt_t, nlt_f, nle_t, nle_f, neq_t, neq_f, rmI_n, dvI_n, upd_ne, upd_eq, un_ne, un_eq, Nat.add_zero, Bool.false_eq_true, ↓reduceIte, f_X11_paid, hx, cPers_in hR h6, f_X4_notePaid]
      · simp (maxSteps := 1000000) (disch := omega) only [li, ob1_s, ob2_s, ob3_s, ob4_s, ob5_s, ob6_s, ob7_s, gA_n, gL_n, sA_n, sL_n, cpI_n, nI_add, pk_mul, nsub, nlt_t, nlt_f, nle_t, nle_f, neq_t, neq_f, rmI_n, dvI_n, upd_ne, upd_eq, un_ne, un_eq, Nat.add_zero, Bool.false_eq_true, ↓reduceIte, f_X12_paid, hx, rPers_in hA h6, isIn_in, hA.2]
