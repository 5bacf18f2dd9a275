theorem out_not {k n : Nat} (hk : k < n) (hn : n < 2147483648) (h : Out (nI k) n) : False := out_ne h hk hn rfl
/-- who is beside an outlaw -/
theorem dBeside {N p q : Nat} {row a : Nat → Int32} {S : Nat → Nat} (hR : RowC row S) (hA : TieA a S) (hW : FolkX S) (h8 : S 0 ≤ 8) (hp : p < S 1) (hq : q < S 1) : ∃ v, v ≤ 1 ∧ f_X0_meets N row (nI q) (nI p) = some (nI v) ∧ f_X12_areBeside N a (nI p) (nI q) = some (nI v) ∧ (v = 1 → S (14 + 11 * p + 6) = 1 ∧ S (14 + 11 * q + 6) ≠ 3 ∧ p ≠ q ∧ S (14 + 11 * p) = S (14 + 11 * q)) := by
  have w1 := hW.1
  obtain ⟨p0, p1, p2, p3, p4, p5, p6⟩ := hW.part hp
  obtain ⟨q0, q1, q2, q3, q4, q5, q6⟩ := hW.part hq
  by_cases e1 : S (14 + 11 * p + 6) = 1
  · by_cases e3 : S (14 + 11 * q + 6) = 3
    · exact ⟨0, by omega, by simp (maxSteps := 1000000) (disch := omega) only [li, ob1_s, ob2_s, ob3_s, ob4_s, ob5_s, ob6_s, ob7_s, gA_n, gL_n, sA_n, sL_n, cpI_n, nI_add, pk_mul, nsub, nlt_t, nlt_f, nle_t, nle_f, neq_t, neq_f, rmI_n, dvI_n, upd_ne, upd_eq, un_ne, un_eq, Nat.add_zero, Bool.false_eq_true, ↓reduceIte, f_X0_meets, cOutl hR hW hp, cAliv hR hW hq, e1, e3], by simp (maxSteps := 1000000) (disch := omega) only [li, ob1_s, ob2_s, ob3_s, ob4_s, ob5_s, ob6_s, ob7_s, gA_n, gL_n, sA_n, sL_n, cpI_n, nI_add, pk_mul, nsub, nlt_t, nlt_f, nle_t, nle_f, neq_t, neq_f, rmI_n, dvI_n, upd_ne, upd_eq, un_ne, un_eq, Nat.add_zero, Bool.false_eq_true, ↓reduceIte, f_X12_areBeside, rOutlaw hA hW hp, rAliv hA hW hq, e1, e3], by omega⟩
    · by_cases epq : p = q
      · subst epq
        exact ⟨0, by omega, by simp (maxSteps := 1000000) (disch := omega) only [li, ob1_s, ob2_s, ob3_s, ob4_s, ob5_s, ob6_s, ob7_s, gA_n, gL_n, sA_n, sL_n, cpI_n, nI_add, pk_mul, nsub, nlt_t, nlt_f, nle_t, nle_f, neq_t, neq_f, rmI_n, dvI_n, upd_ne, upd_eq, un_ne, un_eq, Nat.add_zero, Bool.false_eq_true, ↓reduceIte, f_X0_meets, cOutl hR hW hp, cAliv hR hW hp, e1, show ¬ (1 : Nat) = 3 by omega], by simp (maxSteps := 1000000) (disch := omega) only [li, ob1_s, ob2_s, ob3_s, ob4_s, ob5_s, ob6_s, ob7_s, gA_n, gL_n, sA_n, sL_n, cpI_n, nI_add, pk_mul, nsub, nlt_t, nlt_f, nle_t, nle_f, neq_t, neq_f, rmI_n, dvI_n, upd_ne, upd_eq, un_ne, un_eq, Nat.add_zero, Bool.false_eq_true, ↓reduceIte, f_X12_areBeside, rOutlaw hA hW hp, rAliv hA hW hp, e1, show ¬ (1 : Nat) = 3 by omega], by omega⟩
      · by_cases el : S (14 + 11 * p) = S (14 + 11 * q)
        · exact ⟨1, by omega, by simp (maxSteps := 1000000) (disch := omega) only [li, ob1_s, ob2_s, ob3_s, ob4_s, ob5_s, ob6_s, ob7_s, gA_n, gL_n, sA_n, sL_n, cpI_n, nI_add, pk_mul, nsub, nlt_t, nlt_f, nle_t, nle_f, neq_t, neq_f, rmI_n, dvI_n, upd_ne, upd_eq, un_ne, un_eq, Nat.add_zero, Bool.false_eq_true, ↓reduceIte, f_X0_meets, cOutl hR hW hp, cAliv hR hW hq, e1, e3, cget hR w1], by simp (maxSteps := 1000000) (disch := omega) only [li, ob1_s, ob2_s, ob3_s, ob4_s, ob5_s, ob6_s, ob7_s, gA_n, gL_n, sA_n, sL_n, cpI_n, nI_add, pk_mul, nsub, nlt_t, nlt_f, nle_t, nle_f, neq_t, neq_f, rmI_n, dvI_n, upd_ne, upd_eq, un_ne, un_eq, Nat.add_zero, Bool.false_eq_true, ↓reduceIte, f_X12_areBeside, rOutlaw hA hW hp, rAliv hA hW hq, e1, e3, rget hA], fun _ => ⟨e1, e3, epq, el⟩⟩
        · exact ⟨0, by omega, by simp (maxSteps := 1000000) (disch := omega) only [li, ob1_s, ob2_s, ob3_s, ob4_s, ob5_s, ob6_s, ob7_s, gA_n, gL_n, sA_n, sL_n, cpI_n, nI_add, pk_mul, nsub, nlt_t, nlt_f, nle_t, nle_f, neq_t, neq_f, rmI_n, dvI_n, upd_ne, upd_eq, un_ne, un_eq, Nat.add_zero, Bool.false_eq_true, ↓reduceIte, f_X0_meets, cOutl hR hW hp, cAliv hR hW hq, e1, e3, cget hR w1], by simp (maxSteps := 1000000) (disch := omega) only [li, ob1_s, ob2_s, ob3_s, ob4_s, ob5_s, ob6_s, ob7_s, gA_n, gL_n, sA_n, sL_n, cpI_n, nI_add, pk_mul, nsub, nlt_t, nlt_f, nle_t, nle_f, neq_t, neq_f, rmI_n, dvI_n, upd_ne, upd_eq, un_ne, un_eq, Nat.add_zero, Bool.false_eq_true, ↓reduceIte, f_X12_areBeside, rOutlaw hA hW hp, rAliv hA hW hq, e1, e3, rget hA], by omega⟩
  · exact ⟨0, by omega, by simp (maxSteps := 1000000) (disch := omega) only [li, ob1_s, ob2_s, ob3_s, ob4_s, ob5_s, ob6_s, ob7_s, gA_n, gL_n, sA_n, sL_n, cpI_n, nI_add, pk_mul, nsub, nlt_t, nlt_f, nle_t, nle_f, neq_t, neq_f, rmI_n, dvI_n, upd_ne, upd_eq, un_ne, un_eq, Nat.add_zero, Bool.false_eq_true, ↓reduceIte, f_X0_meets, cOutl hR hW hp, e1], by simp (maxSteps := 1000000) (disch := omega) only [li, ob1_s, ob2_s, ob3_s, ob4_s, ob5_s, ob6_s, ob7_s, gA_n, gL_n, sA_n, sL_n, cpI_n, nI_add, pk_mul, nsub, nlt_t, nlt_f, nle_t, nle_f, neq_t, neq_f, rmI_n, dvI_n, upd_ne, upd_eq, un_ne, un_eq, Nat.add_zero, Bool.false_eq_true, ↓reduceIte, f_X12_areBeside, rOutlaw hA hW hp, e1], by omega⟩
theorem dBeside_o {N : Nat} {x y : Int32} {row a : Nat → Int32} {S : Nat → Nat} (hR : RowC row S) (hA : TieA a S) (hW : FolkX S) (h : Out x (S 1) ∨ Out y (S 1)) : f_X0_meets N row y x = some (nI 0) ∧ f_X12_areBeside N a x y = some (nI 0) := by
  have w1 := hW.1
  rcases inOut x (S 1) (by omega) with hx | ⟨p, hp, rfl⟩
  · exact ⟨by simp only [f_X0_meets, cOutl_o hR hx, li, ob1_s, ↓reduceIte], by simp only [f_X12_areBeside, rOutl_o hA w1 hx, li, ob1_s, ↓reduceIte]⟩
  · have hy : Out y (S 1) := by
      rcases h with h | h
      · exact (out_not hp (by omega) h).elim
      · exact h
    by_cases e1 : S (14 + 11 * p + 6) = 1
    · exact ⟨by simp (maxSteps := 1000000) (disch := omega) only [li, ob1_s, ob2_s, ob3_s, ob4_s, ob5_s, ob6_s, ob7_s, gA_n, gL_n, sA_n, sL_n, cpI_n, nI_add, pk_mul, nsub, nlt_t, nlt_f, nle_t, nle_f, neq_t, neq_f, rmI_n, dvI_n, upd_ne, upd_eq, un_ne, un_eq, Nat.add_zero, Bool.false_eq_true, ↓reduceIte, f_X0_meets, cOutl hR hW hp, cAliv_o hR hy, e1], by simp (maxSteps := 1000000) (disch := omega) only [li, ob1_s, ob2_s, ob3_s, ob4_s, ob5_s, ob6_s, ob7_s, gA_n, gL_n, sA_n, sL_n, cpI_n, nI_add, pk_mul, nsub, nlt_t, nlt_f, nle_t, nle_f, neq_t, neq_f, rmI_n, dvI_n, upd_ne, upd_eq, un_ne, un_eq, Nat.add_zero, Bool.false_eq_true, ↓reduceIte, f_X12_areBeside, rOutlaw hA hW hp, rAliv_o hA w1 hy, e1]⟩
    · exact ⟨by simp (maxSteps := 1000000) (disch := omega) only [li, ob1_s, ob2_s, ob3_s, ob4_s, ob5_s, ob6_s, ob7_s, gA_n, gL_n, sA_n, sL_n, cpI_n, nI_add, pk_mul, nsub, nlt_t, nlt_f, nle_t, nle_f, neq_t, neq_f, rmI_n, dvI_n, upd_ne, upd_eq, un_ne, un_eq, Nat.add_zero, Bool.false_eq_true, ↓reduceIte, f_X0_meets, cOutl hR hW hp, e1], by simp (maxSteps := 1000000) (disch := omega) only [li, ob1_s, ob2_s, ob3_s, ob4_s, ob5_s, ob6_s, ob7_s, gA_n, gL_n, sA_n, sL_n, cpI_n, nI_add, pk_mul, nsub, nlt_t, nlt_f, nle_t, nle_f, neq_t, neq_f, rmI_n, dvI_n, upd_ne, upd_eq, un_ne, un_eq, Nat.add_zero, Bool.false_eq_true, ↓reduceIte, f_X12_areBeside, rOutlaw hA hW hp, e1]⟩
/-- set free, both sides -/
theorem dFree {N : Nat} {w : Bool} {b p : Nat} {row a : Nat → Int32} {S : Nat → Nat} (h : Good w b row a S) (hp : p < S 1) : ∃ row' a' S', f_X0_setFree N row (nI p) = some row' ∧ f_X12_pardonNow N a (nI p) = some a' ∧ Good w b row' a' S' ∧ Fra 0 S S' ∧ (∀ i, i < 14 + 11 * p + 4 ∨ 14 + 11 * p + 7 ≤ i → S' i = S i) := by
  obtain ⟨⟨hR, hB⟩, hA, hW, hO, h8⟩ := id h
  have w1 := hW.1
  have c6 := h.set (p := p) (k := 6) (v := 2) hp (by omega) ⟨by omega, by omega, by omega, by omega, by omega, by omega, by omega⟩ (by omega)
  have c5 := c6.set (p := p) (k := 5) (v := 0) (by simp (disch := omega) only [un_ne]; exact hp) (by omega) ⟨by omega, by omega, by omega, by omega, by omega, by omega, by omega⟩ (by omega)
  have c4 := c5.set (p := p) (k := 4) (v := 0) (by simp (disch := omega) only [un_ne]; exact hp) (by omega) ⟨by omega, by omega, by omega, by omega, by omega, by omega, by omega⟩ (by omega)
  refine ⟨_, _, _, ?_, ?_, c4, ((Fra.set S 2 (show p < 6 by omega) (show 6 < 7 by omega)).tr (Fra.set _ 0 (show p < 6 by omega) (show 5 < 7 by omega))).tr (Fra.set _ 0 (show p < 6 by omega) (show 4 < 7 by omega)), fun i hi => by simp (disch := omega) only [un_ne]⟩
  · have r3 := hR.2.2.1
    have e7 : p * 7 = 7 * p := Nat.mul_comm _ _
    simp (maxSteps := 1000000) (disch := omega) only [li, ob1_s, ob2_s, ob3_s, ob4_s, ob5_s, ob6_s, ob7_s, gA_n, gL_n, sA_n, sL_n, cpI_n, nI_add, pk_mul, nsub, nlt_t, nlt_f, nle_t, nle_f, neq_t, neq_f, rmI_n, dvI_n, upd_ne, upd_eq, un_ne, un_eq, Nat.add_zero, Bool.false_eq_true, ↓reduceIte, f_X0_setFree, f_X1_set, f_X1_told, r3, e7]
  · simp (maxSteps := 1000000) (disch := omega) only [li, ob1_s, ob2_s, ob3_s, ob4_s, ob5_s, ob6_s, ob7_s, gA_n, gL_n, sA_n, sL_n, cpI_n, nI_add, pk_mul, nsub, nlt_t, nlt_f, nle_t, nle_f, neq_t, neq_f, rmI_n, dvI_n, upd_ne, upd_eq, un_ne, un_eq, Nat.add_zero, Bool.false_eq_true, ↓reduceIte, f_X12_pardonNow, rput]
theorem dKill {N : Nat} {w : Bool} {b p q : Nat} {row a : Nat → Int32} {S : Nat → Nat} (died : Int32) (h : Good w b row a S) (hp : p < S 1) (hq : q < S 1) (hpq : p ≠ q) (hm : f_X0_meets N row (nI q) (nI p) = some (nI 1)) (hj : S 12 < 2147483000) :
    ∃ row' a' died' S', f_X0_slay N row (nI p) (nI q) = some (nI 1, row') ∧ f_X12_killNow N a (wI w) died (nI p) (nI q) = some (a', died') ∧ Good w b row' a' S' ∧ Fra 1 S S' ∧ S' 10 = S 10 := by
  obtain ⟨⟨hR, hB⟩, hA, hW, hO, h8⟩ := id h
  have w1 := hW.1
  have c6 := h.set (p := p) (k := 6) (v := 3) hp (by omega) ⟨by omega, by omega, by omega, by omega, by omega, by omega, by omega⟩ (by omega)
  obtain ⟨row', a', k1, k2, k3⟩ := c6.wr (N := N) (p := p) (c := 5) (by rw [un_ne (by omega)]; exact hp) (by omega) (by rw [un_ne (by omega)]; exact hj)
  have fr : Fra 1 S (aWr w (un S (14 + 11 * p + 6) 3) p 5) := (Fra.set S 3 (show p < 6 by omega) (show 6 < 7 by omega)).tr (Fra.wr w _ p 5)
  have e1 : aWr w (un S (14 + 11 * p + 6) 3) p 5 1 = S 1 := by rw [aWr_o (by omega) (by omega), un_ne (by omega)]
  have e10 : aWr w (un S (14 + 11 * p + 6) 3) p 5 10 = S 10 := by rw [aWr_o (by omega) (by omega), un_ne (by omega)]
  have eq6 : aWr w (un S (14 + 11 * p + 6) 3) p 5 (14 + 11 * q + 6) = S (14 + 11 * q + 6) := by rw [aWr_o (by omega) (by omega), un_ne (by omega)]
  obtain ⟨⟨kR, kB⟩, kA, kW, kO, k8⟩ := id k3
  have ho := cOutl (N := N) kR kW (show q < _ by rw [e1]; exact hq)
  have hg := rget (N := N) (p := q) (k := 6) kA (by omega) (by omega)
  rw [eq6] at ho hg
  obtain ⟨q0, q1, q2, q3, q4, q5, q6⟩ := hW.part hq
  by_cases eo : S (14 + 11 * q + 6) = 1
  · obtain ⟨row2, a2, S2, d1, d2, d3, d4, d5⟩ := dFree (N := N) k3 (show q < _ by rw [e1]; exact hq)
    refine ⟨row2, a2, died + nI 1, S2, ?_, ?_, d3, fr.tr d4, ?_⟩
    · simp (maxSteps := 1000000) (disch := omega) only [li, ob1_s, ob2_s, ob3_s, ob4_s, ob5_s, ob6_s, ob7_s, gA_n, gL_n, sA_n, sL_n, cpI_n, nI_add, pk_mul, nsub, nlt_t, nlt_f, nle_t, nle_f, neq_t, neq_f, rmI_n, dvI_n, upd_ne, upd_eq, un_ne, un_eq, Nat.add_zero, Bool.false_eq_true, ↓reduceIte, f_X0_slay, hm, cset hR w1, k1, ho, eo, d1]
    · simp (maxSteps := 1000000) (disch := omega) only [li, ob1_s, ob2_s, ob3_s, ob4_s, ob5_s, ob6_s, ob7_s, gA_n, gL_n, sA_n, sL_n, cpI_n, nI_add, pk_mul, nsub, nlt_t, nlt_f, nle_t, nle_f, neq_t, neq_f, rmI_n, dvI_n, upd_ne, upd_eq, un_ne, un_eq, Nat.add_zero, Bool.false_eq_true, ↓reduceIte, f_X12_killNow, f_X12_die, rput, k2, hg, eo, d2]
    · rw [d5 10 (by omega), e10]
  · refine ⟨row', a', died + nI 1, _, ?_, ?_, k3, fr, e10⟩
    · simp (maxSteps := 1000000) (disch := omega) only [li, ob1_s, ob2_s, ob3_s, ob4_s, ob5_s, ob6_s, ob7_s, gA_n, gL_n, sA_n, sL_n, cpI_n, nI_add, pk_mul, nsub, nlt_t, nlt_f, nle_t, nle_f, neq_t, neq_f, rmI_n, dvI_n, upd_ne, upd_eq, un_ne, un_eq, Nat.add_zero, Bool.false_eq_true, ↓reduceIte, f_X0_slay, hm, cset hR w1, k1, ho, eo]
    · simp (maxSteps := 1000000) (disch := omega) only [li, ob1_s, ob2_s, ob3_s, ob4_s, ob5_s, ob6_s, ob7_s, gA_n, gL_n, sA_n, sL_n, cpI_n, nI_add, pk_mul, nsub, nlt_t, nlt_f, nle_t, nle_f, neq_t, neq_f, rmI_n, dvI_n, upd_ne, upd_eq, un_ne, un_eq, Nat.add_zero, Bool.false_eq_true, ↓reduceIte, f_X12_killNow, f_X12_die, rput, k2, hg]
theorem st_kill {j : Nat} {dn : Int32} {df dr row fe to : Nat → Int32} {cnt next : Int32} {store : Nat → Int32} {calls bord rep unl pay : Int32} {cl ul ga py pr : Nat → Int32} {tx rul : Int32} {a : Nat → Int32} {S : Nat → Nat} {N : Nat} (hN : 10000 ≤ N) (hJ : j ≤ 20000) (died x y : Int32) (h : RealmT j dn df dr row fe to cnt next store calls bord rep unl pay cl ul ga py pr tx rul a S) :
    ∃ (r : Int32) (row' : Nat → Int32) (cnt' next' : Int32) (store' a' : Nat → Int32) (died' : Int32) (S' : Nat → Nat), f_X11_kill N row cnt next store x y = some (r, row', cnt', next', store') ∧ f_X12_kill N a (nI 1) died x y = some (r, a', died') ∧ RealmT (j + 1) dn df dr row' fe to cnt' next' store' calls bord rep unl pay cl ul ga py pr tx rul a' S' ∧ S' 2 = S 2 := by
  have h0 := h
  obtain ⟨hA, hL, hR, hW, hF, hB, hZ, hQ, hI, hj⟩ := h
  have h8 := hL.2.1
  obtain ⟨z1, z2, nx, z3, z4, -⟩ := id hZ
  have w1 := hW.1
  have no : f_X0_meets N row y x = some (nI 0) → f_X12_areBeside N a x y = some (nI 0) → ∃ (r : Int32) (row' : Nat → Int32) (cnt' next' : Int32) (store' a' : Nat → Int32) (died' : Int32) (S' : Nat → Nat), f_X11_kill N row cnt next store x y = some (r, row', cnt', next', store') ∧ f_X12_kill N a (nI 1) died x y = some (r, a', died') ∧ RealmT (j + 1) dn df dr row' fe to cnt' next' store' calls bord rep unl pay cl ul ga py pr tx rul a' S' ∧ S' 2 = S 2 := by
    intro g1 g2
    refine ⟨nI 0, row, cnt, next, _, a, died, S, ?_, ?_, h0.idle z3 z4, rfl⟩
    · rw [z4]
      simp only [f_X11_kill, f_X0_slay, cAhead z3, g1, li, ob1_s, ob2_s, ↓reduceIte]
    · simp only [f_X12_kill, g2, li, ob1_s, ↓reduceIte]
  rcases inOut x (S 1) (by omega) with hx | ⟨p, hp, rfl⟩
  · obtain ⟨g1, g2⟩ := dBeside_o (N := N) (y := y) hR hA hW.x (Or.inl hx)
    exact no g1 g2
  rcases inOut y (S 1) (by omega) with hy | ⟨q, hq, rfl⟩
  · obtain ⟨g1, g2⟩ := dBeside_o (N := N) (x := nI p) hR hA hW.x (Or.inr hy)
    exact no g1 g2
  obtain ⟨v, hv, g1, g2, g3⟩ := dBeside (N := N) hR hA hW.x h8 hp hq
  rcases (show v = 0 ∨ v = 1 by omega) with e | e
  · subst e
    exact no g1 g2
  subst e
  obtain ⟨-, -, hpq, -⟩ := g3 rfl
  obtain ⟨a1, k1, k2⟩ := rKeep hN hA z2
  have hG := h0.good (nx := nx) k2
  have ee : ∀ i, i ≠ 4 → i < 142 → kpS S i = S i := fun i h4 h1 => kp_o (by omega) h4
  obtain ⟨row', a', died', S', d1, d2, d3, d4, d5⟩ := dKill (N := N) (w := true) (p := p) (q := q) died hG (by rw [ee 1 (by omega) (by omega)]; exact hp) (by rw [ee 1 (by omega) (by omega)]; exact hq) hpq g1 (by rw [ee 12 (by omega) (by omega)]; omega)
  rw [ee 10 (by omega) (by omega)] at d5
  obtain ⟨q1, q2, q3⟩ := h0.deed (n := 1) (nx := nx) z3 z4 (by rw [d5]; exact d3) d4 (by omega)
  refine ⟨nI 1, row', _, _, _, a', died', S', ?_, ?_, q1 (j + 1) (by omega), q2⟩
  · rw [z4]
    have hm : ¬ nI 1 = nI 0 := by decide
    simp only [f_X11_kill, cAhead z3, d1, z1, li, ob1_s, ob2_s, hm, cKeep z3 z2, ↓reduceIte]
  · have d2 : f_X12_killNow N a1 (nI 1) died (nI p) (nI q) = some (a', died') := d2
    simp (maxSteps := 1000000) (disch := omega) only [li, ob1_s, ob2_s, ob3_s, ob4_s, ob5_s, ob6_s, ob7_s, gA_n, gL_n, sA_n, sL_n, cpI_n, nI_add, pk_mul, nsub, nlt_t, nlt_f, nle_t, nle_f, neq_t, neq_f, rmI_n, dvI_n, upd_ne, upd_eq, un_ne, un_eq, Nat.add_zero, Bool.false_eq_true, ↓reduceIte, f_X12_kill, g2, k1, d2]
/-- a move that can be or not -/
theorem dMove {N p l : Nat} {dn : Int32} {df dr row a : Nat → Int32} {S : Nat → Nat} (hL : LandT dn df dr S) (hR : RowC row S) (hA : TieA a S) (hW : FolkX S) (hp : p < S 1) (hl : l < S 0) : (f_X0_travel N dn dr row (nI p) (nI l) = some (nI 0, row) ∧ f_X12_canMove N a (nI p) (nI l) = some (nI 0)) ∨ (f_X0_travel N dn dr row (nI p) (nI l) = some (nI 1, upd row (34 + 7 * p + 0) (nI l)) ∧ f_X12_canMove N a (nI p) (nI l) = some (nI 1)) := by
  obtain ⟨h1, h8, h3, h4, h5, h6⟩ := hL
  subst h1
  have w1 := hW.1
  obtain ⟨p0, p1, p2, p3, p4, p5, p6⟩ := hW.part hp
  obtain ⟨r1, r2⟩ := h4 _ p0
  have l8 := p28 h8
  by_cases e3 : S (14 + 11 * p + 6) = 3
  · exact Or.inl ⟨by simp (maxSteps := 1000000) (disch := omega) only [li, ob1_s, ob2_s, ob3_s, ob4_s, ob5_s, ob6_s, ob7_s, gA_n, gL_n, sA_n, sL_n, cpI_n, nI_add, pk_mul, nsub, nlt_t, nlt_f, nle_t, nle_f, neq_t, neq_f, rmI_n, dvI_n, upd_ne, upd_eq, un_ne, un_eq, Nat.add_zero, Bool.false_eq_true, ↓reduceIte, f_X0_travel, cAliv hR hW hp, e3], by simp (maxSteps := 1000000) (disch := omega) only [li, ob1_s, ob2_s, ob3_s, ob4_s, ob5_s, ob6_s, ob7_s, gA_n, gL_n, sA_n, sL_n, cpI_n, nI_add, pk_mul, nsub, nlt_t, nlt_f, nle_t, nle_f, neq_t, neq_f, rmI_n, dvI_n, upd_ne, upd_eq, un_ne, un_eq, Nat.add_zero, Bool.false_eq_true, ↓reduceIte, f_X12_canMove, rAliv hA hW hp, e3]⟩
  · by_cases hb : (S (88 + S (14 + 11 * p))).testBit l = true
    · exact Or.inr ⟨by simp (maxSteps := 1000000) (disch := omega) only [li, ob1_s, ob2_s, ob3_s, ob4_s, ob5_s, ob6_s, ob7_s, gA_n, gL_n, sA_n, sL_n, cpI_n, nI_add, pk_mul, nsub, nlt_t, nlt_f, nle_t, nle_f, neq_t, neq_f, rmI_n, dvI_n, upd_ne, upd_eq, un_ne, un_eq, Nat.add_zero, Bool.false_eq_true, ↓reduceIte, f_X0_travel, cAliv hR hW hp, e3, cget hR w1, f_X2_joined, cLand_in, r1, nbit, hb, cset hR w1], by simp (maxSteps := 1000000) (disch := omega) only [li, ob1_s, ob2_s, ob3_s, ob4_s, ob5_s, ob6_s, ob7_s, gA_n, gL_n, sA_n, sL_n, cpI_n, nI_add, pk_mul, nsub, nlt_t, nlt_f, nle_t, nle_f, neq_t, neq_f, rmI_n, dvI_n, upd_ne, upd_eq, un_ne, un_eq, Nat.add_zero, Bool.false_eq_true, ↓reduceIte, f_X12_canMove, rAliv hA hW hp, e3, rLand_in hA h8, rget hA, hA.2, isWith_n, hb]⟩
    · exact Or.inl ⟨by simp (maxSteps := 1000000) (disch := omega) only [li, ob1_s, ob2_s, ob3_s, ob4_s, ob5_s, ob6_s, ob7_s, gA_n, gL_n, sA_n, sL_n, cpI_n, nI_add, pk_mul, nsub, nlt_t, nlt_f, nle_t, nle_f, neq_t, neq_f, rmI_n, dvI_n, upd_ne, upd_eq, un_ne, un_eq, Nat.add_zero, Bool.false_eq_true, ↓reduceIte, f_X0_travel, cAliv hR hW hp, e3, cget hR w1, f_X2_joined, cLand_in, r1, nbit, hb], by simp (maxSteps := 1000000) (disch := omega) only [li, ob1_s, ob2_s, ob3_s, ob4_s, ob5_s, ob6_s, ob7_s, gA_n, gL_n, sA_n, sL_n, cpI_n, nI_add, pk_mul, nsub, nlt_t, nlt_f, nle_t, nle_f, neq_t, neq_f, rmI_n, dvI_n, upd_ne, upd_eq, un_ne, un_eq, Nat.add_zero, Bool.false_eq_true, ↓reduceIte, f_X12_canMove, rAliv hA hW hp, e3, rLand_in hA h8, rget hA, hA.2, isWith_n, hb]⟩
theorem dMove_o {N : Nat} {x y : Int32} {dn : Int32} {df dr row a : Nat → Int32} {S : Nat → Nat} (hL : LandT dn df dr S) (hR : RowC row S) (hA : TieA a S) (hW : FolkX S) (h : Out x (S 1) ∨ Out y (S 0)) : f_X0_travel N dn dr row x y = some (nI 0, row) ∧ f_X12_canMove N a x y = some (nI 0) := by
  obtain ⟨h1, h8, h3, h4, h5, h6⟩ := hL
  subst h1
  have w1 := hW.1
  rcases inOut x (S 1) (by omega) with hx | ⟨p, hp, rfl⟩
  · exact ⟨by simp only [f_X0_travel, cAliv_o hR hx, li, ob1_s, ↓reduceIte], by simp only [f_X12_canMove, rAliv_o hA w1 hx, li, ob1_s, ↓reduceIte]⟩
  · have hy : Out y (S 0) := by
      rcases h with h | h
      · exact (out_not hp (by omega) h).elim
      · exact h
    obtain ⟨p0, p1, p2, p3, p4, p5, p6⟩ := hW.part hp
    by_cases e3 : S (14 + 11 * p + 6) = 3
    · exact ⟨by simp (maxSteps := 1000000) (disch := omega) only [li, ob1_s, ob2_s, ob3_s, ob4_s, ob5_s, ob6_s, ob7_s, gA_n, gL_n, sA_n, sL_n, cpI_n, nI_add, pk_mul, nsub, nlt_t, nlt_f, nle_t, nle_f, neq_t, neq_f, rmI_n, dvI_n, upd_ne, upd_eq, un_ne, un_eq, Nat.add_zero, Bool.false_eq_true, ↓reduceIte, f_X0_travel, cAliv hR hW hp, e3], by simp (maxSteps := 1000000) (disch := omega) only [li, ob1_s, ob2_s, ob3_s, ob4_s, ob5_s, ob6_s, ob7_s, gA_n, gL_n, sA_n, sL_n, cpI_n, nI_add, pk_mul, nsub, nlt_t, nlt_f, nle_t, nle_f, neq_t, neq_f, rmI_n, dvI_n, upd_ne, upd_eq, un_ne, un_eq, Nat.add_zero, Bool.false_eq_true, ↓reduceIte, f_X12_canMove, rAliv hA hW hp, e3]⟩
    · exact ⟨by simp (maxSteps := 1000000) (disch := omega) only [li, ob1_s, ob2_s, ob3_s, ob4_s, ob5_s, ob6_s, ob7_s, gA_n, gL_n, sA_n, sL_n, cpI_n, nI_add, pk_mul, nsub, nlt_t, nlt_f, nle_t, nle_f, neq_t, neq_f, rmI_n, dvI_n, upd_ne, upd_eq, un_ne, un_eq, Nat.add_zero, Bool.false_eq_true, ↓reduceIte, f_X0_travel, cAliv hR hW hp, e3, cget hR w1, f_X2_joined, cLand_in, cLand_out h8 hy], by simp (maxSteps := 1000000) (disch := omega) only [li, ob1_s, ob2_s, ob3_s, ob4_s, ob5_s, ob6_s, ob7_s, gA_n, gL_n, sA_n, sL_n, cpI_n, nI_add, pk_mul, nsub, nlt_t, nlt_f, nle_t, nle_f, neq_t, neq_f, rmI_n, dvI_n, upd_ne, upd_eq, un_ne, un_eq, Nat.add_zero, Bool.false_eq_true, ↓reduceIte, f_X12_canMove, rAliv hA hW hp, e3, rLand_out hA h8 hy]⟩
theorem st_move {j : Nat} {dn : Int32} {df dr row fe to : Nat → Int32} {cnt next : Int32} {store : Nat → Int32} {calls bord rep unl pay : Int32} {cl ul ga py pr : Nat → Int32} {tx rul : Int32} {a : Nat → Int32} {S : Nat → Nat} {N : Nat} (hN : 10000 ≤ N) (x y : Int32) (h : RealmT j dn df dr row fe to cnt next store calls bord rep unl pay cl ul ga py pr tx rul a S) :
    ∃ (r : Int32) (row' : Nat → Int32) (cnt' next' : Int32) (store' a' : Nat → Int32) (S' : Nat → Nat), f_X11_move N dn dr row cnt next store x y = some (r, row', cnt', next', store') ∧ f_X12_move N a x y = some (r, a') ∧ RealmT (j + 1) dn df dr row' fe to cnt' next' store' calls bord rep unl pay cl ul ga py pr tx rul a' S' ∧ S' 2 = S 2 := by
  have h0 := h
  obtain ⟨hA, hL, hR, hW, hF, hB, hZ, hQ, hI, hj⟩ := h
  have h8 := hL.2.1
  obtain ⟨z1, z2, nx, z3, z4, -⟩ := id hZ
  have w1 := hW.1
  have no : f_X0_travel N dn dr row x y = some (nI 0, row) → f_X12_canMove N a x y = some (nI 0) → ∃ (r : Int32) (row' : Nat → Int32) (cnt' next' : Int32) (store' a' : Nat → Int32) (S' : Nat → Nat), f_X11_move N dn dr row cnt next store x y = some (r, row', cnt', next', store') ∧ f_X12_move N a x y = some (r, a') ∧ RealmT (j + 1) dn df dr row' fe to cnt' next' store' calls bord rep unl pay cl ul ga py pr tx rul a' S' ∧ S' 2 = S 2 := by
    intro g1 g2
    refine ⟨nI 0, row, cnt, next, _, a, S, ?_, ?_, h0.idle z3 z4, rfl⟩
    · rw [z4]
      simp only [f_X11_move, cAhead z3, g1, li, ob1_s, ob2_s, ↓reduceIte]
    · simp only [f_X12_move, g2, li, ob1_s, ↓reduceIte]
  rcases inOut x (S 1) (by omega) with hx | ⟨p, hp, rfl⟩
  · obtain ⟨g1, g2⟩ := dMove_o (N := N) (y := y) hL hR hA hW.x (Or.inl hx)
    exact no g1 g2
  rcases inOut y (S 0) (by omega) with hy | ⟨l, hl, rfl⟩
  · obtain ⟨g1, g2⟩ := dMove_o (N := N) (x := nI p) hL hR hA hW.x (Or.inr hy)
    exact no g1 g2
  rcases dMove (N := N) hL hR hA hW.x hp hl with ⟨g1, g2⟩ | ⟨g1, g2⟩
  · exact no g1 g2
  obtain ⟨a1, k1, k2⟩ := rKeep hN hA z2
  have hG := h0.good (nx := nx) k2
  have ee : ∀ i, i ≠ 4 → i < 142 → kpS S i = S i := fun i h4 h1 => kp_o (by omega) h4
  have d3 := hG.set (p := p) (k := 0) (v := l) (by rw [ee 1 (by omega) (by omega)]; exact hp) (by omega) ⟨fun _ => by rw [ee 0 (by omega) (by omega)]; exact hl, by omega, by omega, by omega, by omega, by omega, by omega⟩ (by omega)
  have d4 : Fra 0 (kpS S) (un (kpS S) (14 + 11 * p + 0) l) := Fra.set _ _ (by omega) (by omega)
  have d5 : un (kpS S) (14 + 11 * p + 0) l 10 = S 10 := by rw [un_ne (by omega), ee 10 (by omega) (by omega)]
  obtain ⟨q1, q2, q3⟩ := h0.deed (n := 0) (nx := nx) z3 z4 (by rw [d5]; exact d3) d4 (by omega)
  refine ⟨nI 1, _, _, _, _, _, _, ?_, ?_, q1 (j + 1) (by omega), q2⟩
  · rw [z4]
    have hm : ¬ nI 1 = nI 0 := by decide
    simp only [f_X11_move, cAhead z3, g1, z1, li, ob1_s, ob2_s, hm, cKeep z3 z2, ↓reduceIte]
  · simp (maxSteps := 1000000) (disch := omega) only [li, ob1_s, ob2_s, ob3_s, ob4_s, ob5_s, ob6_s, ob7_s, gA_n, gL_n, sA_n, sL_n, cpI_n, nI_add, pk_mul, nsub, nlt_t, nlt_f, nle_t, nle_f, neq_t, neq_f, rmI_n, dvI_n, upd_ne, upd_eq, un_ne, un_eq, Nat.add_zero, Bool.false_eq_true, ↓reduceIte, f_X12_move, g2, k1, rput]
