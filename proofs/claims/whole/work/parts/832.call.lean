def OutB (b : Nat) (S : Nat → Nat) : Prop := ∀ p, p < S 1 → S (14 + 11 * p + 5) ≤ b
def Good (w : Bool) (b : Nat) (row a : Nat → Int32) (S : Nat → Nat) : Prop := CR w row S ∧ TieA a S ∧ FolkX S ∧ OutB b S ∧ S 0 ≤ 8
theorem FolkW.of {S : Nat → Nat} (h : FolkX S) (ho : OutB (S 10) S) : FolkW S := by
  refine ⟨h.1, h.2.1, h.2.2.1, fun p hp => ?_⟩
  obtain ⟨p0, p1, p2, p3, p4, p5, p6⟩ := h.2.2.2 p hp
  exact ⟨p0, p1, p2, p3, p4, ho p hp, p6⟩
theorem FolkW.ob {S : Nat → Nat} (h : FolkW S) : OutB (S 10) S := fun p hp => (h.2.2.2 p hp).2.2.2.2.2.1
theorem OutB.set {b p k v : Nat} {S : Nat → Nat} (h : OutB b S) (hp : p < 6) (hk : k < 7) (hv : k = 5 → v ≤ b) (h6 : S 1 ≤ 6) : OutB b (un S (14 + 11 * p + k) v) := by
  intro q hq
  rw [un_ne (by omega)] at hq
  by_cases e : q = p ∧ k = 5
  · obtain ⟨rfl, rfl⟩ := e
    rw [un_eq rfl]; exact hv rfl
  · rw [un_ne (by omega)]; exact h q hq
theorem OutB.cg {b : Nat} {S T : Nat → Nat} (h : OutB b S) (e1 : T 1 = S 1) (e : ∀ p, p < S 1 → T (14 + 11 * p + 5) = S (14 + 11 * p + 5)) : OutB b T := by
  intro p hp
  rw [e1] at hp
  rw [e p hp]; exact h p hp
theorem Good.set {w : Bool} {b p k v : Nat} {row a : Nat → Int32} {S : Nat → Nat} (h : Good w b row a S) (hp : p < S 1) (hk : k < 7) (hv : (k = 0 → v < S 0) ∧ (k = 1 → v ≤ 9999) ∧ (k = 2 → v ≤ 9999) ∧ (k = 3 → v ≤ 4) ∧ (k = 4 → v ≤ 9) ∧ (k = 5 → v ≤ 9999) ∧ (k = 6 → v ≤ 3)) (hb : k = 5 → v ≤ b) : Good w b (upd row (34 + 7 * p + k) (nI v)) (upd a (14 + 11 * p + k) (nI v)) (un S (14 + 11 * p + k) v) := by
  obtain ⟨h1, h2, h3, h4, h5⟩ := h
  have h6 := h3.1
  exact ⟨h1.set hp h6 hk, h2.up (by omega), h3.set hp hk hv, h4.set (by omega) hk hb h6, by rw [un_ne (by omega)]; exact h5⟩
theorem Good.wr {N : Nat} {w : Bool} {b p c : Nat} {row a : Nat → Int32} {S : Nat → Nat} (h : Good w b row a S) (hp : p < S 1) (hc : c < 8) (hj : S 12 < 2147483000) : ∃ row' a', f_X1_write N row (nI p) (nI c) = some row' ∧ f_X12_write N a (wI w) (nI p) (nI c) = some a' ∧ Good w b row' a' (aWr w S p c) := by
  obtain ⟨h1, h2, h3, h4, h5⟩ := h
  have h6 := h3.1
  obtain ⟨row', g1, g2⟩ := h1.write (N := N) (p := p) (c := c) (by omega) hc h3.2.1 h6
  obtain ⟨a', g3, g4⟩ := rWrite (N := N) (w := w) (p := p) (c := c) h2 (by omega) hc h3.2.1 hj
  exact ⟨row', a', g1, g3, g2, g4, h3.wr w p c, h4.cg (aWr_o (by omega) (by omega)) (fun q hq => aWr_o (by omega) (by omega)), by rw [aWr_o (by omega) (by omega)]; exact h5⟩
theorem cAliv {N p : Nat} {row : Nat → Int32} {S : Nat → Nat} (hR : RowC row S) (hW : FolkX S) (hp : p < S 1) : f_X0_alive N row (nI p) = some (nI (if S (14 + 11 * p + 6) = 3 then 0 else 1)) := by
  have w1 := hW.1
  obtain ⟨p0, p1, p2, p3, p4, p5, p6⟩ := hW.part hp
  by_cases e : S (14 + 11 * p + 6) = 3
  · simp (maxSteps := 1000000) (disch := omega) only [li, ob1_s, ob2_s, ob3_s, ob4_s, ob5_s, ob6_s, ob7_s, gA_n, gL_n, sA_n, sL_n, cpI_n, nI_add, pk_mul, nsub, nlt_t, nlt_f, nle_t, nle_f, neq_t, neq_f, rmI_n, dvI_n, upd_ne, upd_eq, un_ne, un_eq, Nat.add_zero, Bool.false_eq_true, ↓reduceIte, f_X0_alive, cPers_in hR w1, cget hR w1, e]
  · simp (maxSteps := 1000000) (disch := omega) only [li, ob1_s, ob2_s, ob3_s, ob4_s, ob5_s, ob6_s, ob7_s, gA_n, gL_n, sA_n, sL_n, cpI_n, nI_add, pk_mul, nsub, nlt_t, nlt_f, nle_t, nle_f, neq_t, neq_f, rmI_n, dvI_n, upd_ne, upd_eq, un_ne, un_eq, Nat.add_zero, Bool.false_eq_true, ↓reduceIte, f_X0_alive, cPers_in hR w1, cget hR w1, e]
theorem cOutl {N p : Nat} {row : Nat → Int32} {S : Nat → Nat} (hR : RowC row S) (hW : FolkX S) (hp : p < S 1) : f_X0_outlaw N row (nI p) = some (nI (if S (14 + 11 * p + 6) = 1 then 1 else 0)) := by
  have w1 := hW.1
  obtain ⟨p0, p1, p2, p3, p4, p5, p6⟩ := hW.part hp
  by_cases e : S (14 + 11 * p + 6) = 1
  · simp (maxSteps := 1000000) (disch := omega) only [li, ob1_s, ob2_s, ob3_s, ob4_s, ob5_s, ob6_s, ob7_s, gA_n, gL_n, sA_n, sL_n, cpI_n, nI_add, pk_mul, nsub, nlt_t, nlt_f, nle_t, nle_f, neq_t, neq_f, rmI_n, dvI_n, upd_ne, upd_eq, un_ne, un_eq, Nat.add_zero, Bool.false_eq_true, ↓reduceIte, f_X0_outlaw, cPers_in hR w1, cget hR w1, e]
  · simp (maxSteps := 1000000) (disch := omega) only [li, ob1_s, ob2_s, ob3_s, ob4_s, ob5_s, ob6_s, ob7_s, gA_n, gL_n, sA_n, sL_n, cpI_n, nI_add, pk_mul, nsub, nlt_t, nlt_f, nle_t, nle_f, neq_t, neq_f, rmI_n, dvI_n, upd_ne, upd_eq, un_ne, un_eq, Nat.add_zero, Bool.false_eq_true, ↓reduceIte, f_X0_outlaw, cPers_in hR w1, cget hR w1, e]
theorem cAliv_o {N : Nat} {x : Int32} {row : Nat → Int32} {S : Nat → Nat} (hR : RowC row S) (hx : Out x (S 1)) : f_X0_alive N row x = some (nI 0) := by
  simp only [f_X0_alive, cPers_out hR hx, li, ob1_s, ↓reduceIte]
theorem cOutl_o {N : Nat} {x : Int32} {row : Nat → Int32} {S : Nat → Nat} (hR : RowC row S) (hx : Out x (S 1)) : f_X0_outlaw N row x = some (nI 0) := by
  simp only [f_X0_outlaw, cPers_out hR hx, li, ob1_s, ↓reduceIte]
theorem rAliv_o {N : Nat} {x : Int32} {a : Nat → Int32} {S : Nat → Nat} (hA : TieA a S) (h6 : S 1 ≤ 6) (hx : Out x (S 1)) : f_X12_isAlive N a x = some (nI 0) := by
  simp only [f_X12_isAlive, rPers_out hA h6 hx, li, ob1_s, ↓reduceIte]
theorem rOutl_o {N : Nat} {x : Int32} {a : Nat → Int32} {S : Nat → Nat} (hA : TieA a S) (h6 : S 1 ≤ 6) (hx : Out x (S 1)) : f_X12_isOutlaw N a x = some (nI 0) := by
  simp only [f_X12_isOutlaw, rPers_out hA h6 hx, li, ob1_s, ↓reduceIte]
/-- a call that can't be -/
theorem dCall_no {N : Nat} {x y : Int32} {row a : Nat → Int32} {S : Nat → Nat} (hR : RowC row S) (hA : TieA a S) (hW : FolkX S) (h8 : S 0 ≤ 8) (h : Out x (S 1) ∨ Out y (S 0) ∨ ∃ p, p < S 1 ∧ x = nI p ∧ (S (14 + 11 * p + 6) = 1 ∨ S (14 + 11 * p + 6) = 3)) : f_X0_summon N (nI (S 0)) row x y = some (-nI 1, row) ∧ f_X12_canCall N a x y = some (nI 0) := by
  have w1 := hW.1
  rcases inOut x (S 1) (by omega) with hx | ⟨p, hp, rfl⟩
  · exact ⟨by simp only [f_X0_summon, cAliv_o hR hx, li, ob1_s, ↓reduceIte], by simp only [f_X12_canCall, rAliv_o hA w1 hx, li, ob1_s, ↓reduceIte]⟩
  · obtain ⟨p0, p1, p2, p3, p4, p5, p6⟩ := hW.part hp
    by_cases e3 : S (14 + 11 * p + 6) = 3
    · exact ⟨by simp (maxSteps := 1000000) (disch := omega) only [li, ob1_s, ob2_s, ob3_s, ob4_s, ob5_s, ob6_s, ob7_s, gA_n, gL_n, sA_n, sL_n, cpI_n, nI_add, pk_mul, nsub, nlt_t, nlt_f, nle_t, nle_f, neq_t, neq_f, rmI_n, dvI_n, upd_ne, upd_eq, un_ne, un_eq, Nat.add_zero, Bool.false_eq_true, ↓reduceIte, f_X0_summon, cAliv hR hW hp, e3], by simp (maxSteps := 1000000) (disch := omega) only [li, ob1_s, ob2_s, ob3_s, ob4_s, ob5_s, ob6_s, ob7_s, gA_n, gL_n, sA_n, sL_n, cpI_n, nI_add, pk_mul, nsub, nlt_t, nlt_f, nle_t, nle_f, neq_t, neq_f, rmI_n, dvI_n, upd_ne, upd_eq, un_ne, un_eq, Nat.add_zero, Bool.false_eq_true, ↓reduceIte, f_X12_canCall, rAliv hA hW hp, e3]⟩
    · by_cases e1 : S (14 + 11 * p + 6) = 1
      · exact ⟨by simp (maxSteps := 1000000) (disch := omega) only [li, ob1_s, ob2_s, ob3_s, ob4_s, ob5_s, ob6_s, ob7_s, gA_n, gL_n, sA_n, sL_n, cpI_n, nI_add, pk_mul, nsub, nlt_t, nlt_f, nle_t, nle_f, neq_t, neq_f, rmI_n, dvI_n, upd_ne, upd_eq, un_ne, un_eq, Nat.add_zero, Bool.false_eq_true, ↓reduceIte, f_X0_summon, cAliv hR hW hp, cOutl hR hW hp, e1, show ¬ (1 : Nat) = 3 by omega], by simp (maxSteps := 1000000) (disch := omega) only [li, ob1_s, ob2_s, ob3_s, ob4_s, ob5_s, ob6_s, ob7_s, gA_n, gL_n, sA_n, sL_n, cpI_n, nI_add, pk_mul, nsub, nlt_t, nlt_f, nle_t, nle_f, neq_t, neq_f, rmI_n, dvI_n, upd_ne, upd_eq, un_ne, un_eq, Nat.add_zero, Bool.false_eq_true, ↓reduceIte, f_X12_canCall, rAliv hA hW hp, rget hA, e1, show ¬ (1 : Nat) = 3 by omega]⟩
      · have hy : Out y (S 0) := by
          rcases h with h | h | ⟨q, hq, e, h⟩
          · rcases h with g | ⟨g, g0⟩
            · exact absurd g (nI_nlt (Nat.zero_le _) (by omega))
            · exact absurd g (nI_ge hp (by omega))
          · exact h
          · have : p = q := (neq (by omega) (by omega)).mp e
            subst this
            omega
        exact ⟨by simp (maxSteps := 1000000) (disch := omega) only [li, ob1_s, ob2_s, ob3_s, ob4_s, ob5_s, ob6_s, ob7_s, gA_n, gL_n, sA_n, sL_n, cpI_n, nI_add, pk_mul, nsub, nlt_t, nlt_f, nle_t, nle_f, neq_t, neq_f, rmI_n, dvI_n, upd_ne, upd_eq, un_ne, un_eq, Nat.add_zero, Bool.false_eq_true, ↓reduceIte, f_X0_summon, cAliv hR hW hp, cOutl hR hW hp, e1, e3, cLand_out h8 hy], by simp (maxSteps := 1000000) (disch := omega) only [li, ob1_s, ob2_s, ob3_s, ob4_s, ob5_s, ob6_s, ob7_s, gA_n, gL_n, sA_n, sL_n, cpI_n, nI_add, pk_mul, nsub, nlt_t, nlt_f, nle_t, nle_f, neq_t, neq_f, rmI_n, dvI_n, upd_ne, upd_eq, un_ne, un_eq, Nat.add_zero, Bool.false_eq_true, ↓reduceIte, f_X12_canCall, rAliv hA hW hp, rget hA, e1, e3, rLand_out hA h8 hy]⟩
theorem dCall_yes {N p l : Nat} {a : Nat → Int32} {S : Nat → Nat} (hA : TieA a S) (hW : FolkX S) (h8 : S 0 ≤ 8) (hp : p < S 1) (hl : l < S 0) (e1 : S (14 + 11 * p + 6) ≠ 1) (e3 : S (14 + 11 * p + 6) ≠ 3) : f_X12_canCall N a (nI p) (nI l) = some (nI 1) := by
  have w1 := hW.1
  obtain ⟨p0, p1, p2, p3, p4, p5, p6⟩ := hW.part hp
  simp (maxSteps := 1000000) (disch := omega) only [li, ob1_s, ob2_s, ob3_s, ob4_s, ob5_s, ob6_s, ob7_s, gA_n, gL_n, sA_n, sL_n, cpI_n, nI_add, pk_mul, nsub, nlt_t, nlt_f, nle_t, nle_f, neq_t, neq_f, rmI_n, dvI_n, upd_ne, upd_eq, un_ne, un_eq, Nat.add_zero, Bool.false_eq_true, ↓reduceIte, f_X12_canCall, rAliv hA hW hp, rget hA, e1, e3, rLand_in hA h8]
theorem dCall {N : Nat} {w : Bool} {b p l : Nat} {row a : Nat → Int32} {S : Nat → Nat} (hN : 100 ≤ N) (h : Good w b row a S) (hp : p < S 1) (hl : l < S 0) (e1 : S (14 + 11 * p + 6) ≠ 1) (e3 : S (14 + 11 * p + 6) ≠ 3) (hj : S 12 < 2147483000) :
    ∃ r row' a' S', f_X0_summon N (nI (S 0)) row (nI p) (nI l) = some (nI r, row') ∧ f_X12_callNow N a (wI w) (nI p) (nI l) = some a' ∧ r ≤ 4 ∧ S' (14 + 11 * p + 3) = r ∧ Good w b row' a' S' ∧ Fra 1 S S' ∧ S' 10 = S 10 := by
  obtain ⟨⟨hR, hB⟩, hA, hW, hO, h8⟩ := id h
  have w1 := hW.1
  obtain ⟨p0, p1, p2, p3, p4, p5, p6⟩ := hW.part hp
  by_cases hla : S (14 + 11 * p) = l
  · have g := h.set (p := p) (k := 3) (v := 0) hp (by omega) ⟨by omega, by omega, by omega, by omega, by omega, by omega, by omega⟩ (by omega)
    obtain ⟨row', a', k1, k2, k3⟩ := g.wr (N := N) (p := p) (c := 0) (by rw [un_ne (by omega)]; exact hp) (by omega) (by rw [un_ne (by omega)]; exact hj)
    refine ⟨0, row', a', _, ?_, ?_, by omega, ?_, k3, (Fra.set S 0 (by omega) (by omega)).tr (Fra.wr w _ p 0), ?_⟩
    · simp (maxSteps := 1000000) (disch := omega) only [li, ob1_s, ob2_s, ob3_s, ob4_s, ob5_s, ob6_s, ob7_s, gA_n, gL_n, sA_n, sL_n, cpI_n, nI_add, pk_mul, nsub, nlt_t, nlt_f, nle_t, nle_f, neq_t, neq_f, rmI_n, dvI_n, upd_ne, upd_eq, un_ne, un_eq, Nat.add_zero, Bool.false_eq_true, ↓reduceIte, f_X0_summon, cAliv hR hW hp, cOutl hR hW hp, e1, e3, cLand_in, cget hR w1, hla, cset hR w1, k1]
    · simp (maxSteps := 1000000) (disch := omega) only [li, ob1_s, ob2_s, ob3_s, ob4_s, ob5_s, ob6_s, ob7_s, gA_n, gL_n, sA_n, sL_n, cpI_n, nI_add, pk_mul, nsub, nlt_t, nlt_f, nle_t, nle_f, neq_t, neq_f, rmI_n, dvI_n, upd_ne, upd_eq, un_ne, un_eq, Nat.add_zero, Bool.false_eq_true, ↓reduceIte, f_X12_callNow, rget hA, hla, rput, k2]
    · rw [aWr_o (by omega) (by omega), un_eq rfl]
    · rw [aWr_o (by omega) (by omega), un_ne (by omega)]
  · by_cases h5 : S (14 + 11 * p + 3) + 1 < 5
    · have g := h.set (p := p) (k := 3) (v := S (14 + 11 * p + 3) + 1) hp (by omega) ⟨by omega, by omega, by omega, by omega, by omega, by omega, by omega⟩ (by omega)
      refine ⟨S (14 + 11 * p + 3) + 1, _, _, _, ?_, ?_, by omega, ?_, g, (Fra.set S _ (by omega) (by omega)).mn (by omega), ?_⟩
      · simp (maxSteps := 1000000) (disch := omega) only [li, ob1_s, ob2_s, ob3_s, ob4_s, ob5_s, ob6_s, ob7_s, gA_n, gL_n, sA_n, sL_n, cpI_n, nI_add, pk_mul, nsub, nlt_t, nlt_f, nle_t, nle_f, neq_t, neq_f, rmI_n, dvI_n, upd_ne, upd_eq, un_ne, un_eq, Nat.add_zero, Bool.false_eq_true, ↓reduceIte, f_X0_summon, cAliv hR hW hp, cOutl hR hW hp, e1, e3, cLand_in, cget hR w1, hla, cset hR w1]
      · have ga : f_X12_get N (upd a (14 + 11 * p + 3) (nI (S (14 + 11 * p + 3) + 1))) (nI p) (nI 3) = some (nI (S (14 + 11 * p + 3) + 1)) := by simp (maxSteps := 1000000) (disch := omega) only [li, ob1_s, ob2_s, ob3_s, ob4_s, ob5_s, ob6_s, ob7_s, gA_n, gL_n, sA_n, sL_n, cpI_n, nI_add, pk_mul, nsub, nlt_t, nlt_f, nle_t, nle_f, neq_t, neq_f, rmI_n, dvI_n, upd_ne, upd_eq, un_ne, un_eq, Nat.add_zero, Bool.false_eq_true, ↓reduceIte, f_X12_get]
        simp (maxSteps := 1000000) (disch := omega) only [li, ob1_s, ob2_s, ob3_s, ob4_s, ob5_s, ob6_s, ob7_s, gA_n, gL_n, sA_n, sL_n, cpI_n, nI_add, pk_mul, nsub, nlt_t, nlt_f, nle_t, nle_f, neq_t, neq_f, rmI_n, dvI_n, upd_ne, upd_eq, un_ne, un_eq, Nat.add_zero, Bool.false_eq_true, ↓reduceIte, f_X12_callNow, rget hA, hla, rput, ga]
      · rw [un_eq rfl]
      · rw [un_ne (by omega)]
    · -- the fifth
      have hv0 : ∀ k, k < 6 → 0 < k → (k = 0 → 0 < S 0) ∧ (k = 1 → 0 ≤ 9999) ∧ (k = 2 → 0 ≤ 9999) ∧ (k = 3 → 0 ≤ 4) ∧ (k = 4 → 0 ≤ 9) ∧ (k = 5 → 0 ≤ 9999) ∧ (k = 6 → 0 ≤ 3) := fun k _ _ => ⟨by omega, by omega, by omega, by omega, by omega, by omega, by omega⟩
      have c6 := h.set (p := p) (k := 6) (v := 1) hp (by omega) ⟨by omega, by omega, by omega, by omega, by omega, by omega, by omega⟩ (by omega)
      have c5 := c6.set (p := p) (k := 5) (v := 0) (by simp (disch := omega) only [un_ne]; exact hp) (by omega) ⟨by omega, by omega, by omega, by omega, by omega, by omega, by omega⟩ (by omega)
      have c4 := c5.set (p := p) (k := 4) (v := 0) (by simp (disch := omega) only [un_ne]; exact hp) (by omega) ⟨by omega, by omega, by omega, by omega, by omega, by omega, by omega⟩ (by omega)
      have c3 := c4.set (p := p) (k := 3) (v := 0) (by simp (disch := omega) only [un_ne]; exact hp) (by omega) ⟨by omega, by omega, by omega, by omega, by omega, by omega, by omega⟩ (by omega)
      have c1 := c3.set (p := p) (k := 1) (v := 0) (by simp (disch := omega) only [un_ne]; exact hp) (by omega) ⟨by omega, by omega, by omega, by omega, by omega, by omega, by omega⟩ (by omega)
      have c2 := c1.set (p := p) (k := 2) (v := 0) (by simp (disch := omega) only [un_ne]; exact hp) (by omega) ⟨by omega, by omega, by omega, by omega, by omega, by omega, by omega⟩ (by omega)
      generalize hT : un (un (un (un (un (un S (14 + 11 * p + 6) 1) (14 + 11 * p + 5) 0) (14 + 11 * p + 4) 0) (14 + 11 * p + 3) 0) (14 + 11 * p + 1) 0) (14 + 11 * p + 2) 0 = T at c2
      have tn : ∀ i, i < 14 + 11 * p + 1 ∨ 14 + 11 * p + 7 ≤ i → T i = S i := fun i hi => by rw [← hT]; simp (disch := omega) only [un_ne]
      have t3 : T (14 + 11 * p + 3) = 0 := by rw [← hT]; simp (maxSteps := 1000000) (disch := omega) only [li, ob1_s, ob2_s, ob3_s, ob4_s, ob5_s, ob6_s, ob7_s, gA_n, gL_n, sA_n, sL_n, cpI_n, nI_add, pk_mul, nsub, nlt_t, nlt_f, nle_t, nle_f, neq_t, neq_f, rmI_n, dvI_n, upd_ne, upd_eq, un_ne, un_eq, Nat.add_zero, Bool.false_eq_true, ↓reduceIte]
      have fT : Fra 0 S T := by
        rw [← hT]
        exact ((((((Fra.set S 1 (show p < 6 by omega) (show 6 < 7 by omega)).tr (Fra.set _ 0 (show p < 6 by omega) (show 5 < 7 by omega))).tr (Fra.set _ 0 (show p < 6 by omega) (show 4 < 7 by omega))).tr (Fra.set _ 0 (show p < 6 by omega) (show 3 < 7 by omega))).tr (Fra.set _ 0 (show p < 6 by omega) (show 1 < 7 by omega))).tr (Fra.set _ 0 (show p < 6 by omega) (show 2 < 7 by omega)))
      obtain ⟨row', a1, k1, -, k3⟩ := c2.wr (N := N) (p := p) (c := 1) (by rw [tn 1 (by omega)]; exact hp) (by omega) (by rw [tn 12 (by omega)]; exact hj)
      -- the reference's order
      have hA2 : TieA (upd (upd (upd (upd (upd (upd (upd a (14 + 11 * p + 3) (nI (S (14 + 11 * p + 3) + 1))) (14 + 11 * p + 6) (nI 1)) (14 + 11 * p + 1) (nI 0)) (14 + 11 * p + 2) (nI 0)) (14 + 11 * p + 3) (nI 0)) (14 + 11 * p + 4) (nI 0)) (14 + 11 * p + 5) (nI 0)) T := by
        have := (((((((hA.up (i := 14 + 11 * p + 3) (v := S (14 + 11 * p + 3) + 1) (by omega)).up (i := 14 + 11 * p + 6) (v := 1) (by omega)).up (i := 14 + 11 * p + 1) (v := 0) (by omega)).up (i := 14 + 11 * p + 2) (v := 0) (by omega)).up (i := 14 + 11 * p + 3) (v := 0) (by omega)).up (i := 14 + 11 * p + 4) (v := 0) (by omega)).up (i := 14 + 11 * p + 5) (v := 0) (by omega))
        refine this.cg (fun i hi => ?_)
        rw [← hT]
        rcases (show i = 14 + 11 * p + 1 ∨ i = 14 + 11 * p + 2 ∨ i = 14 + 11 * p + 3 ∨ i = 14 + 11 * p + 4 ∨ i = 14 + 11 * p + 5 ∨ i = 14 + 11 * p + 6 ∨ (i < 14 + 11 * p + 1 ∨ 14 + 11 * p + 7 ≤ i) by omega) with e | e | e | e | e | e | e
        · subst e; simp (maxSteps := 1000000) (disch := omega) only [li, ob1_s, ob2_s, ob3_s, ob4_s, ob5_s, ob6_s, ob7_s, gA_n, gL_n, sA_n, sL_n, cpI_n, nI_add, pk_mul, nsub, nlt_t, nlt_f, nle_t, nle_f, neq_t, neq_f, rmI_n, dvI_n, upd_ne, upd_eq, un_ne, un_eq, Nat.add_zero, Bool.false_eq_true, ↓reduceIte]
        · subst e; simp (maxSteps := 1000000) (disch := omega) only [li, ob1_s, ob2_s, ob3_s, ob4_s, ob5_s, ob6_s, ob7_s, gA_n, gL_n, sA_n, sL_n, cpI_n, nI_add, pk_mul, nsub, nlt_t, nlt_f, nle_t, nle_f, neq_t, neq_f, rmI_n, dvI_n, upd_ne, upd_eq, un_ne, un_eq, Nat.add_zero, Bool.false_eq_true, ↓reduceIte]
        · subst e; simp (maxSteps := 1000000) (disch := omega) only [li, ob1_s, ob2_s, ob3_s, ob4_s, ob5_s, ob6_s, ob7_s, gA_n, gL_n, sA_n, sL_n, cpI_n, nI_add, pk_mul, nsub, nlt_t, nlt_f, nle_t, nle_f, neq_t, neq_f, rmI_n, dvI_n, upd_ne, upd_eq, un_ne, un_eq, Nat.add_zero, Bool.false_eq_true, ↓reduceIte]
        · subst e; simp (maxSteps := 1000000) (disch := omega) only [li, ob1_s, ob2_s, ob3_s, ob4_s, ob5_s, ob6_s, ob7_s, gA_n, gL_n, sA_n, sL_n, cpI_n, nI_add, pk_mul, nsub, nlt_t, nlt_f, nle_t, nle_f, neq_t, neq_f, rmI_n, dvI_n, upd_ne, upd_eq, un_ne, un_eq, Nat.add_zero, Bool.false_eq_true, ↓reduceIte]
        · subst e; simp (maxSteps := 1000000) (disch := omega) only [li, ob1_s, ob2_s, ob3_s, ob4_s, ob5_s, ob6_s, ob7_s, gA_n, gL_n, sA_n, sL_n, cpI_n, nI_add, pk_mul, nsub, nlt_t, nlt_f, nle_t, nle_f, neq_t, neq_f, rmI_n, dvI_n, upd_ne, upd_eq, un_ne, un_eq, Nat.add_zero, Bool.false_eq_true, ↓reduceIte]
        · subst e; simp (maxSteps := 1000000) (disch := omega) only [li, ob1_s, ob2_s, ob3_s, ob4_s, ob5_s, ob6_s, ob7_s, gA_n, gL_n, sA_n, sL_n, cpI_n, nI_add, pk_mul, nsub, nlt_t, nlt_f, nle_t, nle_f, neq_t, neq_f, rmI_n, dvI_n, upd_ne, upd_eq, un_ne, un_eq, Nat.add_zero, Bool.false_eq_true, ↓reduceIte]
        · simp (maxSteps := 1000000) (disch := omega) only [li, ob1_s, ob2_s, ob3_s, ob4_s, ob5_s, ob6_s, ob7_s, gA_n, gL_n, sA_n, sL_n, cpI_n, nI_add, pk_mul, nsub, nlt_t, nlt_f, nle_t, nle_f, neq_t, neq_f, rmI_n, dvI_n, upd_ne, upd_eq, un_ne, un_eq, Nat.add_zero, Bool.false_eq_true, ↓reduceIte]
      obtain ⟨a', g3, g4⟩ := rWrite (N := N) (w := w) (p := p) (c := 1) hA2 (by omega) (by omega) (by rw [tn 10 (by omega)]; exact hW.2.1) (by rw [tn 12 (by omega)]; exact hj)
      refine ⟨0, row', a', _, ?_, ?_, by omega, ?_, ⟨k3.1, g4, k3.2.2⟩, (fT.tr (Fra.wr w T p 1)), ?_⟩
      · have r3 := hR.2.2.1
        have e7 : p * 7 = 7 * p := Nat.mul_comm _ _
        simp (maxSteps := 1000000) (disch := omega) only [li, ob1_s, ob2_s, ob3_s, ob4_s, ob5_s, ob6_s, ob7_s, gA_n, gL_n, sA_n, sL_n, cpI_n, nI_add, pk_mul, nsub, nlt_t, nlt_f, nle_t, nle_f, neq_t, neq_f, rmI_n, dvI_n, upd_ne, upd_eq, un_ne, un_eq, Nat.add_zero, Bool.false_eq_true, ↓reduceIte, f_X0_summon, f_X0_castOut, cAliv hR hW hp, cOutl hR hW hp, e1, e3, cLand_in, cget hR w1, hla, f_X1_set, f_X1_told, r3, e7, k1]
      · obtain ⟨n, rfl⟩ : ∃ n, N = n + 10 := ⟨N - 10, by omega⟩
        have ga : f_X12_get (n + 10) (upd a (14 + 11 * p + 3) (nI (S (14 + 11 * p + 3) + 1))) (nI p) (nI 3) = some (nI (S (14 + 11 * p + 3) + 1)) := by simp (maxSteps := 1000000) (disch := omega) only [li, ob1_s, ob2_s, ob3_s, ob4_s, ob5_s, ob6_s, ob7_s, gA_n, gL_n, sA_n, sL_n, cpI_n, nI_add, pk_mul, nsub, nlt_t, nlt_f, nle_t, nle_f, neq_t, neq_f, rmI_n, dvI_n, upd_ne, upd_eq, un_ne, un_eq, Nat.add_zero, Bool.false_eq_true, ↓reduceIte, f_X12_get]
        simp (maxSteps := 1000000) (disch := omega) only [li, ob1_s, ob2_s, ob3_s, ob4_s, ob5_s, ob6_s, ob7_s, gA_n, gL_n, sA_n, sL_n, cpI_n, nI_add, pk_mul, nsub, nlt_t, nlt_f, nle_t, nle_f, neq_t, neq_f, rmI_n, dvI_n, upd_ne, upd_eq, un_ne, un_eq, Nat.add_zero, Bool.false_eq_true, ↓reduceIte, f_X12_callNow, rget hA, hla, rput, ga, f_X12_callNow_59, g3, Nat.reduceAdd]
      · rw [aWr_o (by omega) (by omega), t3]
      · rw [aWr_o (by omega) (by omega), tn 10 (by omega)]
/-- a deed done as a step -/
theorem RealmT.deed {j : Nat} {dn : Int32} {df dr row fe to : Nat → Int32} {cnt next : Int32} {store : Nat → Int32} {calls bord rep unl pay : Int32} {cl ul ga py pr : Nat → Int32} {tx rul : Int32} {a : Nat → Int32} {S : Nat → Nat} (h : RealmT j dn df dr row fe to cnt next store calls bord rep unl pay cl ul ga py pr tx rul a S) {n nx : Nat} {row' a' : Nat → Int32} {T : Nat → Nat} (hn : nx < 31) (hnx : next = nI nx) (hG : Good true (T 10) row' a' T) (hf : Fra n (kpS S) T) (hn2 : n ≤ 240) :
    (∀ j', T 12 ≤ 20000 * j' → RealmT j' dn df dr row' fe to (nI (min (S 4 + 1) 30)) (nI ((nx + 1) % 31)) (va_cpy row store 0 (76 * nx) 76) calls bord rep unl pay cl ul ga py pr tx rul a' T) ∧ T 2 = S 2 ∧ T 12 ≤ S 12 + n := by
  obtain ⟨hA, hL, hR, hW, hF, hB, hZ, hQ, hI, hj⟩ := h
  subst hnx
  obtain ⟨⟨gR, gB⟩, gA, gW, gO, g8⟩ := hG
  obtain ⟨f1, f2, f3, f4, f5⟩ := id hf
  have w1 := hW.1
  have e : ∀ i, i ≠ 4 → i < 142 → ¬ (i = 10 ∨ i = 11 ∨ i = 12 ∨ (14 ≤ i ∧ i < 80)) → T i = S i := fun i h4 h1 h2 => by rw [f1 i (by omega), kp_o (by omega) h4]
  have e0 := e 0 (by omega) (by omega) (by omega)
  have e1 := e 1 (by omega) (by omega) (by omega)
  have k12 : kpS S 12 = S 12 := kp_o (by omega) (by omega)
  have k1 : kpS S 1 = S 1 := kp_o (by omega) (by omega)
  refine ⟨fun j' hj' => ⟨gA, hL.cg (fun i hi => e i (by omega) (by omega) (by omega)), gR, FolkW.of gW gO, ?_, gB rfl, ?_, hQ.cg (fun i hi => e i (by omega) (by omega) (by omega)) (by omega) (by omega), hI.cg (fun i hi => e i (by omega) (by omega) (by omega)), hj'⟩, e 2 (by omega) (by omega) (by omega), by omega⟩
  · intro p hp
    have ee : ∀ k, 7 ≤ k → k < 11 → T (14 + 11 * p + k) = S (14 + 11 * p + k) := fun k h7 h11 => by rw [f2 p k (by omega) h7 h11, kp_o (by omega) (by omega)]
    rw [ee 7 (by omega) (by omega), ee 8 (by omega) (by omega), ee 9 (by omega) (by omega), ee 10 (by omega) (by omega), e0]
    exact hF p (by omega)
  · have := (hZ.keep hn hR hW hB).fra hf hn2 (by omega)
    obtain ⟨z1, z2, nx', z3, z4, z5⟩ := this
    exact ⟨z1, z2, nx', z3, z4, fun k hk => by obtain ⟨q1, q2, q3, q4⟩ := z5 k hk; exact ⟨q1, q2, by omega, q4⟩⟩
theorem RealmT.good {j : Nat} {dn : Int32} {df dr row fe to : Nat → Int32} {cnt next : Int32} {store : Nat → Int32} {calls bord rep unl pay : Int32} {cl ul ga py pr : Nat → Int32} {tx rul : Int32} {a : Nat → Int32} {S : Nat → Nat} (h : RealmT j dn df dr row fe to cnt next store calls bord rep unl pay cl ul ga py pr tx rul a S) {nx : Nat} {a' : Nat → Int32} (hA' : TieA a' (kpS S)) : Good true (S 10) row a' (kpS S) := by
  obtain ⟨hA, hL, hR, hW, hF, hB, hZ, hQ, hI, hj⟩ := h
  have w1 := hW.1
  have e : ∀ i, i ≠ 4 → (i < 142 ∨ 1522 ≤ i) → kpS S i = S i := fun i h4 h1 => kp_o h1 h4
  refine ⟨⟨hR.cg (fun i hi => e i (by omega) (by omega)) w1, fun _ => ?_⟩, hA', hW.x.cg (fun i hi => e i (by omega) (by omega)), hW.ob.cg (e 1 (by omega) (by omega)) (fun p hp => e _ (by omega) (by omega)), by rw [e 0 (by omega) (by omega)]; exact hL.2.1⟩
  rw [e 12 (by omega) (by omega)]
  exact hB.cg (fun i hi => e i (by omega) (by omega))
/-- nothing done, but the free slot written -/
theorem RealmT.idle {j : Nat} {dn : Int32} {df dr row fe to : Nat → Int32} {cnt next : Int32} {store : Nat → Int32} {calls bord rep unl pay : Int32} {cl ul ga py pr : Nat → Int32} {tx rul : Int32} {a : Nat → Int32} {S : Nat → Nat} (h : RealmT j dn df dr row fe to cnt next store calls bord rep unl pay cl ul ga py pr tx rul a S) {nx : Nat} (hn : nx < 31) (hnx : next = nI nx) : RealmT (j + 1) dn df dr row fe to cnt next (va_cpy row store 0 (76 * nx) 76) calls bord rep unl pay cl ul ga py pr tx rul a S := by
  obtain ⟨hA, hL, hR, hW, hF, hB, hZ, hQ, hI, hj⟩ := h
  subst hnx
  exact ⟨hA, hL, hR, hW, hF, hB, hZ.ahead hn hW.1, hQ, hI, by omega⟩
theorem st_call {j : Nat} {dn : Int32} {df dr row fe to : Nat → Int32} {cnt next : Int32} {store : Nat → Int32} {calls bord rep unl pay : Int32} {cl ul ga py pr : Nat → Int32} {tx rul : Int32} {a : Nat → Int32} {S : Nat → Nat} {N : Nat} (hN : 10000 ≤ N) (hJ : j ≤ 20000) (x y : Int32) (h : RealmT j dn df dr row fe to cnt next store calls bord rep unl pay cl ul ga py pr tx rul a S) :
    ∃ (r : Int32) (row' : Nat → Int32) (cnt' next' : Int32) (store' a' : Nat → Int32) (S' : Nat → Nat), f_X11_call N dn row cnt next store x y = some (r, row', cnt', next', store') ∧ f_X12_call N a (nI 1) x y = some (r, a') ∧ RealmT (j + 1) dn df dr row' fe to cnt' next' store' calls bord rep unl pay cl ul ga py pr tx rul a' S' ∧ S' 2 = S 2 ∧ Ans r := by
  have h0 := h
  obtain ⟨hA, hL, hR, hW, hF, hB, hZ, hQ, hI, hj⟩ := h
  obtain ⟨h1, h8, -⟩ := id hL
  subst h1
  obtain ⟨z1, z2, nx, z3, z4, -⟩ := id hZ
  have w1 := hW.1
  have no : (Out x (S 1) ∨ Out y (S 0) ∨ ∃ p, p < S 1 ∧ x = nI p ∧ (S (14 + 11 * p + 6) = 1 ∨ S (14 + 11 * p + 6) = 3)) → ∃ (r : Int32) (row' : Nat → Int32) (cnt' next' : Int32) (store' a' : Nat → Int32) (S' : Nat → Nat), f_X11_call N (nI (S 0)) row cnt next store x y = some (r, row', cnt', next', store') ∧ f_X12_call N a (nI 1) x y = some (r, a') ∧ RealmT (j + 1) (nI (S 0)) df dr row' fe to cnt' next' store' calls bord rep unl pay cl ul ga py pr tx rul a' S' ∧ S' 2 = S 2 ∧ Ans r := by
    intro hn
    obtain ⟨g1, g2⟩ := dCall_no (N := N) hR hA hW.x h8 hn
    refine ⟨-nI 1, row, cnt, next, _, a, S, ?_, ?_, h0.idle z3 z4, rfl, Or.inl rfl⟩
    · rw [z4]
      simp only [f_X11_call, cAhead z3, g1, li, ob1_s, ob2_s, ↓reduceIte]
    · simp only [f_X12_call, g2, li, ob1_s, ↓reduceIte]
  rcases inOut x (S 1) (by omega) with hx | ⟨p, hp, rfl⟩
  · exact no (Or.inl hx)
  rcases inOut y (S 0) (by omega) with hy | ⟨l, hl, rfl⟩
  · exact no (Or.inr (Or.inl hy))
  by_cases e1 : S (14 + 11 * p + 6) = 1
  · exact no (Or.inr (Or.inr ⟨p, hp, rfl, Or.inl e1⟩))
  by_cases e3 : S (14 + 11 * p + 6) = 3
  · exact no (Or.inr (Or.inr ⟨p, hp, rfl, Or.inr e3⟩))
  obtain ⟨a1, k1, k2⟩ := rKeep hN hA z2
  have hG := h0.good (nx := nx) k2
  have ee : ∀ i, i ≠ 4 → i < 142 → kpS S i = S i := fun i h4 h1 => kp_o (by omega) h4
  obtain ⟨r, row', a', S', d1, d2, d3, d4, d5, d6, d7⟩ := dCall (N := N) (w := true) (p := p) (l := l) (by omega) hG (by rw [ee 1 (by omega) (by omega)]; exact hp) (by rw [ee 0 (by omega) (by omega)]; exact hl) (by rw [ee _ (by omega) (by omega)]; exact e1) (by rw [ee _ (by omega) (by omega)]; exact e3) (by rw [ee 12 (by omega) (by omega)]; omega)
  rw [ee 0 (by omega) (by omega)] at d1
  rw [ee 10 (by omega) (by omega)] at d7
  obtain ⟨q1, q2, q3⟩ := h0.deed (n := 1) (nx := nx) z3 z4 (by rw [d7]; exact d5) d6 (by omega)
  refine ⟨nI r, row', _, _, _, a', S', ?_, ?_, q1 (j + 1) (by omega), q2, Or.inr ⟨r, by omega, rfl⟩⟩
  · rw [z4]
    have hm : ¬ nI r = -nI 1 := m1_ne (by omega)
    simp only [f_X11_call, cAhead z3, d1, z1, li, ob1_s, ob2_s, hm, cKeep z3 z2, ↓reduceIte]
  · have gg : f_X12_get N a' (nI p) (nI 3) = some (nI r) := by rw [rget d5.2.1 (by omega) (by omega), d4]
    have d2 : f_X12_callNow N a1 (nI 1) (nI p) (nI l) = some a' := d2
    simp (maxSteps := 1000000) (disch := omega) only [li, ob1_s, ob2_s, ob3_s, ob4_s, ob5_s, ob6_s, ob7_s, gA_n, gL_n, sA_n, sL_n, cpI_n, nI_add, pk_mul, nsub, nlt_t, nlt_f, nle_t, nle_f, neq_t, neq_f, rmI_n, dvI_n, upd_ne, upd_eq, un_ne, un_eq, Nat.add_zero, Bool.false_eq_true, ↓reduceIte, f_X12_call, dCall_yes hA hW.x h8 hp hl e1 e3, k1, d2, gg]
