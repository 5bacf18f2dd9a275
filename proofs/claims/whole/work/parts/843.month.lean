theorem mnI_n {x y : Nat} (hx : x < 2147483648) (hy : y < 2147483648) : mnI (nI x) (nI y) = nI (min x y) := by
  unfold mnI
  by_cases h : y < x
  · rw [if_pos ((nlt hy hx).mpr h), Nat.min_eq_right (by omega)]
  · rw [if_neg (fun g => h ((nlt hy hx).mp g)), Nat.min_eq_left (by omega)]
theorem rCutN {N v top : Nat} (hv : v < 2147483648) (ht : top < 2147483648) : f_X12_cut N (nI v).toInt64 (nI 0) (nI top) = some (nI (min v top)) := by
  have := rCut (N := N) (z := v) (top := top) (by omega) (by omega) ht
  rw [nIl hv, lI_n, this]
  congr 3
theorem dEarn {N : Nat} {w : Bool} {b p : Nat} {tcl : Int32} {tcd tst ten trw : Nat → Int32} {ucl : Int32} {ucd ust uen urw : Nat → Int32} {wcl : Int32} {wcd wst wen wrw : Nat → Int32} {xcl : Int32} {xcd xst xen xrw : Nat → Int32} {vt : Nat → Int32} {tx rul dn : Int32} {df dr fe row a nm0 nd0 stack truth : Nat → Int32} {values : Nat → Int64} {S : Nat → Nat} (died : Int32) (hN : 10000 ≤ N) (hE : LE N tcl tcd tst ten trw ucl ucd ust uen urw wcl wcd wst wen wrw xcl xcd xst xen xrw vt tx rul dn df dr fe S) (h : Good w b row a S) (hp : p < S 1) (e1 : S (14 + 11 * p + 6) ≠ 1) (e3 : S (14 + 11 * p + 6) ≠ 3) :
    ∃ row' nm' stack' a' nd' values' truth' S', f_X0_earn N dn df tcd tst ten ucd ust uen wcd wst wen xcd xst xen row fe tx rul nm0 stack (nI p) = some (row', nm', stack') ∧ f_X12_live N a vt nd0 values truth (wI w) died (nI p) = some (a', nd', values', truth', died) ∧ Good w b row' a' S' ∧ Fra 0 S S' ∧ (∀ i, i ≠ 14 + 11 * p + 1 → S' i = S i) := by
  obtain ⟨⟨hR, hB⟩, hA, hW, hO, h8⟩ := id h
  have w1 := hW.1
  obtain ⟨p0, p1, p2, p3, p4, p5, p6⟩ := hW.part hp
  obtain ⟨v, nm', stack', nd', values', truth', g1, g2, g3⟩ := dEar (nm0 := nm0) (nd0 := nd0) (stack := stack) (truth := truth) (values := values) hN hE hR hA hW hp
  have hm := Nat.min_le_right (S (14 + 11 * p + 1) + v) 9999
  have c := h.set (p := p) (k := 1) (v := min (S (14 + 11 * p + 1) + v) 9999) hp (by omega) ⟨by omega, fun _ => hm, by omega, by omega, by omega, by omega, by omega⟩ (by omega)
  refine ⟨_, nm', stack', _, nd', values', truth', _, ?_, ?_, c, Fra.set S _ (by omega) (by omega), fun i hi => un_ne hi⟩
  · simp (maxSteps := 1000000) (disch := omega) only [li, ob1_s, ob2_s, ob3_s, ob4_s, ob5_s, ob6_s, ob7_s, gA_n, gL_n, sA_n, sL_n, cpI_n, nI_add, pk_mul, nsub, nlt_t, nlt_f, nle_t, nle_f, neq_t, neq_f, rmI_n, dvI_n, upd_ne, upd_eq, un_ne, un_eq, Nat.add_zero, Bool.false_eq_true, ↓reduceIte, f_X0_earn, cget hR w1, g2, mnI_n, cset hR w1]
  · simp (maxSteps := 1000000) (disch := omega) only [li, ob1_s, ob2_s, ob3_s, ob4_s, ob5_s, ob6_s, ob7_s, gA_n, gL_n, sA_n, sL_n, cpI_n, nI_add, pk_mul, nsub, nlt_t, nlt_f, nle_t, nle_f, neq_t, neq_f, rmI_n, dvI_n, upd_ne, upd_eq, un_ne, un_eq, Nat.add_zero, Bool.false_eq_true, ↓reduceIte, f_X12_live, rget hA, e1, e3, g3, rCutN, rput]
theorem dHide {N : Nat} {w : Bool} {b p : Nat} {tcl : Int32} {tcd tst ten trw : Nat → Int32} {ucl : Int32} {ucd ust uen urw : Nat → Int32} {wcl : Int32} {wcd wst wen wrw : Nat → Int32} {xcl : Int32} {xcd xst xen xrw : Nat → Int32} {vt : Nat → Int32} {tx rul dn : Int32} {df dr fe row a nm0 nd0 stack truth : Nat → Int32} {values : Nat → Int64} {S : Nat → Nat} (died : Int32) (hN : 10000 ≤ N) (hE : LE N tcl tcd tst ten trw ucl ucd ust uen urw wcl wcd wst wen wrw xcl xcd xst xen xrw vt tx rul dn df dr fe S) (h : Good w b row a S) (hp : p < S 1) (e1 : S (14 + 11 * p + 6) = 1) (hob : S (14 + 11 * p + 5) + 1 ≤ b) (hb : b ≤ 9999) (hj : S 12 < 2147483000) :
    ∃ d row' nm' stack' a' nd' values' truth' S', d ≤ 1 ∧ f_X0_hide N dn df tcd tst ten ucd ust uen wcd wst wen xcd xst xen row fe tx rul nm0 stack (nI p) = some (nI (1 - d), row', nm', stack') ∧ f_X12_live N a vt nd0 values truth (wI w) died (nI p) = some (a', nd', values', truth', if d = 1 then died + nI 1 else died) ∧ Good w b row' a' S' ∧ Fra 1 S S' ∧ S' 10 = S 10 ∧ (∀ q, q ≠ p → q < 6 → S' (14 + 11 * q + 5) = S (14 + 11 * q + 5)) ∧ (w = false → S' 12 = S 12) := by
  obtain ⟨⟨hR, hB⟩, hA, hW, hO, h8⟩ := id h
  have w1 := hW.1
  obtain ⟨p0, p1, p2, p3, p4, p5, p6⟩ := hW.part hp
  obtain ⟨v, nm', stack', nd', values', truth', g1, g2, g3⟩ := dHun (nm0 := nm0) (nd0 := nd0) (stack := stack) (truth := truth) (values := values) hN hE hR hA hW hp
  have hm := Nat.min_le_right (S (14 + 11 * p + 4) + v) 9
  have n13 : ¬ (1 : Nat) = 3 := by omega
  have n01 : ¬ (0 : Nat) = 1 := by omega
  have hob' : S (14 + 11 * p + 5) + 1 ≤ 9999 := Nat.le_trans hob hb
  have c := h.set (p := p) (k := 4) (v := min (S (14 + 11 * p + 4) + v) 9) hp (by omega) ⟨by omega, by omega, by omega, by omega, fun _ => hm, by omega, by omega⟩ (by omega)
  generalize hH : min (S (14 + 11 * p + 4) + v) 9 = H at *
  obtain ⟨⟨cR, cB⟩, cA, cW, cO, c8⟩ := id c
  have u1 : un S (14 + 11 * p + 4) H 1 = S 1 := un_ne (by omega)
  have u12 : un S (14 + 11 * p + 4) H 12 = S 12 := un_ne (by omega)
  have f1 : Fra 0 S (un S (14 + 11 * p + 4) H) := Fra.set S _ (by omega) (by omega)
  have rg4 : f_X12_get N (upd a (14 + 11 * p + 4) (nI H)) (nI p) (nI 4) = some (nI H) := by simp (maxSteps := 1000000) (disch := omega) only [li, ob1_s, ob2_s, ob3_s, ob4_s, ob5_s, ob6_s, ob7_s, gA_n, gL_n, sA_n, sL_n, cpI_n, nI_add, pk_mul, nsub, nlt_t, nlt_f, nle_t, nle_f, neq_t, neq_f, rmI_n, dvI_n, upd_ne, upd_eq, un_ne, un_eq, Nat.add_zero, Bool.false_eq_true, ↓reduceIte, f_X12_get]
  by_cases h9 : H = 9
  · have c6 := c.set (p := p) (k := 6) (v := 3) (by rw [u1]; exact hp) (by omega) ⟨by omega, by omega, by omega, by omega, by omega, by omega, by omega⟩ (by omega)
    obtain ⟨row', a', k1, k2, k3⟩ := c6.wr (N := N) (p := p) (c := 3) (by rw [un_ne (by omega), u1]; exact hp) (by omega) (by rw [un_ne (by omega), u12]; exact hj)
    refine ⟨1, row', nm', stack', a', nd', values', truth', _, by omega, ?_, ?_, k3, (f1.tr (Fra.set _ _ (by omega) (by omega))).tr (Fra.wr w _ p 3), ?_, fun q hq hq6 => ?_, fun hw => by rw [aWr_f hw, un_ne (by omega), u12]⟩
    · have h9' : nI H = nI 9 := congrArg nI h9
      simp (maxSteps := 1000000) (disch := omega) only [li, ob1_s, ob2_s, ob3_s, ob4_s, ob5_s, ob6_s, ob7_s, gA_n, gL_n, sA_n, sL_n, cpI_n, nI_add, pk_mul, nsub, nlt_t, nlt_f, nle_t, nle_f, neq_t, neq_f, rmI_n, dvI_n, upd_ne, upd_eq, un_ne, un_eq, Nat.add_zero, Bool.false_eq_true, ↓reduceIte, f_X0_hide, cget hR w1, g2, mnI_n, hH, cset hR w1, cset cR cW.1, k1]
    · simp (maxSteps := 1000000) (disch := omega) only [li, ob1_s, ob2_s, ob3_s, ob4_s, ob5_s, ob6_s, ob7_s, gA_n, gL_n, sA_n, sL_n, cpI_n, nI_add, pk_mul, nsub, nlt_t, nlt_f, nle_t, nle_f, neq_t, neq_f, rmI_n, dvI_n, upd_ne, upd_eq, un_ne, un_eq, Nat.add_zero, Bool.false_eq_true, ↓reduceIte, f_X12_live, f_X12_die, rget hA, e1, n13, g3, rCutN, hH, rput, rg4, k2]
    · rw [aWr_o (by omega) (by omega), un_ne (by omega), un_ne (by omega)]
    · rw [aWr_o (by omega) (by omega), un_ne (by omega), un_ne (by omega)]
  · have hE2 := hE.fra w1 f1
    obtain ⟨v2, nm2, stack2, nd2, values2, truth2, q1, q2, q3⟩ := dFinO (nm0 := nm') (nd0 := nd') (stack := stack') (truth := truth') (values := values') (p := p) hN hE2 cR cA cW (by rw [u1]; exact hp)
    have ul : un S (14 + 11 * p + 4) H (14 + 11 * p) = S (14 + 11 * p) := un_ne (by omega)
    rw [ul] at q2
    have cx := cDraw (N := N) cR cW.2.2.1
    have rx := rDraw (N := N) cA cW.2.2.1
    have cd := c.dr
    have ux11 : un S (14 + 11 * p + 4) H 11 = S 11 := un_ne (by omega)
    rw [ux11] at cx rx cd
    have ua : aDr (un S (14 + 11 * p + 4) H) = un (un S (14 + 11 * p + 4) H) 11 ((S 11 * 379 + 257) % 30469) := by unfold aDr; rw [ux11]
    rw [ua] at cd
    have f2 : Fra 0 S (un (un S (14 + 11 * p + 4) H) 11 ((S 11 * 379 + 257) % 30469)) := f1.tr (Fra.x _ _)
    have hx := hW.2.2.1
    have hd10 : S 11 % 10 < 10 := Nat.mod_lt _ (by omega)
    obtain ⟨⟨dR, dB⟩, dA, dW, dO, d8⟩ := id cd
    have v1 : un (un S (14 + 11 * p + 4) H) 11 ((S 11 * 379 + 257) % 30469) 1 = S 1 := by rw [un_ne (by omega), u1]
    have v5 : un (un S (14 + 11 * p + 4) H) 11 ((S 11 * 379 + 257) % 30469) (14 + 11 * p + 5) = S (14 + 11 * p + 5) := by rw [un_ne (by omega), un_ne (by omega)]
    by_cases hf : v2 ≤ S 11 % 10
    · have hmn : mnI (nI (S (14 + 11 * p + 5) + 1)) (nI 9999) = nI (S (14 + 11 * p + 5) + 1) := by
        have hlt : S (14 + 11 * p + 5) + 1 < 2147483648 := Nat.lt_of_le_of_lt hob' (by decide)
        rw [mnI_n hlt (by decide), Nat.min_eq_left hob']
      have c5 := cd.set (p := p) (k := 5) (v := S (14 + 11 * p + 5) + 1) (by rw [v1]; exact hp) (by decide) ⟨fun h => absurd h (by decide), fun h => absurd h (by decide), fun h => absurd h (by decide), fun h => absurd h (by decide), fun h => absurd h (by decide), fun _ => hob', fun h => absurd h (by decide)⟩ (fun _ => hob)
      have cg5 := cget (N := N) (p := p) (k := 5) dR dW.1 (by rw [v1]; exact hp) (by omega)
      have rg5 := rget (N := N) (p := p) (k := 5) dA (by omega) (by omega)
      rw [v5] at cg5 rg5
      refine ⟨0, _, nm2, stack2, _, nd2, values2, truth2, _, by omega, ?_, ?_, c5, (f2.tr (Fra.set _ _ (by omega) (by omega))).mn (by omega), ?_, fun q hq hq6 => ?_, fun _ => by rw [un_ne (by omega), un_ne (by omega), u12]⟩
      · simp (maxSteps := 1000000) (disch := omega) only [li, ob1_s, ob2_s, ob3_s, ob4_s, ob5_s, ob6_s, ob7_s, gA_n, gL_n, sA_n, sL_n, cpI_n, nI_add, pk_mul, nsub, nlt_t, nlt_f, nle_t, nle_f, neq_t, neq_f, rmI_n, dvI_n, upd_ne, upd_eq, un_ne, un_eq, Nat.add_zero, Bool.false_eq_true, ↓reduceIte, f_X0_hide, cget hR w1, g2, mnI_n, hH, cset hR w1, q2, cx, cg5, hmn, cset dR dW.1]
      · simp (maxSteps := 1000000) (disch := omega) only [li, ob1_s, ob2_s, ob3_s, ob4_s, ob5_s, ob6_s, ob7_s, gA_n, gL_n, sA_n, sL_n, cpI_n, nI_add, pk_mul, nsub, nlt_t, nlt_f, nle_t, nle_f, neq_t, neq_f, rmI_n, dvI_n, upd_ne, upd_eq, un_ne, un_eq, Nat.add_zero, Bool.false_eq_true, ↓reduceIte, f_X12_live, rget hA, e1, n13, g3, rCutN, hH, rput, rg4, q3, rx, rg5, n01]
      · rw [un_ne (by omega), un_ne (by omega), un_ne (by omega)]
      · rw [un_ne (by omega), un_ne (by omega), un_ne (by omega)]
    · have c6 := cd.set (p := p) (k := 6) (v := 3) (by rw [v1]; exact hp) (by omega) ⟨by omega, by omega, by omega, by omega, by omega, by omega, by omega⟩ (by omega)
      obtain ⟨row', a', k1, k2, k3⟩ := c6.wr (N := N) (p := p) (c := 4) (by rw [un_ne (by omega), v1]; exact hp) (by omega) (by rw [un_ne (by omega), un_ne (by omega), u12]; exact hj)
      refine ⟨1, row', nm2, stack2, a', nd2, values2, truth2, _, by omega, ?_, ?_, k3, (f2.tr (Fra.set _ _ (by omega) (by omega))).tr (Fra.wr w _ p 4), ?_, fun q hq hq6 => ?_, fun hw => by rw [aWr_f hw, un_ne (by omega), un_ne (by omega), u12]⟩
      · simp (maxSteps := 1000000) (disch := omega) only [li, ob1_s, ob2_s, ob3_s, ob4_s, ob5_s, ob6_s, ob7_s, gA_n, gL_n, sA_n, sL_n, cpI_n, nI_add, pk_mul, nsub, nlt_t, nlt_f, nle_t, nle_f, neq_t, neq_f, rmI_n, dvI_n, upd_ne, upd_eq, un_ne, un_eq, Nat.add_zero, Bool.false_eq_true, ↓reduceIte, f_X0_hide, cget hR w1, g2, mnI_n, hH, cset hR w1, q2, cx, cset dR dW.1, k1]
      · simp (maxSteps := 1000000) (disch := omega) only [li, ob1_s, ob2_s, ob3_s, ob4_s, ob5_s, ob6_s, ob7_s, gA_n, gL_n, sA_n, sL_n, cpI_n, nI_add, pk_mul, nsub, nlt_t, nlt_f, nle_t, nle_f, neq_t, neq_f, rmI_n, dvI_n, upd_ne, upd_eq, un_ne, un_eq, Nat.add_zero, Bool.false_eq_true, ↓reduceIte, f_X12_live, f_X12_die, rget hA, e1, n13, g3, rCutN, hH, rput, rg4, q3, rx, k2]
      · rw [aWr_o (by omega) (by omega), un_ne (by omega), un_ne (by omega), un_ne (by omega)]
      · rw [aWr_o (by omega) (by omega), un_ne (by omega), un_ne (by omega), un_ne (by omega)]
