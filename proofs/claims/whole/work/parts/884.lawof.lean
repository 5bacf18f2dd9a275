/-! a law, read on both sides -/
section
variable {N n t0 lw w0 : Nat} {K Nu Pl : Nat → Nat} {RL : RLT} {tape : Nat → Int32} {taped : Int32} {vt0 : Nat → Int32} {bl : Int32} {ki pl nu : Nat → Int32}
theorem dLaw (h : HX N n t0 lw K Nu Pl RL tape taped ki pl nu) {i l w x : Nat} {vt cd en pile : Nat → Int32} {at_ pl_ tk num : Int32} {wd : Int64} {ft pc law0 piled opens wh : Int32} (hin : i < n) (hr : RL i at_ pl_ tk num wd) (hl : l ≤ i) (hw : w ≤ i) (hx : t0 < x ∧ x + 2 < t0 + 121) :
    (∃ (f j : Nat) (l' : Int32) (cd' vt' pile' : Nat → Int32) (at' pl' tk' nu' : Int32) (wd' : Int64) (wr' piled' opens' wh' : Int32), f_X5_lawOf N bl (nI n) ki pl nu (nI l) cd en ft pc (nI i) law0 (nI lw) = some (nI 0, l', cd', en, nI f, nI (Pl j), nI j, nI lw) ∧ f_X12_lawClause N vt tape taped at_ pl_ tk num wd (nI t0) (nI w) (nI lw) pile piled opens wh (nI x) = some (nI f, vt', at', pl', tk', nu', wd', wr', pile', piled', opens', wh') ∧ 1 ≤ f ∧ f ≤ 6 ∧ j < n ∧ RL j at' pl' tk' nu' wd' ∧ ∀ q, (q < t0 ∨ t0 + 729 ≤ q) → vt' q = vt q) ∨
    (∃ (i' l' : Nat) (cd' vt' pile' : Nat → Int32) (R : List (Nat × Nat)) (at' pl' tk' nu' : Int32) (wd' : Int64) (piled' opens' wh' : Int32), f_X5_lawOf N bl (nI n) ki pl nu (nI l) cd en ft pc (nI i) law0 (nI lw) = some (nI 1, nI l', cd', upd en lw (nI l'), ft, pc, nI i', nI lw) ∧ f_X12_lawClause N vt tape taped at_ pl_ tk num wd (nI t0) (nI w) (nI lw) pile piled opens wh (nI x) = some (nI 0, vt', at', pl', tk', nu', wd', nI (w + R.length), pile', piled', opens', wh') ∧ RL i' at' pl' tk' nu' wd' ∧ i < i' ∧ i' < n ∧ l' + i ≤ l + i' ∧ w + R.length ≤ i' ∧ VSeg N cd' l l' R 43 ∧ (∀ k, k < l → cd' k = cd k) ∧ vt' (x + 1) = nI w ∧ vt' (x + 2) = nI (w + R.length) ∧ RCd vt' (t0 + 121 + 2 * w) R ∧ ∀ q, q ≠ x + 1 → q ≠ x + 2 → (q < t0 + 121 + 2 * w ∨ t0 + 729 ≤ q) → vt' q = vt q) := by
  have n3 := h.1.2.1
  have hN := h.2.1
  have ht0 := h.2.2.1
  have hlw := h.2.2.2.1
  have h10 : (nI 1 = nI 0) = False := eq_false (by decide)
  have hS : Sm n w i [] [] := ⟨by show w + 0 + 0 ≤ i; omega, hin, by show 0 ≤ 100; omega⟩
  have sm := (pAll (law := lw) (w0 := w) (vt0 := upd vt (x + 1) (nI w)) (bl := bl) h 100).1 0 i l cd ft pc [] [] (by omega) (by omega) rfl (by show 0 ≤ 3; omega) trivial (Or.inr (by decide)) hS hl
  have c0 : f_X5_sum N bl (nI n) ki pl nu (nI l) cd ft pc (nI i) (nI lw) (nI 0) = QA N n 100 0 bl ki pl nu lw l cd ft pc i 0 := rfl
  have rc : RC RL t0 w (upd vt (x + 1) (nI w)) i [] [] (upd vt (x + 1) (nI w), at_, pl_, tk, num, wd, nI w, pile, nI 0, nI 0) := ⟨hr, trivial, rfl, rfl, rfl, trivial, fun _ _ => rfl⟩
  have sm0 : f_X12_summed N (upd vt (x + 1) (nI w)) tape taped at_ pl_ tk num wd (nI t0) (nI w) (nI lw) pile piled opens wh = F15 N N tape taped t0 lw (upd vt (x + 1) (nI w), at_, pl_, tk, num, wd, nI w, pile, nI 0, nI 0) (nI 0) := rfl
  rcases sm with ⟨l', i', cd', Q, R', c1, c2, c3, c4, c5, c6, c7, c8, c9, c10, c11⟩ | ⟨f, j, l', cd', c1, c2, c3, c4, c5⟩
  · rw [c1] at c0
    rw [List.append_nil, List.nil_append] at c9
    obtain ⟨s1, g1, g2⟩ := c9.2 _ rc
    have opq : opw Q = none := by
      have := opw_q (k := 5) (P := []) (by omega) c6
      rw [List.append_nil] at this
      exact this
    have bt : btw (K i') Q = none := by
      unfold btw
      rw [if_neg c11.1, if_neg c11.2.1, if_neg c11.2.2.1, if_neg c11.2.2.2, if_neg (by rw [opq]; exact fun q => by cases q)]
    have hS2 : Sm n w i' Q R' := ⟨by omega, c3, by omega⟩
    obtain ⟨s2, g3, g4⟩ := bhDone (law := lw) h.1 hN ht0 hS2 bt opq s1 g1
    obtain ⟨e1, e2⟩ := sE_app (k := 1) (P := []) trivial (c6.mono (by omega))
    rw [List.append_nil] at e1 e2
    rw [e1, e2] at g3
    obtain ⟨m, hm⟩ : ∃ m, N = m + 1 + (i' - i) := ⟨N - 1 - (i' - i), by omega⟩
    have run : F15 N N tape taped t0 lw (upd vt (x + 1) (nI w), at_, pl_, tk, num, wd, nI w, pile, nI 0, nI 0) 0 = some (outS (nI 0) s2 1) := by
      have a1 := g2 (m + 1)
      rw [← hm] at a1
      rw [a1, g4 m]
    obtain ⟨vt2, at2, pl2, tk2, nu2, wd2, wr2, pile2, piled2, opens2⟩ := s2
    obtain ⟨r1, r2, r3, r4, r5, r6, r7⟩ := g3
    dsimp only at r1 r2 r3 r4 r5 r6 r7
    have run : F15 N N tape taped t0 lw (upd vt (x + 1) (nI w), at_, pl_, tk, num, wd, nI w, pile, nI 0, nI 0) (nI 0) = some (nI 0, vt2, at2, pl2, tk2, nu2, wd2, wr2, pile2, piled2, opens2, nI 1) := run
    have lR : (R' ++ em Q).length = R'.length + Q.length := by rw [List.length_append, em_len]
    refine Or.inr ⟨i', l', cd', upd vt2 (x + 2) wr2, pile2, R' ++ em Q, at2, pl2, tk2, nu2, wd2, piled2, opens2, nI 1, ?_, ?_, r1, c2, c3, c4, by omega, c10, c5, ?_, ?_, ?_, fun q q1 q2 q3 => ?_⟩
    · simp (disch := omega) only [f_X5_lawOf, f_X9_closeLaw, li, c0, h10, nlt_f, nle_f, sA_n, ob1_s, ob6_s, ↓reduceIte]
    · rw [← r5]
      simp (disch := omega) only [f_X12_lawClause, li, nI_add, sA_n, sm0, run, ob12_s]
    · rw [upd_ne (by omega), r7 _ (by omega), upd_eq rfl]
    · rw [upd_eq rfl, r5]
    · exact r6.cg (fun q q1 q2 => upd_ne (by omega))
    · rw [upd_ne q2, r7 q q3, upd_ne q1]
  · rw [c1] at c0
    obtain ⟨lj, c5⟩ := c5
    obtain ⟨s2, wh2, P2, R2, g3, g4⟩ := c5 _ rc
    obtain ⟨m, hm⟩ : ∃ m, N = m + (j - i) + 1 := ⟨N - 1 - (j - i), by omega⟩
    have run : F15 N N tape taped t0 lw (upd vt (x + 1) (nI w), at_, pl_, tk, num, wd, nI w, pile, nI 0, nI 0) 0 = some (outS (nI f) s2 wh2) := by
      have a1 := g4 m
      rw [← hm] at a1
      exact a1
    obtain ⟨vt2, at2, pl2, tk2, nu2, wd2, wr2, pile2, piled2, opens2⟩ := s2
    obtain ⟨r1, r2, r3, r4, r5, r6, r7⟩ := g3
    dsimp only at r1 r2 r3 r4 r5 r6 r7
    have run : F15 N N tape taped t0 lw (upd vt (x + 1) (nI w), at_, pl_, tk, num, wd, nI w, pile, nI 0, nI 0) (nI 0) = some (nI f, vt2, at2, pl2, tk2, nu2, wd2, wr2, pile2, piled2, opens2, wh2) := run
    refine Or.inl ⟨f, j, l', cd', upd vt2 (x + 2) wr2, pile2, at2, pl2, tk2, nu2, wd2, wr2, piled2, opens2, wh2, ?_, ?_, c2, c3, c4, r1, fun q q1 => ?_⟩
    · simp only [f_X5_lawOf, li, c0, ob6_s, ↓reduceIte]
    · simp (disch := omega) only [f_X12_lawClause, li, nI_add, sA_n, sm0, run, ob12_s]
    · rw [upd_ne (by omega), r7 q (by omega), upd_ne (by omega)]
end
/-! what a law is worth -/
theorem valOf {N t law kq sl el w1 : Nat} {cd st en vt : Nat → Int32} {R : List (Nat × Nat)} (hN : 1000 ≤ N) (hlw : law < 4) (ht : t < 4) (hkq : kq < 24) (hst : st law = nI sl) (hen : en law = nI el) (hel : el ≤ 300) (h1 : vt (729 * t + 1 + 5 * kq + 1) = nI w1) (h2 : vt (729 * t + 1 + 5 * kq + 2) = nI (w1 + R.length)) (hw : w1 + R.length ≤ 300) (hR : RCd vt (729 * t + 121 + 2 * w1) R) (hV : VSeg N cd sl el R 43) : ValT N cd st en vt t law kq := by
  intro nm nd row fe a stack truth values S hE hRo hF h6 hA
  have hE' : ∀ i, ∃ v, i < 10 → v ≤ 9999 ∧ nm i = nI v ∧ nd (sg i) = nI v := fun i => by
    by_cases c : i < 10
    · obtain ⟨v, q1, q2, q3⟩ := hE i c
      exact ⟨v, fun _ => ⟨q1, q2, q3⟩⟩
    · exact ⟨0, fun q => absurd q c⟩
  obtain ⟨nv, hnv⟩ : ∃ nv : Nat → Nat, ∀ i, i < 10 → nv i ≤ 9999 ∧ nm i = nI (nv i) ∧ nd (sg i) = nI (nv i) := ⟨fun i => Classical.choose (hE' i), fun i => Classical.choose_spec (hE' i)⟩
  have hse := hV.1
  obtain ⟨z, hz, cs, rr⟩ := hV.2 cd st en nm row fe law nv (fOf S) ⟨fun _ _ _ => rfl, ⟨el, hen, Nat.le_refl _, by omega⟩, hlw, fun i hi => ⟨(hnv i hi).2.1, (hnv i hi).1⟩, fun z hz => cFear hRo hF h6 hz⟩
  obtain ⟨q, stack', q1, q2, q3⟩ := cs [] stack 0 trivial (by show 0 + 43 ≤ 64; omega) (by omega)
  obtain ⟨s1, s2, s3⟩ := q2
  have sgs : ∀ i, i < 10 → sg (gs i) = i ∧ gs i < 10 := by decide
  obtain ⟨values', truth', g1, g2⟩ := rAdeq (N := N) (c := 729 * t + 121) (x3 := 729 * t + 1 + 5 * kq) (w' := w1 + R.length) (nd := nd) (nv := nv) hA hF h6 (by omega) (fun i hi => by
    obtain ⟨b1, b2⟩ := sgs i hi
    obtain ⟨c1, c2, c3⟩ := hnv (gs i) b2
    rw [b1] at c3
    exact ⟨c3, c1⟩) (by omega) h2 (by omega) (by omega) R w1 N [] [z] [] [] values truth hR rfl (by omega) (rr [] []) trivial trivial (by show 0 ≤ w1; omega) (by show 0 ≤ w1; omega)
  obtain ⟨g3, g4, g5⟩ := g2
  have g3 : values' 0 = lI z := g3
  refine ⟨z, stack', truth', values', hz.1, hz.2, ?_, ?_⟩
  · obtain ⟨m, hm⟩ : ∃ m, N = m + 1 + q := ⟨N - 1 - q, by omega⟩
    have v1 := q3 (m + 1)
    rw [← hm] at v1
    have v2 := vEnd (N := N) (n := m) (L := 0 + 1) (turn := 0 + q) (cd := cd) (st := st) (nm := nm) (row := row) (fe := fe) (stack := stack') hen (by omega) hlw (by omega)
    have v3 : VM N N cd st en nm row fe law stack 0 sl 0 = some (stack' 0, stack') := v1.trans v2
    have s1 : stack' 0 = iI z := s1
    rw [s1] at v3
    have bg : f_X9_begun N st (nI law) = some (nI 1) := by
      have : ¬ nI sl = -nI 1 := m1_ne (by omega)
      simp (maxSteps := 1000000) (disch := omega) only [li, ob1_s, ob2_s, ob3_s, ob4_s, ob5_s, ob6_s, ob7_s, gA_n, gL_n, sA_n, sL_n, cpI_n, nI_add, pk_mul, nsub, nlt_t, nlt_f, nle_t, nle_f, neq_t, neq_f, rmI_n, dvI_n, upd_ne, upd_eq, un_ne, un_eq, Nat.add_zero, Bool.false_eq_true, ↓reduceIte, f_X9_begun, hst, this]
    have h10 : (nI 1 = nI 0) = False := eq_false (by decide)
    have v4 : f_X9_value_24 N N cd st en nm row fe stack (nI law) (nI 0) (nI sl) (nI 0) = some (iI z, stack') := v3
    simp (disch := omega) only [f_X9_value, li, bg, h10, gA_n, hst, v4, ob1_s, ↓reduceIte]
  · rw [← g3]
    have g1 : f_X12_summedUp_38 N N a vt nd values truth (nI (729 * t + 1 + 5 * kq)) (nI (729 * t + 121)) (nI 0) (nI 0) (nI w1) = _ := g1
    rw [← g1]
    simp (disch := omega) only [f_X12_summedUp, li, pk_mul, nI_add, gA_n, h1]
