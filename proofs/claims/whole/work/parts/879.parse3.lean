section
variable {N n t0 law w0 : Nat} {K Nu Pl : Nat → Nat} {RL : RLT} {tape : Nat → Int32} {taped : Int32} {vt0 : Nat → Int32} {bl : Int32} {ki pl nu : Nat → Int32}
theorem askO {P : List Nat} {x : Nat} (hx : 40 ≤ x) (hx2 : x ≠ 41) : askA (x :: P) = false := by
  unfold askA
  rw [decide_eq_false, Bool.false_and]
  rw [opw, if_pos hx]
  intro e
  cases e
  exact hx2 rfl
theorem btw_n {K x : Nat} {X : List Nat} (hf : folS K) (ho : opw X = some x) (hx : x ≠ 41) : btw K X = none := by
  unfold btw
  rw [if_neg hf.1, if_neg hf.2.1, if_neg hf.2.2.1, if_neg hf.2.2.2, if_neg]
  rw [ho]
  intro e
  cases e
  exact hx rfl
theorem btw_e {K : Nat} {X : List Nat} (hf : folE K) (ho : opw X = some 41) (hc : cmpd X = true) : btw K X = none := by
  unfold btw
  rw [if_neg hf.1.1, if_neg hf.1.2.1, if_neg hf.1.2.2.1, if_neg hf.1.2.2.2, if_pos ho, if_pos hc, if_neg hf.2.1, if_neg hf.2.2]
theorem opw_o {k x : Nat} {Q P : List Nat} (hk : 1 ≤ k) (hq : geR k Q) (hx : 40 ≤ x) : opw (Q ++ x :: P) = some x := by
  rw [opw_q hk hq, opw, if_pos hx]
theorem opn_o {x y : Nat} {P : List Nat} (hx : 40 ≤ x ∧ x < 44) (hy : 40 ≤ y ∧ y < 44) : opn (x :: P) = opn (y :: P) := by
  have oy : ∀ y, y < 44 → 40 ≤ y → opn1 y = 1 := by decide
  show opn1 x + opn P = opn1 y + opn P
  rw [oy x hx.2 hx.1, oy y hy.2 hy.1]
theorem stChoice (h : HX N n t0 law K Nu Pl RL tape taped ki pl nu) {g : Nat} (hsum : PSum N n t0 law w0 K Nu Pl RL tape taped vt0 bl ki pl nu g) (heit : PEither N n t0 law w0 K Nu Pl RL tape taped vt0 bl ki pl nu g) : PChoice N n t0 law w0 K Nu Pl RL tape taped vt0 bl ki pl nu (g + 1) := by
  intro o i l cd ft pc P0 R ho8 hg ho hP hS hl
  have n3 := h.1.2.1
  obtain ⟨z1, z2, z3⟩ := id hS
  have h10 : (nI 1 = nI 0) = False := eq_false (by decide)
  have st : QA N n (g + 1) 3 bl ki pl nu law l cd ft pc i o = f_X5_choiceB N (f_RG N g) bl (nI n) ki pl nu (nI l) cd ft pc (nI i) (nI law) (nI o) := rfl
  rw [st]
  unfold f_X5_choiceB
  rw [len1] at hP z1 z3
  have hA : askA (41 :: P0) = true := by
    show (decide (opw (41 :: P0) = some 41) && decide (rk 41 < 4)) = true
    rw [decide_eq_true (show opw (41 :: P0) = some 41 by rw [opw, if_pos (by decide)])]
    decide
  have sub := heit o i l cd ft pc (41 :: P0) R ho8 (by omega) ho (by rw [len1]; omega) hA (ltR1 (by decide)) hS hl
  rcases sub with ⟨l1, i1, cd1, Q1, R1, c1, c2, c3, c4, c5, c6, c7, c8, c9, c10, c11, c12⟩ | ⟨fa, j, l', cd', c1, c2, c3, c4, c5⟩
  · unfold QA at c1
    have hSi : Sm n w0 i1 (Q1 ++ 41 :: P0) (R ++ R1) := ⟨by simp only [List.length_append, List.length_cons]; omega, c3, by simp only [List.length_append, List.length_cons]; omega⟩
    have opq : opw (Q1 ++ 41 :: P0) = some 41 := opw_o (by omega) c6 (by omega)
    have bt := btw_e c11 opq c12
    obtain ⟨e1, e2⟩ := sE_app (k := 1) (P := 41 :: P0) (ltR1 (by decide)) c6
    have lt1 := c10.1
    by_cases k27 : K i1 = 27
    · have x1 := cExp1 (bl := bl) (ft := ft) (pc := pc) h c3 k27 (by omega)
      have hn1 := h.1.more c3 (show K i1 ≠ 47 by omega)
      have pr : prt (K i1) (Q1 ++ 41 :: P0) = some 42 := by
        unfold prt
        rw [opq, if_neg (by decide), if_pos rfl, if_pos k27, if_pos c12]
      have op1 := bhPart (law := law) (vt0 := vt0) h.1 h.2.1 h.2.2.1 hSi bt pr (by omega) opq e2 (by omega)
      rw [e1] at op1
      have lp1 := cLeap (N := N) (l := l1) (k := 27) (cd := cd1) (by omega)
      have hS2 : Sm n w0 (i1 + 1) (42 :: P0) (R ++ R1 ++ em Q1) := ⟨by simp only [List.length_append, List.length_cons, em_len]; omega, hn1, by simp only [List.length_cons]; omega⟩
      have sub2 := hsum o (i1 + 1) (l1 + 1) (upd cd1 l1 (nI 27)) ft pc (42 :: P0) (R ++ R1 ++ em Q1) ho8 (by omega) (by rw [← ho]; exact opn_o (by omega) (by omega)) (by rw [len1]; omega) (ltR1 (by decide)) (Or.inr (askO (by omega) (by omega))) hS2 (by omega)
      rcases sub2 with ⟨l2, i2, cd2, Q2, R2, d1, d2, d3, d4, d5, d6, d7, d8, d9, d10, d11⟩ | ⟨fa, j, l', cd', d1, d2, d3, d4, d5⟩
      · unfold QA at d1
        have hSj : Sm n w0 i2 (Q2 ++ 42 :: P0) (R ++ R1 ++ em Q1 ++ R2) := ⟨by simp only [List.length_append, List.length_cons, em_len]; omega, d3, by simp only [List.length_append, List.length_cons]; omega⟩
        have opq2 : opw (Q2 ++ 42 :: P0) = some 42 := opw_o (k := 5) (by omega) d6 (by omega)
        have bt2 := btw_n d11 opq2 (by omega)
        obtain ⟨e3, e4⟩ := sE_app (k := 1) (P := 42 :: P0) (ltR1 (by decide)) (d6.mono (by omega))
        have lt2 := d10.1
        by_cases k28 : K i2 = 28
        · have x2 := cExp1 (bl := bl) (ft := ft) (pc := pc) h d3 k28 (by omega)
          have hn2 := h.1.more d3 (show K i2 ≠ 47 by omega)
          have pr2 : prt (K i2) (Q2 ++ 42 :: P0) = some 43 := by
            unfold prt
            rw [opq2, if_neg (by decide), if_neg (by decide), if_pos rfl, if_pos k28]
          have op2 := bhPart (law := law) (vt0 := vt0) h.1 h.2.1 h.2.2.1 hSj bt2 pr2 (by omega) opq2 e4 (by omega)
          rw [e3] at op2
          have lp2 := cLeap (N := N) (l := l2) (k := 28) (cd := cd2) (by omega)
          have ld2 := cLand2 (N := N) (l := l2 + 1) (a := l1) (k := 27) (cd := upd cd2 l2 (nI 28)) (by omega)
          have hS3 : Sm n w0 (i2 + 1) (43 :: P0) (R ++ R1 ++ em Q1 ++ R2 ++ em Q2) := ⟨by simp only [List.length_append, List.length_cons, em_len]; omega, hn2, by simp only [List.length_cons]; omega⟩
          have sub3 := hsum o (i2 + 1) (l2 + 1) (upd (upd cd2 l2 (nI 28)) l1 (nI ((l2 + 1) * 64 + 27))) ft pc (43 :: P0) (R ++ R1 ++ em Q1 ++ R2 ++ em Q2) ho8 (by omega) (by rw [← ho]; exact opn_o (by omega) (by omega)) (by rw [len1]; omega) (ltR1 (by decide)) (Or.inr (askO (by omega) (by omega))) hS3 (by omega)
          rcases sub3 with ⟨l3, i3, cd3, Q3, R3, f1, f2, f3, f4, f5, f6, f7, f8, f9, f10, f11⟩ | ⟨fa, j, l', cd', f1, f2, f3, f4, f5⟩
          · unfold QA at f1
            have hSk : Sm n w0 i3 (Q3 ++ 43 :: P0) (R ++ R1 ++ em Q1 ++ R2 ++ em Q2 ++ R3) := ⟨by simp only [List.length_append, List.length_cons, em_len]; omega, f3, by simp only [List.length_append, List.length_cons]; omega⟩
            have opq3 : opw (Q3 ++ 43 :: P0) = some 43 := opw_o (k := 5) (by omega) f6 (by omega)
            have bt3 := btw_n f11 opq3 (by omega)
            obtain ⟨e5, e6⟩ := sE_app (k := 1) (P := 43 :: P0) (ltR1 (by decide)) (f6.mono (by omega))
            have lt3 := f10.1
            by_cases k29 : K i3 = 29
            · have x3 := cExp1 (bl := bl) (ft := ft) (pc := pc) h f3 k29 (by omega)
              have hn3 := h.1.more f3 (show K i3 ≠ 47 by omega)
              have pr3 : prt (K i3) (Q3 ++ 43 :: P0) = some 0 := by
                unfold prt
                rw [opq3, if_neg (by decide), if_neg (by decide), if_neg (by decide), if_pos rfl, if_pos k29]
              have op3 := bhEnd (law := law) (vt0 := vt0) h.1 h.2.1 h.2.2.1 hSk bt3 pr3 opq3 e6 (by omega)
              rw [e5] at op3
              have ld3 := cLand2 (N := N) (l := l3) (a := l2) (k := 28) (cd := cd3) (by omega)
              refine Or.inl ⟨l3, i3 + 1, upd cd3 l2 (nI (l3 * 64 + 28)), (R1 ++ em Q1) ++ (R2 ++ em Q2) ++ (R3 ++ em Q3) ++ [(4, 0)], ?_, by omega, hn3, by omega, fun k hk => ?_, by simp only [List.length_append, List.length_cons, List.length_nil, em_len]; omega, ?_, ?_⟩
              · simp only [li, c1, h10, x1, lp1, d1, x2, lp2, ld2, f1, x3, ld3, ob1_s, ob3_s, ob4_s, ob6_s, ↓reduceIte]
              · rw [upd_ne (by omega), f5 k (by omega), upd_ne (by omega), upd_ne (by omega), d5 k (by omega), upd_ne (by omega), c5 k hk]
              · rw [show R ++ ((R1 ++ em Q1) ++ (R2 ++ em Q2) ++ (R3 ++ em Q3) ++ [(4, 0)]) ++ sE 7 P0 = R ++ R1 ++ em Q1 ++ R2 ++ em Q2 ++ R3 ++ em Q3 ++ [(4, 0)] ++ sE 7 P0 by simp]
                exact ((((c9.tr op1).tr d9).tr op2).tr f9).tr op3
              · refine vsChoice (m := l1) (p := l2) (r := l3) (d1 := dOne o + 5) (d2 := dOne o + 2) (d3 := dOne o + 2) (c10.cg (fun k k1 k2 => ?_)) (d10.cg (fun k k1 k2 => ?_)) (f10.cg (fun k k1 k2 => ?_)) (by omega) (by omega) (by omega) (by omega) ?_ ?_
                · rw [upd_ne (by omega), f5 k (by omega), upd_ne (by omega), upd_ne (by omega), d5 k (by omega), upd_ne (by omega)]
                · rw [upd_ne (by omega), f5 k (by omega), upd_ne (by omega), upd_ne (by omega)]
                · rw [upd_ne (by omega)]
                · rw [upd_ne (by omega), f5 l1 (by omega), upd_eq rfl]
                · rw [upd_eq rfl]
            · have x3 := cExp0 (bl := bl) (ft := ft) (pc := pc) h f3 k29 (by omega)
              have pr3 : prt (K i3) (Q3 ++ 43 :: P0) = none := by
                unfold prt
                rw [opq3, if_neg (by decide), if_neg (by decide), if_neg (by decide), if_pos rfl, if_neg k29]
              have fa := bhFail (law := law) (vt0 := vt0) h.1 h.2.1 h.2.2.1 hSk bt3 pr3 opq3
              refine Or.inr ⟨1, i3, nI l3, cd3, ?_, by omega, by omega, f3, ((((c9.tr op1).tr d9).tr op2).tr f9).fa fa⟩
              simp only [li, c1, h10, x1, lp1, d1, x2, lp2, ld2, f1, x3, ob1_s, ob3_s, ob4_s, ob6_s, ↓reduceIte]
          · unfold QA at f1
            refine Or.inr ⟨fa, j, l', cd', ?_, f2, f3, f4, (((c9.tr op1).tr d9).tr op2).fa f5⟩
            simp only [li, c1, h10, x1, lp1, d1, x2, lp2, ld2, f1, ob1_s, ob3_s, ob4_s, ob6_s, ↓reduceIte]
        · have x2 := cExp0 (bl := bl) (ft := ft) (pc := pc) h d3 k28 (by omega)
          have pr2 : prt (K i2) (Q2 ++ 42 :: P0) = none := by
            unfold prt
            rw [opq2, if_neg (by decide), if_neg (by decide), if_pos rfl, if_neg k28]
          have fa := bhFail (law := law) (vt0 := vt0) h.1 h.2.1 h.2.2.1 hSj bt2 pr2 opq2
          refine Or.inr ⟨1, i2, nI l2, cd2, ?_, by omega, by omega, d3, ((c9.tr op1).tr d9).fa fa⟩
          simp only [li, c1, h10, x1, lp1, d1, x2, ob1_s, ob3_s, ob4_s, ob6_s, ↓reduceIte]
      · unfold QA at d1
        refine Or.inr ⟨fa, j, l', cd', ?_, d2, d3, d4, (c9.tr op1).fa d5⟩
        simp only [li, c1, h10, x1, lp1, d1, ob1_s, ob3_s, ob4_s, ob6_s, ↓reduceIte]
    · have x1 := cExp0 (bl := bl) (ft := ft) (pc := pc) h c3 k27 (by omega)
      have pr : prt (K i1) (Q1 ++ 41 :: P0) = none := by
        unfold prt
        rw [opq, if_neg (by decide), if_pos rfl, if_neg k27]
      have fa := bhFail (law := law) (vt0 := vt0) h.1 h.2.1 h.2.2.1 hSi bt pr opq
      refine Or.inr ⟨1, i1, nI l1, cd1, ?_, by omega, by omega, c3, c9.fa fa⟩
      simp only [li, c1, h10, x1, ob1_s, ob3_s, ob4_s, ob6_s, ↓reduceIte]
  · unfold QA at c1
    refine Or.inr ⟨fa, j, l', cd', ?_, c2, c3, c4, c5⟩
    simp only [li, c1, ob6_s, ↓reduceIte]
theorem nl_n : ∀ m, m < 10 → nlF m = nI ([15, 15, 15, 15, 15, 7, 7, 12, 12, 10].getD m 0) ∧ [15, 15, 15, 15, 15, 7, 7, 12, 12, 10].getD m 0 < 16 := by decide
theorem stOne (h : HX N n t0 law K Nu Pl RL tape taped ki pl nu) {g : Nat} (hsum : PSum N n t0 law w0 K Nu Pl RL tape taped vt0 bl ki pl nu g) (hone : POne N n t0 law w0 K Nu Pl RL tape taped vt0 bl ki pl nu g) (hcho : PChoice N n t0 law w0 K Nu Pl RL tape taped vt0 bl ki pl nu g) : POne N n t0 law w0 K Nu Pl RL tape taped vt0 bl ki pl nu (g + 1) := by
  intro o i l cd ft pc P R ho8 hg ho hP hnot hS hl
  have n3 := h.1.2.1
  obtain ⟨z1, z2, z3⟩ := id hS
  have h10 : (nI 1 = nI 0) = False := eq_false (by decide)
  have tk := cTok h z2
  have nb := cNumb h z2
  obtain ⟨kb, nub⟩ := cKind h z2
  have nu0 := (h.1.2.2.2.1 i z2).2.2.2.2
  have st : QA N n (g + 1) 2 bl ki pl nu law l cd ft pc i o = f_X5_oneB N (f_RG N g) bl (nI n) ki pl nu (nI l) cd ft pc (nI i) (nI law) (nI o) := rfl
  rw [st]
  unfold f_X5_oneB
  rw [tk]
  by_cases k46 : K i = 46
  · by_cases hb : Nu i ≤ 9999
    · have hn1 := h.1.more z2 (show K i ≠ 47 by omega)
      have nx := cNext h hn1
      have re := bgLeaf (vt0 := vt0) (o := 0) (v := Nu i) h.1 h.2.1 h.2.2.1 h.2.2.2.1 hS (Or.inl ⟨k46, hb, rfl, rfl⟩)
      have pu := cPut (N := N) (l := l) (k := 46) (v := Nu i) (cd := cd) (by omega)
      refine Or.inl ⟨l + 1, i + 1, upd cd l (nI (Nu i * 64 + 46)), [(0, Nu i)], ?_, by omega, hn1, by omega, fun k hk => upd_ne (by omega), by simp; omega, re, (vsLeafN hb (upd_eq rfl)).mono (by unfold dOne; omega)⟩
      simp (disch := omega) only [li, k46, f_X5_oneB_23, f_X5_leaf, f_X5_leaf_67, nb, nle_t, pu, nx, ob1_s, ob2_s, ob6_s, ↓reduceIte]
    · have fl := cFail (bl := bl) (ft := ft) (pc := pc) (f := nI 2) h z2
      have fa := bgBad (vt0 := vt0) (f := 2) h.1 h.2.1 h.2.2.1 h.2.2.2.1 hS (Or.inl ⟨k46, by omega, rfl⟩)
      refine Or.inr ⟨2, i, nI l, cd, ?_, by omega, by omega, z2, fa⟩
      simp (disch := omega) only [li, k46, f_X5_oneB_23, f_X5_leaf, nb, nle_f, fl, ob1_s, ob3_s, ob6_s, ↓reduceIte]
  by_cases kn : 11 ≤ K i ∧ K i ≤ 20
  · obtain ⟨w1, w2⟩ := nl_n (K i - 11) (by omega)
    have bi : (nI ([15, 15, 15, 15, 15, 7, 7, 12, 12, 10].getD (K i - 11) 0) >>> (nI law &&& nI 31)) &&& nI 1 = nI (if okN law (K i - 11) = true then 1 else 0) := nbit (by omega) (by have := h.2.2.2.1; omega)
    by_cases ok : okN law (K i - 11) = true
    · have hn1 := h.1.more z2 (show K i ≠ 47 by omega)
      have nx := cNext h hn1
      have re := bgLeaf (vt0 := vt0) (o := 1) (v := sg (K i - 11)) h.1 h.2.1 h.2.2.1 h.2.2.2.1 hS (Or.inr ⟨kn.1, kn.2, ok, rfl, rfl⟩)
      have pu := cPut0 (N := N) (l := l) (k := K i) (cd := cd) (by omega)
      rw [nu0 k46] at nb
      rw [if_pos ok] at bi
      refine Or.inl ⟨l + 1, i + 1, upd cd l (nI (K i)), [(1, sg (K i - 11))], ?_, by omega, hn1, by omega, fun k hk => upd_ne (by omega), by simp; omega, re, (vsLeafM (m := K i - 11) (by omega) (by rw [upd_eq rfl]; congr 1; omega)).mono (by unfold dOne; omega)⟩
      simp (disch := omega) only [li, neq_f, nlt_f, nle_f, nsub, gA_n, w1, bi, f_X5_oneB_23, f_X5_leaf, f_X5_leaf_67, nb, pu, nx, ob1_s, ob2_s, ob6_s, ↓reduceIte]
    · have fl := cFail (bl := bl) (ft := ft) (pc := pc) (f := nI 5) h z2
      have fa := bgBad (vt0 := vt0) (f := 5) h.1 h.2.1 h.2.2.1 h.2.2.2.1 hS (Or.inr ⟨kn.1, kn.2, Bool.eq_false_iff.mpr ok, rfl⟩)
      rw [if_neg ok] at bi
      refine Or.inr ⟨5, i, nI l, cd, ?_, by omega, by omega, z2, fa⟩
      simp (disch := omega) only [li, neq_f, nlt_f, nle_f, nsub, gA_n, w1, bi, f_X5_oneB_23, f_X5_leaf, f_X5_leaf_61, fl, ob1_s, ob3_s, ob6_s, ↓reduceIte]
  -- what opens, or a fault
  have e29 : (if nI (K i) = (46 : Int32) then (f_X5_oneB_23 N (f_RG N g) bl (nI n) ki pl nu (nI l) cd ft pc (nI i) (nI law) (nI (K i))) else (if nI (K i) < (11 : Int32) then (f_X5_oneB_29 N (f_RG N g) bl (nI n) ki pl nu (nI l) cd ft pc (nI i) (nI law) (nI o) (nI (K i))) else (if (20 : Int32) < nI (K i) then (f_X5_oneB_29 N (f_RG N g) bl (nI n) ki pl nu (nI l) cd ft pc (nI i) (nI law) (nI o) (nI (K i))) else (f_X5_oneB_23 N (f_RG N g) bl (nI n) ki pl nu (nI l) cd ft pc (nI i) (nI law) (nI (K i)))))) = f_X5_oneB_29 N (f_RG N g) bl (nI n) ki pl nu (nI l) cd ft pc (nI i) (nI law) (nI o) (nI (K i)) := by
    by_cases k11 : K i < 11
    · simp (disch := omega) only [li, neq_f, nlt_t, ↓reduceIte]
    · simp (disch := omega) only [li, neq_f, nlt_f, nlt_t, ↓reduceIte]
  rw [ob1_s, e29]
  by_cases kop : K i = 43 ∨ K i = 40 ∨ K i = 24 ∨ K i = 25 ∨ K i = 26
  · have e75 : f_X5_oneB_29 N (f_RG N g) bl (nI n) ki pl nu (nI l) cd ft pc (nI i) (nI law) (nI o) (nI (K i)) = f_X5_oneB_75 N (f_RG N g) bl (nI n) ki pl nu (nI l) cd ft pc (nI i) (nI law) (nI o) (nI (K i)) := by
      unfold f_X5_oneB_29 f_X5_oneB_47 f_X5_oneB_52
      rcases kop with e | e | e | e | e <;> rw [e] <;> rfl
    rw [e75]
    unfold f_X5_oneB_75
    obtain ⟨x, hx⟩ : ∃ x, opK (K i) x := by
      unfold opK
      rcases kop with e | e | e | e | e
      · exact ⟨40, by omega⟩
      · exact ⟨5, by omega⟩
      · exact ⟨2, by omega⟩
      · exact ⟨3, by omega⟩
      · exact ⟨41, by omega⟩
    by_cases h8 : o = 8
    · have fl := cFail (bl := bl) (ft := ft) (pc := pc) (f := nI 3) h z2
      have fa := bgDeep (vt0 := vt0) h.1 h.2.1 h.2.2.1 h.2.2.2.1 hS hx (by omega)
      refine Or.inr ⟨3, i, nI l, cd, ?_, by omega, by omega, z2, fa⟩
      simp (disch := omega) only [li, nlt_f, fl, ob3_s, ↓reduceIte]
    · have hn1 := h.1.more z2 (show K i ≠ 47 by omega)
      have nx := cNext h hn1
      have op := bgOpen (vt0 := vt0) h.1 h.2.1 h.2.2.1 h.2.2.2.1 hS hx (by omega)
      unfold opK at hx
      have ox : opn (x :: P) = o + 1 := by
        show opn1 x + opn P = o + 1
        have : opn1 x = 1 := by rcases hx with ⟨-, q⟩ | ⟨-, q⟩ | ⟨-, q⟩ | ⟨-, q⟩ | ⟨-, q⟩ <;> subst q <;> decide
        omega
      have hSx : Sm n w0 (i + 1) (x :: P) R := ⟨by simp only [List.length_cons]; omega, hn1, by simp only [List.length_cons]; omega⟩
      by_cases k43 : K i = 43
      · have ex : x = 40 := by omega
        subst ex
        have sub := hsum (o + 1) (i + 1) l cd ft pc (40 :: P) R (by omega) (by omega) ox (by rw [len1]; omega) (ltR1 (by decide)) (Or.inr (askO (by omega) (by omega))) hSx (by omega)
        rcases sub with ⟨l1, i1, cd1, Q1, R1, c1, c2, c3, c4, c5, c6, c7, c8, c9, c10, c11⟩ | ⟨fa, j, l', cd', c1, c2, c3, c4, c5⟩
        · unfold QA at c1
          have hSi : Sm n w0 i1 (Q1 ++ 40 :: P) (R ++ R1) := ⟨by simp only [List.length_append, List.length_cons]; omega, c3, by simp only [List.length_append, List.length_cons]; omega⟩
          have opq : opw (Q1 ++ 40 :: P) = some 40 := opw_o (k := 5) (by omega) c6 (by omega)
          have bt := btw_n c11 opq (by omega)
          obtain ⟨e1, e2⟩ := sE_app (k := 1) (P := 40 :: P) (ltR1 (by decide)) (c6.mono (by omega))
          by_cases k44 : K i1 = 44
          · have x1 := cExp1 (bl := bl) (ft := ft) (pc := pc) h c3 k44 (by omega)
            have hn2 := h.1.more c3 (show K i1 ≠ 47 by omega)
            have pr : prt (K i1) (Q1 ++ 40 :: P) = some 0 := by
              unfold prt
              rw [opq, if_pos rfl, if_pos k44]
            have op2 := bhClose (law := law) (vt0 := vt0) h.1 h.2.1 h.2.2.1 hSi bt pr opq e2 (by omega)
            rw [e1] at op2
            refine Or.inl ⟨l1, i1 + 1, cd1, R1 ++ em Q1, ?_, by omega, hn2, by omega, c5, by simp only [List.length_append, em_len]; omega, ?_, c10.mono (by unfold dOne; omega)⟩
            · simp (disch := omega) only [li, nlt_t, nx, k43, nI_add, c1, h10, x1, ob1_s, ob4_s, ob6_s, ↓reduceIte]
            · rw [show R ++ (R1 ++ em Q1) ++ sE 7 P = R ++ R1 ++ em Q1 ++ sE 7 P by simp]
              exact (op.tr c9).tr op2
          · have x1 := cExp0 (bl := bl) (ft := ft) (pc := pc) h c3 k44 (by omega)
            have pr : prt (K i1) (Q1 ++ 40 :: P) = none := by
              unfold prt
              rw [opq, if_pos rfl, if_neg k44]
            have fa := bhFail (law := law) (vt0 := vt0) h.1 h.2.1 h.2.2.1 hSi bt pr opq
            refine Or.inr ⟨1, i1, nI l1, cd1, ?_, by omega, by omega, c3, (op.tr c9).fa fa⟩
            simp (disch := omega) only [li, nlt_t, nx, k43, nI_add, c1, h10, x1, ob1_s, ob4_s, ob6_s, ↓reduceIte]
        · unfold QA at c1
          refine Or.inr ⟨fa, j, l', cd', ?_, c2, c3, c4, op.fa c5⟩
          simp (disch := omega) only [li, nlt_t, nx, k43, nI_add, c1, ob1_s, ob6_s, ↓reduceIte]
      by_cases k26 : K i = 26
      · have ex : x = 41 := by omega
        subst ex
        have sub := hcho (o + 1) (i + 1) l cd ft pc P R (by omega) (by omega) ox (by rw [len1]; omega) hSx (by omega)
        rcases sub with ⟨l1, i1, cd1, R1, c1, c2, c3, c4, c5, c8, c9, c10⟩ | ⟨fa, j, l', cd', c1, c2, c3, c4, c5⟩
        · unfold QA at c1
          refine Or.inl ⟨l1, i1, cd1, R1, ?_, by omega, c3, by omega, c5, by omega, op.tr c9, c10.mono (by unfold dOne; omega)⟩
          simp (disch := omega) only [li, nlt_t, nx, k26, neq_f, nI_add, c1, ob1_s, ob6_s, ↓reduceIte]
        · unfold QA at c1
          refine Or.inr ⟨fa, j, l', cd', ?_, c2, c3, c4, op.fa c5⟩
          simp (disch := omega) only [li, nlt_t, nx, k26, neq_f, nI_add, c1, ob1_s, ob6_s, ↓reduceIte]
      · have hx7 : rk x = 7 := by
          rcases hx with ⟨q1, q⟩ | ⟨-, q⟩ | ⟨-, q⟩ | ⟨-, q⟩ | ⟨q1, q⟩
          · omega
          · subst q; decide
          · subst q; decide
          · subst q; decide
          · omega
        have sub := hone (o + 1) (i + 1) l cd ft pc (x :: P) R (by omega) (by omega) ox (by rw [len1]; omega) (Or.inr (askF (by omega))) hSx (by omega)
        rcases sub with ⟨l1, i1, cd1, R1, c1, c2, c3, c4, c5, c8, c9, c10⟩ | ⟨fa, j, l', cd', c1, c2, c3, c4, c5⟩
        · unfold QA at c1
          have s1 : sR 7 (x :: P) = sR 7 P := by rw [sR, if_neg (by omega)]
          have s2 : sE 7 (x :: P) = (x, 0) :: sE 7 P := by rw [sE, if_neg (by omega)]
          rw [s1, s2] at c9
          have lt1 := c10.1
          obtain ⟨k, hk, hkx⟩ : ∃ k, (k = if K i = 40 then 49 else K i) ∧ ((k = 49 ∧ x = 5) ∨ (k = 24 ∧ x = 2) ∨ (k = 25 ∧ x = 3)) := by
            by_cases k40 : K i = 40
            · exact ⟨49, by rw [if_pos k40], by omega⟩
            · exact ⟨K i, by rw [if_neg k40], by omega⟩
          have pu := cPut0 (N := N) (l := l1) (k := k) (cd := cd1) (by omega)
          refine Or.inl ⟨l1 + 1, i1, upd cd1 l1 (nI k), R1 ++ [(x, 0)], ?_, by omega, c3, by omega, fun q hq => by rw [upd_ne (by omega), c5 q hq], by simp only [List.length_append, List.length_cons, List.length_nil]; omega, ?_, ?_⟩
          · by_cases k40 : K i = 40
            · rw [if_pos k40] at hk
              subst hk
              simp (disch := omega) only [li, nlt_t, nx, k40, neq_f, nI_add, c1, h10, f_X5_oneB_164, pu, ob1_s, ob2_s, ob6_s, ↓reduceIte]
            · rw [if_neg k40] at hk
              subst hk
              simp (disch := omega) only [li, nlt_t, nx, neq_f, nI_add, c1, h10, f_X5_oneB_164, pu, ob1_s, ob2_s, ob6_s, ↓reduceIte]
          · rw [show R ++ (R1 ++ [(x, 0)]) ++ sE 7 P = R ++ R1 ++ (x, 0) :: sE 7 P by simp]
            exact op.tr c9
          · exact vsPre ((c10.mono (by unfold dOne; omega)).cg (fun q q1 q2 => upd_ne (by omega))) (by unfold dOne; omega) hkx (upd_eq rfl)
        · unfold QA at c1
          refine Or.inr ⟨fa, j, l', cd', ?_, c2, c3, c4, op.fa c5⟩
          simp (disch := omega) only [li, nlt_t, nx, neq_f, nI_add, c1, ob1_s, ob6_s, ↓reduceIte]
  · have fl := cFail (bl := bl) (ft := ft) (pc := pc) (f := nI 1) h z2
    have fa := bgElse (vt0 := vt0) h.1 h.2.1 h.2.2.1 h.2.2.2.1 hS (by omega) hnot
    refine Or.inr ⟨1, i, nI l, cd, ?_, by omega, by omega, z2, fa⟩
    simp (disch := omega) only [f_X5_oneB_29, f_X5_oneB_52, li, neq_f, fl, ob3_s, ↓reduceIte]
theorem pAll (h : HX N n t0 law K Nu Pl RL tape taped ki pl nu) : ∀ g, PSum N n t0 law w0 K Nu Pl RL tape taped vt0 bl ki pl nu g ∧ PProd N n t0 law w0 K Nu Pl RL tape taped vt0 bl ki pl nu g ∧ POne N n t0 law w0 K Nu Pl RL tape taped vt0 bl ki pl nu g ∧ PAsk N n t0 law w0 K Nu Pl RL tape taped vt0 bl ki pl nu g ∧ PBoth N n t0 law w0 K Nu Pl RL tape taped vt0 bl ki pl nu g ∧ PEither N n t0 law w0 K Nu Pl RL tape taped vt0 bl ki pl nu g ∧ PChoice N n t0 law w0 K Nu Pl RL tape taped vt0 bl ki pl nu g := by
  intro g
  induction g with
  | zero =>
    refine ⟨?_, ?_, ?_, ?_, ?_, ?_, ?_⟩ <;> intro o i l cd ft pc P R ho8 hg <;> omega
  | succ g ih =>
    obtain ⟨h1, h2, h3, h4, h5, h6, h7⟩ := ih
    exact ⟨stSum h h2, stProd h h3, stOne h h1 h3 h7, stAsk h h1 h4, stBoth h h4, stEither h h5, stChoice h h1 h6⟩
end
