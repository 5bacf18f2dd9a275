/-! a whole text -/
def TextX (N : Nat) (cl : Int32) (cd st en rows vt : Nat → Int32) (t : Nat) : Prop :=
  ∃ k l w on : Nat, k ≤ 24 ∧ l ≤ 300 ∧ w ≤ 300 ∧ cl = nI k ∧ (∀ q, q < k → ClauseT rows vt t q) ∧ vt (729 * t) = nI k ∧ ∀ lw, lw < 4 → LawI N (729 * t) k l w cd st en vt lw (on.testBit lw)
theorem TextX.toT {N t : Nat} {cl : Int32} {cd st en rows vt : Nat → Int32} (h : TextX N cl cd st en rows vt t) (ht : t < 4) (hN : 1000 ≤ N) : TextT N cl cd st en rows vt t := by
  obtain ⟨k, l, w, on, h1, h2, h3, h4, h5, h6, h7⟩ := h
  refine ⟨k, h1, h4, h6, h5, fun law hl => ?_⟩
  rcases h7 law hl with ⟨a1, a2, a3⟩ | ⟨a1, kq, sl, el, w1, R, b1, b2, b3, b4, b5, b6, b7, b8, b9, b10, b11, b12⟩
  · exact Or.inl ⟨a2, a3⟩
  · exact Or.inr ⟨by rw [b2]; exact m1_ne (by omega), kq, b1, b6, b7, valOf hN hl ht (by omega) b2 b3 (by omega) b8 b9 (by omega) b11 b12⟩
theorem TextX.cg {N t : Nat} {cl : Int32} {cd st en rows vt vt' : Nat → Int32} (h : TextX N cl cd st en rows vt t) (e : ∀ q, 729 * t ≤ q → q < 729 * t + 729 → vt' q = vt q) : TextX N cl cd st en rows vt' t := by
  obtain ⟨k, l, w, on, h1, h2, h3, h4, h5, h6, h7⟩ := h
  refine ⟨k, l, w, on, h1, h2, h3, h4, fun q hq => (h5 q hq).cg (fun _ _ _ => rfl) (fun q' a1 a2 => e q' (by omega) (by omega)), by rw [e _ (by omega) (by omega)]; exact h6, fun lw hl => ?_⟩
  rcases h7 lw hl with ⟨a1, a2, a3⟩ | ⟨a1, kq, sl, el, w1, R, b1, b2, b3, b4, b5, b6, b7, b8, b9, b10, b11, b12⟩
  · exact Or.inl ⟨a1, a2, fun q hq => by rw [e _ (by omega) (by omega)]; exact a3 q hq⟩
  · refine Or.inr ⟨a1, kq, sl, el, w1, R, b1, b2, b3, b4, b5, ?_, fun q hq => ?_, ?_, ?_, b10, b11.cg (fun q q1 q2 => e q (by omega) (by omega)), b12⟩
    · rw [e _ (by omega) (by omega)]; exact b6
    · rw [e _ (by omega) (by omega)]; exact b7 q hq
    · rw [e _ (by omega) (by omega)]; exact b8
    · rw [e _ (by omega) (by omega)]; exact b9
def TextsX (N : Nat) (tcl : Int32) (tcd tst ten trw : Nat → Int32) (ucl : Int32) (ucd ust uen urw : Nat → Int32) (wcl : Int32) (wcd wst wen wrw : Nat → Int32) (xcl : Int32) (xcd xst xen xrw : Nat → Int32) (vt : Nat → Int32) (n : Nat) : Prop :=
  (0 < n → TextX N tcl tcd tst ten trw vt 0) ∧ (1 < n → TextX N ucl ucd ust uen urw vt 1) ∧ (2 < n → TextX N wcl wcd wst wen wrw vt 2) ∧ (3 < n → TextX N xcl xcd xst xen xrw vt 3)
theorem TextsX.toT {N n : Nat} {tcl : Int32} {tcd tst ten trw : Nat → Int32} {ucl : Int32} {ucd ust uen urw : Nat → Int32} {wcl : Int32} {wcd wst wen wrw : Nat → Int32} {xcl : Int32} {xcd xst xen xrw : Nat → Int32} {vt : Nat → Int32} (h : TextsX N tcl tcd tst ten trw ucl ucd ust uen urw wcl wcd wst wen wrw xcl xcd xst xen xrw vt n) (hN : 1000 ≤ N) : TextsT N tcl tcd tst ten trw ucl ucd ust uen urw wcl wcd wst wen wrw xcl xcd xst xen xrw vt n := ⟨fun w => (h.1 w).toT (by omega) hN, fun w => (h.2.1 w).toT (by omega) hN, fun w => (h.2.2.1 w).toT (by omega) hN, fun w => (h.2.2.2 w).toT (by omega) hN⟩
theorem TextsX.le {N n m : Nat} {tcl : Int32} {tcd tst ten trw : Nat → Int32} {ucl : Int32} {ucd ust uen urw : Nat → Int32} {wcl : Int32} {wcd wst wen wrw : Nat → Int32} {xcl : Int32} {xcd xst xen xrw : Nat → Int32} {vt : Nat → Int32} (h : TextsX N tcl tcd tst ten trw ucl ucd ust uen urw wcl wcd wst wen wrw xcl xcd xst xen xrw vt n) (hm : m ≤ n) : TextsX N tcl tcd tst ten trw ucl ucd ust uen urw wcl wcd wst wen wrw xcl xcd xst xen xrw vt m := ⟨fun w => h.1 (by omega), fun w => h.2.1 (by omega), fun w => h.2.2.1 (by omega), fun w => h.2.2.2 (by omega)⟩
section
variable {N n t : Nat} {K Nu Pl : Nat → Nat} {RL : RLT} {tape : Nat → Int32} {taped : Int32} {bl : Int32} {ki pl nu : Nat → Int32}
theorem dLoop (h : HX N n (729 * t) 0 K Nu Pl RL tape taped ki pl nu) (ht : t < 4) {a vt0 by_ : Nat → Int32} : ∀ (q f1 f2 k i l w on : Nat) (cd st en rows vt pile : Nat → Int32) (at_ pl_ tk num : Int32) (wd : Int64) (pt law0 s0 piled opens wh : Int32), n - i ≤ q → q < f1 → q < f2 → TxI N n t k i l w on cd st en rows vt vt0 → RL i at_ pl_ tk num wd →
    (∃ (f j : Nat) (cl' ln' pt' : Int32) (cd' st' en' rows' : Nat → Int32) (ec law' : Int32) (vt' pile' : Nat → Int32) (at' pl' tk' nu' : Int32) (wd' : Int64) (wr' s0' piled' opens' wh' on' : Int32), f_X5_read_42 N f1 bl (nI n) by_ ki pl nu (nI k) (nI l) pt cd st en rows (nI 0) (-nI 1) (nI i) law0 (nI k) = some (nI 0, nI n, ki, pl, nu, cl', ln', pt', cd', st', en', rows', nI f, nI (Pl j), ec, law') ∧ f_X12_readText_43 N f2 a vt tape taped at_ pl_ tk num wd (nI (729 * t)) (nI w) s0 pile piled opens wh (nI on) = some (nI f, vt', at', nI (Pl j), tk', nu', wd', nI (729 * t), wr', s0', pile', piled', opens', wh', on') ∧ 1 ≤ f ∧ f ≤ 6 ∧ ∀ q, (q < 729 * t ∨ 729 * t + 729 ≤ q) → vt' q = vt0 q) ∨
    (∃ (cl' ln' pt' : Int32) (cd' st' en' rows' : Nat → Int32) (ec law' : Int32) (vt' pile' : Nat → Int32) (at' pl' tk' nu' : Int32) (wd' : Int64) (wr' s0' piled' opens' wh' on' : Int32), f_X5_read_42 N f1 bl (nI n) by_ ki pl nu (nI k) (nI l) pt cd st en rows (nI 0) (-nI 1) (nI i) law0 (nI k) = some (nI 1, nI n, ki, pl, nu, cl', ln', pt', cd', st', en', rows', nI 0, -nI 1, ec, law') ∧ f_X12_readText_43 N f2 a vt tape taped at_ pl_ tk num wd (nI (729 * t)) (nI w) s0 pile piled opens wh (nI on) = some (nI 0, vt', at', pl', tk', nu', wd', nI (729 * t), wr', s0', pile', piled', opens', wh', on') ∧ TextX N cl' cd' st' en' rows' vt' t ∧ ∀ q, (q < 729 * t ∨ 729 * t + 729 ≤ q) → vt' q = vt0 q) := by
  have n3 := h.1.2.1
  have h10 : (nI 1 = nI 0) = False := eq_false (by decide)
  intro q
  induction q with
  | zero =>
    intro f1 f2 k i l w on cd st en rows vt pile at_ pl_ tk num wd pt law0 s0 piled opens wh a1 a2 a3 hI hr
    have := hI.2.1
    omega
  | succ q ih =>
    intro f1 f2 k i l w on cd st en rows vt pile at_ pl_ tk num wd pt law0 s0 piled opens wh a1 a2 a3 hI hr
    obtain ⟨f1, rfl⟩ : ∃ m, f1 = m + 1 := ⟨f1 - 1, by omega⟩
    obtain ⟨f2, rfl⟩ : ∃ m, f2 = m + 1 := ⟨f2 - 1, by omega⟩
    have i1 := hI.1
    have i2 := hI.2.1
    have tkc := cTok h i2
    have kb := (cKind h i2).1
    obtain ⟨p1, p2, p3⟩ := h.1.2.2.2.2.1 i _ _ _ _ _ i2 hr
    obtain ⟨tt, e1, -, e3, -, -⟩ := p2
    subst e1
    obtain ⟨-, -, -, -, -, -, -, -, -, -, -, -, -, -, T0⟩ := tkAll e3
    by_cases k47 : K i = 47
    · obtain ⟨j1, j2, j3, j4, j5, j6, j7, j8, j9⟩ := hI
      refine Or.inr ⟨nI k, nI l, pt, cd, st, en, rows, nI i, law0, vt, pile, at_, pl_, nI tt, num, wd, nI w, s0, piled, opens, wh, nI on, ?_, ?_, ⟨k, l, w, on, j1, by omega, by omega, rfl, j5, j6, j8⟩, j9⟩
      · rw [f_X5_read_42]
        generalize f_X5_read_42 N f1 = Kf
        simp (disch := omega) only [li, nlt_f, tkc, k47, ob1_s, ↓reduceIte]
      · rw [f_X12_readText_43]
        generalize f_X12_readText_43 N f2 = Kf
        simp only [li, T0, k47, ↓reduceIte]
    · rcases dClause (bl := bl) (pt := pt) (ft := nI 0) (pc := -nI 1) (law0 := law0) (s0 := s0) (pile := pile) (piled := piled) (opens := opens) (wh := wh) h ht hI hr k47 with ⟨f, j, cl', ln', pt', cd', st', en', rows', ec, law', vt', pile', at', pl', tk', nu', wd', wr', s0', piled', opens', wh', on', c1, c2, c3, c4, c5, c6, c7⟩ | ⟨i', l', w', on', pt', cd', st', en', rows', law', vt', pile', at', pl', tk', nu', wd', s0', piled', opens', wh', c1, c2, c3, c4, c5⟩
      · have fz : (nI f = nI 0) = False := neq_f (by omega) (by omega) (by omega)
        have pj := (h.1.2.2.2.2.1 j _ _ _ _ _ c5 c6).1
        rw [pj] at c2
        refine Or.inl ⟨f, j, cl', ln', pt', cd', st', en', rows', ec, law', vt', pile', at', nI (Pl j), tk', nu', wd', wr', s0', piled', opens', wh', on', ?_, ?_, c3, c4, c7⟩
        · rw [f_X5_read_42]
          generalize f_X5_read_42 N f1 = Kf
          simp (disch := omega) only [li, nlt_f, tkc, neq_f, c1, ob1_s, ob12_s, ↓reduceIte]
        · rw [f_X12_readText_43]
          generalize f_X12_readText_43 N f2 = Kf
          simp only [li, T0, k47, c2, fz, ob14_s, ↓reduceIte]
      · have s1 : f_X5_read_42 N (f1 + 1) bl (nI n) by_ ki pl nu (nI k) (nI l) pt cd st en rows (nI 0) (-nI 1) (nI i) law0 (nI k) = f_X5_read_42 N f1 bl (nI n) by_ ki pl nu (nI (k + 1)) (nI l') pt' cd' st' en' rows' (nI 0) (-nI 1) (nI i') law' (nI (k + 1)) := by
          rw [f_X5_read_42]
          generalize f_X5_read_42 N f1 = Kf
          simp (disch := omega) only [li, nlt_f, tkc, neq_f, c1, h10, nI_add, ob1_s, ob12_s, ↓reduceIte]
        have s2 : f_X12_readText_43 N (f2 + 1) a vt tape taped at_ pl_ (nI tt) num wd (nI (729 * t)) (nI w) s0 pile piled opens wh (nI on) = f_X12_readText_43 N f2 a vt' tape taped at' pl' tk' nu' wd' (nI (729 * t)) (nI w') s0' pile' piled' opens' wh' (nI on') := by
          rw [f_X12_readText_43]
          generalize f_X12_readText_43 N f2 = Kf
          simp only [li, T0, k47, c2, ob14_s, ↓reduceIte]
        rw [s1, s2]
        exact ih f1 f2 (k + 1) i' l' w' on' cd' st' en' rows' vt' pile' at' pl' tk' nu' wd' pt' law' s0' piled' opens' wh' (by omega) (by omega) (by omega) c5 c4
end
theorem cEmpty {N : Nat} {cl ln pt : Int32} {st en : Nat → Int32} (hN : 100 ≤ N) : ∃ st' en', f_X9_empty N cl ln pt st en = some (nI 0, nI 0, nI 0, st', en') ∧ ∀ i, i < 4 → st' i = -nI 1 := by
  obtain ⟨m, hm⟩ : ∃ m, N = m + 5 := ⟨N - 5, by omega⟩
  refine ⟨upd (upd (upd (upd st 0 (-nI 1)) 1 (-nI 1)) 2 (-nI 1)) 3 (-nI 1), upd (upd (upd (upd en 0 (-nI 1)) 1 (-nI 1)) 2 (-nI 1)) 3 (-nI 1), ?_, fun i hi => ?_⟩
  · have e : f_X9_empty N cl ln pt st en = f_X9_empty_17 N (m + 5) (nI 0) (nI 0) (nI 0) st en (nI 0) := by rw [← hm]; rfl
    rw [e]
    simp (disch := omega) only [f_X9_empty_17, li, nle_f, nle_t, sA_n, nI_add, ↓reduceIte]
  · rcases (show i = 0 ∨ i = 1 ∨ i = 2 ∨ i = 3 by omega) with e | e | e | e <;> subst e
    · rw [upd_ne (by omega), upd_ne (by omega), upd_ne (by omega), upd_eq rfl]
    · rw [upd_ne (by omega), upd_ne (by omega), upd_eq rfl]
    · rw [upd_ne (by omega), upd_eq rfl]
    · rw [upd_eq rfl]
/-- both read a text -/
theorem dRead {N L t : Nat} {by_ tp a vt : Nat → Int32} {T : Nat → Nat} (hC : CBy L by_ T) (hR : RBy L tp T) (hN : 10000 ≤ N) (ht : t < 4) (ha : a 2 = nI t) (tok0 cl ln pt ft pc ec0 law0 : Int32) (ki pl nu cd st en rows : Nat → Int32) (at_ pl_ tk num : Int32) (wd : Int64) (tx0 wr s0 piled opens wh once : Int32) (pile : Nat → Int32) :
    (∃ (f p : Nat) (tok' : Int32) (ki' pl' nu' : Nat → Int32) (cl' ln' pt' : Int32) (cd' st' en' rows' : Nat → Int32) (ec law' : Int32) (vt' : Nat → Int32) (at' tk' num' : Int32) (wd' : Int64) (tx' wr' s0' : Int32) (pile' : Nat → Int32) (piled' opens' wh' on' : Int32), f_X5_read N (nI L) tok0 by_ ki pl nu cl ln pt cd st en rows ft pc ec0 law0 = some (nI 0, tok', ki', pl', nu', cl', ln', pt', cd', st', en', rows', nI f, nI p, ec, law') ∧ f_X12_readText N a vt tp (nI L) at_ pl_ tk num wd tx0 wr s0 pile piled opens wh once = some (nI f, vt', at', nI p, tk', num', wd', tx', wr', s0', pile', piled', opens', wh', on') ∧ 1 ≤ f ∧ f ≤ 6 ∧ ∀ q, (q < 729 * t ∨ 729 * t + 729 ≤ q) → vt' q = vt q) ∨
    (∃ (tok' : Int32) (ki' pl' nu' : Nat → Int32) (cl' ln' pt' : Int32) (cd' st' en' rows' : Nat → Int32) (ec law' : Int32) (vt' : Nat → Int32) (at' plc' tk' num' : Int32) (wd' : Int64) (tx' wr' s0' : Int32) (pile' : Nat → Int32) (piled' opens' wh' on' : Int32), f_X5_read N (nI L) tok0 by_ ki pl nu cl ln pt cd st en rows ft pc ec0 law0 = some (nI 1, tok', ki', pl', nu', cl', ln', pt', cd', st', en', rows', nI 0, -nI 1, ec, law') ∧ f_X12_readText N a vt tp (nI L) at_ pl_ tk num wd tx0 wr s0 pile piled opens wh once = some (nI 0, vt', at', plc', tk', num', wd', tx', wr', s0', pile', piled', opens', wh', on') ∧ TextX N cl' cd' st' en' rows' vt' t ∧ ∀ q, (q < 729 * t ∨ 729 * t + 729 ≤ q) → vt' q = vt q) := by
  have hL := hC.1
  obtain ⟨st1, en1, e1, e2⟩ := cEmpty (N := N) (cl := cl) (ln := ln) (pt := pt) (st := st) (en := en) (by omega)
  obtain ⟨n, K, Nu, Pl, En, ki', pl', nu', s1, s2, s3⟩ := cSplit (N := N) hC (by omega) tok0 ki pl nu
  obtain ⟨tk1, tk2⟩ := rTK (N := N) hR (by omega) s2
  obtain ⟨at1, pl1, tk1', nu1, wd1, y1, y2⟩ := tk2 pl_ tk num wd
  have n1 := s2.1
  have h : HX N n (729 * t) 0 K Nu Pl (RLt N L tp K Nu Pl En) tp (nI L) ki' pl' nu' := ⟨tk1, by omega, by omega, by omega, s3⟩
  have hI : TxI N n t 0 0 0 0 0 cd st1 en1 rows (upd vt (729 * t) (nI 0)) vt := ⟨by omega, by omega, by omega, by omega, fun q hq => by omega, upd_eq rfl, by omega, fun lw hl => Or.inl ⟨Nat.zero_testBit lw, e2 lw hl, fun q hq => by omega⟩, fun q hq => upd_ne (by omega)⟩
  have c1 : f_X5_read N (nI L) tok0 by_ ki pl nu cl ln pt cd st en rows ft pc ec0 law0 = f_X5_read_42 N N (nI L) (nI n) by_ ki' pl' nu' (nI 0) (nI 0) (nI 0) cd st1 en1 rows (nI 0) (-nI 1) (nI 0) law0 (nI 0) := by
    simp only [f_X5_read, li, e1, s1, ob4_s, ob5_s]
  have c2 : f_X12_readText N a vt tp (nI L) at_ pl_ tk num wd tx0 wr s0 pile piled opens wh once = f_X12_readText_43 N N a (upd vt (729 * t) (nI 0)) tp (nI L) at1 pl1 tk1' nu1 wd1 (nI (729 * t)) (nI 0) s0 pile piled opens wh (nI 0) := by
    simp (disch := omega) only [f_X12_readText, li, gA_n, ha, pk_mul, sA_n, y1, ob5_s]
  have n3 := h.1.2.1
  rw [c1, c2]
  rcases dLoop (bl := nI L) (a := a) (vt0 := vt) (by_ := by_) h ht n N N 0 0 0 0 0 cd st1 en1 rows (upd vt (729 * t) (nI 0)) pile at1 pl1 tk1' nu1 wd1 (nI 0) law0 s0 piled opens wh (by omega) (by omega) (by omega) hI y2 with ⟨f, j, cl', ln', pt', cd', st', en', rows', ec, law', vt', pile', at', plx, tk', nux, wd', wr', s0', piled', opens', wh', on', d1, d2, d3, d4, d5⟩ | ⟨cl', ln', pt', cd', st', en', rows', ec, law', vt', pile', at', plx, tk', nux, wd', wr', s0', piled', opens', wh', on', d1, d2, d3, d4⟩
  · exact Or.inl ⟨f, Pl j, nI n, ki', pl', nu', cl', ln', pt', cd', st', en', rows', ec, law', vt', at', tk', nux, wd', nI (729 * t), wr', s0', pile', piled', opens', wh', on', d1, d2, d3, d4, d5⟩
  · exact Or.inr ⟨nI n, ki', pl', nu', cl', ln', pt', cd', st', en', rows', ec, law', vt', at', plx, tk', nux, wd', nI (729 * t), wr', s0', pile', piled', opens', wh', on', d1, d2, d3, d4⟩
