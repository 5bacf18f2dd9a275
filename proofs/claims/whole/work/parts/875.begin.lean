/-! the reference's reading of a sum, step by step -/
theorem tkAll {K t : Nat} (h : tkS K t) : (nI t = nI 1) = (K = 46) ∧ (nI t = nI 40) = (K = 43) ∧ (nI t = nI 45) = (K = 40) ∧ (nI t = nI 43) = (K = 39) ∧ (nI t = nI 42) = (K = 41) ∧ (nI t = nI 47) = (K = 42) ∧ (nI t = nI 41) = (K = 44) ∧ (nI t = nI 60) = (K = 35) ∧ (nI t = nI 4) = (K = 33) ∧ (nI t = nI 62) = (K = 36) ∧ (nI t = nI 5) = (K = 34) ∧ (nI t = nI 61) = (K = 37) ∧ (nI t = nI 35) = (K = 38) ∧ (nI t = nI 59) = (K = 45) ∧ (nI t = nI 0) = (K = 47) :=
  ⟨tkQ 1 46 h (by decide) (by decide) (by decide) (by decide), tkQ 40 43 h (by decide) (by decide) (by decide) (by decide), tkQ 45 40 h (by decide) (by decide) (by decide) (by decide), tkQ 43 39 h (by decide) (by decide) (by decide) (by decide), tkQ 42 41 h (by decide) (by decide) (by decide) (by decide), tkQ 47 42 h (by decide) (by decide) (by decide) (by decide), tkQ 41 44 h (by decide) (by decide) (by decide) (by decide), tkQ 60 35 h (by decide) (by decide) (by decide) (by decide), tkQ 4 33 h (by decide) (by decide) (by decide) (by decide), tkQ 62 36 h (by decide) (by decide) (by decide) (by decide), tkQ 5 34 h (by decide) (by decide) (by decide) (by decide), tkQ 61 37 h (by decide) (by decide) (by decide) (by decide), tkQ 35 38 h (by decide) (by decide) (by decide) (by decide), tkQ 59 45 h (by decide) (by decide) (by decide) (by decide), tkQ 0 47 h (by decide) (by decide) (by decide) (by decide)⟩
theorem natF {a b : Nat} (h : a ≠ b) : (a = b) = False := eq_false h
theorem natT {a b : Nat} (h : a = b) : (a = b) = True := eq_true h
abbrev RSt : Type := (Nat → Int32) × Int32 × Int32 × Int32 × Int32 × Int64 × Int32 × (Nat → Int32) × Int32 × Int32
abbrev RLT : Type := Nat → Int32 → Int32 → Int32 → Int32 → Int64 → Prop
/-- n tokens, the last one NOTHING MORE: kinds K, numbers Nu, places Pl; RL i: the reference stands at token i -/
def TK (N n : Nat) (K Nu Pl : Nat → Nat) (RL : RLT) (tape : Nat → Int32) (taped : Int32) : Prop :=
  1 ≤ n ∧ n ≤ 301 ∧ K (n - 1) = 47 ∧ (∀ i, i < n → K i ≤ 48 ∧ (i + 1 < n → K i ≠ 47) ∧ Nu i ≤ 10000 ∧ Pl i ≤ 300 ∧ (K i ≠ 46 → Nu i = 0)) ∧
  (∀ i at_ pl tk nu wd, i < n → RL i at_ pl tk nu wd → pl = nI (Pl i) ∧ TKR (K i) (Nu i) tk nu wd ∧ f_X12_isHungers N tape taped at_ pl tk = some (nI (if K i = 0 then 1 else 0))) ∧
  (∀ i at_ pl tk nu wd, i + 1 < n → RL i at_ pl tk nu wd → ∃ at' pl' tk' nu' wd', f_X12_nextToken N tape taped at_ pl tk nu wd = some (at', pl', tk', nu', wd') ∧ RL (i + 1) at' pl' tk' nu' wd')
theorem TK.more {N n : Nat} {K Nu Pl : Nat → Nat} {RL : RLT} {tape : Nat → Int32} {taped : Int32} (h : TK N n K Nu Pl RL tape taped) {i : Nat} (hi : i < n) (hk : K i ≠ 47) : i + 1 < n := by
  obtain ⟨h1, h2, h3, h4, -⟩ := h
  rcases Nat.lt_or_ge (i + 1) n with q | q
  · exact q
  · have : i = n - 1 := by omega
    subst this
    exact absurd h3 hk
def F15 (N n : Nat) (tape : Nat → Int32) (taped : Int32) (t0 law : Nat) (s : RSt) (wh : Int32) := f_X12_summed_15 N n s.1 tape taped s.2.1 s.2.2.1 s.2.2.2.1 s.2.2.2.2.1 s.2.2.2.2.2.1 (nI t0) s.2.2.2.2.2.2.1 (nI law) s.2.2.2.2.2.2.2.1 s.2.2.2.2.2.2.2.2.1 s.2.2.2.2.2.2.2.2.2 wh
def outS (f : Int32) (s : RSt) (wh : Int32) : Int32 × (Nat → Int32) × Int32 × Int32 × Int32 × Int32 × Int64 × Int32 × (Nat → Int32) × Int32 × Int32 × Int32 := (f, s.1, s.2.1, s.2.2.1, s.2.2.2.1, s.2.2.2.2.1, s.2.2.2.2.2.1, s.2.2.2.2.2.2.1, s.2.2.2.2.2.2.2.1, s.2.2.2.2.2.2.2.2.1, s.2.2.2.2.2.2.2.2.2, wh)
def FrV (t0 w0 : Nat) (vt0 vt : Nat → Int32) : Prop := ∀ k, (k < t0 + 121 + 2 * w0 ∨ t0 + 729 ≤ k) → vt k = vt0 k
def RC (RL : RLT) (t0 w0 : Nat) (vt0 : Nat → Int32) (i : Nat) (P : List Nat) (R : List (Nat × Nat)) (s : RSt) : Prop :=
  RL i s.2.1 s.2.2.1 s.2.2.2.1 s.2.2.2.2.1 s.2.2.2.2.2.1 ∧ PileT s.2.2.2.2.2.2.2.1 P ∧ s.2.2.2.2.2.2.2.2.1 = nI P.length ∧ s.2.2.2.2.2.2.2.2.2 = nI (opn P) ∧ s.2.2.2.2.2.2.1 = nI (w0 + R.length) ∧ RCd s.1 (t0 + 121 + 2 * w0) R ∧ FrV t0 w0 vt0 s.1
/-- numbers stay small: n tokens, w0 signs emitted ahead -/
def Sm (n w0 i : Nat) (P : List Nat) (R : List (Nat × Nat)) : Prop := w0 + R.length + P.length ≤ i ∧ i < n ∧ P.length ≤ 100
def Re (N : Nat) (tape : Nat → Int32) (taped : Int32) (t0 law : Nat) (RL : RLT) (w0 : Nat) (vt0 : Nat → Int32) (i : Nat) (P : List Nat) (R : List (Nat × Nat)) (wh : Int32) (i' : Nat) (P' : List Nat) (R' : List (Nat × Nat)) (wh' : Int32) : Prop :=
  i ≤ i' ∧ ∀ s, RC RL t0 w0 vt0 i P R s → ∃ s', RC RL t0 w0 vt0 i' P' R' s' ∧ ∀ m, F15 N (m + (i' - i)) tape taped t0 law s wh = F15 N m tape taped t0 law s' wh'
def Fa (N : Nat) (tape : Nat → Int32) (taped : Int32) (t0 law : Nat) (RL : RLT) (w0 : Nat) (vt0 : Nat → Int32) (i : Nat) (P : List Nat) (R : List (Nat × Nat)) (wh : Int32) (f j : Nat) : Prop :=
  i ≤ j ∧ ∀ s, RC RL t0 w0 vt0 i P R s → ∃ s' wh' P' R', RC RL t0 w0 vt0 j P' R' s' ∧ ∀ m, F15 N (m + (j - i) + 1) tape taped t0 law s wh = some (outS (nI f) s' wh')
theorem Re.tr {N : Nat} {tape : Nat → Int32} {taped : Int32} {t0 law : Nat} {RL : RLT} {w0 : Nat} {vt0 : Nat → Int32} {i j k : Nat} {P Q S : List Nat} {R T U : List (Nat × Nat)} {a b c : Int32} (h1 : Re N tape taped t0 law RL w0 vt0 i P R a j Q T b) (h2 : Re N tape taped t0 law RL w0 vt0 j Q T b k S U c) : Re N tape taped t0 law RL w0 vt0 i P R a k S U c := by
  obtain ⟨l1, h1⟩ := h1
  obtain ⟨l2, h2⟩ := h2
  refine ⟨by omega, fun s hs => ?_⟩
  obtain ⟨s1, g1, g2⟩ := h1 s hs
  obtain ⟨s2, g3, g4⟩ := h2 s1 g1
  refine ⟨s2, g3, fun m => ?_⟩
  rw [show m + (k - i) = m + (k - j) + (j - i) by omega, g2, g4]
theorem Re.fa {N : Nat} {tape : Nat → Int32} {taped : Int32} {t0 law : Nat} {RL : RLT} {w0 : Nat} {vt0 : Nat → Int32} {i j k f : Nat} {P Q : List Nat} {R T : List (Nat × Nat)} {a b : Int32} (h1 : Re N tape taped t0 law RL w0 vt0 i P R a j Q T b) (h2 : Fa N tape taped t0 law RL w0 vt0 j Q T b f k) : Fa N tape taped t0 law RL w0 vt0 i P R a f k := by
  obtain ⟨l1, h1⟩ := h1
  obtain ⟨l2, h2⟩ := h2
  refine ⟨by omega, fun s hs => ?_⟩
  obtain ⟨s1, g1, g2⟩ := h1 s hs
  obtain ⟨s2, wh', P', R', g3, g4⟩ := h2 s1 g1
  refine ⟨s2, wh', P', R', g3, fun m => ?_⟩
  rw [show m + (k - i) + 1 = m + (k - j) + 1 + (j - i) by omega, g2, g4]
/-- one token more, a sign emitted and the pile settled -/
theorem emSet {N n w0 t0 i o v k : Nat} {K Nu Pl : Nat → Nat} {RL : RLT} {tape : Nat → Int32} {taped : Int32} {vt0 vt pile : Nat → Int32} {P : List Nat} {R : List (Nat × Nat)} (hT : TK N n K Nu Pl RL tape taped) (hN : 1000 ≤ N) (ht : t0 + 729 ≤ 2916) (hS : Sm n w0 i P R) (hp : PileT pile P) (hR : RCd vt (t0 + 121 + 2 * w0) R) (hF : FrV t0 w0 vt0 vt) (hk : 1 ≤ k) (hk7 : k ≤ 7) :
    ∃ vt', f_X12_settle N (upd (upd vt (t0 + 121 + 2 * (w0 + R.length)) (nI o)) (t0 + 121 + 2 * (w0 + R.length) + 1) (nI v)) (nI t0) (nI (w0 + R.length + 1)) pile (nI P.length) (nI (opn P)) (nI k) = some (vt', nI (w0 + (R ++ [(o, v)] ++ sE k P).length), nI (sR k P).length, nI (opn (sR k P))) ∧ RCd vt' (t0 + 121 + 2 * w0) (R ++ [(o, v)] ++ sE k P) ∧ FrV t0 w0 vt0 vt' := by
  obtain ⟨m1, m2, m3⟩ := hS
  have n3 := hT.2.1
  obtain ⟨vt', g1, g2, g3⟩ := rSettle (N := N) (t0 := t0) (k := k) hk hk7 P (w0 + R.length + 1) N (upd (upd vt (t0 + 121 + 2 * (w0 + R.length)) (nI o)) (t0 + 121 + 2 * (w0 + R.length) + 1) (nI v)) hp (by omega) (by omega) (by omega)
  refine ⟨vt', ?_, ?_, ?_⟩
  · rw [show w0 + (R ++ [(o, v)] ++ sE k P).length = w0 + R.length + 1 + (sE k P).length by simp; omega]
    exact g1
  · refine RCd.app (RCd.app (hR.cg (fun q h1 h2 => ?_)) ⟨?_, ?_, trivial⟩) ?_
    · rw [g3 q (by omega), upd_ne (by omega), upd_ne (by omega)]
    · rw [g3 _ (by omega), upd_ne (by omega), upd_eq (by omega)]
    · rw [g3 _ (by omega), upd_eq (by omega)]
    · rw [show t0 + 121 + 2 * w0 + 2 * (R ++ [(o, v)]).length = t0 + 121 + 2 * (w0 + R.length + 1) by simp; omega]
      exact g2
  · intro q hq
    rw [g3 q (by omega), upd_ne (by omega), upd_ne (by omega)]
    exact hF q hq
/-- the pile settled alone -/
theorem emSet0 {N n w0 t0 i k : Nat} {K Nu Pl : Nat → Nat} {RL : RLT} {tape : Nat → Int32} {taped : Int32} {vt0 vt pile : Nat → Int32} {P : List Nat} {R : List (Nat × Nat)} (hT : TK N n K Nu Pl RL tape taped) (hN : 1000 ≤ N) (ht : t0 + 729 ≤ 2916) (hS : Sm n w0 i P R) (hp : PileT pile P) (hR : RCd vt (t0 + 121 + 2 * w0) R) (hF : FrV t0 w0 vt0 vt) (hk : 1 ≤ k) (hk7 : k ≤ 7) :
    ∃ vt', f_X12_settle N vt (nI t0) (nI (w0 + R.length)) pile (nI P.length) (nI (opn P)) (nI k) = some (vt', nI (w0 + (R ++ sE k P).length), nI (sR k P).length, nI (opn (sR k P))) ∧ RCd vt' (t0 + 121 + 2 * w0) (R ++ sE k P) ∧ FrV t0 w0 vt0 vt' := by
  obtain ⟨m1, m2, m3⟩ := hS
  have n3 := hT.2.1
  obtain ⟨vt', g1, g2, g3⟩ := rSettle (N := N) (t0 := t0) (k := k) hk hk7 P (w0 + R.length) N vt hp (by omega) (by omega) (by omega)
  refine ⟨vt', ?_, ?_, ?_⟩
  · rw [show w0 + (R ++ sE k P).length = w0 + R.length + (sE k P).length by simp; omega]
    exact g1
  · refine RCd.app (hR.cg (fun q h1 h2 => ?_)) ?_
    · rw [g3 q (by omega)]
    · rw [show t0 + 121 + 2 * w0 + 2 * R.length = t0 + 121 + 2 * (w0 + R.length) by omega]
      exact g2
  · intro q hq
    rw [g3 q (by omega)]
    exact hF q hq
def okN (law m : Nat) : Bool := ([15, 15, 15, 15, 15, 7, 7, 12, 12, 10].getD m 0).testBit law
theorem rIsOf' : ∀ law, law < 4 → ∀ m, m < 10 → f_X12_isOf 0 (nI law) (nI (sg m)) = some (nI (if okN law m = true then 1 else 0)) := by decide +kernel
theorem rIsOf {N law m : Nat} (hl : law < 4) (hm : m < 10) : f_X12_isOf N (nI law) (nI (sg m)) = some (nI (if okN law m = true then 1 else 0)) := rIsOf' law hl m hm
theorem bgLeaf {N n w0 t0 i law : Nat} {K Nu Pl : Nat → Nat} {RL : RLT} {tape : Nat → Int32} {taped : Int32} {vt0 : Nat → Int32} {P : List Nat} {R : List (Nat × Nat)} (hT : TK N n K Nu Pl RL tape taped) (hN : 1000 ≤ N) (ht : t0 + 729 ≤ 2916) (hlw : law < 4) (hS : Sm n w0 i P R) {o v : Nat} (hK : (K i = 46 ∧ Nu i ≤ 9999 ∧ o = 0 ∧ v = Nu i) ∨ (11 ≤ K i ∧ K i ≤ 20 ∧ okN law (K i - 11) = true ∧ o = 1 ∧ v = sg (K i - 11))) : Re N tape taped t0 law RL w0 vt0 i P R 0 (i + 1) (sR 7 P) (R ++ [(o, v)] ++ sE 7 P) 1 := by
  obtain ⟨m1, m2, m3⟩ := id hS
  have n3 := hT.2.1
  obtain ⟨k1, k2, k3, k4, k5⟩ := hT.2.2.2.1 i m2
  have h1n := hT.more m2 (show K i ≠ 47 by omega)
  refine ⟨by omega, fun s hs => ?_⟩
  · skip
    obtain ⟨vt, at_, pl, tk, nu, wd, wr, pile, piled, opens⟩ := s
    obtain ⟨r1, r2, r3, r4, r5, r6, r7⟩ := hs
    dsimp only at r1 r2 r3 r4 r5 r6 r7
    subst r3
    subst r4
    subst r5
    obtain ⟨p1, p2, p3⟩ := hT.2.2.2.2.1 i _ _ _ _ _ m2 r1
    have nm := rName (N := N) p2
    have p2' := p2
    obtain ⟨t, e1, e2, e3, e4, e5⟩ := p2
    subst e1
    obtain ⟨T1, T40, T45, T43, T42, T47, T41, T60, T4, T62, T5, T61, T35, T59, T0⟩ := tkAll e3
    obtain ⟨at', pl', tk', nu', wd', x1, x2⟩ := hT.2.2.2.2.2 i _ _ _ _ _ h1n r1
    have ol := opn_len P
    obtain ⟨vt', s1, s2, s3⟩ := emSet (o := o) (v := v) (k := 7) hT hN ht hS r2 r6 r7 (by omega) (by omega)
    have em := rEmit (N := N) (t0 := t0) (w := w0 + R.length) (o := o) (v := v) (vt := vt) (by omega)
    refine ⟨(vt', at', pl', tk', nu', wd', nI (w0 + (R ++ [(o, v)] ++ sE 7 P).length), pile, nI (sR 7 P).length, nI (opn (sR 7 P))), ⟨x2, sR_pile 7 P r2, rfl, rfl, rfl, s2, s3⟩, fun m => ?_⟩
    rw [show m + (i + 1 - i) = m + 1 by omega]
    unfold F15
    dsimp only
    rw [f_X12_summed_15]
    generalize f_X12_summed_15 N m = Kf
    rcases hK with ⟨q1, q2, q3, q4⟩ | ⟨q1, q2, q3, q4, q5⟩
    · subst q3
      have t1 : t = 1 := by have := e3.2.1 (by omega); rw [q1] at this; exact this
      obtain ⟨mm, y1, y2, y3⟩ := e4 t1
      have y4 : mm = v := by omega
      subst y1
      subst y4
      rw [if_neg (by omega)] at nm
      have n1 : -nI 1 < nI 0 := by decide
      simp (maxSteps := 300000) (disch := omega) only [f_X12_beginOne, f_X12_beginOne_20, f_X12_beginOne_39, f_X12_beginOne_51, f_X12_beginOne_65, f_X12_beginOne_81, li, T1, q1, nle_t, nm, n1, em, x1, s1, ob1_s, ob2_s, ob4_s, ob5_s, ob12_s, ↓reduceIte]
    · subst q4
      subst q5
      rw [if_pos ⟨q1, q2⟩] at nm
      have iso := rIsOf (N := N) (law := law) (m := K i - 11) hlw (by omega)
      have sgb := (gs_sg (K i - 11) (by omega)).2
      rw [if_pos q3] at iso
      have n46 : (K i = 46) = False := natF (by omega)
      have hlt : (nI (sg (K i - 11)) < nI 0) = False := nlt_f (by omega) (by omega)
      have h10 : (nI 1 = nI 0) = False := eq_false (by decide)
      simp only [f_X12_beginOne, f_X12_beginOne_20, f_X12_beginOne_39, f_X12_beginOne_51, f_X12_beginOne_65, li, T1, n46, hlt, h10, nm, iso, ob1_s, ↓reduceIte]
      simp only [f_X12_beginOne_81, li, em, x1, s1, ob2_s, ob4_s, ob5_s, ob12_s, ↓reduceIte]
theorem bgBad {N n w0 t0 i law : Nat} {K Nu Pl : Nat → Nat} {RL : RLT} {tape : Nat → Int32} {taped : Int32} {vt0 : Nat → Int32} {P : List Nat} {R : List (Nat × Nat)} (hT : TK N n K Nu Pl RL tape taped) (hN : 1000 ≤ N) (ht : t0 + 729 ≤ 2916) (hlw : law < 4) (hS : Sm n w0 i P R) {f : Nat} (hK : (K i = 46 ∧ 9999 < Nu i ∧ f = 2) ∨ (11 ≤ K i ∧ K i ≤ 20 ∧ okN law (K i - 11) = false ∧ f = 5)) : Fa N tape taped t0 law RL w0 vt0 i P R 0 f i := by
  obtain ⟨m1, m2, m3⟩ := id hS
  have n3 := hT.2.1
  obtain ⟨k1, k2, k3, k4, k5⟩ := hT.2.2.2.1 i m2
  refine ⟨by omega, fun s hs => ⟨s, 0, P, R, hs, fun m => ?_⟩⟩
  · skip
    obtain ⟨vt, at_, pl, tk, nu, wd, wr, pile, piled, opens⟩ := s
    obtain ⟨r1, r2, r3, r4, r5, r6, r7⟩ := hs
    dsimp only at r1 r2 r3 r4 r5 r6 r7
    subst r3
    subst r4
    subst r5
    obtain ⟨p1, p2, p3⟩ := hT.2.2.2.2.1 i _ _ _ _ _ m2 r1
    have nm := rName (N := N) p2
    have p2' := p2
    obtain ⟨t, e1, e2, e3, e4, e5⟩ := p2
    subst e1
    obtain ⟨T1, T40, T45, T43, T42, T47, T41, T60, T4, T62, T5, T61, T35, T59, T0⟩ := tkAll e3
    rw [show m + (i - i) + 1 = m + 1 by omega]
    unfold F15 outS
    dsimp only
    rw [f_X12_summed_15]
    generalize f_X12_summed_15 N m = Kf
    rcases hK with ⟨q1, q2, q3⟩ | ⟨q1, q2, q3, q4⟩
    · subst q3
      have t1 : t = 1 := by have := e3.2.1 (by omega); rw [q1] at this; exact this
      obtain ⟨mm, y1, y2, y3⟩ := e4 t1
      subst y1
      simp (maxSteps := 300000) (disch := omega) only [f_X12_beginOne, li, T1, q1, nle_f, neq_f, ob1_s, ob2_s, ob4_s, ob5_s, ob12_s, ↓reduceIte]
    · subst q4
      rw [if_pos ⟨q1, q2⟩] at nm
      have iso := rIsOf (N := N) (law := law) (m := K i - 11) hlw (by omega)
      have sgb := (gs_sg (K i - 11) (by omega)).2
      rw [if_neg (by rw [q3]; decide)] at iso
      have n46 : (K i = 46) = False := natF (by omega)
      simp (maxSteps := 300000) (disch := omega) only [f_X12_beginOne, f_X12_beginOne_20, li, T1, n46, nlt_f, neq_f, nm, iso, ob1_s, ob12_s, ↓reduceIte]
/-- what opens: ( - ones fears if -/
def opK (K x : Nat) : Prop := (K = 43 ∧ x = 40) ∨ (K = 40 ∧ x = 5) ∨ (K = 24 ∧ x = 2) ∨ (K = 25 ∧ x = 3) ∨ (K = 26 ∧ x = 41)
theorem bgOpen {N n w0 t0 i law : Nat} {K Nu Pl : Nat → Nat} {RL : RLT} {tape : Nat → Int32} {taped : Int32} {vt0 : Nat → Int32} {P : List Nat} {R : List (Nat × Nat)} (hT : TK N n K Nu Pl RL tape taped) (hN : 1000 ≤ N) (ht : t0 + 729 ≤ 2916) (hlw : law < 4) (hS : Sm n w0 i P R) {x : Nat} (hK : opK (K i) x) (h8 : opn P < 8) : Re N tape taped t0 law RL w0 vt0 i P R 0 (i + 1) (x :: P) R 0 := by
  obtain ⟨m1, m2, m3⟩ := id hS
  have n3 := hT.2.1
  obtain ⟨k1, k2, k3, k4, k5⟩ := hT.2.2.2.1 i m2
  have hK0 := hK
  unfold opK at hK
  have h1n := hT.more m2 (show K i ≠ 47 by omega)
  refine ⟨by omega, fun s hs => ?_⟩
  · skip
    obtain ⟨vt, at_, pl, tk, nu, wd, wr, pile, piled, opens⟩ := s
    obtain ⟨r1, r2, r3, r4, r5, r6, r7⟩ := hs
    dsimp only at r1 r2 r3 r4 r5 r6 r7
    subst r3
    subst r4
    subst r5
    obtain ⟨p1, p2, p3⟩ := hT.2.2.2.2.1 i _ _ _ _ _ m2 r1
    have nm := rName (N := N) p2
    have p2' := p2
    obtain ⟨t, e1, e2, e3, e4, e5⟩ := p2
    subst e1
    obtain ⟨T1, T40, T45, T43, T42, T47, T41, T60, T4, T62, T5, T61, T35, T59, T0⟩ := tkAll e3
    obtain ⟨at', pl', tk', nu', wd', x1, x2⟩ := hT.2.2.2.2.2 i _ _ _ _ _ h1n r1
    have hx : x < 44 := by omega
    have ho : opn (x :: P) = opn P + 1 := by
      show opn1 x + opn P = _
      have : opn1 x = 1 := by rcases hK with ⟨-, q⟩ | ⟨-, q⟩ | ⟨-, q⟩ | ⟨-, q⟩ | ⟨-, q⟩ <;> subst q <;> decide
      omega
    refine ⟨(vt, at', pl', tk', nu', wd', nI (w0 + R.length), upd pile P.length (nI x), nI (P.length + 1), nI (opn P + 1)), ⟨x2, r2.push hx, rfl, by rw [ho], rfl, r6, r7⟩, fun m => ?_⟩
    rw [show m + (i + 1 - i) = m + 1 by omega]
    unfold F15
    dsimp only
    rw [f_X12_summed_15]
    generalize f_X12_summed_15 N m = Kf
    have w24 := rWord (N := N) p2' 24 (by omega)
    have w25 := rWord (N := N) p2' 25 (by omega)
    have w26 := rWord (N := N) p2' 26 (by omega)
    have w30 := rWord (N := N) p2' 30 (by omega)
    have n1 : -nI 1 < nI 0 := by decide
    rcases hK with ⟨qk, qx⟩ | ⟨qk, qx⟩ | ⟨qk, qx⟩ | ⟨qk, qx⟩ | ⟨qk, qx⟩
    · subst qx
      rw [qk] at nm w24 w25 w26 w30
      rw [if_neg (by omega)] at nm
      simp (maxSteps := 300000) (disch := omega) only [f_X12_beginOne, f_X12_beginOne_20, f_X12_beginOne_39, li, T1, T40, T45, qk, natF, natT, neq_f, nm, n1, f_X12_opened, sA_n, x1, nI_add, ob1_s, ob5_s, ob9_s, ob12_s, ↓reduceIte]
    · subst qx
      rw [qk] at nm w24 w25 w26 w30
      rw [if_neg (by omega)] at nm
      simp (maxSteps := 300000) (disch := omega) only [f_X12_beginOne, f_X12_beginOne_20, f_X12_beginOne_39, li, T1, T40, T45, qk, natF, natT, neq_f, nm, n1, f_X12_opened, sA_n, x1, nI_add, ob1_s, ob5_s, ob9_s, ob12_s, ↓reduceIte]
    · subst qx
      rw [qk] at nm w24 w25 w26 w30
      rw [if_neg (by omega)] at nm
      rw [if_pos rfl] at w24
      simp (maxSteps := 300000) (disch := omega) only [f_X12_beginOne, f_X12_beginOne_20, f_X12_beginOne_39, li, T1, T40, T45, qk, natF, natT, neq_f, nm, n1, w24, wc_ones, f_X12_opened, sA_n, x1, nI_add, ob1_s, ob5_s, ob9_s, ob12_s, ↓reduceIte]
    · subst qx
      rw [qk] at nm w24 w25 w26 w30
      rw [if_neg (by omega)] at nm
      rw [if_neg (by omega)] at w24
      rw [if_pos rfl] at w25
      simp (maxSteps := 300000) (disch := omega) only [f_X12_beginOne, f_X12_beginOne_20, f_X12_beginOne_39, li, T1, T40, T45, qk, natF, natT, neq_f, nm, n1, w24, w25, wc_ones, wc_fears, f_X12_opened, sA_n, x1, nI_add, ob1_s, ob5_s, ob9_s, ob12_s, ↓reduceIte]
    · subst qx
      rw [qk] at nm w24 w25 w26 w30
      rw [if_neg (by omega)] at nm
      rw [if_neg (by omega)] at w24
      rw [if_neg (by omega)] at w25
      rw [if_pos rfl] at w26
      simp (maxSteps := 300000) (disch := omega) only [f_X12_beginOne, f_X12_beginOne_20, f_X12_beginOne_39, li, T1, T40, T45, qk, natF, natT, neq_f, nm, n1, w24, w25, w26, wc_ones, wc_fears, wc_if, f_X12_opened, sA_n, x1, nI_add, ob1_s, ob5_s, ob9_s, ob12_s, ↓reduceIte]
theorem bgDeep {N n w0 t0 i law : Nat} {K Nu Pl : Nat → Nat} {RL : RLT} {tape : Nat → Int32} {taped : Int32} {vt0 : Nat → Int32} {P : List Nat} {R : List (Nat × Nat)} (hT : TK N n K Nu Pl RL tape taped) (hN : 1000 ≤ N) (ht : t0 + 729 ≤ 2916) (hlw : law < 4) (hS : Sm n w0 i P R) {x : Nat} (hK : opK (K i) x) (h8 : opn P = 8) : Fa N tape taped t0 law RL w0 vt0 i P R 0 3 i := by
  obtain ⟨m1, m2, m3⟩ := id hS
  have n3 := hT.2.1
  obtain ⟨k1, k2, k3, k4, k5⟩ := hT.2.2.2.1 i m2
  unfold opK at hK
  refine ⟨by omega, fun s hs => ⟨s, 0, P, R, hs, fun m => ?_⟩⟩
  · skip
    obtain ⟨vt, at_, pl, tk, nu, wd, wr, pile, piled, opens⟩ := s
    obtain ⟨r1, r2, r3, r4, r5, r6, r7⟩ := hs
    dsimp only at r1 r2 r3 r4 r5 r6 r7
    subst r3
    subst r4
    subst r5
    obtain ⟨p1, p2, p3⟩ := hT.2.2.2.2.1 i _ _ _ _ _ m2 r1
    have nm := rName (N := N) p2
    have p2' := p2
    obtain ⟨t, e1, e2, e3, e4, e5⟩ := p2
    subst e1
    obtain ⟨T1, T40, T45, T43, T42, T47, T41, T60, T4, T62, T5, T61, T35, T59, T0⟩ := tkAll e3
    rw [show m + (i - i) + 1 = m + 1 by omega]
    unfold F15 outS
    dsimp only
    rw [f_X12_summed_15]
    generalize f_X12_summed_15 N m = Kf
    have w24 := rWord (N := N) p2' 24 (by omega)
    have w25 := rWord (N := N) p2' 25 (by omega)
    have w26 := rWord (N := N) p2' 26 (by omega)
    have w30 := rWord (N := N) p2' 30 (by omega)
    have n1 : -nI 1 < nI 0 := by decide
    rcases hK with ⟨qk, qx⟩ | ⟨qk, qx⟩ | ⟨qk, qx⟩ | ⟨qk, qx⟩ | ⟨qk, qx⟩
    · subst qx
      rw [qk] at nm w24 w25 w26 w30
      rw [if_neg (by omega)] at nm
      simp (maxSteps := 300000) (disch := omega) only [f_X12_beginOne, f_X12_beginOne_20, f_X12_beginOne_39, li, T1, T40, T45, qk, natF, natT, neq_f, nm, n1, f_X12_opened, h8, ob1_s, ob5_s, ob9_s, ob12_s, ↓reduceIte]
    · subst qx
      rw [qk] at nm w24 w25 w26 w30
      rw [if_neg (by omega)] at nm
      simp (maxSteps := 300000) (disch := omega) only [f_X12_beginOne, f_X12_beginOne_20, f_X12_beginOne_39, li, T1, T40, T45, qk, natF, natT, neq_f, nm, n1, f_X12_opened, h8, ob1_s, ob5_s, ob9_s, ob12_s, ↓reduceIte]
    · subst qx
      rw [qk] at nm w24 w25 w26 w30
      rw [if_neg (by omega)] at nm
      rw [if_pos rfl] at w24
      simp (maxSteps := 300000) (disch := omega) only [f_X12_beginOne, f_X12_beginOne_20, f_X12_beginOne_39, li, T1, T40, T45, qk, natF, natT, neq_f, nm, n1, w24, wc_ones, f_X12_opened, h8, ob1_s, ob5_s, ob9_s, ob12_s, ↓reduceIte]
    · subst qx
      rw [qk] at nm w24 w25 w26 w30
      rw [if_neg (by omega)] at nm
      rw [if_neg (by omega)] at w24
      rw [if_pos rfl] at w25
      simp (maxSteps := 300000) (disch := omega) only [f_X12_beginOne, f_X12_beginOne_20, f_X12_beginOne_39, li, T1, T40, T45, qk, natF, natT, neq_f, nm, n1, w24, w25, wc_ones, wc_fears, f_X12_opened, h8, ob1_s, ob5_s, ob9_s, ob12_s, ↓reduceIte]
    · subst qx
      rw [qk] at nm w24 w25 w26 w30
      rw [if_neg (by omega)] at nm
      rw [if_neg (by omega)] at w24
      rw [if_neg (by omega)] at w25
      rw [if_pos rfl] at w26
      simp (maxSteps := 300000) (disch := omega) only [f_X12_beginOne, f_X12_beginOne_20, f_X12_beginOne_39, li, T1, T40, T45, qk, natF, natT, neq_f, nm, n1, w24, w25, w26, wc_ones, wc_fears, wc_if, f_X12_opened, h8, ob1_s, ob5_s, ob9_s, ob12_s, ↓reduceIte]
theorem bgNot {N n w0 t0 i law : Nat} {K Nu Pl : Nat → Nat} {RL : RLT} {tape : Nat → Int32} {taped : Int32} {vt0 : Nat → Int32} {P : List Nat} {R : List (Nat × Nat)} (hT : TK N n K Nu Pl RL tape taped) (hN : 1000 ≤ N) (ht : t0 + 729 ≤ 2916) (hlw : law < 4) (hS : Sm n w0 i P R) (hK : K i = 30) (ha : askA P = true) (h8 : opn P < 8) : Re N tape taped t0 law RL w0 vt0 i P R 0 (i + 1) (20 :: P) R 0 := by
  obtain ⟨m1, m2, m3⟩ := id hS
  have n3 := hT.2.1
  obtain ⟨k1, k2, k3, k4, k5⟩ := hT.2.2.2.1 i m2
  have h1n := hT.more m2 (show K i ≠ 47 by omega)
  refine ⟨by omega, fun s hs => ?_⟩
  · skip
    obtain ⟨vt, at_, pl, tk, nu, wd, wr, pile, piled, opens⟩ := s
    obtain ⟨r1, r2, r3, r4, r5, r6, r7⟩ := hs
    dsimp only at r1 r2 r3 r4 r5 r6 r7
    subst r3
    subst r4
    subst r5
    obtain ⟨p1, p2, p3⟩ := hT.2.2.2.2.1 i _ _ _ _ _ m2 r1
    have nm := rName (N := N) p2
    have p2' := p2
    obtain ⟨t, e1, e2, e3, e4, e5⟩ := p2
    subst e1
    obtain ⟨T1, T40, T45, T43, T42, T47, T41, T60, T4, T62, T5, T61, T35, T59, T0⟩ := tkAll e3
    obtain ⟨at', pl', tk', nu', wd', x1, x2⟩ := hT.2.2.2.2.2 i _ _ _ _ _ h1n r1
    have ho : opn (20 :: P) = opn P + 1 := by
      show opn1 20 + opn P = _
      have : opn1 20 = 1 := by decide
      omega
    refine ⟨(vt, at', pl', tk', nu', wd', nI (w0 + R.length), upd pile P.length (nI 20), nI (P.length + 1), nI (opn P + 1)), ⟨x2, r2.push (by omega), rfl, by rw [ho], rfl, r6, r7⟩, fun m => ?_⟩
    rw [show m + (i + 1 - i) = m + 1 by omega]
    unfold F15
    dsimp only
    rw [f_X12_summed_15]
    generalize f_X12_summed_15 N m = Kf
    have w24 := rWord (N := N) p2' 24 (by omega)
    have w25 := rWord (N := N) p2' 25 (by omega)
    have w26 := rWord (N := N) p2' 26 (by omega)
    have w30 := rWord (N := N) p2' 30 (by omega)
    have n1 : -nI 1 < nI 0 := by decide
    have aa := rAskA (N := N) r2 (by omega) (by omega)
    rw [if_pos ha] at aa
    rw [hK] at nm w24 w25 w26 w30
    rw [if_neg (by omega)] at nm w24 w25 w26
    rw [if_pos rfl] at w30
    simp (maxSteps := 300000) (disch := omega) only [f_X12_beginOne, f_X12_beginOne_20, f_X12_beginOne_39, li, T1, T40, T45, hK, natF, neq_f, nm, n1, w24, w25, w26, w30, wc_ones, wc_fears, wc_if, wc_not, aa, f_X12_opened, sA_n, x1, nI_add, ob1_s, ob5_s, ob9_s, ob12_s, ↓reduceIte]
theorem bgNotDeep {N n w0 t0 i law : Nat} {K Nu Pl : Nat → Nat} {RL : RLT} {tape : Nat → Int32} {taped : Int32} {vt0 : Nat → Int32} {P : List Nat} {R : List (Nat × Nat)} (hT : TK N n K Nu Pl RL tape taped) (hN : 1000 ≤ N) (ht : t0 + 729 ≤ 2916) (hlw : law < 4) (hS : Sm n w0 i P R) (hK : K i = 30) (ha : askA P = true) (h8 : opn P = 8) : Fa N tape taped t0 law RL w0 vt0 i P R 0 3 i := by
  obtain ⟨m1, m2, m3⟩ := id hS
  have n3 := hT.2.1
  obtain ⟨k1, k2, k3, k4, k5⟩ := hT.2.2.2.1 i m2
  refine ⟨by omega, fun s hs => ⟨s, 0, P, R, hs, fun m => ?_⟩⟩
  · skip
    obtain ⟨vt, at_, pl, tk, nu, wd, wr, pile, piled, opens⟩ := s
    obtain ⟨r1, r2, r3, r4, r5, r6, r7⟩ := hs
    dsimp only at r1 r2 r3 r4 r5 r6 r7
    subst r3
    subst r4
    subst r5
    obtain ⟨p1, p2, p3⟩ := hT.2.2.2.2.1 i _ _ _ _ _ m2 r1
    have nm := rName (N := N) p2
    have p2' := p2
    obtain ⟨t, e1, e2, e3, e4, e5⟩ := p2
    subst e1
    obtain ⟨T1, T40, T45, T43, T42, T47, T41, T60, T4, T62, T5, T61, T35, T59, T0⟩ := tkAll e3
    rw [show m + (i - i) + 1 = m + 1 by omega]
    unfold F15 outS
    dsimp only
    rw [f_X12_summed_15]
    generalize f_X12_summed_15 N m = Kf
    have w24 := rWord (N := N) p2' 24 (by omega)
    have w25 := rWord (N := N) p2' 25 (by omega)
    have w26 := rWord (N := N) p2' 26 (by omega)
    have w30 := rWord (N := N) p2' 30 (by omega)
    have n1 : -nI 1 < nI 0 := by decide
    have aa := rAskA (N := N) r2 (by omega) (by omega)
    rw [if_pos ha] at aa
    rw [hK] at nm w24 w25 w26 w30
    rw [if_neg (by omega)] at nm w24 w25 w26
    rw [if_pos rfl] at w30
    simp (maxSteps := 300000) (disch := omega) only [f_X12_beginOne, f_X12_beginOne_20, f_X12_beginOne_39, li, T1, T40, T45, hK, natF, neq_f, nm, n1, w24, w25, w26, w30, wc_ones, wc_fears, wc_if, wc_not, aa, f_X12_opened, h8, ob1_s, ob5_s, ob9_s, ob12_s, ↓reduceIte]
theorem bgElse {N n w0 t0 i law : Nat} {K Nu Pl : Nat → Nat} {RL : RLT} {tape : Nat → Int32} {taped : Int32} {vt0 : Nat → Int32} {P : List Nat} {R : List (Nat × Nat)} (hT : TK N n K Nu Pl RL tape taped) (hN : 1000 ≤ N) (ht : t0 + 729 ≤ 2916) (hlw : law < 4) (hS : Sm n w0 i P R) (hK : K i ≠ 46 ∧ ¬ (11 ≤ K i ∧ K i ≤ 20) ∧ K i ≠ 43 ∧ K i ≠ 40 ∧ K i ≠ 24 ∧ K i ≠ 25 ∧ K i ≠ 26) (ha : K i ≠ 30 ∨ askA P = false) : Fa N tape taped t0 law RL w0 vt0 i P R 0 1 i := by
  obtain ⟨m1, m2, m3⟩ := id hS
  have n3 := hT.2.1
  obtain ⟨k1, k2, k3, k4, k5⟩ := hT.2.2.2.1 i m2
  refine ⟨by omega, fun s hs => ⟨s, 0, P, R, hs, fun m => ?_⟩⟩
  · skip
    obtain ⟨vt, at_, pl, tk, nu, wd, wr, pile, piled, opens⟩ := s
    obtain ⟨r1, r2, r3, r4, r5, r6, r7⟩ := hs
    dsimp only at r1 r2 r3 r4 r5 r6 r7
    subst r3
    subst r4
    subst r5
    obtain ⟨p1, p2, p3⟩ := hT.2.2.2.2.1 i _ _ _ _ _ m2 r1
    have nm := rName (N := N) p2
    have p2' := p2
    obtain ⟨t, e1, e2, e3, e4, e5⟩ := p2
    subst e1
    obtain ⟨T1, T40, T45, T43, T42, T47, T41, T60, T4, T62, T5, T61, T35, T59, T0⟩ := tkAll e3
    rw [show m + (i - i) + 1 = m + 1 by omega]
    unfold F15 outS
    dsimp only
    rw [f_X12_summed_15]
    generalize f_X12_summed_15 N m = Kf
    have w24 := rWord (N := N) p2' 24 (by omega)
    have w25 := rWord (N := N) p2' 25 (by omega)
    have w26 := rWord (N := N) p2' 26 (by omega)
    have w30 := rWord (N := N) p2' 30 (by omega)
    have n1 : -nI 1 < nI 0 := by decide
    have aa := rAskA (N := N) r2 (by omega) (by omega)
    rw [if_neg hK.2.1] at nm
    rw [if_neg (by omega)] at w24 w25 w26
    rcases ha with ha | ha
    · rw [if_neg ha] at w30
      simp (maxSteps := 300000) (disch := omega) only [f_X12_beginOne, f_X12_beginOne_20, f_X12_beginOne_39, li, T1, T40, T45, natF, neq_f, nm, n1, w24, w25, w26, w30, wc_ones, wc_fears, wc_if, wc_not, ob1_s, ob12_s, ↓reduceIte]
    · rw [ha, if_neg (by decide)] at aa
      by_cases h30 : K i = 30
      · rw [if_pos h30] at w30
        simp (maxSteps := 300000) (disch := omega) only [f_X12_beginOne, f_X12_beginOne_20, f_X12_beginOne_39, li, T1, T40, T45, natF, neq_f, nm, n1, w24, w25, w26, w30, aa, wc_ones, wc_fears, wc_if, wc_not, ob1_s, ob12_s, ↓reduceIte]
      · rw [if_neg h30] at w30
        simp (maxSteps := 300000) (disch := omega) only [f_X12_beginOne, f_X12_beginOne_20, f_X12_beginOne_39, li, T1, T40, T45, natF, neq_f, nm, n1, w24, w25, w26, w30, wc_ones, wc_fears, wc_if, wc_not, ob1_s, ob12_s, ↓reduceIte]
