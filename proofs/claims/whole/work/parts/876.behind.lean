theorem opw_b {pile : Nat → Int32} : ∀ {P : List Nat} {x : Nat}, PileT pile P → opw P = some x → 40 ≤ x ∧ x < 44 := by
  intro P
  induction P with
  | nil => intro x _ h; cases h
  | cons o P ih =>
    intro x hp h
    rw [opw] at h
    by_cases c : 40 ≤ o
    · rw [if_pos c] at h
      cases h
      exact ⟨c, hp.2.1⟩
    · rw [if_neg c] at h
      exact ih hp.2.2 h
theorem opw_q {k : Nat} {P : List Nat} (hk : 1 ≤ k) : ∀ {Q : List Nat}, geR k Q → opw (Q ++ P) = opw P := by
  intro Q
  induction Q with
  | nil => intro _; rfl
  | cons o Q ih =>
    intro h
    have h1 := h.1
    have c : ¬ 40 ≤ o := fun c => by
      unfold rk at h1
      rw [if_pos c] at h1
      omega
    show opw (o :: (Q ++ P)) = _
    rw [opw, if_neg c]
    exact ih h.2.2
theorem cmpd_q {P : List Nat} : ∀ {Q : List Nat}, geR 5 Q → cmpd (Q ++ P) = cmpd P := by
  intro Q
  induction Q with
  | nil => intro _; rfl
  | cons o Q ih =>
    intro h
    have h1 := h.1
    show cmpd (o :: (Q ++ P)) = _
    rw [cmpd, if_pos (by omega)]
    exact ih h.2.2
def cmpO (K : Nat) : Option Nat := if K = 35 then some 10 else if K = 33 then some 11 else if K = 36 then some 12 else if K = 34 then some 13 else if K = 37 then some 14 else if K = 38 then some 15 else none
def btw (K : Nat) (X : List Nat) : Option Nat := if K = 39 then some 6 else if K = 40 then some 7 else if K = 41 then some 8 else if K = 42 then some 9 else if opw X = some 41 then (if cmpd X = true then (if K = 31 then some 21 else if K = 32 then some 22 else none) else cmpO K) else none
def prt (K : Nat) (X : List Nat) : Option Nat := if opw X = some 40 then (if K = 44 then some 0 else none) else if opw X = some 41 then (if K = 27 then (if cmpd X = true then some 42 else none) else none) else if opw X = some 42 then (if K = 28 then some 43 else none) else if opw X = some 43 then (if K = 29 then some 0 else none) else none
theorem oI_s {x : Nat} : oI (some x) = nI x := rfl
theorem oI_n : oI none = -nI 1 := rfl
theorem rBetw {N K nu : Nat} {tk num : Int32} {wd : Int64} {pile : Nat → Int32} {X : List Nat} (h : TKR K nu tk num wd) (hp : PileT pile X) (hb : X.length < 160) (hN : 1000 ≤ N) : f_X12_betweenOf N tk wd pile (nI X.length) = some (oI (btw K X)) := by
  have ow := rOpenNow (N := N) hp hb (by omega)
  have cm : f_X12_isCompared N pile (nI X.length) = some (nI (if cmpd X = true then 1 else 0)) := rCmpd X N hp (by omega) hb
  have w31 := rWord (N := N) h 31 (by omega)
  have w32 := rWord (N := N) h 32 (by omega)
  obtain ⟨t, e1, e2, e3, e4, e5⟩ := h
  subst e1
  obtain ⟨T1, T40, T45, T43, T42, T47, T41, T60, T4, T62, T5, T61, T35, T59, T0⟩ := tkAll e3
  unfold btw
  by_cases c39 : K = 39
  · rw [if_pos c39]
    simp only [f_X12_betweenOf, li, T43, c39, oI_s, ↓reduceIte]
  rw [if_neg c39]
  by_cases c40 : K = 40
  · rw [if_pos c40]
    simp (disch := omega) only [f_X12_betweenOf, li, T43, T45, natF, natT, oI_s, ↓reduceIte]
  rw [if_neg c40]
  by_cases c41 : K = 41
  · rw [if_pos c41]
    simp (disch := omega) only [f_X12_betweenOf, li, T43, T45, T42, natF, natT, oI_s, ↓reduceIte]
  rw [if_neg c41]
  by_cases c42 : K = 42
  · rw [if_pos c42]
    simp (disch := omega) only [f_X12_betweenOf, li, T43, T45, T42, T47, natF, natT, oI_s, ↓reduceIte]
  rw [if_neg c42]
  have h10 : (nI 1 = nI 0) = False := eq_false (by decide)
  by_cases co : opw X = some 41
  · rw [if_pos co]
    rw [co, oI_s] at ow
    by_cases cc : cmpd X = true
    · rw [if_pos cc]
      rw [if_pos cc] at cm
      by_cases c31 : K = 31
      · rw [if_pos c31] at w31 ⊢
        simp only [f_X12_betweenOf, li, T43, T45, T42, T47, c39, c40, c41, c42, ow, cm, wc_and, w31, h10, ob1_s, oI_s, ↓reduceIte]
      · rw [if_neg c31] at w31 ⊢
        by_cases c32 : K = 32
        · rw [if_pos c32] at w32 ⊢
          simp only [f_X12_betweenOf, li, T43, T45, T42, T47, c39, c40, c41, c42, ow, cm, wc_and, wc_or, w31, w32, h10, ob1_s, oI_s, ↓reduceIte]
        · rw [if_neg c32] at w32 ⊢
          simp only [f_X12_betweenOf, li, T43, T45, T42, T47, c39, c40, c41, c42, ow, cm, wc_and, wc_or, w31, w32, h10, ob1_s, oI_n, ↓reduceIte]
    · rw [if_neg cc]
      rw [if_neg cc] at cm
      have co : f_X12_compareOf N (nI t) = some (oI (cmpO K)) := by
        unfold f_X12_compareOf cmpO
        simp only [li, T60, T4, T62, T5, T61, T35]
        repeat' split
        all_goals rfl
      simp only [f_X12_betweenOf, li, T43, T45, T42, T47, c39, c40, c41, c42, ow, cm, co, ob1_s, ↓reduceIte]
  · rw [if_neg co]
    have c3 : ¬ oI (opw X) = nI 41 := by
      cases hq : opw X with
      | none => decide
      | some x =>
        intro h
        have hx := opw_b hp hq
        have h : nI x = nI 41 := h
        rw [neq (by omega) (by omega)] at h
        exact co (by rw [hq, h])
    simp only [f_X12_betweenOf, li, T43, T45, T42, T47, c39, c40, c41, c42, ow, c3, ob1_s, oI_n, ↓reduceIte]
theorem rPart {N K nu : Nat} {tk num : Int32} {wd : Int64} {pile : Nat → Int32} {X : List Nat} (h : TKR K nu tk num wd) (hp : PileT pile X) (hb : X.length < 160) (hN : 1000 ≤ N) : f_X12_partOf N tk wd pile (nI X.length) (oI (opw X)) = some (oI (prt K X)) := by
  have cm : f_X12_isCompared N pile (nI X.length) = some (nI (if cmpd X = true then 1 else 0)) := rCmpd X N hp (by omega) hb
  have w27 := rWord (N := N) h 27 (by omega)
  have w28 := rWord (N := N) h 28 (by omega)
  have w29 := rWord (N := N) h 29 (by omega)
  obtain ⟨t, e1, e2, e3, e4, e5⟩ := h
  subst e1
  obtain ⟨T1, T40, T45, T43, T42, T47, T41, T60, T4, T62, T5, T61, T35, T59, T0⟩ := tkAll e3
  have h10 : (nI 1 = nI 0) = False := eq_false (by decide)
  cases hq : opw X with
  | none =>
    have g : prt K X = none := by
      unfold prt
      rw [hq]; rfl
    rw [g, oI_n]
    have a1 : ¬ -nI 1 = nI 40 := by decide
    have a2 : ¬ -nI 1 = nI 41 := by decide
    have a3 : ¬ -nI 1 = nI 42 := by decide
    have a4 : ¬ -nI 1 = nI 43 := by decide
    simp only [f_X12_partOf, li, a1, a2, a3, a4, ↓reduceIte]
  | some x =>
    obtain ⟨b1, b2⟩ := opw_b hp hq
    unfold prt
    rw [hq, oI_s]
    rcases (show x = 40 ∨ x = 41 ∨ x = 42 ∨ x = 43 by omega) with e | e | e | e <;> subst e
    · rw [if_pos rfl]
      by_cases c : K = 44
      · rw [if_pos c]
        simp only [f_X12_partOf, li, T41, c, oI_s, ↓reduceIte]
      · rw [if_neg c]
        simp only [f_X12_partOf, li, T41, c, oI_n, ↓reduceIte]
    · rw [if_neg (by decide), if_pos rfl]
      have a1 : (nI 41 = nI 40) = False := eq_false (by decide)
      by_cases c : K = 27
      · rw [if_pos c] at w27 ⊢
        by_cases cc : cmpd X = true
        · rw [if_pos cc] at cm ⊢
          simp only [f_X12_partOf, li, a1, w27, cm, wc_then, h10, ob1_s, oI_s, ↓reduceIte]
        · rw [if_neg cc] at cm ⊢
          simp only [f_X12_partOf, li, a1, w27, cm, wc_then, h10, ob1_s, oI_n, ↓reduceIte]
      · rw [if_neg c] at w27 ⊢
        simp only [f_X12_partOf, li, a1, w27, wc_then, h10, ob1_s, oI_n, ↓reduceIte]
    · rw [if_neg (by decide), if_neg (by decide), if_pos rfl]
      have a1 : (nI 42 = nI 40) = False := eq_false (by decide)
      have a2 : (nI 42 = nI 41) = False := eq_false (by decide)
      by_cases c : K = 28
      · rw [if_pos c] at w28 ⊢
        simp only [f_X12_partOf, li, a1, a2, w28, wc_else, h10, ob1_s, oI_s, ↓reduceIte]
      · rw [if_neg c] at w28 ⊢
        simp only [f_X12_partOf, li, a1, a2, w28, wc_else, h10, ob1_s, oI_n, ↓reduceIte]
    · rw [if_neg (by decide), if_neg (by decide), if_neg (by decide), if_pos rfl]
      have a1 : (nI 43 = nI 40) = False := eq_false (by decide)
      have a2 : (nI 43 = nI 41) = False := eq_false (by decide)
      have a3 : (nI 43 = nI 42) = False := eq_false (by decide)
      by_cases c : K = 29
      · rw [if_pos c] at w29 ⊢
        simp only [f_X12_partOf, li, a1, a2, a3, w29, wc_end, h10, ob1_s, oI_s, ↓reduceIte]
      · rw [if_neg c] at w29 ⊢
        simp only [f_X12_partOf, li, a1, a2, a3, w29, wc_end, h10, ob1_s, oI_n, ↓reduceIte]
theorem bhOp {N n w0 t0 i law : Nat} {K Nu Pl : Nat → Nat} {RL : RLT} {tape : Nat → Int32} {taped : Int32} {vt0 : Nat → Int32} {X : List Nat} {R : List (Nat × Nat)} (hT : TK N n K Nu Pl RL tape taped) (hN : 1000 ≤ N) (ht : t0 + 729 ≤ 2916) (hS : Sm n w0 i X R) (hX : X.length < 100) {x k : Nat} (hb : btw (K i) X = some x) (hx : 6 ≤ x ∧ x ≤ 22 ∧ x ≠ 20) (hk : k = if rk x = 4 then 5 else rk x) : Re N tape taped t0 law RL w0 vt0 i X R 1 (i + 1) (x :: sR k X) (R ++ sE k X) 0 := by
  obtain ⟨m1, m2, m3⟩ := id hS
  have n3 := hT.2.1
  obtain ⟨k1, k2, k3, k4, k5⟩ := hT.2.2.2.1 i m2
  have hkb : 1 ≤ k ∧ k ≤ 7 := by
    have : ∀ x, x < 23 → 6 ≤ x → 1 ≤ (if rk x = 4 then 5 else rk x) ∧ (if rk x = 4 then 5 else rk x) ≤ 7 := by decide
    rw [hk]; exact this x (by omega) hx.1
  have k47 : K i ≠ 47 := by
    intro e
    rw [e] at hb
    unfold btw cmpO at hb
    rw [if_neg (by decide), if_neg (by decide), if_neg (by decide), if_neg (by decide)] at hb
    split at hb
    · split at hb
      · cases hb
      · cases hb
    · cases hb
  have h1n := hT.more m2 k47
  refine ⟨by omega, fun s hs => ?_⟩
  · skip
    obtain ⟨vt, at_, pl, tk, nu, wd, wr, pile, piled, opens⟩ := s
    obtain ⟨r1, r2, r3, r4, r5, r6, r7⟩ := hs
    dsimp only at r1 r2 r3 r4 r5 r6 r7
    subst r3
    subst r4
    subst r5
    obtain ⟨p1, p2, p3⟩ := hT.2.2.2.2.1 i _ _ _ _ _ m2 r1
    have bw := rBetw (N := N) p2 r2 (by omega) (by omega)
    have pt := rPart (N := N) p2 r2 (by omega) (by omega)
    have ow := rOpenNow (N := N) r2 (by omega) (by omega)
    obtain ⟨at', pl', tk', nu', wd', x1, x2⟩ := hT.2.2.2.2.2 i _ _ _ _ _ h1n r1
    obtain ⟨vt', s1, s2, s3⟩ := emSet0 (k := k) hT hN ht hS r2 r6 r7 hkb.1 hkb.2
    have sl := sL1 k X
    have o1 : opn1 x = 0 := (by decide : ∀ x, x < 23 → 6 ≤ x → x ≠ 20 → opn1 x = 0) x (by omega) hx.1 hx.2.2
    have ho : opn (x :: sR k X) = opn (sR k X) := by
      show opn1 x + opn (sR k X) = _
      omega
    refine ⟨(vt', at', pl', tk', nu', wd', nI (w0 + (R ++ sE k X).length), upd pile (sR k X).length (nI x), nI ((sR k X).length + 1), nI (opn (sR k X))), ⟨x2, (sR_pile k X r2).push (by omega), rfl, by rw [ho], rfl, s2, s3⟩, fun m => ?_⟩
    rw [show m + (i + 1 - i) = m + 1 by omega]
    unfold F15
    dsimp only
    rw [f_X12_summed_15]
    generalize f_X12_summed_15 N m = Kf
    rw [hb, oI_s] at bw
    have rr := rRank (N := N) (o := x) (by omega)
    have h10 : (nI 1 = nI 0) = False := eq_false (by decide)
    have rb := rk_b x (by omega)
    by_cases c4 : rk x = 4
    · rw [if_pos c4] at hk
      subst hk
      simp (disch := omega) only [f_X12_behindOne, f_X12_behindOne_26, li, h10, bw, nlt_f, rr, c4, s1, sA_n, x1, nI_add, ob1_s, ob4_s, ob5_s, ob12_s, ↓reduceIte]
    · rw [if_neg c4] at hk
      subst hk
      simp (disch := omega) only [f_X12_behindOne, f_X12_behindOne_26, li, h10, bw, nlt_f, rr, neq_f, s1, sA_n, x1, nI_add, ob1_s, ob4_s, ob5_s, ob12_s, ↓reduceIte]
theorem bhFail {N n w0 t0 i law : Nat} {K Nu Pl : Nat → Nat} {RL : RLT} {tape : Nat → Int32} {taped : Int32} {vt0 : Nat → Int32} {X : List Nat} {R : List (Nat × Nat)} (hT : TK N n K Nu Pl RL tape taped) (hN : 1000 ≤ N) (ht : t0 + 729 ≤ 2916) (hS : Sm n w0 i X R) {y : Nat} (hb : btw (K i) X = none) (hp : prt (K i) X = none) (hy : opw X = some y) : Fa N tape taped t0 law RL w0 vt0 i X R 1 1 i := by
  obtain ⟨m1, m2, m3⟩ := id hS
  have n3 := hT.2.1
  obtain ⟨k1, k2, k3, k4, k5⟩ := hT.2.2.2.1 i m2
  refine ⟨by omega, fun s hs => ⟨s, 1, X, R, hs, fun m => ?_⟩⟩
  · skip
    obtain ⟨vt, at_, pl, tk, nu, wd, wr, pile, piled, opens⟩ := s
    obtain ⟨r1, r2, r3, r4, r5, r6, r7⟩ := hs
    dsimp only at r1 r2 r3 r4 r5 r6 r7
    subst r3
    subst r4
    subst r5
    obtain ⟨p1, p2, p3⟩ := hT.2.2.2.2.1 i _ _ _ _ _ m2 r1
    have bw := rBetw (N := N) p2 r2 (by omega) (by omega)
    have pt := rPart (N := N) p2 r2 (by omega) (by omega)
    have ow := rOpenNow (N := N) r2 (by omega) (by omega)
    rw [show m + (i - i) + 1 = m + 1 by omega]
    unfold F15 outS
    dsimp only
    rw [f_X12_summed_15]
    generalize f_X12_summed_15 N m = Kf
    obtain ⟨y1, y2⟩ := opw_b r2 hy
    rw [hb, oI_n] at bw
    rw [hp, oI_n, hy, oI_s] at pt
    rw [hy, oI_s] at ow
    have h10 : (nI 1 = nI 0) = False := eq_false (by decide)
    have n1 : -nI 1 < nI 0 := by decide
    have n2 : ¬ nI 0 ≤ -nI 1 := by decide
    simp (disch := omega) only [f_X12_behindOne, li, h10, bw, n1, ow, pt, n2, nlt_f, ob1_s, ob12_s, ↓reduceIte]
/-- no one is open: the sum has ended -/
theorem bhDone {N n w0 t0 i law : Nat} {K Nu Pl : Nat → Nat} {RL : RLT} {tape : Nat → Int32} {taped : Int32} {vt0 : Nat → Int32} {X : List Nat} {R : List (Nat × Nat)} (hT : TK N n K Nu Pl RL tape taped) (hN : 1000 ≤ N) (ht : t0 + 729 ≤ 2916) (hS : Sm n w0 i X R) (hb : btw (K i) X = none) (hy : opw X = none) : ∀ s, RC RL t0 w0 vt0 i X R s → ∃ s', RC RL t0 w0 vt0 i (sR 1 X) (R ++ sE 1 X) s' ∧ ∀ m, F15 N (m + 1) tape taped t0 law s 1 = some (outS (nI 0) s' 1) := by
  obtain ⟨m1, m2, m3⟩ := id hS
  have n3 := hT.2.1
  obtain ⟨k1, k2, k3, k4, k5⟩ := hT.2.2.2.1 i m2
  intro s hs
  · skip
    obtain ⟨vt, at_, pl, tk, nu, wd, wr, pile, piled, opens⟩ := s
    obtain ⟨r1, r2, r3, r4, r5, r6, r7⟩ := hs
    dsimp only at r1 r2 r3 r4 r5 r6 r7
    subst r3
    subst r4
    subst r5
    obtain ⟨p1, p2, p3⟩ := hT.2.2.2.2.1 i _ _ _ _ _ m2 r1
    have bw := rBetw (N := N) p2 r2 (by omega) (by omega)
    have pt := rPart (N := N) p2 r2 (by omega) (by omega)
    have ow := rOpenNow (N := N) r2 (by omega) (by omega)
    obtain ⟨vt', s1, s2, s3⟩ := emSet0 (k := 1) hT hN ht hS r2 r6 r7 (by omega) (by omega)
    refine ⟨(vt', at_, pl, tk, nu, wd, nI (w0 + (R ++ sE 1 X).length), pile, nI (sR 1 X).length, nI (opn (sR 1 X))), ⟨r1, sR_pile 1 X r2, rfl, rfl, rfl, s2, s3⟩, fun m => ?_⟩
    unfold F15 outS
    dsimp only
    rw [f_X12_summed_15]
    generalize f_X12_summed_15 N m = Kf
    have hp : prt (K i) X = none := by unfold prt; rw [hy]; rfl
    rw [hb, oI_n] at bw
    rw [hp, oI_n, hy, oI_n] at pt
    rw [hy, oI_n] at ow
    have h10 : (nI 1 = nI 0) = False := eq_false (by decide)
    have n1 : -nI 1 < nI 0 := by decide
    have n2 : ¬ nI 0 ≤ -nI 1 := by decide
    simp (disch := omega) only [f_X12_behindOne, li, h10, bw, n1, ow, pt, n2, s1, ob1_s, ob4_s, ob12_s, ↓reduceIte]
/-- THEN, ELSE -/
theorem bhPart {N n w0 t0 i law : Nat} {K Nu Pl : Nat → Nat} {RL : RLT} {tape : Nat → Int32} {taped : Int32} {vt0 : Nat → Int32} {X P0 : List Nat} {R : List (Nat × Nat)} (hT : TK N n K Nu Pl RL tape taped) (hN : 1000 ≤ N) (ht : t0 + 729 ≤ 2916) (hS : Sm n w0 i X R) {y z : Nat} (hb : btw (K i) X = none) (hp : prt (K i) X = some z) (hz : z = 42 ∨ z = 43) (hy : opw X = some y) (hR0 : sR 1 X = y :: P0) (hk47 : K i ≠ 47) : Re N tape taped t0 law RL w0 vt0 i X R 1 (i + 1) (z :: P0) (R ++ sE 1 X) 0 := by
  obtain ⟨m1, m2, m3⟩ := id hS
  have n3 := hT.2.1
  obtain ⟨k1, k2, k3, k4, k5⟩ := hT.2.2.2.1 i m2
  have h1n := hT.more m2 hk47
  refine ⟨by omega, fun s hs => ?_⟩
  · skip
    obtain ⟨vt, at_, pl, tk, nu, wd, wr, pile, piled, opens⟩ := s
    obtain ⟨r1, r2, r3, r4, r5, r6, r7⟩ := hs
    dsimp only at r1 r2 r3 r4 r5 r6 r7
    subst r3
    subst r4
    subst r5
    obtain ⟨p1, p2, p3⟩ := hT.2.2.2.2.1 i _ _ _ _ _ m2 r1
    have bw := rBetw (N := N) p2 r2 (by omega) (by omega)
    have pt := rPart (N := N) p2 r2 (by omega) (by omega)
    have ow := rOpenNow (N := N) r2 (by omega) (by omega)
    obtain ⟨at', pl', tk', nu', wd', x1, x2⟩ := hT.2.2.2.2.2 i _ _ _ _ _ h1n r1
    obtain ⟨vt', s1, s2, s3⟩ := emSet0 (k := 1) hT hN ht hS r2 r6 r7 (by omega) (by omega)
    have sl := sL1 1 X
    have sp := sR_pile 1 X r2
    rw [hR0, len1] at s1
    rw [hR0] at sp
    rw [hR0, len1] at sl
    obtain ⟨y1, y2⟩ := opw_b r2 hy
    have oy : ∀ y, y < 44 → 40 ≤ y → opn1 y = 1 := by decide
    have ho : opn (z :: P0) = opn (y :: P0) := by
      show opn1 z + opn P0 = opn1 y + opn P0
      rw [oy z (by omega) (by omega), oy y y2 y1]
    obtain ⟨oa1, -, -⟩ := rOpenAt (N := N) (pd := nI (P0.length + 1)) (y :: P0) N sp (by rw [len1]; omega) (by rw [len1]; omega)
    have oa2 : opAt (y :: P0) = some P0.length := by unfold opAt; rw [if_pos y1]
    rw [oa2, oI_s, len1] at oa1
    have oa3 : f_X12_openAt N pile (nI (P0.length + 1)) = some (nI P0.length) := oa1
    refine ⟨(vt', at', pl', tk', nu', wd', nI (w0 + (R ++ sE 1 X).length), upd pile P0.length (nI z), nI (P0.length + 1), nI (opn (y :: P0))), ⟨x2, sp.2.2.push (by omega), rfl, by rw [ho], rfl, s2, s3⟩, fun m => ?_⟩
    rw [show m + (i + 1 - i) = m + 1 by omega]
    unfold F15
    dsimp only
    rw [f_X12_summed_15]
    generalize f_X12_summed_15 N m = Kf
    rw [hb, oI_n] at bw
    rw [hp, oI_s, hy, oI_s] at pt
    rw [hy, oI_s] at ow
    have h10 : (nI 1 = nI 0) = False := eq_false (by decide)
    have n1 : -nI 1 < nI 0 := by decide
    simp (disch := omega) only [f_X12_behindOne, li, h10, bw, n1, ow, pt, nle_t, nle_f, s1, x1, oa3, sA_n, ob1_s, ob4_s, ob5_s, ob12_s, ↓reduceIte]
/-- a closing sign; END gives SELECT -/
theorem bhClose {N n w0 t0 i law : Nat} {K Nu Pl : Nat → Nat} {RL : RLT} {tape : Nat → Int32} {taped : Int32} {vt0 : Nat → Int32} {X P0 : List Nat} {R : List (Nat × Nat)} (hT : TK N n K Nu Pl RL tape taped) (hN : 1000 ≤ N) (ht : t0 + 729 ≤ 2916) (hS : Sm n w0 i X R) (hb : btw (K i) X = none) (hp : prt (K i) X = some 0) (hy : opw X = some 40) (hR0 : sR 1 X = 40 :: P0) (hk47 : K i ≠ 47) : Re N tape taped t0 law RL w0 vt0 i X R 1 (i + 1) (sR 7 P0) (R ++ sE 1 X ++ sE 7 P0) 1 := by
  obtain ⟨m1, m2, m3⟩ := id hS
  have n3 := hT.2.1
  obtain ⟨k1, k2, k3, k4, k5⟩ := hT.2.2.2.1 i m2
  have h1n := hT.more m2 hk47
  refine ⟨by omega, fun s hs => ?_⟩
  · skip
    obtain ⟨vt, at_, pl, tk, nu, wd, wr, pile, piled, opens⟩ := s
    obtain ⟨r1, r2, r3, r4, r5, r6, r7⟩ := hs
    dsimp only at r1 r2 r3 r4 r5 r6 r7
    subst r3
    subst r4
    subst r5
    obtain ⟨p1, p2, p3⟩ := hT.2.2.2.2.1 i _ _ _ _ _ m2 r1
    have bw := rBetw (N := N) p2 r2 (by omega) (by omega)
    have pt := rPart (N := N) p2 r2 (by omega) (by omega)
    have ow := rOpenNow (N := N) r2 (by omega) (by omega)
    obtain ⟨at', pl', tk', nu', wd', x1, x2⟩ := hT.2.2.2.2.2 i _ _ _ _ _ h1n r1
    obtain ⟨vt', s1, s2, s3⟩ := emSet0 (k := 1) hT hN ht hS r2 r6 r7 (by omega) (by omega)
    have sl := sL1 1 X
    have sp := sR_pile 1 X r2
    have o40 : opn (40 :: P0) = 1 + opn P0 := rfl
    rw [hR0, len1, o40] at s1
    rw [hR0] at sp
    rw [hR0, len1] at sl
    have al : (R ++ sE 1 X).length = R.length + (sE 1 X).length := by simp
    have ol := opn_len P0
    obtain ⟨vt2, s4, s5, s6⟩ := emSet0 (k := 7) (P := P0) (R := R ++ sE 1 X) (i := i) hT hN ht ⟨by omega, m2, by omega⟩ sp.2.2 s2 s3 (by omega) (by omega)
    refine ⟨(vt2, at', pl', tk', nu', wd', nI (w0 + (R ++ sE 1 X ++ sE 7 P0).length), pile, nI (sR 7 P0).length, nI (opn (sR 7 P0))), ⟨x2, sR_pile 7 P0 sp.2.2, rfl, rfl, rfl, s5, s6⟩, fun m => ?_⟩
    rw [show m + (i + 1 - i) = m + 1 by omega]
    unfold F15
    dsimp only
    rw [f_X12_summed_15]
    generalize f_X12_summed_15 N m = Kf
    rw [hb, oI_n] at bw
    rw [hp, oI_s, hy, oI_s] at pt
    rw [hy, oI_s] at ow
    have h10 : (nI 1 = nI 0) = False := eq_false (by decide)
    have n1 : -nI 1 < nI 0 := by decide
    have e1 : P0.length + 1 - 1 = P0.length := by omega
    have e2 : 1 + opn P0 - 1 = opn P0 := by omega
    simp (disch := omega) only [f_X12_behindOne, f_X12_behindOne_139, li, h10, bw, n1, ow, pt, nle_t, neq_f, nsub, e1, e2, s1, s4, x1, ob1_s, ob4_s, ob5_s, ob12_s, ↓reduceIte]
theorem bhEnd {N n w0 t0 i law : Nat} {K Nu Pl : Nat → Nat} {RL : RLT} {tape : Nat → Int32} {taped : Int32} {vt0 : Nat → Int32} {X P0 : List Nat} {R : List (Nat × Nat)} (hT : TK N n K Nu Pl RL tape taped) (hN : 1000 ≤ N) (ht : t0 + 729 ≤ 2916) (hS : Sm n w0 i X R) (hb : btw (K i) X = none) (hp : prt (K i) X = some 0) (hy : opw X = some 43) (hR0 : sR 1 X = 43 :: P0) (hk47 : K i ≠ 47) : Re N tape taped t0 law RL w0 vt0 i X R 1 (i + 1) (sR 7 P0) (R ++ sE 1 X ++ [(4, 0)] ++ sE 7 P0) 1 := by
  obtain ⟨m1, m2, m3⟩ := id hS
  have n3 := hT.2.1
  obtain ⟨k1, k2, k3, k4, k5⟩ := hT.2.2.2.1 i m2
  have h1n := hT.more m2 hk47
  refine ⟨by omega, fun s hs => ?_⟩
  · skip
    obtain ⟨vt, at_, pl, tk, nu, wd, wr, pile, piled, opens⟩ := s
    obtain ⟨r1, r2, r3, r4, r5, r6, r7⟩ := hs
    dsimp only at r1 r2 r3 r4 r5 r6 r7
    subst r3
    subst r4
    subst r5
    obtain ⟨p1, p2, p3⟩ := hT.2.2.2.2.1 i _ _ _ _ _ m2 r1
    have bw := rBetw (N := N) p2 r2 (by omega) (by omega)
    have pt := rPart (N := N) p2 r2 (by omega) (by omega)
    have ow := rOpenNow (N := N) r2 (by omega) (by omega)
    obtain ⟨at', pl', tk', nu', wd', x1, x2⟩ := hT.2.2.2.2.2 i _ _ _ _ _ h1n r1
    obtain ⟨vt', s1, s2, s3⟩ := emSet0 (k := 1) hT hN ht hS r2 r6 r7 (by omega) (by omega)
    have sl := sL1 1 X
    have sp := sR_pile 1 X r2
    have o40 : opn (43 :: P0) = 1 + opn P0 := rfl
    rw [hR0, len1, o40] at s1
    rw [hR0] at sp
    rw [hR0, len1] at sl
    have al : (R ++ sE 1 X).length = R.length + (sE 1 X).length := by simp
    have ol := opn_len P0
    obtain ⟨vt2, s4, s5, s6⟩ := emSet (k := 7) (o := 4) (v := 0) (P := P0) (R := R ++ sE 1 X) (i := i) hT hN ht ⟨by omega, m2, by omega⟩ sp.2.2 s2 s3 (by omega) (by omega)
    have em := rEmit (N := N) (t0 := t0) (w := w0 + (R ++ sE 1 X).length) (o := 4) (v := 0) (vt := vt') (by omega)
    refine ⟨(vt2, at', pl', tk', nu', wd', nI (w0 + (R ++ sE 1 X ++ [(4, 0)] ++ sE 7 P0).length), pile, nI (sR 7 P0).length, nI (opn (sR 7 P0))), ⟨x2, sR_pile 7 P0 sp.2.2, rfl, rfl, rfl, s5, s6⟩, fun m => ?_⟩
    rw [show m + (i + 1 - i) = m + 1 by omega]
    unfold F15
    dsimp only
    rw [f_X12_summed_15]
    generalize f_X12_summed_15 N m = Kf
    rw [hb, oI_n] at bw
    rw [hp, oI_s, hy, oI_s] at pt
    rw [hy, oI_s] at ow
    have h10 : (nI 1 = nI 0) = False := eq_false (by decide)
    have n1 : -nI 1 < nI 0 := by decide
    have e1 : P0.length + 1 - 1 = P0.length := by omega
    have e2 : 1 + opn P0 - 1 = opn P0 := by omega
    simp (disch := omega) only [f_X12_behindOne, f_X12_behindOne_139, li, h10, bw, n1, ow, pt, nle_t, nsub, e1, e2, s1, em, s4, x1, ob1_s, ob2_s, ob4_s, ob5_s, ob12_s, ↓reduceIte]
