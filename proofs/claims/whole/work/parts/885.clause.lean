/-! clauses, and a whole text -/
theorem ob12_id {T1 T2 T3 T4 T5 T6 T7 T8 T9 T10 T11 T12 : Type} {o : Option (T1 × T2 × T3 × T4 × T5 × T6 × T7 × T8 × T9 × T10 × T11 × T12)} : (ob12 o fun a1 a2 a3 a4 a5 a6 a7 a8 a9 a10 a11 a12 => some (a1, a2, a3, a4, a5, a6, a7, a8, a9, a10, a11, a12)) = o := by
  cases o with
  | none => rfl
  | some x => rfl
theorem rSort {N K nu : Nat} {tape : Nat → Int32} {taped at_ pl_ tk num : Int32} {wd : Int64} (h : TKR K nu tk num wd) (hh : f_X12_isHungers N tape taped at_ pl_ tk = some (nI (if K = 0 then 1 else 0))) : f_X12_sortOf N tape taped at_ pl_ tk wd = some (if K ≤ 12 then nI (sortN K) else -nI 1) := by
  have h10 : (nI 1 = nI 0) = False := eq_false (by decide)
  have w1 := rWord (N := N) h 1 (by omega)
  have w2 := rWord (N := N) h 2 (by omega)
  have w3 := rWord (N := N) h 3 (by omega)
  have w11 := rWord (N := N) h 11 (by omega)
  have w4 := rWord (N := N) h 4 (by omega)
  have w5 := rWord (N := N) h 5 (by omega)
  have w6 := rWord (N := N) h 6 (by omega)
  have w7 := rWord (N := N) h 7 (by omega)
  have w8 := rWord (N := N) h 8 (by omega)
  have w9 := rWord (N := N) h 9 (by omega)
  have w10 := rWord (N := N) h 10 (by omega)
  have w12 := rWord (N := N) h 12 (by omega)
  clear h
  by_cases c : K ≤ 12
  · rw [if_pos c]
    rcases (show K = 0 ∨ K = 1 ∨ K = 2 ∨ K = 3 ∨ K = 4 ∨ K = 5 ∨ K = 6 ∨ K = 7 ∨ K = 8 ∨ K = 9 ∨ K = 10 ∨ K = 11 ∨ K = 12 by omega) with e | e | e | e | e | e | e | e | e | e | e | e | e <;> subst e
    · rw [if_pos rfl] at hh
      simp only [f_X12_sortOf, li, hh, h10, ob1_s, ↓reduceIte]
      rfl
    · rw [if_neg (by decide)] at hh
      rw [if_pos rfl] at w1
      simp only [f_X12_sortOf, li, hh, wc_finds, w1, h10, ob1_s, ↓reduceIte]
      rfl
    · rw [if_neg (by decide)] at hh
      rw [if_neg (by decide)] at w1
      rw [if_pos rfl] at w2
      simp only [f_X12_sortOf, li, hh, wc_finds, w1, wc_price, w2, h10, ob1_s, ↓reduceIte]
      rfl
    · rw [if_neg (by decide)] at hh
      rw [if_neg (by decide)] at w1
      rw [if_neg (by decide)] at w2
      rw [if_pos rfl] at w3
      simp only [f_X12_sortOf, li, hh, wc_finds, w1, wc_price, w2, wc_earns, w3, h10, ob1_s, ↓reduceIte]
      rfl
    · rw [if_neg (by decide)] at hh
      rw [if_neg (by decide)] at w1
      rw [if_neg (by decide)] at w2
      rw [if_neg (by decide)] at w3
      rw [if_neg (by decide)] at w11
      rw [if_pos rfl] at w4
      simp only [f_X12_sortOf, li, hh, wc_finds, w1, wc_price, w2, wc_earns, w3, wc_land, w11, wc_road, w4, h10, ob1_s, ↓reduceIte]
      rfl
    · rw [if_neg (by decide)] at hh
      rw [if_neg (by decide)] at w1
      rw [if_neg (by decide)] at w2
      rw [if_neg (by decide)] at w3
      rw [if_neg (by decide)] at w11
      rw [if_neg (by decide)] at w4
      rw [if_pos rfl] at w5
      simp only [f_X12_sortOf, li, hh, wc_finds, w1, wc_price, w2, wc_earns, w3, wc_land, w11, wc_road, w4, wc_person, w5, h10, ob1_s, ↓reduceIte]
      rfl
    · rw [if_neg (by decide)] at hh
      rw [if_neg (by decide)] at w1
      rw [if_neg (by decide)] at w2
      rw [if_neg (by decide)] at w3
      rw [if_neg (by decide)] at w11
      rw [if_neg (by decide)] at w4
      rw [if_neg (by decide)] at w5
      rw [if_pos rfl] at w6
      simp only [f_X12_sortOf, li, hh, wc_finds, w1, wc_price, w2, wc_earns, w3, wc_land, w11, wc_road, w4, wc_person, w5, wc_call, w6, h10, ob1_s, ↓reduceIte]
      rfl
    · rw [if_neg (by decide)] at hh
      rw [if_neg (by decide)] at w1
      rw [if_neg (by decide)] at w2
      rw [if_neg (by decide)] at w3
      rw [if_neg (by decide)] at w11
      rw [if_neg (by decide)] at w4
      rw [if_neg (by decide)] at w5
      rw [if_neg (by decide)] at w6
      rw [if_pos rfl] at w7
      simp only [f_X12_sortOf, li, hh, wc_finds, w1, wc_price, w2, wc_earns, w3, wc_land, w11, wc_road, w4, wc_person, w5, wc_call, w6, wc_move, w7, h10, ob1_s, ↓reduceIte]
      rfl
    · rw [if_neg (by decide)] at hh
      rw [if_neg (by decide)] at w1
      rw [if_neg (by decide)] at w2
      rw [if_neg (by decide)] at w3
      rw [if_neg (by decide)] at w11
      rw [if_neg (by decide)] at w4
      rw [if_neg (by decide)] at w5
      rw [if_neg (by decide)] at w6
      rw [if_neg (by decide)] at w7
      rw [if_pos rfl] at w8
      simp only [f_X12_sortOf, li, hh, wc_finds, w1, wc_price, w2, wc_earns, w3, wc_land, w11, wc_road, w4, wc_person, w5, wc_call, w6, wc_move, w7, wc_feed, w8, h10, ob1_s, ↓reduceIte]
      rfl
    · rw [if_neg (by decide)] at hh
      rw [if_neg (by decide)] at w1
      rw [if_neg (by decide)] at w2
      rw [if_neg (by decide)] at w3
      rw [if_neg (by decide)] at w11
      rw [if_neg (by decide)] at w4
      rw [if_neg (by decide)] at w5
      rw [if_neg (by decide)] at w6
      rw [if_neg (by decide)] at w7
      rw [if_neg (by decide)] at w8
      rw [if_pos rfl] at w9
      simp only [f_X12_sortOf, li, hh, wc_finds, w1, wc_price, w2, wc_earns, w3, wc_land, w11, wc_road, w4, wc_person, w5, wc_call, w6, wc_move, w7, wc_feed, w8, wc_kill, w9, h10, ob1_s, ↓reduceIte]
      rfl
    · rw [if_neg (by decide)] at hh
      rw [if_neg (by decide)] at w1
      rw [if_neg (by decide)] at w2
      rw [if_neg (by decide)] at w3
      rw [if_neg (by decide)] at w11
      rw [if_neg (by decide)] at w4
      rw [if_neg (by decide)] at w5
      rw [if_neg (by decide)] at w6
      rw [if_neg (by decide)] at w7
      rw [if_neg (by decide)] at w8
      rw [if_neg (by decide)] at w9
      rw [if_pos rfl] at w10
      simp only [f_X12_sortOf, li, hh, wc_finds, w1, wc_price, w2, wc_earns, w3, wc_land, w11, wc_road, w4, wc_person, w5, wc_call, w6, wc_move, w7, wc_feed, w8, wc_kill, w9, wc_pardon, w10, h10, ob1_s, ↓reduceIte]
      rfl
    · rw [if_neg (by decide)] at hh
      rw [if_neg (by decide)] at w1
      rw [if_neg (by decide)] at w2
      rw [if_neg (by decide)] at w3
      rw [if_pos rfl] at w11
      simp only [f_X12_sortOf, li, hh, wc_finds, w1, wc_price, w2, wc_earns, w3, wc_land, w11, h10, ob1_s, ↓reduceIte]
      rfl
    · rw [if_neg (by decide)] at hh
      rw [if_neg (by decide)] at w1
      rw [if_neg (by decide)] at w2
      rw [if_neg (by decide)] at w3
      rw [if_neg (by decide)] at w11
      rw [if_neg (by decide)] at w4
      rw [if_neg (by decide)] at w5
      rw [if_neg (by decide)] at w6
      rw [if_neg (by decide)] at w7
      rw [if_neg (by decide)] at w8
      rw [if_neg (by decide)] at w9
      rw [if_neg (by decide)] at w10
      rw [if_pos rfl] at w12
      simp only [f_X12_sortOf, li, hh, wc_finds, w1, wc_price, w2, wc_earns, w3, wc_land, w11, wc_road, w4, wc_person, w5, wc_call, w6, wc_move, w7, wc_feed, w8, wc_kill, w9, wc_pardon, w10, wc_month, w12, h10, ob1_s, ↓reduceIte]
      rfl
  · rw [if_neg (by omega)] at hh
    rw [if_neg (by omega)] at w1
    rw [if_neg (by omega)] at w2
    rw [if_neg (by omega)] at w3
    rw [if_neg (by omega)] at w11
    rw [if_neg (by omega)] at w4
    rw [if_neg (by omega)] at w5
    rw [if_neg (by omega)] at w6
    rw [if_neg (by omega)] at w7
    rw [if_neg (by omega)] at w8
    rw [if_neg (by omega)] at w9
    rw [if_neg (by omega)] at w10
    rw [if_neg (by omega)] at w12
    rw [if_neg c]
    simp only [f_X12_sortOf, li, hh, wc_finds, w1, wc_price, w2, wc_earns, w3, wc_land, w11, wc_road, w4, wc_person, w5, wc_call, w6, wc_move, w7, wc_feed, w8, wc_kill, w9, wc_pardon, w10, wc_month, w12, ob1_s, ↓reduceIte]
def LawI (N t0 k l w : Nat) (cd st en vt : Nat → Int32) (lw : Nat) (b : Bool) : Prop :=
  (b = false ∧ st lw = -nI 1 ∧ ∀ q, q < k → ¬ vt (t0 + 1 + 5 * q) = nI lw) ∨
  (b = true ∧ ∃ (kq sl el w1 : Nat) (R : List (Nat × Nat)), kq < k ∧ st lw = nI sl ∧ en lw = nI el ∧ sl < el ∧ el ≤ l ∧ vt (t0 + 1 + 5 * kq) = nI lw ∧ (∀ q, q < kq → ¬ vt (t0 + 1 + 5 * q) = nI lw) ∧ vt (t0 + 1 + 5 * kq + 1) = nI w1 ∧ vt (t0 + 1 + 5 * kq + 2) = nI (w1 + R.length) ∧ w1 + R.length ≤ w ∧ RCd vt (t0 + 121 + 2 * w1) R ∧ VSeg N cd sl el R 43)
def TxI (N n t k i l w on : Nat) (cd st en rows vt vt0 : Nat → Int32) : Prop :=
  k ≤ 24 ∧ i < n ∧ l ≤ i ∧ w ≤ i ∧ (∀ q, q < k → ClauseT rows vt t q) ∧ vt (729 * t) = nI k ∧ on < 16 ∧ (∀ lw, lw < 4 → LawI N (729 * t) k l w cd st en vt lw (on.testBit lw)) ∧ ∀ q, (q < 729 * t ∨ 729 * t + 729 ≤ q) → vt q = vt0 q
theorem ClauseT.cg {rows vt rows' vt' : Nat → Int32} {t k : Nat} (h : ClauseT rows vt t k) (e1 : ∀ q, 5 * k ≤ q → q < 5 * k + 5 → rows' q = rows q) (e2 : ∀ q, 729 * t + 1 + 5 * k ≤ q → q < 729 * t + 1 + 5 * k + 5 → vt' q = vt q) : ClauseT rows' vt' t k := by
  obtain ⟨kd, v1, v2, v3, v4, c1, c2, c3, c4, c5, c6, c7⟩ := h
  refine ⟨kd, v1, v2, v3, v4, c1, ?_, ?_, fun w => ?_, fun w w2 => ?_, fun w => ?_, c7⟩
  · rw [e1 _ (by omega) (by omega)]; exact c2
  · rw [e2 _ (by omega) (by omega)]; exact c3
  · rw [e1 _ (by omega) (by omega), e2 _ (by omega) (by omega)]; exact c4 w
  · rw [e1 _ (by omega) (by omega), e2 _ (by omega) (by omega)]; exact c5 w w2
  · rw [e1 _ (by omega) (by omega), e1 _ (by omega) (by omega), e2 _ (by omega) (by omega), e2 _ (by omega) (by omega)]; exact c6 w
/-- one clause more, of another kind -/
theorem LawI.cg {N t0 k l w l' w' lw s : Nat} {cd st en vt cd' st' en' vt' : Nat → Int32} {b : Bool} (h : LawI N t0 k l w cd st en vt lw b) (hk : k < 24) (hl : l ≤ l') (hw : w ≤ w') (hw3 : w ≤ 300) (hlw : lw < 4) (es : st' lw = st lw) (ee : en' lw = en lw) (ec : ∀ q, q < l → cd' q = cd q) (e1 : ∀ q, t0 < q → q < t0 + 1 + 5 * k → vt' q = vt q) (e2 : ∀ q, t0 + 121 ≤ q → q < t0 + 121 + 2 * w → vt' q = vt q) (hs : vt' (t0 + 1 + 5 * k) = nI s) (hsn : s ≠ lw) (hs3 : s < 100) : LawI N t0 (k + 1) l' w' cd' st' en' vt' lw b := by
  have hsk : ¬ vt' (t0 + 1 + 5 * k) = nI lw := by
    rw [hs, neq (by omega) (by omega)]; exact hsn
  rcases h with ⟨a1, a2, a3⟩ | ⟨a1, kq, sl, el, w1, R, b1, b2, b3, b4, b5, b6, b7, b8, b9, b10, b11, b12⟩
  · refine Or.inl ⟨a1, by rw [es]; exact a2, fun q hq => ?_⟩
    by_cases c : q = k
    · subst c; exact hsk
    · rw [e1 _ (by omega) (by omega)]; exact a3 q (by omega)
  · refine Or.inr ⟨a1, kq, sl, el, w1, R, by omega, by rw [es]; exact b2, by rw [ee]; exact b3, b4, by omega, ?_, fun q hq => ?_, ?_, ?_, by omega, ?_, b12.cg (fun q q1 q2 => ec q (by omega))⟩
    · rw [e1 _ (by omega) (by omega)]; exact b6
    · rw [e1 _ (by omega) (by omega)]; exact b7 q hq
    · rw [e1 _ (by omega) (by omega)]; exact b8
    · rw [e1 _ (by omega) (by omega)]; exact b9
    · exact b11.cg (fun q q1 q2 => e2 q (by omega) (by omega))
section
variable {N n t : Nat} {K Nu Pl : Nat → Nat} {RL : RLT} {tape : Nat → Int32} {taped : Int32} {bl : Int32} {ki pl nu : Nat → Int32}
theorem cOpen {k l kd : Nat} {pt : Int32} {st rows : Nat → Int32} (hk : k < 24) (hd : kd < 100) : f_X9_openClause N (nI k) (nI l) pt st rows (nI kd) = some (nI (k + 1), nI 1, (if kd < 4 then upd st kd (nI l) else st), upd rows (5 * k) (nI kd)) := by
  have e7 : k * 5 = 5 * k := Nat.mul_comm _ _
  have ad : f_X9_addPart N (nI (k + 1)) (nI 0) rows (nI kd) = some (nI 1, upd rows (5 * k) (nI kd)) := by
    simp (disch := omega) only [f_X9_addPart, li, nle_f, nlt_f, nsub, Nat.add_sub_cancel, pk_mul, nI_add, e7, Nat.add_zero, sA_n, ↓reduceIte, Nat.zero_add]
  by_cases c : kd < 4
  · rw [if_pos c]
    simp (disch := omega) only [f_X9_openClause, li, nI_add, ad, nlt_f, nle_f, sA_n, ob2_s, ↓reduceIte]
  · rw [if_neg c]
    simp (disch := omega) only [f_X9_openClause, li, nI_add, ad, nlt_f, nle_t, ob2_s, ↓reduceIte]
theorem dClause (h : HX N n (729 * t) 0 K Nu Pl RL tape taped ki pl nu) (ht : t < 4) {k i l w on : Nat} {cd st en rows vt vt0 pile : Nat → Int32} {at_ pl_ tk num : Int32} {wd : Int64} {pt ft pc law0 s0 piled opens wh : Int32} (hI : TxI N n t k i l w on cd st en rows vt vt0) (hr : RL i at_ pl_ tk num wd) (hK : K i ≠ 47) :
    (∃ (f j : Nat) (cl' ln' pt' : Int32) (cd' st' en' rows' : Nat → Int32) (ec law' : Int32) (vt' pile' : Nat → Int32) (at' pl' tk' nu' : Int32) (wd' : Int64) (wr' s0' piled' opens' wh' on' : Int32), f_X5_clause N bl (nI n) ki pl nu (nI k) (nI l) pt cd st en rows ft pc (nI i) law0 (nI k) = some (nI 0, cl', ln', pt', cd', st', en', rows', nI f, nI (Pl j), ec, law') ∧ f_X12_clause N vt tape taped at_ pl_ tk num wd (nI (729 * t)) (nI w) s0 pile piled opens wh (nI on) = some (nI f, vt', at', pl', tk', nu', wd', wr', s0', pile', piled', opens', wh', on') ∧ 1 ≤ f ∧ f ≤ 6 ∧ j < n ∧ RL j at' pl' tk' nu' wd' ∧ ∀ q, (q < 729 * t ∨ 729 * t + 729 ≤ q) → vt' q = vt0 q) ∨
    (∃ (i' l' w' on' : Nat) (pt' : Int32) (cd' st' en' rows' : Nat → Int32) (law' : Int32) (vt' pile' : Nat → Int32) (at' pl' tk' nu' : Int32) (wd' : Int64) (s0' piled' opens' wh' : Int32), f_X5_clause N bl (nI n) ki pl nu (nI k) (nI l) pt cd st en rows ft pc (nI i) law0 (nI k) = some (nI 1, nI (k + 1), nI l', pt', cd', st', en', rows', ft, pc, nI i', law') ∧ f_X12_clause N vt tape taped at_ pl_ tk num wd (nI (729 * t)) (nI w) s0 pile piled opens wh (nI on) = some (nI 0, vt', at', pl', tk', nu', wd', nI w', s0', pile', piled', opens', wh', nI on') ∧ i < i' ∧ RL i' at' pl' tk' nu' wd' ∧ TxI N n t (k + 1) i' l' w' on' cd' st' en' rows' vt' vt0) := by
  have n3 := h.1.2.1
  obtain ⟨i1, i2, i3, i4, i5, i6, i7, i8, i9⟩ := hI
  have tkc := cTok h i2
  obtain ⟨kb, nub⟩ := cKind h i2
  obtain ⟨p1, p2, p3⟩ := h.1.2.2.2.2.1 i _ _ _ _ _ i2 hr
  have so := rSort (N := N) p2 p3
  have h10 : (nI 1 = nI 0) = False := eq_false (by decide)
  have hn1 := h.1.more i2 hK
  have nx := cNext h hn1
  obtain ⟨at1, pl1, tk1, nu1, wd1, x1, x2⟩ := rNx h hn1 hr
  by_cases nc12 : 12 < K i
  · rw [if_neg (by omega)] at so
    have fl := cFail (bl := bl) (ft := ft) (pc := pc) (f := nI 1) h i2
    have m1 : ¬ nI 0 ≤ -nI 1 := by decide
    refine Or.inl ⟨1, i, nI k, nI l, pt, cd, st, en, rows, nI i, law0, vt, pile, at_, pl_, tk, num, wd, nI w, s0, piled, opens, wh, nI on, ?_, ?_, by omega, by omega, i2, hr, i9⟩
    · simp (disch := omega) only [f_X5_clause, f_X5_clause_15, li, tkc, nlt_f, nle_f, fl, ob1_s, ob3_s, ↓reduceIte]
    · simp only [f_X12_clause, li, so, m1, ob1_s, ↓reduceIte]
  have c12 : K i ≤ 12 := by omega
  rw [if_pos c12] at so
  have sb : sortN (K i) ≤ 12 ∧ (3 < sortN (K i) ↔ 3 < K i) ∧ (K i < 4 → sortN (K i) = K i) := (by decide : ∀ k, k < 13 → sortN k ≤ 12 ∧ (3 < sortN k ↔ 3 < k) ∧ (k < 4 → sortN k = k)) (K i) (by omega)
  obtain ⟨sb1, sb2, sb3⟩ := sb
  -- a law told twice
  have twice : K i < 4 → on.testBit (K i) = true → f_X9_begun N st (nI (K i)) = some (nI 1) := fun c b => by
    rcases i8 (K i) c with ⟨a1, -⟩ | ⟨-, kq, sl, el, w1, R, b1, b2, b3, b4, b5, -⟩
    · rw [b] at a1; cases a1
    · have : ¬ nI sl = -nI 1 := m1_ne (by omega)
      simp (maxSteps := 1000000) (disch := omega) only [li, ob1_s, ob2_s, ob3_s, ob4_s, ob5_s, ob6_s, ob7_s, gA_n, gL_n, sA_n, sL_n, cpI_n, nI_add, pk_mul, nsub, nlt_t, nlt_f, nle_t, nle_f, neq_t, neq_f, rmI_n, dvI_n, upd_ne, upd_eq, un_ne, un_eq, Nat.add_zero, Bool.false_eq_true, ↓reduceIte, f_X9_begun, b2, this]
  have once : K i < 4 → on.testBit (K i) = false → f_X9_begun N st (nI (K i)) = some (nI 0) := fun c b => by
    rcases i8 (K i) c with ⟨-, a2, -⟩ | ⟨a1, -⟩
    · simp (maxSteps := 1000000) (disch := omega) only [li, ob1_s, ob2_s, ob3_s, ob4_s, ob5_s, ob6_s, ob7_s, gA_n, gL_n, sA_n, sL_n, cpI_n, nI_add, pk_mul, nsub, nlt_t, nlt_f, nle_t, nle_f, neq_t, neq_f, rmI_n, dvI_n, upd_ne, upd_eq, un_ne, un_eq, Nat.add_zero, Bool.false_eq_true, ↓reduceIte, f_X9_begun, a2]
    · rw [b] at a1; cases a1
  have iw : K i < 4 → f_X12_isWith N (nI on) (nI (K i)) = some (nI (if on.testBit (K i) then 1 else 0)) := fun c => isWith_n (by omega) (by omega)
  by_cases tw : K i < 4 ∧ on.testBit (K i) = true
  · have fl := cFail (bl := bl) (ft := ft) (pc := pc) (f := nI 4) h i2
    have bg := twice tw.1 tw.2
    have iw := iw tw.1
    rw [if_pos tw.2] at iw
    rw [sb3 tw.1] at so
    refine Or.inl ⟨4, i, nI k, nI l, pt, cd, st, en, rows, nI i, law0, vt, pile, at_, pl_, tk, num, wd, nI w, s0, piled, opens, wh, nI on, ?_, ?_, by omega, by omega, i2, hr, i9⟩
    · have := tw.1
      simp (disch := omega) only [f_X5_clause, li, tkc, nlt_f, nle_t, bg, h10, fl, ob1_s, ob3_s, ↓reduceIte]
    · have := tw.1
      simp (disch := omega) only [f_X12_clause, li, so, nle_t, nlt_f, iw, h10, ob1_s, ↓reduceIte]
  -- both go on to the count
  have e43 : f_X5_clause N bl (nI n) ki pl nu (nI k) (nI l) pt cd st en rows ft pc (nI i) law0 (nI k) = f_X5_clause_43 N bl (nI n) ki pl nu (nI k) (nI l) pt cd st en rows ft pc (nI i) law0 (nI k) (nI (K i)) := by
    by_cases c : K i < 4
    · have bg := once c (Bool.eq_false_iff.mpr (fun b => tw ⟨c, b⟩))
      simp (disch := omega) only [f_X5_clause, li, tkc, nlt_f, nle_t, bg, ob1_s, ↓reduceIte]
    · simp (disch := omega) only [f_X5_clause, li, tkc, nlt_f, nlt_t, nle_t, ob1_s, ↓reduceIte]
  have e29 : f_X12_clause N vt tape taped at_ pl_ tk num wd (nI (729 * t)) (nI w) s0 pile piled opens wh (nI on) = f_X12_clause_29 N vt tape taped at_ pl_ tk num wd (nI (729 * t)) (nI w) s0 pile piled opens wh (nI on) (nI (sortN (K i))) := by
    by_cases c : K i < 4
    · have iw := iw c
      rw [if_neg (fun b => tw ⟨c, b⟩)] at iw
      rw [sb3 c] at so ⊢
      simp (disch := omega) only [f_X12_clause, li, so, nle_t, nlt_f, iw, ob1_s, ↓reduceIte]
    · simp (disch := omega) only [f_X12_clause, li, so, nle_t, nlt_t, ob1_s, ↓reduceIte]
  rw [e43, e29]
  by_cases k24 : k = 24
  · have fl := cFail (bl := bl) (ft := ft) (pc := pc) (f := nI 6) h i2
    refine Or.inl ⟨6, i, nI k, nI l, pt, cd, st, en, rows, nI i, law0, vt, pile, at_, pl_, tk, num, wd, nI w, s0, piled, opens, wh, nI on, ?_, ?_, by omega, by omega, i2, hr, i9⟩
    · simp (disch := omega) only [f_X5_clause_43, li, nlt_f, fl, ob3_s, ↓reduceIte]
    · simp (disch := omega) only [f_X12_clause_29, li, gA_n, i6, k24, ↓reduceIte]
  have co := cOpen (N := N) (k := k) (l := l) (kd := K i) (pt := pt) (st := st) (rows := rows) (by omega) (by omega)
  by_cases c3 : K i < 4
  · -- a law
    rw [if_pos c3] at co
    rw [sb3 c3]
    have hlw : HX N n (729 * t) (K i) K Nu Pl RL tape taped ki pl nu := ⟨h.1, h.2.1, h.2.2.1, c3, h.2.2.2.2⟩
    have nob : on.testBit (K i) = false := Bool.eq_false_iff.mpr (fun b => tw ⟨c3, b⟩)
    have p16 : 2 ^ K i < 16 := Nat.pow_lt_pow_right (a := 2) (m := K i) (n := 4) (by omega) c3
    have e65 : f_X12_clause_29 N vt tape taped at_ pl_ tk num wd (nI (729 * t)) (nI w) s0 pile piled opens wh (nI on) (nI (K i)) = f_X12_clause_65 N vt tape taped at_ pl_ tk num wd (nI (729 * t)) (nI w) s0 pile piled opens wh (nI (on ||| 2 ^ K i)) (nI (K i)) (nI k) := by
      simp (disch := omega) only [f_X12_clause_29, li, gA_n, i6, neq_f, nlt_f, nshl1, nor, ↓reduceIte]
    rw [e65]
    have bd := dLaw (bl := bl) (cd := cd) (en := en) (ft := ft) (pc := pc) (law0 := law0) (vt := upd vt (729 * t + 1 + 5 * k) (nI (K i))) (pile := pile) (piled := piled) (opens := opens) (wh := wh) (x := 729 * t + 1 + 5 * k) hlw hn1 x2 (show l ≤ i + 1 by omega) (show w ≤ i + 1 by omega) (by omega)
    have bo : ∀ {A : (Nat → Int32)}, f_X12_body N A tape taped at1 pl1 tk1 nu1 wd1 (nI (729 * t)) (nI w) (nI (K i)) pile piled opens wh (nI (K i)) (nI (729 * t + 1 + 5 * k)) = f_X12_lawClause N A tape taped at1 pl1 tk1 nu1 wd1 (nI (729 * t)) (nI w) (nI (K i)) pile piled opens wh (nI (729 * t + 1 + 5 * k)) := fun {A} => by
      unfold f_X12_body f_X12_body_129
      simp (disch := omega) only [li, neq_f, nlt_f, ↓reduceIte]
      exact ob12_id
    have y5 : nI 5 * nI k = nI (5 * k) := pk_mul _ _
    rcases bd with ⟨f, j, l', cd', vt', pile', at', pl', tk', nu', wd', wr', piled', opens', wh', b1, b2, b3, b4, b5, b6, b7⟩ | ⟨i', l', cd', vt', pile', R, at', pl', tk', nu', wd', piled', opens', wh', b1, b2, b3, b4, b5, b6, b7, b8, b9, b10, b11, b12, b13⟩
    · have fz : (nI f = nI 0) = False := neq_f (by omega) (by omega) (by omega)
      refine Or.inl ⟨f, j, nI (k + 1), l', nI 1, cd', upd st (K i) (nI l), en, upd rows (5 * k) (nI (K i)), nI j, nI (K i), vt', pile', at', pl', tk', nu', wd', wr', nI (K i), piled', opens', wh', nI (on ||| 2 ^ K i), ?_, ?_, b3, b4, b5, b6, fun q hq => by rw [b7 q hq, upd_ne (by omega)]; exact i9 q hq⟩
      · simp (disch := omega) only [f_X5_clause_43, f_X5_clause_86, li, nlt_t, nlt_f, co, nx, b1, ob1_s, ob4_s, ob8_s, ↓reduceIte]
      · simp (disch := omega) only [f_X12_clause_65, li, x1, nI_add, y5, sA_n, bo, b2, fz, ob5_s, ob12_s, ↓reduceIte]
    · have vk : vt' (729 * t) = nI k := by rw [b13 _ (by omega) (by omega) (by omega), upd_ne (by omega)]; exact i6
      by_cases k45 : K i' = 45
      · have ex := cExp1 (bl := bl) (ft := ft) (pc := pc) h b5 k45 (by omega)
        have hn2 := h.1.more b5 (show K i' ≠ 47 by omega)
        obtain ⟨at2, pl2, tk2, nu2, wd2, x3, x4⟩ := rNx h hn2 b3
        obtain ⟨q1, q2, q3⟩ := h.1.2.2.2.2.1 i' _ _ _ _ _ b5 b3
        obtain ⟨tt, e1, -, e3, -, -⟩ := q2
        subst e1
        obtain ⟨-, -, -, -, -, -, -, -, -, -, -, -, -, T59, -⟩ := tkAll e3
        refine Or.inr ⟨i' + 1, l', w + R.length, on ||| 2 ^ K i, nI 1, cd', upd st (K i) (nI l), upd en (K i) (nI l'), upd rows (5 * k) (nI (K i)), nI (K i), upd vt' (729 * t) (nI (k + 1)), pile', at2, pl2, tk2, nu2, wd2, nI (K i), piled', opens', wh', ?_, ?_, by omega, x4, ?_⟩
        · simp (disch := omega) only [f_X5_clause_43, f_X5_clause_86, li, nlt_t, nlt_f, co, nx, b1, h10, ex, ob1_s, ob4_s, ob8_s, ↓reduceIte]
        · simp (disch := omega) only [f_X12_clause_65, li, x1, nI_add, y5, sA_n, bo, b2, gA_n, vk, T59, k45, x3, ob5_s, ob12_s, ↓reduceIte]
        · have sl1 := b8.1
          have vtk : ∀ q, 729 * t < q → q < 729 * t + 1 + 5 * k → upd vt' (729 * t) (nI (k + 1)) q = vt q := fun q q1 q2 => by rw [upd_ne (by omega), b13 _ (by omega) (by omega) (by omega), upd_ne (by omega)]
          have vts : upd vt' (729 * t) (nI (k + 1)) (729 * t + 1 + 5 * k) = nI (K i) := by rw [upd_ne (by omega), b13 _ (by omega) (by omega) (by omega), upd_eq rfl]
          refine ⟨by omega, hn2, by omega, by omega, fun q hq => ?_, upd_eq rfl, Nat.or_lt_two_pow (n := 4) i7 p16, fun lw hl4 => ?_, fun q hq => by rw [upd_ne (by omega), b13 q (by omega) (by omega) (by omega), upd_ne (by omega)]; exact i9 q hq⟩
          · by_cases qk : q = k
            · subst qk
              refine ⟨K i, 0, 0, 0, 0, by omega, upd_eq rfl, ?_, fun w => by omega, fun w => by omega, fun w => by omega, fun w => by omega⟩
              rw [vts, sb3 c3]
            · exact (i5 q (by omega)).cg (fun q' a1 a2 => upd_ne (by omega)) (fun q' a1 a2 => vtk q' (by omega) (by omega))
          · rw [Nat.testBit_or, n1bit]
            by_cases lk : lw = K i
            · subst lk
              rw [decide_eq_true rfl, Bool.or_true]
              refine Or.inr ⟨rfl, k, l, l', w, R, by omega, upd_eq rfl, upd_eq rfl, sl1, Nat.le_refl _, vts, fun q hq => ?_, ?_, ?_, Nat.le_refl _, ?_, b8⟩
              · rcases i8 (K i) c3 with ⟨-, -, a3⟩ | ⟨a1, -⟩
                · rw [vtk _ (by omega) (by omega)]; exact a3 q hq
                · rw [nob] at a1; cases a1
              · rw [upd_ne (by omega)]; exact b10
              · rw [upd_ne (by omega)]; exact b11
              · exact b12.cg (fun q q1 q2 => upd_ne (by omega))
            · rw [decide_eq_false (fun e => lk e.symm), Bool.or_false]
              exact (i8 lw hl4).cg (s := K i) (by omega) (by omega) (by omega) (by omega) hl4 (upd_ne lk) (upd_ne lk) b9 vtk (fun q q1 q2 => by rw [upd_ne (by omega), b13 q (by omega) (by omega) (by omega), upd_ne (by omega)]) vts (fun e => lk e.symm) (by omega)
      · have ex := cExp0 (bl := bl) (ft := ft) (pc := pc) h b5 k45 (by omega)
        obtain ⟨q1, q2, q3⟩ := h.1.2.2.2.2.1 i' _ _ _ _ _ b5 b3
        obtain ⟨tt, e1, -, e3, -, -⟩ := q2
        subst e1
        obtain ⟨-, -, -, -, -, -, -, -, -, -, -, -, -, T59, -⟩ := tkAll e3
        refine Or.inl ⟨1, i', nI (k + 1), nI l', nI 1, cd', upd st (K i) (nI l), upd en (K i) (nI l'), upd rows (5 * k) (nI (K i)), nI i', nI (K i), upd vt' (729 * t) (nI (k + 1)), pile', at', pl', nI tt, nu', wd', nI (w + R.length), nI (K i), piled', opens', wh', nI (on ||| 2 ^ K i), ?_, ?_, by omega, by omega, b5, b3, fun q hq => by rw [upd_ne (by omega), b13 q (by omega) (by omega) (by omega), upd_ne (by omega)]; exact i9 q hq⟩
        · simp (disch := omega) only [f_X5_clause_43, f_X5_clause_86, li, nlt_t, nlt_f, co, nx, b1, h10, ex, ob1_s, ob4_s, ob8_s, ↓reduceIte]
        · simp (disch := omega) only [f_X12_clause_65, li, x1, nI_add, y5, sA_n, bo, b2, gA_n, vk, T59, k45, ob5_s, ob12_s, ↓reduceIte]
  · -- a deed
    rw [if_neg c3] at co
    have s3 : 3 < sortN (K i) := sb2.mpr (by omega)
    have e65 : f_X12_clause_29 N vt tape taped at_ pl_ tk num wd (nI (729 * t)) (nI w) s0 pile piled opens wh (nI on) (nI (sortN (K i))) = f_X12_clause_65 N vt tape taped at_ pl_ tk num wd (nI (729 * t)) (nI w) s0 pile piled opens wh (nI on) (nI (sortN (K i))) (nI k) := by
      simp (disch := omega) only [f_X12_clause_29, li, gA_n, i6, neq_f, nlt_t, ↓reduceIte]
    rw [e65]
    obtain ⟨B, bd, bo⟩ := dDeed (bl := bl) (rows := upd rows (5 * k) (nI (K i))) (ft := ft) (pc := pc) (vt := upd vt (729 * t + 1 + 5 * k) (nI (sortN (K i)))) (pile := pile) (piled := piled) (opens := opens) (wh := wh) (wr := nI w) (s0 := nI (sortN (K i))) (x := 729 * t + 1 + 5 * k) (kd := K i) h (by omega) hn1 x2 (show k < 24 by omega) (by omega)
    have y5 : nI 5 * nI k = nI (5 * k) := pk_mul _ _
    rcases bd with ⟨f, j, pt', rows', vt', at', pl', tk', nu', wd', b1, b2, b3, b4, b5, b6, b7⟩ | ⟨i', pt', rows', vt', at', pl', tk', nu', wd', b1, b2, b4, b5, b3, b7, b8, b9⟩
    · have fz : (nI f = nI 0) = False := neq_f (by omega) (by omega) (by omega)
      rw [b2, ob7_s] at bo
      refine Or.inl ⟨f, j, nI (k + 1), nI l, pt', cd, st, en, rows', nI j, law0, vt', pile, at', pl', tk', nu', wd', nI w, nI (sortN (K i)), piled, opens, wh, nI on, ?_, ?_, b3, b4, b5, b6, fun q hq => by rw [b7 q (by omega), upd_ne (by omega)]; exact i9 q hq⟩
      · simp (disch := omega) only [f_X5_clause_43, f_X5_clause_86, li, nlt_t, co, nx, b1, ob1_s, ob4_s, ob6_s, ↓reduceIte]
      · simp (disch := omega) only [f_X12_clause_65, li, x1, nI_add, y5, sA_n, bo, fz, ob5_s, ob12_s, ↓reduceIte]
    · rw [b2, ob7_s] at bo
      have vk : vt' (729 * t) = nI k := by rw [b7 _ (by omega), upd_ne (by omega)]; exact i6
      by_cases k45 : K i' = 45
      · have ex := cExp1 (bl := bl) (ft := ft) (pc := pc) h b5 k45 (by omega)
        have hn2 := h.1.more b5 (show K i' ≠ 47 by omega)
        obtain ⟨at2, pl2, tk2, nu2, wd2, x3, x4⟩ := rNx h hn2 b3
        obtain ⟨q1, q2, q3⟩ := h.1.2.2.2.2.1 i' _ _ _ _ _ b5 b3
        obtain ⟨tt, e1, -, e3, -, -⟩ := q2
        subst e1
        obtain ⟨-, -, -, -, -, -, -, -, -, -, -, -, -, T59, -⟩ := tkAll e3
        refine Or.inr ⟨i' + 1, l, w, on, pt', cd, st, en, rows', law0, upd vt' (729 * t) (nI (k + 1)), pile, at2, pl2, tk2, nu2, wd2, nI (sortN (K i)), piled, opens, wh, ?_, ?_, by omega, x4, ?_⟩
        · simp (disch := omega) only [f_X5_clause_43, f_X5_clause_86, li, nlt_t, co, nx, b1, h10, ex, ob1_s, ob4_s, ob6_s, ↓reduceIte]
        · simp (disch := omega) only [f_X12_clause_65, li, x1, nI_add, y5, sA_n, bo, gA_n, vk, T59, k45, x3, ob5_s, ob12_s, ↓reduceIte]
        · have vtk : ∀ q, 729 * t < q → q < 729 * t + 1 + 5 * k → upd vt' (729 * t) (nI (k + 1)) q = vt q := fun q q1 q2 => by rw [upd_ne (by omega), b7 _ (by omega), upd_ne (by omega)]
          have vts : upd vt' (729 * t) (nI (k + 1)) (729 * t + 1 + 5 * k) = nI (sortN (K i)) := by rw [upd_ne (by omega), b7 _ (by omega), upd_eq rfl]
          refine ⟨by omega, hn2, by omega, by omega, fun q hq => ?_, upd_eq rfl, i7, fun lw hl4 => ?_, fun q hq => by rw [upd_ne (by omega), b7 q (by omega), upd_ne (by omega)]; exact i9 q hq⟩
          · by_cases qk : q = k
            · subst qk
              obtain ⟨v1, v2, v3, v4, d1, d2, d3, d4, d5, d6⟩ := b9
              refine ⟨K i, v1, v2, v3, v4, by omega, ?_, vts, fun _ => ⟨d1, by rw [upd_ne (by omega)]; exact d2, d3⟩, fun _ c10 => ?_, fun c5 => ?_, d6⟩
              · rw [b8 _ (by omega), upd_eq rfl]
              · rw [upd_ne (by omega)]; exact d4 c10
              · rw [upd_ne (by omega), upd_ne (by omega)]; exact d5 c5
            · exact (i5 q (by omega)).cg (fun q' a1 a2 => by rw [b8 _ (by omega), upd_ne (by omega)]) (fun q' a1 a2 => vtk q' (by omega) (by omega))
          · exact (i8 lw hl4).cg (s := sortN (K i)) (by omega) (Nat.le_refl _) (Nat.le_refl _) (by omega) hl4 rfl rfl (fun _ _ => rfl) vtk (fun q q1 q2 => by rw [upd_ne (by omega), b7 q (by omega), upd_ne (by omega)]) vts (by omega) (by omega)
      · have ex := cExp0 (bl := bl) (ft := ft) (pc := pc) h b5 k45 (by omega)
        obtain ⟨q1, q2, q3⟩ := h.1.2.2.2.2.1 i' _ _ _ _ _ b5 b3
        obtain ⟨tt, e1, -, e3, -, -⟩ := q2
        subst e1
        obtain ⟨-, -, -, -, -, -, -, -, -, -, -, -, -, T59, -⟩ := tkAll e3
        refine Or.inl ⟨1, i', nI (k + 1), nI l, pt', cd, st, en, rows', nI i', law0, upd vt' (729 * t) (nI (k + 1)), pile, at', pl', nI tt, nu', wd', nI w, nI (sortN (K i)), piled, opens, wh, nI on, ?_, ?_, by omega, by omega, b5, b3, fun q hq => by rw [upd_ne (by omega), b7 q (by omega), upd_ne (by omega)]; exact i9 q hq⟩
        · simp (disch := omega) only [f_X5_clause_43, f_X5_clause_86, li, nlt_t, co, nx, b1, h10, ex, ob1_s, ob4_s, ob6_s, ↓reduceIte]
        · simp (disch := omega) only [f_X12_clause_65, li, x1, nI_add, y5, sA_n, bo, gA_n, vk, T59, k45, ob5_s, ob12_s, ↓reduceIte]
end
