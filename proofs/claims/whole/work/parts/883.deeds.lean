/-! what is done, read on both sides -/
theorem ob6_id {A B C D E F : Type} {o : Option (A × B × C × D × E × F)} : (ob6 o fun a b c d e f => some (a, b, c, d, e, f)) = o := by
  cases o with
  | none => rfl
  | some x => rfl
section
variable {N n t0 law w0 : Nat} {K Nu Pl : Nat → Nat} {RL : RLT} {tape : Nat → Int32} {taped : Int32} {vt0 : Nat → Int32} {bl : Int32} {ki pl nu : Nat → Int32}
theorem rNx (h : HX N n t0 law K Nu Pl RL tape taped ki pl nu) {i : Nat} {at_ pl_ tk num : Int32} {wd : Int64} (hi : i + 1 < n) (hr : RL i at_ pl_ tk num wd) : ∃ at' pl' tk' nu' wd', f_X12_nextToken N tape taped at_ pl_ tk num wd = some (at', pl', tk', nu', wd') ∧ RL (i + 1) at' pl' tk' nu' wd' := h.1.2.2.2.2.2 i at_ pl_ tk num wd hi hr
theorem dFig (h : HX N n t0 law K Nu Pl RL tape taped ki pl nu) {i k p lo hi x : Nat} {vt rows : Nat → Int32} {at_ pl_ tk num : Int32} {wd : Int64} {ft pc : Int32} (hin : i < n) (hr : RL i at_ pl_ tk num wd) (hk : k < 24) (hp : p < 5) (hlo : lo ≤ hi) (hhi : hi ≤ 9999) (hx : x < 2916) :
    (∃ f, 1 ≤ f ∧ f ≤ 6 ∧ f_X5_number N bl (nI n) ki pl nu (nI (k + 1)) (nI p) rows ft pc (nI i) (nI lo) (nI hi) = some (nI 0, nI p, rows, nI f, nI (Pl i), nI i) ∧ f_X12_figure N vt tape taped at_ pl_ tk num wd (nI x) (nI lo) (nI hi) = some (nI f, vt, at_, pl_, tk, num, wd)) ∨
    (∃ v at' pl' tk' nu' wd', lo ≤ v ∧ v ≤ hi ∧ i + 1 < n ∧ f_X5_number N bl (nI n) ki pl nu (nI (k + 1)) (nI p) rows ft pc (nI i) (nI lo) (nI hi) = some (nI 1, nI (p + 1), upd rows (5 * k + p) (nI v), ft, pc, nI (i + 1)) ∧ f_X12_figure N vt tape taped at_ pl_ tk num wd (nI x) (nI lo) (nI hi) = some (nI 0, upd vt x (nI v), at', pl', tk', nu', wd') ∧ RL (i + 1) at' pl' tk' nu' wd') := by
  have n3 := h.1.2.1
  have tkc := cTok h hin
  have nb := cNumb h hin
  obtain ⟨kb, nub⟩ := cKind h hin
  obtain ⟨p1, p2, p3⟩ := h.1.2.2.2.2.1 i _ _ _ _ _ hin hr
  obtain ⟨t, e1, e2, e3, e4, e5⟩ := p2
  subst e1
  obtain ⟨T1, -⟩ := tkAll e3
  have h10 : (nI 1 = nI 0) = False := eq_false (by decide)
  by_cases k46 : K i = 46
  · have t1 : t = 1 := by have := e3.2.1 (by omega); rw [k46] at this; exact this
    obtain ⟨m, y1, y2, y3⟩ := e4 t1
    clear e4 e5
    subst y1
    by_cases c : lo ≤ Nu i ∧ Nu i ≤ hi
    · have em : m = Nu i := by omega
      subst em
      have hn1 := h.1.more hin (show K i ≠ 47 by omega)
      have nx := cNext h hn1
      obtain ⟨at', pl', tk', nu', wd', x1, x2⟩ := rNx h hn1 hr
      have ii := isIn_in (N := N) (p := Nu i) (lo := lo) (hi := hi) c.1 c.2 (by omega)
      have e7 : k * 5 = 5 * k := Nat.mul_comm _ _
      refine Or.inr ⟨Nu i, at', pl', tk', nu', wd', c.1, c.2, hn1, ?_, ?_, x2⟩
      · simp (disch := omega) only [f_X5_number, f_X9_addPart, li, tkc, k46, nb, nlt_f, nle_t, nle_f, nsub, Nat.add_sub_cancel, pk_mul, nI_add, e7, sA_n, nx, ob1_s, ob2_s, ↓reduceIte]
      · simp (disch := omega) only [f_X12_figure, li, T1, k46, ii, h10, sA_n, x1, ob1_s, ob5_s, ↓reduceIte]
    · have ii : f_X12_isIn N (nI m) (nI lo) (nI hi) = some (nI 0) := by
        by_cases c1 : m < lo
        · simp (disch := omega) only [f_X12_isIn, nlt_t, li, ↓reduceIte]
        · simp (disch := omega) only [f_X12_isIn, nlt_f, nlt_t, li, ↓reduceIte]
      have fl := cFail (bl := bl) (ft := ft) (pc := pc) (f := nI 2) h hin
      refine Or.inl ⟨2, by omega, by omega, ?_, ?_⟩
      · by_cases c1 : Nu i < lo
        · simp (disch := omega) only [f_X5_number, f_X5_number_37, li, tkc, k46, nb, nlt_t, fl, ob1_s, ob3_s, ↓reduceIte]
        · simp (disch := omega) only [f_X5_number, f_X5_number_37, li, tkc, k46, nb, nlt_f, nle_f, fl, ob1_s, ob3_s, ↓reduceIte]
      · simp only [f_X12_figure, li, T1, k46, ii, ob1_s, ↓reduceIte]
  · clear e4 e5
    have fl := cFail (bl := bl) (ft := ft) (pc := pc) (f := nI 1) h hin
    refine Or.inl ⟨1, by omega, by omega, ?_, ?_⟩
    · simp (disch := omega) only [f_X5_number, li, tkc, neq_f, fl, ob1_s, ob3_s, ↓reduceIte]
    · simp only [f_X12_figure, li, T1, k46, ↓reduceIte]
theorem dWord (h : HX N n t0 law K Nu Pl RL tape taped ki pl nu) {i k p hi x kw : Nat} {vt rows : Nat → Int32} {at_ pl_ tk num : Int32} {wd : Int64} {ft pc : Int32} (hkw : kw < 33) (hin : i < n) (hr : RL i at_ pl_ tk num wd) (hk : k < 24) (hp : p < 5) (hhi : hi ≤ 9999) (hx : x < 2916) :
    (f_X5_expect N bl (nI n) ki pl ft pc (nI i) (nI kw) = some (nI 0, nI 1, nI (Pl i), nI i) ∧ f_X12_worded N vt tape taped at_ pl_ tk num wd (lN (wc kw)) (nI x) (nI hi) = some (nI 1, vt, at_, pl_, tk, num, wd)) ∨
    (f_X5_expect N bl (nI n) ki pl ft pc (nI i) (nI kw) = some (nI 1, ft, pc, nI (i + 1)) ∧ i + 1 < n ∧
      ((∃ f at' pl' tk' nu' wd', 1 ≤ f ∧ f ≤ 6 ∧ f_X5_number N bl (nI n) ki pl nu (nI (k + 1)) (nI p) rows ft pc (nI (i + 1)) (nI 0) (nI hi) = some (nI 0, nI p, rows, nI f, nI (Pl (i + 1)), nI (i + 1)) ∧ f_X12_worded N vt tape taped at_ pl_ tk num wd (lN (wc kw)) (nI x) (nI hi) = some (nI f, vt, at', pl', tk', nu', wd') ∧ RL (i + 1) at' pl' tk' nu' wd') ∨
       (∃ v at' pl' tk' nu' wd', v ≤ hi ∧ i + 2 < n ∧ f_X5_number N bl (nI n) ki pl nu (nI (k + 1)) (nI p) rows ft pc (nI (i + 1)) (nI 0) (nI hi) = some (nI 1, nI (p + 1), upd rows (5 * k + p) (nI v), ft, pc, nI (i + 2)) ∧ f_X12_worded N vt tape taped at_ pl_ tk num wd (lN (wc kw)) (nI x) (nI hi) = some (nI 0, upd vt x (nI v), at', pl', tk', nu', wd') ∧ RL (i + 2) at' pl' tk' nu' wd'))) := by
  obtain ⟨p1, p2, p3⟩ := h.1.2.2.2.2.1 i _ _ _ _ _ hin hr
  have rw_ := rWord (N := N) p2 kw hkw
  have h10 : (nI 1 = nI 0) = False := eq_false (by decide)
  by_cases c : K i = kw
  · rw [if_pos c] at rw_
    have hn1 := h.1.more hin (show K i ≠ 47 by omega)
    obtain ⟨at1, pl1, tk1, nu1, wd1, x1, x2⟩ := rNx h hn1 hr
    refine Or.inr ⟨cExp1 h hin c (by omega), hn1, ?_⟩
    rcases dFig (bl := bl) (vt := vt) (rows := rows) (ft := ft) (pc := pc) (lo := 0) h hn1 x2 hk hp (by omega) hhi hx with ⟨f, f1, f2, f3, f4⟩ | ⟨v, at', pl', tk', nu', wd', v1, v2, v3, v4, v5, v6⟩
    · refine Or.inl ⟨f, at1, pl1, tk1, nu1, wd1, f1, f2, f3, ?_, x2⟩
      simp only [f_X12_worded, li, rw_, h10, x1, f4, ob1_s, ob5_s, ob7_s, ↓reduceIte]
    · refine Or.inr ⟨v, at', pl', tk', nu', wd', v2, v3, v4, ?_, v6⟩
      simp only [f_X12_worded, li, rw_, h10, x1, v5, ob1_s, ob5_s, ob7_s, ↓reduceIte]
  · rw [if_neg c] at rw_
    refine Or.inl ⟨cExp0 h hin c (by omega), ?_⟩
    simp only [f_X12_worded, li, rw_, ob1_s, ↓reduceIte]
/-- what a deed's parts are, on both sides -/
def CV (kd : Nat) (rows vt : Nat → Int32) (k x : Nat) : Prop :=
  ∃ v1 v2 v3 v4 : Nat, rows (5 * k + 1) = nI v1 ∧ vt (x + 1) = nI v1 ∧ v1 ≤ 9999 ∧ (kd ≤ 10 → rows (5 * k + 2) = nI v2 ∧ vt (x + 2) = nI v2 ∧ v2 ≤ 9999) ∧ (kd = 5 → rows (5 * k + 3) = nI v3 ∧ vt (x + 3) = nI v3 ∧ v3 ≤ 9999 ∧ rows (5 * k + 4) = nI v4 ∧ vt (x + 4) = nI v4 ∧ v4 ≤ 9999) ∧ (kd = 12 → v1 ≤ 60)
def DOf (n : Nat) (Pl : Nat → Nat) (RL : RLT) (vt : Nat → Int32) (x : Nat) (C : Option (Int32 × Int32 × (Nat → Int32) × Int32 × Int32 × Int32)) (B : Option (Int32 × (Nat → Int32) × Int32 × Int32 × Int32 × Int32 × Int64)) : Prop :=
  ∃ (f j : Nat) (pt' : Int32) (rows' vt' : Nat → Int32) (at' pl' tk' nu' : Int32) (wd' : Int64), C = some (nI 0, pt', rows', nI f, nI (Pl j), nI j) ∧ B = some (nI f, vt', at', pl', tk', nu', wd') ∧ 1 ≤ f ∧ f ≤ 6 ∧ j < n ∧ RL j at' pl' tk' nu' wd' ∧ ∀ q, ¬ (x + 1 ≤ q ∧ q < x + 5) → vt' q = vt q
def DOk (n : Nat) (RL : RLT) (kd i k : Nat) (ft pc : Int32) (rows vt : Nat → Int32) (x : Nat) (C : Option (Int32 × Int32 × (Nat → Int32) × Int32 × Int32 × Int32)) (B : Option (Int32 × (Nat → Int32) × Int32 × Int32 × Int32 × Int32 × Int64)) : Prop :=
  ∃ (i' : Nat) (pt' : Int32) (rows' vt' : Nat → Int32) (at' pl' tk' nu' : Int32) (wd' : Int64), C = some (nI 1, pt', rows', ft, pc, nI i') ∧ B = some (nI 0, vt', at', pl', tk', nu', wd') ∧ i < i' ∧ i' < n ∧ RL i' at' pl' tk' nu' wd' ∧ (∀ q, ¬ (x + 1 ≤ q ∧ q < x + 5) → vt' q = vt q) ∧ (∀ q, ¬ (5 * k + 1 ≤ q ∧ q < 5 * k + 5) → rows' q = rows q) ∧ CV kd rows' vt' k x
def pairC (N : Nat) (bl tok : Int32) (ki pl nu : Nat → Int32) (cl pt : Int32) (rows : Nat → Int32) (ft pc at_ top kw top2 : Int32) : Option (Int32 × Int32 × (Nat → Int32) × Int32 × Int32 × Int32) :=
  ob6 (f_X5_number N bl tok ki pl nu cl pt rows ft pc at_ (0 : Int32) top) fun r67 x_pt_67 x_rows_67 e_fault_67 e_place_67 e_at_67 => if r67 = 0 then (some ((0 : Int32), x_pt_67, x_rows_67, e_fault_67, e_place_67, e_at_67)) else (ob4 (f_X5_expect N bl tok ki pl e_fault_67 e_place_67 e_at_67 kw) fun r76 e_fault_76 e_place_76 e_at_76 => if r76 = 0 then (some ((0 : Int32), x_pt_67, x_rows_67, e_fault_76, e_place_76, e_at_76)) else (ob6 (f_X5_number N bl tok ki pl nu cl x_pt_67 x_rows_67 e_fault_76 e_place_76 e_at_76 (0 : Int32) top2) fun r85 x_pt_85 x_rows_85 e_fault_85 e_place_85 e_at_85 => if r85 = 0 then (some ((0 : Int32), x_pt_85, x_rows_85, e_fault_85, e_place_85, e_at_85)) else (some ((1 : Int32), x_pt_85, x_rows_85, e_fault_85, e_place_85, e_at_85))))
theorem dPair (h : HX N n t0 law K Nu Pl RL tape taped ki pl nu) {i k x top kw top2 kd : Nat} {vt rows : Nat → Int32} {at_ pl_ tk num : Int32} {wd : Int64} {ft pc : Int32} (hkd : 4 ≤ kd ∧ kd ≤ 10 ∧ kd ≠ 5) (hkw : kw < 33) (hin : i < n) (hr : RL i at_ pl_ tk num wd) (hk : k < 24) (ht : top ≤ 9999) (ht2 : top2 ≤ 9999) (hx : x + 5 < 2916) :
    DOf n Pl RL vt x (pairC N bl (nI n) ki pl nu (nI (k + 1)) (nI 1) rows ft pc (nI i) (nI top) (nI kw) (nI top2)) (f_X12_pair N vt tape taped at_ pl_ tk num wd (nI x) (nI top) (lN (wc kw)) (nI top2)) ∨
    DOk n RL kd i k ft pc rows vt x (pairC N bl (nI n) ki pl nu (nI (k + 1)) (nI 1) rows ft pc (nI i) (nI top) (nI kw) (nI top2)) (f_X12_pair N vt tape taped at_ pl_ tk num wd (nI x) (nI top) (lN (wc kw)) (nI top2)) := by
  have h10 : (nI 1 = nI 0) = False := eq_false (by decide)
  unfold pairC f_X12_pair
  rcases dFig (bl := bl) (vt := vt) (rows := rows) (ft := ft) (pc := pc) (lo := 0) (p := 1) (x := x + 1) h hin hr hk (by omega) (by omega) ht (by omega) with ⟨f, f1, f2, f3, f4⟩ | ⟨v, at1, pl1, tk1, nu1, wd1, v1, v2, v3, v4, v5, v6⟩
  · have fz : (nI f = nI 0) = False := neq_f (by omega) (by omega) (by omega)
    refine Or.inl ⟨f, i, nI 1, rows, vt, at_, pl_, tk, num, wd, ?_, ?_, f1, f2, hin, hr, fun _ _ => rfl⟩
    · simp only [li, f3, ob6_s, ↓reduceIte]
    · simp only [li, nI_add, f4, fz, ob7_s, ↓reduceIte]
  · rcases dWord (bl := bl) (vt := upd vt (x + 1) (nI v)) (rows := upd rows (5 * k + 1) (nI v)) (ft := ft) (pc := pc) (p := 1 + 1) (x := x + 2) (hi := top2) (kw := kw) h hkw v3 v6 hk (by omega) ht2 (by omega) with ⟨w1, w2⟩ | ⟨w1, w2, w3⟩
    · refine Or.inl ⟨1, i + 1, nI (1 + 1), upd rows (5 * k + 1) (nI v), upd vt (x + 1) (nI v), at1, pl1, tk1, nu1, wd1, ?_, ?_, by omega, by omega, v3, v6, fun q hq => upd_ne (by omega)⟩
      · simp only [li, v4, h10, w1, ob4_s, ob6_s, ↓reduceIte]
      · simp only [li, nI_add, v5, w2, ob7_s, ↓reduceIte]
    · rcases w3 with ⟨f, at', pl', tk', nu', wd', f1, f2, f3, f4, f5⟩ | ⟨u, at', pl', tk', nu', wd', u1, u2, u3, u4, u5⟩
      · refine Or.inl ⟨f, i + 1 + 1, nI (1 + 1), upd rows (5 * k + 1) (nI v), upd vt (x + 1) (nI v), at', pl', tk', nu', wd', ?_, ?_, f1, f2, w2, f5, fun q hq => upd_ne (by omega)⟩
        · simp only [li, v4, h10, w1, f3, ob4_s, ob6_s, ↓reduceIte]
        · simp only [li, nI_add, v5, f4, ob7_s, ↓reduceIte]
      · refine Or.inr ⟨i + 1 + 2, nI (1 + 1 + 1), upd (upd rows (5 * k + 1) (nI v)) (5 * k + (1 + 1)) (nI u), upd (upd vt (x + 1) (nI v)) (x + 2) (nI u), at', pl', tk', nu', wd', ?_, ?_, by omega, u2, u5, fun q hq => by rw [upd_ne (by omega), upd_ne (by omega)], fun q hq => by rw [upd_ne (by omega), upd_ne (by omega)], v, u, 0, 0, ?_, ?_, by omega, fun _ => ⟨upd_eq (by omega), upd_eq rfl, by omega⟩, fun w => by omega, fun w => by omega⟩
        · simp only [li, v4, h10, w1, u3, ob4_s, ob6_s, ↓reduceIte]
        · simp only [li, nI_add, v5, u4, ob7_s, ↓reduceIte]
        · rw [upd_ne (by omega), upd_eq rfl]
        · rw [upd_ne (by omega), upd_eq rfl]
theorem dLone (h : HX N n t0 law K Nu Pl RL tape taped ki pl nu) {i k x lo hi kd : Nat} {vt rows : Nat → Int32} {at_ pl_ tk num : Int32} {wd : Int64} {ft pc : Int32} (hlo : lo ≤ hi) (hkd : (kd = 11 ∧ hi = 9) ∨ (kd = 12 ∧ hi = 60)) (hin : i < n) (hr : RL i at_ pl_ tk num wd) (hk : k < 24) (hx : x + 5 < 2916) :
    DOf n Pl RL vt x (f_X5_number N bl (nI n) ki pl nu (nI (k + 1)) (nI 1) rows ft pc (nI i) (nI lo) (nI hi)) (f_X12_figure N vt tape taped at_ pl_ tk num wd (nI (x + 1)) (nI lo) (nI hi)) ∨
    DOk n RL kd i k ft pc rows vt x (f_X5_number N bl (nI n) ki pl nu (nI (k + 1)) (nI 1) rows ft pc (nI i) (nI lo) (nI hi)) (f_X12_figure N vt tape taped at_ pl_ tk num wd (nI (x + 1)) (nI lo) (nI hi)) := by
  rcases dFig (bl := bl) (vt := vt) (rows := rows) (ft := ft) (pc := pc) (lo := lo) (hi := hi) (p := 1) (x := x + 1) h hin hr hk (by omega) (by omega) (by omega) (by omega) with ⟨f, f1, f2, f3, f4⟩ | ⟨v, at1, pl1, tk1, nu1, wd1, v1, v2, v3, v4, v5, v6⟩
  · exact Or.inl ⟨f, i, _, _, vt, at_, pl_, tk, num, wd, f3, f4, f1, f2, hin, hr, fun _ _ => rfl⟩
  · exact Or.inr ⟨i + 1, _, _, _, at1, pl1, tk1, nu1, wd1, v4, v5, by omega, v3, v6, fun q hq => upd_ne (by omega), fun q hq => upd_ne (by omega), v, 0, 0, 0, upd_eq rfl, upd_eq rfl, by omega, fun w => by omega, fun w => by omega, fun w => by omega⟩
theorem dPers (h : HX N n t0 law K Nu Pl RL tape taped ki pl nu) {i k x : Nat} {vt rows : Nat → Int32} {at_ pl_ tk num : Int32} {wd : Int64} {ft pc : Int32} (hin : i < n) (hr : RL i at_ pl_ tk num wd) (hk : k < 24) (hx : x + 5 < 2916) :
    DOf n Pl RL vt x (f_X5_deedOf N bl (nI n) ki pl nu (nI (k + 1)) (nI 1) rows ft pc (nI i) (nI 5)) (f_X12_personClause N vt tape taped at_ pl_ tk num wd (nI x)) ∨
    DOk n RL 5 i k ft pc rows vt x (f_X5_deedOf N bl (nI n) ki pl nu (nI (k + 1)) (nI 1) rows ft pc (nI i) (nI 5)) (f_X12_personClause N vt tape taped at_ pl_ tk num wd (nI x)) := by
  have h10 : (nI 1 = nI 0) = False := eq_false (by decide)
  have h54 : (nI 5 = nI 4) = False := eq_false (by decide)
  rcases dFig (bl := bl) (vt := vt) (rows := rows) (ft := ft) (pc := pc) (lo := 0) (hi := 7) (p := 1) (x := x + 1) h hin hr hk (by omega) (by omega) (by omega) (by omega) with ⟨f, f1, f2, f3, f4⟩ | ⟨v, at1, pl1, tk1, nu1, wd1, v1, v2, v3, v4, v5, v6⟩
  · have fz : (nI f = nI 0) = False := neq_f (by omega) (by omega) (by omega)
    refine Or.inl ⟨f, i, nI 1, rows, vt, at_, pl_, tk, num, wd, ?_, ?_, f1, f2, hin, hr, fun _ _ => rfl⟩
    · simp only [f_X5_deedOf, li, h54, f3, ob6_s, ↓reduceIte]
    · simp only [f_X12_personClause, f_X12_personClause_36, f_X12_personClause_64, li, nI_add, f4, fz, ob7_s, ↓reduceIte]
  rcases dWord (bl := bl) (vt := upd vt (x + 1) (nI v)) (rows := upd rows (5 * k + 1) (nI v)) (ft := ft) (pc := pc) (p := 1 + 1) (x := x + 2) (hi := 9) (kw := 14) h (by omega) v3 v6 hk (by omega) (by omega) (by omega) with ⟨w1, w2⟩ | ⟨w1, w2, w3⟩
  · refine Or.inl ⟨1, i + 1, nI (1 + 1), upd rows (5 * k + 1) (nI v), upd vt (x + 1) (nI v), at1, pl1, tk1, nu1, wd1, ?_, ?_, by omega, by omega, v3, v6, fun q hq => upd_ne (by omega)⟩
    · simp only [f_X5_deedOf, li, h54, v4, h10, w1, ob4_s, ob6_s, ↓reduceIte]
    · simp only [f_X12_personClause, f_X12_personClause_36, f_X12_personClause_64, li, nI_add, v5, wc_fear, w2, h10, ob1_s, ob7_s, ↓reduceIte]
  rcases w3 with ⟨f, at2, pl2, tk2, nu2, wd2, f1, f2, f3, f4, f5⟩ | ⟨u, at2, pl2, tk2, nu2, wd2, u1, u2, u3, u4, u5⟩
  · have fz : (nI f = nI 0) = False := neq_f (by omega) (by omega) (by omega)
    refine Or.inl ⟨f, i + 1 + 1, nI (1 + 1), upd rows (5 * k + 1) (nI v), upd vt (x + 1) (nI v), at2, pl2, tk2, nu2, wd2, ?_, ?_, f1, f2, w2, f5, fun q hq => upd_ne (by omega)⟩
    · simp only [f_X5_deedOf, li, h54, v4, h10, w1, f3, ob4_s, ob6_s, ↓reduceIte]
    · simp only [f_X12_personClause, f_X12_personClause_36, f_X12_personClause_64, li, nI_add, v5, wc_fear, f4, fz, ob1_s, ob7_s, ↓reduceIte]
  rcases dWord (bl := bl) (vt := upd (upd vt (x + 1) (nI v)) (x + 2) (nI u)) (rows := upd (upd rows (5 * k + 1) (nI v)) (5 * k + (1 + 1)) (nI u)) (ft := ft) (pc := pc) (p := 1 + 1 + 1) (x := x + 3) (hi := 9999) (kw := 18) h (by omega) u2 u5 hk (by omega) (by omega) (by omega) with ⟨y1, y2⟩ | ⟨y1, y2, y3⟩
  · refine Or.inl ⟨1, i + 1 + 2, nI (1 + 1 + 1), upd (upd rows (5 * k + 1) (nI v)) (5 * k + (1 + 1)) (nI u), upd (upd vt (x + 1) (nI v)) (x + 2) (nI u), at2, pl2, tk2, nu2, wd2, ?_, ?_, by omega, by omega, u2, u5, fun q hq => by rw [upd_ne (by omega), upd_ne (by omega)]⟩
    · simp only [f_X5_deedOf, li, h54, v4, h10, w1, u3, y1, ob4_s, ob6_s, ↓reduceIte]
    · simp only [f_X12_personClause, f_X12_personClause_36, f_X12_personClause_64, li, nI_add, v5, wc_fear, u4, wc_goods, y2, h10, ob1_s, ob7_s, ↓reduceIte]
  rcases y3 with ⟨f, at3, pl3, tk3, nu3, wd3, f1, f2, f3, f4, f5⟩ | ⟨z, at3, pl3, tk3, nu3, wd3, z1, z2, z3, z4, z5⟩
  · have fz : (nI f = nI 0) = False := neq_f (by omega) (by omega) (by omega)
    refine Or.inl ⟨f, i + 1 + 2 + 1, nI (1 + 1 + 1), upd (upd rows (5 * k + 1) (nI v)) (5 * k + (1 + 1)) (nI u), upd (upd vt (x + 1) (nI v)) (x + 2) (nI u), at3, pl3, tk3, nu3, wd3, ?_, ?_, f1, f2, y2, f5, fun q hq => by rw [upd_ne (by omega), upd_ne (by omega)]⟩
    · simp only [f_X5_deedOf, li, h54, v4, h10, w1, u3, y1, f3, ob4_s, ob6_s, ↓reduceIte]
    · simp only [f_X12_personClause, f_X12_personClause_36, f_X12_personClause_64, li, nI_add, v5, wc_fear, u4, wc_goods, f4, fz, ob1_s, ob7_s, ↓reduceIte]
  rcases dWord (bl := bl) (vt := upd (upd (upd vt (x + 1) (nI v)) (x + 2) (nI u)) (x + 3) (nI z)) (rows := upd (upd (upd rows (5 * k + 1) (nI v)) (5 * k + (1 + 1)) (nI u)) (5 * k + (1 + 1 + 1)) (nI z)) (ft := ft) (pc := pc) (p := 1 + 1 + 1 + 1) (x := x + 4) (hi := 9999) (kw := 19) h (by omega) z2 z5 hk (by omega) (by omega) (by omega) with ⟨q1, q2⟩ | ⟨q1, q2, q3⟩
  · refine Or.inl ⟨1, i + 1 + 2 + 2, nI (1 + 1 + 1 + 1), upd (upd (upd rows (5 * k + 1) (nI v)) (5 * k + (1 + 1)) (nI u)) (5 * k + (1 + 1 + 1)) (nI z), upd (upd (upd vt (x + 1) (nI v)) (x + 2) (nI u)) (x + 3) (nI z), at3, pl3, tk3, nu3, wd3, ?_, ?_, by omega, by omega, z2, z5, fun q hq => by rw [upd_ne (by omega), upd_ne (by omega), upd_ne (by omega)]⟩
    · simp only [f_X5_deedOf, li, h54, v4, h10, w1, u3, y1, z3, q1, ob4_s, ob6_s, ↓reduceIte]
    · simp only [f_X12_personClause, f_X12_personClause_36, f_X12_personClause_64, li, nI_add, v5, wc_fear, u4, wc_goods, z4, wc_debts, q2, ob1_s, ob7_s, ↓reduceIte]
  rcases q3 with ⟨f, at4, pl4, tk4, nu4, wd4, f1, f2, f3, f4, f5⟩ | ⟨m, at4, pl4, tk4, nu4, wd4, m1, m2, m3, m4, m5⟩
  · refine Or.inl ⟨f, i + 1 + 2 + 2 + 1, nI (1 + 1 + 1 + 1), upd (upd (upd rows (5 * k + 1) (nI v)) (5 * k + (1 + 1)) (nI u)) (5 * k + (1 + 1 + 1)) (nI z), upd (upd (upd vt (x + 1) (nI v)) (x + 2) (nI u)) (x + 3) (nI z), at4, pl4, tk4, nu4, wd4, ?_, ?_, f1, f2, q2, f5, fun q hq => by rw [upd_ne (by omega), upd_ne (by omega), upd_ne (by omega)]⟩
    · simp only [f_X5_deedOf, li, h54, v4, h10, w1, u3, y1, z3, q1, f3, ob4_s, ob6_s, ↓reduceIte]
    · simp only [f_X12_personClause, f_X12_personClause_36, f_X12_personClause_64, li, nI_add, v5, wc_fear, u4, wc_goods, z4, wc_debts, f4, ob1_s, ob7_s, ↓reduceIte]
  · refine Or.inr ⟨i + 1 + 2 + 2 + 2, nI (1 + 1 + 1 + 1 + 1), upd (upd (upd (upd rows (5 * k + 1) (nI v)) (5 * k + (1 + 1)) (nI u)) (5 * k + (1 + 1 + 1)) (nI z)) (5 * k + (1 + 1 + 1 + 1)) (nI m), upd (upd (upd (upd vt (x + 1) (nI v)) (x + 2) (nI u)) (x + 3) (nI z)) (x + 4) (nI m), at4, pl4, tk4, nu4, wd4, ?_, ?_, by omega, m2, m5, fun q hq => by rw [upd_ne (by omega), upd_ne (by omega), upd_ne (by omega), upd_ne (by omega)], fun q hq => by rw [upd_ne (by omega), upd_ne (by omega), upd_ne (by omega), upd_ne (by omega)], v, u, z, m, ?_, ?_, by omega, fun _ => ⟨?_, ?_, by omega⟩, fun _ => ⟨?_, ?_, by omega, ?_, ?_, by omega⟩, fun w => by omega⟩
    · simp only [f_X5_deedOf, li, h54, v4, h10, w1, u3, y1, z3, q1, m3, ob4_s, ob6_s, ↓reduceIte]
    · simp only [f_X12_personClause, f_X12_personClause_36, f_X12_personClause_64, li, nI_add, v5, wc_fear, u4, wc_goods, z4, wc_debts, m4, ob1_s, ob7_s, ↓reduceIte]
    · rw [upd_ne (by omega), upd_ne (by omega), upd_ne (by omega), upd_eq (by omega)]
    · rw [upd_ne (by omega), upd_ne (by omega), upd_ne (by omega), upd_eq (by omega)]
    · rw [upd_ne (by omega), upd_ne (by omega), upd_eq (by omega)]
    · rw [upd_ne (by omega), upd_ne (by omega), upd_eq (by omega)]
    · rw [upd_ne (by omega), upd_eq (by omega)]
    · rw [upd_ne (by omega), upd_eq (by omega)]
    · rw [upd_eq (by omega)]
    · rw [upd_eq (by omega)]
/-- any deed -/
theorem dDeed (h : HX N n t0 law K Nu Pl RL tape taped ki pl nu) {i k x kd : Nat} {vt rows pile : Nat → Int32} {at_ pl_ tk num : Int32} {wd : Int64} {ft pc wr s0 piled opens wh : Int32} (hkd : 4 ≤ kd ∧ kd ≤ 12) (hin : i < n) (hr : RL i at_ pl_ tk num wd) (hk : k < 24) (hx : x + 5 < 2916) :
    ∃ B, (DOf n Pl RL vt x (f_X5_deedOf N bl (nI n) ki pl nu (nI (k + 1)) (nI 1) rows ft pc (nI i) (nI kd)) B ∨ DOk n RL kd i k ft pc rows vt x (f_X5_deedOf N bl (nI n) ki pl nu (nI (k + 1)) (nI 1) rows ft pc (nI i) (nI kd)) B) ∧ f_X12_body N vt tape taped at_ pl_ tk num wd (nI t0) wr s0 pile piled opens wh (nI (sortN kd)) (nI x) = ob7 B fun r v a b c d e => some (r, v, a, b, c, d, e, wr, pile, piled, opens, wh) := by
  rcases (show kd = 4 ∨ kd = 5 ∨ kd = 6 ∨ kd = 7 ∨ kd = 8 ∨ kd = 9 ∨ kd = 10 ∨ kd = 11 ∨ kd = 12 by omega) with e | e | e | e | e | e | e | e | e <;> subst e
  · refine ⟨_, dPair (kd := 4) (top := 7) (kw := 21) (top2 := 7) h (by omega) (by omega) hin hr hk (by omega) (by omega) hx, ?_⟩
    show f_X12_body N vt tape taped at_ pl_ tk num wd (nI t0) wr s0 pile piled opens wh (nI 5) (nI x) = _
    unfold f_X12_body
    simp (disch := omega) only [li, neq_f, wc_to, ob1_s, ↓reduceIte]
  · refine ⟨_, dPers h hin hr hk hx, ?_⟩
    show f_X12_body N vt tape taped at_ pl_ tk num wd (nI t0) wr s0 pile piled opens wh (nI 6) (nI x) = _
    unfold f_X12_body
    simp (disch := omega) only [li, neq_f, ↓reduceIte]
  · refine ⟨_, dPair (kd := 6) (top := 5) (kw := 22) (top2 := 7) h (by omega) (by omega) hin hr hk (by omega) (by omega) hx, ?_⟩
    show f_X12_body N vt tape taped at_ pl_ tk num wd (nI t0) wr s0 pile piled opens wh (nI 7) (nI x) = _
    unfold f_X12_body
    simp (disch := omega) only [li, neq_f, wc_in, ob1_s, ↓reduceIte]
  · refine ⟨_, dPair (kd := 7) (top := 5) (kw := 21) (top2 := 7) h (by omega) (by omega) hin hr hk (by omega) (by omega) hx, ?_⟩
    show f_X12_body N vt tape taped at_ pl_ tk num wd (nI t0) wr s0 pile piled opens wh (nI 8) (nI x) = _
    unfold f_X12_body
    simp (disch := omega) only [li, neq_f, wc_to, ob1_s, ↓reduceIte]
  · refine ⟨_, dPair (kd := 8) (top := 5) (kw := 23) (top2 := 5) h (by omega) (by omega) hin hr hk (by omega) (by omega) hx, ?_⟩
    show f_X12_body N vt tape taped at_ pl_ tk num wd (nI t0) wr s0 pile piled opens wh (nI 9) (nI x) = _
    unfold f_X12_body f_X12_body_129
    simp (disch := omega) only [li, neq_f, nlt_t, wc_by, ob1_s, ↓reduceIte]
  · refine ⟨_, dPair (kd := 9) (top := 5) (kw := 23) (top2 := 5) h (by omega) (by omega) hin hr hk (by omega) (by omega) hx, ?_⟩
    show f_X12_body N vt tape taped at_ pl_ tk num wd (nI t0) wr s0 pile piled opens wh (nI 10) (nI x) = _
    unfold f_X12_body f_X12_body_129
    simp (disch := omega) only [li, neq_f, nlt_t, wc_by, ob1_s, ↓reduceIte]
  · refine ⟨_, dPair (kd := 10) (top := 5) (kw := 23) (top2 := 5) h (by omega) (by omega) hin hr hk (by omega) (by omega) hx, ?_⟩
    show f_X12_body N vt tape taped at_ pl_ tk num wd (nI t0) wr s0 pile piled opens wh (nI 11) (nI x) = _
    unfold f_X12_body f_X12_body_129
    simp (disch := omega) only [li, neq_f, nlt_t, wc_by, ob1_s, ↓reduceIte]
  · have e1 : f_X5_deedOf N bl (nI n) ki pl nu (nI (k + 1)) (nI 1) rows ft pc (nI i) (nI 11) = f_X5_number N bl (nI n) ki pl nu (nI (k + 1)) (nI 1) rows ft pc (nI i) (nI 0) (nI 9) := by
      unfold f_X5_deedOf
      simp (disch := omega) only [li, neq_f, ↓reduceIte]
      exact ob6_id
    rw [e1]
    refine ⟨_, dLone (kd := 11) (lo := 0) (hi := 9) h (by omega) (by omega) hin hr hk hx, ?_⟩
    show f_X12_body N vt tape taped at_ pl_ tk num wd (nI t0) wr s0 pile piled opens wh (nI 4) (nI x) = _
    unfold f_X12_body
    simp (disch := omega) only [li, nI_add, ↓reduceIte]
  · have e1 : f_X5_deedOf N bl (nI n) ki pl nu (nI (k + 1)) (nI 1) rows ft pc (nI i) (nI 12) = f_X5_number N bl (nI n) ki pl nu (nI (k + 1)) (nI 1) rows ft pc (nI i) (nI 1) (nI 60) := by
      unfold f_X5_deedOf
      simp (disch := omega) only [li, neq_f, ↓reduceIte]
      exact ob6_id
    rw [e1]
    refine ⟨_, dLone (kd := 12) (lo := 1) (hi := 60) h (by omega) (by omega) hin hr hk hx, ?_⟩
    show f_X12_body N vt tape taped at_ pl_ tk num wd (nI t0) wr s0 pile piled opens wh (nI 12) (nI x) = _
    unfold f_X12_body
    simp (disch := omega) only [li, nI_add, neq_f, ↓reduceIte]
end
