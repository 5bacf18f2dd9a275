section
variable {N n t0 law w0 : Nat} {K Nu Pl : Nat → Nat} {RL : RLT} {tape : Nat → Int32} {taped : Int32} {vt0 : Nat → Int32} {bl : Int32} {ki pl nu : Nat → Int32}
theorem lpBoth (h : HX N n t0 law K Nu Pl RL tape taped ki pl nu) {g : Nat} (hsub : PAsk N n t0 law w0 K Nu Pl RL tape taped vt0 bl ki pl nu g) {o l0 i0 : Nat} {cd0 : Nat → Int32} {ft pc : Int32} {P : List Nat} {R : List (Nat × Nat)} (ho8 : o ≤ 8) (hg : 7 * (8 - o) + 4 ≤ g) (ho : opn P = o) (hP : P.length ≤ 6 * o + 1) (hask : askA P = true) (hlt : ltR 2 P) (hS0 : Sm n w0 i0 P R) (hl0 : l0 ≤ i0) :
    ∀ (q f i l turn : Nat) (cd : Nat → Int32) (Q : List Nat) (R' : List (Nat × Nat)), n - i ≤ q → q < f → turn < i → i0 < i → i < n → l + i0 ≤ l0 + i → (∀ k, k < l0 → cd k = cd0 k) → geR 2 Q → Q.length ≤ 12 - o → R'.length + Q.length + i0 ≤ i → Re N tape taped t0 law RL w0 vt0 i0 P R 0 i (Q ++ P) (R ++ R') 1 → BSeg N cd l0 l (R' ++ em Q) (dOne o + 4) → folS (K i) → cmpd (Q ++ P) = true →
    OkB N n t0 law w0 K Nu Pl RL tape taped vt0 bl ki pl nu 2 (12 - o) (dOne o + 4) folB (f_X5_bothB_12 N (f_RG N g) f bl (nI n) ki pl nu (nI l) cd ft pc (nI i) (nI law) (nI o) (nI turn)) i0 l0 cd0 ft pc P R ∨ Bad N n t0 law w0 K Nu Pl RL tape taped vt0 bl ki pl nu (f_X5_bothB_12 N (f_RG N g) f bl (nI n) ki pl nu (nI l) cd ft pc (nI i) (nI law) (nI o) (nI turn)) i0 P R := by
  have n3 := h.1.2.1
  have hop : opw P = some 41 := by
    unfold askA at hask
    rw [Bool.and_eq_true, decide_eq_true_eq] at hask
    exact hask.1
  intro q
  induction q with
  | zero => intro f i l turn cd Q R' a1 a2 a3 a4 a5; omega
  | succ q ih =>
    intro f i l turn cd Q R' a1 a2 a3 a4 a5 a6 a7 a8 a9 a10 a11 a12 a13 a14
    obtain ⟨f, rfl⟩ : ∃ m, f = m + 1 := ⟨f - 1, by omega⟩
    have tk := cTok h a5
    have kb := (cKind h a5).1
    obtain ⟨z1, z2, z3⟩ := id hS0
    have hSi : Sm n w0 i (Q ++ P) (R ++ R') := ⟨by simp only [List.length_append]; omega, a5, by simp only [List.length_append]; omega⟩
    by_cases hk : K i = 31
    · have hx : btw (K i) (Q ++ P) = some 21 := by
        unfold btw
        rw [hk, if_neg (by decide), if_neg (by decide), if_neg (by decide), if_neg (by decide), if_pos (by rw [opw_q (k := 2) (by omega) a8]; exact hop), if_pos a14]
        rfl
      have hrk : rk 21 = 2 := by decide
      have hn1 := h.1.more a5 (show K i ≠ 47 by omega)
      have nx := cNext h hn1
      obtain ⟨e1, e2⟩ := sE_app (k := 2) (P := P) hlt a8
      have op := bhOp (law := law) (vt0 := vt0) (k := 2) h.1 h.2.1 h.2.2.1 hSi (by simp only [List.length_append]; omega) hx (by omega) (by rw [hrk]; rfl)
      rw [e1, e2] at op
      have ox : opn (21 :: P) = o := by
        show opn1 21 + opn P = o
        have : opn1 21 = 0 := by decide
        omega
      have hask2 : askA (21 :: P) = true := by
        show (decide (opw (21 :: P) = some 41) && decide (rk 21 < 4)) = true
        rw [decide_eq_true (show opw (21 :: P) = some 41 by rw [opw, if_neg (by decide)]; exact hop)]
        decide
      have hSx : Sm n w0 (i + 1) (21 :: P) (R ++ R' ++ em Q) := ⟨by simp only [List.length_append, List.length_cons, em_len]; omega, hn1, by simp only [List.length_cons]; omega⟩
      have sub := hsub o (i + 1) l cd ft pc (21 :: P) (R ++ R' ++ em Q) ho8 (by omega) ox (by rw [len1]; omega) hask2 hSx (by omega)
      have st : f_X5_bothB_12 N (f_RG N g) (f + 1) bl (nI n) ki pl nu (nI l) cd ft pc (nI i) (nI law) (nI o) (nI turn) = ob6 (f_RG N g 6 bl (nI n) ki pl nu (nI l) cd ft pc (nI (i + 1)) (nI law) (nI o)) fun r45 x_ln_45 x_code_45 e_fault_45 e_place_45 e_at_45 => if r45 = nI 0 then (some (nI 0, x_ln_45, x_code_45, e_fault_45, e_place_45, e_at_45)) else (ob2 (f_X9_put N x_ln_45 x_code_45 (nI 31) (nI 0)) fun x_ln_59 x_code_59 => f_X5_bothB_12 N (f_RG N g) f bl (nI n) ki pl nu x_ln_59 x_code_59 e_fault_45 e_place_45 e_at_45 (nI law) (nI o) (nI (turn + 1))) := by
        rw [f_X5_bothB_12]
        generalize f_X5_bothB_12 N (f_RG N g) f = Kf
        simp (disch := omega) only [li, nle_f, tk, hk, nx, nI_add, ob1_s, ↓reduceIte]
      rw [st]
      rcases sub with ⟨l', i', cd', Q2, R2, c1, c2, c3, c4, c5, c6, c7, c8, c9, c10, c11, c12⟩ | ⟨fa, j, l', cd', c1, c2, c3, c4, c5⟩
      · unfold QA at c1
        rw [c1]
        have h10 : (nI 1 = nI 0) = False := eq_false (by decide)
        have pu := cPut0 (N := N) (l := l') (k := 31) (cd := cd') (by omega)
        simp only [ob6_s, h10, pu, ob2_s, ↓reduceIte]
        have ee : (Q2 ++ [21]) ++ P = Q2 ++ 21 :: P := by simp
        have rel : Re N tape taped t0 law RL w0 vt0 i0 P R 0 i' ((Q2 ++ [21]) ++ P) (R ++ (R' ++ em Q ++ R2)) 1 := by
          have := (a11.tr op).tr c9
          rw [ee, show R ++ (R' ++ em Q ++ R2) = R ++ R' ++ em Q ++ R2 by simp]
          exact this
        have c10b : BSeg N (upd cd' l' (nI 31)) l l' (R2 ++ em Q2) (dOne o + 4 - 1) := (c10.mono (by omega)).cg (fun k k1 k2 => upd_ne (by omega))
        have a12b : BSeg N (upd cd' l' (nI 31)) l0 l (R' ++ em Q) (dOne o + 4) := a12.cg (fun k k1 k2 => by rw [upd_ne (by have := c10b.1; omega)]; exact c5 k k2)
        have seg := vsJoin (o := 21) a12b c10b (d := dOne o + 4) (Nat.le_refl _) (by omega) (by unfold dOne; omega) (by omega) (by rw [upd_eq rfl]; rfl)
        have lt1 := a12.1
        have lt2 := c10.1
        refine ih f i' (l' + 1) (turn + 1) (upd cd' l' (nI 31)) (Q2 ++ [21]) (R' ++ em Q ++ R2) (by omega) (by omega) (by omega) (by omega) c3 (by omega) (fun k hk => ?_) (geR_app (c6.mono (by omega)) ⟨by omega, by omega, trivial⟩) (by simp only [List.length_append, List.length_cons, List.length_nil]; omega) (by simp only [List.length_append, List.length_cons, List.length_nil, em_len]; omega) rel ?_ c11 (by rw [ee]; exact c12)
        · rw [upd_ne (by omega), c5 k (by omega), a7 k hk]
        · rw [show R' ++ em Q ++ R2 ++ em (Q2 ++ [21]) = R' ++ em Q ++ (R2 ++ em Q2) ++ [(21, 0)] by rw [em_app]; simp [em]]
          exact seg
      · unfold QA at c1
        rw [c1]
        refine Or.inr ⟨fa, j, l', cd', ?_, c2, c3, c4, (a11.tr op).fa c5⟩
        simp only [ob6_s, ↓reduceIte]
    · refine Or.inl ⟨l, i, cd, Q, R', ?_, a4, a5, a6, a7, a8, a9, a10, a11, a12, ?_, a14⟩
      · rw [f_X5_bothB_12]
        generalize f_X5_bothB_12 N (f_RG N g) f = Kf
        simp (disch := omega) only [li, nle_f, tk, neq_f, ob1_s, ↓reduceIte]
      · exact ⟨a13, hk⟩
theorem stBoth (h : HX N n t0 law K Nu Pl RL tape taped ki pl nu) {g : Nat} (hsub : PAsk N n t0 law w0 K Nu Pl RL tape taped vt0 bl ki pl nu g) : PBoth N n t0 law w0 K Nu Pl RL tape taped vt0 bl ki pl nu (g + 1) := by
  intro o i l cd ft pc P R ho8 hg ho hP hask hlt hS hl
  have n3 := h.1.2.1
  obtain ⟨z1, z2, z3⟩ := id hS
  have sub := hsub o i l cd ft pc P R ho8 (by omega) ho (by omega) hask hS hl
  have st : QA N n (g + 1) 5 bl ki pl nu law l cd ft pc i o = ob6 (f_RG N g 6 bl (nI n) ki pl nu (nI l) cd ft pc (nI i) (nI law) (nI o)) fun r2 x_ln_2 x_code_2 e_fault_2 e_place_2 e_at_2 => if r2 = 0 then (some ((0 : Int32), x_ln_2, x_code_2, e_fault_2, e_place_2, e_at_2)) else (f_X5_bothB_12 N (f_RG N g) N bl (nI n) ki pl nu x_ln_2 x_code_2 e_fault_2 e_place_2 e_at_2 (nI law) (nI o) (0 : Int32)) := rfl
  rw [st]
  rcases sub with ⟨l', i', cd', Q2, R2, c1, c2, c3, c4, c5, c6, c7, c8, c9, c10, c11, c12⟩ | ⟨fa, j, l', cd', c1, c2, c3, c4, c5⟩
  · unfold QA at c1
    rw [c1]
    have h10 : (nI 1 = nI 0) = False := eq_false (by decide)
    simp only [ob6_s, li, h10, ↓reduceIte]
    exact lpBoth h hsub ho8 (by omega) ho hP hask hlt hS hl (n - i') N i' l' 0 cd' Q2 R2 (Nat.le_refl _) (by have := h.2.1; omega) (by omega) c2 c3 c4 c5 (c6.mono (by omega)) (by omega) c8 c9 (c10.mono (by omega)) c11 c12
  · unfold QA at c1
    rw [c1]
    refine Or.inr ⟨fa, j, l', cd', ?_, c2, c3, c4, c5⟩
    simp only [ob6_s, li, ↓reduceIte]
theorem lpEither (h : HX N n t0 law K Nu Pl RL tape taped ki pl nu) {g : Nat} (hsub : PBoth N n t0 law w0 K Nu Pl RL tape taped vt0 bl ki pl nu g) {o l0 i0 : Nat} {cd0 : Nat → Int32} {ft pc : Int32} {P : List Nat} {R : List (Nat × Nat)} (ho8 : o ≤ 8) (hg : 7 * (8 - o) + 5 ≤ g) (ho : opn P = o) (hP : P.length ≤ 6 * o + 0) (hask : askA P = true) (hlt : ltR 1 P) (hS0 : Sm n w0 i0 P R) (hl0 : l0 ≤ i0) :
    ∀ (q f i l turn : Nat) (cd : Nat → Int32) (Q : List Nat) (R' : List (Nat × Nat)), n - i ≤ q → q < f → turn < i → i0 < i → i < n → l + i0 ≤ l0 + i → (∀ k, k < l0 → cd k = cd0 k) → geR 1 Q → Q.length ≤ 13 - o → R'.length + Q.length + i0 ≤ i → Re N tape taped t0 law RL w0 vt0 i0 P R 0 i (Q ++ P) (R ++ R') 1 → BSeg N cd l0 l (R' ++ em Q) (dOne o + 5) → folB (K i) → cmpd (Q ++ P) = true →
    OkB N n t0 law w0 K Nu Pl RL tape taped vt0 bl ki pl nu 1 (13 - o) (dOne o + 5) folE (f_X5_eitherB_12 N (f_RG N g) f bl (nI n) ki pl nu (nI l) cd ft pc (nI i) (nI law) (nI o) (nI turn)) i0 l0 cd0 ft pc P R ∨ Bad N n t0 law w0 K Nu Pl RL tape taped vt0 bl ki pl nu (f_X5_eitherB_12 N (f_RG N g) f bl (nI n) ki pl nu (nI l) cd ft pc (nI i) (nI law) (nI o) (nI turn)) i0 P R := by
  have n3 := h.1.2.1
  have hop : opw P = some 41 := by
    unfold askA at hask
    rw [Bool.and_eq_true, decide_eq_true_eq] at hask
    exact hask.1
  intro q
  induction q with
  | zero => intro f i l turn cd Q R' a1 a2 a3 a4 a5; omega
  | succ q ih =>
    intro f i l turn cd Q R' a1 a2 a3 a4 a5 a6 a7 a8 a9 a10 a11 a12 a13 a14
    obtain ⟨f, rfl⟩ : ∃ m, f = m + 1 := ⟨f - 1, by omega⟩
    have tk := cTok h a5
    have kb := (cKind h a5).1
    obtain ⟨z1, z2, z3⟩ := id hS0
    have hSi : Sm n w0 i (Q ++ P) (R ++ R') := ⟨by simp only [List.length_append]; omega, a5, by simp only [List.length_append]; omega⟩
    by_cases hk : K i = 32
    · have hx : btw (K i) (Q ++ P) = some 22 := by
        unfold btw
        rw [hk, if_neg (by decide), if_neg (by decide), if_neg (by decide), if_neg (by decide), if_pos (by rw [opw_q (k := 1) (by omega) a8]; exact hop), if_pos a14]
        rfl
      have hrk : rk 22 = 1 := by decide
      have hn1 := h.1.more a5 (show K i ≠ 47 by omega)
      have nx := cNext h hn1
      obtain ⟨e1, e2⟩ := sE_app (k := 1) (P := P) hlt a8
      have op := bhOp (law := law) (vt0 := vt0) (k := 1) h.1 h.2.1 h.2.2.1 hSi (by simp only [List.length_append]; omega) hx (by omega) (by rw [hrk]; rfl)
      rw [e1, e2] at op
      have ox : opn (22 :: P) = o := by
        show opn1 22 + opn P = o
        have : opn1 22 = 0 := by decide
        omega
      have hask2 : askA (22 :: P) = true := by
        show (decide (opw (22 :: P) = some 41) && decide (rk 22 < 4)) = true
        rw [decide_eq_true (show opw (22 :: P) = some 41 by rw [opw, if_neg (by decide)]; exact hop)]
        decide
      have hSx : Sm n w0 (i + 1) (22 :: P) (R ++ R' ++ em Q) := ⟨by simp only [List.length_append, List.length_cons, em_len]; omega, hn1, by simp only [List.length_cons]; omega⟩
      have sub := hsub o (i + 1) l cd ft pc (22 :: P) (R ++ R' ++ em Q) ho8 (by omega) ox (by rw [len1]; omega) hask2 (ltR1 (by decide)) hSx (by omega)
      have st : f_X5_eitherB_12 N (f_RG N g) (f + 1) bl (nI n) ki pl nu (nI l) cd ft pc (nI i) (nI law) (nI o) (nI turn) = ob6 (f_RG N g 5 bl (nI n) ki pl nu (nI l) cd ft pc (nI (i + 1)) (nI law) (nI o)) fun r45 x_ln_45 x_code_45 e_fault_45 e_place_45 e_at_45 => if r45 = nI 0 then (some (nI 0, x_ln_45, x_code_45, e_fault_45, e_place_45, e_at_45)) else (ob2 (f_X9_put N x_ln_45 x_code_45 (nI 32) (nI 0)) fun x_ln_59 x_code_59 => f_X5_eitherB_12 N (f_RG N g) f bl (nI n) ki pl nu x_ln_59 x_code_59 e_fault_45 e_place_45 e_at_45 (nI law) (nI o) (nI (turn + 1))) := by
        rw [f_X5_eitherB_12]
        generalize f_X5_eitherB_12 N (f_RG N g) f = Kf
        simp (disch := omega) only [li, nle_f, tk, hk, nx, nI_add, ob1_s, ↓reduceIte]
      rw [st]
      rcases sub with ⟨l', i', cd', Q2, R2, c1, c2, c3, c4, c5, c6, c7, c8, c9, c10, c11, c12⟩ | ⟨fa, j, l', cd', c1, c2, c3, c4, c5⟩
      · unfold QA at c1
        rw [c1]
        have h10 : (nI 1 = nI 0) = False := eq_false (by decide)
        have pu := cPut0 (N := N) (l := l') (k := 32) (cd := cd') (by omega)
        simp only [ob6_s, h10, pu, ob2_s, ↓reduceIte]
        have ee : (Q2 ++ [22]) ++ P = Q2 ++ 22 :: P := by simp
        have rel : Re N tape taped t0 law RL w0 vt0 i0 P R 0 i' ((Q2 ++ [22]) ++ P) (R ++ (R' ++ em Q ++ R2)) 1 := by
          have := (a11.tr op).tr c9
          rw [ee, show R ++ (R' ++ em Q ++ R2) = R ++ R' ++ em Q ++ R2 by simp]
          exact this
        have c10b : BSeg N (upd cd' l' (nI 32)) l l' (R2 ++ em Q2) (dOne o + 5 - 1) := (c10.mono (by omega)).cg (fun k k1 k2 => upd_ne (by omega))
        have a12b : BSeg N (upd cd' l' (nI 32)) l0 l (R' ++ em Q) (dOne o + 5) := a12.cg (fun k k1 k2 => by rw [upd_ne (by have := c10b.1; omega)]; exact c5 k k2)
        have seg := vsJoin (o := 22) a12b c10b (d := dOne o + 5) (Nat.le_refl _) (by omega) (by unfold dOne; omega) (by omega) (by rw [upd_eq rfl]; rfl)
        have lt1 := a12.1
        have lt2 := c10.1
        refine ih f i' (l' + 1) (turn + 1) (upd cd' l' (nI 32)) (Q2 ++ [22]) (R' ++ em Q ++ R2) (by omega) (by omega) (by omega) (by omega) c3 (by omega) (fun k hk => ?_) (geR_app (c6.mono (by omega)) ⟨by omega, by omega, trivial⟩) (by simp only [List.length_append, List.length_cons, List.length_nil]; omega) (by simp only [List.length_append, List.length_cons, List.length_nil, em_len]; omega) rel ?_ c11 (by rw [ee]; exact c12)
        · rw [upd_ne (by omega), c5 k (by omega), a7 k hk]
        · rw [show R' ++ em Q ++ R2 ++ em (Q2 ++ [22]) = R' ++ em Q ++ (R2 ++ em Q2) ++ [(22, 0)] by rw [em_app]; simp [em]]
          exact seg
      · unfold QA at c1
        rw [c1]
        refine Or.inr ⟨fa, j, l', cd', ?_, c2, c3, c4, (a11.tr op).fa c5⟩
        simp only [ob6_s, ↓reduceIte]
    · refine Or.inl ⟨l, i, cd, Q, R', ?_, a4, a5, a6, a7, a8, a9, a10, a11, a12, ?_, a14⟩
      · rw [f_X5_eitherB_12]
        generalize f_X5_eitherB_12 N (f_RG N g) f = Kf
        simp (disch := omega) only [li, nle_f, tk, neq_f, ob1_s, ↓reduceIte]
      · exact ⟨a13.1, a13.2, hk⟩
theorem stEither (h : HX N n t0 law K Nu Pl RL tape taped ki pl nu) {g : Nat} (hsub : PBoth N n t0 law w0 K Nu Pl RL tape taped vt0 bl ki pl nu g) : PEither N n t0 law w0 K Nu Pl RL tape taped vt0 bl ki pl nu (g + 1) := by
  intro o i l cd ft pc P R ho8 hg ho hP hask hlt hS hl
  have n3 := h.1.2.1
  obtain ⟨z1, z2, z3⟩ := id hS
  have sub := hsub o i l cd ft pc P R ho8 (by omega) ho (by omega) hask (hlt.mono (by omega)) hS hl
  have st : QA N n (g + 1) 4 bl ki pl nu law l cd ft pc i o = ob6 (f_RG N g 5 bl (nI n) ki pl nu (nI l) cd ft pc (nI i) (nI law) (nI o)) fun r2 x_ln_2 x_code_2 e_fault_2 e_place_2 e_at_2 => if r2 = 0 then (some ((0 : Int32), x_ln_2, x_code_2, e_fault_2, e_place_2, e_at_2)) else (f_X5_eitherB_12 N (f_RG N g) N bl (nI n) ki pl nu x_ln_2 x_code_2 e_fault_2 e_place_2 e_at_2 (nI law) (nI o) (0 : Int32)) := rfl
  rw [st]
  rcases sub with ⟨l', i', cd', Q2, R2, c1, c2, c3, c4, c5, c6, c7, c8, c9, c10, c11, c12⟩ | ⟨fa, j, l', cd', c1, c2, c3, c4, c5⟩
  · unfold QA at c1
    rw [c1]
    have h10 : (nI 1 = nI 0) = False := eq_false (by decide)
    simp only [ob6_s, li, h10, ↓reduceIte]
    exact lpEither h hsub ho8 (by omega) ho hP hask hlt hS hl (n - i') N i' l' 0 cd' Q2 R2 (Nat.le_refl _) (by have := h.2.1; omega) (by omega) c2 c3 c4 c5 (c6.mono (by omega)) (by omega) c8 c9 (c10.mono (by omega)) c11 c12
  · unfold QA at c1
    rw [c1]
    refine Or.inr ⟨fa, j, l', cd', ?_, c2, c3, c4, c5⟩
    simp only [ob6_s, li, ↓reduceIte]
theorem cmpO_k {K x : Nat} (h : cmpO K = some x) : 10 ≤ x ∧ x ≤ 15 ∧ kOf x = K ∧ 33 ≤ K ∧ K ≤ 38 := by
  unfold cmpO at h
  split at h
  · rename_i e; cases h; subst e; decide
  split at h
  · rename_i e; cases h; subst e; decide
  split at h
  · rename_i e; cases h; subst e; decide
  split at h
  · rename_i e; cases h; subst e; decide
  split at h
  · rename_i e; cases h; subst e; decide
  split at h
  · rename_i e; cases h; subst e; decide
  · cases h
theorem cmpO_s {K : Nat} (h : 33 ≤ K ∧ K ≤ 38) : ∃ x, cmpO K = some x := by
  rcases (show K = 33 ∨ K = 34 ∨ K = 35 ∨ K = 36 ∨ K = 37 ∨ K = 38 by omega) with e | e | e | e | e | e <;> subst e <;> exact ⟨_, rfl⟩
theorem cmpO_n {K : Nat} (h : ¬ (33 ≤ K ∧ K ≤ 38)) : cmpO K = none := by
  cases hc : cmpO K with
  | none => rfl
  | some x => exact absurd ⟨(cmpO_k hc).2.2.2.1, (cmpO_k hc).2.2.2.2⟩ h
theorem cmpd_f {P : List Nat} (h : ltR 4 P) : cmpd P = false := by
  cases P with
  | nil => rfl
  | cons o P =>
    have h : rk o < 4 := h
    rw [cmpd, if_neg (by omega), decide_eq_false (by omega)]
theorem askA_s {P : List Nat} (h : askA P = true) : opw P = some 41 ∧ ltR 4 P := by
  unfold askA at h
  rw [Bool.and_eq_true, decide_eq_true_eq] at h
  refine ⟨h.1, ?_⟩
  cases P with
  | nil => trivial
  | cons o P =>
    have h2 : decide (rk o < 4) = true := h.2
    rw [decide_eq_true_eq] at h2
    exact h2
theorem stAsk (h : HX N n t0 law K Nu Pl RL tape taped ki pl nu) {g : Nat} (hsum : PSum N n t0 law w0 K Nu Pl RL tape taped vt0 bl ki pl nu g) (hask : PAsk N n t0 law w0 K Nu Pl RL tape taped vt0 bl ki pl nu g) : PAsk N n t0 law w0 K Nu Pl RL tape taped vt0 bl ki pl nu (g + 1) := by
  intro o i l cd ft pc P R ho8 hg ho hP hA hS hl
  have n3 := h.1.2.1
  obtain ⟨z1, z2, z3⟩ := id hS
  obtain ⟨hop, hlt4⟩ := askA_s hA
  have tk := cTok h z2
  have kb := (cKind h z2).1
  have h10 : (nI 1 = nI 0) = False := eq_false (by decide)
  have st : QA N n (g + 1) 6 bl ki pl nu law l cd ft pc i o = f_X5_askB N (f_RG N g) bl (nI n) ki pl nu (nI l) cd ft pc (nI i) (nI law) (nI o) := rfl
  rw [st]
  unfold f_X5_askB
  rw [tk]
  by_cases hk : K i = 30
  · by_cases h8 : o = 8
    · have fl := cFail (bl := bl) (ft := ft) (pc := pc) (f := nI 3) h z2
      have fa := bgNotDeep (vt0 := vt0) h.1 h.2.1 h.2.2.1 h.2.2.2.1 hS hk hA (by omega)
      refine Or.inr ⟨3, i, nI l, cd, ?_, by omega, by omega, z2, fa⟩
      simp (disch := omega) only [li, hk, nlt_f, fl, ob1_s, ob3_s, ↓reduceIte]
    · have hn1 := h.1.more z2 (show K i ≠ 47 by omega)
      have nx := cNext h hn1
      have op := bgNot (vt0 := vt0) h.1 h.2.1 h.2.2.1 h.2.2.2.1 hS hk hA (by omega)
      have ox : opn (20 :: P) = o + 1 := by
        show opn1 20 + opn P = o + 1
        have : opn1 20 = 1 := by decide
        omega
      have hask2 : askA (20 :: P) = true := by
        show (decide (opw (20 :: P) = some 41) && decide (rk 20 < 4)) = true
        rw [decide_eq_true (show opw (20 :: P) = some 41 by rw [opw, if_neg (by decide)]; exact hop)]
        decide
      have hSx : Sm n w0 (i + 1) (20 :: P) R := ⟨by simp only [List.length_cons]; omega, hn1, by simp only [List.length_cons]; omega⟩
      have sub := hask (o + 1) (i + 1) l cd ft pc (20 :: P) R (by omega) (by omega) ox (by rw [len1]; omega) hask2 hSx (by omega)
      rcases sub with ⟨l', i', cd', Q2, R2, c1, c2, c3, c4, c5, c6, c7, c8, c9, c10, c11, c12⟩ | ⟨fa, j, l', cd', c1, c2, c3, c4, c5⟩
      · unfold QA at c1
        have pu := cPut0 (N := N) (l := l') (k := 30) (cd := cd') (by omega)
        have ee : (Q2 ++ [20]) ++ P = Q2 ++ 20 :: P := by simp
        have lt2 := c10.1
        refine Or.inl ⟨l' + 1, i', upd cd' l' (nI 30), Q2 ++ [20], R2, ?_, by omega, c3, by omega, fun k hk => by rw [upd_ne (by omega), c5 k hk], geR_app c6 ⟨by decide, by omega, trivial⟩, by simp only [List.length_append, List.length_cons, List.length_nil]; omega, by simp only [List.length_append, List.length_cons, List.length_nil]; omega, by rw [ee]; exact op.tr c9, ?_, c11, by rw [ee]; exact c12⟩
        · simp (disch := omega) only [li, hk, nlt_t, nx, nI_add, c1, h10, pu, ob1_s, ob2_s, ob6_s, ↓reduceIte]
        · rw [show R2 ++ em (Q2 ++ [20]) = (R2 ++ em Q2) ++ [(20, 0)] by rw [em_app]; simp [em]]
          exact vsNot ((c10.mono (by unfold dOne; omega)).cg (fun k k1 k2 => upd_ne (by omega))) (by unfold dOne; omega) (upd_eq rfl)
      · unfold QA at c1
        refine Or.inr ⟨fa, j, l', cd', ?_, c2, c3, c4, op.fa c5⟩
        simp (disch := omega) only [li, hk, nlt_t, nx, nI_add, c1, ob1_s, ob6_s, ↓reduceIte]
  · have sub := hsum o i l cd ft pc P R ho8 (by omega) ho (by omega) (hlt4.mono (by omega)) (Or.inl hk) hS hl
    rcases sub with ⟨l1, i1, cd1, Q1, R1, c1, c2, c3, c4, c5, c6, c7, c8, c9, c10, c11⟩ | ⟨fa, j, l', cd', c1, c2, c3, c4, c5⟩
    · unfold QA at c1
      have tk1 := cTok h c3
      have kb1 := (cKind h c3).1
      have hSi : Sm n w0 i1 (Q1 ++ P) (R ++ R1) := ⟨by simp only [List.length_append]; omega, c3, by simp only [List.length_append]; omega⟩
      have opq : opw (Q1 ++ P) = some 41 := by rw [opw_q (k := 5) (by omega) c6]; exact hop
      have cmq : cmpd (Q1 ++ P) = false := by rw [cmpd_q c6]; exact cmpd_f hlt4
      have hbt : btw (K i1) (Q1 ++ P) = cmpO (K i1) := by
        unfold btw
        rw [if_neg c11.1, if_neg c11.2.1, if_neg c11.2.2.1, if_neg c11.2.2.2, if_pos opq, if_neg (by rw [cmq]; decide)]
      by_cases hc : 33 ≤ K i1 ∧ K i1 ≤ 38
      · obtain ⟨x, hx⟩ := cmpO_s hc
        obtain ⟨x1, x2, x3, -, -⟩ := cmpO_k hx
        have hrk : rk x = 4 := (by decide : ∀ x, x < 16 → 10 ≤ x → rk x = 4) x (by omega) x1
        have hn1 := h.1.more c3 (show K i1 ≠ 47 by omega)
        have nx := cNext h hn1
        obtain ⟨e1, e2⟩ := sE_app (k := 5) (P := P) (hlt4.mono (by omega)) c6
        have op := bhOp (law := law) (vt0 := vt0) (k := 5) h.1 h.2.1 h.2.2.1 hSi (by simp only [List.length_append]; omega) (by rw [hbt]; exact hx) (by omega) (by rw [hrk]; rfl)
        rw [e1, e2] at op
        have ox : opn (x :: P) = o := by
          show opn1 x + opn P = o
          have : opn1 x = 0 := (by decide : ∀ x, x < 16 → 10 ≤ x → opn1 x = 0) x (by omega) x1
          omega
        have hSx : Sm n w0 (i1 + 1) (x :: P) (R ++ R1 ++ em Q1) := ⟨by simp only [List.length_append, List.length_cons, em_len]; omega, hn1, by simp only [List.length_cons]; omega⟩
        have sub2 := hsum o (i1 + 1) l1 cd1 ft pc (x :: P) (R ++ R1 ++ em Q1) ho8 (by omega) ox (by rw [len1]; omega) (ltR1 (by omega)) (Or.inr (askF (by omega))) hSx (by omega)
        rcases sub2 with ⟨l2, i2, cd2, Q2, R2, d1, d2, d3, d4, d5, d6, d7, d8, d9, d10, d11⟩ | ⟨fa, j, l', cd', d1, d2, d3, d4, d5⟩
        · unfold QA at d1
          have pu := cPut0 (N := N) (l := l2) (k := K i1) (cd := cd2) (by omega)
          have ee : (Q2 ++ [x]) ++ P = Q2 ++ x :: P := by simp
          have lt1 := c10.1
          have lt2 := d10.1
          refine Or.inl ⟨l2 + 1, i2, upd cd2 l2 (nI (K i1)), Q2 ++ [x], R1 ++ em Q1 ++ R2, ?_, by omega, d3, by omega, fun k hk => by rw [upd_ne (by omega), d5 k (by omega), c5 k hk], geR_app (d6.mono (by omega)) ⟨by omega, by omega, trivial⟩, by simp only [List.length_append, List.length_cons, List.length_nil]; omega, by simp only [List.length_append, List.length_cons, List.length_nil, em_len]; omega, ?_, ?_, d11, ?_⟩
          · simp (disch := omega) only [li, neq_f, c1, h10, tk1, nlt_f, nle_t, nx, d1, pu, ob1_s, ob2_s, ob6_s, ↓reduceIte]
          · rw [ee, show R ++ (R1 ++ em Q1 ++ R2) = R ++ R1 ++ em Q1 ++ R2 by simp]
            exact (c9.tr op).tr d9
          · rw [show R1 ++ em Q1 ++ R2 ++ em (Q2 ++ [x]) = R1 ++ em Q1 ++ (R2 ++ em Q2) ++ [(x, 0)] by rw [em_app]; simp [em]]
            exact vsAsk (d1 := dOne o + 2) (d2 := dOne o + 2) (c10.cg (fun k k1 k2 => by rw [upd_ne (by omega)]; exact d5 k k2)) (d10.cg (fun k k1 k2 => upd_ne (by omega))) (by omega) (by omega) (by unfold dOne; omega) ⟨x1, x2⟩ (by rw [upd_eq rfl, x3])
          · rw [ee, cmpd_q d6, cmpd, if_neg (by omega), decide_eq_true hrk]
        · unfold QA at d1
          refine Or.inr ⟨fa, j, l', cd', ?_, d2, d3, d4, (c9.tr op).fa d5⟩
          simp (disch := omega) only [li, neq_f, c1, h10, tk1, nlt_f, nle_t, nx, d1, ob1_s, ob2_s, ob6_s, ↓reduceIte]
      · have fl := cFail (bl := bl) (ft := ft) (pc := pc) (f := nI 1) h c3
        have hpr : prt (K i1) (Q1 ++ P) = none := by
          unfold prt
          rw [opq, if_neg (by decide), if_pos rfl, cmq]
          split <;> rfl
        have fa := bhFail (law := law) (vt0 := vt0) h.1 h.2.1 h.2.2.1 hSi (by rw [hbt]; exact cmpO_n hc) hpr opq
        refine Or.inr ⟨1, i1, nI l1, cd1, ?_, by omega, by omega, c3, c9.fa fa⟩
        by_cases h33 : K i1 < 33
        · simp (disch := omega) only [li, neq_f, c1, h10, tk1, nlt_t, f_X5_askB_76, fl, ob1_s, ob3_s, ob6_s, ↓reduceIte]
        · simp (disch := omega) only [li, neq_f, c1, h10, tk1, nlt_f, nle_f, f_X5_askB_76, fl, ob1_s, ob3_s, ob6_s, ↓reduceIte]
    · unfold QA at c1
      refine Or.inr ⟨fa, j, l', cd', ?_, c2, c3, c4, c5⟩
      simp (disch := omega) only [li, neq_f, c1, ob1_s, ob6_s, ↓reduceIte]
end
