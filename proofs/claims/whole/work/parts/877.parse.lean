/-! both readings of a sum, at once -/
def HX (N n t0 law : Nat) (K Nu Pl : Nat → Nat) (RL : RLT) (tape : Nat → Int32) (taped : Int32) (ki pl nu : Nat → Int32) : Prop :=
  TK N n K Nu Pl RL tape taped ∧ 1000 ≤ N ∧ t0 + 729 ≤ 2916 ∧ law < 4 ∧ ∀ i, i < n → ki i = nI (K i) ∧ pl i = nI (Pl i) ∧ nu i = nI (Nu i)
section
variable {N n t0 law w0 : Nat} {K Nu Pl : Nat → Nat} {RL : RLT} {tape : Nat → Int32} {taped : Int32} {vt0 : Nat → Int32} {bl : Int32} {ki pl nu : Nat → Int32}
theorem cTok (h : HX N n t0 law K Nu Pl RL tape taped ki pl nu) {i : Nat} (hi : i < n) : f_X5_token N (nI n) ki (nI i) = some (nI (K i)) := by
  have n3 := h.1.2.1
  have e := (h.2.2.2.2 i hi).1
  simp (maxSteps := 1000000) (disch := omega) only [li, ob1_s, ob2_s, ob3_s, ob4_s, ob5_s, ob6_s, ob7_s, gA_n, gL_n, sA_n, sL_n, cpI_n, nI_add, pk_mul, nsub, nlt_t, nlt_f, nle_t, nle_f, neq_t, neq_f, rmI_n, dvI_n, upd_ne, upd_eq, un_ne, un_eq, Nat.add_zero, Bool.false_eq_true, ↓reduceIte, f_X5_token, f_X8_kind, e]
theorem cNext (h : HX N n t0 law K Nu Pl RL tape taped ki pl nu) {i : Nat} (hi : i + 1 < n) : f_X5_next N (nI n) (nI i) = some (nI (i + 1)) := by
  have n3 := h.1.2.1
  simp (maxSteps := 1000000) (disch := omega) only [li, ob1_s, ob2_s, ob3_s, ob4_s, ob5_s, ob6_s, ob7_s, gA_n, gL_n, sA_n, sL_n, cpI_n, nI_add, pk_mul, nsub, nlt_t, nlt_f, nle_t, nle_f, neq_t, neq_f, rmI_n, dvI_n, upd_ne, upd_eq, un_ne, un_eq, Nat.add_zero, Bool.false_eq_true, ↓reduceIte, f_X5_next]
theorem cFail (h : HX N n t0 law K Nu Pl RL tape taped ki pl nu) {i : Nat} {ft pc f : Int32} (hi : i < n) : f_X5_fail N bl (nI n) pl ft pc (nI i) f = some (nI 0, f, nI (Pl i)) := by
  have n3 := h.1.2.1
  have e := (h.2.2.2.2 i hi).2.1
  simp (maxSteps := 1000000) (disch := omega) only [li, ob1_s, ob2_s, ob3_s, ob4_s, ob5_s, ob6_s, ob7_s, gA_n, gL_n, sA_n, sL_n, cpI_n, nI_add, pk_mul, nsub, nlt_t, nlt_f, nle_t, nle_f, neq_t, neq_f, rmI_n, dvI_n, upd_ne, upd_eq, un_ne, un_eq, Nat.add_zero, Bool.false_eq_true, ↓reduceIte, f_X5_fail, f_X8_place, e]
theorem cNumb (h : HX N n t0 law K Nu Pl RL tape taped ki pl nu) {i : Nat} (hi : i < n) : f_X8_number N (nI n) nu (nI i) = some (nI (Nu i)) := by
  have n3 := h.1.2.1
  have e := (h.2.2.2.2 i hi).2.2
  simp (maxSteps := 1000000) (disch := omega) only [li, ob1_s, ob2_s, ob3_s, ob4_s, ob5_s, ob6_s, ob7_s, gA_n, gL_n, sA_n, sL_n, cpI_n, nI_add, pk_mul, nsub, nlt_t, nlt_f, nle_t, nle_f, neq_t, neq_f, rmI_n, dvI_n, upd_ne, upd_eq, un_ne, un_eq, Nat.add_zero, Bool.false_eq_true, ↓reduceIte, f_X8_number, e]
theorem cKind (h : HX N n t0 law K Nu Pl RL tape taped ki pl nu) {i : Nat} (hi : i < n) : K i ≤ 48 ∧ Nu i ≤ 10000 := by
  obtain ⟨h1, -, h3, -⟩ := h.1.2.2.2.1 i hi
  exact ⟨h1, h3⟩
theorem cExp1 (h : HX N n t0 law K Nu Pl RL tape taped ki pl nu) {i k : Nat} {ft pc : Int32} (hi : i < n) (hk : K i = k) (hk47 : k ≠ 47) : f_X5_expect N bl (nI n) ki pl ft pc (nI i) (nI k) = some (nI 1, ft, pc, nI (i + 1)) := by
  have e1 := cTok h hi
  have e2 := cNext h (h.1.more hi (by omega))
  simp only [f_X5_expect, e1, e2, hk, ob1_s, ↓reduceIte, li]
theorem cExp0 (h : HX N n t0 law K Nu Pl RL tape taped ki pl nu) {i k : Nat} {ft pc : Int32} (hi : i < n) (hk : K i ≠ k) (hk4 : k ≤ 48) : f_X5_expect N bl (nI n) ki pl ft pc (nI i) (nI k) = some (nI 0, nI 1, nI (Pl i), nI i) := by
  have e1 := cTok h hi
  have e2 := cFail (bl := bl) (ft := ft) (pc := pc) (f := nI 1) h hi
  have kb := (cKind h hi).1
  simp (disch := omega) only [f_X5_expect, e1, li, neq_f, e2, ob1_s, ob3_s, ↓reduceIte]
end
theorem cPut {N l k v : Nat} {cd : Nat → Int32} (hl : l < 301) : f_X9_put N (nI l) cd (nI k) (nI v) = some (nI (l + 1), upd cd l (nI (v * 64 + k))) := by
  simp (maxSteps := 1000000) (disch := omega) only [li, ob1_s, ob2_s, ob3_s, ob4_s, ob5_s, ob6_s, ob7_s, gA_n, gL_n, sA_n, sL_n, cpI_n, nI_add, pk_mul, nsub, nlt_t, nlt_f, nle_t, nle_f, neq_t, neq_f, rmI_n, dvI_n, upd_ne, upd_eq, un_ne, un_eq, Nat.add_zero, Bool.false_eq_true, ↓reduceIte, f_X9_put]
theorem cPut0 {N l k : Nat} {cd : Nat → Int32} (hl : l < 301) : f_X9_put N (nI l) cd (nI k) (nI 0) = some (nI (l + 1), upd cd l (nI k)) := by
  rw [cPut hl, Nat.zero_mul, Nat.zero_add]
theorem cLeap {N l k : Nat} {cd : Nat → Int32} (hl : l < 301) : f_X9_putLeap N (nI l) cd (nI k) = some (nI l, nI (l + 1), upd cd l (nI k)) := by
  have e := cPut0 (N := N) (k := k) (cd := cd) hl
  have e2 : nI (l + 1) - nI 1 = nI l := nI_pred _
  simp only [f_X9_putLeap, li, e, ob2_s, e2]
theorem cLand2 {N l a k : Nat} {cd : Nat → Int32} (ha : a < 301) : f_X9_leapsHere N (nI l) cd (nI a) (nI k) = some (upd cd a (nI (l * 64 + k))) := by
  simp (maxSteps := 1000000) (disch := omega) only [li, ob1_s, ob2_s, ob3_s, ob4_s, ob5_s, ob6_s, ob7_s, gA_n, gL_n, sA_n, sL_n, cpI_n, nI_add, pk_mul, nsub, nlt_t, nlt_f, nle_t, nle_f, neq_t, neq_f, rmI_n, dvI_n, upd_ne, upd_eq, un_ne, un_eq, Nat.add_zero, Bool.false_eq_true, ↓reduceIte, f_X9_leapsHere]
def dOne (o : Nat) : Nat := 1 + 5 * (8 - o)
/-- a fault, the same on both sides -/
def Bad (N n t0 law w0 : Nat) (K Nu Pl : Nat → Nat) (RL : RLT) (tape : Nat → Int32) (taped : Int32) (vt0 : Nat → Int32) (bl : Int32) (ki pl nu : Nat → Int32) (C : Option (Int32 × Int32 × (Nat → Int32) × Int32 × Int32 × Int32)) (i : Nat) (P : List Nat) (R : List (Nat × Nat)) : Prop :=
  ∃ (f j : Nat) (l' : Int32) (cd' : Nat → Int32), C = some (nI 0, l', cd', nI f, nI (Pl j), nI j) ∧ 1 ≤ f ∧ f ≤ 6 ∧ j < n ∧ Fa N tape taped t0 law RL w0 vt0 i P R 0 f j
/-- a sum is read: signs Q are still on the reference's pile -/
def OkV (N n t0 law w0 : Nat) (K Nu Pl : Nat → Nat) (RL : RLT) (tape : Nat → Int32) (taped : Int32) (vt0 : Nat → Int32) (bl : Int32) (ki pl nu : Nat → Int32) (gq qb d : Nat) (fol : Nat → Prop) (C : Option (Int32 × Int32 × (Nat → Int32) × Int32 × Int32 × Int32)) (i l : Nat) (cd : Nat → Int32) (ft pc : Int32) (P : List Nat) (R : List (Nat × Nat)) : Prop :=
  ∃ (l' i' : Nat) (cd' : Nat → Int32) (Q : List Nat) (R' : List (Nat × Nat)), C = some (nI 1, nI l', cd', ft, pc, nI i') ∧ i < i' ∧ i' < n ∧ l' + i ≤ l + i' ∧ (∀ k, k < l → cd' k = cd k) ∧ geR gq Q ∧ Q.length ≤ qb ∧ R'.length + Q.length + i ≤ i' ∧ Re N tape taped t0 law RL w0 vt0 i P R 0 i' (Q ++ P) (R ++ R') 1 ∧ VSeg N cd' l l' (R' ++ em Q) d ∧ fol (K i')
def OkB (N n t0 law w0 : Nat) (K Nu Pl : Nat → Nat) (RL : RLT) (tape : Nat → Int32) (taped : Int32) (vt0 : Nat → Int32) (bl : Int32) (ki pl nu : Nat → Int32) (gq qb d : Nat) (fol : Nat → Prop) (C : Option (Int32 × Int32 × (Nat → Int32) × Int32 × Int32 × Int32)) (i l : Nat) (cd : Nat → Int32) (ft pc : Int32) (P : List Nat) (R : List (Nat × Nat)) : Prop :=
  ∃ (l' i' : Nat) (cd' : Nat → Int32) (Q : List Nat) (R' : List (Nat × Nat)), C = some (nI 1, nI l', cd', ft, pc, nI i') ∧ i < i' ∧ i' < n ∧ l' + i ≤ l + i' ∧ (∀ k, k < l → cd' k = cd k) ∧ geR gq Q ∧ Q.length ≤ qb ∧ R'.length + Q.length + i ≤ i' ∧ Re N tape taped t0 law RL w0 vt0 i P R 0 i' (Q ++ P) (R ++ R') 1 ∧ BSeg N cd' l l' (R' ++ em Q) d ∧ fol (K i') ∧ cmpd (Q ++ P) = true
def Ok1 (N n t0 law w0 : Nat) (K Nu Pl : Nat → Nat) (RL : RLT) (tape : Nat → Int32) (taped : Int32) (vt0 : Nat → Int32) (bl : Int32) (ki pl nu : Nat → Int32) (d : Nat) (P0 : List Nat) (C : Option (Int32 × Int32 × (Nat → Int32) × Int32 × Int32 × Int32)) (i l : Nat) (cd : Nat → Int32) (ft pc : Int32) (P : List Nat) (R : List (Nat × Nat)) : Prop :=
  ∃ (l' i' : Nat) (cd' : Nat → Int32) (R' : List (Nat × Nat)), C = some (nI 1, nI l', cd', ft, pc, nI i') ∧ i < i' ∧ i' < n ∧ l' + i ≤ l + i' ∧ (∀ k, k < l → cd' k = cd k) ∧ R'.length + i ≤ i' ∧ Re N tape taped t0 law RL w0 vt0 i P R 0 i' (sR 7 P0) (R ++ R' ++ sE 7 P0) 1 ∧ VSeg N cd' l l' R' d
def folP (k : Nat) : Prop := k ≠ 41 ∧ k ≠ 42
def folS (k : Nat) : Prop := k ≠ 39 ∧ k ≠ 40 ∧ k ≠ 41 ∧ k ≠ 42
def folB (k : Nat) : Prop := folS k ∧ k ≠ 31
def folE (k : Nat) : Prop := folS k ∧ k ≠ 31 ∧ k ≠ 32
abbrev QA (N n g t : Nat) (bl : Int32) (ki pl nu : Nat → Int32) (law l : Nat) (cd : Nat → Int32) (ft pc : Int32) (i o : Nat) : Option (Int32 × Int32 × (Nat → Int32) × Int32 × Int32 × Int32) := f_RG N g t bl (nI n) ki pl nu (nI l) cd ft pc (nI i) (nI law) (nI o)
def PSum (N n t0 law w0 : Nat) (K Nu Pl : Nat → Nat) (RL : RLT) (tape : Nat → Int32) (taped : Int32) (vt0 : Nat → Int32) (bl : Int32) (ki pl nu : Nat → Int32) (g : Nat) : Prop := ∀ (o i l : Nat) (cd : Nat → Int32) (ft pc : Int32) (P : List Nat) (R : List (Nat × Nat)), o ≤ 8 → 7 * (8 - o) + 3 ≤ g → opn P = o → P.length ≤ 6 * o + 3 → ltR 5 P → (K i ≠ 30 ∨ askA P = false) → Sm n w0 i P R → l ≤ i → OkV N n t0 law w0 K Nu Pl RL tape taped vt0 bl ki pl nu 5 2 (dOne o + 2) folS (QA N n g 0 bl ki pl nu law l cd ft pc i o) i l cd ft pc P R ∨ Bad N n t0 law w0 K Nu Pl RL tape taped vt0 bl ki pl nu (QA N n g 0 bl ki pl nu law l cd ft pc i o) i P R
def PProd (N n t0 law w0 : Nat) (K Nu Pl : Nat → Nat) (RL : RLT) (tape : Nat → Int32) (taped : Int32) (vt0 : Nat → Int32) (bl : Int32) (ki pl nu : Nat → Int32) (g : Nat) : Prop := ∀ (o i l : Nat) (cd : Nat → Int32) (ft pc : Int32) (P : List Nat) (R : List (Nat × Nat)), o ≤ 8 → 7 * (8 - o) + 2 ≤ g → opn P = o → P.length ≤ 6 * o + 4 → ltR 6 P → (K i ≠ 30 ∨ askA P = false) → Sm n w0 i P R → l ≤ i → OkV N n t0 law w0 K Nu Pl RL tape taped vt0 bl ki pl nu 6 1 (dOne o + 1) folP (QA N n g 1 bl ki pl nu law l cd ft pc i o) i l cd ft pc P R ∨ Bad N n t0 law w0 K Nu Pl RL tape taped vt0 bl ki pl nu (QA N n g 1 bl ki pl nu law l cd ft pc i o) i P R
def POne (N n t0 law w0 : Nat) (K Nu Pl : Nat → Nat) (RL : RLT) (tape : Nat → Int32) (taped : Int32) (vt0 : Nat → Int32) (bl : Int32) (ki pl nu : Nat → Int32) (g : Nat) : Prop := ∀ (o i l : Nat) (cd : Nat → Int32) (ft pc : Int32) (P : List Nat) (R : List (Nat × Nat)), o ≤ 8 → 7 * (8 - o) + 1 ≤ g → opn P = o → P.length ≤ 6 * o + 5 → (K i ≠ 30 ∨ askA P = false) → Sm n w0 i P R → l ≤ i → Ok1 N n t0 law w0 K Nu Pl RL tape taped vt0 bl ki pl nu (dOne o) P (QA N n g 2 bl ki pl nu law l cd ft pc i o) i l cd ft pc P R ∨ Bad N n t0 law w0 K Nu Pl RL tape taped vt0 bl ki pl nu (QA N n g 2 bl ki pl nu law l cd ft pc i o) i P R
def PAsk (N n t0 law w0 : Nat) (K Nu Pl : Nat → Nat) (RL : RLT) (tape : Nat → Int32) (taped : Int32) (vt0 : Nat → Int32) (bl : Int32) (ki pl nu : Nat → Int32) (g : Nat) : Prop := ∀ (o i l : Nat) (cd : Nat → Int32) (ft pc : Int32) (P : List Nat) (R : List (Nat × Nat)), o ≤ 8 → 7 * (8 - o) + 4 ≤ g → opn P = o → P.length ≤ 6 * o + 2 → askA P = true → Sm n w0 i P R → l ≤ i → OkB N n t0 law w0 K Nu Pl RL tape taped vt0 bl ki pl nu 3 (11 - o) (dOne o + 3) folS (QA N n g 6 bl ki pl nu law l cd ft pc i o) i l cd ft pc P R ∨ Bad N n t0 law w0 K Nu Pl RL tape taped vt0 bl ki pl nu (QA N n g 6 bl ki pl nu law l cd ft pc i o) i P R
def PBoth (N n t0 law w0 : Nat) (K Nu Pl : Nat → Nat) (RL : RLT) (tape : Nat → Int32) (taped : Int32) (vt0 : Nat → Int32) (bl : Int32) (ki pl nu : Nat → Int32) (g : Nat) : Prop := ∀ (o i l : Nat) (cd : Nat → Int32) (ft pc : Int32) (P : List Nat) (R : List (Nat × Nat)), o ≤ 8 → 7 * (8 - o) + 5 ≤ g → opn P = o → P.length ≤ 6 * o + 1 → askA P = true → ltR 2 P → Sm n w0 i P R → l ≤ i → OkB N n t0 law w0 K Nu Pl RL tape taped vt0 bl ki pl nu 2 (12 - o) (dOne o + 4) folB (QA N n g 5 bl ki pl nu law l cd ft pc i o) i l cd ft pc P R ∨ Bad N n t0 law w0 K Nu Pl RL tape taped vt0 bl ki pl nu (QA N n g 5 bl ki pl nu law l cd ft pc i o) i P R
def PEither (N n t0 law w0 : Nat) (K Nu Pl : Nat → Nat) (RL : RLT) (tape : Nat → Int32) (taped : Int32) (vt0 : Nat → Int32) (bl : Int32) (ki pl nu : Nat → Int32) (g : Nat) : Prop := ∀ (o i l : Nat) (cd : Nat → Int32) (ft pc : Int32) (P : List Nat) (R : List (Nat × Nat)), o ≤ 8 → 7 * (8 - o) + 6 ≤ g → opn P = o → P.length ≤ 6 * o + 0 → askA P = true → ltR 1 P → Sm n w0 i P R → l ≤ i → OkB N n t0 law w0 K Nu Pl RL tape taped vt0 bl ki pl nu 1 (13 - o) (dOne o + 5) folE (QA N n g 4 bl ki pl nu law l cd ft pc i o) i l cd ft pc P R ∨ Bad N n t0 law w0 K Nu Pl RL tape taped vt0 bl ki pl nu (QA N n g 4 bl ki pl nu law l cd ft pc i o) i P R
def PChoice (N n t0 law w0 : Nat) (K Nu Pl : Nat → Nat) (RL : RLT) (tape : Nat → Int32) (taped : Int32) (vt0 : Nat → Int32) (bl : Int32) (ki pl nu : Nat → Int32) (g : Nat) : Prop := ∀ (o i l : Nat) (cd : Nat → Int32) (ft pc : Int32) (P0 : List Nat) (R : List (Nat × Nat)), o ≤ 8 → 7 * (8 - o) + 7 ≤ g → opn (41 :: P0) = o → (41 :: P0).length ≤ 6 * o → Sm n w0 i (41 :: P0) R → l ≤ i → Ok1 N n t0 law w0 K Nu Pl RL tape taped vt0 bl ki pl nu (dOne o + 5) P0 (QA N n g 3 bl ki pl nu law l cd ft pc i o) i l cd ft pc (41 :: P0) R ∨ Bad N n t0 law w0 K Nu Pl RL tape taped vt0 bl ki pl nu (QA N n g 3 bl ki pl nu law l cd ft pc i o) i (41 :: P0) R
section
variable {N n t0 law w0 : Nat} {K Nu Pl : Nat → Nat} {RL : RLT} {tape : Nat → Int32} {taped : Int32} {vt0 : Nat → Int32} {bl : Int32} {ki pl nu : Nat → Int32}
theorem askF {P : List Nat} {x : Nat} (hx : 4 ≤ rk x) : askA (x :: P) = false := by
  show (decide (opw (x :: P) = some 41) && decide (rk x < 4)) = false
  rw [decide_eq_false (show ¬ rk x < 4 by omega), Bool.and_false]
theorem ltR1 {x k : Nat} {P : List Nat} (h : rk x < k) : ltR k (x :: P) := h
theorem sPut {i j k : Nat} {P X : List Nat} {R T : List (Nat × Nat)} (hS : Sm n w0 i P R) (hj : j < n) (hb : X.length ≤ 100) (hl : R.length + P.length + j ≥ T.length + X.length + i) (hij : i ≤ j) : Sm n w0 j X T := by
  obtain ⟨a1, a2, a3⟩ := hS
  exact ⟨by omega, hj, hb⟩
theorem lpProd (h : HX N n t0 law K Nu Pl RL tape taped ki pl nu) {g : Nat} (hsub : POne N n t0 law w0 K Nu Pl RL tape taped vt0 bl ki pl nu g) {o l0 i0 : Nat} {cd0 : Nat → Int32} {ft pc : Int32} {P : List Nat} {R : List (Nat × Nat)} (ho8 : o ≤ 8) (hg : 7 * (8 - o) + 1 ≤ g) (ho : opn P = o) (hP : P.length ≤ 6 * o + 4) (hlt : ltR 6 P) (hS0 : Sm n w0 i0 P R) (hl0 : l0 ≤ i0) :
    ∀ (q f i l turn : Nat) (cd : Nat → Int32) (Q : List Nat) (R' : List (Nat × Nat)), n - i ≤ q → q < f → turn < i → i0 < i → i < n → l + i0 ≤ l0 + i → (∀ k, k < l0 → cd k = cd0 k) → geR 6 Q → Q.length ≤ 1 → R'.length + Q.length + i0 ≤ i → Re N tape taped t0 law RL w0 vt0 i0 P R 0 i (Q ++ P) (R ++ R') 1 → VSeg N cd l0 l (R' ++ em Q) (dOne o + 1) → True →
    OkV N n t0 law w0 K Nu Pl RL tape taped vt0 bl ki pl nu 6 1 (dOne o + 1) folP (f_X5_productB_12 N (f_RG N g) f bl (nI n) ki pl nu (nI l) cd ft pc (nI i) (nI law) (nI o) (nI turn)) i0 l0 cd0 ft pc P R ∨ Bad N n t0 law w0 K Nu Pl RL tape taped vt0 bl ki pl nu (f_X5_productB_12 N (f_RG N g) f bl (nI n) ki pl nu (nI l) cd ft pc (nI i) (nI law) (nI o) (nI turn)) i0 P R := by
  have n3 := h.1.2.1
  intro q
  induction q with
  | zero => intro f i l turn cd Q R' a1 a2 a3 a4 a5; omega
  | succ q ih =>
    intro f i l turn cd Q R' a1 a2 a3 a4 a5 a6 a7 a8 a9 a10 a11 a12 a13
    obtain ⟨f, rfl⟩ : ∃ m, f = m + 1 := ⟨f - 1, by omega⟩
    have tk := cTok h a5
    have kb := (cKind h a5).1
    obtain ⟨z1, z2, z3⟩ := id hS0
    have hSi : Sm n w0 i (Q ++ P) (R ++ R') := ⟨by simp only [List.length_append]; omega, a5, by simp only [List.length_append]; omega⟩
    by_cases hk : K i = 41 ∨ K i = 42
    · obtain ⟨x, hx, hxk, hxr⟩ : ∃ x, btw (K i) (Q ++ P) = some x ∧ kOf x = K i ∧ (x = 8 ∨ x = 9) := by
        rcases hk with e | e
        · exact ⟨8, by rw [e]; rfl, by rw [e]; decide, by omega⟩
        · exact ⟨9, by rw [e]; rfl, by rw [e]; decide, by omega⟩
      have hrk : rk x = 6 := by rcases hxr with e | e <;> subst e <;> decide
      have hn1 := h.1.more a5 (show K i ≠ 47 by omega)
      have nx := cNext h hn1
      obtain ⟨e1, e2⟩ := sE_app (k := 6) (P := P) (hlt) a8
      have op := bhOp (law := law) (vt0 := vt0) (k := 6) h.1 h.2.1 h.2.2.1 hSi (by simp only [List.length_append]; omega) hx (by omega) (by rw [hrk]; rfl)
      rw [e1, e2] at op
      have ox : opn (x :: P) = o := by
        show opn1 x + opn P = o
        have : opn1 x = 0 := by rcases hxr with e | e <;> subst e <;> decide
        omega
      have hSx : Sm n w0 (i + 1) (x :: P) (R ++ R' ++ em Q) := ⟨by simp only [List.length_append, List.length_cons, em_len]; omega, hn1, by simp only [List.length_cons]; omega⟩
      have sub := hsub o (i + 1) l cd ft pc (x :: P) (R ++ R' ++ em Q) ho8 (by omega) ox (by rw [len1]; omega) (Or.inr (askF (by omega))) hSx (by omega)
      have st : f_X5_productB_12 N (f_RG N g) (f + 1) bl (nI n) ki pl nu (nI l) cd ft pc (nI i) (nI law) (nI o) (nI turn) = ob6 (f_RG N g 2 bl (nI n) ki pl nu (nI l) cd ft pc (nI (i + 1)) (nI law) (nI o)) fun r45 x_ln_45 x_code_45 e_fault_45 e_place_45 e_at_45 => if r45 = nI 0 then (some (nI 0, x_ln_45, x_code_45, e_fault_45, e_place_45, e_at_45)) else (ob2 (f_X9_put N x_ln_45 x_code_45 (nI (K i)) (nI 0)) fun x_ln_59 x_code_59 => f_X5_productB_12 N (f_RG N g) f bl (nI n) ki pl nu x_ln_59 x_code_59 e_fault_45 e_place_45 e_at_45 (nI law) (nI o) (nI (turn + 1))) := by
        rw [f_X5_productB_12]
        generalize f_X5_productB_12 N (f_RG N g) f = Kf
        rcases hk with e | e
        · simp (disch := omega) only [li, nle_f, tk, e, neq_f, nx, f_X5_productB_39, nI_add, ob1_s, ↓reduceIte]
        · simp (disch := omega) only [li, nle_f, tk, e, neq_f, nx, f_X5_productB_39, nI_add, ob1_s, ↓reduceIte]
      rw [st]
      rcases sub with ⟨l', i', cd', R2, c1, c2, c3, c4, c5, c8, c9, c10⟩ | ⟨fa, j, l', cd', c1, c2, c3, c4, c5⟩
      · unfold QA at c1
        rw [c1]
        obtain ⟨e3, e4⟩ := sE_app (k := 7) (P := x :: P) (ltR1 (by omega)) (Q := []) trivial
        have e3 : sE 7 (x :: P) = [] := e3
        have e4 : sR 7 (x :: P) = x :: P := e4
        rw [e3, e4, List.append_nil] at c9
        have Q2 : List Nat := []
        have h10 : (nI 1 = nI 0) = False := eq_false (by decide)
        have pu := cPut0 (N := N) (l := l') (k := K i) (cd := cd') (by omega)
        simp only [ob6_s, h10, pu, ob2_s, ↓reduceIte]
        have rel : Re N tape taped t0 law RL w0 vt0 i0 P R 0 i' (([] ++ [x]) ++ P) (R ++ (R' ++ em Q ++ R2)) 1 := by
          have := (a11.tr op).tr c9
          rw [show ([] ++ [x]) ++ P = [] ++ x :: P by simp, show R ++ (R' ++ em Q ++ R2) = R ++ R' ++ em Q ++ R2 by simp]
          exact this
        have c10b : VSeg N (upd cd' l' (nI (K i))) l l' (R2 ++ em []) (dOne o + 0) := (by rw [show R2 ++ em ([] : List Nat) = R2 from List.append_nil _]; exact c10.cg (fun k k1 k2 => upd_ne (by omega)))
        have a12b : VSeg N (upd cd' l' (nI (K i))) l0 l (R' ++ em Q) (dOne o + 1) := a12.cg (fun k k1 k2 => by rw [upd_ne (by have := c10b.1; omega)]; exact c5 k k2)
        have seg := vsTwo (o := x) a12b c10b (d := dOne o + 1) (Nat.le_refl _) (by omega) (by unfold dOne; omega) (by omega) (by rw [upd_eq rfl, hxk])
        have lt1 := a12.1
        have lt2 := c10.1
        refine ih f i' (l' + 1) (turn + 1) (upd cd' l' (nI (K i))) ([] ++ [x]) (R' ++ em Q ++ R2) (by omega) (by omega) (by omega) (by omega) c3 (by omega) (fun k hk => ?_) (geR_app trivial ⟨by omega, by omega, trivial⟩) (by simp only [List.length_append, List.length_cons, List.length_nil]; omega) (by simp only [List.length_append, List.length_cons, List.length_nil, em_len]; omega) rel ?_ trivial
        · rw [upd_ne (by omega), c5 k (by omega), a7 k hk]
        · rw [show R' ++ em Q ++ R2 ++ em ([] ++ [x]) = R' ++ em Q ++ (R2 ++ em []) ++ [(x, 0)] by rw [em_app]; simp [em]]
          exact seg
      · unfold QA at c1
        rw [c1]
        refine Or.inr ⟨fa, j, l', cd', ?_, c2, c3, c4, (a11.tr op).fa c5⟩
        simp only [ob6_s, ↓reduceIte]
    · refine Or.inl ⟨l, i, cd, Q, R', ?_, a4, a5, a6, a7, a8, a9, a10, a11, a12, ?_⟩
      · rw [f_X5_productB_12]
        generalize f_X5_productB_12 N (f_RG N g) f = Kf
        simp (disch := omega) only [li, nle_f, tk, neq_f, ob1_s, ↓reduceIte]
      · exact ⟨by omega, by omega⟩
theorem stProd (h : HX N n t0 law K Nu Pl RL tape taped ki pl nu) {g : Nat} (hsub : POne N n t0 law w0 K Nu Pl RL tape taped vt0 bl ki pl nu g) : PProd N n t0 law w0 K Nu Pl RL tape taped vt0 bl ki pl nu (g + 1) := by
  intro o i l cd ft pc P R ho8 hg ho hP hlt hnot hS hl
  have n3 := h.1.2.1
  obtain ⟨z1, z2, z3⟩ := id hS
  have sub := hsub o i l cd ft pc P R ho8 (by omega) ho (by omega) hnot hS hl
  have st : QA N n (g + 1) 1 bl ki pl nu law l cd ft pc i o = ob6 (f_RG N g 2 bl (nI n) ki pl nu (nI l) cd ft pc (nI i) (nI law) (nI o)) fun r2 x_ln_2 x_code_2 e_fault_2 e_place_2 e_at_2 => if r2 = 0 then (some ((0 : Int32), x_ln_2, x_code_2, e_fault_2, e_place_2, e_at_2)) else (f_X5_productB_12 N (f_RG N g) N bl (nI n) ki pl nu x_ln_2 x_code_2 e_fault_2 e_place_2 e_at_2 (nI law) (nI o) (0 : Int32)) := rfl
  rw [st]
  rcases sub with ⟨l', i', cd', R2, c1, c2, c3, c4, c5, c8, c9, c10⟩ | ⟨fa, j, l', cd', c1, c2, c3, c4, c5⟩
  · unfold QA at c1
    rw [c1]
    obtain ⟨e3, e4⟩ := sE_app (k := 7) (P := P) (hlt.mono (by omega)) (Q := []) trivial
    have e3 : sE 7 P = [] := e3
    have e4 : sR 7 P = P := e4
    rw [e3, e4, List.append_nil] at c9
    have h10 : (nI 1 = nI 0) = False := eq_false (by decide)
    simp only [ob6_s, li, h10, ↓reduceIte]
    exact lpProd h hsub ho8 (by omega) ho hP hlt hS hl (n - i') N i' l' 0 cd' [] R2 (Nat.le_refl _) (by have := h.2.1; omega) (by omega) c2 c3 c4 c5 trivial (by simp) (by simpa using c8) c9 (by rw [show R2 ++ em ([] : List Nat) = R2 from List.append_nil _]; exact c10.mono (by omega)) trivial
  · unfold QA at c1
    rw [c1]
    refine Or.inr ⟨fa, j, l', cd', ?_, c2, c3, c4, c5⟩
    simp only [ob6_s, li, ↓reduceIte]
theorem lpSum (h : HX N n t0 law K Nu Pl RL tape taped ki pl nu) {g : Nat} (hsub : PProd N n t0 law w0 K Nu Pl RL tape taped vt0 bl ki pl nu g) {o l0 i0 : Nat} {cd0 : Nat → Int32} {ft pc : Int32} {P : List Nat} {R : List (Nat × Nat)} (ho8 : o ≤ 8) (hg : 7 * (8 - o) + 2 ≤ g) (ho : opn P = o) (hP : P.length ≤ 6 * o + 3) (hlt : ltR 5 P) (hS0 : Sm n w0 i0 P R) (hl0 : l0 ≤ i0) :
    ∀ (q f i l turn : Nat) (cd : Nat → Int32) (Q : List Nat) (R' : List (Nat × Nat)), n - i ≤ q → q < f → turn < i → i0 < i → i < n → l + i0 ≤ l0 + i → (∀ k, k < l0 → cd k = cd0 k) → geR 5 Q → Q.length ≤ 2 → R'.length + Q.length + i0 ≤ i → Re N tape taped t0 law RL w0 vt0 i0 P R 0 i (Q ++ P) (R ++ R') 1 → VSeg N cd l0 l (R' ++ em Q) (dOne o + 2) → folP (K i) →
    OkV N n t0 law w0 K Nu Pl RL tape taped vt0 bl ki pl nu 5 2 (dOne o + 2) folS (f_X5_sumB_12 N (f_RG N g) f bl (nI n) ki pl nu (nI l) cd ft pc (nI i) (nI law) (nI o) (nI turn)) i0 l0 cd0 ft pc P R ∨ Bad N n t0 law w0 K Nu Pl RL tape taped vt0 bl ki pl nu (f_X5_sumB_12 N (f_RG N g) f bl (nI n) ki pl nu (nI l) cd ft pc (nI i) (nI law) (nI o) (nI turn)) i0 P R := by
  have n3 := h.1.2.1
  intro q
  induction q with
  | zero => intro f i l turn cd Q R' a1 a2 a3 a4 a5; omega
  | succ q ih =>
    intro f i l turn cd Q R' a1 a2 a3 a4 a5 a6 a7 a8 a9 a10 a11 a12 a13
    obtain ⟨f, rfl⟩ : ∃ m, f = m + 1 := ⟨f - 1, by omega⟩
    have tk := cTok h a5
    have kb := (cKind h a5).1
    obtain ⟨z1, z2, z3⟩ := id hS0
    have hSi : Sm n w0 i (Q ++ P) (R ++ R') := ⟨by simp only [List.length_append]; omega, a5, by simp only [List.length_append]; omega⟩
    by_cases hk : K i = 39 ∨ K i = 40
    · obtain ⟨x, hx, hxk, hxr⟩ : ∃ x, btw (K i) (Q ++ P) = some x ∧ kOf x = K i ∧ (x = 6 ∨ x = 7) := by
        rcases hk with e | e
        · exact ⟨6, by rw [e]; rfl, by rw [e]; decide, by omega⟩
        · exact ⟨7, by rw [e]; rfl, by rw [e]; decide, by omega⟩
      have hrk : rk x = 5 := by rcases hxr with e | e <;> subst e <;> decide
      have hn1 := h.1.more a5 (show K i ≠ 47 by omega)
      have nx := cNext h hn1
      obtain ⟨e1, e2⟩ := sE_app (k := 5) (P := P) (hlt) a8
      have op := bhOp (law := law) (vt0 := vt0) (k := 5) h.1 h.2.1 h.2.2.1 hSi (by simp only [List.length_append]; omega) hx (by omega) (by rw [hrk]; rfl)
      rw [e1, e2] at op
      have ox : opn (x :: P) = o := by
        show opn1 x + opn P = o
        have : opn1 x = 0 := by rcases hxr with e | e <;> subst e <;> decide
        omega
      have hSx : Sm n w0 (i + 1) (x :: P) (R ++ R' ++ em Q) := ⟨by simp only [List.length_append, List.length_cons, em_len]; omega, hn1, by simp only [List.length_cons]; omega⟩
      have sub := hsub o (i + 1) l cd ft pc (x :: P) (R ++ R' ++ em Q) ho8 (by omega) ox (by rw [len1]; omega) (ltR1 (by omega)) (Or.inr (askF (by omega))) hSx (by omega)
      have st : f_X5_sumB_12 N (f_RG N g) (f + 1) bl (nI n) ki pl nu (nI l) cd ft pc (nI i) (nI law) (nI o) (nI turn) = ob6 (f_RG N g 1 bl (nI n) ki pl nu (nI l) cd ft pc (nI (i + 1)) (nI law) (nI o)) fun r45 x_ln_45 x_code_45 e_fault_45 e_place_45 e_at_45 => if r45 = nI 0 then (some (nI 0, x_ln_45, x_code_45, e_fault_45, e_place_45, e_at_45)) else (ob2 (f_X9_put N x_ln_45 x_code_45 (nI (K i)) (nI 0)) fun x_ln_59 x_code_59 => f_X5_sumB_12 N (f_RG N g) f bl (nI n) ki pl nu x_ln_59 x_code_59 e_fault_45 e_place_45 e_at_45 (nI law) (nI o) (nI (turn + 1))) := by
        rw [f_X5_sumB_12]
        generalize f_X5_sumB_12 N (f_RG N g) f = Kf
        rcases hk with e | e
        · simp (disch := omega) only [li, nle_f, tk, e, neq_f, nx, f_X5_sumB_39, nI_add, ob1_s, ↓reduceIte]
        · simp (disch := omega) only [li, nle_f, tk, e, neq_f, nx, f_X5_sumB_39, nI_add, ob1_s, ↓reduceIte]
      rw [st]
      rcases sub with ⟨l', i', cd', Q2, R2, c1, c2, c3, c4, c5, c6, c7, c8, c9, c10, c11⟩ | ⟨fa, j, l', cd', c1, c2, c3, c4, c5⟩
      · unfold QA at c1
        rw [c1]
        have h10 : (nI 1 = nI 0) = False := eq_false (by decide)
        have pu := cPut0 (N := N) (l := l') (k := K i) (cd := cd') (by omega)
        simp only [ob6_s, h10, pu, ob2_s, ↓reduceIte]
        have rel : Re N tape taped t0 law RL w0 vt0 i0 P R 0 i' ((Q2 ++ [x]) ++ P) (R ++ (R' ++ em Q ++ R2)) 1 := by
          have := (a11.tr op).tr c9
          rw [show (Q2 ++ [x]) ++ P = Q2 ++ x :: P by simp, show R ++ (R' ++ em Q ++ R2) = R ++ R' ++ em Q ++ R2 by simp]
          exact this
        have c10b : VSeg N (upd cd' l' (nI (K i))) l l' (R2 ++ em Q2) (dOne o + 1) := c10.cg (fun k k1 k2 => upd_ne (by omega))
        have a12b : VSeg N (upd cd' l' (nI (K i))) l0 l (R' ++ em Q) (dOne o + 2) := a12.cg (fun k k1 k2 => by rw [upd_ne (by have := c10b.1; omega)]; exact c5 k k2)
        have seg := vsTwo (o := x) a12b c10b (d := dOne o + 2) (Nat.le_refl _) (by omega) (by unfold dOne; omega) (by omega) (by rw [upd_eq rfl, hxk])
        have lt1 := a12.1
        have lt2 := c10.1
        refine ih f i' (l' + 1) (turn + 1) (upd cd' l' (nI (K i))) (Q2 ++ [x]) (R' ++ em Q ++ R2) (by omega) (by omega) (by omega) (by omega) c3 (by omega) (fun k hk => ?_) (geR_app (c6.mono (by omega)) ⟨by omega, by omega, trivial⟩) (by simp only [List.length_append, List.length_cons, List.length_nil]; omega) (by simp only [List.length_append, List.length_cons, List.length_nil, em_len]; omega) rel ?_ c11
        · rw [upd_ne (by omega), c5 k (by omega), a7 k hk]
        · rw [show R' ++ em Q ++ R2 ++ em (Q2 ++ [x]) = R' ++ em Q ++ (R2 ++ em Q2) ++ [(x, 0)] by rw [em_app]; simp [em]]
          exact seg
      · unfold QA at c1
        rw [c1]
        refine Or.inr ⟨fa, j, l', cd', ?_, c2, c3, c4, (a11.tr op).fa c5⟩
        simp only [ob6_s, ↓reduceIte]
    · refine Or.inl ⟨l, i, cd, Q, R', ?_, a4, a5, a6, a7, a8, a9, a10, a11, a12, ?_⟩
      · rw [f_X5_sumB_12]
        generalize f_X5_sumB_12 N (f_RG N g) f = Kf
        simp (disch := omega) only [li, nle_f, tk, neq_f, ob1_s, ↓reduceIte]
      · exact ⟨by omega, by omega, a13.1, a13.2⟩
theorem stSum (h : HX N n t0 law K Nu Pl RL tape taped ki pl nu) {g : Nat} (hsub : PProd N n t0 law w0 K Nu Pl RL tape taped vt0 bl ki pl nu g) : PSum N n t0 law w0 K Nu Pl RL tape taped vt0 bl ki pl nu (g + 1) := by
  intro o i l cd ft pc P R ho8 hg ho hP hlt hnot hS hl
  have n3 := h.1.2.1
  obtain ⟨z1, z2, z3⟩ := id hS
  have sub := hsub o i l cd ft pc P R ho8 (by omega) ho (by omega) (hlt.mono (by omega)) hnot hS hl
  have st : QA N n (g + 1) 0 bl ki pl nu law l cd ft pc i o = ob6 (f_RG N g 1 bl (nI n) ki pl nu (nI l) cd ft pc (nI i) (nI law) (nI o)) fun r2 x_ln_2 x_code_2 e_fault_2 e_place_2 e_at_2 => if r2 = 0 then (some ((0 : Int32), x_ln_2, x_code_2, e_fault_2, e_place_2, e_at_2)) else (f_X5_sumB_12 N (f_RG N g) N bl (nI n) ki pl nu x_ln_2 x_code_2 e_fault_2 e_place_2 e_at_2 (nI law) (nI o) (0 : Int32)) := rfl
  rw [st]
  rcases sub with ⟨l', i', cd', Q2, R2, c1, c2, c3, c4, c5, c6, c7, c8, c9, c10, c11⟩ | ⟨fa, j, l', cd', c1, c2, c3, c4, c5⟩
  · unfold QA at c1
    rw [c1]
    have h10 : (nI 1 = nI 0) = False := eq_false (by decide)
    simp only [ob6_s, li, h10, ↓reduceIte]
    exact lpSum h hsub ho8 (by omega) ho hP hlt hS hl (n - i') N i' l' 0 cd' Q2 R2 (Nat.le_refl _) (by have := h.2.1; omega) (by omega) c2 c3 c4 c5 (c6.mono (by omega)) (by omega) c8 c9 (c10.mono (by omega)) c11
  · unfold QA at c1
    rw [c1]
    refine Or.inr ⟨fa, j, l', cd', ?_, c2, c3, c4, c5⟩
    simp only [ob6_s, li, ↓reduceIte]
end
