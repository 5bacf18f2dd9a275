/-! the class's code, run on a stack -/
def StkT (stack : Nat → Int32) : List Int → Prop
  | [] => True
  | z :: vs => stack vs.length = iI z ∧ bd z ∧ StkT stack vs
theorem StkT.up {stack : Nat → Int32} {x : Int32} : ∀ {vs : List Int} {k : Nat}, StkT stack vs → vs.length ≤ k → StkT (upd stack k x) vs := by
  intro vs
  induction vs with
  | nil => intro k _ _; trivial
  | cons z vs ih =>
    intro k h hk
    have hk : vs.length + 1 ≤ k := hk
    refine ⟨?_, h.2.1, ih h.2.2 (by omega)⟩
    rw [upd_ne (by omega)]; exact h.1
theorem StkT.push {stack : Nat → Int32} {vs : List Int} {z : Int} (h : StkT stack vs) (hz : bd z) : StkT (upd stack vs.length (iI z)) (z :: vs) := ⟨upd_eq rfl, hz, h.up (Nat.le_refl _)⟩
def VM (N n : Nat) (cd st en nm row fe : Nat → Int32) (law : Nat) (stack : Nat → Int32) (top at_ turn : Nat) : Option (Int32 × (Nat → Int32)) := f_X9_value_24 N n cd st en nm row fe stack (nI law) (nI top) (nI at_) (nI turn)
theorem cdec {k v : Nat} (hk : k < 64) (hv : v ≤ 9999) : nI (v * 64 + k) &&& nI 63 = nI k ∧ nI (v * 64 + k) >>> (nI 6 &&& nI 31) = nI v := by
  constructor
  · rw [pk_andN (by omega) (m := nI 63) 6 (by decide)]
    congr 1; omega
  · rw [nshr (by omega) (by omega)]
    congr 1; omega
theorem vLeafN {N n law E L l turn v : Nat} {cd st en nm row fe stack : Nat → Int32} (hE : en law = nI E) (hl : l < E) (hE3 : E ≤ 301) (hlw : law < 4) (ht : turn < 301) (hL : L < 64) (hv : v ≤ 9999) (hc : cd l = nI (v * 64 + 46)) : VM N (n + 1) cd st en nm row fe law stack L l turn = VM N n cd st en nm row fe law (upd stack L (iI (v : Int))) (L + 1) (l + 1) (turn + 1) := by
  obtain ⟨d1, d2⟩ := cdec (k := 46) (v := v) (by omega) hv
  unfold VM
  rw [f_X9_value_24]
  generalize f_X9_value_24 N n = K
  simp (maxSteps := 1000000) (disch := omega) only [li, ob1_s, ob2_s, ob3_s, ob4_s, ob5_s, ob6_s, ob7_s, gA_n, gL_n, sA_n, sL_n, cpI_n, nI_add, pk_mul, nsub, nlt_t, nlt_f, nle_t, nle_f, neq_t, neq_f, rmI_n, dvI_n, upd_ne, upd_eq, un_ne, un_eq, Nat.add_zero, Bool.false_eq_true, ↓reduceIte, hE, hc, d1, d2, f_X9_value_164, f_X9_value_192, f_X9_value_345]
  rw [iI_n]
theorem vLeafM {N n law E L l turn m w : Nat} {cd st en nm row fe stack : Nat → Int32} (hE : en law = nI E) (hl : l < E) (hE3 : E ≤ 301) (hlw : law < 4) (ht : turn < 301) (hL : L < 64) (hm : m < 10) (hc : cd l = nI (m + 11)) (hn : nm m = nI w) : VM N (n + 1) cd st en nm row fe law stack L l turn = VM N n cd st en nm row fe law (upd stack L (iI (w : Int))) (L + 1) (l + 1) (turn + 1) := by
  obtain ⟨d1, d2⟩ := cdec (k := m + 11) (v := 0) (by omega) (by omega)
  rw [Nat.zero_mul, Nat.zero_add] at d1 d2
  have e1 : m + 11 - 11 = m := by omega
  unfold VM
  rw [f_X9_value_24]
  generalize f_X9_value_24 N n = K
  simp (maxSteps := 1000000) (disch := omega) only [li, ob1_s, ob2_s, ob3_s, ob4_s, ob5_s, ob6_s, ob7_s, gA_n, gL_n, sA_n, sL_n, cpI_n, nI_add, pk_mul, nsub, nlt_t, nlt_f, nle_t, nle_f, neq_t, neq_f, rmI_n, dvI_n, upd_ne, upd_eq, un_ne, un_eq, Nat.add_zero, Bool.false_eq_true, ↓reduceIte, hE, hc, d1, d2, e1, hn, f_X9_value_164, f_X9_value_192, f_X9_value_345]
  rw [iI_n]
/-- the class's signs of one number -/
def COne (N k : Nat) (z z' : Int) : Prop := (k = 49 ∧ -iI z = iI z') ∨ (k = 24 ∧ f_J6_bitCount_0f7a4 N (abI (iI z)) = some (iI z')) ∨ (k = 30 ∧ nI 1 - iI z = iI z')
set_option maxHeartbeats 4000000 in
theorem vNeg {N n law E L l turn : Nat} {cd st en nm row fe stack : Nat → Int32} {z z' : Int} (hE : en law = nI E) (hl : l < E) (hE3 : E ≤ 301) (hlw : law < 4) (ht : turn < 301) (hL : L < 64) (hc : cd l = nI 49) (hs : stack L = iI z) (ho : -iI z = iI z') : VM N (n + 1) cd st en nm row fe law stack (L + 1) l turn = VM N n cd st en nm row fe law (upd stack L (iI z')) (L + 1) (l + 1) (turn + 1) := by
  obtain ⟨d1, d2⟩ := cdec (k := 49) (v := 0) (by omega) (by omega)
  rw [Nat.zero_mul, Nat.zero_add] at d1 d2
  have e1 : mxI (nI (L + 1) - nI 1) (nI 0) = nI L := by rw [nsub (by omega), mxI_n (by omega) (by omega)]; congr 1; omega
  have e3 : nI 49 - nI 11 = nI (49 - 11) := nsub (by omega)
  unfold VM
  rw [f_X9_value_24]
  generalize f_X9_value_24 N n = K
  simp (maxSteps := 1000000) (disch := omega) only [li, ob1_s, gA_n, sA_n, nI_add, nlt_t, nlt_f, nle_t, nle_f, neq_t, neq_f, ↓reduceIte, hE, hc, d1, d2, e1, e3, hs, ho, f_X9_value_199, f_X9_value_345]
set_option maxHeartbeats 4000000 in
theorem vOnes {N n law E L l turn : Nat} {cd st en nm row fe stack : Nat → Int32} {z z' : Int} (hE : en law = nI E) (hl : l < E) (hE3 : E ≤ 301) (hlw : law < 4) (ht : turn < 301) (hL : L < 64) (hc : cd l = nI 24) (hs : stack L = iI z) (ho : f_J6_bitCount_0f7a4 N (abI (iI z)) = some (iI z')) : VM N (n + 1) cd st en nm row fe law stack (L + 1) l turn = VM N n cd st en nm row fe law (upd stack L (iI z')) (L + 1) (l + 1) (turn + 1) := by
  obtain ⟨d1, d2⟩ := cdec (k := 24) (v := 0) (by omega) (by omega)
  rw [Nat.zero_mul, Nat.zero_add] at d1 d2
  have e1 : mxI (nI (L + 1) - nI 1) (nI 0) = nI L := by rw [nsub (by omega), mxI_n (by omega) (by omega)]; congr 1; omega
  have e3 : nI 24 - nI 11 = nI (24 - 11) := nsub (by omega)
  unfold VM
  rw [f_X9_value_24]
  generalize f_X9_value_24 N n = K
  simp (maxSteps := 1000000) (disch := omega) only [li, ob1_s, gA_n, sA_n, nI_add, nlt_t, nlt_f, nle_t, nle_f, neq_t, neq_f, ↓reduceIte, hE, hc, d1, d2, e1, e3, hs, ho, f_X9_value_199, f_X9_value_345]
set_option maxHeartbeats 4000000 in
theorem vNot {N n law E L l turn : Nat} {cd st en nm row fe stack : Nat → Int32} {z z' : Int} (hE : en law = nI E) (hl : l < E) (hE3 : E ≤ 301) (hlw : law < 4) (ht : turn < 301) (hL : L < 64) (hc : cd l = nI 30) (hs : stack L = iI z) (ho : nI 1 - iI z = iI z') : VM N (n + 1) cd st en nm row fe law stack (L + 1) l turn = VM N n cd st en nm row fe law (upd stack L (iI z')) (L + 1) (l + 1) (turn + 1) := by
  obtain ⟨d1, d2⟩ := cdec (k := 30) (v := 0) (by omega) (by omega)
  rw [Nat.zero_mul, Nat.zero_add] at d1 d2
  have e1 : mxI (nI (L + 1) - nI 1) (nI 0) = nI L := by rw [nsub (by omega), mxI_n (by omega) (by omega)]; congr 1; omega
  have e3 : nI 30 - nI 11 = nI (30 - 11) := nsub (by omega)
  unfold VM
  rw [f_X9_value_24]
  generalize f_X9_value_24 N n = K
  simp (maxSteps := 1000000) (disch := omega) only [li, ob1_s, gA_n, sA_n, nI_add, nlt_t, nlt_f, nle_t, nle_f, neq_t, neq_f, ↓reduceIte, hE, hc, d1, d2, e1, e3, hs, ho, f_X9_value_199, f_X9_value_345]
theorem vOne {N n law E L l turn k : Nat} {cd st en nm row fe stack : Nat → Int32} {z z' : Int} (hE : en law = nI E) (hl : l < E) (hE3 : E ≤ 301) (hlw : law < 4) (ht : turn < 301) (hL : L < 64) (hc : cd l = nI k) (hs : stack L = iI z) (ho : COne N k z z') : VM N (n + 1) cd st en nm row fe law stack (L + 1) l turn = VM N n cd st en nm row fe law (upd stack L (iI z')) (L + 1) (l + 1) (turn + 1) := by
  rcases ho with ⟨e, ho⟩ | ⟨e, ho⟩ | ⟨e, ho⟩ <;> subst e
  · exact vNeg hE hl hE3 hlw ht hL hc hs ho
  · exact vOnes hE hl hE3 hlw ht hL hc hs ho
  · exact vNot hE hl hE3 hlw ht hL hc hs ho
theorem vFear {N n law E L l turn w : Nat} {cd st en nm row fe stack : Nat → Int32} {z : Int} (hE : en law = nI E) (hl : l < E) (hE3 : E ≤ 301) (hlw : law < 4) (ht : turn < 301) (hL : L < 64) (hc : cd l = nI 25) (hs : stack L = iI z) (ho : f_X1_fearOf N row fe (iI z) = some (nI w)) : VM N (n + 1) cd st en nm row fe law stack (L + 1) l turn = VM N n cd st en nm row fe law (upd stack L (iI (w : Int))) (L + 1) (l + 1) (turn + 1) := by
  obtain ⟨d1, d2⟩ := cdec (k := 25) (v := 0) (by omega) (by omega)
  rw [Nat.zero_mul, Nat.zero_add] at d1 d2
  have e1 : mxI (nI (L + 1) - nI 1) (nI 0) = nI L := by rw [nsub (by omega), mxI_n (by omega) (by omega)]; congr 1; omega
  have e3 : nI 25 - nI 11 = nI (25 - 11) := nsub (by omega)
  unfold VM
  rw [f_X9_value_24]
  generalize f_X9_value_24 N n = K
  simp (maxSteps := 1000000) (disch := omega) only [li, ob1_s, gA_n, sA_n, nI_add, nlt_t, nlt_f, nle_t, nle_f, neq_t, neq_f, ↓reduceIte, hE, hc, d1, d2, e1, e3, hs, ho, f_X9_value_199, f_X9_value_345]
  rw [iI_n]
theorem vTwo {N n law E L l turn k : Nat} {cd st en nm row fe stack : Nat → Int32} {x y z' : Int} (hE : en law = nI E) (hl : l < E) (hE3 : E ≤ 301) (hlw : law < 4) (ht : turn < 301) (hL : L + 1 < 64) (hk : 31 ≤ k ∧ k ≤ 42) (hc : cd l = nI k) (hs : stack L = iI x) (hs2 : stack (L + 1) = iI y) (ho : CW2 N k x y z') : VM N (n + 1) cd st en nm row fe law stack (L + 1 + 1) l turn = VM N n cd st en nm row fe law (upd stack L (iI z')) (L + 1) (l + 1) (turn + 1) := by
  obtain ⟨d1, d2⟩ := cdec (k := k) (v := 0) (by omega) (by omega)
  rw [Nat.zero_mul, Nat.zero_add] at d1 d2
  obtain ⟨r, ho, ho2⟩ := ho
  have e1 : mxI (nI (L + 1 + 1) - nI 1) (nI 0) = nI (L + 1) := by rw [nsub (by omega), mxI_n (by omega) (by omega), show max (L + 1 + 1 - 1) 0 = L + 1 by omega]
  have e2 : nI (L + 1) - nI 1 = nI L := nI_pred _
  have e3 : nI k - nI 11 = nI (k - 11) := nsub (by omega)
  unfold VM
  rw [f_X9_value_24]
  generalize f_X9_value_24 N n = K
  simp (maxSteps := 1000000) (disch := omega) only [li, ob1_s, gA_n, sA_n, nI_add, nlt_t, nlt_f, nle_t, nle_f, neq_t, neq_f, ↓reduceIte, hE, hc, d1, d2, e1, e2, e3, hs, hs2, ho, ho2, f_X9_value_199, f_X9_value_345]
theorem vThen {N n law E L l turn t : Nat} {cd st en nm row fe stack : Nat → Int32} (b : Bool) (hE : en law = nI E) (hl : l < E) (hE3 : E ≤ 301) (hlw : law < 4) (ht : turn < 301) (hL : L < 64) (ht3 : t ≤ 301) (hc : cd l = nI (t * 64 + 27)) (hs : stack L = iI (b2i b)) : VM N (n + 1) cd st en nm row fe law stack (L + 1) l turn = VM N n cd st en nm row fe law stack L (if b = true then l + 1 else t) (turn + 1) := by
  obtain ⟨d1, d2⟩ := cdec (k := 27) (v := t) (by omega) (by omega)
  have e1 : mxI (nI (L + 1) - nI 1) (nI 0) = nI L := by rw [nsub (by omega), mxI_n (by omega) (by omega)]; congr 1; omega
  unfold VM
  rw [f_X9_value_24]
  generalize f_X9_value_24 N n = K
  cases b with
  | true =>
    have hs : stack L = nI 1 := hs
    simp (maxSteps := 1000000) (disch := omega) only [li, ob1_s, gA_n, sA_n, nI_add, nlt_t, nlt_f, nle_t, nle_f, neq_t, neq_f, ↓reduceIte, hE, hc, d1, d2, e1, hs, f_X9_value_140, f_X9_value_345]
  | false =>
    have hs : stack L = nI 0 := hs
    simp (maxSteps := 1000000) (disch := omega) only [li, ob1_s, gA_n, sA_n, nI_add, nlt_t, nlt_f, nle_t, nle_f, neq_t, neq_f, Bool.false_eq_true, ↓reduceIte, hE, hc, d1, d2, e1, hs, f_X9_value_140, f_X9_value_345]
theorem vElse {N n law E L l turn t : Nat} {cd st en nm row fe stack : Nat → Int32} (hE : en law = nI E) (hl : l < E) (hE3 : E ≤ 301) (hlw : law < 4) (ht : turn < 301) (ht3 : t ≤ 301) (hc : cd l = nI (t * 64 + 28)) : VM N (n + 1) cd st en nm row fe law stack L l turn = VM N n cd st en nm row fe law stack L t (turn + 1) := by
  obtain ⟨d1, d2⟩ := cdec (k := 28) (v := t) (by omega) (by omega)
  unfold VM
  rw [f_X9_value_24]
  generalize f_X9_value_24 N n = K
  simp (maxSteps := 1000000) (disch := omega) only [li, ob1_s, gA_n, sA_n, nI_add, nlt_t, nlt_f, nle_t, nle_f, neq_t, neq_f, ↓reduceIte, hE, hc, d1, d2, f_X9_value_345]
theorem vEnd {N n law E L turn : Nat} {cd st en nm row fe stack : Nat → Int32} (hE : en law = nI E) (hE3 : E ≤ 301) (hlw : law < 4) (ht : turn ≤ 301) : VM N (n + 1) cd st en nm row fe law stack L E turn = some (stack 0, stack) := by
  unfold VM
  rw [f_X9_value_24]
  generalize f_X9_value_24 N n = K
  by_cases h : turn = 301
  · subst h
    simp (maxSteps := 1000000) (disch := omega) only [li, gA_n, nle_t, ↓reduceIte, f_X9_value_351]
  · simp (maxSteps := 1000000) (disch := omega) only [li, gA_n, nlt_t, nlt_f, nle_t, nle_f, ↓reduceIte, hE, f_X9_value_351]
/-- code from l to l' puts z on the stack, and needs room for d -/
def CS (N : Nat) (cd st en nm row fe : Nat → Int32) (law l l' d : Nat) (z : Int) : Prop :=
  ∀ (vs : List Int) (stack : Nat → Int32) (turn : Nat), StkT stack vs → vs.length + d ≤ 64 → turn + (l' - l) ≤ 301 → ∃ (q : Nat) (stack' : Nat → Int32), q ≤ l' - l ∧ StkT stack' (z :: vs) ∧ ∀ n, VM N (n + q) cd st en nm row fe law stack vs.length l turn = VM N n cd st en nm row fe law stack' (vs.length + 1) l' (turn + q)
/-- what code is run in: the code cd' is cd from l to l', which lies ahead of the law's end -/
def CEnv (N : Nat) (cd cd' : Nat → Int32) (l l' : Nat) (en nm row fe : Nat → Int32) (law : Nat) (nv : Nat → Nat) (fv : Int → Nat) : Prop :=
  (∀ k, l ≤ k → k < l' → cd' k = cd k) ∧ (∃ E, en law = nI E ∧ l' ≤ E ∧ E ≤ 301) ∧ law < 4 ∧ (∀ i, i < 10 → nm i = nI (nv i) ∧ nv i ≤ 9999) ∧ (∀ z, bd z → f_X1_fearOf N row fe (iI z) = some (nI (fv z)) ∧ fv z ≤ 9)
theorem CEnv.sub {N : Nat} {cd cd' en nm row fe : Nat → Int32} {l l' m m' law : Nat} {nv : Nat → Nat} {fv : Int → Nat} (h : CEnv N cd cd' l l' en nm row fe law nv fv) (h1 : l ≤ m) (h2 : m' ≤ l') : CEnv N cd cd' m m' en nm row fe law nv fv := by
  obtain ⟨a1, ⟨E, a2, a3, a4⟩, a5⟩ := h
  exact ⟨fun k h3 h4 => a1 k (by omega) (by omega), ⟨E, a2, by omega, a4⟩, a5⟩
def VSeg (N : Nat) (cd : Nat → Int32) (l l' : Nat) (R : List (Nat × Nat)) (d : Nat) : Prop :=
  l < l' ∧ ∀ (cd' st en nm row fe : Nat → Int32) (law : Nat) (nv : Nat → Nat) (fv : Int → Nat), CEnv N cd cd' l l' en nm row fe law nv fv → ∃ z, bd z ∧ CS N cd' st en nm row fe law l l' d z ∧ ∀ vs ts, rrun nv fv R vs ts = some (z :: vs, ts)
def BSeg (N : Nat) (cd : Nat → Int32) (l l' : Nat) (R : List (Nat × Nat)) (d : Nat) : Prop :=
  l < l' ∧ ∀ (cd' st en nm row fe : Nat → Int32) (law : Nat) (nv : Nat → Nat) (fv : Int → Nat), CEnv N cd cd' l l' en nm row fe law nv fv → ∃ b, CS N cd' st en nm row fe law l l' d (b2i b) ∧ ∀ vs ts, rrun nv fv R vs ts = some (vs, b :: ts)
theorem CS.mono {N : Nat} {cd st en nm row fe : Nat → Int32} {law l l' d d2 : Nat} {z : Int} (h : CS N cd st en nm row fe law l l' d z) (hd : d ≤ d2) : CS N cd st en nm row fe law l l' d2 z := fun vs stack turn h1 h2 h3 => h vs stack turn h1 (by omega) h3
theorem VSeg.mono {N l l' d d2 : Nat} {cd : Nat → Int32} {R : List (Nat × Nat)} (h : VSeg N cd l l' R d) (hd : d ≤ d2) : VSeg N cd l l' R d2 := ⟨h.1, fun cd' st en nm row fe law nv fv e => by
  obtain ⟨z, h1, h2, h3⟩ := h.2 cd' st en nm row fe law nv fv e
  exact ⟨z, h1, h2.mono hd, h3⟩⟩
theorem BSeg.mono {N l l' d d2 : Nat} {cd : Nat → Int32} {R : List (Nat × Nat)} (h : BSeg N cd l l' R d) (hd : d ≤ d2) : BSeg N cd l l' R d2 := ⟨h.1, fun cd' st en nm row fe law nv fv e => by
  obtain ⟨z, h2, h3⟩ := h.2 cd' st en nm row fe law nv fv e
  exact ⟨z, h2.mono hd, h3⟩⟩
theorem VSeg.cg {N l l' d : Nat} {cd cd2 : Nat → Int32} {R : List (Nat × Nat)} (h : VSeg N cd l l' R d) (e : ∀ k, l ≤ k → k < l' → cd2 k = cd k) : VSeg N cd2 l l' R d := ⟨h.1, fun cd' st en nm row fe law nv fv q => h.2 cd' st en nm row fe law nv fv ⟨fun k h1 h2 => by rw [q.1 k h1 h2, e k h1 h2], q.2⟩⟩
theorem BSeg.cg {N l l' d : Nat} {cd cd2 : Nat → Int32} {R : List (Nat × Nat)} (h : BSeg N cd l l' R d) (e : ∀ k, l ≤ k → k < l' → cd2 k = cd k) : BSeg N cd2 l l' R d := ⟨h.1, fun cd' st en nm row fe law nv fv q => h.2 cd' st en nm row fe law nv fv ⟨fun k h1 h2 => by rw [q.1 k h1 h2, e k h1 h2], q.2⟩⟩
theorem vsLeafN {N l v : Nat} {cd : Nat → Int32} (hv : v ≤ 9999) (hc : cd l = nI (v * 64 + 46)) : VSeg N cd l (l + 1) [(0, v)] 1 := by
  refine ⟨by omega, fun cd' st en nm row fe law nv fv e => ⟨(v : Int), by unfold bd; omega, fun vs stack turn h1 h2 h3 => ?_, fun vs ts => ?_⟩⟩
  · obtain ⟨a1, ⟨E, a2, a3, a4⟩, a5, -⟩ := e
    refine ⟨1, _, by omega, h1.push (by unfold bd; omega), fun n => vLeafN a2 (by omega) a4 a5 (by omega) (by omega) hv (by rw [a1 l (by omega) (by omega)]; exact hc)⟩
  · show (rstep nv fv 0 v vs ts).bind (fun s => some (s.1, s.2)) = _
    unfold rstep
    rw [if_pos rfl, if_pos hv]; rfl
theorem vsLeafM {N l m : Nat} {cd : Nat → Int32} (hm : m < 10) (hc : cd l = nI (m + 11)) : VSeg N cd l (l + 1) [(1, sg m)] 1 := by
  refine ⟨by omega, fun cd' st en nm row fe law nv fv e => ?_⟩
  obtain ⟨a1, ⟨E, a2, a3, a4⟩, a5, a6, a7⟩ := e
  obtain ⟨b1, b2⟩ := a6 m hm
  obtain ⟨g1, g2⟩ := gs_sg m hm
  refine ⟨(nv m : Int), by unfold bd; omega, fun vs stack turn h1 h2 h3 => ?_, fun vs ts => ?_⟩
  · exact ⟨1, _, by omega, h1.push (by unfold bd; omega), fun n => vLeafM a2 (by omega) a4 a5 (by omega) (by omega) hm (by rw [a1 l (by omega) (by omega)]; exact hc) b1⟩
  · show (rstep nv fv 1 (sg m) vs ts).bind (fun s => some (s.1, s.2)) = _
    unfold rstep
    rw [if_neg (by decide), if_pos rfl, if_pos g2, g1]; rfl
theorem rrun1 {nv : Nat → Nat} {fv : Int → Nat} {o v : Nat} {vs vs' : List Int} {ts ts' : List Bool} (h : rstep nv fv o v vs ts = some (vs', ts')) : rrun nv fv [(o, v)] vs ts = some (vs', ts') := by
  show (rstep nv fv o v vs ts).bind (fun s => some (s.1, s.2)) = _
  rw [h]; rfl
theorem rsp {nv : Nat → Nat} {fv : Int → Nat} {o : Nat} {z : Int} {vs : List Int} {ts : List Bool} (ho : o = 2 ∨ o = 3 ∨ o = 5) : rstep nv fv o 0 (z :: vs) ts = some (pre1 fv o z :: vs, ts) := by
  unfold rstep
  rw [if_neg (by omega), if_neg (by omega), if_neg (by omega), if_pos (by omega)]
theorem rst {nv : Nat → Nat} {fv : Int → Nat} {o : Nat} {x y : Int} {vs : List Int} {ts : List Bool} (ho : 6 ≤ o ∧ o ≤ 9) : rstep nv fv o 0 (y :: x :: vs) ts = some (two2 o x y :: vs, ts) := by
  unfold rstep
  rw [if_neg (by omega), if_neg (by omega), if_neg (by omega), if_neg (by omega), if_pos (by omega)]
theorem rsa {nv : Nat → Nat} {fv : Int → Nat} {o : Nat} {x y : Int} {vs : List Int} {ts : List Bool} (ho : 10 ≤ o ∧ o ≤ 15) : rstep nv fv o 0 (y :: x :: vs) ts = some (vs, ask2 o x y :: ts) := by
  unfold rstep
  rw [if_neg (by omega), if_neg (by omega), if_neg (by omega), if_neg (by omega), if_neg (by omega), if_pos (by omega)]
theorem cOne {N k : Nat} {fv : Int → Nat} {o : Nat} {z : Int} (hz : bd z) (hko : (k = 49 ∧ o = 5) ∨ (k = 24 ∧ o = 2)) : COne N k z (pre1 fv o z) := by
  unfold bd at hz
  unfold pre1
  rcases hko with ⟨e1, e2⟩ | ⟨e1, e2⟩ <;> subst e1 <;> subst e2
  · rw [if_pos rfl]
    exact Or.inl ⟨rfl, iI_neg _⟩
  · rw [if_neg (by decide), if_pos rfl]
    have ab := abI_i (z := z) (by omega) (by omega)
    have cb := cBits3 (N := N) (v := z.natAbs) (by omega)
    refine Or.inr (Or.inl ⟨rfl, ?_⟩)
    rw [ab, cb, iI_n]
theorem vsPre {N l m k o d : Nat} {cd : Nat → Int32} {R : List (Nat × Nat)} (h : VSeg N cd l m R d) (hd : 1 ≤ d) (hko : (k = 49 ∧ o = 5) ∨ (k = 24 ∧ o = 2) ∨ (k = 25 ∧ o = 3)) (hc : cd m = nI k) : VSeg N cd l (m + 1) (R ++ [(o, 0)]) d := by
  obtain ⟨h0, h⟩ := h
  refine ⟨by omega, fun cd' st en nm row fe law nv fv e => ?_⟩
  obtain ⟨z, hz, c1, c2⟩ := h cd' st en nm row fe law nv fv (e.sub (Nat.le_refl _) (by omega))
  obtain ⟨a1, ⟨E, a2, a3, a4⟩, a5, a6, a7⟩ := e
  obtain ⟨f1, f2⟩ := a7 z hz
  refine ⟨pre1 fv o z, pre1_b hz f2, fun vs stack turn h1 h2 h3 => ?_, fun vs ts => ?_⟩
  · obtain ⟨q, stack', q1, q2, q3⟩ := c1 vs stack turn h1 h2 (by omega)
    obtain ⟨s1, s2, s3⟩ := q2
    refine ⟨q + 1, upd stack' vs.length (iI (pre1 fv o z)), by omega, s3.push (pre1_b hz f2), fun n => ?_⟩
    rw [show n + (q + 1) = n + 1 + q by omega, q3, show turn + (q + 1) = turn + q + 1 by omega]
    have hcm : cd' m = nI k := by rw [a1 m (by omega) (by omega)]; exact hc
    rcases hko with ⟨e1, e2⟩ | ⟨e1, e2⟩ | ⟨e1, e2⟩
    · exact vOne a2 (by omega) a4 a5 (by omega) (by omega) hcm s1 (cOne hz (Or.inl ⟨e1, e2⟩))
    · exact vOne a2 (by omega) a4 a5 (by omega) (by omega) hcm s1 (cOne hz (Or.inr ⟨e1, e2⟩))
    · subst e1
      subst e2
      have : pre1 fv 3 z = (fv z : Int) := by unfold pre1; rw [if_neg (by decide), if_neg (by decide)]
      rw [this]
      exact vFear a2 (by omega) a4 a5 (by omega) (by omega) hcm s1 f1
  · rw [rrun_app, c2]
    exact rrun1 (rsp (by omega))
/-- two sums and a sign behind them -/
theorem csTwo {N l m r k d1 d2 d E law : Nat} {cd st en nm row fe : Nat → Int32} {x y z : Int} (c1 : CS N cd st en nm row fe law l m d1 x) (c3 : CS N cd st en nm row fe law m r d2 y) (hlm : l < m) (hmr : m < r) (hd1 : d1 ≤ d) (hd2 : d2 + 1 ≤ d) (hd0 : 2 ≤ d) (hz : bd z) (a2 : en law = nI E) (a3 : r + 1 ≤ E) (a4 : E ≤ 301) (a5 : law < 4) (hk : 31 ≤ k ∧ k ≤ 42) (hc : cd r = nI k) (ho : CW2 N k x y z) : CS N cd st en nm row fe law l (r + 1) d z := by
  intro vs stack turn b1 b2 b3
  obtain ⟨q, stack1, q1, q2, q3⟩ := c1 vs stack turn b1 (by omega) (by omega)
  obtain ⟨p, stack2, p1, p2, p3⟩ := c3 (x :: vs) stack1 (turn + q) q2 (by rw [len1]; omega) (by omega)
  obtain ⟨s1, s2, s3, s4, s5⟩ := p2
  rw [len1] at s1 p3
  refine ⟨q + p + 1, upd stack2 vs.length (iI z), by omega, s5.push hz, fun n => ?_⟩
  rw [show n + (q + p + 1) = n + 1 + p + q by omega, q3, p3, show turn + (q + p + 1) = turn + q + p + 1 by omega]
  exact vTwo a2 (by omega) a4 a5 (by omega) (by omega) hk hc s3 s1 ho
theorem kOf_b {o : Nat} (ho : 6 ≤ o ∧ o ≤ 15) : 31 ≤ kOf o ∧ kOf o ≤ 42 := by
  rcases (show o = 6 ∨ o = 7 ∨ o = 8 ∨ o = 9 ∨ o = 10 ∨ o = 11 ∨ o = 12 ∨ o = 13 ∨ o = 14 ∨ o = 15 by omega) with e | e | e | e | e | e | e | e | e | e <;> subst e <;> decide
theorem vsTwo {N l m r o d1 d2 d : Nat} {cd : Nat → Int32} {R1 R2 : List (Nat × Nat)} (h1 : VSeg N cd l m R1 d1) (h2 : VSeg N cd m r R2 d2) (hd1 : d1 ≤ d) (hd2 : d2 + 1 ≤ d) (hd0 : 2 ≤ d) (ho : 6 ≤ o ∧ o ≤ 9) (hc : cd r = nI (kOf o)) : VSeg N cd l (r + 1) (R1 ++ R2 ++ [(o, 0)]) d := by
  obtain ⟨l1, h1⟩ := h1
  obtain ⟨l2, h2⟩ := h2
  refine ⟨by omega, fun cd' st en nm row fe law nv fv e => ?_⟩
  obtain ⟨x, hx, c1, c2⟩ := h1 cd' st en nm row fe law nv fv (e.sub (Nat.le_refl _) (by omega))
  obtain ⟨y, hy, c3, c4⟩ := h2 cd' st en nm row fe law nv fv (e.sub (by omega) (by omega))
  obtain ⟨a1, ⟨E, a2, a3, a4⟩, a5, a6, a7⟩ := e
  refine ⟨two2 o x y, two2_b hx, csTwo c1 c3 l1 l2 hd1 hd2 hd0 (two2_b hx) a2 a3 a4 a5 (kOf_b ⟨by omega, by omega⟩) (by rw [a1 r (by omega) (by omega)]; exact hc) (cTwo ho hx hy), fun vs ts => ?_⟩
  rw [rrun_app, rrun_app, c2]
  show ((rrun nv fv R2 (x :: vs) ts).bind _) = _
  rw [c4]
  exact rrun1 (rst ho)
theorem vsAsk {N l m r o d1 d2 d : Nat} {cd : Nat → Int32} {R1 R2 : List (Nat × Nat)} (h1 : VSeg N cd l m R1 d1) (h2 : VSeg N cd m r R2 d2) (hd1 : d1 ≤ d) (hd2 : d2 + 1 ≤ d) (hd0 : 2 ≤ d) (ho : 10 ≤ o ∧ o ≤ 15) (hc : cd r = nI (kOf o)) : BSeg N cd l (r + 1) (R1 ++ R2 ++ [(o, 0)]) d := by
  obtain ⟨l1, h1⟩ := h1
  obtain ⟨l2, h2⟩ := h2
  refine ⟨by omega, fun cd' st en nm row fe law nv fv e => ?_⟩
  obtain ⟨x, hx, c1, c2⟩ := h1 cd' st en nm row fe law nv fv (e.sub (Nat.le_refl _) (by omega))
  obtain ⟨y, hy, c3, c4⟩ := h2 cd' st en nm row fe law nv fv (e.sub (by omega) (by omega))
  obtain ⟨a1, ⟨E, a2, a3, a4⟩, a5, a6, a7⟩ := e
  refine ⟨ask2 o x y, csTwo c1 c3 l1 l2 hd1 hd2 hd0 (b2i_b _) a2 a3 a4 a5 (kOf_b ⟨by omega, by omega⟩) (by rw [a1 r (by omega) (by omega)]; exact hc) (cAsk ho hx hy), fun vs ts => ?_⟩
  rw [rrun_app, rrun_app, c2]
  show ((rrun nv fv R2 (x :: vs) ts).bind _) = _
  rw [c4]
  exact rrun1 (rsa ho)
theorem cJoin {N o : Nat} {b c r : Bool} (h : (o = 21 ∧ r = (b && c)) ∨ (o = 22 ∧ r = (b || c))) : CW2 N (kOf o) (b2i b) (b2i c) (b2i r) := by
  rcases h with ⟨e, e2⟩ | ⟨e, e2⟩ <;> subst e <;> subst e2 <;> cases b <;> cases c <;> exact ⟨_, rfl, by decide⟩
theorem vsJoin {N l m r o d1 d2 d : Nat} {cd : Nat → Int32} {R1 R2 : List (Nat × Nat)} (h1 : BSeg N cd l m R1 d1) (h2 : BSeg N cd m r R2 d2) (hd1 : d1 ≤ d) (hd2 : d2 + 1 ≤ d) (hd0 : 2 ≤ d) (ho : o = 21 ∨ o = 22) (hc : cd r = nI (kOf o)) : BSeg N cd l (r + 1) (R1 ++ R2 ++ [(o, 0)]) d := by
  obtain ⟨l1, h1⟩ := h1
  obtain ⟨l2, h2⟩ := h2
  refine ⟨by omega, fun cd' st en nm row fe law nv fv e => ?_⟩
  obtain ⟨x, c1, c2⟩ := h1 cd' st en nm row fe law nv fv (e.sub (Nat.le_refl _) (by omega))
  obtain ⟨y, c3, c4⟩ := h2 cd' st en nm row fe law nv fv (e.sub (by omega) (by omega))
  obtain ⟨a1, ⟨E, a2, a3, a4⟩, a5, a6, a7⟩ := e
  obtain ⟨b, hb⟩ : ∃ b, (o = 21 ∧ b = (x && y)) ∨ (o = 22 ∧ b = (x || y)) := by
    rcases ho with h | h
    · exact ⟨_, Or.inl ⟨h, rfl⟩⟩
    · exact ⟨_, Or.inr ⟨h, rfl⟩⟩
  have hk : 31 ≤ kOf o ∧ kOf o ≤ 42 := by rcases ho with h | h <;> subst h <;> decide
  refine ⟨b, csTwo c1 c3 l1 l2 hd1 hd2 hd0 (b2i_b _) a2 a3 a4 a5 hk (by rw [a1 r (by omega) (by omega)]; exact hc) (cJoin hb), fun vs ts => ?_⟩
  rw [rrun_app, rrun_app, c2]
  show ((rrun nv fv R2 vs (x :: ts)).bind _) = _
  rw [c4]
  apply rrun1
  rcases hb with ⟨e1, e2⟩ | ⟨e1, e2⟩ <;> subst e1 <;> subst e2 <;> rfl
theorem vsNot {N l m d : Nat} {cd : Nat → Int32} {R : List (Nat × Nat)} (h : BSeg N cd l m R d) (hd : 1 ≤ d) (hc : cd m = nI 30) : BSeg N cd l (m + 1) (R ++ [(20, 0)]) d := by
  obtain ⟨h0, h⟩ := h
  refine ⟨by omega, fun cd' st en nm row fe law nv fv e => ?_⟩
  obtain ⟨z, c1, c2⟩ := h cd' st en nm row fe law nv fv (e.sub (Nat.le_refl _) (by omega))
  obtain ⟨a1, ⟨E, a2, a3, a4⟩, a5, a6, a7⟩ := e
  refine ⟨!z, fun vs stack turn h1 h2 h3 => ?_, fun vs ts => ?_⟩
  · obtain ⟨q, stack', q1, q2, q3⟩ := c1 vs stack turn h1 h2 (by omega)
    obtain ⟨s1, s2, s3⟩ := q2
    refine ⟨q + 1, upd stack' vs.length (iI (b2i (!z))), by omega, s3.push (b2i_b _), fun n => ?_⟩
    rw [show n + (q + 1) = n + 1 + q by omega, q3, show turn + (q + 1) = turn + q + 1 by omega]
    have hcm : cd' m = nI 30 := by rw [a1 m (by omega) (by omega)]; exact hc
    exact vOne a2 (by omega) a4 a5 (by omega) (by omega) hcm s1 (Or.inr (Or.inr ⟨rfl, by cases z <;> decide⟩))
  · rw [rrun_app, c2]
    show rrun nv fv [(20, 0)] vs (z :: ts) = _
    exact rrun1 rfl
theorem vsChoice {N l m p r d1 d2 d3 d : Nat} {cd : Nat → Int32} {R1 R2 R3 : List (Nat × Nat)} (h1 : BSeg N cd l m R1 d1) (h2 : VSeg N cd (m + 1) p R2 d2) (h3 : VSeg N cd (p + 1) r R3 d3) (hd1 : d1 ≤ d) (hd2 : d2 ≤ d) (hd3 : d3 ≤ d) (hd0 : 1 ≤ d) (hc1 : cd m = nI ((p + 1) * 64 + 27)) (hc2 : cd p = nI (r * 64 + 28)) : VSeg N cd l r (R1 ++ R2 ++ R3 ++ [(4, 0)]) d := by
  obtain ⟨l1, h1⟩ := h1
  obtain ⟨l2, h2⟩ := h2
  obtain ⟨l3, h3⟩ := h3
  refine ⟨by omega, fun cd' st en nm row fe law nv fv e => ?_⟩
  obtain ⟨b, c1, c2⟩ := h1 cd' st en nm row fe law nv fv (e.sub (Nat.le_refl _) (by omega))
  obtain ⟨x, hx, c3, c4⟩ := h2 cd' st en nm row fe law nv fv (e.sub (by omega) (by omega))
  obtain ⟨y, hy, c5, c6⟩ := h3 cd' st en nm row fe law nv fv (e.sub (by omega) (by omega))
  obtain ⟨a1, ⟨E, a2, a3, a4⟩, a5, a6, a7⟩ := e
  have k1 : cd' m = nI ((p + 1) * 64 + 27) := by rw [a1 m (by omega) (by omega)]; exact hc1
  have k2 : cd' p = nI (r * 64 + 28) := by rw [a1 p (by omega) (by omega)]; exact hc2
  refine ⟨if b = true then x else y, by split <;> assumption, fun vs stack turn b1 b2 b3 => ?_, fun vs ts => ?_⟩
  · obtain ⟨q, stack1, q1, q2, q3⟩ := c1 vs stack turn b1 (by omega) (by omega)
    obtain ⟨s1, s2, s3⟩ := q2
    have tn := fun n => vThen (N := N) (n := n) (L := vs.length) (turn := turn + q) (st := st) (nm := nm) (row := row) (fe := fe) b a2 (show m < E by omega) a4 a5 (by omega) (by omega) (by omega) k1 s1
    cases b with
    | true =>
      rw [if_pos rfl] at tn
      rw [if_pos rfl]
      obtain ⟨u, stack2, u1, u2, u3⟩ := c3 vs stack1 (turn + q + 1) s3 (by omega) (by omega)
      refine ⟨q + 1 + u + 1, stack2, by omega, u2, fun n => ?_⟩
      rw [show n + (q + 1 + u + 1) = n + 1 + u + 1 + q by omega, q3, tn, u3, show turn + (q + 1 + u + 1) = turn + q + 1 + u + 1 by omega]
      exact vElse a2 (by omega) a4 a5 (by omega) (by omega) k2
    | false =>
      rw [if_neg (by decide)] at tn
      rw [if_neg (by decide)]
      obtain ⟨u, stack2, u1, u2, u3⟩ := c5 vs stack1 (turn + q + 1) s3 (by omega) (by omega)
      refine ⟨q + 1 + u, stack2, by omega, u2, fun n => ?_⟩
      rw [show n + (q + 1 + u) = n + u + 1 + q by omega, q3, tn, u3, show turn + (q + 1 + u) = turn + q + 1 + u by omega]
  · rw [rrun_app, rrun_app, rrun_app, c2]
    show (((rrun nv fv R2 vs (b :: ts)).bind _).bind _) = _
    rw [c4]
    show ((rrun nv fv R3 (x :: vs) (b :: ts)).bind _) = _
    rw [c6]
    show rrun nv fv [(4, 0)] (y :: x :: vs) (b :: ts) = _
    exact rrun1 rfl
