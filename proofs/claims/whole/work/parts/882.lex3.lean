section
variable {N L : Nat} {tp : Nat → Int32} {T : Nat → Nat}
theorem rSkip (h : RBy L tp T) {pl tk nu : Int32} {wd : Int64} : ∀ q n p, Bl T p (p + q) → p + q ≤ L → f_X12_nextToken_0 N (n + q) tp (nI L) (nI p) pl tk nu wd = f_X12_nextToken_0 N n tp (nI L) (nI (p + q)) pl tk nu wd := by
  have h1 := h.1
  intro q
  induction q with
  | zero => intro n p _ _; rfl
  | succ q ih =>
    intro n p hb hL
    have b1 := hb.2 p (by omega) (by omega)
    have by1 := rByte (N := N) h (a := p) (by omega)
    have tb := (h.2 p (by omega)).1
    rw [show p + (q + 1) = p + 1 + q by omega, ← ih n (p + 1) ⟨by omega, fun k k1 k2 => hb.2 k (by omega) (by omega)⟩ (by omega), show n + (q + 1) = n + q + 1 by omega, f_X12_nextToken_0]
    generalize f_X12_nextToken_0 N (n + q) = Kf
    unfold isB at b1
    rw [decide_eq_true_eq] at b1
    rcases b1 with c | c
    · simp (disch := omega) only [li, by1, c, f_X12_nextToken_26, nI_add, ob1_s, ↓reduceIte]
    · have c3 : (nI 10 = nI 32) = False := eq_false (by decide)
      simp (disch := omega) only [li, by1, c, c3, f_X12_nextToken_26, nI_add, ob1_s, ↓reduceIte]
theorem rEnd (h : RBy L tp T) (hN : 1000 ≤ N) {pl tk nu : Int32} {wd : Int64} {p : Nat} (hb : Bl T p L) : f_X12_nextToken N tp (nI L) (nI p) pl tk nu wd = some (nI L, nI L, nI 0, nu, wd) := by
  have h1 := h.1
  have hp := hb.1
  have sk := rSkip (N := N) (pl := pl) (tk := tk) (nu := nu) (wd := wd) h (L - p) (N - (L - p)) p (by rw [show p + (L - p) = L by omega]; exact hb) (by omega)
  rw [show N - (L - p) + (L - p) = N by omega, show p + (L - p) = L by omega] at sk
  unfold f_X12_nextToken
  rw [sk]
  obtain ⟨n, hn⟩ : ∃ n, N - (L - p) = n + 1 := ⟨N - (L - p) - 1, by omega⟩
  have by1 := rByteX (N := N) h (a := L) (Nat.le_refl _) (by omega)
  rw [hn, f_X12_nextToken_0]
  generalize f_X12_nextToken_0 N n = Kf
  have a1 : ¬ -nI 1 = nI 32 := by decide
  have a2 : ¬ -nI 1 = nI 10 := by decide
  have a3 : ¬ nI 0 ≤ -nI 1 := by decide
  simp only [li, by1, a1, a2, a3, ob1_s, ↓reduceIte]
theorem rLetX (h : RBy L tp T) {e : Nat} (he : e ≤ L) (hx : e = L ∨ isL (T e) = false) : ∃ r, f_X12_byteAt N tp (nI L) (nI e) = some r ∧ f_X12_isLetterByte N r = some (nI 0) := by
  have h1 := h.1
  rcases Nat.lt_or_ge e L with c | c
  · have hx : isL (T e) = false := by
      rcases hx with q | q
      · omega
      · exact q
    have g := rLetter (N := N) (h.2 e c).1
    rw [hx] at g
    exact ⟨_, rByte h c, g⟩
  · exact ⟨_, rByteX h c (by omega), by show f_X12_isLetterByte 0 (-nI 1) = _; decide +kernel⟩
theorem rDigX (h : RBy L tp T) {e : Nat} (he : e ≤ L) (hx : e = L ∨ isD (T e) = false) : ∃ r, f_X12_byteAt N tp (nI L) (nI e) = some r ∧ f_X12_isFigure N r = some (nI 0) := by
  have h1 := h.1
  rcases Nat.lt_or_ge e L with c | c
  · have hx : isD (T e) = false := by
      rcases hx with q | q
      · omega
      · exact q
    have g := rFigure (N := N) (h.2 e c).1
    rw [hx] at g
    exact ⟨_, rByte h c, g⟩
  · exact ⟨_, rByteX h c (by omega), by show f_X12_isFigure 0 (-nI 1) = _; decide +kernel⟩
theorem rWordL (h : RBy L tp T) {a e : Nat} {pl tk nu : Int32} (he : e ≤ L) (hl : ∀ k, a ≤ k → k < e → isL (T k) = true) (hx : e = L ∨ isL (T e) = false) : ∀ q n i, a + i + q = e → q < n → f_X12_nextToken_168 N n tp (nI L) (nI (a + i)) pl tk nu (lN (wv T a i)) = some (nI e, pl, tk, nu, lN (wv T a (e - a))) := by
  have h1 := h.1
  have h10 : (nI 1 = nI 0) = False := eq_false (by decide)
  intro q
  induction q with
  | zero =>
    intro n i e2 hn
    obtain ⟨n, rfl⟩ : ∃ m, n = m + 1 := ⟨n - 1, by omega⟩
    obtain ⟨r, r1, r2⟩ := rLetX (N := N) h he hx
    rw [show a + i = e by omega, show e - a = i by omega, f_X12_nextToken_168]
    generalize f_X12_nextToken_168 N n = Kf
    simp only [li, r1, r2, ob1_s, ↓reduceIte]
  | succ q ih =>
    intro n i e2 hn
    obtain ⟨n, rfl⟩ : ∃ m, n = m + 1 := ⟨n - 1, by omega⟩
    have by1 := rByte (N := N) h (a := a + i) (by omega)
    have tb := (h.2 (a + i) (by omega)).1
    have rl := rLetter (N := N) tb
    rw [if_pos (hl (a + i) (by omega) (by omega))] at rl
    have wb := wv_b (T := T) (a := a) i (fun j hj => (h.2 (a + j) (by omega)).1)
    have s48 : lN (wv T a i) >>> ((48 : Int32).toInt64 &&& 63) = lN (wv T a i / 281474976710656) := shr48 wb
    have c0 : (lg_cmp (lN (wv T a i / 281474976710656)) (lN 0) = nI 0) = (wv T a i / 281474976710656 = 0) := cmpN (by omega) (by omega)
    have g := ih n (i + 1) (by omega) (by omega)
    rw [show a + (i + 1) = a + i + 1 by omega, wv] at g
    rw [← g, f_X12_nextToken_168]
    generalize f_X12_nextToken_168 N n = Kf
    by_cases c : wv T a i / 281474976710656 = 0
    · rw [if_pos c]
      rw [c] at s48 c0
      have b8 := shl8' (w := wv T a i) tb
      have c0' : lg_cmp (lN 0) (0 : Int64) = 0 := by decide
      simp only [by1, rl, ob1_s]
      rw [if_neg (by decide), s48, if_pos c0', b8]
      simp only [f_X12_nextToken_218, li, nI_add]
    · rw [if_neg c]
      have c0' : ¬ lg_cmp (lN (wv T a i / 281474976710656)) (0 : Int64) = 0 := fun w => by
        have w : lg_cmp (lN (wv T a i / 281474976710656)) (lN 0) = nI 0 := w
        rw [c0] at w
        exact c w
      simp only [by1, rl, ob1_s]
      rw [if_neg (by decide), s48, if_neg c0']
      simp only [f_X12_nextToken_218, li, nI_add]
      rfl
theorem rNumL (h : RBy L tp T) {a e : Nat} {pl tk : Int32} {wd : Int64} (he : e ≤ L) (hl : ∀ k, a ≤ k → k < e → isD (T k) = true) (hx : e = L ∨ isD (T e) = false) : ∀ q n i, a + i + q = e → q < n → rv T a i < 2000000 → f_X12_nextToken_85 N n tp (nI L) (nI (a + i)) pl tk (nI (rv T a i)) wd = some (nI e, pl, tk, nI (rv T a (e - a)), wd) ∧ rv T a (e - a) < 2000000 := by
  have h1 := h.1
  have h10 : (nI 1 = nI 0) = False := eq_false (by decide)
  intro q
  induction q with
  | zero =>
    intro n i e2 hn hb
    obtain ⟨n, rfl⟩ : ∃ m, n = m + 1 := ⟨n - 1, by omega⟩
    obtain ⟨r, r1, r2⟩ := rDigX (N := N) h he hx
    rw [show a + i = e by omega, show e - a = i by omega, f_X12_nextToken_85]
    generalize f_X12_nextToken_85 N n = Kf
    refine ⟨?_, hb⟩
    simp only [li, r1, r2, ob1_s, ↓reduceIte]
  | succ q ih =>
    intro n i e2 hn hb
    obtain ⟨n, rfl⟩ : ∃ m, n = m + 1 := ⟨n - 1, by omega⟩
    have by1 := rByte (N := N) h (a := a + i) (by omega)
    have tb := (h.2 (a + i) (by omega)).1
    have rl := rFigure (N := N) tb
    have hd := hl (a + i) (by omega) (by omega)
    have db := isD_b hd
    rw [if_pos hd] at rl
    have hr : rv T a (i + 1) = if 99999 < rv T a i then rv T a i else 10 * rv T a i + (T (a + i) - 48) := rfl
    obtain ⟨g, g2⟩ := ih n (i + 1) (by omega) (by omega) (by rw [hr]; split <;> omega)
    refine ⟨?_, g2⟩
    rw [show a + (i + 1) = a + i + 1 by omega, hr] at g
    rw [← g, f_X12_nextToken_85]
    generalize f_X12_nextToken_85 N n = Kf
    by_cases c : 99999 < rv T a i
    · rw [if_pos c]
      simp (disch := omega) only [li, by1, rl, h10, nle_f, f_X12_nextToken_135, nI_add, ob1_s, ↓reduceIte]
    · rw [if_neg c]
      have e4 : nI 10 * nI (rv T a i) + nI (T (a + i)) - nI 48 = nI (10 * rv T a i + (T (a + i) - 48)) := by
        rw [pk_mul, nI_add, nsub (by omega)]
        congr 1; omega
      simp (disch := omega) only [li, by1, rl, h10, nle_t, f_X12_nextToken_135, e4, nI_add, ob1_s, ↓reduceIte]
def tS (c : Nat) (b : Bool) : Nat := if c = 60 then (if b = true then 4 else 60) else if c = 62 then (if b = true then 5 else 62) else if c = 35 ∨ c = 40 ∨ c = 41 ∨ c = 42 ∨ c = 43 ∨ c = 45 ∨ c = 47 ∨ c = 58 ∨ c = 59 ∨ c = 61 then c else 3
def tSp (c : Nat) (b : Bool) : Prop := sK c b ≤ 48 ∧ (sK c b ≠ 48 → tS c b = tkN (sK c b)) ∧ (sK c b = 48 → tS c b = 2 ∨ tS c b = 3 ∨ tS c b = 58) ∧ tS c b ≠ 1 ∧ tS c b ≠ 2 ∧ tS c b < 256 ∧ sK c b ≠ 0
def tSq (c : Nat) (b : Bool) : Bool := decide (sK c b ≤ 48) && decide (sK c b ≠ 48 → tS c b = tkN (sK c b)) && decide (sK c b = 48 → tS c b = 2 ∨ tS c b = 3 ∨ tS c b = 58) && decide (tS c b ≠ 1) && decide (tS c b ≠ 2) && decide (tS c b < 256) && decide (sK c b ≠ 0)
theorem tSq_s {c : Nat} {b : Bool} (h : tSq c b = true) : tSp c b := by
  unfold tSq at h
  simp only [Bool.and_eq_true, decide_eq_true_eq] at h
  obtain ⟨⟨⟨⟨⟨⟨h1, h2⟩, h3⟩, h4⟩, h5⟩, h6⟩, h7⟩ := h
  exact ⟨h1, h2, h3, h4, h5, h6, h7⟩
theorem tS_f : ∀ c, c < 256 → (isL c || isD c || isB c || (tSq c false && tSq c true)) = true := by decide +kernel
theorem tS_k (c : Nat) (h1 : c < 256) (h2 : isL c = false) (h3 : isD c = false) (h4 : isB c = false) (b : Bool) : tSp c b := by
  have g := tS_f c h1
  rw [h2, h3, h4, Bool.false_or, Bool.false_or, Bool.false_or, Bool.and_eq_true] at g
  cases b
  · exact tSq_s g.1
  · exact tSq_s g.2
theorem rSign' : ∀ c, c < 256 → f_X12_isSign 0 (nI c) = some (nI (if c = 60 ∨ c = 62 ∨ c = 35 ∨ c = 40 ∨ c = 41 ∨ c = 42 ∨ c = 43 ∨ c = 45 ∨ c = 47 ∨ c = 58 ∨ c = 59 ∨ c = 61 then 1 else 0)) := by decide +kernel
theorem w4n {b0 b1 b2 b3 : Nat} (h0 : b0 < 256) (h1 : b1 < 256) (h2 : b2 < 256) (h3 : b3 < 256) : f_X12_w4 N (nI b0) (nI b1) (nI b2) (nI b3) = some (lN (((b0 * 256 + b1) * 256 + b2) * 256 + b3)) := by
  simp only [f_X12_w4, f_X12_w3, f_X12_w2, nIl (show b0 < 2147483648 by omega), shl8' h1, shl8' h2, shl8' h3, ob1_s]
theorem w3n {b0 b1 b2 : Nat} (h0 : b0 < 256) (h1 : b1 < 256) (h2 : b2 < 256) : f_X12_w3 N (nI b0) (nI b1) (nI b2) = some (lN ((b0 * 256 + b1) * 256 + b2)) := by
  simp only [f_X12_w3, f_X12_w2, nIl (show b0 < 2147483648 by omega), shl8' h1, shl8' h2, ob1_s]
theorem mf0 {a : Nat} : MF T a 7 0 ↔ T a = 104 ∧ T (a + 1) = 117 ∧ T (a + 2) = 110 ∧ T (a + 3) = 103 ∧ T (a + 4) = 101 ∧ T (a + 5) = 114 ∧ T (a + 6) = 115 := by
  constructor
  · intro h
    exact ⟨h.2 0 (by omega), h.2 1 (by omega), h.2 2 (by omega), h.2 3 (by omega), h.2 4 (by omega), h.2 5 (by omega), h.2 6 (by omega)⟩
  · rintro ⟨h0, h1, h2, h3, h4, h5, h6⟩
    refine ⟨by decide, fun i hi => ?_⟩
    rcases (show i = 0 ∨ i = 1 ∨ i = 2 ∨ i = 3 ∨ i = 4 ∨ i = 5 ∨ i = 6 by omega) with e | e | e | e | e | e | e <;> subst e
    · exact h0
    · exact h1
    · exact h2
    · exact h3
    · exact h4
    · exact h5
    · exact h6
theorem rHung (h : RBy L tp T) {a e : Nat} (hae : a < e) (he : e ≤ L) (hl : ∀ k, a ≤ k → k < e → isL (T k) = true) : ∃ b, f_X12_isHungers N tp (nI L) (nI e) (nI a) (nI 2) = some (nI b) ∧ ((b = 1 ∧ MF T a (e - a) 0) ∨ (b = 0 ∧ ¬ MF T a (e - a) 0)) := by
  have h1 := h.1
  by_cases c7 : e - a = 7
  · rw [c7, mf0]
    have B : ∀ j, j < 7 → f_X12_byteAt N tp (nI L) (nI (a + j)) = some (nI (T (a + j))) ∧ T (a + j) < 256 := fun j hj => ⟨rByte h (by omega), (h.2 (a + j) (by omega)).1⟩
    obtain ⟨x0, y0⟩ := B 0 (by omega)
    obtain ⟨x1, y1⟩ := B 1 (by omega)
    obtain ⟨x2, y2⟩ := B 2 (by omega)
    obtain ⟨x3, y3⟩ := B 3 (by omega)
    obtain ⟨x4, y4⟩ := B 4 (by omega)
    obtain ⟨x5, y5⟩ := B 5 (by omega)
    obtain ⟨x6, y6⟩ := B 6 (by omega)
    rw [Nat.add_zero] at x0 y0
    have q1 := w4n (N := N) y0 y1 y2 y3
    have q2 := w4n (N := N) (b0 := 104) (b1 := 117) (b2 := 110) (b3 := 103) (by omega) (by omega) (by omega) (by omega)
    have q3 := w3n (N := N) y4 y5 y6
    have q4 := w3n (N := N) (b0 := 101) (b1 := 114) (b2 := 115) (by omega) (by omega) (by omega)
    have k1 := cmpN (a := ((T a * 256 + T (a + 1)) * 256 + T (a + 2)) * 256 + T (a + 3)) (b := ((104 * 256 + 117) * 256 + 110) * 256 + 103) (by omega) (by omega)
    have k2 := cmpN (a := (T (a + 4) * 256 + T (a + 5)) * 256 + T (a + 6)) (b := (101 * 256 + 114) * 256 + 115) (by omega) (by omega)
    have e7 : nI e - nI a = nI 7 := by rw [nsub (by omega), c7]
    by_cases c1 : ((T a * 256 + T (a + 1)) * 256 + T (a + 2)) * 256 + T (a + 3) = ((104 * 256 + 117) * 256 + 110) * 256 + 103
    · by_cases c2 : (T (a + 4) * 256 + T (a + 5)) * 256 + T (a + 6) = (101 * 256 + 114) * 256 + 115
      · refine ⟨1, ?_, Or.inl ⟨rfl, by omega⟩⟩
        have k1 := k1.symm ▸ c1
        have k2 := k2.symm ▸ c2
        simp only [f_X12_isHungers, li, e7, nI_add, x0, x1, x2, x3, x4, x5, x6, q1, q2, q3, q4, k1, k2, ob1_s, ↓reduceIte]
      · refine ⟨0, ?_, Or.inr ⟨rfl, fun w => c2 (by rw [w.2.2.2.2.1, w.2.2.2.2.2.1, w.2.2.2.2.2.2])⟩⟩
        have k1 := k1.symm ▸ c1
        have k2 : ¬ _ := k2.symm ▸ c2
        simp only [f_X12_isHungers, li, e7, nI_add, x0, x1, x2, x3, x4, x5, x6, q1, q2, q3, q4, k1, k2, ob1_s, ↓reduceIte]
    · refine ⟨0, ?_, Or.inr ⟨rfl, fun w => c1 (by rw [w.1, w.2.1, w.2.2.1, w.2.2.2.1])⟩⟩
      have k1 : ¬ _ := k1.symm ▸ c1
      simp only [f_X12_isHungers, li, e7, nI_add, x0, x1, x2, x3, q1, q2, k1, ob1_s, ↓reduceIte]
  · refine ⟨0, ?_, Or.inr ⟨rfl, fun w => c7 w.1⟩⟩
    simp (disch := omega) only [f_X12_isHungers, li, nsub, neq_f, ↓reduceIte]
theorem rHung0 {a e : Nat} {t : Nat} (ht : t ≠ 2) (hb : t < 256) : f_X12_isHungers N tp (nI L) (nI e) (nI a) (nI t) = some (nI 0) := by
  simp (disch := omega) only [f_X12_isHungers, li, neq_f, ↓reduceIte]
theorem rNextT (h : RBy L tp T) (hN : 1000 ≤ N) {p a e K Nu : Nat} (hb : Bl T p a) (hx : Lx L T K Nu a e) (pl tk nu : Int32) (wd : Int64) : ∃ tk' nu' wd', f_X12_nextToken N tp (nI L) (nI p) pl tk nu wd = some (nI e, nI a, tk', nu', wd') ∧ TKR K Nu tk' nu' wd' ∧ f_X12_isHungers N tp (nI L) (nI e) (nI a) tk' = some (nI (if K = 0 then 1 else 0)) := by
  have h1 := h.1
  have h10 : (nI 1 = nI 0) = False := eq_false (by decide)
  obtain ⟨ae, eL, bf, hx⟩ := hx
  have hp := hb.1
  have sk := rSkip (N := N) (pl := pl) (tk := tk) (nu := nu) (wd := wd) h (a - p) (N - (a - p)) p (by rw [show p + (a - p) = a by omega]; exact hb) (by omega)
  rw [show N - (a - p) + (a - p) = N by omega, show p + (a - p) = a by omega] at sk
  unfold f_X12_nextToken
  rw [sk]
  obtain ⟨n, hn⟩ : ∃ n, N - (a - p) = n + 1 := ⟨N - (a - p) - 1, by omega⟩
  have by1 := rByte (N := N) h (a := a) (by omega)
  have tb := (h.2 a (by omega)).1
  have rl := rLetter (N := N) tb
  have rd := rFigure (N := N) tb
  have b32 : T a ≠ 32 ∧ T a ≠ 10 := by
    clear hx
    unfold isB at bf
    rw [decide_eq_false_iff_not] at bf
    omega
  have a1 : (nI (T a) = nI 32) = False := neq_f b32.1 (by omega) (by omega)
  have a2 : (nI (T a) = nI 10) = False := neq_f b32.2 (by omega) (by omega)
  have a3 : (nI 0 ≤ nI (T a)) = True := nle_t (by omega) (by omega)
  rw [hn, f_X12_nextToken_0]
  generalize f_X12_nextToken_0 N n = Kf
  rcases hx with ⟨l1, l2, l3, l4, l5⟩ | ⟨l1, l2, l3, l4, l5, l6⟩ | ⟨l1, l2, b, l3, l4, l5, l6⟩
  · have nd : isD (T a) = false := by
      have := isL_b l1
      unfold isD
      rw [decide_eq_false_iff_not]
      omega
    rw [nd, if_neg (by decide)] at rd
    rw [if_pos l1] at rl
    have wl := rWordL (N := N) (pl := nI a) (tk := nI 2) (nu := nu) h eL l2 l3 (e - a) N 0 (by omega) (by omega)
    rw [Nat.add_zero] at wl
    have wl : f_X12_nextToken_168 N N tp (nI L) (nI a) (nI a) (nI 2) nu (0 : Int64) = some (nI e, nI a, nI 2, nu, lN (wv T a (e - a))) := wl
    have lt : ∀ i, i < e - a → 1 ≤ T (a + i) ∧ T (a + i) < 256 := fun i hi => by
      have := isL_b (l2 (a + i) (by omega) (by omega))
      omega
    refine ⟨nI 2, nu, lN (wv T a (e - a)), ?_, ⟨2, rfl, by omega, ?_, fun w => (by omega), fun _ => ⟨_, rfl, wv_b _ (fun i hi => (lt i hi).2), fun k hk => ?_⟩⟩, ?_⟩
    · simp only [li, by1, a1, a2, a3, rd, rl, h10, ob1_s, ↓reduceIte]
      exact wl
    · rcases l5 with ⟨q1, q2⟩ | ⟨q1, q2⟩
      · exact ⟨by omega, fun _ => by rw [tkN, if_pos q1], fun w => by omega⟩
      · exact ⟨by omega, fun w => absurd q1 w, fun _ => Or.inl rfl⟩
    · rw [wvMF hk (by omega) lt]
      rcases l5 with ⟨q1, q2⟩ | ⟨q1, q2⟩
      · constructor
        · intro w
          have e1 := (wvMF hk (by omega) lt).mpr w
          have e2 := (wvMF q1 (by omega) lt).mpr q2
          exact wc_inj K q1 k hk (by rw [← e1, ← e2])
        · intro w
          rw [← w]; exact q2
      · constructor
        · intro w; exact absurd w (q2 k hk)
        · intro w; omega
    · obtain ⟨b, g1, g2⟩ := rHung (N := N) h ae eL l2
      rw [g1]
      congr 2
      rcases l5 with ⟨q1, q2⟩ | ⟨q1, q2⟩
      · rcases g2 with ⟨b1, m0⟩ | ⟨b0, m0⟩
        · have e1 := (wvMF (k := 0) (by omega) (by omega) lt).mpr m0
          have e2 := (wvMF q1 (by omega) lt).mpr q2
          have := wc_inj K q1 0 (by omega) (by rw [← e1, ← e2])
          rw [if_pos this]; exact b1
        · rw [if_neg]
          · exact b0
          · intro w
            rw [w] at q2
            exact m0 q2
      · rw [if_neg (by omega)]
        rcases g2 with ⟨b1, m0⟩ | ⟨b0, m0⟩
        · exact absurd m0 (q2 0 (by omega))
        · exact b0
  · rw [l1, if_neg (by decide)] at rl
    rw [if_pos l2] at rd
    obtain ⟨nl, nb⟩ := rNumL (N := N) (pl := nI a) (tk := nI 1) (wd := wd) h eL l3 l4 (e - a) N 0 (by omega) (by omega) (by show 0 < 2000000; omega)
    rw [Nat.add_zero] at nl
    have nl : f_X12_nextToken_85 N N tp (nI L) (nI a) (nI a) (nI 1) (nI 0) wd = some (nI e, nI a, nI 1, nI (rv T a (e - a)), wd) := nl
    refine ⟨nI 1, nI (rv T a (e - a)), wd, ?_, ⟨1, rfl, by omega, ?_, fun _ => ⟨_, rfl, by omega, l6⟩, fun w => (by omega)⟩, ?_⟩
    · simp only [li, by1, a1, a2, a3, rd, h10, ob1_s, ↓reduceIte]
      exact nl
    · subst l5
      exact ⟨by omega, fun _ => by decide, fun w => by omega⟩
    · rw [rHung0 (by omega) (by omega), if_neg (by omega)]
  · rw [l1, if_neg (by decide)] at rl
    rw [l2, if_neg (by decide)] at rd
    obtain ⟨t1, t2, t3, t4, t5, t6, t7⟩ := tS_k (T a) tb l1 l2 bf b
    have sg : f_X12_isSign N (nI (T a)) = _ := rSign' (T a) tb
    subst l4
    have c64 : (nI 62 = nI 60) = False := eq_false (by decide)
    have go : ∃ nu' wd', (f_X12_nextToken_247 N tp (nI L) (nI a) (nI a) tk nu wd (nI (T a)) (if T a = 60 ∨ T a = 62 ∨ T a = 35 ∨ T a = 40 ∨ T a = 41 ∨ T a = 42 ∨ T a = 43 ∨ T a = 45 ∨ T a = 47 ∨ T a = 58 ∨ T a = 59 ∨ T a = 61 then nI (T a) else nI 3)) = some (nI e, nI a, nI (tS (T a) b), nu', wd') := by
      refine ⟨nu, wd, ?_⟩
      unfold f_X12_nextToken_247 f_X12_nextToken_272
      by_cases c6 : T a = 60 ∨ T a = 62
      · rw [if_pos (show T a = 60 ∨ T a = 62 ∨ T a = 35 ∨ T a = 40 ∨ T a = 41 ∨ T a = 42 ∨ T a = 43 ∨ T a = 45 ∨ T a = 47 ∨ T a = 58 ∨ T a = 59 ∨ T a = 61 by omega)]
        have cc : (nI (T a) = nI 60) ∨ (¬ nI (T a) = nI 60 ∧ nI (T a) = nI 62) := by
          rcases c6 with q | q
          · exact Or.inl (by rw [q])
          · exact Or.inr ⟨by rw [q]; decide, by rw [q]⟩
        cases b with
        | true =>
          obtain ⟨m1, m2⟩ := l3.mp rfl
          have by2 := rByte (N := N) h m1
          rw [m2] at by2
          rw [if_pos ⟨rfl, c6⟩] at l6
          subst l6
          rcases c6 with q | q
          · rw [q] at by1 ⊢
            simp only [li, nI_add, by2, f_X12_nextToken_297, tS, ob1_s, ↓reduceIte]
          · rw [q] at by1 ⊢
            simp only [li, nI_add, c64, by2, f_X12_nextToken_297, tS, ob1_s, ↓reduceIte, Nat.reduceEqDiff]
        | false =>
          rw [if_neg (fun w => (by cases w.1))] at l6
          rw [Nat.add_zero] at l6
          subst l6
          have nq : ¬ (a + 1 < L ∧ T (a + 1) = 61) := fun w => by have := l3.mpr w; cases this
          obtain ⟨r, r1, r2⟩ : ∃ r, f_X12_byteAt N tp (nI L) (nI (a + 1)) = some r ∧ ¬ r = nI 61 := by
            by_cases c : a + 1 < L
            · refine ⟨_, rByte h c, fun w => nq ⟨c, ?_⟩⟩
              have := (h.2 (a + 1) c).1
              rw [neq (by omega) (by omega)] at w
              exact w
            · exact ⟨_, rByteX h (by omega) (by omega), by decide⟩
          rcases c6 with q | q
          · rw [q] at by1 ⊢
            simp only [li, nI_add, r1, r2, tS, ob1_s, ↓reduceIte, Bool.false_eq_true]
          · rw [q] at by1 ⊢
            simp only [li, nI_add, c64, r1, r2, tS, ob1_s, ↓reduceIte, Nat.reduceEqDiff, Bool.false_eq_true]
      · have n60 : (nI (T a) = nI 60) = False := neq_f (by omega) (by omega) (by omega)
        have n62 : (nI (T a) = nI 62) = False := neq_f (by omega) (by omega) (by omega)
        rw [if_neg (fun w => c6 w.2), Nat.add_zero] at l6
        subst l6
        have es : (if T a = 60 ∨ T a = 62 ∨ T a = 35 ∨ T a = 40 ∨ T a = 41 ∨ T a = 42 ∨ T a = 43 ∨ T a = 45 ∨ T a = 47 ∨ T a = 58 ∨ T a = 59 ∨ T a = 61 then nI (T a) else nI 3) = nI (tS (T a) b) := by
          unfold tS
          rw [if_neg (show ¬ T a = 60 by omega), if_neg (show ¬ T a = 62 by omega)]
          by_cases q : T a = 35 ∨ T a = 40 ∨ T a = 41 ∨ T a = 42 ∨ T a = 43 ∨ T a = 45 ∨ T a = 47 ∨ T a = 58 ∨ T a = 59 ∨ T a = 61
          · rw [if_pos q, if_pos (show T a = 60 ∨ T a = 62 ∨ T a = 35 ∨ T a = 40 ∨ T a = 41 ∨ T a = 42 ∨ T a = 43 ∨ T a = 45 ∨ T a = 47 ∨ T a = 58 ∨ T a = 59 ∨ T a = 61 by omega)]
          · rw [if_neg q, if_neg (show ¬ (T a = 60 ∨ T a = 62 ∨ T a = 35 ∨ T a = 40 ∨ T a = 41 ∨ T a = 42 ∨ T a = 43 ∨ T a = 45 ∨ T a = 47 ∨ T a = 58 ∨ T a = 59 ∨ T a = 61) by omega)]
        rw [es]
        simp only [li, n60, n62, nI_add, ↓reduceIte]
    obtain ⟨nu', wd', go⟩ := go
    refine ⟨nI (tS (T a) b), nu', wd', ?_, ⟨_, rfl, t6, ⟨t1, t2, t3⟩, fun w => absurd w t4, fun w => absurd w t5⟩, ?_⟩
    · rw [← go]
      by_cases q : T a = 60 ∨ T a = 62 ∨ T a = 35 ∨ T a = 40 ∨ T a = 41 ∨ T a = 42 ∨ T a = 43 ∨ T a = 45 ∨ T a = 47 ∨ T a = 58 ∨ T a = 59 ∨ T a = 61
      · rw [if_pos q] at sg ⊢
        simp only [li, by1, a1, a2, a3, rd, rl, sg, h10, ob1_s, ↓reduceIte]
      · rw [if_neg q] at sg ⊢
        simp only [li, by1, a1, a2, a3, rd, rl, sg, ob1_s, ↓reduceIte]
    · rw [rHung0 t5 t6, if_neg t7]
/-- the reference stands at token i -/
def RLt (N L : Nat) (tp : Nat → Int32) (K Nu Pl En : Nat → Nat) : RLT := fun i at_ pl tk nu wd => at_ = nI (En i) ∧ pl = nI (Pl i) ∧ TKR (K i) (Nu i) tk nu wd ∧ f_X12_isHungers N tp (nI L) at_ pl tk = some (nI (if K i = 0 then 1 else 0))
theorem rTK (h : RBy L tp T) (hN : 1000 ≤ N) {n : Nat} {K Nu Pl En : Nat → Nat} (ht : Tks L T n K Nu Pl En) : TK N n K Nu Pl (RLt N L tp K Nu Pl En) tp (nI L) ∧ ∀ pl tk nu wd, ∃ at' pl' tk' nu' wd', f_X12_nextToken N tp (nI L) (nI 0) pl tk nu wd = some (at', pl', tk', nu', wd') ∧ RLt N L tp K Nu Pl En 0 at' pl' tk' nu' wd' := by
  have h1 := h.1
  obtain ⟨g1, g2, g3, g4, g5, g6, g7, g8⟩ := ht
  have step : ∀ i, i < n → ∀ pl tk nu wd, ∃ at' pl' tk' nu' wd', f_X12_nextToken N tp (nI L) (nI (pe En i)) pl tk nu wd = some (at', pl', tk', nu', wd') ∧ RLt N L tp K Nu Pl En i at' pl' tk' nu' wd' := by
    intro i hi pl tk nu wd
    rcases Nat.lt_or_ge (i + 1) n with c | c
    · obtain ⟨x1, x2⟩ := g8 i c
      obtain ⟨tk', nu', wd', y1, y2, y3⟩ := rNextT (N := N) h hN x2 x1 pl tk nu wd
      exact ⟨_, _, tk', nu', wd', y1, rfl, rfl, y2, y3⟩
    · have : i = n - 1 := by omega
      subst this
      refine ⟨_, _, _, _, _, rEnd h hN g7, by rw [g6], by rw [g5], ⟨0, rfl, by omega, ⟨by omega, fun _ => by rw [g3]; decide, fun w => by omega⟩, fun w => (by omega), fun w => (by omega)⟩, ?_⟩
      rw [rHung0 (by omega) (by omega), if_neg (by omega)]
  refine ⟨⟨g1, by omega, g3, fun i hi => ?_, fun i at_ pl tk nu wd hi hr => ⟨hr.2.1, hr.2.2.1, hr.2.2.2⟩, fun i at_ pl tk nu wd hi hr => ?_⟩, fun pl tk nu wd => step 0 (by omega) pl tk nu wd⟩
  · rcases Nat.lt_or_ge (i + 1) n with c | c
    · obtain ⟨⟨x1, x2, x3, x4⟩, -⟩ := g8 i c
      rcases x4 with ⟨l1, l2, l3, l4, l5⟩ | ⟨l1, l2, l3, l4, l5, l6⟩ | ⟨l1, l2, b, l3, l4, l5, l6⟩
      · refine ⟨by omega, fun _ => by omega, by omega, by omega, fun _ => l4⟩
      · refine ⟨by omega, fun _ => by omega, by omega, by omega, fun w => absurd l5 w⟩
      · obtain ⟨-, -, k3, k4, -, -, -, -, -, -, -, k12, k13⟩ := sgC_k (T (Pl i)) (h.2 (Pl i) (by omega)).1
        refine ⟨?_, fun _ => ?_, by omega, by omega, fun _ => l5⟩
        · rw [l4]; cases b
          · exact k3
          · exact k4
        · rw [l4]; cases b
          · exact k12
          · exact k13
    · have : i = n - 1 := by omega
      subst this
      exact ⟨by omega, fun w => by omega, by omega, by omega, fun _ => g4⟩
  · obtain ⟨r1, r2, r3, r4⟩ := hr
    obtain ⟨at', pl', tk', nu', wd', y1, y2⟩ := step (i + 1) hi pl tk nu wd
    have : pe En (i + 1) = En i := by unfold pe; rw [if_neg (by omega), Nat.add_sub_cancel]
    rw [this] at y1
    rw [r1]
    exact ⟨at', pl', tk', nu', wd', y1, y2⟩
end
