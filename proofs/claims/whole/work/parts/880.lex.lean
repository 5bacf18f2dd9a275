/-! bytes into tokens -/
def isB (c : Nat) : Bool := decide (c = 32 ∨ c = 10)
def isL (c : Nat) : Bool := decide ((97 ≤ c ∧ c ≤ 122) ∨ (65 ≤ c ∧ c ≤ 90))
def isD (c : Nat) : Bool := decide (48 ≤ c ∧ c ≤ 57)
def sb (c : Nat) : Int32 := (nI c).toInt8.toInt32
theorem sgb_b : ∀ c, c < 256 → f_X8_isBlank 0 (sb c) = some (nI (if isB c = true then 1 else 0)) ∧ f_X8_isLetter 0 (sb c) = some (nI (if isL c = true then 1 else 0)) ∧ f_X8_isDigit 0 (sb c) = some (nI (if isD c = true then 1 else 0)) ∧ (c < 128 → sb c = nI c) ∧ (sb c = nI 61 → c = 61) := by decide +kernel
theorem rb_b : ∀ c, c < 256 → f_X12_isLetterByte 0 (nI c) = some (nI (if isL c = true then 1 else 0)) ∧ f_X12_isFigure 0 (nI c) = some (nI (if isD c = true then 1 else 0)) := by decide +kernel
theorem cBlank {N c : Nat} (h : c < 256) : f_X8_isBlank N (sb c) = some (nI (if isB c = true then 1 else 0)) := (sgb_b c h).1
theorem cLetter {N c : Nat} (h : c < 256) : f_X8_isLetter N (sb c) = some (nI (if isL c = true then 1 else 0)) := (sgb_b c h).2.1
theorem cDigit {N c : Nat} (h : c < 256) : f_X8_isDigit N (sb c) = some (nI (if isD c = true then 1 else 0)) := (sgb_b c h).2.2.1
theorem rLetter {N c : Nat} (h : c < 256) : f_X12_isLetterByte N (nI c) = some (nI (if isL c = true then 1 else 0)) := (rb_b c h).1
theorem rFigure {N c : Nat} (h : c < 256) : f_X12_isFigure N (nI c) = some (nI (if isD c = true then 1 else 0)) := (rb_b c h).2
def sgC (r s : Int32) : Option Int32 := if r = (35 : Int32) then (some (38 : Int32)) else if r = (40 : Int32) then (some (43 : Int32)) else if r = (41 : Int32) then (some (44 : Int32)) else if r = (42 : Int32) then (some (41 : Int32)) else if r = (43 : Int32) then (some (39 : Int32)) else if r = (45 : Int32) then (some (40 : Int32)) else if r = (47 : Int32) then (some (42 : Int32)) else if r = (59 : Int32) then (some (45 : Int32)) else if r = (60 : Int32) then (if s = 0 then (some (35 : Int32)) else (some (33 : Int32))) else if r = (61 : Int32) then (some (37 : Int32)) else if r = (62 : Int32) then (if s = 0 then (some (36 : Int32)) else (some (34 : Int32))) else (some (48 : Int32))
def sK (c : Nat) (b : Bool) : Nat := if c = 35 then 38 else if c = 40 then 43 else if c = 41 then 44 else if c = 42 then 41 else if c = 43 then 39 else if c = 45 then 40 else if c = 47 then 42 else if c = 59 then 45 else if c = 60 then (if b = true then 33 else 35) else if c = 61 then 37 else if c = 62 then (if b = true then 34 else 36) else 48
theorem sgC_k : ∀ c, c < 256 → sgC (sb c) (nI 0) = some (nI (sK c false)) ∧ sgC (sb c) (nI 1) = some (nI (sK c true)) ∧ sK c false ≤ 48 ∧ sK c true ≤ 48 ∧ ((sK c true = 33 ∨ sK c true = 34) ↔ (c = 60 ∨ c = 62)) ∧ sK c false ≠ 33 ∧ sK c false ≠ 34 ∧ 33 ≤ sK c false ∧ 33 ≤ sK c true ∧ sK c false ≠ 46 ∧ sK c true ≠ 46 ∧ sK c false ≠ 47 ∧ sK c true ≠ 47 := by decide +kernel
def wN (j : Nat) : Nat := ([104, 117, 110, 103, 101, 114, 115, 32, 102, 105, 110, 100, 115, 32, 112, 114, 105, 99, 101, 32, 101, 97, 114, 110, 115, 32, 114, 111, 97, 100, 32, 112, 101, 114, 115, 111, 110, 32, 99, 97, 108, 108, 32, 109, 111, 118, 101, 32, 102, 101, 101, 100, 32, 107, 105, 108, 108, 32, 112, 97, 114, 100, 111, 110, 32, 108, 97, 110, 100, 32, 109, 111, 110, 116, 104, 32, 119, 104, 111, 32, 102, 101, 97, 114, 32, 102, 111, 114, 101, 115, 116, 32, 104, 117, 110, 103, 101, 114, 32, 111, 117, 116, 32, 103, 111, 111, 100, 115, 32, 100, 101, 98, 116, 115, 32, 99, 114, 111, 119, 100, 32, 116, 111, 32, 105, 110, 32, 98, 121, 32, 111, 110, 101, 115, 32, 102, 101, 97, 114, 115, 32, 105, 102, 32, 116, 104, 101, 110, 32, 101, 108, 115, 101, 32, 101, 110, 100, 32, 110, 111, 116, 32, 97, 110, 100, 32, 111, 114, 32] : List Nat).getD j 0
def fr (k : Nat) : Nat := ([0, 8, 14, 20, 26, 31, 38, 43, 48, 53, 58, 65, 70, 76, 80, 85, 92, 99, 103, 109, 115, 121, 124, 127, 130, 135, 141, 144, 149, 154, 158, 162, 166, 169] : List Nat).getD k 0
def ln (k : Nat) : Nat := fr (k + 1) - fr k - 1
theorem wN_F : ∀ j, j < 169 → wordsF j = nI (wN j) ∧ wN j < 128 := by decide +kernel
theorem wN_k : ∀ k, k < 33 → (∀ i, i < ln k → wN (fr k + i) ≠ 32 ∧ 1 ≤ wN (fr k + i)) ∧ wN (fr k + ln k) = 32 ∧ fr (k + 1) = fr k + ln k + 1 ∧ ln k ≤ 7 ∧ 2 ≤ ln k ∧ fr k + ln k < 169 := by decide +kernel
/-- the bytes from a on, m of them, are word k -/
def MF (T : Nat → Nat) (a m k : Nat) : Prop := m = ln k ∧ ∀ i, i < m → T (a + i) = wN (fr k + i)
def rv (T : Nat → Nat) (a : Nat) : Nat → Nat
  | 0 => 0
  | k + 1 => if 99999 < rv T a k then rv T a k else 10 * rv T a k + (T (a + k) - 48)
/-- one token, from a to e -/
def Lx (L : Nat) (T : Nat → Nat) (K Nu a e : Nat) : Prop :=
  a < e ∧ e ≤ L ∧ isB (T a) = false ∧
  ((isL (T a) = true ∧ (∀ k, a ≤ k → k < e → isL (T k) = true) ∧ (e = L ∨ isL (T e) = false) ∧ Nu = 0 ∧ ((K < 33 ∧ MF T a (e - a) K) ∨ (K = 48 ∧ ∀ k, k < 33 → ¬ MF T a (e - a) k))) ∨
   (isL (T a) = false ∧ isD (T a) = true ∧ (∀ k, a ≤ k → k < e → isD (T k) = true) ∧ (e = L ∨ isD (T e) = false) ∧ K = 46 ∧ Nu = min (rv T a (e - a)) 10000) ∨
   (isL (T a) = false ∧ isD (T a) = false ∧ ∃ b : Bool, (b = true ↔ (a + 1 < L ∧ T (a + 1) = 61)) ∧ K = sK (T a) b ∧ Nu = 0 ∧ e = a + 1 + (if b = true ∧ (T a = 60 ∨ T a = 62) then 1 else 0)))
section
variable {N L : Nat} {by_ : Nat → Int32} {T : Nat → Nat}
/-- the class's bytes -/
def CBy (L : Nat) (by_ : Nat → Int32) (T : Nat → Nat) : Prop := L ≤ 300 ∧ ∀ i, i < L → T i < 256 ∧ by_ i = sb (T i)
theorem cByte (h : CBy L by_ T) {a : Nat} (ha : a < L) : f_X8_byteAt N (nI L) by_ (nI a) = some (sb (T a)) := by
  have h1 := h.1
  have h2 := (h.2 a ha).2
  simp (maxSteps := 1000000) (disch := omega) only [li, ob1_s, ob2_s, ob3_s, ob4_s, ob5_s, ob6_s, ob7_s, gA_n, gL_n, sA_n, sL_n, cpI_n, nI_add, pk_mul, nsub, nlt_t, nlt_f, nle_t, nle_f, neq_t, neq_f, rmI_n, dvI_n, upd_ne, upd_eq, un_ne, un_eq, Nat.add_zero, Bool.false_eq_true, ↓reduceIte, f_X8_byteAt, h2]
theorem cByteX (h : CBy L by_ T) {a : Nat} (ha : L ≤ a) (hb : a < 1000) : f_X8_byteAt N (nI L) by_ (nI a) = some (-nI 1) := by
  simp (maxSteps := 1000000) (disch := omega) only [li, ob1_s, ob2_s, ob3_s, ob4_s, ob5_s, ob6_s, ob7_s, gA_n, gL_n, sA_n, sL_n, cpI_n, nI_add, pk_mul, nsub, nlt_t, nlt_f, nle_t, nle_f, neq_t, neq_f, rmI_n, dvI_n, upd_ne, upd_eq, un_ne, un_eq, Nat.add_zero, Bool.false_eq_true, ↓reduceIte, f_X8_byteAt]
theorem isL_b {c : Nat} (h : isL c = true) : 65 ≤ c ∧ c < 128 := by
  unfold isL at h
  rw [decide_eq_true_eq] at h
  omega
theorem isD_b {c : Nat} (h : isD c = true) : 48 ≤ c ∧ c ≤ 57 := by
  unfold isD at h
  rw [decide_eq_true_eq] at h
  omega
theorem cSpells (h : CBy L by_ T) (hN : 1000 ≤ N) {a m k : Nat} (hk : k < 33) (hm : m = ln k) (hL : a + m ≤ L) (hl : ∀ j, a ≤ j → j < a + m → isL (T j) = true) : ∃ b, f_X8_spells N (nI L) by_ (nI a) (nI (fr k)) (nI m) = some (nI b) ∧ ((b = 1 ∧ MF T a m k) ∨ (b = 0 ∧ ¬ MF T a m k)) := by
  have h1 := h.1
  obtain ⟨w1, w2, w3, w4, w5, w6⟩ := wN_k k hk
  have key : ∀ q n i, i + q = m → q < n → (∀ j, j < i → T (a + j) = wN (fr k + j)) → ∃ b, f_X8_spells_3 N n (nI L) by_ (nI a) (nI (fr k)) (nI m) (nI i) = some (nI b) ∧ ((b = 1 ∧ MF T a m k) ∨ (b = 0 ∧ ¬ MF T a m k)) := by
    intro q
    induction q with
    | zero =>
      intro n i e hn hi
      obtain ⟨n, rfl⟩ : ∃ m, n = m + 1 := ⟨n - 1, by omega⟩
      refine ⟨1, ?_, Or.inl ⟨rfl, hm, fun j hj => hi j (by omega)⟩⟩
      rw [f_X8_spells_3]
      generalize f_X8_spells_3 N n = Kf
      simp (disch := omega) only [li, nle_t, ↓reduceIte]
    | succ q ih =>
      intro n i e hn hi
      obtain ⟨n, rfl⟩ : ∃ m, n = m + 1 := ⟨n - 1, by omega⟩
      have by1 := cByte (N := N) h (a := a + i) (by omega)
      have li1 := isL_b (hl (a + i) (by omega) (by omega))
      have sb1 := (sgb_b (T (a + i)) (by omega)).2.2.2.1 (by omega)
      obtain ⟨f1, f2⟩ := wN_F (fr k + i) (by omega)
      by_cases c : T (a + i) = wN (fr k + i)
      · obtain ⟨b, g1, g2⟩ := ih n (i + 1) (by omega) (by omega) (fun j hj => by
          by_cases w : j = i
          · subst w; exact c
          · exact hi j (by omega))
        refine ⟨b, ?_, g2⟩
        rw [← g1, f_X8_spells_3]
        generalize f_X8_spells_3 N n = Kf
        rw [sb1, c] at by1
        simp (disch := omega) only [li, nle_f, nI_add, gA_n, f1, by1, ob1_s, ↓reduceIte]
      · refine ⟨0, ?_, Or.inr ⟨rfl, fun q => c (q.2 i (by omega))⟩⟩
        rw [f_X8_spells_3]
        generalize f_X8_spells_3 N n = Kf
        simp (disch := omega) only [li, nle_f, nI_add, gA_n, f1, by1, sb1, neq_f, ob1_s, ↓reduceIte]
  exact key m N 0 (by omega) (by omega) (fun j hj => by omega)
theorem cWordOf (h : CBy L by_ T) (hN : 1000 ≤ N) {a e : Nat} (hae : a < e) (heL : e ≤ L) (hl : ∀ j, a ≤ j → j < e → isL (T j) = true) : ∃ K, f_X8_wordOf N (nI L) by_ (nI a) (nI e) = some (nI K) ∧ ((K < 33 ∧ MF T a (e - a) K) ∨ (K = 48 ∧ ∀ k, k < 33 → ¬ MF T a (e - a) k)) := by
  have h1 := h.1
  have f33 : fr 33 = 169 := by decide
  -- letters are passed over
  have skip : ∀ q n k i, k < 33 → i + q = fr k + ln k → fr k ≤ i → f_X8_wordOf_8 N (n + q) (nI L) by_ (nI a) (nI e) (nI k) (nI (fr k)) (nI i) = f_X8_wordOf_8 N n (nI L) by_ (nI a) (nI e) (nI k) (nI (fr k)) (nI (fr k + ln k)) := by
    intro q
    induction q with
    | zero =>
      intro n k i hk e2 hi
      rw [show i = fr k + ln k by omega]; rfl
    | succ q ih =>
      intro n k i hk e2 hi
      obtain ⟨w1, w2, w3, w4, w5, w6⟩ := wN_k k hk
      obtain ⟨v1, v2⟩ := w1 (i - fr k) (by omega)
      rw [show fr k + (i - fr k) = i by omega] at v1
      obtain ⟨f1, f2⟩ := wN_F i (by omega)
      rw [← ih n k (i + 1) hk (by omega) (by omega), show n + (q + 1) = n + q + 1 by omega, f_X8_wordOf_8]
      generalize f_X8_wordOf_8 N (n + q) = Kf
      simp (disch := omega) only [li, nle_f, gA_n, f1, neq_f, f_X8_wordOf_70, nI_add, ↓reduceIte]
  have key : ∀ d k n, k + d = 33 → 400 - fr k ≤ n → fr k ≤ 169 → (∀ j, j < k → ¬ MF T a (e - a) j) → ∃ K, f_X8_wordOf_8 N n (nI L) by_ (nI a) (nI e) (nI k) (nI (fr k)) (nI (fr k)) = some (nI K) ∧ ((K < 33 ∧ MF T a (e - a) K) ∨ (K = 48 ∧ ∀ k, k < 33 → ¬ MF T a (e - a) k)) := by
    intro d
    induction d with
    | zero =>
      intro k n e2 hn hf hj
      have : k = 33 := by omega
      subst this
      obtain ⟨n, rfl⟩ : ∃ m, n = m + 1 := ⟨n - 1, by omega⟩
      refine ⟨48, ?_, Or.inr ⟨rfl, hj⟩⟩
      rw [f33, f_X8_wordOf_8]
      generalize f_X8_wordOf_8 N n = Kf
      simp (disch := omega) only [li, nle_t, ↓reduceIte]
    | succ d ih =>
      intro k n e2 hn hf hj
      obtain ⟨w1, w2, w3, w4, w5, w6⟩ := wN_k k (by omega)
      obtain ⟨n, rfl⟩ : ∃ m, n = m + 1 + ln k := ⟨n - 1 - ln k, by omega⟩
      obtain ⟨f1, f2⟩ := wN_F (fr k + ln k) (by omega)
      rw [w2] at f1
      rw [skip (ln k) (n + 1) k (fr k) (by omega) (by omega) (Nat.le_refl _)]
      have e3 : fr k + ln k - fr k = ln k := by omega
      have on : ¬ MF T a (e - a) k → ∃ K, f_X8_wordOf_8 N n (nI L) by_ (nI a) (nI e) (nI (k + 1)) (nI (fr (k + 1))) (nI (fr (k + 1))) = some (nI K) ∧ ((K < 33 ∧ MF T a (e - a) K) ∨ (K = 48 ∧ ∀ k, k < 33 → ¬ MF T a (e - a) k)) := fun hm => ih (k + 1) n (by omega) (by omega) (by omega) (fun j hj2 => by
        by_cases w : j = k
        · subst w; exact hm
        · exact hj j (by omega))
      rw [w3] at on
      rw [f_X8_wordOf_8]
      by_cases hm : e - a = ln k
      · obtain ⟨b, s1, s2⟩ := cSpells h hN (a := a) (m := ln k) (k := k) (by omega) rfl (by omega) (fun j j1 j2 => hl j j1 (by omega))
        rcases s2 with ⟨b1, s2⟩ | ⟨b0, s2⟩
        · subst b1
          refine ⟨k, ?_, Or.inl ⟨by omega, by rw [hm]; exact s2⟩⟩
          generalize f_X8_wordOf_8 N n = Kf
          simp (disch := omega) only [li, nle_f, gA_n, f1, nsub, e3, hm, s1, neq_f, ob1_s, ↓reduceIte]
        · subst b0
          obtain ⟨K, g1, g2⟩ := on (by rw [hm]; exact s2)
          refine ⟨K, ?_, g2⟩
          rw [← g1]
          generalize f_X8_wordOf_8 N n = Kf
          simp (disch := omega) only [li, nle_f, gA_n, f1, nsub, e3, hm, s1, f_X8_wordOf_61, f_X8_wordOf_70, nI_add, ob1_s, ↓reduceIte]
      · obtain ⟨K, g1, g2⟩ := on (fun q => hm q.1)
        refine ⟨K, ?_, g2⟩
        rw [← g1]
        generalize f_X8_wordOf_8 N n = Kf
        simp (disch := omega) only [li, nle_f, gA_n, f1, nsub, e3, neq_f, f_X8_wordOf_61, f_X8_wordOf_70, nI_add, ↓reduceIte]
  exact key 33 0 N (by omega) (by omega) (by decide) (fun j hj => by omega)
theorem cTPut {tok p q r : Nat} {ki pl nu : Nat → Int32} (ht : tok ≤ 300) : f_X8_put N (nI tok) ki pl nu (nI p) (nI q) (nI r) = some (nI (tok + 1), upd ki tok (nI p), upd pl tok (nI q), upd nu tok (nI r)) := by
  simp (maxSteps := 1000000) (disch := omega) only [li, ob1_s, ob2_s, ob3_s, ob4_s, ob5_s, ob6_s, ob7_s, gA_n, gL_n, sA_n, sL_n, cpI_n, nI_add, pk_mul, nsub, nlt_t, nlt_f, nle_t, nle_f, neq_t, neq_f, rmI_n, dvI_n, upd_ne, upd_eq, un_ne, un_eq, Nat.add_zero, Bool.false_eq_true, ↓reduceIte, f_X8_put]
theorem rv_b (T : Nat → Nat) (a : Nat) (hT : ∀ k, T (a + k) < 256) : ∀ k, rv T a k < 2000000 := by
  intro k
  induction k with
  | zero => unfold rv; omega
  | succ k ih =>
    unfold rv
    have := hT k
    split <;> omega
theorem cCut1 (h : CBy L by_ T) (hN : 1000 ≤ N) {a tok : Nat} {ki pl nu : Nat → Int32} (ha : a < L) (hb : isB (T a) = false) (ht : tok ≤ 300) : ∃ K Nu e, Lx L T K Nu a e ∧ f_X8_cutToken N (nI L) (nI tok) by_ ki pl nu (nI a) = some (nI e, nI (tok + 1), upd ki tok (nI K), upd pl tok (nI a), upd nu tok (nI Nu)) := by
  have h1 := h.1
  have tb := (h.2 a ha).1
  have by1 := cByte (N := N) h ha
  have cl := cLetter (N := N) tb
  have cdg := cDigit (N := N) tb
  have h10 : (nI 1 = nI 0) = False := eq_false (by decide)
  by_cases hl : isL (T a) = true
  · rw [if_pos hl] at cl
    have key : ∀ q n e, e + q = L → q < n → a < e → (∀ k, a ≤ k → k < e → isL (T k) = true) → ∃ K e', Lx L T K 0 a e' ∧ f_X8_cutToken_17 N n (nI L) (nI tok) by_ ki pl nu (nI a) (nI e) = some (nI e', nI (tok + 1), upd ki tok (nI K), upd pl tok (nI a), upd nu tok (nI 0)) := by
      intro q
      induction q with
      | zero =>
        intro n e e2 hn hae hk
        obtain ⟨n, rfl⟩ : ∃ m, n = m + 1 := ⟨n - 1, by omega⟩
        have : e = L := by omega
        subst this
        obtain ⟨K, w1, w2⟩ := cWordOf h hN hae (Nat.le_refl _) hk
        refine ⟨K, e, ⟨hae, Nat.le_refl _, hb, Or.inl ⟨hl, hk, Or.inl rfl, rfl, w2⟩⟩, ?_⟩
        have pt := cTPut (N := N) (p := K) (q := a) (r := 0) (ki := ki) (pl := pl) (nu := nu) ht
        rw [f_X8_cutToken_17]
        generalize f_X8_cutToken_17 N n = Kf
        simp (disch := omega) only [li, nle_t, f_X8_cutToken_42, w1, pt, ob1_s, ob4_s, ↓reduceIte]
      | succ q ih =>
        intro n e e2 hn hae hk
        obtain ⟨n, rfl⟩ : ∃ m, n = m + 1 := ⟨n - 1, by omega⟩
        have te := (h.2 e (by omega)).1
        have bye := cByte (N := N) h (a := e) (by omega)
        have cle := cLetter (N := N) te
        by_cases hle : isL (T e) = true
        · rw [if_pos hle] at cle
          obtain ⟨K, e', g1, g2⟩ := ih n (e + 1) (by omega) (by omega) (by omega) (fun k k1 k2 => by
            by_cases w : k = e
            · subst w; exact hle
            · exact hk k k1 (by omega))
          refine ⟨K, e', g1, ?_⟩
          rw [← g2, f_X8_cutToken_17]
          generalize f_X8_cutToken_17 N n = Kf
          simp (disch := omega) only [li, nle_f, bye, cle, h10, nI_add, ob1_s, ↓reduceIte]
        · rw [if_neg hle] at cle
          obtain ⟨K, w1, w2⟩ := cWordOf h hN hae (by omega) hk
          refine ⟨K, e, ⟨hae, by omega, hb, Or.inl ⟨hl, hk, Or.inr (Bool.eq_false_iff.mpr hle), rfl, w2⟩⟩, ?_⟩
          have pt := cTPut (N := N) (p := K) (q := a) (r := 0) (ki := ki) (pl := pl) (nu := nu) ht
          rw [f_X8_cutToken_17]
          generalize f_X8_cutToken_17 N n = Kf
          simp (disch := omega) only [li, nle_f, bye, cle, f_X8_cutToken_42, w1, pt, ob1_s, ob4_s, ↓reduceIte]
    obtain ⟨K, e, g1, g2⟩ := key (L - (a + 1)) N (a + 1) (by omega) (by omega) (by omega) (fun k k1 k2 => by rw [show k = a by omega]; exact hl)
    refine ⟨K, 0, e, g1, ?_⟩
    rw [← g2]
    simp (disch := omega) only [f_X8_cutToken, li, by1, cl, h10, nI_add, ob1_s, ↓reduceIte]
  rw [if_neg hl] at cl
  have hl0 := Bool.eq_false_iff.mpr hl
  by_cases hd : isD (T a) = true
  · rw [if_pos hd] at cdg
    have key : ∀ q n e, e + q = L → q < n → a < e → (∀ k, a ≤ k → k < e → isD (T k) = true) → ∃ Nu e', Lx L T 46 Nu a e' ∧ f_X8_cutToken_70 N n (nI L) (nI tok) by_ ki pl nu (nI a) (nI e) (nI (min (rv T a (e - a)) 10000)) = some (nI e', nI (tok + 1), upd ki tok (nI 46), upd pl tok (nI a), upd nu tok (nI Nu)) := by
      intro q
      induction q with
      | zero =>
        intro n e e2 hn hae hk
        obtain ⟨n, rfl⟩ : ∃ m, n = m + 1 := ⟨n - 1, by omega⟩
        have : e = L := by omega
        subst this
        refine ⟨min (rv T a (e - a)) 10000, e, ⟨hae, Nat.le_refl _, hb, Or.inr (Or.inl ⟨hl0, hd, hk, Or.inl rfl, rfl, rfl⟩)⟩, ?_⟩
        have pt := cTPut (N := N) (p := 46) (q := a) (r := min (rv T a (e - a)) 10000) (ki := ki) (pl := pl) (nu := nu) ht
        rw [f_X8_cutToken_70]
        generalize f_X8_cutToken_70 N n = Kf
        simp (disch := omega) only [li, nle_t, f_X8_cutToken_117, pt, ob4_s, ↓reduceIte]
      | succ q ih =>
        intro n e e2 hn hae hk
        obtain ⟨n, rfl⟩ : ∃ m, n = m + 1 := ⟨n - 1, by omega⟩
        have te := (h.2 e (by omega)).1
        have bye := cByte (N := N) h (a := e) (by omega)
        have cle := cDigit (N := N) te
        by_cases hle : isD (T e) = true
        · rw [if_pos hle] at cle
          obtain ⟨Nu, e', g1, g2⟩ := ih n (e + 1) (by omega) (by omega) (by omega) (fun k k1 k2 => by
            by_cases w : k = e
            · subst w; exact hle
            · exact hk k k1 (by omega))
          refine ⟨Nu, e', g1, ?_⟩
          have db := isD_b hle
          have sb1 := (sgb_b (T e) (by omega)).2.2.2.1 (by omega)
          have e3 : rv T a (e + 1 - a) = if 99999 < rv T a (e - a) then rv T a (e - a) else 10 * rv T a (e - a) + (T e - 48) := by
            rw [show e + 1 - a = (e - a) + 1 by omega, rv, show a + (e - a) = e by omega]
          have e4 : mnI (nI (min (rv T a (e - a)) 10000) * nI 10 + nI (T e) - nI 48) (nI 10000) = nI (min (rv T a (e + 1 - a)) 10000) := by
            rw [pk_mul, nI_add, nsub (by omega), mnI_n (by omega) (by omega), e3]
            congr 1
            by_cases c : 99999 < rv T a (e - a)
            · rw [if_pos c]; omega
            · rw [if_neg c]; omega
          rw [← g2, f_X8_cutToken_70]
          generalize f_X8_cutToken_70 N n = Kf
          rw [sb1] at bye cle
          simp (disch := omega) only [li, nle_f, bye, cle, h10, ob1_s, ↓reduceIte, e4, nI_add]
        · rw [if_neg hle] at cle
          refine ⟨min (rv T a (e - a)) 10000, e, ⟨hae, by omega, hb, Or.inr (Or.inl ⟨hl0, hd, hk, Or.inr (Bool.eq_false_iff.mpr hle), rfl, rfl⟩)⟩, ?_⟩
          have pt := cTPut (N := N) (p := 46) (q := a) (r := min (rv T a (e - a)) 10000) (ki := ki) (pl := pl) (nu := nu) ht
          rw [f_X8_cutToken_70]
          generalize f_X8_cutToken_70 N n = Kf
          simp (disch := omega) only [li, nle_f, bye, cle, f_X8_cutToken_117, pt, ob1_s, ob4_s, ↓reduceIte]
    obtain ⟨Nu, e, g1, g2⟩ := key (L - (a + 1)) N (a + 1) (by omega) (by omega) (by omega) (fun k k1 k2 => by rw [show k = a by omega]; exact hd)
    refine ⟨46, Nu, e, g1, ?_⟩
    have db := isD_b hd
    have sb1 := (sgb_b (T a) (by omega)).2.2.2.1 (by omega)
    have e5 : min (rv T a (a + 1 - a)) 10000 = T a - 48 := by
      rw [show a + 1 - a = 0 + 1 by omega, rv, rv, if_neg (by omega), Nat.add_zero]
      omega
    rw [e5] at g2
    rw [← g2]
    rw [sb1] at by1 cl cdg
    simp (disch := omega) only [f_X8_cutToken, li, by1, cl, cdg, h10, nI_add, nsub, ob1_s, ↓reduceIte]
  · rw [if_neg hd] at cdg
    have hd0 := Bool.eq_false_iff.mpr hd
    obtain ⟨k1, k2, k3, k4, k5, k6, k7, k8, k9, k10, k11, k12, k13⟩ := sgC_k (T a) tb
    have sg17 : ∀ s : Int32, f_X8_signAt_17 N (nI L) by_ (nI a) s = sgC (sb (T a)) s := fun s => by
      unfold f_X8_signAt_17
      rw [by1]; rfl
    by_cases hq : a + 1 < L ∧ T (a + 1) = 61
    · have by2 := cByte (N := N) h hq.1
      have sb2 : sb (T (a + 1)) = nI 61 := by rw [hq.2]; decide
      have sa : f_X8_signAt N (nI L) by_ (nI a) = some (nI (sK (T a) true)) := by
        unfold f_X8_signAt
        simp only [li, nI_add, by2, sb2, ob1_s, ↓reduceIte, sg17, k2]
      have pt := cTPut (N := N) (p := sK (T a) true) (q := a) (r := 0) (ki := ki) (pl := pl) (nu := nu) ht
      by_cases c6 : T a = 60 ∨ T a = 62
      · refine ⟨sK (T a) true, 0, a + 1 + 1, ⟨by omega, by omega, hb, Or.inr (Or.inr ⟨hl0, hd0, true, ⟨fun _ => hq, fun _ => rfl⟩, rfl, rfl, by rw [if_pos ⟨rfl, c6⟩]⟩)⟩, ?_⟩
        rcases k5.mpr c6 with c | c
        · rw [c] at sa pt ⊢
          simp only [f_X8_cutToken, f_X8_cutToken_159, f_X8_cutToken_164, li, by1, cl, cdg, sa, pt, nI_add, ob1_s, ob4_s, ↓reduceIte]
        · rw [c] at sa pt ⊢
          have c34 : (nI 34 = nI 33) = False := eq_false (by decide)
          simp only [f_X8_cutToken, f_X8_cutToken_159, f_X8_cutToken_164, li, by1, cl, cdg, sa, pt, c34, nI_add, ob1_s, ob4_s, ↓reduceIte]
      · refine ⟨sK (T a) true, 0, a + 1, ⟨by omega, by omega, hb, Or.inr (Or.inr ⟨hl0, hd0, true, ⟨fun _ => hq, fun _ => rfl⟩, rfl, rfl, by rw [if_neg (fun w => c6 w.2)]⟩)⟩, ?_⟩
        have c33 : sK (T a) true ≠ 33 := fun w => c6 (k5.mp (Or.inl w))
        have c34 : sK (T a) true ≠ 34 := fun w => c6 (k5.mp (Or.inr w))
        simp (disch := omega) only [f_X8_cutToken, f_X8_cutToken_164, li, by1, cl, cdg, sa, pt, neq_f, nI_add, Nat.add_zero, ob1_s, ob4_s, ↓reduceIte]
    · have sa : f_X8_signAt N (nI L) by_ (nI a) = some (nI (sK (T a) false)) := by
        unfold f_X8_signAt
        by_cases c : a + 1 < L
        · have by2 := cByte (N := N) h c
          have sb2 : ¬ sb (T (a + 1)) = nI 61 := fun w => hq ⟨c, (sgb_b (T (a + 1)) (h.2 (a + 1) c).1).2.2.2.2 w⟩
          simp only [li, nI_add, by2, sb2, ob1_s, ↓reduceIte, sg17, k1]
        · have by2 := cByteX (N := N) h (a := a + 1) (by omega) (by omega)
          have sb2 : ¬ -nI 1 = nI 61 := by decide
          simp only [li, nI_add, by2, sb2, ob1_s, ↓reduceIte, sg17, k1]
      have pt := cTPut (N := N) (p := sK (T a) false) (q := a) (r := 0) (ki := ki) (pl := pl) (nu := nu) ht
      refine ⟨sK (T a) false, 0, a + 1, ⟨by omega, by omega, hb, Or.inr (Or.inr ⟨hl0, hd0, false, ⟨fun w => (by cases w), fun w => absurd w hq⟩, rfl, rfl, by rw [if_neg (fun w => (by cases w.1))]⟩)⟩, ?_⟩
      simp (disch := omega) only [f_X8_cutToken, f_X8_cutToken_164, li, by1, cl, cdg, sa, pt, neq_f, nI_add, Nat.add_zero, ob1_s, ob4_s, ↓reduceIte]
end
