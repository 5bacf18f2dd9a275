/-- the class's table is full -/
theorem cTable {N start kk : Nat} {dn : Int32} {df dr : Nat → Int32} {calls : Int32} {cl : Nat → Int32} {S : Nat → Nat} {g1 g2 g3 : Int32} {e0 b0 : Nat → Int32} (hL : LandT dn df dr S) (hQ : CallsT calls cl S) (hN : 1000 ≤ N) (hs : start < S 0) (hc : 0 < S 5) :
    ∃ e b : Nat → Int32, f_X10_countInCrowd N g1 g2 g3 e0 b0 dn dr calls cl (nI start) (nI kk) = f_X10_countInCrowd_146 N g1 g2 g3 e b dn dr calls cl (nI kk) ∧ ∀ i, i < 256 → e i = nI (cnc S (fun i => S (96 + i)) start (S 5 - 1) (i / 32) (i % 32)) := by
  have hL0 := hL
  have hQ0 := hQ
  obtain ⟨h1, h8, h3, h4, h5, h6⟩ := id hL
  obtain ⟨a1, a2, a3⟩ := hQ
  obtain ⟨e1, z1, z2⟩ := cClear hN e0
  obtain ⟨c1, c2⟩ := a3 0 hc
  have loop : ∀ k n c (e b : Nat → Int32), c + k + 1 = S 5 → k < n → (∀ i, i < 256 → e i = nI (cnc S (fun i => S (96 + i)) start c (i / 32) (i % 32))) → ∃ e' b' : Nat → Int32, f_X10_countInCrowd_52 N n g1 g2 g3 e b dn dr calls cl (nI kk) (nI (c + 1)) = f_X10_countInCrowd_146 N g1 g2 g3 e' b' dn dr calls cl (nI kk) ∧ ∀ i, i < 256 → e' i = nI (cnc S (fun i => S (96 + i)) start (S 5 - 1) (i / 32) (i % 32)) := by
    intro k
    induction k with
    | zero =>
      intro n c e b h hn hi
      obtain ⟨n, rfl⟩ : ∃ m, n = m + 1 := ⟨n - 1, by omega⟩
      have h : c = S 5 - 1 := by omega
      subst h
      refine ⟨e, b, ?_, hi⟩
      rw [f_X10_countInCrowd_52, a1, if_pos (nI_le (by omega) (by omega))]
    | succ k ih =>
      intro n c e b h hn hi
      obtain ⟨n, rfl⟩ : ∃ m, n = m + 1 := ⟨n - 1, by omega⟩
      obtain ⟨e2, y1, y2⟩ := cClear hN e
      obtain ⟨e3, r1, r2⟩ := cRow (N := N) (c := c) (start := start) (beg := va_cpy e b 0 0 256) (k52 := f_X10_countInCrowd_52 N n) (g1 := g1) (g2 := g2) (g3 := g3) (x4 := nI kk) hL0 hQ0 hN hs (by omega) (fun i hi2 => by rw [cpy0 hi2]; exact hi i hi2) (S 0) N 0 e2 (by omega) (by omega) (fun i hi2 => by rw [y2 i hi2, if_neg (by omega)])
      obtain ⟨e', b', q1, q2⟩ := ih n (c + 1) e3 (va_cpy e b 0 0 256) (by omega) (by omega) r2
      refine ⟨e', b', ?_, q2⟩
      rw [f_X10_countInCrowd_52, a1, if_neg (nI_ge (by omega) (by omega))]
      rw [← a1]
      simp (maxSteps := 1000000) (disch := omega) only [li, ob1_s, ob2_s, ob3_s, ob4_s, ob5_s, ob6_s, ob7_s, gA_n, gL_n, sA_n, sL_n, cpI_n, nI_add, pk_mul, nsub, nlt_t, nlt_f, nle_t, nle_f, neq_t, neq_f, rmI_n, dvI_n, upd_ne, upd_eq, un_ne, un_eq, Nat.add_zero, Bool.false_eq_true, ↓reduceIte, y1, r1]
      exact q1
  have hst : ∀ (w : Nat), w < 2 → (if S 96 = start then 1 else 0) = w → ∃ e b : Nat → Int32, f_X10_countInCrowd_25 N g1 g2 g3 e1 b0 dn dr calls cl (nI kk) (nI (start * 32)) (nI w) = f_X10_countInCrowd_146 N g1 g2 g3 e b dn dr calls cl (nI kk) ∧ ∀ i, i < 256 → e i = nI (cnc S (fun i => S (96 + i)) start (S 5 - 1) (i / 32) (i % 32)) := by
    intro w hw hwe
    obtain ⟨e, b, q1, q2⟩ := loop (S 5 - 1) N 0 (upd e1 (start * 32 + w) (nI 1)) b0 (by omega) (by omega) (fun i hi2 => by
      rw [cnc_0]
      show _ = nI (if start = i / 32 ∧ (if S (96 + 0) = start then 1 else 0) = i % 32 then 1 else 0)
      rw [Nat.add_zero, hwe]
      by_cases q : i = start * 32 + w
      · rw [upd_eq q, if_pos ⟨by omega, by omega⟩]
      · rw [upd_ne q, z2 i hi2, if_neg (by omega)])
    refine ⟨e, b, ?_, q2⟩
    simp (maxSteps := 1000000) (disch := omega) only [li, ob1_s, ob2_s, ob3_s, ob4_s, ob5_s, ob6_s, ob7_s, gA_n, gL_n, sA_n, sL_n, cpI_n, nI_add, pk_mul, nsub, nlt_t, nlt_f, nle_t, nle_f, neq_t, neq_f, rmI_n, dvI_n, upd_ne, upd_eq, un_ne, un_eq, Nat.add_zero, Bool.false_eq_true, ↓reduceIte, f_X10_countInCrowd_25, f_X10_countInCrowd_49]
    exact q1
  have cl0 : f_X4_callLand N calls cl (nI 0) = some (nI (S 96)) := by
    rw [a1]
    simp (maxSteps := 1000000) (disch := omega) only [li, ob1_s, ob2_s, ob3_s, ob4_s, ob5_s, ob6_s, ob7_s, gA_n, gL_n, sA_n, sL_n, cpI_n, nI_add, pk_mul, nsub, nlt_t, nlt_f, nle_t, nle_f, neq_t, neq_f, rmI_n, dvI_n, upd_ne, upd_eq, un_ne, un_eq, Nat.add_zero, Bool.false_eq_true, ↓reduceIte, f_X4_callLand, c1]
  by_cases q : S 96 = start
  · obtain ⟨e, b, q1, q2⟩ := hst 1 (by omega) (if_pos q)
    refine ⟨e, b, ?_, q2⟩
    simp (maxSteps := 1000000) (disch := omega) only [li, ob1_s, ob2_s, ob3_s, ob4_s, ob5_s, ob6_s, ob7_s, gA_n, gL_n, sA_n, sL_n, cpI_n, nI_add, pk_mul, nsub, nlt_t, nlt_f, nle_t, nle_f, neq_t, neq_f, rmI_n, dvI_n, upd_ne, upd_eq, un_ne, un_eq, Nat.add_zero, Bool.false_eq_true, ↓reduceIte, f_X10_countInCrowd, z1, cl0, q]
    exact q1
  · obtain ⟨e, b, q1, q2⟩ := hst 0 (by omega) (if_neg q)
    refine ⟨e, b, ?_, q2⟩
    rw [Nat.add_zero] at c2
    simp (maxSteps := 1000000) (disch := omega) only [li, ob1_s, ob2_s, ob3_s, ob4_s, ob5_s, ob6_s, ob7_s, gA_n, gL_n, sA_n, sL_n, cpI_n, nI_add, pk_mul, nsub, nlt_t, nlt_f, nle_t, nle_f, neq_t, neq_f, rmI_n, dvI_n, upd_ne, upd_eq, un_ne, un_eq, Nat.add_zero, Bool.false_eq_true, ↓reduceIte, f_X10_countInCrowd, z1, cl0]
    exact q1
/-- all sets of a kind, joined; and met -/
def orf (p : Nat → Bool) (v : Nat → Nat) : Nat → Nat
  | 0 => 0
  | n + 1 => if p n = true then orf p v n ||| v n else orf p v n
def anf (p : Nat → Bool) (v : Nat → Nat) : Nat → Nat
  | 0 => 31
  | n + 1 => if p n = true then anf p v n &&& v n else anf p v n
theorem orf_bit {p : Nat → Bool} {v : Nat → Nat} {b : Nat} : ∀ n, (orf p v n).testBit b = true ↔ ∃ t, t < n ∧ p t = true ∧ (v t).testBit b = true := by
  intro n
  induction n with
  | zero => 
    constructor
    · intro h
      rw [show orf p v 0 = 0 from rfl, Nat.zero_testBit] at h
      cases h
    · rintro ⟨t, h, -⟩; omega
  | succ n ih =>
    unfold orf
    by_cases hp : p n = true
    · rw [if_pos hp, Nat.testBit_or, Bool.or_eq_true, ih]
      constructor
      · rintro (⟨t, h1, h2⟩ | h)
        · exact ⟨t, by omega, h2⟩
        · exact ⟨n, by omega, hp, h⟩
      · rintro ⟨t, h1, h2, h3⟩
        by_cases q : t = n
        · subst q; exact Or.inr h3
        · exact Or.inl ⟨t, by omega, h2, h3⟩
    · rw [if_neg hp, ih]
      constructor
      · rintro ⟨t, h1, h2⟩
        exact ⟨t, by omega, h2⟩
      · rintro ⟨t, h1, h2, h3⟩
        by_cases q : t = n
        · subst q; exact absurd h2 hp
        · exact ⟨t, by omega, h2, h3⟩
theorem anf_bit {p : Nat → Bool} {v : Nat → Nat} {b : Nat} : ∀ n, (anf p v n).testBit b = true ↔ (31).testBit b = true ∧ ∀ t, t < n → p t = true → (v t).testBit b = true := by
  intro n
  induction n with
  | zero => exact ⟨fun h => ⟨h, fun t h => by omega⟩, fun h => h.1⟩
  | succ n ih =>
    unfold anf
    by_cases hp : p n = true
    · rw [if_pos hp, Nat.testBit_and, Bool.and_eq_true, ih]
      constructor
      · rintro ⟨⟨h1, h2⟩, h3⟩
        refine ⟨h1, fun t ht hpt => ?_⟩
        by_cases q : t = n
        · subst q; exact h3
        · exact h2 t (by omega) hpt
      · rintro ⟨h1, h2⟩
        exact ⟨⟨h1, fun t ht => h2 t (by omega)⟩, h2 n (by omega) hp⟩
    · rw [if_neg hp, ih]
      constructor
      · rintro ⟨h1, h2⟩
        refine ⟨h1, fun t ht hpt => ?_⟩
        by_cases q : t = n
        · subst q; exact absurd hpt hp
        · exact h2 t (by omega) hpt
      · rintro ⟨h1, h2⟩
        exact ⟨h1, fun t ht => h2 t (by omega)⟩
theorem cSumUp {N kk : Nat} {e : Nat → Int32} {G : Nat → Nat} {g1 g2 g3 : Int32} (hN : 1000 ≤ N) (hk : kk ≤ 5) (he : ∀ i, i < 256 → e i = nI (G i) ∧ G i < 5000) :
    f_X10_sumUp N g1 g2 g3 e (nI kk) = some (nI (sm (fun i => if pop (i % 32) = kk then G i else 0) 256), nI (orf (fun i => decide (0 < G i ∧ pop (i % 32) = kk)) (fun i => i % 32) 256), if nI (sm (fun i => if pop (i % 32) = kk then G i else 0) 256) = nI 0 then nI 0 else nI (anf (fun i => decide (0 < G i ∧ pop (i % 32) = kk)) (fun i => i % 32) 256)) := by
  have key : ∀ k n i, i + k = 256 → k < n → f_X10_sumUp_18 N n (nI (sm (fun i => if pop (i % 32) = kk then G i else 0) i)) (nI (orf (fun i => decide (0 < G i ∧ pop (i % 32) = kk)) (fun i => i % 32) i)) (nI (anf (fun i => decide (0 < G i ∧ pop (i % 32) = kk)) (fun i => i % 32) i)) e (nI kk) (nI i) = some (nI (sm (fun i => if pop (i % 32) = kk then G i else 0) 256), nI (orf (fun i => decide (0 < G i ∧ pop (i % 32) = kk)) (fun i => i % 32) 256), if nI (sm (fun i => if pop (i % 32) = kk then G i else 0) 256) = nI 0 then nI 0 else nI (anf (fun i => decide (0 < G i ∧ pop (i % 32) = kk)) (fun i => i % 32) 256)) := by
    intro k
    induction k with
    | zero =>
      intro n i h hn
      obtain ⟨n, rfl⟩ : ∃ m, n = m + 1 := ⟨n - 1, by omega⟩
      have h : i = 256 := by omega
      subst h
      rw [f_X10_sumUp_18, if_pos (by decide)]
      unfold f_X10_sumUp_104
      by_cases q : nI (sm (fun i => if pop (i % 32) = kk then G i else 0) 256) = nI 0
      · rw [if_pos q]; exact if_pos q
      · rw [if_neg q]; exact if_neg q
    | succ k ih =>
      intro n i h hn
      obtain ⟨n, rfl⟩ : ∃ m, n = m + 1 := ⟨n - 1, by omega⟩
      have g := ih n (i + 1) (by omega) (by omega)
      obtain ⟨v1, v2⟩ := he i (by omega)
      have bc := cBits (N := N) (v := i % 32) (by omega)
      have pl := pop_le (i % 32)
      rw [show sm (fun i => if pop (i % 32) = kk then G i else 0) (i + 1) = sm (fun i => if pop (i % 32) = kk then G i else 0) i + (if pop (i % 32) = kk then G i else 0) from rfl] at g
      rw [show orf (fun i => decide (0 < G i ∧ pop (i % 32) = kk)) (fun i => i % 32) (i + 1) = (if decide (0 < G i ∧ pop (i % 32) = kk) = true then orf (fun i => decide (0 < G i ∧ pop (i % 32) = kk)) (fun i => i % 32) i ||| i % 32 else orf (fun i => decide (0 < G i ∧ pop (i % 32) = kk)) (fun i => i % 32) i) from rfl] at g
      rw [show anf (fun i => decide (0 < G i ∧ pop (i % 32) = kk)) (fun i => i % 32) (i + 1) = (if decide (0 < G i ∧ pop (i % 32) = kk) = true then anf (fun i => decide (0 < G i ∧ pop (i % 32) = kk)) (fun i => i % 32) i &&& i % 32 else anf (fun i => decide (0 < G i ∧ pop (i % 32) = kk)) (fun i => i % 32) i) from rfl] at g
      rw [f_X10_sumUp_18]
      generalize sm (fun i => if pop (i % 32) = kk then G i else 0) i = A at g ⊢
      generalize orf (fun i => decide (0 < G i ∧ pop (i % 32) = kk)) (fun i => i % 32) i = B at g ⊢
      generalize anf (fun i => decide (0 < G i ∧ pop (i % 32) = kk)) (fun i => i % 32) i = C at g ⊢
      by_cases p0 : 0 < G i
      · by_cases p1 : pop (i % 32) = kk
        · rw [if_pos p1, if_pos (decide_eq_true ⟨p0, p1⟩), if_pos (decide_eq_true ⟨p0, p1⟩)] at g
          simp (maxSteps := 1000000) (disch := omega) only [li, ob1_s, ob2_s, ob3_s, ob4_s, ob5_s, ob6_s, ob7_s, gA_n, gL_n, sA_n, sL_n, cpI_n, nI_add, pk_mul, nsub, nlt_t, nlt_f, nle_t, nle_f, neq_t, neq_f, rmI_n, dvI_n, upd_ne, upd_eq, un_ne, un_eq, Nat.add_zero, Bool.false_eq_true, ↓reduceIte, v1, bc, nor, nand, f_X10_sumUp_82]
          exact g
        · rw [if_neg p1, if_neg (by simp [p1]), if_neg (by simp [p1]), Nat.add_zero] at g
          simp (maxSteps := 1000000) (disch := omega) only [li, ob1_s, ob2_s, ob3_s, ob4_s, ob5_s, ob6_s, ob7_s, gA_n, gL_n, sA_n, sL_n, cpI_n, nI_add, pk_mul, nsub, nlt_t, nlt_f, nle_t, nle_f, neq_t, neq_f, rmI_n, dvI_n, upd_ne, upd_eq, un_ne, un_eq, Nat.add_zero, Bool.false_eq_true, ↓reduceIte, v1, bc, f_X10_sumUp_82]
          exact g
      · have p2 : G i = 0 := by omega
        rw [p2, ite_self, if_neg (by simp), if_neg (by simp), Nat.add_zero] at g
        simp (maxSteps := 1000000) (disch := omega) only [li, ob1_s, ob2_s, ob3_s, ob4_s, ob5_s, ob6_s, ob7_s, gA_n, gL_n, sA_n, sL_n, cpI_n, nI_add, pk_mul, nsub, nlt_t, nlt_f, nle_t, nle_f, neq_t, neq_f, rmI_n, dvI_n, upd_ne, upd_eq, un_ne, un_eq, Nat.add_zero, Bool.false_eq_true, ↓reduceIte, v1, p2, f_X10_sumUp_82]
        exact g
  exact key 256 N 0 (by omega) (by omega)
theorem okc_mono {S : Nat → Nat} {start code i : Nat} : ∀ q, okc S start code (i + q) = true → okc S start code i = true := by
  intro q
  induction q with
  | zero => intro h; exact h
  | succ q ih =>
    intro h
    have h : okc S start code (i + q + 1) = true := h
    unfold okc at h
    simp only [Bool.and_eq_true] at h
    exact ih h.1
theorem rWas {N code start : Nat} {dn : Int32} {df dr a : Nat → Int32} {S : Nat → Nat} (hA : TieA a S) (hL : LandT dn df dr S) (hN : 1000 ≤ N) (hs : start < S 0) (hc : 0 < S 5) (h5 : S 5 ≤ 5) (hq : ∀ k, k < S 5 → S (96 + k) < S 0) (hcode : code < 5000) :
    f_X12_wasAt N a (nI code) (nI start) = some (if okc S start code (S 5 - 1) = true then nI (mkc (fun i => S (96 + i)) start code (S 5 - 1)) else -nI 1) := by
  obtain ⟨h1, h8, h3, h4, h5', h6⟩ := id hL
  have l8 := p28 h8
  have key : ∀ k n i, i + k + 1 = S 5 → k < n → okc S start code i = true → f_X12_wasAt_26 N n a (nI (ldc start code i)) (nI (mkc (fun i => S (96 + i)) start code i)) (nI (code / 8 ^ i)) (nI (i + 1)) = some (if okc S start code (S 5 - 1) = true then nI (mkc (fun i => S (96 + i)) start code (S 5 - 1)) else -nI 1) := by
    intro k
    induction k with
    | zero =>
      intro n i h hn hok
      obtain ⟨n, rfl⟩ : ∃ m, n = m + 1 := ⟨n - 1, by omega⟩
      have h : i = S 5 - 1 := by omega
      subst h
      rw [if_pos hok]
      simp (maxSteps := 1000000) (disch := omega) only [li, ob1_s, ob2_s, ob3_s, ob4_s, ob5_s, ob6_s, ob7_s, gA_n, gL_n, sA_n, sL_n, cpI_n, nI_add, pk_mul, nsub, nlt_t, nlt_f, nle_t, nle_f, neq_t, neq_f, rmI_n, dvI_n, upd_ne, upd_eq, un_ne, un_eq, Nat.add_zero, Bool.false_eq_true, ↓reduceIte, f_X12_wasAt_26, hA.2]
    | succ k ih =>
      intro n i h hn hok
      obtain ⟨n, rfl⟩ : ∃ m, n = m + 1 := ⟨n - 1, by omega⟩
      have hdl : code / 8 ^ i ≤ code := Nat.div_le_self _ _
      have hl := okc_land hs hok
      have hto : code / 8 ^ i % 8 = ldc start code (i + 1) := rfl
      have hdv : code / 8 ^ i / 8 = code / 8 ^ (i + 1) := by rw [Nat.div_div_eq_div_mul, Nat.pow_succ]
      have ht8 : ldc start code (i + 1) < 8 := ldc_lt (by omega) (i + 1)
      have hmi := mkc_lt (C := fun i => S (96 + i)) (start := start) (code := code) i
      have p16 : 2 ^ (i + 1) ≤ 16 := Nat.pow_le_pow_right (n := 2) (i := i + 1) (j := 4) (by omega) (by omega)
      have hok1 : okc S start code (i + 1) = (okc S start code i && (decide (ldc start code (i + 1) < S 0) && rch S (ldc start code i) (ldc start code (i + 1)))) := rfl
      have hmk1 : mkc (fun i => S (96 + i)) start code (i + 1) = mkc (fun i => S (96 + i)) start code i ||| (if S (96 + (i + 1)) = ldc start code (i + 1) then 2 ^ (i + 1) else 0) := rfl
      have hno : okc S start code (i + 1) = false → ¬ okc S start code (S 5 - 1) = true := fun w q => by
        have := okc_mono (S := S) (start := start) (code := code) (i := i + 1) (S 5 - 1 - (i + 1)) (by rw [show i + 1 + (S 5 - 1 - (i + 1)) = S 5 - 1 by omega]; exact q)
        rw [w] at this; cases this
      have hC := hq (i + 1) (by omega)
      obtain ⟨to, hgt⟩ : ∃ to, ldc start code (i + 1) = to := ⟨_, rfl⟩
      obtain ⟨l0, hg0⟩ : ∃ l0, ldc start code i = l0 := ⟨_, rfl⟩
      rw [hgt] at hto ht8 hok1 hmk1
      rw [hg0] at hl hok1 ⊢
      have ll := p28' (show l0 < 8 by omega)
      have ho : S (88 + l0) ||| 2 ^ l0 < 256 := Nat.or_lt_two_pow (n := 8) (by have := (h4 l0 hl).2; omega) ll
      by_cases w1 : to < S 0
      · have i1 := rLand_in (N := N) hA h8 w1
        have i2 := rReach (N := N) hA (show l0 < 8 by omega)
        by_cases w2 : (S (88 + l0) ||| 2 ^ l0).testBit to = true
        · have w3 : rch S l0 to = true := w2
          rw [hok, w3, decide_eq_true w1] at hok1
          have g := ih n (i + 1) (by omega) (by omega) hok1
          rw [hmk1, hgt] at g
          by_cases w4 : S (96 + (i + 1)) = to
          · rw [if_pos w4] at g
            simp (maxSteps := 1000000) (disch := omega) only [li, ob1_s, ob2_s, ob3_s, ob4_s, ob5_s, ob6_s, ob7_s, gA_n, gL_n, sA_n, sL_n, cpI_n, nI_add, pk_mul, nsub, nlt_t, nlt_f, nle_t, nle_f, neq_t, neq_f, rmI_n, dvI_n, upd_ne, upd_eq, un_ne, un_eq, Nat.add_zero, Bool.false_eq_true, ↓reduceIte, f_X12_wasAt_26, f_X12_wasAt_102, hA.2, hto, hdv, i1, i2, isWith_n, w2, w4, nshl1, nor]
            exact g
          · rw [if_neg w4] at g
            simp (maxSteps := 1000000) (disch := omega) only [li, ob1_s, ob2_s, ob3_s, ob4_s, ob5_s, ob6_s, ob7_s, gA_n, gL_n, sA_n, sL_n, cpI_n, nI_add, pk_mul, nsub, nlt_t, nlt_f, nle_t, nle_f, neq_t, neq_f, rmI_n, dvI_n, upd_ne, upd_eq, un_ne, un_eq, Nat.add_zero, Bool.false_eq_true, ↓reduceIte, f_X12_wasAt_26, f_X12_wasAt_102, hA.2, hto, hdv, i1, i2, isWith_n, w2, nshl1, nor]
            exact g
        · have w3 : rch S l0 to = false := Bool.eq_false_iff.mpr w2
          rw [w3, Bool.and_false, Bool.and_false] at hok1
          rw [if_neg (hno hok1)]
          simp (maxSteps := 1000000) (disch := omega) only [li, ob1_s, ob2_s, ob3_s, ob4_s, ob5_s, ob6_s, ob7_s, gA_n, gL_n, sA_n, sL_n, cpI_n, nI_add, pk_mul, nsub, nlt_t, nlt_f, nle_t, nle_f, neq_t, neq_f, rmI_n, dvI_n, upd_ne, upd_eq, un_ne, un_eq, Nat.add_zero, Bool.false_eq_true, ↓reduceIte, f_X12_wasAt_26, f_X12_wasAt_102, hA.2, hto, hdv, i1, i2, isWith_n, w2]
      · have i1 := rLand_out (N := N) (x := nI to) hA h8 (Or.inr ⟨nI_le (by omega) (by omega), nI_nlt (Nat.zero_le _) (by omega)⟩)
        rw [decide_eq_false w1, Bool.false_and, Bool.and_false] at hok1
        rw [if_neg (hno hok1)]
        simp (maxSteps := 1000000) (disch := omega) only [li, ob1_s, ob2_s, ob3_s, ob4_s, ob5_s, ob6_s, ob7_s, gA_n, gL_n, sA_n, sL_n, cpI_n, nI_add, pk_mul, nsub, nlt_t, nlt_f, nle_t, nle_f, neq_t, neq_f, rmI_n, dvI_n, upd_ne, upd_eq, un_ne, un_eq, Nat.add_zero, Bool.false_eq_true, ↓reduceIte, f_X12_wasAt_26, hA.2, hto, hdv, i1]
  have g := key (S 5 - 1) N 0 (by omega) (by omega) rfl
  rw [Nat.pow_zero, Nat.div_one] at g
  have hq0 := hq 0 hc
  rw [Nat.add_zero] at hq0
  have hmk0 : mkc (fun i => S (96 + i)) start code 0 = if S 96 = start then 1 else 0 := rfl
  have hl0 : ldc start code 0 = start := rfl
  rw [hmk0, hl0] at g
  by_cases w : S 96 = start
  · rw [if_pos w] at g
    simp (maxSteps := 1000000) (disch := omega) only [li, ob1_s, ob2_s, ob3_s, ob4_s, ob5_s, ob6_s, ob7_s, gA_n, gL_n, sA_n, sL_n, cpI_n, nI_add, pk_mul, nsub, nlt_t, nlt_f, nle_t, nle_f, neq_t, neq_f, rmI_n, dvI_n, upd_ne, upd_eq, un_ne, un_eq, Nat.add_zero, Bool.false_eq_true, ↓reduceIte, f_X12_wasAt, f_X12_wasAt_18, hA.2, w]
    exact g
  · rw [if_neg w] at g
    simp (maxSteps := 1000000) (disch := omega) only [li, ob1_s, ob2_s, ob3_s, ob4_s, ob5_s, ob6_s, ob7_s, gA_n, gL_n, sA_n, sL_n, cpI_n, nI_add, pk_mul, nsub, nlt_t, nlt_f, nle_t, nle_f, neq_t, neq_f, rmI_n, dvI_n, upd_ne, upd_eq, un_ne, un_eq, Nat.add_zero, Bool.false_eq_true, ↓reduceIte, f_X12_wasAt, f_X12_wasAt_18, hA.2]
    exact g
