/-! inCrowd: the class's table of ways -/
theorem cClear {N : Nat} (hN : 1000 ≤ N) (e0 : Nat → Int32) : ∃ e : Nat → Int32, f_X10_clear N e0 = some e ∧ ∀ i, i < 256 → e i = nI 0 := by
  have key : ∀ k n i (e : Nat → Int32), i + k = 256 → k < n → (∀ t, t < i → e t = nI 0) → ∃ e' : Nat → Int32, f_X10_clear_2 N n e (nI i) = some e' ∧ ∀ t, t < 256 → e' t = nI 0 := by
    intro k
    induction k with
    | zero =>
      intro n i e h hn hi
      obtain ⟨n, rfl⟩ : ∃ m, n = m + 1 := ⟨n - 1, by omega⟩
      refine ⟨e, ?_, fun t ht => hi t (by omega)⟩
      simp (maxSteps := 1000000) (disch := omega) only [li, ob1_s, ob2_s, ob3_s, ob4_s, ob5_s, ob6_s, ob7_s, gA_n, gL_n, sA_n, sL_n, cpI_n, nI_add, pk_mul, nsub, nlt_t, nlt_f, nle_t, nle_f, neq_t, neq_f, rmI_n, dvI_n, upd_ne, upd_eq, un_ne, un_eq, Nat.add_zero, Bool.false_eq_true, ↓reduceIte, f_X10_clear_2]
    | succ k ih =>
      intro n i e h hn hi
      obtain ⟨n, rfl⟩ : ∃ m, n = m + 1 := ⟨n - 1, by omega⟩
      obtain ⟨e', g1, g2⟩ := ih n (i + 1) (upd e i (nI 0)) (by omega) (by omega) (fun t ht => by
        by_cases q : t = i
        · rw [upd_eq q]
        · rw [upd_ne q]; exact hi t (by omega))
      refine ⟨e', ?_, g2⟩
      simp (maxSteps := 1000000) (disch := omega) only [li, ob1_s, ob2_s, ob3_s, ob4_s, ob5_s, ob6_s, ob7_s, gA_n, gL_n, sA_n, sL_n, cpI_n, nI_add, pk_mul, nsub, nlt_t, nlt_f, nle_t, nle_f, neq_t, neq_f, rmI_n, dvI_n, upd_ne, upd_eq, un_ne, un_eq, Nat.add_zero, Bool.false_eq_true, ↓reduceIte, f_X10_clear_2]
      exact g1
  exact key 256 N 0 e0 (by omega) (by omega) (fun t ht => by omega)
/-- what a land takes over from an old one -/
theorem cMasks {N l o c1 bit : Nat} {beg : Nat → Int32} {E B : Nat → Nat} {fr : Int32} {k18 : (Nat → Int32) → (Nat → Int32) → Int32 → Int32 → Int32 → Int32 → Int32 → Option (Nat → Int32)} (hN : 1000 ≤ N) (hl : l < 8) (ho : o < 8) (hc : c1 ≤ 4) (hb : bit < 32) (hB : ∀ i, i < 256 → beg i = nI (B i)) :
    ∀ k n m (e : Nat → Int32), m + k = 2 ^ c1 → k < n → (∀ i, i < 256 → e i = nI (E i + if i / 32 = l then sm (fun t => if t ||| bit = i % 32 then B (32 * o + t) else 0) m else 0)) →
    ∃ e' : Nat → Int32, f_X10_comeTo_40 N k18 n e beg (nI l) fr (nI c1) (nI bit) (nI o) (nI m) = k18 e' beg (nI l) fr (nI c1) (nI bit) (nI (o + 1)) ∧ ∀ i, i < 256 → e' i = nI (E i + if i / 32 = l then sm (fun t => if t ||| bit = i % 32 then B (32 * o + t) else 0) (2 ^ c1) else 0) := by
  have h16 : 2 ^ c1 ≤ 16 := Nat.pow_le_pow_right (n := 2) (i := c1) (j := 4) (by omega) hc
  intro k
  induction k with
  | zero =>
    intro n m e h hn hi
    obtain ⟨n, rfl⟩ : ∃ m, n = m + 1 := ⟨n - 1, by omega⟩
    have h : m = 2 ^ c1 := by omega
    subst h
    refine ⟨e, ?_, hi⟩
    simp (maxSteps := 1000000) (disch := omega) only [li, ob1_s, ob2_s, ob3_s, ob4_s, ob5_s, ob6_s, ob7_s, gA_n, gL_n, sA_n, sL_n, cpI_n, nI_add, pk_mul, nsub, nlt_t, nlt_f, nle_t, nle_f, neq_t, neq_f, rmI_n, dvI_n, upd_ne, upd_eq, un_ne, un_eq, Nat.add_zero, Bool.false_eq_true, ↓reduceIte, f_X10_comeTo_40, f_X10_comeTo_95, nshl1]
  | succ k ih =>
    intro n m e h hn hi
    obtain ⟨n, rfl⟩ : ∃ m, n = m + 1 := ⟨n - 1, by omega⟩
    have hm : m ||| bit < 32 := Nat.or_lt_two_pow (n := 5) (by omega) (by omega)
    generalize hw : m ||| bit = w at hm
    have q1 := hi (l * 32 + w) (by omega)
    have q2 := hB (o * 32 + m) (by omega)
    obtain ⟨e', g1, g2⟩ := ih n (m + 1) (upd e (l * 32 + w) (e (l * 32 + w) + beg (o * 32 + m))) (by omega) (by omega) (fun i hi2 => by
      show _ = nI (E i + if i / 32 = l then sm (fun t => if t ||| bit = i % 32 then B (32 * o + t) else 0) m + (if m ||| bit = i % 32 then B (32 * o + m) else 0) else 0)
      rw [hw]
      by_cases q : i = l * 32 + w
      · rw [upd_eq q]
        have d1 : i / 32 = l := by omega
        have d2 : w = i % 32 := by omega
        rw [if_pos d1, if_pos d2, q1, q2, nI_add, ← q, if_pos d1, Nat.mul_comm o 32, Nat.add_assoc]
      · rw [upd_ne q, hi i hi2]
        by_cases d1 : i / 32 = l
        · rw [if_pos d1, if_pos d1, if_neg (by omega), Nat.add_zero]
        · rw [if_neg d1, if_neg d1])
    refine ⟨e', ?_, g2⟩
    rw [f_X10_comeTo_40]
    simp (maxSteps := 1000000) (disch := omega) only [li, ob1_s, ob2_s, ob3_s, ob4_s, ob5_s, ob6_s, ob7_s, gA_n, gL_n, sA_n, sL_n, cpI_n, nI_add, pk_mul, nsub, nlt_t, nlt_f, nle_t, nle_f, neq_t, neq_f, rmI_n, dvI_n, upd_ne, upd_eq, un_ne, un_eq, Nat.add_zero, Bool.false_eq_true, ↓reduceIte, nshl1, nor, hw]
    exact g1
theorem cCome {N l c1 bit : Nat} {beg : Nat → Int32} {S E B : Nat → Nat} (hN : 1000 ≤ N) (hl : l < 8) (hc : c1 ≤ 4) (hb : bit < 32) (hs : S (88 + l) ||| 2 ^ l < 256) (hB : ∀ i, i < 256 → beg i = nI (B i)) :
    ∀ k n o (e : Nat → Int32), o + k = 8 → k < n → (∀ i, i < 256 → e i = nI (E i + if i / 32 = l then sm (fun o => if rch S l o = true then sm (fun t => if t ||| bit = i % 32 then B (32 * o + t) else 0) (2 ^ c1) else 0) o else 0)) →
    ∃ e' : Nat → Int32, f_X10_comeTo_18 N n e beg (nI l) (nI (S (88 + l) ||| 2 ^ l)) (nI c1) (nI bit) (nI o) = some e' ∧ ∀ i, i < 256 → e' i = nI (E i + if i / 32 = l then sm (fun o => if rch S l o = true then sm (fun t => if t ||| bit = i % 32 then B (32 * o + t) else 0) (2 ^ c1) else 0) 8 else 0) := by
  have h16 : 2 ^ c1 ≤ 16 := Nat.pow_le_pow_right (n := 2) (i := c1) (j := 4) (by omega) hc
  intro k
  induction k with
  | zero =>
    intro n o e h hn hi
    obtain ⟨n, rfl⟩ : ∃ m, n = m + 1 := ⟨n - 1, by omega⟩
    have h : o = 8 := by omega
    subst h
    refine ⟨e, ?_, hi⟩
    simp (maxSteps := 1000000) (disch := omega) only [li, ob1_s, ob2_s, ob3_s, ob4_s, ob5_s, ob6_s, ob7_s, gA_n, gL_n, sA_n, sL_n, cpI_n, nI_add, pk_mul, nsub, nlt_t, nlt_f, nle_t, nle_f, neq_t, neq_f, rmI_n, dvI_n, upd_ne, upd_eq, un_ne, un_eq, Nat.add_zero, Bool.false_eq_true, ↓reduceIte, f_X10_comeTo_18]
  | succ k ih =>
    intro n o e h hn hi
    obtain ⟨n, rfl⟩ : ∃ m, n = m + 1 := ⟨n - 1, by omega⟩
    by_cases hr : (S (88 + l) ||| 2 ^ l).testBit o = true
    · have hr2 : rch S l o = true := hr
      obtain ⟨e1, g1, g2⟩ := cMasks (N := N) (l := l) (o := o) (c1 := c1) (bit := bit) (E := fun i => E i + if i / 32 = l then sm (fun o => if rch S l o = true then sm (fun t => if t ||| bit = i % 32 then B (32 * o + t) else 0) (2 ^ c1) else 0) o else 0) (B := B) (fr := nI (S (88 + l) ||| 2 ^ l)) (k18 := f_X10_comeTo_18 N n) hN hl (by omega) hc hb hB (2 ^ c1) N 0 e (by omega) (by omega) (fun i hi2 => by
        rw [hi i hi2]
        show _ = nI (_ + if i / 32 = l then 0 else 0)
        rw [ite_self, Nat.add_zero])
      obtain ⟨e', q1, q2⟩ := ih n (o + 1) e1 (by omega) (by omega) (fun i hi2 => by
        rw [g2 i hi2]
        show nI (E i + (if i / 32 = l then sm _ o else 0) + if i / 32 = l then _ else 0) = nI (E i + if i / 32 = l then sm _ o + (if rch S l o = true then _ else 0) else 0)
        rw [if_pos hr2]
        by_cases d1 : i / 32 = l
        · rw [if_pos d1, if_pos d1, if_pos d1, Nat.add_assoc]
        · rw [if_neg d1, if_neg d1, if_neg d1])
      refine ⟨e', ?_, q2⟩
      rw [f_X10_comeTo_18]
      simp (maxSteps := 1000000) (disch := omega) only [li, ob1_s, ob2_s, ob3_s, ob4_s, ob5_s, ob6_s, ob7_s, gA_n, gL_n, sA_n, sL_n, cpI_n, nI_add, pk_mul, nsub, nlt_t, nlt_f, nle_t, nle_f, neq_t, neq_f, rmI_n, dvI_n, upd_ne, upd_eq, un_ne, un_eq, Nat.add_zero, Bool.false_eq_true, ↓reduceIte, nbit, hr, g1]
      exact q1
    · have hr2 : ¬ rch S l o = true := hr
      obtain ⟨e', q1, q2⟩ := ih n (o + 1) e (by omega) (by omega) (fun i hi2 => by
        rw [hi i hi2]
        show _ = nI (E i + if i / 32 = l then sm _ o + (if rch S l o = true then _ else 0) else 0)
        rw [if_neg hr2, Nat.add_zero])
      refine ⟨e', ?_, q2⟩
      rw [f_X10_comeTo_18]
      simp (maxSteps := 1000000) (disch := omega) only [li, ob1_s, ob2_s, ob3_s, ob4_s, ob5_s, ob6_s, ob7_s, gA_n, gL_n, sA_n, sL_n, cpI_n, nI_add, pk_mul, nsub, nlt_t, nlt_f, nle_t, nle_f, neq_t, neq_f, rmI_n, dvI_n, upd_ne, upd_eq, un_ne, un_eq, Nat.add_zero, Bool.false_eq_true, ↓reduceIte, nbit, hr, f_X10_comeTo_95]
      exact q1
theorem cnc_out {S C : Nat → Nat} {start c l m : Nat} (hl : S 0 ≤ l) : cnc S C start (c + 1) l m = 0 := by
  unfold cnc
  refine sm_zero _ (fun code _ => ?_)
  rw [if_neg]
  rintro ⟨h1, h2, -⟩
  unfold okc at h1
  simp only [Bool.and_eq_true, decide_eq_true_eq] at h1
  omega
theorem cnc_0 {S C : Nat → Nat} {start l m : Nat} : cnc S C start 0 l m = if start = l ∧ (if C 0 = start then 1 else 0) = m then 1 else 0 := by
  show 0 + (if okc S start 0 0 = true ∧ ldc start 0 0 = l ∧ mkc C start 0 0 = m then 1 else 0) = _
  rw [Nat.zero_add]
  show (if true = true ∧ start = l ∧ (if C 0 = start then 1 else 0) = m then 1 else 0) = _
  simp only [true_and]
theorem cRow {N c start : Nat} {dn : Int32} {df dr beg : Nat → Int32} {calls : Int32} {cl : Nat → Int32} {S : Nat → Nat} {k52 : Int32 → Int32 → Int32 → (Nat → Int32) → (Nat → Int32) → Int32 → (Nat → Int32) → Int32 → (Nat → Int32) → Int32 → Int32 → Option (Int32 × Int32 × Int32 × (Nat → Int32) × (Nat → Int32))} {g1 g2 g3 x4 : Int32} (hL : LandT dn df dr S) (hQ : CallsT calls cl S) (hN : 1000 ≤ N) (hs : start < S 0) (hc : c + 1 < S 5) (hB : ∀ i, i < 256 → beg i = nI (cnc S (fun i => S (96 + i)) start c (i / 32) (i % 32))) :
    ∀ k n l (e : Nat → Int32), l + k = S 0 → k < n → (∀ i, i < 256 → e i = nI (if i / 32 < l then cnc S (fun i => S (96 + i)) start (c + 1) (i / 32) (i % 32) else 0)) →
    ∃ e' : Nat → Int32, f_X10_countInCrowd_93 N k52 n g1 g2 g3 e beg dn dr calls cl x4 (nI (c + 1)) (nI l) = k52 g1 g2 g3 e' beg dn dr calls cl x4 (nI (c + 1 + 1)) ∧ ∀ i, i < 256 → e' i = nI (cnc S (fun i => S (96 + i)) start (c + 1) (i / 32) (i % 32)) := by
  obtain ⟨h1, h8, h3, h4, h5, h6⟩ := id hL
  obtain ⟨a1, a2, a3⟩ := hQ
  subst h1
  subst a1
  have l8 := p28 h8
  intro k
  induction k with
  | zero =>
    intro n l e h hn hi
    obtain ⟨n, rfl⟩ : ∃ m, n = m + 1 := ⟨n - 1, by omega⟩
    have h : l = S 0 := by omega
    subst h
    refine ⟨e, ?_, fun i hi2 => ?_⟩
    · rw [f_X10_countInCrowd_93]
      simp (maxSteps := 1000000) (disch := omega) only [li, ob1_s, ob2_s, ob3_s, ob4_s, ob5_s, ob6_s, ob7_s, gA_n, gL_n, sA_n, sL_n, cpI_n, nI_add, pk_mul, nsub, nlt_t, nlt_f, nle_t, nle_f, neq_t, neq_f, rmI_n, dvI_n, upd_ne, upd_eq, un_ne, un_eq, Nat.add_zero, Bool.false_eq_true, ↓reduceIte, f_X10_countInCrowd_140]
    · rw [hi i hi2]
      by_cases q : i / 32 < S 0
      · rw [if_pos q]
      · rw [if_neg q, cnc_out (by omega)]
  | succ k ih =>
    intro n l e h hn hi
    obtain ⟨n, rfl⟩ : ∃ m, n = m + 1 := ⟨n - 1, by omega⟩
    obtain ⟨r1, r2⟩ := h4 l (by omega)
    obtain ⟨c1, c2⟩ := a3 (c + 1) (by omega)
    have ll := p28' (show l < 8 by omega)
    have ho : S (88 + l) ||| 2 ^ l < 256 := Nat.or_lt_two_pow (n := 8) (by omega) ll
    have hp16 : 2 ^ (c + 1) ≤ 16 := Nat.pow_le_pow_right (n := 2) (i := c + 1) (j := 4) (by omega) (by omega)
    have hbit : (if S (96 + (c + 1)) = l then 2 ^ (c + 1) else 0) < 32 := by split <;> omega
    have hsym : ∀ o, o < S 0 → rch S o l = rch S l o := by
      intro o q
      unfold rch
      rw [Nat.testBit_or, Nat.testBit_or, n1bit, n1bit, h6 o l q (by omega)]
      congr 1
      exact decide_eq_decide.mpr ⟨fun h => h.symm, fun h => h.symm⟩
    obtain ⟨e1, g1', g2'⟩ := cCome (N := N) (l := l) (c1 := c + 1) (bit := if S (96 + (c + 1)) = l then 2 ^ (c + 1) else 0) (S := S) (E := fun i => if i / 32 < l then cnc S (fun i => S (96 + i)) start (c + 1) (i / 32) (i % 32) else 0) (B := fun i => cnc S (fun i => S (96 + i)) start c (i / 32) (i % 32)) hN (by omega) (by omega) hbit ho hB 8 N 0 e (by omega) (by omega) (fun i hi2 => by
      rw [hi i hi2]
      show _ = nI (_ + if i / 32 = l then 0 else 0)
      rw [ite_self]
      exact congrArg nI (Nat.add_zero _).symm)
    obtain ⟨e', q1, q2⟩ := ih n (l + 1) e1 (by omega) (by omega) (fun i hi2 => by
      rw [g2' i hi2]
      by_cases d1 : i / 32 = l
      · rw [if_pos d1]
        show nI ((if i / 32 < l then _ else 0) + _) = _
        rw [if_neg (show ¬ i / 32 < l by omega), if_pos (show i / 32 < l + 1 by omega), Nat.zero_add, d1, cnc_succ hs h8 (by omega) hsym]
        congr 1
        refine sm_cg 8 (fun o ho8 => ?_)
        by_cases hr : rch S l o = true
        · rw [if_pos hr, if_pos hr]
          refine sm_cg _ (fun t ht => ?_)
          have d2 : (32 * o + t) / 32 = o := by omega
          have d3 : (32 * o + t) % 32 = t := by omega
          rw [d2, d3]
        · rw [if_neg hr, if_neg hr]
      · rw [if_neg d1, Nat.add_zero]
        show nI (if i / 32 < l then _ else 0) = _
        by_cases d2 : i / 32 < l
        · rw [if_pos d2, if_pos (show i / 32 < l + 1 by omega)]
        · rw [if_neg d2, if_neg (show ¬ i / 32 < l + 1 by omega)])
    refine ⟨e', ?_, q2⟩
    rw [f_X10_countInCrowd_93]
    by_cases hq : S (96 + (c + 1)) = l
    · rw [if_pos hq] at g1'
      simp (maxSteps := 1000000) (disch := omega) only [li, ob1_s, ob2_s, ob3_s, ob4_s, ob5_s, ob6_s, ob7_s, gA_n, gL_n, sA_n, sL_n, cpI_n, nI_add, pk_mul, nsub, nlt_t, nlt_f, nle_t, nle_f, neq_t, neq_f, rmI_n, dvI_n, upd_ne, upd_eq, un_ne, un_eq, Nat.add_zero, Bool.false_eq_true, ↓reduceIte, f_X2_near, f_X4_callLand, f_X10_comeTo, f_X10_comeTo_13, r1, c1, hq, nshl1, nor, g1']
      exact q1
    · rw [if_neg hq] at g1'
      simp (maxSteps := 1000000) (disch := omega) only [li, ob1_s, ob2_s, ob3_s, ob4_s, ob5_s, ob6_s, ob7_s, gA_n, gL_n, sA_n, sL_n, cpI_n, nI_add, pk_mul, nsub, nlt_t, nlt_f, nle_t, nle_f, neq_t, neq_f, rmI_n, dvI_n, upd_ne, upd_eq, un_ne, un_eq, Nat.add_zero, Bool.false_eq_true, ↓reduceIte, f_X2_near, f_X4_callLand, f_X10_comeTo, f_X10_comeTo_13, r1, c1, nshl1, nor, g1']
      exact q1
