theorem cnc_pos {S C : Nat → Nat} {start c l m : Nat} : 0 < cnc S C start c l m ↔ ∃ code, code < 8 ^ c ∧ okc S start code c = true ∧ ldc start code c = l ∧ mkc C start code c = m := by
  unfold cnc
  constructor
  · intro h
    obtain ⟨t, h1, h2⟩ := sm_ex _ h
    by_cases q : okc S start t c = true ∧ ldc start t c = l ∧ mkc C start t c = m
    · exact ⟨t, h1, q⟩
    · simp only [if_neg q] at h2
      omega
  · rintro ⟨t, h1, h2⟩
    exact sm_pos (t := t) (by simp only [if_pos h2]; omega) _ h1
def crq (S C : Nat → Nat) (start c kk : Nat) : Nat → Bool := fun code => decide (okc S start code c = true ∧ pop (mkc C start code c) = kk)
theorem cr_b {C : Nat → Nat} {start code c : Nat} (hc : c ≤ 4) : mkc C start code c < 32 := Nat.lt_of_lt_of_le (mkc_lt c) (Nat.pow_le_pow_right (n := 2) (i := c + 1) (j := 5) (by omega) (by omega))
theorem cr_gone {S C : Nat → Nat} {start c kk : Nat} (hs : start < 8) (hc : c ≤ 4) : sm (fun i => if pop (i % 32) = kk then cnc S C start c (i / 32) (i % 32) else 0) 256 = sm (fun code => if crq S C start c kk code = true then 1 else 0) (8 ^ c) := by
  have e : ∀ i, (if pop (i % 32) = kk then cnc S C start c (i / 32) (i % 32) else 0) = sm (fun code => if pop (i % 32) = kk ∧ okc S start code c = true ∧ ldc start code c = i / 32 ∧ mkc C start code c = i % 32 then 1 else 0) (8 ^ c) := by
    intro i
    by_cases q : pop (i % 32) = kk
    · rw [if_pos q]
      unfold cnc
      exact sm_cg _ (fun code _ => by simp only [q, true_and])
    · rw [if_neg q]
      exact (sm_zero _ (fun code _ => by rw [if_neg (fun h => q h.1)])).symm
  rw [sm_cg 256 (fun i _ => e i), sm_swap]
  refine sm_cg _ (fun code _ => ?_)
  have b1 := ldc_lt (start := start) (code := code) hs c
  have b2 := cr_b (C := C) (start := start) (code := code) hc
  rw [sm_one (l := 32 * ldc start code c + mkc C start code c) (by omega) (fun i _ hn => by
    rw [if_neg]
    rintro ⟨-, -, h1, h2⟩
    omega)]
  have d1 : (32 * ldc start code c + mkc C start code c) / 32 = ldc start code c := by omega
  have d2 : (32 * ldc start code c + mkc C start code c) % 32 = mkc C start code c := by omega
  rw [d1, d2]
  unfold crq
  by_cases q : okc S start code c = true ∧ pop (mkc C start code c) = kk
  · rw [if_pos ⟨q.2, q.1, rfl, rfl⟩, if_pos (decide_eq_true q)]
  · rw [if_neg (fun h => q ⟨h.2.1, h.1⟩), if_neg (by rw [decide_eq_true_eq]; exact q)]
theorem cr_may {S C : Nat → Nat} {start c kk : Nat} (hs : start < 8) (hc : c ≤ 4) : orf (fun i => decide (0 < cnc S C start c (i / 32) (i % 32) ∧ pop (i % 32) = kk)) (fun i => i % 32) 256 = orf (crq S C start c kk) (fun code => mkc C start code c) (8 ^ c) := by
  apply Nat.eq_of_testBit_eq
  intro b
  rw [Bool.eq_iff_iff, orf_bit, orf_bit]
  unfold crq
  constructor
  · rintro ⟨i, h1, h2, h3⟩
    rw [decide_eq_true_eq] at h2
    obtain ⟨code, g1, g2, g3, g4⟩ := cnc_pos.mp h2.1
    refine ⟨code, g1, ?_, ?_⟩
    · rw [decide_eq_true_eq, g4]; exact ⟨g2, h2.2⟩
    · show (mkc C start code c).testBit b = true
      rw [g4]; exact h3
  · rintro ⟨code, h1, h2, h3⟩
    rw [decide_eq_true_eq] at h2
    have b1 := ldc_lt (start := start) (code := code) hs c
    have b2 := cr_b (C := C) (start := start) (code := code) hc
    have d1 : (32 * ldc start code c + mkc C start code c) / 32 = ldc start code c := by omega
    have d2 : (32 * ldc start code c + mkc C start code c) % 32 = mkc C start code c := by omega
    refine ⟨32 * ldc start code c + mkc C start code c, by omega, ?_, ?_⟩
    · rw [decide_eq_true_eq, d1, d2]
      exact ⟨cnc_pos.mpr ⟨code, h1, h2.1, rfl, rfl⟩, h2.2⟩
    · show ((32 * ldc start code c + mkc C start code c) % 32).testBit b = true
      rw [d2]; exact h3
theorem cr_must {S C : Nat → Nat} {start c kk : Nat} (hs : start < 8) (hc : c ≤ 4) : anf (fun i => decide (0 < cnc S C start c (i / 32) (i % 32) ∧ pop (i % 32) = kk)) (fun i => i % 32) 256 = anf (crq S C start c kk) (fun code => mkc C start code c) (8 ^ c) := by
  apply Nat.eq_of_testBit_eq
  intro b
  rw [Bool.eq_iff_iff, anf_bit, anf_bit]
  unfold crq
  refine and_congr_right (fun _ => ?_)
  constructor
  · intro h code h1 h2
    rw [decide_eq_true_eq] at h2
    have b1 := ldc_lt (start := start) (code := code) hs c
    have b2 := cr_b (C := C) (start := start) (code := code) hc
    have d1 : (32 * ldc start code c + mkc C start code c) / 32 = ldc start code c := by omega
    have d2 : (32 * ldc start code c + mkc C start code c) % 32 = mkc C start code c := by omega
    have := h (32 * ldc start code c + mkc C start code c) (by omega) (by
      rw [decide_eq_true_eq, d1, d2]
      exact ⟨cnc_pos.mpr ⟨code, h1, h2.1, rfl, rfl⟩, h2.2⟩)
    rw [d2] at this
    exact this
  · intro h i h1 h2
    rw [decide_eq_true_eq] at h2
    obtain ⟨code, g1, g2, g3, g4⟩ := cnc_pos.mp h2.1
    have := h code g1 (by rw [decide_eq_true_eq, g4]; exact ⟨g2, h2.2⟩)
    rw [g4] at this
    exact this
theorem rCodes {N start kk : Nat} {wh : Int32} {dn : Int32} {df dr a : Nat → Int32} {S : Nat → Nat} (hA : TieA a S) (hL : LandT dn df dr S) (hN : 10000 ≤ N) (hs : start < S 0) (hc : 0 < S 5) (h5 : S 5 ≤ 5) (hq : ∀ k, k < S 5 → S (96 + k) < S 0) (hk : kk ≤ 5) :
    ∀ k n code, code + k = 8 ^ (S 5 - 1) → k < n → f_X12_inCrowd_80 N n a (nI start) (nI kk) wh (nI (8 ^ (S 5 - 1))) (nI (sm (fun code => if crq S (fun i => S (96 + i)) start (S 5 - 1) kk code = true then 1 else 0) code)) (nI (orf (crq S (fun i => S (96 + i)) start (S 5 - 1) kk) (fun code => mkc (fun i => S (96 + i)) start code (S 5 - 1)) code)) (nI (anf (crq S (fun i => S (96 + i)) start (S 5 - 1) kk) (fun code => mkc (fun i => S (96 + i)) start code (S 5 - 1)) code)) (nI code) =
      if wh = nI 0 then some (nI (sm (fun code => if crq S (fun i => S (96 + i)) start (S 5 - 1) kk code = true then 1 else 0) (8 ^ (S 5 - 1)))) else if wh = nI 1 then some (nI (orf (crq S (fun i => S (96 + i)) start (S 5 - 1) kk) (fun code => mkc (fun i => S (96 + i)) start code (S 5 - 1)) (8 ^ (S 5 - 1)))) else if nI (sm (fun code => if crq S (fun i => S (96 + i)) start (S 5 - 1) kk code = true then 1 else 0) (8 ^ (S 5 - 1))) = nI 0 then some (nI 0) else some (nI (anf (crq S (fun i => S (96 + i)) start (S 5 - 1) kk) (fun code => mkc (fun i => S (96 + i)) start code (S 5 - 1)) (8 ^ (S 5 - 1)))) := by
  have p8 : 8 ^ (S 5 - 1) ≤ 4096 := Nat.pow_le_pow_right (n := 8) (i := S 5 - 1) (j := 4) (by omega) (by omega)
  intro k
  induction k with
  | zero =>
    intro n code h hn
    obtain ⟨n, rfl⟩ : ∃ m, n = m + 1 := ⟨n - 1, by omega⟩
    have h : code = 8 ^ (S 5 - 1) := by omega
    subst h
    rw [f_X12_inCrowd_80, if_pos (nI_le (Nat.le_refl _) (by omega))]
    rfl
  | succ k ih =>
    intro n code h hn
    obtain ⟨n, rfl⟩ : ∃ m, n = m + 1 := ⟨n - 1, by omega⟩
    have g := ih n (code + 1) (by omega) (by omega)
    have wa := rWas (N := N) (code := code) hA hL (by omega) hs hc h5 hq (by omega)
    have b2 := cr_b (C := fun i => S (96 + i)) (start := start) (code := code) (c := S 5 - 1) (by omega)
    have rb := rBits (N := N) (v := mkc (fun i => S (96 + i)) start code (S 5 - 1)) (by omega) (by omega)
    have pl := pop_le (mkc (fun i => S (96 + i)) start code (S 5 - 1))
    rw [← g, f_X12_inCrowd_80]
    rw [show sm (fun code => if crq S (fun i => S (96 + i)) start (S 5 - 1) kk code = true then 1 else 0) (code + 1) = sm (fun code => if crq S (fun i => S (96 + i)) start (S 5 - 1) kk code = true then 1 else 0) code + (if crq S (fun i => S (96 + i)) start (S 5 - 1) kk code = true then 1 else 0) from rfl]
    rw [show orf (crq S (fun i => S (96 + i)) start (S 5 - 1) kk) (fun code => mkc (fun i => S (96 + i)) start code (S 5 - 1)) (code + 1) = (if crq S (fun i => S (96 + i)) start (S 5 - 1) kk code = true then orf (crq S (fun i => S (96 + i)) start (S 5 - 1) kk) (fun code => mkc (fun i => S (96 + i)) start code (S 5 - 1)) code ||| mkc (fun i => S (96 + i)) start code (S 5 - 1) else orf (crq S (fun i => S (96 + i)) start (S 5 - 1) kk) (fun code => mkc (fun i => S (96 + i)) start code (S 5 - 1)) code) from rfl]
    rw [show anf (crq S (fun i => S (96 + i)) start (S 5 - 1) kk) (fun code => mkc (fun i => S (96 + i)) start code (S 5 - 1)) (code + 1) = (if crq S (fun i => S (96 + i)) start (S 5 - 1) kk code = true then anf (crq S (fun i => S (96 + i)) start (S 5 - 1) kk) (fun code => mkc (fun i => S (96 + i)) start code (S 5 - 1)) code &&& mkc (fun i => S (96 + i)) start code (S 5 - 1) else anf (crq S (fun i => S (96 + i)) start (S 5 - 1) kk) (fun code => mkc (fun i => S (96 + i)) start code (S 5 - 1)) code) from rfl]
    clear g ih
    generalize sm (fun code => if crq S (fun i => S (96 + i)) start (S 5 - 1) kk code = true then 1 else 0) code = A
    generalize orf (crq S (fun i => S (96 + i)) start (S 5 - 1) kk) (fun code => mkc (fun i => S (96 + i)) start code (S 5 - 1)) code = B
    generalize anf (crq S (fun i => S (96 + i)) start (S 5 - 1) kk) (fun code => mkc (fun i => S (96 + i)) start code (S 5 - 1)) code = C
    by_cases w1 : okc S start code (S 5 - 1) = true
    · rw [if_pos w1] at wa
      have hm1 : ¬ nI (mkc (fun i => S (96 + i)) start code (S 5 - 1)) = -nI 1 := m1_ne (by omega)
      by_cases w2 : pop (mkc (fun i => S (96 + i)) start code (S 5 - 1)) = kk
      · have w3 : crq S (fun i => S (96 + i)) start (S 5 - 1) kk code = true := decide_eq_true ⟨w1, w2⟩
        rw [if_pos w3, if_pos w3, if_pos w3]
        simp (maxSteps := 1000000) (disch := omega) only [li, ob1_s, ob2_s, ob3_s, ob4_s, ob5_s, ob6_s, ob7_s, gA_n, gL_n, sA_n, sL_n, cpI_n, nI_add, pk_mul, nsub, nlt_t, nlt_f, nle_t, nle_f, neq_t, neq_f, rmI_n, dvI_n, upd_ne, upd_eq, un_ne, un_eq, Nat.add_zero, Bool.false_eq_true, ↓reduceIte, wa, hm1, nIl, rb, nor, nand, f_X12_inCrowd_132]
      · have w3 : ¬ crq S (fun i => S (96 + i)) start (S 5 - 1) kk code = true := by unfold crq; rw [decide_eq_true_eq]; exact fun h => w2 h.2
        rw [if_neg w3, if_neg w3, if_neg w3, Nat.add_zero]
        simp (maxSteps := 1000000) (disch := omega) only [li, ob1_s, ob2_s, ob3_s, ob4_s, ob5_s, ob6_s, ob7_s, gA_n, gL_n, sA_n, sL_n, cpI_n, nI_add, pk_mul, nsub, nlt_t, nlt_f, nle_t, nle_f, neq_t, neq_f, rmI_n, dvI_n, upd_ne, upd_eq, un_ne, un_eq, Nat.add_zero, Bool.false_eq_true, ↓reduceIte, wa, hm1, nIl, rb, f_X12_inCrowd_132]
    · rw [if_neg w1] at wa
      have w3 : ¬ crq S (fun i => S (96 + i)) start (S 5 - 1) kk code = true := by unfold crq; rw [decide_eq_true_eq]; exact fun h => w1 h.1
      rw [if_neg w3, if_neg w3, if_neg w3, Nat.add_zero]
      simp (maxSteps := 1000000) (disch := omega) only [li, ob1_s, ob2_s, ob3_s, ob4_s, ob5_s, ob6_s, ob7_s, gA_n, gL_n, sA_n, sL_n, cpI_n, nI_add, pk_mul, nsub, nlt_t, nlt_f, nle_t, nle_f, neq_t, neq_f, rmI_n, dvI_n, upd_ne, upd_eq, un_ne, un_eq, Nat.add_zero, Bool.false_eq_true, ↓reduceIte, wa, f_X12_inCrowd_132]
theorem st_inCrowd {j : Nat} {dn : Int32} {df dr row fe to : Nat → Int32} {cnt next : Int32} {store : Nat → Int32} {calls bord rep unl pay : Int32} {cl ul ga py pr : Nat → Int32} {tx rul : Int32} {a : Nat → Int32} {S : Nat → Nat} {N : Nat} {gone may must : Int32} {ends beg : Nat → Int32} (x y z : Int32) (hN : 10000 ≤ N) (h : RealmT j dn df dr row fe to cnt next store calls bord rep unl pay cl ul ga py pr tx rul a S) :
    ∃ (r gone' may' must' : Int32) (ends' beg' : Nat → Int32), f_X11_inCrowd N dn dr calls cl gone may must ends beg x y z = some (r, gone', may', must', ends', beg') ∧ f_X12_inCrowd N a x y z = some r := by
  obtain ⟨hA, hL, hR, hW, hF, hB, hZ, hQ, hI, hj⟩ := h
  obtain ⟨h1, h8, h3, h4, h5, h6⟩ := id hL
  obtain ⟨n1, n2, n3, n4, n5⟩ := hQ
  obtain ⟨a1, a2, a3⟩ := id n1
  rcases inOut x (S 0) (by omega) with hx | ⟨s, hs, rfl⟩
  · refine ⟨-nI 1, gone, may, must, ends, beg, ?_, ?_⟩
    · simp only [f_X11_inCrowd, h1, cLand_out h8 hx, li, ob1_s, ↓reduceIte]
    · simp only [f_X12_inCrowd, rLand_out hA h8 hx, li, ob1_s, ↓reduceIte]
  have i1 := cLand_in (N := N) h8 hs
  have i2 := rLand_in (N := N) hA h8 hs
  have z10 : (nI 1 = nI 0) = False := eq_false (by decide)
  rcases inOut y 6 (by omega) with hy | ⟨kk, hk, rfl⟩
  · refine ⟨-nI 1, gone, may, must, ends, beg, ?_, ?_⟩
    · rcases hy with q | ⟨q, q0⟩
      · simp only [f_X11_inCrowd, h1, i1, li, ob1_s, z10, q, ↓reduceIte]
      · simp only [f_X11_inCrowd, h1, i1, li, ob1_s, z10, q0, ge_lt (show 6 < 2147483648 by omega) (show 5 < 6 by omega) q, ↓reduceIte]
    · simp only [f_X12_inCrowd, i2, li, ob1_s, z10, isIn_outT hy (show 6 < 2147483648 by omega) (show 5 + 1 = 6 by omega), ↓reduceIte]
  have j2 := isIn_in (N := N) (p := kk) (lo := 0) (hi := 5) (by omega) (by omega) (by omega)
  rcases Nat.eq_zero_or_pos (S 5) with w | w
  · refine ⟨-nI 1, gone, may, must, ends, beg, ?_, ?_⟩
    · rw [h1, a1, w]
      simp (maxSteps := 1000000) (disch := omega) only [li, ob1_s, ob2_s, ob3_s, ob4_s, ob5_s, ob6_s, ob7_s, gA_n, gL_n, sA_n, sL_n, cpI_n, nI_add, pk_mul, nsub, nlt_t, nlt_f, nle_t, nle_f, neq_t, neq_f, rmI_n, dvI_n, upd_ne, upd_eq, un_ne, un_eq, Nat.add_zero, Bool.false_eq_true, ↓reduceIte, f_X11_inCrowd, i1]
    · rcases inOut z 3 (by omega) with hz | ⟨wh, hw, rfl⟩
      · simp only [f_X12_inCrowd, i2, j2, li, ob1_s, z10, isIn_outT hz (show 3 < 2147483648 by omega) (show 2 + 1 = 3 by omega), ↓reduceIte]
      · simp (maxSteps := 1000000) (disch := omega) only [li, ob1_s, ob2_s, ob3_s, ob4_s, ob5_s, ob6_s, ob7_s, gA_n, gL_n, sA_n, sL_n, cpI_n, nI_add, pk_mul, nsub, nlt_t, nlt_f, nle_t, nle_f, neq_t, neq_f, rmI_n, dvI_n, upd_ne, upd_eq, un_ne, un_eq, Nat.add_zero, Bool.false_eq_true, ↓reduceIte, f_X12_inCrowd, i2, j2, isIn_in, hA.2, w]
  rcases inOut z 3 (by omega) with hz | ⟨wh, hw, rfl⟩
  · refine ⟨-nI 1, gone, may, must, ends, beg, ?_, ?_⟩
    · rw [h1, a1]
      rcases hz with q | ⟨q, q0⟩
      · simp (disch := omega) only [f_X11_inCrowd, i1, li, ob1_s, nlt_f, neq_f, q, ↓reduceIte]
      · simp (disch := omega) only [f_X11_inCrowd, i1, li, ob1_s, nlt_f, neq_f, q0, ge_nle (show 3 < 2147483648 by omega) (show 2 < 3 by omega) q, ↓reduceIte]
    · simp only [f_X12_inCrowd, i2, j2, li, ob1_s, z10, isIn_outT hz (show 3 < 2147483648 by omega) (show 2 + 1 = 3 by omega), ↓reduceIte]
  have p8 : 8 ^ (S 5 - 1) ≤ 4096 := Nat.pow_le_pow_right (n := 8) (i := S 5 - 1) (j := 4) (by omega) (by omega)
  obtain ⟨e, b, t1, t2⟩ := cTable (N := N) (start := s) (kk := kk) (g1 := gone) (g2 := may) (g3 := must) (e0 := ends) (b0 := beg) hL n1 (by omega) hs w
  have su := cSumUp (N := N) (kk := kk) (e := e) (G := fun i => cnc S (fun i => S (96 + i)) s (S 5 - 1) (i / 32) (i % 32)) (g1 := gone) (g2 := may) (g3 := must) (by omega) (by omega) (fun i hi => ⟨t2 i hi, by have := cnc_b S (fun i => S (96 + i)) s (S 5 - 1) (i / 32) (i % 32); omega⟩)
  rw [cr_gone (by omega) (by omega), cr_may (by omega) (by omega), cr_must (by omega) (by omega)] at su
  have rc := rCodes (N := N) (start := s) (kk := kk) (wh := nI wh) hA hL hN hs w a2 (fun k hk => (a3 k hk).2) (by omega) (8 ^ (S 5 - 1)) N 0 (by omega) (by omega)
  have rp : ∀ k n i, i + k + 1 = S 5 → k < n → f_X12_inCrowd_43 N n a (nI s) (nI kk) (nI wh) (nI (8 ^ i)) (nI (i + 1)) = f_X12_inCrowd_80 N N a (nI s) (nI kk) (nI wh) (nI (8 ^ (S 5 - 1))) (nI 0) (nI 0) (nI 31) (nI 0) := by
    intro k
    induction k with
    | zero =>
      intro n i h hn
      obtain ⟨n, rfl⟩ : ∃ m, n = m + 1 := ⟨n - 1, by omega⟩
      have h : i = S 5 - 1 := by omega
      subst h
      rw [f_X12_inCrowd_43]
      simp (maxSteps := 1000000) (disch := omega) only [li, ob1_s, ob2_s, ob3_s, ob4_s, ob5_s, ob6_s, ob7_s, gA_n, gL_n, sA_n, sL_n, cpI_n, nI_add, pk_mul, nsub, nlt_t, nlt_f, nle_t, nle_f, neq_t, neq_f, rmI_n, dvI_n, upd_ne, upd_eq, un_ne, un_eq, Nat.add_zero, Bool.false_eq_true, ↓reduceIte, hA.2]
    | succ k ih =>
      intro n i h hn
      obtain ⟨n, rfl⟩ : ∃ m, n = m + 1 := ⟨n - 1, by omega⟩
      have g := ih n (i + 1) (by omega) (by omega)
      rw [Nat.pow_succ] at g
      rw [f_X12_inCrowd_43]
      simp (maxSteps := 1000000) (disch := omega) only [li, ob1_s, ob2_s, ob3_s, ob4_s, ob5_s, ob6_s, ob7_s, gA_n, gL_n, sA_n, sL_n, cpI_n, nI_add, pk_mul, nsub, nlt_t, nlt_f, nle_t, nle_f, neq_t, neq_f, rmI_n, dvI_n, upd_ne, upd_eq, un_ne, un_eq, Nat.add_zero, Bool.false_eq_true, ↓reduceIte, hA.2]
      exact g
  have r0 := rp (S 5 - 1) N 0 (by omega) (by omega)
  rw [Nat.pow_zero] at r0
  have rc' : f_X12_inCrowd_80 N N a (nI s) (nI kk) (nI wh) (nI (8 ^ (S 5 - 1))) (nI 0) (nI 0) (nI 31) (nI 0) = _ := rc
  generalize sm (fun code => if crq S (fun i => S (96 + i)) s (S 5 - 1) kk code = true then 1 else 0) (8 ^ (S 5 - 1)) = A at su rc'
  generalize orf (crq S (fun i => S (96 + i)) s (S 5 - 1) kk) (fun code => mkc (fun i => S (96 + i)) s code (S 5 - 1)) (8 ^ (S 5 - 1)) = B at su rc'
  generalize anf (crq S (fun i => S (96 + i)) s (S 5 - 1) kk) (fun code => mkc (fun i => S (96 + i)) s code (S 5 - 1)) (8 ^ (S 5 - 1)) = C at su rc'
  have cc : f_X10_countInCrowd N gone may must ends beg dn dr calls cl (nI s) (nI kk) = some (nI A, nI B, if nI A = nI 0 then nI 0 else nI C, e, b) := by
    rw [t1]
    unfold f_X10_countInCrowd_146
    rw [su, ob3_s]
  have cg : f_X11_inCrowd N dn dr calls cl gone may must ends beg (nI s) (nI kk) (nI wh) = if nI wh = nI 0 then some (nI A, nI A, nI B, (if nI A = nI 0 then nI 0 else nI C), e, b) else if nI wh = nI 1 then some (nI B, nI A, nI B, (if nI A = nI 0 then nI 0 else nI C), e, b) else some ((if nI A = nI 0 then nI 0 else nI C), nI A, nI B, (if nI A = nI 0 then nI 0 else nI C), e, b) := by
    have i1' : f_X2_told N dn (nI s) = some (nI 1) := by rw [h1]; exact i1
    have a1' : (calls = nI 0) = False := by rw [a1]; exact neq_f (by omega) (by omega) (by omega)
    simp (disch := omega) only [f_X11_inCrowd, i1', a1', li, ob1_s, nlt_f, nle_t, neq_f, z10, cc, ob5_s, ↓reduceIte]
  have rg : f_X12_inCrowd N a (nI s) (nI kk) (nI wh) = f_X12_inCrowd_80 N N a (nI s) (nI kk) (nI wh) (nI (8 ^ (S 5 - 1))) (nI 0) (nI 0) (nI 31) (nI 0) := by
    rw [← r0]
    simp (maxSteps := 1000000) (disch := omega) only [li, ob1_s, ob2_s, ob3_s, ob4_s, ob5_s, ob6_s, ob7_s, gA_n, gL_n, sA_n, sL_n, cpI_n, nI_add, pk_mul, nsub, nlt_t, nlt_f, nle_t, nle_f, neq_t, neq_f, rmI_n, dvI_n, upd_ne, upd_eq, un_ne, un_eq, Nat.add_zero, Bool.false_eq_true, ↓reduceIte, f_X12_inCrowd, i2, j2, isIn_in, hA.2]
  rw [cg, rg, rc']
  by_cases w0 : nI wh = nI 0
  · exact ⟨_, _, _, _, _, _, by rw [if_pos w0], by rw [if_pos w0]⟩
  · by_cases w1 : nI wh = nI 1
    · exact ⟨_, _, _, _, _, _, by rw [if_neg w0, if_pos w1], by rw [if_neg w0, if_pos w1]⟩
    · refine ⟨_, _, _, _, _, _, by rw [if_neg w0, if_neg w1], ?_⟩
      rw [if_neg w0, if_neg w1]
      by_cases w2 : nI A = nI 0
      · rw [if_pos w2, if_pos w2]
      · rw [if_neg w2, if_neg w2]
