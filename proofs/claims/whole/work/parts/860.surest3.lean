/-! the surest way -/
theorem r16 (y : Int32) : y < nI 1 ∨ (¬ y < nI 1 ∧ nI 6 < y) ∨ ∃ n, 1 ≤ n ∧ n ≤ 6 ∧ y = nI n := by
  have e0 : (nI 0).toInt = 0 := by decide
  have e1 : (nI 1).toInt = 1 := by decide
  have e6 : (nI 6).toInt = 6 := by decide
  have e7 : (nI 7).toInt = 7 := by decide
  by_cases h1 : y < nI 1
  · exact Or.inl h1
  by_cases h2 : nI 6 < y
  · exact Or.inr (Or.inl ⟨h1, h2⟩)
  rcases inOut y 7 (by omega) with h | ⟨k, hk, rfl⟩
  · exfalso
    rw [Int32.lt_iff_toInt_lt] at h1 h2
    rcases h with h | ⟨h, -⟩
    · rw [Int32.lt_iff_toInt_lt] at h; omega
    · rw [Int32.le_iff_toInt_le] at h; omega
  · refine Or.inr (Or.inr ⟨k, ?_, by omega, rfl⟩)
    rcases Nat.eq_zero_or_pos k with q | q
    · subst q; exact absurd (nI_lt (by omega) (by omega)) h1
    · exact q
theorem rzz (z : Int32) (n : Nat) (hn : n < 100) : z < -nI 2 ∨ (¬ z < -nI 2 ∧ ¬ z < nI n) ∨ z = -nI 2 ∨ z = -nI 1 ∨ ∃ k, k < n ∧ z = nI k := by
  have e0 : (nI 0).toInt = 0 := by decide
  have e2 : (-nI 2).toInt = -2 := by decide
  have e1 : (-nI 1).toInt = -1 := by decide
  have en : (nI n).toInt = n := nI_toInt (by omega)
  by_cases h1 : z < -nI 2
  · exact Or.inl h1
  by_cases h2 : z < nI n
  · rcases inOut z n (by omega) with h | ⟨k, hk, rfl⟩
    · rw [Int32.lt_iff_toInt_lt] at h1 h2
      rcases h with h | ⟨h, -⟩
      · rw [Int32.lt_iff_toInt_lt] at h
        by_cases q : z.toInt = -2
        · exact Or.inr (Or.inr (Or.inl (Int32.toInt_inj.mp (q.trans e2.symm))))
        · exact Or.inr (Or.inr (Or.inr (Or.inl (Int32.toInt_inj.mp (show z.toInt = (-nI 1).toInt by omega)))))
      · rw [Int32.le_iff_toInt_le] at h; omega
    · exact Or.inr (Or.inr (Or.inr (Or.inr ⟨k, hk, rfl⟩)))
  · exact Or.inr (Or.inl ⟨h1, h2⟩)
theorem cSure {N n p : Nat} {tcd tst ten ucd ust uen wcd wst wen xcd xst xen : Nat → Int32} {up0 : Int32} {liv best way row fe df dr nm stack : Nat → Int32} {dn tx rul : Int32} {S L : Nat → Nat} (hN : 100 ≤ N) (hL : LandT dn df dr S) (hR : RowC row S) (hW : FolkX S) (hp : p < S 1) (hn1 : 1 ≤ n) (hn6 : n ≤ 6) (h1 : ∀ t, t < S 0 → liv t = nI (L t) ∧ L t ≤ 10) (h2 : ∀ u t, u ≤ n → t < S 0 → best (8 * u + t) = nI (Wm S L u t)) :
    ∃ way', f_X10_seekSurest_154 N up0 (nI (10 ^ n)) liv best way row fe dn df dr tcd tst ten ucd ust uen wcd wst wen xcd xst xen tx rul nm stack (nI p) (nI n) = some (nI (Wm S L n (S (14 + 11 * p)) / Nat.gcd (Wm S L n (S (14 + 11 * p))) (10 ^ n)), nI (10 ^ n / Nat.gcd (Wm S L n (S (14 + 11 * p))) (10 ^ n)), liv, best, way', nm, stack) ∧ ∀ u, u < n → way' u = nI (pth S L n (Wm S L n (S (14 + 11 * p))) (S (14 + 11 * p)) (u + 1)) := by
  obtain ⟨p0, -⟩ := hW.part hp
  have w1 := hW.1
  have hLb : ∀ t, t < S 0 → L t ≤ 10 := fun t ht => (h1 t ht).2
  generalize hst : S (14 + 11 * p) = start at *
  have f4 := Wm_b hLb n start
  have f5 : 10 ^ n ≤ 1000000 := Nat.pow_le_pow_right (n := 10) (j := 6) (by omega) hn6
  have f6 : 0 < 10 ^ n := Nat.pow_pos (by omega)
  obtain ⟨m, rfl⟩ : ∃ m, n = m + 1 := ⟨n - 1, by omega⟩
  have c := cBestFrom (N := N) (l := start) (m := m) (best := best) (V := Wm S L m) hL hN p0 (by omega) h1 (fun t ht => ⟨h2 m t (by omega) ht, Nat.le_trans (Wm_b hLb m t) (p10 (by omega))⟩)
  have c : f_X10_bestFrom N liv best dn dr (nI start) (nI (m + 1)) = some (nI (Wm S L (m + 1) start)) := c
  obtain ⟨way', g1, g2⟩ := cFollow (N := N) (n := m + 1) (up := Wm S L (m + 1) start) (start := start) (best := best) hL hN p0 (by omega) hn6 h1 (fun u t hu ht => h2 u t (by omega) ht) rfl (m + 1) N 0 1 way (by omega) (by omega) (Nat.le_refl _) (by rw [Nat.one_mul]; rfl) (fun u hu => absurd hu (by omega))
  have g1 : f_X10_follow N (nI (Wm S L (m + 1) start)) liv best way dn dr (nI start) (nI (m + 1)) = some way' := g1
  have gg := cGcd (N := N) (a := (Wm S L (m + 1) start : Nat)) (b := (10 ^ (m + 1) : Nat)) hN (by omega) (by omega)
  rw [← iI_n, ← iI_n, Int.natAbs_natCast, Int.natAbs_natCast] at gg
  have hg : 0 < Nat.gcd (Wm S L (m + 1) start) (10 ^ (m + 1)) := Nat.gcd_pos_of_pos_right _ f6
  have hg2 : Nat.gcd (Wm S L (m + 1) start) (10 ^ (m + 1)) ≤ 10 ^ (m + 1) := Nat.gcd_le_right _ f6
  refine ⟨way', ?_, g2⟩
  generalize Wm S L (m + 1) start = up at *
  generalize 10 ^ (m + 1) = low at *
  have cg := cget (N := N) (k := 0) hR w1 hp (by omega)
  rw [Nat.add_zero, hst] at cg
  simp (maxSteps := 1000000) (disch := omega) only [li, ob1_s, ob2_s, ob3_s, ob4_s, ob5_s, ob6_s, ob7_s, gA_n, gL_n, sA_n, sL_n, cpI_n, nI_add, pk_mul, nsub, nlt_t, nlt_f, nle_t, nle_f, neq_t, neq_f, rmI_n, dvI_n, upd_ne, upd_eq, un_ne, un_eq, Nat.add_zero, Bool.false_eq_true, ↓reduceIte, f_X10_seekSurest_154, cg, c, g1, gg]
theorem rAll {N n : Nat} {a vt nd truth likely safe : Nat → Int32} {values : Nat → Int64} (x3 x4 x5 : Int32) (hn6 : n ≤ 6) :
    ∀ r f i, i + r = n → r < f → f_X12_surest_67 N f a vt nd values truth likely safe (nI n) x3 x4 x5 (nI (10 ^ i)) (nI i) = if nI 0 ≤ x3 then f_X12_surest_115 N N a vt nd values truth likely safe (nI n) x3 x4 x5 (nI 0) else if x3 = -nI 2 then f_X12_surest_103 N a vt nd values truth likely safe x5 (nI (10 ^ n)) x5 else f_X12_surest_103 N a vt nd values truth likely safe x5 (nI (10 ^ n)) (nI (10 ^ n)) := by
  intro r
  induction r with
  | zero =>
    intro f i e hf
    obtain ⟨f, rfl⟩ : ∃ m, f = m + 1 := ⟨f - 1, by omega⟩
    have e : i = n := by omega
    subst e
    rw [f_X12_surest_67]
    simp (maxSteps := 1000000) (disch := omega) only [li, ob1_s, ob2_s, ob3_s, ob4_s, ob5_s, ob6_s, ob7_s, gA_n, gL_n, sA_n, sL_n, cpI_n, nI_add, pk_mul, nsub, nlt_t, nlt_f, nle_t, nle_f, neq_t, neq_f, rmI_n, dvI_n, upd_ne, upd_eq, un_ne, un_eq, Nat.add_zero, Bool.false_eq_true, ↓reduceIte]
  | succ r ih =>
    intro f i e hf
    obtain ⟨f, rfl⟩ : ∃ m, f = m + 1 := ⟨f - 1, by omega⟩
    have g := ih f (i + 1) (by omega) (by omega)
    have ep : 10 ^ i * 10 = 10 ^ (i + 1) := (Nat.pow_succ ..).symm
    rw [f_X12_surest_67, ← g]
    simp (maxSteps := 1000000) (disch := omega) only [li, ob1_s, ob2_s, ob3_s, ob4_s, ob5_s, ob6_s, ob7_s, gA_n, gL_n, sA_n, sL_n, cpI_n, nI_add, pk_mul, nsub, nlt_t, nlt_f, nle_t, nle_f, neq_t, neq_f, rmI_n, dvI_n, upd_ne, upd_eq, un_ne, un_eq, Nat.add_zero, Bool.false_eq_true, ↓reduceIte, ep]
theorem rWalk {N n k start : Nat} {a vt nd truth likely safe : Nat → Int32} {values : Nat → Int64} {dn : Int32} {df dr : Nat → Int32} {S L : Nat → Nat} (hA : TieA a S) (hN : 100 ≤ N) (hL : LandT dn df dr S) (hs : start < S 0) (hk : k < n) (hn6 : n ≤ 6) (h1 : ∀ t, t < S 0 → safe t = nI (L t) ∧ L t ≤ 10) (h2 : ∀ u t, u ≤ n → t < S 0 → likely (8 * u + t) = nI (Wm S L u t)) (up : Nat) (hup : up < 2147483648) :
    ∀ r f i, i + r = k + 1 → r < f → f_X12_surest_115 N f a vt nd values truth likely safe (nI n) (nI k) (nI (pth S L n up start i)) (nI up) (nI i) = some (nI (pth S L n up start (k + 1)), nd, values, truth, likely, safe) := by
  have hLb : ∀ t, t < S 0 → L t ≤ 10 := fun t ht => (h1 t ht).2
  intro r
  induction r with
  | zero =>
    intro f i e hf
    obtain ⟨f, rfl⟩ : ∃ m, f = m + 1 := ⟨f - 1, by omega⟩
    have e : i = k + 1 := by omega
    subst e
    rw [f_X12_surest_115]
    simp (maxSteps := 1000000) (disch := omega) only [li, ob1_s, ob2_s, ob3_s, ob4_s, ob5_s, ob6_s, ob7_s, gA_n, gL_n, sA_n, sL_n, cpI_n, nI_add, pk_mul, nsub, nlt_t, nlt_f, nle_t, nle_f, neq_t, neq_f, rmI_n, dvI_n, upd_ne, upd_eq, un_ne, un_eq, Nat.add_zero, Bool.false_eq_true, ↓reduceIte]
  | succ r ih =>
    intro f i e hf
    obtain ⟨f, rfl⟩ : ∃ m, f = m + 1 := ⟨f - 1, by omega⟩
    have g := ih f (i + 1) (by omega) (by omega)
    have hto := pth_lt (S := S) (L := L) (n := n) (up := up) hs i
    have hd : pth S L n up start (i + 1) = if up = 0 then lw (rch S (pth S L n up start i)) (S 0) else lw (qmx S (fun t => L t * Wm S L (n - 1 - i) t) (pth S L n up start i)) (S 0) := rfl
    rw [f_X12_surest_115]
    by_cases hu : up = 0
    · rw [if_pos hu] at hd
      have c := rLowest (N := N) hA hL hN hto
      rw [← hd] at c
      subst hu
      simp (maxSteps := 1000000) (disch := omega) only [li, ob1_s, ob2_s, ob3_s, ob4_s, ob5_s, ob6_s, ob7_s, gA_n, gL_n, sA_n, sL_n, cpI_n, nI_add, pk_mul, nsub, nlt_t, nlt_f, nle_t, nle_f, neq_t, neq_f, rmI_n, dvI_n, upd_ne, upd_eq, un_ne, un_eq, Nat.add_zero, Bool.false_eq_true, ↓reduceIte, f_X12_surest_145, c]
      exact g
    · rw [if_neg hu] at hd
      have c := rNext (N := N) (m := n - 1 - i) (V := Wm S L (n - 1 - i)) hA hL hN hto (by omega) h1 (fun t ht => ⟨h2 (n - 1 - i) t (by omega) ht, Nat.le_trans (Wm_b hLb _ t) (p10 (by omega))⟩)
      rw [← hd, show n - 1 - i + 1 = n - i by omega] at c
      simp (maxSteps := 1000000) (disch := omega) only [li, ob1_s, ob2_s, ob3_s, ob4_s, ob5_s, ob6_s, ob7_s, gA_n, gL_n, sA_n, sL_n, cpI_n, nI_add, pk_mul, nsub, nlt_t, nlt_f, nle_t, nle_f, neq_t, neq_f, rmI_n, dvI_n, upd_ne, upd_eq, un_ne, un_eq, Nat.add_zero, Bool.false_eq_true, ↓reduceIte, f_X12_surest_145, c]
      exact g
theorem st_surest {j : Nat} {dn : Int32} {df dr row fe to : Nat → Int32} {cnt next : Int32} {store : Nat → Int32} {calls bord rep unl pay : Int32} {cl ul ga py pr : Nat → Int32} {tx rul : Int32} {a : Nat → Int32} {S : Nat → Nat} {N : Nat} {tcl : Int32} {tcd tst ten trw : Nat → Int32} {ucl : Int32} {ucd ust uen urw : Nat → Int32} {wcl : Int32} {wcd wst wen wrw : Nat → Int32} {xcl : Int32} {xcd xst xen xrw : Nat → Int32} {vt : Nat → Int32} {nm0 nd0 stack truth liv best way likely safe : Nat → Int32} {values : Nat → Int64} (vup vlow : Int32) (hN : 10000 ≤ N) (hT : TextsT N tcl tcd tst ten trw ucl ucd ust uen urw wcl wcd wst wen wrw xcl xcd xst xen xrw vt (S 2)) (x y z : Int32) (h : RealmT j dn df dr row fe to cnt next store calls bord rep unl pay cl ul ga py pr tx rul a S) :
    ∃ (r : Int32) (nm' stack' : Nat → Int32) (up' low' : Int32) (liv' best' way' nd' : Nat → Int32) (values' : Nat → Int64) (truth' likely' safe' : Nat → Int32), f_X11_surest N dn df dr row fe tx rul tcd tst ten ucd ust uen wcd wst wen xcd xst xen nm0 stack vup vlow liv best way x y z = some (r, nm', stack', up', low', liv', best', way') ∧ f_X12_surest N a vt nd0 values truth likely safe x y z = some (r, nd', values', truth', likely', safe') := by
  have hE := h.le hT
  obtain ⟨hA, hL, hR, hW, hF, hB, hZ, hQ, hI, hj⟩ := h
  have w1 := hW.1
  have hX := hW.x
  have h8 := hL.2.1
  rcases inOut x (S 1) (by omega) with hx | ⟨p, hp, rfl⟩
  · refine ⟨-nI 3, nm0, stack, vup, vlow, liv, best, way, nd0, values, truth, likely, safe, ?_, ?_⟩
    · simp only [f_X11_surest, cPers_out hR hx, li, ob1_s, ↓reduceIte, ite_self]
    · simp only [f_X12_surest, rOutl_o hA w1 hx, li, ob1_s, ↓reduceIte]
  by_cases ho : S (14 + 11 * p + 6) = 1
  case neg =>
    have c1 := rOutlaw (N := N) hA hX hp
    rw [if_neg ho] at c1
    have c2 := cget (N := N) (k := 6) hR w1 hp (by omega)
    have c3 : ¬ nI (S (14 + 11 * p + 6)) = nI 1 := by
      obtain ⟨-, p1, p2, p3, p4, p5, p6⟩ := hW.part hp
      exact fun e => ho ((neq (by omega) (by omega)).mp e)
    refine ⟨-nI 3, nm0, stack, vup, vlow, liv, best, way, nd0, values, truth, likely, safe, ?_, ?_⟩
    · simp (maxSteps := 1000000) (disch := omega) only [li, ob1_s, ob2_s, ob3_s, ob4_s, ob5_s, ob6_s, ob7_s, gA_n, gL_n, sA_n, sL_n, cpI_n, nI_add, pk_mul, nsub, nlt_t, nlt_f, nle_t, nle_f, neq_t, neq_f, rmI_n, dvI_n, upd_ne, upd_eq, un_ne, un_eq, Nat.add_zero, Bool.false_eq_true, ↓reduceIte, f_X11_surest, cPers_in hR w1, c2, c3, ite_self]
    · simp (maxSteps := 1000000) (disch := omega) only [li, ob1_s, ob2_s, ob3_s, ob4_s, ob5_s, ob6_s, ob7_s, gA_n, gL_n, sA_n, sL_n, cpI_n, nI_add, pk_mul, nsub, nlt_t, nlt_f, nle_t, nle_f, neq_t, neq_f, rmI_n, dvI_n, upd_ne, upd_eq, un_ne, un_eq, Nat.add_zero, Bool.false_eq_true, ↓reduceIte, f_X12_surest, c1]
  have c1 := rOutlaw (N := N) hA hX hp
  rw [if_pos ho] at c1
  have c2 := cget (N := N) (k := 6) hR w1 hp (by omega)
  rw [ho] at c2
  rcases r16 y with hy | ⟨hy, hy2⟩ | ⟨n, hn1, hn6, rfl⟩
  · refine ⟨-nI 3, nm0, stack, vup, vlow, liv, best, way, nd0, values, truth, likely, safe, ?_, ?_⟩
    · simp (maxSteps := 1000000) (disch := omega) only [li, ob1_s, ob2_s, ob3_s, ob4_s, ob5_s, ob6_s, ob7_s, gA_n, gL_n, sA_n, sL_n, cpI_n, nI_add, pk_mul, nsub, nlt_t, nlt_f, nle_t, nle_f, neq_t, neq_f, rmI_n, dvI_n, upd_ne, upd_eq, un_ne, un_eq, Nat.add_zero, Bool.false_eq_true, ↓reduceIte, f_X11_surest, hy]
    · simp (maxSteps := 1000000) (disch := omega) only [li, ob1_s, ob2_s, ob3_s, ob4_s, ob5_s, ob6_s, ob7_s, gA_n, gL_n, sA_n, sL_n, cpI_n, nI_add, pk_mul, nsub, nlt_t, nlt_f, nle_t, nle_f, neq_t, neq_f, rmI_n, dvI_n, upd_ne, upd_eq, un_ne, un_eq, Nat.add_zero, Bool.false_eq_true, ↓reduceIte, f_X12_surest, f_X12_isIn, c1, hy]
  · refine ⟨-nI 3, nm0, stack, vup, vlow, liv, best, way, nd0, values, truth, likely, safe, ?_, ?_⟩
    · simp (maxSteps := 1000000) (disch := omega) only [li, ob1_s, ob2_s, ob3_s, ob4_s, ob5_s, ob6_s, ob7_s, gA_n, gL_n, sA_n, sL_n, cpI_n, nI_add, pk_mul, nsub, nlt_t, nlt_f, nle_t, nle_f, neq_t, neq_f, rmI_n, dvI_n, upd_ne, upd_eq, un_ne, un_eq, Nat.add_zero, Bool.false_eq_true, ↓reduceIte, f_X11_surest, hy, hy2]
    · simp (maxSteps := 1000000) (disch := omega) only [li, ob1_s, ob2_s, ob3_s, ob4_s, ob5_s, ob6_s, ob7_s, gA_n, gL_n, sA_n, sL_n, cpI_n, nI_add, pk_mul, nsub, nlt_t, nlt_f, nle_t, nle_f, neq_t, neq_f, rmI_n, dvI_n, upd_ne, upd_eq, un_ne, un_eq, Nat.add_zero, Bool.false_eq_true, ↓reduceIte, f_X12_surest, f_X12_isIn, c1, hy, hy2]
  have no : z < -nI 2 ∨ (¬ z < -nI 2 ∧ ¬ z < nI n) → ∃ (r : Int32) (nm' stack' : Nat → Int32) (up' low' : Int32) (liv' best' way' nd' : Nat → Int32) (values' : Nat → Int64) (truth' likely' safe' : Nat → Int32), f_X11_surest N dn df dr row fe tx rul tcd tst ten ucd ust uen wcd wst wen xcd xst xen nm0 stack vup vlow liv best way (nI p) (nI n) z = some (r, nm', stack', up', low', liv', best', way') ∧ f_X12_surest N a vt nd0 values truth likely safe (nI p) (nI n) z = some (r, nd', values', truth', likely', safe') := by
    intro hz
    refine ⟨-nI 3, nm0, stack, vup, vlow, liv, best, way, nd0, values, truth, likely, safe, ?_, ?_⟩
    · rcases hz with hz | ⟨hz, hz2⟩
      · simp (maxSteps := 1000000) (disch := omega) only [li, ob1_s, ob2_s, ob3_s, ob4_s, ob5_s, ob6_s, ob7_s, gA_n, gL_n, sA_n, sL_n, cpI_n, nI_add, pk_mul, nsub, nlt_t, nlt_f, nle_t, nle_f, neq_t, neq_f, rmI_n, dvI_n, upd_ne, upd_eq, un_ne, un_eq, Nat.add_zero, Bool.false_eq_true, ↓reduceIte, f_X11_surest, hz]
      · simp (maxSteps := 1000000) (disch := omega) only [li, ob1_s, ob2_s, ob3_s, ob4_s, ob5_s, ob6_s, ob7_s, gA_n, gL_n, sA_n, sL_n, cpI_n, nI_add, pk_mul, nsub, nlt_t, nlt_f, nle_t, nle_f, neq_t, neq_f, rmI_n, dvI_n, upd_ne, upd_eq, un_ne, un_eq, Nat.add_zero, Bool.false_eq_true, ↓reduceIte, f_X11_surest, hz, hz2]
    · rcases hz with hz | ⟨hz, hz2⟩
      · simp (maxSteps := 1000000) (disch := omega) only [li, ob1_s, ob2_s, ob3_s, ob4_s, ob5_s, ob6_s, ob7_s, gA_n, gL_n, sA_n, sL_n, cpI_n, nI_add, pk_mul, nsub, nlt_t, nlt_f, nle_t, nle_f, neq_t, neq_f, rmI_n, dvI_n, upd_ne, upd_eq, un_ne, un_eq, Nat.add_zero, Bool.false_eq_true, ↓reduceIte, f_X12_surest, f_X12_isIn, c1, hz]
      · have hz3 : nI (n - 1) < z := by
          rw [Int32.lt_iff_toInt_lt, nI_toInt (by omega)] at *
          omega
        simp (maxSteps := 1000000) (disch := omega) only [li, ob1_s, ob2_s, ob3_s, ob4_s, ob5_s, ob6_s, ob7_s, gA_n, gL_n, sA_n, sL_n, cpI_n, nI_add, pk_mul, nsub, nlt_t, nlt_f, nle_t, nle_f, neq_t, neq_f, rmI_n, dvI_n, upd_ne, upd_eq, un_ne, un_eq, Nat.add_zero, Bool.false_eq_true, ↓reduceIte, f_X12_surest, f_X12_isIn, c1, hz, hz3]
  obtain ⟨liv1, best1, safe1, likely1, nm1, stack1, nd1, truth1, values1, L, q1, q2, q3⟩ := jLay (p := p) (up := vup) (low := vlow) (way := way) (x4 := nI n) hN hE hL hR hA hX hp (S 0) N 0 liv best safe likely nm0 stack nd0 truth values (fun _ => 0) (by omega) (by have := hL.2.1; omega) (fun u hu => absurd hu (by omega))
  have l1 : ∀ t, t < S 0 → liv1 t = nI (L t) ∧ L t ≤ 10 := fun t ht => ⟨(q3 t ht).1, (q3 t ht).2.2.1⟩
  have l2 : ∀ t, t < S 0 → safe1 t = nI (L t) ∧ L t ≤ 10 := fun t ht => ⟨(q3 t ht).2.1, (q3 t ht).2.2.1⟩
  have hLb : ∀ t, t < S 0 → L t ≤ 10 := fun t ht => (l1 t ht).2
  obtain ⟨best2, b1, b2⟩ := cRows (N := N) (n := n) (p := p) (tcd := tcd) (tst := tst) (ten := ten) (ucd := ucd) (ust := ust) (uen := uen) (wcd := wcd) (wst := wst) (wen := wen) (xcd := xcd) (xst := xst) (xen := xen) (up := vup) (way := way) (row := row) (fe := fe) (nm := nm1) (stack := stack1) (tx := tx) (rul := rul) (by omega) hL hn6 l1 n N 0 best1 (by omega) (by omega) (fun u t hu ht => by
    have e : u = 0 := by omega
    subst e
    rw [Nat.mul_zero, Nat.zero_add]
    exact (q3 t ht).2.2.2.1)
  obtain ⟨likely2, d1, d2⟩ := rRows (N := N) (n := n) (vt := vt) (nd := nd1) (truth := truth1) (values := values1) hA (by omega) hL hn6 l2 n N 0 likely1 (by omega) (by omega) (fun u t hu ht => by
    have e : u = 0 := by omega
    subst e
    rw [Nat.mul_zero, Nat.zero_add]
    exact (q3 t ht).2.2.2.2)
  obtain ⟨way2, g1, g2⟩ := cSure (N := N) (n := n) (p := p) (tcd := tcd) (tst := tst) (ten := ten) (ucd := ucd) (ust := ust) (uen := uen) (wcd := wcd) (wst := wst) (wen := wen) (xcd := xcd) (xst := xst) (xen := xen) (up0 := vup) (way := way) (fe := fe) (nm := nm1) (stack := stack1) (tx := tx) (rul := rul) (by omega) hL hR hX hp hn1 hn6 l1 b2
  have cs : f_X10_seekSurest N vup vlow liv best way row fe dn df dr tcd tst ten ucd ust uen wcd wst wen xcd xst xen tx rul nm0 stack (nI p) (nI n) = _ := (q1.trans b1).trans g1
  have rs : f_X12_layLikely N a vt nd0 values truth likely safe (nI p) (nI n) = _ := q2.trans d1
  obtain ⟨p0, -⟩ := hX.part hp
  generalize hst : S (14 + 11 * p) = start at *
  have cg := rget (N := N) (p := p) (k := 0) hA (by omega) (by omega)
  rw [Nat.add_zero, hst] at cg
  have f4 := Wm_b hLb n start
  have f5 : 10 ^ n ≤ 1000000 := Nat.pow_le_pow_right (n := 10) (j := 6) (by omega) hn6
  have f6 : 0 < 10 ^ n := Nat.pow_pos (by omega)
  have dd := d2 n start (Nat.le_refl _) p0
  have ra := fun x3 => rAll (N := N) (n := n) (a := a) (vt := vt) (nd := nd1) (truth := truth1) (likely := likely2) (safe := safe1) (values := values1) x3 (nI start) (nI (Wm S L n start)) hn6 n N 0 (by omega) (by omega)
  have rw' := fun k hk => rWalk (N := N) (n := n) (k := k) (start := start) (vt := vt) (nd := nd1) (truth := truth1) (values := values1) hA (by omega) hL p0 hk hn6 l2 d2 (Wm S L n start) (by omega) (k + 1) N 0 (by omega) (by omega)
  have hgc := rGcd (N := N) (a := Wm S L n start) (b := 10 ^ n) (by omega) (by omega) (by omega)
  have hg : 0 < Nat.gcd (Wm S L n start) (10 ^ n) := Nat.gcd_pos_of_pos_right _ f6
  have hg2 : Nat.gcd (Wm S L n start) (10 ^ n) ≤ 10 ^ n := Nat.gcd_le_right _ f6
  rw [Nat.pow_zero] at ra
  have z2 : ¬ (-nI 2 < -nI 2) := by decide
  have z3 : ¬ (-nI 1 < -nI 2) := by decide
  have z4 : ¬ (nI 0 ≤ -nI 2) := by decide
  have z5 : ¬ (nI 0 ≤ -nI 1) := by decide
  have z6 : ¬ (-nI 1 = -nI 2) := by decide
  have zl : ∀ m, m < 100 → -nI 2 < nI m ∧ -nI 1 < nI m ∧ ¬ nI m < -nI 2 ∧ ¬ nI m = -nI 2 := by
    intro m hm
    have e2 : (-nI 2).toInt = -2 := by decide
    have e1 : (-nI 1).toInt = -1 := by decide
    have em : (nI m).toInt = m := nI_toInt (by omega)
    refine ⟨?_, ?_, ?_, ?_⟩
    · rw [Int32.lt_iff_toInt_lt]; omega
    · rw [Int32.lt_iff_toInt_lt]; omega
    · rw [Int32.lt_iff_toInt_lt]; omega
    · intro e; rw [e] at em; omega
  obtain ⟨v1, v2, -, -⟩ := zl n (by omega)
  have v3 : ¬ nI (n - 1) < -nI 2 := (zl (n - 1) (by omega)).2.2.1
  have v4 : ¬ nI (n - 1) < -nI 1 := by
    rw [Int32.lt_iff_toInt_lt, nI_toInt (by omega)]
    have e1 : (-nI 1).toInt = -1 := by decide
    omega
  have fin : ∀ r : Int32, f_X11_surest N dn df dr row fe tx rul tcd tst ten ucd ust uen wcd wst wen xcd xst xen nm0 stack vup vlow liv best way (nI p) (nI n) z = some (r, nm1, stack1, nI (Wm S L n start / Nat.gcd (Wm S L n start) (10 ^ n)), nI (10 ^ n / Nat.gcd (Wm S L n start) (10 ^ n)), liv1, best2, way2) → f_X12_surest N a vt nd0 values truth likely safe (nI p) (nI n) z = some (r, nd1, values1, truth1, likely2, safe1) → ∃ (r : Int32) (nm' stack' : Nat → Int32) (up' low' : Int32) (liv' best' way' nd' : Nat → Int32) (values' : Nat → Int64) (truth' likely' safe' : Nat → Int32), f_X11_surest N dn df dr row fe tx rul tcd tst ten ucd ust uen wcd wst wen xcd xst xen nm0 stack vup vlow liv best way (nI p) (nI n) z = some (r, nm', stack', up', low', liv', best', way') ∧ f_X12_surest N a vt nd0 values truth likely safe (nI p) (nI n) z = some (r, nd', values', truth', likely', safe') := fun r u1 u2 => ⟨r, nm1, stack1, _, _, liv1, best2, way2, nd1, values1, truth1, likely2, safe1, u1, u2⟩
  rcases rzz z n (by omega) with hz | hz | rfl | rfl | ⟨k, hk, rfl⟩
  · exact no (Or.inl hz)
  · exact no (Or.inr hz)
  · refine fin (nI (Wm S L n start / Nat.gcd (Wm S L n start) (10 ^ n))) ?_ ?_
    · simp (maxSteps := 1000000) (disch := omega) only [li, ob1_s, ob2_s, ob3_s, ob4_s, ob5_s, ob6_s, ob7_s, gA_n, gL_n, sA_n, sL_n, cpI_n, nI_add, pk_mul, nsub, nlt_t, nlt_f, nle_t, nle_f, neq_t, neq_f, rmI_n, dvI_n, upd_ne, upd_eq, un_ne, un_eq, Nat.add_zero, Bool.false_eq_true, ↓reduceIte, f_X11_surest, z2, v1, cPers_in hR w1, c2, cs]
    · have r1 := ra (-nI 2)
      rw [if_neg z4, if_pos rfl] at r1
      simp (maxSteps := 1000000) (disch := omega) only [li, ob1_s, ob2_s, ob3_s, ob4_s, ob5_s, ob6_s, ob7_s, gA_n, gL_n, sA_n, sL_n, cpI_n, nI_add, pk_mul, nsub, nlt_t, nlt_f, nle_t, nle_f, neq_t, neq_f, rmI_n, dvI_n, upd_ne, upd_eq, un_ne, un_eq, Nat.add_zero, Bool.false_eq_true, ↓reduceIte, f_X12_surest, f_X12_isIn, c1, z2, v3, rs, cg, dd, r1, f_X12_surest_103, hgc]
  · refine fin (nI (10 ^ n / Nat.gcd (Wm S L n start) (10 ^ n))) ?_ ?_
    · simp (maxSteps := 1000000) (disch := omega) only [li, ob1_s, ob2_s, ob3_s, ob4_s, ob5_s, ob6_s, ob7_s, gA_n, gL_n, sA_n, sL_n, cpI_n, nI_add, pk_mul, nsub, nlt_t, nlt_f, nle_t, nle_f, neq_t, neq_f, rmI_n, dvI_n, upd_ne, upd_eq, un_ne, un_eq, Nat.add_zero, Bool.false_eq_true, ↓reduceIte, f_X11_surest, z3, z6, v2, cPers_in hR w1, c2, cs]
    · have r1 := ra (-nI 1)
      rw [if_neg z5, if_neg z6] at r1
      simp (maxSteps := 1000000) (disch := omega) only [li, ob1_s, ob2_s, ob3_s, ob4_s, ob5_s, ob6_s, ob7_s, gA_n, gL_n, sA_n, sL_n, cpI_n, nI_add, pk_mul, nsub, nlt_t, nlt_f, nle_t, nle_f, neq_t, neq_f, rmI_n, dvI_n, upd_ne, upd_eq, un_ne, un_eq, Nat.add_zero, Bool.false_eq_true, ↓reduceIte, f_X12_surest, f_X12_isIn, c1, z3, v4, rs, cg, dd, r1, f_X12_surest_103, hgc]
  · obtain ⟨-, -, y3, y4⟩ := zl k (by omega)
    have y5 : ¬ nI k = -nI 1 := m1_ne (by omega)
    refine fin (nI (pth S L n (Wm S L n start) start (k + 1))) ?_ ?_
    · have e := g2 k hk
      simp (maxSteps := 1000000) (disch := omega) only [li, ob1_s, ob2_s, ob3_s, ob4_s, ob5_s, ob6_s, ob7_s, gA_n, gL_n, sA_n, sL_n, cpI_n, nI_add, pk_mul, nsub, nlt_t, nlt_f, nle_t, nle_f, neq_t, neq_f, rmI_n, dvI_n, upd_ne, upd_eq, un_ne, un_eq, Nat.add_zero, Bool.false_eq_true, ↓reduceIte, f_X11_surest, y3, y4, y5, cPers_in hR w1, c2, cs, f_X10_landAt, e]
    · have r1 := ra (nI k)
      rw [if_pos (nI_le (by omega) (by omega))] at r1
      have r2 := rw' k hk
      simp (maxSteps := 1000000) (disch := omega) only [li, ob1_s, ob2_s, ob3_s, ob4_s, ob5_s, ob6_s, ob7_s, gA_n, gL_n, sA_n, sL_n, cpI_n, nI_add, pk_mul, nsub, nlt_t, nlt_f, nle_t, nle_f, neq_t, neq_f, rmI_n, dvI_n, upd_ne, upd_eq, un_ne, un_eq, Nat.add_zero, Bool.false_eq_true, ↓reduceIte, f_X12_surest, f_X12_isIn, c1, y3, rs, cg, dd, r1]
      exact r2
