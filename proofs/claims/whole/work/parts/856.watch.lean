/-- one road more, but not over the barred ones; k times -/
def stepB (S : Nat → Nat) (s r : Nat) : Nat := nd (spr (rd S) r (S 0)) s
def iterB (S : Nat → Nat) (s : Nat) : Nat → Nat → Nat
  | 0, r => r
  | k + 1, r => iterB S s k (stepB S s r)
theorem iterB_fix {S : Nat → Nat} {s r : Nat} (h : stepB S s r = r) : ∀ k, iterB S s k r = r := by
  intro k
  induction k with
  | zero => rfl
  | succ k ih => show iterB S s k (stepB S s r) = r; rw [h]; exact ih
theorem stepB_lt {dn : Int32} {df dr : Nat → Int32} {S : Nat → Nat} (hL : LandT dn df dr S) {s r : Nat} (hr : r < 256) : stepB S s r < 256 := nd_lt (k := 8) (sprb hL hr)
theorem cParts {N : Nat} {dn : Int32} {df dr : Nat → Int32} {S : Nat → Nat} (hL : LandT dn df dr S) {s b : Nat} (hs : s < 256) (hb : b < 8) (hN : 100 ≤ N) : ∀ k n i r, i + k = 8 → k < n → r < 256 → f_X2_parts_8 N n dn dr (nI s) (nI b) (nI r) (nI i) = some (nI (if (iterB S s k r).testBit b then 0 else 1)) := by
  have e47 : ∀ r, r < 256 → f_X2_parts_47 N dn dr (nI b) (nI r) = some (nI (if r.testBit b then 0 else 1)) := by
    intro r hr
    by_cases h : r.testBit b = true
    · simp (maxSteps := 1000000) (disch := omega) only [li, ob1_s, ob2_s, ob3_s, ob4_s, ob5_s, ob6_s, ob7_s, gA_n, gL_n, sA_n, sL_n, cpI_n, nI_add, pk_mul, nsub, nlt_t, nlt_f, nle_t, nle_f, neq_t, neq_f, rmI_n, dvI_n, upd_ne, upd_eq, un_ne, un_eq, Nat.add_zero, Bool.false_eq_true, ↓reduceIte, f_X2_parts_47, nbit, h]
    · simp (maxSteps := 1000000) (disch := omega) only [li, ob1_s, ob2_s, ob3_s, ob4_s, ob5_s, ob6_s, ob7_s, gA_n, gL_n, sA_n, sL_n, cpI_n, nI_add, pk_mul, nsub, nlt_t, nlt_f, nle_t, nle_f, neq_t, neq_f, rmI_n, dvI_n, upd_ne, upd_eq, un_ne, un_eq, Nat.add_zero, Bool.false_eq_true, ↓reduceIte, f_X2_parts_47, nbit, h]
  intro k
  induction k with
  | zero =>
    intro n i r e hn hr
    obtain ⟨n, rfl⟩ : ∃ m, n = m + 1 := ⟨n - 1, by omega⟩
    have e : i = 8 := by omega
    subst e
    rw [f_X2_parts_8]
    simp (maxSteps := 1000000) (disch := omega) only [li, ob1_s, ob2_s, ob3_s, ob4_s, ob5_s, ob6_s, ob7_s, gA_n, gL_n, sA_n, sL_n, cpI_n, nI_add, pk_mul, nsub, nlt_t, nlt_f, nle_t, nle_f, neq_t, neq_f, rmI_n, dvI_n, upd_ne, upd_eq, un_ne, un_eq, Nat.add_zero, Bool.false_eq_true, ↓reduceIte]
    exact e47 r hr
  | succ k ih =>
    intro n i r e hn hr
    obtain ⟨n, rfl⟩ : ∃ m, n = m + 1 := ⟨n - 1, by omega⟩
    have sp := cSpread (N := N) hL hr hN
    have c : nI (spr (rd S) r (S 0)) &&& (nI s ^^^ -nI 1) = nI (stepB S s r) := ncom _ _
    have hl := stepB_lt (s := s) hL hr
    rw [f_X2_parts_8]
    by_cases hf : stepB S s r = r
    · rw [show iterB S s (k + 1) r = r from iterB_fix hf (k + 1)]
      simp (maxSteps := 1000000) (disch := omega) only [li, ob1_s, ob2_s, ob3_s, ob4_s, ob5_s, ob6_s, ob7_s, gA_n, gL_n, sA_n, sL_n, cpI_n, nI_add, pk_mul, nsub, nlt_t, nlt_f, nle_t, nle_f, neq_t, neq_f, rmI_n, dvI_n, upd_ne, upd_eq, un_ne, un_eq, Nat.add_zero, Bool.false_eq_true, ↓reduceIte, sp, c, hf]
      exact e47 r hr
    · simp (maxSteps := 1000000) (disch := omega) only [li, ob1_s, ob2_s, ob3_s, ob4_s, ob5_s, ob6_s, ob7_s, gA_n, gL_n, sA_n, sL_n, cpI_n, nI_add, pk_mul, nsub, nlt_t, nlt_f, nle_t, nle_f, neq_t, neq_f, rmI_n, dvI_n, upd_ne, upd_eq, un_ne, un_eq, Nat.add_zero, Bool.false_eq_true, ↓reduceIte, sp, c]
      exact ih n (i + 1) (stepB S s r) (by omega) (by omega) hl
theorem rJoined {N : Nat} {a : Nat → Int32} {dn : Int32} {df dr : Nat → Int32} {S : Nat → Nat} (hA : TieA a S) (hL : LandT dn df dr S) {s b : Nat} (hs : s < 256) (hb : b < 8) (hN : 100 ≤ N) : ∀ k n i r, i + k = 8 → k < n → r < 256 → f_X12_isJoined_8 N n a (nI b) (nI s) (nI r) (nI i) = some (nI (if (iterB S s k r).testBit b then 1 else 0)) := by
  intro k
  induction k with
  | zero =>
    intro n i r e hn hr
    obtain ⟨n, rfl⟩ : ∃ m, n = m + 1 := ⟨n - 1, by omega⟩
    have e : i = 8 := by omega
    subst e
    rw [f_X12_isJoined_8]
    simp (maxSteps := 1000000) (disch := omega) only [li, ob1_s, ob2_s, ob3_s, ob4_s, ob5_s, ob6_s, ob7_s, gA_n, gL_n, sA_n, sL_n, cpI_n, nI_add, pk_mul, nsub, nlt_t, nlt_f, nle_t, nle_f, neq_t, neq_f, rmI_n, dvI_n, upd_ne, upd_eq, un_ne, un_eq, Nat.add_zero, Bool.false_eq_true, ↓reduceIte, isWith_n]
    rfl
  | succ k ih =>
    intro n i r e hn hr
    obtain ⟨n, rfl⟩ : ∃ m, n = m + 1 := ⟨n - 1, by omega⟩
    have sp := rSpread (N := N) (s := r) (b := s) hA hL.2.1 hr hN
    have hl := stepB_lt (s := s) hL hr
    rw [f_X12_isJoined_8]
    simp (maxSteps := 1000000) (disch := omega) only [li, ob1_s, ob2_s, ob3_s, ob4_s, ob5_s, ob6_s, ob7_s, gA_n, gL_n, sA_n, sL_n, cpI_n, nI_add, pk_mul, nsub, nlt_t, nlt_f, nle_t, nle_f, neq_t, neq_f, rmI_n, dvI_n, upd_ne, upd_eq, un_ne, un_eq, Nat.add_zero, Bool.false_eq_true, ↓reduceIte, sp]
    exact ih n (i + 1) (stepB S s r) (by omega) (by omega) hl
theorem st_watch {j : Nat} {dn : Int32} {df dr row fe to : Nat → Int32} {cnt next : Int32} {store : Nat → Int32} {calls bord rep unl pay : Int32} {cl ul ga py pr : Nat → Int32} {tx rul : Int32} {a : Nat → Int32} {S : Nat → Nat} {N : Nat} (hN : 10000 ≤ N) (x y : Int32) (h : RealmT j dn df dr row fe to cnt next store calls bord rep unl pay cl ul ga py pr tx rul a S) : ∃ r : Int32, f_X11_watch N dn dr x y = some r ∧ f_X12_watch N a x y = some r := by
  obtain ⟨hA, hL, hR, hW, hF, hB, hZ, hQ, hI, hj⟩ := h
  obtain ⟨h1, h8, h3, h4, h5, h6⟩ := id hL
  subst h1
  rcases inOut x (S 0) (by omega) with hx | ⟨p, hp, rfl⟩
  · refine ⟨-1, ?_, ?_⟩
    · simp only [f_X11_watch, f_X2_fewestWatched, cLand_out h8 hx, li, ob1_s, ↓reduceIte]
    · simp only [f_X12_watch, rLand_out hA h8 hx, li, ob1_s, ↓reduceIte]
  rcases inOut y (S 0) (by omega) with hy | ⟨q, hq, rfl⟩
  · refine ⟨-1, ?_, ?_⟩
    · simp (maxSteps := 1000000) (disch := omega) only [li, ob1_s, ob2_s, ob3_s, ob4_s, ob5_s, ob6_s, ob7_s, gA_n, gL_n, sA_n, sL_n, cpI_n, nI_add, pk_mul, nsub, nlt_t, nlt_f, nle_t, nle_f, neq_t, neq_f, rmI_n, dvI_n, upd_ne, upd_eq, un_ne, un_eq, Nat.add_zero, Bool.false_eq_true, ↓reduceIte, f_X11_watch, f_X2_fewestWatched, cLand_in, cLand_out h8 hy]
    · simp (maxSteps := 1000000) (disch := omega) only [li, ob1_s, ob2_s, ob3_s, ob4_s, ob5_s, ob6_s, ob7_s, gA_n, gL_n, sA_n, sL_n, cpI_n, nI_add, pk_mul, nsub, nlt_t, nlt_f, nle_t, nle_f, neq_t, neq_f, rmI_n, dvI_n, upd_ne, upd_eq, un_ne, un_eq, Nat.add_zero, Bool.false_eq_true, ↓reduceIte, f_X12_watch, rLand_in hA h8, rLand_out hA h8 hy]
  by_cases hpq : p = q
  · subst hpq
    refine ⟨-1, ?_, ?_⟩
    · simp (maxSteps := 1000000) (disch := omega) only [li, ob1_s, ob2_s, ob3_s, ob4_s, ob5_s, ob6_s, ob7_s, gA_n, gL_n, sA_n, sL_n, cpI_n, nI_add, pk_mul, nsub, nlt_t, nlt_f, nle_t, nle_f, neq_t, neq_f, rmI_n, dvI_n, upd_ne, upd_eq, un_ne, un_eq, Nat.add_zero, Bool.false_eq_true, ↓reduceIte, f_X11_watch, f_X2_fewestWatched, cLand_in]
    · simp (maxSteps := 1000000) (disch := omega) only [li, ob1_s, ob2_s, ob3_s, ob4_s, ob5_s, ob6_s, ob7_s, gA_n, gL_n, sA_n, sL_n, cpI_n, nI_add, pk_mul, nsub, nlt_t, nlt_f, nle_t, nle_f, neq_t, neq_f, rmI_n, dvI_n, upd_ne, upd_eq, un_ne, un_eq, Nat.add_zero, Bool.false_eq_true, ↓reduceIte, f_X12_watch, rLand_in hA h8]
  obtain ⟨p1, p2⟩ := h4 p hp
  have l8 := p28 h8
  by_cases hb : (S (88 + p)).testBit q = true
  · refine ⟨-1, ?_, ?_⟩
    · simp (maxSteps := 1000000) (disch := omega) only [li, ob1_s, ob2_s, ob3_s, ob4_s, ob5_s, ob6_s, ob7_s, gA_n, gL_n, sA_n, sL_n, cpI_n, nI_add, pk_mul, nsub, nlt_t, nlt_f, nle_t, nle_f, neq_t, neq_f, rmI_n, dvI_n, upd_ne, upd_eq, un_ne, un_eq, Nat.add_zero, Bool.false_eq_true, ↓reduceIte, f_X11_watch, f_X2_fewestWatched, f_X2_joined, cLand_in, p1, nbit, hb]
    · simp (maxSteps := 1000000) (disch := omega) only [li, ob1_s, ob2_s, ob3_s, ob4_s, ob5_s, ob6_s, ob7_s, gA_n, gL_n, sA_n, sL_n, cpI_n, nI_add, pk_mul, nsub, nlt_t, nlt_f, nle_t, nle_f, neq_t, neq_f, rmI_n, dvI_n, upd_ne, upd_eq, un_ne, un_eq, Nat.add_zero, Bool.false_eq_true, ↓reduceIte, f_X12_watch, rLand_in hA h8, hA.2, isWith_n, hb]
  have hp2 := Nat.two_pow_pos (S 0)
  have pp := p28' (show p < 8 by omega)
  have pq := p28' (show q < 8 by omega)
  have hB : ∀ i, (nd (nd (2 ^ S 0 - 1) (2 ^ p)) (2 ^ q)).testBit i = (decide (i < S 0) && !decide (p = i) && !decide (q = i)) := fun i => by rw [nd_bit, nd_bit, all_bit, n1bit, n1bit]
  have hBl : nd (nd (2 ^ S 0 - 1) (2 ^ p)) (2 ^ q) < 2 ^ S 0 := nd_lt (nd_lt (by omega))
  generalize hBt : nd (nd (2 ^ S 0 - 1) (2 ^ p)) (2 ^ q) = B at hB hBl
  have hB256 : B < 256 := by omega
  have sub_iff : ∀ s, s &&& B = s ↔ (s < 2 ^ S 0 ∧ s.testBit p = false ∧ s.testBit q = false) := by
    intro s
    constructor
    · intro e
      have bit : ∀ i, s.testBit i = (s.testBit i && B.testBit i) := fun i => by rw [← Nat.testBit_and, e]
      refine ⟨?_, ?_, ?_⟩
      · have : s ≤ B := by rw [← e]; exact Nat.and_le_right
        omega
      · have := bit p
        rw [hB p] at this
        simpa using this
      · have := bit q
        rw [hB q] at this
        simpa using this
    · rintro ⟨hl, e1, e2⟩
      apply Nat.eq_of_testBit_eq
      intro i
      rw [Nat.testBit_and, hB i]
      by_cases c1 : i < S 0
      · by_cases c2 : p = i
        · subst c2; simp [e1]
        · by_cases c3 : q = i
          · subst c3; simp [e2]
          · simp [c1, c2, c3]
      · rw [bitlt hl (by omega)]; rfl
  have nd0_iff : ∀ s, nd s B = 0 ↔ s &&& B = s := by
    intro s
    unfold nd
    constructor
    · intro e
      have : s ^^^ (s &&& B) ^^^ (s &&& B) = 0 ^^^ (s &&& B) := by rw [e]
      rw [Nat.xor_assoc, Nat.xor_self, Nat.xor_zero, Nat.zero_xor] at this
      exact this.symm
    · intro e; rw [e, Nat.xor_self]
  -- without all the others no way leads there
  have fixB : stepB S B (2 ^ p) = 2 ^ p := by
    apply Nat.eq_of_testBit_eq
    intro i
    unfold stepB
    rw [nd_bit, n1bit, hB i]
    by_cases c1 : p = i
    · subst c1
      have : (spr (rd S) (2 ^ p) (S 0)).testBit p = true := (spr_bit _ _ _ _).mpr (Or.inl (by rw [n1bit]; simp))
      rw [this]; simp
    · by_cases c2 : (spr (rd S) (2 ^ p) (S 0)).testBit i = true
      · rw [c2]
        rcases (spr_bit _ _ _ _).mp c2 with q1 | ⟨k, k1, k2, k3⟩
        · rw [n1bit] at q1; simp at q1; exact absurd q1 c1
        · rw [n1bit] at k2
          have k2 : p = k := by simpa using k2
          subst k2
          have k3 : (S (88 + p)).testBit i = true := k3
          have il : i < S 0 := by
            rcases Nat.lt_or_ge i (S 0) with q | q
            · exact q
            · rw [bitlt p2 q] at k3; cases k3
          have iq : ¬ q = i := fun e => by subst e; exact hb k3
          simp [c1, iq, il]
      · have : (spr (rd S) (2 ^ p) (S 0)).testBit i = false := by simpa using c2
        rw [this]; simp [c1]
  have sepB : (iterB S B 8 (2 ^ p)).testBit q = false := by rw [iterB_fix fixB 8, n1bit]; simp [hpq]
  have g0 : B &&& B = B := Nat.and_self B
  have cp : ∀ s, s < 256 → f_X2_parts N (nI (S 0)) dr (nI s) (nI p) (nI q) = some (nI (if (iterB S s 8 (2 ^ p)).testBit q then 0 else 1)) := by
    intro s hs
    have := cParts (N := N) hL hs (show q < 8 by omega) (by omega) 8 N 0 (2 ^ p) (by omega) (by omega) pp
    simp (maxSteps := 1000000) (disch := omega) only [li, ob1_s, ob2_s, ob3_s, ob4_s, ob5_s, ob6_s, ob7_s, gA_n, gL_n, sA_n, sL_n, cpI_n, nI_add, pk_mul, nsub, nlt_t, nlt_f, nle_t, nle_f, neq_t, neq_f, rmI_n, dvI_n, upd_ne, upd_eq, un_ne, un_eq, Nat.add_zero, Bool.false_eq_true, ↓reduceIte, f_X2_parts, nshl1]
    exact this
  have rj : ∀ s, s < 256 → f_X12_isJoined N a (nI p) (nI q) (nI s) = some (nI (if (iterB S s 8 (2 ^ p)).testBit q then 1 else 0)) := by
    intro s hs
    have := rJoined (N := N) hA hL hs (show q < 8 by omega) (by omega) 8 N 0 (2 ^ p) (by omega) (by omega) pp
    simp (maxSteps := 1000000) (disch := omega) only [li, ob1_s, ob2_s, ob3_s, ob4_s, ob5_s, ob6_s, ob7_s, gA_n, gL_n, sA_n, sL_n, cpI_n, nI_add, pk_mul, nsub, nlt_t, nlt_f, nle_t, nle_f, neq_t, neq_f, rmI_n, dvI_n, upd_ne, upd_eq, un_ne, un_eq, Nat.add_zero, Bool.false_eq_true, ↓reduceIte, f_X12_isJoined, nshl1]
    exact this
  have key1 : ∀ k n s b, s + k = B + 1 → k < n → b ≤ B → b &&& B = b → (iterB S b 8 (2 ^ p)).testBit q = false → (b < s ∨ b = B) → (∀ t, t < s → (t &&& B = t ∧ (iterB S t 8 (2 ^ p)).testBit q = false) → pop b < pop t ∨ (pop b = pop t ∧ b ≤ t)) → ∃ c, f_X2_fewestWatched_55 N n (nI (S 0)) dr (nI p) (nI q) (nI B) (nI b) (nI s) = some (nI c) ∧ Best (fun t => t &&& B = t ∧ (iterB S t 8 (2 ^ p)).testBit q = false) B c := by
    intro k
    induction k with
    | zero =>
      intro n s b e hn hbB hsub hsep hbs hi
      obtain ⟨n, rfl⟩ : ∃ m, n = m + 1 := ⟨n - 1, by omega⟩
      exact ⟨b, by simp (maxSteps := 1000000) (disch := omega) only [li, ob1_s, ob2_s, ob3_s, ob4_s, ob5_s, ob6_s, ob7_s, gA_n, gL_n, sA_n, sL_n, cpI_n, nI_add, pk_mul, nsub, nlt_t, nlt_f, nle_t, nle_f, neq_t, neq_f, rmI_n, dvI_n, upd_ne, upd_eq, un_ne, un_eq, Nat.add_zero, Bool.false_eq_true, ↓reduceIte, f_X2_fewestWatched_55], hbB, ⟨hsub, hsep⟩, fun t ht => hi t (by omega)⟩
    | succ k ih =>
      intro n s b e hn hbB hsub hsep hbs hi
      obtain ⟨n, rfl⟩ : ∃ m, n = m + 1 := ⟨n - 1, by omega⟩
      have b1 := cBits (N := N) (v := s) (by omega)
      have b2 := cBits (N := N) (v := b) (by omega)
      have l1 := pop_le s
      have l2 := pop_le b
      have cps := cp s (by omega)
      have cn : nI s &&& (nI B ^^^ -nI 1) = nI (nd s B) := ncom _ _
      have ndl : nd s B < 256 := nd_lt (k := 8) (by omega)
      have skip : (¬ (pop s < pop b ∧ s &&& B = s ∧ (iterB S s 8 (2 ^ p)).testBit q = false)) → ∀ t, t < s + 1 → (t &&& B = t ∧ (iterB S t 8 (2 ^ p)).testBit q = false) → pop b < pop t ∨ (pop b = pop t ∧ b ≤ t) := by
        intro hno t ht hgt
        by_cases e2 : t = s
        · subst e2
          have : ¬ pop t < pop b := fun h => hno ⟨h, hgt⟩
          rcases hbs with q1 | q1
          · omega
          · subst q1
            have hh : pop b ≤ pop t := by omega
            have := pop_sub b (by omega) t (by omega) hgt.1 hh
            omega
        · exact hi t (by omega) hgt
      by_cases c1 : pop s < pop b
      · by_cases c2 : s &&& B = s
        · have nz : nd s B = 0 := (nd0_iff s).mpr c2
          by_cases c3 : (iterB S s 8 (2 ^ p)).testBit q = true
          · obtain ⟨c, g1, g2⟩ := ih n (s + 1) b (by omega) (by omega) hbB hsub hsep (by omega) (skip (fun h => by rw [h.2.2] at c3; cases c3))
            refine ⟨c, ?_, g2⟩
            rw [f_X2_fewestWatched_55]
            simp (maxSteps := 1000000) (disch := omega) only [li, ob1_s, ob2_s, ob3_s, ob4_s, ob5_s, ob6_s, ob7_s, gA_n, gL_n, sA_n, sL_n, cpI_n, nI_add, pk_mul, nsub, nlt_t, nlt_f, nle_t, nle_f, neq_t, neq_f, rmI_n, dvI_n, upd_ne, upd_eq, un_ne, un_eq, Nat.add_zero, Bool.false_eq_true, ↓reduceIte, f_X2_fewestWatched_79, f_X2_fewestWatched_110, b1, b2, cn, nz, cps, c3]
            exact g1
          · have c3' : (iterB S s 8 (2 ^ p)).testBit q = false := by simpa using c3
            obtain ⟨c, g1, g2⟩ := ih n (s + 1) s (by omega) (by omega) (by omega) c2 c3' (by omega) (fun t ht hgt => by
              by_cases e2 : t = s
              · subst e2; exact Or.inr ⟨rfl, Nat.le_refl _⟩
              · have := hi t (by omega) hgt; omega)
            refine ⟨c, ?_, g2⟩
            rw [f_X2_fewestWatched_55]
            simp (maxSteps := 1000000) (disch := omega) only [li, ob1_s, ob2_s, ob3_s, ob4_s, ob5_s, ob6_s, ob7_s, gA_n, gL_n, sA_n, sL_n, cpI_n, nI_add, pk_mul, nsub, nlt_t, nlt_f, nle_t, nle_f, neq_t, neq_f, rmI_n, dvI_n, upd_ne, upd_eq, un_ne, un_eq, Nat.add_zero, Bool.false_eq_true, ↓reduceIte, f_X2_fewestWatched_79, f_X2_fewestWatched_110, b1, b2, cn, nz, cps, c3']
            exact g1
        · have nz : nd s B ≠ 0 := fun h => c2 ((nd0_iff s).mp h)
          obtain ⟨c, g1, g2⟩ := ih n (s + 1) b (by omega) (by omega) hbB hsub hsep (by omega) (skip (fun h => c2 h.2.1))
          refine ⟨c, ?_, g2⟩
          rw [f_X2_fewestWatched_55]
          simp (maxSteps := 1000000) (disch := omega) only [li, ob1_s, ob2_s, ob3_s, ob4_s, ob5_s, ob6_s, ob7_s, gA_n, gL_n, sA_n, sL_n, cpI_n, nI_add, pk_mul, nsub, nlt_t, nlt_f, nle_t, nle_f, neq_t, neq_f, rmI_n, dvI_n, upd_ne, upd_eq, un_ne, un_eq, Nat.add_zero, Bool.false_eq_true, ↓reduceIte, f_X2_fewestWatched_79, f_X2_fewestWatched_110, b1, b2, cn]
          exact g1
      · obtain ⟨c, g1, g2⟩ := ih n (s + 1) b (by omega) (by omega) hbB hsub hsep (by omega) (skip (fun h => c1 h.1))
        refine ⟨c, ?_, g2⟩
        rw [f_X2_fewestWatched_55]
        simp (maxSteps := 1000000) (disch := omega) only [li, ob1_s, ob2_s, ob3_s, ob4_s, ob5_s, ob6_s, ob7_s, gA_n, gL_n, sA_n, sL_n, cpI_n, nI_add, pk_mul, nsub, nlt_t, nlt_f, nle_t, nle_f, neq_t, neq_f, rmI_n, dvI_n, upd_ne, upd_eq, un_ne, un_eq, Nat.add_zero, Bool.false_eq_true, ↓reduceIte, f_X2_fewestWatched_79, f_X2_fewestWatched_110, b1, b2]
        exact g1
  have key2 : ∀ k n s (f : Int32), s + k = 2 ^ S 0 → k < n → ((f = -nI 1 ∧ ∀ t, t < s → ¬ (t &&& B = t ∧ (iterB S t 8 (2 ^ p)).testBit q = false)) ∨ (∃ b, f = nI b ∧ b < s ∧ (b &&& B = b ∧ (iterB S b 8 (2 ^ p)).testBit q = false) ∧ ∀ t, t < s → (t &&& B = t ∧ (iterB S t 8 (2 ^ p)).testBit q = false) → pop b < pop t ∨ (pop b = pop t ∧ b ≤ t))) → ∃ c, f_X12_watch_44 N n a (nI p) (nI q) f (nI s) = some (nI c) ∧ Best (fun t => t &&& B = t ∧ (iterB S t 8 (2 ^ p)).testBit q = false) B c := by
    intro k
    induction k with
    | zero =>
      intro n s f e hn hi
      obtain ⟨n, rfl⟩ : ∃ m, n = m + 1 := ⟨n - 1, by omega⟩
      rcases hi with ⟨e1, hi⟩ | ⟨b, e1, hbs, hg, hi⟩
      · exact absurd ⟨g0, sepB⟩ (hi B (by omega))
      · have hbB : b ≤ B := by rw [← hg.1]; exact Nat.and_le_right
        subst e1
        exact ⟨b, by simp (maxSteps := 1000000) (disch := omega) only [li, ob1_s, ob2_s, ob3_s, ob4_s, ob5_s, ob6_s, ob7_s, gA_n, gL_n, sA_n, sL_n, cpI_n, nI_add, pk_mul, nsub, nlt_t, nlt_f, nle_t, nle_f, neq_t, neq_f, rmI_n, dvI_n, upd_ne, upd_eq, un_ne, un_eq, Nat.add_zero, Bool.false_eq_true, ↓reduceIte, f_X12_watch_44, hA.2, nshl1], hbB, hg, fun t ht hgt => hi t (by omega) hgt⟩
    | succ k ih =>
      intro n s f e hn hi
      obtain ⟨n, rfl⟩ : ∃ m, n = m + 1 := ⟨n - 1, by omega⟩
      have b1 := rBits (N := N) (v := s) (by omega) (by omega)
      have l1 := pop_le s
      have rjs := rj s (by omega)
      -- not a candidate
      have skip : (¬ (s &&& B = s ∧ (iterB S s 8 (2 ^ p)).testBit q = false)) → ∃ c, f_X12_watch_44 N n a (nI p) (nI q) f (nI (s + 1)) = some (nI c) ∧ Best (fun t => t &&& B = t ∧ (iterB S t 8 (2 ^ p)).testBit q = false) B c := by
        intro hno
        refine ih n (s + 1) f (by omega) (by omega) ?_
        rcases hi with ⟨e1, hi⟩ | ⟨b, e1, hbs, hg, hi⟩
        · exact Or.inl ⟨e1, fun t ht hgt => by
            by_cases e2 : t = s
            · subst e2; exact hno hgt
            · exact hi t (by omega) hgt⟩
        · exact Or.inr ⟨b, e1, by omega, hg, fun t ht hgt => by
            by_cases e2 : t = s
            · subst e2; exact absurd hgt hno
            · exact hi t (by omega) hgt⟩
      by_cases cpb : s.testBit p = true
      · obtain ⟨c, g1, g2⟩ := skip (fun h => by have := ((sub_iff s).mp h.1).2.1; rw [this] at cpb; cases cpb)
        refine ⟨c, ?_, g2⟩
        rw [f_X12_watch_44]
        simp (maxSteps := 1000000) (disch := omega) only [li, ob1_s, ob2_s, ob3_s, ob4_s, ob5_s, ob6_s, ob7_s, gA_n, gL_n, sA_n, sL_n, cpI_n, nI_add, pk_mul, nsub, nlt_t, nlt_f, nle_t, nle_f, neq_t, neq_f, rmI_n, dvI_n, upd_ne, upd_eq, un_ne, un_eq, Nat.add_zero, Bool.false_eq_true, ↓reduceIte, f_X12_watch_111, hA.2, nshl1, isWith_n, cpb]
        exact g1
      · have cpb' : s.testBit p = false := by simpa using cpb
        by_cases cqb : s.testBit q = true
        · obtain ⟨c, g1, g2⟩ := skip (fun h => by have := ((sub_iff s).mp h.1).2.2; rw [this] at cqb; cases cqb)
          refine ⟨c, ?_, g2⟩
          rw [f_X12_watch_44]
          simp (maxSteps := 1000000) (disch := omega) only [li, ob1_s, ob2_s, ob3_s, ob4_s, ob5_s, ob6_s, ob7_s, gA_n, gL_n, sA_n, sL_n, cpI_n, nI_add, pk_mul, nsub, nlt_t, nlt_f, nle_t, nle_f, neq_t, neq_f, rmI_n, dvI_n, upd_ne, upd_eq, un_ne, un_eq, Nat.add_zero, Bool.false_eq_true, ↓reduceIte, f_X12_watch_111, hA.2, nshl1, isWith_n, cpb', cqb]
          exact g1
        · have cqb' : s.testBit q = false := by simpa using cqb
          have hsub : s &&& B = s := (sub_iff s).mpr ⟨by omega, cpb', cqb'⟩
          rcases hi with ⟨e1, hi⟩ | ⟨b, e1, hbs, hg, hi⟩
          · subst e1
            by_cases c3 : (iterB S s 8 (2 ^ p)).testBit q = true
            · obtain ⟨c, g1, g2⟩ := skip (fun h => by rw [h.2] at c3; cases c3)
              refine ⟨c, ?_, g2⟩
              rw [f_X12_watch_44]
              simp (maxSteps := 1000000) (disch := omega) only [li, ob1_s, ob2_s, ob3_s, ob4_s, ob5_s, ob6_s, ob7_s, gA_n, gL_n, sA_n, sL_n, cpI_n, nI_add, pk_mul, nsub, nlt_t, nlt_f, nle_t, nle_f, neq_t, neq_f, rmI_n, dvI_n, upd_ne, upd_eq, un_ne, un_eq, Nat.add_zero, Bool.false_eq_true, ↓reduceIte, f_X12_watch_97, f_X12_watch_111, hA.2, nshl1, isWith_n, cpb', cqb', rjs, c3]
              exact g1
            · have c3' : (iterB S s 8 (2 ^ p)).testBit q = false := by simpa using c3
              obtain ⟨c, g1, g2⟩ := ih n (s + 1) (nI s) (by omega) (by omega) (Or.inr ⟨s, rfl, by omega, ⟨hsub, c3'⟩, fun t ht hgt => by
                by_cases e2 : t = s
                · subst e2; exact Or.inr ⟨rfl, Nat.le_refl _⟩
                · exact absurd hgt (hi t (by omega))⟩)
              refine ⟨c, ?_, g2⟩
              rw [f_X12_watch_44]
              simp (maxSteps := 1000000) (disch := omega) only [li, ob1_s, ob2_s, ob3_s, ob4_s, ob5_s, ob6_s, ob7_s, gA_n, gL_n, sA_n, sL_n, cpI_n, nI_add, pk_mul, nsub, nlt_t, nlt_f, nle_t, nle_f, neq_t, neq_f, rmI_n, dvI_n, upd_ne, upd_eq, un_ne, un_eq, Nat.add_zero, Bool.false_eq_true, ↓reduceIte, f_X12_watch_97, f_X12_watch_111, hA.2, nshl1, isWith_n, cpb', cqb', rjs, c3']
              exact g1
          · subst e1
            have hbB : b ≤ B := by rw [← hg.1]; exact Nat.and_le_right
            have b2 := rBits (N := N) (v := b) (by omega) (by omega)
            have l2 := pop_le b
            have hm1 : ¬ nI b = -nI 1 := m1_ne (by omega)
            by_cases c1 : pop s < pop b
            · by_cases c3 : (iterB S s 8 (2 ^ p)).testBit q = true
              · obtain ⟨c, g1, g2⟩ := skip (fun h => by rw [h.2] at c3; cases c3)
                refine ⟨c, ?_, g2⟩
                rw [f_X12_watch_44]
                simp (maxSteps := 1000000) (disch := omega) only [li, ob1_s, ob2_s, ob3_s, ob4_s, ob5_s, ob6_s, ob7_s, gA_n, gL_n, sA_n, sL_n, cpI_n, nI_add, pk_mul, nsub, nlt_t, nlt_f, nle_t, nle_f, neq_t, neq_f, rmI_n, dvI_n, upd_ne, upd_eq, un_ne, un_eq, Nat.add_zero, Bool.false_eq_true, ↓reduceIte, f_X12_watch_97, f_X12_watch_111, hA.2, nshl1, isWith_n, cpb', cqb', hm1, nIl, b1, b2, rjs, c3]
                exact g1
              · have c3' : (iterB S s 8 (2 ^ p)).testBit q = false := by simpa using c3
                obtain ⟨c, g1, g2⟩ := ih n (s + 1) (nI s) (by omega) (by omega) (Or.inr ⟨s, rfl, by omega, ⟨hsub, c3'⟩, fun t ht hgt => by
                  by_cases e2 : t = s
                  · subst e2; exact Or.inr ⟨rfl, Nat.le_refl _⟩
                  · have := hi t (by omega) hgt; omega⟩)
                refine ⟨c, ?_, g2⟩
                rw [f_X12_watch_44]
                simp (maxSteps := 1000000) (disch := omega) only [li, ob1_s, ob2_s, ob3_s, ob4_s, ob5_s, ob6_s, ob7_s, gA_n, gL_n, sA_n, sL_n, cpI_n, nI_add, pk_mul, nsub, nlt_t, nlt_f, nle_t, nle_f, neq_t, neq_f, rmI_n, dvI_n, upd_ne, upd_eq, un_ne, un_eq, Nat.add_zero, Bool.false_eq_true, ↓reduceIte, f_X12_watch_97, f_X12_watch_111, hA.2, nshl1, isWith_n, cpb', cqb', hm1, nIl, b1, b2, rjs, c3']
                exact g1
            · obtain ⟨c, g1, g2⟩ := ih n (s + 1) (nI b) (by omega) (by omega) (Or.inr ⟨b, rfl, by omega, hg, fun t ht hgt => by
                by_cases e2 : t = s
                · subst e2; omega
                · exact hi t (by omega) hgt⟩)
              refine ⟨c, ?_, g2⟩
              rw [f_X12_watch_44]
              simp (maxSteps := 1000000) (disch := omega) only [li, ob1_s, ob2_s, ob3_s, ob4_s, ob5_s, ob6_s, ob7_s, gA_n, gL_n, sA_n, sL_n, cpI_n, nI_add, pk_mul, nsub, nlt_t, nlt_f, nle_t, nle_f, neq_t, neq_f, rmI_n, dvI_n, upd_ne, upd_eq, un_ne, un_eq, Nat.add_zero, Bool.false_eq_true, ↓reduceIte, f_X12_watch_97, f_X12_watch_111, hA.2, nshl1, isWith_n, cpb', cqb', hm1, nIl, b1, b2]
              exact g1
  obtain ⟨c, g1, g2⟩ := key1 (B + 1) N 0 B (by omega) (by omega) (Nat.le_refl _) g0 sepB (Or.inr rfl) (fun t ht => by omega)
  obtain ⟨d, q1, q2⟩ := key2 (2 ^ S 0) N 0 (-nI 1) (by omega) (by omega) (Or.inl ⟨rfl, fun t ht => by omega⟩)
  have e := g2.one q2
  subst e
  refine ⟨nI c, ?_, ?_⟩
  · have n1 : nI (2 ^ S 0 - 1) &&& (nI (2 ^ p) ^^^ -nI 1) = nI (nd (2 ^ S 0 - 1) (2 ^ p)) := ncom _ _
    have n2 : nI (nd (2 ^ S 0 - 1) (2 ^ p)) &&& (nI (2 ^ q) ^^^ -nI 1) = nI (nd (nd (2 ^ S 0 - 1) (2 ^ p)) (2 ^ q)) := ncom _ _
    simp (maxSteps := 1000000) (disch := omega) only [li, ob1_s, ob2_s, ob3_s, ob4_s, ob5_s, ob6_s, ob7_s, gA_n, gL_n, sA_n, sL_n, cpI_n, nI_add, pk_mul, nsub, nlt_t, nlt_f, nle_t, nle_f, neq_t, neq_f, rmI_n, dvI_n, upd_ne, upd_eq, un_ne, un_eq, Nat.add_zero, Bool.false_eq_true, ↓reduceIte, f_X11_watch, f_X2_fewestWatched, f_X2_joined, f_X2_all, cLand_in, p1, nbit, hb, nshl1, n1, n2, hBt, g1]
  · simp (maxSteps := 1000000) (disch := omega) only [li, ob1_s, ob2_s, ob3_s, ob4_s, ob5_s, ob6_s, ob7_s, gA_n, gL_n, sA_n, sL_n, cpI_n, nI_add, pk_mul, nsub, nlt_t, nlt_f, nle_t, nle_f, neq_t, neq_f, rmI_n, dvI_n, upd_ne, upd_eq, un_ne, un_eq, Nat.add_zero, Bool.false_eq_true, ↓reduceIte, f_X12_watch, rLand_in hA h8, hA.2, isWith_n, hb, q1]
