def Wm (S L : Nat → Nat) : Nat → Nat → Nat
  | 0, _ => 1
  | m + 1, l => mxr (rch S l) (fun t => L t * Wm S L m t) (S 0)
theorem Wm_b {S L : Nat → Nat} (hL : ∀ t, t < S 0 → L t ≤ 10) : ∀ m l, Wm S L m l ≤ 10 ^ m := by
  intro m
  induction m with
  | zero => intro l; exact Nat.le_refl _
  | succ m ih =>
    intro l
    show mxr (rch S l) (fun t => L t * Wm S L m t) (S 0) ≤ _
    refine mxr_b (S 0) (fun t ht => ?_)
    have := Nat.mul_le_mul (hL t ht) (ih t)
    rw [Nat.pow_succ, Nat.mul_comm (10 ^ m)]
    exact this
theorem p10 {m : Nat} (h : m < 6) : 10 ^ m ≤ 100000 := Nat.pow_le_pow_right (n := 10) (i := m) (j := 5) (by omega) (by omega)
/-- the way, land by land -/
def pth (S L : Nat → Nat) (n up start : Nat) : Nat → Nat
  | 0 => start
  | k + 1 => if up = 0 then lw (rch S (pth S L n up start k)) (S 0) else lw (qmx S (fun t => L t * Wm S L (n - 1 - k) t) (pth S L n up start k)) (S 0)
theorem lw_lt {q : Nat → Bool} {k t : Nat} (ht : t < k) (hq : q t = true) : lw q k < k := by
  have h1 : ¬ t < lw q k := fun h => by have := lw_no q k t h; rw [this] at hq; cases hq
  omega
theorem qmx_ex {S f : Nat → Nat} {l : Nat} (hl : l < S 0) : ∃ t, t < S 0 ∧ qmx S f l t = true := by
  obtain ⟨t, h1, h2, h3⟩ := mxr_at (f := f) (S 0) ⟨l, hl, rch_self S l⟩
  exact ⟨t, h1, by simp [qmx, h2, h3]⟩
theorem pth_lt {S L : Nat → Nat} {n up start : Nat} (hs : start < S 0) : ∀ k, pth S L n up start k < S 0 := by
  intro k
  induction k with
  | zero => exact hs
  | succ k ih =>
    unfold pth
    split
    · exact lw_lt ih (rch_self S _)
    · obtain ⟨t, h1, h2⟩ := qmx_ex (f := fun t => L t * Wm S L (n - 1 - k) t) ih
      exact lw_lt h1 h2
theorem lw_cg {q p : Nat → Bool} : ∀ k, (∀ t, t < k → q t = p t) → lw q k = lw p k := by
  intro k
  induction k with
  | zero => intro _; rfl
  | succ k ih =>
    intro h
    unfold lw
    rw [ih (fun t ht => h t (by omega)), h k (by omega)]
/-- one month of the way that the object follows -/
theorem cFollow {N n up start : Nat} {dn : Int32} {df dr liv best : Nat → Int32} {S L : Nat → Nat} (hL : LandT dn df dr S) (hN : 100 ≤ N) (hs : start < S 0) (hn1 : 1 ≤ n) (hn6 : n ≤ 6) (h1 : ∀ t, t < S 0 → liv t = nI (L t) ∧ L t ≤ 10) (h2 : ∀ m t, m < n → t < S 0 → best (8 * m + t) = nI (Wm S L m t)) (hup : up = Wm S L n start) :
    ∀ r f i lived (way : Nat → Int32), i + r = n → r < f → lived ≤ 10 ^ i → lived * Wm S L (n - i) (pth S L n up start i) = up → (∀ u, u < i → way u = nI (pth S L n up start (u + 1))) → ∃ way', f_X10_follow_9 N f (nI up) liv best way dn dr (nI n) (nI (pth S L n up start i)) (nI lived) (nI i) = some way' ∧ ∀ u, u < n → way' u = nI (pth S L n up start (u + 1)) := by
  obtain ⟨e1, h8, h3, h4, h5, h6⟩ := id hL
  subst e1
  have l8 := p28 h8
  have hLb : ∀ t, t < S 0 → L t ≤ 10 := fun t ht => (h1 t ht).2
  intro r
  induction r with
  | zero =>
    intro f i lived way e hf hlv hinv hw
    obtain ⟨f, rfl⟩ : ∃ m, f = m + 1 := ⟨f - 1, by omega⟩
    have e : i = n := by omega
    subst e
    exact ⟨way, by simp (maxSteps := 1000000) (disch := omega) only [li, ob1_s, ob2_s, ob3_s, ob4_s, ob5_s, ob6_s, ob7_s, gA_n, gL_n, sA_n, sL_n, cpI_n, nI_add, pk_mul, nsub, nlt_t, nlt_f, nle_t, nle_f, neq_t, neq_f, rmI_n, dvI_n, upd_ne, upd_eq, un_ne, un_eq, Nat.add_zero, Bool.false_eq_true, ↓reduceIte, f_X10_follow_9], hw⟩
  | succ r ih =>
    intro f i lived way e hf hlv hinv hw
    obtain ⟨f, rfl⟩ : ∃ m, f = m + 1 := ⟨f - 1, by omega⟩
    have hh := pth_lt (S := S) (L := L) (n := n) (up := up) hs i
    generalize hhere : pth S L n up start i = here at *
    obtain ⟨r1, r2⟩ := h4 here hh
    have ll := p28' (show here < 8 by omega)
    have ho : S (88 + here) ||| 2 ^ here < 256 := Nat.or_lt_two_pow (n := 8) (by omega) ll
    have hl6 : lived ≤ 100000 := Nat.le_trans hlv (p10 (by omega))
    generalize hm : n - 1 - i = m at *
    have hm' : n - i = m + 1 := by omega
    rw [hm'] at hinv
    have hWm : Wm S L (m + 1) here = mxr (rch S here) (fun t => L t * Wm S L m t) (S 0) := rfl
    have wb : ∀ t, Wm S L m t ≤ 10 ^ m := Wm_b hLb m
    have pm : 10 ^ i * 10 ^ (m + 1) ≤ 1000000 := by
      rw [← Nat.pow_add]; exact Nat.pow_le_pow_right (n := 10) (j := 6) (by omega) (by omega)
    have fb : ∀ t, t < S 0 → lived * L t * Wm S L m t ≤ 1000000 := fun t ht => by
      have a1 : L t * Wm S L m t ≤ 10 ^ (m + 1) := by
        rw [Nat.pow_succ, Nat.mul_comm (10 ^ m)]; exact Nat.mul_le_mul (hLb t ht) (wb t)
      have a2 := Nat.mul_le_mul hlv a1
      rw [Nat.mul_assoc]; omega
    have fb2 : ∀ t, t < S 0 → lived * L t ≤ 1000000 := fun t ht => by
      have := Nat.mul_le_mul hl6 (hLb t ht); omega
    -- the lands that serve
    have hC : ∀ t, t < S 0 → (rch S here t && decide (lived * L t * Wm S L m t = up)) = (if up = 0 then rch S here t else qmx S (fun t => L t * Wm S L m t) here t) := by
      intro t ht
      by_cases hr : rch S here t = true
      · by_cases hu : up = 0
        · rw [if_pos hu]
          have hle := mxr_le (f := fun t => L t * Wm S L m t) hr (S 0) ht
          have hz : lived * L t * Wm S L m t = 0 := by
            rw [Nat.mul_assoc]
            have := Nat.mul_le_mul_left lived hle
            rw [← hWm, hinv, hu] at this
            exact Nat.le_zero.mp this
          simp [hr, hz, hu]
        · rw [if_neg hu]
          have hlp : 0 < lived := by
            rcases Nat.eq_zero_or_pos lived with q | q
            · rw [q, Nat.zero_mul] at hinv; exact absurd hinv.symm hu
            · exact q
          unfold qmx
          rw [hr, Bool.true_and, Bool.true_and]
          congr 1
          rw [Nat.mul_assoc, ← hinv, hWm]
          exact propext ⟨fun h => Nat.eq_of_mul_eq_mul_left hlp h, fun h => congrArg (fun z => lived * z) h⟩
      · have hr : rch S here t = false := by simpa using hr
        simp [hr, qmx]
    have hnext : pth S L n up start (i + 1) = lw (fun t => rch S here t && decide (lived * L t * Wm S L m t = up)) (S 0) := by
      rw [lw_cg (S 0) hC]
      show (if up = 0 then lw (rch S (pth S L n up start i)) (S 0) else lw (qmx S (fun t => L t * Wm S L (n - 1 - i) t) (pth S L n up start i)) (S 0)) = _
      rw [hhere, hm]
      by_cases hu : up = 0
      · simp only [hu, ↓reduceIte]
      · simp only [hu, ↓reduceIte]
    have hto := pth_lt (S := S) (L := L) (n := n) (up := up) hs (i + 1)
    generalize htt : pth S L n up start (i + 1) = to at *
    have hlt : lw (fun t => rch S here t && decide (lived * L t * Wm S L m t = up)) (S 0) < S 0 := by rw [← hnext]; exact hto
    have hy := lw_yes _ _ hlt
    rw [← hnext] at hy
    have hno := fun u hu => lw_no (fun t => rch S here t && decide (lived * L t * Wm S L m t = up)) (S 0) u hu
    rw [← hnext] at hno
    have hyr : (S (88 + here) ||| 2 ^ here).testBit to = true := by
      have : rch S here to = true := by simp at hy; exact hy.1
      exact this
    have hye : lived * L to * Wm S L m to = up := by simp at hy; exact hy.2
    obtain ⟨q1, q2⟩ := h1 to hto
    obtain ⟨way', g1, g2⟩ := ih f (i + 1) (lived * L to) (upd way i (nI to)) (by omega) (by omega) (by rw [Nat.pow_succ]; exact Nat.mul_le_mul hlv q2) (by rw [show n - (i + 1) = m by omega, htt]; exact hye) (fun u hu => by
      by_cases e2 : u = i
      · rw [upd_eq e2, e2, htt]
      · rw [upd_ne e2]; exact hw u (by omega))
    rw [htt] at g1
    refine ⟨way', ?_, g2⟩
    -- the search among the lands
    have srch : ∀ k f2 t, t + k = to → k < f2 → f_X10_follow_38 N (f_X10_follow_9 N f) f2 (nI up) liv best way (nI (S 0)) dr (nI n) (nI here) (nI lived) (nI i) (nI (S (88 + here) ||| 2 ^ here)) (nI t) = some way' := by
      intro k
      induction k with
      | zero =>
        intro f2 t e2 hf2
        obtain ⟨f2, rfl⟩ : ∃ m, f2 = m + 1 := ⟨f2 - 1, by omega⟩
        have e2 : t = to := by omega
        subst e2
        have bb := h2 m t (by omega) hto
        have em : m * 8 = 8 * m := Nat.mul_comm _ _
        have en : n - 1 - i = m := hm
        rw [f_X10_follow_38]
        simp (maxSteps := 1000000) (disch := omega) only [li, ob1_s, ob2_s, ob3_s, ob4_s, ob5_s, ob6_s, ob7_s, gA_n, gL_n, sA_n, sL_n, cpI_n, nI_add, pk_mul, nsub, nlt_t, nlt_f, nle_t, nle_f, neq_t, neq_f, rmI_n, dvI_n, upd_ne, upd_eq, un_ne, un_eq, Nat.add_zero, Bool.false_eq_true, ↓reduceIte, f_X10_follow_70, f_X10_follow_120, f_X10_follow_154, f_X10_bestAfter, nbit, hyr, q1, en, em, bb, hye]
        exact g1
      | succ k ihk =>
        intro f2 t e2 hf2
        obtain ⟨f2, rfl⟩ : ∃ m, f2 = m + 1 := ⟨f2 - 1, by omega⟩
        have g := ihk f2 (t + 1) (by omega) (by omega)
        have hn0 := hno t (by omega)
        have bb := h2 m t (by omega) (by omega)
        obtain ⟨t1, t2⟩ := h1 t (by omega)
        have em : m * 8 = 8 * m := Nat.mul_comm _ _
        have en : n - 1 - i = m := hm
        have f3 := fb t (by omega)
        have f4 := Wm_b hLb n start
        have f5 : 10 ^ n ≤ 1000000 := Nat.pow_le_pow_right (n := 10) (j := 6) (by omega) hn6
        have hupl : up ≤ 1000000 := by omega
        rw [f_X10_follow_38]
        by_cases hb : (S (88 + here) ||| 2 ^ here).testBit t = true
        · have hne : lived * L t * Wm S L m t ≠ up := by
            have : rch S here t = true := hb
            simp [this] at hn0
            exact hn0
          simp (maxSteps := 1000000) (disch := omega) only [li, ob1_s, ob2_s, ob3_s, ob4_s, ob5_s, ob6_s, ob7_s, gA_n, gL_n, sA_n, sL_n, cpI_n, nI_add, pk_mul, nsub, nlt_t, nlt_f, nle_t, nle_f, neq_t, neq_f, rmI_n, dvI_n, upd_ne, upd_eq, un_ne, un_eq, Nat.add_zero, Bool.false_eq_true, ↓reduceIte, f_X10_follow_70, f_X10_follow_114, f_X10_bestAfter, nbit, hb, t1, en, em, bb]
          exact g
        · simp (maxSteps := 1000000) (disch := omega) only [li, ob1_s, ob2_s, ob3_s, ob4_s, ob5_s, ob6_s, ob7_s, gA_n, gL_n, sA_n, sL_n, cpI_n, nI_add, pk_mul, nsub, nlt_t, nlt_f, nle_t, nle_f, neq_t, neq_f, rmI_n, dvI_n, upd_ne, upd_eq, un_ne, un_eq, Nat.add_zero, Bool.false_eq_true, ↓reduceIte, f_X10_follow_70, f_X10_follow_114, nbit, hb]
          exact g
    have := srch to N 0 (by omega) (by omega)
    rw [f_X10_follow_9]
    simp (maxSteps := 1000000) (disch := omega) only [li, ob1_s, ob2_s, ob3_s, ob4_s, ob5_s, ob6_s, ob7_s, gA_n, gL_n, sA_n, sL_n, cpI_n, nI_add, pk_mul, nsub, nlt_t, nlt_f, nle_t, nle_f, neq_t, neq_f, rmI_n, dvI_n, upd_ne, upd_eq, un_ne, un_eq, Nat.add_zero, Bool.false_eq_true, ↓reduceIte, f_X2_near, r1, nshl1, nor]
    exact this
