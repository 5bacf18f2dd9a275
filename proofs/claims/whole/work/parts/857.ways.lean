/-! the surest way: most of a row, and the lowest that has it -/
def mxr (q : Nat → Bool) (f : Nat → Nat) : Nat → Nat
  | 0 => 0
  | k + 1 => if q k then max (mxr q f k) (f k) else mxr q f k
theorem mxr_le {q : Nat → Bool} {f : Nat → Nat} {t : Nat} (hq : q t = true) : ∀ k, t < k → f t ≤ mxr q f k := by
  intro k
  induction k with
  | zero => intro h; omega
  | succ k ih =>
    intro h
    unfold mxr
    by_cases e : t = k
    · subst e; rw [if_pos hq]; exact Nat.le_max_right _ _
    · have := ih (by omega)
      split
      · exact Nat.le_trans this (Nat.le_max_left _ _)
      · exact this
theorem mxr_b {q : Nat → Bool} {f : Nat → Nat} {B : Nat} : ∀ k, (∀ t, t < k → f t ≤ B) → mxr q f k ≤ B := by
  intro k
  induction k with
  | zero => intro _; exact Nat.zero_le _
  | succ k ih =>
    intro h
    unfold mxr
    have h1 := ih (fun t ht => h t (by omega))
    split
    · exact Nat.max_le.mpr ⟨h1, h k (by omega)⟩
    · exact h1
theorem mxr_at {q : Nat → Bool} {f : Nat → Nat} : ∀ k, (∃ t, t < k ∧ q t = true) → ∃ t, t < k ∧ q t = true ∧ f t = mxr q f k := by
  intro k
  induction k with
  | zero => rintro ⟨t, ht, -⟩; omega
  | succ k ih =>
    rintro ⟨t, ht, hq⟩
    unfold mxr
    by_cases e : q k = true
    · rw [if_pos e]
      by_cases c : mxr q f k ≤ f k
      · exact ⟨k, by omega, e, (Nat.max_eq_right c).symm⟩
      · have hne : ∃ t, t < k ∧ q t = true := by
          by_cases hh : ∃ t, t < k ∧ q t = true
          · exact hh
          · exfalso
            have : mxr q f k = 0 := by
              have z : ∀ m, m ≤ k → mxr q f m = 0 := by
                intro m
                induction m with
                | zero => intro _; rfl
                | succ m ihm =>
                  intro hm
                  unfold mxr
                  rw [if_neg (fun h => hh ⟨m, by omega, h⟩)]
                  exact ihm (by omega)
              exact z k (Nat.le_refl _)
            omega
        obtain ⟨u, h1, h2, h3⟩ := ih hne
        exact ⟨u, by omega, h2, by rw [Nat.max_eq_left (by omega)]; exact h3⟩
    · rw [if_neg e]
      have : t ≠ k := fun h => by subst h; exact e hq
      obtain ⟨u, h1, h2, h3⟩ := ih ⟨t, by omega, hq⟩
      exact ⟨u, by omega, h2, h3⟩
theorem mxr_cg {q : Nat → Bool} {f g : Nat → Nat} : ∀ k, (∀ t, t < k → f t = g t) → mxr q f k = mxr q g k := by
  intro k
  induction k with
  | zero => intro _; rfl
  | succ k ih =>
    intro h
    unfold mxr
    rw [ih (fun t ht => h t (by omega)), h k (by omega)]
/-- the lowest with q among the first k -/
def lw (q : Nat → Bool) : Nat → Nat
  | 0 => 0
  | k + 1 => if lw q k < k then lw q k else if q k then k else k + 1
theorem lw_le (q : Nat → Bool) : ∀ k, lw q k ≤ k := by
  intro k
  induction k with
  | zero => exact Nat.le_refl _
  | succ k ih =>
    unfold lw
    split
    · omega
    · split <;> omega
theorem lw_no (q : Nat → Bool) : ∀ k u, u < lw q k → q u = false := by
  intro k
  induction k with
  | zero => intro u h; exact absurd h (Nat.not_lt_zero u)
  | succ k ih =>
    intro u h
    have hl := lw_le q k
    unfold lw at h
    split at h
    · exact ih u h
    · rename_i c
      have e : lw q k = k := by omega
      split at h
      · exact ih u (by omega)
      · rename_i c2
        by_cases e2 : u = k
        · subst e2; simpa using c2
        · exact ih u (by omega)
theorem lw_yes (q : Nat → Bool) : ∀ k, lw q k < k → q (lw q k) = true := by
  intro k
  induction k with
  | zero => intro h; exact absurd h (Nat.not_lt_zero _)
  | succ k ih =>
    intro h
    unfold lw at h ⊢
    split
    · rename_i c; exact ih c
    · rename_i c
      rw [if_neg c] at h
      split
      · assumption
      · rename_i c2; rw [if_neg c2] at h; omega
theorem lw_is {q : Nat → Bool} {k t : Nat} (ht : t < k) (hq : q t = true) (hn : ∀ u, u < t → q u = false) : lw q k = t := by
  have h1 : ¬ t < lw q k := fun h => by have := lw_no q k t h; rw [this] at hq; cases hq
  have h2 : lw q k < k := by omega
  have h3 := lw_yes q k h2
  by_cases e : lw q k = t
  · exact e
  · have := hn (lw q k) (by omega)
    rw [this] at h3; cases h3
/-- where one may be a month later -/
def rch (S : Nat → Nat) (l t : Nat) : Bool := (S (88 + l) ||| 2 ^ l).testBit t
theorem rch_self (S : Nat → Nat) (l : Nat) : rch S l l = true := by
  unfold rch
  rw [Nat.testBit_or, n1bit]; simp
theorem mxI_n {x y : Nat} (hx : x < 2147483648) (hy : y < 2147483648) : mxI (nI x) (nI y) = nI (max x y) := by
  unfold mxI
  by_cases h : x < y
  · rw [if_pos ((nlt hx hy).mpr h), Nat.max_eq_right (by omega)]
  · rw [if_neg (fun g => h ((nlt hx hy).mp g)), Nat.max_eq_left (by omega)]
theorem cBestFrom {N l m : Nat} {dn : Int32} {df dr liv best : Nat → Int32} {S L V : Nat → Nat} (hL : LandT dn df dr S) (hN : 100 ≤ N) (hl : l < S 0) (hm : m < 7) (h1 : ∀ t, t < S 0 → liv t = nI (L t) ∧ L t ≤ 10) (h2 : ∀ t, t < S 0 → best (8 * m + t) = nI (V t) ∧ V t ≤ 100000) : f_X10_bestFrom N liv best dn dr (nI l) (nI (m + 1)) = some (nI (mxr (rch S l) (fun t => L t * V t) (S 0))) := by
  obtain ⟨e1, h8, h3, h4, h5, h6⟩ := id hL
  subst e1
  obtain ⟨r1, r2⟩ := h4 l hl
  have l8 := p28 h8
  have ll := p28' (show l < 8 by omega)
  have ho : S (88 + l) ||| 2 ^ l < 256 := Nat.or_lt_two_pow (n := 8) (by omega) ll
  have fb : ∀ t, t < S 0 → L t * V t ≤ 1000000 := fun t ht => by
    have := Nat.mul_le_mul (h1 t ht).2 (h2 t ht).2
    omega
  have key : ∀ k n t, t + k = S 0 → k < n → f_X10_bestFrom_17 N n liv best (nI (S 0)) dr (nI (m + 1)) (nI (S (88 + l) ||| 2 ^ l)) (nI (mxr (rch S l) (fun t => L t * V t) t)) (nI t) = some (nI (mxr (rch S l) (fun t => L t * V t) (S 0))) := by
    intro k
    induction k with
    | zero =>
      intro n t e hn
      obtain ⟨n, rfl⟩ : ∃ m, n = m + 1 := ⟨n - 1, by omega⟩
      have e : t = S 0 := by omega
      subst e
      simp (maxSteps := 1000000) (disch := omega) only [li, ob1_s, ob2_s, ob3_s, ob4_s, ob5_s, ob6_s, ob7_s, gA_n, gL_n, sA_n, sL_n, cpI_n, nI_add, pk_mul, nsub, nlt_t, nlt_f, nle_t, nle_f, neq_t, neq_f, rmI_n, dvI_n, upd_ne, upd_eq, un_ne, un_eq, Nat.add_zero, Bool.false_eq_true, ↓reduceIte, f_X10_bestFrom_17]
    | succ k ih =>
      intro n t e hn
      obtain ⟨n, rfl⟩ : ∃ m, n = m + 1 := ⟨n - 1, by omega⟩
      have g := ih n (t + 1) (by omega) (by omega)
      obtain ⟨q1, q2⟩ := h1 t (by omega)
      obtain ⟨q3, q4⟩ := h2 t (by omega)
      have f1 := fb t (by omega)
      have f2 := mxr_b (q := rch S l) (f := fun t => L t * V t) (B := 1000000) t (fun u hu => fb u (by omega))
      have em : m * 8 = 8 * m := Nat.mul_comm _ _
      have e1 : m + 1 - 1 = m := by omega
      rw [show mxr (rch S l) (fun t => L t * V t) (t + 1) = (if rch S l t then max (mxr (rch S l) (fun t => L t * V t) t) (L t * V t) else mxr (rch S l) (fun t => L t * V t) t) from rfl] at g
      by_cases hb : (S (88 + l) ||| 2 ^ l).testBit t = true
      · rw [if_pos (show rch S l t = true from hb)] at g
        simp (maxSteps := 1000000) (disch := omega) only [li, ob1_s, ob2_s, ob3_s, ob4_s, ob5_s, ob6_s, ob7_s, gA_n, gL_n, sA_n, sL_n, cpI_n, nI_add, pk_mul, nsub, nlt_t, nlt_f, nle_t, nle_f, neq_t, neq_f, rmI_n, dvI_n, upd_ne, upd_eq, un_ne, un_eq, Nat.add_zero, Bool.false_eq_true, ↓reduceIte, f_X10_bestFrom_17, f_X10_bestFrom_68, f_X10_bestAfter, nbit, hb, q1, q3, em, e1, mxI_n]
        exact g
      · rw [if_neg (show ¬ rch S l t = true from hb)] at g
        simp (maxSteps := 1000000) (disch := omega) only [li, ob1_s, ob2_s, ob3_s, ob4_s, ob5_s, ob6_s, ob7_s, gA_n, gL_n, sA_n, sL_n, cpI_n, nI_add, pk_mul, nsub, nlt_t, nlt_f, nle_t, nle_f, neq_t, neq_f, rmI_n, dvI_n, upd_ne, upd_eq, un_ne, un_eq, Nat.add_zero, Bool.false_eq_true, ↓reduceIte, f_X10_bestFrom_17, f_X10_bestFrom_68, f_X10_bestAfter, nbit, hb]
        exact g
  have := key (S 0) N 0 (by omega) (by omega)
  simp (maxSteps := 1000000) (disch := omega) only [li, ob1_s, ob2_s, ob3_s, ob4_s, ob5_s, ob6_s, ob7_s, gA_n, gL_n, sA_n, sL_n, cpI_n, nI_add, pk_mul, nsub, nlt_t, nlt_f, nle_t, nle_f, neq_t, neq_f, rmI_n, dvI_n, upd_ne, upd_eq, un_ne, un_eq, Nat.add_zero, Bool.false_eq_true, ↓reduceIte, f_X10_bestFrom, f_X2_near, r1, nshl1, nor]
  exact this
theorem rReach {N l : Nat} {a : Nat → Int32} {S : Nat → Nat} (hA : TieA a S) (hl : l < 8) : f_X12_reachOf N a (nI l) = some (nI (S (88 + l) ||| 2 ^ l)) := by
  simp (maxSteps := 1000000) (disch := omega) only [li, ob1_s, ob2_s, ob3_s, ob4_s, ob5_s, ob6_s, ob7_s, gA_n, gL_n, sA_n, sL_n, cpI_n, nI_add, pk_mul, nsub, nlt_t, nlt_f, nle_t, nle_f, neq_t, neq_f, rmI_n, dvI_n, upd_ne, upd_eq, un_ne, un_eq, Nat.add_zero, Bool.false_eq_true, ↓reduceIte, f_X12_reachOf, hA.2, nshl1, nor]
theorem rLowest {N l : Nat} {dn : Int32} {df dr a : Nat → Int32} {S : Nat → Nat} (hA : TieA a S) (hL : LandT dn df dr S) (hN : 100 ≤ N) (hl : l < S 0) : f_X12_lowestFrom N a (nI l) = some (nI (lw (rch S l) (S 0))) := by
  obtain ⟨e1, h8, h3, h4, h5, h6⟩ := id hL
  have l8 := p28 h8
  have ll := p28' (show l < 8 by omega)
  have ho : S (88 + l) ||| 2 ^ l < 256 := Nat.or_lt_two_pow (n := 8) (by have := (h4 l hl).2; omega) ll
  have key : ∀ k n t, t + k = l → k < n → (∀ u, u < t → rch S l u = false) → f_X12_lowestFrom_2 N n a (nI l) (nI t) = some (nI (lw (rch S l) (S 0))) := by
    intro k
    induction k with
    | zero =>
      intro n t e hn hz
      obtain ⟨n, rfl⟩ : ∃ m, n = m + 1 := ⟨n - 1, by omega⟩
      have e : t = l := by omega
      subst e
      have hb : (S (88 + t) ||| 2 ^ t).testBit t = true := rch_self S t
      rw [lw_is hl (rch_self S t) hz]
      simp (maxSteps := 1000000) (disch := omega) only [li, ob1_s, ob2_s, ob3_s, ob4_s, ob5_s, ob6_s, ob7_s, gA_n, gL_n, sA_n, sL_n, cpI_n, nI_add, pk_mul, nsub, nlt_t, nlt_f, nle_t, nle_f, neq_t, neq_f, rmI_n, dvI_n, upd_ne, upd_eq, un_ne, un_eq, Nat.add_zero, Bool.false_eq_true, ↓reduceIte, f_X12_lowestFrom_2, rReach hA, isWith_n, hb]
    | succ k ih =>
      intro n t e hn hz
      obtain ⟨n, rfl⟩ : ∃ m, n = m + 1 := ⟨n - 1, by omega⟩
      by_cases hb : (S (88 + l) ||| 2 ^ l).testBit t = true
      · rw [lw_is (q := rch S l) (show t < S 0 by omega) hb hz]
        simp (maxSteps := 1000000) (disch := omega) only [li, ob1_s, ob2_s, ob3_s, ob4_s, ob5_s, ob6_s, ob7_s, gA_n, gL_n, sA_n, sL_n, cpI_n, nI_add, pk_mul, nsub, nlt_t, nlt_f, nle_t, nle_f, neq_t, neq_f, rmI_n, dvI_n, upd_ne, upd_eq, un_ne, un_eq, Nat.add_zero, Bool.false_eq_true, ↓reduceIte, f_X12_lowestFrom_2, rReach hA, isWith_n, hb]
      · have g := ih n (t + 1) (by omega) (by omega) (fun u hu => by
          by_cases e2 : u = t
          · subst e2; simpa [rch] using hb
          · exact hz u (by omega))
        simp (maxSteps := 1000000) (disch := omega) only [li, ob1_s, ob2_s, ob3_s, ob4_s, ob5_s, ob6_s, ob7_s, gA_n, gL_n, sA_n, sL_n, cpI_n, nI_add, pk_mul, nsub, nlt_t, nlt_f, nle_t, nle_f, neq_t, neq_f, rmI_n, dvI_n, upd_ne, upd_eq, un_ne, un_eq, Nat.add_zero, Bool.false_eq_true, ↓reduceIte, f_X12_lowestFrom_2, rReach hA, isWith_n, hb]
        exact g
  exact key l N 0 (by omega) (by omega) (fun u hu => by omega)
/-- the lowest of those with the most -/
def qmx (S : Nat → Nat) (f : Nat → Nat) (l : Nat) : Nat → Bool := fun t => rch S l t && decide (f t = mxr (rch S l) f (S 0))
theorem rNext {N l m : Nat} {dn : Int32} {df dr a safe likely : Nat → Int32} {S L V : Nat → Nat} (hA : TieA a S) (hL : LandT dn df dr S) (hN : 100 ≤ N) (hl : l < S 0) (hm : m < 6) (h1 : ∀ t, t < S 0 → safe t = nI (L t) ∧ L t ≤ 10) (h2 : ∀ t, t < S 0 → likely (8 * m + t) = nI (V t) ∧ V t ≤ 100000) : f_X12_nextFrom N a likely safe (nI l) (nI (m + 1)) = some (nI (lw (qmx S (fun t => L t * V t) l) (S 0))) := by
  obtain ⟨e1, h8, h3, h4, h5, h6⟩ := id hL
  have l8 := p28 h8
  have ll := p28' (show l < 8 by omega)
  have ho : S (88 + l) ||| 2 ^ l < 256 := Nat.or_lt_two_pow (n := 8) (by have := (h4 l hl).2; omega) ll
  have fb : ∀ t, t < S 0 → L t * V t ≤ 1000000 := fun t ht => by
    have := Nat.mul_le_mul (h1 t ht).2 (h2 t ht).2
    omega
  have em : m + 1 - 1 = m := by omega
  have key : ∀ k n t (f : Int32), t + k = S 0 → k < n → ((f = -nI 1 ∧ t ≤ l ∧ ∀ u, u < t → rch S l u = false) ∨ ∃ b, b < t ∧ f = nI b ∧ rch S l b = true ∧ (∀ u, u < t → rch S l u = true → L u * V u ≤ L b * V b) ∧ ∀ u, u < b → rch S l u = true → L u * V u < L b * V b) → f_X12_nextFrom_5 N n a likely safe (nI l) (nI (m + 1)) f (nI t) = some (nI (lw (qmx S (fun t => L t * V t) l) (S 0))) := by
    intro k
    induction k with
    | zero =>
      intro n t f e hn hi
      obtain ⟨n, rfl⟩ : ∃ m, n = m + 1 := ⟨n - 1, by omega⟩
      have e : t = S 0 := by omega
      subst e
      rcases hi with ⟨i1, i2, i3⟩ | ⟨b, i1, i2, i3, i4, i5⟩
      · omega
      · subst i2
        have hmx : L b * V b = mxr (rch S l) (fun t => L t * V t) (S 0) := by
          apply Nat.le_antisymm
          · exact mxr_le (f := fun t => L t * V t) i3 (S 0) i1
          · obtain ⟨u, u1, u2, u3⟩ := mxr_at (f := fun t => L t * V t) (S 0) ⟨b, i1, i3⟩
            rw [← u3]; exact i4 u u1 u2
        rw [lw_is i1 (show qmx S (fun t => L t * V t) l b = true by simp [qmx, i3, hmx]) (fun u hu => by
          by_cases hr : rch S l u = true
          · have := i5 u hu hr
            have hne : ¬ L u * V u = mxr (rch S l) (fun t => L t * V t) (S 0) := by omega
            simp [qmx, hne]
          · have hr : rch S l u = false := by simpa using hr
            simp [qmx, hr])]
        simp (maxSteps := 1000000) (disch := omega) only [li, ob1_s, ob2_s, ob3_s, ob4_s, ob5_s, ob6_s, ob7_s, gA_n, gL_n, sA_n, sL_n, cpI_n, nI_add, pk_mul, nsub, nlt_t, nlt_f, nle_t, nle_f, neq_t, neq_f, rmI_n, dvI_n, upd_ne, upd_eq, un_ne, un_eq, Nat.add_zero, Bool.false_eq_true, ↓reduceIte, f_X12_nextFrom_5, hA.2]
    | succ k ih =>
      intro n t f e hn hi
      obtain ⟨n, rfl⟩ : ∃ m, n = m + 1 := ⟨n - 1, by omega⟩
      obtain ⟨q1, q2⟩ := h1 t (by omega)
      obtain ⟨q3, q4⟩ := h2 t (by omega)
      have f1 := fb t (by omega)
      by_cases hb : (S (88 + l) ||| 2 ^ l).testBit t = true
      · rcases hi with ⟨i1, i2, i3⟩ | ⟨b, i1, i2, i3, i4, i5⟩
        · subst i1
          have g := ih n (t + 1) (nI t) (by omega) (by omega) (Or.inr ⟨t, by omega, rfl, hb, (fun u hu hr => by
            by_cases e2 : u = t
            · subst e2; exact Nat.le_refl _
            · rw [i3 u (by omega)] at hr; exact absurd hr (by decide)), (fun u hu hr => by rw [i3 u hu] at hr; exact absurd hr (by decide))⟩)
          simp (maxSteps := 1000000) (disch := omega) only [li, ob1_s, ob2_s, ob3_s, ob4_s, ob5_s, ob6_s, ob7_s, gA_n, gL_n, sA_n, sL_n, cpI_n, nI_add, pk_mul, nsub, nlt_t, nlt_f, nle_t, nle_f, neq_t, neq_f, rmI_n, dvI_n, upd_ne, upd_eq, un_ne, un_eq, Nat.add_zero, Bool.false_eq_true, ↓reduceIte, f_X12_nextFrom_5, f_X12_nextFrom_79, f_X12_nextFrom_82, hA.2, rReach hA, isWith_n, hb]
          exact g
        · subst i2
          obtain ⟨p1, p2⟩ := h1 b (by omega)
          obtain ⟨p3, p4⟩ := h2 b (by omega)
          have f2 := fb b (by omega)
          have hm1 : ¬ nI b = -nI 1 := m1_ne (by omega)
          by_cases c : L t * V t ≤ L b * V b
          · have g := ih n (t + 1) (nI b) (by omega) (by omega) (Or.inr ⟨b, by omega, rfl, i3, fun u hu hr => by
              by_cases e2 : u = t
              · subst e2; exact c
              · exact i4 u (by omega) hr, i5⟩)
            simp (maxSteps := 1000000) (disch := omega) only [li, ob1_s, ob2_s, ob3_s, ob4_s, ob5_s, ob6_s, ob7_s, gA_n, gL_n, sA_n, sL_n, cpI_n, nI_add, pk_mul, nsub, nlt_t, nlt_f, nle_t, nle_f, neq_t, neq_f, rmI_n, dvI_n, upd_ne, upd_eq, un_ne, un_eq, Nat.add_zero, Bool.false_eq_true, ↓reduceIte, f_X12_nextFrom_5, f_X12_nextFrom_79, f_X12_nextFrom_82, hA.2, rReach hA, isWith_n, hb, hm1, em, q1, q3, p1, p3]
            exact g
          · have g := ih n (t + 1) (nI t) (by omega) (by omega) (Or.inr ⟨t, by omega, rfl, hb, fun u hu hr => by
              by_cases e2 : u = t
              · subst e2; exact Nat.le_refl _
              · have := i4 u (by omega) hr; omega, fun u hu hr => by have := i4 u hu hr; omega⟩)
            simp (maxSteps := 1000000) (disch := omega) only [li, ob1_s, ob2_s, ob3_s, ob4_s, ob5_s, ob6_s, ob7_s, gA_n, gL_n, sA_n, sL_n, cpI_n, nI_add, pk_mul, nsub, nlt_t, nlt_f, nle_t, nle_f, neq_t, neq_f, rmI_n, dvI_n, upd_ne, upd_eq, un_ne, un_eq, Nat.add_zero, Bool.false_eq_true, ↓reduceIte, f_X12_nextFrom_5, f_X12_nextFrom_79, f_X12_nextFrom_82, hA.2, rReach hA, isWith_n, hb, hm1, em, q1, q3, p1, p3]
            exact g
      · have hbf : rch S l t = false := by simpa [rch] using hb
        have hne : t ≠ l := fun h => by subst h; rw [rch_self] at hbf; cases hbf
        have g := ih n (t + 1) f (by omega) (by omega) (by
          rcases hi with ⟨i1, i2, i3⟩ | ⟨b, i1, i2, i3, i4, i5⟩
          · exact Or.inl ⟨i1, by omega, fun u hu => by
              by_cases e2 : u = t
              · subst e2; exact hbf
              · exact i3 u (by omega)⟩
          · exact Or.inr ⟨b, by omega, i2, i3, fun u hu hr => by
              by_cases e2 : u = t
              · subst e2; rw [hbf] at hr; exact absurd hr (by decide)
              · exact i4 u (by omega) hr, i5⟩)
        simp (maxSteps := 1000000) (disch := omega) only [li, ob1_s, ob2_s, ob3_s, ob4_s, ob5_s, ob6_s, ob7_s, gA_n, gL_n, sA_n, sL_n, cpI_n, nI_add, pk_mul, nsub, nlt_t, nlt_f, nle_t, nle_f, neq_t, neq_f, rmI_n, dvI_n, upd_ne, upd_eq, un_ne, un_eq, Nat.add_zero, Bool.false_eq_true, ↓reduceIte, f_X12_nextFrom_5, f_X12_nextFrom_79, f_X12_nextFrom_82, hA.2, rReach hA, isWith_n, hb]
        exact g
  exact key (S 0) N 0 (-nI 1) (by omega) (by omega) (Or.inl ⟨rfl, by omega, fun u hu => by omega⟩)
