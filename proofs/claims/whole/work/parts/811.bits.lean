/-! sets of lands as numbers -/
def nd (a b : Nat) : Nat := a ^^^ (a &&& b)
theorem nd_bit (a b i : Nat) : (nd a b).testBit i = (a.testBit i && !b.testBit i) := by
  unfold nd
  rw [Nat.testBit_xor, Nat.testBit_and]
  cases a.testBit i <;> cases b.testBit i <;> rfl
theorem ncom (a b : Nat) : nI a &&& (nI b ^^^ (-1 : Int32)) = nI (nd a b) := by
  apply Int32.toBitVec_inj.mp
  show BitVec.ofNat 32 a &&& (BitVec.ofNat 32 b ^^^ (-1 : Int32).toBitVec) = BitVec.ofNat 32 (nd a b)
  have e : (-1 : Int32).toBitVec = BitVec.allOnes 32 := by decide
  rw [e]
  apply BitVec.eq_of_getLsbD_eq
  intro i hi
  rw [BitVec.getLsbD_and, BitVec.getLsbD_xor, BitVec.getLsbD_ofNat, BitVec.getLsbD_ofNat, BitVec.getLsbD_ofNat, BitVec.getLsbD_allOnes, nd_bit]
  simp only [hi, decide_true, Bool.true_and]
  cases a.testBit i <;> cases b.testBit i <;> rfl
theorem nd_0 (a : Nat) : nd a 0 = a := by simp [nd]
theorem nd_lt {a b k : Nat} (h : a < 2 ^ k) : nd a b < 2 ^ k := Nat.xor_lt_two_pow h (Nat.lt_of_le_of_lt Nat.and_le_left h)
theorem bitlt {a k i : Nat} (h : a < 2 ^ k) (hi : k ≤ i) : a.testBit i = false := Nat.testBit_lt_two_pow (Nat.lt_of_lt_of_le h (Nat.pow_le_pow_right (by omega) hi))
theorem n1bit (k i : Nat) : (2 ^ k).testBit i = decide (k = i) := Nat.testBit_two_pow
theorem nshl1 {k : Nat} (hk : k < 31) : nI 1 <<< (nI k &&& nI 31) = nI (2 ^ k) := by
  have : 2 ^ k < 2 ^ 31 := Nat.pow_lt_pow_right (by omega) hk
  rw [nshl (by omega) (by omega), Nat.one_mul]
theorem k31 {k : Nat} (hk : k < 32) : k &&& 31 = k := by rw [show (31 : Nat) = 2 ^ 5 - 1 from rfl, Nat.and_two_pow_sub_one_eq_mod]; exact Nat.mod_eq_of_lt hk
theorem nshl1b {k : Nat} (hk : k < 31) : nI 1 <<< nI (k &&& 31) = nI (2 ^ k) := by
  rw [← nand]; exact nshl1 hk
theorem p28 {k : Nat} (h : k ≤ 8) : 2 ^ k ≤ 256 := Nat.pow_le_pow_right (n := 2) (i := k) (j := 8) (by omega) h
theorem p28' {k : Nat} (h : k < 8) : 2 ^ k < 256 := Nat.pow_lt_pow_right (a := 2) (m := k) (n := 8) (by omega) h
/-- a set and all that its lands lead to -/
def spr (R : Nat → Nat) (s : Nat) : Nat → Nat
  | 0 => s
  | n + 1 => if s.testBit n then spr R s n ||| R n else spr R s n
theorem spr_lt {R : Nat → Nat} {s m : Nat} (hs : s < 2 ^ m) : ∀ n, (∀ k, k < n → R k < 2 ^ m) → spr R s n < 2 ^ m := by
  intro n
  induction n with
  | zero => intro _; exact hs
  | succ n ih =>
    intro h
    have h1 := ih (fun k hk => h k (by omega))
    unfold spr
    split
    · exact Nat.or_lt_two_pow h1 (h n (by omega))
    · exact h1
theorem spr_cg {R Q : Nat → Nat} {s : Nat} : ∀ n, (∀ k, k < n → R k = Q k) → spr R s n = spr Q s n := by
  intro n
  induction n with
  | zero => intro _; rfl
  | succ n ih =>
    intro h
    unfold spr
    rw [ih (fun k hk => h k (by omega)), h n (by omega)]
theorem spr_bit (R : Nat → Nat) (s i : Nat) : ∀ n, (spr R s n).testBit i = true ↔ s.testBit i = true ∨ ∃ k, k < n ∧ s.testBit k = true ∧ (R k).testBit i = true := by
  intro n
  induction n with
  | zero => simp [spr]
  | succ n ih =>
    unfold spr
    by_cases h : s.testBit n = true
    · rw [if_pos h, Nat.testBit_or, Bool.or_eq_true, ih]
      constructor
      · rintro ((h1 | ⟨k, h1, h2, h3⟩) | h1)
        · exact Or.inl h1
        · exact Or.inr ⟨k, by omega, h2, h3⟩
        · exact Or.inr ⟨n, by omega, h, h1⟩
      · rintro (h1 | ⟨k, h1, h2, h3⟩)
        · exact Or.inl (Or.inl h1)
        · by_cases e : k = n
          · subst e; exact Or.inr h3
          · exact Or.inl (Or.inr ⟨k, by omega, h2, h3⟩)
    · rw [if_neg h, ih]
      constructor
      · rintro (h1 | ⟨k, h1, h2, h3⟩)
        · exact Or.inl h1
        · exact Or.inr ⟨k, by omega, h2, h3⟩
      · rintro (h1 | ⟨k, h1, h2, h3⟩)
        · exact Or.inl h1
        · by_cases e : k = n
          · subst e; exact absurd h2 h
          · exact Or.inr ⟨k, by omega, h2, h3⟩
/-- the roads as plain numbers -/
def rd (S : Nat → Nat) : Nat → Nat := fun k => S (88 + k)
theorem isWith_n {N a k : Nat} (ha : a < 2147483648) (hk : k < 32) : f_X12_isWith N (nI a) (nI k) = some (nI (if a.testBit k then 1 else 0)) := by
  simp only [f_X12_isWith, li, nbit ha hk]
  cases a.testBit k
  · simp [neq_f]
  · simp
theorem cSpread {N : Nat} {dn : Int32} {df dr : Nat → Int32} {S : Nat → Nat} (hL : LandT dn df dr S) {s : Nat} (hs : s < 256) (hN : 100 ≤ N) : f_X2_spread N dn dr (nI s) = some (nI (spr (rd S) s (S 0))) := by
  obtain ⟨h1, h2, h3, h4, h5, h6⟩ := hL
  subst h1
  have key : ∀ k n l, l + k = S 0 → k < n → f_X2_spread_4 N n (nI (S 0)) dr (nI s) (nI (spr (rd S) s l)) (nI l) = some (nI (spr (rd S) s (S 0))) := by
    intro k
    induction k with
    | zero =>
      intro n l e hn
      obtain ⟨n, rfl⟩ : ∃ m, n = m + 1 := ⟨n - 1, by omega⟩
      have e : l = S 0 := by omega
      subst e
      simp (maxSteps := 1000000) (disch := omega) only [li, ob1_s, ob2_s, ob3_s, ob4_s, ob5_s, ob6_s, ob7_s, gA_n, gL_n, sA_n, sL_n, cpI_n, nI_add, pk_mul, nsub, nlt_t, nlt_f, nle_t, nle_f, neq_t, neq_f, rmI_n, dvI_n, upd_ne, upd_eq, un_ne, un_eq, Nat.add_zero, Bool.false_eq_true, ↓reduceIte, f_X2_spread_4]
    | succ k ih =>
      intro n l e hn
      obtain ⟨n, rfl⟩ : ∃ m, n = m + 1 := ⟨n - 1, by omega⟩
      have g := ih n (l + 1) (by omega) (by omega)
      have hr := (h4 l (by omega)).1
      rw [show spr (rd S) s (l + 1) = (if s.testBit l then spr (rd S) s l ||| rd S l else spr (rd S) s l) from rfl] at g
      by_cases hb : s.testBit l = true
      · rw [if_pos hb] at g
        simp (maxSteps := 1000000) (disch := omega) only [li, ob1_s, ob2_s, ob3_s, ob4_s, ob5_s, ob6_s, ob7_s, gA_n, gL_n, sA_n, sL_n, cpI_n, nI_add, pk_mul, nsub, nlt_t, nlt_f, nle_t, nle_f, neq_t, neq_f, rmI_n, dvI_n, upd_ne, upd_eq, un_ne, un_eq, Nat.add_zero, Bool.false_eq_true, ↓reduceIte, f_X2_spread_4, f_X2_spread_36, nbit, hb, hr, nor, nI_1]
        exact g
      · rw [if_neg hb] at g
        simp (maxSteps := 1000000) (disch := omega) only [li, ob1_s, ob2_s, ob3_s, ob4_s, ob5_s, ob6_s, ob7_s, gA_n, gL_n, sA_n, sL_n, cpI_n, nI_add, pk_mul, nsub, nlt_t, nlt_f, nle_t, nle_f, neq_t, neq_f, rmI_n, dvI_n, upd_ne, upd_eq, un_ne, un_eq, Nat.add_zero, Bool.false_eq_true, ↓reduceIte, f_X2_spread_4, f_X2_spread_36, nbit, hb, hr, nor, nI_1]
        exact g
  exact key (S 0) N 0 (by omega) (by omega)
