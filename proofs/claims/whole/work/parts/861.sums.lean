/-! sums, and the ways of a crowd as numbers of base 8 -/
def sm (f : Nat → Nat) : Nat → Nat
  | 0 => 0
  | k + 1 => sm f k + f k
theorem sm_cg {f g : Nat → Nat} : ∀ k, (∀ t, t < k → f t = g t) → sm f k = sm g k := by
  intro k
  induction k with
  | zero => intro _; rfl
  | succ k ih =>
    intro h
    show sm f k + f k = sm g k + g k
    rw [ih (fun t ht => h t (by omega)), h k (by omega)]
theorem sm_zero {f : Nat → Nat} : ∀ k, (∀ t, t < k → f t = 0) → sm f k = 0 := by
  intro k
  induction k with
  | zero => intro _; rfl
  | succ k ih =>
    intro h
    show sm f k + f k = 0
    rw [ih (fun t ht => h t (by omega)), h k (by omega)]
theorem sm_add (f g : Nat → Nat) : ∀ k, sm (fun t => f t + g t) k = sm f k + sm g k := by
  intro k
  induction k with
  | zero => rfl
  | succ k ih =>
    show sm (fun t => f t + g t) k + (f k + g k) = (sm f k + f k) + (sm g k + g k)
    rw [ih]; omega
theorem sm_swap (f : Nat → Nat → Nat) (a : Nat) : ∀ b, sm (fun t => sm (f t) a) b = sm (fun u => sm (fun t => f t u) b) a := by
  intro b
  induction b with
  | zero => exact (sm_zero a (fun _ _ => rfl)).symm
  | succ b ih =>
    show sm (fun t => sm (f t) a) b + sm (f b) a = sm (fun u => sm (fun t => f t u) b + f b u) a
    rw [sm_add, ih]
theorem sm_more (f : Nat → Nat) (a : Nat) : ∀ k, sm f (a + k) = sm f a + sm (fun t => f (a + t)) k := by
  intro k
  induction k with
  | zero => rfl
  | succ k ih =>
    show sm f (a + k) + f (a + k) = sm f a + (sm (fun t => f (a + t)) k + f (a + k))
    rw [ih]; omega
theorem sm_mul (f : Nat → Nat) (a : Nat) : ∀ b, sm f (a * b) = sm (fun d => sm (fun c => f (c + a * d)) a) b := by
  intro b
  induction b with
  | zero => rfl
  | succ b ih =>
    show sm f (a * (b + 1)) = sm (fun d => sm (fun c => f (c + a * d)) a) b + sm (fun c => f (c + a * b)) a
    rw [Nat.mul_succ, sm_more, ih]
    congr 1
    exact sm_cg a (fun t _ => by rw [Nat.add_comm])
theorem sm_one {f : Nat → Nat} {k l : Nat} (hl : l < k) (h : ∀ t, t < k → t ≠ l → f t = 0) : sm f k = f l := by
  induction k with
  | zero => omega
  | succ k ih =>
    show sm f k + f k = f l
    by_cases e : l = k
    · subst e
      rw [sm_zero l (fun t ht => h t (by omega) (by omega)), Nat.zero_add]
    · rw [ih (by omega) (fun t ht hn => h t (by omega) hn), h k (by omega) (by omega), Nat.add_zero]
theorem sm_le {f : Nat → Nat} {b : Nat} : ∀ k, (∀ t, t < k → f t ≤ b) → sm f k ≤ b * k := by
  intro k
  induction k with
  | zero => intro _; exact Nat.le_refl _
  | succ k ih =>
    intro h
    show sm f k + f k ≤ _
    have := ih (fun t ht => h t (by omega))
    have := h k (by omega)
    rw [Nat.mul_succ]; omega
theorem sm_pos {f : Nat → Nat} {t : Nat} (ht : 0 < f t) : ∀ k, t < k → 0 < sm f k := by
  intro k
  induction k with
  | zero => intro h; omega
  | succ k ih =>
    intro h
    show 0 < sm f k + f k
    by_cases e : t = k
    · subst e; omega
    · have := ih (by omega); omega
theorem sm_ex {f : Nat → Nat} : ∀ k, 0 < sm f k → ∃ t, t < k ∧ 0 < f t := by
  intro k
  induction k with
  | zero => intro h; exact absurd h (Nat.lt_irrefl 0)
  | succ k ih =>
    intro h
    have h : 0 < sm f k + f k := h
    by_cases e : 0 < f k
    · exact ⟨k, by omega, e⟩
    · obtain ⟨t, h1, h2⟩ := ih (by omega)
      exact ⟨t, by omega, h2⟩
/-- the land of the crowd at a call -/
def ldc (start code : Nat) : Nat → Nat
  | 0 => start
  | i + 1 => code / 8 ^ i % 8
def okc (S : Nat → Nat) (start code : Nat) : Nat → Bool
  | 0 => true
  | i + 1 => okc S start code i && (decide (ldc start code (i + 1) < S 0) && rch S (ldc start code i) (ldc start code (i + 1)))
def mkc (C : Nat → Nat) (start code : Nat) : Nat → Nat
  | 0 => if C 0 = start then 1 else 0
  | i + 1 => mkc C start code i ||| (if C (i + 1) = ldc start code (i + 1) then 2 ^ (i + 1) else 0)
theorem ldc_lo {start code d c : Nat} : ∀ i, i ≤ c → ldc start (code + 8 ^ c * d) i = ldc start code i := by
  intro i hi
  cases i with
  | zero => rfl
  | succ i =>
    show (code + 8 ^ c * d) / 8 ^ i % 8 = code / 8 ^ i % 8
    obtain ⟨q, rfl⟩ : ∃ q, c = i + (q + 1) := ⟨c - i - 1, by omega⟩
    rw [Nat.pow_add, Nat.mul_assoc, Nat.add_mul_div_left _ _ (Nat.pow_pos (by omega)), Nat.pow_succ, Nat.mul_comm (8 ^ q) 8, Nat.mul_assoc, Nat.add_mul_mod_self_left]
theorem ldc_hi {start code d c : Nat} (hc : code < 8 ^ c) (hd : d < 8) : ldc start (code + 8 ^ c * d) (c + 1) = d := by
  show (code + 8 ^ c * d) / 8 ^ c % 8 = d
  rw [Nat.add_mul_div_left _ _ (Nat.pow_pos (by omega)), Nat.div_eq_of_lt hc, Nat.zero_add, Nat.mod_eq_of_lt hd]
theorem okc_lo {S : Nat → Nat} {start code d c : Nat} : ∀ i, i ≤ c → okc S start (code + 8 ^ c * d) i = okc S start code i := by
  intro i
  induction i with
  | zero => intro _; rfl
  | succ i ih =>
    intro hi
    unfold okc
    rw [ih (by omega), ldc_lo i (by omega), ldc_lo (i + 1) hi]
theorem mkc_lo {C : Nat → Nat} {start code d c : Nat} : ∀ i, i ≤ c → mkc C start (code + 8 ^ c * d) i = mkc C start code i := by
  intro i
  induction i with
  | zero => intro _; rfl
  | succ i ih =>
    intro hi
    unfold mkc
    rw [ih (by omega), ldc_lo (i + 1) hi]
theorem ldc_lt {start code : Nat} (hs : start < 8) (i : Nat) : ldc start code i < 8 := by
  cases i with
  | zero => exact hs
  | succ i => exact Nat.mod_lt _ (by omega)
theorem mkc_lt {C : Nat → Nat} {start code : Nat} : ∀ i, mkc C start code i < 2 ^ (i + 1) := by
  intro i
  induction i with
  | zero => unfold mkc; split <;> decide
  | succ i ih =>
    unfold mkc
    refine Nat.or_lt_two_pow (Nat.lt_of_lt_of_le ih (Nat.pow_le_pow_right (by omega) (by omega))) ?_
    split
    · exact Nat.pow_lt_pow_right (by omega) (by omega)
    · exact Nat.pow_pos (by omega)
/-- so many ways end here with this set of calls met -/
def cnc (S C : Nat → Nat) (start c l m : Nat) : Nat := sm (fun code => if okc S start code c = true ∧ ldc start code c = l ∧ mkc C start code c = m then 1 else 0) (8 ^ c)
theorem cnc_b (S C : Nat → Nat) (start c l m : Nat) : cnc S C start c l m ≤ 8 ^ c := by
  have := sm_le (f := fun code => if okc S start code c = true ∧ ldc start code c = l ∧ mkc C start code c = m then 1 else 0) (b := 1) (8 ^ c) (fun t _ => by split <;> omega)
  rw [Nat.one_mul] at this
  exact this
theorem okc_land {S : Nat → Nat} {start code c : Nat} (hs : start < S 0) (h : okc S start code c = true) : ldc start code c < S 0 := by
  cases c with
  | zero => exact hs
  | succ c =>
    unfold okc at h
    simp only [Bool.and_eq_true, decide_eq_true_eq] at h
    exact h.2.1
theorem cnc_succ {S C : Nat → Nat} {start c l m : Nat} (hs0 : start < S 0) (h8 : S 0 ≤ 8) (hl : l < S 0) (hsym : ∀ o, o < S 0 → rch S o l = rch S l o) :
    cnc S C start (c + 1) l m = sm (fun o => if rch S l o = true then sm (fun k => if k ||| (if C (c + 1) = l then 2 ^ (c + 1) else 0) = m then cnc S C start c o k else 0) (2 ^ (c + 1)) else 0) 8 := by
  have hs : start < 8 := by omega
  have e1 : cnc S C start (c + 1) l m = sm (fun code => if okc S start code c = true ∧ rch S l (ldc start code c) = true ∧ mkc C start code c ||| (if C (c + 1) = l then 2 ^ (c + 1) else 0) = m then 1 else 0) (8 ^ c) := by
    unfold cnc
    rw [Nat.pow_succ, sm_mul]
    rw [sm_one (l := l) (by omega) (fun d hd hn => sm_zero _ (fun code hc => by
      rw [if_neg]
      rintro ⟨-, h2, -⟩
      rw [ldc_hi hc hd] at h2
      exact hn h2))]
    refine sm_cg _ (fun code hc => ?_)
    have a1 : ldc start (code + 8 ^ c * l) (c + 1) = l := ldc_hi hc (by omega)
    have a2 : mkc C start (code + 8 ^ c * l) (c + 1) = mkc C start code c ||| (if C (c + 1) = l then 2 ^ (c + 1) else 0) := by
      show mkc C start (code + 8 ^ c * l) c ||| _ = _
      rw [mkc_lo c (Nat.le_refl _), a1]
    have a3 : okc S start (code + 8 ^ c * l) (c + 1) = (okc S start code c && rch S l (ldc start code c)) := by
      show (okc S start (code + 8 ^ c * l) c && (decide (ldc start (code + 8 ^ c * l) (c + 1) < S 0) && rch S (ldc start (code + 8 ^ c * l) c) (ldc start (code + 8 ^ c * l) (c + 1)))) = _
      rw [okc_lo c (Nat.le_refl _), a1, ldc_lo c (Nat.le_refl _), decide_eq_true hl, Bool.true_and]
      by_cases hk : okc S start code c = true
      · rw [hsym _ (okc_land hs0 hk)]
      · rw [Bool.eq_false_iff.mpr hk, Bool.false_and, Bool.false_and]
    rw [a1, a2, a3]
    simp only [Bool.and_eq_true, true_and, and_assoc]
  rw [e1]
  have e2 : ∀ o, (if rch S l o = true then sm (fun k => if k ||| (if C (c + 1) = l then 2 ^ (c + 1) else 0) = m then cnc S C start c o k else 0) (2 ^ (c + 1)) else 0) = sm (fun code => sm (fun k => if rch S l o = true ∧ k ||| (if C (c + 1) = l then 2 ^ (c + 1) else 0) = m ∧ okc S start code c = true ∧ ldc start code c = o ∧ mkc C start code c = k then 1 else 0) (2 ^ (c + 1))) (8 ^ c) := by
    intro o
    rw [← sm_swap]
    by_cases hr : rch S l o = true
    · rw [if_pos hr]
      refine sm_cg _ (fun k _ => ?_)
      by_cases hk : k ||| (if C (c + 1) = l then 2 ^ (c + 1) else 0) = m
      · rw [if_pos hk]
        exact sm_cg _ (fun code _ => by simp only [hr, hk, true_and])
      · rw [if_neg hk]
        exact (sm_zero _ (fun code _ => by simp only [hk, false_and, and_false, ↓reduceIte])).symm
    · rw [if_neg hr]
      exact (sm_zero _ (fun k _ => sm_zero _ (fun code _ => by rw [if_neg (fun h => hr h.1)]))).symm
  rw [sm_cg 8 (fun o _ => e2 o), sm_swap]
  refine sm_cg _ (fun code _ => ?_)
  rw [sm_one (l := ldc start code c) (ldc_lt hs c) (fun o _ hn => sm_zero _ (fun k _ => by
    rw [if_neg]
    rintro ⟨-, -, -, h, -⟩
    exact hn h.symm))]
  rw [sm_one (l := mkc C start code c) (mkc_lt c) (fun k _ hn => by
    rw [if_neg]
    rintro ⟨-, -, -, -, h⟩
    exact hn h.symm)]
  have : (okc S start code c = true ∧ rch S l (ldc start code c) = true ∧ mkc C start code c ||| (if C (c + 1) = l then 2 ^ (c + 1) else 0) = m) ↔ (rch S l (ldc start code c) = true ∧ mkc C start code c ||| (if C (c + 1) = l then 2 ^ (c + 1) else 0) = m ∧ okc S start code c = true ∧ ldc start code c = ldc start code c ∧ mkc C start code c = mkc C start code c) := ⟨fun ⟨a, b, d⟩ => ⟨b, d, a, rfl, rfl⟩, fun ⟨a, b, d, _⟩ => ⟨d, a, b⟩⟩
  simp only [this]
