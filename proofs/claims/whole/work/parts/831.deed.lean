/-! deeds: what they may change, both sides -/
def CR (w : Bool) (row : Nat → Int32) (S : Nat → Nat) : Prop := RowC row S ∧ (w = true → BookT row S (S 12))
/-- at most n entries more in the book; nothing else but month, X and what persons are -/
def Fra (n : Nat) (S T : Nat → Nat) : Prop :=
  (∀ i, ¬ (i = 10 ∨ i = 11 ∨ i = 12 ∨ (14 ≤ i ∧ i < 80) ∨ 1522 ≤ i) → T i = S i) ∧ (∀ p k, p < 6 → 7 ≤ k → k < 11 → T (14 + 11 * p + k) = S (14 + 11 * p + k)) ∧
  S 12 ≤ T 12 ∧ T 12 ≤ S 12 + n ∧ (∀ i, i < 7240 → (∀ t, S 12 ≤ t → t < T 12 → i ≠ t % 7240) → T (1522 + i) = S (1522 + i))
theorem Fra.rf (S : Nat → Nat) : Fra 0 S S := ⟨fun _ _ => rfl, fun _ _ _ _ _ => rfl, Nat.le_refl _, Nat.le_refl _, fun _ _ _ => rfl⟩
theorem Fra.mn {n m : Nat} {S T : Nat → Nat} (h : Fra n S T) (hm : n ≤ m) : Fra m S T := ⟨h.1, h.2.1, h.2.2.1, by have := h.2.2.2.1; omega, h.2.2.2.2⟩
theorem Fra.tr {n m : Nat} {S T U : Nat → Nat} (h : Fra n S T) (g : Fra m T U) : Fra (n + m) S U := by
  obtain ⟨h1, h2, h3, h4, h5⟩ := h
  obtain ⟨g1, g2, g3, g4, g5⟩ := g
  refine ⟨fun i hi => (g1 i hi).trans (h1 i hi), fun p k hp hk hk2 => (g2 p k hp hk hk2).trans (h2 p k hp hk hk2), by omega, by omega, fun i hi hn => ?_⟩
  rw [g5 i hi (fun t ht1 ht2 => hn t (by omega) ht2), h5 i hi (fun t ht1 ht2 => hn t ht1 (by omega))]
/-- a part of a person set -/
theorem Fra.set (S : Nat → Nat) {p k : Nat} (v : Nat) (hp : p < 6) (hk : k < 7) : Fra 0 S (un S (14 + 11 * p + k) v) := by
  refine ⟨fun i hi => un_ne (by omega), fun q j hq hj hj2 => un_ne (by omega), by rw [un_ne (by omega)]; omega, by rw [un_ne (by omega)]; omega, fun i hi _ => un_ne (by omega)⟩
theorem Fra.x (S : Nat → Nat) (v : Nat) : Fra 0 S (un S 11 v) :=
  ⟨fun i hi => un_ne (by omega), fun q j hq hj hj2 => un_ne (by omega), by rw [un_ne (by omega)]; omega, by rw [un_ne (by omega)]; omega, fun i hi _ => un_ne (by omega)⟩
theorem Fra.m (S : Nat → Nat) (v : Nat) : Fra 0 S (un S 10 v) :=
  ⟨fun i hi => un_ne (by omega), fun q j hq hj hj2 => un_ne (by omega), by rw [un_ne (by omega)]; omega, by rw [un_ne (by omega)]; omega, fun i hi _ => un_ne (by omega)⟩
def aWr (w : Bool) (S : Nat → Nat) (p c : Nat) : Nat → Nat := if w then un (un S (1522 + S 12 % 7240) ((S 10 * 8 + p) * 8 + c)) 12 (S 12 + 1) else S
theorem aWr_o {w : Bool} {S : Nat → Nat} {p c i : Nat} (h : i < 1522) (h2 : i ≠ 12) : aWr w S p c i = S i := by
  unfold aWr
  split
  · rw [un_ne h2, un_ne (by omega)]
  · rfl
theorem aWr_12 (S : Nat → Nat) (p c : Nat) : aWr true S p c 12 = S 12 + 1 := by
  unfold aWr
  rw [if_pos rfl, un_eq rfl]
theorem Fra.wr (w : Bool) (S : Nat → Nat) (p c : Nat) : Fra 1 S (aWr w S p c) := by
  unfold aWr
  split
  · have := Nat.mod_lt (S 12) (show 0 < 7240 by omega)
    refine ⟨fun i hi => by rw [un_ne (by omega), un_ne (by omega)], fun q j hq hj hj2 => by rw [un_ne (by omega), un_ne (by omega)], by rw [un_eq rfl]; omega, by rw [un_eq rfl]; omega, fun i hi hn => ?_⟩
    have := hn (S 12) (Nat.le_refl _) (by rw [un_eq rfl]; omega)
    rw [un_ne (by omega), un_ne (by omega)]
  · exact (Fra.rf S).mn (by omega)
theorem Fra.wr0 (S : Nat → Nat) (p c : Nat) : Fra 0 S (aWr false S p c) := Fra.rf S
def wI (w : Bool) : Int32 := if w then nI 1 else nI 0
theorem rWrite {N p c : Nat} {w : Bool} {a : Nat → Int32} {S : Nat → Nat} (hA : TieA a S) (hp : p < 6) (hc : c < 8) (hm : S 10 ≤ 9999) (hj : S 12 < 2147483000) : ∃ a', f_X12_write N a (wI w) (nI p) (nI c) = some a' ∧ TieA a' (aWr w S p c) := by
  cases w with
  | false => exact ⟨a, by simp only [f_X12_write, wI, li, Bool.false_eq_true, ↓reduceIte], hA⟩
  | true =>
    have hl := Nat.mod_lt (S 12) (show 0 < 7240 by omega)
    refine ⟨upd (upd a (1522 + S 12 % 7240) (nI ((S 10 * 8 + p) * 8 + c))) 12 (nI (S 12 + 1)), ?_, (hA.up (by omega)).up (by omega)⟩
    simp (maxSteps := 1000000) (disch := omega) only [li, ob1_s, ob2_s, ob3_s, ob4_s, ob5_s, ob6_s, ob7_s, gA_n, gL_n, sA_n, sL_n, cpI_n, nI_add, pk_mul, nsub, nlt_t, nlt_f, nle_t, nle_f, neq_t, neq_f, rmI_n, dvI_n, upd_ne, upd_eq, un_ne, un_eq, Nat.add_zero, Bool.false_eq_true, ↓reduceIte, f_X12_write, wI, hA.2]
theorem CR.set {w : Bool} {row : Nat → Int32} {S : Nat → Nat} {p k v : Nat} (h : CR w row S) (hp : p < S 1) (h6 : S 1 ≤ 6) (hk : k < 7) : CR w (upd row (34 + 7 * p + k) (nI v)) (un S (14 + 11 * p + k) v) := by
  obtain ⟨⟨r1, r2, r3, r4, r5⟩, hB⟩ := h
  refine ⟨⟨?_, ?_, ?_, ?_, fun q t hq ht => ?_⟩, fun hw => ?_⟩
  · simp (maxSteps := 1000000) (disch := omega) only [li, ob1_s, ob2_s, ob3_s, ob4_s, ob5_s, ob6_s, ob7_s, gA_n, gL_n, sA_n, sL_n, cpI_n, nI_add, pk_mul, nsub, nlt_t, nlt_f, nle_t, nle_f, neq_t, neq_f, rmI_n, dvI_n, upd_ne, upd_eq, un_ne, un_eq, Nat.add_zero, Bool.false_eq_true, ↓reduceIte]; exact r1
  · simp (maxSteps := 1000000) (disch := omega) only [li, ob1_s, ob2_s, ob3_s, ob4_s, ob5_s, ob6_s, ob7_s, gA_n, gL_n, sA_n, sL_n, cpI_n, nI_add, pk_mul, nsub, nlt_t, nlt_f, nle_t, nle_f, neq_t, neq_f, rmI_n, dvI_n, upd_ne, upd_eq, un_ne, un_eq, Nat.add_zero, Bool.false_eq_true, ↓reduceIte]; exact r2
  · simp (maxSteps := 1000000) (disch := omega) only [li, ob1_s, ob2_s, ob3_s, ob4_s, ob5_s, ob6_s, ob7_s, gA_n, gL_n, sA_n, sL_n, cpI_n, nI_add, pk_mul, nsub, nlt_t, nlt_f, nle_t, nle_f, neq_t, neq_f, rmI_n, dvI_n, upd_ne, upd_eq, un_ne, un_eq, Nat.add_zero, Bool.false_eq_true, ↓reduceIte]; exact r3
  · simp (maxSteps := 1000000) (disch := omega) only [li, ob1_s, ob2_s, ob3_s, ob4_s, ob5_s, ob6_s, ob7_s, gA_n, gL_n, sA_n, sL_n, cpI_n, nI_add, pk_mul, nsub, nlt_t, nlt_f, nle_t, nle_f, neq_t, neq_f, rmI_n, dvI_n, upd_ne, upd_eq, un_ne, un_eq, Nat.add_zero, Bool.false_eq_true, ↓reduceIte]; exact r4
  · rw [un_ne (by omega)] at hq
    by_cases e : q = p ∧ t = k
    · obtain ⟨rfl, rfl⟩ := e
      simp (maxSteps := 1000000) (disch := omega) only [li, ob1_s, ob2_s, ob3_s, ob4_s, ob5_s, ob6_s, ob7_s, gA_n, gL_n, sA_n, sL_n, cpI_n, nI_add, pk_mul, nsub, nlt_t, nlt_f, nle_t, nle_f, neq_t, neq_f, rmI_n, dvI_n, upd_ne, upd_eq, un_ne, un_eq, Nat.add_zero, Bool.false_eq_true, ↓reduceIte]
    · rw [upd_ne (by omega), un_ne (by omega)]; exact r5 q t hq ht
  · obtain ⟨b1, b2⟩ := hB hw
    have := Nat.min_le_right (S 12) 30
    refine ⟨by simp (maxSteps := 1000000) (disch := omega) only [li, ob1_s, ob2_s, ob3_s, ob4_s, ob5_s, ob6_s, ob7_s, gA_n, gL_n, sA_n, sL_n, cpI_n, nI_add, pk_mul, nsub, nlt_t, nlt_f, nle_t, nle_f, neq_t, neq_f, rmI_n, dvI_n, upd_ne, upd_eq, un_ne, un_eq, Nat.add_zero, Bool.false_eq_true, ↓reduceIte]; exact b1, fun i hi => ?_⟩
    simp (maxSteps := 1000000) (disch := omega) only [li, ob1_s, ob2_s, ob3_s, ob4_s, ob5_s, ob6_s, ob7_s, gA_n, gL_n, sA_n, sL_n, cpI_n, nI_add, pk_mul, nsub, nlt_t, nlt_f, nle_t, nle_f, neq_t, neq_f, rmI_n, dvI_n, upd_ne, upd_eq, un_ne, un_eq, Nat.add_zero, Bool.false_eq_true, ↓reduceIte] at hi
    simp (maxSteps := 1000000) (disch := omega) only [li, ob1_s, ob2_s, ob3_s, ob4_s, ob5_s, ob6_s, ob7_s, gA_n, gL_n, sA_n, sL_n, cpI_n, nI_add, pk_mul, nsub, nlt_t, nlt_f, nle_t, nle_f, neq_t, neq_f, rmI_n, dvI_n, upd_ne, upd_eq, un_ne, un_eq, Nat.add_zero, Bool.false_eq_true, ↓reduceIte]
    exact b2 i hi
theorem CR.write {N p c : Nat} {w : Bool} {row : Nat → Int32} {S : Nat → Nat} (h : CR w row S) (hp : p < 6) (hc : c < 8) (hm : S 10 ≤ 9999) (h6 : S 1 ≤ 6) : ∃ row', f_X1_write N row (nI p) (nI c) = some row' ∧ CR w row' (aWr w S p c) := by
  obtain ⟨⟨r1, r2, r3, ⟨n, hn, r4⟩, r5⟩, hB⟩ := h
  have ev : S 10 * 64 + p * 8 + c = (S 10 * 8 + p) * 8 + c := by omega
  have core : ∀ row' : Nat → Int32, (∀ i, i < 3 ∨ 34 ≤ i → row' i = row i) → (∃ n, n ≤ 30 ∧ row' 3 = nI n) → RowC row' (aWr w S p c) := by
    intro row' e e3
    refine ⟨by rw [e 0 (by omega), aWr_o (by omega) (by omega)]; exact r1, by rw [e 1 (by omega), aWr_o (by omega) (by omega)]; exact r2, by rw [e 2 (by omega), aWr_o (by omega) (by omega)]; exact r3, e3, fun q t hq ht => ?_⟩
    rw [aWr_o (by omega) (by omega)] at hq
    rw [e _ (by omega), aWr_o (by omega) (by omega)]
    exact r5 q t hq ht
  by_cases h30 : n = 30
  · subst h30
    refine ⟨upd (upd (va_cpy row row 5 4 29) 33 (nI ((S 10 * 8 + p) * 8 + c))) 3 (nI 30), ?_, core _ (fun i hi => ?_) ⟨30, by omega, upd_eq rfl⟩, fun hw => ?_⟩
    · have c0 : va_cpy row row 5 4 29 0 = row 0 := pk_cpy_out (by omega)
      simp (maxSteps := 1000000) (disch := omega) only [li, ob1_s, ob2_s, ob3_s, ob4_s, ob5_s, ob6_s, ob7_s, gA_n, gL_n, sA_n, sL_n, cpI_n, nI_add, pk_mul, nsub, nlt_t, nlt_f, nle_t, nle_f, neq_t, neq_f, rmI_n, dvI_n, upd_ne, upd_eq, un_ne, un_eq, Nat.add_zero, Bool.false_eq_true, ↓reduceIte, f_X1_write, f_X1_write_31, r4, c0, r1, ev]
    · rw [upd_ne (by omega), upd_ne (by omega)]; exact pk_cpy_out (by omega)
    · subst hw
      obtain ⟨b1, b2⟩ := hB rfl
      have hw30 : min (S 12) 30 = 30 := (neq (by omega) (by omega)).mp (b1.symm.trans r4)
      have h12 : 30 ≤ S 12 := by omega
      have u12 := aWr_12 S p c
      have hl := Nat.mod_lt (S 12) (show 0 < 7240 by omega)
      rw [u12]
      unfold BookT
      rw [Nat.min_eq_right (show 30 ≤ S 12 + 1 by omega)]
      refine ⟨upd_eq rfl, fun i hi => ?_⟩
      by_cases e : i = 29
      · subst e
        have hv : aWr true S p c (1522 + (S 12 + 1 - 30 + 29) % 7240) = (S 10 * 8 + p) * 8 + c := by
          show un (un S (1522 + S 12 % 7240) ((S 10 * 8 + p) * 8 + c)) 12 (S 12 + 1) _ = _
          rw [un_ne (by omega), un_eq (by omega)]
        rw [hv, upd_ne (by omega), upd_eq (by omega)]
      · have hv : aWr true S p c (1522 + (S 12 + 1 - 30 + i) % 7240) = S (1522 + (S 12 + 1 - 30 + i) % 7240) := by
          show un (un S (1522 + S 12 % 7240) ((S 10 * 8 + p) * 8 + c)) 12 (S 12 + 1) _ = _
          rw [un_ne (by omega), un_ne (by omega)]
        have g := b2 (i + 1) (by omega)
        rw [hw30] at g
        rw [hv, upd_ne (by omega), upd_ne (by omega), pk_cpy_in (by omega) (by omega), show 5 + (4 + i - 4) = 4 + (i + 1) by omega, g, show S 12 - 30 + (i + 1) = S 12 + 1 - 30 + i by omega]
  · refine ⟨upd (upd row (4 + n) (nI ((S 10 * 8 + p) * 8 + c))) 3 (nI (n + 1)), ?_, core _ (fun i hi => ?_) ⟨n + 1, by omega, upd_eq rfl⟩, fun hw => ?_⟩
    · simp (maxSteps := 1000000) (disch := omega) only [li, ob1_s, ob2_s, ob3_s, ob4_s, ob5_s, ob6_s, ob7_s, gA_n, gL_n, sA_n, sL_n, cpI_n, nI_add, pk_mul, nsub, nlt_t, nlt_f, nle_t, nle_f, neq_t, neq_f, rmI_n, dvI_n, upd_ne, upd_eq, un_ne, un_eq, Nat.add_zero, Bool.false_eq_true, ↓reduceIte, f_X1_write, f_X1_write_31, r4, r1, ev]
    · rw [upd_ne (by omega), upd_ne (by omega)]
    · subst hw
      obtain ⟨b1, b2⟩ := hB rfl
      have hn' : min (S 12) 30 = n := (neq (by omega) (by omega)).mp (b1.symm.trans r4)
      have h12 : S 12 = n := by omega
      have u12 := aWr_12 S p c
      rw [u12]
      unfold BookT
      rw [Nat.min_eq_left (show S 12 + 1 ≤ 30 by omega)]
      refine ⟨by rw [upd_eq rfl, h12], fun i hi => ?_⟩
      have z : S 12 + 1 - (S 12 + 1) + i = i := by omega
      rw [z]
      by_cases e : i = n
      · subst e
        have hv : aWr true S p c (1522 + i % 7240) = (S 10 * 8 + p) * 8 + c := by
          show un (un S (1522 + S 12 % 7240) ((S 10 * 8 + p) * 8 + c)) 12 (S 12 + 1) _ = _
          rw [un_ne (by omega), un_eq (by omega)]
        rw [hv, upd_ne (by omega), upd_eq rfl]
      · have hv : aWr true S p c (1522 + i % 7240) = S (1522 + i % 7240) := by
          show un (un S (1522 + S 12 % 7240) ((S 10 * 8 + p) * 8 + c)) 12 (S 12 + 1) _ = _
          rw [un_ne (by omega), un_ne (by omega)]
        have g := b2 i (by omega)
        rw [hn', h12, show n - n + i = i by omega] at g
        rw [hv, upd_ne (by omega), upd_ne (by omega)]
        exact g
theorem CR.cg {w : Bool} {row : Nat → Int32} {S T : Nat → Nat} (h : CR w row S) (h6 : S 1 ≤ 6) (e : ∀ i, i < 8762 → T i = S i) : CR w row T :=
  ⟨h.1.cg (fun i hi => e i (by omega)) h6, fun hw => by rw [e 12 (by omega)]; exact (h.2 hw).cg (fun i hi => e i (by omega))⟩
theorem Fra.cg {n : Nat} {S T U : Nat → Nat} (h : Fra n S T) (e : ∀ i, U i = T i) : Fra n S U := by
  have : U = T := funext e
  rw [this]; exact h
/-- what a deed writes leaves the kept steps as they are -/
theorem StepTs.fra {e n : Nat} {cnt next : Int32} {store : Nat → Int32} {S T : Nat → Nat} (h : StepTs e cnt next store S) (hf : Fra n S T) (hn : n ≤ e) (h6 : S 1 ≤ 6) : StepTs (e - n) cnt next store T := by
  obtain ⟨z1, z2, nx, z3, z4, z5⟩ := h
  obtain ⟨f1, f2, f3, f4, f5⟩ := hf
  have e4 : T 4 = S 4 := f1 4 (by omega)
  have e0 : T 0 = S 0 := f1 0 (by omega)
  have e1 : T 1 = S 1 := f1 1 (by omega)
  refine ⟨by rw [e4]; exact z1, by omega, nx, z3, z4, fun k hk => ?_⟩
  rw [e4] at hk ⊢
  obtain ⟨g1, g2, g3, g4⟩ := z5 k hk
  have eb : ∀ i, 142 ≤ i → i < 1522 → T i = S i := fun i h1 h2 => f1 i (by omega)
  rw [eb (145 + 46 * k) (by omega) (by omega)]
  refine ⟨?_, by omega, by omega, fun q h1 h2 => by rw [eb (145 + 46 * q) (by omega) (by omega)]; exact g4 q h1 h2⟩
  obtain ⟨s1, s2, s3, s4, s5, s6, s7, s8, s9⟩ := g1
  have b0 := eb (142 + 46 * k) (by omega) (by omega)
  have b1 := eb (142 + 46 * k + 1) (by omega) (by omega)
  have b2 := eb (142 + 46 * k + 2) (by omega) (by omega)
  have b3 := eb (142 + 46 * k + 3) (by omega) (by omega)
  refine ⟨by rw [b1]; exact s1, by rw [b2]; exact s2, by rw [b0]; exact s3, fun p q hp hq => ?_, by omega, by omega, by omega, fun p hp => ?_, ?_⟩
  · rw [eb _ (by omega) (by omega)]; exact s4 p q (by omega) hq
  · rw [e0, b1]
    exact (s8 p (by omega)).mn (Nat.le_refl _) (Nat.le_refl _) (fun q hq => eb _ (by omega) (by omega))
  · rw [b3]
    refine ⟨s9.1, fun i hi => ?_⟩
    have hm := Nat.min_le_right (S (142 + 46 * k + 3)) 30
    have hm2 := Nat.min_le_left (S (142 + 46 * k + 3)) 30
    have h145 : S (142 + 46 * k + 3) = S (145 + 46 * k) := congrArg S (by omega)
    rw [f5 _ (Nat.mod_lt _ (by omega)) (fun t ht1 ht2 => by omega)]
    exact s9.2 i hi
theorem FolkX.set {S : Nat → Nat} (h : FolkX S) {p k v : Nat} (hp : p < S 1) (hk : k < 7) (hv : (k = 0 → v < S 0) ∧ (k = 1 → v ≤ 9999) ∧ (k = 2 → v ≤ 9999) ∧ (k = 3 → v ≤ 4) ∧ (k = 4 → v ≤ 9) ∧ (k = 5 → v ≤ 9999) ∧ (k = 6 → v ≤ 3)) : FolkX (un S (14 + 11 * p + k) v) := by
  obtain ⟨w1, w2, w3, w4⟩ := h
  refine ⟨by rw [un_ne (by omega)]; exact w1, by rw [un_ne (by omega)]; exact w2, by rw [un_ne (by omega)]; exact w3, fun q hq => ?_⟩
  rw [un_ne (by omega)] at hq ⊢
  obtain ⟨p0, p1, p2, p3, p4, p5, p6⟩ := w4 q hq
  by_cases e : q = p
  · subst e
    rcases (show k = 0 ∨ k = 1 ∨ k = 2 ∨ k = 3 ∨ k = 4 ∨ k = 5 ∨ k = 6 by omega) with e | e | e | e | e | e | e <;> subst e
    all_goals refine ⟨?_, ?_, ?_, ?_, ?_, ?_, ?_⟩
    all_goals dsimp only
    all_goals first
      | (rw [un_eq rfl]; omega)
      | (rw [un_ne (by omega)]; assumption)
  · exact (w4 q hq).mn (Nat.le_refl _) (Nat.le_refl _) (fun t ht => un_ne (by omega))
theorem FolkX.cg {S T : Nat → Nat} (h : FolkX S) (e : ∀ i, i = 0 ∨ i = 1 ∨ i = 10 ∨ i = 11 ∨ (14 ≤ i ∧ i < 80) → T i = S i) : FolkX T := by
  obtain ⟨h1, h2, h3, h4⟩ := h
  have e0 : T 0 = S 0 := e 0 (by omega)
  have e1 : T 1 = S 1 := e 1 (by omega)
  have e10 : T 10 = S 10 := e 10 (by omega)
  have e11 : T 11 = S 11 := e 11 (by omega)
  refine ⟨by omega, by omega, by omega, fun p hp => (h4 p (by omega)).mn (by omega) (by omega) (fun k hk => e _ (by omega))⟩
theorem FolkX.wr {S : Nat → Nat} (h : FolkX S) (w : Bool) (p c : Nat) : FolkX (aWr w S p c) := h.cg (fun i hi => aWr_o (by omega) (by omega))
theorem aWr_f {w : Bool} (hw : w = false) (S : Nat → Nat) (p c : Nat) : aWr w S p c = S := by subst hw; rfl
