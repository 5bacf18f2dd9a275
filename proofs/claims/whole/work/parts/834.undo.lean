/-! the latest step taken back -/
def ux (S : Nat → Nat) : Nat := 142 + 46 * (S 4 - 1)
def pv (S : Nat → Nat) (p k : Nat) : Nat := if p < S (ux S) then S (ux S + 4 + 7 * p + k) else if k < 3 then S (14 + 11 * p + 8 + k) else 0
def ub (S : Nat → Nat) : Nat → Nat := fil (un S 4 (S 4 - 1)) 10 3 (fun k => S (ux S + 1 + k))
def udm (S : Nat → Nat) : Nat → Nat → Nat
  | 0 => ub S
  | m + 1 => fil (udm S m) (14 + 11 * m) 7 (pv S m)
theorem udm_o (S : Nat → Nat) {i : Nat} : ∀ m, (i < 14 ∨ 14 + 11 * m ≤ i ∨ ∃ p k, i = 14 + 11 * p + k ∧ 7 ≤ k ∧ k < 11) → udm S m i = ub S i := by
  intro m
  induction m with
  | zero => intro _; rfl
  | succ m ih =>
    intro h
    show fil (udm S m) (14 + 11 * m) 7 (pv S m) i = _
    rw [fil_out (by rcases h with h | h | ⟨p, k, h, h7, h11⟩ <;> omega)]
    apply ih
    rcases h with h | h | h
    · exact Or.inl h
    · exact Or.inr (Or.inl (by omega))
    · exact Or.inr (Or.inr h)
theorem udm_p (S : Nat → Nat) {p k : Nat} (hk : k < 7) : ∀ m, p < m → udm S m (14 + 11 * p + k) = pv S p k := by
  intro m
  induction m with
  | zero => intro h; omega
  | succ m ih =>
    intro h
    show fil (udm S m) (14 + 11 * m) 7 (pv S m) _ = _
    by_cases e : p = m
    · subst e
      rw [fil_in (by omega) (by omega)]; congr 1; omega
    · rw [fil_out (by omega)]; exact ih (by omega)
theorem ub_o {S : Nat → Nat} {i : Nat} (h : i ≠ 4) (h2 : i < 10 ∨ 13 ≤ i) : ub S i = S i := by
  unfold ub
  rw [fil_out (by omega), un_ne h]
theorem ub_k {S : Nat → Nat} {k : Nat} (h : k < 3) : ub S (10 + k) = S (ux S + 1 + k) := by
  unfold ub
  rw [fil_in (by omega) (by omega), show 10 + k - 10 = k by omega]
theorem rUndo {N : Nat} {a : Nat → Int32} {S : Nat → Nat} (hN : 10000 ≤ N) (hA : TieA a S) (h4 : 0 < S 4) (h30 : S 4 ≤ 30) (h6 : S 1 ≤ 6) (hx6 : S (ux S) ≤ 6) : ∃ a', f_X12_undo N a = some (nI (S 4 - 1), a') ∧ TieA a' (udm S (S 1)) := by
  have hux : ux S = 142 + 46 * (S 4 - 1) := rfl
  have hxl : ux S ≤ 1476 := by omega
  have hxg : 142 ≤ ux S := by omega
  have uo : ∀ m i, (i < 14 ∨ 80 ≤ i) → m ≤ 6 → udm S m i = ub S i := fun m i hi hm => udm_o S m (by omega)
  have in1 : ∀ r n p k (K : (Nat → Int32) → Int32 → Int32 → Option (Int32 × (Nat → Int32))) (a : Nat → Int32), k + r = 7 → r < n → p < S 1 → p < S (ux S) → TieA a (fil (udm S p) (14 + 11 * p) k (pv S p)) → ∃ a', f_X12_undo_96 N K n a (nI (ux S)) (nI p) (nI k) = K a' (nI (ux S)) (nI (p + 1)) ∧ TieA a' (udm S (p + 1)) := by
    intro r
    induction r with
    | zero =>
      intro n p k K a e hn hp hps h
      obtain ⟨n, rfl⟩ : ∃ m, n = m + 1 := ⟨n - 1, by omega⟩
      have e : k = 7 := by omega
      subst e
      exact ⟨a, by simp (maxSteps := 1000000) (disch := omega) only [li, ob1_s, ob2_s, ob3_s, ob4_s, ob5_s, ob6_s, ob7_s, gA_n, gL_n, sA_n, sL_n, cpI_n, nI_add, pk_mul, nsub, nlt_t, nlt_f, nle_t, nle_f, neq_t, neq_f, rmI_n, dvI_n, upd_ne, upd_eq, un_ne, un_eq, Nat.add_zero, Bool.false_eq_true, ↓reduceIte, f_X12_undo_96, f_X12_undo_139], h⟩
    | succ r ih =>
      intro n p k K a e hn hp hps h
      obtain ⟨n, rfl⟩ : ∃ m, n = m + 1 := ⟨n - 1, by omega⟩
      have hv : a (ux S + 4 + 7 * p + k) = nI (pv S p k) := by
        rw [h.2 _ (by omega) (by omega), fil_out (by omega), uo p _ (by omega) (by omega), ub_o (by omega) (by omega)]
        unfold pv
        rw [if_pos hps]
      have hv0 : a (ux S) = nI (S (ux S)) := by
        rw [h.2 _ (by omega) (by omega), fil_out (by omega), uo p _ (by omega) (by omega), ub_o (by omega) (by omega)]
      obtain ⟨a', g1, g2⟩ := ih n p (k + 1) K _ (by omega) (by omega) hp hps (h.fil (by omega))
      refine ⟨a', ?_, g2⟩
      simp (maxSteps := 1000000) (disch := omega) only [li, ob1_s, ob2_s, ob3_s, ob4_s, ob5_s, ob6_s, ob7_s, gA_n, gL_n, sA_n, sL_n, cpI_n, nI_add, pk_mul, nsub, nlt_t, nlt_f, nle_t, nle_f, neq_t, neq_f, rmI_n, dvI_n, upd_ne, upd_eq, un_ne, un_eq, Nat.add_zero, Bool.false_eq_true, ↓reduceIte, f_X12_undo_96, f_X12_undo_139, hv, hv0, rput]
      exact g1
  have out1 : ∀ r n p (a : Nat → Int32), p + r = S 1 → r < n → TieA a (udm S p) → ∃ a', f_X12_undo_69 N n a (nI (ux S)) (nI p) = some (nI (S 4 - 1), a') ∧ TieA a' (udm S (S 1)) := by
    intro r
    induction r with
    | zero =>
      intro n p a e hn h
      obtain ⟨n, rfl⟩ : ∃ m, n = m + 1 := ⟨n - 1, by omega⟩
      have e : p = S 1 := by omega
      have hv1 : a 1 = nI (S 1) := by rw [h.2 _ (by omega) (by omega), uo p _ (by omega) (by omega), ub_o (by omega) (by omega)]
      have hv4 : a 4 = nI (S 4 - 1) := by
        rw [h.2 _ (by omega) (by omega), uo p _ (by omega) (by omega)]
        unfold ub
        rw [fil_out (by omega), un_eq rfl]
      refine ⟨a, ?_, by rw [← e]; exact h⟩
      simp (maxSteps := 1000000) (disch := omega) only [li, ob1_s, ob2_s, ob3_s, ob4_s, ob5_s, ob6_s, ob7_s, gA_n, gL_n, sA_n, sL_n, cpI_n, nI_add, pk_mul, nsub, nlt_t, nlt_f, nle_t, nle_f, neq_t, neq_f, rmI_n, dvI_n, upd_ne, upd_eq, un_ne, un_eq, Nat.add_zero, Bool.false_eq_true, ↓reduceIte, f_X12_undo_69, hv1, hv4]
    | succ r ih =>
      intro n p a e hn h
      obtain ⟨n, rfl⟩ : ∃ m, n = m + 1 := ⟨n - 1, by omega⟩
      have hv1 : a 1 = nI (S 1) := by rw [h.2 _ (by omega) (by omega), uo p _ (by omega) (by omega), ub_o (by omega) (by omega)]
      have hv0 : a (ux S) = nI (S (ux S)) := by
        rw [h.2 _ (by omega) (by omega), uo p _ (by omega) (by omega), ub_o (by omega) (by omega)]
      by_cases hps : p < S (ux S)
      · obtain ⟨a1, g1, g2⟩ := in1 7 N p 0 (f_X12_undo_69 N n) a (by omega) (by omega) (by omega) hps (h.cg (fun i _ => fil_out (by omega)))
        obtain ⟨a2, g3, g4⟩ := ih n (p + 1) a1 (by omega) (by omega) g2
        refine ⟨a2, ?_, g4⟩
        simp (maxSteps := 1000000) (disch := omega) only [li, ob1_s, ob2_s, ob3_s, ob4_s, ob5_s, ob6_s, ob7_s, gA_n, gL_n, sA_n, sL_n, cpI_n, nI_add, pk_mul, nsub, nlt_t, nlt_f, nle_t, nle_f, neq_t, neq_f, rmI_n, dvI_n, upd_ne, upd_eq, un_ne, un_eq, Nat.add_zero, Bool.false_eq_true, ↓reduceIte, f_X12_undo_69, f_X12_undo_94, hv1, hv0, g1, g3]
      · obtain ⟨a1, g1, g2⟩ := rBegin (N := N) (p := p) h (by omega) (by omega)
        have g2' : TieA a1 (udm S (p + 1)) := g2.cg (fun i hi => by
          show fil (udm S p) (14 + 11 * p) 7 (pv S p) i = _
          by_cases c : 14 + 11 * p ≤ i ∧ i < 14 + 11 * p + 7
          · rw [fil_in c.1 c.2]
            unfold pv
            rw [if_neg hps]
            by_cases c3 : i - (14 + 11 * p) < 3
            · rw [if_pos c3, bgn_a c.1 (by omega), udm_o S p (by omega), ub_o (by omega) (by omega)]
              congr 1; omega
            · rw [if_neg c3, bgn_b (by omega) (by omega)]
          · rw [fil_out (by omega), bgn_o (by omega)])
        have hv0' : a1 (ux S) = nI (S (ux S)) := by
          rw [g2'.2 _ (by omega) (by omega), uo (p + 1) _ (by omega) (by omega), ub_o (by omega) (by omega)]
        obtain ⟨a2, g3, g4⟩ := ih n (p + 1) a1 (by omega) (by omega) g2'
        refine ⟨a2, ?_, g4⟩
        obtain ⟨N', hN'⟩ : ∃ m, N = m + 1 := ⟨N - 1, by omega⟩
        have u96 : ∀ K : (Nat → Int32) → Int32 → Int32 → Option (Int32 × (Nat → Int32)), f_X12_undo_96 N K N a1 (nI (ux S)) (nI p) (nI 0) = K a1 (nI (ux S)) (nI (p + 1)) := by
          intro K
          have : f_X12_undo_96 N K N a1 (nI (ux S)) (nI p) (nI 0) = f_X12_undo_96 N K (N' + 1) a1 (nI (ux S)) (nI p) (nI 0) := by rw [← hN']
          rw [this]
          simp (maxSteps := 1000000) (disch := omega) only [li, ob1_s, ob2_s, ob3_s, ob4_s, ob5_s, ob6_s, ob7_s, gA_n, gL_n, sA_n, sL_n, cpI_n, nI_add, pk_mul, nsub, nlt_t, nlt_f, nle_t, nle_f, neq_t, neq_f, rmI_n, dvI_n, upd_ne, upd_eq, un_ne, un_eq, Nat.add_zero, Bool.false_eq_true, ↓reduceIte, f_X12_undo_96, f_X12_undo_139, hv0']
        simp (maxSteps := 1000000) (disch := omega) only [li, ob1_s, ob2_s, ob3_s, ob4_s, ob5_s, ob6_s, ob7_s, gA_n, gL_n, sA_n, sL_n, cpI_n, nI_add, pk_mul, nsub, nlt_t, nlt_f, nle_t, nle_f, neq_t, neq_f, rmI_n, dvI_n, upd_ne, upd_eq, un_ne, un_eq, Nat.add_zero, Bool.false_eq_true, ↓reduceIte, f_X12_undo_69, f_X12_undo_94, hv1, hv0, g1, u96, g3]
  have mid : ∀ r n k (a : Nat → Int32), k + r = 3 → r < n → TieA a (fil (un S 4 (S 4 - 1)) 10 k (fun k => S (ux S + 1 + k))) → ∃ a', f_X12_undo_37 N n a (nI (ux S)) (nI k) = some (nI (S 4 - 1), a') ∧ TieA a' (udm S (S 1)) := by
    intro r
    induction r with
    | zero =>
      intro n k a e hn h
      obtain ⟨n, rfl⟩ : ∃ m, n = m + 1 := ⟨n - 1, by omega⟩
      have e : k = 3 := by omega
      subst e
      obtain ⟨a', g1, g2⟩ := out1 (S 1) N 0 a (by omega) (by omega) h
      exact ⟨a', by simp (maxSteps := 1000000) (disch := omega) only [li, ob1_s, ob2_s, ob3_s, ob4_s, ob5_s, ob6_s, ob7_s, gA_n, gL_n, sA_n, sL_n, cpI_n, nI_add, pk_mul, nsub, nlt_t, nlt_f, nle_t, nle_f, neq_t, neq_f, rmI_n, dvI_n, upd_ne, upd_eq, un_ne, un_eq, Nat.add_zero, Bool.false_eq_true, ↓reduceIte, f_X12_undo_37, g1], g2⟩
    | succ r ih =>
      intro n k a e hn h
      obtain ⟨n, rfl⟩ : ∃ m, n = m + 1 := ⟨n - 1, by omega⟩
      have hv : a (ux S + 1 + k) = nI (S (ux S + 1 + k)) := by rw [h.2 _ (by omega) (by omega), fil_out (by omega), un_ne (by omega)]
      obtain ⟨a', g1, g2⟩ := ih n (k + 1) _ (by omega) (by omega) (h.fil (by omega))
      refine ⟨a', ?_, g2⟩
      simp (maxSteps := 1000000) (disch := omega) only [li, ob1_s, ob2_s, ob3_s, ob4_s, ob5_s, ob6_s, ob7_s, gA_n, gL_n, sA_n, sL_n, cpI_n, nI_add, pk_mul, nsub, nlt_t, nlt_f, nle_t, nle_f, neq_t, neq_f, rmI_n, dvI_n, upd_ne, upd_eq, un_ne, un_eq, Nat.add_zero, Bool.false_eq_true, ↓reduceIte, f_X12_undo_37, hv]
      exact g1
  obtain ⟨a', g1, g2⟩ := mid 3 N 0 (upd a 4 (nI (S 4 - 1))) (by omega) (by omega) ((hA.up (by omega)).cg (fun i _ => fil_out (by omega)))
  refine ⟨a', ?_, g2⟩
  simp (maxSteps := 1000000) (disch := omega) only [li, ob1_s, ob2_s, ob3_s, ob4_s, ob5_s, ob6_s, ob7_s, gA_n, gL_n, sA_n, sL_n, cpI_n, nI_add, pk_mul, nsub, nlt_t, nlt_f, nle_t, nle_f, neq_t, neq_f, rmI_n, dvI_n, upd_ne, upd_eq, un_ne, un_eq, Nat.add_zero, Bool.false_eq_true, ↓reduceIte, f_X12_undo, hA.2]
  rw [← hux]
  exact g1
theorem cUndo {N nx : Nat} {row fe to store : Nat → Int32} {cnt : Int32} {S : Nat → Nat} (hN : 100 ≤ N) (hZ : StepT cnt (nI nx) store S) (hn : nx < 31) (hR : RowC row S) (hW : FolkW S) (hF : FearT fe to S) (h4 : 0 < S 4) : ∃ row', f_X7_takeBack N cnt (nI nx) store row to = some (nI (S 4 - 1), nI (S 4 - 1), nI ((nx + 30) % 31), row') ∧ RowC row' (udm S (S 1)) ∧ BookT row' S (S (ux S + 3)) := by
  obtain ⟨z1, z2, n2, z3, z4, z5⟩ := hZ
  have : nx = n2 := (neq (by omega) (by omega)).mp z4
  subst this
  subst z1
  have hux : ux S = 142 + 46 * (S 4 - 1) := rfl
  have w1 := hW.1
  obtain ⟨⟨s1, s2, s3, s4, s5, s6, s7, s8, s9⟩, g2, g3, g4⟩ := z5 (S 4 - 1) (by omega)
  have es : slot nx (S 4) (S 4 - 1) = (nx + 30) % 31 := by unfold slot; omega
  rw [es, ← hux] at s1 s2 s3 s4 s9
  rw [← hux] at s5 s6 s7
  have hsl : (nx + 30) % 31 < 31 := Nat.mod_lt _ (by omega)
  generalize hq : (nx + 30) % 31 = q at *
  have hc : ∀ i, i < 76 → va_cpy store row (76 * q) 0 76 i = store (76 * q + i) := fun i hi => by rw [pk_cpy_in (by omega) (by omega)]; congr 1
  have uo : ∀ i, (i < 14 ∨ 80 ≤ i) → udm S (S 1) i = ub S i := fun i hi => udm_o S (S 1) (by omega)
  have key : ∀ r n p (rw_ : Nat → Int32), p + r = S 1 → r < n → S (ux S) ≤ p → rw_ 0 = nI (S (ux S + 1)) → rw_ 1 = nI (S (ux S + 2)) → rw_ 2 = nI (S 1) → BookT rw_ S (S (ux S + 3)) → (∀ t k, t < p → k < 7 → rw_ (34 + 7 * t + k) = nI (pv S t k)) → ∃ row', f_X1_takeFrom_53 N n rw_ to store (nI (S 1)) (nI p) = some row' ∧ RowC row' (udm S (S 1)) ∧ BookT row' S (S (ux S + 3)) := by
    intro r
    induction r with
    | zero =>
      intro n p rw_ e hn hle i0 i1 i2 iB iP
      obtain ⟨n, rfl⟩ : ∃ m, n = m + 1 := ⟨n - 1, by omega⟩
      have e : p = S 1 := by omega
      refine ⟨rw_, by simp (maxSteps := 1000000) (disch := omega) only [li, ob1_s, ob2_s, ob3_s, ob4_s, ob5_s, ob6_s, ob7_s, gA_n, gL_n, sA_n, sL_n, cpI_n, nI_add, pk_mul, nsub, nlt_t, nlt_f, nle_t, nle_f, neq_t, neq_f, rmI_n, dvI_n, upd_ne, upd_eq, un_ne, un_eq, Nat.add_zero, Bool.false_eq_true, ↓reduceIte, f_X1_takeFrom_53], ⟨?_, ?_, ?_, ⟨_, Nat.min_le_right _ _, iB.1⟩, fun t k ht hk => ?_⟩, iB⟩
      · rw [uo 10 (by omega), show (10 : Nat) = 10 + 0 from rfl, ub_k (by omega)]; exact i0
      · rw [uo 11 (by omega), show (11 : Nat) = 10 + 1 from rfl, ub_k (by omega)]; exact i1
      · rw [uo 1 (by omega), ub_o (by omega) (by omega)]; exact i2
      · rw [uo 1 (by omega), ub_o (by omega) (by omega)] at ht
        rw [udm_p S hk (S 1) ht]; exact iP t k (by omega) hk
    | succ r ih =>
      intro n p rw_ e hn hle i0 i1 i2 iB iP
      obtain ⟨n, rfl⟩ : ∃ m, n = m + 1 := ⟨n - 1, by omega⟩
      obtain ⟨rw2, k1, k2, k3, k4, k5, k6⟩ := cSettle (N := N) (to := to) i2 w1 (show p < S 1 by omega)
      obtain ⟨f1, f2, f3, f4, f5, f6, f7, f8⟩ := hF p (by omega)
      have hm := Nat.min_le_right (S (ux S + 3)) 30
      have pvn : ∀ k, pv S p k = if k < 3 then S (14 + 11 * p + 8 + k) else 0 := fun k => by unfold pv; rw [if_neg (by omega)]
      obtain ⟨row', g1, g2⟩ := ih n (p + 1) rw2 (by omega) (by omega) (by omega) (by rw [k2 0 (by omega)]; exact i0) (by rw [k2 1 (by omega)]; exact i1) (by rw [k2 2 (by omega)]; exact i2) ⟨by rw [k2 3 (by omega)]; exact iB.1, fun i hi => by rw [k2 _ (by omega)]; exact iB.2 i hi⟩ (fun t k ht hk => by
        by_cases et : t = p
        · subst et
          rw [pvn]
          rcases (show k = 0 ∨ k = 1 ∨ k = 2 ∨ 3 ≤ k by omega) with e | e | e | e
          · subst e; rw [k3, f3, if_pos (by omega)]
          · subst e; rw [k4, f5, if_pos (by omega)]
          · subst e; rw [k5, f7, if_pos (by omega)]
          · rw [k6 k e hk, if_neg (by omega)]
        · rw [k2 _ (by omega)]; exact iP t k (by omega) hk)
      refine ⟨row', ?_, g2⟩
      simp (maxSteps := 1000000) (disch := omega) only [li, ob1_s, ob2_s, ob3_s, ob4_s, ob5_s, ob6_s, ob7_s, gA_n, gL_n, sA_n, sL_n, cpI_n, nI_add, pk_mul, nsub, nlt_t, nlt_f, nle_t, nle_f, neq_t, neq_f, rmI_n, dvI_n, upd_ne, upd_eq, un_ne, un_eq, Nat.add_zero, Bool.false_eq_true, ↓reduceIte, f_X1_takeFrom_53, k1]
      exact g1
  have hm := Nat.min_le_right (S (ux S + 3)) 30
  obtain ⟨row', g1, g2⟩ := key (S 1 - S (ux S)) N (S (ux S)) (upd (va_cpy store row (76 * q) 0 76) 2 (nI (S 1))) (by omega) (by omega) (Nat.le_refl _) (by rw [upd_ne (by omega), hc 0 (by omega)]; exact s1) (by rw [upd_ne (by omega), hc 1 (by omega)]; exact s2) (upd_eq rfl) ⟨by rw [upd_ne (by omega), hc 3 (by omega)]; exact s9.1, fun i hi => by rw [upd_ne (by omega), hc _ (by omega)]; exact s9.2 i hi⟩ (fun t k ht hk => by
    rw [upd_ne (by omega), hc _ (by omega)]
    unfold pv
    rw [if_pos ht]
    exact s4 t k ht hk)
  refine ⟨row', ?_, g2⟩
  have e76 : q * 76 = 76 * q := Nat.mul_comm _ _
  have c2 : va_cpy store row (76 * q) 0 76 2 = nI (S (ux S)) := by rw [hc 2 (by omega)]; exact s3
  have en : nx + 31 - 1 = nx + 30 := by omega
  simp (maxSteps := 1000000) (disch := omega) only [li, ob1_s, ob2_s, ob3_s, ob4_s, ob5_s, ob6_s, ob7_s, gA_n, gL_n, sA_n, sL_n, cpI_n, nI_add, pk_mul, nsub, nlt_t, nlt_f, nle_t, nle_f, neq_t, neq_f, rmI_n, dvI_n, upd_ne, upd_eq, un_ne, un_eq, Nat.add_zero, Bool.false_eq_true, ↓reduceIte, f_X7_takeBack, f_X1_takeFrom, f_X1_count, en, hq, e76, hR.2.2.1, c2, mxI, g1]
theorem st_undo {j : Nat} {dn : Int32} {df dr row fe to : Nat → Int32} {cnt next : Int32} {store : Nat → Int32} {calls bord rep unl pay : Int32} {cl ul ga py pr : Nat → Int32} {tx rul : Int32} {a : Nat → Int32} {S : Nat → Nat} {N : Nat} (hN : 10000 ≤ N) (h : RealmT j dn df dr row fe to cnt next store calls bord rep unl pay cl ul ga py pr tx rul a S) :
    ∃ (r : Int32) (row' : Nat → Int32) (cnt' next' : Int32) (a' : Nat → Int32) (S' : Nat → Nat), f_X11_undo N row to cnt next store = some (r, row', cnt', next') ∧ f_X12_undo N a = some (r, a') ∧ RealmT (j + 1) dn df dr row' fe to cnt' next' store calls bord rep unl pay cl ul ga py pr tx rul a' S' ∧ S' 2 = S 2 := by
  have h0 := h
  obtain ⟨hA, hL, hR, hW, hF, hB, hZ, hQ, hI, hj⟩ := h
  obtain ⟨z1, z2, nx, z3, z4, z5⟩ := id hZ
  have w1 := hW.1
  rcases Nat.eq_zero_or_pos (S 4) with e4 | e4
  · refine ⟨-nI 1, row, cnt, next, a, S, ?_, ?_, h0.later, rfl⟩
    · rw [z1, e4]
      simp (maxSteps := 1000000) (disch := omega) only [li, ob1_s, ob2_s, ob3_s, ob4_s, ob5_s, ob6_s, ob7_s, gA_n, gL_n, sA_n, sL_n, cpI_n, nI_add, pk_mul, nsub, nlt_t, nlt_f, nle_t, nle_f, neq_t, neq_f, rmI_n, dvI_n, upd_ne, upd_eq, un_ne, un_eq, Nat.add_zero, Bool.false_eq_true, ↓reduceIte, f_X11_undo, f_X7_takeBack]
    · simp (maxSteps := 1000000) (disch := omega) only [li, ob1_s, ob2_s, ob3_s, ob4_s, ob5_s, ob6_s, ob7_s, gA_n, gL_n, sA_n, sL_n, cpI_n, nI_add, pk_mul, nsub, nlt_t, nlt_f, nle_t, nle_f, neq_t, neq_f, rmI_n, dvI_n, upd_ne, upd_eq, un_ne, un_eq, Nat.add_zero, Bool.false_eq_true, ↓reduceIte, f_X12_undo, hA.2, e4]
  · obtain ⟨⟨s1, s2, s3, s4, s5, s6, s7, s8, s9⟩, g2, g3, g4⟩ := z5 (S 4 - 1) (by omega)
    have hux : ux S = 142 + 46 * (S 4 - 1) := rfl
    rw [← hux] at s5 s6 s7
    subst z4
    obtain ⟨a', k1, k2⟩ := rUndo hN hA e4 z2 w1 (by omega)
    obtain ⟨row', k3, k4, k5⟩ := cUndo (N := N) (by omega) hZ z3 hR hW hF e4
    have uo : ∀ i, (i < 14 ∨ 80 ≤ i) → udm S (S 1) i = ub S i := fun i hi => udm_o S (S 1) (by omega)
    have e : ∀ i, i ≠ 4 → i < 10 ∨ 80 ≤ i → udm S (S 1) i = S i := fun i h4 hi => by rw [uo i (by omega), ub_o h4 (by omega)]
    have e0 : udm S (S 1) 0 = S 0 := e 0 (by omega) (by omega)
    have e1 : udm S (S 1) 1 = S 1 := e 1 (by omega) (by omega)
    have e4' : udm S (S 1) 4 = S 4 - 1 := by
      rw [uo 4 (by omega)]
      unfold ub
      rw [fil_out (by omega), un_eq rfl]
    have e10 : udm S (S 1) 10 = S (ux S + 1) := by rw [uo 10 (by omega), show (10 : Nat) = 10 + 0 from rfl, ub_k (by omega)]
    have e11 : udm S (S 1) 11 = S (ux S + 2) := by rw [uo 11 (by omega), show (11 : Nat) = 10 + 1 from rfl, ub_k (by omega)]
    have e12 : udm S (S 1) 12 = S (ux S + 3) := by rw [uo 12 (by omega), show (12 : Nat) = 10 + 2 from rfl, ub_k (by omega)]
    have w145 : S (145 + 46 * (S 4 - 1)) = S (ux S + 3) := congrArg S (by omega)
    have ef : ∀ p k, p < 6 → 7 ≤ k → k < 11 → udm S (S 1) (14 + 11 * p + k) = S (14 + 11 * p + k) := fun p k hp h7 h11 => by
      rw [udm_o S (S 1) (Or.inr (Or.inr ⟨p, k, rfl, h7, h11⟩)), ub_o (by omega) (by omega)]
    refine ⟨nI (S 4 - 1), row', _, _, a', udm S (S 1), ?_, k1, ⟨k2, hL.cg (fun i hi => e i (by omega) (by omega)), k4, ⟨by omega, by omega, by omega, fun p hp => ?_⟩, fun p hp => ?_, ?_, ⟨by rw [e4'], by omega, (nx + 30) % 31, Nat.mod_lt _ (by omega), rfl, fun k hk => ?_⟩, hQ.cg (fun i hi => e i (by omega) (by omega)) (by omega) (by omega), hI.cg (fun i hi => e i (by omega) (by omega)), by omega⟩, e 2 (by omega) (by omega)⟩
    · simp only [f_X11_undo, k3, ob4_s]
    · rw [e1] at hp
      rw [e0, e10]
      by_cases hps : p < S (ux S)
      · exact (s8 p hps).mn (Nat.le_refl _) (Nat.le_refl _) (fun k hk => by
          show udm S (S 1) (14 + 11 * p + k) = _
          rw [udm_p S hk (S 1) hp]
          unfold pv
          rw [if_pos hps]
          rfl)
      · obtain ⟨f1, f2, f3, f4, f5, f6, f7, f8⟩ := hF p hp
        have pvn : ∀ k, k < 7 → udm S (S 1) (14 + 11 * p + k) = if k < 3 then S (14 + 11 * p + 8 + k) else 0 := fun k hk => by
          rw [udm_p S hk (S 1) hp]; unfold pv; rw [if_neg (by omega)]
        have q0 : _ = if 0 < 3 then S (14 + 11 * p + 8) else 0 := pvn 0 (by omega)
        have q1 : _ = if 1 < 3 then S (14 + 11 * p + 9) else 0 := pvn 1 (by omega)
        have q2 : _ = if 2 < 3 then S (14 + 11 * p + 10) else 0 := pvn 2 (by omega)
        have q3 := pvn 3 (by omega); have q4 := pvn 4 (by omega); have q5 := pvn 5 (by omega); have q6 := pvn 6 (by omega)
        rw [if_pos (by omega)] at q0 q1 q2
        rw [if_neg (by omega)] at q3 q4 q5 q6
        refine ⟨?_, ?_, ?_, ?_, ?_, ?_, ?_⟩ <;> dsimp only <;> omega
    · rw [e1] at hp
      rw [ef p 7 (by omega) (by omega) (by omega), ef p 8 (by omega) (by omega) (by omega), ef p 9 (by omega) (by omega) (by omega), ef p 10 (by omega) (by omega) (by omega), e0]
      exact hF p hp
    · rw [e12]
      exact k5.cg (fun i hi => e i (by omega) (by omega))
    · rw [e4'] at hk
      obtain ⟨t1, t2, t3, t4⟩ := z5 k (by omega)
      have es : slot ((nx + 30) % 31) (udm S (S 1) 4) k = slot nx (S 4) k := by rw [e4']; unfold slot; omega
      have t6 := t1.2.2.2.2.1
      have t5 := t4 (S 4 - 1) (by omega) (by omega)
      rw [es, e4', e12, e (145 + 46 * k) (by omega) (by omega)]
      rw [w145] at t5
      refine ⟨t1.cg (by omega) (fun i h1 h2 => e i (by omega) (by omega)) (fun i hi => e i (by omega) (by omega)) (by omega) (by omega), t5.1, by omega, fun q h1 h2 => ?_⟩
      rw [e (145 + 46 * q) (by omega) (by omega)]
      exact t4 q h1 (by omega)
