/-! a step written down ahead of a deed -/
def fil (S : Nat → Nat) (lo n : Nat) (g : Nat → Nat) : Nat → Nat := fun i => if lo ≤ i ∧ i < lo + n then g (i - lo) else S i
theorem fil_in {S g : Nat → Nat} {lo n i : Nat} (h : lo ≤ i) (h2 : i < lo + n) : fil S lo n g i = g (i - lo) := if_pos ⟨h, h2⟩
theorem fil_out {S g : Nat → Nat} {lo n i : Nat} (h : i < lo ∨ lo + n ≤ i) : fil S lo n g i = S i := if_neg (by omega)
theorem TieA.fil {a : Nat → Int32} {S g : Nat → Nat} {lo n : Nat} (h : TieA a (fil S lo n g)) (h3 : lo + n ≠ 3) : TieA (upd a (lo + n) (nI (g n))) (fil S lo (n + 1) g) := by
  refine (h.up h3).cg (fun i hi => ?_)
  by_cases e : i = lo + n
  · rw [un_eq e, fil_in (by omega) (by omega)]; congr 1; omega
  · rw [un_ne e]
    by_cases h1 : lo ≤ i ∧ i < lo + n
    · rw [fil_in h1.1 h1.2, fil_in h1.1 (by omega)]
    · rw [fil_out (by omega), fil_out (by omega)]
def stp (S : Nat → Nat) (d : Nat) : Nat := if d = 0 then S 1 else if d < 4 then S (9 + d) else S (14 + 11 * ((d - 4) / 7) + (d - 4) % 7)
theorem stp_p (S : Nat → Nat) {p k : Nat} (hk : k < 7) : stp S (4 + 7 * p + k) = S (14 + 11 * p + k) := by
  unfold stp
  rw [if_neg (by omega), if_neg (by omega), show (4 + 7 * p + k - 4) / 7 = p by omega, show (4 + 7 * p + k - 4) % 7 = k by omega]
theorem stp_0 (S : Nat → Nat) : stp S 0 = S 1 := rfl
theorem stp_k (S : Nat → Nat) {k : Nat} (hk : k < 3) : stp S (1 + k) = S (10 + k) := by
  unfold stp
  rw [if_neg (by omega), if_pos (by omega), show 9 + (1 + k) = 10 + k by omega]
def kc (S : Nat → Nat) : Nat := if S 4 = 30 then 29 else S 4
def kpS (S : Nat → Nat) : Nat → Nat := fun i =>
  if i = 4 then kc S + 1
  else if i < 142 ∨ 1522 ≤ i then S i
  else if i < 142 + 46 * kc S then (if S 4 = 30 then S (i + 46) else S i)
  else if i < 142 + 46 * kc S + 46 then stp S (i - (142 + 46 * kc S))
  else S i
theorem kp_4 (S : Nat → Nat) : kpS S 4 = kc S + 1 := rfl
theorem kp_o {S : Nat → Nat} {i : Nat} (h : i < 142 ∨ 1522 ≤ i) (h4 : i ≠ 4) : kpS S i = S i := by
  unfold kpS
  rw [if_neg h4, if_pos h]
theorem kp_n {S : Nat → Nat} {d : Nat} (hc : kc S < 30) (h : d < 46) : kpS S (142 + 46 * kc S + d) = stp S d := by
  unfold kpS
  rw [if_neg (by omega), if_neg (by omega), if_neg (by omega), if_pos (by omega), show 142 + 46 * kc S + d - (142 + 46 * kc S) = d by omega]
theorem kp_a {S : Nat → Nat} {k d : Nat} (h30 : S 4 < 30) (hk : k < S 4) (h : d < 46) : kpS S (142 + 46 * k + d) = S (142 + 46 * k + d) := by
  have e : kc S = S 4 := if_neg (by omega)
  unfold kpS
  rw [if_neg (by omega), if_neg (by omega), if_pos (by omega), if_neg (by omega)]
theorem kp_b {S : Nat → Nat} {k d : Nat} (h30 : S 4 = 30) (hk : k < 29) (h : d < 46) : kpS S (142 + 46 * k + d) = S (142 + 46 * (k + 1) + d) := by
  have e : kc S = 29 := if_pos h30
  unfold kpS
  rw [if_neg (by omega), if_neg (by omega), if_pos (by omega), if_pos h30]
  congr 1; omega
theorem rKeep56 {N : Nat} {a : Nat → Int32} {S : Nat → Nat} (hN : 10000 ≤ N) (hA : TieA a S) (hc : S 4 < 30) : ∃ a', f_X12_keep_56 N a = some a' ∧ TieA a' (un (fil S (142 + 46 * S 4) 46 (stp S)) 4 (S 4 + 1)) := by
  generalize hx : 142 + 46 * S 4 = x
  have in1 : ∀ r n p k (K : (Nat → Int32) → Int32 → Int32 → Option (Nat → Int32)) (a : Nat → Int32), k + r = 7 → r < n → p < 6 → TieA a (fil S x (4 + 7 * p + k) (stp S)) → ∃ a', f_X12_keep_124 N K n a (nI x) (nI p) (nI k) = K a' (nI x) (nI (p + 1)) ∧ TieA a' (fil S x (4 + 7 * (p + 1) + 0) (stp S)) := by
    intro r
    induction r with
    | zero =>
      intro n p k K a e hn hp h
      obtain ⟨n, rfl⟩ : ∃ m, n = m + 1 := ⟨n - 1, by omega⟩
      have e : k = 7 := by omega
      subst e
      exact ⟨a, by simp (maxSteps := 1000000) (disch := omega) only [li, ob1_s, ob2_s, ob3_s, ob4_s, ob5_s, ob6_s, ob7_s, gA_n, gL_n, sA_n, sL_n, cpI_n, nI_add, pk_mul, nsub, nlt_t, nlt_f, nle_t, nle_f, neq_t, neq_f, rmI_n, dvI_n, upd_ne, upd_eq, un_ne, un_eq, Nat.add_zero, Bool.false_eq_true, ↓reduceIte, f_X12_keep_124], by rw [show 4 + 7 * (p + 1) + 0 = 4 + 7 * p + 7 by omega]; exact h⟩
    | succ r ih =>
      intro n p k K a e hn hp h
      obtain ⟨n, rfl⟩ : ∃ m, n = m + 1 := ⟨n - 1, by omega⟩
      have hv : a (14 + 11 * p + k) = nI (stp S (4 + 7 * p + k)) := by rw [h.2 _ (by omega) (by omega), fil_out (by omega), stp_p S (by omega)]
      have h2 := h.fil (by omega)
      obtain ⟨a', g1, g2⟩ := ih n p (k + 1) K _ (by omega) (by omega) hp h2
      refine ⟨a', ?_, g2⟩
      have ex : x + 4 + 7 * p + k = x + (4 + 7 * p + k) := by omega
      simp (maxSteps := 1000000) (disch := omega) only [li, ob1_s, ob2_s, ob3_s, ob4_s, ob5_s, ob6_s, ob7_s, gA_n, gL_n, sA_n, sL_n, cpI_n, nI_add, pk_mul, nsub, nlt_t, nlt_f, nle_t, nle_f, neq_t, neq_f, rmI_n, dvI_n, upd_ne, upd_eq, un_ne, un_eq, Nat.add_zero, Bool.false_eq_true, ↓reduceIte, f_X12_keep_124, f_X12_get, hv, ex]
      exact g1
  have out1 : ∀ r n p (a : Nat → Int32), p + r = 6 → r < n → TieA a (fil S x (4 + 7 * p + 0) (stp S)) → ∃ a', f_X12_keep_116 N n a (nI x) (nI p) = some a' ∧ TieA a' (un (fil S x 46 (stp S)) 4 (S 4 + 1)) := by
    intro r
    induction r with
    | zero =>
      intro n p a e hn h
      obtain ⟨n, rfl⟩ : ∃ m, n = m + 1 := ⟨n - 1, by omega⟩
      have e : p = 6 := by omega
      subst e
      have hv : a 4 = nI (S 4) := by rw [h.2 _ (by omega) (by omega), fil_out (by omega)]
      exact ⟨upd a 4 (nI (S 4 + 1)), by simp (maxSteps := 1000000) (disch := omega) only [li, ob1_s, ob2_s, ob3_s, ob4_s, ob5_s, ob6_s, ob7_s, gA_n, gL_n, sA_n, sL_n, cpI_n, nI_add, pk_mul, nsub, nlt_t, nlt_f, nle_t, nle_f, neq_t, neq_f, rmI_n, dvI_n, upd_ne, upd_eq, un_ne, un_eq, Nat.add_zero, Bool.false_eq_true, ↓reduceIte, f_X12_keep_116, hv], h.up (by omega)⟩
    | succ r ih =>
      intro n p a e hn h
      obtain ⟨n, rfl⟩ : ∃ m, n = m + 1 := ⟨n - 1, by omega⟩
      obtain ⟨a1, g1, g2⟩ := in1 7 N p 0 (f_X12_keep_116 N n) a (by omega) (by omega) (by omega) h
      obtain ⟨a2, g3, g4⟩ := ih n (p + 1) a1 (by omega) (by omega) g2
      refine ⟨a2, ?_, g4⟩
      simp (maxSteps := 1000000) (disch := omega) only [li, ob1_s, ob2_s, ob3_s, ob4_s, ob5_s, ob6_s, ob7_s, gA_n, gL_n, sA_n, sL_n, cpI_n, nI_add, pk_mul, nsub, nlt_t, nlt_f, nle_t, nle_f, neq_t, neq_f, rmI_n, dvI_n, upd_ne, upd_eq, un_ne, un_eq, Nat.add_zero, Bool.false_eq_true, ↓reduceIte, f_X12_keep_116, g1, g3]
  have mid : ∀ r n k (a : Nat → Int32), k + r = 3 → r < n → TieA a (fil S x (1 + k) (stp S)) → ∃ a', f_X12_keep_84 N n a (nI x) (nI k) = some a' ∧ TieA a' (un (fil S x 46 (stp S)) 4 (S 4 + 1)) := by
    intro r
    induction r with
    | zero =>
      intro n k a e hn h
      obtain ⟨n, rfl⟩ : ∃ m, n = m + 1 := ⟨n - 1, by omega⟩
      have e : k = 3 := by omega
      subst e
      obtain ⟨a', g1, g2⟩ := out1 6 N 0 a (by omega) (by omega) h
      exact ⟨a', by simp (maxSteps := 1000000) (disch := omega) only [li, ob1_s, ob2_s, ob3_s, ob4_s, ob5_s, ob6_s, ob7_s, gA_n, gL_n, sA_n, sL_n, cpI_n, nI_add, pk_mul, nsub, nlt_t, nlt_f, nle_t, nle_f, neq_t, neq_f, rmI_n, dvI_n, upd_ne, upd_eq, un_ne, un_eq, Nat.add_zero, Bool.false_eq_true, ↓reduceIte, f_X12_keep_84, g1], g2⟩
    | succ r ih =>
      intro n k a e hn h
      obtain ⟨n, rfl⟩ : ∃ m, n = m + 1 := ⟨n - 1, by omega⟩
      have hv : a (10 + k) = nI (stp S (1 + k)) := by rw [h.2 _ (by omega) (by omega), fil_out (by omega), stp_k S (by omega)]
      have h2 := h.fil (by omega)
      obtain ⟨a', g1, g2⟩ := ih n (k + 1) _ (by omega) (by omega) h2
      refine ⟨a', ?_, g2⟩
      have ex : x + 1 + k = x + (1 + k) := by omega
      simp (maxSteps := 1000000) (disch := omega) only [li, ob1_s, ob2_s, ob3_s, ob4_s, ob5_s, ob6_s, ob7_s, gA_n, gL_n, sA_n, sL_n, cpI_n, nI_add, pk_mul, nsub, nlt_t, nlt_f, nle_t, nle_f, neq_t, neq_f, rmI_n, dvI_n, upd_ne, upd_eq, un_ne, un_eq, Nat.add_zero, Bool.false_eq_true, ↓reduceIte, f_X12_keep_84, hv, ex]
      exact g1
  have h0 : TieA a (fil S x 0 (stp S)) := hA.cg (fun i _ => fil_out (by omega))
  have h1 := h0.fil (by omega)
  rw [stp_0] at h1
  obtain ⟨a', g1, g2⟩ := mid 3 N 0 _ (by omega) (by omega) h1
  refine ⟨a', ?_, g2⟩
  simp (maxSteps := 1000000) (disch := omega) only [li, ob1_s, ob2_s, ob3_s, ob4_s, ob5_s, ob6_s, ob7_s, gA_n, gL_n, sA_n, sL_n, cpI_n, nI_add, pk_mul, nsub, nlt_t, nlt_f, nle_t, nle_f, neq_t, neq_f, rmI_n, dvI_n, upd_ne, upd_eq, un_ne, un_eq, Nat.add_zero, Bool.false_eq_true, ↓reduceIte, f_X12_keep_56, hA.2, hx]
  exact g1
theorem rKeep {N : Nat} {a : Nat → Int32} {S : Nat → Nat} (hN : 10000 ≤ N) (hA : TieA a S) (hc : S 4 ≤ 30) : ∃ a', f_X12_keep N a = some a' ∧ TieA a' (kpS S) := by
  by_cases h30 : S 4 = 30
  · have key : ∀ r n k (a : Nat → Int32), k + r = 1334 → r < n → TieA a (fil S 142 k (fun d => S (188 + d))) → ∃ a', f_X12_keep_13 N n a (nI k) = some a' ∧ TieA a' (kpS S) := by
      intro r
      induction r with
      | zero =>
        intro n k a e hn h
        obtain ⟨n, rfl⟩ : ∃ m, n = m + 1 := ⟨n - 1, by omega⟩
        have e : k = 1334 := by omega
        subst e
        have hv : a 4 = nI 30 := by rw [h.2 _ (by omega) (by omega), fil_out (by omega), h30]
        have h2 := h.up (i := 4) (v := 29) (by omega)
        obtain ⟨a', g1, g2⟩ := rKeep56 hN h2 (by rw [un_eq rfl]; omega)
        refine ⟨a', ?_, g2.cg (fun i hi => ?_)⟩
        · simp (maxSteps := 1000000) (disch := omega) only [li, ob1_s, ob2_s, ob3_s, ob4_s, ob5_s, ob6_s, ob7_s, gA_n, gL_n, sA_n, sL_n, cpI_n, nI_add, pk_mul, nsub, nlt_t, nlt_f, nle_t, nle_f, neq_t, neq_f, rmI_n, dvI_n, upd_ne, upd_eq, un_ne, un_eq, Nat.add_zero, Bool.false_eq_true, ↓reduceIte, f_X12_keep_13, hv, g1]
        · have ek : kc S = 29 := if_pos h30
          have u4 : un (fil S 142 1334 (fun d => S (188 + d))) 4 29 4 = 29 := un_eq rfl
          unfold kpS
          rw [u4, ek]
          by_cases e4 : i = 4
          · rw [if_pos e4, un_eq e4]
          · rw [if_neg e4, un_ne e4]
            by_cases c1 : i < 142 ∨ 1522 ≤ i
            · rw [if_pos c1, fil_out (by omega), un_ne e4, fil_out (by omega)]
            · rw [if_neg c1]
              by_cases c2 : i < 142 + 46 * 29
              · rw [if_pos c2, if_pos h30, fil_out (by omega), un_ne e4, fil_in (by omega) (by omega)]
                exact congrArg S (show i + 46 = 188 + (i - 142) by omega)
              · rw [if_neg c2, if_pos (by omega), fil_in (by omega) (by omega)]
                generalize hd : i - (142 + 46 * 29) = d
                unfold stp
                by_cases d0 : d = 0
                · rw [if_pos d0, if_pos d0, un_ne (by omega), fil_out (by omega)]
                · rw [if_neg d0, if_neg d0]
                  by_cases d4 : d < 4
                  · rw [if_pos d4, if_pos d4, un_ne (by omega), fil_out (by omega)]
                  · rw [if_neg d4, if_neg d4, un_ne (by omega), fil_out (by omega)]
      | succ r ih =>
        intro n k a e hn h
        obtain ⟨n, rfl⟩ : ∃ m, n = m + 1 := ⟨n - 1, by omega⟩
        have hv : a (188 + k) = nI (S (188 + k)) := by rw [h.2 _ (by omega) (by omega), fil_out (by omega)]
        obtain ⟨a', g1, g2⟩ := ih n (k + 1) _ (by omega) (by omega) (h.fil (by omega))
        refine ⟨a', ?_, g2⟩
        simp (maxSteps := 1000000) (disch := omega) only [li, ob1_s, ob2_s, ob3_s, ob4_s, ob5_s, ob6_s, ob7_s, gA_n, gL_n, sA_n, sL_n, cpI_n, nI_add, pk_mul, nsub, nlt_t, nlt_f, nle_t, nle_f, neq_t, neq_f, rmI_n, dvI_n, upd_ne, upd_eq, un_ne, un_eq, Nat.add_zero, Bool.false_eq_true, ↓reduceIte, f_X12_keep_13, hv]
        exact g1
    obtain ⟨a', g1, g2⟩ := key 1334 N 0 a (by omega) (by omega) (hA.cg (fun i _ => fil_out (by omega)))
    refine ⟨a', ?_, g2⟩
    simp (maxSteps := 1000000) (disch := omega) only [li, ob1_s, ob2_s, ob3_s, ob4_s, ob5_s, ob6_s, ob7_s, gA_n, gL_n, sA_n, sL_n, cpI_n, nI_add, pk_mul, nsub, nlt_t, nlt_f, nle_t, nle_f, neq_t, neq_f, rmI_n, dvI_n, upd_ne, upd_eq, un_ne, un_eq, Nat.add_zero, Bool.false_eq_true, ↓reduceIte, f_X12_keep, hA.2, h30, g1]
  · obtain ⟨a', g1, g2⟩ := rKeep56 hN hA (by omega)
    refine ⟨a', ?_, g2.cg (fun i hi => ?_)⟩
    · simp (maxSteps := 1000000) (disch := omega) only [li, ob1_s, ob2_s, ob3_s, ob4_s, ob5_s, ob6_s, ob7_s, gA_n, gL_n, sA_n, sL_n, cpI_n, nI_add, pk_mul, nsub, nlt_t, nlt_f, nle_t, nle_f, neq_t, neq_f, rmI_n, dvI_n, upd_ne, upd_eq, un_ne, un_eq, Nat.add_zero, Bool.false_eq_true, ↓reduceIte, f_X12_keep, hA.2, g1]
    · have ek : kc S = S 4 := if_neg h30
      unfold kpS
      rw [ek]
      by_cases e4 : i = 4
      · rw [if_pos e4, un_eq e4]
      · rw [if_neg e4, un_ne e4]
        by_cases c1 : i < 142 ∨ 1522 ≤ i
        · rw [if_pos c1, fil_out (by omega)]
        · rw [if_neg c1]
          by_cases c2 : i < 142 + 46 * S 4
          · rw [if_pos c2, if_neg h30, fil_out (by omega)]
          · rw [if_neg c2]
            by_cases c3 : i < 142 + 46 * S 4 + 46
            · rw [if_pos c3, fil_in (by omega) (by omega)]
            · rw [if_neg c3, fil_out (by omega)]
theorem StoredT.mv {r q : Nat → Int32} {S T : Nat → Nat} {b b2 : Nat} (h : StoredT r S b) (hb : S b ≤ 6) (hq : ∀ i, i < 76 → q i = r i) (e : ∀ d, d < 46 → T (b2 + d) = S (b + d)) (er : ∀ i, 1522 ≤ i ∧ i < 8762 → T i = S i) (e0 : S 0 ≤ T 0) (e1 : S 1 ≤ T 1) : StoredT q T b2 := by
  obtain ⟨h1, h2, h3, h4, h5, h6, h7, h8, h9⟩ := h
  have eb : T b2 = S b := e 0 (by omega)
  have eb1 := e 1 (by omega)
  have eb2 := e 2 (by omega)
  have eb3 := e 3 (by omega)
  have hm := Nat.min_le_right (S (b + 3)) 30
  refine ⟨by rw [hq 0 (by omega), eb1]; exact h1, by rw [hq 1 (by omega), eb2]; exact h2, by rw [hq 2 (by omega), eb]; exact h3, fun p k hp hk => ?_, by omega, by omega, by omega, fun p hp => ?_, ?_, ?_⟩
  · rw [hq _ (by omega), show b2 + 4 + 7 * p + k = b2 + (4 + 7 * p + k) by omega, e (4 + 7 * p + k) (by omega), show b + (4 + 7 * p + k) = b + 4 + 7 * p + k by omega]
    exact h4 p k (by omega) hk
  · refine (h8 p (by omega)).mn e0 (by omega) (fun k hk => ?_)
    show T (b2 + 4 + 7 * p + k) = S (b + 4 + 7 * p + k)
    rw [show b2 + 4 + 7 * p + k = b2 + (4 + 7 * p + k) by omega, e (4 + 7 * p + k) (by omega), show b + (4 + 7 * p + k) = b + 4 + 7 * p + k by omega]
  · rw [eb3, hq 3 (by omega)]; exact h9.1
  · rw [eb3]
    intro i hi
    rw [hq _ (by omega), er _ (by omega)]; exact h9.2 i hi
theorem slt_ne {nx c k : Nat} (hn : nx < 31) (hc : c ≤ 30) (hk : k < c) : slot nx c k ≠ nx := by
  unfold slot; omega
theorem slt_lt (nx c k : Nat) : slot nx c k < 31 := Nat.mod_lt _ (by omega)
/-- the object's side: the row laid into the slot that is free -/
theorem cAhead {N nx : Nat} {row store : Nat → Int32} (hn : nx < 31) : f_X7_ahead N (nI nx) store row = some (va_cpy row store 0 (76 * nx) 76) := by
  have e : nx * 76 = 76 * nx := Nat.mul_comm _ _
  simp (maxSteps := 1000000) (disch := omega) only [li, ob1_s, ob2_s, ob3_s, ob4_s, ob5_s, ob6_s, ob7_s, gA_n, gL_n, sA_n, sL_n, cpI_n, nI_add, pk_mul, nsub, nlt_t, nlt_f, nle_t, nle_f, neq_t, neq_f, rmI_n, dvI_n, upd_ne, upd_eq, un_ne, un_eq, Nat.add_zero, Bool.false_eq_true, ↓reduceIte, f_X7_ahead, f_X1_copyTo, e]
theorem cKeep {N nx c : Nat} (hn : nx < 31) (hc : c ≤ 30) : f_X7_keep N (nI c) (nI nx) = some (nI (min (c + 1) 30), nI ((nx + 1) % 31)) := by
  by_cases h : c + 1 ≤ 30
  · rw [Nat.min_eq_left h]
    simp (maxSteps := 1000000) (disch := omega) only [li, ob1_s, ob2_s, ob3_s, ob4_s, ob5_s, ob6_s, ob7_s, gA_n, gL_n, sA_n, sL_n, cpI_n, nI_add, pk_mul, nsub, nlt_t, nlt_f, nle_t, nle_f, neq_t, neq_f, rmI_n, dvI_n, upd_ne, upd_eq, un_ne, un_eq, Nat.add_zero, Bool.false_eq_true, ↓reduceIte, f_X7_keep, mnI]
  · rw [Nat.min_eq_right (by omega)]
    simp (maxSteps := 1000000) (disch := omega) only [li, ob1_s, ob2_s, ob3_s, ob4_s, ob5_s, ob6_s, ob7_s, gA_n, gL_n, sA_n, sL_n, cpI_n, nI_add, pk_mul, nsub, nlt_t, nlt_f, nle_t, nle_f, neq_t, neq_f, rmI_n, dvI_n, upd_ne, upd_eq, un_ne, un_eq, Nat.add_zero, Bool.false_eq_true, ↓reduceIte, f_X7_keep, mnI]
theorem StepT.ahead {nx : Nat} {cnt : Int32} {row store : Nat → Int32} {S : Nat → Nat} (h : StepT cnt (nI nx) store S) (hn : nx < 31) (h6 : S 1 ≤ 6) : StepT cnt (nI nx) (va_cpy row store 0 (76 * nx) 76) S := by
  obtain ⟨z1, z2, n2, z3, z4, z5⟩ := h
  have : nx = n2 := (neq (by omega) (by omega)).mp z4
  subst this
  refine ⟨z1, z2, nx, z3, z4, fun k hk => ?_⟩
  obtain ⟨g1, g2, g3⟩ := z5 k hk
  have hs := slt_ne hn z2 hk
  have hl := slt_lt nx (S 4) k
  have := g1.2.2.2.2.1
  refine ⟨g1.mv (by omega) (fun i hi => ?_) (fun _ _ => rfl) (fun _ _ => rfl) (Nat.le_refl _) (Nat.le_refl _), g2, g3⟩
  exact pk_cpy_out (by omega)
theorem StepT.keep {nx : Nat} {cnt : Int32} {row store : Nat → Int32} {S : Nat → Nat} (h : StepT cnt (nI nx) store S) (hn : nx < 31) (hR : RowC row S) (hW : FolkW S) (hB : BookT row S (S 12)) : StepTs 240 (nI (min (S 4 + 1) 30)) (nI ((nx + 1) % 31)) (va_cpy row store 0 (76 * nx) 76) (kpS S) := by
  obtain ⟨z1, z2, n2, z3, z4, z5⟩ := id h
  have : nx = n2 := (neq (by omega) (by omega)).mp z4
  subst this
  have k12 : kpS S 12 = S 12 := kp_o (by omega) (by omega)
  have k1 : kpS S 1 = S 1 := kp_o (by omega) (by omega)
  have k0 : kpS S 0 = S 0 := kp_o (by omega) (by omega)
  have kcl : kc S < 30 := by unfold kc; split <;> omega
  have km : min (S 4 + 1) 30 = kc S + 1 := by unfold kc; split <;> omega
  obtain ⟨w1, w2, w3, w4⟩ := hW
  refine ⟨by rw [km, kp_4], by rw [kp_4]; omega, (nx + 1) % 31, Nat.mod_lt _ (by omega), rfl, fun k hk => ?_⟩
  rw [kp_4] at hk ⊢
  by_cases ek : k = kc S
  · have es : slot ((nx + 1) % 31) (kc S + 1) k = nx := by unfold slot; omega
    rw [es]
    have hr : ∀ i, i < 76 → va_cpy row store 0 (76 * nx) 76 (76 * nx + i) = row i := fun i hi => by rw [pk_cpy_in (by omega) (by omega)]; congr 1; omega
    subst ek
    have st : ∀ d, d < 46 → kpS S (142 + 46 * kc S + d) = stp S d := fun d hd => kp_n kcl hd
    have s0 : kpS S (142 + 46 * kc S) = S 1 := st 0 (by omega)
    have s1 : kpS S (142 + 46 * kc S + 1) = S 10 := st 1 (by omega)
    have s2 : kpS S (142 + 46 * kc S + 2) = S 11 := st 2 (by omega)
    have s3 : kpS S (142 + 46 * kc S + 3) = S 12 := st 3 (by omega)
    have s3' : kpS S (145 + 46 * kc S) = S 12 := by rw [show 145 + 46 * kc S = 142 + 46 * kc S + 3 by omega]; exact s3
    have sp : ∀ p q, p < 6 → q < 7 → kpS S (142 + 46 * kc S + 4 + 7 * p + q) = S (14 + 11 * p + q) := fun p q hp hq => by
      rw [show 142 + 46 * kc S + 4 + 7 * p + q = 142 + 46 * kc S + (4 + 7 * p + q) by omega, st _ (by omega), stp_p S hq]
    have hm := Nat.min_le_right (S 12) 30
    refine ⟨⟨?_, ?_, ?_, fun p q hp hq => ?_, ?_, ?_, ?_, fun p hp => ?_, ?_, fun i hi => ?_⟩, ?_, ?_, fun q h1 h2 => by omega⟩
    · show va_cpy row store 0 (76 * nx) 76 (76 * nx + 0) = _
      rw [hr 0 (by omega), s1]; exact hR.1
    · show va_cpy row store 0 (76 * nx) 76 (76 * nx + 1) = _
      rw [hr 1 (by omega), s2]; exact hR.2.1
    · show va_cpy row store 0 (76 * nx) 76 (76 * nx + 2) = _
      rw [hr 2 (by omega), s0]; exact hR.2.2.1
    · show va_cpy row store 0 (76 * nx) 76 (76 * nx + (34 + 7 * p + q)) = _
      rw [s0] at hp
      rw [hr _ (by omega), sp p q (by omega) hq]; exact hR.2.2.2.2 p q hp hq
    · rw [s0, k1]; omega
    · rw [s1]; exact w2
    · rw [s2]; exact w3
    · rw [s0] at hp
      rw [k0, s1]
      exact (w4 p hp).mn (Nat.le_refl _) (Nat.le_refl _) (fun q hq => sp p q (by omega) hq)
    · show va_cpy row store 0 (76 * nx) 76 (76 * nx + 3) = _
      rw [hr 3 (by omega), s3]; exact hB.1
    · show va_cpy row store 0 (76 * nx) 76 (76 * nx + (4 + i)) = _
      rw [s3] at hi ⊢
      rw [hr _ (by omega), kp_o (by omega) (by omega)]; exact hB.2 i hi
    · rw [s3', k12]; omega
    · rw [s3', k12]; omega
  · by_cases h30 : S 4 = 30
    · have e29 : kc S = 29 := if_pos h30
      obtain ⟨g1, g2, g3, g4⟩ := z5 (k + 1) (by omega)
      have es : slot ((nx + 1) % 31) (kc S + 1) k = slot nx (S 4) (k + 1) := by unfold slot; omega
      have hs := slt_ne hn z2 (show k + 1 < S 4 by omega)
      have hl := slt_lt nx (S 4) (k + 1)
      have h6 := g1.2.2.2.2.1
      rw [es]
      have s3 : kpS S (145 + 46 * k) = S (145 + 46 * (k + 1)) := by rw [show 145 + 46 * k = 142 + 46 * k + 3 by omega, kp_b h30 (by omega) (by omega), show 142 + 46 * (k + 1) + 3 = 145 + 46 * (k + 1) by omega]
      refine ⟨g1.mv (by omega) (fun i hi => pk_cpy_out (by omega)) (fun d hd => kp_b h30 (by omega) hd) (fun i hi => kp_o (by omega) (by omega)) (by omega) (by omega), ?_, ?_, fun q h1 h2 => ?_⟩
      · rw [s3, k12]; exact g2
      · rw [s3, k12]; omega
      · by_cases eq : q = kc S
        · subst eq
          have q3 : kpS S (145 + 46 * kc S) = S 12 := by rw [show 145 + 46 * kc S = 142 + 46 * kc S + 3 by omega]; exact kp_n kcl (by omega)
          rw [s3, q3]; omega
        · have q3 : kpS S (145 + 46 * q) = S (145 + 46 * (q + 1)) := by rw [show 145 + 46 * q = 142 + 46 * q + 3 by omega, kp_b h30 (by omega) (by omega), show 142 + 46 * (q + 1) + 3 = 145 + 46 * (q + 1) by omega]
          rw [s3, q3]
          have := g4 (q + 1) (by omega) (by omega)
          omega
    · have e4 : kc S = S 4 := if_neg h30
      obtain ⟨g1, g2, g3, g4⟩ := z5 k (by omega)
      have es : slot ((nx + 1) % 31) (kc S + 1) k = slot nx (S 4) k := by unfold slot; omega
      have hs := slt_ne hn z2 (show k < S 4 by omega)
      have hl := slt_lt nx (S 4) k
      have h6 := g1.2.2.2.2.1
      rw [es]
      have s3 : kpS S (145 + 46 * k) = S (145 + 46 * k) := by rw [show 145 + 46 * k = 142 + 46 * k + 3 by omega, kp_a (by omega) (by omega) (by omega)]
      refine ⟨g1.mv (by omega) (fun i hi => pk_cpy_out (by omega)) (fun d hd => kp_a (by omega) (by omega) hd) (fun i hi => kp_o (by omega) (by omega)) (by omega) (by omega), ?_, ?_, fun q h1 h2 => ?_⟩
      · rw [s3, k12]; exact g2
      · rw [s3, k12]; omega
      · by_cases eq : q = kc S
        · subst eq
          have q3 : kpS S (145 + 46 * kc S) = S 12 := by rw [show 145 + 46 * kc S = 142 + 46 * kc S + 3 by omega]; exact kp_n kcl (by omega)
          rw [s3, q3]; omega
        · have q3 : kpS S (145 + 46 * q) = S (145 + 46 * q) := by rw [show 145 + 46 * q = 142 + 46 * q + 3 by omega, kp_a (by omega) (by omega) (by omega)]
          rw [s3, q3]
          exact g4 q (by omega) (by omega)
