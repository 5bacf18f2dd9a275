theorem pop_sub : ∀ b, b < 256 → ∀ s, s < 256 → s &&& b = s → pop b ≤ pop s → s = b := by decide +kernel
/-- the fewest, of like ones the lowest, among those up to M that are good -/
def Best (g : Nat → Prop) (M b : Nat) : Prop := b ≤ M ∧ g b ∧ ∀ s, s ≤ M → g s → pop b < pop s ∨ (pop b = pop s ∧ b ≤ s)
theorem Best.one {g : Nat → Prop} {M b c : Nat} (h1 : Best g M b) (h2 : Best g M c) : b = c := by
  have q1 := h1.2.2 c h2.1 h2.2.1
  have q2 := h2.2.2 b h1.1 h1.2.1
  omega
theorem all_bit (n i : Nat) : (2 ^ n - 1).testBit i = decide (i < n) := Nat.testBit_two_pow_sub_one n i
theorem spr_all {R : Nat → Nat} {n : Nat} (hR : ∀ k, k < n → R k < 2 ^ n) : spr R (2 ^ n - 1) n = 2 ^ n - 1 := by
  have hp := Nat.two_pow_pos n
  have hlt := spr_lt (R := R) (s := 2 ^ n - 1) (m := n) (by omega) n hR
  apply Nat.eq_of_testBit_eq
  intro i
  rw [all_bit]
  by_cases hi : i < n
  · have : (spr R (2 ^ n - 1) n).testBit i = true := (spr_bit R _ i n).mpr (Or.inl (by rw [all_bit]; simp [hi]))
    rw [this]; simp [hi]
  · rw [bitlt hlt (by omega)]; simp [hi]
theorem st_helpers {j : Nat} {dn : Int32} {df dr row fe to : Nat → Int32} {cnt next : Int32} {store : Nat → Int32} {calls bord rep unl pay : Int32} {cl ul ga py pr : Nat → Int32} {tx rul : Int32} {a : Nat → Int32} {S : Nat → Nat} {N : Nat} (hN : 10000 ≤ N) (h : RealmT j dn df dr row fe to cnt next store calls bord rep unl pay cl ul ga py pr tx rul a S) : ∃ r : Int32, f_X11_helpers N dn dr = some r ∧ f_X12_helpers N a = some r := by
  obtain ⟨hA, hL, hR, hW, hF, hB, hZ, hQ, hI, hj⟩ := h
  obtain ⟨h1, h8, h3, h4, h5, h6⟩ := id hL
  subst h1
  have hp := Nat.two_pow_pos (S 0)
  have h256 := p28 h8
  generalize hM : 2 ^ S 0 - 1 = M
  have hM2 : M < 256 := by omega
  have gall : spr (rd S) M (S 0) = M := by rw [← hM]; exact spr_all (fun k hk => (h4 k hk).2)
  have key1 : ∀ k n s b, s + k = M + 1 → k < n → b ≤ M → spr (rd S) b (S 0) = M → (b < s ∨ b = M) → (∀ t, t < s → spr (rd S) t (S 0) = M → pop b < pop t ∨ (pop b = pop t ∧ b ≤ t)) → ∃ c, f_X2_fewestHelpers_9 N n (nI (S 0)) dr (nI M) (nI b) (nI s) = some (nI c) ∧ Best (fun s => spr (rd S) s (S 0) = M) M c := by
    intro k
    induction k with
    | zero =>
      intro n s b e hn hb hg hbs hi
      obtain ⟨n, rfl⟩ : ∃ m, n = m + 1 := ⟨n - 1, by omega⟩
      exact ⟨b, by simp (maxSteps := 1000000) (disch := omega) only [li, ob1_s, ob2_s, ob3_s, ob4_s, ob5_s, ob6_s, ob7_s, gA_n, gL_n, sA_n, sL_n, cpI_n, nI_add, pk_mul, nsub, nlt_t, nlt_f, nle_t, nle_f, neq_t, neq_f, rmI_n, dvI_n, upd_ne, upd_eq, un_ne, un_eq, Nat.add_zero, Bool.false_eq_true, ↓reduceIte, f_X2_fewestHelpers_9], hb, hg, fun t ht => hi t (by omega)⟩
    | succ k ih =>
      intro n s b e hn hb hg hbs hi
      obtain ⟨n, rfl⟩ : ∃ m, n = m + 1 := ⟨n - 1, by omega⟩
      have b1 := cBits (N := N) (v := s) (by omega)
      have b2 := cBits (N := N) (v := b) (by omega)
      have l1 := pop_le s
      have l2 := pop_le b
      have sp := cSpread (N := N) hL (show s < 256 by omega) (by omega)
      have spl := sprb hL (show s < 256 by omega)
      have hsM : s &&& M = s := by rw [← hM, Nat.and_two_pow_sub_one_eq_mod]; exact Nat.mod_eq_of_lt (by omega)
      by_cases c1 : pop s < pop b
      · by_cases c2 : spr (rd S) s (S 0) = M
        · obtain ⟨c, g1, g2⟩ := ih n (s + 1) s (by omega) (by omega) (by omega) c2 (by omega) (fun t ht hgt => by
            by_cases e2 : t = s
            · subst e2; exact Or.inr ⟨rfl, Nat.le_refl _⟩
            · have := hi t (by omega) hgt; omega)
          refine ⟨c, ?_, g2⟩
          rw [f_X2_fewestHelpers_9]
          simp (maxSteps := 1000000) (disch := omega) only [li, ob1_s, ob2_s, ob3_s, ob4_s, ob5_s, ob6_s, ob7_s, gA_n, gL_n, sA_n, sL_n, cpI_n, nI_add, pk_mul, nsub, nlt_t, nlt_f, nle_t, nle_f, neq_t, neq_f, rmI_n, dvI_n, upd_ne, upd_eq, un_ne, un_eq, Nat.add_zero, Bool.false_eq_true, ↓reduceIte, f_X2_fewestHelpers_30, f_X2_fewestHelpers_48, b1, b2, sp, c2]
          exact g1
        · obtain ⟨c, g1, g2⟩ := ih n (s + 1) b (by omega) (by omega) hb hg (by omega) (fun t ht hgt => by
            by_cases e2 : t = s
            · subst e2; exact absurd hgt c2
            · exact hi t (by omega) hgt)
          refine ⟨c, ?_, g2⟩
          rw [f_X2_fewestHelpers_9]
          simp (maxSteps := 1000000) (disch := omega) only [li, ob1_s, ob2_s, ob3_s, ob4_s, ob5_s, ob6_s, ob7_s, gA_n, gL_n, sA_n, sL_n, cpI_n, nI_add, pk_mul, nsub, nlt_t, nlt_f, nle_t, nle_f, neq_t, neq_f, rmI_n, dvI_n, upd_ne, upd_eq, un_ne, un_eq, Nat.add_zero, Bool.false_eq_true, ↓reduceIte, f_X2_fewestHelpers_30, f_X2_fewestHelpers_48, b1, b2, sp, c2]
          exact g1
      · obtain ⟨c, g1, g2⟩ := ih n (s + 1) b (by omega) (by omega) hb hg (by omega) (fun t ht hgt => by
          by_cases e2 : t = s
          · subst e2
            rcases hbs with q | q
            · omega
            · subst q
              have := pop_sub b (by omega) t (by omega) hsM (by omega)
              omega
          · exact hi t (by omega) hgt)
        refine ⟨c, ?_, g2⟩
        rw [f_X2_fewestHelpers_9]
        simp (maxSteps := 1000000) (disch := omega) only [li, ob1_s, ob2_s, ob3_s, ob4_s, ob5_s, ob6_s, ob7_s, gA_n, gL_n, sA_n, sL_n, cpI_n, nI_add, pk_mul, nsub, nlt_t, nlt_f, nle_t, nle_f, neq_t, neq_f, rmI_n, dvI_n, upd_ne, upd_eq, un_ne, un_eq, Nat.add_zero, Bool.false_eq_true, ↓reduceIte, f_X2_fewestHelpers_30, f_X2_fewestHelpers_48, b1, b2]
        exact g1
  have key2 : ∀ s n b, s < n → s ≤ M + 1 → b ≤ M → spr (rd S) b (S 0) = M → (∀ t, s ≤ t → t ≤ M → spr (rd S) t (S 0) = M → pop b < pop t ∨ (pop b = pop t ∧ b ≤ t)) → ∃ c, f_X12_helpers_15 N n a (nI M) (nI b) (nI s - nI 1) = some (nI c) ∧ Best (fun s => spr (rd S) s (S 0) = M) M c := by
    intro s
    induction s with
    | zero =>
      intro n b hn hs hb hg hi
      obtain ⟨n, rfl⟩ : ∃ m, n = m + 1 := ⟨n - 1, by omega⟩
      have hm : nI 0 - nI 1 < nI 0 := by decide
      exact ⟨b, by simp (maxSteps := 1000000) (disch := omega) only [li, ob1_s, ob2_s, ob3_s, ob4_s, ob5_s, ob6_s, ob7_s, gA_n, gL_n, sA_n, sL_n, cpI_n, nI_add, pk_mul, nsub, nlt_t, nlt_f, nle_t, nle_f, neq_t, neq_f, rmI_n, dvI_n, upd_ne, upd_eq, un_ne, un_eq, Nat.add_zero, Bool.false_eq_true, ↓reduceIte, f_X12_helpers_15, hm], hb, hg, fun t ht => hi t (by omega) ht⟩
    | succ s ih =>
      intro n b hn hs hb hg hi
      obtain ⟨n, rfl⟩ : ∃ m, n = m + 1 := ⟨n - 1, by omega⟩
      have b1 := rBits (N := N) (v := s) (by omega) (by omega)
      have b2 := rBits (N := N) (v := b) (by omega) (by omega)
      have l1 := pop_le s
      have l2 := pop_le b
      have sp := rSpread (N := N) (s := s) (b := 0) hA h8 (by omega) (by omega)
      rw [nd_0] at sp
      have spl := sprb hL (show s < 256 by omega)
      have es : nI (s + 1) - nI 1 = nI s := nI_pred s
      have em : nI s + -nI 1 = nI s - nI 1 := by
        rw [show nI s - nI 1 = nI s + -nI 1 from Int32.sub_eq_add_neg _ _]
      rw [es]
      by_cases c1 : pop b < pop s
      · obtain ⟨c, g1, g2⟩ := ih n b (by omega) (by omega) hb hg (fun t ht htM hgt => by
          by_cases e2 : t = s
          · subst e2; exact Or.inl c1
          · exact hi t (by omega) htM hgt)
        refine ⟨c, ?_, g2⟩
        rw [f_X12_helpers_15]
        simp (maxSteps := 1000000) (disch := omega) only [li, ob1_s, ob2_s, ob3_s, ob4_s, ob5_s, ob6_s, ob7_s, gA_n, gL_n, sA_n, sL_n, cpI_n, nI_add, pk_mul, nsub, nlt_t, nlt_f, nle_t, nle_f, neq_t, neq_f, rmI_n, dvI_n, upd_ne, upd_eq, un_ne, un_eq, Nat.add_zero, Bool.false_eq_true, ↓reduceIte, f_X12_helpers_44, nIl, b1, b2, em]
        exact g1
      · by_cases c2 : spr (rd S) s (S 0) = M
        · obtain ⟨c, g1, g2⟩ := ih n s (by omega) (by omega) (by omega) c2 (fun t ht htM hgt => by
            by_cases e2 : t = s
            · subst e2; exact Or.inr ⟨rfl, Nat.le_refl _⟩
            · have := hi t (by omega) htM hgt; omega)
          refine ⟨c, ?_, g2⟩
          rw [f_X12_helpers_15]
          simp (maxSteps := 1000000) (disch := omega) only [li, ob1_s, ob2_s, ob3_s, ob4_s, ob5_s, ob6_s, ob7_s, gA_n, gL_n, sA_n, sL_n, cpI_n, nI_add, pk_mul, nsub, nlt_t, nlt_f, nle_t, nle_f, neq_t, neq_f, rmI_n, dvI_n, upd_ne, upd_eq, un_ne, un_eq, Nat.add_zero, Bool.false_eq_true, ↓reduceIte, f_X12_helpers_44, nIl, b1, b2, sp, c2, em]
          exact g1
        · obtain ⟨c, g1, g2⟩ := ih n b (by omega) (by omega) hb hg (fun t ht htM hgt => by
            by_cases e2 : t = s
            · subst e2; exact absurd hgt c2
            · exact hi t (by omega) htM hgt)
          refine ⟨c, ?_, g2⟩
          rw [f_X12_helpers_15]
          simp (maxSteps := 1000000) (disch := omega) only [li, ob1_s, ob2_s, ob3_s, ob4_s, ob5_s, ob6_s, ob7_s, gA_n, gL_n, sA_n, sL_n, cpI_n, nI_add, pk_mul, nsub, nlt_t, nlt_f, nle_t, nle_f, neq_t, neq_f, rmI_n, dvI_n, upd_ne, upd_eq, un_ne, un_eq, Nat.add_zero, Bool.false_eq_true, ↓reduceIte, f_X12_helpers_44, nIl, b1, b2, sp, c2, em]
          exact g1
  obtain ⟨c, g1, g2⟩ := key1 (M + 1) N 0 M (by omega) (by omega) (Nat.le_refl _) gall (Or.inr rfl) (fun t ht => by omega)
  obtain ⟨d, q1, q2⟩ := key2 (M + 1) N M (by omega) (Nat.le_refl _) (Nat.le_refl _) gall (fun t ht1 ht2 => by omega)
  have e := g2.one q2
  subst e
  rw [show nI (M + 1) - nI 1 = nI M from nI_pred M] at q1
  refine ⟨nI c, ?_, ?_⟩
  · simp (maxSteps := 1000000) (disch := omega) only [li, ob1_s, ob2_s, ob3_s, ob4_s, ob5_s, ob6_s, ob7_s, gA_n, gL_n, sA_n, sL_n, cpI_n, nI_add, pk_mul, nsub, nlt_t, nlt_f, nle_t, nle_f, neq_t, neq_f, rmI_n, dvI_n, upd_ne, upd_eq, un_ne, un_eq, Nat.add_zero, Bool.false_eq_true, ↓reduceIte, f_X11_helpers, f_X2_fewestHelpers, f_X2_all, nshl1, hM, g1]
  · simp (maxSteps := 1000000) (disch := omega) only [li, ob1_s, ob2_s, ob3_s, ob4_s, ob5_s, ob6_s, ob7_s, gA_n, gL_n, sA_n, sL_n, cpI_n, nI_add, pk_mul, nsub, nlt_t, nlt_f, nle_t, nle_f, neq_t, neq_f, rmI_n, dvI_n, upd_ne, upd_eq, un_ne, un_eq, Nat.add_zero, Bool.false_eq_true, ↓reduceIte, f_X12_helpers, hA.2, nshl1, hM, q1]
