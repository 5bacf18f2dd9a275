theorem isInM_m1 {N n : Nat} (hn : n < 2147483648) : f_X12_isIn N (-nI 1) (-nI 1) (nI n - nI 1) = some (nI 1) := by
  have h1 : ¬ (-nI 1 : Int32) < -nI 1 := by decide
  have h2 : ¬ nI n - nI 1 < -nI 1 := by
    cases n with
    | zero => decide
    | succ n =>
      rw [nsub (by omega)]
      intro h
      have h3 := m1_lt (n + 1 - 1) (by omega)
      rw [Int32.lt_iff_toInt_lt] at h h3
      omega
  simp only [f_X12_isIn, li, h1, h2, ↓reduceIte]
theorem isInM_in {N n k : Nat} (hk : k < n) (hn : n < 2147483648) : f_X12_isIn N (nI k) (-nI 1) (nI n - nI 1) = some (nI 1) := by
  have h1 : ¬ nI k < -nI 1 := by
    have h3 := m1_lt k (by omega)
    intro h
    rw [Int32.lt_iff_toInt_lt] at h h3
    omega
  simp (maxSteps := 1000000) (disch := omega) only [li, ob1_s, ob2_s, ob3_s, ob4_s, ob5_s, ob6_s, ob7_s, gA_n, gL_n, sA_n, sL_n, cpI_n, nI_add, pk_mul, nsub, nlt_t, nlt_f, nle_t, nle_f, neq_t, neq_f, rmI_n, dvI_n, upd_ne, upd_eq, un_ne, un_eq, Nat.add_zero, Bool.false_eq_true, ↓reduceIte, f_X12_isIn, h1]
theorem isInM_le {N n k : Nat} (hk : k ≤ n) (hn : n < 2147483648) : f_X12_isIn N (nI k) (-nI 1) (nI n) = some (nI 1) := by
  have := isInM_in (N := N) (n := n + 1) (k := k) (by omega)
  rcases Nat.lt_or_ge (n + 1) 2147483648 with h | h
  · have := this h
    rwa [nsub (by omega), show n + 1 - 1 = n by omega] at this
  · have h1 : ¬ nI k < -nI 1 := by
      have h3 := m1_lt k (by omega)
      intro h
      rw [Int32.lt_iff_toInt_lt] at h h3
      omega
    simp (maxSteps := 1000000) (disch := omega) only [li, ob1_s, ob2_s, ob3_s, ob4_s, ob5_s, ob6_s, ob7_s, gA_n, gL_n, sA_n, sL_n, cpI_n, nI_add, pk_mul, nsub, nlt_t, nlt_f, nle_t, nle_f, neq_t, neq_f, rmI_n, dvI_n, upd_ne, upd_eq, un_ne, un_eq, Nat.add_zero, Bool.false_eq_true, ↓reduceIte, f_X12_isIn, h1]
theorem isInM_out {N n : Nat} {x : Int32} (h : Out x n) (hx : ¬ x = -nI 1) (hn : n < 2147483648) : f_X12_isIn N x (-nI 1) (nI n - nI 1) = some (nI 0) := by
  rcases h with h | ⟨h, h0⟩
  · have h1 : x < -nI 1 := by
      have e : (-nI 1 : Int32).toInt = -1 := by decide
      have e0 : (nI 0).toInt = 0 := by decide
      rw [Int32.lt_iff_toInt_lt] at h ⊢
      have : x.toInt ≠ -1 := fun e2 => hx (Int32.toInt_inj.mp (e2.trans e.symm))
      omega
    simp only [f_X12_isIn, li, h1, ↓reduceIte]
  · have h1 : ¬ x < -nI 1 := by
      have e : (-nI 1 : Int32).toInt = -1 := by decide
      have e0 : (nI 0).toInt = 0 := by decide
      rw [Int32.lt_iff_toInt_lt] at h0 ⊢
      omega
    simp only [f_X12_isIn, li, h1, ge_pred hn h h0, ↓reduceIte]
theorem TieA.up3 {a : Nat → Int32} {S : Nat → Nat} (h : TieA a S) {x : Int32} {v : Nat} (hx : x = nI v - 1) : TieA (upd a 3 x) (un S 3 v) := by
  refine ⟨by rw [upd_eq rfl, un_eq rfl]; exact hx, fun k hk hk3 => ?_⟩
  rw [upd_ne hk3, un_ne hk3]; exact h.2 k hk hk3
theorem st_by {j : Nat} {dn : Int32} {df dr row fe to : Nat → Int32} {cnt next : Int32} {store : Nat → Int32} {calls bord rep unl pay : Int32} {cl ul ga py pr : Nat → Int32} {tx rul : Int32} {a : Nat → Int32} {S : Nat → Nat} {N : Nat} (x : Int32) (h : RealmT j dn df dr row fe to cnt next store calls bord rep unl pay cl ul ga py pr tx rul a S) :
    ∃ (r rul' : Int32) (a' : Nat → Int32) (S' : Nat → Nat), f_X11_by N tx rul x = some (r, rul') ∧ f_X12_by N a x = some (r, a') ∧ RealmT (j + 1) dn df dr row fe to cnt next store calls bord rep unl pay cl ul ga py pr tx rul' a' S' ∧ S' 2 = S 2 := by
  have h0 := h
  obtain ⟨hA, hL, hR, hW, hF, hB, hZ, hQ, hI, hj⟩ := h
  obtain ⟨i1, i2, i3, i4⟩ := id hI
  subst i1
  have fin : ∀ v x, x = nI v - 1 → v ≤ S 2 → RealmT (j + 1) dn df dr row fe to cnt next store calls bord rep unl pay cl ul ga py pr (nI (S 2)) x (upd a 3 x) (un S 3 v) ∧ un S 3 v 2 = S 2 := by
    intro v x e hv
    have e12 : un S 3 v 12 = S 12 := un_ne (by omega)
    exact ⟨⟨hA.up3 e, hL.cg (fun i hi => by simp (disch := omega) only [un_ne]), hR.cg (fun i hi => by simp (disch := omega) only [un_ne]) hW.1, hW.cg (fun i hi => by simp (disch := omega) only [un_ne]) (by simp (disch := omega) only [un_ne]; omega), hF.cg (fun i hi => by simp (disch := omega) only [un_ne]) (by simp (disch := omega) only [un_ne]; omega) hW.1, by rw [e12]; exact hB.cg (fun i hi => by simp (disch := omega) only [un_ne]), hZ.cg (fun i hi => by simp (disch := omega) only [un_ne]) (by simp (disch := omega) only [un_ne]; omega) (by simp (disch := omega) only [un_ne]; omega) hW.1, hQ.cg (fun i hi => by simp (disch := omega) only [un_ne]) (by simp (disch := omega) only [un_ne]; omega) (by simp (disch := omega) only [un_ne]; omega), ⟨by rw [un_ne (by omega)], by rw [un_ne (by omega)]; exact i2, by rw [un_eq rfl]; exact e, by rw [un_eq rfl, un_ne (by omega)]; exact hv⟩, by omega⟩, un_ne (by omega)⟩
  by_cases hx : x = -nI 1
  · subst hx
    refine ⟨nI 1, -nI 1, _, _, ?_, ?_, fin 0 (-nI 1) (by decide) (by omega)⟩
    · simp only [f_X11_by, f_X11_by_15, li, ↓reduceIte]
    · simp (maxSteps := 1000000) (disch := omega) only [li, ob1_s, ob2_s, ob3_s, ob4_s, ob5_s, ob6_s, ob7_s, gA_n, gL_n, sA_n, sL_n, cpI_n, nI_add, pk_mul, nsub, nlt_t, nlt_f, nle_t, nle_f, neq_t, neq_f, rmI_n, dvI_n, upd_ne, upd_eq, un_ne, un_eq, Nat.add_zero, Bool.false_eq_true, ↓reduceIte, f_X12_by, hA.2, isInM_m1]
  · rcases inOut x (S 2) (by omega) with ho | ⟨k, hk, rfl⟩
    · refine ⟨nI 0, rul, a, S, ?_, ?_, h0.later, rfl⟩
      · rcases ho with g | ⟨g, g0⟩
        · simp only [f_X11_by, f_X11_textTold, li, hx, g, ob1_s, ↓reduceIte]
        · simp only [f_X11_by, f_X11_textTold, li, hx, g, g0, ob1_s, ↓reduceIte]
      · simp (maxSteps := 1000000) (disch := omega) only [li, ob1_s, ob2_s, ob3_s, ob4_s, ob5_s, ob6_s, ob7_s, gA_n, gL_n, sA_n, sL_n, cpI_n, nI_add, pk_mul, nsub, nlt_t, nlt_f, nle_t, nle_f, neq_t, neq_f, rmI_n, dvI_n, upd_ne, upd_eq, un_ne, un_eq, Nat.add_zero, Bool.false_eq_true, ↓reduceIte, f_X12_by, hA.2, isInM_out ho hx]
    · refine ⟨nI 1, nI k, _, _, ?_, ?_, fin (k + 1) (nI k) (nI_pred k).symm (by omega)⟩
      · simp (maxSteps := 1000000) (disch := omega) only [li, ob1_s, ob2_s, ob3_s, ob4_s, ob5_s, ob6_s, ob7_s, gA_n, gL_n, sA_n, sL_n, cpI_n, nI_add, pk_mul, nsub, nlt_t, nlt_f, nle_t, nle_f, neq_t, neq_f, rmI_n, dvI_n, upd_ne, upd_eq, un_ne, un_eq, Nat.add_zero, Bool.false_eq_true, ↓reduceIte, f_X11_by, f_X11_by_15, f_X11_textTold, hx]
      · simp (maxSteps := 1000000) (disch := omega) only [li, ob1_s, ob2_s, ob3_s, ob4_s, ob5_s, ob6_s, ob7_s, gA_n, gL_n, sA_n, sL_n, cpI_n, nI_add, pk_mul, nsub, nlt_t, nlt_f, nle_t, nle_f, neq_t, neq_f, rmI_n, dvI_n, upd_ne, upd_eq, un_ne, un_eq, Nat.add_zero, Bool.false_eq_true, ↓reduceIte, f_X12_by, hA.2, isInM_le]
theorem st_is {j : Nat} {dn : Int32} {df dr row fe to : Nat → Int32} {cnt next : Int32} {store : Nat → Int32} {calls bord rep unl pay : Int32} {cl ul ga py pr : Nat → Int32} {tx rul : Int32} {a : Nat → Int32} {S : Nat → Nat} {N : Nat} (x : Int32) (h : RealmT j dn df dr row fe to cnt next store calls bord rep unl pay cl ul ga py pr tx rul a S) : ∃ r : Int32, f_X11_is N row x = some r ∧ f_X12_is N a x = some r := by
  obtain ⟨hA, hL, hR, hW, hF, hB, hZ, hQ, hI, hj⟩ := h
  rcases inOut x 2 (by omega) with hx | ⟨k, hk, rfl⟩
  · refine ⟨-2, ?_, ?_⟩
    · have h1 : ¬ x = nI 0 := by
        rintro rfl
        rcases hx with g | ⟨g, g0⟩
        · exact absurd g (by decide)
        · exact absurd g (by decide)
      have h2 : ¬ x = nI 1 := by
        rintro rfl
        rcases hx with g | ⟨g, g0⟩
        · exact absurd g (by decide)
        · exact absurd g (by decide)
      simp only [f_X11_is, li, h1, h2, ↓reduceIte]
    · simp only [f_X12_is, li, isIn_outT (m := 1) hx (by omega) (by omega), ob1_s, ↓reduceIte]
  · refine ⟨nI (S (10 + k)), ?_, ?_⟩
    · rcases (show k = 0 ∨ k = 1 by omega) with e | e <;> subst e
      · simp (maxSteps := 1000000) (disch := omega) only [li, ob1_s, ob2_s, ob3_s, ob4_s, ob5_s, ob6_s, ob7_s, gA_n, gL_n, sA_n, sL_n, cpI_n, nI_add, pk_mul, nsub, nlt_t, nlt_f, nle_t, nle_f, neq_t, neq_f, rmI_n, dvI_n, upd_ne, upd_eq, un_ne, un_eq, Nat.add_zero, Bool.false_eq_true, ↓reduceIte, f_X11_is, f_X1_monthNow, hR.1]
      · simp (maxSteps := 1000000) (disch := omega) only [li, ob1_s, ob2_s, ob3_s, ob4_s, ob5_s, ob6_s, ob7_s, gA_n, gL_n, sA_n, sL_n, cpI_n, nI_add, pk_mul, nsub, nlt_t, nlt_f, nle_t, nle_f, neq_t, neq_f, rmI_n, dvI_n, upd_ne, upd_eq, un_ne, un_eq, Nat.add_zero, Bool.false_eq_true, ↓reduceIte, f_X11_is, f_X1_x, hR.2.1]
    · simp (maxSteps := 1000000) (disch := omega) only [li, ob1_s, ob2_s, ob3_s, ob4_s, ob5_s, ob6_s, ob7_s, gA_n, gL_n, sA_n, sL_n, cpI_n, nI_add, pk_mul, nsub, nlt_t, nlt_f, nle_t, nle_f, neq_t, neq_f, rmI_n, dvI_n, upd_ne, upd_eq, un_ne, un_eq, Nat.add_zero, Bool.false_eq_true, ↓reduceIte, f_X12_is, isIn_in, hA.2]
theorem rShown {N : Nat} {a : Nat → Int32} {S : Nat → Nat} (hA : TieA a S) (hj : S 12 < 2147483648) : f_X12_shown N a = some (nI (min (S 12) 30)) := by
  by_cases h : 30 ≤ S 12
  · rw [Nat.min_eq_right h]
    simp (maxSteps := 1000000) (disch := omega) only [li, ob1_s, ob2_s, ob3_s, ob4_s, ob5_s, ob6_s, ob7_s, gA_n, gL_n, sA_n, sL_n, cpI_n, nI_add, pk_mul, nsub, nlt_t, nlt_f, nle_t, nle_f, neq_t, neq_f, rmI_n, dvI_n, upd_ne, upd_eq, un_ne, un_eq, Nat.add_zero, Bool.false_eq_true, ↓reduceIte, f_X12_shown, hA.2]
  · rw [Nat.min_eq_left (by omega)]
    simp (maxSteps := 1000000) (disch := omega) only [li, ob1_s, ob2_s, ob3_s, ob4_s, ob5_s, ob6_s, ob7_s, gA_n, gL_n, sA_n, sL_n, cpI_n, nI_add, pk_mul, nsub, nlt_t, nlt_f, nle_t, nle_f, neq_t, neq_f, rmI_n, dvI_n, upd_ne, upd_eq, un_ne, un_eq, Nat.add_zero, Bool.false_eq_true, ↓reduceIte, f_X12_shown, hA.2]
/-- the book's i-th entry of those that are shown -/
def bk (S : Nat → Nat) (i : Nat) : Nat := S (1522 + (S 12 - min (S 12) 30 + i) % 7240)
theorem cEntry {N i : Nat} {row : Nat → Int32} {S : Nat → Nat} (hB : BookT row S (S 12)) (hi : i < min (S 12) 30) : f_X1_entry N row (nI i) = some (nI (bk S i)) := by
  have e := hB.2 i hi
  simp (maxSteps := 1000000) (disch := omega) only [li, ob1_s, ob2_s, ob3_s, ob4_s, ob5_s, ob6_s, ob7_s, gA_n, gL_n, sA_n, sL_n, cpI_n, nI_add, pk_mul, nsub, nlt_t, nlt_f, nle_t, nle_f, neq_t, neq_f, rmI_n, dvI_n, upd_ne, upd_eq, un_ne, un_eq, Nat.add_zero, Bool.false_eq_true, ↓reduceIte, f_X1_entry, hB.1, e]
  rfl
theorem rEntry0 {N i : Nat} {a : Nat → Int32} {S : Nat → Nat} (hA : TieA a S) (hj : S 12 < 2147483000) (hi : i < min (S 12) 30) : f_X12_entry N a (nI i) (nI 0) = dvI (nI (bk S i)) (nI 64) (fun v => some v) := by
  have hlt : (S 12 - min (S 12) 30 + i) % 7240 < 7240 := Nat.mod_lt _ (by omega)
  have hle : min (S 12) 30 ≤ S 12 := Nat.min_le_left _ _
  simp (maxSteps := 1000000) (disch := omega) only [li, ob1_s, ob2_s, ob3_s, ob4_s, ob5_s, ob6_s, ob7_s, gA_n, gL_n, sA_n, sL_n, cpI_n, nI_add, pk_mul, nsub, nlt_t, nlt_f, nle_t, nle_f, neq_t, neq_f, rmI_n, dvI_n, upd_ne, upd_eq, un_ne, un_eq, Nat.add_zero, Bool.false_eq_true, ↓reduceIte, f_X12_entry, hA.2, rShown hA (show S 12 < 2147483648 by omega)]
  rfl
theorem rEntry1 {N i : Nat} {a : Nat → Int32} {S : Nat → Nat} (hA : TieA a S) (hj : S 12 < 2147483000) (hi : i < min (S 12) 30) : f_X12_entry N a (nI i) (nI 1) = dvI (nI (bk S i)) (nI 8) (fun v => rmI v (nI 8) fun v => some v) := by
  have hlt : (S 12 - min (S 12) 30 + i) % 7240 < 7240 := Nat.mod_lt _ (by omega)
  have hle : min (S 12) 30 ≤ S 12 := Nat.min_le_left _ _
  simp (maxSteps := 1000000) (disch := omega) only [li, ob1_s, ob2_s, ob3_s, ob4_s, ob5_s, ob6_s, ob7_s, gA_n, gL_n, sA_n, sL_n, cpI_n, nI_add, pk_mul, nsub, nlt_t, nlt_f, nle_t, nle_f, neq_t, neq_f, rmI_n, dvI_n, upd_ne, upd_eq, un_ne, un_eq, Nat.add_zero, Bool.false_eq_true, ↓reduceIte, f_X12_entry, hA.2, rShown hA (show S 12 < 2147483648 by omega)]
  rfl
theorem rEntry2 {N i : Nat} {a : Nat → Int32} {S : Nat → Nat} (hA : TieA a S) (hj : S 12 < 2147483000) (hi : i < min (S 12) 30) : f_X12_entry N a (nI i) (nI 2) = rmI (nI (bk S i)) (nI 8) (fun v => some v) := by
  have hlt : (S 12 - min (S 12) 30 + i) % 7240 < 7240 := Nat.mod_lt _ (by omega)
  have hle : min (S 12) 30 ≤ S 12 := Nat.min_le_left _ _
  simp (maxSteps := 1000000) (disch := omega) only [li, ob1_s, ob2_s, ob3_s, ob4_s, ob5_s, ob6_s, ob7_s, gA_n, gL_n, sA_n, sL_n, cpI_n, nI_add, pk_mul, nsub, nlt_t, nlt_f, nle_t, nle_f, neq_t, neq_f, rmI_n, dvI_n, upd_ne, upd_eq, un_ne, un_eq, Nat.add_zero, Bool.false_eq_true, ↓reduceIte, f_X12_entry, hA.2, rShown hA (show S 12 < 2147483648 by omega)]
  rfl
theorem dv64 (x : Int32) {β : Type} (k : Int32 → Option β) : dvI x (nI 64) k = k (x / nI 64) := by
  unfold dvI
  rw [if_neg (by decide)]
theorem dv8 (x : Int32) {β : Type} (k : Int32 → Option β) : dvI x (nI 8) k = k (x / nI 8) := by
  unfold dvI
  rw [if_neg (by decide)]
theorem rm8 (x : Int32) {β : Type} (k : Int32 → Option β) : rmI x (nI 8) k = k (x - x / nI 8 * nI 8) := by
  unfold rmI
  rw [if_neg (by decide)]
theorem out_ne {x : Int32} {n k : Nat} (hx : Out x n) (hk : k < n) (hn : n < 2147483648) : ¬ x = nI k := by
  rintro rfl
  rcases hx with g | ⟨g, g0⟩
  · exact nI_nlt (Nat.zero_le k) (by omega) g
  · exact nI_ge hk (by omega) g
theorem st_book {j : Nat} {dn : Int32} {df dr row fe to : Nat → Int32} {cnt next : Int32} {store : Nat → Int32} {calls bord rep unl pay : Int32} {cl ul ga py pr : Nat → Int32} {tx rul : Int32} {a : Nat → Int32} {S : Nat → Nat} {N : Nat} (x y : Int32) (h : RealmT j dn df dr row fe to cnt next store calls bord rep unl pay cl ul ga py pr tx rul a S) (hJ : j ≤ 20000) : ∃ r : Int32, f_X11_book N row x y = some r ∧ f_X12_book N a x y = some r := by
  obtain ⟨hA, hL, hR, hW, hF, hB, hZ, hQ, hI, hj⟩ := h
  have hj2 : S 12 < 2147483000 := by omega
  have hle : min (S 12) 30 ≤ 30 := Nat.min_le_right _ _
  by_cases hx : x = -nI 1
  · subst hx
    refine ⟨nI (min (S 12) 30), ?_, ?_⟩
    · simp (disch := omega) only [f_X11_book, f_X1_written, li, gA_n, hB.1, ob1_s, ↓reduceIte]
    · simp only [f_X12_book, li, rShown hA (show S 12 < 2147483648 by omega), ob1_s, ↓reduceIte]
  rcases inOut x (min (S 12) 30) (by omega) with ho | ⟨i, hi, rfl⟩
  · refine ⟨-2, ?_, ?_⟩
    · rcases ho with g | ⟨g, g0⟩
      · simp only [f_X11_book, li, hx, g, ↓reduceIte]
      · simp (disch := omega) only [f_X11_book, f_X1_written, li, gA_n, hB.1, ob1_s, hx, g0, ge_nlt (n := min (S 12) 30) (by omega) (Nat.le_refl _) g, ↓reduceIte]
    · simp only [f_X12_book, li, hx, rShown hA (show S 12 < 2147483648 by omega), ob1_s, isIn_out ho (show min (S 12) 30 < 2147483648 by omega), ↓reduceIte]
  rcases inOut y 3 (by omega) with ho | ⟨k, hk, rfl⟩
  · refine ⟨-2, ?_, ?_⟩
    · have n0 := out_ne ho (show 0 < 3 by omega) (by omega)
      have n1 := out_ne ho (show 1 < 3 by omega) (by omega)
      have n2 := out_ne ho (show 2 < 3 by omega) (by omega)
      simp (maxSteps := 1000000) (disch := omega) only [li, ob1_s, ob2_s, ob3_s, ob4_s, ob5_s, ob6_s, ob7_s, gA_n, gL_n, sA_n, sL_n, cpI_n, nI_add, pk_mul, nsub, nlt_t, nlt_f, nle_t, nle_f, neq_t, neq_f, rmI_n, dvI_n, upd_ne, upd_eq, un_ne, un_eq, Nat.add_zero, Bool.false_eq_true, ↓reduceIte, f_X11_book, f_X1_written, hB.1, hx, n0, n1, n2]
    · simp (maxSteps := 1000000) (disch := omega) only [li, ob1_s, ob2_s, ob3_s, ob4_s, ob5_s, ob6_s, ob7_s, gA_n, gL_n, sA_n, sL_n, cpI_n, nI_add, pk_mul, nsub, nlt_t, nlt_f, nle_t, nle_f, neq_t, neq_f, rmI_n, dvI_n, upd_ne, upd_eq, un_ne, un_eq, Nat.add_zero, Bool.false_eq_true, ↓reduceIte, f_X12_book, hx, rShown hA (show S 12 < 2147483648 by omega), isIn_in, isIn_outT (m := 2) ho (by omega) (by omega)]
  · rcases (show k = 0 ∨ k = 1 ∨ k = 2 by omega) with q | q | q <;> subst q
    · refine ⟨nI (bk S i) / nI 64, ?_, ?_⟩
      rotate_left
      · simp (maxSteps := 1000000) (disch := omega) only [li, ob1_s, ob2_s, ob3_s, ob4_s, ob5_s, ob6_s, ob7_s, gA_n, gL_n, sA_n, sL_n, cpI_n, nI_add, pk_mul, nsub, nlt_t, nlt_f, nle_t, nle_f, neq_t, neq_f, rmI_n, dvI_n, upd_ne, upd_eq, un_ne, un_eq, Nat.add_zero, Bool.false_eq_true, ↓reduceIte, f_X12_book, hx, rShown hA (show S 12 < 2147483648 by omega), isIn_in, rEntry0 hA hj2 hi]
        rw [dv64]; rfl
      · simp (maxSteps := 1000000) (disch := omega) only [li, ob1_s, ob2_s, ob3_s, ob4_s, ob5_s, ob6_s, ob7_s, gA_n, gL_n, sA_n, sL_n, cpI_n, nI_add, pk_mul, nsub, nlt_t, nlt_f, nle_t, nle_f, neq_t, neq_f, rmI_n, dvI_n, upd_ne, upd_eq, un_ne, un_eq, Nat.add_zero, Bool.false_eq_true, ↓reduceIte, f_X11_book, f_X1_written, hB.1, hx, f_X1_entryMonth, cEntry hB hi]
        rw [dv64]; rfl
    · refine ⟨nI (bk S i) / nI 8 - nI (bk S i) / nI 8 / nI 8 * nI 8, ?_, ?_⟩
      rotate_left
      · simp (maxSteps := 1000000) (disch := omega) only [li, ob1_s, ob2_s, ob3_s, ob4_s, ob5_s, ob6_s, ob7_s, gA_n, gL_n, sA_n, sL_n, cpI_n, nI_add, pk_mul, nsub, nlt_t, nlt_f, nle_t, nle_f, neq_t, neq_f, rmI_n, dvI_n, upd_ne, upd_eq, un_ne, un_eq, Nat.add_zero, Bool.false_eq_true, ↓reduceIte, f_X12_book, hx, rShown hA (show S 12 < 2147483648 by omega), isIn_in, rEntry1 hA hj2 hi]
        rw [dv8, rm8]; rfl
      · simp (maxSteps := 1000000) (disch := omega) only [li, ob1_s, ob2_s, ob3_s, ob4_s, ob5_s, ob6_s, ob7_s, gA_n, gL_n, sA_n, sL_n, cpI_n, nI_add, pk_mul, nsub, nlt_t, nlt_f, nle_t, nle_f, neq_t, neq_f, rmI_n, dvI_n, upd_ne, upd_eq, un_ne, un_eq, Nat.add_zero, Bool.false_eq_true, ↓reduceIte, f_X11_book, f_X1_written, hB.1, hx, f_X1_entryPerson, cEntry hB hi]
        rw [dv8, rm8]; rfl
    · refine ⟨nI (bk S i) - nI (bk S i) / nI 8 * nI 8, ?_, ?_⟩
      rotate_left
      · simp (maxSteps := 1000000) (disch := omega) only [li, ob1_s, ob2_s, ob3_s, ob4_s, ob5_s, ob6_s, ob7_s, gA_n, gL_n, sA_n, sL_n, cpI_n, nI_add, pk_mul, nsub, nlt_t, nlt_f, nle_t, nle_f, neq_t, neq_f, rmI_n, dvI_n, upd_ne, upd_eq, un_ne, un_eq, Nat.add_zero, Bool.false_eq_true, ↓reduceIte, f_X12_book, hx, rShown hA (show S 12 < 2147483648 by omega), isIn_in, rEntry2 hA hj2 hi]
        rw [rm8]; rfl
      · simp (maxSteps := 1000000) (disch := omega) only [li, ob1_s, ob2_s, ob3_s, ob4_s, ob5_s, ob6_s, ob7_s, gA_n, gL_n, sA_n, sL_n, cpI_n, nI_add, pk_mul, nsub, nlt_t, nlt_f, nle_t, nle_f, neq_t, neq_f, rmI_n, dvI_n, upd_ne, upd_eq, un_ne, un_eq, Nat.add_zero, Bool.false_eq_true, ↓reduceIte, f_X11_book, f_X1_written, hB.1, hx, f_X1_entryWhat, cEntry hB hi]
        rw [rm8]; rfl
theorem st_ofLand {j : Nat} {dn : Int32} {df dr row fe to : Nat → Int32} {cnt next : Int32} {store : Nat → Int32} {calls bord rep unl pay : Int32} {cl ul ga py pr : Nat → Int32} {tx rul : Int32} {a : Nat → Int32} {S : Nat → Nat} {N : Nat} (hN : 100 ≤ N) (x y : Int32) (h : RealmT j dn df dr row fe to cnt next store calls bord rep unl pay cl ul ga py pr tx rul a S) : ∃ r : Int32, f_X11_ofLand N dn df dr row x y = some r ∧ f_X12_ofLand N a x y = some r := by
  obtain ⟨hA, hL, hR, hW, hF, hB, hZ, hQ, hI, hj⟩ := h
  obtain ⟨h1, h2, h3, h4, h5, h6⟩ := id hL
  subst h1
  rcases inOut x (S 0) (by omega) with hx | ⟨l, hl, rfl⟩
  · refine ⟨-1, ?_, ?_⟩
    · simp only [f_X11_ofLand, cLand_out h2 hx, li, ob1_s, ↓reduceIte]
    · simp only [f_X12_ofLand, rLand_out hA h2 hx, li, ob1_s, ↓reduceIte]
  rcases inOut y 3 (by omega) with ho | ⟨k, hk, rfl⟩
  · refine ⟨-1, ?_, ?_⟩ <;> have n0 := out_ne ho (show 0 < 3 by omega) (by omega) <;> have n1 := out_ne ho (show 1 < 3 by omega) (by omega) <;> have n2 := out_ne ho (show 2 < 3 by omega) (by omega)
    · simp (maxSteps := 1000000) (disch := omega) only [li, ob1_s, ob2_s, ob3_s, ob4_s, ob5_s, ob6_s, ob7_s, gA_n, gL_n, sA_n, sL_n, cpI_n, nI_add, pk_mul, nsub, nlt_t, nlt_f, nle_t, nle_f, neq_t, neq_f, rmI_n, dvI_n, upd_ne, upd_eq, un_ne, un_eq, Nat.add_zero, Bool.false_eq_true, ↓reduceIte, f_X11_ofLand, cLand_in, n0, n1, n2]
    · simp (maxSteps := 1000000) (disch := omega) only [li, ob1_s, ob2_s, ob3_s, ob4_s, ob5_s, ob6_s, ob7_s, gA_n, gL_n, sA_n, sL_n, cpI_n, nI_add, pk_mul, nsub, nlt_t, nlt_f, nle_t, nle_f, neq_t, neq_f, rmI_n, dvI_n, upd_ne, upd_eq, un_ne, un_eq, Nat.add_zero, Bool.false_eq_true, ↓reduceIte, f_X12_ofLand, rLand_in hA h2, n0, n1, n2]
  · rcases (show k = 0 ∨ k = 1 ∨ k = 2 by omega) with q | q | q <;> subst q
    · refine ⟨nI (S (80 + l)), ?_, ?_⟩
      · simp (maxSteps := 1000000) (disch := omega) only [li, ob1_s, ob2_s, ob3_s, ob4_s, ob5_s, ob6_s, ob7_s, gA_n, gL_n, sA_n, sL_n, cpI_n, nI_add, pk_mul, nsub, nlt_t, nlt_f, nle_t, nle_f, neq_t, neq_f, rmI_n, dvI_n, upd_ne, upd_eq, un_ne, un_eq, Nat.add_zero, Bool.false_eq_true, ↓reduceIte, f_X11_ofLand, cLand_in, f_X2_forestOf, (h3 l hl).1]
      · simp (maxSteps := 1000000) (disch := omega) only [li, ob1_s, ob2_s, ob3_s, ob4_s, ob5_s, ob6_s, ob7_s, gA_n, gL_n, sA_n, sL_n, cpI_n, nI_add, pk_mul, nsub, nlt_t, nlt_f, nle_t, nle_f, neq_t, neq_f, rmI_n, dvI_n, upd_ne, upd_eq, un_ne, un_eq, Nat.add_zero, Bool.false_eq_true, ↓reduceIte, f_X12_ofLand, rLand_in hA h2, hA.2]
    · refine ⟨nI (S (88 + l)), ?_, ?_⟩
      · simp (maxSteps := 1000000) (disch := omega) only [li, ob1_s, ob2_s, ob3_s, ob4_s, ob5_s, ob6_s, ob7_s, gA_n, gL_n, sA_n, sL_n, cpI_n, nI_add, pk_mul, nsub, nlt_t, nlt_f, nle_t, nle_f, neq_t, neq_f, rmI_n, dvI_n, upd_ne, upd_eq, un_ne, un_eq, Nat.add_zero, Bool.false_eq_true, ↓reduceIte, f_X11_ofLand, cLand_in, f_X2_near, (h4 l hl).1]
      · simp (maxSteps := 1000000) (disch := omega) only [li, ob1_s, ob2_s, ob3_s, ob4_s, ob5_s, ob6_s, ob7_s, gA_n, gL_n, sA_n, sL_n, cpI_n, nI_add, pk_mul, nsub, nlt_t, nlt_f, nle_t, nle_f, neq_t, neq_f, rmI_n, dvI_n, upd_ne, upd_eq, un_ne, un_eq, Nat.add_zero, Bool.false_eq_true, ↓reduceIte, f_X12_ofLand, rLand_in hA h2, hA.2]
    · refine ⟨nI (bset (qIn S l 99) (S 1)), ?_, ?_⟩
      · have e := cOthers (N := N) (l := l) (b := 99) (but := -nI 1) hR hW.x (by omega) (fun p hp => ⟨fun h => absurd h (m1_ne (by omega)), fun h => by omega⟩) h2 hN
        simp (maxSteps := 1000000) (disch := omega) only [li, ob1_s, ob2_s, ob3_s, ob4_s, ob5_s, ob6_s, ob7_s, gA_n, gL_n, sA_n, sL_n, cpI_n, nI_add, pk_mul, nsub, nlt_t, nlt_f, nle_t, nle_f, neq_t, neq_f, rmI_n, dvI_n, upd_ne, upd_eq, un_ne, un_eq, Nat.add_zero, Bool.false_eq_true, ↓reduceIte, f_X11_ofLand, cLand_in, e]
      · simp (maxSteps := 1000000) (disch := omega) only [li, ob1_s, ob2_s, ob3_s, ob4_s, ob5_s, ob6_s, ob7_s, gA_n, gL_n, sA_n, sL_n, cpI_n, nI_add, pk_mul, nsub, nlt_t, nlt_f, nle_t, nle_f, neq_t, neq_f, rmI_n, dvI_n, upd_ne, upd_eq, un_ne, un_eq, Nat.add_zero, Bool.false_eq_true, ↓reduceIte, f_X12_ofLand, rLand_in hA h2, rAlive hA hW.x (show l < 2147483648 by omega) h2 hN]
theorem st_heirs {j : Nat} {dn : Int32} {df dr row fe to : Nat → Int32} {cnt next : Int32} {store : Nat → Int32} {calls bord rep unl pay : Int32} {cl ul ga py pr : Nat → Int32} {tx rul : Int32} {a : Nat → Int32} {S : Nat → Nat} {N : Nat} (hN : 100 ≤ N) (x : Int32) (h : RealmT j dn df dr row fe to cnt next store calls bord rep unl pay cl ul ga py pr tx rul a S) : ∃ r : Int32, f_X11_heirs N row x = some r ∧ f_X12_heirs N a x = some r := by
  obtain ⟨hA, hL, hR, hW, hF, hB, hZ, hQ, hI, hj⟩ := h
  have w1 := hW.1
  have h2 := hL.2.1
  rcases inOut x (S 1) (by omega) with hx | ⟨p, hp, rfl⟩
  · refine ⟨-1, ?_, ?_⟩
    · simp only [f_X11_heirs, cPers_out hR hx, li, ob1_s, ↓reduceIte]
    · simp only [f_X12_heirs, rPers_out hA w1 hx, li, ob1_s, ↓reduceIte]
  · obtain ⟨p0, -⟩ := hW.part hp
    refine ⟨nI (bset (qIn S (S (14 + 11 * p)) p) (S 1)), ?_, ?_⟩
    · have e := cOthers (N := N) (l := S (14 + 11 * p)) (b := p) (but := nI p) hR hW.x (by omega) (fun q hq => neq (by omega) (by omega)) h2 hN
      simp (maxSteps := 1000000) (disch := omega) only [li, ob1_s, ob2_s, ob3_s, ob4_s, ob5_s, ob6_s, ob7_s, gA_n, gL_n, sA_n, sL_n, cpI_n, nI_add, pk_mul, nsub, nlt_t, nlt_f, nle_t, nle_f, neq_t, neq_f, rmI_n, dvI_n, upd_ne, upd_eq, un_ne, un_eq, Nat.add_zero, Bool.false_eq_true, ↓reduceIte, f_X11_heirs, cPers_in hR w1, cget hR w1, e]
    · have e := rAlive (N := N) hA hW.x (show S (14 + 11 * p) < 2147483648 by omega) h2 hN
      have c := ncom (bset (qIn S (S (14 + 11 * p)) 99) (S 1)) (2 ^ p)
      rw [alive_but _ _ _ _ w1] at c
      have c : nI (bset (qIn S (S (14 + 11 * p)) 99) (S 1)) &&& (nI (2 ^ p) ^^^ -nI 1) = nI (bset (qIn S (S (14 + 11 * p)) p) (S 1)) := c
      simp (maxSteps := 1000000) (disch := omega) only [li, ob1_s, ob2_s, ob3_s, ob4_s, ob5_s, ob6_s, ob7_s, gA_n, gL_n, sA_n, sL_n, cpI_n, nI_add, pk_mul, nsub, nlt_t, nlt_f, nle_t, nle_f, neq_t, neq_f, rmI_n, dvI_n, upd_ne, upd_eq, un_ne, un_eq, Nat.add_zero, Bool.false_eq_true, ↓reduceIte, f_X12_heirs, rPers_in hA w1, rget hA, e, nshl1, c]
theorem st_wolves {j : Nat} {dn : Int32} {df dr row fe to : Nat → Int32} {cnt next : Int32} {store : Nat → Int32} {calls bord rep unl pay : Int32} {cl ul ga py pr : Nat → Int32} {tx rul : Int32} {a : Nat → Int32} {S : Nat → Nat} {N : Nat} (hN : 100 ≤ N) (h : RealmT j dn df dr row fe to cnt next store calls bord rep unl pay cl ul ga py pr tx rul a S) : ∃ r : Int32, f_X11_wolves N row = some r ∧ f_X12_wolves N a = some r := by
  obtain ⟨hA, hL, hR, hW, hF, hB, hZ, hQ, hI, hj⟩ := h
  exact ⟨_, by simp only [f_X11_wolves, cOutlaws hR hW.x hN, ob1_s], rWolves hA hW.x hN⟩
theorem alive_wolves (S : Nat → Nat) (l p m W : Nat) (hm : m ≤ 6) : nI (bset (qIn S l 99) m &&& W) &&& (nI (2 ^ p) ^^^ -nI 1) = nI (bset (qIn S l p) m &&& W) := by
  have c : nI (bset (qIn S l 99) m &&& W) &&& (nI (2 ^ p) ^^^ -nI 1) = nI (nd (bset (qIn S l 99) m &&& W) (2 ^ p)) := ncom _ _
  rw [c, ← alive_but S l p m hm]
  apply congrArg nI
  apply Nat.eq_of_testBit_eq
  intro i
  rw [nd_bit, Nat.testBit_and, Nat.testBit_and, nd_bit]
  cases (bset (qIn S l 99) m).testBit i <;> cases W.testBit i <;> cases (2 ^ p).testBit i <;> rfl
theorem cF_end {N n : Nat} {row : Nat → Int32} {S : Nat → Nat} (hR : RowC row S) (w1 : S 1 ≤ 6) (v b m : Int32) : f_X11_feared_15 N (n + 1) row v b m (nI (S 1)) = some b := by
  simp (maxSteps := 1000000) (disch := omega) only [li, ob1_s, ob2_s, ob3_s, ob4_s, ob5_s, ob6_s, ob7_s, gA_n, gL_n, sA_n, sL_n, cpI_n, nI_add, pk_mul, nsub, nlt_t, nlt_f, nle_t, nle_f, neq_t, neq_f, rmI_n, dvI_n, upd_ne, upd_eq, un_ne, un_eq, Nat.add_zero, Bool.false_eq_true, ↓reduceIte, f_X11_feared_15, f_X1_count, hR.2.2.1]
theorem rF_end {N n : Nat} {a : Nat → Int32} {S : Nat → Nat} (hA : TieA a S) (w1 : S 1 ≤ 6) (b m : Int32) : f_X12_feared_6 N (n + 1) a b m (nI (S 1)) = some b := by
  simp (maxSteps := 1000000) (disch := omega) only [li, ob1_s, ob2_s, ob3_s, ob4_s, ob5_s, ob6_s, ob7_s, gA_n, gL_n, sA_n, sL_n, cpI_n, nI_add, pk_mul, nsub, nlt_t, nlt_f, nle_t, nle_f, neq_t, neq_f, rmI_n, dvI_n, upd_ne, upd_eq, un_ne, un_eq, Nat.add_zero, Bool.false_eq_true, ↓reduceIte, f_X12_feared_6, hA.2]
theorem cF_dead {N n p : Nat} {row : Nat → Int32} {S : Nat → Nat} (hR : RowC row S) (hW : FolkW S) (hp : p < S 1) (a3 : S (14 + 11 * p + 6) = 3) (v b m : Int32) : f_X11_feared_15 N (n + 1) row v b m (nI p) = f_X11_feared_15 N n row v b m (nI (p + 1)) := by
  have w1 := hW.1
  rw [f_X11_feared_15]
  generalize f_J6_bitCount_0f7a4 = F
  simp (maxSteps := 1000000) (disch := omega) only [li, ob1_s, ob2_s, ob3_s, ob4_s, ob5_s, ob6_s, ob7_s, gA_n, gL_n, sA_n, sL_n, cpI_n, nI_add, pk_mul, nsub, nlt_t, nlt_f, nle_t, nle_f, neq_t, neq_f, rmI_n, dvI_n, upd_ne, upd_eq, un_ne, un_eq, Nat.add_zero, Bool.false_eq_true, ↓reduceIte, f_X11_feared_87, f_X1_count, hR.2.2.1, cget hR w1, a3]
theorem rF_dead {N n p : Nat} {a : Nat → Int32} {S : Nat → Nat} (hA : TieA a S) (hW : FolkW S) (hp : p < S 1) (a3 : S (14 + 11 * p + 6) = 3) (b m : Int32) : f_X12_feared_6 N (n + 1) a b m (nI p) = f_X12_feared_6 N n a b m (nI (p + 1)) := by
  have w1 := hW.1
  simp (maxSteps := 1000000) (disch := omega) only [li, ob1_s, ob2_s, ob3_s, ob4_s, ob5_s, ob6_s, ob7_s, gA_n, gL_n, sA_n, sL_n, cpI_n, nI_add, pk_mul, nsub, nlt_t, nlt_f, nle_t, nle_f, neq_t, neq_f, rmI_n, dvI_n, upd_ne, upd_eq, un_ne, un_eq, Nat.add_zero, Bool.false_eq_true, ↓reduceIte, f_X12_feared_6, f_X12_feared_71, hA.2, rget hA, a3]
theorem cF_live {N n p m : Nat} {row : Nat → Int32} {S : Nat → Nat} (hR : RowC row S) (hW : FolkW S) (h2 : S 0 ≤ 8) (hN : 100 ≤ N) (hp : p < S 1) (a3 : S (14 + 11 * p + 6) ≠ 3) (hm : m ≤ 8) (b : Int32) : f_X11_feared_15 N (n + 1) row (nI (bset (qOut S) (S 1))) b (nI m) (nI p) = if m < pop (bset (qIn S (S (14 + 11 * p)) p) (S 1) &&& bset (qOut S) (S 1)) then f_X11_feared_15 N n row (nI (bset (qOut S) (S 1))) (nI p) (nI (pop (bset (qIn S (S (14 + 11 * p)) p) (S 1) &&& bset (qOut S) (S 1)))) (nI (p + 1)) else f_X11_feared_15 N n row (nI (bset (qOut S) (S 1))) b (nI m) (nI (p + 1)) := by
  have w1 := hW.1
  obtain ⟨p0, p1, p2, p3, p4, p5, p6⟩ := hW.part hp
  have eo := bset_b (q := qIn S (S (14 + 11 * p)) p) w1
  have e1 := cOthers (N := N) (l := S (14 + 11 * p)) (b := p) (but := nI p) hR hW.x (by omega) (fun q hq => neq (by omega) (by omega)) h2 hN
  have hv : bset (qIn S (S (14 + 11 * p)) p) (S 1) &&& bset (qOut S) (S 1) < 256 := Nat.lt_of_le_of_lt Nat.and_le_left (by omega)
  have hpl := pop_le (bset (qIn S (S (14 + 11 * p)) p) (S 1) &&& bset (qOut S) (S 1))
  have c1 := cBits (N := N) hv
  by_cases hlt : m < pop (bset (qIn S (S (14 + 11 * p)) p) (S 1) &&& bset (qOut S) (S 1))
  · rw [if_pos hlt]
    rw [f_X11_feared_15]
    generalize f_J6_bitCount_0f7a4 = F at c1 ⊢
    simp (maxSteps := 1000000) (disch := omega) only [li, ob1_s, ob2_s, ob3_s, ob4_s, ob5_s, ob6_s, ob7_s, gA_n, gL_n, sA_n, sL_n, cpI_n, nI_add, pk_mul, nsub, nlt_t, nlt_f, nle_t, nle_f, neq_t, neq_f, rmI_n, dvI_n, upd_ne, upd_eq, un_ne, un_eq, Nat.add_zero, Bool.false_eq_true, ↓reduceIte, f_X11_feared_87, f_X1_count, hR.2.2.1, cget hR w1, e1, nand, c1]
  · rw [if_neg hlt]
    rw [f_X11_feared_15]
    generalize f_J6_bitCount_0f7a4 = F at c1 ⊢
    simp (maxSteps := 1000000) (disch := omega) only [li, ob1_s, ob2_s, ob3_s, ob4_s, ob5_s, ob6_s, ob7_s, gA_n, gL_n, sA_n, sL_n, cpI_n, nI_add, pk_mul, nsub, nlt_t, nlt_f, nle_t, nle_f, neq_t, neq_f, rmI_n, dvI_n, upd_ne, upd_eq, un_ne, un_eq, Nat.add_zero, Bool.false_eq_true, ↓reduceIte, f_X11_feared_87, f_X1_count, hR.2.2.1, cget hR w1, e1, nand, c1]
theorem rF_live {N n p m : Nat} {a : Nat → Int32} {S : Nat → Nat} (hA : TieA a S) (hW : FolkW S) (h2 : S 0 ≤ 8) (hN : 100 ≤ N) (hp : p < S 1) (a3 : S (14 + 11 * p + 6) ≠ 3) (hm : m ≤ 8) (b : Int32) : f_X12_feared_6 N (n + 1) a b (nI m) (nI p) = if m < pop (bset (qIn S (S (14 + 11 * p)) p) (S 1) &&& bset (qOut S) (S 1)) then f_X12_feared_6 N n a (nI p) (nI (pop (bset (qIn S (S (14 + 11 * p)) p) (S 1) &&& bset (qOut S) (S 1)))) (nI (p + 1)) else f_X12_feared_6 N n a b (nI m) (nI (p + 1)) := by
  have w1 := hW.1
  obtain ⟨p0, p1, p2, p3, p4, p5, p6⟩ := hW.part hp
  have eo := bset_b (q := qIn S (S (14 + 11 * p)) p) w1
  have e2 := rAlive (N := N) hA hW.x (show S (14 + 11 * p) < 2147483648 by omega) h2 hN
  have e3 := alive_wolves S (S (14 + 11 * p)) p (S 1) (bset (qOut S) (S 1)) w1
  have hv : bset (qIn S (S (14 + 11 * p)) p) (S 1) &&& bset (qOut S) (S 1) < 256 := Nat.lt_of_le_of_lt Nat.and_le_left (by omega)
  have hpl := pop_le (bset (qIn S (S (14 + 11 * p)) p) (S 1) &&& bset (qOut S) (S 1))
  have c1 := rBits (N := N) hv hN
  by_cases hlt : m < pop (bset (qIn S (S (14 + 11 * p)) p) (S 1) &&& bset (qOut S) (S 1))
  · rw [if_pos hlt]
    simp (maxSteps := 1000000) (disch := omega) only [li, ob1_s, ob2_s, ob3_s, ob4_s, ob5_s, ob6_s, ob7_s, gA_n, gL_n, sA_n, sL_n, cpI_n, nI_add, pk_mul, nsub, nlt_t, nlt_f, nle_t, nle_f, neq_t, neq_f, rmI_n, dvI_n, upd_ne, upd_eq, un_ne, un_eq, Nat.add_zero, Bool.false_eq_true, ↓reduceIte, f_X12_feared_6, f_X12_feared_71, hA.2, rget hA, e2, rWolves hA hW.x hN, nshl1b, nand, e3, nIl, c1]
  · rw [if_neg hlt]
    simp (maxSteps := 1000000) (disch := omega) only [li, ob1_s, ob2_s, ob3_s, ob4_s, ob5_s, ob6_s, ob7_s, gA_n, gL_n, sA_n, sL_n, cpI_n, nI_add, pk_mul, nsub, nlt_t, nlt_f, nle_t, nle_f, neq_t, neq_f, rmI_n, dvI_n, upd_ne, upd_eq, un_ne, un_eq, Nat.add_zero, Bool.false_eq_true, ↓reduceIte, f_X12_feared_6, f_X12_feared_71, hA.2, rget hA, e2, rWolves hA hW.x hN, nshl1b, nand, e3, nIl, c1]
theorem st_feared {j : Nat} {dn : Int32} {df dr row fe to : Nat → Int32} {cnt next : Int32} {store : Nat → Int32} {calls bord rep unl pay : Int32} {cl ul ga py pr : Nat → Int32} {tx rul : Int32} {a : Nat → Int32} {S : Nat → Nat} {N : Nat} (hN : 100 ≤ N) (h : RealmT j dn df dr row fe to cnt next store calls bord rep unl pay cl ul ga py pr tx rul a S) : ∃ r : Int32, f_X11_feared N row = some r ∧ f_X12_feared N a = some r := by
  obtain ⟨hA, hL, hR, hW, hF, hB, hZ, hQ, hI, hj⟩ := h
  have w1 := hW.1
  have h2 := hL.2.1
  have key : ∀ k n p (b : Int32) m, p + k = S 1 → k < n → m ≤ 8 → ∃ r, f_X11_feared_15 N n row (nI (bset (qOut S) (S 1))) b (nI m) (nI p) = some r ∧ f_X12_feared_6 N n a b (nI m) (nI p) = some r := by
    intro k
    induction k with
    | zero =>
      intro n p b m e hn hm
      obtain ⟨n, rfl⟩ : ∃ m, n = m + 1 := ⟨n - 1, by omega⟩
      have e : p = S 1 := by omega
      rw [e]
      exact ⟨b, cF_end hR w1 _ _ _, rF_end hA w1 _ _⟩
    | succ k ih =>
      intro n p b m e hn hm
      obtain ⟨n, rfl⟩ : ∃ m, n = m + 1 := ⟨n - 1, by omega⟩
      have hp : p < S 1 := by omega
      by_cases a3 : S (14 + 11 * p + 6) = 3
      · rw [cF_dead hR hW hp a3, rF_dead hA hW hp a3]
        exact ih n (p + 1) b m (by omega) (by omega) hm
      · rw [cF_live hR hW h2 hN hp a3 hm, rF_live hA hW h2 hN hp a3 hm]
        split
        · exact ih n (p + 1) _ _ (by omega) (by omega) (pop_le _)
        · exact ih n (p + 1) b m (by omega) (by omega) hm
  have g := key (S 1) N 0 (-nI 1) 0 (by omega) (by omega) (by omega)
  simp only [f_X11_feared, f_X12_feared, li, cOutlaws hR hW.x hN, ob1_s]
  exact g
