/-! heads: the least colouring that a search finds -/
def fitb (U c : Nat → Nat) (r h : Nat) : Bool := decide (∀ k, k < r → c k = h → (U k).testBit r = false)
def fst1 (g : Nat → Option (Nat → Nat)) : Nat → Nat → Option (Nat → Nat)
  | 0, _ => none
  | m + 1, h => (g h).elim (fst1 g m (h + 1)) some
theorem fst1_z {g : Nat → Option (Nat → Nat)} {h : Nat} : fst1 g 0 h = none := rfl
theorem fst1_n {g : Nat → Option (Nat → Nat)} {m h : Nat} (e : g h = none) : fst1 g (m + 1) h = fst1 g m (h + 1) := by
  show (g h).elim (fst1 g m (h + 1)) some = _
  rw [e]; rfl
theorem fst1_s {g : Nat → Option (Nat → Nat)} {m h : Nat} {d : Nat → Nat} (e : g h = some d) : fst1 g (m + 1) h = some d := by
  show (g h).elim (fst1 g m (h + 1)) some = _
  rw [e]; rfl
theorem fst1_no {g : Nat → Option (Nat → Nat)} : ∀ m h, (∀ t, h ≤ t → t < h + m → g t = none) → fst1 g m h = none := by
  intro m
  induction m with
  | zero => intro h _; rfl
  | succ m ih =>
    intro h e
    rw [fst1_n (e h (by omega) (by omega))]
    exact ih (h + 1) (fun t h1 h2 => e t (by omega) (by omega))
theorem fst1_all {g : Nat → Option (Nat → Nat)} : ∀ m h, fst1 g m h = none → ∀ t, h ≤ t → t < h + m → g t = none := by
  intro m
  induction m with
  | zero => intro h _ t h1 h2; omega
  | succ m ih =>
    intro h e t h1 h2
    cases hg : g h with
    | some d => rw [fst1_s hg] at e; cases e
    | none =>
      rw [fst1_n hg] at e
      by_cases q : t = h
      · subst q; exact hg
      · exact ih (h + 1) e t (by omega) (by omega)
theorem fst1_ex {g : Nat → Option (Nat → Nat)} {d : Nat → Nat} : ∀ m h, fst1 g m h = some d → ∃ t, h ≤ t ∧ t < h + m ∧ g t = some d := by
  intro m
  induction m with
  | zero => intro h e; cases e
  | succ m ih =>
    intro h e
    cases hg : g h with
    | some d' =>
      rw [fst1_s hg] at e
      cases e
      exact ⟨h, by omega, by omega, hg⟩
    | none =>
      rw [fst1_n hg] at e
      obtain ⟨t, h1, h2, h3⟩ := ih (h + 1) e
      exact ⟨t, by omega, by omega, h3⟩
theorem fst1_at {g : Nat → Option (Nat → Nat)} {d : Nat → Nat} {t : Nat} (hg : g t = some d) : ∀ m h, h ≤ t → t < h + m → (∀ s, h ≤ s → s < t → g s = none) → fst1 g m h = some d := by
  intro m
  induction m with
  | zero => intro h h1 h2; omega
  | succ m ih =>
    intro h h1 h2 h3
    by_cases q : h = t
    · subst q; exact fst1_s hg
    · rw [fst1_n (h3 h (by omega) (by omega))]
      exact ih (h + 1) (by omega) (by omega) (fun s a b => h3 s (by omega) b)
def lx (U : Nat → Nat) (n : Nat) : Nat → Nat → (Nat → Nat) → Option (Nat → Nat)
  | 0, _, c => some c
  | k + 1, r, c => fst1 (fun h => if fitb U c r h = true then lx U n k (r + 1) (un c r h) else none) n 0
def lxg (U : Nat → Nat) (n k r : Nat) (c : Nat → Nat) : Nat → Option (Nat → Nat) := fun h => if fitb U c r h = true then lx U n k (r + 1) (un c r h) else none
theorem lx_z {U : Nat → Nat} {n r : Nat} {c : Nat → Nat} : lx U n 0 r c = some c := rfl
theorem lx_k {U : Nat → Nat} {n k r : Nat} {c : Nat → Nat} : lx U n (k + 1) r c = fst1 (lxg U n k r c) n 0 := rfl
theorem fitb_cg {U c d : Nat → Nat} {r h : Nat} (e : ∀ i, i < r → d i = c i) : fitb U d r h = fitb U c r h := by
  unfold fitb
  congr 1
  exact propext ⟨fun q k hk he => q k hk (by rw [e k hk]; exact he), fun q k hk he => q k hk (by rw [← e k hk]; exact he)⟩
theorem lx_ok {U : Nat → Nat} {n : Nat} : ∀ k r c d, lx U n k r c = some d → (∀ i, i < r → d i = c i) ∧ ∀ i, r ≤ i → i < r + k → d i < n ∧ fitb U d i (d i) = true := by
  intro k
  induction k with
  | zero =>
    intro r c d e
    cases e
    exact ⟨fun _ _ => rfl, fun i h1 h2 => by omega⟩
  | succ k ih =>
    intro r c d e
    rw [lx_k] at e
    obtain ⟨t, -, h2, h3⟩ := fst1_ex n 0 e
    unfold lxg at h3
    by_cases hf : fitb U c r t = true
    · rw [if_pos hf] at h3
      obtain ⟨g1, g2⟩ := ih (r + 1) (un c r t) d h3
      have a1 : ∀ i, i < r → d i = c i := fun i hi => by rw [g1 i (by omega), un_ne (by omega)]
      have a2 : d r = t := by rw [g1 r (by omega), un_eq rfl]
      refine ⟨a1, fun i h1 h4 => ?_⟩
      by_cases q : i = r
      · subst q
        rw [a2, fitb_cg a1]
        exact ⟨by omega, hf⟩
      · exact g2 i (by omega) (by omega)
    · rw [if_neg hf] at h3; cases h3
theorem lx_no {U : Nat → Nat} {n : Nat} : ∀ k r c, lx U n k r c = none → ∀ d : Nat → Nat, (∀ i, i < r → d i = c i) → (∀ i, r ≤ i → i < r + k → d i < n ∧ fitb U d i (d i) = true) → False := by
  intro k
  induction k with
  | zero => intro r c e; cases e
  | succ k ih =>
    intro r c e d h1 h2
    rw [lx_k] at e
    obtain ⟨a1, a2⟩ := h2 r (by omega) (by omega)
    have a3 := fst1_all n 0 e (d r) (by omega) (by omega)
    unfold lxg at a3
    rw [fitb_cg h1] at a2
    rw [if_pos a2] at a3
    refine ih (r + 1) _ a3 d (fun i hi => ?_) (fun i g1 g2 => h2 i (by omega) (by omega))
    by_cases q : i = r
    · subst q; rw [un_eq rfl]
    · rw [un_ne q]; exact h1 i (by omega)
def swp (u h x : Nat) : Nat := if x = u then h else if x = h then u else x
theorem swp_inj {u h x y : Nat} (e : swp u h x = swp u h y) : x = y := by
  unfold swp at e
  split at e <;> split at e <;> (try split at e) <;> (try split at e) <;> omega
theorem lx_swap {U : Nat → Nat} {n k r u h : Nat} {c : Nat → Nat} (hc : ∀ i, i < r → c i < u) (hu : u < h) (hh : h < n) (e : lx U n k (r + 1) (un c r u) = none) : lx U n k (r + 1) (un c r h) = none := by
  cases hd : lx U n k (r + 1) (un c r h) with
  | none => rfl
  | some d =>
    exfalso
    obtain ⟨g1, g2⟩ := lx_ok _ _ _ _ hd
    refine lx_no _ _ _ e (fun i => swp u h (d i)) (fun i hi => ?_) (fun i h1 h2 => ⟨?_, ?_⟩)
    · show swp u h (d i) = _
      rw [g1 i hi]
      by_cases q : i = r
      · subst q
        rw [un_eq rfl, un_eq rfl]
        unfold swp
        rw [if_neg (by omega), if_pos rfl]
      · rw [un_ne q, un_ne q]
        have := hc i (by omega)
        unfold swp
        rw [if_neg (by omega), if_neg (by omega)]
    · have := (g2 i h1 h2).1
      show swp u h (d i) < n
      unfold swp
      split
      · omega
      · split <;> omega
    · have q := (g2 i h1 h2).2
      unfold fitb at q ⊢
      rw [decide_eq_true_eq] at q ⊢
      exact fun k hk he => q k hk (swp_inj he)
theorem lx_full {U : Nat → Nat} {n R : Nat} {c : Nat → Nat} (h : R ≤ n) : lx U n R 0 c ≠ none := by
  intro e
  refine lx_no _ _ _ e (fun i => i) (fun i hi => by omega) (fun i h1 h2 => ⟨by omega, ?_⟩)
  unfold fitb
  rw [decide_eq_true_eq]
  intro k hk he
  have he : k = i := he
  omega
theorem cFits {N r h : Nat} {U c : Nat → Nat} {ul ow : Nat → Int32} (hU : ∀ i, i < 8 → ul i = nI (U i) ∧ U i < 256) (hr : r < 8) (hh : h < 100) (ho : ∀ i, i < r → ow i = nI (c i)) (hc : ∀ i, i < r → c i < 100) (hN : 100 ≤ N) : f_X4_fits N ul ow (nI r) (nI h) = some (nI (if fitb U c r h = true then 1 else 0)) := by
  have key : ∀ k n o, o + k = r → k < n → (∀ t, t < o → c t = h → (U t).testBit r = false) → f_X4_fits_2 N n ul ow (nI r) (nI h) (nI o) = some (nI (if fitb U c r h = true then 1 else 0)) := by
    intro k
    induction k with
    | zero =>
      intro n o e hn hi
      obtain ⟨n, rfl⟩ : ∃ m, n = m + 1 := ⟨n - 1, by omega⟩
      have e : o = r := by omega
      subst e
      have hf : fitb U c o h = true := by unfold fitb; rw [decide_eq_true_eq]; exact hi
      rw [if_pos hf]
      simp (maxSteps := 1000000) (disch := omega) only [li, ob1_s, ob2_s, ob3_s, ob4_s, ob5_s, ob6_s, ob7_s, gA_n, gL_n, sA_n, sL_n, cpI_n, nI_add, pk_mul, nsub, nlt_t, nlt_f, nle_t, nle_f, neq_t, neq_f, rmI_n, dvI_n, upd_ne, upd_eq, un_ne, un_eq, Nat.add_zero, Bool.false_eq_true, ↓reduceIte, f_X4_fits_2]
    | succ k ih =>
      intro n o e hn hi
      obtain ⟨n, rfl⟩ : ∃ m, n = m + 1 := ⟨n - 1, by omega⟩
      have o1 := ho o (by omega)
      have c1 := hc o (by omega)
      obtain ⟨u1, u2⟩ := hU o (by omega)
      by_cases a1 : c o = h
      · by_cases a2 : (U o).testBit r = true
        · have hf : ¬ fitb U c r h = true := by
            unfold fitb; rw [decide_eq_true_eq]
            intro q
            have := q o (by omega) a1
            rw [this] at a2; cases a2
          rw [if_neg hf]
          simp (maxSteps := 1000000) (disch := omega) only [li, ob1_s, ob2_s, ob3_s, ob4_s, ob5_s, ob6_s, ob7_s, gA_n, gL_n, sA_n, sL_n, cpI_n, nI_add, pk_mul, nsub, nlt_t, nlt_f, nle_t, nle_f, neq_t, neq_f, rmI_n, dvI_n, upd_ne, upd_eq, un_ne, un_eq, Nat.add_zero, Bool.false_eq_true, ↓reduceIte, f_X4_fits_2, f_X4_fits_33, o1, u1, nbit, a2]
        · have g := ih n (o + 1) (by omega) (by omega) (fun t ht he => by
            by_cases q : t = o
            · subst q; exact Bool.eq_false_iff.mpr a2
            · exact hi t (by omega) he)
          simp (maxSteps := 1000000) (disch := omega) only [li, ob1_s, ob2_s, ob3_s, ob4_s, ob5_s, ob6_s, ob7_s, gA_n, gL_n, sA_n, sL_n, cpI_n, nI_add, pk_mul, nsub, nlt_t, nlt_f, nle_t, nle_f, neq_t, neq_f, rmI_n, dvI_n, upd_ne, upd_eq, un_ne, un_eq, Nat.add_zero, Bool.false_eq_true, ↓reduceIte, f_X4_fits_2, f_X4_fits_33, o1, u1, nbit, a2]
          exact g
      · have g := ih n (o + 1) (by omega) (by omega) (fun t ht he => by
          by_cases q : t = o
          · subst q; exact absurd he a1
          · exact hi t (by omega) he)
        simp (maxSteps := 1000000) (disch := omega) only [li, ob1_s, ob2_s, ob3_s, ob4_s, ob5_s, ob6_s, ob7_s, gA_n, gL_n, sA_n, sL_n, cpI_n, nI_add, pk_mul, nsub, nlt_t, nlt_f, nle_t, nle_f, neq_t, neq_f, rmI_n, dvI_n, upd_ne, upd_eq, un_ne, un_eq, Nat.add_zero, Bool.false_eq_true, ↓reduceIte, f_X4_fits_2, f_X4_fits_33, o1]
        exact g
  exact key r N 0 (by omega) (by omega) (fun t ht => by omega)
theorem cPaint {N R n : Nat} {U : Nat → Nat} {ul : Nat → Int32} (hU : ∀ i, i < 8 → ul i = nI (U i) ∧ U i < 256) (hR : R ≤ 8) (hn : n ≤ 8) (hN : 100 ≤ N) : ∀ k r g (c : Nat → Nat) (ow : Nat → Int32) used, r + k = R → k < g → (∀ i, i < r → ow i = nI (c i)) → (∀ i, i < r → c i < used) → used ≤ r →
    ∃ ow' : Nat → Int32, f_PG N g 0 (nI R) ul ow (nI r) (nI used) (nI n) = some (nI (if lx U n k r c = none then 0 else 1), ow') ∧ (∀ d, lx U n k r c = some d → ∀ i, i < R → ow' i = nI (d i)) ∧ (lx U n k r c = none → ∀ i, i < r → ow' i = nI (c i)) := by
  intro k
  induction k with
  | zero =>
    intro r g c ow used e hg ho hc hu
    obtain ⟨g, rfl⟩ : ∃ m, g = m + 1 := ⟨g - 1, by omega⟩
    have e : r = R := by omega
    subst e
    refine ⟨ow, ?_, fun d hd i hi => ?_, fun q => ?_⟩
    · rw [f_PG, if_pos rfl, if_neg (fun q => by cases q)]
      simp (maxSteps := 1000000) (disch := omega) only [li, ob1_s, ob2_s, ob3_s, ob4_s, ob5_s, ob6_s, ob7_s, gA_n, gL_n, sA_n, sL_n, cpI_n, nI_add, pk_mul, nsub, nlt_t, nlt_f, nle_t, nle_f, neq_t, neq_f, rmI_n, dvI_n, upd_ne, upd_eq, un_ne, un_eq, Nat.add_zero, Bool.false_eq_true, ↓reduceIte, f_X4_paintB, f_X4_reported]
    · cases hd; exact ho i hi
    · cases q
  | succ k ih =>
    intro r g c ow used e hg ho hc hu
    obtain ⟨g, rfl⟩ : ∃ m, g = m + 1 := ⟨g - 1, by omega⟩
    have key : ∀ m h f (ow : Nat → Int32), (h + m = n ∨ h + m = used + 1) → h + m ≤ n → h + m ≤ used + 1 → m < f → (∀ i, i < r → ow i = nI (c i)) → (∀ t, t < h → lxg U n k r c t = none) →
        ∃ ow' : Nat → Int32, f_X4_paintB_13 N (f_PG N g) f (nI R) ul ow (nI r) (nI used) (nI n) (nI h) = some (nI (if lx U n (k + 1) r c = none then 0 else 1), ow') ∧ (∀ d, lx U n (k + 1) r c = some d → ∀ i, i < R → ow' i = nI (d i)) ∧ (lx U n (k + 1) r c = none → ∀ i, i < r → ow' i = nI (c i)) := by
      intro m
      induction m with
      | zero =>
        intro h f ow e1 e2 e3 hf ho hi
        obtain ⟨f, rfl⟩ : ∃ m, f = m + 1 := ⟨f - 1, by omega⟩
        have hno : lx U n (k + 1) r c = none := by
          rw [lx_k]
          refine fst1_no n 0 (fun t _ ht => ?_)
          by_cases q : t < h
          · exact hi t q
          · have e4 : h = used + 1 := by omega
            have e5 := hi used (by omega)
            unfold lxg at e5 ⊢
            have e6 : fitb U c r used = true := by
              unfold fitb; rw [decide_eq_true_eq]
              intro s hs he
              have := hc s hs
              omega
            rw [if_pos e6] at e5
            rw [lx_swap hc (show used < t by omega) (by omega) e5]
            split <;> rfl
        refine ⟨ow, ?_, fun d hd => (by rw [hno] at hd; cases hd), fun _ => ho⟩
        rw [if_pos hno]
        by_cases q : n ≤ h
        · simp (maxSteps := 1000000) (disch := omega) only [li, ob1_s, ob2_s, ob3_s, ob4_s, ob5_s, ob6_s, ob7_s, gA_n, gL_n, sA_n, sL_n, cpI_n, nI_add, pk_mul, nsub, nlt_t, nlt_f, nle_t, nle_f, neq_t, neq_f, rmI_n, dvI_n, upd_ne, upd_eq, un_ne, un_eq, Nat.add_zero, Bool.false_eq_true, ↓reduceIte, f_X4_paintB_13]
        · simp (maxSteps := 1000000) (disch := omega) only [li, ob1_s, ob2_s, ob3_s, ob4_s, ob5_s, ob6_s, ob7_s, gA_n, gL_n, sA_n, sL_n, cpI_n, nI_add, pk_mul, nsub, nlt_t, nlt_f, nle_t, nle_f, neq_t, neq_f, rmI_n, dvI_n, upd_ne, upd_eq, un_ne, un_eq, Nat.add_zero, Bool.false_eq_true, ↓reduceIte, f_X4_paintB_13]
      | succ m ihm =>
        intro h f ow e1 e2 e3 hf ho hi
        obtain ⟨f, rfl⟩ : ∃ m, f = m + 1 := ⟨f - 1, by omega⟩
        have fi := cFits (N := N) (r := r) (h := h) (c := c) hU (by omega) (by omega) ho (fun i hi => by have := hc i hi; omega) hN
        by_cases a1 : fitb U c r h = true
        · rw [if_pos a1] at fi
          obtain ⟨ow1, g1, g2, g3⟩ := ih (r + 1) g (un c r h) (upd ow r (nI h)) (max used (h + 1)) (by omega) (by omega) (fun i hi => by
            by_cases q : i = r
            · rw [upd_eq q, un_eq q]
            · rw [upd_ne q, un_ne q]; exact ho i (by omega)) (fun i hi => by
            by_cases q : i = r
            · rw [un_eq q]; omega
            · rw [un_ne q]; have := hc i (by omega); omega) (by omega)
          cases hl : lx U n k (r + 1) (un c r h) with
          | some d =>
            have hg : lxg U n k r c h = some d := by unfold lxg; rw [if_pos a1]; exact hl
            have hs : lx U n (k + 1) r c = some d := by
              rw [lx_k]
              exact fst1_at hg n 0 (by omega) (by omega) (fun s _ q => hi s q)
            rw [hl, if_neg (fun q => by cases q)] at g1
            refine ⟨ow1, ?_, fun d' hd' => ?_, fun q => by rw [hs] at q; cases q⟩
            · rw [if_neg (fun q => by rw [hs] at q; cases q)]
              simp (maxSteps := 1000000) (disch := omega) only [li, ob1_s, ob2_s, ob3_s, ob4_s, ob5_s, ob6_s, ob7_s, gA_n, gL_n, sA_n, sL_n, cpI_n, nI_add, pk_mul, nsub, nlt_t, nlt_f, nle_t, nle_f, neq_t, neq_f, rmI_n, dvI_n, upd_ne, upd_eq, un_ne, un_eq, Nat.add_zero, Bool.false_eq_true, ↓reduceIte, f_X4_paintB_13, f_X4_paintB_67, fi, mxI_n, g1]
            · rw [hs] at hd'
              cases hd'
              exact g2 d hl
          | none =>
            have hg : lxg U n k r c h = none := by unfold lxg; rw [if_pos a1]; exact hl
            rw [if_pos hl] at g1
            obtain ⟨ow2, q1, q2, q3⟩ := ihm (h + 1) f ow1 (by omega) (by omega) (by omega) (by omega) (fun i hi => by rw [g3 hl i (by omega), un_ne (by omega)]) (fun t ht => by
              by_cases q : t = h
              · subst q; exact hg
              · exact hi t (by omega))
            refine ⟨ow2, ?_, q2, q3⟩
            simp (maxSteps := 1000000) (disch := omega) only [li, ob1_s, ob2_s, ob3_s, ob4_s, ob5_s, ob6_s, ob7_s, gA_n, gL_n, sA_n, sL_n, cpI_n, nI_add, pk_mul, nsub, nlt_t, nlt_f, nle_t, nle_f, neq_t, neq_f, rmI_n, dvI_n, upd_ne, upd_eq, un_ne, un_eq, Nat.add_zero, Bool.false_eq_true, ↓reduceIte, f_X4_paintB_13, f_X4_paintB_67, fi, mxI_n, g1]
            exact q1
        · rw [if_neg a1] at fi
          have hg : lxg U n k r c h = none := by unfold lxg; rw [if_neg a1]
          obtain ⟨ow2, q1, q2, q3⟩ := ihm (h + 1) f ow (by omega) (by omega) (by omega) (by omega) ho (fun t ht => by
            by_cases q : t = h
            · subst q; exact hg
            · exact hi t (by omega))
          refine ⟨ow2, ?_, q2, q3⟩
          simp (maxSteps := 1000000) (disch := omega) only [li, ob1_s, ob2_s, ob3_s, ob4_s, ob5_s, ob6_s, ob7_s, gA_n, gL_n, sA_n, sL_n, cpI_n, nI_add, pk_mul, nsub, nlt_t, nlt_f, nle_t, nle_f, neq_t, neq_f, rmI_n, dvI_n, upd_ne, upd_eq, un_ne, un_eq, Nat.add_zero, Bool.false_eq_true, ↓reduceIte, f_X4_paintB_13, f_X4_paintB_67, fi]
          exact q1
    obtain ⟨ow', q1, q2, q3⟩ := key (min n (used + 1)) 0 N ow (by omega) (by omega) (by omega) (by omega) ho (fun t ht => by omega)
    refine ⟨ow', ?_, q2, q3⟩
    rw [f_PG, if_pos rfl]
    simp (maxSteps := 1000000) (disch := omega) only [li, ob1_s, ob2_s, ob3_s, ob4_s, ob5_s, ob6_s, ob7_s, gA_n, gL_n, sA_n, sL_n, cpI_n, nI_add, pk_mul, nsub, nlt_t, nlt_f, nle_t, nle_f, neq_t, neq_f, rmI_n, dvI_n, upd_ne, upd_eq, un_ne, un_eq, Nat.add_zero, Bool.false_eq_true, ↓reduceIte, f_X4_paintB, f_X4_reported]
    exact q1
