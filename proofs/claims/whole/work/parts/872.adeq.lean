/-! the reference's code, on stacks as lists -/
def gs (v : Nat) : Nat := if v = 3 then 0 else if v < 3 then v + 1 else v
theorem gs_sg : ∀ m, m < 10 → gs (sg m) = m ∧ sg m < 10 := by decide
def rstep (nv : Nat → Nat) (fv : Int → Nat) (o v : Nat) (vs : List Int) (ts : List Bool) : Option (List Int × List Bool) :=
    if o = 0 then (if v ≤ 9999 then some ((v : Int) :: vs, ts) else none)
    else if o = 1 then (if v < 10 then some ((nv (gs v) : Int) :: vs, ts) else none)
    else if o = 4 then (match vs, ts with
      | y :: x :: vs, b :: ts => some ((if b = true then x else y) :: vs, ts)
      | _, _ => none)
    else if o ≤ 5 then (match vs with
      | z :: vs => some (pre1 fv o z :: vs, ts)
      | _ => none)
    else if o < 10 then (match vs with
      | y :: x :: vs => some (two2 o x y :: vs, ts)
      | _ => none)
    else if o < 16 then (match vs with
      | y :: x :: vs => some (vs, ask2 o x y :: ts)
      | _ => none)
    else if o = 20 then (match ts with
      | b :: ts => some (vs, (!b) :: ts)
      | _ => none)
    else if o = 21 then (match ts with
      | c :: b :: ts => some (vs, (b && c) :: ts)
      | _ => none)
    else if o = 22 then (match ts with
      | c :: b :: ts => some (vs, (b || c) :: ts)
      | _ => none)
    else none
def rrun (nv : Nat → Nat) (fv : Int → Nat) : List (Nat × Nat) → List Int → List Bool → Option (List Int × List Bool)
  | [], vs, ts => some (vs, ts)
  | p :: R, vs, ts => (rstep nv fv p.1 p.2 vs ts).bind fun s => rrun nv fv R s.1 s.2
theorem rrun_app {nv : Nat → Nat} {fv : Int → Nat} (R2 : List (Nat × Nat)) : ∀ (R1 : List (Nat × Nat)) (vs : List Int) (ts : List Bool), rrun nv fv (R1 ++ R2) vs ts = (rrun nv fv R1 vs ts).bind fun s => rrun nv fv R2 s.1 s.2 := by
  intro R1
  induction R1 with
  | nil => intro vs ts; rfl
  | cons p R1 ih =>
    intro vs ts
    show (rstep nv fv p.1 p.2 vs ts).bind (fun s => rrun nv fv (R1 ++ R2) s.1 s.2) = ((rstep nv fv p.1 p.2 vs ts).bind fun s => rrun nv fv R1 s.1 s.2).bind fun s => rrun nv fv R2 s.1 s.2
    cases rstep nv fv p.1 p.2 vs ts with
    | none => rfl
    | some s => exact ih s.1 s.2
def ValS (values : Nat → Int64) : List Int → Prop
  | [] => True
  | z :: vs => values vs.length = lI z ∧ bd z ∧ ValS values vs
def TruS (truth : Nat → Int32) : List Bool → Prop
  | [] => True
  | b :: ts => truth ts.length = (if b = true then nI 1 else nI 0) ∧ TruS truth ts
theorem ValS.up {values : Nat → Int64} {x : Int64} : ∀ {vs : List Int} {k : Nat}, ValS values vs → vs.length ≤ k → ValS (vp_updL values k x) vs := by
  intro vs
  induction vs with
  | nil => intro k _ _; trivial
  | cons z vs ih =>
    intro k h hk
    have hk : vs.length + 1 ≤ k := hk
    refine ⟨?_, h.2.1, ih h.2.2 (by omega)⟩
    rw [pk_uLn (by omega)]; exact h.1
theorem ValS.push {values : Nat → Int64} {vs : List Int} {z : Int} (h : ValS values vs) (hz : bd z) : ValS (vp_updL values vs.length (lI z)) (z :: vs) := ⟨pk_uLs, hz, h.up (Nat.le_refl _)⟩
theorem TruS.up {truth : Nat → Int32} {x : Int32} : ∀ {ts : List Bool} {k : Nat}, TruS truth ts → ts.length ≤ k → TruS (upd truth k x) ts := by
  intro ts
  induction ts with
  | nil => intro k _ _; trivial
  | cons z ts ih =>
    intro k h hk
    have hk : ts.length + 1 ≤ k := hk
    refine ⟨?_, ih h.2 (by omega)⟩
    rw [upd_ne (by omega)]; exact h.1
theorem TruS.push {truth : Nat → Int32} {ts : List Bool} (b : Bool) (h : TruS truth ts) : TruS (upd truth ts.length (if b = true then nI 1 else nI 0)) (b :: ts) := ⟨upd_eq rfl, h.up (Nat.le_refl _)⟩
def RCd (vt : Nat → Int32) : Nat → List (Nat × Nat) → Prop
  | _, [] => True
  | b, p :: R => vt b = nI p.1 ∧ vt (b + 1) = nI p.2 ∧ RCd vt (b + 2) R
theorem narB {b : Bool} : vp_nar .boolean (if b = true then nI 1 else nI 0) = if b = true then nI 1 else nI 0 := by cases b <;> decide
theorem rPre {N o : Nat} {a fe : Nat → Int32} {S : Nat → Nat} {z : Int} (hA : TieA a S) (hF : FeaT fe S) (h6 : S 1 ≤ 6) (hN : 100 ≤ N) (ho : o = 2 ∨ o = 3 ∨ o = 5) (hz : bd z) : f_X12_prefixed N a (nI o) (lI z) = some (lI (pre1 (fOf S) o z)) := by
  have hf := rFear (N := N) hA hF h6 hz
  unfold bd at hz
  unfold pre1
  rcases ho with e | e | e <;> subst e
  · rw [if_neg (by decide), if_pos rfl]
    have z0 : (0 : Int64) = lI 0 := by decide
    have lc := lcmp (x := z) (y := 0) ⟨by omega, by omega⟩ ⟨by omega, by omega⟩
    have rb := rBits3 (N := N) (v := z.natAbs) (by omega) hN
    have pl := pop3_le z.natAbs
    have pe : (nI (pop3 z.natAbs)).toInt64 = lI (pop3 z.natAbs : Int) := by rw [nIl (by omega), lI_n]
    by_cases h : 0 ≤ z
    · have n1 : nI 0 ≤ lg_cmp (lI z) (lI 0) := by
        rw [lc]
        by_cases h4 : 0 < z
        · rw [if_pos h4]; decide
        · rw [if_neg h4, if_pos (by omega)]; decide
      rw [lI_n, show ((z.natAbs : Nat) : Int) = z by omega] at rb
      simp (maxSteps := 1000000) (disch := omega) only [li, ob1_s, ob2_s, ob3_s, ob4_s, ob5_s, ob6_s, ob7_s, gA_n, gL_n, sA_n, sL_n, cpI_n, nI_add, pk_mul, nsub, nlt_t, nlt_f, nle_t, nle_f, neq_t, neq_f, rmI_n, dvI_n, upd_ne, upd_eq, un_ne, un_eq, Nat.add_zero, Bool.false_eq_true, ↓reduceIte, f_X12_prefixed, f_X12_prefixed_27, z0, n1, rb, pe]
    · have n1 : ¬ nI 0 ≤ lg_cmp (lI z) (lI 0) := by
        rw [lc, if_neg (by omega), if_neg (by omega)]; decide
      rw [lI_n, show ((z.natAbs : Nat) : Int) = -z by omega] at rb
      simp (maxSteps := 1000000) (disch := omega) only [li, ob1_s, ob2_s, ob3_s, ob4_s, ob5_s, ob6_s, ob7_s, gA_n, gL_n, sA_n, sL_n, cpI_n, nI_add, pk_mul, nsub, nlt_t, nlt_f, nle_t, nle_f, neq_t, neq_f, rmI_n, dvI_n, upd_ne, upd_eq, un_ne, un_eq, Nat.add_zero, Bool.false_eq_true, ↓reduceIte, f_X12_prefixed, f_X12_prefixed_27, z0, n1, lI_neg, rb, pe]
  · rw [if_neg (by decide), if_neg (by decide)]
    simp (maxSteps := 1000000) (disch := omega) only [li, ob1_s, ob2_s, ob3_s, ob4_s, ob5_s, ob6_s, ob7_s, gA_n, gL_n, sA_n, sL_n, cpI_n, nI_add, pk_mul, nsub, nlt_t, nlt_f, nle_t, nle_f, neq_t, neq_f, rmI_n, dvI_n, upd_ne, upd_eq, un_ne, un_eq, Nat.add_zero, Bool.false_eq_true, ↓reduceIte, f_X12_prefixed, hf]
  · rw [if_pos rfl]
    simp (maxSteps := 1000000) (disch := omega) only [li, ob1_s, ob2_s, ob3_s, ob4_s, ob5_s, ob6_s, ob7_s, gA_n, gL_n, sA_n, sL_n, cpI_n, nI_add, pk_mul, nsub, nlt_t, nlt_f, nle_t, nle_f, neq_t, neq_f, rmI_n, dvI_n, upd_ne, upd_eq, un_ne, un_eq, Nat.add_zero, Bool.false_eq_true, ↓reduceIte, f_X12_prefixed, lI_neg]
theorem len1 {α : Type} {x : α} {l : List α} : (x :: l).length = l.length + 1 := rfl
theorem rs0 {N n c x3 w w' v L M : Nat} {a vt nd truth : Nat → Int32} {values : Nat → Int64} (hx3 : x3 + 2 < 2916) (hend : vt (x3 + 2) = nI w') (hc : c + 2 * w' < 2916) (hw : w' ≤ 304) (hw1 : w < w') (hL : L ≤ w) (hM : M ≤ w) (hR2 : vt (c + 2 * w + 1) = nI v) (hR1 : vt (c + 2 * w) = nI 0) (hv : v ≤ 9999) : f_X12_summedUp_38 N (n + 1) a vt nd values truth (nI x3) (nI c) (nI (L)) (nI (M)) (nI w) = f_X12_summedUp_38 N n a vt nd (vp_updL values L (lI (v : Int))) truth (nI x3) (nI c) (nI (L + 1)) (nI (M)) (nI (w + 1)) := by
  have ev : (nI v).toInt64 = lI (v : Int) := by rw [nIl (by omega), lI_n]
  rw [f_X12_summedUp_38]
  generalize f_X12_summedUp_38 N n = K
  simp (maxSteps := 1000000) (disch := omega) only [li, ob1_s, ob2_s, ob3_s, ob4_s, ob5_s, ob6_s, ob7_s, gA_n, gL_n, sA_n, sL_n, cpI_n, nI_add, pk_mul, nsub, nlt_t, nlt_f, nle_t, nle_f, neq_t, neq_f, rmI_n, dvI_n, upd_ne, upd_eq, un_ne, un_eq, Nat.add_zero, Bool.false_eq_true, ↓reduceIte, hend, hR1, hR2, f_X12_summedUp_349, f_X12_summedUp_112, ev]
theorem rs1 {N n c x3 w w' v L M : Nat} {a vt nd truth : Nat → Int32} {values : Nat → Int64} (hx3 : x3 + 2 < 2916) (hend : vt (x3 + 2) = nI w') (hc : c + 2 * w' < 2916) (hw : w' ≤ 304) (hw1 : w < w') (hL : L ≤ w) (hM : M ≤ w) (hR2 : vt (c + 2 * w + 1) = nI v) (hR1 : vt (c + 2 * w) = nI 1) (hv : v < 10) {m : Nat} (hm : m ≤ 9999) (hnd : nd v = nI m) : f_X12_summedUp_38 N (n + 1) a vt nd values truth (nI x3) (nI c) (nI (L)) (nI (M)) (nI w) = f_X12_summedUp_38 N n a vt nd (vp_updL values L (lI (m : Int))) truth (nI x3) (nI c) (nI (L + 1)) (nI (M)) (nI (w + 1)) := by
  have ev : (nI m).toInt64 = lI (m : Int) := by rw [nIl (by omega), lI_n]
  rw [f_X12_summedUp_38]
  generalize f_X12_summedUp_38 N n = K
  simp (maxSteps := 1000000) (disch := omega) only [li, ob1_s, ob2_s, ob3_s, ob4_s, ob5_s, ob6_s, ob7_s, gA_n, gL_n, sA_n, sL_n, cpI_n, nI_add, pk_mul, nsub, nlt_t, nlt_f, nle_t, nle_f, neq_t, neq_f, rmI_n, dvI_n, upd_ne, upd_eq, un_ne, un_eq, Nat.add_zero, Bool.false_eq_true, ↓reduceIte, hend, hR1, hR2, f_X12_summedUp_349, f_X12_summedUp_112, hnd, ev]
theorem rs4t {N n c x3 w w' v L M : Nat} {a vt nd truth : Nat → Int32} {values : Nat → Int64} (hx3 : x3 + 2 < 2916) (hend : vt (x3 + 2) = nI w') (hc : c + 2 * w' < 2916) (hw : w' ≤ 304) (hw1 : w < w') (hL : L ≤ w) (hM : M ≤ w) (hR2 : vt (c + 2 * w + 1) = nI v) (hR1 : vt (c + 2 * w) = nI 4) (hT : truth M = nI 1) : f_X12_summedUp_38 N (n + 1) a vt nd values truth (nI x3) (nI c) (nI (L + 1 + 1)) (nI (M + 1)) (nI w) = f_X12_summedUp_38 N n a vt nd values truth (nI x3) (nI c) (nI (L + 1)) (nI (M)) (nI (w + 1)) := by
  have m1 : nI (L + 1 + 1) + -nI 1 = nI (L + 1) := pk_m1 _
  have m2 : nI (M + 1) + -nI 1 = nI M := pk_m1 _
  have m3 : L + 1 - 1 = L := by omega
  rw [f_X12_summedUp_38]
  generalize f_X12_summedUp_38 N n = K
  simp (maxSteps := 1000000) (disch := omega) only [li, ob1_s, ob2_s, ob3_s, ob4_s, ob5_s, ob6_s, ob7_s, gA_n, gL_n, sA_n, sL_n, cpI_n, nI_add, pk_mul, nsub, nlt_t, nlt_f, nle_t, nle_f, neq_t, neq_f, rmI_n, dvI_n, upd_ne, upd_eq, un_ne, un_eq, Nat.add_zero, Bool.false_eq_true, ↓reduceIte, hend, hR1, hR2, f_X12_summedUp_349, m1, m2, hT]
theorem rs4f {N n c x3 w w' v L M : Nat} {a vt nd truth : Nat → Int32} {values : Nat → Int64} (hx3 : x3 + 2 < 2916) (hend : vt (x3 + 2) = nI w') (hc : c + 2 * w' < 2916) (hw : w' ≤ 304) (hw1 : w < w') (hL : L ≤ w) (hM : M ≤ w) (hR2 : vt (c + 2 * w + 1) = nI v) (hR1 : vt (c + 2 * w) = nI 4) {y : Int} (hV : values (L + 1) = lI y) (hT : truth M = nI 0) : f_X12_summedUp_38 N (n + 1) a vt nd values truth (nI x3) (nI c) (nI (L + 1 + 1)) (nI (M + 1)) (nI w) = f_X12_summedUp_38 N n a vt nd (vp_updL values L (lI y)) truth (nI x3) (nI c) (nI (L + 1)) (nI (M)) (nI (w + 1)) := by
  have m1 : nI (L + 1 + 1) + -nI 1 = nI (L + 1) := pk_m1 _
  have m2 : nI (M + 1) + -nI 1 = nI M := pk_m1 _
  have m3 : L + 1 - 1 = L := by omega
  rw [f_X12_summedUp_38]
  generalize f_X12_summedUp_38 N n = K
  simp (maxSteps := 1000000) (disch := omega) only [li, ob1_s, ob2_s, ob3_s, ob4_s, ob5_s, ob6_s, ob7_s, gA_n, gL_n, sA_n, sL_n, cpI_n, nI_add, pk_mul, nsub, nlt_t, nlt_f, nle_t, nle_f, neq_t, neq_f, rmI_n, dvI_n, upd_ne, upd_eq, un_ne, un_eq, Nat.add_zero, Bool.false_eq_true, ↓reduceIte, hend, hR1, hR2, f_X12_summedUp_349, m1, m2, m3, hT, hV]
theorem rs5 {N n c x3 w w' v L M : Nat} {a vt nd truth : Nat → Int32} {values : Nat → Int64} (hx3 : x3 + 2 < 2916) (hend : vt (x3 + 2) = nI w') (hc : c + 2 * w' < 2916) (hw : w' ≤ 304) (hw1 : w < w') (hL : L ≤ w) (hM : M ≤ w) (hR2 : vt (c + 2 * w + 1) = nI v) {o : Nat} (ho : o = 2 ∨ o = 3 ∨ o = 5) (hR1 : vt (c + 2 * w) = nI o) {z z' : Int} (hV : values L = lI z) (rp : f_X12_prefixed N a (nI o) (lI z) = some (lI z')) : f_X12_summedUp_38 N (n + 1) a vt nd values truth (nI x3) (nI c) (nI (L + 1)) (nI (M)) (nI w) = f_X12_summedUp_38 N n a vt nd (vp_updL values L (lI z')) truth (nI x3) (nI c) (nI (L + 1)) (nI (M)) (nI (w + 1)) := by
  have m3 : L + 1 - 1 = L := by omega
  rw [f_X12_summedUp_38]
  generalize f_X12_summedUp_38 N n = K
  simp (maxSteps := 1000000) (disch := omega) only [li, ob1_s, ob2_s, ob3_s, ob4_s, ob5_s, ob6_s, ob7_s, gA_n, gL_n, sA_n, sL_n, cpI_n, nI_add, pk_mul, nsub, nlt_t, nlt_f, nle_t, nle_f, neq_t, neq_f, rmI_n, dvI_n, upd_ne, upd_eq, un_ne, un_eq, Nat.add_zero, Bool.false_eq_true, ↓reduceIte, hend, hR1, hR2, f_X12_summedUp_349, m3, hV, rp]
theorem rs9 {N n c x3 w w' v L M : Nat} {a vt nd truth : Nat → Int32} {values : Nat → Int64} (hx3 : x3 + 2 < 2916) (hend : vt (x3 + 2) = nI w') (hc : c + 2 * w' < 2916) (hw : w' ≤ 304) (hw1 : w < w') (hL : L ≤ w) (hM : M ≤ w) (hR2 : vt (c + 2 * w + 1) = nI v) {o : Nat} (ho : 6 ≤ o ∧ o ≤ 9) (hR1 : vt (c + 2 * w) = nI o) {x y z' : Int} (hV : values (L + 1) = lI y) (hV2 : values L = lI x) (rp : f_X12_two N (nI o) (lI x) (lI y) = some (lI z')) : f_X12_summedUp_38 N (n + 1) a vt nd values truth (nI x3) (nI c) (nI (L + 1 + 1)) (nI (M)) (nI w) = f_X12_summedUp_38 N n a vt nd (vp_updL values L (lI z')) truth (nI x3) (nI c) (nI (L + 1)) (nI (M)) (nI (w + 1)) := by
  have m1 : nI (L + 1 + 1) + -nI 1 = nI (L + 1) := pk_m1 _
  have m3 : L + 1 - 1 = L := by omega
  rw [f_X12_summedUp_38]
  generalize f_X12_summedUp_38 N n = K
  simp (maxSteps := 1000000) (disch := omega) only [li, ob1_s, ob2_s, ob3_s, ob4_s, ob5_s, ob6_s, ob7_s, gA_n, gL_n, sA_n, sL_n, cpI_n, nI_add, pk_mul, nsub, nlt_t, nlt_f, nle_t, nle_f, neq_t, neq_f, rmI_n, dvI_n, upd_ne, upd_eq, un_ne, un_eq, Nat.add_zero, Bool.false_eq_true, ↓reduceIte, hend, hR1, hR2, f_X12_summedUp_349, m1, m3, hV, hV2, rp]
theorem rs16 {N n c x3 w w' v L M : Nat} {a vt nd truth : Nat → Int32} {values : Nat → Int64} (hx3 : x3 + 2 < 2916) (hend : vt (x3 + 2) = nI w') (hc : c + 2 * w' < 2916) (hw : w' ≤ 304) (hw1 : w < w') (hL : L ≤ w) (hM : M ≤ w) (hR2 : vt (c + 2 * w + 1) = nI v) {o : Nat} (ho : 10 ≤ o ∧ o ≤ 15) (hR1 : vt (c + 2 * w) = nI o) {x y : Int} {b : Bool} (hV : values (L + 1) = lI y) (hV2 : values L = lI x) (rp : f_X12_isAsked N (nI o) (lI x) (lI y) = some (if b = true then nI 1 else nI 0)) : f_X12_summedUp_38 N (n + 1) a vt nd values truth (nI x3) (nI c) (nI (L + 1 + 1)) (nI (M)) (nI w) = f_X12_summedUp_38 N n a vt nd values (upd truth M (if b = true then nI 1 else nI 0)) (nI x3) (nI c) (nI (L)) (nI (M + 1)) (nI (w + 1)) := by
  have m1 : nI (L + 1 + 1) + -nI 2 = nI L := by
    rw [show L + 1 + 1 = L + 2 by omega, ← nI_add, Int32.add_assoc]
    have : nI 2 + -nI 2 = 0 := by decide
    rw [this, Int32.add_zero]
  rw [f_X12_summedUp_38]
  generalize f_X12_summedUp_38 N n = K
  simp (maxSteps := 1000000) (disch := omega) only [li, ob1_s, ob2_s, ob3_s, ob4_s, ob5_s, ob6_s, ob7_s, gA_n, gL_n, sA_n, sL_n, cpI_n, nI_add, pk_mul, nsub, nlt_t, nlt_f, nle_t, nle_f, neq_t, neq_f, rmI_n, dvI_n, upd_ne, upd_eq, un_ne, un_eq, Nat.add_zero, Bool.false_eq_true, ↓reduceIte, hend, hR1, hR2, f_X12_summedUp_349, m1, hV, hV2, rp, narB]
theorem rs20t {N n c x3 w w' v L M : Nat} {a vt nd truth : Nat → Int32} {values : Nat → Int64} (hx3 : x3 + 2 < 2916) (hend : vt (x3 + 2) = nI w') (hc : c + 2 * w' < 2916) (hw : w' ≤ 304) (hw1 : w < w') (hL : L ≤ w) (hM : M ≤ w) (hR2 : vt (c + 2 * w + 1) = nI v) (hR1 : vt (c + 2 * w) = nI 20) (hT : truth M = nI 1) : f_X12_summedUp_38 N (n + 1) a vt nd values truth (nI x3) (nI c) (nI (L)) (nI (M + 1)) (nI w) = f_X12_summedUp_38 N n a vt nd values (upd truth M (nI 0)) (nI x3) (nI c) (nI (L)) (nI (M + 1)) (nI (w + 1)) := by
  have m3 : M + 1 - 1 = M := by omega
  have na0 : vp_nar .boolean (nI 0) = nI 0 := by decide
  rw [f_X12_summedUp_38]
  generalize f_X12_summedUp_38 N n = K
  simp (maxSteps := 1000000) (disch := omega) only [li, ob1_s, ob2_s, ob3_s, ob4_s, ob5_s, ob6_s, ob7_s, gA_n, gL_n, sA_n, sL_n, cpI_n, nI_add, pk_mul, nsub, nlt_t, nlt_f, nle_t, nle_f, neq_t, neq_f, rmI_n, dvI_n, upd_ne, upd_eq, un_ne, un_eq, Nat.add_zero, Bool.false_eq_true, ↓reduceIte, hend, hR1, hR2, f_X12_summedUp_349, m3, hT, na0, f_X12_summedUp_312]
theorem rs20f {N n c x3 w w' v L M : Nat} {a vt nd truth : Nat → Int32} {values : Nat → Int64} (hx3 : x3 + 2 < 2916) (hend : vt (x3 + 2) = nI w') (hc : c + 2 * w' < 2916) (hw : w' ≤ 304) (hw1 : w < w') (hL : L ≤ w) (hM : M ≤ w) (hR2 : vt (c + 2 * w + 1) = nI v) (hR1 : vt (c + 2 * w) = nI 20) (hT : truth M = nI 0) : f_X12_summedUp_38 N (n + 1) a vt nd values truth (nI x3) (nI c) (nI (L)) (nI (M + 1)) (nI w) = f_X12_summedUp_38 N n a vt nd values (upd truth M (nI 1)) (nI x3) (nI c) (nI (L)) (nI (M + 1)) (nI (w + 1)) := by
  have m3 : M + 1 - 1 = M := by omega
  have na1 : vp_nar .boolean (nI 1) = nI 1 := by decide
  rw [f_X12_summedUp_38]
  generalize f_X12_summedUp_38 N n = K
  simp (maxSteps := 1000000) (disch := omega) only [li, ob1_s, ob2_s, ob3_s, ob4_s, ob5_s, ob6_s, ob7_s, gA_n, gL_n, sA_n, sL_n, cpI_n, nI_add, pk_mul, nsub, nlt_t, nlt_f, nle_t, nle_f, neq_t, neq_f, rmI_n, dvI_n, upd_ne, upd_eq, un_ne, un_eq, Nat.add_zero, Bool.false_eq_true, ↓reduceIte, hend, hR1, hR2, f_X12_summedUp_349, m3, hT, na1, f_X12_summedUp_312]
theorem rs21 {N n c x3 w w' v L M : Nat} {a vt nd truth : Nat → Int32} {values : Nat → Int64} (hx3 : x3 + 2 < 2916) (hend : vt (x3 + 2) = nI w') (hc : c + 2 * w' < 2916) (hw : w' ≤ 304) (hw1 : w < w') (hL : L ≤ w) (hM : M ≤ w) (hR2 : vt (c + 2 * w + 1) = nI v) {o : Nat} (ho : o = 21 ∨ o = 22) (hR1 : vt (c + 2 * w) = nI o) {x y : Int32} {b : Bool} (hT : truth (M + 1) = y) (hT2 : truth M = x) (rp : f_X12_joined N (nI o) x y = some (if b = true then nI 1 else nI 0)) : f_X12_summedUp_38 N (n + 1) a vt nd values truth (nI x3) (nI c) (nI (L)) (nI (M + 1 + 1)) (nI w) = f_X12_summedUp_38 N n a vt nd values (upd truth M (if b = true then nI 1 else nI 0)) (nI x3) (nI c) (nI (L)) (nI (M + 1)) (nI (w + 1)) := by
  have m1 : nI (M + 1 + 1) + -nI 1 = nI (M + 1) := pk_m1 _
  have m3 : M + 1 - 1 = M := by omega
  rw [f_X12_summedUp_38]
  generalize f_X12_summedUp_38 N n = K
  simp (maxSteps := 1000000) (disch := omega) only [li, ob1_s, ob2_s, ob3_s, ob4_s, ob5_s, ob6_s, ob7_s, gA_n, gL_n, sA_n, sL_n, cpI_n, nI_add, pk_mul, nsub, nlt_t, nlt_f, nle_t, nle_f, neq_t, neq_f, rmI_n, dvI_n, upd_ne, upd_eq, un_ne, un_eq, Nat.add_zero, Bool.false_eq_true, ↓reduceIte, hend, hR1, hR2, f_X12_summedUp_349, m1, m3, hT, hT2, rp, narB]
theorem rJn {N o : Nat} {b c r : Bool} (h : (o = 21 ∧ r = (b && c)) ∨ (o = 22 ∧ r = (b || c))) : f_X12_joined N (nI o) (if b = true then nI 1 else nI 0) (if c = true then nI 1 else nI 0) = some (if r = true then nI 1 else nI 0) := by
  rcases h with ⟨e, e2⟩ | ⟨e, e2⟩ <;> subst e <;> subst e2 <;> cases b <;> cases c <;> rfl
theorem rAdeq {N c x3 w' : Nat} {a fe vt nd : Nat → Int32} {S nv : Nat → Nat} (hA : TieA a S) (hF : FeaT fe S) (h6 : S 1 ≤ 6) (hN : 100 ≤ N) (hv : ∀ i, i < 10 → nd i = nI (nv (gs i)) ∧ nv (gs i) ≤ 9999) (hx3 : x3 + 2 < 2916) (hend : vt (x3 + 2) = nI w') (hc : c + 2 * w' < 2916) (hw : w' ≤ 304) :
    ∀ (R : List (Nat × Nat)) (w n : Nat) (vs vs' : List Int) (ts ts' : List Bool) (values : Nat → Int64) (truth : Nat → Int32), RCd vt (c + 2 * w) R → w + R.length = w' → R.length < n → rrun nv (fOf S) R vs ts = some (vs', ts') → ValS values vs → TruS truth ts → vs.length ≤ w → ts.length ≤ w →
    ∃ (values' : Nat → Int64) (truth' : Nat → Int32), f_X12_summedUp_38 N n a vt nd values truth (nI x3) (nI c) (nI vs.length) (nI ts.length) (nI w) = some (values' 0, values', truth') ∧ ValS values' vs' := by
  intro R
  induction R with
  | nil =>
    intro w n vs vs' ts ts' values truth hR hw2 hn hr hV hT hlv hlt
    obtain ⟨n, rfl⟩ : ∃ m, n = m + 1 := ⟨n - 1, by omega⟩
    have hw2 : w + 0 = w' := hw2
    have e : w = w' := by omega
    subst e
    have hr : some (vs, ts) = some (vs', ts') := hr
    cases hr
    refine ⟨values, truth, ?_, hV⟩
    rw [f_X12_summedUp_38]
    simp (maxSteps := 1000000) (disch := omega) only [li, ob1_s, ob2_s, ob3_s, ob4_s, ob5_s, ob6_s, ob7_s, gA_n, gL_n, sA_n, sL_n, cpI_n, nI_add, pk_mul, nsub, nlt_t, nlt_f, nle_t, nle_f, neq_t, neq_f, rmI_n, dvI_n, upd_ne, upd_eq, un_ne, un_eq, Nat.add_zero, Bool.false_eq_true, ↓reduceIte, hend]
  | cons p R ih =>
    intro w n vs vs' ts ts' values truth hR hw2 hn hr hV hT hlv hlt
    obtain ⟨o, v⟩ := p
    obtain ⟨n, rfl⟩ : ∃ m, n = m + 1 := ⟨n - 1, by omega⟩
    have hw2 : w + (R.length + 1) = w' := hw2
    have hn : R.length + 1 < n + 1 := hn
    obtain ⟨hR1, hR2, hR3⟩ := hR
    have hR1 : vt (c + 2 * w) = nI o := hR1
    have hR2 : vt (c + 2 * w + 1) = nI v := hR2
    have hR3 : RCd vt (c + 2 * (w + 1)) R := hR3
    have hr : (rstep nv (fOf S) o v vs ts).bind (fun s => rrun nv (fOf S) R s.1 s.2) = some (vs', ts') := hr
    cases hst : rstep nv (fOf S) o v vs ts with
    | none => rw [hst] at hr; cases hr
    | some s =>
      rw [hst] at hr
      obtain ⟨vs1, ts1⟩ := s
      have hr : rrun nv (fOf S) R vs1 ts1 = some (vs', ts') := hr
      have go := fun values1 truth1 q1 q2 q3 q4 => ih (w + 1) n vs1 vs' ts1 ts' values1 truth1 hR3 (by omega) (by omega) hr q1 q2 q3 q4
      unfold rstep at hst
      have fin : ∀ {values1 : Nat → Int64} {truth1 : Nat → Int32} {A : Option (Int64 × (Nat → Int64) × (Nat → Int32))}, A = f_X12_summedUp_38 N n a vt nd values1 truth1 (nI x3) (nI c) (nI vs1.length) (nI ts1.length) (nI (w + 1)) → ValS values1 vs1 → TruS truth1 ts1 → vs1.length ≤ w + 1 → ts1.length ≤ w + 1 → ∃ (values' : Nat → Int64) (truth' : Nat → Int32), A = some (values' 0, values', truth') ∧ ValS values' vs' := by
        intro values1 truth1 A e q1 q2 q3 q4
        rw [e]
        exact go values1 truth1 q1 q2 q3 q4
      clear go ih hr
      have hw1 : w < w' := by omega
      by_cases h0 : o = 0
      · subst h0
        rw [if_pos rfl] at hst
        by_cases hv9 : v ≤ 9999
        · rw [if_pos hv9] at hst
          cases hst
          exact fin (rs0 hx3 hend hc hw hw1 hlv hlt hR2 hR1 hv9) (hV.push (by unfold bd; omega)) hT (by rw [len1]; omega) (by omega)
        · rw [if_neg hv9] at hst; cases hst
      rw [if_neg h0] at hst
      by_cases h1 : o = 1
      · subst h1
        rw [if_pos rfl] at hst
        by_cases hv9 : v < 10
        · rw [if_pos hv9] at hst
          cases hst
          obtain ⟨nd1, nd2⟩ := hv v hv9
          exact fin (rs1 hx3 hend hc hw hw1 hlv hlt hR2 hR1 hv9 nd2 nd1) (hV.push (by unfold bd; omega)) hT (by rw [len1]; omega) (by omega)
        · rw [if_neg hv9] at hst; cases hst
      rw [if_neg h1] at hst
      by_cases h4 : o = 4
      · subst h4
        rw [if_pos rfl] at hst
        match vs, ts, hst, hV, hT, hlv, hlt with
        | y :: x :: vs, b :: ts, hst, hV, hT, hlv, hlt =>
          have hst : some ((if b = true then x else y) :: vs, ts) = some (vs1, ts1) := hst
          obtain ⟨hV1, hV2, hV3, hV4, hV5⟩ := hV
          obtain ⟨hT1, hT2⟩ := hT
          rw [len1, len1] at hlv
          rw [len1] at hlt hV1
          cases b with
          | true =>
            rw [if_pos rfl] at hT1 hst
            cases hst
            refine fin (values1 := values) (truth1 := truth) ?_ ⟨hV3, hV4, hV5⟩ hT2 (by rw [len1]; omega) (by omega)
            simp only [len1]
            have e := rs4t (N := N) (n := n) (a := a) (vt := vt) (nd := nd) (truth := truth) (values := values) (L := vs.length) (M := ts1.length) hx3 hend hc hw hw1 (by omega) (by omega) hR2 hR1 hT1
            exact e
          | false =>
            rw [if_neg (by decide)] at hT1 hst
            cases hst
            refine fin (values1 := vp_updL values vs.length (lI y)) (truth1 := truth) ?_ (hV5.push hV2) hT2 (by rw [len1]; omega) (by omega)
            simp only [len1]
            have e := rs4f (N := N) (n := n) (a := a) (vt := vt) (nd := nd) (truth := truth) (values := values) (L := vs.length) (M := ts1.length) hx3 hend hc hw hw1 (by omega) (by omega) hR2 hR1 hV1 hT1
            exact e
        | [], _, hst, _, _, _, _ => cases hst
        | [_], _, hst, _, _, _, _ => cases hst
        | _ :: _ :: _, [], hst, _, _, _, _ => cases hst
      rw [if_neg h4] at hst
      by_cases h5 : o ≤ 5
      · rw [if_pos h5] at hst
        match vs, hst, hV, hlv with
        | z :: vs, hst, hV, hlv =>
          have hst : some (pre1 (fOf S) o z :: vs, ts) = some (vs1, ts1) := hst
          cases hst
          rw [len1] at hlv
          obtain ⟨hV1, hV2, hV3⟩ := hV
          have hf : fOf S z ≤ 9 := by
            unfold fOf
            split
            · rename_i q
              exact (hF z.toNat (by omega)).2
            · omega
          exact fin (rs5 (L := vs.length) (M := ts.length) hx3 hend hc hw hw1 (by omega) (by omega) hR2 (by omega) hR1 hV1 (rPre hA hF h6 hN (by omega) hV2)) (hV3.push (pre1_b hV2 hf)) hT (by rw [len1]; omega) (by omega)
        | [], hst, _, _ => cases hst
      rw [if_neg h5] at hst
      by_cases h9 : o < 10
      · rw [if_pos h9] at hst
        match vs, hst, hV, hlv with
        | y :: x :: vs, hst, hV, hlv =>
          have hst : some (two2 o x y :: vs, ts) = some (vs1, ts1) := hst
          cases hst
          obtain ⟨hV1, hV2, hV3, hV4, hV5⟩ := hV
          rw [len1, len1] at hlv
          rw [len1] at hV1
          exact fin (rs9 (L := vs.length) (M := ts.length) hx3 hend hc hw hw1 (by omega) (by omega) hR2 ⟨by omega, by omega⟩ hR1 hV1 hV3 (rTwo ⟨by omega, by omega⟩ hV4 hV2)) (hV5.push (two2_b hV4)) hT (by rw [len1]; omega) (by omega)
        | [], hst, _, _ => cases hst
        | [_], hst, _, _ => cases hst
      rw [if_neg h9] at hst
      by_cases h16 : o < 16
      · rw [if_pos h16] at hst
        match vs, hst, hV, hlv with
        | y :: x :: vs, hst, hV, hlv =>
          have hst : some (vs, ask2 o x y :: ts) = some (vs1, ts1) := hst
          cases hst
          obtain ⟨hV1, hV2, hV3, hV4, hV5⟩ := hV
          rw [len1, len1] at hlv
          rw [len1] at hV1
          refine fin (values1 := values) (truth1 := upd truth ts.length (if ask2 o x y = true then nI 1 else nI 0)) ?_ hV5 (hT.push _) (by omega) (by rw [len1]; omega)
          simp only [len1]
          have e := rs16 (N := N) (n := n) (a := a) (vt := vt) (nd := nd) (truth := truth) (values := values) (L := vs1.length) (M := ts.length) hx3 hend hc hw hw1 (by omega) (by omega) hR2 ⟨by omega, by omega⟩ hR1 hV1 hV3 (rAsk ⟨by omega, by omega⟩ hV4 hV2)
          exact e
        | [], hst, _, _ => cases hst
        | [_], hst, _, _ => cases hst
      rw [if_neg h16] at hst
      by_cases h20 : o = 20
      · subst h20
        rw [if_pos rfl] at hst
        match ts, hst, hT, hlt with
        | b :: ts, hst, hT, hlt =>
          have hst : some (vs, (!b) :: ts) = some (vs1, ts1) := hst
          cases hst
          rw [len1] at hlt
          obtain ⟨hT1, hT2⟩ := hT
          cases b with
          | true =>
            rw [if_pos rfl] at hT1
            exact fin (rs20t (L := vs.length) (M := ts.length) hx3 hend hc hw hw1 (by omega) (by omega) hR2 hR1 hT1) hV (hT2.push false) (by omega) (by rw [len1]; omega)
          | false =>
            rw [if_neg (by decide)] at hT1
            exact fin (rs20f (L := vs.length) (M := ts.length) hx3 hend hc hw hw1 (by omega) (by omega) hR2 hR1 hT1) hV (hT2.push true) (by omega) (by rw [len1]; omega)
        | [], hst, _, _ => cases hst
      rw [if_neg h20] at hst
      by_cases h21 : o = 21 ∨ o = 22
      · match ts, hst, hT, hlt with
        | d :: b :: ts, hst, hT, hlt =>
          obtain ⟨r, hrr, e1, e2⟩ : ∃ r, ((o = 21 ∧ r = (b && d)) ∨ (o = 22 ∧ r = (b || d))) ∧ vs1 = vs ∧ ts1 = r :: ts := by
            rcases h21 with e | e
            · subst e
              rw [if_pos rfl] at hst
              have hst : some (vs, (b && d) :: ts) = some (vs1, ts1) := hst
              cases hst
              exact ⟨b && d, Or.inl ⟨rfl, rfl⟩, rfl, rfl⟩
            · subst e
              rw [if_neg (by decide), if_pos rfl] at hst
              have hst : some (vs, (b || d) :: ts) = some (vs1, ts1) := hst
              cases hst
              exact ⟨b || d, Or.inr ⟨rfl, rfl⟩, rfl, rfl⟩
          subst e1
          subst e2
          rw [len1, len1] at hlt
          obtain ⟨hT1, hT2, hT3⟩ := hT
          rw [len1] at hT1
          exact fin (rs21 (L := vs1.length) (M := ts.length) hx3 hend hc hw hw1 (by omega) (by omega) hR2 h21 hR1 hT1 hT2 (rJn hrr)) hV (hT3.push r) (by omega) (by rw [len1]; omega)
        | [], hst, _, _ =>
          exfalso
          rcases h21 with e | e <;> subst e <;> cases hst
        | [_], hst, _, _ =>
          exfalso
          rcases h21 with e | e <;> subst e <;> cases hst
      · rw [if_neg (fun h => h21 (Or.inl h)), if_neg (fun h => h21 (Or.inr h))] at hst
        cases hst
