/-! tokens, as both sides see them -/
theorem ob8_s {T1 T2 T3 T4 T5 T6 T7 T8 B : Type} {x1 : T1} {x2 : T2} {x3 : T3} {x4 : T4} {x5 : T5} {x6 : T6} {x7 : T7} {x8 : T8} {k : T1 → T2 → T3 → T4 → T5 → T6 → T7 → T8 → Option B} : ob8 (some (x1, x2, x3, x4, x5, x6, x7, x8)) k = k x1 x2 x3 x4 x5 x6 x7 x8 := Eq.trans rfl rfl
theorem ob9_s {T1 T2 T3 T4 T5 T6 T7 T8 T9 B : Type} {x1 : T1} {x2 : T2} {x3 : T3} {x4 : T4} {x5 : T5} {x6 : T6} {x7 : T7} {x8 : T8} {x9 : T9} {k : T1 → T2 → T3 → T4 → T5 → T6 → T7 → T8 → T9 → Option B} : ob9 (some (x1, x2, x3, x4, x5, x6, x7, x8, x9)) k = k x1 x2 x3 x4 x5 x6 x7 x8 x9 := Eq.trans rfl rfl
theorem ob12_s {T1 T2 T3 T4 T5 T6 T7 T8 T9 T10 T11 T12 B : Type} {x1 : T1} {x2 : T2} {x3 : T3} {x4 : T4} {x5 : T5} {x6 : T6} {x7 : T7} {x8 : T8} {x9 : T9} {x10 : T10} {x11 : T11} {x12 : T12} {k : T1 → T2 → T3 → T4 → T5 → T6 → T7 → T8 → T9 → T10 → T11 → T12 → Option B} : ob12 (some (x1, x2, x3, x4, x5, x6, x7, x8, x9, x10, x11, x12)) k = k x1 x2 x3 x4 x5 x6 x7 x8 x9 x10 x11 x12 := Eq.trans rfl rfl
theorem ob14_s {T1 T2 T3 T4 T5 T6 T7 T8 T9 T10 T11 T12 T13 T14 B : Type} {x1 : T1} {x2 : T2} {x3 : T3} {x4 : T4} {x5 : T5} {x6 : T6} {x7 : T7} {x8 : T8} {x9 : T9} {x10 : T10} {x11 : T11} {x12 : T12} {x13 : T13} {x14 : T14} {k : T1 → T2 → T3 → T4 → T5 → T6 → T7 → T8 → T9 → T10 → T11 → T12 → T13 → T14 → Option B} : ob14 (some (x1, x2, x3, x4, x5, x6, x7, x8, x9, x10, x11, x12, x13, x14)) k = k x1 x2 x3 x4 x5 x6 x7 x8 x9 x10 x11 x12 x13 x14 := Eq.trans rfl rfl
theorem ob15_s {T1 T2 T3 T4 T5 T6 T7 T8 T9 T10 T11 T12 T13 T14 T15 B : Type} {x1 : T1} {x2 : T2} {x3 : T3} {x4 : T4} {x5 : T5} {x6 : T6} {x7 : T7} {x8 : T8} {x9 : T9} {x10 : T10} {x11 : T11} {x12 : T12} {x13 : T13} {x14 : T14} {x15 : T15} {k : T1 → T2 → T3 → T4 → T5 → T6 → T7 → T8 → T9 → T10 → T11 → T12 → T13 → T14 → T15 → Option B} : ob15 (some (x1, x2, x3, x4, x5, x6, x7, x8, x9, x10, x11, x12, x13, x14, x15)) k = k x1 x2 x3 x4 x5 x6 x7 x8 x9 x10 x11 x12 x13 x14 x15 := Eq.trans rfl rfl
def wcT : List Nat := [29402514619462259, 439855506547, 482955846501, 435426586227, 1919902052, 123581014175598, 1667329132, 1836021349, 1717921124, 1802071148, 123563833323374, 1818324580, 470020945000, 7825519, 1717920114, 112628846654324, 114853572732274, 7304564, 444251202675, 431197680755, 427121669988, 29807, 26990, 25209, 1869505907, 439787549299, 26982, 1952998766, 1701606245, 6647396, 7237492, 6385252, 28530]
def wc (k : Nat) : Nat := wcT.getD k 0
theorem wc_b : ∀ k, k < 33 → wc k < 4611686018427387904 := by decide
theorem wc_finds {N : Nat} : f_X12_w5 N (nI 102) (nI 105) (nI 110) (nI 100) (nI 115) = some (lN (wc 1)) := by
  show f_X12_w5 0 (nI 102) (nI 105) (nI 110) (nI 100) (nI 115) = some (lN (wc 1))
  decide +kernel
theorem wc_price {N : Nat} : f_X12_w5 N (nI 112) (nI 114) (nI 105) (nI 99) (nI 101) = some (lN (wc 2)) := by
  show f_X12_w5 0 (nI 112) (nI 114) (nI 105) (nI 99) (nI 101) = some (lN (wc 2))
  decide +kernel
theorem wc_earns {N : Nat} : f_X12_w5 N (nI 101) (nI 97) (nI 114) (nI 110) (nI 115) = some (lN (wc 3)) := by
  show f_X12_w5 0 (nI 101) (nI 97) (nI 114) (nI 110) (nI 115) = some (lN (wc 3))
  decide +kernel
theorem wc_road {N : Nat} : f_X12_w4 N (nI 114) (nI 111) (nI 97) (nI 100) = some (lN (wc 4)) := by
  show f_X12_w4 0 (nI 114) (nI 111) (nI 97) (nI 100) = some (lN (wc 4))
  decide +kernel
theorem wc_person {N : Nat} : f_X12_w6 N (nI 112) (nI 101) (nI 114) (nI 115) (nI 111) (nI 110) = some (lN (wc 5)) := by
  show f_X12_w6 0 (nI 112) (nI 101) (nI 114) (nI 115) (nI 111) (nI 110) = some (lN (wc 5))
  decide +kernel
theorem wc_call {N : Nat} : f_X12_w4 N (nI 99) (nI 97) (nI 108) (nI 108) = some (lN (wc 6)) := by
  show f_X12_w4 0 (nI 99) (nI 97) (nI 108) (nI 108) = some (lN (wc 6))
  decide +kernel
theorem wc_move {N : Nat} : f_X12_w4 N (nI 109) (nI 111) (nI 118) (nI 101) = some (lN (wc 7)) := by
  show f_X12_w4 0 (nI 109) (nI 111) (nI 118) (nI 101) = some (lN (wc 7))
  decide +kernel
theorem wc_feed {N : Nat} : f_X12_w4 N (nI 102) (nI 101) (nI 101) (nI 100) = some (lN (wc 8)) := by
  show f_X12_w4 0 (nI 102) (nI 101) (nI 101) (nI 100) = some (lN (wc 8))
  decide +kernel
theorem wc_kill {N : Nat} : f_X12_w4 N (nI 107) (nI 105) (nI 108) (nI 108) = some (lN (wc 9)) := by
  show f_X12_w4 0 (nI 107) (nI 105) (nI 108) (nI 108) = some (lN (wc 9))
  decide +kernel
theorem wc_pardon {N : Nat} : f_X12_w6 N (nI 112) (nI 97) (nI 114) (nI 100) (nI 111) (nI 110) = some (lN (wc 10)) := by
  show f_X12_w6 0 (nI 112) (nI 97) (nI 114) (nI 100) (nI 111) (nI 110) = some (lN (wc 10))
  decide +kernel
theorem wc_land {N : Nat} : f_X12_w4 N (nI 108) (nI 97) (nI 110) (nI 100) = some (lN (wc 11)) := by
  show f_X12_w4 0 (nI 108) (nI 97) (nI 110) (nI 100) = some (lN (wc 11))
  decide +kernel
theorem wc_month {N : Nat} : f_X12_w5 N (nI 109) (nI 111) (nI 110) (nI 116) (nI 104) = some (lN (wc 12)) := by
  show f_X12_w5 0 (nI 109) (nI 111) (nI 110) (nI 116) (nI 104) = some (lN (wc 12))
  decide +kernel
theorem wc_who {N : Nat} : f_X12_w3 N (nI 119) (nI 104) (nI 111) = some (lN (wc 13)) := by
  show f_X12_w3 0 (nI 119) (nI 104) (nI 111) = some (lN (wc 13))
  decide +kernel
theorem wc_fear {N : Nat} : f_X12_w4 N (nI 102) (nI 101) (nI 97) (nI 114) = some (lN (wc 14)) := by
  show f_X12_w4 0 (nI 102) (nI 101) (nI 97) (nI 114) = some (lN (wc 14))
  decide +kernel
theorem wc_forest {N : Nat} : f_X12_w6 N (nI 102) (nI 111) (nI 114) (nI 101) (nI 115) (nI 116) = some (lN (wc 15)) := by
  show f_X12_w6 0 (nI 102) (nI 111) (nI 114) (nI 101) (nI 115) (nI 116) = some (lN (wc 15))
  decide +kernel
theorem wc_hunger {N : Nat} : f_X12_w6 N (nI 104) (nI 117) (nI 110) (nI 103) (nI 101) (nI 114) = some (lN (wc 16)) := by
  show f_X12_w6 0 (nI 104) (nI 117) (nI 110) (nI 103) (nI 101) (nI 114) = some (lN (wc 16))
  decide +kernel
theorem wc_out {N : Nat} : f_X12_w3 N (nI 111) (nI 117) (nI 116) = some (lN (wc 17)) := by
  show f_X12_w3 0 (nI 111) (nI 117) (nI 116) = some (lN (wc 17))
  decide +kernel
theorem wc_goods {N : Nat} : f_X12_w5 N (nI 103) (nI 111) (nI 111) (nI 100) (nI 115) = some (lN (wc 18)) := by
  show f_X12_w5 0 (nI 103) (nI 111) (nI 111) (nI 100) (nI 115) = some (lN (wc 18))
  decide +kernel
theorem wc_debts {N : Nat} : f_X12_w5 N (nI 100) (nI 101) (nI 98) (nI 116) (nI 115) = some (lN (wc 19)) := by
  show f_X12_w5 0 (nI 100) (nI 101) (nI 98) (nI 116) (nI 115) = some (lN (wc 19))
  decide +kernel
theorem wc_crowd {N : Nat} : f_X12_w5 N (nI 99) (nI 114) (nI 111) (nI 119) (nI 100) = some (lN (wc 20)) := by
  show f_X12_w5 0 (nI 99) (nI 114) (nI 111) (nI 119) (nI 100) = some (lN (wc 20))
  decide +kernel
theorem wc_to {N : Nat} : f_X12_w2 N (nI 116) (nI 111) = some (lN (wc 21)) := by
  show f_X12_w2 0 (nI 116) (nI 111) = some (lN (wc 21))
  decide +kernel
theorem wc_in {N : Nat} : f_X12_w2 N (nI 105) (nI 110) = some (lN (wc 22)) := by
  show f_X12_w2 0 (nI 105) (nI 110) = some (lN (wc 22))
  decide +kernel
theorem wc_by {N : Nat} : f_X12_w2 N (nI 98) (nI 121) = some (lN (wc 23)) := by
  show f_X12_w2 0 (nI 98) (nI 121) = some (lN (wc 23))
  decide +kernel
theorem wc_ones {N : Nat} : f_X12_w4 N (nI 111) (nI 110) (nI 101) (nI 115) = some (lN (wc 24)) := by
  show f_X12_w4 0 (nI 111) (nI 110) (nI 101) (nI 115) = some (lN (wc 24))
  decide +kernel
theorem wc_fears {N : Nat} : f_X12_w5 N (nI 102) (nI 101) (nI 97) (nI 114) (nI 115) = some (lN (wc 25)) := by
  show f_X12_w5 0 (nI 102) (nI 101) (nI 97) (nI 114) (nI 115) = some (lN (wc 25))
  decide +kernel
theorem wc_if {N : Nat} : f_X12_w2 N (nI 105) (nI 102) = some (lN (wc 26)) := by
  show f_X12_w2 0 (nI 105) (nI 102) = some (lN (wc 26))
  decide +kernel
theorem wc_then {N : Nat} : f_X12_w4 N (nI 116) (nI 104) (nI 101) (nI 110) = some (lN (wc 27)) := by
  show f_X12_w4 0 (nI 116) (nI 104) (nI 101) (nI 110) = some (lN (wc 27))
  decide +kernel
theorem wc_else {N : Nat} : f_X12_w4 N (nI 101) (nI 108) (nI 115) (nI 101) = some (lN (wc 28)) := by
  show f_X12_w4 0 (nI 101) (nI 108) (nI 115) (nI 101) = some (lN (wc 28))
  decide +kernel
theorem wc_end {N : Nat} : f_X12_w3 N (nI 101) (nI 110) (nI 100) = some (lN (wc 29)) := by
  show f_X12_w3 0 (nI 101) (nI 110) (nI 100) = some (lN (wc 29))
  decide +kernel
theorem wc_not {N : Nat} : f_X12_w3 N (nI 110) (nI 111) (nI 116) = some (lN (wc 30)) := by
  show f_X12_w3 0 (nI 110) (nI 111) (nI 116) = some (lN (wc 30))
  decide +kernel
theorem wc_and {N : Nat} : f_X12_w3 N (nI 97) (nI 110) (nI 100) = some (lN (wc 31)) := by
  show f_X12_w3 0 (nI 97) (nI 110) (nI 100) = some (lN (wc 31))
  decide +kernel
theorem wc_or {N : Nat} : f_X12_w2 N (nI 111) (nI 114) = some (lN (wc 32)) := by
  show f_X12_w2 0 (nI 111) (nI 114) = some (lN (wc 32))
  decide +kernel
def tkN (K : Nat) : Nat := if K < 33 then 2 else [4, 5, 60, 62, 61, 35, 43, 45, 42, 47, 40, 41, 59, 1, 0].getD (K - 33) 0
def tkS (K t : Nat) : Prop := K ≤ 48 ∧ (K ≠ 48 → t = tkN K) ∧ (K = 48 → t = 2 ∨ t = 3 ∨ t = 58)
def NumT (t nu : Nat) (num : Int32) : Prop := t = 1 → ∃ m, num = nI m ∧ m < 10000000 ∧ nu = min m 10000
def WrdT (K t : Nat) (wd : Int64) : Prop := t = 2 → ∃ w, wd = lN w ∧ w < 4611686018427387904 ∧ ∀ k, k < 33 → (w = wc k ↔ K = k)
def TKR (K nu : Nat) (tk num : Int32) (wd : Int64) : Prop :=
  ∃ t, tk = nI t ∧ t < 256 ∧ tkS K t ∧ NumT t nu num ∧ WrdT K t wd
theorem tkB {K t : Nat} (h : tkS K t) : t < 256 := by
  obtain ⟨h1, h2, h3⟩ := h
  by_cases e : K = 48
  · have := h3 e; omega
  · rw [h2 e]
    exact (by decide : ∀ K, K < 48 → tkN K < 256) K (by omega)
theorem tkQ {K t : Nat} (c kc : Nat) (h : tkS K t) (hc : ∀ K, K < 48 → (tkN K = c ↔ K = kc)) (h2 : c ≠ 2 ∧ c ≠ 3 ∧ c ≠ 58) (hk : kc ≠ 48) (hcb : c < 256) : (nI t = nI c) = (K = kc) := by
  have tb := tkB h
  obtain ⟨g1, g2, g3⟩ := h
  apply propext
  rw [neq (by omega) (by omega)]
  by_cases e : K = 48
  · have := g3 e
    constructor <;> intro q <;> omega
  · rw [g2 e]
    exact hc K (by omega)
theorem cmpN {a b : Nat} (ha : a < 4611686018427387904) (hb : b < 4611686018427387904) : (lg_cmp (lN a) (lN b) = nI 0) = (a = b) := by
  apply propext
  rw [lI_n, lI_n, lcmp ⟨by omega, by omega⟩ ⟨by omega, by omega⟩]
  by_cases c1 : (b : Int) < a
  · rw [if_pos c1]
    exact ⟨fun h => absurd h (by decide), fun h => by omega⟩
  · rw [if_neg c1]
    by_cases c2 : (a : Int) = b
    · rw [if_pos c2]
      exact ⟨fun _ => by omega, fun _ => rfl⟩
    · rw [if_neg c2]
      exact ⟨fun h => absurd h (by decide), fun h => absurd (by omega) c2⟩
theorem tk2 {K t : Nat} (h : tkS K t) (h2 : t ≠ 2) {k : Nat} (hk : k < 33) : K ≠ k := by
  intro e
  subst e
  have := h.2.1 (by omega)
  rw [tkN, if_pos hk] at this
  exact h2 this
theorem rWord {N K nu : Nat} {tk num : Int32} {wd : Int64} (h : TKR K nu tk num wd) (k : Nat) (hk : k < 33) : f_X12_isWord N tk wd (lN (wc k)) = some (nI (if K = k then 1 else 0)) := by
  obtain ⟨t, e1, e2, e3, -, e5⟩ := h
  subst e1
  by_cases h2 : t = 2
  · obtain ⟨w, w1, w2, w3⟩ := e5 h2
    subst h2
    subst w1
    have c := cmpN w2 (wc_b k hk)
    have c2 : (lg_cmp (lN w) (lN (wc k)) = nI 0) = (K = k) := by rw [c]; exact propext (w3 k hk)
    by_cases q : K = k
    · simp only [f_X12_isWord, li, c2, q, ↓reduceIte]
    · simp only [f_X12_isWord, li, c2, q, ↓reduceIte]
  · rw [if_neg (tk2 e3 h2 hk)]
    simp (maxSteps := 1000000) (disch := omega) only [li, ob1_s, ob2_s, ob3_s, ob4_s, ob5_s, ob6_s, ob7_s, gA_n, gL_n, sA_n, sL_n, cpI_n, nI_add, pk_mul, nsub, nlt_t, nlt_f, nle_t, nle_f, neq_t, neq_f, rmI_n, dvI_n, upd_ne, upd_eq, un_ne, un_eq, Nat.add_zero, Bool.false_eq_true, ↓reduceIte, f_X12_isWord]
theorem rName {N K nu : Nat} {tk num : Int32} {wd : Int64} (h : TKR K nu tk num wd) : f_X12_nameOf N tk wd = some (if 11 ≤ K ∧ K ≤ 20 then nI (sg (K - 11)) else -nI 1) := by
  obtain ⟨t, e1, e2, e3, -, e5⟩ := h
  subst e1
  by_cases h2 : t = 2
  · obtain ⟨w, w1, w2, w3⟩ := e5 h2
    subst h2
    subst w1
    have c : ∀ k, k < 33 → (lg_cmp (lN w) (lN (wc k)) = nI 0) = (K = k) := fun k hk => by rw [cmpN w2 (wc_b k hk)]; exact propext (w3 k hk)
    have c12 := c 12 (by omega)
    have c13 := c 13 (by omega)
    have c14 := c 14 (by omega)
    have c11 := c 11 (by omega)
    have c15 := c 15 (by omega)
    have c16 := c 16 (by omega)
    have c17 := c 17 (by omega)
    have c18 := c 18 (by omega)
    have c19 := c 19 (by omega)
    have c20 := c 20 (by omega)
    clear c w3 e5
    by_cases q : 11 ≤ K ∧ K ≤ 20
    · rw [if_pos q]
      rcases (show K = 11 ∨ K = 12 ∨ K = 13 ∨ K = 14 ∨ K = 15 ∨ K = 16 ∨ K = 17 ∨ K = 18 ∨ K = 19 ∨ K = 20 by omega) with e | e | e | e | e | e | e | e | e | e <;> subst e <;> simp only [f_X12_nameOf, li, wc_month, wc_who, wc_fear, wc_land, wc_forest, wc_hunger, wc_out, wc_goods, wc_debts, wc_crowd, ob1_s, c12, c13, c14, c11, c15, c16, c17, c18, c19, c20, ↓reduceIte, Nat.reduceEqDiff] <;> rfl
    · rw [if_neg q]
      have n12 : (K = 12) = False := eq_false (by omega)
      have n13 : (K = 13) = False := eq_false (by omega)
      have n14 : (K = 14) = False := eq_false (by omega)
      have n11 : (K = 11) = False := eq_false (by omega)
      have n15 : (K = 15) = False := eq_false (by omega)
      have n16 : (K = 16) = False := eq_false (by omega)
      have n17 : (K = 17) = False := eq_false (by omega)
      have n18 : (K = 18) = False := eq_false (by omega)
      have n19 : (K = 19) = False := eq_false (by omega)
      have n20 : (K = 20) = False := eq_false (by omega)
      simp only [f_X12_nameOf, li, wc_month, wc_who, wc_fear, wc_land, wc_forest, wc_hunger, wc_out, wc_goods, wc_debts, wc_crowd, ob1_s, c12, n12, c13, n13, c14, n14, c11, n11, c15, n15, c16, n16, c17, n17, c18, n18, c19, n19, c20, n20, ↓reduceIte]
  · have q : ¬ (11 ≤ K ∧ K ≤ 20) := fun q => tk2 e3 h2 (show K < 33 by omega) rfl
    rw [if_neg q]
    simp (maxSteps := 1000000) (disch := omega) only [li, ob1_s, ob2_s, ob3_s, ob4_s, ob5_s, ob6_s, ob7_s, gA_n, gL_n, sA_n, sL_n, cpI_n, nI_add, pk_mul, nsub, nlt_t, nlt_f, nle_t, nle_f, neq_t, neq_f, rmI_n, dvI_n, upd_ne, upd_eq, un_ne, un_eq, Nat.add_zero, Bool.false_eq_true, ↓reduceIte, f_X12_nameOf]
/-! the pile -/
def rk (o : Nat) : Nat := if 40 ≤ o then 0 else if o = 22 then 1 else if o = 21 then 2 else if o = 20 then 3 else if 10 ≤ o then 4 else if o = 5 ∨ o = 2 ∨ o = 3 then 7 else if o < 8 then 5 else 6
theorem rk_b : ∀ o, o < 44 → rk o ≤ 7 := by decide
theorem rRank' : ∀ o, o < 44 → f_X12_rank 0 (nI o) = some (nI (rk o)) := by decide +kernel
theorem rRank {N o : Nat} (h : o < 44) : f_X12_rank N (nI o) = some (nI (rk o)) := rRank' o h
def opn1 (o : Nat) : Nat := if 40 ≤ o ∨ o = 20 ∨ rk o = 7 then 1 else 0
def opn : List Nat → Nat
  | [] => 0
  | o :: P => opn1 o + opn P
def PileT (pile : Nat → Int32) : List Nat → Prop
  | [] => True
  | o :: P => pile P.length = nI o ∧ o < 44 ∧ PileT pile P
theorem PileT.up {pile : Nat → Int32} {x : Int32} : ∀ {P : List Nat} {k : Nat}, PileT pile P → P.length ≤ k → PileT (upd pile k x) P := by
  intro P
  induction P with
  | nil => intro k _ _; trivial
  | cons o P ih =>
    intro k h hk
    rw [len1] at hk
    refine ⟨?_, h.2.1, ih h.2.2 (by omega)⟩
    rw [upd_ne (by omega)]; exact h.1
theorem PileT.push {pile : Nat → Int32} {P : List Nat} {o : Nat} (h : PileT pile P) (ho : o < 44) : PileT (upd pile P.length (nI o)) (o :: P) := ⟨upd_eq rfl, ho, h.up (Nat.le_refl _)⟩
def em : List Nat → List (Nat × Nat)
  | [] => []
  | o :: Q => (o, 0) :: em Q
def sE (k : Nat) : List Nat → List (Nat × Nat)
  | [] => []
  | o :: P => if rk o < k then [] else (o, 0) :: sE k P
def sR (k : Nat) : List Nat → List Nat
  | [] => []
  | o :: P => if rk o < k then o :: P else sR k P
theorem sL1 (k : Nat) : ∀ P, (sE k P).length + (sR k P).length = P.length := by
  intro P
  induction P with
  | nil => rfl
  | cons o P ih =>
    unfold sE sR
    by_cases h : rk o < k
    · rw [if_pos h, if_pos h]; simp
    · rw [if_neg h, if_neg h, len1, len1]; omega
theorem sR_pile {pile : Nat → Int32} (k : Nat) : ∀ P, PileT pile P → PileT pile (sR k P) := by
  intro P
  induction P with
  | nil => intro h; exact h
  | cons o P ih =>
    intro h
    unfold sR
    split
    · exact h
    · exact ih h.2.2
/-- all of Q have at least rank k -/
def geR (k : Nat) : List Nat → Prop
  | [] => True
  | o :: Q => k ≤ rk o ∧ o < 44 ∧ geR k Q
/-- the top has a rank below k -/
def ltR (k : Nat) : List Nat → Prop
  | [] => True
  | o :: _ => rk o < k
theorem sE_app {k : Nat} {P : List Nat} (hP : ltR k P) : ∀ {Q : List Nat}, geR k Q → sE k (Q ++ P) = em Q ∧ sR k (Q ++ P) = P := by
  intro Q
  induction Q with
  | nil =>
    intro _
    show sE k P = [] ∧ sR k P = P
    cases P with
    | nil => exact ⟨rfl, rfl⟩
    | cons o P =>
      have hP : rk o < k := hP
      unfold sE sR
      rw [if_pos hP, if_pos hP]; exact ⟨rfl, rfl⟩
  | cons o Q ih =>
    intro h
    show sE k (o :: (Q ++ P)) = (o, 0) :: em Q ∧ sR k (o :: (Q ++ P)) = P
    unfold sE sR
    have h1 := h.1
    rw [if_neg (by omega), if_neg (by omega), (ih h.2.2).1]
    exact ⟨rfl, (ih h.2.2).2⟩
theorem geR.mono {k j : Nat} (hj : j ≤ k) : ∀ {Q : List Nat}, geR k Q → geR j Q := by
  intro Q
  induction Q with
  | nil => intro _; trivial
  | cons o Q ih => intro h; exact ⟨by have := h.1; omega, h.2.1, ih h.2.2⟩
theorem ltR.mono {k j : Nat} (hj : k ≤ j) {P : List Nat} (h : ltR k P) : ltR j P := by
  cases P with
  | nil => trivial
  | cons o P =>
    have h : rk o < k := h
    show rk o < j
    omega
theorem geR_app {k : Nat} {P : List Nat} : ∀ {Q : List Nat}, geR k Q → geR k P → geR k (Q ++ P) := by
  intro Q
  induction Q with
  | nil => intro _ h; exact h
  | cons o Q ih => intro h h2; exact ⟨h.1, h.2.1, ih h.2.2 h2⟩
theorem em_app : ∀ (Q P : List Nat), em (Q ++ P) = em Q ++ em P := by
  intro Q P
  induction Q with
  | nil => rfl
  | cons o Q ih =>
    show (o, 0) :: em (Q ++ P) = (o, 0) :: (em Q ++ em P)
    rw [ih]
theorem em_len : ∀ Q, (em Q).length = Q.length := by
  intro Q
  induction Q with
  | nil => rfl
  | cons o Q ih =>
    show (em Q).length + 1 = Q.length + 1
    rw [ih]
theorem opn_app : ∀ (Q P : List Nat), opn (Q ++ P) = opn Q + opn P := by
  intro Q P
  induction Q with
  | nil => exact (Nat.zero_add _).symm
  | cons o Q ih =>
    show opn1 o + opn (Q ++ P) = opn1 o + opn Q + opn P
    rw [ih]; omega
theorem opn_len : ∀ P, opn P ≤ P.length := by
  intro P
  induction P with
  | nil => exact Nat.le_refl _
  | cons o P ih =>
    show opn1 o + opn P ≤ P.length + 1
    have : opn1 o ≤ 1 := by unfold opn1; split <;> omega
    omega
theorem RCd.cg {vt vt' : Nat → Int32} : ∀ {R : List (Nat × Nat)} {b : Nat}, RCd vt b R → (∀ k, b ≤ k → k < b + 2 * R.length → vt' k = vt k) → RCd vt' b R := by
  intro R
  induction R with
  | nil => intro b _ _; trivial
  | cons p R ih =>
    intro b h e
    rw [len1] at e
    refine ⟨by rw [e b (by omega) (by omega)]; exact h.1, by rw [e (b + 1) (by omega) (by omega)]; exact h.2.1, ih h.2.2 (fun k h1 h2 => e k (by omega) (by omega))⟩
theorem RCd.app {vt : Nat → Int32} {R2 : List (Nat × Nat)} : ∀ {R1 : List (Nat × Nat)} {b : Nat}, RCd vt b R1 → RCd vt (b + 2 * R1.length) R2 → RCd vt b (R1 ++ R2) := by
  intro R1
  induction R1 with
  | nil => intro b _ h; exact h
  | cons p R1 ih =>
    intro b h1 h2
    rw [len1] at h2
    exact ⟨h1.1, h1.2.1, ih h1.2.2 (by rw [show b + 2 + 2 * R1.length = b + 2 * (R1.length + 1) by omega]; exact h2)⟩
theorem rEmit {N t0 w o v : Nat} {vt : Nat → Int32} (h : t0 + 121 + 2 * w + 1 < 2916) : f_X12_emit N vt (nI t0) (nI w) (nI o) (nI v) = some (upd (upd vt (t0 + 121 + 2 * w) (nI o)) (t0 + 121 + 2 * w + 1) (nI v), nI (w + 1)) := by
  simp (maxSteps := 1000000) (disch := omega) only [li, ob1_s, ob2_s, ob3_s, ob4_s, ob5_s, ob6_s, ob7_s, gA_n, gL_n, sA_n, sL_n, cpI_n, nI_add, pk_mul, nsub, nlt_t, nlt_f, nle_t, nle_f, neq_t, neq_f, rmI_n, dvI_n, upd_ne, upd_eq, un_ne, un_eq, Nat.add_zero, Bool.false_eq_true, ↓reduceIte, f_X12_emit]
theorem opn1_7 {o : Nat} (h : rk o = 7 ∨ o = 20) : opn1 o = 1 := by
  unfold opn1
  rw [if_pos (by omega)]
theorem opn1_n {o : Nat} (h : ¬ rk o = 7) (h2 : ¬ o = 20) (h3 : 1 ≤ rk o) : opn1 o = 0 := by
  unfold opn1
  rw [if_neg]
  rintro (q | q | q)
  · unfold rk at h3
    rw [if_pos q] at h3
    omega
  · exact h2 q
  · exact h q
theorem rSettle {N t0 k : Nat} {pile : Nat → Int32} (hk : 1 ≤ k) (hk7 : k ≤ 7) : ∀ (P : List Nat) (w n : Nat) (vt : Nat → Int32), PileT pile P → P.length < n → P.length < 160 → t0 + 121 + 2 * (w + P.length) < 2916 →
    ∃ vt' : Nat → Int32, f_X12_settle_0 N n vt (nI t0) (nI w) pile (nI P.length) (nI (opn P)) (nI k) = some (vt', nI (w + (sE k P).length), nI (sR k P).length, nI (opn (sR k P))) ∧ RCd vt' (t0 + 121 + 2 * w) (sE k P) ∧ (∀ j, (j < t0 + 121 + 2 * w ∨ t0 + 121 + 2 * (w + P.length) ≤ j) → vt' j = vt j) := by
  intro P
  induction P with
  | nil =>
    intro w n vt hp hn hb hw
    have hn : 0 < n := hn
    obtain ⟨n, rfl⟩ : ∃ m, n = m + 1 := ⟨n - 1, by omega⟩
    refine ⟨vt, ?_, trivial, fun _ _ => rfl⟩
    show f_X12_settle_0 N (n + 1) vt (nI t0) (nI w) pile (nI 0) (nI 0) (nI k) = some (vt, nI (w + 0), nI 0, nI 0)
    rw [f_X12_settle_0]
    simp (maxSteps := 1000000) (disch := omega) only [li, ob1_s, ob2_s, ob3_s, ob4_s, ob5_s, ob6_s, ob7_s, gA_n, gL_n, sA_n, sL_n, cpI_n, nI_add, pk_mul, nsub, nlt_t, nlt_f, nle_t, nle_f, neq_t, neq_f, rmI_n, dvI_n, upd_ne, upd_eq, un_ne, un_eq, Nat.add_zero, Bool.false_eq_true, ↓reduceIte]
  | cons o P ih =>
    intro w n vt hp hn hb hw
    obtain ⟨h1, h2, h3⟩ := hp
    rw [len1] at hn hb hw ⊢
    obtain ⟨n, rfl⟩ : ∃ m, n = m + 1 := ⟨n - 1, by omega⟩
    have rb := rk_b o h2
    have rr := rRank (N := N) h2
    have e1 : P.length + 1 - 1 = P.length := by omega
    have ol := opn_len P
    by_cases hr : rk o < k
    · have q1 : sE k (o :: P) = [] := by unfold sE; rw [if_pos hr]
      have q2 : sR k (o :: P) = o :: P := by unfold sR; rw [if_pos hr]
      rw [q1, q2]
      refine ⟨vt, ?_, trivial, fun _ _ => rfl⟩
      rw [f_X12_settle_0, len1]
      generalize f_X12_settle_0 N n = K
      show _ = some (vt, nI (w + 0), nI (P.length + 1), nI (opn (o :: P)))
      simp (maxSteps := 1000000) (disch := omega) only [li, ob1_s, ob2_s, ob3_s, ob4_s, ob5_s, ob6_s, ob7_s, gA_n, gL_n, sA_n, sL_n, cpI_n, nI_add, pk_mul, nsub, nlt_t, nlt_f, nle_t, nle_f, neq_t, neq_f, rmI_n, dvI_n, upd_ne, upd_eq, un_ne, un_eq, Nat.add_zero, Bool.false_eq_true, ↓reduceIte, e1, h1, rr]
    · have q1 : sE k (o :: P) = (o, 0) :: sE k P := by rw [sE, if_neg hr]
      have q2 : sR k (o :: P) = sR k P := by rw [sR, if_neg hr]
      rw [q1, q2, len1]
      have emt := rEmit (N := N) (t0 := t0) (w := w) (o := o) (v := 0) (vt := vt) (by omega)
      obtain ⟨vt', g1, g2, g3⟩ := ih (w + 1) n (upd (upd vt (t0 + 121 + 2 * w) (nI o)) (t0 + 121 + 2 * w + 1) (nI 0)) h3 (by omega) (by omega) (by omega)
      refine ⟨vt', ?_, ⟨?_, ?_, ?_⟩, fun j hj => ?_⟩
      · rw [show w + ((sE k P).length + 1) = w + 1 + (sE k P).length by omega, ← g1]
        show f_X12_settle_0 N (n + 1) vt (nI t0) (nI w) pile (nI (P.length + 1)) (nI (opn1 o + opn P)) (nI k) = _
        rw [f_X12_settle_0]
        generalize f_X12_settle_0 N n = K
        by_cases c7 : rk o = 7
        · rw [opn1_7 (Or.inl c7)]
          have e2 : 1 + opn P - 1 = opn P := by omega
          simp (maxSteps := 1000000) (disch := omega) only [li, ob1_s, ob2_s, ob3_s, ob4_s, ob5_s, ob6_s, ob7_s, gA_n, gL_n, sA_n, sL_n, cpI_n, nI_add, pk_mul, nsub, nlt_t, nlt_f, nle_t, nle_f, neq_t, neq_f, rmI_n, dvI_n, upd_ne, upd_eq, un_ne, un_eq, Nat.add_zero, Bool.false_eq_true, ↓reduceIte, e1, h1, rr, emt, c7, e2, f_X12_settle_80]
        · by_cases c20 : o = 20
          · rw [opn1_7 (Or.inr c20)]
            have e2 : 1 + opn P - 1 = opn P := by omega
            simp (maxSteps := 1000000) (disch := omega) only [li, ob1_s, ob2_s, ob3_s, ob4_s, ob5_s, ob6_s, ob7_s, gA_n, gL_n, sA_n, sL_n, cpI_n, nI_add, pk_mul, nsub, nlt_t, nlt_f, nle_t, nle_f, neq_t, neq_f, rmI_n, dvI_n, upd_ne, upd_eq, un_ne, un_eq, Nat.add_zero, Bool.false_eq_true, ↓reduceIte, e1, h1, rr, emt, e2, f_X12_settle_80]
          · rw [opn1_n c7 c20 (by omega), Nat.zero_add]
            simp (maxSteps := 1000000) (disch := omega) only [li, ob1_s, ob2_s, ob3_s, ob4_s, ob5_s, ob6_s, ob7_s, gA_n, gL_n, sA_n, sL_n, cpI_n, nI_add, pk_mul, nsub, nlt_t, nlt_f, nle_t, nle_f, neq_t, neq_f, rmI_n, dvI_n, upd_ne, upd_eq, un_ne, un_eq, Nat.add_zero, Bool.false_eq_true, ↓reduceIte, e1, h1, rr, emt, f_X12_settle_80]
      · rw [g3 _ (by omega), upd_ne (by omega), upd_eq rfl]
      · rw [g3 _ (by omega), upd_eq rfl]
      · rw [show t0 + 121 + 2 * w + 2 = t0 + 121 + 2 * (w + 1) by omega]; exact g2
      · rw [g3 j (by omega), upd_ne (by omega), upd_ne (by omega)]
/-- which one is open -/
def opw : List Nat → Option Nat
  | [] => none
  | o :: P => if 40 ≤ o then some o else opw P
def oI : Option Nat → Int32
  | none => -nI 1
  | some o => nI o
def opAt : List Nat → Option Nat
  | [] => none
  | o :: P => if 40 ≤ o then some P.length else opAt P
theorem rOpenAt {N : Nat} {pile : Nat → Int32} {pd : Int32} : ∀ (P : List Nat) (n : Nat), PileT pile P → P.length < n → P.length < 160 → f_X12_openAt_7 N n pile pd (nI P.length - nI 1) = some (oI (opAt P)) ∧ (∀ k, opAt P = some k → k < P.length ∧ ∃ o, opw P = some o ∧ pile k = nI o ∧ o < 44) ∧ (opAt P = none → opw P = none) := by
  intro P
  induction P with
  | nil =>
    intro n _ hn _
    have hn : 0 < n := hn
    obtain ⟨n, rfl⟩ : ∃ m, n = m + 1 := ⟨n - 1, by omega⟩
    refine ⟨?_, fun k h => (by cases h), fun _ => rfl⟩
    show f_X12_openAt_7 N (n + 1) pile pd (nI 0 - nI 1) = some (-nI 1)
    have e : nI 0 - nI 1 = -nI 1 := by decide
    have e2 : -nI 1 < nI 0 := by decide
    simp only [f_X12_openAt_7, li, e, e2, ↓reduceIte]
  | cons o P ih =>
    intro n hp hn hb
    obtain ⟨h1, h2, h3⟩ := hp
    rw [len1] at hn hb ⊢
    obtain ⟨n, rfl⟩ : ∃ m, n = m + 1 := ⟨n - 1, by omega⟩
    have e1 : nI (P.length + 1) - nI 1 = nI P.length := nI_pred _
    by_cases h40 : 40 ≤ o
    · have q1 : opAt (o :: P) = some P.length := by unfold opAt; rw [if_pos h40]
      have q2 : opw (o :: P) = some o := by unfold opw; rw [if_pos h40]
      rw [q1, q2]
      refine ⟨?_, fun k h => ?_, fun h => (by cases h)⟩
      · show _ = some (nI P.length)
        rw [e1, f_X12_openAt_7]
        simp (maxSteps := 1000000) (disch := omega) only [li, ob1_s, ob2_s, ob3_s, ob4_s, ob5_s, ob6_s, ob7_s, gA_n, gL_n, sA_n, sL_n, cpI_n, nI_add, pk_mul, nsub, nlt_t, nlt_f, nle_t, nle_f, neq_t, neq_f, rmI_n, dvI_n, upd_ne, upd_eq, un_ne, un_eq, Nat.add_zero, Bool.false_eq_true, ↓reduceIte, h1]
      · cases h
        exact ⟨by omega, o, rfl, h1, h2⟩
    · have q1 : opAt (o :: P) = opAt P := by rw [opAt, if_neg h40]
      have q2 : opw (o :: P) = opw P := by rw [opw, if_neg h40]
      rw [q1, q2]
      obtain ⟨g1, g2, g3⟩ := ih n h3 (by omega) (by omega)
      refine ⟨?_, fun k h => ?_, g3⟩
      · rw [← g1, e1, f_X12_openAt_7]
        generalize f_X12_openAt_7 N n = K
        have e2 : nI P.length + -nI 1 = nI P.length - nI 1 := (Int32.sub_eq_add_neg _ _).symm
        simp (disch := omega) only [li, gA_n, nlt_f, nle_f, ↓reduceIte, h1, e2]
      · obtain ⟨a1, a2⟩ := g2 k h
        exact ⟨by omega, a2⟩
theorem rOpenNow {N : Nat} {pile : Nat → Int32} {P : List Nat} (hp : PileT pile P) (hb : P.length < 160) (hN : 200 ≤ N) : f_X12_openNow N pile (nI P.length) = some (oI (opw P)) := by
  obtain ⟨g1, g2, g3⟩ := rOpenAt (N := N) (pd := nI P.length) P N hp (by omega) hb
  have g1' : f_X12_openAt N pile (nI P.length) = some (oI (opAt P)) := g1
  unfold f_X12_openNow
  rw [g1']
  cases hq : opAt P with
  | none =>
    rw [g3 hq]
    have : ¬ (0 : Int32) ≤ -nI 1 := by decide
    simp only [ob1_s, oI, this, ↓reduceIte]
    rfl
  | some k =>
    obtain ⟨a1, o, a2, a3, a4⟩ := g2 k hq
    rw [a2]
    simp (disch := omega) only [ob1_s, oI, li, nle_t, gA_n, a3, ↓reduceIte]
def cmpd : List Nat → Bool
  | [] => false
  | o :: P => if 4 < rk o then cmpd P else decide (rk o = 4)
theorem rCmpd {N : Nat} {pile : Nat → Int32} {pd : Int32} : ∀ (P : List Nat) (n : Nat), PileT pile P → P.length < n → P.length < 160 → f_X12_isCompared_7 N n pile pd (nI P.length - nI 1) = some (nI (if cmpd P = true then 1 else 0)) := by
  intro P
  induction P with
  | nil =>
    intro n _ hn _
    have hn : 0 < n := hn
    obtain ⟨n, rfl⟩ : ∃ m, n = m + 1 := ⟨n - 1, by omega⟩
    show f_X12_isCompared_7 N (n + 1) pile pd (nI 0 - nI 1) = some (nI 0)
    have e : nI 0 - nI 1 = -nI 1 := by decide
    have e2 : -nI 1 < nI 0 := by decide
    simp only [f_X12_isCompared_7, f_X12_isCompared_30, li, e, e2, ↓reduceIte]
  | cons o P ih =>
    intro n hp hn hb
    obtain ⟨h1, h2, h3⟩ := hp
    rw [len1] at hn hb ⊢
    obtain ⟨n, rfl⟩ : ∃ m, n = m + 1 := ⟨n - 1, by omega⟩
    have e1 : nI (P.length + 1) - nI 1 = nI P.length := nI_pred _
    have rb := rk_b o h2
    have rr := rRank (N := N) h2
    rw [e1, f_X12_isCompared_7]
    by_cases c4 : 4 < rk o
    · have q1 : cmpd (o :: P) = cmpd P := by rw [cmpd, if_pos c4]
      have g := ih n h3 (by omega) (by omega)
      rw [q1, ← g]
      generalize f_X12_isCompared_7 N n = K
      have e2 : nI P.length + -nI 1 = nI P.length - nI 1 := (Int32.sub_eq_add_neg _ _).symm
      simp (disch := omega) only [li, ob1_s, gA_n, nlt_f, nle_f, ↓reduceIte, h1, rr, e2]
    · have q1 : cmpd (o :: P) = decide (rk o = 4) := by rw [cmpd, if_neg c4]
      rw [q1]
      generalize f_X12_isCompared_7 N n = K
      by_cases c : rk o = 4
      · simp (disch := omega) only [li, ob1_s, gA_n, nlt_f, nle_t, neq_t, ↓reduceIte, h1, rr, c, f_X12_isCompared_30, decide_true]
      · simp (disch := omega) only [li, ob1_s, gA_n, nlt_f, nle_t, neq_f, ↓reduceIte, h1, rr, c, f_X12_isCompared_30, decide_false, Bool.false_eq_true]
/-- a new question may begin: it is asked in, and the top is its opening or joins questions -/
def topL : List Nat → Bool
  | [] => false
  | o :: _ => decide (rk o < 4)
def askA (P : List Nat) : Bool := decide (opw P = some 41) && topL P
theorem rAskA {N : Nat} {pile : Nat → Int32} {P : List Nat} (hp : PileT pile P) (hb : P.length < 160) (hN : 200 ≤ N) : f_X12_isAskAhead N pile (nI P.length) = some (nI (if askA P = true then 1 else 0)) := by
  have ow := rOpenNow (N := N) hp hb hN
  unfold f_X12_isAskAhead
  rw [ow]
  cases P with
  | nil =>
    have : ¬ oI (opw []) = 41 := by decide
    simp only [ob1_s, this, ↓reduceIte]
    rfl
  | cons o P =>
    obtain ⟨h1, h2, h3⟩ := hp
    rw [len1] at hb ⊢
    have e1 : nI (P.length + 1) - nI 1 = nI P.length := nI_pred _
    have rb := rk_b o h2
    have rr := rRank (N := N) h2
    by_cases c : opw (o :: P) = some 41
    · have c2 : askA (o :: P) = decide (rk o < 4) := by
        unfold askA
        rw [decide_eq_true c, Bool.true_and]; rfl
      rw [c, c2]
      by_cases c40 : 40 ≤ o
      · have r0 : rk o = 0 := by unfold rk; rw [if_pos c40]
        simp (disch := omega) only [ob1_s, oI, li, e1, gA_n, h1, nle_t, ↓reduceIte, f_X12_isAskAhead_47, r0, decide_true, show (0 < 4) = True from eq_true (by decide)]
      · have r1 : 1 ≤ rk o := by
          unfold rk
          rw [if_neg c40]
          repeat' split
          all_goals omega
        by_cases c4 : rk o < 4
        · have ii := isIn_in (N := N) (p := rk o) (lo := 1) (hi := 3) r1 (by omega) (by omega)
          simp (disch := omega) only [ob1_s, oI, li, e1, gA_n, h1, nle_f, neq_f, ↓reduceIte, f_X12_isAskAhead_47, rr, ii, c4, decide_true]
        · have ii : f_X12_isIn N (nI (rk o)) (nI 1) (nI 3) = some (nI 0) := by simp (maxSteps := 1000000) (disch := omega) only [li, ob1_s, ob2_s, ob3_s, ob4_s, ob5_s, ob6_s, ob7_s, gA_n, gL_n, sA_n, sL_n, cpI_n, nI_add, pk_mul, nsub, nlt_t, nlt_f, nle_t, nle_f, neq_t, neq_f, rmI_n, dvI_n, upd_ne, upd_eq, un_ne, un_eq, Nat.add_zero, Bool.false_eq_true, ↓reduceIte, f_X12_isIn]
          simp (disch := omega) only [ob1_s, oI, li, e1, gA_n, h1, nle_f, neq_f, ↓reduceIte, f_X12_isAskAhead_47, rr, ii, c4, decide_false, Bool.false_eq_true]
    · have c2 : askA (o :: P) = false := by
        unfold askA
        rw [decide_eq_false c, Bool.false_and]
      rw [c2]
      have c3 : ¬ oI (opw (o :: P)) = nI 41 := by
        cases hq : opw (o :: P) with
        | none => decide
        | some x =>
          intro h
          have hx : x < 44 := by
            obtain ⟨-, g2, g3⟩ := rOpenAt (N := N) (pd := nI 0) (o :: P) 200 ⟨h1, h2, h3⟩ (by rw [len1]; omega) (by rw [len1]; omega)
            cases hq2 : opAt (o :: P) with
            | none => rw [g3 hq2] at hq; cases hq
            | some k =>
              obtain ⟨-, y, y1, -, y2⟩ := g2 k hq2
              rw [hq] at y1
              cases y1
              exact y2
          have h : nI x = nI 41 := h
          rw [neq (by omega) (by omega)] at h
          exact c (by rw [hq, h])
      simp only [ob1_s, li, c3, ↓reduceIte]
      rfl
