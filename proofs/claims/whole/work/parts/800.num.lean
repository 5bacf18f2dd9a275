/-! the pure side: numbers, rows read and written at plain places -/
theorem li (n : Nat) : (OfNat.ofNat n : Int32) = nI (OfNat.ofNat n) := Eq.trans rfl rfl
theorem gA_n {β : Type} {f : Nat → Int32} {n i : Nat} {k : Int32 → Option β} (h : i < n) (hn : n < 2147483648) : gA f n (nI i) k = k (f i) := by
  unfold gA
  rw [if_neg (nI_in h (by omega)), nI_clamp (by omega)]
theorem gL_n {β : Type} {f : Nat → Int64} {n i : Nat} {k : Int64 → Option β} (h : i < n) (hn : n < 2147483648) : gL f n (nI i) k = k (f i) := by
  unfold gL
  rw [if_neg (nI_in h (by omega)), nI_clamp (by omega)]
theorem sA_n {β : Type} {f : Nat → Int32} {n i : Nat} {x : Int32} {k : (Nat → Int32) → Option β} (h : i < n) (hn : n < 2147483648) : sA f n (nI i) x k = k (upd f i x) := by
  unfold sA
  rw [if_neg (nI_in h (by omega)), nI_clamp (by omega)]
theorem sL_n {β : Type} {f : Nat → Int64} {n i : Nat} {x : Int64} {k : (Nat → Int64) → Option β} (h : i < n) (hn : n < 2147483648) : sL f n (nI i) x k = k (vp_updL f i x) := by
  unfold sL
  rw [if_neg (nI_in h (by omega)), nI_clamp (by omega)]
theorem cpI_n {β : Type} {f g : Nat → Int32} {n0 n1 s d n : Nat} {k : (Nat → Int32) → Option β} (h0 : s + n ≤ n0) (h1 : d + n ≤ n1) (hn : n0 < 2147483648) (hn1 : n1 < 2147483648) : cpI f n0 g n1 (nI s) (nI d) (nI n) k = k (va_cpy f g s d n) := by
  unfold cpI
  rw [nI_clamp (n := s) (by omega), nI_clamp (n := d) (by omega), nI_clamp (n := n) (by omega)]
  rw [if_neg]
  rintro (h | h | h | h | h)
  · exact nI_pos (by omega) h
  · exact nI_pos (by omega) h
  · exact nI_pos (by omega) h
  · omega
  · omega
theorem ob1_s {A B : Type} {a : A} {k : A → Option B} : ob1 (some a) k = k a := Eq.trans rfl rfl
theorem ob2_s {A B C : Type} {a : A} {b : B} {k : A → B → Option C} : ob2 (some (a, b)) k = k a b := Eq.trans rfl rfl
theorem ob3_s {A B C D : Type} {a : A} {b : B} {c : C} {k : A → B → C → Option D} : ob3 (some (a, b, c)) k = k a b c := Eq.trans rfl rfl
theorem ob4_s {A B C D E : Type} {a : A} {b : B} {c : C} {d : D} {k : A → B → C → D → Option E} : ob4 (some (a, b, c, d)) k = k a b c d := Eq.trans rfl rfl
theorem ob5_s {A B C D E F : Type} {a : A} {b : B} {c : C} {d : D} {e : E} {k : A → B → C → D → E → Option F} : ob5 (some (a, b, c, d, e)) k = k a b c d e := Eq.trans rfl rfl
theorem ob6_s {A B C D E F G : Type} {a : A} {b : B} {c : C} {d : D} {e : E} {f : F} {k : A → B → C → D → E → F → Option G} : ob6 (some (a, b, c, d, e, f)) k = k a b c d e f := Eq.trans rfl rfl
theorem ob7_s {A B C D E F G H : Type} {a : A} {b : B} {c : C} {d : D} {e : E} {f : F} {g : G} {k : A → B → C → D → E → F → G → Option H} : ob7 (some (a, b, c, d, e, f, g)) k = k a b c d e f g := Eq.trans rfl rfl
theorem upd_ne {f : Nat → Int32} {k j : Nat} {x : Int32} (h : j ≠ k) : upd f k x j = f j := pk_un h
theorem upd_eq {f : Nat → Int32} {k j : Nat} {x : Int32} (h : j = k) : upd f k x j = x := by rw [h]; exact pk_us
def un (S : Nat → Nat) (i v : Nat) : Nat → Nat := fun j => if j = i then v else S j
theorem un_ne {S : Nat → Nat} {i v j : Nat} (h : j ≠ i) : un S i v j = S j := if_neg h
theorem un_eq {S : Nat → Nat} {i v j : Nat} (h : j = i) : un S i v j = v := if_pos h
theorem nle {a b : Nat} (ha : a < 2147483648) (hb : b < 2147483648) : nI a ≤ nI b ↔ a ≤ b := nI_leI (by omega) (by omega)
theorem nlt {a b : Nat} (ha : a < 2147483648) (hb : b < 2147483648) : nI a < nI b ↔ a < b := nI_ltI (by omega) (by omega)
theorem neq {a b : Nat} (ha : a < 2147483648) (hb : b < 2147483648) : nI a = nI b ↔ a = b := nI_eq (by omega) (by omega)
theorem nsub {a b : Nat} (h : b ≤ a) : nI a - nI b = nI (a - b) := pk_sub h
theorem rmI_n {β : Type} {a d : Nat} {k : Int32 → Option β} (ha : a < 2147483648) (h0 : 0 < d) (hd : d < 2147483648) : rmI (nI a) (nI d) k = k (nI (a % d)) := by
  unfold rmI
  rw [if_neg (nI_ne0 h0 (by omega)), pk_rem (by omega) h0 (by omega)]
theorem dvI_n {β : Type} {a d : Nat} {k : Int32 → Option β} (ha : a < 2147483648) (h0 : 0 < d) (hd : d < 2147483648) : dvI (nI a) (nI d) k = k (nI (a / d)) := by
  unfold dvI
  rw [if_neg (nI_ne0 h0 (by omega)), pk_div (by omega) h0 (by omega)]
theorem sml : ∀ n, n < 32 → ((nI n &&& nI 31).toBitVec.smod 32).toNat = n := by decide +kernel
theorem nshr {a k : Nat} (ha : a < 2147483648) (hk : k < 32) : nI a >>> (nI k &&& nI 31) = nI (a / 2 ^ k) := pk_shrN (by omega) _ k (sml k hk)
theorem nshl {a k : Nat} (hk : k < 32) (h : a * 2 ^ k < 4294967296) : nI a <<< (nI k &&& nI 31) = nI (a * 2 ^ k) := pk_shlN _ k (sml k hk) (by omega)
theorem nand (a b : Nat) : nI a &&& nI b = nI (a &&& b) := by
  apply Int32.toBitVec_inj.mp
  show BitVec.ofNat 32 a &&& BitVec.ofNat 32 b = BitVec.ofNat 32 (a &&& b)
  apply BitVec.eq_of_toNat_eq
  simp [BitVec.toNat_and, Nat.and_mod_two_pow]
theorem nor (a b : Nat) : nI a ||| nI b = nI (a ||| b) := by
  apply Int32.toBitVec_inj.mp
  show BitVec.ofNat 32 a ||| BitVec.ofNat 32 b = BitVec.ofNat 32 (a ||| b)
  apply BitVec.eq_of_toNat_eq
  simp [BitVec.toNat_or, Nat.or_mod_two_pow]
/-- one bit of a number -/
theorem nbit {a k : Nat} (ha : a < 2147483648) (hk : k < 32) : (nI a >>> (nI k &&& nI 31)) &&& nI 1 = nI (if a.testBit k then 1 else 0) := by
  rw [nshr ha hk, nand, Nat.and_one_is_mod, Nat.testBit_eq_decide_div_mod_eq]
  have : a / 2 ^ k % 2 = 0 ∨ a / 2 ^ k % 2 = 1 := by omega
  rcases this with h | h <;> simp [h]
theorem m1_lt (k : Nat) (h : k < 2147483648) : -nI 1 < nI k := by
  show (-1 : Int32) < nI k
  rw [Int32.lt_iff_toInt_lt, nI_toInt (by omega)]
  have : (-1 : Int32).toInt = -1 := by decide
  omega
theorem m1_ne {k : Nat} (h : k < 2147483648) : ¬ nI k = -nI 1 := fun e => by
  have h1 := m1_lt k h
  rw [e] at h1
  exact absurd h1 (by decide)
theorem m1_ne' {k : Nat} (h : k < 2147483648) : ¬ -nI 1 = nI k := fun e => m1_ne h e.symm
theorem m2_ne {k : Nat} (h : k < 2147483648) : ¬ nI k = -nI 2 := fun e => by
  have h1 : (nI k).toInt = (k : Int) := nI_toInt (by omega)
  rw [e] at h1
  have : (-nI 2).toInt = -2 := by decide
  omega
/-- ranges: a number is outside a range, or a plain one in it -/
theorem rng (x : Int32) (n : Nat) (hn : n < 2147483648) : (x < nI 0) ∨ (nI n ≤ x ∧ ¬ x < nI 0) ∨ ∃ j : Nat, j < n ∧ x = nI j := by
  by_cases h : x < nI 0
  · exact Or.inl h
  · rcases pk_ix x (n := n) (by omega) with h1 | h1 | h1
    · exact absurd h1 h
    · exact Or.inr (Or.inl ⟨h1, h⟩)
    · exact Or.inr (Or.inr h1)
theorem ge_pred {x : Int32} {n : Nat} (hn : n < 2147483648) (h : nI n ≤ x) (h0 : ¬ x < nI 0) : nI n - nI 1 < x := by
  cases n with
  | zero =>
    have e : nI 0 - nI 1 = (-1 : Int32) := by decide
    rw [e]
    rw [Int32.lt_iff_toInt_lt] at h0 ⊢
    have e1 : (-1 : Int32).toInt = -1 := by decide
    have e2 : (nI 0).toInt = 0 := by decide
    omega
  | succ n =>
    rw [nsub (by omega)]
    rw [Int32.le_iff_toInt_le, nI_toInt (by omega)] at h
    rw [Int32.lt_iff_toInt_lt, nI_toInt (by omega)]
    omega
theorem ge_nlt {x : Int32} {n m : Nat} (hn : n < 2147483648) (hm : m ≤ n) (h : nI n ≤ x) : ¬ x < nI m := by
  rw [Int32.le_iff_toInt_le, nI_toInt (by omega)] at h
  rw [Int32.lt_iff_toInt_lt, nI_toInt (by omega)]
  omega
theorem ge_lt {x : Int32} {n m : Nat} (hn : n < 2147483648) (hm : m < n) (h : nI n ≤ x) : nI m < x := by
  rw [Int32.le_iff_toInt_le, nI_toInt (by omega)] at h
  rw [Int32.lt_iff_toInt_lt, nI_toInt (by omega)]
  omega
theorem ge_nle {x : Int32} {n m : Nat} (hn : n < 2147483648) (hm : m < n) (h : nI n ≤ x) : ¬ x ≤ nI m := by
  rw [Int32.le_iff_toInt_le, nI_toInt (by omega)] at h
  rw [Int32.le_iff_toInt_le, nI_toInt (by omega)]
  omega
theorem neg_lt {x : Int32} {m : Nat} (hm : m < 2147483648) (h : x < nI 0) : x < nI m := by
  rw [Int32.lt_iff_toInt_lt] at h ⊢
  rw [nI_toInt (by omega)] at h ⊢
  omega
/-- the reference's cells and a row of plain numbers; place 3 holds one less -/
def TieA (a : Nat → Int32) (S : Nat → Nat) : Prop := a 3 = nI (S 3) - 1 ∧ ∀ i, i < 8762 → i ≠ 3 → a i = nI (S i)
theorem TieA.up {a : Nat → Int32} {S : Nat → Nat} (h : TieA a S) {i v : Nat} (hi : i ≠ 3) : TieA (upd a i (nI v)) (un S i v) := by
  refine ⟨by rw [upd_ne (Ne.symm hi), un_ne (Ne.symm hi)]; exact h.1, fun k hk hk3 => ?_⟩
  by_cases e : k = i
  · rw [upd_eq e, un_eq e]
  · rw [upd_ne e, un_ne e]; exact h.2 k hk hk3
theorem nlt_t {a b : Nat} (h : a < b) (hb : b < 2147483648) : (nI a < nI b) = True := eq_true (nI_lt h (by omega))
theorem nlt_f {a b : Nat} (h : b ≤ a) (hb : a < 2147483648) : (nI a < nI b) = False := eq_false (nI_nlt h (by omega))
theorem nle_t {a b : Nat} (h : a ≤ b) (hb : b < 2147483648) : (nI a ≤ nI b) = True := eq_true (nI_le h (by omega))
theorem nle_f {a b : Nat} (h : b < a) (hb : a < 2147483648) : (nI a ≤ nI b) = False := eq_false (nI_ge h (by omega))
theorem neq_t {a b : Nat} (h : a = b) : (nI a = nI b) = True := eq_true (congrArg nI h)
theorem neq_f {a b : Nat} (h : a ≠ b) (ha : a < 2147483648) (hb : b < 2147483648) : (nI a = nI b) = False := eq_false (fun e => h ((neq ha hb).mp e))
/-- outside of 0 .. n - 1 -/
def Out (x : Int32) (n : Nat) : Prop := x < nI 0 ∨ (nI n ≤ x ∧ ¬ x < nI 0)
theorem inOut (x : Int32) (n : Nat) (hn : n < 2147483648) : Out x n ∨ ∃ j : Nat, j < n ∧ x = nI j := by
  rcases rng x n hn with h | h | h
  · exact Or.inl (Or.inl h)
  · exact Or.inl (Or.inr h)
  · exact Or.inr h
