/-! ones of a number of 24 bits -/
theorem land256 (a b : Nat) : a &&& b = 256 * ((a / 256) &&& (b / 256)) + ((a % 256) &&& (b % 256)) := by
  have h1 : (a &&& b) / 256 = (a / 256) &&& (b / 256) := Nat.and_div_two_pow (n := 8)
  have h2 : (a &&& b) % 256 = (a % 256) &&& (b % 256) := Nat.and_mod_two_pow (n := 8)
  rw [← h1, ← h2]; omega
theorem andb (a : Nat) {b : Nat} : a &&& b ≤ a := Nat.and_le_left
theorem bc85 : ∀ t, t < 2 → ∀ x, x < 256 → (128 * t + x / 2) &&& 85 = x / 2 &&& 85 := by decide +kernel
theorem bc51 : ∀ t, t < 4 → ∀ x, x < 256 → (64 * t + x / 4) &&& 51 = x / 4 &&& 51 := by decide +kernel
theorem bc15 : ∀ t, t < 5 → ∀ x, x < 69 → (x + x / 16 + 16 * t) &&& 15 = (x + x / 16) &&& 15 := by decide +kernel
theorem stA {M x y : Nat} (hM : M % 256 = 85) (hx : x < 256) : (x + 256 * y) / 2 &&& M = (x / 2 &&& 85) + 256 * (y / 2 &&& M / 256) := by
  rw [land256, hM, show (x + 256 * y) / 2 / 256 = y / 2 by omega, show (x + 256 * y) / 2 % 256 = 128 * (y % 2) + x / 2 by omega, bc85 (y % 2) (by omega) x hx, Nat.add_comm]
theorem stB {M x y : Nat} (hM : M % 256 = 51) (hx : x < 256) : (x + 256 * y) / 4 &&& M = (x / 4 &&& 51) + 256 * (y / 4 &&& M / 256) := by
  rw [land256, hM, show (x + 256 * y) / 4 / 256 = y / 4 by omega, show (x + 256 * y) / 4 % 256 = 64 * (y % 4) + x / 4 by omega, bc51 (y % 4) (by omega) x hx, Nat.add_comm]
theorem stD {M x y : Nat} (hM : M % 256 = 51) (hx : x < 256) : (x + 256 * y) &&& M = (x &&& 51) + 256 * (y &&& M / 256) := by
  rw [land256, hM, show (x + 256 * y) / 256 = y by omega, show (x + 256 * y) % 256 = x by omega, Nat.add_comm]
theorem stC {M x y : Nat} (hM : M % 256 = 15) (hx : x < 69) (hy : y % 16 < 5) : ((x + 256 * y) + (x + 256 * y) / 16) &&& M = ((x + x / 16) &&& 15) + 256 * ((y + y / 16) &&& M / 256) := by
  rw [land256, hM, show (x + 256 * y + (x + 256 * y) / 16) / 256 = y + y / 16 by omega, show (x + 256 * y + (x + 256 * y) / 16) % 256 = x + x / 16 + 16 * (y % 16) by omega, bc15 (y % 16) hy x hx, Nat.add_comm]
def ba (x : Nat) : Nat := x - (x / 2 &&& 85)
def bb (x : Nat) : Nat := (ba x &&& 51) + (ba x / 4 &&& 51)
theorem ba_b : ∀ x, x < 256 → ba x < 256 := by decide +kernel
theorem bb_b : ∀ x, x < 256 → bb x < 69 ∧ bb x % 16 < 5 := by decide +kernel
theorem bc_b : ∀ x, x < 256 → (bb x + bb x / 16) &&& 15 = pop x := by decide +kernel
theorem bz85 : ∀ x, x < 256 → x / 2 &&& 21845 = x / 2 &&& 85 := by decide +kernel
theorem bz51 : ∀ x, x < 256 → (x &&& 13107 = x &&& 51) ∧ (x / 4 &&& 13107 = x / 4 &&& 51) := by decide +kernel
theorem bz15 : ∀ x, x < 69 → (x + x / 16) &&& 3855 = (x + x / 16) &&& 15 := by decide +kernel
def pop3 (v : Nat) : Nat := pop (v % 256) + (pop (v / 256 % 256) + pop (v / 65536))
theorem ush {a : Nat} (k : Nat) (hk : k < 32) (ha : a < 4294967296) : ((nI a).toUInt32 >>> ((nI k).toUInt32 &&& (nI 31).toUInt32)).toInt32 = nI (a / 2 ^ k) := pk_ushrN (by omega) (nI k) k (s_u k hk)
theorem cBits3 {N v : Nat} (hv : v < 16777216) : f_J6_bitCount_0f7a4 N (nI v) = some (nI (pop3 v)) := by
  obtain ⟨x, y, z, hx, hy, hz, e⟩ : ∃ x y z, x < 256 ∧ y < 256 ∧ z < 256 ∧ v = x + 256 * (y + 256 * z) := ⟨v % 256, v / 256 % 256, v / 65536, by omega, by omega, by omega, by omega⟩
  have a1 : v / 2 &&& 1431655765 = (x / 2 &&& 85) + 256 * ((y / 2 &&& 85) + 256 * (z / 2 &&& 85)) := by
    rw [e, stA (by decide) hx, stA (by decide) hy, bz85 z hz]
  have lx := andb (x / 2) (b := 85)
  have ly := andb (y / 2) (b := 85)
  have lz := andb (z / 2) (b := 85)
  have a2 : v - (v / 2 &&& 1431655765) = ba x + 256 * (ba y + 256 * ba z) := by
    rw [a1]; unfold ba; omega
  have bx := ba_b x hx
  have by_ := ba_b y hy
  have bz := ba_b z hz
  have a3 : (ba x + 256 * (ba y + 256 * ba z)) &&& 858993459 = (ba x &&& 51) + 256 * ((ba y &&& 51) + 256 * (ba z &&& 51)) := by
    rw [stD (by decide) bx, stD (by decide) by_, (bz51 _ bz).1]
  have a4 : (ba x + 256 * (ba y + 256 * ba z)) / 4 &&& 858993459 = (ba x / 4 &&& 51) + 256 * ((ba y / 4 &&& 51) + 256 * (ba z / 4 &&& 51)) := by
    rw [stB (by decide) bx, stB (by decide) by_, (bz51 _ bz).2]
  have a5 : ((ba x + 256 * (ba y + 256 * ba z)) &&& 858993459) + ((ba x + 256 * (ba y + 256 * ba z)) / 4 &&& 858993459) = bb x + 256 * (bb y + 256 * bb z) := by
    rw [a3, a4]; unfold bb; omega
  obtain ⟨cx, cx2⟩ := bb_b x hx
  obtain ⟨cy, cy2⟩ := bb_b y hy
  obtain ⟨cz, cz2⟩ := bb_b z hz
  have a6 : ((bb x + 256 * (bb y + 256 * bb z)) + (bb x + 256 * (bb y + 256 * bb z)) / 16) &&& 252645135 = pop x + 256 * (pop y + 256 * pop z) := by
    rw [stC (by decide) cx (by omega), stC (by decide) cy (by omega), bz15 _ cz, bc_b x hx, bc_b y hy, bc_b z hz]
  have px := pop_le x
  have py := pop_le y
  have pz := pop_le z
  have p3 : pop3 v = pop x + (pop y + pop z) := by
    unfold pop3
    rw [show v % 256 = x by omega, show v / 256 % 256 = y by omega, show v / 65536 = z by omega]
  have b1 : nI v - (((nI v).toUInt32 >>> ((nI 1).toUInt32 &&& (nI 31).toUInt32)).toInt32 &&& nI 1431655765) = nI (ba x + 256 * (ba y + 256 * ba z)) := by
    have := andb (v / 2) (b := 1431655765)
    rw [ush 1 (by omega) (by omega), nand, Nat.pow_one, nsub (by omega)]
    exact congrArg nI a2
  have b2 : (nI (ba x + 256 * (ba y + 256 * ba z)) &&& nI 858993459) + (((nI (ba x + 256 * (ba y + 256 * ba z))).toUInt32 >>> ((nI 2).toUInt32 &&& (nI 31).toUInt32)).toInt32 &&& nI 858993459) = nI (bb x + 256 * (bb y + 256 * bb z)) := by
    rw [ush 2 (by omega) (by omega), nand, nand, nI_add]
    exact congrArg nI a5
  have b3 : (nI (bb x + 256 * (bb y + 256 * bb z)) + ((nI (bb x + 256 * (bb y + 256 * bb z))).toUInt32 >>> ((nI 4).toUInt32 &&& (nI 31).toUInt32)).toInt32) &&& nI 252645135 = nI (pop x + 256 * (pop y + 256 * pop z)) := by
    rw [ush 4 (by omega) (by omega), nI_add, nand]
    exact congrArg nI a6
  have b4 : nI (pop x + 256 * (pop y + 256 * pop z)) + ((nI (pop x + 256 * (pop y + 256 * pop z))).toUInt32 >>> ((nI 8).toUInt32 &&& (nI 31).toUInt32)).toInt32 = nI (pop x + pop y + 256 * (pop y + pop z) + 65536 * pop z) := by
    rw [ush 8 (by omega) (by omega), nI_add]
    congr 1; omega
  have b5 : nI (pop x + pop y + 256 * (pop y + pop z) + 65536 * pop z) + ((nI (pop x + pop y + 256 * (pop y + pop z) + 65536 * pop z)).toUInt32 >>> ((nI 16).toUInt32 &&& (nI 31).toUInt32)).toInt32 = nI (pop x + pop y + pop z + 256 * (pop y + pop z) + 65536 * pop z) := by
    rw [ush 16 (by omega) (by omega), nI_add]
    congr 1; omega
  have b6 : nI (pop x + pop y + pop z + 256 * (pop y + pop z) + 65536 * pop z) &&& nI 63 = nI (pop3 v) := by
    rw [pk_andN (by omega) (m := nI 63) 6 (by decide), p3]
    congr 1; omega
  simp only [f_J6_bitCount_0f7a4, li, b1, b2, b3, b4, b5, b6]
theorem drop1 {x y : Nat} (hx : x < 256) : (x + 256 * y) &&& (x + 256 * y - 1) = if x = 0 then 256 * (y &&& (y - 1)) else (x &&& (x - 1)) + 256 * y := by
  by_cases h : x = 0
  · subst h
    rw [if_pos rfl, land256]
    by_cases hy : y = 0
    · subst hy; rfl
    · rw [show (0 + 256 * y) / 256 = y by omega, show (0 + 256 * y) % 256 = 0 by omega, show (0 + 256 * y - 1) / 256 = y - 1 by omega, Nat.zero_and, Nat.add_zero]
  · rw [if_neg h, land256, show (x + 256 * y) / 256 = y by omega, show (x + 256 * y) % 256 = x by omega, show (x + 256 * y - 1) / 256 = y by omega, show (x + 256 * y - 1) % 256 = x - 1 by omega, Nat.and_self, Nat.add_comm]
theorem pop2_step {y : Nat} (hy : y < 65536) (h0 : y ≠ 0) : y &&& (y - 1) < 65536 ∧ pop ((y &&& (y - 1)) % 256) + pop ((y &&& (y - 1)) / 256) + 1 = pop (y % 256) + pop (y / 256) := by
  obtain ⟨x, z, hx, hz, e⟩ : ∃ x z, x < 256 ∧ z < 256 ∧ y = x + 256 * z := ⟨y % 256, y / 256, by omega, by omega, by omega⟩
  rw [e, drop1 hx, show (x + 256 * z) % 256 = x by omega, show (x + 256 * z) / 256 = z by omega]
  by_cases h : x = 0
  · obtain ⟨g1, g2⟩ := pop_step z hz (by omega)
    have p0 : pop 0 = 0 := by decide
    rw [if_pos h, show 256 * (z &&& (z - 1)) % 256 = 0 by omega, show 256 * (z &&& (z - 1)) / 256 = z &&& (z - 1) by omega, h, p0]
    omega
  · obtain ⟨g1, g2⟩ := pop_step x hx h
    rw [if_neg h, show ((x &&& (x - 1)) + 256 * z) % 256 = x &&& (x - 1) by omega, show ((x &&& (x - 1)) + 256 * z) / 256 = z by omega]
    omega
theorem pop3_step {v : Nat} (hv : v < 16777216) (h0 : v ≠ 0) : v &&& (v - 1) < 16777216 ∧ pop3 (v &&& (v - 1)) + 1 = pop3 v := by
  obtain ⟨x, y, hx, hy, e⟩ : ∃ x y, x < 256 ∧ y < 65536 ∧ v = x + 256 * y := ⟨v % 256, v / 256, by omega, by omega, by omega⟩
  have pe : ∀ v, pop3 v = pop (v % 256) + (pop (v / 256 % 256) + pop (v / 256 / 256)) := fun v => by
    unfold pop3; rw [Nat.div_div_eq_div_mul]
  rw [pe, pe, e, drop1 hx, show (x + 256 * y) % 256 = x by omega, show (x + 256 * y) / 256 = y by omega]
  by_cases h : x = 0
  · obtain ⟨g1, g2⟩ := pop2_step hy (show y ≠ 0 by omega)
    have p0 : pop 0 = 0 := by decide
    rw [if_pos h, show 256 * (y &&& (y - 1)) % 256 = 0 by omega, show 256 * (y &&& (y - 1)) / 256 = y &&& (y - 1) by omega, h, p0]
    omega
  · obtain ⟨g1, g2⟩ := pop_step x hx h
    rw [if_neg h, show ((x &&& (x - 1)) + 256 * y) % 256 = x &&& (x - 1) by omega, show ((x &&& (x - 1)) + 256 * y) / 256 = y by omega]
    omega
theorem pop3_le (v : Nat) : pop3 v ≤ 24 := by
  unfold pop3
  have h1 := pop_le (v % 256)
  have h2 := pop_le (v / 256 % 256)
  have h3 := pop_le (v / 65536)
  omega
theorem rBits3 {N v : Nat} (h : v < 16777216) (hN : 100 ≤ N) : f_X12_bits N (lN v) = some (nI (pop3 v)) := by
  have key : ∀ k v c n, v < 16777216 → pop3 v = k → k < n → f_X12_bits_4 N n (nI c) (lN v) = some (nI (c + k)) := by
    intro k
    induction k with
    | zero =>
      intro v c n hv hk hn
      obtain ⟨n, rfl⟩ : ∃ m, n = m + 1 := ⟨n - 1, by omega⟩
      have h0 : v = 0 := Classical.byContradiction fun h => by
        have := (pop3_step hv h).2
        omega
      subst h0
      rw [f_X12_bits_4, if_pos (by decide)]
      rfl
    | succ k ih =>
      intro v c n hv hk hn
      obtain ⟨n, rfl⟩ : ∃ m, n = m + 1 := ⟨n - 1, by omega⟩
      have h0 : v ≠ 0 := fun h => by
        subst h
        have : pop3 0 = 0 := by decide
        omega
      obtain ⟨g1, g2⟩ := pop3_step hv h0
      rw [f_X12_bits_4, if_neg]
      · have := ih (v &&& (v - 1)) (c + 1) n g1 (by omega) (by omega)
        rw [liL, lN_sub (by omega), nandL, nI_1, this, Nat.add_assoc, Nat.add_comm 1 k]
      · exact fun e => h0 ((cmp0 (by omega)).mp e)
  have := pop3_le v
  have g := key (pop3 v) v 0 N h rfl (by omega)
  rw [Nat.zero_add] at g
  exact g
