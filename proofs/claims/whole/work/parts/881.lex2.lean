def Bl (T : Nat → Nat) (p q : Nat) : Prop := p ≤ q ∧ ∀ k, p ≤ k → k < q → isB (T k) = true
def pe (En : Nat → Nat) (i : Nat) : Nat := if i = 0 then 0 else En (i - 1)
/-- the class's tokens: n of them, the last one at the end -/
def Tks (L : Nat) (T : Nat → Nat) (n : Nat) (K Nu Pl En : Nat → Nat) : Prop :=
  1 ≤ n ∧ n ≤ L + 1 ∧ K (n - 1) = 47 ∧ Nu (n - 1) = 0 ∧ Pl (n - 1) = L ∧ En (n - 1) = L ∧ Bl T (pe En (n - 1)) L ∧ ∀ i, i + 1 < n → Lx L T (K i) (Nu i) (Pl i) (En i) ∧ Bl T (pe En i) (Pl i)
theorem cSplit {N L : Nat} {by_ : Nat → Int32} {T : Nat → Nat} (h : CBy L by_ T) (hN : 1000 ≤ N) (tok0 : Int32) (ki pl nu : Nat → Int32) :
    ∃ (n : Nat) (K Nu Pl En : Nat → Nat) (ki' pl' nu' : Nat → Int32), f_X8_split N (nI L) tok0 by_ ki pl nu = some (nI n, ki', pl', nu') ∧ Tks L T n K Nu Pl En ∧ ∀ i, i < n → ki' i = nI (K i) ∧ pl' i = nI (Pl i) ∧ nu' i = nI (Nu i) := by
  have h1 := h.1
  have h10 : (nI 1 = nI 0) = False := eq_false (by decide)
  have key : ∀ q f a tok turn (ki pl nu : Nat → Int32) (K Nu Pl En : Nat → Nat), L - a ≤ q → q < f → a ≤ L → tok ≤ a → turn ≤ a → (∀ i, i < tok → ki i = nI (K i) ∧ pl i = nI (Pl i) ∧ nu i = nI (Nu i)) → (∀ i, i < tok → Lx L T (K i) (Nu i) (Pl i) (En i) ∧ Bl T (pe En i) (Pl i)) → Bl T (pe En tok) a →
      ∃ (n : Nat) (K Nu Pl En : Nat → Nat) (ki' pl' nu' : Nat → Int32), f_X8_split_9 N f (nI L) (nI tok) by_ ki pl nu (nI a) (nI turn) = some (nI n, ki', pl', nu') ∧ Tks L T n K Nu Pl En ∧ ∀ i, i < n → ki' i = nI (K i) ∧ pl' i = nI (Pl i) ∧ nu' i = nI (Nu i) := by
    intro q
    induction q with
    | zero =>
      intro f a tok turn ki pl nu K Nu Pl En a1 a2 a3 a4 a5 a6 a7 a8
      have : a = L := by omega
      subst this
      obtain ⟨f, rfl⟩ : ∃ m, f = m + 1 := ⟨f - 1, by omega⟩
      have pt := cTPut (N := N) (p := 47) (q := a) (r := 0) (ki := ki) (pl := pl) (nu := nu) (show tok ≤ 300 by omega)
      have pe1 : pe (un En tok a) tok = pe En tok := by
        unfold pe
        by_cases w : tok = 0
        · rw [if_pos w, if_pos w]
        · rw [if_neg w, if_neg w, un_ne (by omega)]
      refine ⟨tok + 1, un K tok 47, un Nu tok 0, un Pl tok a, un En tok a, upd ki tok (nI 47), upd pl tok (nI a), upd nu tok (nI 0), ?_, ⟨by omega, by omega, un_eq rfl, un_eq rfl, un_eq rfl, un_eq rfl, ?_, fun i hi => ?_⟩, fun i hi => ?_⟩
      · rw [f_X8_split_9]
        generalize f_X8_split_9 N f = Kf
        by_cases w : turn = 300
        · simp (disch := omega) only [li, nle_t, f_X8_split_53, pt, ob4_s, ↓reduceIte]
        · simp (disch := omega) only [li, nle_f, nle_t, f_X8_split_53, pt, ob4_s, ↓reduceIte]
      · rw [Nat.add_sub_cancel, pe1]; exact a8
      · have pe2 : pe (un En tok a) i = pe En i := by
          unfold pe
          by_cases w : i = 0
          · rw [if_pos w, if_pos w]
          · rw [if_neg w, if_neg w, un_ne (by omega)]
        rw [un_ne (by omega), un_ne (by omega), un_ne (by omega), un_ne (by omega), pe2]
        exact a7 i (by omega)
      · by_cases w : i = tok
        · rw [upd_eq w, upd_eq w, upd_eq w, un_eq w, un_eq w, un_eq w]; exact ⟨rfl, rfl, rfl⟩
        · rw [upd_ne w, upd_ne w, upd_ne w, un_ne w, un_ne w, un_ne w]; exact a6 i (by omega)
    | succ q ih =>
      intro f a tok turn ki pl nu K Nu Pl En a1 a2 a3 a4 a5 a6 a7 a8
      by_cases aL : a = L
      · exact ih f a tok turn ki pl nu K Nu Pl En (by omega) (by omega) a3 a4 a5 a6 a7 a8
      obtain ⟨f, rfl⟩ : ∃ m, f = m + 1 := ⟨f - 1, by omega⟩
      have tb := (h.2 a (by omega)).1
      have by1 := cByte (N := N) h (a := a) (by omega)
      have cb := cBlank (N := N) tb
      by_cases hb : isB (T a) = true
      · rw [if_pos hb] at cb
        obtain ⟨n, K', Nu', Pl', En', ki', pl', nu', g1, g2⟩ := ih f (a + 1) tok (turn + 1) ki pl nu K Nu Pl En (by omega) (by omega) (by omega) (by omega) (by omega) a6 a7 ⟨by have := a8.1; omega, fun k k1 k2 => by
          by_cases w : k = a
          · subst w; exact hb
          · exact a8.2 k k1 (by omega)⟩
        refine ⟨n, K', Nu', Pl', En', ki', pl', nu', ?_, g2⟩
        rw [← g1, f_X8_split_9]
        generalize f_X8_split_9 N f = Kf
        simp (disch := omega) only [li, nle_f, by1, cb, h10, f_X8_split_46, nI_add, ob1_s, ↓reduceIte]
      · rw [if_neg hb] at cb
        obtain ⟨Kx, Nx, e, l1, l2⟩ := cCut1 (N := N) (ki := ki) (pl := pl) (nu := nu) h hN (a := a) (tok := tok) (by omega) (Bool.eq_false_iff.mpr hb) (by omega)
        have le1 := l1.1
        have le2 := l1.2.1
        have pe1 : pe (un En tok e) (tok + 1) = e := by
          unfold pe
          rw [if_neg (by omega), Nat.add_sub_cancel, un_eq rfl]
        obtain ⟨n, K', Nu', Pl', En', ki', pl', nu', g1, g2⟩ := ih f e (tok + 1) (turn + 1) (upd ki tok (nI Kx)) (upd pl tok (nI a)) (upd nu tok (nI Nx)) (un K tok Kx) (un Nu tok Nx) (un Pl tok a) (un En tok e) (by omega) (by omega) (by omega) (by omega) (by omega) (fun i hi => by
          by_cases w : i = tok
          · rw [upd_eq w, upd_eq w, upd_eq w, un_eq w, un_eq w, un_eq w]; exact ⟨rfl, rfl, rfl⟩
          · rw [upd_ne w, upd_ne w, upd_ne w, un_ne w, un_ne w, un_ne w]; exact a6 i (by omega)) (fun i hi => by
          have pe2 : pe (un En tok e) i = pe En i := by
            unfold pe
            by_cases w : i = 0
            · rw [if_pos w, if_pos w]
            · rw [if_neg w, if_neg w, un_ne (by omega)]
          rw [pe2]
          by_cases w : i = tok
          · rw [un_eq w, un_eq w, un_eq w, un_eq w, w]; exact ⟨l1, a8⟩
          · rw [un_ne w, un_ne w, un_ne w, un_ne w]; exact a7 i (by omega)) (by rw [pe1]; exact ⟨Nat.le_refl _, fun k k1 k2 => by omega⟩)
        refine ⟨n, K', Nu', Pl', En', ki', pl', nu', ?_, g2⟩
        rw [← g1, f_X8_split_9]
        generalize f_X8_split_9 N f = Kf
        simp (disch := omega) only [li, nle_f, by1, cb, l2, f_X8_split_46, nI_add, ob1_s, ob5_s, ↓reduceIte]
  exact key L N 0 0 0 ki pl nu (fun _ => 0) (fun _ => 0) (fun _ => 0) (fun _ => 0) (by omega) (by omega) (by omega) (by omega) (by omega) (fun i hi => by omega) (fun i hi => by omega) ⟨Nat.le_refl _, fun k k1 k2 => by omega⟩
/-! the reference's tokens -/
def RBy (L : Nat) (tp : Nat → Int32) (T : Nat → Nat) : Prop := L ≤ 300 ∧ ∀ i, i < L → T i < 256 ∧ tp i = nI (T i)
theorem rByte {N L : Nat} {tp : Nat → Int32} {T : Nat → Nat} (h : RBy L tp T) {a : Nat} (ha : a < L) : f_X12_byteAt N tp (nI L) (nI a) = some (nI (T a)) := by
  have h1 := h.1
  have h2 := (h.2 a ha).2
  simp (maxSteps := 1000000) (disch := omega) only [li, ob1_s, ob2_s, ob3_s, ob4_s, ob5_s, ob6_s, ob7_s, gA_n, gL_n, sA_n, sL_n, cpI_n, nI_add, pk_mul, nsub, nlt_t, nlt_f, nle_t, nle_f, neq_t, neq_f, rmI_n, dvI_n, upd_ne, upd_eq, un_ne, un_eq, Nat.add_zero, Bool.false_eq_true, ↓reduceIte, f_X12_byteAt, h2]
theorem rByteX {N L : Nat} {tp : Nat → Int32} {T : Nat → Nat} (h : RBy L tp T) {a : Nat} (ha : L ≤ a) (hb : a < 1000) : f_X12_byteAt N tp (nI L) (nI a) = some (-nI 1) := by
  simp (maxSteps := 1000000) (disch := omega) only [li, ob1_s, ob2_s, ob3_s, ob4_s, ob5_s, ob6_s, ob7_s, gA_n, gL_n, sA_n, sL_n, cpI_n, nI_add, pk_mul, nsub, nlt_t, nlt_f, nle_t, nle_f, neq_t, neq_f, rmI_n, dvI_n, upd_ne, upd_eq, un_ne, un_eq, Nat.add_zero, Bool.false_eq_true, ↓reduceIte, f_X12_byteAt]
theorem shr48 {w : Nat} (h : w < 4611686018427387904) : lN w >>> ((nI 48).toInt64 &&& 63) = lN (w / 281474976710656) := by
  have hd : ((((nI 48).toInt64 &&& 63) : Int64).toBitVec.smod 64).toNat = 48 := by decide
  apply Int64.toInt_inj.mp
  have e : (lN w >>> ((nI 48).toInt64 &&& 63)).toInt = (lN w).toInt >>> 48 := by
    rw [← hd]
    exact BitVec.toInt_sshiftRight ..
  rw [e, Int.shiftRight_eq_div_pow, pk_lT (by omega), pk_lT (by omega)]
  rfl
theorem shl8 {w : Nat} : lN w <<< ((nI 8).toInt64 &&& 63) = lN (w * 256) := by
  apply Int64.toBitVec_inj.mp
  have hd : (((nI 8).toInt64 &&& 63) : Int64).toBitVec.smod 64 = 8#64 := by decide
  show (lN w).toBitVec <<< ((((nI 8).toInt64 &&& 63) : Int64).toBitVec.smod 64) = (lN (w * 256)).toBitVec
  rw [hd]
  apply BitVec.eq_of_toNat_eq
  show (BitVec.ofNat 64 w <<< 8#64).toNat = (BitVec.ofNat 64 (w * 256)).toNat
  rw [BitVec.shiftLeft_eq', BitVec.toNat_shiftLeft, BitVec.toNat_ofNat, BitVec.toNat_ofNat, Nat.shiftLeft_eq]
  show w % 2 ^ 64 * 256 % 2 ^ 64 = w * 256 % 2 ^ 64
  omega
theorem orL (a b : Nat) : lN a ||| lN b = lN (a ||| b) := by
  apply Int64.toBitVec_inj.mp
  show BitVec.ofNat 64 a ||| BitVec.ofNat 64 b = BitVec.ofNat 64 (a ||| b)
  apply BitVec.eq_of_toNat_eq
  simp [BitVec.toNat_or, Nat.or_mod_two_pow]
theorem byteOr {w b : Nat} (hb : b < 256) : (lN w <<< ((nI 8).toInt64 &&& 63)) ||| (nI b).toInt64 = lN (w * 256 + b) := by
  rw [shl8, nIl (by omega), orL]
  congr 1
  have := Nat.two_pow_add_eq_or_of_lt (i := 8) (b := b) hb w
  rw [show w * 256 = 2 ^ 8 * w by omega]
  exact this.symm
theorem shl8' {w : Nat} {b : Nat} (hb : b < 256) : (lN w <<< ((8 : Int32).toInt64 &&& 63)) ||| (nI b).toInt64 = lN (w * 256 + b) := byteOr hb
def wv (T : Nat → Nat) (a : Nat) : Nat → Nat
  | 0 => 0
  | k + 1 => if wv T a k / 281474976710656 = 0 then wv T a k * 256 + T (a + k) else 1152921504606846976
def bv (T : Nat → Nat) (a : Nat) : Nat → Nat
  | 0 => 0
  | k + 1 => bv T a k * 256 + T (a + k)
theorem wv_b {T : Nat → Nat} {a : Nat} : ∀ m, (∀ i, i < m → T (a + i) < 256) → wv T a m < 4611686018427387904 := by
  intro m
  induction m with
  | zero => intro _; unfold wv; omega
  | succ m ih =>
    intro h
    have h1 := h m (by omega)
    have h2 := ih (fun i hi => h i (by omega))
    unfold wv
    split <;> omega
theorem bv_b {T : Nat → Nat} {a : Nat} : ∀ m, (∀ i, i < m → T (a + i) < 256) → bv T a m < 256 ^ m := by
  intro m
  induction m with
  | zero => intro _; unfold bv; decide
  | succ m ih =>
    intro h
    have h1 := h m (by omega)
    have h2 := ih (fun i hi => h i (by omega))
    unfold bv
    rw [Nat.pow_succ]
    omega
theorem bv_l {T : Nat → Nat} {a : Nat} : ∀ m, (∀ i, i < m + 1 → 1 ≤ T (a + i)) → 256 ^ m ≤ bv T a (m + 1) := by
  intro m
  induction m with
  | zero =>
    intro h
    have := h 0 (by omega)
    show 1 ≤ 0 * 256 + T (a + 0)
    omega
  | succ m ih =>
    intro h
    have h2 := ih (fun i hi => h i (by omega))
    rw [bv, Nat.pow_succ]
    omega
theorem wv_7 {T : Nat → Nat} {a : Nat} : ∀ m, m ≤ 7 → (∀ i, i < m → T (a + i) < 256) → wv T a m = bv T a m := by
  intro m
  induction m with
  | zero => intro _ _; rfl
  | succ m ih =>
    intro h7 h
    have h2 := ih (by omega) (fun i hi => h i (by omega))
    have h3 := bv_b m (fun i hi => h i (by omega) : ∀ i, i < m → T (a + i) < 256)
    have h4 : 256 ^ m ≤ 256 ^ 6 := Nat.pow_le_pow_right (by omega) (by omega)
    have h5 : (256 : Nat) ^ 6 = 281474976710656 := by decide
    rw [wv, bv, h2, if_pos (Nat.div_eq_of_lt (by omega))]
theorem wv_8 {T : Nat → Nat} {a : Nat} : ∀ m, (∀ i, i < 8 + m → 1 ≤ T (a + i) ∧ T (a + i) < 256) → wv T a (8 + m) = 1152921504606846976 := by
  intro m
  induction m with
  | zero =>
    intro h
    have h1 := wv_7 7 (by omega) (fun i hi => (h i (by omega)).2 : ∀ i, i < 7 → T (a + i) < 256)
    have h2 : 256 ^ 6 ≤ bv T a 7 := bv_l (T := T) (a := a) 6 (fun i hi => (h i (by omega)).1)
    have h5 : (256 : Nat) ^ 6 = 281474976710656 := by decide
    show wv T a (7 + 1) = _
    rw [wv, if_neg]
    rw [h1]
    omega
  | succ m ih =>
    intro h
    have h1 := ih (fun i hi => h i (by omega))
    show wv T a (8 + m + 1) = _
    rw [wv, h1, if_neg (by decide)]
def lvw (k : Nat) : Nat → Nat
  | 0 => 0
  | m + 1 => lvw k m * 256 + wN (fr k + m)
theorem lvw_c : ∀ k, k < 33 → lvw k (ln k) = wc k := by decide +kernel
theorem lvw_i {T : Nat → Nat} {a k : Nat} : ∀ m r, (∀ i, i < m → 1 ≤ T (a + i) ∧ T (a + i) < 256) → (∀ i, i < r → 1 ≤ wN (fr k + i) ∧ wN (fr k + i) < 128) → (bv T a m = lvw k r ↔ m = r ∧ ∀ i, i < m → T (a + i) = wN (fr k + i)) := by
  intro m
  induction m with
  | zero =>
    intro r h1 h2
    cases r with
    | zero => exact ⟨fun _ => ⟨rfl, fun i hi => by omega⟩, fun _ => rfl⟩
    | succ r =>
      have := h2 r (by omega)
      refine ⟨fun h => ?_, fun h => by omega⟩
      rw [lvw] at h
      have h : 0 = lvw k r * 256 + wN (fr k + r) := h
      omega
  | succ m ih =>
    intro r h1 h2
    have a1 := h1 m (by omega)
    cases r with
    | zero =>
      refine ⟨fun h => ?_, fun h => by omega⟩
      rw [bv] at h
      have h : bv T a m * 256 + T (a + m) = 0 := h
      omega
    | succ r =>
      have a2 := h2 r (by omega)
      have g := ih r (fun i hi => h1 i (by omega)) (fun i hi => h2 i (by omega))
      rw [bv, lvw]
      constructor
      · intro h
        obtain ⟨g1, g2⟩ := g.mp (by omega)
        refine ⟨by omega, fun i hi => ?_⟩
        by_cases w : i = m
        · subst w
          rw [g1]
          rw [← g1]
          have : T (a + i) = wN (fr k + r) := by omega
          rw [this, g1]
        · exact g2 i (by omega)
      · rintro ⟨g1, g2⟩
        have e1 := g.mpr ⟨by omega, fun i hi => g2 i (by omega)⟩
        have e2 := g2 m (by omega)
        have : m = r := by omega
        subst this
        rw [e1, e2]
theorem wvMF {T : Nat → Nat} {a m k : Nat} (hk : k < 33) (hm : 1 ≤ m) (h : ∀ i, i < m → 1 ≤ T (a + i) ∧ T (a + i) < 256) : wv T a m = wc k ↔ MF T a m k := by
  obtain ⟨w1, w2, w3, w4, w5, w6⟩ := wN_k k hk
  have hw : ∀ i, i < ln k → 1 ≤ wN (fr k + i) ∧ wN (fr k + i) < 128 := fun i hi => ⟨(w1 i hi).2, (wN_F (fr k + i) (by omega)).2⟩
  rcases Nat.lt_or_ge m 8 with c | c
  · rw [wv_7 m (by omega) (fun i hi => (h i hi).2), ← lvw_c k hk]
    exact lvw_i m (ln k) h hw
  · obtain ⟨d, rfl⟩ : ∃ d, m = 8 + d := ⟨m - 8, by omega⟩
    rw [wv_8 d h]
    refine ⟨fun e => ?_, fun e => ?_⟩
    · have := (by decide : ∀ k, k < 33 → wc k < 1152921504606846976) k hk
      omega
    · have := e.1
      omega
theorem wc_inj : ∀ k, k < 33 → ∀ j, j < 33 → wc k = wc j → k = j := by decide +kernel
