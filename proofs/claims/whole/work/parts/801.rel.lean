/-! the relation of object and reference, by regions of the row of plain numbers S -/
def LandT (dn : Int32) (df dr : Nat → Int32) (S : Nat → Nat) : Prop :=
  dn = nI (S 0) ∧ S 0 ≤ 8 ∧ (∀ k, k < S 0 → df k = nI (S (80 + k)) ∧ S (80 + k) ≤ 9) ∧ (∀ k, k < S 0 → dr k = nI (S (88 + k)) ∧ S (88 + k) < 2 ^ S 0) ∧
  (∀ k, S 0 ≤ k → k < 8 → dr k = nI 0) ∧ (∀ i k, i < S 0 → k < S 0 → (S (88 + i)).testBit k = (S (88 + k)).testBit i)
/-- a person's parts: land, goods, debts, calls, hunger, out, how -/
def PartOK (n M : Nat) (f : Nat → Nat) : Prop := f 0 < n ∧ f 1 ≤ 9999 ∧ f 2 ≤ 9999 ∧ f 3 ≤ 4 ∧ f 4 ≤ 9 ∧ f 5 ≤ M ∧ f 6 ≤ 3
def RowC (row : Nat → Int32) (S : Nat → Nat) : Prop :=
  row 0 = nI (S 10) ∧ row 1 = nI (S 11) ∧ row 2 = nI (S 1) ∧ (∃ n, n ≤ 30 ∧ row 3 = nI n) ∧ (∀ p k, p < S 1 → k < 7 → row (34 + 7 * p + k) = nI (S (14 + 11 * p + k)))
def FolkW (S : Nat → Nat) : Prop :=
  S 1 ≤ 6 ∧ S 10 ≤ 9999 ∧ S 11 < 30469 ∧ (∀ p, p < S 1 → PartOK (S 0) (S 10) (fun k => S (14 + 11 * p + k)))
def FearT (fe to : Nat → Int32) (S : Nat → Nat) : Prop :=
  ∀ p, p < S 1 → fe p = nI (S (14 + 11 * p + 7)) ∧ S (14 + 11 * p + 7) ≤ 9 ∧ to (3 * p) = nI (S (14 + 11 * p + 8)) ∧ S (14 + 11 * p + 8) < S 0 ∧
    to (3 * p + 1) = nI (S (14 + 11 * p + 9)) ∧ S (14 + 11 * p + 9) ≤ 9999 ∧ to (3 * p + 2) = nI (S (14 + 11 * p + 10)) ∧ S (14 + 11 * p + 10) ≤ 9999
/-- the book's latest 30 of W written, out of the ring -/
def BookT (row : Nat → Int32) (S : Nat → Nat) (W : Nat) : Prop :=
  row 3 = nI (min W 30) ∧ ∀ i, i < min W 30 → row (4 + i) = nI (S (1522 + (W - min W 30 + i) % 7240))
/-- a step that is kept: the row r against the reference's place b -/
def StoredT (r : Nat → Int32) (S : Nat → Nat) (b : Nat) : Prop :=
  r 0 = nI (S (b + 1)) ∧ r 1 = nI (S (b + 2)) ∧ r 2 = nI (S b) ∧ (∀ p k, p < S b → k < 7 → r (34 + 7 * p + k) = nI (S (b + 4 + 7 * p + k))) ∧
  S b ≤ S 1 ∧ S (b + 1) ≤ 9999 ∧ S (b + 2) < 30469 ∧ (∀ p, p < S b → PartOK (S 0) (S (b + 1)) (fun k => S (b + 4 + 7 * p + k))) ∧ BookT r S (S (b + 3))
def slot (nx c k : Nat) : Nat := (nx + 31 - c + k) % 31
def StepTs (e : Nat) (cnt next : Int32) (store : Nat → Int32) (S : Nat → Nat) : Prop :=
  cnt = nI (S 4) ∧ S 4 ≤ 30 ∧ ∃ nx, nx < 31 ∧ next = nI nx ∧ ∀ k, k < S 4 → StoredT (fun i => store (76 * slot nx (S 4) k + i)) S (142 + 46 * k) ∧ S (145 + 46 * k) ≤ S 12 ∧ S 12 + e ≤ S (145 + 46 * k) + 240 * (S 4 - k) ∧ ∀ q, k < q → q < S 4 → S (145 + 46 * k) ≤ S (145 + 46 * q) ∧ S (145 + 46 * q) ≤ S (145 + 46 * k) + 240 * (q - k)
def StepT (cnt next : Int32) (store : Nat → Int32) (S : Nat → Nat) : Prop := StepTs 0 cnt next store S
def CallsT (calls : Int32) (cl : Nat → Int32) (S : Nat → Nat) : Prop := calls = nI (S 5) ∧ S 5 ≤ 5 ∧ ∀ k, k < S 5 → cl k = nI (S (96 + k)) ∧ S (96 + k) < S 0
def BordT (bord : Int32) (S : Nat → Nat) : Prop := bord = nI (S 9) ∧ S 9 < 256
/-- which reports are told to be unlike -/
def unl2 (S : Nat → Nat) (i k : Nat) : Prop := ∃ q, q < S 7 ∧ ((S (101 + 2 * q) = i ∧ S (102 + 2 * q) = k) ∨ (S (101 + 2 * q) = k ∧ S (102 + 2 * q) = i))
def HeadT (rep unl : Int32) (ul : Nat → Int32) (S : Nat → Nat) : Prop :=
  rep = nI (S 6) ∧ S 6 ≤ 8 ∧ unl = nI (S 7) ∧ S 7 ≤ 8 ∧ (∀ k, k < S 7 → S (101 + 2 * k) < S 6 ∧ S (102 + 2 * k) < S 6 ∧ S (101 + 2 * k) ≠ S (102 + 2 * k)) ∧
    ∃ U : Nat → Nat, (∀ i, i < 8 → ul i = nI (U i) ∧ U i < 256) ∧ ∀ i k, i < 8 → k < 8 → ((U i).testBit k = true ↔ unl2 S i k)
def GainT (ga : Nat → Int32) (S : Nat → Nat) : Prop := ∀ k, k < 8 → ga k = nI (S (117 + k)) ∧ S (117 + k) ≤ 99
def PayT (pay : Int32) (py pr : Nat → Int32) (S : Nat → Nat) : Prop := pay = nI (S 8) ∧ S 8 ≤ 8 ∧ ∀ k, k < S 8 → py k = nI (S (125 + 2 * k)) ∧ S (125 + 2 * k) < S 1 ∧ pr k = nI (S (126 + 2 * k)) ∧ S (126 + 2 * k) ≤ 9999
def NoteT (calls bord rep unl pay : Int32) (cl ul ga py pr : Nat → Int32) (S : Nat → Nat) : Prop := CallsT calls cl S ∧ BordT bord S ∧ HeadT rep unl ul S ∧ GainT ga S ∧ PayT pay py pr S
def IdxT (tx rul : Int32) (S : Nat → Nat) : Prop := tx = nI (S 2) ∧ S 2 ≤ 4 ∧ rul = nI (S 3) - 1 ∧ S 3 ≤ S 2
def RealmT (j : Nat) (dn : Int32) (df dr row fe to : Nat → Int32) (cnt next : Int32) (store : Nat → Int32) (calls bord rep unl pay : Int32) (cl ul ga py pr : Nat → Int32) (tx rul : Int32) (a : Nat → Int32) (S : Nat → Nat) : Prop :=
  TieA a S ∧ LandT dn df dr S ∧ RowC row S ∧ FolkW S ∧ FearT fe to S ∧ BookT row S (S 12) ∧ StepT cnt next store S ∧ NoteT calls bord rep unl pay cl ul ga py pr S ∧ IdxT tx rul S ∧ S 12 ≤ 20000 * j
/-! what each region rests on -/
theorem LandT.cg {dn : Int32} {df dr : Nat → Int32} {S T : Nat → Nat} (h : LandT dn df dr S) (e : ∀ i, i < 1 ∨ (80 ≤ i ∧ i < 96) → T i = S i) : LandT dn df dr T := by
  obtain ⟨h1, h2, h3, h4, h5, h6⟩ := h
  have e0 : T 0 = S 0 := e 0 (by omega)
  refine ⟨by rw [e0]; exact h1, by omega, fun k hk => ?_, fun k hk => ?_, fun k hk hk8 => h5 k (by omega) hk8, fun i k hi hk => ?_⟩
  · rw [e (80 + k) (by omega)]; exact h3 k (by omega)
  · rw [e (88 + k) (by omega), e0]; exact h4 k (by omega)
  · rw [e (88 + k) (by omega), e (88 + i) (by omega)]; exact h6 i k (by omega) (by omega)
theorem PartOK.mn {n M n2 M2 : Nat} {f g : Nat → Nat} (h : PartOK n M f) (hn : n ≤ n2) (hM : M ≤ M2) (e : ∀ k, k < 7 → g k = f k) : PartOK n2 M2 g := by
  obtain ⟨h0, h1, h2, h3, h4, h5, h6⟩ := h
  have e0 := e 0 (by omega); have e1 := e 1 (by omega); have e2 := e 2 (by omega); have e3 := e 3 (by omega); have e4 := e 4 (by omega); have e5 := e 5 (by omega); have e6 := e 6 (by omega)
  refine ⟨?_, ?_, ?_, ?_, ?_, ?_, ?_⟩ <;> omega
theorem RowC.cg {row : Nat → Int32} {S T : Nat → Nat} (h : RowC row S) (e : ∀ i, i = 1 ∨ i = 10 ∨ i = 11 ∨ (14 ≤ i ∧ i < 80) → T i = S i) (h6 : S 1 ≤ 6) : RowC row T := by
  obtain ⟨h1, h2, h3, h4, h5⟩ := h
  have e1 : T 1 = S 1 := e 1 (by omega)
  refine ⟨by rw [e 10 (by omega)]; exact h1, by rw [e 11 (by omega)]; exact h2, by rw [e1]; exact h3, h4, fun p k hp hk => ?_⟩
  rw [e (14 + 11 * p + k) (by omega)]; exact h5 p k (by omega) hk
theorem FolkW.cg {S T : Nat → Nat} (h : FolkW S) (e : ∀ i, i = 1 ∨ i = 10 ∨ i = 11 ∨ (14 ≤ i ∧ i < 80) → T i = S i) (e0 : S 0 ≤ T 0) : FolkW T := by
  obtain ⟨h1, h2, h3, h4⟩ := h
  have e1 : T 1 = S 1 := e 1 (by omega)
  have e10 : T 10 = S 10 := e 10 (by omega)
  have e11 : T 11 = S 11 := e 11 (by omega)
  refine ⟨by omega, by omega, by omega, fun p hp => (h4 p (by omega)).mn e0 (by omega) (fun k hk => e _ (by omega))⟩
theorem FearT.cg {fe to : Nat → Int32} {S T : Nat → Nat} (h : FearT fe to S) (e : ∀ i, i = 1 ∨ (14 ≤ i ∧ i < 80) → T i = S i) (e0 : S 0 ≤ T 0) (h6 : S 1 ≤ 6) : FearT fe to T := by
  intro p hp
  have e1 : T 1 = S 1 := e 1 (by omega)
  obtain ⟨a1, a2, a3, a4, a5, a6, a7, a8⟩ := h p (by omega)
  rw [e (14 + 11 * p + 7) (by omega), e (14 + 11 * p + 8) (by omega), e (14 + 11 * p + 9) (by omega), e (14 + 11 * p + 10) (by omega)]
  exact ⟨a1, a2, a3, by omega, a5, a6, a7, a8⟩
theorem BookT.cg {row : Nat → Int32} {S T : Nat → Nat} {W : Nat} (h : BookT row S W) (e : ∀ i, 1522 ≤ i ∧ i < 8762 → T i = S i) : BookT row T W := by
  refine ⟨h.1, fun i hi => ?_⟩
  rw [e _ (by omega)]; exact h.2 i hi
theorem StoredT.cg {r : Nat → Int32} {S T : Nat → Nat} {b : Nat} (h : StoredT r S b) (hb : S b ≤ 6) (e : ∀ i, b ≤ i → i < b + 46 → T i = S i) (er : ∀ i, 1522 ≤ i ∧ i < 8762 → T i = S i) (e0 : S 0 ≤ T 0) (e1 : S 1 ≤ T 1) : StoredT r T b := by
  obtain ⟨h1, h2, h3, h4, h5, h6, h7, h8, h9⟩ := h
  have eb := e b (by omega) (by omega)
  have eb1 := e (b + 1) (by omega) (by omega)
  have eb2 := e (b + 2) (by omega) (by omega)
  have eb3 := e (b + 3) (by omega) (by omega)
  refine ⟨by rw [eb1]; exact h1, by rw [eb2]; exact h2, by rw [eb]; exact h3, fun p k hp hk => ?_, by omega, by omega, by omega, fun p hp => ?_, by rw [eb3]; exact h9.cg er⟩
  · rw [e (b + 4 + 7 * p + k) (by omega) (by omega)]; exact h4 p k (by omega) hk
  · exact (h8 p (by omega)).mn e0 (by omega) (fun k hk => e _ (by omega) (by omega))
theorem StepT.cg {cnt next : Int32} {store : Nat → Int32} {S T : Nat → Nat} (h : StepT cnt next store S) (e : ∀ i, i = 4 ∨ i = 12 ∨ (142 ≤ i ∧ i < 8762) → T i = S i) (e0 : S 0 ≤ T 0) (e1 : S 1 ≤ T 1) (h6 : S 1 ≤ 6) : StepT cnt next store T := by
  obtain ⟨h1, h2, nx, h3, h4, h5⟩ := h
  have e4 : T 4 = S 4 := e 4 (by omega)
  have e12 : T 12 = S 12 := e 12 (by omega)
  refine ⟨by rw [e4]; exact h1, by omega, nx, h3, h4, fun k hk => ?_⟩
  obtain ⟨g1, g2, g3, g4⟩ := h5 k (by omega)
  have := g1.2.2.2.2.1
  rw [e4, e12, e (145 + 46 * k) (by omega)]
  exact ⟨g1.cg (by omega) (fun i _ _ => e i (by omega)) (fun i _ => e i (by omega)) e0 e1, g2, g3, fun q h1 h2 => by rw [e (145 + 46 * q) (by omega)]; exact g4 q h1 (by omega)⟩
theorem CallsT.cg {calls : Int32} {cl : Nat → Int32} {S T : Nat → Nat} (h : CallsT calls cl S) (e : ∀ i, i = 5 ∨ (96 ≤ i ∧ i < 101) → T i = S i) (e0 : S 0 ≤ T 0) : CallsT calls cl T := by
  obtain ⟨a1, a2, a3⟩ := h
  have e5 := e 5 (by omega)
  refine ⟨by rw [e5]; exact a1, by omega, fun k hk => ?_⟩
  obtain ⟨g1, g2⟩ := a3 k (by omega)
  rw [e (96 + k) (by omega)]; exact ⟨g1, by omega⟩
theorem BordT.cg {bord : Int32} {S T : Nat → Nat} (h : BordT bord S) (e : ∀ i, i = 9 → T i = S i) : BordT bord T := by
  unfold BordT
  rw [e 9 rfl]; exact h
theorem HeadT.cg {rep unl : Int32} {ul : Nat → Int32} {S T : Nat → Nat} (h : HeadT rep unl ul S) (e : ∀ i, i = 6 ∨ i = 7 ∨ (101 ≤ i ∧ i < 117) → T i = S i) : HeadT rep unl ul T := by
  obtain ⟨c1, c2, c3, c4, c5, U, c6, c7⟩ := h
  have e6 := e 6 (by omega); have e7 := e 7 (by omega)
  refine ⟨by rw [e6]; exact c1, by omega, by rw [e7]; exact c3, by omega, fun k hk => ?_, U, c6, fun i k hi hk => ?_⟩
  · rw [e (101 + 2 * k) (by omega), e (102 + 2 * k) (by omega), e6]; exact c5 k (by omega)
  · rw [c7 i k hi hk]
    constructor <;> rintro ⟨q, hq, g⟩
    · exact ⟨q, by omega, by rw [e (101 + 2 * q) (by omega), e (102 + 2 * q) (by omega)]; exact g⟩
    · rw [e (101 + 2 * q) (by omega), e (102 + 2 * q) (by omega)] at g
      exact ⟨q, by omega, g⟩
theorem GainT.cg {ga : Nat → Int32} {S T : Nat → Nat} (h : GainT ga S) (e : ∀ i, 117 ≤ i ∧ i < 125 → T i = S i) : GainT ga T := by
  intro k hk
  rw [e (117 + k) (by omega)]; exact h k hk
theorem PayT.cg {pay : Int32} {py pr : Nat → Int32} {S T : Nat → Nat} (h : PayT pay py pr S) (e : ∀ i, i = 8 ∨ (125 ≤ i ∧ i < 142) → T i = S i) (e1 : S 1 ≤ T 1) : PayT pay py pr T := by
  obtain ⟨f1, f2, f3⟩ := h
  have e8 := e 8 (by omega)
  refine ⟨by rw [e8]; exact f1, by omega, fun k hk => ?_⟩
  obtain ⟨g1, g2, g3, g4⟩ := f3 k (by omega)
  rw [e (125 + 2 * k) (by omega), e (126 + 2 * k) (by omega)]; exact ⟨g1, by omega, g3, g4⟩
theorem NoteT.cg {calls bord rep unl pay : Int32} {cl ul ga py pr : Nat → Int32} {S T : Nat → Nat} (h : NoteT calls bord rep unl pay cl ul ga py pr S) (e : ∀ i, (5 ≤ i ∧ i < 10) ∨ (96 ≤ i ∧ i < 142) → T i = S i) (e0 : S 0 ≤ T 0) (e1 : S 1 ≤ T 1) : NoteT calls bord rep unl pay cl ul ga py pr T := by
  obtain ⟨h1, h2, h3, h4, h5⟩ := h
  exact ⟨h1.cg (fun i hi => e i (by omega)) e0, h2.cg (fun i hi => e i (by omega)), h3.cg (fun i hi => e i (by omega)), h4.cg (fun i hi => e i (by omega)), h5.cg (fun i hi => e i (by omega)) e1⟩
theorem IdxT.cg {tx rul : Int32} {S T : Nat → Nat} (h : IdxT tx rul S) (e : ∀ i, i = 2 ∨ i = 3 → T i = S i) : IdxT tx rul T := by
  obtain ⟨h1, h2, h3, h4⟩ := h
  have e2 := e 2 (by omega); have e3 := e 3 (by omega)
  exact ⟨by rw [e2]; exact h1, by omega, by rw [e3]; exact h3, by omega⟩

/-- only places 5 to 9 and 96 to 141 have changed -/
theorem RealmT.notes {j : Nat} {dn : Int32} {df dr row fe to : Nat → Int32} {cnt next : Int32} {store : Nat → Int32} {calls bord rep unl pay calls' bord' rep' unl' pay' : Int32} {cl ul ga py pr cl' ul' ga' py' pr' : Nat → Int32} {tx rul : Int32} {a a' : Nat → Int32} {S T : Nat → Nat}
    (h : RealmT j dn df dr row fe to cnt next store calls bord rep unl pay cl ul ga py pr tx rul a S) (hA : TieA a' T) (e : ∀ i, ¬ ((5 ≤ i ∧ i < 10) ∨ (96 ≤ i ∧ i < 142)) → T i = S i) (hN : NoteT calls' bord' rep' unl' pay' cl' ul' ga' py' pr' T) :
    RealmT (j + 1) dn df dr row fe to cnt next store calls' bord' rep' unl' pay' cl' ul' ga' py' pr' tx rul a' T ∧ T 2 = S 2 := by
  obtain ⟨-, hL, hR, hW, hF, hB, hZ, -, hI, hj⟩ := h
  have e0 : S 0 ≤ T 0 := Nat.le_of_eq (e 0 (by omega)).symm
  have e1 : S 1 ≤ T 1 := Nat.le_of_eq (e 1 (by omega)).symm
  have e12 : T 12 = S 12 := e 12 (by omega)
  exact ⟨⟨hA, hL.cg (fun i hi => e i (by omega)), hR.cg (fun i hi => e i (by omega)) hW.1, hW.cg (fun i hi => e i (by omega)) e0, hF.cg (fun i hi => e i (by omega)) e0 hW.1, by rw [e12]; exact hB.cg (fun i hi => e i (by omega)), hZ.cg (fun i hi => e i (by omega)) e0 e1 hW.1, hN, hI.cg (fun i hi => e i (by omega)), by omega⟩, e 2 (by omega)⟩
theorem FolkW.part {S : Nat → Nat} (h : FolkW S) {p : Nat} (hp : p < S 1) : S (14 + 11 * p) < S 0 ∧ S (14 + 11 * p + 1) ≤ 9999 ∧ S (14 + 11 * p + 2) ≤ 9999 ∧ S (14 + 11 * p + 3) ≤ 4 ∧ S (14 + 11 * p + 4) ≤ 9 ∧ S (14 + 11 * p + 5) ≤ S 10 ∧ S (14 + 11 * p + 6) ≤ 3 := h.2.2.2 p hp
/-- persons as any moment of a deed has them -/
def FolkX (S : Nat → Nat) : Prop := S 1 ≤ 6 ∧ S 10 ≤ 9999 ∧ S 11 < 30469 ∧ (∀ p, p < S 1 → PartOK (S 0) 9999 (fun k => S (14 + 11 * p + k)))
theorem FolkW.x {S : Nat → Nat} (h : FolkW S) : FolkX S := ⟨h.1, h.2.1, h.2.2.1, fun p hp => (h.2.2.2 p hp).mn (Nat.le_refl _) h.2.1 (fun _ _ => rfl)⟩
theorem FolkX.part {S : Nat → Nat} (h : FolkX S) {p : Nat} (hp : p < S 1) : S (14 + 11 * p) < S 0 ∧ S (14 + 11 * p + 1) ≤ 9999 ∧ S (14 + 11 * p + 2) ≤ 9999 ∧ S (14 + 11 * p + 3) ≤ 4 ∧ S (14 + 11 * p + 4) ≤ 9 ∧ S (14 + 11 * p + 5) ≤ 9999 ∧ S (14 + 11 * p + 6) ≤ 3 := h.2.2.2 p hp
