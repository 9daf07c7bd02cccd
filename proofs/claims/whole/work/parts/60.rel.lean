/-! ONE MATHEMATICAL STATE FOR BOTH: a state is α r i k, the k-th number of row i of region r:
    0 the heads (day, copies, patrons, holds, entries), 1 the settings, 2 the copies, 3 the patrons, 4 the holds, 5 the ledger -/
abbrev As : Type := Nat → Nat → Nat → Int32
def au (α : As) (r i k : Nat) (v : Int32) : As := fun r' i' k' => if r' = r ∧ i' = i ∧ k' = k then v else α r' i' k'
def bs : Nat → Nat := fun r => match r with
  | 0 => 0
  | 1 => 5
  | 2 => 13
  | 3 => 253
  | 4 => 285
  | _ => 381
def wd : Nat → Nat := fun r => match r with
  | 0 => 5
  | 1 => 8
  | 2 => 12
  | 3 => 4
  | 4 => 4
  | _ => 5
def rw_ : Nat → Nat := fun r => match r with
  | 0 => 1
  | 1 => 1
  | 2 => 20
  | 3 => 8
  | 4 => 24
  | _ => 60
/-- a table's number at row r and column k, w columns -/
def fv (w : Nat) (f : Nat → Int32) (r k : Nat) : Int32 := f (r * w + k)
/-- the reference's array holds the state -/
def RepM (g : Nat → Int32) (α : As) : Prop := ∀ r i k, r < 6 → i < rw_ r → k < wd r → g (bs r + wd r * i + k) = α r i k
/-- the holder of a copy -/
def HolR (α : As) (nH c : Nat) (w : Int32) : Prop := (w = -2 ∧ ∀ h, h < nH → α 4 h 3 ≠ nI c) ∨ ∃ h, h < nH ∧ α 4 h 3 = nI c ∧ w = α 4 h 1
/-- the class's row of a copy -/
def RepCopy (f : Nat → Int32) (α : As) (nH c : Nat) : Prop :=
  (fv 12 f c 0 = α 2 c 0 ∧ fv 12 f c 1 = α 2 c 1 ∧ fv 12 f c 2 = α 2 c 2 ∧ fv 12 f c 3 = α 2 c 3 ∧ fv 12 f c 4 = α 2 c 4) ∧ HolR α nH c (fv 12 f c 5) ∧
  fv 12 f c 6 = (if α 2 c 3 = 0 ∨ α 2 c 3 = 5 then -2 else α 2 c 5) ∧
  (fv 12 f c 7 = (if α 2 c 3 = 0 ∨ α 2 c 3 = 2 ∨ α 2 c 3 = 3 then -2 else α 2 c 6) ∧ fv 12 f c 8 = (if α 2 c 3 = 0 ∨ α 2 c 3 = 2 ∨ α 2 c 3 = 3 then -2 else α 2 c 7) ∧ fv 12 f c 9 = (if α 2 c 3 = 0 ∨ α 2 c 3 = 2 ∨ α 2 c 3 = 3 then -2 else α 2 c 8)) ∧
  (α 2 c 3 = 4 ∨ α 2 c 3 = 5 → fv 12 f c 10 = α 2 c 9) ∧ (α 2 c 3 = 5 → fv 12 f c 11 = α 2 c 10)
/-- the class's tables hold the state, but for what is derived of copy x; n the numbers of copies, patrons, holds, entries -/
def RepC (τ : St) (α : As) (nC nP nH nL x : Nat) : Prop :=
  ((τ.1 0).1 = nI nC ∧ (τ.1 1).1 = nI nP ∧ (τ.1 2).1 = nI nH ∧ (τ.1 3).1 = nI nL ∧ (τ.1 4).1 = nI 8 ∧ τ.2 = α 0 0 0) ∧
  (∀ j, j < 8 → fv 1 (τ.1 4).2 j 0 = α 1 0 j) ∧
  (∀ p k, p < nP → k < 4 → fv 4 (τ.1 1).2 p k = α 3 p k) ∧
  (∀ e k, e < nL → k < 5 → fv 5 (τ.1 3).2 e k = α 5 e k) ∧
  (∀ h, h < nH → fv 4 (τ.1 2).2 h 0 = α 4 h 1 ∧ fv 4 (τ.1 2).2 h 1 = α 4 h 2 ∧ fv 4 (τ.1 2).2 h 2 = α 4 h 3 ∧ fv 4 (τ.1 2).2 h 3 = α 4 h 0) ∧
  (∀ c, c < nC → c ≠ x → RepCopy (τ.1 0).2 α nH c) ∧
  (x < nC → fv 12 (τ.1 0).2 x 0 = α 2 x 0 ∧ fv 12 (τ.1 0).2 x 1 = α 2 x 1 ∧ fv 12 (τ.1 0).2 x 2 = α 2 x 2)
def CopyB (α : As) (c : Nat) : Prop := (∃ t, t < 6 ∧ α 2 c 0 = nI t) ∧ (∃ b, b < 4 ∧ α 2 c 1 = nI b) ∧ (α 2 c 2 = 0 ∨ α 2 c 2 = 1)
/-- a copy's numbers are in their ranges -/
def CopyI (α : As) (d nP nH c : Nat) : Prop :=
  CopyB α c ∧ (∃ s, s < 6 ∧ α 2 c 3 = nI s) ∧
  (α 2 c 3 = 0 ∨ α 2 c 3 = 2 ∨ α 2 c 3 = 3 → ∃ b, b < 4 ∧ α 2 c 4 = nI b) ∧
  (α 2 c 3 = 1 ∨ α 2 c 3 = 4 ∨ α 2 c 3 = 5 → ∃ p, p < nP ∧ α 2 c 4 = nI p) ∧
  (α 2 c 3 = 1 ∨ α 2 c 3 = 2 → ∃ x, x ≤ d + 70 ∧ α 2 c 5 = nI x) ∧
  (α 2 c 3 = 1 → (∃ x, x ≤ d ∧ α 2 c 6 = nI x) ∧ ∃ x, x ≤ 2 ∧ α 2 c 7 = nI x) ∧
  (α 2 c 3 = 3 → ∃ h, h < nH ∧ α 4 h 3 = nI c)
def HoldI (α : As) (nC nP h : Nat) : Prop :=
  (∃ t, t < 6 ∧ α 4 h 0 = nI t) ∧ (∃ p, p < nP ∧ α 4 h 1 = nI p) ∧ (∃ b, b < 4 ∧ α 4 h 2 = nI b) ∧
  (α 4 h 3 = -2 ∨ ∃ c, c < nC ∧ α 4 h 3 = nI c ∧ α 2 c 0 = α 4 h 0 ∧ (α 2 c 3 = 2 ∨ α 2 c 3 = 3))
/-- what always holds of a state; copy x may be between two states -/
def Inv (α : As) (D d nC nP nH nL x : Nat) : Prop :=
  (α 0 0 0 = nI d ∧ α 0 0 1 = nI nC ∧ α 0 0 2 = nI nP ∧ α 0 0 3 = nI nH ∧ α 0 0 4 = nI nL) ∧ (d ≤ D ∧ nC ≤ 20 ∧ nP ≤ 8 ∧ nH ≤ 24 ∧ nL ≤ 60) ∧
  (∀ j, j < 8 → vLo j ≤ α 1 0 j ∧ α 1 0 j ≤ vHi j) ∧
  (∀ c, c < nC → c ≠ x → CopyI α d nP nH c) ∧ (x < nC → CopyB α x) ∧ (∀ h, h < nH → HoldI α nC nP h) ∧
  (∀ h h', h < nH → h' < nH → α 4 h 0 = α 4 h' 0 → α 4 h 1 = α 4 h' 1 → h = h') ∧
  (∀ h h', h < nH → h' < nH → α 4 h 3 = α 4 h' 3 → α 4 h 3 ≠ -2 → h = h')
/-- while a hold of a title is waiting, no copy of the title is on a shelf -/
def Shf (α : As) (nC nH : Nat) : Prop := ∀ h c, h < nH → c < nC → α 4 h 3 = -2 → α 4 h 0 = α 2 c 0 → α 2 c 3 ≠ 0
/-- a state of the class and an array of the reference stand for one state -/
def Core (D : Nat) (τ : St) (g : Nat → Int32) : Prop := ∃ (α : As) (d nC nP nH nL : Nat), RepM g α ∧ RepC τ α nC nP nH nL 99 ∧ Inv α D d nC nP nH nL 99 ∧ Shf α nC nH
theorem Core.mono {D D' : Nat} {τ : St} {g : Nat → Int32} (h : Core D τ g) (hD : D ≤ D') : Core D' τ g := by
  obtain ⟨α, d, nC, nP, nH, nL, h1, h2, ⟨h3, ⟨h4, h5⟩, h6⟩, h7⟩ := h
  exact ⟨α, d, nC, nP, nH, nL, h1, h2, ⟨h3, ⟨Nat.le_trans h4 hD, h5⟩, h6⟩, h7⟩
/-- the place in the class's ring of the j-th change that can be undone, of m, where k is the next place -/
def ring (k m j : Nat) : Nat := (k + 8 - m + j) % 8
/-- everything: now, settled, saved, changes, text -/
def RR (D : Nat) (σ : Fs) (ρ : Ms) : Prop :=
  OKF σ ∧ Core D σ.1 (ρ.1.1 0) ∧ σ.2.2.1 = σ.1 ∧
  (σ.2.1 = ρ.2.1 ∧ (σ.2.1 = true → Core D σ.2.2.2.1 (ρ.1.1 2))) ∧
  (∃ k m : Nat, k < 8 ∧ m ≤ 8 ∧ σ.2.2.2.2.1.2.1 = nI k ∧ σ.2.2.2.2.1.2.2 = nI m ∧ ρ.1.2 0 = nI m ∧ ∀ j, j < m → Core D (σ.2.2.2.2.1.1 (ring k m j)) (fun q => ρ.1.1 3 (681 * j + q))) ∧
  (∃ f : Nat, f ≤ 60 ∧ σ.2.2.2.2.2.1.2.1 = nI f ∧ ρ.1.2 1 = nI f ∧ ∀ j, j < f → σ.2.2.2.2.2.1.1 j = ρ.1.1 4 j ∧ (32 : Int32) ≤ ρ.1.1 4 j ∧ ρ.1.1 4 j ≤ 126)
theorem RR.mono {D D' : Nat} {σ : Fs} {ρ : Ms} (h : RR D σ ρ) (hD : D ≤ D') : RR D' σ ρ := by
  obtain ⟨h1, h2, h3, ⟨h4, h5⟩, ⟨k, m, a1, a2, a3, a4, a5, a6⟩, h7⟩ := h
  exact ⟨h1, h2.mono hD, h3, ⟨h4, fun z => (h5 z).mono hD⟩, ⟨k, m, a1, a2, a3, a4, a5, fun j hj => (a6 j hj).mono hD⟩, h7⟩
