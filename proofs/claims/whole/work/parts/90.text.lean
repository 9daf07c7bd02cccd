/-! THE COMMAND TEXT: what is read -/
def tC (w : Nat → Int32) (f p : Nat) : Int32 := if p < f then w p else -2
def tL (w : Nat → Int32) (f p : Nat) : Int32 := if p < f then w p else 0
def tD (w : Nat → Int32) (f p : Nat) : Bool := X5_in (tC w f p) (48 : Int32) (57 : Int32)
/-- how many digits from p on, at most k -/
def tN (w : Nat → Int32) (f : Nat) : Nat → Nat → Nat
  | 0, _ => 0
  | k + 1, p => if tD w f p = true then tN w f k (p + 1) + 1 else 0
def tV (w : Nat → Int32) (f : Nat) : Nat → Nat → Int32 → Int32
  | 0, _, v => v
  | k + 1, p, v => if tD w f p = true then tV w f k (p + 1) ((((10 : Int32) * v) + tC w f p) - (48 : Int32)) else v
/-- a blank and a number at p: whether, where it ends, its value -/
def tok (w : Nat → Int32) (f p : Nat) : Bool := if tC w f p = 32 then tD w f (p + 1) else false
def tE (w : Nat → Int32) (f p : Nat) : Nat := if tC w f p = 32 then p + 1 + tN w f 5 (p + 1) else p
def tW (w : Nat → Int32) (f p : Nat) : Int32 := tV w f 5 (p + 1) 0
/-- m of them at p; gP: where the j-th begins -/
def gO (w : Nat → Int32) (f : Nat) : Nat → Nat → Bool
  | 0, _ => true
  | m + 1, p => if tok w f p = true then gO w f m (tE w f p) else false
def gE (w : Nat → Int32) (f : Nat) : Nat → Nat → Nat
  | 0, p => p
  | m + 1, p => if tok w f p = true then gE w f m (tE w f p) else tE w f p
def gP (w : Nat → Int32) (f : Nat) : Nat → Nat → Nat
  | 0, p => p
  | j + 1, p => gP w f j (tE w f p)
def numN (c : Int32) : Nat := if c = (99 : Int32) then 2 else if c = (100 : Int32) then 1 else if c = (104 : Int32) then 3 else if c = (105 : Int32) then 2 else if c = (111 : Int32) then 2 else if c = (112 : Int32) then 2 else if c = (114 : Int32) then 1 else 0
/-- a command at p -/
def cN (w : Nat → Int32) (f p : Nat) : Nat := numN (tC w f p)
def cO (w : Nat → Int32) (f p : Nat) : Bool := if cN w f p = 0 then false else gO w f (cN w f p) (p + 1)
def cE (w : Nat → Int32) (f p : Nat) : Nat := if cN w f p = 0 then p else gE w f (cN w f p) (p + 1)
/-- where the j-th command begins -/
def cS (w : Nat → Int32) (f : Nat) : Nat → Nat → Nat
  | 0, p => p
  | j + 1, p => cS w f j (cE w f p + 1)
/-- row r of the class's table is the command at s -/
def CmdRow (w : Nat → Int32) (f : Nat) (u : Nat → Int32) (r s : Nat) : Prop := cO w f s = true ∧ fv 4 u r 0 = tC w f s ∧ ∀ l, l < cN w f s → fv 4 u r (1 + l) = tW w f (gP w f l (s + 1))
theorem tC_lt {w : Nat → Int32} {f p : Nat} (h : tC w f p ≠ -2) : p < f := by
  by_cases e : p < f
  · exact e
  · exact absurd (if_neg e) h
theorem tL_iff {w : Nat → Int32} {f p : Nat} {c : Int32} (h0 : (0 : Int32) ≠ c) (h2 : (-2 : Int32) ≠ c) : tL w f p = c ↔ tC w f p = c := by
  unfold tL tC
  split
  · exact Iff.rfl
  · exact ⟨fun h => absurd h h0, fun h => absurd h h2⟩
theorem tL_d (w : Nat → Int32) (f p : Nat) : X0_isDigit (tL w f p) = tD w f p := by
  unfold tL tD tC
  split
  · rfl
  · decide
theorem tD_lt {w : Nat → Int32} {f p : Nat} (h : tD w f p = true) : p < f ∧ tL w f p = tC w f p := by
  by_cases e : p < f
  · refine ⟨e, ?_⟩
    unfold tL tC
    rw [if_pos e, if_pos e]
  · exfalso
    unfold tD tC at h
    rw [if_neg e] at h
    revert h
    decide
theorem tN_le (w : Nat → Int32) (f : Nat) : ∀ (k p : Nat), p ≤ f → p + tN w f k p ≤ f := by
  intro k
  induction k with
  | zero => intro p h; exact h
  | succ k ih =>
    intro p h
    unfold tN
    by_cases e : tD w f p = true
    · rw [if_pos e]
      have := ih (p + 1) (tD_lt e).1
      omega
    · rw [if_neg e]; exact h
theorem tE_le {w : Nat → Int32} {f p : Nat} (h : p ≤ f) : p ≤ tE w f p ∧ tE w f p ≤ f := by
  unfold tE
  by_cases e : tC w f p = 32
  · have h1 : p < f := tC_lt (by rw [e]; decide)
    have := tN_le w f 5 (p + 1) h1
    rw [if_pos e]
    omega
  · rw [if_neg e]; omega
theorem tok_e {w : Nat → Int32} {f p : Nat} (h : tok w f p = true) : tC w f p = 32 ∧ tD w f (p + 1) = true ∧ p + 2 ≤ tE w f p := by
  unfold tok at h
  by_cases e : tC w f p = 32
  · rw [if_pos e] at h
    refine ⟨e, h, ?_⟩
    unfold tE
    rw [if_pos e]
    unfold tN
    rw [if_pos h]
    omega
  · rw [if_neg e] at h
    cases h
theorem gE_le {w : Nat → Int32} {f : Nat} : ∀ (m p : Nat), p ≤ f → p ≤ gE w f m p ∧ gE w f m p ≤ f ∧ (gO w f m p = true → p + 2 * m ≤ gE w f m p) := by
  intro m
  induction m with
  | zero => intro p h; exact ⟨Nat.le_refl p, h, fun _ => Nat.le_refl p⟩
  | succ m ih =>
    intro p h
    obtain ⟨h1, h2⟩ := tE_le (w := w) h
    unfold gE gO
    by_cases e : tok w f p = true
    · rw [if_pos e, if_pos e]
      obtain ⟨i1, i2, i3⟩ := ih (tE w f p) h2
      have h3 := (tok_e e).2.2
      refine ⟨by omega, i2, fun q => ?_⟩
      have := i3 q
      omega
    · rw [if_neg e, if_neg e]
      exact ⟨h1, h2, fun q => by cases q⟩
theorem numN_3 (c : Int32) : numN c ≤ 3 := by
  unfold numN
  repeat' split
  all_goals omega
theorem cE_le {w : Nat → Int32} {f p : Nat} (h : p ≤ f) : cE w f p ≤ f ∧ (cO w f p = true → p + 3 ≤ cE w f p) := by
  unfold cE cO
  by_cases e : cN w f p = 0
  · rw [if_pos e, if_pos e]
    exact ⟨h, fun q => by cases q⟩
  · rw [if_neg e, if_neg e]
    have h1 : p < f := tC_lt (fun q => e (by unfold cN; rw [q]; decide))
    obtain ⟨-, i2, i3⟩ := gE_le (w := w) (cN w f p) (p + 1) h1
    refine ⟨i2, fun q => ?_⟩
    have := i3 q
    omega
theorem numN_c (c : Int32) : X0_numbersOf c = nI (numN c) := by
  unfold X0_numbersOf numN
  by_cases h99 : c = 99
  · rw [if_pos h99, if_pos h99]; rfl
  rw [if_neg h99, if_neg h99]
  by_cases h100 : c = 100
  · rw [if_pos h100, if_pos h100]; rfl
  rw [if_neg h100, if_neg h100]
  by_cases h104 : c = 104
  · rw [if_pos h104, if_pos h104]; rfl
  rw [if_neg h104, if_neg h104]
  by_cases h105 : c = 105
  · rw [if_pos h105, if_pos h105]; rfl
  rw [if_neg h105, if_neg h105]
  by_cases h111 : c = 111
  · rw [if_pos h111, if_pos h111]; rfl
  rw [if_neg h111, if_neg h111]
  by_cases h112 : c = 112
  · rw [if_pos h112, if_pos h112]; rfl
  rw [if_neg h112, if_neg h112]
  by_cases h114 : c = 114
  · rw [if_pos h114, if_pos h114]; rfl
  rw [if_neg h114, if_neg h114]
  rfl
theorem numN_L (w : Nat → Int32) (f p : Nat) : numN (tL w f p) = cN w f p := by
  unfold cN tL tC
  split
  · rfl
  · decide
theorem bool_f {b : Bool} (h : ¬ b = true) : b = false := by cases b <;> simp_all
/-! the class reads -/
def xsQ (ξ : Xs) (q : Int32) (u : Tab) : Xs := ((ξ.1.1, (ξ.1.2.1, q)), u)
theorem xsQ_P (ξ : Xs) (q : Int32) : xsP ξ q = xsQ ξ q ξ.2 := rfl
theorem xsQ_T (ξ : Xs) (u : Tab) : xsT ξ u = xsQ ξ ξ.1.2.2 u := rfl
theorem xsQ_Q (ξ : Xs) (q q' : Int32) (u u' : Tab) : xsQ (xsQ ξ q u) q' u' = xsQ ξ q' u' := rfl
def TXc (ξ : Xs) (w : Nat → Int32) (f p : Nat) : Prop := ξ.1.2.1 = nI f ∧ ξ.1.2.2 = nI p ∧ ∀ j, j < f → ξ.1.1 j = w j
theorem TXc.q {ξ : Xs} {w : Nat → Int32} {f p : Nat} (h : TXc ξ w f p) (p' : Nat) (u : Tab) : TXc (xsQ ξ (nI p') u) w f p' := ⟨h.1, rfl, h.2.2⟩
theorem TXc.self {ξ : Xs} {w : Nat → Int32} {f p : Nat} (h : TXc ξ w f p) : xsQ ξ (nI p) ξ.2 = ξ := by
  rw [← h.2.1]
  rfl
theorem lt_at {ξ : Xs} {w : Nat → Int32} {f p : Nat} (h : TXc ξ w f p) (hf : f ≤ 60) (hp : p ≤ f) : X0_letterAt ξ ξ.1.2.2 = some (tL w f p) := by
  obtain ⟨h1, h2, h3⟩ := h
  unfold X0_letterAt tL
  rw [h1, h2, if_neg (nI_pos (by omega))]
  by_cases e : p < f
  · rw [if_neg (nI_ge e (by omega)), if_neg (show ¬ (60 : Int32) ≤ nI p from nI_ge (b := 60) (by omega) (by omega)), rdN (by omega) (by omega), Option.bind_some, h3 p e, if_pos e]
  · rw [if_pos (nI_le (by omega) (by omega)), if_neg e]
theorem cl_num {w : Nat → Int32} {f : Nat} (hf : f ≤ 60) (x1 x2 : Int32) : ∀ (m i k p : Nat) (v : Int32) (ξ : Xs), TXc ξ w f p → p ≤ f → i + m = 5 → m < k → X0_readNumber_L46 x1 x2 k v (nI i) ξ = some (true, xsQ ξ (nI (p + tN w f m p)) (tput 4 ξ.2 x1 x2 (tV w f m p v))) := by
  intro m
  induction m with
  | zero =>
    intro i k p v ξ h hp e1 e2
    obtain ⟨k, rfl⟩ : ∃ q, k = q + 1 := ⟨k - 1, by omega⟩
    rw [X0_readNumber_L46, if_pos (show (5 : Int32) ≤ nI i from nI_le (a := 5) (by omega) (by omega))]
    simp only [bnd]
    unfold tN tV
    rw [xsQ_T, h.2.1, Nat.add_zero]
  | succ m ih =>
    intro i k p v ξ h hp e1 e2
    obtain ⟨k, rfl⟩ : ∃ q, k = q + 1 := ⟨k - 1, by omega⟩
    rw [X0_readNumber_L46, if_neg (show ¬ (5 : Int32) ≤ nI i from nI_ge (b := 5) (by omega) (by omega)), lt_at h hf hp, Option.bind_some, tL_d]
    unfold tN tV
    by_cases e : tD w f p = true
    · obtain ⟨z1, z2⟩ := tD_lt e
      rw [if_pos e, if_pos e, e, if_neg (show ¬ bi true = 0 by decide), Option.bind_some]
      simp only [bnd]
      rw [xsQ_P, h.2.1, nI_1, nI_1, z2, ih (i + 1) k (p + 1) _ _ (h.q (p + 1) ξ.2) z1 (by omega) (by omega), show p + (tN w f m (p + 1) + 1) = p + 1 + tN w f m (p + 1) by omega]
      rfl
    · rw [if_neg e, if_neg e, bool_f e, if_pos (show bi false = 0 by decide)]
      simp only [bnd]
      rw [xsQ_T, h.2.1, Nat.add_zero]
theorem cl_number {ξ : Xs} {w : Nat → Int32} {f p : Nat} (h : TXc ξ w f p) (hf : f ≤ 60) (hp : p ≤ f) (x1 x2 : Int32) : X0_readNumber ξ x1 x2 = some (tok w f p, xsQ ξ (nI (tE w f p)) (if tok w f p = true then tput 4 ξ.2 x1 x2 (tW w f p) else ξ.2)) := by
  unfold X0_readNumber tok tE tW
  rw [lt_at h hf hp, Option.bind_some]
  by_cases e : tC w f p = 32
  · have h1 : p < f := tC_lt (by rw [e]; decide)
    rw [if_pos ((tL_iff (by decide) (by decide)).mpr e), if_pos e, if_pos e]
    simp only [bnd]
    rw [xsQ_P, h.2.1, nI_1]
    have h2 := h.q (p + 1) ξ.2
    rw [lt_at h2 hf (by omega), Option.bind_some, tL_d]
    by_cases e2 : tD w f (p + 1) = true
    · rw [e2, if_neg (show ¬ bi true = 0 by decide), show X0_readNumber_L46 x1 x2 FU 0 0 (xsQ ξ (nI (p + 1)) ξ.2) = _ from cl_num hf x1 x2 5 0 FU (p + 1) 0 _ h2 h1 (by omega) (by unfold FU; omega), if_pos rfl]
      rfl
    · have z : tN w f 5 (p + 1) = 0 := by
        unfold tN
        rw [if_neg e2]
      rw [z, bool_f e2, if_pos (show bi false = 0 by decide), if_neg (show ¬ false = true by decide)]
  · rw [if_neg (fun q => e ((tL_iff (by decide) (by decide)).mp q)), if_neg e, if_neg e, if_neg (show ¬ false = true by decide), h.self]
theorem cl_fields {w : Nat → Int32} {f r n : Nat} (hf : f ≤ 60) (hr : r < 15) (hn : n ≤ 3) (f0 : Nat → Int32) : ∀ (m i k p : Nat) (ξ : Xs) (F : Nat → Int32), TXc ξ w f p → p ≤ f → i + m = n → m < k → Rw 4 (r + 1) r f0 F ξ.2 → ∃ u F', X0_readCommand_L51 (nI n) (nI r) k (nI i) ξ = some (gO w f m p, xsQ ξ (nI (gE w f m p)) u) ∧ Rw 4 (r + 1) r f0 F' u ∧ (∀ l, l ≤ i → F' l = F l) ∧ (gO w f m p = true → ∀ j, j < m → F' (1 + i + j) = tW w f (gP w f j p)) := by
  intro m
  induction m with
  | zero =>
    intro i k p ξ F h hp e1 e2 hu
    obtain ⟨k, rfl⟩ : ∃ q, k = q + 1 := ⟨k - 1, by omega⟩
    rw [X0_readCommand_L51, if_pos (nI_le (by omega) (by omega))]
    refine ⟨ξ.2, F, ?_, hu, fun _ _ => rfl, fun _ j hj => absurd hj (by omega)⟩
    unfold gO gE
    rw [h.self]
  | succ m ih =>
    intro i k p ξ F h hp e1 e2 hu
    obtain ⟨k, rfl⟩ : ∃ q, k = q + 1 := ⟨k - 1, by omega⟩
    rw [X0_readCommand_L51, if_neg (nI_ge (by omega) (by omega)), cl_number h hf hp, Option.bind_some]
    dsimp only
    unfold gO gE
    by_cases e : tok w f p = true
    · have hu2 := hu.put (k := 1 + i) (tW w f p) (by omega) (by omega) (by omega) (by omega)
      obtain ⟨u, F', q1, q2, q3, q4⟩ := ih (i + 1) k (tE w f p) (xsQ ξ (nI (tE w f p)) (tput 4 ξ.2 (nI r) (nI (1 + i)) (tW w f p))) _ (h.q _ _) (tE_le hp).2 (by omega) (by omega) hu2
      refine ⟨u, F', ?_, q2, fun l hl => (q3 l (by omega)).trans (if_neg (by omega)), fun q j hj => ?_⟩
      · rw [if_pos e, if_pos e, if_pos e, e, if_neg (show ¬ bi true = 0 by decide), show (1 : Int32) + nI i = nI (1 + i) from nI_add 1 i, nI_1, q1]
        rfl
      · rw [if_pos e] at q
        unfold gP
        cases j with
        | zero => exact (q3 (1 + i + 0) (by omega)).trans (if_pos (by omega))
        | succ j =>
          have := q4 q j (by omega)
          rw [show 1 + i + (j + 1) = 1 + (i + 1) + j by omega]
          exact this
    · refine ⟨ξ.2, F, ?_, hu, fun _ _ => rfl, fun q j hj => ?_⟩
      · rw [if_neg e, if_neg e, if_neg e, bool_f e, if_pos (show bi false = 0 by decide)]
      · rw [if_neg e] at q
        cases q
theorem cl_cmd {ξ : Xs} {w : Nat → Int32} {f p r : Nat} (h : TXc ξ w f p) (hf : f ≤ 60) (hp : p ≤ f) (hr : r < 15) (hu : ξ.2.1 = nI r) : ∃ u, X0_readCommand ξ = some (cO w f p, xsQ ξ (nI (cE w f p)) u) ∧ (∃ n, n ≤ 15 ∧ u.1 = nI n) ∧ (cO w f p = true → u.1 = nI (r + 1) ∧ (∀ i k, i < r → k < 4 → fv 4 u.2 i k = fv 4 ξ.2.2 i k) ∧ CmdRow w f u.2 r p) := by
  have h3 : cN w f p ≤ 3 := numN_3 _
  unfold X0_readCommand
  rw [lt_at h hf hp, Option.bind_some, numN_c, numN_L]
  by_cases e : cN w f p = 0
  · rw [if_pos (show nI (cN w f p) = 0 by rw [e]; rfl)]
    refine ⟨ξ.2, ?_, ⟨r, by omega, hu⟩, fun q => ?_⟩
    · unfold cO cE
      rw [if_pos e, if_pos e, h.self]
    · unfold cO at q
      rw [if_pos e] at q
      cases q
  · rw [if_neg (nI_ne0 (by omega) (by omega))]
    obtain ⟨t1, t2⟩ := tadd_new (cap := 15) (w := 4) hu hr (by omega)
    have h1 : p < f := tC_lt (fun q => e (by unfold cN; rw [q]; decide))
    have w1 := t2.put (k := 0) (tL w f p) (by omega) (by omega) (by omega) (by omega)
    obtain ⟨u, F', q1, q2, q3, q4⟩ := cl_fields hf hr h3 _ (cN w f p) 0 FU (p + 1) (xsQ ξ (nI (p + 1)) (tput 4 (tadd 15 4 ξ.2).2 (nI r) (nI 0) (tL w f p))) _ (h.q _ _) h1 (by omega) (by unfold FU; omega) w1
    refine ⟨u, ?_, ⟨r + 1, by omega, q2.1⟩, fun q => ⟨q2.1, fun i k hi hk => (q2.2 i k hk).trans (if_neg (by omega)), q, ?_, fun l hl => ?_⟩⟩
    · show X0_readCommand_L51 (nI (cN w f p)) (tadd 15 4 ξ.2).1 FU 0 (xsQ ξ (ξ.1.2.2 + 1) (tput 4 (tadd 15 4 ξ.2).2 (tadd 15 4 ξ.2).1 0 (tL w f p))) = _
      unfold cO cE
      rw [if_neg e, if_neg e, t1, h.2.1, nI_1]
      exact q1
    · have z : tL w f p = tC w f p := by
        unfold tL tC
        rw [if_pos h1, if_pos h1]
      rw [q2.2 r 0 (by omega), if_pos rfl, q3 0 (by omega), ← z]
      exact if_pos rfl
    · have z : gO w f (cN w f p) (p + 1) = true := by
        unfold cO at q
        rw [if_neg e] at q
        exact q
      have z2 := q4 z l hl
      rw [q2.2 r (1 + l) (by omega), if_pos rfl]
      exact z2
/-! the reference reads -/
theorem vu_self {β : Type} (f : Nat → β) (k : Nat) : va_up f k (f k) = f := by
  funext j
  unfold va_up
  split
  · rename_i h; rw [h]
  · rfl
theorem vu_up {β : Type} (f : Nat → β) (k : Nat) (v v' : β) : va_up (va_up f k v) k v' = va_up f k v' := by
  funext j
  unfold va_up
  split
  · rfl
  · rfl
def tx (ρ : Ms) (g : Nat → Int32) (q : Int32) (b : Bool) : Ms := ((va_up ρ.1.1 5 g, va_up ρ.1.2 2 q), (ρ.2.1, b))
theorem tx_tx (ρ : Ms) (g g' : Nat → Int32) (q q' : Int32) (b b' : Bool) : tx (tx ρ g q b) g' q' b' = tx ρ g' q' b' := by
  show ((va_up (va_up ρ.1.1 5 g) 5 g', va_up (va_up ρ.1.2 2 q) 2 q'), (ρ.2.1, b')) = _
  rw [vu_up, vu_up]
  rfl
theorem tx_I (ρ : Ms) (v : Int32) : msI ρ 2 v = tx ρ (ρ.1.1 5) v ρ.2.2 := by
  show _ = ((va_up ρ.1.1 5 (ρ.1.1 5), va_up ρ.1.2 2 v), (ρ.2.1, ρ.2.2))
  rw [vu_self]
  rfl
theorem tx_W (ρ : Ms) (b : Bool) : msW ρ b = tx ρ (ρ.1.1 5) (ρ.1.2 2) b := by
  show _ = ((va_up ρ.1.1 5 (ρ.1.1 5), va_up ρ.1.2 2 (ρ.1.2 2)), (ρ.2.1, b))
  rw [vu_self, vu_self]
  rfl
theorem tx_A (ρ : Ms) (g : Nat → Int32) : msA ρ 5 g = tx ρ g (ρ.1.2 2) ρ.2.2 := by
  show _ = ((va_up ρ.1.1 5 g, va_up ρ.1.2 2 (ρ.1.2 2)), (ρ.2.1, ρ.2.2))
  rw [vu_self]
  rfl
theorem tx_g (ρ : Ms) (g : Nat → Int32) (q : Int32) (b : Bool) (j : Nat) : (tx ρ g q b).1.1 j = if j = 5 then g else ρ.1.1 j := rfl
theorem tx_i (ρ : Ms) (g : Nat → Int32) (q : Int32) (b : Bool) (j : Nat) : (tx ρ g q b).1.2 j = if j = 2 then q else ρ.1.2 j := rfl
theorem tx_5 (ρ : Ms) (g : Nat → Int32) (q : Int32) (b : Bool) : (tx ρ g q b).1.1 5 = g := by rw [tx_g, if_pos rfl]
theorem tx_2 (ρ : Ms) (g : Nat → Int32) (q : Int32) (b : Bool) : (tx ρ g q b).1.2 2 = q := by rw [tx_i, if_pos rfl]
theorem tx_1 (ρ : Ms) (g : Nat → Int32) (q : Int32) (b : Bool) : (tx ρ g q b).1.2 1 = ρ.1.2 1 := by rw [tx_i, if_neg (by omega)]
theorem tx_4 (ρ : Ms) (g : Nat → Int32) (q : Int32) (b : Bool) : (tx ρ g q b).1.1 4 = ρ.1.1 4 := by rw [tx_g, if_neg (by omega)]
def TXr (ρ : Ms) (w : Nat → Int32) (f p : Nat) : Prop := ρ.1.2 1 = nI f ∧ ρ.1.2 2 = nI p ∧ ρ.1.1 4 = w ∧ ρ.2.2 = false
theorem TXr.q {ρ : Ms} {w : Nat → Int32} {f p : Nat} (h : TXr ρ w f p) (g : Nat → Int32) (p' : Nat) : TXr (tx ρ g (nI p') false) w f p' := ⟨(tx_1 _ _ _ _).trans h.1, tx_2 _ _ _ _, (tx_4 _ _ _ _).trans h.2.2.1, rfl⟩
theorem TXr.self {ρ : Ms} {w : Nat → Int32} {f p : Nat} (h : TXr ρ w f p) : tx ρ (ρ.1.1 5) (nI p) false = ρ := by
  have e := tx_W ρ ρ.2.2
  rw [h.2.1, h.2.2.2] at e
  rw [← e, ← h.2.2.2]
  rfl
theorem sg {ρ : Ms} {w : Nat → Int32} {f p : Nat} (h : TXr ρ w f p) (hf : f ≤ 60) (hp : p ≤ f) : X5_sign ρ = some (tC w f p) := by
  obtain ⟨h1, h2, h3, h4⟩ := h
  unfold X5_sign tC
  rw [h4, if_pos (show bi false = 0 by decide), h1, h2, h3]
  by_cases e : p < f
  · rw [if_neg (nI_ge e (by omega)), rdN (by omega) (by omega), Option.bind_some, if_pos e]
  · rw [if_pos (nI_le (by omega) (by omega)), if_neg e]
theorem rf_num {w : Nat → Int32} {f : Nat} (hf : f ≤ 60) : ∀ (m i k p : Nat) (v : Int32) (ρ : Ms), TXr ρ w f p → p ≤ f → i + m = 5 → m < k → X5_number_L4 k v (nI i) ρ = some (tV w f m p v, tx ρ (ρ.1.1 5) (nI (p + tN w f m p)) (decide (i + tN w f m p = 0))) := by
  intro m
  induction m with
  | zero =>
    intro i k p v ρ h hp e1 e2
    obtain ⟨k, rfl⟩ : ∃ q, k = q + 1 := ⟨k - 1, by omega⟩
    have ei : i = 5 := by omega
    subst ei
    rw [X5_number_L4, if_pos (show (5 : Int32) ≤ nI 5 by decide), if_neg (show ¬ nI 5 = 0 by decide)]
    simp only [bnd]
    unfold tN tV
    rw [tx_W, h.2.1, h.2.2.2, Nat.add_zero]
    rfl
  | succ m ih =>
    intro i k p v ρ h hp e1 e2
    obtain ⟨k, rfl⟩ : ∃ q, k = q + 1 := ⟨k - 1, by omega⟩
    rw [X5_number_L4, if_neg (show ¬ (5 : Int32) ≤ nI i from nI_ge (b := 5) (by omega) (by omega)), sg h hf hp, Option.bind_some, show X5_in (tC w f p) (48 : Int32) (57 : Int32) = tD w f p from rfl]
    unfold tN tV
    by_cases e : tD w f p = true
    · have z1 := (tD_lt e).1
      rw [if_pos e, if_pos e, e, if_neg (show ¬ bi true = 0 by decide), Option.bind_some]
      simp only [bnd]
      rw [tx_I, h.2.1, nI_1, nI_1, h.2.2.2, ih (i + 1) k (p + 1) _ _ (h.q (ρ.1.1 5) (p + 1)) z1 (by omega) (by omega), tx_tx, tx_5, show p + (tN w f m (p + 1) + 1) = p + 1 + tN w f m (p + 1) by omega, show i + (tN w f m (p + 1) + 1) = i + 1 + tN w f m (p + 1) by omega]
    · rw [if_neg e, if_neg e, bool_f e, if_pos (show bi false = 0 by decide)]
      simp only [bnd]
      rw [tx_W, tx_W, h.2.1, h.2.2.2, Nat.add_zero, Nat.add_zero]
      by_cases z : i = 0
      · rw [if_pos (show nI i = 0 by rw [z]; rfl), decide_eq_true z]
      · rw [if_neg (nI_ne0 (by omega) (by omega)), decide_eq_false z]
theorem rf_wrong {ρ : Ms} (h : ρ.2.2 = true) (c n x : Int32) {k : Nat} (hk : 0 < k) : X5_command_L101 c n k x ρ = some (c, ρ) := by
  obtain ⟨k, rfl⟩ : ∃ q, k = q + 1 := ⟨k - 1, by omega⟩
  rw [X5_command_L101, h, if_neg (show ¬ bi true = 0 by decide), ite_self]
theorem tN_z (w : Nat → Int32) (f q : Nat) : decide (0 + tN w f 5 q = 0) = !tD w f q := by
  unfold tN
  by_cases e : tD w f q = true
  · rw [if_pos e, e]
    exact decide_eq_false (by omega)
  · rw [if_neg e, bool_f e]
    rfl
theorem rf_fields {w : Nat → Int32} {f n : Nat} (hf : f ≤ 60) (hn : n ≤ 3) (c : Int32) : ∀ (m i k p : Nat) (ρ : Ms), TXr ρ w f p → p ≤ f → i + m = n → m < k → ∃ g, X5_command_L101 c (nI n) k (nI i) ρ = some (c, tx ρ g (nI (gE w f m p)) (!gO w f m p)) ∧ (∀ j, j < i → g j = ρ.1.1 5 j) ∧ (gO w f m p = true → ∀ j, j < m → g (i + j) = tW w f (gP w f j p)) := by
  intro m
  induction m with
  | zero =>
    intro i k p ρ h hp e1 e2
    obtain ⟨k, rfl⟩ : ∃ q, k = q + 1 := ⟨k - 1, by omega⟩
    rw [X5_command_L101, if_pos (nI_le (by omega) (by omega))]
    refine ⟨ρ.1.1 5, ?_, fun _ _ => rfl, fun _ j hj => absurd hj (by omega)⟩
    unfold gO gE
    rw [Bool.not_true, h.self]
  | succ m ih =>
    intro i k p ρ h hp e1 e2
    obtain ⟨k, rfl⟩ : ∃ q, k = q + 1 := ⟨k - 1, by omega⟩
    rw [X5_command_L101, if_neg (nI_ge (by omega) (by omega)), sg h hf hp, h.2.2.2, if_pos (show bi false = 0 by decide), Option.bind_some]
    unfold gO gE
    by_cases e : tC w f p = 32
    · have h1 : p < f := tC_lt (by rw [e]; decide)
      have eW : msW ρ false = ρ := by
        rw [← h.2.2.2]
        rfl
      rw [if_pos e, eW]
      simp only [bnd]
      have e5 := rf_num hf 5 0 FU (p + 1) 0 _ (h.q (ρ.1.1 5) (p + 1)) h1 (by omega) (by unfold FU; omega)
      rw [tx_tx, tx_5, tN_z] at e5
      rw [h.2.2.2, if_pos (show bi false = 0 by decide), tx_I, h.2.1, nI_1, h.2.2.2, show X5_number (tx ρ (ρ.1.1 5) (nI (p + 1)) false) = _ from e5, Option.bind_some]
      dsimp only
      rw [tx_5, wrN (by omega) (by omega), Option.bind_some, tx_A, tx_2, tx_tx]
      have eE : tE w f p = p + 1 + tN w f 5 (p + 1) := if_pos e
      by_cases e2 : tD w f (p + 1) = true
      · have et : tok w f p = true := (if_pos e).trans e2
        have hq := h.q (va_up (ρ.1.1 5) i (tV w f 5 (p + 1) 0)) (tE w f p)
        obtain ⟨g, q1, q2, q3⟩ := ih (i + 1) k (tE w f p) _ hq (tE_le hp).2 (by omega) (by omega)
        rw [tx_tx] at q1
        rw [tx_5] at q2
        refine ⟨g, ?_, fun j hj => (q2 j (by omega)).trans (if_neg (by omega)), fun q j hj => ?_⟩
        · rw [if_pos et, if_pos et, nI_1, ← eE, show (tx ρ (ρ.1.1 5) (nI (tE w f p)) (!tD w f (p + 1))).2.2 = false by rw [e2]; rfl, q1]
        · rw [if_pos et] at q
          unfold gP
          cases j with
          | zero => exact (q2 (i + 0) (by omega)).trans (if_pos (by omega))
          | succ j =>
            rw [show i + (j + 1) = i + 1 + j by omega]
            exact q3 q j (by omega)
      · have et : ¬ tok w f p = true := fun q => e2 ((if_pos e).symm.trans q)
        refine ⟨va_up (ρ.1.1 5) i (tV w f 5 (p + 1) 0), ?_, fun j hj => if_neg (by omega), fun q => ?_⟩
        · rw [if_neg et, if_neg et, bool_f e2, ← eE]
          exact rf_wrong rfl _ _ _ (by omega)
        · rw [if_neg et] at q
          cases q
    · have et : ¬ tok w f p = true := fun q => e (tok_e q).1
      have eE : tE w f p = p := if_neg e
      rw [if_neg e]
      simp only [bnd]
      rw [show (msW ρ true).2.2 = true from rfl, if_neg (show ¬ bi true = 0 by decide)]
      refine ⟨ρ.1.1 5, ?_, fun _ _ => rfl, fun q => ?_⟩
      · rw [if_neg et, if_neg et, eE, rf_wrong (show (msW ρ true).2.2 = true from rfl) _ _ _ (by omega), tx_W, h.2.1]
        rfl
      · rw [if_neg et] at q
        cases q
theorem rf_cmd {ρ : Ms} {w : Nat → Int32} {f p : Nat} (h : TXr ρ w f p) (hf : f ≤ 60) (hp : p ≤ f) : ∃ g c, X5_command ρ = some (c, tx ρ g (nI (cE w f p)) (!cO w f p)) ∧ (cO w f p = true → c = tC w f p ∧ ∀ j, j < cN w f p → g j = tW w f (gP w f j (p + 1))) := by
  have K : ∀ (n : Nat) (N : Int32), N = nI n → 0 < n → n ≤ 3 → cN w f p = n → ∃ g c, (bnd (msW ρ ρ.2.2) fun ρ32 => if (bi ρ32.2.2) = 0 then (bnd (msI ρ32 2 ((ρ32.1.2 2) + (1 : Int32))) fun ρ35 => X5_command_L101 (tC w f p) N FU (0 : Int32) ρ35) else some (((-2 : Int32), ρ32))) = some (c, tx ρ g (nI (cE w f p)) (!cO w f p)) ∧ (cO w f p = true → c = tC w f p ∧ ∀ j, j < cN w f p → g j = tW w f (gP w f j (p + 1))) := by
    rintro n N rfl h0 h3 en
    have h1 : p < f := tC_lt (fun q => by
      unfold cN at en
      rw [q] at en
      exact absurd en (by rw [show numN (-2) = 0 by decide]; omega))
    have eW : msW ρ ρ.2.2 = ρ := rfl
    obtain ⟨g, q1, q2, q3⟩ := rf_fields hf h3 (tC w f p) n 0 FU (p + 1) _ (h.q (ρ.1.1 5) (p + 1)) h1 (by omega) (by unfold FU; omega)
    rw [tx_tx] at q1
    refine ⟨g, tC w f p, ?_, fun q => ⟨rfl, fun j hj => ?_⟩⟩
    · simp only [bnd]
      unfold cO cE
      rw [eW, h.2.2.2, if_pos (show bi false = 0 by decide), tx_I, h.2.1, nI_1, h.2.2.2, en, if_neg (by omega), if_neg (by omega)]
      exact q1
    · unfold cO at q
      rw [en, if_neg (by omega)] at q
      have := q3 q j (by omega)
      rw [Nat.zero_add] at this
      exact this
  unfold X5_command
  rw [sg h hf hp, Option.bind_some]
  by_cases z111 : tC w f p = 111
  · rw [if_pos z111]
    exact K 2 _ rfl (by omega) (by omega) (by unfold cN; rw [z111]; decide)
  rw [if_neg z111]
  by_cases z105 : tC w f p = 105
  · rw [if_pos z105]
    exact K 2 _ rfl (by omega) (by omega) (by unfold cN; rw [z105]; decide)
  rw [if_neg z105]
  by_cases z99 : tC w f p = 99
  · rw [if_pos z99]
    exact K 2 _ rfl (by omega) (by omega) (by unfold cN; rw [z99]; decide)
  rw [if_neg z99]
  by_cases z112 : tC w f p = 112
  · rw [if_pos z112]
    exact K 2 _ rfl (by omega) (by omega) (by unfold cN; rw [z112]; decide)
  rw [if_neg z112]
  by_cases z104 : tC w f p = 104
  · rw [if_pos z104]
    exact K 3 _ rfl (by omega) (by omega) (by unfold cN; rw [z104]; decide)
  rw [if_neg z104]
  by_cases z114 : tC w f p = 114
  · rw [if_pos z114]
    exact K 1 _ rfl (by omega) (by omega) (by unfold cN; rw [z114]; decide)
  rw [if_neg z114]
  by_cases z100 : tC w f p = 100
  · rw [if_pos z100]
    exact K 1 _ rfl (by omega) (by omega) (by unfold cN; rw [z100]; decide)
  rw [if_neg z100]
  have e0 : cN w f p = 0 := by
    unfold cN numN
    rw [if_neg z99, if_neg z100, if_neg z104, if_neg z105, if_neg z111, if_neg z112, if_neg z114]
  simp only [bnd]
  rw [show (msW ρ true).2.2 = true from rfl, if_neg (show ¬ bi true = 0 by decide)]
  refine ⟨ρ.1.1 5, -2, ?_, fun q => ?_⟩
  · unfold cO cE
    rw [if_pos e0, if_pos e0, tx_W, h.2.1]
    rfl
  · unfold cO at q
    rw [if_pos e0] at q
    cases q
