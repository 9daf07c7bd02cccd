/-! ROWS ADDED AND TAKEN AWAY, IN PLAIN WORDS -/
def zr (f : Nat → Int32) (b j : Nat) : Nat → Int32 := fun q => if b ≤ q ∧ q < b + j then 0 else f q
def shf (f : Nat → Int32) (b e c : Nat) : Nat → Int32 := fun q => if b ≤ q ∧ q < e then f (q + c) else f q
theorem zr_step (f : Nat → Int32) (b j : Nat) : va_up (zr f b j) (b + j) 0 = zr f b (j + 1) := by
  funext q
  unfold va_up zr
  by_cases h : q = b + j
  · rw [if_pos h, if_pos (by omega)]
  · rw [if_neg h]
    by_cases h2 : b ≤ q ∧ q < b + j
    · rw [if_pos h2, if_pos (by omega)]
    · rw [if_neg h2, if_neg (by omega)]
theorem shf_step (f : Nat → Int32) (b e c : Nat) (he : b ≤ e) : va_up (shf f b e c) e (f (e + c)) = shf f b (e + 1) c := by
  funext q
  unfold va_up shf
  by_cases h : q = e
  · subst h
    rw [if_pos rfl, if_pos (by omega)]
  · rw [if_neg h]
    by_cases h2 : b ≤ q ∧ q < e
    · rw [if_pos h2, if_pos (by omega)]
    · rw [if_neg h2, if_neg (by omega)]
theorem shf_0 (f : Nat → Int32) (b c : Nat) : shf f b b c = f := by
  funext q
  unfold shf
  rw [if_neg (by omega)]
theorem tput_in {cols n r c : Nat} {f : Nat → Int32} {v : Int32} (hr : r < n) (hc : c < cols) (hn : n < 1000) (hk : cols < 1000) : tput cols (nI n, f) (nI r) (nI c) v = (nI n, va_up f (r * cols + c) v) := by
  unfold tput tat
  rw [if_neg (fun z => z.elim (nI_pos (by omega)) (fun z => z.elim (nI_ge hr (by omega)) (fun z => z.elim (nI_pos (by omega)) (nI_ge hc (by omega))))), nI_clamp (by omega), nI_clamp (by omega)]
theorem tget_in {cols n r c : Nat} {f : Nat → Int32} (hr : r < n) (hc : c < cols) (hn : n < 1000) (hk : cols < 1000) : tget cols (nI n, f) (nI r) (nI c) = f (r * cols + c) := by
  unfold tget tat
  rw [if_neg (fun z => z.elim (nI_pos (by omega)) (fun z => z.elim (nI_ge hr (by omega)) (fun z => z.elim (nI_pos (by omega)) (nI_ge hc (by omega))))), nI_clamp (by omega), nI_clamp (by omega)]
theorem X3_addRow_L26_eq {cap cols L n : Nat} (hn : n < 500) (hk : cols ≤ 100) (f : Nat → Int32) : ∀ (k j : Nat), j ≤ cols → cols < j + k → X3_addRow_L26 cap cols L k (nI j) (nI (n + 1), zr f (n * cols) j) = some (nI n, (nI (n + 1), zr f (n * cols) cols)) := by
  intro k
  induction k with
  | zero => intro j h1 h2; omega
  | succ k ih =>
    intro j h1 h2
    rw [X3_addRow_L26]
    by_cases h : j = cols
    · subst h
      rw [if_pos (Int32.le_refl _), show ((nI (n + 1), zr f (n * j) j) : Tab).1 = nI (n + 1) from rfl, nI_pred]
    · rw [if_neg (nI_ge (by omega) (by omega)), show ((nI (n + 1), zr f (n * cols) j) : Tab).1 = nI (n + 1) from rfl, nI_pred]
      unfold bnd
      rw [tput_in (by omega) (by omega) (by omega) (by omega), zr_step, nI_1]
      exact ih (j + 1) (by omega) (by omega)
theorem zr_0 (f : Nat → Int32) (b : Nat) : zr f b 0 = f := by
  funext q
  unfold zr
  rw [if_neg (by omega)]
theorem X3_addRow_eq {cap cols L : Nat} {u : Tab} (sh : tbS cap cols L) (ok : tbOK cap u) : X3_addRow cap cols L u = some (tadd cap cols u) := by
  obtain ⟨n, hn, e⟩ := tbOK_n sh ok
  have hc1 := sh.2.1
  have hc2 := sh.2.2
  unfold X3_addRow tadd
  rw [e]
  by_cases h : n < cap
  · rw [if_pos (nI_lt h (by omega)), if_neg (nI_ge h (by omega))]
    unfold bnd
    rw [nI_1]
    have h1 := X3_addRow_L26_eq (cap := cap) (cols := cols) (L := L) (n := n) (by omega) hc2 u.2 FU 0 (Nat.zero_le _) (by unfold FU; omega)
    rw [zr_0, nI_0] at h1
    refine h1.trans ?_
    rw [nI_clamp (by omega)]
    rfl
  · rw [if_neg (nI_nlt (by omega) (by omega)), if_pos (nI_le (by omega) (by omega))]
theorem X3_removeRow_L23_eq {cap cols L n i b : Nat} (hn : n < 500) (hk : cols ≤ 100) (hi : i + 1 < n) (hb : b ≤ i * cols) (f : Nat → Int32) (K : Tab → Option Tab) : ∀ (k j : Nat), j ≤ cols → cols < j + k → X3_removeRow_L23 cap cols L (nI (i + 1)) K k (nI j) (nI n, shf f b (i * cols + j) cols) = K (nI n, shf f b ((i + 1) * cols) cols) := by
  intro k
  induction k with
  | zero => intro j h1 h2; omega
  | succ k ih =>
    intro j h1 h2
    rw [X3_removeRow_L23]
    by_cases h : j = cols
    · subst h
      rw [if_pos (Int32.le_refl _), Nat.add_mul, Nat.one_mul]
    · rw [if_neg (nI_ge (by omega) (by omega)), nI_pred]
      unfold bnd
      rw [tget_in hi (by omega) (by omega) (by omega), tput_in (by omega) (by omega) (by omega) (by omega), nI_1]
      have e1 : shf f b (i * cols + j) cols ((i + 1) * cols + j) = f (i * cols + j + cols) := by
        unfold shf
        rw [if_neg (by rw [Nat.add_mul]; omega), Nat.add_mul]
        congr 1
        omega
      rw [e1, shf_step f b (i * cols + j) cols (by omega)]
      exact ih (j + 1) (by omega) (by omega)
theorem X3_removeRow_L13_eq {cap cols L n b : Nat} (hn : n < 500) (hk : cols ≤ 100) (f : Nat → Int32) : ∀ (k i : Nat), i + 1 ≤ n → n < i + 1 + k → b ≤ i * cols → X3_removeRow_L13 cap cols L k (nI (i + 1)) (nI n, shf f b (i * cols) cols) = some (nI n - 1, shf f b ((n - 1) * cols) cols) := by
  intro k
  induction k with
  | zero => intro i h1 h2; omega
  | succ k ih =>
    intro i h1 h2 hb
    rw [X3_removeRow_L13]
    by_cases h : i + 1 = n
    · rw [show ((nI n, shf f b (i * cols) cols) : Tab).1 = nI n from rfl, if_pos (by rw [h]; exact Int32.le_refl _), ← h]
      rfl
    · rw [show ((nI n, shf f b (i * cols) cols) : Tab).1 = nI n from rfl, if_neg (nI_ge (by omega) (by omega))]
      have h3 := X3_removeRow_L23_eq (cap := cap) (L := L) hn hk (i := i) (b := b) (by omega) hb f (fun u1023 => X3_removeRow_L13 cap cols L k (nI (i + 1) + 1) u1023) FU 0 (Nat.zero_le _) (by unfold FU; omega)
      rw [Nat.add_zero (i * cols), nI_0] at h3
      rw [h3, nI_1]
      exact ih (i + 1) (by omega) (by omega) (by rw [Nat.add_mul]; omega)
theorem X3_removeRow_eq {cap cols L : Nat} {u : Tab} (sh : tbS cap cols L) (ok : tbOK cap u) (row : Int32) : X3_removeRow cap cols L u row = some (trem cols u row) := by
  obtain ⟨n, hn, e⟩ := tbOK_n sh ok
  have hc1 := sh.2.1
  have hc2 := sh.2.2
  unfold X3_removeRow trem thas
  rw [e]
  rcases pk_ix row (n := n) (by omega) with h | h | ⟨r, hr, rfl⟩
  · have : ¬ (0 ≤ row) := fun z => absurd (Int32.lt_of_le_of_lt z h) Int32.lt_irrefl
    rw [if_pos (Or.inl h), if_pos (by simp [this, bi])]
  · have : ¬ (row < nI n) := fun z => absurd (Int32.lt_of_lt_of_le z h) Int32.lt_irrefl
    rw [if_pos (Or.inr h), if_pos (by simp [this, bi])]
  · rw [if_neg (by rw [decide_eq_true (nI_pos' (n := r) (by omega)), decide_eq_true (nI_lt hr (by omega))]; decide), if_neg (fun z => Or.elim z (nI_pos (by omega)) (nI_ge hr (by omega))), nI_1, nI_clamp (by omega), nI_clamp (by omega)]
    have h1 := X3_removeRow_L13_eq (cap := cap) (cols := cols) (L := L) (n := n) (b := r * cols) (by omega) hc2 u.2 FU r (by omega) (by unfold FU; omega) (Nat.le_refl _)
    rw [shf_0] at h1
    rw [show u = (nI n, u.2) from by rw [← e]] 
    exact h1
theorem tadd_ok {cap cols L : Nat} {u : Tab} (sh : tbS cap cols L) (ok : tbOK cap u) : tbOK cap (tadd cap cols u).2 := by
  unfold tadd
  split
  · exact ok
  · rename_i h
    have h2 := tb_inc (u1 := (u.1 + 1, u.2)) sh ok (Int32.not_le.mp h) rfl
    exact ⟨h2.1, h2.2⟩
theorem trem_ok {cap cols L : Nat} {u : Tab} {row : Int32} (sh : tbS cap cols L) (ok : tbOK cap u) : tbOK cap (trem cols u row) := by
  obtain ⟨n, hn, e⟩ := tbOK_n sh ok
  have hc1 := sh.2.1
  unfold trem
  split
  · exact ok
  · rename_i h
    rw [e] at h
    rcases pk_ix row (n := n) (by omega) with h1 | h1 | ⟨r, hr, rfl⟩
    · exact absurd (Or.inl h1) h
    · exact absurd (Or.inr h1) h
    · obtain ⟨m, rfl⟩ : ∃ m, n = m + 1 := ⟨n - 1, by omega⟩
      show 0 ≤ u.1 - 1 ∧ u.1 - 1 ≤ nI cap
      rw [e, nI_pred]
      exact ⟨nI_pos' (by omega), nI_le (by omega) (by omega)⟩
theorem c_X3_addRow (l : Launch) (D : va_G) (cI cS : ClassId) (t a cap cols L : Nat) (sh : tbS cap cols L) (u : Tab) (ok : tbOK cap u) (F : Int32 × Tab) (hF : tadd cap cols u = F) : MI l yX3_addRow cX3_addRow 2 (some .int) rm_X3_addRow D cI cS [.ref t] (tbW t a cI cap cols L u) (tbW t a cI cap cols L) (fun r u => r = F.1 ∧ u = F.2 ∧ tbOK cap u) :=
  (m_X3_addRow l D cI cS t a cap cols L sh u ok F (by rw [X3_addRow_eq sh ok, hF])).mono (fun _ _ h => ⟨h.1, h.2.1, by rw [h.2.1, ← hF]; exact tadd_ok sh ok⟩)
theorem c_X3_removeRow (l : Launch) (D : va_G) (cI cS : ClassId) (t a cap cols L : Nat) (sh : tbS cap cols L) (u : Tab) (ok : tbOK cap u) (p1 : Int32) (F : Tab) (hF : trem cols u p1 = F) : MV l yX3_removeRow cX3_removeRow 4 rm_X3_removeRow D cI cS [.ref t, .int p1] (tbW t a cI cap cols L u) (tbW t a cI cap cols L) (fun u => u = F ∧ tbOK cap u) :=
  (m_X3_removeRow l D cI cS t a cap cols L sh u ok p1 F (by rw [X3_removeRow_eq sh ok, hF])).mono (fun _ h => ⟨h.1, by rw [h.1, ← hF]; exact trem_ok sh ok⟩)
