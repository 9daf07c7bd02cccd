/-! CHANGING A ROW, ON BOTH SIDES -/
def ar (α : As) (r i : Nat) (F : Nat → Int32) : As := fun r' i' k => if r' = r ∧ i' = i then F k else α r' i' k
theorem ar_self (α : As) (r i : Nat) : ar α r i (α r i) = α := by
  funext r' i' k
  unfold ar
  split
  · rename_i h; rw [h.1, h.2]
  · rfl
theorem ar_at (α : As) (r i k : Nat) (F : Nat → Int32) : ar α r i F r i k = F k := by
  unfold ar
  rw [if_pos ⟨rfl, rfl⟩]
theorem ar_row (α : As) {r i i' : Nat} (k : Nat) (F : Nat → Int32) (h : i' ≠ i) : ar α r i F r i' k = α r i' k := by
  unfold ar
  rw [if_neg (fun q => h q.2)]
theorem ar_reg (α : As) {r r' i : Nat} (i' k : Nat) (F : Nat → Int32) (h : r' ≠ r) : ar α r i F r' i' k = α r' i' k := by
  unfold ar
  rw [if_neg (fun q => h q.1)]
theorem au_ar (α : As) (r i k : Nat) (F : Nat → Int32) (v : Int32) : au (ar α r i F) r i k v = ar α r i (fun j => if j = k then v else F j) := by
  funext r' i' k'
  unfold au ar
  by_cases h : r' = r ∧ i' = i
  · by_cases h2 : k' = k
    · rw [if_pos ⟨h.1, h.2, h2⟩, if_pos h]; exact (if_pos h2).symm
    · rw [if_neg (fun q => h2 q.2.2), if_pos h, if_pos h]; exact (if_neg h2).symm
  · rw [if_neg (fun q => h ⟨q.1, q.2.1⟩), if_neg h, if_neg h]
theorem RepM.row {g : Nat → Int32} {α : As} {r i k : Nat} {F : Nat → Int32} (v : Int32) (h : RepM g (ar α r i F)) (hr : r < 6) (hi : i < rw_ r) (hk : k < wd r) : RepM (mup g r i k v) (ar α r i (fun j => if j = k then v else F j)) := by
  rw [← au_ar]
  exact h.up hr hi hk
theorem RepM.of {g : Nat → Int32} {α : As} (r i : Nat) (h : RepM g α) : RepM g (ar α r i (α r i)) := by rw [ar_self]; exact h
theorem RepM.turn {g : Nat → Int32} {α : As} {c : Nat} {F : Nat → Int32} (s w t : Int32) (h : RepM g (ar α 2 c F)) (hc : c < 20) : RepM (mup (mup (mup g 2 c 3 s) 2 c 4 w) 2 c 5 t) (ar α 2 c (fun j => if j = 5 then t else if j = 4 then w else if j = 3 then s else F j)) :=
  ((h.row (k := 3) s (by decide) hc (by decide)).row (k := 4) w (by decide) hc (by decide)).row (k := 5) t (by decide) hc (by decide)
/-- τ' is τ but for row c of the copies, which is F -/
def UpC (τ τ' : St) (c : Nat) (F : Nat → Int32) : Prop := (∀ i, i ≠ 0 → τ'.1 i = τ.1 i) ∧ τ'.2 = τ.2 ∧ (τ'.1 0).1 = (τ.1 0).1 ∧ ∀ r k, k < 12 → fv 12 (τ'.1 0).2 r k = if r = c then F k else fv 12 (τ.1 0).2 r k
theorem UpC.refl (τ : St) (c : Nat) : UpC τ τ c (fun k => fv 12 (τ.1 0).2 c k) := ⟨fun _ _ => rfl, rfl, rfl, fun r k _ => by split <;> simp_all⟩
theorem UpC.put {τ τ' : St} {c n k : Nat} {F : Nat → Int32} (v : Int32) (u : UpC τ τ' c F) (hn : (τ.1 0).1 = nI n) (h20 : n ≤ 20) (hc : c < n) (hk : k < 12) : UpC τ (stT τ' 0 (tput 12 (τ'.1 0) (nI c) (nI k) v)) c (fun j => if j = k then v else F j) := by
  obtain ⟨u1, u2, u3, u4⟩ := u
  rw [tp (w := 12) (u3.trans hn) (by omega) (by omega) hc hk]
  refine ⟨fun i hi => ?_, u2, ?_, fun r j hj => ?_⟩
  · rw [stT_get, if_neg hi, u1 i hi]
  · rw [stT_get, if_pos rfl, hn]
  · rw [stT_get, if_pos rfl, fv_up hk hj, u4 r j hj]
    by_cases h1 : r = c
    · by_cases h2 : j = k
      · rw [if_pos ⟨h1, h2⟩, if_pos h1]; exact (if_pos h2).symm
      · rw [if_neg (fun q => h2 q.2), if_pos h1, if_pos h1]; exact (if_neg h2).symm
    · rw [if_neg (fun q => h1 q.1), if_neg h1, if_neg h1]
theorem UpC.copy {τ τ' : St} {c n : Nat} {F : Nat → Int32} (s w t : Int32) (u : UpC τ τ' c F) (hn : (τ.1 0).1 = nI n) (h20 : n ≤ 20) (hc : c < n) : UpC τ (X4_putCopy τ' (nI c) s w t) c (fun j => if j = 6 then t else if j = 4 then w else if j = 3 then s else F j) := by
  unfold X4_putCopy bnd
  exact ((u.put (k := 3) s hn h20 hc (by omega)).put (k := 4) w hn h20 hc (by omega)).put (k := 6) t hn h20 hc (by omega)
theorem UpC.loan {τ τ' : St} {c n : Nat} {F : Nat → Int32} (s w t : Int32) (u : UpC τ τ' c F) (hn : (τ.1 0).1 = nI n) (h20 : n ≤ 20) (hc : c < n) : UpC τ (X4_putLoan τ' (nI c) s w t) c (fun j => if j = 9 then t else if j = 8 then w else if j = 7 then s else F j) := by
  unfold X4_putLoan bnd
  exact ((u.put (k := 7) s hn h20 hc (by omega)).put (k := 8) w hn h20 hc (by omega)).put (k := 9) t hn h20 hc (by omega)
/-- rows of the two sides that stand for one copy -/
def RowR (F G : Nat → Int32) : Prop :=
  (F 0 = G 0 ∧ F 1 = G 1 ∧ F 2 = G 2 ∧ F 3 = G 3 ∧ F 4 = G 4) ∧ F 6 = (if G 3 = 0 ∨ G 3 = 5 then -2 else G 5) ∧
  (F 7 = (if G 3 = 0 ∨ G 3 = 2 ∨ G 3 = 3 then -2 else G 6) ∧ F 8 = (if G 3 = 0 ∨ G 3 = 2 ∨ G 3 = 3 then -2 else G 7) ∧ F 9 = (if G 3 = 0 ∨ G 3 = 2 ∨ G 3 = 3 then -2 else G 8)) ∧
  (G 3 = 4 ∨ G 3 = 5 → F 10 = G 9) ∧ (G 3 = 5 → F 11 = G 10)
theorem RepC.row {τ τ' : St} {α : As} {nC nP nH nL x c : Nat} {F G : Nat → Int32} (h : RepC τ α nC nP nH nL x) (hx : x = 99 ∨ x = c) (h20 : nC ≤ 20) (hc : c < nC) (u : UpC τ τ' c F) (hh : HolR α nH c (F 5)) (hr : RowR F G) : RepC τ' (ar α 2 c G) nC nP nH nL 99 := by
  obtain ⟨⟨a1, a2, a3, a4, a5, a6⟩, b1, b2, b3, b4, b5, b6⟩ := h
  obtain ⟨u1, u2, u3, u4⟩ := u
  refine ⟨⟨u3.trans a1, ?_, ?_, ?_, ?_, ?_⟩, ?_, ?_, ?_, ?_, ?_, fun q => by omega⟩
  · rw [u1 1 (by omega)]; exact a2
  · rw [u1 2 (by omega)]; exact a3
  · rw [u1 3 (by omega)]; exact a4
  · rw [u1 4 (by omega)]; exact a5
  · rw [u2, ar_reg _ _ _ _ (by omega)]; exact a6
  · intro j hj
    rw [u1 4 (by omega), ar_reg _ _ _ _ (by omega)]
    exact b1 j hj
  · intro p k hp hk
    rw [u1 1 (by omega), ar_reg _ _ _ _ (by omega)]
    exact b2 p k hp hk
  · intro p k hp hk
    rw [u1 3 (by omega), ar_reg _ _ _ _ (by omega)]
    exact b3 p k hp hk
  · intro p hp
    rw [u1 2 (by omega), ar_reg _ _ _ _ (by omega), ar_reg _ _ _ _ (by omega), ar_reg _ _ _ _ (by omega), ar_reg _ _ _ _ (by omega)]
    exact b4 p hp
  · intro c' hc' hx'
    have hH : ∀ w, HolR α nH c' w → HolR (ar α 2 c G) nH c' w := by
      intro w hw
      unfold HolR at hw ⊢
      simp only [ar_reg α _ _ G (show 4 ≠ 2 by omega)]
      exact hw
    unfold RepCopy
    rw [u4 c' 0 (by omega), u4 c' 1 (by omega), u4 c' 2 (by omega), u4 c' 3 (by omega), u4 c' 4 (by omega), u4 c' 5 (by omega), u4 c' 6 (by omega), u4 c' 7 (by omega), u4 c' 8 (by omega), u4 c' 9 (by omega), u4 c' 10 (by omega), u4 c' 11 (by omega)]
    by_cases e : c' = c
    · subst e
      simp only [if_pos rfl, ar_at]
      exact ⟨hr.1, hH _ hh, hr.2⟩
    · simp only [if_neg e, ar_row α _ G e]
      obtain ⟨q1, q2, q3⟩ := b5 c' hc' (by rcases hx with rfl | rfl <;> omega)
      exact ⟨q1, hH _ q2, q3⟩
def RowI (G : Nat → Int32) (α : As) (d nP nH c : Nat) : Prop :=
  ((∃ t, t < 6 ∧ G 0 = nI t) ∧ (∃ b, b < 4 ∧ G 1 = nI b) ∧ (G 2 = 0 ∨ G 2 = 1)) ∧ (∃ s, s < 6 ∧ G 3 = nI s) ∧
  (G 3 = 0 ∨ G 3 = 2 ∨ G 3 = 3 → ∃ b, b < 4 ∧ G 4 = nI b) ∧
  (G 3 = 1 ∨ G 3 = 4 ∨ G 3 = 5 → ∃ p, p < nP ∧ G 4 = nI p) ∧
  (G 3 = 1 ∨ G 3 = 2 → ∃ x, x ≤ d + 70 ∧ G 5 = nI x) ∧
  (G 3 = 1 → (∃ x, x ≤ d ∧ G 6 = nI x) ∧ ∃ x, x ≤ 2 ∧ G 7 = nI x) ∧
  (G 3 = 3 → ∃ h, h < nH ∧ α 4 h 3 = nI c)
theorem Inv.row {α : As} {D d nC nP nH nL x c : Nat} {G : Nat → Int32} (h : Inv α D d nC nP nH nL x) (hx : x = 99 ∨ x = c) (hc : c < nC) (hI : RowI G α d nP nH c) (hh : ∀ h, h < nH → α 4 h 3 = nI c → G 0 = α 4 h 0 ∧ (G 3 = 2 ∨ G 3 = 3)) : Inv (ar α 2 c G) D d nC nP nH nL 99 := by
  obtain ⟨b1, b2, b3, b4, b5, b6, b7, b8⟩ := h
  have r0 := fun i k => ar_reg α (r := 2) (i := c) i k G (show 0 ≠ 2 by omega)
  have r1 := fun i k => ar_reg α (r := 2) (i := c) i k G (show 1 ≠ 2 by omega)
  have r4 := fun i k => ar_reg α (r := 2) (i := c) i k G (show 4 ≠ 2 by omega)
  refine ⟨?_, b2, ?_, ?_, ?_, ?_, ?_, ?_⟩
  · simp only [r0]; exact b1
  · simp only [r1]; exact b3
  · intro c' hc' hx'
    unfold CopyI CopyB
    simp only [r4]
    by_cases e : c' = c
    · subst e
      simp only [ar_at]
      exact hI
    · simp only [ar_row α _ G e]
      exact b4 c' hc' (by rcases hx with rfl | rfl <;> omega)
  · intro q; omega
  · intro h hh'
    unfold HoldI
    simp only [r4]
    obtain ⟨q1, q2, q3, q4⟩ := b6 h hh'
    refine ⟨q1, q2, q3, ?_⟩
    rcases q4 with q4 | ⟨c', z1, z2, z3, z4⟩
    · exact Or.inl q4
    · refine Or.inr ⟨c', z1, z2, ?_⟩
      by_cases e : c' = c
      · subst e
        simp only [ar_at]
        exact hh h hh' z2
      · simp only [ar_row α _ G e]
        exact ⟨z3, z4⟩
  · simp only [r4]; exact b7
  · simp only [r4]; exact b8
