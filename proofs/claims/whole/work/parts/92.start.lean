/-! THE START -/
def al0 : As := fun r _ k => if r = 1 then vF k else 0
theorem rn0_out {p : Nat} (h : p < 5 ∨ 13 ≤ p) : rn0 p = 0 := by
  have e5 : (5 : Int32).toNatClampNeg = 5 := by decide
  have e6 : (6 : Int32).toNatClampNeg = 6 := by decide
  have e7 : (7 : Int32).toNatClampNeg = 7 := by decide
  have e8 : (8 : Int32).toNatClampNeg = 8 := by decide
  have e9 : (9 : Int32).toNatClampNeg = 9 := by decide
  have e10 : (10 : Int32).toNatClampNeg = 10 := by decide
  have e11 : (11 : Int32).toNatClampNeg = 11 := by decide
  have e12 : (12 : Int32).toNatClampNeg = 12 := by decide
  unfold rn0 va_up
  rw [e5, e6, e7, e8, e9, e10, e11, e12]
  rw [if_neg (by omega), if_neg (by omega), if_neg (by omega), if_neg (by omega), if_neg (by omega), if_neg (by omega), if_neg (by omega), if_neg (by omega)]
theorem rn0_in {k : Nat} (h : k < 8) : rn0 (5 + k) = vF k := by
  rcases (show k = 0 ∨ k = 1 ∨ k = 2 ∨ k = 3 ∨ k = 4 ∨ k = 5 ∨ k = 6 ∨ k = 7 by omega) with rfl | rfl | rfl | rfl | rfl | rfl | rfl | rfl <;> decide +kernel
theorem repM0 : RepM rn0 al0 := by
  intro r i k hr hi hk
  unfold al0
  by_cases e : r = 1
  · subst e
    have : i = 0 := by simp only [rw_] at hi; omega
    subst this
    rw [if_pos rfl]
    exact rn0_in hk
  · rw [if_neg e]
    apply rn0_out
    rcases (show r = 0 ∨ r = 2 ∨ r = 3 ∨ r = 4 ∨ r = 5 by omega) with rfl | rfl | rfl | rfl | rfl <;> simp only [bs, wd, rw_] at hi hk ⊢ <;> omega
theorem sIni8 : (sIni 8).1 = nI 8 := by decide +kernel
theorem sIniv {j : Nat} (h : j < 8) : fv 1 (sIni 8).2 j 0 = vF j := by
  rcases (show j = 0 ∨ j = 1 ∨ j = 2 ∨ j = 3 ∨ j = 4 ∨ j = 5 ∨ j = 6 ∨ j = 7 by omega) with rfl | rfl | rfl | rfl | rfl | rfl | rfl | rfl <;> decide +kernel
theorem vF_in {j : Nat} (h : j < 8) : vLo j ≤ vF j ∧ vF j ≤ vHi j := by
  rcases (show j = 0 ∨ j = 1 ∨ j = 2 ∨ j = 3 ∨ j = 4 ∨ j = 5 ∨ j = 6 ∨ j = 7 by omega) with rfl | rfl | rfl | rfl | rfl | rfl | rfl | rfl <;> decide +kernel
theorem st0_get (j : Nat) : st0.1 j = if j = 4 then sIni 8 else tab0 := rfl
theorem st04 : st0.1 4 = sIni 8 := by rw [st0_get, if_pos rfl]
theorem st0n {j : Nat} (h : j ≠ 4) : st0.1 j = tab0 := if_neg h
theorem core0 (D : Nat) : Core D st0 rn0 := by
  refine ⟨al0, 0, 0, 0, 0, 0, repM0, ⟨⟨by rw [st0n (by omega)]; rfl, by rw [st0n (by omega)]; rfl, by rw [st0n (by omega)]; rfl, by rw [st0n (by omega)]; rfl, by rw [st04]; exact sIni8, rfl⟩, fun j hj => ?_, fun p k hp => absurd hp (by omega), fun p k hp => absurd hp (by omega), fun p hp => absurd hp (by omega), fun p hp => absurd hp (by omega), fun hp => absurd hp (by omega)⟩, ⟨⟨rfl, rfl, rfl, rfl, rfl⟩, ⟨by omega, by omega, by omega, by omega, by omega⟩, fun j hj => ?_, fun p hp => absurd hp (by omega), fun hp => absurd hp (by omega), fun p hp => absurd hp (by omega), fun p q hp => absurd hp (by omega), fun p q hp => absurd hp (by omega)⟩, fun p q hp => absurd hp (by omega)⟩
  · rw [st04]
    exact (sIniv hj).trans (if_pos rfl).symm
  · rw [show al0 1 0 j = vF j from if_pos rfl]
    exact vF_in hj
theorem sim_start : RR (1500 * 0) fs0 ms0 := by
  have hC := core0 (1500 * 0)
  refine ⟨⟨hC.ok, hC.ok, hC.ok, fun _ => hC.ok, ⟨0, by omega, rfl⟩, ⟨by decide, by decide⟩⟩, hC, rfl, ⟨rfl, fun q => ?_⟩, ⟨0, 0, by omega, by omega, rfl, rfl, rfl, fun j hj => absurd hj (by omega)⟩, ⟨0, by omega, rfl, rfl, fun j hj => absurd hj (by omega)⟩⟩
  cases q
