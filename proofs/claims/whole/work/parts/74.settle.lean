/-! A CHANGE IS RECORDED -/
theorem push_k {k : Nat} (hk : k < 8) : ∃ k', k' < 8 ∧ (k' + 7) % 8 = k ∧ (if (8 : Int32) ≤ nI k + 1 then 0 else nI k + 1) = nI k' := by
  rcases (show k = 0 ∨ k = 1 ∨ k = 2 ∨ k = 3 ∨ k = 4 ∨ k = 5 ∨ k = 6 ∨ k = 7 by omega) with rfl | rfl | rfl | rfl | rfl | rfl | rfl | rfl
  · exact ⟨1, by omega, by omega, by decide⟩
  · exact ⟨2, by omega, by omega, by decide⟩
  · exact ⟨3, by omega, by omega, by decide⟩
  · exact ⟨4, by omega, by omega, by decide⟩
  · exact ⟨5, by omega, by omega, by decide⟩
  · exact ⟨6, by omega, by omega, by decide⟩
  · exact ⟨7, by omega, by omega, by decide⟩
  · exact ⟨0, by omega, by omega, by decide⟩
theorem push_m {m : Nat} (hm : m ≤ 8) : jmin (nI m + 1) 8 = nI (min (m + 1) 8) := by
  rcases (show m = 0 ∨ m = 1 ∨ m = 2 ∨ m = 3 ∨ m = 4 ∨ m = 5 ∨ m = 6 ∨ m = 7 ∨ m = 8 by omega) with rfl | rfl | rfl | rfl | rfl | rfl | rfl | rfl | rfl <;> decide
theorem settle_sim {D D' : Nat} {σ : Fs} {ρ : Ms} (h : RR D σ ρ) (hDD : D ≤ D') {τ' : St} {g' : Nat → Int32} (hC : Core D' τ' g') (r : Int32) (hr : 0 ≤ r) : ∃ σ' ρ', X4_settle (τ', σ.2) r = (r, σ') ∧ X5_made (msA (msA ρ 1 (img (ρ.1.1 0) (ρ.1.1 1))) 0 g') r = some (r, ρ') ∧ RR D' σ' ρ' := by
  obtain ⟨hOK, hNow, hSet, ⟨hS1, hS2⟩, ⟨k, m, hk, hm, ek, em, eM, hH⟩, hT⟩ := h
  obtain ⟨ρ', m', d1, d2, d3, d4, d5, d6, d7, d8, d9⟩ := made_sim (ρ := msA (msA ρ 1 (img (ρ.1.1 0) (ρ.1.1 1))) 0 g') (m := m) r hr hm eM
  obtain ⟨k', hk', ek', ep⟩ := push_k hk
  refine ⟨X4_commit (τ', σ.2), ρ', ?_, d1, ?_⟩
  · unfold X4_settle
    rw [if_neg (fun q => i_irr q hr)]
    rfl
  · have eη : hpush σ.2.2.2.2.1 σ.2.2.1 = (va_up σ.2.2.2.2.1.1 k σ.1, (nI k', nI m')) := by
      unfold hpush
      rw [ek, em, nI_clamp (by omega), ep, push_m hm, hSet, d3]
    have eC : X4_commit (τ', σ.2) = (τ', (σ.2.1, (τ', (σ.2.2.2.1, ((va_up σ.2.2.2.2.1.1 k σ.1, (nI k', nI m')), σ.2.2.2.2.2))))) := by
      show (τ', frS (frH σ.2 (hpush σ.2.2.2.2.1 σ.2.2.1)) τ') = _
      rw [eη]
      rfl
    rw [eC]
    have n0 : ρ'.1.1 0 = g' := (d6 0 (by omega)).trans (by rw [msA_get, if_pos rfl])
    have n2 : ρ'.1.1 2 = ρ.1.1 2 := (d6 2 (by omega)).trans (by rw [msA_get, if_neg (by omega), msA_get, if_neg (by omega)])
    have n4 : ρ'.1.1 4 = ρ.1.1 4 := (d6 4 (by omega)).trans (by rw [msA_get, if_neg (by omega), msA_get, if_neg (by omega)])
    have n1 : (msA (msA ρ 1 (img (ρ.1.1 0) (ρ.1.1 1))) 0 g').1.1 1 = img (ρ.1.1 0) (ρ.1.1 1) := by rw [msA_get, if_neg (by omega), msA_get, if_pos rfl]
    have n3 : (msA (msA ρ 1 (img (ρ.1.1 0) (ρ.1.1 1))) 0 g').1.1 3 = ρ.1.1 3 := by rw [msA_get, if_neg (by omega), msA_get, if_neg (by omega)]
    rw [n3] at d8
    rw [n1] at d9
    refine ⟨⟨hC.ok, hC.ok, hOK.2.2.1, ?_, ⟨k', hk', rfl⟩, hOK.2.2.2.2.2⟩, ?_, rfl, ⟨?_, ?_⟩, ⟨k', m', hk', d2, rfl, rfl, d4, ?_⟩, ?_⟩
    · intro j
      show OK (va_up σ.2.2.2.2.1.1 k σ.1 j)
      unfold va_up
      split
      · exact hOK.1
      · exact hOK.2.2.2.1 j
    · rw [n0]; exact hC
    · rw [d5]; exact hS1
    · intro q
      rw [n2]
      exact (hS2 q).mono hDD
    · intro j hj
      show Core D' (va_up σ.2.2.2.2.1.1 k σ.1 (ring k' m' j)) _
      rcases Nat.lt_or_ge j (m' - 1) with z | z
      · have e1 : ring k' m' j = ring k m (if m = 8 then j + 1 else j) ∧ ring k m (if m = 8 then j + 1 else j) ≠ k ∧ (if m = 8 then j + 1 else j) < m := by
          unfold ring
          by_cases h8 : m = 8
          · rw [if_pos h8]; omega
          · rw [if_neg h8]; omega
        rw [e1.1]
        unfold va_up
        rw [if_neg e1.2.1]
        exact ((hH _ e1.2.2).mono hDD).congr (fun q hq => d8 j q z hq)
      · have ej : j = m' - 1 := by omega
        subst ej
        have e1 : ring k' m' (m' - 1) = k := by
          unfold ring
          omega
        rw [e1]
        unfold va_up
        rw [if_pos rfl]
        refine (hNow.mono hDD).congr (fun q hq => (d9 q hq).trans ?_)
        unfold img
        rw [if_pos hq]
    · obtain ⟨f, f1, f2, f3, f4⟩ := hT
      exact ⟨f, f1, f2, (d7 1 (by omega)).trans f3, fun j hj => by rw [n4]; exact f4 j hj⟩
/-- a change or a refusal, on both sides -/
def Out (D : Nat) (τ : St) (ρ : Ms) (a : Option (Int32 × St)) (b : Option (Int32 × Ms)) : Prop := ∃ r τ' g', a = some (r, τ') ∧ b = some (r, msA ρ 0 g') ∧ Core D τ' g' ∧ (r < 0 → τ' = τ ∧ g' = ρ.1.1 0)
theorem Out.no {D : Nat} {τ : St} {ρ : Ms} (h : Core D τ (ρ.1.1 0)) (r : Int32) : Out D τ ρ (some (r, τ)) (some (r, ρ)) := ⟨r, τ, ρ.1.1 0, rfl, by rw [msA_self], h, fun _ => ⟨rfl, rfl⟩⟩
theorem RR_img {D : Nat} {σ : Fs} {ρ : Ms} (h : RR D σ ρ) (g : Nat → Int32) : RR D σ (msA ρ 1 g) := by
  obtain ⟨h1, h2, h3, h4, ⟨k, m, a1, a2, a3, a4, a5, a6⟩, ⟨f, f1, f2, f3, f4⟩⟩ := h
  have e : ∀ i, i ≠ 1 → (msA ρ 1 g).1.1 i = ρ.1.1 i := fun i hi => by rw [msA_get, if_neg hi]
  refine ⟨h1, ?_, h3, ⟨h4.1, fun q => ?_⟩, ⟨k, m, a1, a2, a3, a4, a5, fun j hj => ?_⟩, ⟨f, f1, f2, f3, fun j hj => ?_⟩⟩
  · rw [e 0 (by omega)]; exact h2
  · rw [e 2 (by omega)]; exact h4.2 q
  · rw [e 3 (by omega)]; exact a6 j hj
  · rw [e 4 (by omega)]; exact f4 j hj
/-- a call that changes what it may and records it -/
theorem op_sim {D D' : Nat} {σ : Fs} {ρ : Ms} {A : Option (Int32 × St)} {B : Ms → Option (Int32 × Ms)} (h : RR D σ ρ) (hDD : D ≤ D') (core : Out D' σ.1 (msA ρ 1 (img (ρ.1.1 0) (ρ.1.1 1))) A (B (msA ρ 1 (img (ρ.1.1 0) (ρ.1.1 1))))) :
    ∃ r σ' ρ', (A.bind fun q1 => bnd (q1.2, σ.2) fun σ3 => bnd (X4_settle σ3 q1.1) fun q5 => some (q5.1, q5.2)) = some (r, σ') ∧ ((X5_keeps ρ).bind fun q1 => (B q1).bind fun q3 => (X5_made q3.2 q3.1).bind fun q5 => some (q5.1, q5.2)) = some (r, ρ') ∧ RR D' σ' ρ' := by
  obtain ⟨r, τ', g', e1, e2, e3, e4⟩ := core
  rw [keeps_eq, e1, Option.bind_some, Option.bind_some, e2, Option.bind_some]
  by_cases hr : r < 0
  · obtain ⟨rfl, eg⟩ := e4 hr
    refine ⟨r, σ, msA ρ 1 (img (ρ.1.1 0) (ρ.1.1 1)), ?_, ?_, (RR_img h _).mono hDD⟩
    · have e : X4_settle (σ.1, σ.2) r = (r, σ) := by
        unfold X4_settle
        rw [if_pos hr]
      show some ((X4_settle (σ.1, σ.2) r).1, (X4_settle (σ.1, σ.2) r).2) = _
      rw [e]
    · rw [eg, msA_self]
      unfold X5_made
      rw [if_neg (fun q => i_irr hr q)]
      rfl
  · obtain ⟨σ', ρ', s1, s2, s3⟩ := settle_sim h hDD e3 r (Int32.not_lt.mp hr)
    refine ⟨r, σ', ρ', ?_, ?_, s3⟩
    · show some ((X4_settle (τ', σ.2) r).1, (X4_settle (τ', σ.2) r).2) = _
      rw [s1]
    · rw [s2]
      rfl
