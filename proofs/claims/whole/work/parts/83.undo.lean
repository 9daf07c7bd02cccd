/-! BACK TO WHAT WAS SAVED; UNDOING -/
theorem Core.dayR {D : Nat} {τ : St} {g : Nat → Int32} (h : Core D τ g) : ∃ d, d ≤ D ∧ τ.2 = nI d ∧ rdA g 681 0 = some (nI d) := by
  obtain ⟨α, d, nC, nP, nH, nL, a, b, c, e⟩ := h
  refine ⟨d, c.2.1.1, b.1.2.2.2.2.2.trans c.1.1, ?_⟩
  rw [(rd_h a).1, c.1.1]
theorem sim_restore {D : Nat} (hD : D ≤ 10000000) {σ : Fs} {ρ : Ms} (h : RR D σ ρ) : ∃ r σ' ρ', X4_restore σ = (r, σ') ∧ X5_restore ρ = some (r, ρ') ∧ RR (D + 6000) σ' ρ' := by
  have hs := h.2.2.2.1
  unfold X4_restore X5_restore
  rw [hs.1]
  cases hf : ρ.2.1 with
  | false =>
    rw [if_pos (show bi false = 0 by decide), if_pos (show bi false = 0 by decide)]
    exact ⟨_, _, _, rfl, rfl, h.mono (by omega)⟩
  | true =>
    rw [if_neg (show ¬ bi true = 0 by decide), if_neg (show ¬ bi true = 0 by decide), keeps_eq, Option.bind_some]
    have hC := hs.2 (by rw [hs.1]; exact hf)
    have n2 : (msA ρ 1 (img (ρ.1.1 0) (ρ.1.1 1))).1.1 2 = ρ.1.1 2 := by rw [msA_get, if_neg (by omega)]
    have n0 : (msA ρ 1 (img (ρ.1.1 0) (ρ.1.1 1))).1.1 0 = ρ.1.1 0 := by rw [msA_get, if_neg (by omega)]
    rw [n2, n0, show X5_copies2 681 681 (ρ.1.1 2) (ρ.1.1 0) 0 0 = _ from copies2_eq (s := 0) (t := 0) (ρ.1.1 2) (ρ.1.1 0) (by omega) (by omega) (by omega) (by omega), Option.bind_some]
    have hC' : Core D σ.2.2.2.1 (fun p => if 0 ≤ p ∧ p < 0 + 681 then ρ.1.1 2 (0 + (p - 0)) else ρ.1.1 0 p) := hC.congr (fun p hp => by
      rw [if_pos (by omega), show 0 + (p - 0) = p by omega])
    revert hC'
    generalize (fun p => if 0 ≤ p ∧ p < 0 + 681 then ρ.1.1 2 (0 + (p - 0)) else ρ.1.1 0 p) = g
    intro hC'
    obtain ⟨d, hd, d1, d2⟩ := hC'.dayR
    obtain ⟨σ', ρ', t1, t2, t3⟩ := settle_sim h (Nat.le_refl D) hC' (nI d) (nI_pos' (by omega))
    simp only [bnd]
    rw [ms_get, d2, Option.bind_some, t2, d1, t1]
    exact ⟨_, σ', ρ', rfl, rfl, t3.mono (by omega)⟩
theorem pop_k {k : Nat} (hk : k < 8) : ∃ k', k' < 8 ∧ (k + 7) % 8 = k' ∧ hprev (nI k) = nI k' := by
  rcases (show k = 0 ∨ k = 1 ∨ k = 2 ∨ k = 3 ∨ k = 4 ∨ k = 5 ∨ k = 6 ∨ k = 7 by omega) with rfl | rfl | rfl | rfl | rfl | rfl | rfl | rfl
  · exact ⟨7, by omega, by omega, by decide⟩
  · exact ⟨0, by omega, by omega, by decide⟩
  · exact ⟨1, by omega, by omega, by decide⟩
  · exact ⟨2, by omega, by omega, by decide⟩
  · exact ⟨3, by omega, by omega, by decide⟩
  · exact ⟨4, by omega, by omega, by decide⟩
  · exact ⟨5, by omega, by omega, by decide⟩
  · exact ⟨6, by omega, by omega, by decide⟩
theorem sim_undo {D : Nat} (hD : D ≤ 10000000) {σ : Fs} {ρ : Ms} (h : RR D σ ρ) : ∃ r σ' ρ', X4_undo σ = (r, σ') ∧ X5_undo ρ = some (r, ρ') ∧ RR (D + 6000) σ' ρ' := by
  have hm := h.mono (Nat.le_add_right D 6000)
  obtain ⟨h1, h2, h3, h4, ⟨k, m, a1, a2, a3, a4, a5, a6⟩, ⟨f, f1, f2, f3, f4⟩⟩ := h
  unfold X4_undo X5_undo
  rw [a4, a5]
  rcases Nat.eq_zero_or_pos m with z | z
  · subst z
    rw [if_neg (show ¬ bi (decide (nI 0 = 0)) = 0 by decide), if_pos (show nI 0 = 0 from rfl)]
    exact ⟨_, _, _, rfl, rfl, hm⟩
  · obtain ⟨m, rfl⟩ : ∃ q, m = q + 1 := ⟨m - 1, by omega⟩
    have hne : ¬ nI (m + 1) = 0 := nI_ne0 (by omega) (by omega)
    obtain ⟨k', hk', ek, ep⟩ := pop_k a1
    rw [if_pos (by rw [decide_eq_false hne]; rfl), if_neg hne]
    have ehp : hpop σ.2.2.2.2.1 σ.1 = ((σ.2.2.2.2.1.1, (nI k', nI m)), σ.2.2.2.2.1.1 k') := by
      unfold hpop
      rw [a4, if_neg hne, a3, ep, nI_pred, nI_clamp (by omega)]
    have er : ring k (m + 1) m = k' := by
      unfold ring
      omega
    have hC := a6 m (by omega)
    rw [er] at hC
    rw [ehp, nI_pred]
    simp only [bnd]
    have i0 : (msI ρ 0 (nI m)).1.2 0 = nI m := by rw [msI_int, if_pos rfl]
    have g3 : (msI ρ 0 (nI m)).1.1 = ρ.1.1 := msI_arr
    rw [i0, g3, show (681 : Int32) * nI m = nI (681 * m) from pk_mul 681 m, show X5_copies2 5448 681 (ρ.1.1 3) (ρ.1.1 0) (nI (681 * m)) 0 = _ from copies2_eq (t := 0) (ρ.1.1 3) (ρ.1.1 0) (by omega) (by omega) (by omega) (by omega), Option.bind_some, msA_int, i0]
    have hC' : Core D (σ.2.2.2.2.1.1 k') (fun p => if 0 ≤ p ∧ p < 0 + 681 then ρ.1.1 3 (681 * m + (p - 0)) else ρ.1.1 0 p) := hC.congr (fun p hp => by
      rw [if_pos (by omega), show p - 0 = p by omega])
    revert hC'
    generalize (fun p => if 0 ≤ p ∧ p < 0 + 681 then ρ.1.1 3 (681 * m + (p - 0)) else ρ.1.1 0 p) = g
    intro hC'
    refine ⟨nI m, _, _, rfl, rfl, ?_⟩
    refine RR.mono ?_ (Nat.le_add_right D 6000)
    have e : ∀ i, i ≠ 0 → (msA (msI ρ 0 (nI m)) 0 g).1.1 i = ρ.1.1 i := fun i hi => by rw [msA_get, if_neg hi, g3]
    refine ⟨⟨hC'.ok, hC'.ok, h1.2.2.1, h1.2.2.2.1, ⟨k', hk', rfl⟩, h1.2.2.2.2.2⟩, ?_, rfl, ⟨h4.1, fun q => ?_⟩, ⟨k', m, hk', by omega, rfl, rfl, ?_, fun j hj => ?_⟩, ⟨f, f1, f2, ?_, fun j hj => ?_⟩⟩
    · rw [msA_get, if_pos rfl]; exact hC'
    · rw [e 2 (by omega)]; exact h4.2 q
    · rw [msA_int, i0]
    · rw [e 3 (by omega)]
      have er2 : ring k' m j = ring k (m + 1) j := by
        unfold ring
        omega
      show Core D (σ.2.2.2.2.1.1 (ring k' m j)) _
      rw [er2]
      exact a6 j (by omega)
    · rw [msA_int, msI_int, if_neg (by omega)]; exact f3
    · rw [e 4 (by omega)]; exact f4 j hj
