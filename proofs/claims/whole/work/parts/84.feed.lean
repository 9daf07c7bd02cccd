/-! A LETTER OF THE COMMAND TEXT -/
theorem sim_feed {D : Nat} (hD : D ≤ 10000000) {σ : Fs} {ρ : Ms} (h : RR D σ ρ) (a : Int32) : ∃ r σ' ρ', X4_feed σ a = some (r, σ') ∧ X5_feed ρ a = some (r, ρ') ∧ RR (D + 6000) σ' ρ' := by
  have hm := h.mono (Nat.le_add_right D 6000)
  obtain ⟨j1, j2, j3⟩ := in2 a (lo := 32) (hi := 126) (hj := 127) (by decide)
  unfold X4_feed X5_feed
  by_cases z1 : a < 32
  · rw [if_pos z1, j1 z1, if_pos (show bi false = 0 by decide)]
    exact ⟨_, _, _, rfl, rfl, hm⟩
  · rw [if_neg z1]
    by_cases z2 : a < 127
    · have z3 : a ≤ 126 := by
        rw [Int32.lt_iff_toInt_lt, show ((127 : Int32)).toInt = 127 by decide] at z2
        rw [Int32.le_iff_toInt_le, show ((126 : Int32)).toInt = 126 by decide]
        omega
      rw [if_pos z3, j2 z1 z2, if_neg (show ¬ bi true = 0 by decide)]
      obtain ⟨h1, h2, h3, h4, h5, ⟨f, f1, f2, f3, f4⟩⟩ := h
      unfold X0_append
      rw [f2, f3, if_neg (nI_pos (by omega))]
      by_cases e : f = 60
      · subst e
        rw [if_neg (show ¬ nI 60 < 60 by decide), if_pos (show nI 60 = 60 from rfl), Option.bind_some]
        exact ⟨_, _, _, rfl, rfl, hm⟩
      · rw [if_pos (show nI f < 60 from nI_lt (b := 60) (by omega) (by omega)), if_neg (show ¬ nI f = 60 from fun q => e ((nI_eq (a := f) (b := 60) (by omega) (by omega)).mp q)), wrN (by omega) (by omega), wrN (by omega) (by omega), Option.bind_some, Option.bind_some]
        simp only [bnd]
        rw [Option.bind_some]
        have l1 : (xsA σ.2.2.2.2.2 (va_up σ.2.2.2.2.2.1.1 f a)).1.2.1 = nI f := f2
        have l2 : (msA ρ 4 (va_up (ρ.1.1 4) f a)).1.2 1 = nI f := f3
        rw [l1, l2, nI_1]
        rw [show (msI (msA ρ 4 (va_up (ρ.1.1 4) f a)) 1 (nI (f + 1))).1.2 1 = nI (f + 1) by rw [msI_int, if_pos rfl]]
        refine ⟨nI (f + 1), _, _, rfl, rfl, ?_⟩
        · refine RR.mono ?_ (Nat.le_add_right D 6000)
          obtain ⟨k, m, a1, a2, a3, a4, a5, a6⟩ := h5
          have g : ∀ i, i ≠ 4 → (msI (msA ρ 4 (va_up (ρ.1.1 4) f a)) 1 (nI (f + 1))).1.1 i = ρ.1.1 i := fun i hi => by rw [msI_arr, msA_get, if_neg hi]
          have g4 : (msI (msA ρ 4 (va_up (ρ.1.1 4) f a)) 1 (nI (f + 1))).1.1 4 = va_up (ρ.1.1 4) f a := by rw [msI_arr, msA_get, if_pos rfl]
          refine ⟨h1, ?_, h3, ⟨h4.1, fun q => ?_⟩, ⟨k, m, a1, a2, a3, a4, ?_, fun j hj => ?_⟩, ⟨f + 1, by omega, rfl, ?_, fun j hj => ?_⟩⟩
          · rw [g 0 (by omega)]; exact h2
          · rw [g 2 (by omega)]; exact h4.2 q
          · rw [msI_int, if_neg (by omega)]; exact a5
          · rw [g 3 (by omega)]; exact a6 j hj
          · rw [msI_int, if_pos rfl]
          · rw [g4]
            show va_up σ.2.2.2.2.2.1.1 f a j = va_up (ρ.1.1 4) f a j ∧ 32 ≤ va_up (ρ.1.1 4) f a j ∧ va_up (ρ.1.1 4) f a j ≤ 126
            unfold va_up
            by_cases y : j = f
            · rw [if_pos y, if_pos y]
              exact ⟨rfl, Int32.not_lt.mp z1, z3⟩
            · rw [if_neg y, if_neg y]
              exact f4 j (by omega)
    · have z3 : ¬ a ≤ 126 := fun q => z2 (Int32.lt_of_le_of_lt q (by decide))
      rw [if_neg z3, j3 z2, if_pos (show bi false = 0 by decide)]
      exact ⟨_, _, _, rfl, rfl, hm⟩
