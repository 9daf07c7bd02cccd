/-! A SETTING -/
theorem Cx.setg {τ : St} {ρ : Ms} {α : As} {D d nC nP nH nL j : Nat} (H : Cx τ ρ α D d nC nP nH nL 99) (hj : j < 8) (v : Int32) (h1 : vLo j ≤ v) (h2 : v ≤ vHi j) : Cx (stT τ 4 (tput 1 (τ.1 4) (nI j) 0 v)) (msA ρ 0 (mup (ρ.1.1 0) 1 0 j v)) (ar α 1 0 (fun q => if q = j then v else α 1 0 q)) D d nC nP nH nL 99 := by
  have hb := H.b
  have rr : ∀ r i k, r ≠ 1 → ar α 1 0 (fun q => if q = j then v else α 1 0 q) r i k = α r i k := fun r i k hr => ar_reg _ _ _ _ hr
  have r0 := fun i k => rr 0 i k (by omega)
  have r2 := fun i k => rr 2 i k (by omega)
  have r3 := fun i k => rr 3 i k (by omega)
  have r4 := fun i k => rr 4 i k (by omega)
  have r5 := fun i k => rr 5 i k (by omega)
  refine ⟨(H.1.of 1 0).row (k := j) v (by decide) (by decide) hj, ?_, ?_⟩
  · obtain ⟨⟨a1, a2, a3, a4, a5, a6⟩, b1, b2, b3, b4, b5, b6⟩ := H.2.1
    have e : tput 1 (τ.1 4) (nI j) 0 v = (nI 8, va_up (τ.1 4).2 (j * 1 + 0) v) := tp (w := 1) (k := 0) a5 (by omega) (by omega) hj (by omega)
    have g0 : ∀ i, i ≠ 4 → (stT τ 4 (tput 1 (τ.1 4) (nI j) 0 v)).1 i = τ.1 i := fun i i1 => by rw [stT_get, if_neg i1]
    have g4 : (stT τ 4 (tput 1 (τ.1 4) (nI j) 0 v)).1 4 = (nI 8, va_up (τ.1 4).2 (j * 1 + 0) v) := by rw [stT_get, if_pos rfl, e]
    refine ⟨⟨?_, ?_, ?_, ?_, ?_, ?_⟩, ?_, ?_, ?_, ?_, ?_, ?_⟩
    · rw [g0 0 (by omega)]; exact a1
    · rw [g0 1 (by omega)]; exact a2
    · rw [g0 2 (by omega)]; exact a3
    · rw [g0 3 (by omega)]; exact a4
    · rw [g4]
    · rw [stT_day, r0]; exact a6
    · intro i hi
      rw [g4, ar_at]
      show fv 1 (va_up (τ.1 4).2 (j * 1 + 0) v) i 0 = _
      rw [fv_up (by omega) (by omega)]
      by_cases z : i = j
      · rw [if_pos ⟨z, rfl⟩, if_pos z]
      · rw [if_neg (fun q => z q.1), if_neg z]
        exact b1 i hi
    · rw [g0 1 (by omega)]; simp only [r3]; exact b2
    · rw [g0 3 (by omega)]; simp only [r5]; exact b3
    · rw [g0 2 (by omega)]; simp only [r4]; exact b4
    · rw [g0 0 (by omega)]; simp only [RepCopy, HolR, r2, r4]; exact b5
    · rw [g0 0 (by omega)]; simp only [r2]; exact b6
  · obtain ⟨p, q, b3, b4, b5, b6, b7, b8⟩ := H.2.2
    refine ⟨?_, q, ?_, ?_, ?_, ?_, ?_, ?_⟩
    · simp only [r0]; exact p
    · intro i hi
      rw [ar_at]
      show vLo i ≤ (if i = j then v else α 1 0 i) ∧ (if i = j then v else α 1 0 i) ≤ vHi i
      by_cases z : i = j
      · rw [if_pos z, z]; exact ⟨h1, h2⟩
      · rw [if_neg z]; exact b3 i hi
    · simp only [CopyI, CopyB, r2, r4]; exact b4
    · simp only [CopyB, r2]; exact b5
    · simp only [HoldI, r2, r4]; exact b6
    · simp only [r4]; exact b7
    · simp only [r4]; exact b8
theorem sim_set {D : Nat} (hD : D ≤ 10000000) {σ : Fs} {ρ : Ms} (h : RR D σ ρ) (a b : Int32) : ∃ r σ' ρ', X4_set σ a b = some (r, σ') ∧ X5_set ρ a b = some (r, ρ') ∧ RR (D + 6000) σ' ρ' := by
  have hm := h.mono (Nat.le_add_right D 6000)
  obtain ⟨α, d, nC, nP, nH, nL, H, hS⟩ := h.cx
  obtain ⟨j1, j2, j3⟩ := in2 a (lo := 0) (hi := 7) (hj := 8) (by decide)
  unfold X4_set X5_set thas
  rw [H.n.2.2.2.2.1]
  by_cases z1 : a < 0
  · rw [j1 z1, if_pos (show bi false = 0 by decide), show decide (0 ≤ a) = false from decide_eq_false (Int32.not_le.mpr z1), Bool.false_and, if_pos (show bi false = 0 by decide)]
    exact ⟨_, _, _, rfl, rfl, hm⟩
  · by_cases z2 : a < 8
    · obtain ⟨j, hj, rfl⟩ := lt_ix (n := 8) (v := 8) rfl (by omega) z1 z2
      rw [j2 z1 z2, if_neg (show ¬ bi true = 0 by decide), show decide (0 ≤ nI j) = true from decide_eq_true (Int32.not_lt.mp z1), show decide (nI j < nI 8) = true from decide_eq_true z2, Bool.and_self, if_neg (show ¬ bi true = 0 by decide)]
      have eR : X4_isInRange (nI j) b = some (X5_in b (X5_least (nI j)) (X5_most (nI j))) := by
        unfold X4_isInRange
        rw [if_neg z1, if_neg (Int32.not_le.mpr z2), if_pos z2, rdN hj (by omega), Option.bind_some, rdN hj (by omega), Option.bind_some]
        have e1 : X5_least (nI j) = vLo j ∧ X5_most (nI j) = vHi j := by
          rcases (show j = 0 ∨ j = 1 ∨ j = 2 ∨ j = 3 ∨ j = 4 ∨ j = 5 ∨ j = 6 ∨ j = 7 by omega) with rfl | rfl | rfl | rfl | rfl | rfl | rfl | rfl <;> decide
        unfold X5_in
        rw [e1.1, e1.2]
        split
        · rfl
        · split <;> rfl
      have eV : X4_valueOf σ.1 (nI j) = α 1 0 j := by
        have q := H.2.1.2.1 j hj
        exact (tg (w := 1) (k := 0) H.n.2.2.2.2.1 (by omega) (by omega) hj (by omega)).trans q
      have e1 : X5_least (nI j) = vLo j ∧ X5_most (nI j) = vHi j ∧ (0 : Int32) ≤ vLo j := by
        rcases (show j = 0 ∨ j = 1 ∨ j = 2 ∨ j = 3 ∨ j = 4 ∨ j = 5 ∨ j = 6 ∨ j = 7 by omega) with rfl | rfl | rfl | rfl | rfl | rfl | rfl | rfl <;> decide
      rw [eR, Option.bind_some, e1.1, e1.2.1]
      by_cases w1 : b < vLo j
      · have e : X5_in b (vLo j) (vHi j) = false := by unfold X5_in; rw [if_pos w1]
        rw [e, if_pos (show bi false = 0 by decide), if_pos (show bi false = 0 by decide)]
        exact ⟨_, _, _, rfl, rfl, hm⟩
      · by_cases w2 : vHi j < b
        · have e : X5_in b (vLo j) (vHi j) = false := by unfold X5_in; rw [if_neg w1, if_pos w2]
          rw [e, if_pos (show bi false = 0 by decide), if_pos (show bi false = 0 by decide)]
          exact ⟨_, _, _, rfl, rfl, hm⟩
        · have e : X5_in b (vLo j) (vHi j) = true := by unfold X5_in; rw [if_neg w1, if_neg w2]
          rw [e, if_neg (show ¬ bi true = 0 by decide), if_neg (show ¬ bi true = 0 by decide), keeps_eq, Option.bind_some, eV]
          have hC := (H.setg hj b (Int32.not_lt.mp w1) (Int32.not_lt.mp w2)).core (show Shf _ nC nH from fun h' c hh hc q1 q2 => by
            rw [ar_reg _ _ _ _ (by omega)] at q1 q2 ⊢
            rw [ar_reg _ _ _ _ (by omega)] at q2
            exact hS h' c hh hc q1 q2)
          obtain ⟨σ', ρ', t1, t2, t3⟩ := settle_sim h (Nat.le_refl D) hC (α 1 0 j) (Int32.le_trans e1.2.2 (H.2.2.2.2.1 j hj).1)
          have n0 : (msA ρ 1 (img (ρ.1.1 0) (ρ.1.1 1))).1.1 0 = ρ.1.1 0 := by rw [msA_get, if_neg (by omega)]
          rw [n0, rd_s H.1 hj, Option.bind_some, wr_s hj, Option.bind_some]
          simp only [bnd]
          rw [t2, t1]
          exact ⟨_, σ', ρ', rfl, rfl, t3.mono (by omega)⟩
    · rw [j3 z2, if_pos (show bi false = 0 by decide), show decide (a < nI 8) = false from decide_eq_false z2, Bool.and_false, if_pos (show bi false = 0 by decide)]
      exact ⟨_, _, _, rfl, rfl, hm⟩
