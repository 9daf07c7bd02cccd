/-! SAVING -/
theorem sim_save {D : Nat} (hD : D ≤ 10000000) {σ : Fs} {ρ : Ms} (h : RR D σ ρ) : ∃ r σ' ρ', X4_save σ = (r, σ') ∧ X5_save ρ = some (r, ρ') ∧ RR (D + 6000) σ' ρ' := by
  obtain ⟨α, d, nC, nP, nH, nL, H, hS⟩ := h.cx
  unfold X4_save X5_save
  rw [show X5_copies2 681 681 (ρ.1.1 0) (ρ.1.1 2) 0 0 = _ from copies2_eq (s := 0) (t := 0) (ρ.1.1 0) (ρ.1.1 2) (by omega) (by omega) (by omega) (by omega), Option.bind_some]
  simp only [bnd]
  have e0 : (msS (msA ρ 2 (fun p => if 0 ≤ p ∧ p < 0 + 681 then ρ.1.1 0 (0 + (p - 0)) else ρ.1.1 2 p)) true).1.1 0 = ρ.1.1 0 := by
    show (msA ρ 2 _).1.1 0 = _
    rw [msA_get, if_neg (by omega)]
  rw [e0, H.r.1, Option.bind_some, H.n.2.2.2.2.2]
  refine ⟨_, _, _, rfl, rfl, ?_⟩
  refine RR.mono ?_ (Nat.le_add_right D 6000)
  obtain ⟨h1, h2, h3, h4, ⟨k, m, a1, a2, a3, a4, a5, a6⟩, ⟨f, f1, f2, f3, f4⟩⟩ := h
  have e : ∀ i, i ≠ 2 → (msS (msA ρ 2 (fun p => if 0 ≤ p ∧ p < 0 + 681 then ρ.1.1 0 (0 + (p - 0)) else ρ.1.1 2 p)) true).1.1 i = ρ.1.1 i := fun i hi => by
    show (msA ρ 2 _).1.1 i = _
    rw [msA_get, if_neg hi]
  refine ⟨⟨h1.1, h1.2.1, h1.1, h1.2.2.2⟩, ?_, h3, ⟨rfl, fun _ => ?_⟩, ⟨k, m, a1, a2, a3, a4, a5, fun j hj => ?_⟩, ⟨f, f1, f2, f3, fun j hj => ?_⟩⟩
  · rw [e 0 (by omega)]; exact h2
  · refine h2.congr (fun p hp => ?_)
    show (msA ρ 2 _).1.1 2 p = _
    rw [msA_get, if_pos rfl, if_pos (by omega), show 0 + (p - 0) = p by omega]
  · rw [e 3 (by omega)]; exact a6 j hj
  · rw [e 4 (by omega)]; exact f4 j hj
/-! A COPY FLOATS OR NOT -/
theorem sim_setFloating {D : Nat} (hD : D ≤ 10000000) {σ : Fs} {ρ : Ms} (h : RR D σ ρ) (a b : Int32) : ∃ r σ' ρ', X4_setFloating σ a b = (r, σ') ∧ X5_setFloating ρ a b = some (r, ρ') ∧ RR (D + 6000) σ' ρ' := by
  obtain ⟨α, d, nC, nP, nH, nL, H, hS⟩ := h.cx
  have hb := H.b
  unfold X4_setFloating X5_setFloating
  rcases H.isC a with ⟨e1, e2⟩ | ⟨c, hc, rfl, e1, e2⟩
  · rw [e1, e2, Option.bind_some, if_pos (show bi false = 0 by decide), if_pos (show bi false = 0 by decide)]
    exact ⟨_, _, _, rfl, rfl, h.mono (by omega)⟩
  · rw [e1, e2, Option.bind_some, if_neg (show ¬ bi true = 0 by decide), if_neg (show ¬ bi true = 0 by decide), keeps_eq, Option.bind_some]
    have H1 : Cx σ.1 (msA ρ 1 (img (ρ.1.1 0) (ρ.1.1 1))) α D d nC nP nH nL 99 := by
      refine ⟨?_, H.2⟩
      rw [msA_get, if_neg (by omega)]
      exact H.1
    obtain ⟨i1, i2, i3, i4, i5, i6, i7⟩ := H.2.2.2.2.2.1 c hc (by omega)
    have hfl := i1.2.2
    rw [(rd_c H1.1 (show c < 20 by omega)).2.2.1, Option.bind_some, (H.c hc (by omega)).2.2.1]
    have go : ∀ v : Int32, v = 0 ∨ v = 1 → ∃ σ' ρ', X4_settle (stT σ.1 0 (tput 12 (σ.1.1 0) (nI c) 2 v), σ.2) (α 2 c 2) = (α 2 c 2, σ') ∧ X5_made (msA (msA ρ 1 (img (ρ.1.1 0) (ρ.1.1 1))) 0 (mup (ρ.1.1 0) 2 c 2 v)) (α 2 c 2) = some (α 2 c 2, ρ') ∧ RR D σ' ρ' := by
      intro v hv
      have u := (UpC.refl σ.1 c).put (k := 2) v H.n.1 (by omega) hc (by omega)
      obtain ⟨⟨b0, b1, b2, b3, b4⟩, b5, b6, ⟨b7, b8, b9⟩, b10, b11⟩ := H.2.1.2.2.2.2.2.1 c hc (by omega)
      have hM := (H.1.of 2 c).row (k := 2) v (by decide) (show c < 20 by omega) (by decide)
      have hC := H.row (Or.inl rfl) hc u hM b5 ⟨⟨b0, b1, rfl, b3, b4⟩, b6, ⟨b7, b8, b9⟩, b10, b11⟩ ⟨⟨i1.1, i1.2.1, hv⟩, i2, i3, i4, i5, i6, i7⟩ (fun h' hh e => by
        obtain ⟨-, -, -, q⟩ := H.2.2.2.2.2.2.2.1 h' hh
        rcases q with q | ⟨c', y1, y2, y3, y4⟩
        · exact absurd (e.symm.trans q) (nI_ne2 (by omega))
        · have : c' = c := (nI_eq (by omega) (by omega)).mp (y2.symm.trans e)
          subst this
          exact ⟨y3, y4⟩)
      have hS' : Shf (ar α 2 c (fun j => if j = 2 then v else α 2 c j)) nC nH := by
        intro h' c' hh hc' q1 q2
        rw [ar_reg _ _ _ _ (by omega)] at q1 q2
        by_cases e : c' = c
        · subst e
          rw [ar_at] at q2 ⊢
          exact hS h' c' hh hc' q1 q2
        · rw [ar_row _ _ _ e] at q2 ⊢
          exact hS h' c' hh hc' q1 q2
      exact settle_sim h (Nat.le_refl D) (hC.core hS') (α 2 c 2) (by rcases hfl with q | q <;> rw [q] <;> decide)
    by_cases hz : b = 0
    · rw [if_pos hz, if_pos hz]
      obtain ⟨σ', ρ', g1, g2, g3⟩ := go 0 (Or.inl rfl)
      rw [(put_c (show c < 20 by omega)).2.2.1, Option.bind_some, show (msA ρ 1 (img (ρ.1.1 0) (ρ.1.1 1))).1.1 0 = ρ.1.1 0 by rw [msA_get, if_neg (by omega)], g2, Option.bind_some]
      simp only [bnd]
      rw [g1]
      exact ⟨_, σ', ρ', rfl, rfl, g3.mono (by omega)⟩
    · rw [if_neg hz, if_neg hz]
      obtain ⟨σ', ρ', g1, g2, g3⟩ := go 1 (Or.inr rfl)
      rw [(put_c (show c < 20 by omega)).2.2.1, Option.bind_some, show (msA ρ 1 (img (ρ.1.1 0) (ρ.1.1 1))).1.1 0 = ρ.1.1 0 by rw [msA_get, if_neg (by omega)], g2, Option.bind_some]
      simp only [bnd]
      rw [g1]
      exact ⟨_, σ', ρ', rfl, rfl, g3.mono (by omega)⟩
