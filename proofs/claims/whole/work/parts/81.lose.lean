/-! LOSING, SAVING -/
theorem sim_lose {D : Nat} (hD : D ≤ 10000000) {σ : Fs} {ρ : Ms} (h : RR D σ ρ) (a : Int32) : ∃ r σ' ρ', X4_lose σ a = (r, σ') ∧ X5_lose ρ a = some (r, ρ') ∧ RR (D + 6000) σ' ρ' := by
  obtain ⟨α, d, nC, nP, nH, nL, H, hS⟩ := h.cx
  have hb := H.b
  unfold X4_lose X5_lose
  rcases H.isC a with ⟨e1, e2⟩ | ⟨c, hc, rfl, e1, e2⟩
  · have e3 : X4_reasonAgainstLosing σ.1 a = -1 := by
      unfold X4_reasonAgainstLosing
      rw [e1]
      simp only [bi_f0, if_true]
    rw [e2, e3, if_neg (by decide), Option.bind_some, if_pos (by decide), show X4_refusal (-1) = -1 by decide]
    exact ⟨_, _, _, rfl, rfl, h.mono (by omega)⟩
  · obtain ⟨r, q1, q2, q3⟩ := rs_lose H hc
    rw [e2, q1, Option.bind_some, if_neg (show ¬ bi true = 0 by decide), q2, Option.bind_some]
    rcases q3 with q3 | ⟨rfl, s⟩
    · obtain ⟨n1, n2, n3⟩ := refus q3
      rw [if_neg n1, if_neg n2, n3]
      exact ⟨_, _, _, rfl, rfl, h.mono (by omega)⟩
    · have hK := h.core (img (ρ.1.1 0) (ρ.1.1 1))
      rw [if_pos rfl, if_pos (show (0 : Int32) ≤ 0 by decide), keeps_eq, Option.bind_some]
      have H1 : Cx σ.1 (msA ρ 1 (img (ρ.1.1 0) (ρ.1.1 1))) α D d nC nP nH nL 99 := by
        refine ⟨?_, H.2⟩
        rw [msA_get, if_neg (by omega)]
        exact H.1
      obtain ⟨g1, α', nL', l1, l2, l3, p, hp, ep⟩ := lost_sim H1 hS (by omega) hc s
      have hb' := l2.b
      obtain ⟨σ', ρ', t1, t2, t3⟩ := settle_sim h (Nat.le_refl D) (l2.core l3) 0 (by decide)
      rw [l1, Option.bind_some, (rd_cm _ (show RepM g1 α' from l2.1) (show c < 20 by omega)).2.2.2.2.1, Option.bind_some, ep, ms_get, (rq_p (show RepM g1 α' from l2.1) (show p < 8 by omega)).1, Option.bind_some, t2, Option.bind_some]
      have t4 : X4_commit (X4_becomeLost σ.1 (nI c), σ.2) = σ' := by
        unfold X4_settle at t1
        rw [if_neg (by decide)] at t1
        exact congrArg Prod.snd t1
      simp only [bnd]
      rw [t4]
      have t5 : σ'.1 = X4_becomeLost σ.1 (nI c) := by rw [← t4]; rfl
      rw [t5, (l2.c hc (by omega)).2.2.2.2.1, ep, (l2.p hp).1]
      exact ⟨_, σ', ρ', rfl, rfl, t3.mono (by omega)⟩
