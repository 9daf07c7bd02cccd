/-! CLAIMING -/
theorem fine_pos {τ : St} {ρ : Ms} {α : As} {D d nC nP nH nL x c : Nat} (H : Cx τ ρ α D d nC nP nH nL x) (hD : D ≤ 20000000) (hc : c < nC) (hx : c ≠ x) (h1 : α 2 c 3 = 1) : ∃ n, n ≤ 10000 ∧ X4_fineOf τ (nI c) = nI n := by
  have hb := H.b
  obtain ⟨c0, c1, c2, c3, c4, c5, c6, -⟩ := H.c hc hx
  obtain ⟨v0, v1, v2, v3, -⟩ := H.v
  obtain ⟨y, hy, ey⟩ := (H.2.2.2.2.2.1 c hc hx).2.2.2.2.1 (Or.inl h1)
  rw [h1, if_neg (by decide), ey] at c6
  obtain ⟨l2, u2⟩ := H.2.2.2.2.1 2 (by omega)
  obtain ⟨l3, u3⟩ := H.2.2.2.2.1 3 (by omega)
  obtain ⟨R, hR, eR⟩ := nI_of2 (x := α 1 0 2) (M := 1000) (n := 1000) (by decide) (fun q => i_irr q l2) u2
  obtain ⟨C, hC, eC⟩ := nI_of2 (x := α 1 0 3) (M := 10000) (n := 10000) (by decide) (fun q => i_irr q l3) u3
  unfold X4_fineOf X4_stateOf
  rw [c3, h1, if_pos rfl, c6, v2, v3, H.n.2.2.2.2.2, eR, eC, nI_l (by omega), nI_l (by omega), nI_l (by omega), nI_l (by omega)]
  rcases Nat.lt_or_ge y d with z | z
  · rw [lN_sub (by omega), lN_mul]
    split
    · unfold jminL
      split
      · rename_i q
        have hP : (d - y) * R < 2 ^ 63 := by
          have : (d - y) * R ≤ 20000000 * 1000 := Nat.mul_le_mul (by omega) hR
          omega
        rw [pk_lLT hP (by omega)] at q
        exact ⟨(d - y) * R, by omega, lN_i _⟩
      · exact ⟨C, hC, lN_i _⟩
    · exact ⟨0, by omega, rfl⟩
  · rw [if_neg (fun q => by
      have q1 := (lg_cmp_gt _ _).mp q
      rw [show (0 : Int64) = lN 0 from rfl, Int64.lt_iff_toInt_lt] at q1
      have q2 := lg_i2l_sub (nI d) (nI y)
      rw [nI_l (by omega), nI_l (by omega), nI_toInt (by omega), nI_toInt (by omega)] at q2
      rw [q2, lN_toInt (by omega)] at q1
      omega)]
    exact ⟨0, by omega, rfl⟩
theorem stT_comm {τ : St} {i j : Nat} {u v : Tab} (h : i ≠ j) : stT (stT τ i u) j v = stT (stT τ j v) i u := by
  unfold stT
  congr 1
  funext k
  show (if k = j then v else if k = i then u else τ.1 k) = if k = i then u else if k = j then v else τ.1 k
  by_cases a : k = j
  · rw [if_pos a, if_neg (fun q => h (q.symm.trans a)), if_pos a]
  · rw [if_neg a, if_neg a]
theorem sim_claim {D : Nat} (hD : D ≤ 10000000) {σ : Fs} {ρ : Ms} (h : RR D σ ρ) (a : Int32) : ∃ r σ' ρ', X4_claim σ a = (r, σ') ∧ X5_claim ρ a = some (r, ρ') ∧ RR (D + 6000) σ' ρ' := by
  obtain ⟨α, d, nC, nP, nH, nL, H, hS⟩ := h.cx
  have hb := H.b
  unfold X4_claim X5_claim
  rcases H.isC a with ⟨e1, e2⟩ | ⟨c, hc, rfl, e1, e2⟩
  · have e3 : X4_reasonAgainstClaiming σ.1 a = -1 := by
      unfold X4_reasonAgainstClaiming
      rw [e1]
      simp only [bi_f0, if_true]
    rw [e2, e3, if_neg (by decide), Option.bind_some, if_pos (by decide), show X4_refusal (-1) = -1 by decide]
    exact ⟨_, _, _, rfl, rfl, h.mono (by omega)⟩
  · obtain ⟨r, q1, q2, q3⟩ := rs_claim H hc
    rw [e2, q1, Option.bind_some, if_neg (show ¬ bi true = 0 by decide), q2, Option.bind_some]
    rcases q3 with q3 | ⟨rfl, s1⟩
    · obtain ⟨n1, n2, n3⟩ := refus q3
      rw [if_neg n1, if_neg n2, n3]
      exact ⟨_, _, _, rfl, rfl, h.mono (by omega)⟩
    · sorry
