/-! CLAIMING -/
theorem fine_pos {τ : St} {ρ : Ms} {α : As} {D d nC nP nH nL x c : Nat} (H : Cx τ ρ α D d nC nP nH nL x) (hD : D ≤ 20000000) (hc : c < nC) (hx : c ≠ x) (h1 : α 2 c 3 = 1) : ∃ n, n ≤ 10000 ∧ X4_fineOf τ (nI c) = nI n := by
  have hb := H.b
  obtain ⟨c0, c1, c2, c3, c4, c5, c6, -⟩ := H.c hc hx
  obtain ⟨v0, v1, v2, v3, -⟩ := H.v
  obtain ⟨y, hy, ey⟩ := (H.2.2.2.2.2.1 c hc hx).2.2.2.2.1 (Or.inl h1)
  rw [h1, if_neg (by decide), ey] at c6
  obtain ⟨l2, u2⟩ := H.2.2.2.2.1 2 (by omega)
  obtain ⟨l3, u3⟩ := H.2.2.2.2.1 3 (by omega)
  obtain ⟨R, hR, eR⟩ := nI_of2 (x := α 1 0 2) (M := 1000) (n := 1000) (by decide) (fun q => i_irr q l2) u2
  obtain ⟨C, hC, eC⟩ := nI_of2 (x := α 1 0 3) (M := 10000) (n := 10000) (by decide) (fun q => i_irr q l3) u3
  unfold X4_fineOf X4_stateOf
  rw [c3, h1, if_pos rfl, c6, v2, v3, H.n.2.2.2.2.2, eR, eC, nI_l (by omega), nI_l (by omega), nI_l (by omega), nI_l (by omega)]
  rcases Nat.lt_or_ge y d with z | z
  · rw [lN_sub (by omega), lN_mul]
    split
    · unfold jminL
      split
      · rename_i q
        have hP : (d - y) * R < 2 ^ 63 := by
          have : (d - y) * R ≤ 20000000 * 1000 := Nat.mul_le_mul (by omega) hR
          omega
        rw [pk_lLT hP (by omega)] at q
        exact ⟨(d - y) * R, by omega, lN_i _⟩
      · exact ⟨C, hC, lN_i _⟩
    · exact ⟨0, by omega, rfl⟩
  · rw [if_neg (fun q => by
      have q1 := (lg_cmp_gt _ _).mp q
      rw [show (0 : Int64) = lN 0 from rfl, Int64.lt_iff_toInt_lt] at q1
      have q2 := lg_i2l_sub (nI d) (nI y)
      rw [nI_l (by omega), nI_l (by omega), nI_toInt (by omega), nI_toInt (by omega)] at q2
      rw [q2, lN_toInt (by omega)] at q1
      omega)]
    exact ⟨0, by omega, rfl⟩
theorem stT_comm {τ : St} {i j : Nat} {u v : Tab} (h : i ≠ j) : stT (stT τ i u) j v = stT (stT τ j v) i u := by
  unfold stT
  congr 1
  funext k
  show (if k = j then v else if k = i then u else τ.1 k) = if k = i then u else if k = j then v else τ.1 k
  by_cases a : k = j
  · rw [if_pos a, if_neg (fun q => h (q.symm.trans a)), if_pos a]
  · rw [if_neg a, if_neg a]
theorem putCopy_pat {τ : St} {P : Tab} {c s w t : Int32} : X4_putCopy (stT τ 1 P) c s w t = stT (X4_putCopy τ c s w t) 1 P := by
  have g : ∀ T : St, (stT T 1 P).1 0 = T.1 0 := fun T => by rw [stT_get, if_neg (by omega)]
  unfold X4_putCopy
  simp only [bnd]
  rw [g, stT_comm (i := 1) (j := 0) (by omega), g, stT_comm (i := 1) (j := 0) (by omega), g, stT_comm (i := 1) (j := 0) (by omega)]
theorem sim_claim {D : Nat} (hD : D ≤ 10000000) {σ : Fs} {ρ : Ms} (h : RR D σ ρ) (a : Int32) : ∃ r σ' ρ', X4_claim σ a = (r, σ') ∧ X5_claim ρ a = some (r, ρ') ∧ RR (D + 6000) σ' ρ' := by
  obtain ⟨α, d, nC, nP, nH, nL, H, hS⟩ := h.cx
  have hb := H.b
  unfold X4_claim X5_claim
  rcases H.isC a with ⟨e1, e2⟩ | ⟨c, hc, rfl, e1, e2⟩
  · have e3 : X4_reasonAgainstClaiming σ.1 a = -1 := by
      unfold X4_reasonAgainstClaiming
      rw [e1]
      simp only [bi_f0, if_true]
    rw [e2, e3, if_neg (by decide), Option.bind_some, if_pos (by decide), show X4_refusal (-1) = -1 by decide]
    exact ⟨_, _, _, rfl, rfl, h.mono (by omega)⟩
  · obtain ⟨r, q1, q2, q3⟩ := rs_claim H hc
    rw [e2, q1, Option.bind_some, if_neg (show ¬ bi true = 0 by decide), q2, Option.bind_some]
    rcases q3 with q3 | ⟨rfl, s1⟩
    · obtain ⟨n1, n2, n3⟩ := refus q3
      rw [if_neg n1, if_neg n2, n3]
      exact ⟨_, _, _, rfl, rfl, h.mono (by omega)⟩
    · obtain ⟨n, hn, en⟩ := fine_pos H (by omega) hc (by omega) s1
      obtain ⟨i1, -, -, hW, -⟩ := H.2.2.2.2.2.1 c hc (by omega)
      obtain ⟨p, hp, ep⟩ := hW (Or.inl s1)
      have H1 : Cx σ.1 (msA ρ 1 (img (ρ.1.1 0) (ρ.1.1 1))) α D d nC nP nH nL 99 := by
        refine ⟨?_, H.2⟩
        rw [msA_get, if_neg (by omega)]
        exact H.1
      obtain ⟨b7, b8, b9, b5, n2, n3, n0⟩ := baseW H hc (Or.inl s1)
      obtain ⟨b0, b1, b2⟩ := H.2.1.base hc
      have m1 := (H1.1.of 2 c).row (k := 9) (nI n) (by decide) (show c < 20 by omega) (by decide)
      have m2 := m1.turn 4 (nI p) (nI d) (show c < 20 by omega)
      have u1 : UpC σ.1 (stT σ.1 0 (tput 12 (σ.1.1 0) (nI c) 10 (nI n))) c _ := (UpC.refl σ.1 c).put (k := 10) (nI n) H.n.1 (by omega) hc (by omega)
      have u2 := u1.copy 4 (nI p) (nI d) H.n.1 (by omega) hc
      have hC := H1.row (Or.inl rfl) hc u2 m2 b5 (by
        simp (config := {decide := true}) only [RowR, b0, b1, b2, b7, b8, b9, if_true, if_false]
        try simp) (by
        refine ⟨i1, ⟨4, by omega, rfl⟩, fun q => absurd q (show ¬ ((4 : Int32) = 0 ∨ (4 : Int32) = 2 ∨ (4 : Int32) = 3) by decide), fun _ => ⟨p, hp, rfl⟩, fun q => absurd q (show ¬ ((4 : Int32) = 1 ∨ (4 : Int32) = 2) by decide), fun q => absurd q (show ¬ (4 : Int32) = 1 by decide), fun q => absurd q (show ¬ (4 : Int32) = 3 by decide)⟩) (fun h' hh e => absurd e (nohold H hc n2 n3 h' hh))
      have hC2 := hC.pat1 hp (α 3 p 1 + 1)
      rw [msA_msA, ms_get] at hC2
      have hS2 : Shf (ar (ar α 2 c (fun j => if j = 5 then nI d else if j = 4 then nI p else if j = 3 then 4 else if j = 9 then nI n else α 2 c j)) 3 p (fun j => if j = 1 then α 3 p 1 + 1 else ar α 2 c (fun j => if j = 5 then nI d else if j = 4 then nI p else if j = 3 then 4 else if j = 9 then nI n else α 2 c j) 3 p j)) nC nH := Same.shf (fun r i k _ h3 _ => ar_reg _ _ _ _ h3) (hS.row (c := c) (G := fun j => if j = 5 then nI d else if j = 4 then nI p else if j = 3 then 4 else if j = 9 then nI n else α 2 c j) (show (4 : Int32) ≠ 0 by decide))
      obtain ⟨σ', ρ', t1, t2, t3⟩ := settle_sim h (Nat.le_refl D) (hC2.core hS2) (nI n) (nI_pos' (by omega))
      have k4 := (rd_cm (msA ρ 1 (img (ρ.1.1 0) (ρ.1.1 1))) m1 (show c < 20 by omega)).2.2.2.2.1
      rw [ar_at, show (if (4 : Nat) = 9 then nI n else α 2 c 4) = nI p from ep] at k4
      have d1 := (rd_h m1).1
      rw [ar_reg _ _ _ _ (by omega), H.2.2.1.1] at d1
      have k5 := (rd_cm (msA ρ 1 (img (ρ.1.1 0) (ρ.1.1 1))) m2 (show c < 20 by omega)).2.2.2.2.1
      rw [ar_at, show (if (4 : Nat) = 5 then nI d else if (4 : Nat) = 4 then nI p else if (4 : Nat) = 3 then (4 : Int32) else if (4 : Nat) = 9 then nI n else α 2 c 4) = nI p from rfl] at k5
      have p1 := (rq_p m2 (show p < 8 by omega)).2.2.1
      rw [ar_reg _ _ _ _ (by omega)] at p1
      have k9 := (rd_cm (msA ρ 1 (img (ρ.1.1 0) (ρ.1.1 1))) ((m2.of 3 p).row (k := 1) (α 3 p 1 + 1) (by decide) (show p < 8 by omega) (by decide)) (show c < 20 by omega)).2.2.2.2.2.2.2.2.2.1
      rw [ar_reg _ _ _ _ (by omega), ar_at, show (if (9 : Nat) = 5 then nI d else if (9 : Nat) = 4 then nI p else if (9 : Nat) = 3 then (4 : Int32) else if (9 : Nat) = 9 then nI n else α 2 c 9) = nI n from rfl] at k9
      rw [if_pos rfl, if_pos (show (0 : Int32) ≤ 0 by decide), keeps_eq, Option.bind_some, late_fine H1 (by omega) hc (by omega) s1, Option.bind_some, en, (put_c (show c < 20 by omega)).2.2.2.2.2.2.2.2.2.1, Option.bind_some, k4, Option.bind_some, ms_get, d1, Option.bind_some, turns_c (by omega), Option.bind_some, msA_msA, ms_get, k5, Option.bind_some, ms_get, p1, Option.bind_some, (wr_p (show p < 8 by omega)).2.2.1, Option.bind_some]
      simp only [bnd]
      rw [msA_msA, k9, Option.bind_some, t2, Option.bind_some]
      rw [u2.1 1 (by omega)] at t1
      have g1 : (stT σ.1 0 (tput 12 (σ.1.1 0) (nI c) 10 (nI n))).1 1 = σ.1.1 1 := by rw [stT_get, if_neg (by omega)]
      rw [(H.c hc (by omega)).2.2.2.2.1, ep, g1, (H.p hp).2.1, putCopy_pat, stT_day, stT_day, H.n.2.2.2.2.2, t1]
      exact ⟨_, σ', ρ', rfl, rfl, t3.mono (by omega)⟩
