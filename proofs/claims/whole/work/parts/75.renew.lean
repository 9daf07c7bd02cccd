/-! PAYING, WAIVING, RENEWING -/
theorem Cx.core {τ : St} {ρ : Ms} {α : As} {D d nC nP nH nL : Nat} {g : Nat → Int32} (H : Cx τ (msA ρ 0 g) α D d nC nP nH nL 99) (hS : Shf α nC nH) : Core D τ g := ⟨α, d, nC, nP, nH, nL, H.1, H.2.1, H.2.2, hS⟩
theorem Core.cx {D : Nat} {τ : St} {ρ : Ms} (h : Core D τ (ρ.1.1 0)) : ∃ α d nC nP nH nL, Cx τ ρ α D d nC nP nH nL 99 ∧ Shf α nC nH := by
  obtain ⟨α, d, nC, nP, nH, nL, a, b, c, e⟩ := h
  exact ⟨α, d, nC, nP, nH, nL, ⟨a, b, c⟩, e⟩
theorem Same.shf {α α' : As} {nC nH : Nat} (h : Same α α') (hS : Shf α nC nH) : Shf α' nC nH := by
  intro i c hi hc e1 e2
  rw [h 4 _ _ (by omega) (by omega) (by omega)] at e1 e2
  rw [h 2 _ _ (by omega) (by omega) (by omega)] at e2 ⊢
  exact hS i c hi hc e1 e2
theorem enter_bal {τ : St} {ρ : Ms} {α : As} {D d nC nP nH nL x p : Nat} (H : Cx τ ρ α D d nC nP nH nL x) (hp : p < nP) (a v q : Int32) (hv : v ≠ 0) : tget 4 ((X4_enter τ a (nI p) v q).1 1) (nI p) 0 = α 3 p 0 + v := by
  have hb := H.b
  obtain ⟨g1, g2⟩ := patp_eq v H.n.2.1 (show nP ≤ 8 by omega) hp
  rw [enter_eq a v q hv, stT_get, if_neg (by omega), stT_get, if_pos rfl, (tg_p g1 (by omega) hp).1, g2 p 0 hp (by omega), if_pos rfl]
  have e : fv 4 (τ.1 1).2 p 0 = α 3 p 0 := H.2.1.2.2.1 p 0 hp (by omega)
  unfold prow
  rw [← e]
  split <;> rfl
theorem out_credit {D : Nat} {τ : St} {ρ : Ms} (hC : Core D τ (ρ.1.1 0)) (a b v : Int32) : Out D τ ρ (some (X4_credit τ a b v)) (X5_lessens ρ a b v) := by
  obtain ⟨α, d, nC, nP, nH, nL, H, hS⟩ := hC.cx
  have hb := H.b
  unfold X4_credit X5_lessens
  rcases H.isP b with ⟨e1, e2⟩ | ⟨p, hp, rfl, e1, e2⟩
  · rw [e1, e2]
    simp only [bi_f0, if_true, Option.bind_some]
    exact Out.no hC _
  · rw [e1, e2]
    simp only [bi_t0, if_false, Option.bind_some]
    by_cases h1 : v < 1
    · rw [if_pos h1, if_pos h1]
      exact Out.no hC _
    · rw [if_neg h1, if_neg h1, (H.p hp).1, (rq_p H.1 (show p < 8 by omega)).1, Option.bind_some]
      by_cases h2 : v ≤ α 3 p 0
      · rw [if_pos h2, if_pos h2]
        obtain ⟨V, hV, rfl⟩ := nI_of (x := v) (fun q => h1 (Int32.lt_of_lt_of_le q (by decide)))
        obtain ⟨B, hB, eB⟩ := nI_of (x := α 3 p 0) (fun q => nI_pos hV (Int32.lt_of_le_of_lt h2 q))
        have hV1 : 1 ≤ V := by
          rcases Nat.eq_zero_or_pos V with e | e
          · subst e; exact absurd (show nI 0 < 1 by decide) h1
          · exact e
        have hVB : V ≤ B := by
          rw [eB, nI_leI hV hB] at h2; exact h2
        have hne : -nI V ≠ 0 := by
          intro e
          have : nI V = 0 := by rw [← Int32.neg_neg (a := nI V), e]; decide
          exact nI_ne0 (by omega) hV this
        obtain ⟨g', α', nL', o1, o2, o3, -⟩ := owe_sim H hp a (-nI V) (-1)
        rw [o1, Option.bind_some, ms_get, (rq_p (show RepM g' α' from o2.1) (show p < 8 by omega)).1, Option.bind_some]
        simp only [bnd]
        have er : tget 4 ((X4_enter τ a (nI p) (-nI V) (-1)).1 1) (nI p) 0 = α' 3 p 0 := (o2.p hp).1
        have er2 : α' 3 p 0 = nI (B - V) := by
          rw [← er, enter_bal H hp a (-nI V) (-1) hne, eB, ← Int32.sub_eq_add_neg, pk_sub hVB]
        rw [er, er2]
        exact ⟨_, _, g', rfl, rfl, Cx.core o2 (o3.shf hS), fun q => absurd q (nI_pos (by omega))⟩
      · rw [if_neg h2, if_neg h2]
        exact Out.no hC _
theorem RR.core {D : Nat} {σ : Fs} {ρ : Ms} (h : RR D σ ρ) (g : Nat → Int32) : Core D σ.1 ((msA ρ 1 g).1.1 0) := by
  rw [msA_get, if_neg (by omega)]
  exact h.2.1
theorem sim_pay {D : Nat} (hD : D ≤ 10000000) {σ : Fs} {ρ : Ms} (h : RR D σ ρ) (a b : Int32) : ∃ r σ' ρ', X4_pay σ a b = (r, σ') ∧ X5_pay ρ a b = some (r, ρ') ∧ RR (D + 6000) σ' ρ' := by
  obtain ⟨r, σ', ρ', e1, e2, e3⟩ := op_sim (B := fun q => X5_lessens q 3 a b) h (Nat.le_refl D) (out_credit (h.core _) 3 a b)
  exact ⟨r, σ', ρ', Option.some.inj e1, e2, e3.mono (by omega)⟩
theorem sim_waive {D : Nat} (hD : D ≤ 10000000) {σ : Fs} {ρ : Ms} (h : RR D σ ρ) (a b : Int32) : ∃ r σ' ρ', X4_waive σ a b = (r, σ') ∧ X5_waive ρ a b = some (r, ρ') ∧ RR (D + 6000) σ' ρ' := by
  obtain ⟨r, σ', ρ', e1, e2, e3⟩ := op_sim (B := fun q => X5_lessens q 4 a b) h (Nat.le_refl D) (out_credit (h.core _) 4 a b)
  exact ⟨r, σ', ρ', Option.some.inj e1, e2, e3.mono (by omega)⟩
theorem UpC.get {τ τ' : St} {c n k : Nat} {F : Nat → Int32} (u : UpC τ τ' c F) (hn : (τ.1 0).1 = nI n) (h20 : n ≤ 20) (hc : c < n) (hk : k < 12) : tget 12 (τ'.1 0) (nI c) (nI k) = F k := by
  rw [tg (u.2.2.1.trans hn) (by omega) (by omega) hc hk, u.2.2.2 c k hk, if_pos rfl]
theorem refus {r : Int32} (h : Rj r) : ¬ r = 0 ∧ ¬ r ≤ 0 ∧ X4_refusal r = -100 - r := by
  rcases h with rfl | rfl | rfl | rfl | rfl <;> decide
theorem Cx.len {τ : St} {ρ : Ms} {α : As} {D d nC nP nH nL x : Nat} (H : Cx τ ρ α D d nC nP nH nL x) : ∃ y, y ≤ 60 ∧ α 1 0 0 = nI y := by
  obtain ⟨h1, h2⟩ := H.2.2.2.2.1 0 (by omega)
  have h1' : (1 : Int32) ≤ α 1 0 0 := h1
  exact nI_of2 (M := 60) (n := 60) (by decide) (fun q => i_irr (Int32.lt_of_lt_of_le q (by decide)) h1') h2
theorem out_renew {D : Nat} (hD : D ≤ 20000000) {τ : St} {ρ : Ms} (hC : Core D τ (ρ.1.1 0)) (a : Int32) : Out D τ ρ (X4_renewLoan τ a) (X5_renews ρ a) := by
  obtain ⟨α, d, nC, nP, nH, nL, H, hS⟩ := hC.cx
  have hb := H.b
  unfold X4_renewLoan X5_renews
  rcases H.isC a with ⟨e1, e2⟩ | ⟨c, hc, rfl, e1, e2⟩
  · have e3 : X4_reasonAgainstRenewing τ a = some (-1) := by
      unfold X4_reasonAgainstRenewing
      rw [e1]
      simp only [bi_f0, if_true]
    rw [e2, e3, Option.bind_some, Option.bind_some, if_neg (show ¬ (-1 : Int32) = 0 by decide), show X4_refusal (-1) = -1 by decide]
    simp only [bi_f0, if_true]
    exact Out.no hC _
  · obtain ⟨r, q1, q2, q3⟩ := rs_renew H hc
    rw [e2, q1, Option.bind_some, Option.bind_some, q2]
    simp only [bi_t0, if_false]
    rw [Option.bind_some]
    rcases q3 with q3 | ⟨rfl, s1, z, hz, ez⟩
    · obtain ⟨n1, n2, n3⟩ := refus q3
      rw [if_neg n1, if_neg n2, n3]
      exact Out.no hC _
    · obtain ⟨y, hy, ey⟩ := H.len
      obtain ⟨b7, b8, b9, b5, n2, n3, n0⟩ := baseW H hc (Or.inl s1)
      obtain ⟨b0, b1, b2⟩ := H.2.1.base hc
      obtain ⟨c0, c1, c2, c3, c4, -⟩ := H.c hc (by omega)
      have b3 : fv 12 (τ.1 0).2 c 3 = α 2 c 3 := (H.2.1.2.2.2.2.2.1 c hc (by omega)).1.2.2.2.1
      have b4 : fv 12 (τ.1 0).2 c 4 = α 2 c 4 := (H.2.1.2.2.2.2.2.1 c hc (by omega)).1.2.2.2.2
      rw [if_pos rfl, if_pos (show (0 : Int32) ≤ 0 by decide), H.v.1, H.n.2.2.2.2.2, ey, nI_add, H.r.1, H.rs.1, Option.bind_some, Option.bind_some, ey, nI_add, (put_c (show c < 20 by omega)).2.2.2.2.2.1, Option.bind_some]
      simp only [bnd]
      have u1 : UpC τ (stT τ 0 (tput 12 (τ.1 0) (nI c) 6 (nI (d + y)))) c _ := (UpC.refl τ c).put (k := 6) (nI (d + y)) H.n.1 (by omega) hc (by omega)
      have t8 : tget 12 ((stT τ 0 (tput 12 (τ.1 0) (nI c) 6 (nI (d + y)))).1 0) (nI c) 8 = nI z := (u1.get (k := 8) H.n.1 (by omega) hc (by omega)).trans (b8.trans ez)
      rw [t8, nI_1]
      have u2 := u1.put (k := 8) (nI (z + 1)) H.n.1 (by omega) hc (by omega)
      have m1 := (H.1.of 2 c).row (k := 5) (nI (d + y)) (by decide) (show c < 20 by omega) (by decide)
      have r7 := (rd_cm ρ m1 (show c < 20 by omega)).2.2.2.2.2.2.2.1
      rw [ar_at, show (if (7 : Nat) = 5 then nI (d + y) else α 2 c 7) = nI z from ez] at r7
      rw [r7, Option.bind_some, nI_1, (put_c (show c < 20 by omega)).2.2.2.2.2.2.2.1, Option.bind_some, msA_msA, ms_get]
      have m2 := m1.row (k := 7) (nI (z + 1)) (by decide) (show c < 20 by omega) (by decide)
      have r5 := (rd_cm ρ m2 (show c < 20 by omega)).2.2.2.2.2.1
      rw [ar_at, show (if (5 : Nat) = 7 then nI (z + 1) else if (5 : Nat) = 5 then nI (d + y) else α 2 c 5) = nI (d + y) from rfl] at r5
      rw [r5, Option.bind_some]
      obtain ⟨q1, q2, q3⟩ := H.2.2.cb hc
      obtain ⟨-, -, -, hW, -, hR, -⟩ := H.2.2.2.2.2.1 c hc (by omega)
      have hCx := H.row (Or.inl rfl) hc u2 m2 b5 (by
        have t1 : ¬ (α 2 c 3 = 0 ∨ α 2 c 3 = 5) := by rw [s1]; decide
        have t2 : ¬ (α 2 c 3 = 0 ∨ α 2 c 3 = 2 ∨ α 2 c 3 = 3) := by rw [s1]; decide
        have t3 : ¬ (α 2 c 3 = 4 ∨ α 2 c 3 = 5) := by rw [s1]; decide
        have t4 : ¬ α 2 c 3 = 5 := by rw [s1]; decide
        simp (config := {decide := true}) only [RowR, b0, b1, b2, b3, b4, b7, b9, if_true, if_false, if_neg t1, if_neg t2]
        exact ⟨trivial, trivial, trivial, fun q => absurd q t3, fun q => absurd q t4⟩) (by
        refine ⟨⟨q1, q2, q3⟩, ⟨1, by omega, s1⟩, fun q => ?_, fun _ => hW (Or.inl s1), fun _ => ⟨d + y, by omega, rfl⟩, fun _ => ⟨(hR s1).1, z + 1, by omega, rfl⟩, fun q => absurd q n3⟩
        exact q.elim (fun q => absurd q n0) (fun q => q.elim (fun q => absurd q n2) (fun q => absurd q n3))) (fun h hh e => absurd e (nohold H hc n2 n3 h hh))
      exact ⟨_, _, _, rfl, rfl, Cx.core hCx (hS.row n0), fun q => absurd q (nI_pos (by omega))⟩
theorem sim_renew {D : Nat} (hD : D ≤ 10000000) {σ : Fs} {ρ : Ms} (h : RR D σ ρ) (a : Int32) : ∃ r σ' ρ', X4_renew σ a = some (r, σ') ∧ X5_renew ρ a = some (r, ρ') ∧ RR (D + 6000) σ' ρ' := by
  obtain ⟨r, σ', ρ', e1, e2, e3⟩ := op_sim (B := fun q => X5_renews q a) h (Nat.le_refl D) (out_renew (by omega) (h.core _) a)
  exact ⟨r, σ', ρ', e1, e2, e3.mono (by omega)⟩
