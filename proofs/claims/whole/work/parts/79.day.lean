/-! A DAY PASSES -/
/-- both sides after a step: one state again -/
def StpD (D d nC nP : Nat) (ρ : Ms) (a : Option St) (b : Option Ms) : Prop := ∃ τ' g' α' nH' nL', a = some τ' ∧ b = some (msA ρ 0 g') ∧ Cx τ' (msA ρ 0 g') α' D d nC nP nH' nL' 99 ∧ Shf α' nC nH'
theorem lo_arr {D d nC nP : Nat} (hD : D ≤ 20000000) : ∀ (m i k : Nat) (τ : St) (ρ : Ms) (α : As) (nH nL : Nat), Cx τ ρ α D d nC nP nH nL 99 → Shf α nC nH → i + m = nC → m < k → StpD D d nC nP ρ (X4_arriveOnThisDay_L2 k (nI i) τ) (X5_arrive_L2 k (nI i) ρ) := by
  intro m
  induction m with
  | zero =>
    intro i k τ ρ α nH nL H hS e1 e2
    have hb := H.b
    obtain ⟨k, rfl⟩ : ∃ q, k = q + 1 := ⟨k - 1, by omega⟩
    rw [X4_arriveOnThisDay_L2, X5_arrive_L2, H.n.1, H.r.2.1, Option.bind_some, if_pos (nI_le (by omega) (by omega)), if_pos (nI_le (by omega) (by omega))]
    exact ⟨τ, ρ.1.1 0, α, nH, nL, rfl, by rw [msA_self], by rw [msA_self]; exact H, hS⟩
  | succ m ih =>
    intro i k τ ρ α nH nL H hS e1 e2
    have hb := H.b
    obtain ⟨k, rfl⟩ : ∃ q, k = q + 1 := ⟨k - 1, by omega⟩
    have hi : i < nC := by omega
    obtain ⟨c0, c1, c2, c3, c4, c5, c6, c7, c8, c9, -⟩ := H.c hi (by omega)
    obtain ⟨r0, r1, r2, r3, r4, r5, -⟩ := rd_c H.1 (show i < 20 by omega)
    have next : ∀ {τ' : St} {g' : Nat → Int32} {α' : As} {nH' nL' : Nat}, Cx τ' (msA ρ 0 g') α' D d nC nP nH' nL' 99 → Shf α' nC nH' → StpD D d nC nP ρ (X4_arriveOnThisDay_L2 k (nI (i + 1)) τ') (X5_arrive_L2 k (nI (i + 1)) (msA ρ 0 g')) := by
      intro τ' g' α' nH' nL' H' hS'
      obtain ⟨τ2, g2, α2, nH2, nL2, a1, a2, a3, a4⟩ := ih (i + 1) k τ' (msA ρ 0 g') α' nH' nL' H' hS' (by omega) (by omega)
      rw [msA_msA] at a2 a3
      exact ⟨τ2, g2, α2, nH2, nL2, a1, a2, a3, a4⟩
    have same : StpD D d nC nP ρ (X4_arriveOnThisDay_L2 k (nI (i + 1)) τ) (X5_arrive_L2 k (nI (i + 1)) ρ) := ih (i + 1) k τ ρ α nH nL H hS (by omega) (by omega)
    have ec : X4_stateOf τ (nI i) = α 2 i 3 := c3
    rw [X4_arriveOnThisDay_L2, X5_arrive_L2, H.n.1, H.r.2.1, Option.bind_some, if_neg (nI_ge hi (by omega)), if_neg (nI_ge hi (by omega)), ec, r3, Option.bind_some, nI_1]
    by_cases s2 : α 2 i 3 = 2
    · have n6 : ¬ (α 2 i 3 = 0 ∨ α 2 i 3 = 5) := by rw [s2]; decide
      rw [if_neg n6] at c6
      rw [if_pos s2, if_pos s2, r5, Option.bind_some, H.r.1, Option.bind_some, c6, H.n.2.2.2.2.2]
      by_cases hw : α 2 i 5 ≤ nI d
      · rw [if_pos hw, if_pos hw]
        obtain ⟨q1, q2, hB, -⟩ := H.2.2.2.2.2.1 i hi (by omega)
        obtain ⟨b, hb4, eb⟩ := hB (Or.inr (Or.inl s2))
        rcases holder H hi (by omega) with ⟨z1, z2, z3⟩ | ⟨w, p, z1, z2, z3, z4, z5, z6⟩
        · rw [z1, if_pos rfl, z2, Option.bind_some, if_pos (show (-2 : Int32) < 0 by decide), r4, Option.bind_some, c4, eb]
          obtain ⟨τ', g', α', u1, u2, u3, u4⟩ := free_sim H (Or.inl rfl) hD hi hb4 z3 (fun h c' hh hc' _ q1 q2 => hS h c' hh hc' q1 q2)
          rw [u1, u2, Option.bind_some, Option.bind_some]
          exact next u3 u4
        · rw [z5, if_neg (nI_ne2 (by omega)), z6, Option.bind_some, if_neg (nI_pos (by omega)), r4, Option.bind_some, Option.bind_some, H.rs.2.2.2.2.2.1, Option.bind_some, turns_c (by omega), Option.bind_some, c4, H.v.2.2.2.2.2.1]
          simp only [bnd]
          have u := (UpC.refl τ i).copy 3 (α 2 i 4) (nI d + α 1 0 5) H.n.1 (by omega) hi
          obtain ⟨b0, b1, b2⟩ := H.2.1.base hi
          have hh : ∀ h, h < nH → α 4 h 3 = nI i → α 2 i 0 = α 4 h 0 := by
            intro h hh e
            obtain ⟨-, -, -, q⟩ := H.2.2.2.2.2.2.2.1 h hh
            rcases q with q | ⟨c', y1, y2, y3, -⟩
            · exact absurd (e.symm.trans q) (nI_ne2 (by omega))
            · have : c' = i := (nI_eq (by omega) (by omega)).mp (y2.symm.trans e)
              rw [← this]; exact y3
          obtain ⟨-, g5, -, ⟨g7, g8, g9⟩, -⟩ := H.2.1.2.2.2.2.2.1 i hi (by omega)
          have t : α 2 i 3 = 0 ∨ α 2 i 3 = 2 ∨ α 2 i 3 = 3 := Or.inr (Or.inl s2)
          rw [if_pos t] at g7 g8 g9
          have hC := H.row (Or.inl rfl) hi u ((H.1.of 2 i).turn 3 (α 2 i 4) (nI d + α 1 0 5) (show i < 20 by omega)) g5 (by
            simp (config := {decide := true}) only [RowR, b0, b1, b2, g7, g8, g9, if_true, if_false]
            try simp) (by
            refine ⟨q1, ⟨3, by omega, rfl⟩, fun _ => ⟨b, hb4, eb⟩, fun q => absurd q (show ¬ ((3 : Int32) = 1 ∨ (3 : Int32) = 4 ∨ (3 : Int32) = 5) by decide), fun q => absurd q (show ¬ ((3 : Int32) = 1 ∨ (3 : Int32) = 2) by decide), fun q => absurd q (show ¬ (3 : Int32) = 1 by decide), fun _ => ⟨w, z1, z3⟩⟩) (fun h hh' e => ⟨hh h hh' e, Or.inr rfl⟩)
          exact next hC (hS.row (show (3 : Int32) ≠ 0 by decide))
      · rw [if_neg hw, if_neg hw]
        exact same
    · rw [if_neg s2, if_neg s2]
      exact same
theorem arr_sim {τ : St} {ρ : Ms} {α : As} {D d nC nP nH nL : Nat} (hD : D ≤ 20000000) (H : Cx τ ρ α D d nC nP nH nL 99) (hS : Shf α nC nH) : StpD D d nC nP ρ (X4_arriveOnThisDay τ) (X5_arrive ρ) := by
  have hb := H.b
  exact lo_arr hD nC 0 FU τ ρ α nH nL H hS (by omega) (by unfold FU; omega)
theorem lo_exp {D d nC nP : Nat} (hD : D ≤ 20000000) : ∀ (m i k : Nat) (τ : St) (ρ : Ms) (α : As) (nH nL : Nat), Cx τ ρ α D d nC nP nH nL 99 → Shf α nC nH → i + m = nC → m < k → StpD D d nC nP ρ (X4_expireBeforeThisDay_L2 k (nI i) τ) (X5_expire_L2 k (nI i) ρ) := by
  intro m
  induction m with
  | zero =>
    intro i k τ ρ α nH nL H hS e1 e2
    have hb := H.b
    obtain ⟨k, rfl⟩ : ∃ q, k = q + 1 := ⟨k - 1, by omega⟩
    rw [X4_expireBeforeThisDay_L2, X5_expire_L2, H.n.1, H.r.2.1, Option.bind_some, if_pos (nI_le (by omega) (by omega)), if_pos (nI_le (by omega) (by omega))]
    exact ⟨τ, ρ.1.1 0, α, nH, nL, rfl, by rw [msA_self], by rw [msA_self]; exact H, hS⟩
  | succ m ih =>
    intro i k τ ρ α nH nL H hS e1 e2
    have hb := H.b
    obtain ⟨k, rfl⟩ : ∃ q, k = q + 1 := ⟨k - 1, by omega⟩
    have hi : i < nC := by omega
    obtain ⟨c0, c1, c2, c3, c4, c5, c6, c7, c8, c9, -⟩ := H.c hi (by omega)
    obtain ⟨r0, r1, r2, r3, r4, r5, -⟩ := rd_c H.1 (show i < 20 by omega)
    have next : ∀ {τ' : St} {g' : Nat → Int32} {α' : As} {nH' nL' : Nat}, Cx τ' (msA ρ 0 g') α' D d nC nP nH' nL' 99 → Shf α' nC nH' → StpD D d nC nP ρ (X4_expireBeforeThisDay_L2 k (nI (i + 1)) τ') (X5_expire_L2 k (nI (i + 1)) (msA ρ 0 g')) := by
      intro τ' g' α' nH' nL' H' hS'
      obtain ⟨τ2, g2, α2, nH2, nL2, a1, a2, a3, a4⟩ := ih (i + 1) k τ' (msA ρ 0 g') α' nH' nL' H' hS' (by omega) (by omega)
      rw [msA_msA] at a2 a3
      exact ⟨τ2, g2, α2, nH2, nL2, a1, a2, a3, a4⟩
    have same : StpD D d nC nP ρ (X4_expireBeforeThisDay_L2 k (nI (i + 1)) τ) (X5_expire_L2 k (nI (i + 1)) ρ) := ih (i + 1) k τ ρ α nH nL H hS (by omega) (by omega)
    have ec : X4_stateOf τ (nI i) = α 2 i 3 := c3
    rw [X4_expireBeforeThisDay_L2, X5_expire_L2, H.n.1, H.r.2.1, Option.bind_some, if_neg (nI_ge hi (by omega)), if_neg (nI_ge hi (by omega)), ec, r3, Option.bind_some, nI_1]
    by_cases s3 : α 2 i 3 = 3
    · have n6 : ¬ (α 2 i 3 = 0 ∨ α 2 i 3 = 5) := by rw [s3]; decide
      rw [if_neg n6] at c6
      rw [if_pos s3, if_pos s3, r5, Option.bind_some, H.r.1, Option.bind_some, c6, H.n.2.2.2.2.2]
      by_cases hw : α 2 i 5 < nI d
      · rw [if_pos hw, if_pos hw]
        obtain ⟨q1, q2, hB, -, -, -, hH⟩ := H.2.2.2.2.2.1 i hi (by omega)
        obtain ⟨b, hb4, eb⟩ := hB (Or.inr (Or.inr s3))
        obtain ⟨h0, y1, y2⟩ := hH s3
        rcases holder H hi (by omega) with ⟨z1, z2, z3⟩ | ⟨h, p, z1, z2, z3, z4, z5, z6⟩
        · exact absurd y2 (z3 h0 y1)
        · obtain ⟨g1, t1, t2, t3, t4, t5⟩ := rem_cx H z1 hi z3
          have eT : α 2 i 0 = α 4 h 0 := by
            obtain ⟨-, -, -, q⟩ := H.2.2.2.2.2.2.2.1 h z1
            rcases q with q | ⟨c', w1, w2, w3, -⟩
            · exact absurd (z3.symm.trans q) (nI_ne2 (by omega))
            · have : c' = i := (nI_eq (by omega) (by omega)).mp (w2.symm.trans z3)
              rw [← this]; exact w3
          have f1 : X4_findHold τ (nI p) (α 2 i 0) = some (nI h) := by
            rw [(fx_by H (nI p) (α 2 i 0)).1]
            rcases ffi_spec nH (fun j => decide (α 4 j 1 = nI p ∧ α 4 j 0 = α 2 i 0)) with ⟨-, w2⟩ | ⟨w, w1, w2, w3, -⟩
            · exact absurd ⟨z4, eT.symm⟩ (of_decide_eq_false (w2 h z1))
            · have w3' := of_decide_eq_true w3
              rw [w2, H.2.2.2.2.2.2.2.2.1 w h w1 z1 (w3'.2.trans eT) (w3'.1.trans z4.symm)]
          obtain ⟨s1, s2⟩ := t5.st (by omega) hi (by omega)
          rw [armR _ _ (by omega) (by omega)] at s2
          have rr4 : X5_of (msA ρ 0 g1) (nI i) 4 = some (α 2 i 4) := by
            rw [(rd_cm ρ (show RepM g1 (arm α h nH) from t2.1) (show i < 20 by omega)).2.2.2.2.1, armR _ _ (by omega) (by omega)]
          have hS1 := hS.rem (h := h) (by omega)
          obtain ⟨τ', g', α', u1, u2, u3, u4⟩ := free_sim t2 (Or.inr rfl) hD hi hb4 t3 (fun j c' hj hc' _ e1 e2 => hS1 j c' hj hc' e1 e2)
          rw [msA_msA] at u2 u3
          have eT0 : X4_titleOf τ (nI i) = α 2 i 0 := c0
          rw [z5, eT0, f1, Option.bind_some, z6, Option.bind_some, t1, Option.bind_some, rr4, Option.bind_some, eb, u2, Option.bind_some]
          simp only [bnd]
          rw [s2, eb, u1, Option.bind_some]
          exact next u3 u4
      · rw [if_neg hw, if_neg hw]
        exact same
    · rw [if_neg s3, if_neg s3]
      exact same
theorem exp_sim {τ : St} {ρ : Ms} {α : As} {D d nC nP nH nL : Nat} (hD : D ≤ 20000000) (H : Cx τ ρ α D d nC nP nH nL 99) (hS : Shf α nC nH) : StpD D d nC nP ρ (X4_expireBeforeThisDay τ) (X5_expire ρ) := by
  have hb := H.b
  exact lo_exp hD nC 0 FU τ ρ α nH nL H hS (by omega) (by unfold FU; omega)
