/-! CLAIMS END; THE DAYS -/
theorem lo_end {D d nC nP : Nat} (hD : D ≤ 20000000) (y1 y2 : Int32) (K : Ms → Option (Int32 × Ms)) : ∀ (m i k : Nat) (τ : St) (ρ : Ms) (α : As) (nH nL : Nat), Cx τ ρ α D d nC nP nH nL 99 → Shf α nC nH → i + m = nC → m < k → ∃ τ' g' α' nH' nL', X4_endClaims_L2 k (nI i) τ = some τ' ∧ X5_passes_L40 y1 y2 K k (nI i) ρ = K (msA ρ 0 g') ∧ Cx τ' (msA ρ 0 g') α' D d nC nP nH' nL' 99 ∧ Shf α' nC nH' := by
  intro m
  induction m with
  | zero =>
    intro i k τ ρ α nH nL H hS e1 e2
    have hb := H.b
    obtain ⟨k, rfl⟩ : ∃ q, k = q + 1 := ⟨k - 1, by omega⟩
    rw [X4_endClaims_L2, X5_passes_L40, H.n.1, H.r.2.1, Option.bind_some, if_pos (nI_le (by omega) (by omega)), if_pos (nI_le (by omega) (by omega))]
    exact ⟨τ, ρ.1.1 0, α, nH, nL, rfl, by rw [msA_self], by rw [msA_self]; exact H, hS⟩
  | succ m ih =>
    intro i k τ ρ α nH nL H hS e1 e2
    have hb := H.b
    obtain ⟨k, rfl⟩ : ∃ q, k = q + 1 := ⟨k - 1, by omega⟩
    have hi : i < nC := by omega
    obtain ⟨c0, c1, c2, c3, c4, c5, c6, -⟩ := H.c hi (by omega)
    obtain ⟨r0, r1, r2, r3, r4, r5, -⟩ := rd_c H.1 (show i < 20 by omega)
    have same := ih (i + 1) k τ ρ α nH nL H hS (by omega) (by omega)
    have ec : X4_stateOf τ (nI i) = α 2 i 3 := c3
    rw [X4_endClaims_L2, X5_passes_L40, H.n.1, H.r.2.1, Option.bind_some, if_neg (nI_ge hi (by omega)), if_neg (nI_ge hi (by omega)), ec, r3, Option.bind_some, nI_1]
    by_cases s4 : α 2 i 3 = 4
    · have n6 : ¬ (α 2 i 3 = 0 ∨ α 2 i 3 = 5) := by rw [s4]; decide
      rw [if_neg n6] at c6
      rw [if_pos s4, if_pos s4, r5, H.r.1, Option.bind_some, Option.bind_some, H.rs.2.2.2.2.2.2.2, Option.bind_some, c6, H.n.2.2.2.2.2, H.v.2.2.2.2.2.2.2]
      by_cases hw : nI d - α 2 i 5 < α 1 0 7
      · rw [if_pos hw, if_pos hw]
        exact same
      · rw [if_neg hw, if_neg hw]
        obtain ⟨g1, α1, nL1, l1, l2, l3, -⟩ := lost_sim H hS hD hi (Or.inr s4)
        rw [l1, Option.bind_some]
        simp only [bnd]
        obtain ⟨τ2, g2, α2, nH2, nL2, a1, a2, a3, a4⟩ := ih (i + 1) k _ _ α1 nH nL1 l2 l3 (by omega) (by omega)
        rw [msA_msA] at a2 a3
        exact ⟨τ2, g2, α2, nH2, nL2, a1, a2, a3, a4⟩
    · rw [if_neg s4, if_neg s4]
      exact same
theorem Cx.day {τ : St} {ρ : Ms} {α : As} {D D' d nC nP nH nL : Nat} (H : Cx τ ρ α D d nC nP nH nL 99) (hD : d + 1 ≤ D') : Cx (stD τ (nI (d + 1))) (msA ρ 0 (mup (ρ.1.1 0) 0 0 0 (nI (d + 1)))) (ar α 0 0 (fun j => if j = 0 then nI (d + 1) else α 0 0 j)) D' (d + 1) nC nP nH nL 99 := by
  have hb := H.b
  have rr : ∀ r i k, r ≠ 0 → ar α 0 0 (fun j => if j = 0 then nI (d + 1) else α 0 0 j) r i k = α r i k := fun r i k hr => ar_reg _ _ _ _ hr
  have r1 := fun i k => rr 1 i k (by omega)
  have r2 := fun i k => rr 2 i k (by omega)
  have r3 := fun i k => rr 3 i k (by omega)
  have r4 := fun i k => rr 4 i k (by omega)
  have r5 := fun i k => rr 5 i k (by omega)
  refine ⟨(H.1.of 0 0).row (k := 0) (nI (d + 1)) (by decide) (by decide) (by decide), ?_, ?_⟩
  · obtain ⟨⟨a1, a2, a3, a4, a5, a6⟩, b1, b2, b3, b4, b5, b6⟩ := H.2.1
    refine ⟨⟨a1, a2, a3, a4, a5, ?_⟩, ?_, ?_, ?_, ?_, ?_, ?_⟩
    · rw [ar_at]; rfl
    · simp only [r1]; exact b1
    · simp only [r3]; exact b2
    · simp only [r5]; exact b3
    · simp only [r4]; exact b4
    · simp only [RepCopy, HolR, r2, r4]; exact b5
    · simp only [r2]; exact b6
  · obtain ⟨⟨p0, p1, p2, p3, p4⟩, ⟨q0, q1, q2, q3, q4⟩, b3, b4, b5, b6, b7, b8⟩ := H.2.2
    refine ⟨⟨?_, ?_, ?_, ?_, ?_⟩, ⟨hD, q1, q2, q3, q4⟩, ?_, ?_, ?_, ?_, ?_, ?_⟩
    · rw [ar_at]; rfl
    · rw [ar_at]; exact p1
    · rw [ar_at]; exact p2
    · rw [ar_at]; exact p3
    · rw [ar_at]; exact p4
    · simp only [r1]; exact b3
    · intro c hc hx
      obtain ⟨i1, i2, i3, i4, i5, i6, i7⟩ := b4 c hc hx
      simp only [CopyI, CopyB, r2, r4]
      refine ⟨i1, i2, i3, i4, fun q => ?_, fun q => ?_, i7⟩
      · obtain ⟨x, hx, ex⟩ := i5 q
        exact ⟨x, by omega, ex⟩
      · obtain ⟨⟨x, hx, ex⟩, y⟩ := i6 q
        exact ⟨⟨x, by omega, ex⟩, y⟩
    · simp only [CopyB, r2]; exact b5
    · simp only [HoldI, r2, r4]; exact b6
    · simp only [r4]; exact b7
    · simp only [r4]; exact b8
theorem lo_pass {n nC nP : Nat} (hn : n ≤ 400) : ∀ (m i k d D : Nat) (τ : St) (ρ : Ms) (α : As) (nH nL : Nat), D + m ≤ 20000000 → Cx τ ρ α D d nC nP nH nL 99 → Shf α nC nH → i + m = n → m < k → ∃ r τ' g', X4_letPass_L16 (nI n) k (nI i) τ = some (nI r, τ') ∧ X5_passes_L15 (nI n) k (nI i) ρ = some (nI r, msA ρ 0 g') ∧ r ≤ D + m ∧ Core (D + m) τ' g' := by
  intro m
  induction m with
  | zero =>
    intro i k d D τ ρ α nH nL hDD H hS e1 e2
    have hb := H.b
    obtain ⟨k, rfl⟩ : ∃ q, k = q + 1 := ⟨k - 1, by omega⟩
    rw [X4_letPass_L16, X5_passes_L15, if_pos (nI_le (by omega) (by omega)), if_pos (nI_le (by omega) (by omega)), H.n.2.2.2.2.2, H.r.1, Option.bind_some]
    exact ⟨d, τ, ρ.1.1 0, rfl, by rw [msA_self], by omega, ⟨α, d, nC, nP, nH, nL, H.1, H.2.1, H.2.2, hS⟩⟩
  | succ m ih =>
    intro i k d D τ ρ α nH nL hDD H hS e1 e2
    have hb := H.b
    obtain ⟨k, rfl⟩ : ∃ q, k = q + 1 := ⟨k - 1, by omega⟩
    have H1 := H.day (D' := D + 1) (by omega)
    have hS1 : Shf (ar α 0 0 (fun j => if j = 0 then nI (d + 1) else α 0 0 j)) nC nH := by
      intro h c hh hc q1 q2
      rw [ar_reg _ _ _ _ (by omega)] at q1 q2 ⊢
      rw [ar_reg _ _ _ _ (by omega)] at q2
      exact hS h c hh hc q1 q2
    rw [X4_letPass_L16, X5_passes_L15, if_neg (nI_ge (by omega) (by omega)), if_neg (nI_ge (by omega) (by omega)), H.n.2.2.2.2.2, H.r.1, Option.bind_some, nI_1, wr_h.1, Option.bind_some, nI_1]
    generalize hF : FU = F
    simp only [bnd]
    obtain ⟨τ2, g2, α2, nH2, nL2, a1, a2, a3, a4⟩ := arr_sim (by omega) H1 hS1
    rw [msA_msA] at a2 a3
    rw [a1, a2, Option.bind_some, Option.bind_some]
    obtain ⟨τ3, g3, α3, nH3, nL3, b1, b2, b3, b4⟩ := exp_sim (by omega) a3 a4
    rw [msA_msA] at b2 b3
    rw [b1, b2, Option.bind_some, Option.bind_some]
    obtain ⟨τ4, g4, α4, nH4, nL4, f1, f2, f3, f4⟩ := lo_end (by omega) (nI n) (nI i) (fun ρ1040 => X5_passes_L15 (nI n) k (nI (i + 1)) ρ1040) nC 0 FU τ3 (msA ρ 0 g3) α3 nH3 nL3 b3 b4 (by omega) (by unfold FU; omega)
    rw [msA_msA] at f2 f3
    rw [hF] at f2
    rw [show X4_endClaims τ3 = some τ4 from f1, Option.bind_some]
    obtain ⟨r, τ5, g5, h1, h2, h3, h4⟩ := ih (i + 1) k (d + 1) (D + 1) τ4 (msA ρ 0 g4) α4 nH4 nL4 (by omega) f3 f4 (by omega) (by omega)
    rw [msA_msA] at h2
    rw [show D + 1 + m = D + (m + 1) by omega] at h3 h4
    exact ⟨r, τ5, g5, h1, f2.trans h2, h3, h4⟩
theorem out_pass {D : Nat} (hD : D ≤ 10000000) {τ : St} {ρ : Ms} (hC : Core D τ (ρ.1.1 0)) (a : Int32) : Out (D + 400) τ ρ (X4_letPass τ a) (X5_passes ρ a) := by
  obtain ⟨α, d, nC, nP, nH, nL, H, hS⟩ := hC.cx
  unfold X4_letPass X5_passes
  obtain ⟨j1, j2, j3⟩ := in2 a (lo := 1) (hi := 400) (hj := 401) (by decide)
  by_cases h1 : a < 1
  · rw [if_pos h1, j1 h1, if_pos (by decide)]
    exact Out.no (hC.mono (by omega)) _
  · rw [if_neg h1]
    by_cases h2 : a ≤ 400
    · have h2' : a < 401 := Int32.lt_of_le_of_lt h2 (by decide)
      rw [if_pos h2, j2 h1 h2']
      obtain ⟨n, hn, rfl⟩ := lt_ix (n := 401) (v := 401) rfl (by omega) (fun q => h1 (Int32.lt_of_lt_of_le q (by decide))) h2'
      obtain ⟨r, τ', g', e1, e2, e3, e4⟩ := lo_pass (n := n) (by omega) n 0 FU d D τ ρ α nH nL (by omega) H hS (by omega) (by unfold FU; omega)
      rw [if_neg (by decide)]
      exact ⟨nI r, τ', g', e1, e2, e4.mono (by omega), fun q => absurd q (nI_pos (by omega))⟩
    · have h2' : ¬ a < 401 := by
        intro q
        apply h2
        rw [Int32.le_iff_toInt_le]
        rw [Int32.lt_iff_toInt_lt] at q
        rw [show ((401 : Int32)).toInt = 401 by decide] at q
        rw [show ((400 : Int32)).toInt = 400 by decide]
        omega
      rw [if_neg h2, j3 h2', if_pos (by decide)]
      exact Out.no (hC.mono (by omega)) _
theorem sim_pass {D : Nat} (hD : D ≤ 10000000) {σ : Fs} {ρ : Ms} (h : RR D σ ρ) (a : Int32) : ∃ r σ' ρ', X4_pass σ a = some (r, σ') ∧ X5_pass ρ a = some (r, ρ') ∧ RR (D + 6000) σ' ρ' := by
  obtain ⟨r, σ', ρ', e1, e2, e3⟩ := op_sim (B := fun q => X5_passes q a) (D' := D + 400) h (by omega) (out_pass hD (h.core _) a)
  exact ⟨r, σ', ρ', e1, e2, e3.mono (by omega)⟩
