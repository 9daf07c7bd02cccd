/-! WHEN A COPY COMES FREE; THE NEAREST COPY; THE PLACE IN A LINE -/
theorem of_none {τ : St} {ρ : Ms} {α : As} {D d nC nP nH nL x c : Nat} (H : Cx τ ρ α D d nC nP nH nL x) : (ffi nH (fun j => decide (α 4 j 3 = nI c)) = -2 ∧ ∀ h, h < nH → α 4 h 3 ≠ nI c) ∨ ∃ h, h < nH ∧ ffi nH (fun j => decide (α 4 j 3 = nI c)) = nI h ∧ α 4 h 3 = nI c := by
  rcases ffi_spec nH (fun j => decide (α 4 j 3 = nI c)) with ⟨h1, h2⟩ | ⟨h, h1, h2, h3, -⟩
  · exact Or.inl ⟨h1, fun h hh => of_decide_eq_false (h2 h hh)⟩
  · exact Or.inr ⟨h, h1, h2, of_decide_eq_true h3⟩
/-- the holder that the class keeps and the hold that the reference finds -/
theorem holder {τ : St} {ρ : Ms} {α : As} {D d nC nP nH nL x c : Nat} (H : Cx τ ρ α D d nC nP nH nL x) (hc : c < nC) (hx : c ≠ x) : (tget 12 (τ.1 0) (nI c) 5 = -2 ∧ X5_holdOf ρ (nI c) = some (-2) ∧ ∀ h, h < nH → α 4 h 3 ≠ nI c) ∨ ∃ h p, h < nH ∧ p < nP ∧ α 4 h 3 = nI c ∧ α 4 h 1 = nI p ∧ tget 12 (τ.1 0) (nI c) 5 = nI p ∧ X5_holdOf ρ (nI c) = some (nI h) := by
  obtain ⟨-, -, -, -, -, c5, -⟩ := H.c hc hx
  have hb := H.b
  rw [fx_of H]
  rcases c5 with ⟨w1, w2⟩ | ⟨h, w1, w2, w3⟩
  · left
    rcases of_none H (c := c) with ⟨z1, z2⟩ | ⟨h, z1, z2, z3⟩
    · exact ⟨w1, by rw [z1], w2⟩
    · exact absurd z3 (w2 h z1)
  · right
    rcases of_none H (c := c) with ⟨z1, z2⟩ | ⟨h', z1, z2, z3⟩
    · exact absurd w2 (z2 h w1)
    · have e : h = h' := H.2.2.2.2.2.2.2.2.2 h h' w1 z1 (by rw [w2, z3]) (by rw [w2]; exact nI_ne2 (by omega))
      subst e
      obtain ⟨-, ⟨p, hp, ep⟩, -⟩ := H.2.2.2.2.2.2.2.1 h w1
      exact ⟨h, p, w1, hp, w2, ep, by rw [w3, ep], by rw [z2]⟩
theorem free_day {τ : St} {ρ : Ms} {α : As} {D d nC nP nH nL x c : Nat} (H : Cx τ ρ α D d nC nP nH nL x) (hD : D ≤ 20000000) (hc : c < nC) (hx : c ≠ x) (t : Int32) : ∃ v, X4_expectedDay τ (nI c) t = v ∧ X5_freeDay ρ (nI c) t = some v ∧ (v = -2 ∨ ∃ q, q < 1000000000 ∧ v = nI q) := by
  have hb := H.b
  obtain ⟨c0, c1, c2, c3, c4, c5, c6, -⟩ := H.c hc hx
  obtain ⟨r0, r1, r2, r3, r4, r5, -⟩ := rd_c H.1 (show c < 20 by omega)
  have hI := (H.2.2.2.2.2.1 c hc hx).2.2.2.2.1
  unfold X4_expectedDay X5_freeDay X4_titleOf X4_stateOf
  rw [c0, c3, c6, r0, r3, r5, H.n.2.2.2.2.2, H.r.1]
  simp only [Option.bind_some]
  by_cases h0 : α 2 c 0 = t
  · rw [if_pos h0, if_pos h0]
    by_cases h1 : α 2 c 3 = 1
    · obtain ⟨y, hy, ey⟩ := hI (Or.inl h1)
      rw [if_pos h1, if_pos h1, if_neg (by rw [h1]; decide), ey]
      have e : jmax (nI y) (nI d) = jmax (nI d) (nI y) ∧ ∃ q, q < 1000000000 ∧ jmax (nI d) (nI y) = nI q := by
        unfold jmax
        rcases Nat.lt_trichotomy y d with z | z | z
        · rw [if_pos (nI_lt z (by omega)), if_neg (nI_nlt (by omega) (by omega))]; exact ⟨rfl, d, by omega, rfl⟩
        · subst z; split <;> exact ⟨rfl, y, by omega, rfl⟩
        · rw [if_neg (nI_nlt (by omega) (by omega)), if_pos (nI_lt z (by omega))]; exact ⟨rfl, y, by omega, rfl⟩
      exact ⟨_, rfl, by rw [e.1], Or.inr (by rw [e.1]; exact e.2)⟩
    · rw [if_neg h1, if_neg h1]
      by_cases h2 : α 2 c 3 = 2
      · rw [if_pos h2, if_pos h2]
        rcases holder H hc hx with ⟨z1, z2, -⟩ | ⟨h, p, z1, z2, -, -, z3, z4⟩
        · rw [z1, z2, if_pos rfl, if_neg (by rw [h2]; decide)]
          obtain ⟨y, hy, ey⟩ := hI (Or.inr h2)
          rw [ey]
          simp only [Option.bind_some]
          rw [if_neg (by decide)]
          exact ⟨_, rfl, rfl, Or.inr ⟨y, by omega, rfl⟩⟩
        · rw [z3, z4, if_neg (nI_ne2 (by omega))]
          simp only [Option.bind_some]
          rw [if_pos (nI_pos' (by omega))]
          exact ⟨_, rfl, rfl, Or.inl rfl⟩
      · rw [if_neg h2, if_neg h2]
        exact ⟨_, rfl, rfl, Or.inl rfl⟩
  · rw [if_neg h0, if_neg h0]
    exact ⟨_, rfl, rfl, Or.inl rfl⟩
theorem lo_eb {τ : St} {ρ : Ms} {α : As} {D d nC nP nH nL : Nat} (H : Cx τ ρ α D d nC nP nH nL 99) (hD : D ≤ 20000000) (t w : Int32) (K : Int32 → Option Int32) {j y : Nat} (hy : y < 1000000000) : ∀ (m i k : Nat) (u : Int32), i + m = nC → m < k → ∃ r, X4_expectedBefore_L6 τ (nI y) (nI j) t k u (nI i) = some r ∧ X5_estimate_L122 ρ t w (nI j) (nI y) K k u (nI i) = K r := by
  intro m
  induction m with
  | zero =>
    intro i k u e1 e2
    have hb := H.b
    obtain ⟨k, rfl⟩ : ∃ q, k = q + 1 := ⟨k - 1, by omega⟩
    rw [X4_expectedBefore_L6, X5_estimate_L122, H.n.1, H.r.2.1]
    generalize hF : FU = F
    simp only [Option.bind_some]
    rw [if_pos (nI_le (by omega) (by omega)), if_pos (nI_le (by omega) (by omega))]
    exact ⟨_, rfl, rfl⟩
  | succ m ih =>
    intro i k u e1 e2
    obtain ⟨k, rfl⟩ : ∃ q, k = q + 1 := ⟨k - 1, by omega⟩
    have hb := H.b
    have hi : i < nC := by omega
    obtain ⟨c0, c1, c2, c3, c4, c5, c6, c7, c8, c9, c10, c11⟩ := H.c hi (by omega)
    obtain ⟨r0, r1, r2, r3, r4, r5, r6, r7, r8, r9, r10, r11⟩ := rd_c H.1 (show i < 20 by omega)
    rw [X4_expectedBefore_L6, X5_estimate_L122, H.n.1, H.r.2.1]
    generalize hF : FU = F
    simp only [Option.bind_some]
    rw [if_neg (nI_ge hi (by omega)), if_neg (nI_ge hi (by omega))]
    rw [if_neg (nI_pos (show y < 2 ^ 31 by omega))]
    obtain ⟨v, q1, q2, q3⟩ := free_day H hD hi (show i ≠ 99 by omega) t
    rw [q1, q2]
    simp only [Option.bind_some, nI_1, X4_isBefore]
    rcases q3 with rfl | ⟨q, hq, rfl⟩
    · rw [if_pos rfl, if_pos (by decide), Int32.add_zero]
      exact ih _ _ _ (by omega) (by omega)
    · rw [if_neg (by intro e; rw [show (-2 : Int32) = -2 from rfl] at e; have h1 := congrArg Int32.toInt e; rw [nI_toInt (by omega), show ((-2 : Int32)).toInt = -2 by decide] at h1; omega), if_neg (nI_pos (by omega))]
      by_cases h0 : nI q < nI y
      · simp only [if_pos h0, bi_t0, if_false]; exact ih _ _ _ (by omega) (by omega)
      · by_cases h1 : nI q = nI y
        · by_cases h2 : nI j ≤ nI i
          · simp only [if_neg h0, if_pos h1, if_pos h2, bi_f0, if_true, Int32.add_zero]; exact ih _ _ _ (by omega) (by omega)
          · simp only [if_neg h0, if_pos h1, if_neg h2, bi_t0, if_false]; exact ih _ _ _ (by omega) (by omega)
        · simp only [if_neg h0, if_neg h1, bi_f0, if_true, Int32.add_zero]; exact ih _ _ _ (by omega) (by omega)
theorem eb {τ : St} {ρ : Ms} {α : As} {D d nC nP nH nL : Nat} (H : Cx τ ρ α D d nC nP nH nL 99) (hD : D ≤ 20000000) (t w : Int32) {j y : Nat} (hy : y < 1000000000) : ∃ r, X4_expectedBefore τ (nI y) (nI j) t = some r ∧ ∀ K : Int32 → Option Int32, X5_estimate_L122 ρ t w (nI j) (nI y) K FU 0 0 = K r := by
  have hb := H.b
  have key : ∀ K : Int32 → Option Int32, ∃ r, X4_expectedBefore τ (nI y) (nI j) t = some r ∧ X5_estimate_L122 ρ t w (nI j) (nI y) K FU 0 0 = K r := fun K => lo_eb H hD t w K hy nC 0 FU 0 (by omega) (by unfold FU; omega)
  obtain ⟨r, p1, -⟩ := key some
  refine ⟨r, p1, fun K => ?_⟩
  obtain ⟨r', q1, q2⟩ := key K
  rw [p1] at q1
  injection q1 with e
  rw [q2, e]
theorem lo_es {τ : St} {ρ : Ms} {α : As} {D d nC nP nH nL : Nat} (H : Cx τ ρ α D d nC nP nH nL 99) (hD : D ≤ 20000000) (t w : Int32) : ∀ (m i k : Nat), i + m = nC → m < k → ∃ r, X4_estimate_L61 τ t w k (nI i) = some r ∧ X5_estimate_L96 ρ t w k (nI i) = some r := by
  intro m
  induction m with
  | zero =>
    intro i k e1 e2
    have hb := H.b
    obtain ⟨k, rfl⟩ : ∃ q, k = q + 1 := ⟨k - 1, by omega⟩
    rw [X4_estimate_L61, X5_estimate_L96, H.n.1, H.r.2.1]
    generalize hF : FU = F
    simp only [Option.bind_some]
    rw [if_pos (nI_le (by omega) (by omega)), if_pos (nI_le (by omega) (by omega))]
    exact ⟨_, rfl, rfl⟩
  | succ m ih =>
    intro i k e1 e2
    obtain ⟨k, rfl⟩ : ∃ q, k = q + 1 := ⟨k - 1, by omega⟩
    have hb := H.b
    have hi : i < nC := by omega
    obtain ⟨c0, c1, c2, c3, c4, c5, c6, c7, c8, c9, c10, c11⟩ := H.c hi (by omega)
    obtain ⟨r0, r1, r2, r3, r4, r5, r6, r7, r8, r9, r10, r11⟩ := rd_c H.1 (show i < 20 by omega)
    rw [X4_estimate_L61, X5_estimate_L96, H.n.1, H.r.2.1]
    generalize hF : FU = F
    simp only [Option.bind_some]
    rw [if_neg (nI_ge hi (by omega)), if_neg (nI_ge hi (by omega))]
    obtain ⟨v, q1, q2, q3⟩ := free_day H hD hi (show i ≠ 99 by omega) t
    rw [q1, q2, Option.bind_some]
    simp only [nI_1]
    rcases q3 with rfl | ⟨q, hq, rfl⟩
    · rw [if_pos rfl]
      obtain ⟨f, hf⟩ : ∃ f, F = f + 1 := ⟨F - 1, by rw [← hF]; unfold FU; omega⟩
      rw [hf, X5_estimate_L122, H.r.2.1]
      simp only [Option.bind_some]
      have zz : ¬ nI nC ≤ 0 := fun z => by
        rw [show (0 : Int32) = nI 0 from rfl, nI_leI (by omega) (by omega)] at z
        omega
      by_cases z : nI nC ≤ 0
      · exact absurd z zz
      · rw [if_neg z, if_pos (by decide), if_pos (by decide)]
        exact ih _ _ (by omega) (by omega)
    · rw [if_neg (by intro e; have h1 := congrArg Int32.toInt e; rw [nI_toInt (by omega), show ((-2 : Int32)).toInt = -2 by decide] at h1; omega)]
      obtain ⟨r, p1, p2⟩ := eb H hD t w (j := i) hq
      rw [hF] at p2
      rw [p1, p2]
      simp only [Option.bind_some]
      rw [if_neg (nI_pos (by omega))]
      by_cases h : r = w
      · rw [if_pos h, if_pos h]; exact ⟨_, rfl, rfl⟩
      · rw [if_neg h, if_neg h]; exact ih _ _ (by omega) (by omega)
