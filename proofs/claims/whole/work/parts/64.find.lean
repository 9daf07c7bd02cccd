/-! FINDING LOOPS AND NESTED LOOPS -/
theorem fi_wait {τ : St} {ρ : Ms} {α : As} {D d nC nP nH nL x : Nat} (H : Cx τ ρ α D d nC nP nH nL x) (a : Int32) : ∀ (m i k : Nat), i + m = nH → m < k → X4_firstWaiting_L2 τ a k (nI i) = some (ffr (fun j => decide (α 4 j 0 = a ∧ α 4 j 3 = -2)) m i) ∧ X5_firstWaiting_L2 ρ a k (nI i) = some (ffr (fun j => decide (α 4 j 0 = a ∧ α 4 j 3 = -2)) m i) := by
  intro m
  induction m with
  | zero =>
    intro i k e1 e2
    have hb := H.b
    obtain ⟨k, rfl⟩ : ∃ q, k = q + 1 := ⟨k - 1, by omega⟩
    rw [X4_firstWaiting_L2, X5_firstWaiting_L2, H.n.2.2.1, H.r.2.2.2.1]
    simp only [Option.bind_some]
    rw [if_pos (nI_le (by omega) (by omega)), if_pos (nI_le (by omega) (by omega))]
    exact ⟨rfl, rfl⟩
  | succ m ih =>
    intro i k e1 e2
    obtain ⟨k, rfl⟩ : ∃ q, k = q + 1 := ⟨k - 1, by omega⟩
    have hb := H.b
    have hi : i < nH := by omega
    obtain ⟨c0, c1, c2, c3⟩ := H.h hi
    obtain ⟨r0, r1, r2, r3⟩ := rd_o H.1 (show i < 24 by omega)
    rw [X4_firstWaiting_L2, X5_firstWaiting_L2, H.n.2.2.1, H.r.2.2.2.1]
    simp only [Option.bind_some]
    rw [if_neg (nI_ge hi (by omega)), if_neg (nI_ge hi (by omega))]
    simp only [c0, c1, c2, c3, r0, r1, r2, r3, X4_isWaiting, nI_1, Option.bind_some, ffr]
    have e := ih (i + 1) k (by omega) (by omega)
    by_cases h0 : α 4 i 0 = a <;> by_cases h1 : α 4 i 3 = -2 <;> simp (config := {decide := true}) [h0, h1, bi_t0, bi_f0, e]
theorem fx_wait {τ : St} {ρ : Ms} {α : As} {D d nC nP nH nL x : Nat} (H : Cx τ ρ α D d nC nP nH nL x) (a : Int32) : X4_firstWaiting τ a = some (ffi nH (fun j => decide (α 4 j 0 = a ∧ α 4 j 3 = -2))) ∧ X5_firstWaiting ρ a = some (ffi nH (fun j => decide (α 4 j 0 = a ∧ α 4 j 3 = -2))) := by
  have hb := H.b
  exact fi_wait H a nH 0 FU (by omega) (by unfold FU; omega)
theorem fi_by {τ : St} {ρ : Ms} {α : As} {D d nC nP nH nL x : Nat} (H : Cx τ ρ α D d nC nP nH nL x) (a b : Int32) : ∀ (m i k : Nat), i + m = nH → m < k → X4_findHold_L2 τ a b k (nI i) = some (ffr (fun j => decide (α 4 j 1 = a ∧ α 4 j 0 = b)) m i) ∧ X5_holdBy_L2 ρ a b k (nI i) = some (ffr (fun j => decide (α 4 j 1 = a ∧ α 4 j 0 = b)) m i) := by
  intro m
  induction m with
  | zero =>
    intro i k e1 e2
    have hb := H.b
    obtain ⟨k, rfl⟩ : ∃ q, k = q + 1 := ⟨k - 1, by omega⟩
    rw [X4_findHold_L2, X5_holdBy_L2, H.n.2.2.1, H.r.2.2.2.1]
    simp only [Option.bind_some]
    rw [if_pos (nI_le (by omega) (by omega)), if_pos (nI_le (by omega) (by omega))]
    exact ⟨rfl, rfl⟩
  | succ m ih =>
    intro i k e1 e2
    obtain ⟨k, rfl⟩ : ∃ q, k = q + 1 := ⟨k - 1, by omega⟩
    have hb := H.b
    have hi : i < nH := by omega
    obtain ⟨c0, c1, c2, c3⟩ := H.h hi
    obtain ⟨r0, r1, r2, r3⟩ := rd_o H.1 (show i < 24 by omega)
    rw [X4_findHold_L2, X5_holdBy_L2, H.n.2.2.1, H.r.2.2.2.1]
    simp only [Option.bind_some]
    rw [if_neg (nI_ge hi (by omega)), if_neg (nI_ge hi (by omega))]
    simp only [c0, c1, c2, c3, r0, r1, r2, r3, X4_isWaiting, nI_1, Option.bind_some, ffr]
    have e := ih (i + 1) k (by omega) (by omega)
    by_cases h0 : α 4 i 1 = a <;> by_cases h1 : α 4 i 0 = b <;> simp (config := {decide := true}) [h0, h1, bi_t0, bi_f0, e]
theorem fx_by {τ : St} {ρ : Ms} {α : As} {D d nC nP nH nL x : Nat} (H : Cx τ ρ α D d nC nP nH nL x) (a b : Int32) : X4_findHold τ a b = some (ffi nH (fun j => decide (α 4 j 1 = a ∧ α 4 j 0 = b))) ∧ X5_holdBy ρ a b = some (ffi nH (fun j => decide (α 4 j 1 = a ∧ α 4 j 0 = b))) := by
  have hb := H.b
  exact fi_by H a b nH 0 FU (by omega) (by unfold FU; omega)
theorem fi_of {τ : St} {ρ : Ms} {α : As} {D d nC nP nH nL x : Nat} (H : Cx τ ρ α D d nC nP nH nL x) (a : Int32) : ∀ (m i k : Nat), i + m = nH → m < k → X5_holdOf_L2 ρ a k (nI i) = some (ffr (fun j => decide (α 4 j 3 = a)) m i) := by
  intro m
  induction m with
  | zero =>
    intro i k e1 e2
    have hb := H.b
    obtain ⟨k, rfl⟩ : ∃ q, k = q + 1 := ⟨k - 1, by omega⟩
    rw [X5_holdOf_L2, H.r.2.2.2.1]
    simp only [Option.bind_some]
    rw [if_pos (nI_le (by omega) (by omega))]
    exact rfl
  | succ m ih =>
    intro i k e1 e2
    obtain ⟨k, rfl⟩ : ∃ q, k = q + 1 := ⟨k - 1, by omega⟩
    have hb := H.b
    have hi : i < nH := by omega
    obtain ⟨c0, c1, c2, c3⟩ := H.h hi
    obtain ⟨r0, r1, r2, r3⟩ := rd_o H.1 (show i < 24 by omega)
    rw [X5_holdOf_L2, H.r.2.2.2.1]
    simp only [Option.bind_some]
    rw [if_neg (nI_ge hi (by omega))]
    simp only [c0, c1, c2, c3, r0, r1, r2, r3, X4_isWaiting, nI_1, Option.bind_some, ffr]
    have e := ih (i + 1) k (by omega) (by omega)
    by_cases h0 : α 4 i 3 = a <;> simp (config := {decide := true}) [h0, bi_t0, bi_f0, e]
theorem fx_of {τ : St} {ρ : Ms} {α : As} {D d nC nP nH nL x : Nat} (H : Cx τ ρ α D d nC nP nH nL x) (a : Int32) : X5_holdOf ρ a = some (ffi nH (fun j => decide (α 4 j 3 = a))) := by
  have hb := H.b
  exact fi_of H a nH 0 FU (by omega) (by unfold FU; omega)
theorem lo_before {τ : St} {ρ : Ms} {α : As} {D d nC nP nH nL x : Nat} (H : Cx τ ρ α D d nC nP nH nL x) (a : Int32) {z : Nat} (hz : z ≤ nH) : ∀ (m i k : Nat) (u : Int32), i + m = z → m < k → ∃ r : Int32, X4_holdsBefore_L5 τ (nI z) a k u (nI i) = some r ∧ X5_place_L37 ρ a (nI z) k u (nI i) = some r := by
  intro m
  induction m with
  | zero =>
    intro i k u e1 e2
    have hb := H.b
    obtain ⟨k, rfl⟩ : ∃ q, k = q + 1 := ⟨k - 1, by omega⟩
    rw [X4_holdsBefore_L5, X5_place_L37]
    rw [if_pos (nI_le (by omega) (by omega)), if_pos (nI_le (by omega) (by omega))]
    exact ⟨_, rfl, rfl⟩
  | succ m ih =>
    intro i k u e1 e2
    obtain ⟨k, rfl⟩ : ∃ q, k = q + 1 := ⟨k - 1, by omega⟩
    have hb := H.b
    have hi : i < nH := by omega
    have hz2 : i < z := by omega
    obtain ⟨c0, c1, c2, c3⟩ := H.h hi
    obtain ⟨r0, r1, r2, r3⟩ := rd_o H.1 (show i < 24 by omega)
    rw [X4_holdsBefore_L5, X5_place_L37]
    rw [if_neg (nI_ge hz2 (by omega)), if_neg (nI_ge hz2 (by omega))]
    simp only [c0, c1, c2, c3, r0, r1, r2, r3, X4_isWaiting, nI_1, Option.bind_some]
    by_cases h0 : α 4 i 0 = a <;> simp (config := {decide := true, failIfUnchanged := false}) only [h0, if_true, if_false, bi_t0, bi_f0, Int32.add_zero, Option.bind_some] <;> first | exact ih _ _ _ (by omega) (by omega) | exact ⟨_, rfl, rfl⟩ | (subst h1; exact ih _ _ _ (by omega) (by omega)) | skip
theorem lo_cb {τ : St} {ρ : Ms} {α : As} {D d nC nP nH nL : Nat} (H : Cx τ ρ α D d nC nP nH nL 99) {s : Int32} (hs : s = 1 ∨ s = 2) (b c : Int32) (K : Int32 → Option Int32) {j : Nat} (hj : j < nC) : ∀ (m i k : Nat) (u : Int32), i + m = nC → m < k → ∃ r : Int32, X4_countBefore_L21 τ (nI j) s b (α 2 j 5) k u (nI i) = some r ∧ X5_byDate_L45 ρ s b c (nI j) K k u (nI i) = K r := by
  intro m
  induction m with
  | zero =>
    intro i k u e1 e2
    have hb := H.b
    obtain ⟨k, rfl⟩ : ∃ q, k = q + 1 := ⟨k - 1, by omega⟩
    rw [X4_countBefore_L21, X5_byDate_L45, H.n.1, H.r.2.1]
    simp only [Option.bind_some]
    rw [if_pos (nI_le (by omega) (by omega)), if_pos (nI_le (by omega) (by omega))]
    exact ⟨_, rfl, rfl⟩
  | succ m ih =>
    intro i k u e1 e2
    obtain ⟨k, rfl⟩ : ∃ q, k = q + 1 := ⟨k - 1, by omega⟩
    have hb := H.b
    have hi : i < nC := by omega
    obtain ⟨c0, c1, c2, c3, c4, c5, c6, c7, c8, c9, c10, c11⟩ := H.c hi (by omega)
    obtain ⟨r0, r1, r2, r3, r4, r5, r6, r7, r8, r9, r10, r11⟩ := rd_c H.1 (show i < 20 by omega)
    rw [X4_countBefore_L21, X5_byDate_L45, H.n.1, H.r.2.1]
    simp only [Option.bind_some]
    rw [if_neg (nI_ge hi (by omega)), if_neg (nI_ge hi (by omega))]
    have hs0 : (s = 0) = False := by rcases hs with rfl | rfl <;> decide
    have hs5 : (s = 5) = False := by rcases hs with rfl | rfl <;> decide
    obtain ⟨-, -, -, -, -, p5, -⟩ := rd_c H.1 (show j < 20 by omega)
    simp only [c0, c1, c2, c3, c4, c6, c7, c8, c9, r0, r1, r2, r3, r4, r5, r6, r7, r8, X4_isAt, X4_stateOf, X4_titleOf, nI_1, Option.bind_some, p5, X4_isBefore]
    by_cases h0 : α 2 i 3 = s <;> by_cases h1 : α 2 i 4 = b <;> by_cases h2 : α 2 i 5 < α 2 j 5 <;> by_cases h3 : α 2 i 5 = α 2 j 5 <;> by_cases h4 : nI j ≤ nI i <;> simp (config := {decide := true, failIfUnchanged := false}) only [h0, h1, h2, h3, h4, if_true, if_false, bi_t0, bi_f0, Int32.add_zero, Option.bind_some, hs0, hs5, or_self, Int32.lt_irrefl] <;> first | exact ih _ _ _ (by omega) (by omega) | exact ⟨_, rfl, rfl⟩ | (subst h1; exact ih _ _ _ (by omega) (by omega)) | skip
theorem cb {τ : St} {ρ : Ms} {α : As} {D d nC nP nH nL : Nat} (H : Cx τ ρ α D d nC nP nH nL 99) {s : Int32} (hs : s = 1 ∨ s = 2) (b c : Int32) (K : Int32 → Option Int32) {j : Nat} (hj : j < nC) (h : α 2 j 3 = s) : ∃ r, X4_countBefore τ (nI j) s b = some r ∧ X5_byDate_L45 ρ s b c (nI j) K FU 0 0 = K r := by
  have hb := H.b
  obtain ⟨-, -, -, -, -, -, c6, -⟩ := H.c hj (by omega)
  unfold X4_countBefore
  rw [c6, if_neg (by rw [h]; rcases hs with rfl | rfl <;> decide)]
  exact lo_cb H hs b c K hj nC 0 FU 0 (by omega) (by unfold FU; omega)
theorem lo_next {τ : St} {ρ : Ms} {α : As} {D d nC nP nH nL : Nat} (H : Cx τ ρ α D d nC nP nH nL 99) {s : Int32} (hs : s = 1 ∨ s = 2) (b c : Int32) : ∀ (m i k : Nat), i + m = nC → m < k → ∃ r, X4_nextByDay_L3 τ s b c k (nI i) = some r ∧ X5_byDate_L3 ρ s b c k (nI i) = some r := by
  intro m
  induction m with
  | zero =>
    intro i k e1 e2
    have hb := H.b
    obtain ⟨k, rfl⟩ : ∃ q, k = q + 1 := ⟨k - 1, by omega⟩
    rw [X4_nextByDay_L3, X5_byDate_L3, H.n.1, H.r.2.1]
    simp only [Option.bind_some]
    rw [if_pos (nI_le (by omega) (by omega)), if_pos (nI_le (by omega) (by omega))]
    exact ⟨_, rfl, rfl⟩
  | succ m ih =>
    intro i k e1 e2
    obtain ⟨k, rfl⟩ : ∃ q, k = q + 1 := ⟨k - 1, by omega⟩
    have hb := H.b
    have hi : i < nC := by omega
    obtain ⟨c0, c1, c2, c3, c4, c5, c6, c7, c8, c9, c10, c11⟩ := H.c hi (by omega)
    obtain ⟨r0, r1, r2, r3, r4, r5, r6, r7, r8, r9, r10, r11⟩ := rd_c H.1 (show i < 20 by omega)
    rw [X4_nextByDay_L3, X5_byDate_L3, H.n.1, H.r.2.1]
    simp only [Option.bind_some]
    rw [if_neg (nI_ge hi (by omega)), if_neg (nI_ge hi (by omega))]
    simp only [nI_1, r3, r4, X4_isAt, X4_stateOf, c3, c4, Option.bind_some]
    by_cases h0 : α 2 i 3 = s
    · by_cases h1 : α 2 i 4 = b
      · simp only [if_pos h0, if_pos h1, bi_t0, if_false]
        obtain ⟨v, q1, q2⟩ := cb H hs b c (fun y45_5 => if y45_5 = c then some (nI i) else X5_byDate_L3 ρ s b c k (nI (i + 1))) hi h0
        rw [q1, q2]
        simp only [Option.bind_some]
        by_cases h2 : v = c
        · rw [if_pos h2, if_pos h2]; exact ⟨_, rfl, rfl⟩
        · rw [if_neg h2, if_neg h2]; exact ih _ _ (by omega) (by omega)
      · simp only [if_pos h0, if_neg h1, bi_f0, if_true]
        exact ih _ _ (by omega) (by omega)
    · simp only [if_neg h0, bi_f0, if_true]
      exact ih _ _ (by omega) (by omega)
theorem nxt {τ : St} {ρ : Ms} {α : As} {D d nC nP nH nL : Nat} (H : Cx τ ρ α D d nC nP nH nL 99) {s : Int32} (hs : s = 1 ∨ s = 2) (b c : Int32) : ∃ r, X4_nextByDay τ s b c = some r ∧ X5_byDate ρ s b c = some r := by
  have hb := H.b
  exact lo_next H hs b c nC 0 FU (by omega) (by unfold FU; omega)
