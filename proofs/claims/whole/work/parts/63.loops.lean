/-! THE LOOPS OF THE READERS, BOTH SIDES AT ONCE -/
theorem late_fine {τ : St} {ρ : Ms} {α : As} {D d nC nP nH nL x c : Nat} (H : Cx τ ρ α D d nC nP nH nL x) (hD : D ≤ 20000000) (hc : c < nC) (hx : c ≠ x) (h1 : α 2 c 3 = 1) : X5_late ρ (nI c) = some (X4_fineOf τ (nI c)) := by
  have hb := H.b
  obtain ⟨c0, c1, c2, c3, c4, c5, c6, -⟩ := H.c hc hx
  obtain ⟨v0, v1, v2, v3, -⟩ := H.v
  obtain ⟨r0, r1, r2, r3, r4, r5, -⟩ := rd_c H.1 (show c < 20 by omega)
  obtain ⟨s0, s1, s2, s3, -⟩ := H.rs
  obtain ⟨y, hy, ey⟩ := (H.2.2.2.2.2.1 c hc hx).2.2.2.2.1 (Or.inl h1)
  rw [h1, if_neg (by decide), ey] at c6
  unfold X5_late X4_fineOf X4_stateOf
  rw [H.r.1, r5, s2, s3, c3, h1, if_pos rfl, c6, v2, v3, H.n.2.2.2.2.2, ey]
  simp only [Option.bind_some]
  rw [nI_l (by omega), nI_l (by omega)]
  rcases Nat.lt_or_ge y d with z | z
  · rw [lN_sub (by omega), pk_sub (by omega), show (0 : Int64) = lN 0 from rfl, if_pos ((lg_cmp_gt _ _).mpr ((lN_lt (by omega) (by omega)).mpr (by omega)))]
    unfold jmax
    rw [if_pos (by rw [show (0 : Int32) = nI 0 from rfl]; exact nI_lt (by omega) (by omega)), nI_l (by omega)]
  · rw [if_neg (fun q => by
      have q1 := (lg_cmp_gt _ _).mp q
      rw [show (0 : Int64) = lN 0 from rfl, Int64.lt_iff_toInt_lt] at q1
      have q2 := lg_i2l_sub (nI d) (nI y)
      rw [nI_l (by omega), nI_l (by omega), nI_toInt (by omega), nI_toInt (by omega)] at q2
      rw [q2, lN_toInt (by omega)] at q1
      omega)]
    have e : jmax 0 (nI d - nI y) = 0 := by
      unfold jmax
      rw [if_neg]
      intro q
      rw [Int32.lt_iff_toInt_lt, pk_sub_toInt (by omega) (by omega)] at q
      have : ((0 : Int32)).toInt = 0 := by decide
      omega
    rw [e, show ((0 : Int32)).toInt64 = 0 from by decide, Int64.zero_mul]
    unfold jminL
    have hv := (H.2.2.2.2.1 3 (by omega)).1
    split
    · rfl
    · rename_i q
      obtain ⟨t, ht, et⟩ := nI_of (x := α 1 0 3) (fun q => i_irr q hv)
      rw [et, nI_l ht, show (0 : Int64) = lN 0 from rfl, lN_lt (by omega) (by omega)] at q
      rw [et, nI_l ht, lN_i]
      have : t = 0 := by omega
      rw [this]
      rfl
theorem lo_loans {τ : St} {ρ : Ms} {α : As} {D d nC nP nH nL : Nat} (H : Cx τ ρ α D d nC nP nH nL 99) (a : Int32) : ∀ (m i k : Nat) (u : Int32), i + m = nC → m < k → ∃ r : Int32, X4_loanCount_L4 τ a k u (nI i) = some r ∧ X5_loans_L4 ρ a k u (nI i) = some r := by
  intro m
  induction m with
  | zero =>
    intro i k u e1 e2
    have hb := H.b
    obtain ⟨k, rfl⟩ : ∃ q, k = q + 1 := ⟨k - 1, by omega⟩
    rw [X4_loanCount_L4, X5_loans_L4, H.n.1, H.r.2.1]
    simp only [Option.bind_some]
    rw [if_pos (nI_le (by omega) (by omega)), if_pos (nI_le (by omega) (by omega))]
    exact ⟨_, rfl, rfl⟩
  | succ m ih =>
    intro i k u e1 e2
    obtain ⟨k, rfl⟩ : ∃ q, k = q + 1 := ⟨k - 1, by omega⟩
    have hb := H.b
    have hi : i < nC := by omega
    obtain ⟨c0, c1, c2, c3, c4, c5, c6, c7, c8, c9, c10, c11⟩ := H.c hi (by omega)
    obtain ⟨r0, r1, r2, r3, r4, r5, r6, r7, r8, r9, r10, r11⟩ := rd_c H.1 (show i < 20 by omega)
    rw [X4_loanCount_L4, X5_loans_L4, H.n.1, H.r.2.1]
    simp only [Option.bind_some]
    rw [if_neg (nI_ge hi (by omega)), if_neg (nI_ge hi (by omega))]
    simp only [c0, c1, c2, c3, c4, c6, c7, c8, c9, r0, r1, r2, r3, r4, r5, r6, r7, r8, X4_isAt, X4_stateOf, X4_titleOf, nI_1, Option.bind_some]
    by_cases h0 : α 2 i 3 = 1 <;> by_cases h1 : α 2 i 4 = a <;> simp (config := {decide := true, failIfUnchanged := false}) only [h0, h1, if_true, if_false, bi_t0, bi_f0, Int32.add_zero, Option.bind_some] <;> first | exact ih _ _ _ (by omega) (by omega) | exact ⟨_, rfl, rfl⟩ | (subst h1; exact ih _ _ _ (by omega) (by omega)) | skip
theorem lo_over {τ : St} {ρ : Ms} {α : As} {D d nC nP nH nL : Nat} (H : Cx τ ρ α D d nC nP nH nL 99) (a : Int32) : ∀ (m i k : Nat) (u : Int32), i + m = nC → m < k → ∃ r : Int32, X4_overdueCount_L4 τ a k u (nI i) = some r ∧ X5_overdue_L4 ρ a k u (nI i) = some r := by
  intro m
  induction m with
  | zero =>
    intro i k u e1 e2
    have hb := H.b
    obtain ⟨k, rfl⟩ : ∃ q, k = q + 1 := ⟨k - 1, by omega⟩
    rw [X4_overdueCount_L4, X5_overdue_L4, H.n.1, H.r.2.1]
    simp only [Option.bind_some]
    rw [if_pos (nI_le (by omega) (by omega)), if_pos (nI_le (by omega) (by omega))]
    exact ⟨_, rfl, rfl⟩
  | succ m ih =>
    intro i k u e1 e2
    obtain ⟨k, rfl⟩ : ∃ q, k = q + 1 := ⟨k - 1, by omega⟩
    have hb := H.b
    have hi : i < nC := by omega
    obtain ⟨c0, c1, c2, c3, c4, c5, c6, c7, c8, c9, c10, c11⟩ := H.c hi (by omega)
    obtain ⟨r0, r1, r2, r3, r4, r5, r6, r7, r8, r9, r10, r11⟩ := rd_c H.1 (show i < 20 by omega)
    rw [X4_overdueCount_L4, X5_overdue_L4, H.n.1, H.r.2.1]
    simp only [Option.bind_some]
    rw [if_neg (nI_ge hi (by omega)), if_neg (nI_ge hi (by omega))]
    simp only [c0, c1, c2, c3, c4, c6, c7, c8, c9, r0, r1, r2, r3, r4, r5, r6, r7, r8, X4_isAt, X4_stateOf, X4_titleOf, nI_1, Option.bind_some, H.n.2.2.2.2.2, H.r.1]
    by_cases h0 : α 2 i 3 = 1 <;> by_cases h1 : α 2 i 4 = a <;> by_cases h2 : nI d ≤ α 2 i 5 <;> simp (config := {decide := true, failIfUnchanged := false}) only [h0, h1, h2, if_true, if_false, bi_t0, bi_f0, Int32.add_zero, Option.bind_some] <;> first | exact ih _ _ _ (by omega) (by omega) | exact ⟨_, rfl, rfl⟩ | (subst h1; exact ih _ _ _ (by omega) (by omega)) | skip
theorem lo_accr {τ : St} {ρ : Ms} {α : As} {D d nC nP nH nL : Nat} (H : Cx τ ρ α D d nC nP nH nL 99) (hD : D ≤ 20000000) (a : Int32) : ∀ (m i k : Nat) (u : Int32), i + m = nC → m < k → ∃ r : Int32, X4_accrued_L14 τ a k u (nI i) = some r ∧ X5_accrued_L14 ρ a k u (nI i) = some r := by
  intro m
  induction m with
  | zero =>
    intro i k u e1 e2
    have hb := H.b
    obtain ⟨k, rfl⟩ : ∃ q, k = q + 1 := ⟨k - 1, by omega⟩
    rw [X4_accrued_L14, X5_accrued_L14, H.n.1, H.r.2.1]
    simp only [Option.bind_some]
    rw [if_pos (nI_le (by omega) (by omega)), if_pos (nI_le (by omega) (by omega))]
    exact ⟨_, rfl, rfl⟩
  | succ m ih =>
    intro i k u e1 e2
    obtain ⟨k, rfl⟩ : ∃ q, k = q + 1 := ⟨k - 1, by omega⟩
    have hb := H.b
    have hi : i < nC := by omega
    obtain ⟨c0, c1, c2, c3, c4, c5, c6, c7, c8, c9, c10, c11⟩ := H.c hi (by omega)
    obtain ⟨r0, r1, r2, r3, r4, r5, r6, r7, r8, r9, r10, r11⟩ := rd_c H.1 (show i < 20 by omega)
    rw [X4_accrued_L14, X5_accrued_L14, H.n.1, H.r.2.1]
    simp only [Option.bind_some]
    rw [if_neg (nI_ge hi (by omega)), if_neg (nI_ge hi (by omega))]
    have hl : α 2 i 3 = 1 → X5_late ρ (nI i) = some (X4_fineOf τ (nI i)) := fun q => late_fine H hD hi (by omega) q
    simp only [c0, c1, c2, c3, c4, c6, c7, c8, c9, r0, r1, r2, r3, r4, r5, r6, r7, r8, X4_isAt, X4_stateOf, X4_titleOf, nI_1, Option.bind_some]
    by_cases h0 : α 2 i 3 = 1 <;> by_cases h1 : α 2 i 4 = a <;> simp (config := {decide := true, failIfUnchanged := false}) only [h0, h1, if_true, if_false, bi_t0, bi_f0, Int32.add_zero, Option.bind_some, hl] <;> first | exact ih _ _ _ (by omega) (by omega) | exact ⟨_, rfl, rfl⟩ | (subst h1; exact ih _ _ _ (by omega) (by omega)) | skip
theorem lo_copies {τ : St} {ρ : Ms} {α : As} {D d nC nP nH nL : Nat} (H : Cx τ ρ α D d nC nP nH nL 99) {a : Nat} (ha : a < 100) : ∀ (m i k : Nat) (u : Int32), i + m = nC → m < k → ∃ r : Int32, X4_copyCount_L32 τ (nI a) k u (nI i) = some r ∧ X5_copyCount_L15 ρ (nI a) k u (nI i) = some r := by
  intro m
  induction m with
  | zero =>
    intro i k u e1 e2
    have hb := H.b
    obtain ⟨k, rfl⟩ : ∃ q, k = q + 1 := ⟨k - 1, by omega⟩
    rw [X4_copyCount_L32, X5_copyCount_L15, H.n.1, H.r.2.1]
    simp only [Option.bind_some]
    rw [if_pos (nI_le (by omega) (by omega)), if_pos (nI_le (by omega) (by omega))]
    exact ⟨_, rfl, rfl⟩
  | succ m ih =>
    intro i k u e1 e2
    obtain ⟨k, rfl⟩ : ∃ q, k = q + 1 := ⟨k - 1, by omega⟩
    have hb := H.b
    have hi : i < nC := by omega
    obtain ⟨c0, c1, c2, c3, c4, c5, c6, c7, c8, c9, c10, c11⟩ := H.c hi (by omega)
    obtain ⟨r0, r1, r2, r3, r4, r5, r6, r7, r8, r9, r10, r11⟩ := rd_c H.1 (show i < 20 by omega)
    rw [X4_copyCount_L32, X5_copyCount_L15, H.n.1, H.r.2.1]
    simp only [Option.bind_some]
    rw [if_neg (nI_ge hi (by omega)), if_neg (nI_ge hi (by omega))]
    simp only [c0, c1, c2, c3, c4, c6, c7, c8, c9, r0, r1, r2, r3, r4, r5, r6, r7, r8, X4_isAt, X4_stateOf, X4_titleOf, nI_1, Option.bind_some, if_neg (nI_pos (show a < 2 ^ 31 by omega))]
    by_cases h0 : α 2 i 3 = nI a <;> simp (config := {decide := true, failIfUnchanged := false}) only [h0, if_true, if_false, bi_t0, bi_f0, Int32.add_zero, Option.bind_some] <;> first | exact ih _ _ _ (by omega) (by omega) | exact ⟨_, rfl, rfl⟩ | (subst h1; exact ih _ _ _ (by omega) (by omega)) | skip
theorem lo_holds {τ : St} {ρ : Ms} {α : As} {D d nC nP nH nL x : Nat} (H : Cx τ ρ α D d nC nP nH nL x) {a : Nat} (ha : a < 100) : ∀ (m i k : Nat) (u : Int32), i + m = nH → m < k → ∃ r : Int32, X4_holdsBefore_L5 τ (nI nH) (nI a) k u (nI i) = some r ∧ X5_holds_L4 ρ (nI a) k u (nI i) = some r := by
  intro m
  induction m with
  | zero =>
    intro i k u e1 e2
    have hb := H.b
    obtain ⟨k, rfl⟩ : ∃ q, k = q + 1 := ⟨k - 1, by omega⟩
    rw [X4_holdsBefore_L5, X5_holds_L4, H.r.2.2.2.1]
    simp only [Option.bind_some]
    rw [if_pos (nI_le (by omega) (by omega)), if_pos (nI_le (by omega) (by omega))]
    exact ⟨_, rfl, rfl⟩
  | succ m ih =>
    intro i k u e1 e2
    obtain ⟨k, rfl⟩ : ∃ q, k = q + 1 := ⟨k - 1, by omega⟩
    have hb := H.b
    have hi : i < nH := by omega
    obtain ⟨c0, c1, c2, c3⟩ := H.h hi
    obtain ⟨r0, r1, r2, r3⟩ := rd_o H.1 (show i < 24 by omega)
    rw [X4_holdsBefore_L5, X5_holds_L4, H.r.2.2.2.1]
    simp only [Option.bind_some]
    rw [if_neg (nI_ge hi (by omega)), if_neg (nI_ge hi (by omega))]
    simp only [c0, c1, c2, c3, r0, r1, r2, r3, X4_isWaiting, nI_1, Option.bind_some, if_neg (nI_pos (show a < 2 ^ 31 by omega))]
    by_cases h0 : α 4 i 0 = nI a <;> simp (config := {decide := true, failIfUnchanged := false}) only [h0, if_true, if_false, bi_t0, bi_f0, Int32.add_zero, Option.bind_some] <;> first | exact ih _ _ _ (by omega) (by omega) | exact ⟨_, rfl, rfl⟩ | (subst h1; exact ih _ _ _ (by omega) (by omega)) | skip
theorem lo_holdsOf {τ : St} {ρ : Ms} {α : As} {D d nC nP nH nL x : Nat} (H : Cx τ ρ α D d nC nP nH nL x) (a : Int32) : ∀ (m i k : Nat) (u : Int32), i + m = nH → m < k → ∃ r : Int32, X4_holdsOf_L4 τ a k u (nI i) = some r ∧ X5_holdsOf_L4 ρ a k u (nI i) = some r := by
  intro m
  induction m with
  | zero =>
    intro i k u e1 e2
    have hb := H.b
    obtain ⟨k, rfl⟩ : ∃ q, k = q + 1 := ⟨k - 1, by omega⟩
    rw [X4_holdsOf_L4, X5_holdsOf_L4, H.n.2.2.1, H.r.2.2.2.1]
    simp only [Option.bind_some]
    rw [if_pos (nI_le (by omega) (by omega)), if_pos (nI_le (by omega) (by omega))]
    exact ⟨_, rfl, rfl⟩
  | succ m ih =>
    intro i k u e1 e2
    obtain ⟨k, rfl⟩ : ∃ q, k = q + 1 := ⟨k - 1, by omega⟩
    have hb := H.b
    have hi : i < nH := by omega
    obtain ⟨c0, c1, c2, c3⟩ := H.h hi
    obtain ⟨r0, r1, r2, r3⟩ := rd_o H.1 (show i < 24 by omega)
    rw [X4_holdsOf_L4, X5_holdsOf_L4, H.n.2.2.1, H.r.2.2.2.1]
    simp only [Option.bind_some]
    rw [if_neg (nI_ge hi (by omega)), if_neg (nI_ge hi (by omega))]
    simp only [c0, c1, c2, c3, r0, r1, r2, r3, X4_isWaiting, nI_1, Option.bind_some]
    by_cases h0 : α 4 i 1 = a <;> simp (config := {decide := true, failIfUnchanged := false}) only [h0, if_true, if_false, bi_t0, bi_f0, Int32.add_zero, Option.bind_some] <;> first | exact ih _ _ _ (by omega) (by omega) | exact ⟨_, rfl, rfl⟩ | (subst h1; exact ih _ _ _ (by omega) (by omega)) | skip
theorem lo_wait {τ : St} {ρ : Ms} {α : As} {D d nC nP nH nL x : Nat} (H : Cx τ ρ α D d nC nP nH nL x) (a : Int32) : ∀ (m i k : Nat) (u : Int32), i + m = nH → m < k → ∃ r : Int32, X4_waitingBefore_L5 τ (nI nH) a k u (nI i) = some r ∧ X5_waitingFor_L4 ρ a k u (nI i) = some r := by
  intro m
  induction m with
  | zero =>
    intro i k u e1 e2
    have hb := H.b
    obtain ⟨k, rfl⟩ : ∃ q, k = q + 1 := ⟨k - 1, by omega⟩
    rw [X4_waitingBefore_L5, X5_waitingFor_L4, H.r.2.2.2.1]
    simp only [Option.bind_some]
    rw [if_pos (nI_le (by omega) (by omega)), if_pos (nI_le (by omega) (by omega))]
    exact ⟨_, rfl, rfl⟩
  | succ m ih =>
    intro i k u e1 e2
    obtain ⟨k, rfl⟩ : ∃ q, k = q + 1 := ⟨k - 1, by omega⟩
    have hb := H.b
    have hi : i < nH := by omega
    obtain ⟨c0, c1, c2, c3⟩ := H.h hi
    obtain ⟨r0, r1, r2, r3⟩ := rd_o H.1 (show i < 24 by omega)
    rw [X4_waitingBefore_L5, X5_waitingFor_L4, H.r.2.2.2.1]
    simp only [Option.bind_some]
    rw [if_neg (nI_ge hi (by omega)), if_neg (nI_ge hi (by omega))]
    simp only [c0, c1, c2, c3, r0, r1, r2, r3, X4_isWaiting, nI_1, Option.bind_some]
    by_cases h0 : α 4 i 0 = a <;> by_cases h1 : α 4 i 3 = -2 <;> simp (config := {decide := true, failIfUnchanged := false}) only [h0, h1, if_true, if_false, bi_t0, bi_f0, Int32.add_zero, Option.bind_some] <;> first | exact ih _ _ _ (by omega) (by omega) | exact ⟨_, rfl, rfl⟩ | (subst h1; exact ih _ _ _ (by omega) (by omega)) | skip
theorem lo_shelf {τ : St} {ρ : Ms} {α : As} {D d nC nP nH nL : Nat} (H : Cx τ ρ α D d nC nP nH nL 99) (a b : Int32) : ∀ (m i k : Nat) (u : Int32), i + m = nC → m < k → ∃ r : Int32, X4_shelf_L14 τ a b k u (nI i) = some r ∧ X5_shelf_L14 ρ a b k u (nI i) = some r := by
  intro m
  induction m with
  | zero =>
    intro i k u e1 e2
    have hb := H.b
    obtain ⟨k, rfl⟩ : ∃ q, k = q + 1 := ⟨k - 1, by omega⟩
    rw [X4_shelf_L14, X5_shelf_L14, H.n.1, H.r.2.1]
    simp only [Option.bind_some]
    rw [if_pos (nI_le (by omega) (by omega)), if_pos (nI_le (by omega) (by omega))]
    split <;> exact ⟨_, rfl, rfl⟩
  | succ m ih =>
    intro i k u e1 e2
    obtain ⟨k, rfl⟩ : ∃ q, k = q + 1 := ⟨k - 1, by omega⟩
    have hb := H.b
    have hi : i < nC := by omega
    obtain ⟨c0, c1, c2, c3, c4, c5, c6, c7, c8, c9, c10, c11⟩ := H.c hi (by omega)
    obtain ⟨r0, r1, r2, r3, r4, r5, r6, r7, r8, r9, r10, r11⟩ := rd_c H.1 (show i < 20 by omega)
    rw [X4_shelf_L14, X5_shelf_L14, H.n.1, H.r.2.1]
    simp only [Option.bind_some]
    rw [if_neg (nI_ge hi (by omega)), if_neg (nI_ge hi (by omega))]
    simp only [c0, c1, c2, c3, c4, c6, c7, c8, c9, r0, r1, r2, r3, r4, r5, r6, r7, r8, X4_isAt, X4_stateOf, X4_titleOf, nI_1, Option.bind_some]
    by_cases h0 : α 2 i 3 = 0 <;> by_cases h1 : α 2 i 3 = 3 <;> by_cases h2 : α 2 i 4 = a <;> by_cases h3 : u = b <;> simp (config := {decide := true, failIfUnchanged := false}) only [h0, h1, h2, h3, if_true, if_false, bi_t0, bi_f0, Int32.add_zero, Option.bind_some] <;> first | exact ih _ _ _ (by omega) (by omega) | exact ⟨_, rfl, rfl⟩ | (subst h1; exact ih _ _ _ (by omega) (by omega)) | skip
theorem lo_hasLoan {τ : St} {ρ : Ms} {α : As} {D d nC nP nH nL : Nat} (H : Cx τ ρ α D d nC nP nH nL 99) (a b : Int32) : ∀ (m i k : Nat), i + m = nC → m < k → ∃ r : Int32, (X4_hasLoanOf_L2 τ a b k (nI i)).bind (fun v => if bi v = 0 then some (0 : Int32) else some 4) = some r ∧ X5_reasonToHold_L72 ρ a b k (nI i) = some r := by
  intro m
  induction m with
  | zero =>
    intro i k e1 e2
    have hb := H.b
    obtain ⟨k, rfl⟩ : ∃ q, k = q + 1 := ⟨k - 1, by omega⟩
    rw [X4_hasLoanOf_L2, X5_reasonToHold_L72, H.n.1, H.r.2.1]
    simp only [Option.bind_some]
    rw [if_pos (nI_le (by omega) (by omega)), if_pos (nI_le (by omega) (by omega))]
    simp only [Option.bind_some, bi_f0, if_true]; exact ⟨_, rfl, rfl⟩
  | succ m ih =>
    intro i k e1 e2
    obtain ⟨k, rfl⟩ : ∃ q, k = q + 1 := ⟨k - 1, by omega⟩
    have hb := H.b
    have hi : i < nC := by omega
    obtain ⟨c0, c1, c2, c3, c4, c5, c6, c7, c8, c9, c10, c11⟩ := H.c hi (by omega)
    obtain ⟨r0, r1, r2, r3, r4, r5, r6, r7, r8, r9, r10, r11⟩ := rd_c H.1 (show i < 20 by omega)
    rw [X4_hasLoanOf_L2, X5_reasonToHold_L72, H.n.1, H.r.2.1]
    simp only [Option.bind_some]
    rw [if_neg (nI_ge hi (by omega)), if_neg (nI_ge hi (by omega))]
    simp only [c0, c1, c2, c3, c4, c6, c7, c8, c9, r0, r1, r2, r3, r4, r5, r6, r7, r8, X4_isAt, X4_stateOf, X4_titleOf, nI_1, Option.bind_some]
    by_cases h0 : α 2 i 3 = 1 <;> by_cases h1 : α 2 i 4 = a <;> by_cases h2 : α 2 i 0 = b <;> simp (config := {decide := true, failIfUnchanged := false}) only [h0, h1, h2, if_true, if_false, bi_t0, bi_f0, Int32.add_zero, Option.bind_some] <;> first | exact ih _ _ (by omega) (by omega) | exact ⟨_, rfl, rfl⟩ | (subst h1; exact ih _ _ (by omega) (by omega)) | skip
theorem lo_lsum {τ : St} {ρ : Ms} {α : As} {D d nC nP nH nL x : Nat} (H : Cx τ ρ α D d nC nP nH nL x) (a b : Int32) (hab : b < 0 ↔ b = -1) : ∀ (m i k : Nat) (u : Int32), i + m = nL → m < k → ∃ r : Int32, X4_ledgerSum_L26 τ a b k u (nI i) = some r ∧ X5_ledgerSum_L25 ρ a b k u (nI i) = some r := by
  intro m
  induction m with
  | zero =>
    intro i k u e1 e2
    have hb := H.b
    obtain ⟨k, rfl⟩ : ∃ q, k = q + 1 := ⟨k - 1, by omega⟩
    rw [X4_ledgerSum_L26, X5_ledgerSum_L25, H.n.2.2.2.1, H.r.2.2.2.2]
    simp only [Option.bind_some]
    rw [if_pos (nI_le (by omega) (by omega)), if_pos (nI_le (by omega) (by omega))]
    exact ⟨_, rfl, rfl⟩
  | succ m ih =>
    intro i k u e1 e2
    obtain ⟨k, rfl⟩ : ∃ q, k = q + 1 := ⟨k - 1, by omega⟩
    have hb := H.b
    have hi : i < nL := by omega
    obtain ⟨c0, c1, c2, c3, c4⟩ := H.l hi
    obtain ⟨r0, r0', r1, r2, r3, r4⟩ := rq_l H.1 (show i < 60 by omega)
    rw [X4_ledgerSum_L26, X5_ledgerSum_L25, H.n.2.2.2.1, H.r.2.2.2.2]
    simp only [Option.bind_some]
    rw [if_neg (nI_ge hi (by omega)), if_neg (nI_ge hi (by omega))]
    simp only [c0, c1, c2, c3, c4, r0, r1, r2, r3, r4, nI_1, Option.bind_some, hab]
    by_cases h0 : α 5 i 1 = a <;> by_cases h1 : b = -1 <;> by_cases h2 : α 5 i 0 = b <;> simp (config := {decide := true, failIfUnchanged := false}) only [h0, h1, h2, if_true, if_false, bi_t0, bi_f0, Int32.add_zero, Option.bind_some] <;> first | exact ih _ _ _ (by omega) (by omega) | exact ⟨_, rfl, rfl⟩ | (subst h1; exact ih _ _ _ (by omega) (by omega)) | skip
