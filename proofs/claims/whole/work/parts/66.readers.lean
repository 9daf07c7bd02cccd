/-! THE READERS -/
theorem RR.cx {D : Nat} {σ : Fs} {ρ : Ms} (h : RR D σ ρ) : ∃ α d nC nP nH nL, Cx σ.1 ρ α D d nC nP nH nL 99 ∧ Shf α nC nH := by
  obtain ⟨-, ⟨α, d, nC, nP, nH, nL, a, b, c, e⟩, -⟩ := h
  exact ⟨α, d, nC, nP, nH, nL, ⟨a, b, c⟩, e⟩
theorem nI_neg {n : Nat} {v : Int32} (hn : n < 1000000000) (hv : v < 0) : nI n ≠ v := by
  intro e
  rw [← e] at hv
  exact nI_pos (by omega) hv
/-- who may borrow, and why not -/
theorem barred {τ : St} {ρ : Ms} {α : As} {D d nC nP nH nL x p : Nat} (H : Cx τ ρ α D d nC nP nH nL x) (hp : p < nP) : X5_isBarred ρ (nI p) = some (X4_owesTheLimit τ (nI p)) := by
  have hb := H.b
  obtain ⟨q0, -⟩ := H.p hp
  obtain ⟨w0, -⟩ := rq_p H.1 (show p < 8 by omega)
  obtain ⟨v0, v1, v2, v3, v4, -⟩ := H.v
  obtain ⟨s0, s1, s2, s3, s4, -⟩ := H.rs
  unfold X5_isBarred X4_owesTheLimit
  rw [w0, s4, q0, v4]
  simp only [Option.bind_some]
  split <;> rfl
theorem r_loans {τ : St} {ρ : Ms} {α : As} {D d nC nP nH nL : Nat} (H : Cx τ ρ α D d nC nP nH nL 99) (a : Int32) : ∃ r, X4_loanCount τ a = some r ∧ X5_loans ρ a = some r := by
  have hb := H.b
  exact lo_loans H a nC 0 FU 0 (by omega) (by unfold FU; omega)
theorem r_over {τ : St} {ρ : Ms} {α : As} {D d nC nP nH nL : Nat} (H : Cx τ ρ α D d nC nP nH nL 99) (a : Int32) : ∃ r, X4_overdueCount τ a = some r ∧ X5_overdue ρ a = some r := by
  have hb := H.b
  exact lo_over H a nC 0 FU 0 (by omega) (by unfold FU; omega)
theorem r_holdsOf {τ : St} {ρ : Ms} {α : As} {D d nC nP nH nL x : Nat} (H : Cx τ ρ α D d nC nP nH nL x) (a : Int32) : ∃ r, X4_holdsOf τ a = some r ∧ X5_holdsOf ρ a = some r := by
  have hb := H.b
  exact lo_holdsOf H a nH 0 FU 0 (by omega) (by unfold FU; omega)
theorem r_holds {τ : St} {ρ : Ms} {α : As} {D d nC nP nH nL x : Nat} (H : Cx τ ρ α D d nC nP nH nL x) {t : Nat} (ht : t < 6) : ∃ r, X4_holdsBefore τ (nI nH) (nI t) = some r ∧ X5_holds ρ (nI t) = some r := by
  have hb := H.b
  exact lo_holds H (show t < 100 by omega) nH 0 FU 0 (by omega) (by unfold FU; omega)
theorem r_wait {τ : St} {ρ : Ms} {α : As} {D d nC nP nH nL x : Nat} (H : Cx τ ρ α D d nC nP nH nL x) (a : Int32) : ∃ r, X4_waitingBefore τ (nI nH) a = some r ∧ X5_waitingFor ρ a = some r := by
  have hb := H.b
  exact lo_wait H a nH 0 FU 0 (by omega) (by unfold FU; omega)
theorem fine_eq {τ : St} {ρ : Ms} {α : As} {D d nC nP nH nL x c : Nat} (H : Cx τ ρ α D d nC nP nH nL x) (hc : c < nC) (hx : c ≠ x) (h : α 2 c 3 = 4 ∨ α 2 c 3 = 5) : X4_fineOf τ (nI c) = α 2 c 9 := by
  obtain ⟨-, -, -, c3, -, -, -, -, -, -, c10, -⟩ := H.c hc hx
  unfold X4_fineOf X4_stateOf
  rw [c3, if_neg (by rcases h with h | h <;> rw [h] <;> decide), c10 h]
theorem lo_est {τ : St} {ρ : Ms} {α : As} {D d nC nP nH nL x : Nat} (H : Cx τ ρ α D d nC nP nH nL x) (a : Int32) {z : Nat} (hz : z ≤ nH) : ∀ (m i k : Nat) (u : Int32), i + m = z → m < k → ∃ r : Int32, X4_waitingBefore_L5 τ (nI z) a k u (nI i) = some r ∧ X5_estimate_L48 ρ a (nI z) k u (nI i) = X5_estimate_L96 ρ a r FU 0 := by
  intro m
  induction m with
  | zero =>
    intro i k u e1 e2
    have hb := H.b
    obtain ⟨k, rfl⟩ : ∃ q, k = q + 1 := ⟨k - 1, by omega⟩
    rw [X4_waitingBefore_L5, X5_estimate_L48]
    rw [if_pos (nI_le (by omega) (by omega)), if_pos (nI_le (by omega) (by omega))]
    exact ⟨_, rfl, rfl⟩
  | succ m ih =>
    intro i k u e1 e2
    obtain ⟨k, rfl⟩ : ∃ q, k = q + 1 := ⟨k - 1, by omega⟩
    have hb := H.b
    have hi : i < nH := by omega
    have hz2 : i < z := by omega
    obtain ⟨c0, c1, c2, c3⟩ := H.h hi
    obtain ⟨r0, r1, r2, r3⟩ := rd_o H.1 (show i < 24 by omega)
    rw [X4_waitingBefore_L5, X5_estimate_L48]
    rw [if_neg (nI_ge hz2 (by omega)), if_neg (nI_ge hz2 (by omega)), r0, Option.bind_some, r3, Option.bind_some]
    simp only [c0, c1, c2, c3, X4_isWaiting, nI_1]
    by_cases h0 : α 4 i 0 = a
    · by_cases h1 : α 4 i 3 = -2
      · simp only [if_pos h0, if_pos h1, bi_t0, if_false]
        exact ih _ _ _ (by omega) (by omega)
      · simp only [if_pos h0, if_neg h1, bi_f0, if_true, Int32.add_zero]
        exact ih _ _ _ (by omega) (by omega)
    · simp only [if_neg h0, bi_f0, if_true, Int32.add_zero]
      exact ih _ _ _ (by omega) (by omega)
theorem est {τ : St} {ρ : Ms} {α : As} {D d nC nP nH nL : Nat} (H : Cx τ ρ α D d nC nP nH nL 99) (hD : D ≤ 20000000) (a : Int32) {z : Nat} (hz : z ≤ nH) : ∃ r : Int32, X4_waitingBefore τ (nI z) a = some r ∧ ∃ r', (some r).bind (fun v12 => X4_estimate_L61 τ a v12 FU 0) = some r' ∧ X5_estimate_L48 ρ a (nI z) FU 0 0 = some r' := by
  have hb := H.b
  obtain ⟨r, q1, q2⟩ := lo_est H a hz z 0 FU 0 (by omega) (by unfold FU; omega)
  obtain ⟨r', q3, q4⟩ := lo_es H hD a r nC 0 FU (by omega) (by unfold FU; omega)
  exact ⟨r, q1, r', q3, q2.trans q4⟩
theorem lo_all {τ : St} {ρ : Ms} {α : As} {D d nC nP nH nL : Nat} (H : Cx τ ρ α D d nC nP nH nL 99) : ∀ (m i k : Nat), i + m = nC → m < k → X5_copyCount_L15 ρ (-1) k (nI i) (nI i) = some (nI nC) := by
  intro m
  induction m with
  | zero =>
    intro i k e1 e2
    have hb := H.b
    obtain ⟨k, rfl⟩ : ∃ q, k = q + 1 := ⟨k - 1, by omega⟩
    rw [X5_copyCount_L15, H.r.2.1, Option.bind_some, if_pos (nI_le (by omega) (by omega)), ← e1]
    rfl
  | succ m ih =>
    intro i k e1 e2
    have hb := H.b
    obtain ⟨k, rfl⟩ : ∃ q, k = q + 1 := ⟨k - 1, by omega⟩
    rw [X5_copyCount_L15, H.r.2.1, Option.bind_some, if_neg (nI_ge (by omega) (by omega)), if_pos (by decide), nI_1]
    exact ih _ _ (by omega) (by omega)
theorem lo_hall {τ : St} {ρ : Ms} {α : As} {D d nC nP nH nL : Nat} (H : Cx τ ρ α D d nC nP nH nL 99) : ∀ (m i k : Nat), i + m = nH → m < k → X5_holds_L4 ρ (-1) k (nI i) (nI i) = some (nI nH) := by
  intro m
  induction m with
  | zero =>
    intro i k e1 e2
    have hb := H.b
    obtain ⟨k, rfl⟩ : ∃ q, k = q + 1 := ⟨k - 1, by omega⟩
    rw [X5_holds_L4, H.r.2.2.2.1, Option.bind_some, if_pos (nI_le (by omega) (by omega)), ← e1]
    rfl
  | succ m ih =>
    intro i k e1 e2
    have hb := H.b
    obtain ⟨k, rfl⟩ : ∃ q, k = q + 1 := ⟨k - 1, by omega⟩
    rw [X5_holds_L4, H.r.2.2.2.1, Option.bind_some, if_neg (nI_ge (by omega) (by omega)), if_pos (by decide), nI_1]
    exact ih _ _ (by omega) (by omega)
theorem in2 (b : Int32) {lo hi hj : Int32} (e : hi.toInt + 1 = hj.toInt) : (b < lo → X5_in b lo hi = false) ∧ (¬ b < lo → b < hj → X5_in b lo hi = true) ∧ (¬ b < hj → X5_in b lo hi = false) := by
  unfold X5_in
  refine ⟨fun h => by rw [if_pos h], fun h h' => ?_, fun h => ?_⟩
  · rw [if_neg h, if_neg]
    rw [Int32.lt_iff_toInt_lt] at h' ⊢
    omega
  · by_cases z : b < lo
    · rw [if_pos z]
    · rw [if_neg z, if_pos]
      rw [Int32.lt_iff_toInt_lt] at h ⊢
      omega
theorem lt_ix {b : Int32} {n : Nat} {v : Int32} (hv : v = nI n) (hn : n < 1000) (h : ¬ b < 0) (h' : b < v) : ∃ j, j < n ∧ b = nI j := by
  subst hv
  rcases pk_ix b (n := n) (by omega) with z | z | z
  · exact absurd z h
  · exact absurd h' (Int32.not_lt.mpr z)
  · exact z
theorem sim_day {D : Nat} (hD : D ≤ 10000000) {σ : Fs} {ρ : Ms} (h : RR D σ ρ) : ∃ r, X4_day σ.1 = r ∧ X5_day ρ = some r := by
  obtain ⟨α, d, nC, nP, nH, nL, H, hS⟩ := h.cx
  have hb := H.b
  unfold X4_day X5_day
  rw [H.r.1, H.n.2.2.2.2.2]
  exact ⟨_, rfl, rfl⟩
theorem sim_patronCount {D : Nat} (hD : D ≤ 10000000) {σ : Fs} {ρ : Ms} (h : RR D σ ρ) : ∃ r, X4_patronCount σ.1 = r ∧ X5_patronCount ρ = some r := by
  obtain ⟨α, d, nC, nP, nH, nL, H, hS⟩ := h.cx
  have hb := H.b
  unfold X4_patronCount X5_patronCount
  rw [H.r.2.2.1, H.n.2.1]
  exact ⟨_, rfl, rfl⟩
theorem sim_ledgerSize {D : Nat} (hD : D ≤ 10000000) {σ : Fs} {ρ : Ms} (h : RR D σ ρ) : ∃ r, X4_ledgerSize σ.1 = r ∧ X5_ledgerSize ρ = some r := by
  obtain ⟨α, d, nC, nP, nH, nL, H, hS⟩ := h.cx
  have hb := H.b
  unfold X4_ledgerSize X5_ledgerSize
  rw [H.r.2.2.2.2, H.n.2.2.2.1]
  exact ⟨_, rfl, rfl⟩
theorem sim_owes {D : Nat} (hD : D ≤ 10000000) {σ : Fs} {ρ : Ms} (h : RR D σ ρ) (a : Int32) : ∃ r, X4_owes σ.1 a = r ∧ X5_owes_ ρ a = some r := by
  obtain ⟨α, d, nC, nP, nH, nL, H, hS⟩ := h.cx
  have hb := H.b
  unfold X4_owes X5_owes_
  rcases H.isP a with ⟨e1, e2⟩ | ⟨p, hp, rfl, e1, e2⟩
  · rw [e1, e2]
    simp only [bi_f0, if_true, Option.bind_some]
    exact ⟨_, rfl, rfl⟩
  · rw [e1, e2]
    simp only [bi_t0, if_false, Option.bind_some]
    rw [(H.p hp).1, (rq_p H.1 (show p < 8 by omega)).1]
    exact ⟨_, rfl, rfl⟩
theorem sim_accrued {D : Nat} (hD : D ≤ 10000000) {σ : Fs} {ρ : Ms} (h : RR D σ ρ) (a : Int32) : ∃ r, X4_accrued σ.1 a = some r ∧ X5_accrued ρ a = some r := by
  obtain ⟨α, d, nC, nP, nH, nL, H, hS⟩ := h.cx
  have hb := H.b
  unfold X4_accrued X5_accrued
  rcases H.isP a with ⟨e1, e2⟩ | ⟨p, hp, rfl, e1, e2⟩
  · rw [e1, e2]
    simp only [bi_f0, if_true, Option.bind_some]
    exact ⟨_, rfl, rfl⟩
  · rw [e1, e2]
    simp only [bi_t0, if_false, Option.bind_some]
    exact lo_accr H (by omega) (nI p) nC 0 FU 0 (by omega) (by unfold FU; omega)
theorem sim_loanOf {D : Nat} (hD : D ≤ 10000000) {σ : Fs} {ρ : Ms} (h : RR D σ ρ) (a b : Int32) : ∃ r, X4_loanOf σ.1 a b = some r ∧ X5_loanOf ρ a b = some r := by
  obtain ⟨α, d, nC, nP, nH, nL, H, hS⟩ := h.cx
  have hb := H.b
  unfold X4_loanOf X5_loanOf
  rcases H.isP a with ⟨e1, e2⟩ | ⟨p, hp, rfl, e1, e2⟩
  · rw [e1, e2]
    simp only [bi_f0, if_true, Option.bind_some]
    exact ⟨_, rfl, rfl⟩
  · rw [e1, e2]
    simp only [bi_t0, if_false, Option.bind_some]
    obtain ⟨r, q1, q2⟩ := nxt H (s := 1) (Or.inl rfl) (nI p) b
    rw [q1, q2]
    exact ⟨_, rfl, rfl⟩
theorem sim_patron {D : Nat} (hD : D ≤ 10000000) {σ : Fs} {ρ : Ms} (h : RR D σ ρ) (a b : Int32) : ∃ r, X4_patron σ.1 a b = some r ∧ X5_patron ρ a b = some r := by
  obtain ⟨α, d, nC, nP, nH, nL, H, hS⟩ := h.cx
  have hb := H.b
  unfold X4_patron X5_patron
  rcases H.isP a with ⟨e1, e2⟩ | ⟨p, hp, rfl, e1, e2⟩
  · rw [e1, e2]
    simp only [bi_f0, if_true, Option.bind_some]
    exact ⟨_, rfl, rfl⟩
  · rw [e1, e2]
    simp only [bi_t0, if_false, Option.bind_some]
    obtain ⟨r1, u1, u2⟩ := r_loans H (nI p)
    obtain ⟨r2, u3, u4⟩ := r_holdsOf H (nI p)
    obtain ⟨r3, u5, u6⟩ := r_over H (nI p)
    obtain ⟨-, p1, p2, p3⟩ := H.p hp
    obtain ⟨-, -, s1, s2, s3⟩ := rq_p H.1 (show p < 8 by omega)
    rw [u1, u2, u3, u4, u5, u6, p1, p2, p3, s1, s2, s3]
    simp only [Option.bind_some]
    repeat' split
    all_goals exact ⟨_, rfl, rfl⟩
theorem sim_ledgerSum {D : Nat} (hD : D ≤ 10000000) {σ : Fs} {ρ : Ms} (h : RR D σ ρ) (a b : Int32) : ∃ r, X4_ledgerSum σ.1 a b = some r ∧ X5_ledgerSum ρ a b = some r := by
  obtain ⟨α, d, nC, nP, nH, nL, H, hS⟩ := h.cx
  have hb := H.b
  unfold X4_ledgerSum X5_ledgerSum
  rcases H.isP a with ⟨e1, e2⟩ | ⟨p, hp, rfl, e1, e2⟩
  · rw [e1, e2]
    simp only [bi_f0, if_true, Option.bind_some]
    exact ⟨_, rfl, rfl⟩
  · rw [e1, e2]
    simp only [bi_t0, if_false, Option.bind_some]
    obtain ⟨i1, i2, i3⟩ := in2 b (lo := -1) (hi := 4) (hj := 5) (by decide)
    by_cases h1 : b < -1
    · simp only [if_pos h1, i1 h1, bi_f0, if_true]
      exact ⟨_, rfl, rfl⟩
    · by_cases h2 : b < 5
      · simp only [if_neg h1, if_pos h2, i2 h1 h2, bi_t0, if_false]
        refine lo_lsum H (nI p) b ?_ nL 0 FU 0 (by omega) (by unfold FU; omega)
        rw [Int32.lt_iff_toInt_lt, show ((-1 : Int32)).toInt = -1 by decide] at h1
        rw [Int32.lt_iff_toInt_lt, ← Int32.toInt_inj, show ((-1 : Int32)).toInt = -1 by decide, show ((0 : Int32)).toInt = 0 by decide]
        omega
      · simp only [if_neg h1, if_neg h2, i3 h2, bi_f0, if_true]
        exact ⟨_, rfl, rfl⟩
theorem sim_waiting {D : Nat} (hD : D ≤ 10000000) {σ : Fs} {ρ : Ms} (h : RR D σ ρ) (a : Int32) : ∃ r, X4_waiting σ.1 a = some r ∧ X5_waiting ρ a = some r := by
  obtain ⟨α, d, nC, nP, nH, nL, H, hS⟩ := h.cx
  have hb := H.b
  unfold X4_waiting X5_waiting
  rcases isT a with ⟨e1, e2⟩ | ⟨t, ht, rfl, e1, e2⟩
  · simp only [e1, e2, bi_f0, if_true]
    exact ⟨_, rfl, rfl⟩
  · simp only [e1, e2, bi_t0, if_false]
    obtain ⟨r, q1, q2⟩ := r_wait H (nI t)
    rw [H.n.2.2.1, q1, q2]
    exact ⟨_, rfl, rfl⟩
theorem sim_arriving {D : Nat} (hD : D ≤ 10000000) {σ : Fs} {ρ : Ms} (h : RR D σ ρ) (a b : Int32) : ∃ r, X4_arriving σ.1 a b = some r ∧ X5_arriving ρ a b = some r := by
  obtain ⟨α, d, nC, nP, nH, nL, H, hS⟩ := h.cx
  have hb := H.b
  unfold X4_arriving X5_arriving
  rcases isB a with ⟨e1, e2⟩ | ⟨t, ht, rfl, e1, e2⟩
  · simp only [e1, e2, bi_f0, if_true]
    exact ⟨_, rfl, rfl⟩
  · simp only [e1, e2, bi_t0, if_false]
    obtain ⟨r, q1, q2⟩ := nxt H (s := 2) (Or.inr rfl) (nI t) b
    rw [q1, q2]
    exact ⟨_, rfl, rfl⟩
theorem sim_shelf {D : Nat} (hD : D ≤ 10000000) {σ : Fs} {ρ : Ms} (h : RR D σ ρ) (a b : Int32) : ∃ r, X4_shelf σ.1 a b = some r ∧ X5_shelf ρ a b = some r := by
  obtain ⟨α, d, nC, nP, nH, nL, H, hS⟩ := h.cx
  have hb := H.b
  unfold X4_shelf X5_shelf
  rcases isB a with ⟨e1, e2⟩ | ⟨t, ht, rfl, e1, e2⟩
  · simp only [e1, e2, bi_f0, if_true]
    exact ⟨_, rfl, rfl⟩
  · simp only [e1, e2, bi_t0, if_false]
    exact lo_shelf H (nI t) b nC 0 FU 0 (by omega) (by unfold FU; omega)
theorem sim_place {D : Nat} (hD : D ≤ 10000000) {σ : Fs} {ρ : Ms} (h : RR D σ ρ) (a b : Int32) : ∃ r, X4_place σ.1 a b = some r ∧ X5_place ρ a b = some r := by
  obtain ⟨α, d, nC, nP, nH, nL, H, hS⟩ := h.cx
  have hb := H.b
  unfold X4_place X5_place
  rcases H.isP a with ⟨e1, e2⟩ | ⟨p, hp, rfl, e1, e2⟩
  · rw [e1, e2]
    simp only [bi_f0, if_true, Option.bind_some]
    exact ⟨_, rfl, rfl⟩
  · rw [e1, e2]
    simp only [bi_t0, if_false, Option.bind_some]
    rcases isT b with ⟨e3, e4⟩ | ⟨t, ht, rfl, e3, e4⟩
    · simp only [e3, e4, bi_f0, if_true]
      exact ⟨_, rfl, rfl⟩
    · simp only [e3, e4, bi_t0, if_false]
      obtain ⟨f1, f2⟩ := fx_by H (nI p) (nI t)
      rw [f1, f2]
      simp only [Option.bind_some]
      rcases ffi_spec nH (fun j => decide (α 4 j 1 = nI p ∧ α 4 j 0 = nI t)) with ⟨z1, z2⟩ | ⟨w, z1, z2, z3, -⟩
      · rw [z1, if_pos rfl, if_neg (by decide)]
        exact ⟨_, rfl, rfl⟩
      · rw [z2, if_neg (nI_neg (by omega) (by decide)), if_pos (nI_pos' (by omega))]
        obtain ⟨r, q1, q2⟩ := lo_before H (nI t) (show w ≤ nH by omega) w 0 FU 0 (by omega) (by unfold FU; omega)
        rw [show X4_holdsBefore σ.1 (nI w) (nI t) = some r from q1, show X5_place_L37 ρ (nI t) (nI w) FU 0 0 = some r from q2]
        exact ⟨_, rfl, rfl⟩
theorem sim_estimate {D : Nat} (hD : D ≤ 10000000) {σ : Fs} {ρ : Ms} (h : RR D σ ρ) (a b : Int32) : ∃ r, X4_estimate σ.1 a b = some r ∧ X5_estimate ρ a b = some r := by
  obtain ⟨α, d, nC, nP, nH, nL, H, hS⟩ := h.cx
  have hb := H.b
  unfold X4_estimate X5_estimate
  rcases H.isP a with ⟨e1, e2⟩ | ⟨p, hp, rfl, e1, e2⟩
  · rw [e1, e2]
    simp only [bi_f0, if_true, Option.bind_some]
    exact ⟨_, rfl, rfl⟩
  · rw [e1, e2]
    simp only [bi_t0, if_false, Option.bind_some]
    rcases isT b with ⟨e3, e4⟩ | ⟨t, ht, rfl, e3, e4⟩
    · simp only [e3, e4, bi_f0, if_true]
      exact ⟨_, rfl, rfl⟩
    · simp only [e3, e4, bi_t0, if_false]
      obtain ⟨f1, f2⟩ := fx_by H (nI p) (nI t)
      rw [f1, f2]
      simp only [Option.bind_some]
      rcases ffi_spec nH (fun j => decide (α 4 j 1 = nI p ∧ α 4 j 0 = nI t)) with ⟨z1, z2⟩ | ⟨w, z1, z2, z3, -⟩
      · rw [z1, if_pos rfl, if_pos (by decide)]
        exact ⟨_, rfl, rfl⟩
      · rw [z2, if_neg (nI_neg (by omega) (by decide)), if_neg (nI_pos (by omega)), (H.h z1).2.2.1, (rd_o H.1 (show w < 24 by omega)).2.2.2]
        rw [Option.bind_some]
        by_cases h9 : α 4 w 3 = -2
        · rw [if_pos h9, if_pos h9]
          obtain ⟨r, q1, q2⟩ := est H (by omega) (nI t) (show w ≤ nH by omega)
          rw [q1]
          obtain ⟨r', q3, q4⟩ := q2
          exact ⟨r', q3, q4⟩
        · rw [if_neg h9, if_neg h9]
          exact ⟨_, rfl, rfl⟩
theorem sim_ledger {D : Nat} (hD : D ≤ 10000000) {σ : Fs} {ρ : Ms} (h : RR D σ ρ) (a b : Int32) : ∃ r, X4_ledger σ.1 a b = r ∧ X5_ledger ρ a b = some r := by
  obtain ⟨α, d, nC, nP, nH, nL, H, hS⟩ := h.cx
  have hb := H.b
  unfold X4_ledger X5_ledger
  rw [H.r.2.2.2.2, Option.bind_some]
  obtain ⟨i1, i2, i3⟩ := isIn a (n := nL) (by omega)
  unfold thas
  rw [H.n.2.2.2.1]
  by_cases z : a < 0
  · simp only [i3 z, bi_f0, if_true]
    rw [show decide (0 ≤ a) = false from decide_eq_false (Int32.not_le.mpr z)]
    simp only [Bool.false_and, bi_f0, if_true]
    exact ⟨_, rfl, rfl⟩
  · by_cases z' : nI nL ≤ a
    · rw [show decide (a < nI nL) = false from decide_eq_false (Int32.not_lt.mpr z')]
      simp only [Bool.and_false, bi_f0, if_true]
      have e : X5_in a 0 (nI nL - 1) = false := by
        rcases Nat.eq_zero_or_pos nL with e | e
        · subst e
          unfold X5_in
          rw [if_neg z, if_pos]
          rw [show nI 0 - 1 = -1 by decide]
          exact Int32.lt_of_lt_of_le (show (-1 : Int32) < 0 by decide) (Int32.not_lt.mp z)
        · exact i2 z' e
      simp only [e, bi_f0, if_true]
      exact ⟨_, rfl, rfl⟩
    · obtain ⟨e, t, ht, rfl⟩ := i1 z z'
      rw [show decide (0 ≤ nI t) = true from decide_eq_true (Int32.not_lt.mp z), show decide (nI t < nI nL) = true from decide_eq_true (Int32.not_le.mp z')]
      simp only [Bool.and_self, e, bi_t0, if_false]
      obtain ⟨j1, j2, j3⟩ := in2 b (lo := 0) (hi := 4) (hj := 5) (by decide)
      by_cases h1 : b < 0
      · simp only [if_pos h1, j1 h1, bi_f0, if_true]
        exact ⟨_, rfl, rfl⟩
      · by_cases h2 : b < 5
        · simp only [if_neg h1, if_pos h2, j2 h1 h2, bi_t0, if_false]
          obtain ⟨k, hk, rfl⟩ := lt_ix (n := 5) rfl (by omega) h1 h2
          obtain ⟨l0, l1, l2, l3, l4⟩ := H.l ht
          obtain ⟨-, m0, m1, m2, m3, m4⟩ := rq_l H.1 (show t < 60 by omega)
          rcases (show k = 0 ∨ k = 1 ∨ k = 2 ∨ k = 3 ∨ k = 4 by omega) with rfl | rfl | rfl | rfl | rfl
          · exact ⟨_, l0, by rw [show nI 0 = 0 from rfl, m0]; rfl⟩
          · exact ⟨_, l1, by rw [show nI 1 = 1 from rfl, m1]; rfl⟩
          · exact ⟨_, l2, by rw [show nI 2 = 2 from rfl, m2]; rfl⟩
          · exact ⟨_, l3, by rw [show nI 3 = 3 from rfl, m3]; rfl⟩
          · exact ⟨_, l4, by rw [show nI 4 = 4 from rfl, m4]; rfl⟩
        · simp only [if_neg h1, if_neg h2, j3 h2, bi_f0, if_true]
          exact ⟨_, rfl, rfl⟩
theorem sim_setting {D : Nat} (hD : D ≤ 10000000) {σ : Fs} {ρ : Ms} (h : RR D σ ρ) (a : Int32) : ∃ r, X4_setting σ.1 a = r ∧ X5_setting ρ a = some r := by
  obtain ⟨α, d, nC, nP, nH, nL, H, hS⟩ := h.cx
  have hb := H.b
  unfold X4_setting X5_setting
  unfold thas
  rw [H.n.2.2.2.2.1]
  obtain ⟨j1, j2, j3⟩ := in2 a (lo := 0) (hi := 7) (hj := 8) (by decide)
  by_cases h1 : a < 0
  · rw [show decide (0 ≤ a) = false from decide_eq_false (Int32.not_le.mpr h1)]
    simp only [Bool.false_and, j1 h1, bi_f0, if_true]
    exact ⟨_, rfl, rfl⟩
  · by_cases h2 : a < 8
    · obtain ⟨k, hk, rfl⟩ := lt_ix (n := 8) rfl (by omega) h1 h2
      rw [show decide (0 ≤ nI k) = true from decide_eq_true (Int32.not_lt.mp h1), show decide (nI k < nI 8) = true from decide_eq_true h2]
      simp only [Bool.and_self, j2 h1 h2, bi_t0, if_false]
      rw [rd_s H.1 hk]
      obtain ⟨v0, v1, v2, v3, v4, v5, v6, v7⟩ := H.v
      rcases (show k = 0 ∨ k = 1 ∨ k = 2 ∨ k = 3 ∨ k = 4 ∨ k = 5 ∨ k = 6 ∨ k = 7 by omega) with rfl | rfl | rfl | rfl | rfl | rfl | rfl | rfl
      · exact ⟨_, v0, rfl⟩
      · exact ⟨_, v1, rfl⟩
      · exact ⟨_, v2, rfl⟩
      · exact ⟨_, v3, rfl⟩
      · exact ⟨_, v4, rfl⟩
      · exact ⟨_, v5, rfl⟩
      · exact ⟨_, v6, rfl⟩
      · exact ⟨_, v7, rfl⟩
    · rw [show decide (a < nI 8) = false from decide_eq_false h2]
      simp only [Bool.and_false, j3 h2, bi_f0, if_true]
      exact ⟨_, rfl, rfl⟩
theorem sim_fine {D : Nat} (hD : D ≤ 10000000) {σ : Fs} {ρ : Ms} (h : RR D σ ρ) (a : Int32) : ∃ r, X4_fine σ.1 a = r ∧ X5_fine ρ a = some r := by
  obtain ⟨α, d, nC, nP, nH, nL, H, hS⟩ := h.cx
  have hb := H.b
  unfold X4_fine X5_fine
  rcases H.isC a with ⟨e1, e2⟩ | ⟨c, hc, rfl, e1, e2⟩
  · rw [e1, e2]
    simp only [bi_f0, if_true, Option.bind_some]
    exact ⟨_, rfl, rfl⟩
  · rw [e1, e2]
    simp only [bi_t0, if_false, Option.bind_some]
    obtain ⟨c0, c1, c2, c3, -⟩ := H.c hc (by omega)
    obtain ⟨r0, r1, r2, r3, r4, r5, r6, r7, r8, r9, -⟩ := rd_c H.1 (show c < 20 by omega)
    unfold X4_isWithPatron X4_stateOf
    rw [c3, r3, Option.bind_some]
    by_cases h1 : α 2 c 3 = 1
    · simp only [if_pos h1, bi_t0, if_false]
      rw [late_fine H (by omega) hc (by omega) h1]
      exact ⟨_, rfl, rfl⟩
    · by_cases h4 : α 2 c 3 = 4
      · simp only [if_neg h1, if_pos h4, bi_t0, if_false]
        rw [fine_eq H hc (by omega) (Or.inl h4), r9]
        exact ⟨_, rfl, rfl⟩
      · by_cases h5 : α 2 c 3 = 5
        · simp only [if_neg h1, if_neg h4, if_pos h5, bi_t0, if_false]
          rw [fine_eq H hc (by omega) (Or.inr h5), r9]
          exact ⟨_, rfl, rfl⟩
        · simp only [if_neg h1, if_neg h4, if_neg h5, bi_f0, if_true]
          exact ⟨_, rfl, rfl⟩
theorem sim_copyCount {D : Nat} (hD : D ≤ 10000000) {σ : Fs} {ρ : Ms} (h : RR D σ ρ) (a : Int32) : ∃ r, X4_copyCount σ.1 a = some r ∧ X5_copyCount ρ a = some r := by
  obtain ⟨α, d, nC, nP, nH, nL, H, hS⟩ := h.cx
  have hb := H.b
  unfold X4_copyCount X5_copyCount
  obtain ⟨j1, j2, j3⟩ := in2 a (lo := -1) (hi := 5) (hj := 6) (by decide)
  by_cases h0 : a = -1
  · subst h0
    rw [if_pos rfl, show X5_in (-1) (-1) 5 = true by decide]
    simp only [bi_t0, if_false]
    rw [H.n.1]
    refine ⟨_, rfl, ?_⟩
    have key := lo_all H nC 0 FU (by omega) (by unfold FU; omega)
    exact key
  · rw [if_neg h0]
    by_cases h1 : a < 0
    · have : a < -1 := by
        rw [Int32.lt_iff_toInt_lt, show ((0 : Int32)).toInt = 0 by decide] at h1
        rw [Int32.lt_iff_toInt_lt, show ((-1 : Int32)).toInt = -1 by decide]
        have : a.toInt ≠ -1 := fun q => h0 (Int32.toInt_inj.mp (by rw [q]; decide))
        omega
      simp only [if_pos h1, j1 this, bi_f0, if_true]
      exact ⟨_, rfl, rfl⟩
    · have h1' : ¬ a < -1 := fun q => h1 (Int32.lt_of_lt_of_le q (by decide))
      by_cases h2 : a < 6
      · simp only [if_neg h1, if_pos h2, j2 h1' h2, bi_t0, if_false]
        obtain ⟨k, hk, rfl⟩ := lt_ix (n := 6) rfl (by omega) h1 h2
        exact lo_copies H (show k < 100 by omega) nC 0 FU 0 (by omega) (by unfold FU; omega)
      · simp only [if_neg h1, if_neg h2, j3 h2, bi_f0, if_true]
        exact ⟨_, rfl, rfl⟩
theorem sim_holdCount {D : Nat} (hD : D ≤ 10000000) {σ : Fs} {ρ : Ms} (h : RR D σ ρ) (a : Int32) : ∃ r, X4_holdCount σ.1 a = some r ∧ X5_holdCount ρ a = some r := by
  obtain ⟨α, d, nC, nP, nH, nL, H, hS⟩ := h.cx
  have hb := H.b
  unfold X4_holdCount X5_holdCount
  obtain ⟨j1, j2, j3⟩ := in2 a (lo := -1) (hi := 5) (hj := 6) (by decide)
  by_cases h0 : a = -1
  · subst h0
    rw [if_pos rfl, show X5_in (-1) (-1) 5 = true by decide]
    simp only [bi_t0, if_false]
    rw [H.n.2.2.1]
    refine ⟨_, rfl, ?_⟩
    have key := lo_hall H nH 0 FU (by omega) (by unfold FU; omega)
    rw [show X5_holds ρ (-1) = some (nI nH) from key]
    rfl
  · rw [if_neg h0]
    rcases isT a with ⟨e1, e2⟩ | ⟨t, ht, rfl, e1, e2⟩
    · have e : X5_in a (-1) 5 = false := by
        unfold X5_isTitle X5_in at e2
        unfold X5_in
        by_cases z : a < 0
        · have : a < -1 := by
            rw [Int32.lt_iff_toInt_lt, show ((0 : Int32)).toInt = 0 by decide] at z
            rw [Int32.lt_iff_toInt_lt, show ((-1 : Int32)).toInt = -1 by decide]
            have : a.toInt ≠ -1 := fun q => h0 (Int32.toInt_inj.mp (by rw [q]; decide))
            omega
          rw [if_pos this]
        · rw [if_neg z] at e2
          rw [if_neg (fun q => z (Int32.lt_of_lt_of_le q (by decide)))]
          exact e2
      simp only [e1, e, bi_f0, if_true]
      exact ⟨_, rfl, rfl⟩
    · have e : X5_in (nI t) (-1) 5 = true := by
        refine j2 (fun q => nI_pos (show t < 2 ^ 31 by omega) (Int32.lt_of_lt_of_le q (by decide))) ?_
        exact nI_lt (b := 6) ht (by omega)
      simp only [e1, e, bi_t0, if_false]
      obtain ⟨r, q1, q2⟩ := r_holds H ht
      rw [H.n.2.2.1, q1, q2]
      exact ⟨_, rfl, rfl⟩
