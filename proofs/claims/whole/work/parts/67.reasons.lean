/-! THE READERS, ON -/
theorem nI_m1 (n : Nat) : nI (n + 1) + -1 = nI n := by
  rw [show (-1 : Int32) = -(1 : Int32) by decide, ← Int32.sub_eq_add_neg, nI_pred]
theorem lo_at {τ : St} {ρ : Ms} {α : As} {D d nC nP nH nL : Nat} (H : Cx τ ρ α D d nC nP nH nL 99) (a : Int32) {B c : Nat} (hB : B < 2 ^ 31) (hc : c < 3) : ∀ (m i k q : Nat), i + m = nH → m < k → q ≤ B → ∃ r, X4_holdAt_L24 τ a (nI B) (nI c) k (nI q) (nI i) = some r ∧ X5_holdAt_L24 ρ a (nI B) (nI c) k (nI (B - q)) (nI i) = some r := by
  intro m
  induction m with
  | zero =>
    intro i k q e1 e2 e3
    have hb := H.b
    obtain ⟨k, rfl⟩ : ∃ q, k = q + 1 := ⟨k - 1, by omega⟩
    rw [X4_holdAt_L24, X5_holdAt_L24, H.n.2.2.1, H.r.2.2.2.1, Option.bind_some, if_pos (nI_le (by omega) (by omega)), if_pos (nI_le (by omega) (by omega))]
    exact ⟨_, rfl, rfl⟩
  | succ m ih =>
    intro i k q e1 e2 e3
    obtain ⟨k, rfl⟩ : ∃ q, k = q + 1 := ⟨k - 1, by omega⟩
    have hb := H.b
    have hi : i < nH := by omega
    obtain ⟨c0, c1, c2, c3⟩ := H.h hi
    obtain ⟨r0, r1, r2, r3⟩ := rd_o H.1 (show i < 24 by omega)
    rw [X4_holdAt_L24, X5_holdAt_L24, H.n.2.2.1, H.r.2.2.2.1, Option.bind_some, if_neg (nI_ge hi (by omega)), if_neg (nI_ge hi (by omega)), if_neg (nI_pos hB), r0, Option.bind_some, c3, nI_1, nI_1]
    by_cases h0 : α 4 i 0 = a
    · rw [if_pos h0, if_pos h0]
      by_cases h1 : q = B
      · subst h1
        rw [if_pos rfl, Nat.sub_self, if_pos nI_0]
        rcases (show c = 0 ∨ c = 1 ∨ c = 2 by omega) with rfl | rfl | rfl
        · rw [show nI 0 = 0 from rfl, show (1 : Int32) + 0 = 1 by decide, c0, r1]; exact ⟨_, rfl, rfl⟩
        · rw [show nI 1 = 1 from rfl, show (1 : Int32) + 1 = 2 by decide, c1, r2]; exact ⟨_, rfl, rfl⟩
        · rw [show nI 2 = 2 from rfl, show (1 : Int32) + 2 = 3 by decide, c2, r3]; exact ⟨_, rfl, rfl⟩
      · rw [if_neg (fun e => h1 ((nI_eq (by omega) (by omega)).mp e)), if_neg (nI_ne0 (by omega) (by omega))]
        obtain ⟨w, hw⟩ : ∃ w, B - q = w + 1 := ⟨B - q - 1, by omega⟩
        rw [hw, nI_m1, show w = B - (q + 1) by omega]
        exact ih _ _ _ (by omega) (by omega) (by omega)
    · rw [if_neg h0, if_neg h0]
      exact ih _ _ _ (by omega) (by omega) e3
theorem lo_atn {τ : St} {ρ : Ms} {α : As} {D d nC nP nH nL : Nat} (H : Cx τ ρ α D d nC nP nH nL 99) (a : Int32) {b c : Int32} (hB : b < 0) : ∀ (m i k q : Nat), i + m = nH → m < k → q ≤ i → X4_holdAt_L24 τ a b c k (nI q) (nI i) = some (-2) := by
  intro m
  induction m with
  | zero =>
    intro i k q e1 e2 e3
    have hb := H.b
    obtain ⟨k, rfl⟩ : ∃ q, k = q + 1 := ⟨k - 1, by omega⟩
    rw [X4_holdAt_L24, H.n.2.2.1, if_pos (nI_le (by omega) (by omega))]
  | succ m ih =>
    intro i k q e1 e2 e3
    have hb := H.b
    obtain ⟨k, rfl⟩ : ∃ q, k = q + 1 := ⟨k - 1, by omega⟩
    rw [X4_holdAt_L24, H.n.2.2.1, if_neg (nI_ge (by omega) (by omega)), nI_1, nI_1]
    split
    · rw [if_neg (nI_neg (by omega) hB)]
      exact ih _ _ _ (by omega) (by omega) (by omega)
    · exact ih _ _ _ (by omega) (by omega) (by omega)
theorem out3 (s v : Int32) : (if s = 0 then some (-2 : Int32) else if s = 2 then some (-2) else if s = 3 then some (-2) else some v) = some (if s = 0 ∨ s = 2 ∨ s = 3 then -2 else v) := by
  by_cases h0 : s = 0
  · rw [if_pos h0, if_pos (Or.inl h0)]
  · by_cases h2 : s = 2
    · rw [if_neg h0, if_pos h2, if_pos (Or.inr (Or.inl h2))]
    · by_cases h3 : s = 3
      · rw [if_neg h0, if_neg h2, if_pos h3, if_pos (Or.inr (Or.inr h3))]
      · rw [if_neg h0, if_neg h2, if_neg h3, if_neg (fun q => q.elim h0 (fun q => q.elim h2 h3))]
theorem sim_holdAt {D : Nat} (hD : D ≤ 10000000) {σ : Fs} {ρ : Ms} (h : RR D σ ρ) (a b c : Int32) : ∃ r, X4_holdAt σ.1 a b c = some r ∧ X5_holdAt ρ a b c = some r := by
  obtain ⟨α, d, nC, nP, nH, nL, H, hS⟩ := h.cx
  have hb := H.b
  unfold X4_holdAt X5_holdAt
  rcases isT a with ⟨e1, e2⟩ | ⟨t, ht, rfl, e1, e2⟩
  · simp only [e1, e2, bi_f0, if_true]
    exact ⟨_, rfl, rfl⟩
  · simp only [e1, e2, bi_t0, if_false]
    obtain ⟨j1, j2, j3⟩ := in2 c (lo := 0) (hi := 2) (hj := 3) (by decide)
    by_cases h1 : c < 0
    · simp only [if_pos h1, j1 h1, bi_f0, if_true]
      exact ⟨_, rfl, rfl⟩
    · by_cases h2 : c < 3
      · simp only [if_neg h1, if_pos h2, j2 h1 h2, bi_t0, if_false]
        obtain ⟨k, hk, rfl⟩ := lt_ix (n := 3) rfl (by omega) h1 h2
        by_cases hB : b < 0
        · refine ⟨_, lo_atn H (nI t) hB nH 0 FU 0 (by omega) (by unfold FU; omega) (by omega), ?_⟩
          obtain ⟨f, hf⟩ : ∃ f, FU = f + 1 := ⟨FU - 1, by unfold FU; omega⟩
          rw [hf, X5_holdAt_L24, H.r.2.2.2.1, Option.bind_some, if_pos hB]
          split <;> rfl
        · obtain ⟨B, hB', rfl⟩ := nI_of hB
          exact lo_at H (nI t) hB' hk nH 0 FU 0 (by omega) (by unfold FU; omega) (by omega)
      · simp only [if_neg h1, if_neg h2, j3 h2, bi_f0, if_true]
        exact ⟨_, rfl, rfl⟩
theorem sim_copy {D : Nat} (hD : D ≤ 10000000) {σ : Fs} {ρ : Ms} (h : RR D σ ρ) (a b : Int32) : ∃ r, X4_copy σ.1 a b = r ∧ X5_copy ρ a b = some r := by
  obtain ⟨α, d, nC, nP, nH, nL, H, hS⟩ := h.cx
  have hb := H.b
  unfold X4_copy X5_copy
  rcases H.isC a with ⟨e1, e2⟩ | ⟨c, hc, rfl, e1, e2⟩
  · rw [e1, e2]
    simp only [bi_f0, if_true, Option.bind_some]
    exact ⟨_, rfl, rfl⟩
  · rw [e1, e2, Option.bind_some]
    obtain ⟨j1, j2, j3⟩ := in2 b (lo := 0) (hi := 9) (hj := 10) (by decide)
    obtain ⟨c0, c1, c2, c3, c4, -, c6, c7, c8, c9, -⟩ := H.c hc (by omega)
    obtain ⟨r0, r1, r2, r3, r4, r5, r6, r7, r8, r9, -⟩ := rd_c H.1 (show c < 20 by omega)
    obtain ⟨-, ⟨s, hs, es⟩, -⟩ := H.2.2.2.2.2.1 c hc (by omega)
    simp only [bi_t0, if_false]
    by_cases h1 : b < 0
    · simp only [if_pos h1, j1 h1, bi_f0, if_true]
      exact ⟨_, rfl, rfl⟩
    · by_cases h2 : b < 10
      · simp only [if_neg h1, if_pos h2, j2 h1 h2, bi_t0, if_false]
        obtain ⟨k, hk, rfl⟩ := lt_ix (n := 10) rfl (by omega) h1 h2
        rcases Nat.lt_or_ge k 5 with hk5 | hk5
        · rw [if_neg (show ¬ (5 : Int32) ≤ nI k from nI_ge (a := k) (b := 5) hk5 (by omega))]
          rcases (show k = 0 ∨ k = 1 ∨ k = 2 ∨ k = 3 ∨ k = 4 by omega) with rfl | rfl | rfl | rfl | rfl
          · exact ⟨_, c0, by rw [show nI 0 = 0 from rfl, r0]; rfl⟩
          · exact ⟨_, c1, by rw [show nI 1 = 1 from rfl, r1]; rfl⟩
          · exact ⟨_, c2, by rw [show nI 2 = 2 from rfl, r2]; rfl⟩
          · exact ⟨_, c3, by rw [show nI 3 = 3 from rfl, r3]; rfl⟩
          · exact ⟨_, c4, by rw [show nI 4 = 4 from rfl, r4]; rfl⟩
        · rw [if_pos (show (5 : Int32) ≤ nI k from nI_le (a := 5) (b := k) hk5 (by omega)), r3, Option.bind_some]
          rcases (show k = 5 ∨ k = 6 ∨ k = 7 ∨ k = 8 ∨ k = 9 by omega) with rfl | rfl | rfl | rfl | rfl
          · rw [show nI 5 = 5 from rfl, if_pos rfl]
            rcases holder H hc (by omega) with ⟨z1, z2, z3⟩ | ⟨w, p, z1, z2, z3, z4, z5, z6⟩
            · rw [z1, z2]
              have t : ¬ (0 : Int32) ≤ -2 := by decide
              simp only [Option.bind_some, if_neg t, ite_self]
              exact ⟨_, rfl, rfl⟩
            · have h23 : α 2 c 3 = 2 ∨ α 2 c 3 = 3 := by
                obtain ⟨-, -, -, q⟩ := H.2.2.2.2.2.2.2.1 w z1
                rcases q with q | ⟨c', q1, q2, q3, q4⟩
                · exact absurd (z3.symm.trans q) (nI_ne2 (by omega))
                · have : c' = c := (nI_eq (by omega) (by omega)).mp (q2.symm.trans z3)
                  subst this
                  exact q4
              rw [z5, z6, Option.bind_some, if_pos (nI_pos' (by omega)), (rd_o H.1 (show w < 24 by omega)).2.1, z4, Option.bind_some]
              refine ⟨_, rfl, ?_⟩
              rcases h23 with q | q
              · rw [if_pos q]
              · rw [q, if_neg (by decide), if_pos rfl]
          · rw [show nI 6 = 6 from rfl, if_neg (by decide), if_pos rfl, c6, r5, Option.bind_some]
            refine ⟨_, rfl, ?_⟩
            by_cases h0 : α 2 c 3 = 0
            · rw [if_pos h0, if_pos (Or.inl h0)]
            · by_cases h5 : α 2 c 3 = 5
              · rw [if_neg h0, if_pos h5, if_pos (Or.inr h5)]
              · rw [if_neg h0, if_neg h5, if_neg (fun q => q.elim h0 h5)]
          · rw [show nI 7 = 7 from rfl, c7, r6]
            simp (config := {decide := true}) only [Option.bind_some, if_true, if_false]
            exact ⟨_, rfl, out3 _ _⟩
          · rw [show nI 8 = 8 from rfl, c8, r7]
            simp (config := {decide := true}) only [Option.bind_some, if_true, if_false]
            exact ⟨_, rfl, out3 _ _⟩
          · rw [show nI 9 = 9 from rfl, c9, r8]
            simp (config := {decide := true}) only [Option.bind_some, if_true, if_false]
            exact ⟨_, rfl, out3 _ _⟩
      · simp only [if_neg h1, if_neg h2, j3 h2, bi_f0, if_true]
        exact ⟨_, rfl, rfl⟩
/-! REASONS -/
theorem lo_wn {τ : St} {ρ : Ms} {α : As} {D d nC nP nH nL x : Nat} (H : Cx τ ρ α D d nC nP nH nL x) (a : Int32) : ∀ (m i k q : Nat), i + m = nH → m < k → ∃ w, q ≤ w ∧ w ≤ q + m ∧ X5_waitingFor_L4 ρ a k (nI q) (nI i) = some (nI w) ∧ (w = q ↔ ∀ j, i ≤ j → j < nH → ¬ (α 4 j 0 = a ∧ α 4 j 3 = -2)) := by
  intro m
  induction m with
  | zero =>
    intro i k q e1 e2
    have hb := H.b
    obtain ⟨k, rfl⟩ : ∃ q, k = q + 1 := ⟨k - 1, by omega⟩
    rw [X5_waitingFor_L4, H.r.2.2.2.1, Option.bind_some, if_pos (nI_le (by omega) (by omega))]
    exact ⟨q, by omega, by omega, rfl, ⟨fun _ j h1 h2 => by omega, fun _ => rfl⟩⟩
  | succ m ih =>
    intro i k q e1 e2
    obtain ⟨k, rfl⟩ : ∃ q, k = q + 1 := ⟨k - 1, by omega⟩
    have hb := H.b
    have hi : i < nH := by omega
    obtain ⟨c0, c1, c2, c3⟩ := H.h hi
    obtain ⟨r0, r1, r2, r3⟩ := rd_o H.1 (show i < 24 by omega)
    rw [X5_waitingFor_L4, H.r.2.2.2.1, Option.bind_some, if_neg (nI_ge hi (by omega)), r0, Option.bind_some, r3, Option.bind_some]
    simp only [nI_1, Int32.add_zero]
    have no : ¬ (α 4 i 0 = a ∧ α 4 i 3 = -2) → (∃ w, q ≤ w ∧ w ≤ q + m ∧ X5_waitingFor_L4 ρ a k (nI q) (nI (i + 1)) = some (nI w) ∧ (w = q ↔ ∀ j, i + 1 ≤ j → j < nH → ¬ (α 4 j 0 = a ∧ α 4 j 3 = -2))) → ∃ w, q ≤ w ∧ w ≤ q + (m + 1) ∧ X5_waitingFor_L4 ρ a k (nI q) (nI (i + 1)) = some (nI w) ∧ (w = q ↔ ∀ j, i ≤ j → j < nH → ¬ (α 4 j 0 = a ∧ α 4 j 3 = -2)) := by
      rintro hn ⟨w, w1, w2, w3, w4⟩
      refine ⟨w, w1, by omega, w3, w4.trans ⟨fun f j g1 g2 => ?_, fun f j g1 g2 => f j (by omega) g2⟩⟩
      rcases Nat.lt_or_ge i j with z | z
      · exact f j z g2
      · have : j = i := by omega
        rw [this]; exact hn
    by_cases h0 : α 4 i 0 = a
    · by_cases h1 : α 4 i 3 = -2
      · rw [if_pos h0, if_pos h1]
        obtain ⟨w, w1, w2, w3, w4⟩ := ih (i + 1) k (q + 1) (by omega) (by omega)
        exact ⟨w, by omega, by omega, w3, ⟨fun e => by omega, fun f => absurd ⟨h0, h1⟩ (f i (by omega) hi)⟩⟩
      · rw [if_pos h0, if_neg h1]
        exact no (fun q => h1 q.2) (ih _ _ _ (by omega) (by omega))
    · rw [if_neg h0]
      exact no (fun q => h0 q.1) (ih _ _ _ (by omega) (by omega))
/-- nobody waits, as the two sides see it -/
theorem nobody {τ : St} {ρ : Ms} {α : As} {D d nC nP nH nL x : Nat} (H : Cx τ ρ α D d nC nP nH nL x) (a : Int32) : ∃ v w, X4_firstWaiting τ a = some v ∧ X5_firstWaiting ρ a = some v ∧ X5_waitingFor ρ a = some (nI w) ∧ w ≤ 24 ∧ ((v = -2 ∧ w = 0 ∧ ∀ j, j < nH → ¬ (α 4 j 0 = a ∧ α 4 j 3 = -2)) ∨ ∃ j, j < nH ∧ v = nI j ∧ w ≠ 0 ∧ α 4 j 0 = a ∧ α 4 j 3 = -2) := by
  have hb := H.b
  obtain ⟨f1, f2⟩ := fx_wait H a
  obtain ⟨w, w1, w2, w3, w4⟩ := lo_wn H a nH 0 FU 0 (by omega) (by unfold FU; omega)
  refine ⟨_, w, f1, f2, w3, by omega, ?_⟩
  rcases ffi_spec nH (fun j => decide (α 4 j 0 = a ∧ α 4 j 3 = -2)) with ⟨z1, z2⟩ | ⟨j, z1, z2, z3, -⟩
  · exact Or.inl ⟨z1, w4.mpr (fun j _ h2 => of_decide_eq_false (z2 j h2)), fun j hj => of_decide_eq_false (z2 j hj)⟩
  · exact Or.inr ⟨j, z1, z2, fun e => w4.mp e j (by omega) z1 (of_decide_eq_true z3), of_decide_eq_true z3⟩
def Rj (r : Int32) : Prop := r = 1 ∨ r = 2 ∨ r = 3 ∨ r = 4 ∨ r = 5
theorem rs_lend {τ : St} {ρ : Ms} {α : As} {D d nC nP nH nL : Nat} (H : Cx τ ρ α D d nC nP nH nL 99) {p c : Nat} (hp : p < nP) (hc : c < nC) : ∃ r, X4_reasonAgainstLending τ (nI p) (nI c) = some r ∧ X5_reasonToLend ρ (nI p) (nI c) = some r ∧ (Rj r ∨ (r = 0 ∧ (α 2 c 3 = 0 ∨ α 2 c 3 = 3 ∧ ∃ h, h < nH ∧ α 4 h 3 = nI c ∧ α 4 h 1 = nI p))) := by
  have hb := H.b
  unfold X4_reasonAgainstLending X5_reasonToLend
  rcases H.isP (nI p) with ⟨e1, e2⟩ | ⟨-, -, -, e1, -⟩
  · exfalso
    unfold X4_isPatron thas at e1
    rw [H.n.2.1, decide_eq_true (nI_pos' (show p < 2 ^ 31 by omega)), decide_eq_true (nI_lt hp (by omega))] at e1
    cases e1
  rcases H.isC (nI c) with ⟨e3, -⟩ | ⟨-, -, -, e3, -⟩
  · exfalso
    unfold X4_isCopy thas at e3
    rw [H.n.1, decide_eq_true (nI_pos' (show c < 2 ^ 31 by omega)), decide_eq_true (nI_lt hc (by omega))] at e3
    cases e3
  rw [barred H hp, Option.bind_some, e1, e3]
  simp only [bi_t0, if_false]
  cases X4_owesTheLimit τ (nI p) with
  | true => simp only [bi_t0, if_false]; exact ⟨_, rfl, rfl, Or.inl (Or.inl rfl)⟩
  | false =>
    simp only [bi_f0, if_true]
    obtain ⟨r, q1, q2⟩ := r_loans H (nI p)
    obtain ⟨v0, v1, -⟩ := H.v
    obtain ⟨s0, s1, -⟩ := H.rs
    obtain ⟨c0, c1, c2, c3, -⟩ := H.c hc (by omega)
    obtain ⟨r0, r1, r2, r3, -⟩ := rd_c H.1 (show c < 20 by omega)
    rw [q1, q2, Option.bind_some, Option.bind_some, s1, Option.bind_some, v1]
    by_cases hl : r < α 1 0 1
    · rw [if_pos hl, if_pos hl, r3, Option.bind_some]
      unfold X4_canBeTakenBy X4_stateOf
      rw [c3]
      by_cases h0 : α 2 c 3 = 0
      · rw [h0]
        simp only [if_true, bi_t0, if_false]
        rw [if_neg (by decide)]
        exact ⟨_, rfl, rfl, Or.inr ⟨rfl, Or.inl trivial⟩⟩
      · by_cases h3 : α 2 c 3 = 3
        · have t30 : ((3 : Int32) = 0) = False := by decide
          obtain ⟨-, -, -, -, -, -, g⟩ := H.2.2.2.2.2.1 c hc (by omega)
          obtain ⟨h', g1, g2⟩ := g h3
          rcases holder H hc (by omega) with ⟨z1, z2, z3⟩ | ⟨w, p', z1, z2, z3, z4, z5, z6⟩
          · exact absurd g2 (z3 h' g1)
          · rw [z5, z6, Option.bind_some, (rd_o H.1 (show w < 24 by omega)).2.1, Option.bind_some, z4, h3]
            by_cases hpp : p' = p
            · subst hpp
              simp only [t30, if_true, bi_t0, if_false, Option.bind_some]
              exact ⟨_, rfl, rfl, Or.inr ⟨rfl, Or.inr ⟨trivial, w, z1, z3, z4⟩⟩⟩
            · have hne : ¬ nI p' = nI p := fun e => hpp ((nI_eq (by omega) (by omega)).mp e)
              simp only [t30, if_true, if_neg hne, bi_f0, if_false, Option.bind_some]
              exact ⟨_, rfl, rfl, Or.inl (Or.inr (Or.inr (Or.inl rfl)))⟩
        · simp only [if_neg h0, if_neg h3, bi_f0, if_true, Option.bind_some]
          exact ⟨_, rfl, rfl, Or.inl (Or.inr (Or.inr (Or.inl rfl)))⟩
    · rw [if_neg hl, if_neg hl]
      exact ⟨_, rfl, rfl, Or.inl (Or.inr (Or.inl rfl))⟩
theorem isP' {τ : St} {ρ : Ms} {α : As} {D d nC nP nH nL x p : Nat} (H : Cx τ ρ α D d nC nP nH nL x) (hp : p < nP) : X4_isPatron τ (nI p) = true ∧ X5_isPatron ρ (nI p) = some true := by
  have hb := H.b
  rcases H.isP (nI p) with ⟨e1, e2⟩ | ⟨-, -, -, e1, e2⟩
  · exfalso
    unfold X4_isPatron thas at e1
    rw [H.n.2.1, decide_eq_true (nI_pos' (show p < 2 ^ 31 by omega)), decide_eq_true (nI_lt hp (by omega))] at e1
    cases e1
  · exact ⟨e1, e2⟩
theorem isC' {τ : St} {ρ : Ms} {α : As} {D d nC nP nH nL x p : Nat} (H : Cx τ ρ α D d nC nP nH nL x) (hp : p < nC) : X4_isCopy τ (nI p) = true ∧ X5_isCopy ρ (nI p) = some true := by
  have hb := H.b
  rcases H.isC (nI p) with ⟨e1, e2⟩ | ⟨-, -, -, e1, e2⟩
  · exfalso
    unfold X4_isCopy thas at e1
    rw [H.n.1, decide_eq_true (nI_pos' (show p < 2 ^ 31 by omega)), decide_eq_true (nI_lt hp (by omega))] at e1
    cases e1
  · exact ⟨e1, e2⟩
theorem isT' {t : Nat} (ht : t < 6) : X4_isTitle (nI t) = true ∧ X5_isTitle (nI t) = true := by
  rcases (show t = 0 ∨ t = 1 ∨ t = 2 ∨ t = 3 ∨ t = 4 ∨ t = 5 by omega) with rfl | rfl | rfl | rfl | rfl | rfl <;> decide
theorem isB' {t : Nat} (ht : t < 4) : X4_isBranch (nI t) = true ∧ X5_isBranch (nI t) = true := by
  rcases (show t = 0 ∨ t = 1 ∨ t = 2 ∨ t = 3 by omega) with rfl | rfl | rfl | rfl <;> decide
theorem rs_renew {τ : St} {ρ : Ms} {α : As} {D d nC nP nH nL : Nat} (H : Cx τ ρ α D d nC nP nH nL 99) {c : Nat} (hc : c < nC) : ∃ r, X4_reasonAgainstRenewing τ (nI c) = some r ∧ X5_reasonToRenew ρ (nI c) = some r ∧ (Rj r ∨ (r = 0 ∧ α 2 c 3 = 1 ∧ ∃ y, y < 2 ∧ α 2 c 7 = nI y)) := by
  have hb := H.b
  unfold X4_reasonAgainstRenewing X5_reasonToRenew X4_stateOf X4_titleOf
  obtain ⟨c0, c1, c2, c3, c4, c5, c6, c7, c8, c9, -⟩ := H.c hc (by omega)
  obtain ⟨r0, r1, r2, r3, r4, r5, r6, r7, r8, -⟩ := rd_c H.1 (show c < 20 by omega)
  have hI := H.2.2.2.2.2.1 c hc (by omega)
  rw [(isC' H hc).1, r3, Option.bind_some, c3]
  simp only [bi_t0, if_false]
  by_cases h1 : α 2 c 3 = 1
  · obtain ⟨-, -, -, hW, hT, hR, -⟩ := hI
    obtain ⟨p, hp, ep⟩ := hW (Or.inl h1)
    obtain ⟨-, y, hy, ey⟩ := hR h1
    have t3 : ¬ (α 2 c 3 = 0 ∨ α 2 c 3 = 2 ∨ α 2 c 3 = 3) := by rw [h1]; decide
    have t2 : ¬ (α 2 c 3 = 0 ∨ α 2 c 3 = 5) := by rw [h1]; decide
    rw [if_neg t3] at c7 c8 c9
    rw [if_neg t2] at c6
    rw [if_pos h1, if_pos h1, c8, r7, Option.bind_some, ey, c9, r8, Option.bind_some, c0, r0, Option.bind_some]
    by_cases hy2 : y = 2
    · subst hy2
      rw [if_neg (by decide), if_pos (by decide)]
      exact ⟨_, rfl, rfl, Or.inl (Or.inr (Or.inl rfl))⟩
    · rw [if_pos (show nI y < 2 from nI_lt (a := y) (b := 2) (by omega) (by omega)), if_neg (show ¬ nI y = 2 from fun e => hy2 ((nI_eq (a := y) (b := 2) (by omega) (by omega)).mp e))]
      by_cases h8 : α 2 c 8 = 1
      · rw [if_pos h8, if_pos h8]
        exact ⟨_, rfl, rfl, Or.inl (Or.inr (Or.inr (Or.inl rfl)))⟩
      · rw [if_neg h8, if_neg h8]
        obtain ⟨v, w, f1, f2, f3, hw, f4⟩ := nobody H (α 2 c 0)
        rw [f1, f3, Option.bind_some, Option.bind_some]
        rcases f4 with ⟨rfl, rfl, -⟩ | ⟨j, hj, rfl, hw0, -⟩
        · rw [if_pos rfl, if_pos (show nI 0 ≤ 0 by decide), r4, Option.bind_some, c4, ep, barred H hp, Option.bind_some]
          cases X4_owesTheLimit τ (nI p) with
          | true => simp only [bi_t0, if_false]; exact ⟨_, rfl, rfl, Or.inl (Or.inr (Or.inr (Or.inr (Or.inl rfl))))⟩
          | false =>
            simp only [bi_f0, if_true]
            obtain ⟨v0, -⟩ := H.v
            obtain ⟨s0, -⟩ := H.rs
            rw [H.r.1, s0, r5, v0, c6, H.n.2.2.2.2.2]
            simp only [Option.bind_some]
            by_cases z : nI d + α 1 0 0 ≤ α 2 c 5
            · rw [if_pos z, if_neg (fun q => i_irr q z)]
              exact ⟨_, rfl, rfl, Or.inl (Or.inr (Or.inr (Or.inr (Or.inr rfl))))⟩
            · rw [if_neg z, if_pos (Int32.not_le.mp z)]
              exact ⟨_, rfl, rfl, Or.inr ⟨rfl, h1, y, by omega, rfl⟩⟩
        · rw [if_neg (nI_ne2 (by omega)), if_neg (nI_nle (by omega) (by omega))]
          exact ⟨_, rfl, rfl, Or.inl (Or.inr (Or.inr (Or.inl rfl)))⟩
  · rw [if_neg h1, if_neg h1]
    exact ⟨_, rfl, rfl, Or.inl (Or.inl rfl)⟩
theorem rs_claim {τ : St} {ρ : Ms} {α : As} {D d nC nP nH nL : Nat} (H : Cx τ ρ α D d nC nP nH nL 99) {c : Nat} (hc : c < nC) : ∃ r, X4_reasonAgainstClaiming τ (nI c) = r ∧ X5_reasonToClaim ρ (nI c) = some r ∧ (Rj r ∨ (r = 0 ∧ α 2 c 3 = 1)) := by
  have hb := H.b
  unfold X4_reasonAgainstClaiming X5_reasonToClaim X4_stateOf
  obtain ⟨c0, c1, c2, c3, c4, -⟩ := H.c hc (by omega)
  obtain ⟨r0, r1, r2, r3, r4, -⟩ := rd_c H.1 (show c < 20 by omega)
  have hI := H.2.2.2.2.2.1 c hc (by omega)
  rw [(isC' H hc).1, r3, Option.bind_some, c3]
  simp only [bi_t0, if_false]
  by_cases h1 : α 2 c 3 = 1
  · obtain ⟨-, -, -, hW, -⟩ := hI
    obtain ⟨p, hp, ep⟩ := hW (Or.inl h1)
    rw [if_pos h1, if_pos h1, r4, Option.bind_some, c4, ep, (H.p hp).2.1, (rq_p H.1 (show p < 8 by omega)).2.2.1, Option.bind_some]
    by_cases z : α 3 p 1 < 2
    · rw [if_pos z, if_pos z]
      exact ⟨_, rfl, rfl, Or.inr ⟨rfl, h1⟩⟩
    · rw [if_neg z, if_neg z]
      exact ⟨_, rfl, rfl, Or.inl (Or.inr (Or.inl rfl))⟩
  · rw [if_neg h1, if_neg h1]
    exact ⟨_, rfl, rfl, Or.inl (Or.inl rfl)⟩
theorem rs_lose {τ : St} {ρ : Ms} {α : As} {D d nC nP nH nL : Nat} (H : Cx τ ρ α D d nC nP nH nL 99) {c : Nat} (hc : c < nC) : ∃ r, X4_reasonAgainstLosing τ (nI c) = r ∧ X5_reasonToLose ρ (nI c) = some r ∧ (Rj r ∨ (r = 0 ∧ (α 2 c 3 = 1 ∨ α 2 c 3 = 4))) := by
  have hb := H.b
  unfold X4_reasonAgainstLosing X5_reasonToLose X4_stateOf
  obtain ⟨c0, c1, c2, c3, c4, -⟩ := H.c hc (by omega)
  obtain ⟨r0, r1, r2, r3, r4, -⟩ := rd_c H.1 (show c < 20 by omega)
  rw [(isC' H hc).1, r3, Option.bind_some, c3]
  simp only [bi_t0, if_false, Option.bind_some]
  by_cases h1 : α 2 c 3 = 1
  · rw [if_pos h1, if_pos h1]
    exact ⟨_, rfl, rfl, Or.inr ⟨rfl, Or.inl h1⟩⟩
  · by_cases h4 : α 2 c 3 = 4
    · rw [if_neg h1, if_neg h1, if_pos h4, if_pos h4]
      exact ⟨_, rfl, rfl, Or.inr ⟨rfl, Or.inr h4⟩⟩
    · rw [if_neg h1, if_neg h1, if_neg h4, if_neg h4]
      exact ⟨_, rfl, rfl, Or.inl (Or.inl rfl)⟩
theorem lo_rh {τ : St} {ρ : Ms} {α : As} {D d nC nP nH nL : Nat} (H : Cx τ ρ α D d nC nP nH nL 99) (a b : Int32) : ∀ (m i k : Nat) (u : Int32), i + m = nH → m < k → ∃ r, X4_holdsOf_L4 τ a k u (nI i) = some r ∧ X5_reasonToHold_L15 ρ a b k u (nI i) = if r < 3 then (X5_holdBy ρ a b).bind (fun v17 => if v17 < 0 then X5_reasonToHold_L72 ρ a b FU 0 else some 3) else some 2 := by
  intro m
  induction m with
  | zero =>
    intro i k u e1 e2
    have hb := H.b
    obtain ⟨k, rfl⟩ : ∃ q, k = q + 1 := ⟨k - 1, by omega⟩
    rw [X4_holdsOf_L4, X5_reasonToHold_L15, H.n.2.2.1, H.r.2.2.2.1, Option.bind_some, if_pos (nI_le (by omega) (by omega)), if_pos (nI_le (by omega) (by omega))]
    exact ⟨_, rfl, rfl⟩
  | succ m ih =>
    intro i k u e1 e2
    obtain ⟨k, rfl⟩ : ∃ q, k = q + 1 := ⟨k - 1, by omega⟩
    have hb := H.b
    have hi : i < nH := by omega
    obtain ⟨c0, c1, c2, c3⟩ := H.h hi
    obtain ⟨r0, r1, r2, r3⟩ := rd_o H.1 (show i < 24 by omega)
    rw [X4_holdsOf_L4, X5_reasonToHold_L15, H.n.2.2.1, H.r.2.2.2.1, Option.bind_some, if_neg (nI_ge hi (by omega)), if_neg (nI_ge hi (by omega)), r1, Option.bind_some, c0, nI_1]
    by_cases h0 : α 4 i 1 = a
    · rw [if_pos h0, if_pos h0]
      exact ih _ _ _ (by omega) (by omega)
    · rw [if_neg h0, if_neg h0, Int32.add_zero]
      exact ih _ _ _ (by omega) (by omega)
theorem rs_hold {τ : St} {ρ : Ms} {α : As} {D d nC nP nH nL : Nat} (H : Cx τ ρ α D d nC nP nH nL 99) {p t : Nat} (hp : p < nP) (ht : t < 6) : ∃ r, X4_reasonAgainstHolding τ (nI p) (nI t) = some r ∧ X5_reasonToHold ρ (nI p) (nI t) = some r ∧ (Rj r ∨ (r = 0 ∧ ∀ h, h < nH → ¬ (α 4 h 1 = nI p ∧ α 4 h 0 = nI t))) := by
  have hb := H.b
  unfold X4_reasonAgainstHolding X5_reasonToHold
  rw [(isP' H hp).1, (isT' ht).1, barred H hp, Option.bind_some]
  simp only [bi_t0, if_false]
  cases X4_owesTheLimit τ (nI p) with
  | true => simp only [bi_t0, if_false]; exact ⟨_, rfl, rfl, Or.inl (Or.inl rfl)⟩
  | false =>
    simp only [bi_f0, if_true]
    obtain ⟨r, q1, q2⟩ := lo_rh H (nI p) (nI t) nH 0 FU 0 (by omega) (by unfold FU; omega)
    rw [show X4_holdsOf τ (nI p) = some r from q1, show X5_reasonToHold_L15 ρ (nI p) (nI t) FU 0 0 = _ from q2, Option.bind_some]
    obtain ⟨f1, f2⟩ := fx_by H (nI p) (nI t)
    rw [f1, f2, Option.bind_some, Option.bind_some]
    by_cases h3 : r < 3
    · rw [if_pos h3, if_pos h3]
      rcases ffi_spec nH (fun j => decide (α 4 j 1 = nI p ∧ α 4 j 0 = nI t)) with ⟨z1, z2⟩ | ⟨w, z1, z2, z3, -⟩
      · rw [z1, if_pos rfl, if_pos (by decide)]
        obtain ⟨v, g1, g2⟩ := lo_hasLoan H (nI p) (nI t) nC 0 FU (by omega) (by unfold FU; omega)
        rw [show X5_reasonToHold_L72 ρ (nI p) (nI t) FU 0 = some v from g2]
        refine ⟨v, g1, rfl, ?_⟩
        rcases hh : X4_hasLoanOf_L2 τ (nI p) (nI t) FU (nI 0) with - | y
        · rw [hh] at g1; cases g1
        · rw [hh, Option.bind_some] at g1
          cases y with
          | true =>
            simp only [bi_t0, if_false] at g1
            injection g1 with g1
            exact Or.inl (Or.inr (Or.inr (Or.inr (Or.inl g1.symm))))
          | false =>
            simp only [bi_f0, if_true] at g1
            injection g1 with g1
            exact Or.inr ⟨g1.symm, fun h hh => of_decide_eq_false (z2 h hh)⟩
      · rw [z2, if_neg (nI_ne2 (by omega)), if_neg (nI_pos (by omega))]
        exact ⟨_, rfl, rfl, Or.inl (Or.inr (Or.inr (Or.inl rfl)))⟩
    · rw [if_neg h3, if_neg h3]
      exact ⟨_, rfl, rfl, Or.inl (Or.inr (Or.inl rfl))⟩
theorem sim_reason {D : Nat} (hD : D ≤ 10000000) {σ : Fs} {ρ : Ms} (h : RR D σ ρ) (a b c : Int32) : ∃ r, X4_reason σ.1 a b c = some r ∧ X5_reason ρ a b c = some r := by
  obtain ⟨α, d, nC, nP, nH, nL, H, hS⟩ := h.cx
  have hb := H.b
  unfold X4_reason X5_reason
  by_cases h0 : a = 0
  · subst h0
    simp (config := {decide := true}) only [if_true, if_false, X5_in]
    rcases H.isP b with ⟨e1, e2⟩ | ⟨p, hp, rfl, e1, e2⟩
    · unfold X4_reasonAgainstLending
      rw [e1, e2]
      simp only [bi_f0, if_true, Option.bind_some]
      exact ⟨_, rfl, rfl⟩
    · rcases H.isC c with ⟨e3, e4⟩ | ⟨c, hc, rfl, e3, e4⟩
      · unfold X4_reasonAgainstLending
        rw [e1, e2, e3, e4]
        simp only [bi_t0, bi_f0, if_true, if_false, Option.bind_some]
        exact ⟨_, rfl, rfl⟩
      · obtain ⟨r, q1, q2, -⟩ := rs_lend H hp hc
        rw [e2, e4, q1, q2]
        simp only [bi_t0, if_false, Option.bind_some]
        exact ⟨_, rfl, rfl⟩
  · by_cases h4 : a = 4
    · subst h4
      simp (config := {decide := true}) only [if_true, if_false, X5_in]
      rcases H.isP b with ⟨e1, e2⟩ | ⟨p, hp, rfl, e1, e2⟩
      · unfold X4_reasonAgainstHolding
        rw [e1, e2]
        simp only [bi_f0, if_true, Option.bind_some]
        exact ⟨_, rfl, rfl⟩
      · rcases isT c with ⟨e3, e4⟩ | ⟨c, hc, rfl, e3, e4⟩
        · unfold X4_reasonAgainstHolding
          rw [e1, e2, e3, e4]
          simp only [bi_t0, bi_f0, if_true, if_false, Option.bind_some]
          exact ⟨_, rfl, rfl⟩
        · obtain ⟨r, q1, q2, -⟩ := rs_hold H hp hc
          rw [e2, e4, q1, q2]
          simp only [bi_t0, if_false, Option.bind_some]
          exact ⟨_, rfl, rfl⟩
    · by_cases h1 : a = 1
      · subst h1
        simp (config := {decide := true}) only [if_true, if_false, X5_in]
        by_cases hc0 : c = 0
        · simp only [if_pos hc0]
          rcases H.isC b with ⟨e1, e2⟩ | ⟨p, hp, rfl, e1, e2⟩
          · unfold X4_reasonAgainstRenewing
            rw [e1, e2]
            simp only [bi_f0, if_true, Option.bind_some]
            exact ⟨_, rfl, rfl⟩
          · obtain ⟨r, q1, q2, -⟩ := rs_renew H hp
            rw [e2, q1]
            simp only [bi_t0, bi_f0, if_false, if_true, Option.bind_some, q2]
            exact ⟨_, rfl, rfl⟩
        · simp only [if_neg hc0]
          exact ⟨_, rfl, rfl⟩
      · by_cases h2 : a = 2
        · subst h2
          simp (config := {decide := true}) only [if_true, if_false, X5_in]
          by_cases hc0 : c = 0
          · simp only [if_pos hc0]
            rcases H.isC b with ⟨e1, e2⟩ | ⟨p, hp, rfl, e1, e2⟩
            · unfold X4_reasonAgainstClaiming
              rw [e1, e2]
              simp only [bi_f0, if_true, Option.bind_some]
              exact ⟨_, rfl, rfl⟩
            · obtain ⟨r, q1, q2, -⟩ := rs_claim H hp
              rw [e2, q1]
              simp only [bi_t0, if_false, Option.bind_some, q2]
              exact ⟨_, rfl, rfl⟩
          · simp only [if_neg hc0]
            exact ⟨_, rfl, rfl⟩
        · by_cases h3 : a = 3
          · subst h3
            simp (config := {decide := true}) only [if_true, if_false, X5_in]
            by_cases hc0 : c = 0
            · simp only [if_pos hc0]
              rcases H.isC b with ⟨e1, e2⟩ | ⟨p, hp, rfl, e1, e2⟩
              · unfold X4_reasonAgainstLosing
                rw [e1, e2]
                simp only [bi_f0, if_true, Option.bind_some]
                exact ⟨_, rfl, rfl⟩
              · obtain ⟨r, q1, q2, -⟩ := rs_lose H hp
                rw [e2, q1]
                simp only [bi_t0, if_false, Option.bind_some, q2]
                exact ⟨_, rfl, rfl⟩
            · simp only [if_neg hc0]
              exact ⟨_, rfl, rfl⟩
          · simp only [if_neg h0, if_neg h1, if_neg h2, if_neg h3, if_neg h4, ite_self]
            refine ⟨_, rfl, ?_⟩
            obtain ⟨j1, j2, j3⟩ := in2 a (lo := 1) (hi := 3) (hj := 4) (by decide)
            have e : X5_in a 1 3 = false := by
              by_cases z1 : a < 1
              · exact j1 z1
              · refine j3 (fun z => ?_)
                obtain ⟨j, hj, rfl⟩ := lt_ix (n := 4) rfl (by omega) (fun q => z1 (Int32.lt_of_lt_of_le q (by decide))) z
                rcases (show j = 0 ∨ j = 1 ∨ j = 2 ∨ j = 3 by omega) with rfl | rfl | rfl | rfl
                · exact h0 rfl
                · exact h1 rfl
                · exact h2 rfl
                · exact h3 rfl
            simp only [e, bi_f0, if_true]
