/-! THE COMMANDS ARE READ, AND RUN -/
def kp (ρ : Ms) : Option (Int32 × Ms) := (X5_keeps ρ).bind fun q38 => bnd (msI q38 2 (0 : Int32)) fun ρ40 => X5_execute_L85 FU (0 : Int32) ρ40
theorem rf_end_wrong {ρ : Ms} (h : ρ.2.2 = true) (k : Nat) : X5_execute_L15 (k + 1) ρ = some ((-200 : Int32) - ρ.1.2 2, msI ρ 1 0) := by
  have e : X5_sign ρ = some (-2) := by
    unfold X5_sign
    rw [h, if_neg (show ¬ bi true = 0 by decide)]
  rw [X5_execute_L15, e, Option.bind_some, if_neg (show ¬ (-2 : Int32) = 59 by decide), h, if_neg (show ¬ bi true = 0 by decide)]
  simp only [bnd]
  rw [msI_int, if_neg (by omega)]
theorem rf_end_early {ρ : Ms} {w : Nat → Int32} {f p : Nat} (h : TXr ρ w f p) (hf : f ≤ 60) (hp : p < f) (h9 : ¬ tC w f p = 59) (k : Nat) : X5_execute_L15 (k + 1) ρ = some ((-200 : Int32) - nI p, msI ρ 1 0) := by
  rw [X5_execute_L15, sg h hf (by omega), Option.bind_some, if_neg h9, h.2.2.2, if_pos (show bi false = 0 by decide), h.1, h.2.1, if_neg (nI_ge hp (by omega))]
  simp only [bnd]
  rw [msI_int, if_neg (by omega), h.2.1]
theorem rf_end_good {ρ : Ms} {w : Nat → Int32} {f : Nat} (h : TXr ρ w f f) (hf : f ≤ 60) (k : Nat) : X5_execute_L15 (k + 1) ρ = kp ρ := by
  have e : tC w f f = -2 := if_neg (by omega)
  rw [X5_execute_L15, sg h hf (by omega), Option.bind_some, e, if_neg (show ¬ (-2 : Int32) = 59 by decide), h.2.2.2, if_pos (show bi false = 0 by decide), h.1, h.2.1, if_pos (nI_le (by omega) (by omega))]
  rfl
theorem rf_more {ρ : Ms} {w : Nat → Int32} {f p : Nat} (h : TXr ρ w f p) (hf : f ≤ 60) (hp : p ≤ f) (h9 : tC w f p = 59) (k : Nat) : X5_execute_L15 (k + 1) ρ = (X5_command (tx ρ (ρ.1.1 5) (nI (p + 1)) false)).bind fun q => X5_execute_L15 k q.2 := by
  rw [X5_execute_L15, sg h hf hp, Option.bind_some, if_pos h9]
  simp only [bnd]
  rw [tx_I, h.2.1, nI_1, h.2.2.2]
theorem xsQ_2 (ξ : Xs) (q : Int32) (u : Tab) : (xsQ ξ q u).2 = u := rfl
theorem read_sim {w : Nat → Int32} {f : Nat} (hf : f ≤ 60) : ∀ (m i k k' p : Nat) (ξ : Xs) (ρ : Ms), TXc ξ w f p → TXr ρ w f p → p ≤ f → i + m = 15 → m < k → m < k' → 4 * i ≤ p → ξ.2.1 = nI i →
    (∃ e u g b, X0_readAll_L14 k (nI i) ξ = some (false, xsQ ξ (nI e) u) ∧ (∃ n, n ≤ 15 ∧ u.1 = nI n) ∧ ((X5_command ρ).bind fun q => X5_execute_L15 k' q.2) = some ((-200 : Int32) - nI e, msI (tx ρ g (nI e) b) 1 0)) ∨
    (∃ M u g, 1 ≤ M ∧ i + M ≤ 15 ∧ X0_readAll_L14 k (nI i) ξ = some (true, xsQ ξ (nI f) u) ∧ u.1 = nI (i + M) ∧ ((X5_command ρ).bind fun q => X5_execute_L15 k' q.2) = kp (tx ρ g (nI f) false) ∧ (∀ r l, r < i → l < 4 → fv 4 u.2 r l = fv 4 ξ.2.2 r l) ∧ ∀ j, j < M → CmdRow w f u.2 (i + j) (cS w f j p) ∧ (j + 1 = M → cE w f (cS w f j p) = f) ∧ (j + 1 < M → cE w f (cS w f j p) < f)) := by
  intro m
  induction m with
  | zero =>
    intro i k k' p ξ ρ hc hr hp e1 e2 e2' h4 hu
    obtain ⟨k, rfl⟩ : ∃ q, k = q + 1 := ⟨k - 1, by omega⟩
    obtain ⟨k', rfl⟩ : ∃ q, k' = q + 1 := ⟨k' - 1, by omega⟩
    obtain ⟨g, c, r1, r2⟩ := rf_cmd hr hf hp
    have ez : cN w f p = 0 := by
      unfold cN tC
      rw [if_neg (by omega)]
      decide
    have eO : cO w f p = false := if_pos ez
    have eE : cE w f p = p := if_pos ez
    rw [eO, eE, Bool.not_false] at r1
    refine Or.inl ⟨p, ξ.2, g, true, ?_, ⟨i, by omega, hu⟩, ?_⟩
    · rw [X0_readAll_L14, if_pos (show (15 : Int32) ≤ nI i from nI_le (a := 15) (by omega) (by omega)), hc.self]
    · rw [r1, Option.bind_some]
      exact (rf_end_wrong rfl k').trans (by rw [tx_2])
  | succ m ih =>
    intro i k k' p ξ ρ hc hr hp e1 e2 e2' h4 hu
    obtain ⟨k, rfl⟩ : ∃ q, k = q + 1 := ⟨k - 1, by omega⟩
    obtain ⟨k', rfl⟩ : ∃ q, k' = q + 1 := ⟨k' - 1, by omega⟩
    obtain ⟨u, c1, ⟨n, hn, un⟩, c3⟩ := cl_cmd hc hf hp (show i < 15 by omega) hu
    obtain ⟨g, c, r1, r2⟩ := rf_cmd hr hf hp
    obtain ⟨l1, l2⟩ := cE_le (w := w) hp
    have hq := hc.q (cE w f p) u
    have lat : X0_letterAt (xsQ ξ (nI (cE w f p)) u) (nI (cE w f p)) = some (tL w f (cE w f p)) := lt_at hq hf l1
    by_cases e : cO w f p = true
    · obtain ⟨u1, u2, u3⟩ := c3 e
      have l3 := l2 e
      rw [e] at c1
      rw [e, Bool.not_true] at r1
      have hrq := hr.q g (cE w f p)
      have A : X0_readAll_L14 (k + 1) (nI i) ξ = if nI (cE w f p) = nI f then some (true, xsQ ξ (nI (cE w f p)) u) else (some (tL w f (cE w f p))).bind fun v6 => if v6 = (59 : Int32) then X0_readAll_L14 k (nI (i + 1)) (xsQ ξ (nI (cE w f p + 1)) u) else some (false, xsQ ξ (nI (cE w f p)) u) := by
        rw [X0_readAll_L14, if_neg (show ¬ (15 : Int32) ≤ nI i from nI_ge (b := 15) (by omega) (by omega)), c1, Option.bind_some]
        dsimp only
        rw [if_neg (show ¬ bi true = 0 by decide), show (xsQ ξ (nI (cE w f p)) u).1.2.2 = nI (cE w f p) from rfl, show (xsQ ξ (nI (cE w f p)) u).1.2.1 = nI f from hc.1, lat]
        simp only [bnd]
        rw [nI_1, nI_1]
        rfl
      have B : ((X5_command ρ).bind fun q => X5_execute_L15 (k' + 1) q.2) = X5_execute_L15 (k' + 1) (tx ρ g (nI (cE w f p)) false) := by
        rw [r1, Option.bind_some]
      rw [A, B]
      by_cases e3 : cE w f p = f
      · rw [e3] at hrq
        refine Or.inr ⟨1, u, g, by omega, by omega, ?_, u1, ?_, u2, fun j hj => ?_⟩
        · rw [e3, if_pos rfl]
        · rw [e3]
          exact rf_end_good hrq hf k'
        · have : j = 0 := by omega
          subst this
          exact ⟨u3, fun _ => e3, fun q => absurd q (by omega)⟩
      · have e4 : cE w f p < f := by omega
        rw [if_neg (fun q => e3 ((nI_eq (by omega) (by omega)).mp q)), Option.bind_some]
        by_cases e5 : tC w f (cE w f p) = 59
        · rw [if_pos ((tL_iff (by decide) (by decide)).mpr e5), rf_more hrq hf l1 e5, tx_5, tx_tx]
          rcases ih (i + 1) k k' (cE w f p + 1) (xsQ ξ (nI (cE w f p + 1)) u) (tx ρ g (nI (cE w f p + 1)) false) (hc.q _ _) (hr.q _ _) (by omega) (by omega) (by omega) (by omega) (by omega) u1 with ⟨e', u', g', b', q1, q2, q3⟩ | ⟨M, u', g', m1, m2, q1, q2, q3, q4, q5⟩
          · rw [tx_tx] at q3
            exact Or.inl ⟨e', u', g', b', q1, q2, q3⟩
          · rw [tx_tx] at q3
            refine Or.inr ⟨M + 1, u', g', by omega, by omega, q1, by rw [q2, show i + 1 + M = i + (M + 1) by omega], q3, fun r l h1 h2 => (q4 r l (by omega) h2).trans (u2 r l h1 h2), fun j hj => ?_⟩
            cases j with
            | zero =>
              obtain ⟨x1, x2, x3⟩ := u3
              have y3 : cN w f p ≤ 3 := numN_3 _
              refine ⟨⟨x1, (q4 i 0 (by omega) (by omega)).trans x2, fun l hl => (q4 i (1 + l) (by omega) (by have : l < cN w f p := hl; omega)).trans (x3 l hl)⟩, fun q => absurd q (by omega), fun _ => e4⟩
            | succ j =>
              obtain ⟨x1, x2, x3⟩ := q5 j (by omega)
              rw [show i + (j + 1) = i + 1 + j by omega]
              exact ⟨x1, fun q => x2 (by omega), fun q => x3 (by omega)⟩
        · rw [if_neg (fun q => e5 ((tL_iff (by decide) (by decide)).mp q))]
          exact Or.inl ⟨cE w f p, u, g, false, rfl, ⟨n, hn, un⟩, rf_end_early hrq hf e4 e5 k'⟩
    · rw [bool_f e] at c1
      rw [bool_f e, Bool.not_false] at r1
      refine Or.inl ⟨cE w f p, u, g, true, ?_, ⟨n, hn, un⟩, ?_⟩
      · rw [X0_readAll_L14, if_neg (show ¬ (15 : Int32) ≤ nI i from nI_ge (b := 15) (by omega) (by omega)), c1, Option.bind_some]
        dsimp only
        rw [if_pos (show bi false = 0 by decide)]
      · rw [r1, Option.bind_some]
        exact (rf_end_wrong rfl k').trans (by rw [tx_2])
/-! a command is run -/
theorem run_sim {D : Nat} (hD : D ≤ 10000000) {w : Nat → Int32} {f : Nat} {τ : St} {φ : Fr} {ρ : Ms} {r s N : Nat} (hN : φ.2.2.2.2.2.1 = nI N) (hN15 : N ≤ 15) (hr : r < N) (row : CmdRow w f φ.2.2.2.2.2.2 r s) (hg : ∀ j, j < cN w f s → ρ.1.1 5 j = tW w f (gP w f j (s + 1))) (hC : Core D τ (ρ.1.1 0)) : ∃ r' τ' g', X4_runCommand (τ, φ) (nI r) = some (r', (τ', φ)) ∧ X5_does ρ (tC w f s) = some (r', msA ρ 0 g') ∧ Core (D + 400) τ' g' := by
  obtain ⟨o0, o1, o2⟩ := row
  have nm : ∀ l, l < 3 → X0_number φ.2.2.2.2 (nI r) (nI l) = fv 4 φ.2.2.2.2.2.2 r (1 + l) := fun l hl => by
    unfold X0_number
    rw [show (1 : Int32) + nI l = nI (1 + l) from nI_add 1 l]
    exact tg (k := 1 + l) hN (by omega) (by omega) hr (by omega)
  have lt : X0_letter φ.2.2.2.2 (nI r) = tC w f s := (tg (w := 4) (k := 0) hN (by omega) (by omega) hr (by omega)).trans o1
  have w0 : 0 < cN w f s → X0_number φ.2.2.2.2 (nI r) 0 = ρ.1.1 5 0 := fun q => (nm 0 (by omega)).trans ((o2 0 q).trans (hg 0 q).symm)
  have w1 : 1 < cN w f s → X0_number φ.2.2.2.2 (nI r) 1 = ρ.1.1 5 1 := fun q => (nm 1 (by omega)).trans ((o2 1 q).trans (hg 1 q).symm)
  have w2 : 2 < cN w f s → X0_number φ.2.2.2.2 (nI r) 2 = ρ.1.1 5 2 := fun q => (nm 2 (by omega)).trans ((o2 2 q).trans (hg 2 q).symm)
  have s0 : rdA (ρ.1.1 5) 3 0 = some (ρ.1.1 5 0) := rdN (j := 0) (by omega) (by omega)
  have s1 : rdA (ρ.1.1 5) 3 1 = some (ρ.1.1 5 1) := rdN (j := 1) (by omega) (by omega)
  have s2 : rdA (ρ.1.1 5) 3 2 = some (ρ.1.1 5 2) := rdN (j := 2) (by omega) (by omega)
  have fin : ∀ {D' : Nat} {A : Option (Int32 × St)} {B : Option (Int32 × Ms)}, D' ≤ D + 400 → Out D' τ ρ A B → ∃ r' τ' g', (A.bind fun q => some (q.1, (q.2, φ))) = some (r', (τ', φ)) ∧ (B.bind fun q => some (q.1, q.2)) = some (r', msA ρ 0 g') ∧ Core (D + 400) τ' g' := by
    rintro D' A B hDD ⟨r', τ', g', x1, x2, x3, -⟩
    rw [x1, x2]
    exact ⟨r', τ', g', rfl, rfl, x3.mono hDD⟩
  unfold X4_runCommand X5_does
  dsimp only
  rw [lt]
  simp only [bnd]
  by_cases z99 : tC w f s = 99
  · have en : cN w f s = 2 := by
      unfold cN
      rw [z99]
      decide
    rw [if_pos z99, if_pos z99, w0 (by rw [en]; omega), w1 (by rw [en]; omega), s0, Option.bind_some, s1, Option.bind_some]
    exact fin (by omega) (out_cancel (by omega) hC _ _)
  rw [if_neg z99, if_neg z99]
  by_cases z100 : tC w f s = 100
  · have en : cN w f s = 1 := by
      unfold cN
      rw [z100]
      decide
    rw [if_pos z100, if_pos z100, w0 (by rw [en]; omega), s0, Option.bind_some]
    exact fin (by omega) (out_pass hD hC _)
  rw [if_neg z100, if_neg z100]
  by_cases z104 : tC w f s = 104
  · have en : cN w f s = 3 := by
      unfold cN
      rw [z104]
      decide
    rw [if_pos z104, if_pos z104, w0 (by rw [en]; omega), w1 (by rw [en]; omega), w2 (by rw [en]; omega), s0, Option.bind_some, s1, Option.bind_some, s2, Option.bind_some]
    exact fin (by omega) (out_make (by omega) hC _ _ _)
  rw [if_neg z104, if_neg z104]
  by_cases z105 : tC w f s = 105
  · have en : cN w f s = 2 := by
      unfold cN
      rw [z105]
      decide
    rw [if_pos z105, if_pos z105, w0 (by rw [en]; omega), w1 (by rw [en]; omega), s0, Option.bind_some, s1, Option.bind_some]
    exact fin (by omega) (out_back (by omega) hC _ _)
  rw [if_neg z105, if_neg z105]
  by_cases z111 : tC w f s = 111
  · have en : cN w f s = 2 := by
      unfold cN
      rw [z111]
      decide
    rw [if_pos z111, if_pos z111, w0 (by rw [en]; omega), w1 (by rw [en]; omega), s0, Option.bind_some, s1, Option.bind_some]
    exact fin (by omega) (out_lend (by omega) hC _ _)
  rw [if_neg z111, if_neg z111]
  by_cases z112 : tC w f s = 112
  · have en : cN w f s = 2 := by
      unfold cN
      rw [z112]
      decide
    rw [if_pos z112, if_neg (show ¬ tC w f s = 114 by rw [z112]; decide), w0 (by rw [en]; omega), w1 (by rw [en]; omega), s0, Option.bind_some, s1, Option.bind_some]
    exact fin (by omega) (out_credit hC 3 _ _)
  rw [if_neg z112]
  by_cases z114 : tC w f s = 114
  · have en : cN w f s = 1 := by
      unfold cN
      rw [z114]
      decide
    rw [if_pos z114, if_pos z114, w0 (by rw [en]; omega), s0, Option.bind_some]
    exact fin (by omega) (out_renew (by omega) hC _)
  exfalso
  have e0 : cN w f s = 0 := by
    unfold cN numN
    rw [if_neg z99, if_neg z100, if_neg z104, if_neg z105, if_neg z111, if_neg z112, if_neg z114]
  unfold cO at o0
  rw [if_pos e0] at o0
  cases o0
/-! all of them -/
theorem tx_M (ρ : Ms) (g g' : Nat → Int32) (q : Int32) (b : Bool) {i : Nat} (hi : i ≠ 5) : msA (tx ρ g q b) i g' = tx (msA ρ i g') g q b := by
  show ((va_up (va_up ρ.1.1 5 g) i g', va_up ρ.1.2 2 q), (ρ.2.1, b)) = ((va_up (va_up ρ.1.1 i g') 5 g, va_up ρ.1.2 2 q), (ρ.2.1, b))
  congr 2
  funext j
  show (if j = i then g' else if j = 5 then g else ρ.1.1 j) = if j = 5 then g else if j = i then g' else ρ.1.1 j
  by_cases h : j = i
  · rw [if_pos h, if_neg (fun q => hi (h.symm.trans q)), if_pos h]
  · rw [if_neg h, if_neg h]
theorem TXr.a {ρ : Ms} {w : Nat → Int32} {f p : Nat} (h : TXr ρ w f p) (g : Nat → Int32) {i : Nat} (hi : i ≠ 4) : TXr (msA ρ i g) w f p := ⟨h.1, h.2.1, by rw [msA_get, if_neg (Ne.symm hi)]; exact h.2.2.1, h.2.2.2⟩
theorem cp_img (f g : Nat → Int32) : X5_copies2 681 681 f g 0 0 = some (img f g) := by
  rw [show X5_copies2 681 681 f g 0 0 = _ from copies2_eq (s := 0) (t := 0) f g (by omega) (by omega) (by omega) (by omega)]
  congr 1
  funext p
  unfold img
  by_cases z : p < 681
  · rw [if_pos z, if_pos (by omega), show 0 + (p - 0) = p by omega]
  · rw [if_neg z, if_neg (by omega)]
def ex1 (k : Nat) (x2 : Int32) (ρ : Ms) : Option (Int32 × Ms) := (X5_command ρ).bind fun q7 => (X5_does q7.2 q7.1).bind fun q9 => if 0 ≤ q9.1 then (X5_execute_L85 k ((x2 + (1 : Int32))) q9.2) else (X5_copies2 681 681 (q9.2.1.1 1) (q9.2.1.1 0) (0 : Int32) (0 : Int32)).bind fun g12 => bnd (msA q9.2 0 g12) fun ρ14 => bnd (msI ρ14 1 (0 : Int32)) fun ρ16 => some ((((-300 : Int32) - x2), ρ16))
theorem ex_step {ρ : Ms} {w : Nat → Int32} {f q s i : Nat} (h : TXr ρ w f q) (hf : f ≤ 60) (hi : i < 100) (h1 : q < f) (h2 : i = 0 → q = s) (h3 : 0 < i → q + 1 = s) (k : Nat) : X5_execute_L85 (k + 1) (nI i) ρ = ex1 k (nI i) (tx ρ (ρ.1.1 5) (nI s) false) := by
  rw [X5_execute_L85, h.1, h.2.1, if_neg (nI_ge h1 (by omega))]
  by_cases e : i = 0
  · rw [if_pos (show nI i ≤ 0 by rw [e]; decide), ← h2 e, h.self]
    rfl
  · rw [if_neg (nI_nle (by omega) (by omega))]
    simp only [bnd]
    rw [tx_I, nI_1, h3 (by omega), h.2.2.2]
    rfl
theorem bind_eta (x : Option (Int32 × Ms)) : (x.bind fun q => some (q.1, q.2)) = x := by cases x <;> rfl
theorem exec_sim {w : Nat → Int32} {f : Nat} (hf : f ≤ 60) {φ : Fr} {N : Nat} (hN : φ.2.2.2.2.2.1 = nI N) (hN15 : N ≤ 15) : ∀ (M i k k' s q D : Nat) (τ : St) (ρ : Ms), D + 400 * M ≤ 10000000 → TXr ρ w f q → i + M = N → M < k → M < k' → (∀ j, j < M → CmdRow w f φ.2.2.2.2.2.2 (i + j) (cS w f j s) ∧ (j + 1 = M → cE w f (cS w f j s) = f) ∧ (j + 1 < M → cE w f (cS w f j s) < f)) → (M = 0 → q = f) → (0 < M → q < f ∧ (i = 0 → q = s) ∧ (0 < i → q + 1 = s)) → Core D τ (ρ.1.1 0) →
    (∃ τ' g' gn, X4_execute_L41 (nI N) k (nI i) (τ, φ) = some (X4_settle (τ', φ) (nI N)) ∧ X5_execute_L85 k' (nI i) ρ = X5_made (msI (tx (msA ρ 0 g') gn (nI f) false) 1 0) (nI N) ∧ Core (D + 400 * M) τ' g') ∨
    (∃ e gn q' b g', X4_execute_L41 (nI N) k (nI i) (τ, φ) = some ((-300 : Int32) - nI e, (φ.2.1, φ)) ∧ X5_execute_L85 k' (nI i) ρ = some ((-300 : Int32) - nI e, msI (msA (tx ρ gn q' b) 0 (img (ρ.1.1 1) g')) 1 0)) := by
  intro M
  induction M with
  | zero =>
    intro i k k' s q D τ ρ hD h e1 e2 e2' rows h0 h1 hC
    obtain ⟨k, rfl⟩ : ∃ q, k = q + 1 := ⟨k - 1, by omega⟩
    obtain ⟨k', rfl⟩ : ∃ q, k' = q + 1 := ⟨k' - 1, by omega⟩
    refine Or.inl ⟨τ, ρ.1.1 0, ρ.1.1 5, ?_, ?_, hC⟩
    · rw [X4_execute_L41, if_pos (nI_le (by omega) (by omega))]
      rfl
    · have ei : i = N := by omega
      rw [msA_self, ← h0 rfl, h.self, X5_execute_L85, h.1, h.2.1, if_pos (nI_le (by have := h0 rfl; omega) (by have := h0 rfl; omega)), ei]
      simp only [bnd]
      exact bind_eta _
  | succ M ih =>
    intro i k k' s q D τ ρ hD h e1 e2 e2' rows h0 h1 hC
    obtain ⟨k, rfl⟩ : ∃ q, k = q + 1 := ⟨k - 1, by omega⟩
    obtain ⟨k', rfl⟩ : ∃ q, k' = q + 1 := ⟨k' - 1, by omega⟩
    obtain ⟨hq, hq0, hq1⟩ := h1 (by omega)
    have hs : s ≤ f := by
      rcases Nat.eq_zero_or_pos i with z | z
      · have := hq0 z; omega
      · have := hq1 z; omega
    obtain ⟨row, x2, x3⟩ := rows 0 (by omega)
    have row' : CmdRow w f φ.2.2.2.2.2.2 i s := row
    have x2' : 0 + 1 = M + 1 → cE w f s = f := x2
    have x3' : 0 + 1 < M + 1 → cE w f s < f := x3
    have hss : TXr (tx ρ (ρ.1.1 5) (nI s) false) w f s := h.q _ _
    obtain ⟨g, c, r1, r2⟩ := rf_cmd hss hf hs
    obtain ⟨rc, rg⟩ := r2 row'.1
    rw [row'.1, Bool.not_true, tx_tx] at r1
    have hC' : Core D τ ((tx ρ g (nI (cE w f s)) false).1.1 0) := by
      rw [tx_g, if_neg (by omega)]
      exact hC
    obtain ⟨r', τ', g', o1, o2, o3⟩ := run_sim (ρ := tx ρ g (nI (cE w f s)) false) (by omega) hN hN15 (show i < N by omega) row' (fun j hj => by rw [tx_5]; exact rg j hj) hC'
    rw [ex_step h hf (by omega) hq hq0 hq1, X4_execute_L41, if_neg (nI_ge (by omega) (by omega)), o1, Option.bind_some]
    dsimp only
    unfold ex1
    rw [r1, Option.bind_some]
    dsimp only
    rw [rc, o2, Option.bind_some]
    dsimp only
    by_cases hr : 0 ≤ r'
    · rw [if_pos hr, if_pos hr, nI_1]
      have hT : TXr (msA (tx ρ g (nI (cE w f s)) false) 0 g') w f (cE w f s) := (h.q g (cE w f s)).a g' (by omega)
      have hC2 : Core (D + 400) τ' ((msA (tx ρ g (nI (cE w f s)) false) 0 g').1.1 0) := o3
      rcases ih (i + 1) k k' (cE w f s + 1) (cE w f s) (D + 400) τ' _ (by omega) hT (by omega) (by omega) (by omega) (fun j hj => by
        obtain ⟨y1, y2, y3⟩ := rows (j + 1) (by omega)
        rw [show i + (j + 1) = i + 1 + j by omega] at y1
        exact ⟨y1, fun z => y2 (by omega), fun z => y3 (by omega)⟩) (fun z => x2' (by omega)) (fun z => ⟨x3' (by omega), fun z2 => absurd z2 (by omega), fun _ => rfl⟩) hC2 with ⟨τ'', g'', gn, y1, y2, y3⟩ | ⟨e, gn, q', b, g'', y1, y2⟩
      · rw [show tx (msA (msA (tx ρ g (nI (cE w f s)) false) 0 g') 0 g'') gn (nI f) false = tx (msA ρ 0 g'') gn (nI f) false by rw [msA_msA, tx_M _ _ _ _ _ (by omega), tx_tx]] at y2
        exact Or.inl ⟨τ'', g'', gn, y1, y2, y3.mono (by omega)⟩
      · rw [show msA (tx (msA (tx ρ g (nI (cE w f s)) false) 0 g') gn q' b) 0 (img ((msA (tx ρ g (nI (cE w f s)) false) 0 g').1.1 1) g'') = msA (tx ρ gn q' b) 0 (img (ρ.1.1 1) g'') by rw [msA_get, if_neg (by omega), tx_g, if_neg (by omega), tx_M _ _ _ _ _ (by omega), msA_msA, tx_M _ _ _ _ _ (by omega), tx_tx, ← tx_M _ _ _ _ _ (by omega)]] at y2
        exact Or.inr ⟨e, gn, q', b, g'', y1, y2⟩
    · rw [if_neg hr, if_neg hr, cp_img, Option.bind_some]
      simp only [bnd]
      rw [msA_msA, msA_get, if_neg (by omega), tx_g, if_neg (by omega)]
      exact Or.inr ⟨i, g, _, false, _, rfl, rfl⟩
theorem RR_txt {D : Nat} {σ : Fs} {ρ : Ms} (h : RR D σ ρ) {ξ : Xs} (g : Nat → Int32) (q : Int32) (b : Bool) (h1 : ξ.1.2.1 = 0) (h2 : tbOK 15 ξ.2) : RR D (σ.1, frX σ.2 ξ) (msI (tx ρ g q b) 1 0) := by
  obtain ⟨a1, a2, a3, a4, ⟨k, m, b1, b2, b3, b4, b5, b6⟩, -⟩ := h
  have e : ∀ i, i ≠ 5 → (msI (tx ρ g q b) 1 0).1.1 i = ρ.1.1 i := fun i hi => by rw [msI_arr, tx_g, if_neg hi]
  refine ⟨okf_X a1 h2, ?_, a3, ⟨a4.1, fun z => ?_⟩, ⟨k, m, b1, b2, b3, b4, ?_, fun j hj => ?_⟩, ⟨0, by omega, h1, ?_, fun j hj => absurd hj (by omega)⟩⟩
  · rw [e 0 (by omega)]; exact a2
  · rw [e 2 (by omega)]; exact a4.2 z
  · rw [msI_int, if_neg (by omega), tx_i, if_neg (by omega)]; exact b5
  · rw [e 3 (by omega)]; exact b6 j hj
  · rw [msI_int, if_pos rfl]; rfl
theorem RR_now {D : Nat} {σ : Fs} {ρ : Ms} (h : RR D σ ρ) {g : Nat → Int32} (hg : ∀ p, p < 681 → g p = ρ.1.1 0 p) : RR D σ (msA ρ 0 g) := by
  obtain ⟨h1, h2, h3, h4, ⟨k, m, a1, a2, a3, a4, a5, a6⟩, ⟨f, f1, f2, f3, f4⟩⟩ := h
  have e : ∀ i, i ≠ 0 → (msA ρ 0 g).1.1 i = ρ.1.1 i := fun i hi => by rw [msA_get, if_neg hi]
  refine ⟨h1, ?_, h3, ⟨h4.1, fun q => ?_⟩, ⟨k, m, a1, a2, a3, a4, a5, fun j hj => ?_⟩, ⟨f, f1, f2, f3, fun j hj => ?_⟩⟩
  · rw [msA_get, if_pos rfl]; exact h2.congr hg
  · rw [e 2 (by omega)]; exact h4.2 q
  · rw [e 3 (by omega)]; exact a6 j hj
  · rw [e 4 (by omega)]; exact f4 j hj
theorem ra_eq (ξ : Xs) : X0_readAll ξ = X0_readAll_L14 FU (nI 0) (xsQ ξ (nI 0) (tclr ξ.2)) := by
  unfold X0_readAll
  simp only [bnd]
  rw [show xsP (xsT ξ (tclr ξ.2)) 0 = xsQ ξ (nI 0) (tclr ξ.2) from rfl, show (0 : Int32) = nI 0 from rfl]
theorem ex_eq (ρ : Ms) : X5_execute ρ = (X5_command (tx ρ (ρ.1.1 5) (nI 0) false)).bind fun q => X5_execute_L15 FU q.2 := by
  unfold X5_execute
  simp only [bnd]
  rw [tx_I, tx_W, tx_tx, tx_5, tx_2, show (0 : Int32) = nI 0 from rfl]
theorem kp_eq (ρ : Ms) (g : Nat → Int32) (q : Int32) : kp (tx ρ g q false) = X5_execute_L85 FU (nI 0) (tx (msA ρ 1 (img (ρ.1.1 0) (ρ.1.1 1))) g (nI 0) false) := by
  unfold kp
  rw [keeps_eq, Option.bind_some, tx_g, if_neg (by omega), tx_g, if_neg (by omega), tx_M _ _ _ _ _ (by omega)]
  simp only [bnd]
  rw [tx_I, tx_tx, tx_5, show (0 : Int32) = nI 0 from rfl, show (tx (msA ρ 1 (img (ρ.1.1 0) (ρ.1.1 1))) g q false).2.2 = false from rfl]
/-- the class's call, when the text was read -/
theorem xe_bad {σ : Fs} {q : Int32} {u : Tab} (h : X0_readAll σ.2.2.2.2.2 = some (false, xsQ (xsQ σ.2.2.2.2.2 (nI 0) (tclr σ.2.2.2.2.2.2)) q u)) : X4_execute σ = some ((-200 : Int32) - q, (σ.1, frX σ.2 ((σ.2.2.2.2.2.1.1, ((0 : Int32), q)), u))) := by
  unfold X4_execute
  rw [h, Option.bind_some]
  simp only [bnd]
  rw [if_pos (show bi false = 0 by decide)]
  rfl
theorem xe_good {σ : Fs} {q n : Int32} {u : Tab} (h : X0_readAll σ.2.2.2.2.2 = some (true, xsQ (xsQ σ.2.2.2.2.2 (nI 0) (tclr σ.2.2.2.2.2.2)) q u)) (hn : u.1 = n) : X4_execute σ = X4_execute_L41 n FU (nI 0) (σ.1, frX σ.2 ((σ.2.2.2.2.2.1.1, ((0 : Int32), q)), u)) := by
  unfold X4_execute
  rw [h, Option.bind_some]
  simp only [bnd]
  rw [if_neg (show ¬ bi true = 0 by decide), ← hn, show (0 : Int32) = nI 0 from rfl]
  generalize hF : FU = F
  rfl
theorem sim_execute {D : Nat} (hD : D ≤ 9000000) {σ : Fs} {ρ : Ms} (h : RR D σ ρ) : ∃ r σ' ρ', X4_execute σ = some (r, σ') ∧ X5_execute ρ = some (r, ρ') ∧ RR (D + 6000) σ' ρ' := by
  have hRR := h
  obtain ⟨hOK, hNow, hSet, -, -, ⟨f, f1, f2, f3, f4⟩⟩ := h
  have hc0 : TXc (xsQ σ.2.2.2.2.2 (nI 0) (tclr σ.2.2.2.2.2.2)) (ρ.1.1 4) f 0 := ⟨f2, rfl, fun j hj => (f4 j hj).1⟩
  have hr0 : TXr (tx ρ (ρ.1.1 5) (nI 0) false) (ρ.1.1 4) f 0 := ⟨(tx_1 _ _ _ _).trans f3, tx_2 _ _ _ _, tx_4 _ _ _ _, rfl⟩
  have hx0 : (xsQ σ.2.2.2.2.2 (nI 0) (tclr σ.2.2.2.2.2.2)).2.1 = nI 0 := rfl
  rw [ex_eq]
  rcases read_sim f1 15 0 FU FU 0 _ _ hc0 hr0 (by omega) (by omega) (by unfold FU; omega) (by unfold FU; omega) (by omega) hx0 with ⟨e, u, g, b, q1, ⟨n, hn, un⟩, q3⟩ | ⟨M, u, g, m1, m2, q1, q2, q3, -, q5⟩
  · have ok15 : tbOK 15 u := ⟨by rw [un]; exact nI_pos' (by omega), by rw [un]; exact nI_le hn (by omega)⟩
    rw [tx_tx] at q3
    rw [xe_bad ((ra_eq _).trans q1), q3]
    exact ⟨_, _, _, rfl, rfl, (RR_txt hRR g (nI e) b (ξ := ((σ.2.2.2.2.2.1.1, (0, nI e)), u)) rfl ok15).mono (by omega)⟩
  · have ok15 : tbOK 15 u := ⟨by rw [q2]; exact nI_pos' (by omega), by rw [q2]; exact nI_le m2 (by omega)⟩
    rw [tx_tx] at q3
    rw [Nat.zero_add] at q2
    have h3 : 3 ≤ f := by
      obtain ⟨⟨y1, -⟩, -⟩ := q5 0 (by omega)
      have y2 := cE_le (w := ρ.1.1 4) (Nat.zero_le f)
      have y3 := y2.2 y1
      omega
    have hr1 : TXr (tx (msA ρ 1 (img (ρ.1.1 0) (ρ.1.1 1))) g (nI 0) false) (ρ.1.1 4) f 0 := ⟨(tx_1 _ _ _ _).trans f3, tx_2 _ _ _ _, (tx_4 _ _ _ _).trans (by rw [msA_get, if_neg (by omega)]), rfl⟩
    have hC1 : Core D σ.1 ((tx (msA ρ 1 (img (ρ.1.1 0) (ρ.1.1 1))) g (nI 0) false).1.1 0) := by
      rw [tx_g, if_neg (by omega), msA_get, if_neg (by omega)]
      exact hNow
    rw [xe_good ((ra_eq _).trans q1) q2, q3, kp_eq]
    have hN : (frX σ.2 ((σ.2.2.2.2.2.1.1, ((0 : Int32), nI f)), u)).2.2.2.2.2.1 = nI M := q2
    rcases exec_sim (φ := frX σ.2 ((σ.2.2.2.2.2.1.1, ((0 : Int32), nI f)), u)) f1 hN (by omega) M 0 FU FU 0 0 D σ.1 _ (by omega) hr1 (by omega) (by unfold FU; omega) (by unfold FU; omega) q5 (fun z => absurd z (by omega)) (fun _ => ⟨by omega, fun _ => rfl, fun z => absurd z (by omega)⟩) hC1 with ⟨τ', g', gn, y1, y2, y3⟩ | ⟨e, gn, q', b, g', y1, y2⟩
    · have hR2 := RR_txt hRR gn (nI f) false (ξ := ((σ.2.2.2.2.2.1.1, ((0 : Int32), nI f)), u)) rfl ok15
      obtain ⟨σ', ρ', s1, s2, s3⟩ := settle_sim hR2 (show D ≤ D + 400 * M by omega) y3 (nI M) (nI_pos' (by omega))
      rw [msI_arr, tx_g, if_neg (by omega), tx_g, if_neg (by omega)] at s2
      have eM : tx (msA (tx (msA ρ 1 (img (ρ.1.1 0) (ρ.1.1 1))) g (nI 0) false) 0 g') gn (nI f) false = msA (msA (tx ρ gn (nI f) false) 1 (img (ρ.1.1 0) (ρ.1.1 1))) 0 g' := by
        rw [tx_M _ _ _ _ _ (by omega), tx_tx, tx_M _ _ _ _ _ (by omega), tx_M _ _ _ _ _ (by omega)]
      rw [eM, show msI (msA (msA (tx ρ gn (nI f) false) 1 (img (ρ.1.1 0) (ρ.1.1 1))) 0 g') 1 0 = msA (msA (msI (tx ρ gn (nI f) false) 1 0) 1 (img (ρ.1.1 0) (ρ.1.1 1))) 0 g' from rfl, s2] at y2
      rw [y1, y2]
      have s1' : X4_settle (τ', frX σ.2 ((σ.2.2.2.2.2.1.1, ((0 : Int32), nI f)), u)) (nI M) = (nI M, σ') := s1
      rw [s1']
      exact ⟨_, σ', ρ', rfl, rfl, s3.mono (by omega)⟩
    · have hR2 := RR_txt hRR gn q' b (ξ := ((σ.2.2.2.2.2.1.1, ((0 : Int32), nI f)), u)) rfl ok15
      rw [y1, y2]
      refine ⟨_, _, _, rfl, rfl, ?_⟩
      have eM : msA (tx (tx (msA ρ 1 (img (ρ.1.1 0) (ρ.1.1 1))) g (nI 0) false) gn q' b) 0 (img ((tx (msA ρ 1 (img (ρ.1.1 0) (ρ.1.1 1))) g (nI 0) false).1.1 1) g') = msA (msA (tx ρ gn q' b) 1 (img (ρ.1.1 0) (ρ.1.1 1))) 0 (img (img (ρ.1.1 0) (ρ.1.1 1)) g') := by
        rw [tx_tx, tx_g, if_neg (by omega), msA_get, if_pos rfl, tx_M ρ _ _ _ _ (by omega)]
      rw [eM, show msI (msA (msA (tx ρ gn q' b) 1 (img (ρ.1.1 0) (ρ.1.1 1))) 0 (img (img (ρ.1.1 0) (ρ.1.1 1)) g')) 1 0 = msA (msA (msI (tx ρ gn q' b) 1 0) 1 (img (ρ.1.1 0) (ρ.1.1 1))) 0 (img (img (ρ.1.1 0) (ρ.1.1 1)) g') from rfl]
      refine RR.mono ?_ (show D ≤ D + 6000 by omega)
      have hR3 := RR_now (RR_img hR2 (img (ρ.1.1 0) (ρ.1.1 1))) (g := img (img (ρ.1.1 0) (ρ.1.1 1)) g') (fun p hp => by
        rw [msA_get, if_neg (by omega), msI_arr, tx_g, if_neg (by omega)]
        unfold img
        rw [if_pos hp, if_pos hp])
      rw [show (frX σ.2 ((σ.2.2.2.2.2.1.1, ((0 : Int32), nI f)), u)).2.1 = σ.1 from hSet]
      exact hR3
