/-! WHAT THE TWO SIDES SEE OF ONE STATE -/
def Cx (τ : St) (ρ : Ms) (α : As) (D d nC nP nH nL x : Nat) : Prop := RepM (ρ.1.1 0) α ∧ RepC τ α nC nP nH nL x ∧ Inv α D d nC nP nH nL x
theorem bi_t0 : (bi true = 0) = False := by simp [bi]
theorem bi_f0 : (bi false = 0) = True := by simp [bi]
theorem Cx.n {τ : St} {ρ : Ms} {α : As} {D d nC nP nH nL x : Nat} (H : Cx τ ρ α D d nC nP nH nL x) : (τ.1 0).1 = nI nC ∧ (τ.1 1).1 = nI nP ∧ (τ.1 2).1 = nI nH ∧ (τ.1 3).1 = nI nL ∧ (τ.1 4).1 = nI 8 ∧ τ.2 = nI d := by
  obtain ⟨hM, ⟨⟨a1, a2, a3, a4, a5, a6⟩, -⟩, ⟨b1, -⟩, -⟩ := H
  exact ⟨a1, a2, a3, a4, a5, by rw [a6, b1]⟩
theorem Cx.b {τ : St} {ρ : Ms} {α : As} {D d nC nP nH nL x : Nat} (H : Cx τ ρ α D d nC nP nH nL x) : d ≤ D ∧ nC ≤ 20 ∧ nP ≤ 8 ∧ nH ≤ 24 ∧ nL ≤ 60 := H.2.2.2.1
theorem Cx.r {τ : St} {ρ : Ms} {α : As} {D d nC nP nH nL x : Nat} (H : Cx τ ρ α D d nC nP nH nL x) : rdA (ρ.1.1 0) 681 0 = some (nI d) ∧ rdA (ρ.1.1 0) 681 1 = some (nI nC) ∧ rdA (ρ.1.1 0) 681 2 = some (nI nP) ∧ rdA (ρ.1.1 0) 681 3 = some (nI nH) ∧ rdA (ρ.1.1 0) 681 4 = some (nI nL) := by
  obtain ⟨hM, -, ⟨b1, b2, b3, b4, b5⟩, -⟩ := H
  have q := rd_h hM
  rw [← b1, ← b2, ← b3, ← b4, ← b5]
  exact ⟨q.1, q.2.1, q.2.2.1, q.2.2.2.1, q.2.2.2.2.1⟩
theorem Cx.rs {τ : St} {ρ : Ms} {α : As} {D d nC nP nH nL x : Nat} (H : Cx τ ρ α D d nC nP nH nL x) : rdA (ρ.1.1 0) 681 5 = some (α 1 0 0) ∧ rdA (ρ.1.1 0) 681 6 = some (α 1 0 1) ∧ rdA (ρ.1.1 0) 681 7 = some (α 1 0 2) ∧ rdA (ρ.1.1 0) 681 8 = some (α 1 0 3) ∧ rdA (ρ.1.1 0) 681 9 = some (α 1 0 4) ∧ rdA (ρ.1.1 0) 681 10 = some (α 1 0 5) ∧ rdA (ρ.1.1 0) 681 11 = some (α 1 0 6) ∧ rdA (ρ.1.1 0) 681 12 = some (α 1 0 7) := (rd_h H.1).2.2.2.2.2
theorem Cx.v {τ : St} {ρ : Ms} {α : As} {D d nC nP nH nL x : Nat} (H : Cx τ ρ α D d nC nP nH nL x) : X4_valueOf τ 0 = α 1 0 0 ∧ X4_valueOf τ 1 = α 1 0 1 ∧ X4_valueOf τ 2 = α 1 0 2 ∧ X4_valueOf τ 3 = α 1 0 3 ∧ X4_valueOf τ 4 = α 1 0 4 ∧ X4_valueOf τ 5 = α 1 0 5 ∧ X4_valueOf τ 6 = α 1 0 6 ∧ X4_valueOf τ 7 = α 1 0 7 := by
  obtain ⟨hM, ⟨⟨a1, a2, a3, a4, a5, a6⟩, b, -⟩, -⟩ := H
  obtain ⟨t0, t1, t2, t3, t4, t5, t6, t7⟩ := tg_s a5
  exact ⟨t0.trans (b 0 (by omega)), t1.trans (b 1 (by omega)), t2.trans (b 2 (by omega)), t3.trans (b 3 (by omega)), t4.trans (b 4 (by omega)), t5.trans (b 5 (by omega)), t6.trans (b 6 (by omega)), t7.trans (b 7 (by omega))⟩
/-- a copy, the class's side -/
theorem Cx.c {τ : St} {ρ : Ms} {α : As} {D d nC nP nH nL x : Nat} (H : Cx τ ρ α D d nC nP nH nL x) {c : Nat} (hc : c < nC) (hx : c ≠ x) : tget 12 (τ.1 0) (nI c) 0 = α 2 c 0 ∧ tget 12 (τ.1 0) (nI c) 1 = α 2 c 1 ∧ tget 12 (τ.1 0) (nI c) 2 = α 2 c 2 ∧ tget 12 (τ.1 0) (nI c) 3 = α 2 c 3 ∧ tget 12 (τ.1 0) (nI c) 4 = α 2 c 4 ∧ HolR α nH c (tget 12 (τ.1 0) (nI c) 5) ∧
    tget 12 (τ.1 0) (nI c) 6 = (if α 2 c 3 = 0 ∨ α 2 c 3 = 5 then -2 else α 2 c 5) ∧ tget 12 (τ.1 0) (nI c) 7 = (if α 2 c 3 = 0 ∨ α 2 c 3 = 2 ∨ α 2 c 3 = 3 then -2 else α 2 c 6) ∧ tget 12 (τ.1 0) (nI c) 8 = (if α 2 c 3 = 0 ∨ α 2 c 3 = 2 ∨ α 2 c 3 = 3 then -2 else α 2 c 7) ∧ tget 12 (τ.1 0) (nI c) 9 = (if α 2 c 3 = 0 ∨ α 2 c 3 = 2 ∨ α 2 c 3 = 3 then -2 else α 2 c 8) ∧
    (α 2 c 3 = 4 ∨ α 2 c 3 = 5 → tget 12 (τ.1 0) (nI c) 10 = α 2 c 9) ∧ (α 2 c 3 = 5 → tget 12 (τ.1 0) (nI c) 11 = α 2 c 10) := by
  have hb := H.b
  obtain ⟨hM, ⟨⟨a1, a2, a3, a4, a5, a6⟩, -, -, -, -, b, -⟩, -⟩ := H
  obtain ⟨t0, t1, t2, t3, t4, t5, t6, t7, t8, t9, t10, t11⟩ := tg_c a1 (by omega) hc
  rw [t0, t1, t2, t3, t4, t5, t6, t7, t8, t9, t10, t11]
  obtain ⟨⟨q0, q1, q2, q3, q4⟩, q5, q6, ⟨q7, q8, q9⟩, q10, q11⟩ := b c hc hx
  exact ⟨q0, q1, q2, q3, q4, q5, q6, q7, q8, q9, q10, q11⟩
theorem Cx.cx {τ : St} {ρ : Ms} {α : As} {D d nC nP nH nL x : Nat} (H : Cx τ ρ α D d nC nP nH nL x) {c : Nat} (hc : c < nC) : tget 12 (τ.1 0) (nI c) 0 = α 2 c 0 ∧ tget 12 (τ.1 0) (nI c) 1 = α 2 c 1 ∧ tget 12 (τ.1 0) (nI c) 2 = α 2 c 2 := by
  by_cases hx : c = x
  · have hb := H.b
    obtain ⟨hM, ⟨⟨a1, a2, a3, a4, a5, a6⟩, -, -, -, -, -, b⟩, -⟩ := H
    obtain ⟨t0, t1, t2, -⟩ := tg_c a1 (by omega) hc
    rw [t0, t1, t2]
    subst hx
    exact b hc
  · obtain ⟨q0, q1, q2, -⟩ := H.c hc hx
    exact ⟨q0, q1, q2⟩
theorem Cx.h {τ : St} {ρ : Ms} {α : As} {D d nC nP nH nL x : Nat} (H : Cx τ ρ α D d nC nP nH nL x) {h : Nat} (hh : h < nH) : tget 4 (τ.1 2) (nI h) 0 = α 4 h 1 ∧ tget 4 (τ.1 2) (nI h) 1 = α 4 h 2 ∧ tget 4 (τ.1 2) (nI h) 2 = α 4 h 3 ∧ tget 4 (τ.1 2) (nI h) 3 = α 4 h 0 := by
  have hb := H.b
  obtain ⟨hM, ⟨⟨a1, a2, a3, a4, a5, a6⟩, -, -, -, b, -⟩, -⟩ := H
  obtain ⟨t0, t1, t2, t3⟩ := tg_p a3 (by omega) hh
  rw [t0, t1, t2, t3]
  exact b h hh
theorem Cx.p {τ : St} {ρ : Ms} {α : As} {D d nC nP nH nL x : Nat} (H : Cx τ ρ α D d nC nP nH nL x) {p : Nat} (hp : p < nP) : tget 4 (τ.1 1) (nI p) 0 = α 3 p 0 ∧ tget 4 (τ.1 1) (nI p) 1 = α 3 p 1 ∧ tget 4 (τ.1 1) (nI p) 2 = α 3 p 2 ∧ tget 4 (τ.1 1) (nI p) 3 = α 3 p 3 := by
  have hb := H.b
  obtain ⟨hM, ⟨⟨a1, a2, a3, a4, a5, a6⟩, -, b, -⟩, -⟩ := H
  obtain ⟨t0, t1, t2, t3⟩ := tg_p a2 (by omega) hp
  rw [t0, t1, t2, t3]
  exact ⟨b p 0 hp (by omega), b p 1 hp (by omega), b p 2 hp (by omega), b p 3 hp (by omega)⟩
theorem Cx.l {τ : St} {ρ : Ms} {α : As} {D d nC nP nH nL x : Nat} (H : Cx τ ρ α D d nC nP nH nL x) {e : Nat} (he : e < nL) : tget 5 (τ.1 3) (nI e) 0 = α 5 e 0 ∧ tget 5 (τ.1 3) (nI e) 1 = α 5 e 1 ∧ tget 5 (τ.1 3) (nI e) 2 = α 5 e 2 ∧ tget 5 (τ.1 3) (nI e) 3 = α 5 e 3 ∧ tget 5 (τ.1 3) (nI e) 4 = α 5 e 4 := by
  have hb := H.b
  obtain ⟨hM, ⟨⟨a1, a2, a3, a4, a5, a6⟩, -, -, b, -⟩, -⟩ := H
  obtain ⟨t0, t1, t2, t3, t4⟩ := tg_l a4 (by omega) he
  rw [t0, t1, t2, t3, t4]
  exact ⟨b e 0 he (by omega), b e 1 he (by omega), b e 2 he (by omega), b e 3 he (by omega), b e 4 he (by omega)⟩
/-- who a number names -/
theorem Cx.isP {τ : St} {ρ : Ms} {α : As} {D d nC nP nH nL x : Nat} (H : Cx τ ρ α D d nC nP nH nL x) (a : Int32) : (X4_isPatron τ a = false ∧ X5_isPatron ρ a = some false) ∨ ∃ p, p < nP ∧ a = nI p ∧ X4_isPatron τ a = true ∧ X5_isPatron ρ a = some true := by
  have hb := H.b
  unfold X4_isPatron X5_isPatron thas X5_in
  rw [H.r.2.2.1, H.n.2.1]
  simp only [Option.bind_some]
  rcases pk_ix a (n := nP) (by omega) with z | z | ⟨p, z1, rfl⟩
  · left
    rw [if_pos z]
    exact ⟨by simp [Int32.not_le.mpr z], rfl⟩
  · left
    refine ⟨by simp [Int32.not_lt.mpr z], ?_⟩
    by_cases z0 : a < 0
    · rw [if_pos z0]
    · rw [if_neg z0, if_pos]
      obtain ⟨j, hj, rfl⟩ := nI_of z0
      rw [nI_leI (by omega) (by omega)] at z
      rcases Nat.eq_zero_or_pos nP with e | e
      · rw [e, show nI 0 - 1 = -1 by decide]
        exact Int32.lt_of_lt_of_le (show (-1 : Int32) < 0 by decide) (nI_pos' (by omega))
      · obtain ⟨q, rfl⟩ : ∃ q, nP = q + 1 := ⟨nP - 1, by omega⟩
        rw [nI_pred]
        exact nI_lt (by omega) (by omega)
  · right
    refine ⟨p, z1, rfl, by simp [nI_pos' (show p < 2 ^ 31 by omega), nI_lt z1 (show nP < 2 ^ 31 by omega)], ?_⟩
    obtain ⟨q, rfl⟩ : ∃ q, nP = q + 1 := ⟨nP - 1, by omega⟩
    rw [if_neg (nI_pos (by omega)), nI_pred, if_neg (nI_nlt (by omega) (by omega))]
theorem Cx.isC {τ : St} {ρ : Ms} {α : As} {D d nC nP nH nL x : Nat} (H : Cx τ ρ α D d nC nP nH nL x) (a : Int32) : (X4_isCopy τ a = false ∧ X5_isCopy ρ a = some false) ∨ ∃ p, p < nC ∧ a = nI p ∧ X4_isCopy τ a = true ∧ X5_isCopy ρ a = some true := by
  have hb := H.b
  unfold X4_isCopy X5_isCopy thas X5_in
  rw [H.r.2.1, H.n.1]
  simp only [Option.bind_some]
  rcases pk_ix a (n := nC) (by omega) with z | z | ⟨p, z1, rfl⟩
  · left
    rw [if_pos z]
    exact ⟨by simp [Int32.not_le.mpr z], rfl⟩
  · left
    refine ⟨by simp [Int32.not_lt.mpr z], ?_⟩
    by_cases z0 : a < 0
    · rw [if_pos z0]
    · rw [if_neg z0, if_pos]
      obtain ⟨j, hj, rfl⟩ := nI_of z0
      rw [nI_leI (by omega) (by omega)] at z
      rcases Nat.eq_zero_or_pos nC with e | e
      · rw [e, show nI 0 - 1 = -1 by decide]
        exact Int32.lt_of_lt_of_le (show (-1 : Int32) < 0 by decide) (nI_pos' (by omega))
      · obtain ⟨q, rfl⟩ : ∃ q, nC = q + 1 := ⟨nC - 1, by omega⟩
        rw [nI_pred]
        exact nI_lt (by omega) (by omega)
  · right
    refine ⟨p, z1, rfl, by simp [nI_pos' (show p < 2 ^ 31 by omega), nI_lt z1 (show nC < 2 ^ 31 by omega)], ?_⟩
    obtain ⟨q, rfl⟩ : ∃ q, nC = q + 1 := ⟨nC - 1, by omega⟩
    rw [if_neg (nI_pos (by omega)), nI_pred, if_neg (nI_nlt (by omega) (by omega))]
theorem isIn (a : Int32) {n : Nat} (hn : n < 1000) : (¬ a < 0 → ¬ nI n ≤ a → X5_in a 0 (nI n - 1) = true ∧ ∃ t, t < n ∧ a = nI t) ∧ (nI n ≤ a → 0 < n → X5_in a 0 (nI n - 1) = false) ∧ (a < 0 → X5_in a 0 (nI n - 1) = false) := by
  refine ⟨fun h1 h2 => ?_, fun h0 h1 => ?_, fun h1 => ?_⟩
  · obtain ⟨t, ht, rfl⟩ := nI_of h1
    rw [nI_leI (by omega) (by omega)] at h2
    obtain ⟨q, rfl⟩ : ∃ q, n = q + 1 := ⟨n - 1, by omega⟩
    unfold X5_in
    rw [if_neg h1, nI_pred, if_neg (nI_nlt (by omega) (by omega))]
    exact ⟨rfl, t, by omega, rfl⟩
  · unfold X5_in
    by_cases z0 : a < 0
    · rw [if_pos z0]
    · rw [if_neg z0, if_pos]
      obtain ⟨q, rfl⟩ : ∃ q, n = q + 1 := ⟨n - 1, by omega⟩
      rw [nI_pred]
      exact Int32.lt_of_lt_of_le (nI_lt (by omega) (by omega)) h0
  · unfold X5_in
    rw [if_pos h1]
theorem isT (a : Int32) : (X4_isTitle a = false ∧ X5_isTitle a = false) ∨ ∃ t, t < 6 ∧ a = nI t ∧ X4_isTitle a = true ∧ X5_isTitle a = true := by
  obtain ⟨h1, h2, h3⟩ := isIn a (n := 6) (by omega)
  unfold X4_isTitle X5_isTitle
  by_cases z : a < 0
  · rw [if_pos z]; exact Or.inl ⟨rfl, h3 z⟩
  · rw [if_neg z]
    by_cases z' : (6 : Int32) ≤ a
    · rw [if_pos z']; exact Or.inl ⟨rfl, h2 z' (by omega)⟩
    · rw [if_neg z']
      obtain ⟨q1, t, q2, q3⟩ := h1 z z'
      exact Or.inr ⟨t, q2, q3, rfl, q1⟩
theorem isB (a : Int32) : (X4_isBranch a = false ∧ X5_isBranch a = false) ∨ ∃ t, t < 4 ∧ a = nI t ∧ X4_isBranch a = true ∧ X5_isBranch a = true := by
  obtain ⟨h1, h2, h3⟩ := isIn a (n := 4) (by omega)
  unfold X4_isBranch X5_isBranch
  by_cases z : a < 0
  · rw [if_pos z]; exact Or.inl ⟨rfl, h3 z⟩
  · rw [if_neg z]
    by_cases z' : (4 : Int32) ≤ a
    · rw [if_pos z']; exact Or.inl ⟨rfl, h2 z' (by omega)⟩
    · rw [if_neg z']
      obtain ⟨q1, t, q2, q3⟩ := h1 z z'
      exact Or.inr ⟨t, q2, q3, rfl, q1⟩
