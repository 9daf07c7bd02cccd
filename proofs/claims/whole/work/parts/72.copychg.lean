/-! CHANGES OF ONE COPY -/
theorem rd_cm (ρ : Ms) {g : Nat → Int32} {α : As} {c : Nat} (hR : RepM g α) (hi : c < 20) : X5_of (msA ρ 0 g) (nI c) 0 = some (α 2 c 0) ∧ X5_of (msA ρ 0 g) (nI c) 1 = some (α 2 c 1) ∧ X5_of (msA ρ 0 g) (nI c) 2 = some (α 2 c 2) ∧ X5_of (msA ρ 0 g) (nI c) 3 = some (α 2 c 3) ∧ X5_of (msA ρ 0 g) (nI c) 4 = some (α 2 c 4) ∧ X5_of (msA ρ 0 g) (nI c) 5 = some (α 2 c 5) ∧ X5_of (msA ρ 0 g) (nI c) 6 = some (α 2 c 6) ∧ X5_of (msA ρ 0 g) (nI c) 7 = some (α 2 c 7) ∧ X5_of (msA ρ 0 g) (nI c) 8 = some (α 2 c 8) ∧ X5_of (msA ρ 0 g) (nI c) 9 = some (α 2 c 9) ∧ X5_of (msA ρ 0 g) (nI c) 10 = some (α 2 c 10) ∧ X5_of (msA ρ 0 g) (nI c) 11 = some (α 2 c 11) := rd_c (ρ := msA ρ 0 g) hR hi
theorem rd_om (ρ : Ms) {g : Nat → Int32} {α : As} {h : Nat} (hR : RepM g α) (hi : h < 24) : X5_hold (msA ρ 0 g) (nI h) 0 = some (α 4 h 0) ∧ X5_hold (msA ρ 0 g) (nI h) 1 = some (α 4 h 1) ∧ X5_hold (msA ρ 0 g) (nI h) 2 = some (α 4 h 2) ∧ X5_hold (msA ρ 0 g) (nI h) 3 = some (α 4 h 3) := rd_o (ρ := msA ρ 0 g) hR hi
theorem Cx.row {τ τ' : St} {ρ : Ms} {α : As} {D d nC nP nH nL x c : Nat} {F G : Nat → Int32} {g' : Nat → Int32} (H : Cx τ ρ α D d nC nP nH nL x) (hx : x = 99 ∨ x = c) (hc : c < nC) (u : UpC τ τ' c F) (hM : RepM g' (ar α 2 c G)) (hF : HolR α nH c (F 5)) (hR : RowR F G) (hI : RowI G α d nP nH c) (hh : ∀ h, h < nH → α 4 h 3 = nI c → G 0 = α 4 h 0 ∧ (G 3 = 2 ∨ G 3 = 3)) : Cx τ' (msA ρ 0 g') (ar α 2 c G) D d nC nP nH nL 99 := by
  have hb := H.b
  exact ⟨hM, H.2.1.row hx (by omega) hc u hF hR, H.2.2.row hx hc hI hh⟩
theorem Shf.row {α : As} {nC nH c : Nat} {G : Nat → Int32} (hS : Shf α nC nH) (h3 : G 3 ≠ 0) : Shf (ar α 2 c G) nC nH := by
  intro h c' hh hc' e1 e2
  rw [ar_reg _ _ _ _ (by omega)] at e1 e2
  by_cases e : c' = c
  · subst e
    rw [ar_at]; exact h3
  · rw [ar_row _ _ _ e] at e2 ⊢
    exact hS h c' hh hc' e1 e2
theorem nohold {τ : St} {ρ : Ms} {α : As} {D d nC nP nH nL x c : Nat} (H : Cx τ ρ α D d nC nP nH nL x) (hc : c < nC) (h2 : α 2 c 3 ≠ 2) (h3 : α 2 c 3 ≠ 3) : ∀ h, h < nH → α 4 h 3 ≠ nI c := by
  intro h hh e
  have hb := H.b
  obtain ⟨-, -, -, q⟩ := H.2.2.2.2.2.2.2.1 h hh
  rcases q with q | ⟨c', z1, z2, -, z4⟩
  · exact nI_ne2 (n := c) (by omega) (e.symm.trans q)
  · have : c' = c := (nI_eq (by omega) (by omega)).mp (z2.symm.trans e)
    subst this
    exact z4.elim h2 h3
/-- the base row of a copy that is with a patron -/
theorem baseW {τ : St} {ρ : Ms} {α : As} {D d nC nP nH nL : Nat} (H : Cx τ ρ α D d nC nP nH nL 99) {c : Nat} (hc : c < nC) (hs : α 2 c 3 = 1 ∨ α 2 c 3 = 4 ∨ α 2 c 3 = 5) : fv 12 (τ.1 0).2 c 7 = α 2 c 6 ∧ fv 12 (τ.1 0).2 c 8 = α 2 c 7 ∧ fv 12 (τ.1 0).2 c 9 = α 2 c 8 ∧ HolR α nH c (fv 12 (τ.1 0).2 c 5) ∧ α 2 c 3 ≠ 2 ∧ α 2 c 3 ≠ 3 ∧ α 2 c 3 ≠ 0 := by
  have hb := H.b
  have t : α 2 c 3 ≠ 2 ∧ α 2 c 3 ≠ 3 ∧ α 2 c 3 ≠ 0 := by
    rcases hs with e | e | e <;> rw [e] <;> decide
  obtain ⟨-, -, -, -, -, b5, -⟩ := H.2.1
  obtain ⟨-, q2, -, ⟨q7, q8, q9⟩, -⟩ := b5 c hc (by omega)
  have n : ¬ (α 2 c 3 = 0 ∨ α 2 c 3 = 2 ∨ α 2 c 3 = 3) := fun q => q.elim t.2.2 (fun q => q.elim t.1 t.2.1)
  rw [if_neg n] at q7 q8 q9
  exact ⟨q7, q8, q9, q2, t⟩
/-- a copy is lost -/
theorem lost_sim {τ : St} {ρ : Ms} {α : As} {D d nC nP nH nL c : Nat} (H : Cx τ ρ α D d nC nP nH nL 99) (hS : Shf α nC nH) (hD : D ≤ 20000000) (hc : c < nC) (hs : α 2 c 3 = 1 ∨ α 2 c 3 = 4) : ∃ g' α' nL', X5_loses ρ (nI c) = some (msA ρ 0 g') ∧ Cx (X4_becomeLost τ (nI c)) (msA ρ 0 g') α' D d nC nP nH nL' 99 ∧ Shf α' nC nH ∧ ∃ p, p < nP ∧ α' 2 c 4 = nI p := by
  have hb := H.b
  obtain ⟨b7, b8, b9, b5, n2, n3, n0⟩ := baseW H hc (by rcases hs with e | e; exact Or.inl e; exact Or.inr (Or.inl e))
  obtain ⟨b0, b1, b2⟩ := H.2.1.base hc
  obtain ⟨c0, c1, c2, c3, c4, -⟩ := H.c hc (by omega)
  obtain ⟨r0, r1, r2, r3, r4, -, -, -, -, r9, -⟩ := rd_c H.1 (show c < 20 by omega)
  obtain ⟨-, -, -, hW, -⟩ := H.2.2.2.2.2.1 c hc (by omega)
  obtain ⟨p, hp, ep⟩ := hW (by rcases hs with e | e; exact Or.inl e; exact Or.inr (Or.inl e))
  have hv6 := H.v.2.2.2.2.2.2.1
  have hr11 := H.rs.2.2.2.2.2.2.1
  have hno := nohold H hc n2 n3
  -- the reference's row
  have core : ∃ g1 G, (RepM g1 (ar α 2 c G) ∧ G 9 = X4_fineOf τ (nI c) ∧ G 10 = α 1 0 6 ∧ G 3 = 5 ∧ G 4 = nI p ∧ (∀ k, k ≠ 9 → k ≠ 10 → k ≠ 3 → k ≠ 4 → k ≠ 5 → G k = α 2 c k)) ∧ X5_loses ρ (nI c) = X5_owes (msA ρ 0 g1) 1 (nI p) (α 1 0 6) (nI c) := by
    unfold X5_loses
    rw [r3, Option.bind_some]
    rcases hs with e | e
    · rw [if_pos e, late_fine H hD hc (by omega) e, Option.bind_some, (put_c (show c < 20 by omega)).2.2.2.2.2.2.2.2.2.1, Option.bind_some]
      have m1 := (H.1.of 2 c).row (k := 9) (X4_fineOf τ (nI c)) (by decide) (show c < 20 by omega) (by decide)
      have e4 : X5_of (msA ρ 0 (mup (ρ.1.1 0) 2 c 9 (X4_fineOf τ (nI c)))) (nI c) 4 = some (nI p) := by
        rw [(rd_cm ρ m1 (show c < 20 by omega)).2.2.2.2.1, ar_at, ← ep]
        rfl
      rw [e4, Option.bind_some, turns_c (by omega), Option.bind_some, msA_msA, ms_get]
      have m2 := m1.turn 5 (nI p) 0 (show c < 20 by omega)
      have s11 := (rd_h m2).2.2.2.2.2.2.2.2.2.2.2.1
      rw [ar_reg _ _ _ _ (by omega)] at s11
      rw [ms_get, s11, Option.bind_some, (put_c (show c < 20 by omega)).2.2.2.2.2.2.2.2.2.2.1, Option.bind_some, msA_msA, ms_get]
      have m3 := m2.row (k := 10) (α 1 0 6) (by decide) (show c < 20 by omega) (by decide)
      have s4 : X5_of (msA ρ 0 (mup (mup (mup (mup (mup (ρ.1.1 0) 2 c 9 (X4_fineOf τ (nI c))) 2 c 3 5) 2 c 4 (nI p)) 2 c 5 0) 2 c 10 (α 1 0 6))) (nI c) 4 = some (nI p) := by
        rw [(rd_cm ρ m3 (show c < 20 by omega)).2.2.2.2.1, ar_at]
        rfl
      have t11 := (rd_h m3).2.2.2.2.2.2.2.2.2.2.2.1
      rw [ar_reg _ _ _ _ (by omega)] at t11
      rw [s4, Option.bind_some, ms_get, t11, Option.bind_some]
      refine ⟨_, _, ⟨m3, rfl, rfl, rfl, rfl, fun k k1 k2 k3 k4 k5 => ?_⟩, ?_⟩
      · simp only [k1, k2, k3, k4, k5, if_false]
      · cases X5_owes (msA ρ 0 (mup (mup (mup (mup (mup (ρ.1.1 0) 2 c 9 (X4_fineOf τ (nI c))) 2 c 3 5) 2 c 4 (nI p)) 2 c 5 0) 2 c 10 (α 1 0 6))) 1 (nI p) (α 1 0 6) (nI c) <;> rfl
    · rw [if_neg (by rw [e]; decide), r4, Option.bind_some, turns_c (by omega), Option.bind_some, ep]
      have m2 := (H.1.of 2 c).turn 5 (nI p) 0 (show c < 20 by omega)
      have s11 := (rd_h m2).2.2.2.2.2.2.2.2.2.2.2.1
      rw [ar_reg _ _ _ _ (by omega)] at s11
      rw [ms_get, s11, Option.bind_some, (put_c (show c < 20 by omega)).2.2.2.2.2.2.2.2.2.2.1, Option.bind_some, msA_msA, ms_get]
      have m3 := m2.row (k := 10) (α 1 0 6) (by decide) (show c < 20 by omega) (by decide)
      have s4 : X5_of (msA ρ 0 (mup (mup (mup (mup (ρ.1.1 0) 2 c 3 5) 2 c 4 (nI p)) 2 c 5 0) 2 c 10 (α 1 0 6))) (nI c) 4 = some (nI p) := by
        rw [(rd_cm ρ m3 (show c < 20 by omega)).2.2.2.2.1, ar_at]
        rfl
      have t11 := (rd_h m3).2.2.2.2.2.2.2.2.2.2.2.1
      rw [ar_reg _ _ _ _ (by omega)] at t11
      rw [s4, Option.bind_some, ms_get, t11, Option.bind_some]
      refine ⟨_, _, ⟨m3, (fine_eq H hc (by omega) (Or.inl e)).symm, rfl, rfl, rfl, fun k k1 k2 k3 k4 k5 => ?_⟩, ?_⟩
      · simp only [k2, k3, k4, k5, if_false]
      · cases X5_owes (msA ρ 0 (mup (mup (mup (mup (ρ.1.1 0) 2 c 3 5) 2 c 4 (nI p)) 2 c 5 0) 2 c 10 (α 1 0 6))) 1 (nI p) (α 1 0 6) (nI c) <;> rfl
  obtain ⟨g1, G, ⟨hM, g9, g10, g3, g4, gk⟩, eR⟩ := core
  have u1 : UpC τ (stT τ 0 (tput 12 (τ.1 0) (nI c) 10 (X4_fineOf τ (nI c)))) c _ := (UpC.refl τ c).put (k := 10) (X4_fineOf τ (nI c)) H.n.1 (by omega) hc (by omega)
  have u2 := u1.put (k := 11) (α 1 0 6) H.n.1 (by omega) hc (by omega)
  have u3 := u2.copy 5 (nI p) (-2) H.n.1 (by omega) hc
  have eC : X4_becomeLost τ (nI c) = X4_enter (X4_putCopy (stT (stT τ 0 (tput 12 (τ.1 0) (nI c) 10 (X4_fineOf τ (nI c)))) 0 (tput 12 ((stT τ 0 (tput 12 (τ.1 0) (nI c) 10 (X4_fineOf τ (nI c)))).1 0) (nI c) (nI 11) (α 1 0 6))) (nI c) 5 (nI p) (-2)) 1 (nI p) (α 1 0 6) (nI c) := by
    unfold X4_becomeLost bnd
    rw [hv6, c4, ep]
    rfl
  rw [eR, eC]
  obtain ⟨-, ⟨q1, q2, q3⟩⟩ := And.intro trivial (H.2.2.cb hc)
  have k0 := gk 0 (by omega) (by omega) (by omega) (by omega) (by omega)
  have k1 := gk 1 (by omega) (by omega) (by omega) (by omega) (by omega)
  have k2 := gk 2 (by omega) (by omega) (by omega) (by omega) (by omega)
  have k6 := gk 6 (by omega) (by omega) (by omega) (by omega) (by omega)
  have k7 := gk 7 (by omega) (by omega) (by omega) (by omega) (by omega)
  have k8 := gk 8 (by omega) (by omega) (by omega) (by omega) (by omega)
  have hC := H.row (g' := g1) (G := G) (Or.inl rfl) hc u3 hM b5 (by
    simp (config := {decide := true}) only [RowR, g3, g4, g9, g10, k0, k1, k2, k6, k7, k8, if_true, if_false, b0, b1, b2, b7, b8, b9]) (by
    refine ⟨⟨by rw [k0]; exact q1, by rw [k1]; exact q2, by rw [k2]; exact q3⟩, ⟨5, by omega, g3⟩, fun q => ?_, fun _ => ⟨p, hp, g4⟩, fun q => ?_, fun q => ?_, fun q => ?_⟩ <;> rw [g3] at q <;> exact absurd q (by decide)) (fun h hh e => absurd e (hno h hh))
  have hS' : Shf (ar α 2 c G) nC nH := hS.row (by rw [g3]; decide)
  obtain ⟨g2, α', nL', o1, o2, o3, -⟩ := owe_sim hC hp 1 (α 1 0 6) (nI c)
  rw [msA_msA] at o1 o2
  refine ⟨g2, α', nL', o1, o2, ?_, p, hp, by rw [o3 2 _ _ (by omega) (by omega) (by omega), ar_at]; exact g4⟩
  intro h c' hh hc' e1 e2
  rw [o3 4 _ _ (by omega) (by omega) (by omega)] at e1 e2
  rw [o3 2 _ _ (by omega) (by omega) (by omega)] at e2 ⊢
  exact hS' h c' hh hc' e1 e2
