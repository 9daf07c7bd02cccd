/-! A COPY IS BROUGHT BACK -/
theorem Cx.pat1 {τ : St} {ρ : Ms} {α : As} {D d nC nP nH nL x p : Nat} (H : Cx τ ρ α D d nC nP nH nL x) (hp : p < nP) (v : Int32) : Cx (stT τ 1 (tput 4 (τ.1 1) (nI p) 1 v)) (msA ρ 0 (mup (ρ.1.1 0) 3 p 1 v)) (ar α 3 p (fun j => if j = 1 then v else α 3 p j)) D d nC nP nH nL x := by
  have hb := H.b
  have hM : RepM (mup (ρ.1.1 0) 3 p 1 v) (ar α 3 p (fun j => if j = 1 then v else α 3 p j)) := (H.1.of 3 p).row (k := 1) v (by decide) (show p < 8 by omega) (by decide)
  have rr : ∀ r i k, r ≠ 3 → ar α 3 p (fun j => if j = 1 then v else α 3 p j) r i k = α r i k := fun r i k hr => ar_reg _ _ _ _ hr
  refine ⟨hM, ?_, ?_⟩
  · obtain ⟨⟨a1, a2, a3, a4, a5, a6⟩, b1, b2, b3, b4, b5, b6⟩ := H.2.1
    have e : tput 4 (τ.1 1) (nI p) 1 v = (nI nP, va_up (τ.1 1).2 (p * 4 + 1) v) := (tp_p a2 (by omega) hp).2.1
    have g0 : ∀ i, i ≠ 1 → (stT τ 1 (tput 4 (τ.1 1) (nI p) 1 v)).1 i = τ.1 i := fun i i1 => by rw [stT_get, if_neg i1]
    have g1 : (stT τ 1 (tput 4 (τ.1 1) (nI p) 1 v)).1 1 = (nI nP, va_up (τ.1 1).2 (p * 4 + 1) v) := by rw [stT_get, if_pos rfl, e]
    have gd : (stT τ 1 (tput 4 (τ.1 1) (nI p) 1 v)).2 = τ.2 := stT_day
    refine ⟨⟨?_, ?_, ?_, ?_, ?_, ?_⟩, ?_, ?_, ?_, ?_, ?_, ?_⟩
    · rw [g0 0 (by omega)]; exact a1
    · rw [g1]
    · rw [g0 2 (by omega)]; exact a3
    · rw [g0 3 (by omega)]; exact a4
    · rw [g0 4 (by omega)]; exact a5
    · rw [gd, rr _ _ _ (by omega)]; exact a6
    · intro j hj
      rw [g0 4 (by omega), rr _ _ _ (by omega)]
      exact b1 j hj
    · intro i k hi hk
      rw [g1]
      show fv 4 (va_up (τ.1 1).2 (p * 4 + 1) v) i k = _
      rw [fv_up (by omega) hk]
      by_cases z : i = p
      · subst z
        rw [ar_at]
        by_cases z1 : k = 1
        · rw [if_pos ⟨rfl, z1⟩, if_pos z1]
        · rw [if_neg (fun q => z1 q.2), if_neg z1]
          exact b2 i k hi hk
      · rw [if_neg (fun q => z q.1), ar_row _ _ _ z]
        exact b2 i k hi hk
    · intro i k hi hk
      rw [g0 3 (by omega), rr _ _ _ (by omega)]
      exact b3 i k hi hk
    · intro h hh
      rw [g0 2 (by omega), rr _ _ _ (by omega), rr _ _ _ (by omega), rr _ _ _ (by omega), rr _ _ _ (by omega)]
      exact b4 h hh
    · intro c hc hx
      have r2 := fun i k => rr 2 i k (by omega)
      have r4 := fun i k => rr 4 i k (by omega)
      rw [g0 0 (by omega)]
      simp only [RepCopy, HolR, r2, r4]
      exact b5 c hc hx
    · intro hx
      rw [g0 0 (by omega), rr _ _ _ (by omega), rr _ _ _ (by omega), rr _ _ _ (by omega)]
      exact b6 hx
  · exact H.2.2.same (fun r i k h0 h3 h5 => rr r i k h3) (fun k _ => rr 0 0 k (by omega)) ((rr 0 0 4 (by omega)).trans H.2.2.1.2.2.2.2) (by omega)
theorem back_core {τ : St} {ρ : Ms} {α : As} {D d nC nP nH nL c b : Nat} (H : Cx τ ρ α D d nC nP nH nL 99) (hS : Shf α nC nH) (hD : D ≤ 20000000) (hc : c < nC) (hb4 : b < 4) (hno : ∀ h, h < nH → α 4 h 3 ≠ nI c) : ∃ s τ' g', s < 6 ∧ X4_becomeFree τ (nI c) (nI b) = some τ' ∧ X4_stateOf τ' (nI c) = nI s ∧ X5_bringsBack_J128 ρ (nI c) (nI b) = some (nI s, msA ρ 0 g') ∧ Core D τ' g' := by
  have hb := H.b
  obtain ⟨τ', g', α', u1, u2, u3, u4⟩ := free_sim H (Or.inl rfl) hD hc hb4 hno (fun i c' hi hc' _ e1 e2 => hS i c' hi hc' e1 e2)
  obtain ⟨-, ⟨s, hs, es⟩, -⟩ := u3.2.2.2.2.2.1 c hc (by omega)
  refine ⟨s, τ', g', hs, u1, (u3.2.1.st (by omega) hc (by omega)).1.trans es, ?_, u3.core u4⟩
  unfold X5_bringsBack_J128
  rw [u2, Option.bind_some, (rd_cm ρ (show RepM g' α' from u3.1) (show c < 20 by omega)).2.2.2.1, es]
  rfl
theorem out_back {D : Nat} (hD : D ≤ 20000000) {τ : St} {ρ : Ms} (hC : Core D τ (ρ.1.1 0)) (a b : Int32) : Out D τ ρ (X4_takeBack τ a b) (X5_bringsBack ρ a b) := by
  obtain ⟨α, d, nC, nP, nH, nL, H, hS⟩ := hC.cx
  have hb := H.b
  unfold X4_takeBack X5_bringsBack
  rcases H.isC a with ⟨e1, e2⟩ | ⟨c, hc, rfl, e1, e2⟩
  · rw [e1, e2, Option.bind_some]
    simp only [bi_f0, if_true]
    exact Out.no hC _
  · rcases isB b with ⟨e3, e4⟩ | ⟨t, ht, rfl, e3, e4⟩
    · rw [e1, e2, e3, e4, Option.bind_some]
      simp only [bi_t0, bi_f0, if_true, if_false]
      exact Out.no hC _
    · obtain ⟨c0, c1, c2, c3, c4, c5, -, -, -, -, c10, c11⟩ := H.c hc (by omega)
      obtain ⟨r0, r1, r2, r3, r4, -, -, -, -, r9, r10, -⟩ := rd_c H.1 (show c < 20 by omega)
      obtain ⟨-, ⟨s, hs, es⟩, -, hW, -⟩ := H.2.2.2.2.2.1 c hc (by omega)
      rw [e1, e2, e3, e4, Option.bind_some, r3, Option.bind_some, r4, Option.bind_some]
      simp only [bi_t0, if_false]
      have ec : X4_stateOf τ (nI c) = α 2 c 3 := c3
      unfold X4_isWithPatron
      rw [ec]
      by_cases s1 : α 2 c 3 = 1
      · obtain ⟨p, hp, ep⟩ := hW (Or.inl s1)
        have n4 : ¬ (1 : Int32) = 4 := by decide
        have n5 : ¬ (1 : Int32) = 5 := by decide
        have hl := late_fine H hD hc (by omega) s1
        rw [c4, s1, ep]
        simp only [if_true, bi_t0, if_false, if_neg n4, if_neg n5, bnd]
        unfold X5_bringsBack_J50
        rw [if_pos rfl, hl, Option.bind_some]
        obtain ⟨g1, α1, nL1, o1, o2, o3, -⟩ := owe_sim H hp 0 (X4_fineOf τ (nI c)) (nI c)
        rw [o1, Option.bind_some]
        unfold X5_bringsBack_J68
        rw [if_neg n4]
        unfold X5_bringsBack_J92
        rw [if_neg n5]
        have hno := nohold H hc (by rw [s1]; decide) (by rw [s1]; decide)
        obtain ⟨s', τ', g', k1, k2, k3, k4, k5⟩ := back_core o2 (o3.shf hS) hD hc ht (fun h hh => by rw [o3 4 _ _ (by omega) (by omega) (by omega)]; exact hno h hh)
        rw [k2, k4, Option.bind_some, k3, msA_msA]
        exact ⟨_, _, g', rfl, rfl, k5, fun q => absurd q (nI_pos (by omega))⟩
      · by_cases s4 : α 2 c 3 = 4
        · obtain ⟨p, hp, ep⟩ := hW (Or.inr (Or.inl s4))
          have n1 : ¬ (4 : Int32) = 1 := by decide
          have n5 : ¬ (4 : Int32) = 5 := by decide
          rw [c4, s4, ep]
          simp only [if_true, bi_t0, if_false, if_neg n1, bnd]
          unfold X5_bringsBack_J50
          rw [if_neg n1]
          unfold X5_bringsBack_J68
          rw [if_pos rfl, (rq_p H.1 (show p < 8 by omega)).2.2.1, Option.bind_some, (wr_p (show p < 8 by omega)).2.2.1, Option.bind_some]
          simp only [bnd]
          unfold X5_bringsBack_J92
          rw [if_neg n5, (H.p hp).2.1]
          have o2 := H.pat1 hp (α 3 p 1 - 1)
          have hno := nohold H hc (by rw [s4]; decide) (by rw [s4]; decide)
          obtain ⟨s', τ', g', k1, k2, k3, k4, k5⟩ := back_core o2 (fun h c' hh hc' q1 q2 => by
            rw [ar_reg _ _ _ _ (by omega)] at q1 q2 ⊢
            rw [ar_reg _ _ _ _ (by omega)] at q2
            exact hS h c' hh hc' q1 q2) hD hc ht (fun h hh => by rw [ar_reg _ _ _ _ (by omega)]; exact hno h hh)
          rw [k2, k4, Option.bind_some, k3, msA_msA]
          exact ⟨_, _, g', rfl, rfl, k5, fun q => absurd q (nI_pos (by omega))⟩
        · by_cases s5 : α 2 c 3 = 5
          · obtain ⟨p, hp, ep⟩ := hW (Or.inr (Or.inr s5))
            have n1 : ¬ (5 : Int32) = 1 := by decide
            have n4 : ¬ (5 : Int32) = 4 := by decide
            have hf := fine_eq H hc (by omega) (Or.inr s5)
            rw [c4, c11 s5, s5, ep]
            simp only [if_true, bi_t0, if_false, if_neg n1, if_neg n4, bnd]
            unfold X5_bringsBack_J50
            rw [if_neg n1]
            unfold X5_bringsBack_J68
            rw [if_neg n4]
            unfold X5_bringsBack_J92
            rw [if_pos rfl, r10, Option.bind_some]
            obtain ⟨g1, α1, nL1, o1, o2, o3, -⟩ := owe_sim H hp 2 (-α 2 c 10) (nI c)
            rw [o1, Option.bind_some, (rd_cm ρ (show RepM g1 α1 from o2.1) (show c < 20 by omega)).2.2.2.2.2.2.2.2.2.1, Option.bind_some, o3 2 _ _ (by omega) (by omega) (by omega), hf]
            obtain ⟨g2, α2, nL2, o4, o5, o6, -⟩ := owe_sim o2 hp 0 (α 2 c 9) (nI c)
            rw [msA_msA] at o4 o5
            rw [o4, Option.bind_some]
            have hno := nohold H hc (by rw [s5]; decide) (by rw [s5]; decide)
            obtain ⟨s', τ', g', k1, k2, k3, k4, k5⟩ := back_core o5 (o6.shf (o3.shf hS)) hD hc ht (fun h hh => by rw [o6 4 _ _ (by omega) (by omega) (by omega), o3 4 _ _ (by omega) (by omega) (by omega)]; exact hno h hh)
            rw [k2, k4, Option.bind_some, k3, msA_msA]
            exact ⟨_, _, g', rfl, rfl, k5, fun q => absurd q (nI_pos (by omega))⟩
          · simp only [if_neg s1, if_neg s4, if_neg s5, bi_f0, if_true]
            exact Out.no hC _
theorem sim_bringBack {D : Nat} (hD : D ≤ 10000000) {σ : Fs} {ρ : Ms} (h : RR D σ ρ) (a b : Int32) : ∃ r σ' ρ', X4_bringBack σ a b = some (r, σ') ∧ X5_bringBack ρ a b = some (r, ρ') ∧ RR (D + 6000) σ' ρ' := by
  obtain ⟨r, σ', ρ', e1, e2, e3⟩ := op_sim (B := fun q => X5_bringsBack q a b) h (Nat.le_refl D) (out_back (by omega) (h.core _) a b)
  exact ⟨r, σ', ρ', e1, e2, e3.mono (by omega)⟩
