/-! A HOLD IS MADE -/
/-- somebody waits: the copy is kept for the first of them -/
theorem free_kept2 {τ : St} {ρ : Ms} {α : As} {D d nC nP nH nL x c b : Nat} (H : Cx τ ρ α D d nC nP nH nL x) (hx : x = 99 ∨ x = c) (hD : D ≤ 20000000) (hc : c < nC) (hb4 : b < 4) {j : Nat} (hj : j < nH) (hw : α 4 j 3 = -2) (hw0 : α 4 j 0 = α 2 c 0) (hno : ∀ h, h < nH → α 4 h 3 ≠ nI c) (hS : ∀ h c', h < nH → c' < nC → c' ≠ c → h ≠ j → α 4 h 3 = -2 → α 4 h 0 = α 2 c' 0 → α 2 c' 3 ≠ 0) {τ' : St} {F G : Nat → Int32} (u : UpC (stT τ 2 (tput 4 (τ.1 2) (nI j) 2 (nI c))) τ' c F) {g' : Nat → Int32} (hM : RepM g' (ar (ar α 4 j (hrow α j c)) 2 c G))
    (hF : F 5 = α 4 j 1) (hR : RowR F G) (hG0 : G 0 = α 2 c 0) (hG1 : G 1 = α 2 c 1) (hG2 : G 2 = α 2 c 2) (hG3 : G 3 = 2 ∨ G 3 = 3) (hG4 : ∃ b, b < 4 ∧ G 4 = nI b) (hG5 : G 3 = 2 → ∃ x, x ≤ d + 70 ∧ G 5 = nI x) : Cx τ' (msA ρ 0 g') (ar (ar α 4 j (hrow α j c)) 2 c G) D d nC nP nH nL 99 ∧ Shf (ar (ar α 4 j (hrow α j c)) 2 c G) nC nH := by
  have hb := H.b
  obtain ⟨q1, q2, q3⟩ := H.2.2.cb hc
  have n0 : G 3 ≠ 0 := by rcases hG3 with e | e <;> rw [e] <;> decide
  have n1 : G 3 ≠ 1 := by rcases hG3 with e | e <;> rw [e] <;> decide
  have n4 : G 3 ≠ 4 := by rcases hG3 with e | e <;> rw [e] <;> decide
  have n5 : G 3 ≠ 5 := by rcases hG3 with e | e <;> rw [e] <;> decide
  have hj3 : ar α 4 j (hrow α j c) 4 j 3 = nI c := by rw [ar_at]; rfl
  have hj1 : ar α 4 j (hrow α j c) 4 j 1 = α 4 j 1 := by rw [ar_at]; rfl
  refine ⟨⟨hM, (H.2.1.hold hx (by omega) (by omega) hc hj hw).row (Or.inr rfl) (by omega) hc u (Or.inr ⟨j, hj, hj3, by rw [hj1]; exact hF⟩) hR, H.2.2.assign hx hc hj hw hno (by rw [hG0, hw0]) hG3 ⟨⟨by rw [hG0]; exact q1, by rw [hG1]; exact q2, by rw [hG2]; exact q3⟩, ?_, fun _ => hG4, fun q => ?_, fun q => ?_, fun q => absurd q n1, fun _ => ⟨j, hj, hj3⟩⟩⟩, ?_⟩
  · rcases hG3 with e | e
    · exact ⟨2, by omega, e⟩
    · exact ⟨3, by omega, e⟩
  · rcases q with q | q | q
    · exact absurd q n1
    · exact absurd q n4
    · exact absurd q n5
  · exact hG5 (q.resolve_left n1)
  · intro h c' hh hc' e1 e2
    by_cases e : c' = c
    · subst e
      rw [ar_at]; exact n0
    · have t2 : ∀ k, ar (ar α 4 j (hrow α j c)) 2 c G 2 c' k = α 2 c' k := fun k => by
        rw [ar_row _ _ _ e]; exact ar_reg _ _ _ _ (by omega)
      have t4 : ∀ k, ar (ar α 4 j (hrow α j c)) 2 c G 4 h k = ar α 4 j (hrow α j c) 4 h k := fun k => ar_reg _ _ _ _ (by omega)
      rw [t4] at e1 e2
      rw [t2] at e2 ⊢
      by_cases e' : h = j
      · subst e'
        rw [hj3] at e1
        exact absurd e1 (nI_ne2 (by omega))
      · rw [ar_row _ _ _ e'] at e1 e2
        exact hS h c' hh hc' e e' e1 e2
theorem assign_sim {τ : St} {ρ : Ms} {α : As} {D d nC nP nH nL c b j : Nat} (H : Cx τ ρ α D d nC nP nH nL 99) (hD : D ≤ 20000000) (hc : c < nC) (hb4 : b < 4) (hj : j < nH) (w3 : α 4 j 3 = -2) (w0 : α 4 j 0 = α 2 c 0) (f1 : X4_firstWaiting τ (α 2 c 0) = some (nI j)) (hno : ∀ h, h < nH → α 4 h 3 ≠ nI c) (hS : ∀ h c', h < nH → c' < nC → c' ≠ c → h ≠ j → α 4 h 3 = -2 → α 4 h 0 = α 2 c' 0 → α 2 c' 3 ≠ 0) : ∃ τ' g' α', X4_becomeFree τ (nI c) (nI b) = some τ' ∧ X5_assigns ρ (nI c) (nI b) (nI j) = some (msA ρ 0 g') ∧ Cx τ' (msA ρ 0 g') α' D d nC nP nH nL 99 ∧ Shf α' nC nH := by
  have hb := H.b
  obtain ⟨c0, c1, c2⟩ := H.cx hc
  obtain ⟨b0, b1, b2⟩ := H.2.1.base hc
  obtain ⟨hn0, -, -, -, -, hday⟩ := H.n
  unfold X4_becomeFree X4_titleOf
  rw [c0, f1, Option.bind_some, if_neg (nI_ne2 (by omega))]
  simp only [bnd]
  obtain ⟨-, -, ⟨y, hy, ey⟩, -⟩ := H.2.2.2.2.2.2.2.1 j hj
  have uh := H.2.1.hold (Or.inl rfl) (by omega) (by omega) hc hj w3
  have e2 : tput 4 (τ.1 2) (nI j) 2 (nI c) = (nI nH, va_up (τ.1 2).2 (j * 4 + 2) (nI c)) := tp (w := 4) (k := 2) H.n.2.2.1 (by omega) (by omega) hj (by omega)
  have t2 : ∀ k, k < 4 → tget 4 ((stT τ 2 (tput 4 (τ.1 2) (nI j) 2 (nI c))).1 2) (nI j) (nI k) = if k = 2 then nI c else tget 4 (τ.1 2) (nI j) (nI k) := by
    intro k hk
    rw [tg (n := nH) (by rw [e2]; rfl) (by omega) (by omega) hj hk, tg (n := nH) H.n.2.2.1 (by omega) (by omega) hj hk, e2, stT_get, if_pos rfl, fv_up (by omega) hk]
    by_cases e : k = 2
    · rw [if_pos ⟨rfl, e⟩, if_pos e]
    · rw [if_neg (fun q => e q.2), if_neg e]
  obtain ⟨h0, h1, h2, h3⟩ := H.h hj
  have t20 : tget 4 ((stT τ 2 (tput 4 (τ.1 2) (nI j) 2 (nI c))).1 2) (nI j) 0 = α 4 j 1 := (t2 0 (by omega)).trans h0
  have t21 : tget 4 ((stT τ 2 (tput 4 (τ.1 2) (nI j) 2 (nI c))).1 2) (nI j) 1 = nI y := (t2 1 (by omega)).trans (h1.trans ey)
  rw [t20, t21]
  have hn0' : ((stT τ 2 (tput 4 (τ.1 2) (nI j) 2 (nI c))).1 0).1 = nI nC := hn0
  have hd' : (stT τ 2 (tput 4 (τ.1 2) (nI j) 2 (nI c))).2 = nI d := hday
  have hv' : X4_valueOf (stT τ 2 (tput 4 (τ.1 2) (nI j) 2 (nI c))) 5 = α 1 0 5 := H.v.2.2.2.2.2.1
  have b0' : fv 12 ((stT τ 2 (tput 4 (τ.1 2) (nI j) 2 (nI c))).1 0).2 c 0 = α 2 c 0 := b0
  have b1' : fv 12 ((stT τ 2 (tput 4 (τ.1 2) (nI j) 2 (nI c))).1 0).2 c 1 = α 2 c 1 := b1
  have b2' : fv 12 ((stT τ 2 (tput 4 (τ.1 2) (nI j) 2 (nI c))).1 0).2 c 2 = α 2 c 2 := b2
  have kept := fun (τ' : St) (F G : Nat → Int32) (u : UpC (stT τ 2 (tput 4 (τ.1 2) (nI j) 2 (nI c))) τ' c F) (g' : Nat → Int32) => free_kept2 H (Or.inl rfl) hD hc hb4 hj w3 w0 hno hS u (g' := g') (G := G)
  revert hn0' hd' hv' b0' b1' b2' kept
  generalize stT τ 2 (tput 4 (τ.1 2) (nI j) 2 (nI c)) = S
  intro hn0' hd' hv' b0' b1' b2' kept
  have uT : UpC S (stT (X4_putLoan S (nI c) (-2) (-2) (-2)) 0 (tput 12 ((X4_putLoan S (nI c) (-2) (-2) (-2)).1 0) (nI c) 5 (α 4 j 1))) c _ := ((UpC.refl S c).loan (-2) (-2) (-2) hn0' (by omega) hc).put (k := 5) (α 4 j 1) hn0' (by omega) hc (by omega)
  revert uT
  generalize stT (X4_putLoan S (nI c) (-2) (-2) (-2)) 0 (tput 12 ((X4_putLoan S (nI c) (-2) (-2) (-2)).1 0) (nI c) 5 (α 4 j 1)) = T
  intro uT
  have hT : T.2 = nI d := uT.2.1.trans hd'
  have hV : X4_valueOf T 5 = α 1 0 5 := by
    unfold X4_valueOf at hv' ⊢
    rw [uT.1 4 (by omega)]; exact hv'
  have hM : RepM (mup (ρ.1.1 0) 4 j 3 (nI c)) (ar α 4 j (hrow α j c)) := (H.1.of 4 j).row (k := 3) (nI c) (by decide) (show j < 24 by omega) (by decide)
  have hM2 : RepM (mup (ρ.1.1 0) 4 j 3 (nI c)) (ar (ar α 4 j (hrow α j c)) 2 c (α 2 c)) := by
    have e : ar (ar α 4 j (hrow α j c)) 2 c (α 2 c) = ar α 4 j (hrow α j c) := by
      have := ar_self (ar α 4 j (hrow α j c)) 2 c
      rw [show ar α 4 j (hrow α j c) 2 c = α 2 c from funext (fun k => ar_reg _ _ _ _ (by omega))] at this
      exact this
    rw [e]; exact hM
  have hh2 : X5_hold (msA ρ 0 (mup (ρ.1.1 0) 4 j 3 (nI c))) (nI j) 2 = some (nI y) := by
    rw [(rd_o (ρ := msA ρ 0 (mup (ρ.1.1 0) 4 j 3 (nI c))) (α := ar α 4 j (hrow α j c)) hM (show j < 24 by omega)).2.2.1, ar_at, ← ey]
    rfl
  unfold X5_assigns
  rw [(wr_o (show j < 24 by omega)).2.2.2.2, Option.bind_some]
  simp only [bnd]
  rw [hh2, Option.bind_some]
  by_cases e : y = b
  · subst e
    rw [if_pos rfl, if_pos rfl, if_neg (nI_ne2 (by omega)), hT, hV, ms_get, (rd_h hM).1, Option.bind_some, (rd_h hM).2.2.2.2.2.2.2.2.2.2.1, Option.bind_some, turns_c (by omega), Option.bind_some, msA_msA, ms_get]
    rw [show ar α 4 j (hrow α j c) 0 0 0 = nI d by rw [ar_reg _ _ _ _ (by omega)]; exact H.2.2.1.1, show ar α 4 j (hrow α j c) 1 0 5 = α 1 0 5 from ar_reg _ _ _ _ (by omega)]
    refine ⟨_, _, _, rfl, rfl, kept _ _ _ (uT.copy 3 (nI y) (nI d + α 1 0 5) hn0' (by omega) hc) _ (hM2.turn 3 (nI y) (nI d + α 1 0 5) (by omega)) rfl ?_ rfl rfl rfl (Or.inr rfl) ⟨y, hy, rfl⟩ (fun q => absurd q (show ¬ (3 : Int32) = 2 by decide))⟩
    simp (config := {decide := true}) [RowR, b0', b1', b2']
  · have e' : ¬ nI y = nI b := fun q => e ((nI_eq (by omega) (by omega)).mp q)
    obtain ⟨j1, z, hz, j2⟩ := jab4 hy hb4
    rw [if_neg e', if_neg e', hT, ms_get, (rd_h hM).1, Option.bind_some, turns_c (by omega), Option.bind_some, msA_msA, ms_get]
    unfold X4_wayBetween
    rw [show ar α 4 j (hrow α j c) 0 0 0 = nI d by rw [ar_reg _ _ _ _ (by omega)]; exact H.2.2.1.1, ← j1, j2, nI_add]
    refine ⟨_, _, _, rfl, rfl, kept _ _ _ (uT.copy 2 (nI y) (nI (d + z)) hn0' (by omega) hc) _ (hM2.turn 2 (nI y) (nI (d + z)) (by omega)) rfl ?_ rfl rfl rfl (Or.inl rfl) ⟨y, hy, rfl⟩ (fun _ => ⟨d + z, by omega, rfl⟩)⟩
    simp (config := {decide := true}) [RowR, b0', b1', b2']
theorem lo_near {τ : St} {ρ : Ms} {α : As} {D d nC nP nH nL : Nat} (H : Cx τ ρ α D d nC nP nH nL 99) (t : Int32) {b : Nat} (hb4 : b < 4) : ∀ (m i k : Nat) (v s : Int32), i + m = nC → m < k → ((v = -2 ∧ s = 4) ∨ ∃ j, j < nC ∧ v = nI j ∧ α 2 j 0 = t ∧ α 2 j 3 = 0 ∧ s = jab (α 2 j 4 - nI b)) → ∃ v', X4_nearestOnShelf_L9 τ t (nI b) k v s (nI i) = some v' ∧ X5_nearest_L6 ρ t (nI b) k v (nI i) = some v' ∧ ((v' = -2 ∧ v = -2 ∧ ∀ c, i ≤ c → c < nC → ¬ (α 2 c 0 = t ∧ α 2 c 3 = 0)) ∨ ∃ j, j < nC ∧ v' = nI j ∧ α 2 j 0 = t ∧ α 2 j 3 = 0) := by
  intro m
  induction m with
  | zero =>
    intro i k v s e1 e2 hv
    have hb := H.b
    obtain ⟨k, rfl⟩ : ∃ q, k = q + 1 := ⟨k - 1, by omega⟩
    rw [X4_nearestOnShelf_L9, X5_nearest_L6, H.n.1, H.r.2.1, Option.bind_some, if_pos (nI_le (by omega) (by omega)), if_pos (nI_le (by omega) (by omega))]
    refine ⟨v, rfl, rfl, ?_⟩
    rcases hv with ⟨z1, z2⟩ | ⟨j, z1, z2, z3, z4, -⟩
    · exact Or.inl ⟨z1, z1, fun c h1 h2 => by omega⟩
    · exact Or.inr ⟨j, z1, z2, z3, z4⟩
  | succ m ih =>
    intro i k v s e1 e2 hv
    obtain ⟨k, rfl⟩ : ∃ q, k = q + 1 := ⟨k - 1, by omega⟩
    have hb := H.b
    have hi : i < nC := by omega
    obtain ⟨c0, c1, c2, c3, c4, -⟩ := H.c hi (by omega)
    obtain ⟨r0, r1, r2, r3, r4, -⟩ := rd_c H.1 (show i < 20 by omega)
    have skip : ¬ (α 2 i 0 = t ∧ α 2 i 3 = 0) → ∃ v', X4_nearestOnShelf_L9 τ t (nI b) k v s (nI (i + 1)) = some v' ∧ X5_nearest_L6 ρ t (nI b) k v (nI (i + 1)) = some v' ∧ ((v' = -2 ∧ v = -2 ∧ ∀ c, i ≤ c → c < nC → ¬ (α 2 c 0 = t ∧ α 2 c 3 = 0)) ∨ ∃ j, j < nC ∧ v' = nI j ∧ α 2 j 0 = t ∧ α 2 j 3 = 0) := by
      intro hn
      obtain ⟨v', q1, q2, q3⟩ := ih (i + 1) k v s (by omega) (by omega) hv
      refine ⟨v', q1, q2, ?_⟩
      rcases q3 with ⟨z1, z2, z3⟩ | z
      · refine Or.inl ⟨z1, z2, fun c h1 h2 => ?_⟩
        rcases Nat.lt_or_ge i c with y | y
        · exact z3 c y h2
        · have : c = i := by omega
          rw [this]; exact hn
      · exact Or.inr z
    have take : ∀ (v2 s2 : Int32), (∃ j, j < nC ∧ v2 = nI j ∧ α 2 j 0 = t ∧ α 2 j 3 = 0 ∧ s2 = jab (α 2 j 4 - nI b)) → ∃ v', X4_nearestOnShelf_L9 τ t (nI b) k v2 s2 (nI (i + 1)) = some v' ∧ X5_nearest_L6 ρ t (nI b) k v2 (nI (i + 1)) = some v' ∧ ((v' = -2 ∧ v = -2 ∧ ∀ c, i ≤ c → c < nC → ¬ (α 2 c 0 = t ∧ α 2 c 3 = 0)) ∨ ∃ j, j < nC ∧ v' = nI j ∧ α 2 j 0 = t ∧ α 2 j 3 = 0) := by
      intro v2 s2 hv2
      obtain ⟨v', q1, q2, q3⟩ := ih (i + 1) k v2 s2 (by omega) (by omega) (Or.inr hv2)
      refine ⟨v', q1, q2, ?_⟩
      rcases q3 with ⟨z1, z2, z3⟩ | z
      · obtain ⟨j, j1, j2, -⟩ := hv2
        exact absurd (j2.symm.trans z2) (nI_ne2 (by omega))
      · exact Or.inr z
    rw [X4_nearestOnShelf_L9, X5_nearest_L6, H.n.1, H.r.2.1, Option.bind_some, if_neg (nI_ge hi (by omega)), if_neg (nI_ge hi (by omega))]
    simp only [c0, c3, c4, r0, r3, r4, X4_titleOf, X4_stateOf, X4_wayBetween, nI_1, Option.bind_some]
    by_cases h0 : α 2 i 0 = t
    · rw [if_pos h0, if_pos h0]
      by_cases h1 : α 2 i 3 = 0
      · rw [if_pos h1, if_pos h1]
        obtain ⟨y, hy, ey⟩ := (H.2.2.2.2.2.1 i hi (by omega)).2.2.1 (Or.inl h1)
        rcases hv with ⟨rfl, rfl⟩ | ⟨j, hj, rfl, g1, g2, rfl⟩
        · obtain ⟨-, w, hw, ew⟩ := jab4 hy hb4
          rw [if_neg (show ¬ (4 : Int32) ≤ jab (α 2 i 4 - nI b) by rw [ey, ew]; exact nI_ge (b := 4) (by omega) (by omega)), if_pos (show (-2 : Int32) < 0 by decide)]
          exact take _ _ ⟨i, hi, rfl, h0, h1, rfl⟩
        · rw [if_neg (show ¬ nI j < 0 from nI_pos (by omega)), (rd_c H.1 (show j < 20 by omega)).2.2.2.2.1, Option.bind_some]
          by_cases h2 : jab (α 2 j 4 - nI b) ≤ jab (α 2 i 4 - nI b)
          · rw [if_pos h2, if_pos h2]
            exact take _ _ ⟨j, hj, rfl, g1, g2, rfl⟩
          · rw [if_neg h2, if_neg h2]
            exact take _ _ ⟨i, hi, rfl, h0, h1, rfl⟩
      · rw [if_neg h1, if_neg h1]
        exact skip (fun q => h1 q.2)
    · rw [if_neg h0, if_neg h0]
      exact skip (fun q => h0 q.1)
theorem near_sim {τ : St} {ρ : Ms} {α : As} {D d nC nP nH nL : Nat} (H : Cx τ ρ α D d nC nP nH nL 99) (t : Int32) {b : Nat} (hb4 : b < 4) : ∃ v, X4_nearestOnShelf τ t (nI b) = some v ∧ X5_nearest ρ t (nI b) = some v ∧ ((v = -2 ∧ ∀ c, c < nC → ¬ (α 2 c 0 = t ∧ α 2 c 3 = 0)) ∨ ∃ j, j < nC ∧ v = nI j ∧ α 2 j 0 = t ∧ α 2 j 3 = 0) := by
  have hb := H.b
  obtain ⟨v, q1, q2, q3⟩ := lo_near H t hb4 nC 0 FU (-2) 4 (by omega) (by unfold FU; omega) (Or.inl ⟨rfl, rfl⟩)
  refine ⟨v, q1, q2, ?_⟩
  rcases q3 with ⟨z1, -, z3⟩ | z
  · exact Or.inl ⟨z1, fun c hc => z3 c (by omega) hc⟩
  · exact Or.inr z
def rclM (ρ : Ms) (x2 : Int32) : Option Ms := if 0 ≤ x2 then ((X5_puts ρ x2 (8 : Int32) (1 : Int32)).bind fun q5 => (X5_of q5 x2 (5 : Int32)).bind fun v7 => (rdA (q5.1.1 0) 681 (0 : Int32)).bind fun v9 => (X5_of q5 x2 (6 : Int32)).bind fun v11 => (X5_puts q5 x2 (5 : Int32) ((jmin v7 ((jmax ((v9 + (3 : Int32))) ((v11 + (7 : Int32)))))))).bind fun q13 => some q13) else some ρ
theorem lo_rcl {τ : St} {ρ : Ms} {α : As} {D d nC nP nH nL : Nat} (H : Cx τ ρ α D d nC nP nH nL 99) (t : Int32) : ∀ (m i k : Nat) (v : Int32), i + m = nC → m < k → (v = -2 ∨ ∃ j, j < nC ∧ v = nI j ∧ α 2 j 3 = 1) → ∃ v', X4_earliestNotRecalled_L5 τ t k v (nI i) = some v' ∧ X5_recalls_L5 ρ t k v (nI i) = rclM ρ v' ∧ (v' = -2 ∨ ∃ j, j < nC ∧ v' = nI j ∧ α 2 j 3 = 1) := by
  intro m
  induction m with
  | zero =>
    intro i k v e1 e2 hv
    have hb := H.b
    obtain ⟨k, rfl⟩ : ∃ q, k = q + 1 := ⟨k - 1, by omega⟩
    rw [X4_earliestNotRecalled_L5, X5_recalls_L5, H.n.1, H.r.2.1, Option.bind_some, if_pos (nI_le (by omega) (by omega)), if_pos (nI_le (by omega) (by omega))]
    exact ⟨v, rfl, rfl, hv⟩
  | succ m ih =>
    intro i k v e1 e2 hv
    obtain ⟨k, rfl⟩ : ∃ q, k = q + 1 := ⟨k - 1, by omega⟩
    have hb := H.b
    have hi : i < nC := by omega
    obtain ⟨c0, c1, c2, c3, c4, c5, c6, c7, c8, c9, -⟩ := H.c hi (by omega)
    obtain ⟨r0, r1, r2, r3, r4, r5, r6, r7, r8, -⟩ := rd_c H.1 (show i < 20 by omega)
    rw [X4_earliestNotRecalled_L5, X5_recalls_L5, H.n.1, H.r.2.1, Option.bind_some, if_neg (nI_ge hi (by omega)), if_neg (nI_ge hi (by omega)), r0, Option.bind_some, r3, Option.bind_some, r8, Option.bind_some, r6, Option.bind_some]
    simp only [c0, c3, X4_titleOf, X4_stateOf, nI_1]
    by_cases h0 : α 2 i 0 = t
    · rw [if_pos h0, if_pos h0]
      by_cases h1 : α 2 i 3 = 1
      · have n0 : ¬ (α 2 i 3 = 0 ∨ α 2 i 3 = 2 ∨ α 2 i 3 = 3) := by rw [h1]; decide
        rw [if_neg n0] at c7 c9
        rw [if_pos h1, if_pos h1, c9, c7]
        by_cases h2 : α 2 i 8 = 1
        · rw [if_pos h2, if_pos h2]
          exact ih _ _ _ (by omega) (by omega) hv
        · rw [if_neg h2, if_neg h2]
          rcases hv with rfl | ⟨j, hj, rfl, g1⟩
          · rw [if_pos rfl, if_pos (show (-2 : Int32) < 0 by decide)]
            exact ih _ _ _ (by omega) (by omega) (Or.inr ⟨i, hi, rfl, h1⟩)
          · obtain ⟨-, -, -, -, -, -, -, d7, -⟩ := H.c hj (by omega)
            rw [if_neg (show ¬ (α 2 j 3 = 0 ∨ α 2 j 3 = 2 ∨ α 2 j 3 = 3) by rw [g1]; decide)] at d7
            rw [if_neg (nI_ne2 (show j < 1000000 by omega)), if_neg (show ¬ nI j < 0 from nI_pos (by omega)), d7, (rd_c H.1 (show j < 20 by omega)).2.2.2.2.2.2.1, Option.bind_some]
            by_cases h3 : α 2 j 6 ≤ α 2 i 6
            · rw [if_pos h3, if_pos h3]
              exact ih _ _ _ (by omega) (by omega) (Or.inr ⟨j, hj, rfl, g1⟩)
            · rw [if_neg h3, if_neg h3]
              exact ih _ _ _ (by omega) (by omega) (Or.inr ⟨i, hi, rfl, h1⟩)
      · rw [if_neg h1, if_neg h1]
        exact ih _ _ _ (by omega) (by omega) hv
    · rw [if_neg h0, if_neg h0]
      exact ih _ _ _ (by omega) (by omega) hv
theorem jmaxN {a b : Nat} (ha : a < 2 ^ 31) (hb : b < 2 ^ 31) : ∃ n, n < 2 ^ 31 ∧ jmax (nI a) (nI b) = nI n := by
  unfold jmax
  split
  · exact ⟨b, hb, rfl⟩
  · exact ⟨a, ha, rfl⟩
theorem jminN {a b : Nat} (ha : a < 2 ^ 31) (hb : b < 2 ^ 31) : ∃ n, n ≤ a ∧ jmin (nI a) (nI b) = nI n := by
  unfold jmin
  split
  · rename_i q
    rw [nI_ltI hb ha] at q
    exact ⟨b, by omega, rfl⟩
  · exact ⟨a, by omega, rfl⟩
theorem rcl_sim {τ : St} {ρ : Ms} {α : As} {D d nC nP nH nL : Nat} (H : Cx τ ρ α D d nC nP nH nL 99) (hS : Shf α nC nH) (hD : D ≤ 20000000) (t : Int32) : ∃ τ' g' α', X4_recallFor τ t = some τ' ∧ X5_recalls ρ t = some (msA ρ 0 g') ∧ Cx τ' (msA ρ 0 g') α' D d nC nP nH nL 99 ∧ Shf α' nC nH := by
  have hb := H.b
  obtain ⟨v, q1, q2, q3⟩ := lo_rcl H t nC 0 FU (-2) (by omega) (by unfold FU; omega) (Or.inl rfl)
  unfold X4_recallFor
  rw [show X4_earliestNotRecalled τ t = some v from q1, show X5_recalls ρ t = rclM ρ v from q2, Option.bind_some]
  unfold rclM
  rcases q3 with rfl | ⟨c, hc, rfl, s1⟩
  · rw [if_pos rfl, if_neg (show ¬ (0 : Int32) ≤ -2 by decide)]
    exact ⟨τ, ρ.1.1 0, α, rfl, by rw [msA_self], by rw [msA_self]; exact H, hS⟩
  · rw [if_neg (nI_ne2 (show c < 1000000 by omega)), if_pos (nI_pos' (show c < 2 ^ 31 by omega))]
    obtain ⟨b7, b8, b9, b5, n2, n3, n0⟩ := baseW H hc (Or.inl s1)
    obtain ⟨b0, b1, b2⟩ := H.2.1.base hc
    obtain ⟨c0, c1, c2, c3, c4, c5, c6, c7, -⟩ := H.c hc (by omega)
    have b3 : fv 12 (τ.1 0).2 c 3 = α 2 c 3 := (H.2.1.2.2.2.2.2.1 c hc (by omega)).1.2.2.2.1
    have b4 : fv 12 (τ.1 0).2 c 4 = α 2 c 4 := (H.2.1.2.2.2.2.2.1 c hc (by omega)).1.2.2.2.2
    obtain ⟨i1, i2, i3, hW, hY, hR, -⟩ := H.2.2.2.2.2.1 c hc (by omega)
    obtain ⟨y, hy, ey⟩ := hY (Or.inl s1)
    obtain ⟨⟨z, hz, ez⟩, w, hw, ew⟩ := hR s1
    have t1 : ¬ (α 2 c 3 = 0 ∨ α 2 c 3 = 5) := by rw [s1]; decide
    have t2 : ¬ (α 2 c 3 = 0 ∨ α 2 c 3 = 2 ∨ α 2 c 3 = 3) := by rw [s1]; decide
    have t3 : ¬ (α 2 c 3 = 4 ∨ α 2 c 3 = 5) := by rw [s1]; decide
    have t4 : ¬ α 2 c 3 = 5 := by rw [s1]; decide
    rw [if_neg t1] at c6
    rw [if_neg t2] at c7
    obtain ⟨n, hn, en⟩ := jmaxN (a := d + 3) (b := z + 7) (by omega) (by omega)
    obtain ⟨e, he, ee⟩ := jminN (a := y) (b := n) (by omega) hn
    have m1 := (H.1.of 2 c).row (k := 8) 1 (by decide) (show c < 20 by omega) (by decide)
    obtain ⟨-, -, -, -, -, r5, r6, -⟩ := rd_cm ρ m1 (show c < 20 by omega)
    rw [ar_at, show (if (5 : Nat) = 8 then (1 : Int32) else α 2 c 5) = nI y from ey] at r5
    rw [ar_at, show (if (6 : Nat) = 8 then (1 : Int32) else α 2 c 6) = nI z from ez] at r6
    have r0 := (rd_h m1).1
    rw [ar_reg _ _ _ _ (by omega), H.2.2.1.1] at r0
    have m2 := m1.row (k := 5) (nI e) (by decide) (show c < 20 by omega) (by decide)
    have eq1 : jmin (nI y) (jmax (nI d + 3) (nI z + 7)) = nI e := by
      rw [show nI d + 3 = nI (d + 3) from nI_add d 3, show nI z + 7 = nI (z + 7) from nI_add z 7, en, ee]
    rw [c6, c7, ey, ez, H.n.2.2.2.2.2, eq1, (put_c (show c < 20 by omega)).2.2.2.2.2.2.2.2.1, Option.bind_some, r5, Option.bind_some, ms_get, r0, Option.bind_some, r6, Option.bind_some, eq1, (put_c (show c < 20 by omega)).2.2.2.2.2.1, Option.bind_some, msA_msA, ms_get]
    simp only [bnd]
    have u1 : UpC τ (stT τ 0 (tput 12 (τ.1 0) (nI c) 6 (nI e))) c _ := (UpC.refl τ c).put (k := 6) (nI e) H.n.1 (by omega) hc (by omega)
    have u2 := u1.put (k := 9) 1 H.n.1 (by omega) hc (by omega)
    have hCx := H.row (Or.inl rfl) hc u2 m2 b5 (by
      simp (config := {decide := true}) only [RowR, b0, b1, b2, b3, b4, b7, b8, if_true, if_false, if_neg t1, if_neg t2]
      exact ⟨trivial, trivial, trivial, fun q => absurd q t3, fun q => absurd q t4⟩) (by
      refine ⟨i1, ⟨1, by omega, s1⟩, fun q => ?_, fun _ => hW (Or.inl s1), fun _ => ⟨e, by omega, rfl⟩, fun _ => ⟨⟨z, hz, ez⟩, w, hw, ew⟩, fun q => absurd q n3⟩
      exact q.elim (fun q => absurd q n0) (fun q => q.elim (fun q => absurd q n2) (fun q => absurd q n3))) (fun h hh e => absurd e (nohold H hc n2 n3 h hh))
    exact ⟨_, _, _, rfl, rfl, hCx, hS.row n0⟩
theorem r_waitN {τ : St} {ρ : Ms} {α : As} {D d nC nP nH nL x : Nat} (H : Cx τ ρ α D d nC nP nH nL x) (a : Int32) : ∃ w, w ≤ 24 ∧ X4_waitingBefore τ ((τ.1 2).1) a = some (nI w) ∧ X5_waitingFor ρ a = some (nI w) := by
  obtain ⟨r, q1, q2⟩ := r_wait H a
  obtain ⟨v, w, -, -, w3, w4, -⟩ := nobody H a
  have e : some r = some (nI w) := q2.symm.trans w3
  injection e with e
  rw [H.n.2.2.1, q1, q2, e]
  exact ⟨w, w4, rfl, rfl⟩
theorem mk_bad {τ : St} {a b c : Int32} (e : X4_reasonAgainstHolding τ a b = some (-1)) : X4_makeHold τ a b c = some (-1, τ) := by
  unfold X4_makeHold
  rcases isB c with ⟨e3, -⟩ | ⟨y, hy, rfl, e3, -⟩
  · rw [e3, if_pos (show bi false = 0 by decide)]
  · rw [e3, if_neg (show ¬ bi true = 0 by decide), e, Option.bind_some, if_neg (show ¬ (-1 : Int32) = 0 by decide), show X4_refusal (-1) = -1 by decide]
theorem out_make {D : Nat} (hD : D ≤ 20000000) {τ : St} {ρ : Ms} (hC : Core D τ (ρ.1.1 0)) (a b c : Int32) : Out D τ ρ (X4_makeHold τ a b c) (X5_laysHold ρ a b c) := by
  obtain ⟨α, d, nC, nP, nH, nL, H, hS⟩ := hC.cx
  have hb := H.b
  unfold X5_laysHold
  rcases H.isP a with ⟨e1, e2⟩ | ⟨p, hp, rfl, e1, e2⟩
  · have e3 : X4_reasonAgainstHolding τ a b = some (-1) := by
      unfold X4_reasonAgainstHolding
      rw [e1, if_pos (show bi false = 0 by decide)]
    rw [mk_bad e3, e2, Option.bind_some, if_pos (show bi false = 0 by decide)]
    exact Out.no hC _
  · rw [e2, Option.bind_some, if_neg (show ¬ bi true = 0 by decide)]
    rcases isT b with ⟨e3, e4⟩ | ⟨t, ht, rfl, e3, e4⟩
    · have e5 : X4_reasonAgainstHolding τ (nI p) b = some (-1) := by
        unfold X4_reasonAgainstHolding
        rw [e1, if_neg (show ¬ bi true = 0 by decide), e3, if_pos (show bi false = 0 by decide)]
      rw [mk_bad e5, e4, if_pos (show bi false = 0 by decide)]
      exact Out.no hC _
    · rw [e4, if_neg (show ¬ bi true = 0 by decide)]
      unfold X4_makeHold
      rcases isB c with ⟨e5, e6⟩ | ⟨y, hy, rfl, e5, e6⟩
      · rw [e5, e6, if_pos (show bi false = 0 by decide), if_pos (show bi false = 0 by decide)]
        exact Out.no hC _
      · obtain ⟨r, q1, q2, q3⟩ := rs_hold H hp ht
        rw [e5, e6, if_neg (show ¬ bi true = 0 by decide), if_neg (show ¬ bi true = 0 by decide), q1, q2, Option.bind_some, Option.bind_some]
        rcases q3 with q3 | ⟨rfl, hno⟩
        · obtain ⟨n1, n2, n3⟩ := refus q3
          rw [if_neg n1, if_neg n2, n3]
          exact Out.no hC _
        · rw [if_pos rfl, if_pos (show (0 : Int32) ≤ 0 by decide), H.r.2.2.2.1, Option.bind_some]
          simp only [bnd]
          by_cases z : nH = 24
          · rw [if_pos (show nI nH = 24 by rw [z]; rfl), tadd_full H.n.2.2.1 (by omega) (by omega)]
            show Out D τ ρ (if (0 : Int32) ≤ -3 then _ else some ((-3 : Int32), stT τ 2 (τ.1 2))) _
            rw [if_neg (by decide), stT_self]
            exact Out.no hC _
          · have e24 : ¬ nI nH = 24 := fun q => z ((nI_eq (a := nH) (b := 24) (by omega) (by omega)).mp q)
            have hh : nH < 24 := by omega
            obtain ⟨t1, t2⟩ := tadd_new (w := 4) (cap := 24) H.n.2.2.1 hh (by omega)
            have m1 := (H.1.of 4 nH).row (k := 0) (nI t) (by decide) (show nH < 24 from hh) (by decide)
            have m2 := m1.row (k := 1) (nI p) (by decide) (show nH < 24 from hh) (by decide)
            have m3 := m2.row (k := 2) (nI y) (by decide) (show nH < 24 from hh) (by decide)
            have m4 := m3.row (k := 3) (-2) (by decide) (show nH < 24 from hh) (by decide)
            obtain ⟨α', m5, hA⟩ := m4.add (nH + 1) (q := 3) (by omega) (by omega)
            have r3 := (rd_h m4).2.2.2.1
            rw [ar_reg _ _ _ _ (by omega), H.2.2.1.2.2.2.1] at r3
            rw [if_neg e24, (wr_o hh).1, Option.bind_some, ms_get, (wr_o hh).2.2.1, Option.bind_some, msA_msA, ms_get, (wr_o hh).2.2.2.1, Option.bind_some, msA_msA, ms_get, (wr_o hh).2.2.2.2, Option.bind_some, msA_msA, ms_get, r3, Option.bind_some, nI_1, wr_h.2.2.2.1, Option.bind_some, msA_msA, t1, if_pos (nI_pos' (by omega))]
            have gg : ∀ u, (stT τ 2 u).1 2 = u := fun u => by rw [stT_get, if_pos rfl]
            simp only [gg, stT_stT]
            have w1 := t2.put (k := 0) (nI p) (by omega) (by omega) (by omega) (by omega)
            have w2 := w1.put (k := 1) (nI y) (by omega) (by omega) (by omega) (by omega)
            have w3 := w2.put (k := 2) (-2) (by omega) (by omega) (by omega) (by omega)
            have w4 := w3.put (k := 3) (nI t) (by omega) (by omega) (by omega) (by omega)
            rw [show nI 0 = 0 from rfl, show nI 1 = 1 from rfl, show nI 2 = 2 from rfl, show nI 3 = 3 from rfl] at w4
            revert w4
            generalize tput 4 (tput 4 (tput 4 (tput 4 (tadd 24 4 (τ.1 2)).2 (nI nH) 0 (nI p)) (nI nH) 1 (nI y)) (nI nH) 2 (-2)) (nI nH) 3 (nI t) = u
            intro w4
            have H1 : Cx (stT τ 2 u) (msA ρ 0 (mup (mup (mup (mup (mup (ρ.1.1 0) 4 nH 0 (nI t)) 4 nH 1 (nI p)) 4 nH 2 (nI y)) 4 nH 3 (-2)) 0 0 3 (nI (nH + 1)))) α' D d nC nP (nH + 1) nL 99 := ⟨m5, H.2.1.addH hA w4 ⟨rfl, rfl, rfl, rfl⟩ rfl (by omega), H.2.2.addH hA hh hp ht hy rfl rfl rfl rfl hno⟩
            have a2 : ∀ c k, α' 2 c k = α 2 c k := fun c k => hA.1 2 c k (by omega) (by omega)
            have a4 : ∀ h k, h ≠ nH → α' 4 h k = α 4 h k := fun h k e => hA.1 4 h k (by omega) (fun q => e q.2)
            have a40 : α' 4 nH 0 = nI t := hA.2.1 0
            have a43 : α' 4 nH 3 = -2 := hA.2.1 3
            obtain ⟨v, n1, n2, n3⟩ := near_sim H1 (nI t) hy
            rw [n1, n2, Option.bind_some, Option.bind_some]
            rcases n3 with ⟨rfl, hnone⟩ | ⟨j, hj, rfl, g1, g2⟩
            · rw [if_pos rfl, if_pos (show (-2 : Int32) < 0 by decide)]
              obtain ⟨τ', g', α'', f1, f2, f3, f4⟩ := rcl_sim H1 (show Shf α' nC (nH + 1) from fun i c' hi hc' z1 z2 => by
                by_cases e : i = nH
                · rw [e, a40] at z2
                  exact fun q => hnone c' hc' ⟨z2.symm, q⟩
                · rw [a4 _ _ e] at z1 z2
                  rw [a2] at z2 ⊢
                  exact hS i c' (by omega) hc' z1 z2) hD (nI t)
              rw [msA_msA] at f2 f3
              obtain ⟨w, w24, x1, x2⟩ := r_waitN f3 (nI t)
              rw [f1, f2, Option.bind_some, Option.bind_some, x1, x2]
              exact ⟨_, _, g', rfl, rfl, f3.core f4, fun q => absurd q (nI_pos (by omega))⟩
            · obtain ⟨k0, -, k4, -⟩ := H1.2.2.2.2.2.1 j hj (by omega)
              obtain ⟨b', hb', eb⟩ := k4 (Or.inl g2)
              have f1 : X4_firstWaiting (stT τ 2 u) (α' 2 j 0) = some (nI nH) := by
                rw [(fx_wait H1 (α' 2 j 0)).1, ffi_at (h := nH) (by omega) (decide_eq_true ⟨by rw [a40, g1], a43⟩) (fun i hi => decide_eq_false (fun q => by
                  rw [a4 _ _ (show i ≠ nH by omega), a4 _ _ (show i ≠ nH by omega), a2] at q
                  rw [a2] at g2
                  exact hS i j hi hj q.2 q.1 g2))]
              obtain ⟨τ', g', α'', f2, f3, f4, f5⟩ := assign_sim H1 hD hj hb' (show nH < nH + 1 by omega) a43 (by rw [a40, g1]) f1 (nohold H1 hj (by rw [g2]; decide) (by rw [g2]; decide)) (fun i c' hi hc' _ e z1 z2 => by
                rw [a4 _ _ e] at z1 z2
                rw [a2] at z2 ⊢
                exact hS i c' (by omega) hc' z1 z2)
              rw [msA_msA] at f3 f4
              obtain ⟨w, w24, x1, x2⟩ := r_waitN f4 (nI t)
              rw [if_neg (nI_ne2 (show j < 1000000 by omega)), if_neg (show ¬ nI j < 0 from nI_pos (by omega)), (H1.c hj (by omega)).2.2.2.2.1, (rd_cm ρ m5 (show j < 20 by omega)).2.2.2.2.1, Option.bind_some, eb, f2, f3, Option.bind_some, Option.bind_some, x1, x2]
              exact ⟨_, _, g', rfl, rfl, f4.core f5, fun q => absurd q (nI_pos (by omega))⟩
theorem sim_hold {D : Nat} (hD : D ≤ 10000000) {σ : Fs} {ρ : Ms} (h : RR D σ ρ) (a b c : Int32) : ∃ r σ' ρ', X4_hold σ a b c = some (r, σ') ∧ X5_hold_ ρ a b c = some (r, ρ') ∧ RR (D + 6000) σ' ρ' := by
  obtain ⟨r, σ', ρ', e1, e2, e3⟩ := op_sim (B := fun q => X5_laysHold q a b c) h (Nat.le_refl D) (out_make (by omega) (h.core _) a b c)
  exact ⟨r, σ', ρ', e1, e2, e3.mono (by omega)⟩
