/-! A COPY COMES FREE -/
theorem jab4 {a b : Nat} (ha : a < 4) (hb : b < 4) : jab (nI a - nI b) = jab (nI b - nI a) ∧ ∃ y, y ≤ 3 ∧ jab (nI a - nI b) = nI y := by
  rcases (show a = 0 ∨ a = 1 ∨ a = 2 ∨ a = 3 by omega) with rfl | rfl | rfl | rfl <;> rcases (show b = 0 ∨ b = 1 ∨ b = 2 ∨ b = 3 by omega) with rfl | rfl | rfl | rfl
  all_goals first | exact ⟨by decide, 0, by omega, by decide⟩ | exact ⟨by decide, 1, by omega, by decide⟩ | exact ⟨by decide, 2, by omega, by decide⟩ | exact ⟨by decide, 3, by omega, by decide⟩
theorem RepC.base {τ : St} {α : As} {nC nP nH nL x c : Nat} (h : RepC τ α nC nP nH nL x) (hc : c < nC) : fv 12 (τ.1 0).2 c 0 = α 2 c 0 ∧ fv 12 (τ.1 0).2 c 1 = α 2 c 1 ∧ fv 12 (τ.1 0).2 c 2 = α 2 c 2 := by
  obtain ⟨-, -, -, -, -, b5, b6⟩ := h
  by_cases e : c = x
  · subst e; exact b6 hc
  · obtain ⟨⟨q1, q2, q3, -⟩, -⟩ := b5 c hc e
    exact ⟨q1, q2, q3⟩
theorem Inv.cb {α : As} {D d nC nP nH nL x c : Nat} (h : Inv α D d nC nP nH nL x) (hc : c < nC) : CopyB α c := by
  by_cases e : c = x
  · subst e; exact h.2.2.2.2.1 hc
  · exact (h.2.2.2.1 c hc e).1
/-- the row of hold j with copy c -/
def hrow (α : As) (j c : Nat) : Nat → Int32 := fun k => if k = 3 then nI c else α 4 j k
theorem RepC.hold {τ : St} {α : As} {nC nP nH nL x c j : Nat} (h : RepC τ α nC nP nH nL x) (hx : x = 99 ∨ x = c) (h20 : nC ≤ 20) (h24 : nH ≤ 24) (hc : c < nC) (hj : j < nH) (hw : α 4 j 3 = -2) : RepC (stT τ 2 (tput 4 (τ.1 2) (nI j) 2 (nI c))) (ar α 4 j (hrow α j c)) nC nP nH nL c := by
  have hbase := h.base hc
  obtain ⟨⟨a1, a2, a3, a4, a5, a6⟩, b1, b2, b3, b4, b5, b6⟩ := h
  have r0 := fun i k => ar_reg α (r := 4) (i := j) i k (hrow α j c) (show 0 ≠ 4 by omega)
  have r1 := fun i k => ar_reg α (r := 4) (i := j) i k (hrow α j c) (show 1 ≠ 4 by omega)
  have r2 := fun i k => ar_reg α (r := 4) (i := j) i k (hrow α j c) (show 2 ≠ 4 by omega)
  have r3 := fun i k => ar_reg α (r := 4) (i := j) i k (hrow α j c) (show 3 ≠ 4 by omega)
  have r5 := fun i k => ar_reg α (r := 4) (i := j) i k (hrow α j c) (show 5 ≠ 4 by omega)
  have e2 : tput 4 (τ.1 2) (nI j) 2 (nI c) = (nI nH, va_up (τ.1 2).2 (j * 4 + 2) (nI c)) := tp (w := 4) (k := 2) a3 (by omega) (by omega) hj (by omega)
  rw [e2]
  simp only [RepC, stT_get, stT_day, r0, r1, r2, r3, r5, show (0 = 2) = False by decide, show (1 = 2) = False by decide, show (3 = 2) = False by decide, show (4 = 2) = False by decide, if_false, if_true]
  refine ⟨⟨a1, a2, trivial, a4, a5, a6⟩, b1, b2, b3, ?_, ?_, fun _ => hbase⟩
  · intro h hh
    have g := b4 h hh
    have q : ∀ k, k < 4 → fv 4 (va_up (τ.1 2).2 (j * 4 + 2) (nI c)) h k = if h = j ∧ k = 2 then nI c else fv 4 (τ.1 2).2 h k := fun k hk => fv_up (by omega) hk
    rw [q 0 (by omega), q 1 (by omega), q 2 (by omega), q 3 (by omega)]
    by_cases e : h = j
    · subst e
      simp only [ar_at, hrow]
      simpa using ⟨g.1, g.2.1, g.2.2.2⟩
    · simp only [ar_row α _ _ e]
      simpa [e] using g
  · intro c' hc' hx'
    obtain ⟨q1, q2, q3⟩ := b5 c' hc' (by rcases hx with rfl | rfl <;> omega)
    unfold RepCopy
    simp only [r2]
    refine ⟨q1, ?_, q3⟩
    rcases q2 with ⟨w1, w2⟩ | ⟨h, w1, w2, w3⟩
    · refine Or.inl ⟨w1, fun h hh => ?_⟩
      by_cases e : h = j
      · subst e
        rw [ar_at]
        simp only [hrow, if_true]
        exact fun q => hx' ((nI_eq (by omega) (by omega)).mp q).symm
      · rw [ar_row α _ _ e]
        exact w2 h hh
    · have e : h ≠ j := by
        rintro rfl
        rw [hw] at w2
        exact nI_ne2 (by omega) w2.symm
      exact Or.inr ⟨h, w1, by rw [ar_row α _ _ e]; exact w2, by rw [ar_row α _ _ e]; exact w3⟩
theorem Inv.assign {α : As} {D d nC nP nH nL x c j : Nat} {G : Nat → Int32} (h : Inv α D d nC nP nH nL x) (hx : x = 99 ∨ x = c) (hc : c < nC) (hj : j < nH) (hw : α 4 j 3 = -2) (hno : ∀ h, h < nH → α 4 h 3 ≠ nI c) (hG : G 0 = α 4 j 0) (hG3 : G 3 = 2 ∨ G 3 = 3) (hI : RowI G (ar α 4 j (hrow α j c)) d nP nH c) : Inv (ar (ar α 4 j (hrow α j c)) 2 c G) D d nC nP nH nL 99 := by
  obtain ⟨b1, b2, b3, b4, b5, b6, b7, b8⟩ := h
  have r0 : ∀ i k, ar (ar α 4 j (hrow α j c)) 2 c G 0 i k = α 0 i k := fun i k => by rw [ar_reg _ _ _ _ (by omega), ar_reg _ _ _ _ (by omega)]
  have r1 : ∀ i k, ar (ar α 4 j (hrow α j c)) 2 c G 1 i k = α 1 i k := fun i k => by rw [ar_reg _ _ _ _ (by omega), ar_reg _ _ _ _ (by omega)]
  have r2 : ∀ i k, i ≠ c → ar (ar α 4 j (hrow α j c)) 2 c G 2 i k = α 2 i k := fun i k hi => by rw [ar_row _ _ _ hi, ar_reg _ _ _ _ (by omega)]
  have r2c : ∀ k, ar (ar α 4 j (hrow α j c)) 2 c G 2 c k = G k := fun k => by rw [ar_at]
  have r4 : ∀ i k, i ≠ j → ar (ar α 4 j (hrow α j c)) 2 c G 4 i k = α 4 i k := fun i k hi => by rw [ar_reg _ _ _ _ (by omega), ar_row _ _ _ hi]
  have r4j : ∀ k, ar (ar α 4 j (hrow α j c)) 2 c G 4 j k = if k = 3 then nI c else α 4 j k := fun k => by rw [ar_reg _ _ _ _ (by omega), ar_at]; rfl
  have r40 : ∀ i, ar (ar α 4 j (hrow α j c)) 2 c G 4 i 0 = α 4 i 0 := fun i => by
    by_cases e : i = j
    · rw [e, r4j, if_neg (by omega)]
    · rw [r4 _ _ e]
  have r41 : ∀ i, ar (ar α 4 j (hrow α j c)) 2 c G 4 i 1 = α 4 i 1 := fun i => by
    by_cases e : i = j
    · rw [e, r4j, if_neg (by omega)]
    · rw [r4 _ _ e]
  have r42 : ∀ i, ar (ar α 4 j (hrow α j c)) 2 c G 4 i 2 = α 4 i 2 := fun i => by
    by_cases e : i = j
    · rw [e, r4j, if_neg (by omega)]
    · rw [r4 _ _ e]
  refine ⟨?_, b2, ?_, ?_, fun q => by omega, ?_, ?_, ?_⟩
  · simp only [r0]; exact b1
  · simp only [r1]; exact b3
  · intro c' hc' _
    by_cases e : c' = c
    · subst e
      unfold CopyI CopyB
      simp only [r2c]
      obtain ⟨i1, i2, i3, i4, i5, i6, i7⟩ := hI
      refine ⟨i1, i2, i3, i4, i5, i6, fun q => ?_⟩
      obtain ⟨h, g1, g2⟩ := i7 q
      exact ⟨h, g1, by rw [ar_reg _ _ _ _ (by omega)]; exact g2⟩
    · unfold CopyI CopyB
      simp only [r2 _ _ e]
      obtain ⟨i1, i2, i3, i4, i5, i6, i7⟩ := b4 c' hc' (by rcases hx with rfl | rfl <;> omega)
      refine ⟨i1, i2, i3, i4, i5, i6, fun q => ?_⟩
      obtain ⟨h, g1, g2⟩ := i7 q
      refine ⟨h, g1, ?_⟩
      rw [r4 _ _ (fun e' => by rw [e', hw] at g2; exact nI_ne2 (by omega) g2.symm)]
      exact g2
  · intro h hh
    unfold HoldI
    simp only [r40, r41, r42]
    obtain ⟨q1, q2, q3, q4⟩ := b6 h hh
    refine ⟨q1, q2, q3, ?_⟩
    by_cases e : h = j
    · subst e
      rw [r4j, if_pos rfl]
      exact Or.inr ⟨c, hc, rfl, by rw [r2c]; exact hG, by rw [r2c]; exact hG3⟩
    · rw [r4 _ _ e]
      rcases q4 with q4 | ⟨c', z1, z2, z3⟩
      · exact Or.inl q4
      · have e' : c' ≠ c := fun e' => hno h hh (by rw [z2, e'])
        exact Or.inr ⟨c', z1, z2, by simp only [r2 _ _ e']; exact z3⟩
  · simp only [r40, r41]; exact b7
  · intro h h' hh hh' e1 e2
    by_cases e : h = j
    · by_cases e' : h' = j
      · rw [e, e']
      · rw [e, r4j, if_pos rfl, r4 _ _ e'] at e1
        exact absurd e1.symm (hno h' hh')
    · by_cases e' : h' = j
      · rw [e', r4j, if_pos rfl, r4 _ _ e] at e1
        exact absurd e1 (hno h hh)
      · rw [r4 _ _ e, r4 _ _ e'] at e1
        rw [r4 _ _ e] at e2
        exact b8 h h' hh hh' e1 e2
theorem ms_get {ρ : Ms} {g : Nat → Int32} : (msA ρ 0 g).1.1 0 = g := rfl

/-- nobody waits: to the shelf, or home -/
theorem free_shelf {τ : St} {ρ : Ms} {α : As} {D d nC nP nH nL x c b : Nat} (H : Cx τ ρ α D d nC nP nH nL x) (hx : x = 99 ∨ x = c) (hD : D ≤ 20000000) (hc : c < nC) (hb4 : b < 4) (hno : ∀ h, h < nH → α 4 h 3 ≠ nI c) (hS : ∀ h c', h < nH → c' < nC → c' ≠ c → α 4 h 3 = -2 → α 4 h 0 = α 2 c' 0 → α 2 c' 3 ≠ 0) (hn : ∀ j, j < nH → ¬ (α 4 j 0 = α 2 c 0 ∧ α 4 j 3 = -2)) {τ' : St} {F G : Nat → Int32} (u : UpC τ τ' c F) {g' : Nat → Int32} (hM : RepM g' (ar α 2 c G))
    (hF : F 5 = -2) (hR : RowR F G) (hG0 : G 0 = α 2 c 0) (hG1 : G 1 = α 2 c 1) (hG2 : G 2 = α 2 c 2) (hG3 : G 3 = 0 ∨ G 3 = 2) (hG4 : ∃ b, b < 4 ∧ G 4 = nI b) (hG5 : G 3 = 2 → ∃ x, x ≤ d + 70 ∧ G 5 = nI x) : Cx τ' (msA ρ 0 g') (ar α 2 c G) D d nC nP nH nL 99 ∧ Shf (ar α 2 c G) nC nH := by
  have hb := H.b
  obtain ⟨q1, q2, q3⟩ := H.2.2.cb hc
  have n1 : G 3 ≠ 1 := by rcases hG3 with e | e <;> rw [e] <;> decide
  have n3 : G 3 ≠ 3 := by rcases hG3 with e | e <;> rw [e] <;> decide
  have n4 : G 3 ≠ 4 := by rcases hG3 with e | e <;> rw [e] <;> decide
  have n5 : G 3 ≠ 5 := by rcases hG3 with e | e <;> rw [e] <;> decide
  refine ⟨⟨hM, H.2.1.row hx (by omega) hc u (Or.inl ⟨hF, hno⟩) hR, H.2.2.row hx hc ⟨⟨by rw [hG0]; exact q1, by rw [hG1]; exact q2, by rw [hG2]; exact q3⟩, ?_, fun _ => hG4, fun q => ?_, fun q => ?_, fun q => absurd q n1, fun q => absurd q n3⟩ (fun h hh e => absurd e (hno h hh))⟩, ?_⟩
  · rcases hG3 with e | e
    · exact ⟨0, by omega, e⟩
    · exact ⟨2, by omega, e⟩
  · rcases q with q | q | q
    · exact absurd q n1
    · exact absurd q n4
    · exact absurd q n5
  · exact hG5 (q.resolve_left n1)
  · intro h c' hh hc' e1 e2
    rw [ar_reg _ _ _ _ (by omega)] at e1 e2
    by_cases e : c' = c
    · subst e
      rw [ar_at, hG0] at e2
      exact absurd ⟨e2, e1⟩ (hn h hh)
    · rw [ar_row _ _ _ e] at e2 ⊢
      exact hS h c' hh hc' e e1 e2
/-- somebody waits: the copy is kept for the first of them -/
theorem free_kept {τ : St} {ρ : Ms} {α : As} {D d nC nP nH nL x c b : Nat} (H : Cx τ ρ α D d nC nP nH nL x) (hx : x = 99 ∨ x = c) (hD : D ≤ 20000000) (hc : c < nC) (hb4 : b < 4) {j : Nat} (hj : j < nH) (hw : α 4 j 3 = -2) (hw0 : α 4 j 0 = α 2 c 0) (hno : ∀ h, h < nH → α 4 h 3 ≠ nI c) (hS : ∀ h c', h < nH → c' < nC → c' ≠ c → α 4 h 3 = -2 → α 4 h 0 = α 2 c' 0 → α 2 c' 3 ≠ 0) {τ' : St} {F G : Nat → Int32} (u : UpC (stT τ 2 (tput 4 (τ.1 2) (nI j) 2 (nI c))) τ' c F) {g' : Nat → Int32} (hM : RepM g' (ar (ar α 4 j (hrow α j c)) 2 c G))
    (hF : F 5 = α 4 j 1) (hR : RowR F G) (hG0 : G 0 = α 2 c 0) (hG1 : G 1 = α 2 c 1) (hG2 : G 2 = α 2 c 2) (hG3 : G 3 = 2 ∨ G 3 = 3) (hG4 : ∃ b, b < 4 ∧ G 4 = nI b) (hG5 : G 3 = 2 → ∃ x, x ≤ d + 70 ∧ G 5 = nI x) : Cx τ' (msA ρ 0 g') (ar (ar α 4 j (hrow α j c)) 2 c G) D d nC nP nH nL 99 ∧ Shf (ar (ar α 4 j (hrow α j c)) 2 c G) nC nH := by
  have hb := H.b
  obtain ⟨q1, q2, q3⟩ := H.2.2.cb hc
  have n0 : G 3 ≠ 0 := by rcases hG3 with e | e <;> rw [e] <;> decide
  have n1 : G 3 ≠ 1 := by rcases hG3 with e | e <;> rw [e] <;> decide
  have n4 : G 3 ≠ 4 := by rcases hG3 with e | e <;> rw [e] <;> decide
  have n5 : G 3 ≠ 5 := by rcases hG3 with e | e <;> rw [e] <;> decide
  have hj3 : ar α 4 j (hrow α j c) 4 j 3 = nI c := by rw [ar_at]; rfl
  have hj1 : ar α 4 j (hrow α j c) 4 j 1 = α 4 j 1 := by rw [ar_at]; rfl
  refine ⟨⟨hM, (H.2.1.hold hx (by omega) (by omega) hc hj hw).row (Or.inr rfl) (by omega) hc u (Or.inr ⟨j, hj, hj3, by rw [hj1]; exact hF⟩) hR, H.2.2.assign hx hc hj hw hno (by rw [hG0, hw0]) hG3 ⟨⟨by rw [hG0]; exact q1, by rw [hG1]; exact q2, by rw [hG2]; exact q3⟩, ?_, fun _ => hG4, fun q => ?_, fun q => ?_, fun q => absurd q n1, fun _ => ⟨j, hj, hj3⟩⟩⟩, ?_⟩
  · rcases hG3 with e | e
    · exact ⟨2, by omega, e⟩
    · exact ⟨3, by omega, e⟩
  · rcases q with q | q | q
    · exact absurd q n1
    · exact absurd q n4
    · exact absurd q n5
  · exact hG5 (q.resolve_left n1)
  · intro h c' hh hc' e1 e2
    by_cases e : c' = c
    · subst e
      rw [ar_at]; exact n0
    · have t2 : ∀ k, ar (ar α 4 j (hrow α j c)) 2 c G 2 c' k = α 2 c' k := fun k => by
        rw [ar_row _ _ _ e]; exact ar_reg _ _ _ _ (by omega)
      have t4 : ∀ k, ar (ar α 4 j (hrow α j c)) 2 c G 4 h k = ar α 4 j (hrow α j c) 4 h k := fun k => ar_reg _ _ _ _ (by omega)
      rw [t4] at e1 e2
      rw [t2] at e2 ⊢
      by_cases e' : h = j
      · subst e'
        rw [hj3] at e1
        exact absurd e1 (nI_ne2 (by omega))
      · rw [ar_row _ _ _ e'] at e1 e2
        exact hS h c' hh hc' e e1 e2
theorem free_sim {τ : St} {ρ : Ms} {α : As} {D d nC nP nH nL x c b : Nat} (H : Cx τ ρ α D d nC nP nH nL x) (hx : x = 99 ∨ x = c) (hD : D ≤ 20000000) (hc : c < nC) (hb4 : b < 4) (hno : ∀ h, h < nH → α 4 h 3 ≠ nI c) (hS : ∀ h c', h < nH → c' < nC → c' ≠ c → α 4 h 3 = -2 → α 4 h 0 = α 2 c' 0 → α 2 c' 3 ≠ 0) : ∃ τ' g' α', X4_becomeFree τ (nI c) (nI b) = some τ' ∧ X5_frees ρ (nI c) (nI b) = some (msA ρ 0 g') ∧ Cx τ' (msA ρ 0 g') α' D d nC nP nH nL 99 ∧ Shf α' nC nH := by
  have hb := H.b
  obtain ⟨v, w, f1, f2, -, -, f4⟩ := nobody H (α 2 c 0)
  obtain ⟨c0, c1, c2⟩ := H.cx hc
  obtain ⟨b0, b1, b2⟩ := H.2.1.base hc
  obtain ⟨r0, r1, r2, -⟩ := rd_c H.1 (show c < 20 by omega)
  obtain ⟨hn0, -, -, -, -, hday⟩ := H.n
  obtain ⟨-, ⟨y, hy, ey⟩, hfl⟩ := H.2.2.cb hc
  have fl : α 2 c 2 = 0 ∨ α 2 c 2 = 1 := hfl
  unfold X4_becomeFree X5_frees X4_titleOf
  rw [c0, f1, r0, Option.bind_some, Option.bind_some, f2, Option.bind_some, r1, Option.bind_some]
  rcases f4 with ⟨rfl, -, hn⟩ | ⟨j, hj, rfl, -, w0, w3⟩
  · rw [if_pos rfl, if_pos (show (-2 : Int32) < 0 by decide), c2, c1, r2, Option.bind_some]
    simp only [bnd, if_true]
    have uT : UpC τ (stT (X4_putLoan τ (nI c) (-2) (-2) (-2)) 0 (tput 12 ((X4_putLoan τ (nI c) (-2) (-2) (-2)).1 0) (nI c) 5 (-2))) c _ := ((UpC.refl τ c).loan (-2) (-2) (-2) hn0 (by omega) hc).put (k := 5) (-2) hn0 (by omega) hc (by omega)
    revert uT
    generalize stT (X4_putLoan τ (nI c) (-2) (-2) (-2)) 0 (tput 12 ((X4_putLoan τ (nI c) (-2) (-2) (-2)).1 0) (nI c) 5 (-2)) = T
    intro uT
    have hT : T.2 = nI d := uT.2.1.trans hday
    by_cases hs : α 2 c 2 = 1 ∨ α 2 c 1 = nI b
    · have e4 : (if α 2 c 2 = 0 then if α 2 c 1 = nI b then some (X4_putCopy T (nI c) 0 (nI b) (-2)) else some (X4_putCopy T (nI c) 2 (α 2 c 1) (T.2 + X4_wayBetween (nI b) (α 2 c 1))) else some (X4_putCopy T (nI c) 0 (nI b) (-2))) = some (X4_putCopy T (nI c) 0 (nI b) (-2)) := by
        rcases hs with q | q
        · rw [if_neg (by rw [q]; decide)]
        · rw [if_pos q, ite_self]
      rw [e4]
      have e5 : (if α 2 c 2 = 1 then (X5_turns ρ (nI c) 0 (nI b) 0).bind fun q11 => some q11 else if α 2 c 1 = nI b then (X5_turns ρ (nI c) 0 (nI b) 0).bind fun q18 => some q18 else (rdA (ρ.1.1 0) 681 0).bind fun v14 => (X5_turns ρ (nI c) 2 (α 2 c 1) (v14 + jab (α 2 c 1 - nI b))).bind fun q16 => some q16) = X5_turns ρ (nI c) 0 (nI b) 0 := by
        rw [turns_c (by omega)]
        rcases hs with q | q
        · rw [if_pos q]; rfl
        · rw [if_pos q]; split <;> rfl
      rw [e5, turns_c (by omega)]
      refine ⟨_, _, _, rfl, rfl, free_shelf H hx hD hc hb4 hno hS hn (uT.copy 0 (nI b) (-2) hn0 (by omega) hc) ((H.1.of 2 c).turn 0 (nI b) 0 (by omega)) rfl ?_ rfl rfl rfl (Or.inl rfl) ⟨b, hb4, rfl⟩ (fun q => absurd q (show ¬ (0 : Int32) = 2 by decide))⟩
      simp (config := {decide := true}) [RowR, b0, b1, b2]
    · have q1 : ¬ α 2 c 2 = 1 := fun q => hs (Or.inl q)
      have q2 : ¬ α 2 c 1 = nI b := fun q => hs (Or.inr q)
      have q0 : α 2 c 2 = 0 := fl.resolve_right q1
      rw [if_pos q0, if_neg q2, if_neg q1, if_neg q2, H.r.1, Option.bind_some, turns_c (by omega), Option.bind_some, hT, ey]
      obtain ⟨j1, z, hz, j2⟩ := jab4 hy hb4
      unfold X4_wayBetween
      rw [← j1, j2, nI_add]
      refine ⟨_, _, _, rfl, rfl, free_shelf H hx hD hc hb4 hno hS hn (uT.copy 2 (nI y) (nI (d + z)) hn0 (by omega) hc) ((H.1.of 2 c).turn 2 (nI y) (nI (d + z)) (by omega)) rfl ?_ rfl rfl rfl (Or.inr rfl) ⟨y, hy, rfl⟩ (fun _ => ⟨d + z, by omega, rfl⟩)⟩
      simp (config := {decide := true}) [RowR, b0, b1, b2]
  · rw [if_neg (nI_ne2 (by omega)), if_neg (nI_pos (by omega))]
    simp only [bnd]
    obtain ⟨-, -, ⟨y, hy, ey⟩, -⟩ := H.2.2.2.2.2.2.2.1 j hj
    have uh := H.2.1.hold hx (by omega) (by omega) hc hj w3
    have e2 : tput 4 (τ.1 2) (nI j) 2 (nI c) = (nI nH, va_up (τ.1 2).2 (j * 4 + 2) (nI c)) := tp (w := 4) (k := 2) H.n.2.2.1 (by omega) (by omega) hj (by omega)
    have t2 : ∀ k, k < 4 → tget 4 ((stT τ 2 (tput 4 (τ.1 2) (nI j) 2 (nI c))).1 2) (nI j) (nI k) = if k = 2 then nI c else tget 4 (τ.1 2) (nI j) (nI k) := by
      intro k hk
      rw [tg (n := nH) (by rw [e2]; rfl) (by omega) (by omega) hj hk, tg (n := nH) H.n.2.2.1 (by omega) (by omega) hj hk, e2, stT_get, if_pos rfl, fv_up (by omega) hk]
      by_cases e : k = 2
      · rw [if_pos ⟨rfl, e⟩, if_pos e]
      · rw [if_neg (fun q => e q.2), if_neg e]
    obtain ⟨h0, h1, h2, h3⟩ := H.h hj
    have t20 : tget 4 ((stT τ 2 (tput 4 (τ.1 2) (nI j) 2 (nI c))).1 2) (nI j) 0 = α 4 j 1 := (t2 0 (by omega)).trans h0
    have t21 : tget 4 ((stT τ 2 (tput 4 (τ.1 2) (nI j) 2 (nI c))).1 2) (nI j) 1 = nI y := (t2 1 (by omega)).trans (h1.trans ey)
    rw [t20, t21]
    have hn0' : ((stT τ 2 (tput 4 (τ.1 2) (nI j) 2 (nI c))).1 0).1 = nI nC := hn0
    have hd' : (stT τ 2 (tput 4 (τ.1 2) (nI j) 2 (nI c))).2 = nI d := hday
    have hv' : X4_valueOf (stT τ 2 (tput 4 (τ.1 2) (nI j) 2 (nI c))) 5 = α 1 0 5 := H.v.2.2.2.2.2.1
    have b0' : fv 12 ((stT τ 2 (tput 4 (τ.1 2) (nI j) 2 (nI c))).1 0).2 c 0 = α 2 c 0 := b0
    have b1' : fv 12 ((stT τ 2 (tput 4 (τ.1 2) (nI j) 2 (nI c))).1 0).2 c 1 = α 2 c 1 := b1
    have b2' : fv 12 ((stT τ 2 (tput 4 (τ.1 2) (nI j) 2 (nI c))).1 0).2 c 2 = α 2 c 2 := b2
    have kept := fun (τ' : St) (F G : Nat → Int32) (u : UpC (stT τ 2 (tput 4 (τ.1 2) (nI j) 2 (nI c))) τ' c F) (g' : Nat → Int32) => free_kept H hx hD hc hb4 hj w3 w0 hno hS u (g' := g') (G := G)
    revert hn0' hd' hv' b0' b1' b2' kept
    generalize stT τ 2 (tput 4 (τ.1 2) (nI j) 2 (nI c)) = S
    intro hn0' hd' hv' b0' b1' b2' kept
    have uT : UpC S (stT (X4_putLoan S (nI c) (-2) (-2) (-2)) 0 (tput 12 ((X4_putLoan S (nI c) (-2) (-2) (-2)).1 0) (nI c) 5 (α 4 j 1))) c _ := ((UpC.refl S c).loan (-2) (-2) (-2) hn0' (by omega) hc).put (k := 5) (α 4 j 1) hn0' (by omega) hc (by omega)
    revert uT
    generalize stT (X4_putLoan S (nI c) (-2) (-2) (-2)) 0 (tput 12 ((X4_putLoan S (nI c) (-2) (-2) (-2)).1 0) (nI c) 5 (α 4 j 1)) = T
    intro uT
    have hT : T.2 = nI d := uT.2.1.trans hd'
    have hV : X4_valueOf T 5 = α 1 0 5 := by
      unfold X4_valueOf at hv' ⊢
      rw [uT.1 4 (by omega)]; exact hv'
    have hM : RepM (mup (ρ.1.1 0) 4 j 3 (nI c)) (ar α 4 j (hrow α j c)) := (H.1.of 4 j).row (k := 3) (nI c) (by decide) (show j < 24 by omega) (by decide)
    have hM2 : RepM (mup (ρ.1.1 0) 4 j 3 (nI c)) (ar (ar α 4 j (hrow α j c)) 2 c (α 2 c)) := by
      have e : ar (ar α 4 j (hrow α j c)) 2 c (α 2 c) = ar α 4 j (hrow α j c) := by
        have := ar_self (ar α 4 j (hrow α j c)) 2 c
        rw [show ar α 4 j (hrow α j c) 2 c = α 2 c from funext (fun k => ar_reg _ _ _ _ (by omega))] at this
        exact this
      rw [e]; exact hM
    have hh2 : X5_hold (msA ρ 0 (mup (ρ.1.1 0) 4 j 3 (nI c))) (nI j) 2 = some (nI y) := by
      rw [(rd_o (ρ := msA ρ 0 (mup (ρ.1.1 0) 4 j 3 (nI c))) (α := ar α 4 j (hrow α j c)) hM (show j < 24 by omega)).2.2.1, ar_at, ← ey]
      rfl
    unfold X5_assigns
    rw [(wr_o (show j < 24 by omega)).2.2.2.2, Option.bind_some]
    simp only [bnd]
    rw [hh2, Option.bind_some]
    by_cases e : y = b
    · subst e
      rw [if_pos rfl, if_pos rfl, if_neg (nI_ne2 (by omega)), hT, hV, ms_get, (rd_h hM).1, Option.bind_some, (rd_h hM).2.2.2.2.2.2.2.2.2.2.1, Option.bind_some, turns_c (by omega), Option.bind_some, Option.bind_some, msA_msA, ms_get]
      rw [show ar α 4 j (hrow α j c) 0 0 0 = nI d by rw [ar_reg _ _ _ _ (by omega)]; exact H.2.2.1.1, show ar α 4 j (hrow α j c) 1 0 5 = α 1 0 5 from ar_reg _ _ _ _ (by omega)]
      refine ⟨_, _, _, rfl, rfl, kept _ _ _ (uT.copy 3 (nI y) (nI d + α 1 0 5) hn0' (by omega) hc) _ (hM2.turn 3 (nI y) (nI d + α 1 0 5) (by omega)) rfl ?_ rfl rfl rfl (Or.inr rfl) ⟨y, hy, rfl⟩ (fun q => absurd q (show ¬ (3 : Int32) = 2 by decide))⟩
      simp (config := {decide := true}) [RowR, b0', b1', b2']
    · have e' : ¬ nI y = nI b := fun q => e ((nI_eq (by omega) (by omega)).mp q)
      obtain ⟨j1, z, hz, j2⟩ := jab4 hy hb4
      rw [if_neg e', if_neg e', hT, ms_get, (rd_h hM).1, Option.bind_some, turns_c (by omega), Option.bind_some, Option.bind_some, msA_msA, ms_get]
      unfold X4_wayBetween
      rw [show ar α 4 j (hrow α j c) 0 0 0 = nI d by rw [ar_reg _ _ _ _ (by omega)]; exact H.2.2.1.1, ← j1, j2, nI_add]
      refine ⟨_, _, _, rfl, rfl, kept _ _ _ (uT.copy 2 (nI y) (nI (d + z)) hn0' (by omega) hc) _ (hM2.turn 2 (nI y) (nI (d + z)) (by omega)) rfl ?_ rfl rfl rfl (Or.inl rfl) ⟨y, hy, rfl⟩ (fun _ => ⟨d + z, by omega, rfl⟩)⟩
      simp (config := {decide := true}) [RowR, b0', b1', b2']
