/-! A HOLD IS REMOVED -/
def shf4 (g : Nat → Int32) (q : Nat) : Nat → Int32 := fun p => if q ≤ p ∧ p < 377 then g (p + 4) else g p
theorem lo_rem : ∀ (m q k : Nat) (ρ : Ms), q + m = 377 → m < k → 285 ≤ q → X5_removes_L8 k (nI q) ρ = some (msA ρ 0 (mup (shf4 (ρ.1.1 0) q) 0 0 3 (ρ.1.1 0 3 - 1))) := by
  intro m
  induction m with
  | zero =>
    intro q k ρ e1 e2 e3
    obtain ⟨k, rfl⟩ : ∃ q, k = q + 1 := ⟨k - 1, by omega⟩
    have e : shf4 (ρ.1.1 0) q = ρ.1.1 0 := by
      funext p
      unfold shf4
      rw [if_neg (by omega)]
    rw [X5_removes_L8, e, show nI q + 4 = nI (q + 4) from nI_add q 4, if_pos (show (381 : Int32) ≤ nI (q + 4) from nI_le (a := 381) (by omega) (by omega)), show rdA (ρ.1.1 0) 681 3 = some (ρ.1.1 0 3) from rdN (j := 3) (by omega) (by omega), Option.bind_some, wr_h.2.2.2.1]
    rfl
  | succ m ih =>
    intro q k ρ e1 e2 e3
    obtain ⟨k, rfl⟩ : ∃ q, k = q + 1 := ⟨k - 1, by omega⟩
    rw [X5_removes_L8, show nI q + 4 = nI (q + 4) from nI_add q 4, if_neg (show ¬ (381 : Int32) ≤ nI (q + 4) from nI_ge (b := 381) (by omega) (by omega)), rdN (by omega) (by omega), Option.bind_some, wrN (by omega) (by omega), Option.bind_some, nI_1]
    simp only [bnd]
    rw [ih (q + 1) k _ (by omega) (by omega) (by omega), msA_msA, ms_get]
    have e : shf4 (va_up (ρ.1.1 0) q (ρ.1.1 0 (q + 4))) (q + 1) = shf4 (ρ.1.1 0) q := by
      funext p
      unfold shf4 va_up
      rcases Nat.lt_trichotomy p q with z | z | z
      · rw [if_neg (by omega), if_neg (by omega), if_neg (by omega)]
      · subst z
        rw [if_neg (by omega), if_pos rfl, if_pos (by omega)]
      · by_cases z2 : p < 377
        · rw [if_pos (by omega), if_neg (by omega), if_pos (by omega)]
        · rw [if_neg (by omega), if_neg (by omega), if_neg (by omega)]
    have e2 : va_up (ρ.1.1 0) q (ρ.1.1 0 (q + 4)) 3 = ρ.1.1 0 3 := by
      unfold va_up
      rw [if_neg (by omega)]
    rw [e, e2]
/-- the state without hold h -/
def arm (α : As) (h nH : Nat) : As := fun r i k => if r = 4 ∧ h ≤ i ∧ i < 23 then α 4 (i + 1) k else if r = 0 ∧ i = 0 ∧ k = 3 then nI (nH - 1) else α r i k
def fwd (h i : Nat) : Nat := if h ≤ i then i + 1 else i
theorem arm4 {α : As} {h nH i : Nat} (k : Nat) (hi : i < 23) : arm α h nH 4 i k = α 4 (fwd h i) k := by
  unfold arm fwd
  by_cases z : h ≤ i
  · rw [if_pos ⟨rfl, z, hi⟩, if_pos z]
  · rw [if_neg (fun q => z q.2.1), if_neg (by omega), if_neg z]
theorem armR {α : As} {h nH r : Nat} (i k : Nat) (h4 : r ≠ 4) (h0 : r ≠ 0) : arm α h nH r i k = α r i k := by
  unfold arm
  rw [if_neg (fun q => h4 q.1), if_neg (fun q => h0 q.1)]
theorem fwd_inj {h i j : Nat} (e : fwd h i = fwd h j) : i = j := by
  unfold fwd at e
  split at e <;> split at e <;> omega
theorem fwd_ne (h i : Nat) : fwd h i ≠ h := by
  unfold fwd
  split <;> omega
theorem fwd_lt {h i n : Nat} (hi : i < n - 1) : fwd h i < n := by
  unfold fwd
  split <;> omega
theorem fwd_onto {h j n : Nat} (hj : j < n) (hh : h < n) (hne : j ≠ h) : ∃ i, i < n - 1 ∧ fwd h i = j := by
  rcases Nat.lt_or_ge j h with z | z
  · exact ⟨j, by omega, by unfold fwd; rw [if_neg (by omega)]⟩
  · exact ⟨j - 1, by omega, by unfold fwd; rw [if_pos (by omega)]; omega⟩
theorem RepM.rem {g : Nat → Int32} {α : As} {h nH : Nat} (hM : RepM g α) : RepM (mup (shf4 g (285 + 4 * h)) 0 0 3 (nI (nH - 1))) (arm α h nH) := by
  intro r i k hr hi hk
  unfold mup va_up arm
  by_cases e0 : r = 0 ∧ i = 0 ∧ k = 3
  · obtain ⟨rfl, rfl, rfl⟩ := e0
    rw [if_pos rfl, if_neg (by omega), if_pos ⟨rfl, rfl, rfl⟩]
  · rw [if_neg (by
      intro z
      apply e0
      rcases (show r = 0 ∨ r = 1 ∨ r = 2 ∨ r = 3 ∨ r = 4 ∨ r = 5 by omega) with rfl | rfl | rfl | rfl | rfl | rfl <;> simp only [bs, wd, rw_] at hi hk z ⊢ <;> omega)]
    unfold shf4
    by_cases e4 : r = 4 ∧ h ≤ i ∧ i < 23
    · obtain ⟨rfl, z1, z2⟩ := e4
      rw [if_pos (show 285 + 4 * h ≤ bs 4 + wd 4 * i + k ∧ bs 4 + wd 4 * i + k < 377 by simp only [bs, wd, rw_] at hi hk ⊢; omega), if_pos ⟨rfl, z1, z2⟩, show bs 4 + wd 4 * i + k + 4 = bs 4 + wd 4 * (i + 1) + k by simp only [bs, wd]; omega]
      exact hM 4 (i + 1) k (by omega) (by simp only [rw_]; omega) hk
    · rw [if_neg e4, if_neg e0, if_neg]
      · exact hM r i k hr hi hk
      · intro z
        apply e4
        rcases (show r = 0 ∨ r = 1 ∨ r = 2 ∨ r = 3 ∨ r = 4 ∨ r = 5 by omega) with rfl | rfl | rfl | rfl | rfl | rfl <;> simp only [bs, wd, rw_] at hi hk z ⊢ <;> omega
theorem trem4 {n h : Nat} {f : Nat → Int32} (hh : h < n) (hn : n ≤ 24) : ∃ f', trem 4 (nI n, f) (nI h) = (nI (n - 1), f') ∧ ∀ i k, i < n - 1 → k < 4 → fv 4 f' i k = fv 4 f (fwd h i) k := by
  refine ⟨fun k => if h * 4 ≤ k ∧ k < (n - 1) * 4 then f (k + 4) else f k, ?_, ?_⟩
  · unfold trem
    rw [if_neg (by
      rintro (q | q)
      · exact nI_pos (by omega) q
      · exact nI_ge hh (by omega) q)]
    show (nI n - 1, _) = _
    obtain ⟨m, rfl⟩ : ∃ m, n = m + 1 := ⟨n - 1, by omega⟩
    rw [nI_pred, nI_clamp (by omega), show (nI (m + 1), f).1 = nI (m + 1) from rfl, nI_clamp (by omega)]
    rfl
  · intro i k hi hk
    unfold fv fwd
    show (if h * 4 ≤ i * 4 + k ∧ i * 4 + k < (n - 1) * 4 then f (i * 4 + k + 4) else f (i * 4 + k)) = _
    by_cases z : h ≤ i
    · rw [if_pos (by omega), if_pos z, show i * 4 + k + 4 = (i + 1) * 4 + k by omega]
    · rw [if_neg (by omega), if_neg z]
/-- holders, when hold h is gone -/
theorem HolR.rem {α : As} {h nH c : Nat} {w : Int32} (h24 : nH ≤ 24) (hh : h < nH) (hw : HolR α nH c w) (hne : α 4 h 3 ≠ nI c) : HolR (arm α h nH) (nH - 1) c w := by
  rcases hw with ⟨w1, w2⟩ | ⟨j, w1, w2, w3⟩
  · refine Or.inl ⟨w1, fun i hi => ?_⟩
    rw [arm4 _ (by omega)]
    exact w2 _ (fwd_lt hi)
  · obtain ⟨i, i1, i2⟩ := fwd_onto w1 hh (fun e => hne (by rw [← e]; exact w2))
    exact Or.inr ⟨i, i1, by rw [arm4 _ (by omega), i2]; exact w2, by rw [arm4 _ (by omega), i2]; exact w3⟩
theorem HolR.gone {α : As} {h nH c : Nat} (h24 : nH ≤ 24) (hh : h < nH) (he : α 4 h 3 = nI c) (hu : ∀ j, j < nH → α 4 j 3 = nI c → j = h) : HolR (arm α h nH) (nH - 1) c (-2) := by
  refine Or.inl ⟨rfl, fun i hi e => ?_⟩
  rw [arm4 _ (by omega)] at e
  exact fwd_ne h i (hu _ (fwd_lt hi) e)
/-- the class's side: the tables but for the holds and column 5 of copy c are as before -/
theorem RepC.rem {τ τ' : St} {α : As} {nC nP nH nL h : Nat} (hR : RepC τ α nC nP nH nL 99) (h20 : nC ≤ 20) (h24 : nH ≤ 24) (hh : h < nH) (hu : ∀ j j', j < nH → j' < nH → α 4 j 3 = α 4 j' 3 → α 4 j 3 ≠ -2 → j = j')
    (t1 : ∀ i, i ≠ 0 → i ≠ 2 → τ'.1 i = τ.1 i) (t2 : τ'.2 = τ.2) (t3 : τ'.1 2 = trem 4 (τ.1 2) (nI h)) (t4 : (τ'.1 0).1 = (τ.1 0).1) (t5 : ∀ c k, c < nC → k < 12 → fv 12 (τ'.1 0).2 c k = if k = 5 ∧ α 4 h 3 = nI c then -2 else fv 12 (τ.1 0).2 c k) : RepC τ' (arm α h nH) nC nP (nH - 1) nL 99 := by
  obtain ⟨⟨a1, a2, a3, a4, a5, a6⟩, b1, b2, b3, b4, b5, b6⟩ := hR
  obtain ⟨f', f1, f2⟩ := trem4 (f := (τ.1 2).2) hh h24
  have e2 : τ'.1 2 = (nI (nH - 1), f') := by rw [t3, ← f1, ← a3]
  refine ⟨⟨t4.trans a1, ?_, ?_, ?_, ?_, ?_⟩, ?_, ?_, ?_, ?_, ?_, fun q => by omega⟩
  · rw [t1 1 (by omega) (by omega)]; exact a2
  · rw [e2]
  · rw [t1 3 (by omega) (by omega)]; exact a4
  · rw [t1 4 (by omega) (by omega)]; exact a5
  · rw [t2, a6]
    unfold arm
    rw [if_neg (by omega), if_neg (by omega)]
  · intro j hj
    rw [t1 4 (by omega) (by omega), armR _ _ (by omega) (by omega)]
    exact b1 j hj
  · intro p k hp hk
    rw [t1 1 (by omega) (by omega), armR _ _ (by omega) (by omega)]
    exact b2 p k hp hk
  · intro p k hp hk
    rw [t1 3 (by omega) (by omega), armR _ _ (by omega) (by omega)]
    exact b3 p k hp hk
  · intro i hi
    rw [e2]
    simp only [f2 i _ hi (show 0 < 4 by omega), f2 i _ hi (show 1 < 4 by omega), f2 i _ hi (show 2 < 4 by omega), f2 i _ hi (show 3 < 4 by omega), arm4 (α := α) (h := h) (nH := nH) _ (show i < 23 by omega)]
    exact b4 _ (fwd_lt hi)
  · intro c hc _
    obtain ⟨q1, q2, q3⟩ := b5 c hc (by omega)
    unfold RepCopy
    simp only [armR (α := α) (h := h) (nH := nH) (r := 2) _ _ (by omega) (by omega)]
    rw [t5 c 0 hc (by omega), t5 c 1 hc (by omega), t5 c 2 hc (by omega), t5 c 3 hc (by omega), t5 c 4 hc (by omega), t5 c 5 hc (by omega), t5 c 6 hc (by omega), t5 c 7 hc (by omega), t5 c 8 hc (by omega), t5 c 9 hc (by omega), t5 c 10 hc (by omega), t5 c 11 hc (by omega)]
    simp (config := {decide := true}) only [false_and, true_and, if_false]
    refine ⟨q1, ?_, q3⟩
    by_cases e : α 4 h 3 = nI c
    · rw [if_pos e]
      exact HolR.gone h24 hh e (fun j hj ej => (hu h j hh hj (by rw [e, ej]) (by rw [e]; exact nI_ne2 (by omega))).symm)
    · rw [if_neg e]
      exact q2.rem h24 hh e
theorem Inv.rem {α : As} {D d nC nP nH nL h x : Nat} (hI : Inv α D d nC nP nH nL 99) (hh : h < nH) (hx : ∀ c, c < nC → α 2 c 3 = 3 → α 4 h 3 = nI c → c = x) (hx99 : x < nC → x ≠ 99) : Inv (arm α h nH) D d nC nP (nH - 1) nL x := by
  have hcb : ∀ c, c < nC → CopyB α c := fun c hc => hI.cb hc
  obtain ⟨⟨p0, p1, p2, p3, p4⟩, b2, b3, b4, b5, b6, b7, b8⟩ := hI
  have r1 := fun i k => armR (α := α) (h := h) (nH := nH) (r := 1) i k (by omega) (by omega)
  have r2 := fun i k => armR (α := α) (h := h) (nH := nH) (r := 2) i k (by omega) (by omega)
  have a0 : ∀ k, k ≠ 3 → arm α h nH 0 0 k = α 0 0 k := fun k hk => by
    unfold arm
    rw [if_neg (by omega), if_neg (fun q => hk q.2.2)]
  have a4 := fun i (hi : i < nH - 1) k => arm4 (α := α) (h := h) (nH := nH) (i := i) k (by omega)
  refine ⟨⟨by rw [a0 _ (by omega)]; exact p0, by rw [a0 _ (by omega)]; exact p1, by rw [a0 _ (by omega)]; exact p2, rfl, by rw [a0 _ (by omega)]; exact p4⟩, by omega, ?_, ?_, ?_, ?_, ?_, ?_⟩
  · simp only [r1]; exact b3
  · intro c hc hx'
    obtain ⟨i1, i2, i3, i4, i5, i6, i7⟩ := b4 c hc (by omega)
    unfold CopyI CopyB
    simp only [r2]
    refine ⟨i1, i2, i3, i4, i5, i6, fun q => ?_⟩
    obtain ⟨j, g1, g2⟩ := i7 q
    obtain ⟨i, z1, z2⟩ := fwd_onto g1 hh (fun e => hx' (hx c hc q (by rw [← e]; exact g2)))
    exact ⟨i, z1, by rw [a4 i z1, z2]; exact g2⟩
  · intro hc
    unfold CopyB
    simp only [r2]
    exact hcb x hc
  · intro i hi
    unfold HoldI
    simp only [a4 i hi, r2]
    exact b6 _ (fwd_lt hi)
  · intro i i' hi hi' e1 e2
    rw [a4 i hi, a4 i' hi'] at e1 e2
    exact fwd_inj (b7 _ _ (fwd_lt hi) (fwd_lt hi') e1 e2)
  · intro i i' hi hi' e1 e2
    rw [a4 i hi, a4 i' hi'] at e1
    rw [a4 i hi] at e2
    exact fwd_inj (b8 _ _ (fwd_lt hi) (fwd_lt hi') e1 e2)
theorem Shf.rem {α : As} {nC nH h : Nat} (h24 : nH ≤ 24) (hS : Shf α nC nH) : Shf (arm α h nH) nC (nH - 1) := by
  intro i c hi hc e1 e2
  rw [arm4 _ (by omega)] at e1 e2
  rw [armR _ _ (by omega) (by omega)] at e2 ⊢
  exact hS _ c (fwd_lt hi) hc e1 e2
theorem rem_m {τ : St} {ρ : Ms} {α : As} {D d nC nP nH nL h : Nat} (H : Cx τ ρ α D d nC nP nH nL 99) (hh : h < nH) : X5_removes ρ (nI h) = some (msA ρ 0 (mup (shf4 (ρ.1.1 0) (285 + 4 * h)) 0 0 3 (nI (nH - 1)))) := by
  have hb := H.b
  have e1 : (285 : Int32) + 4 * nI h = nI (285 + 4 * h) := by rw [show (285 : Int32) = nI 285 from rfl, show (4 : Int32) = nI 4 from rfl, pk_mul, nI_add]
  have e2 : ρ.1.1 0 3 - 1 = nI (nH - 1) := by
    have e := H.1 0 0 3 (by omega) (by decide) (by decide)
    rw [show ρ.1.1 0 3 = α 0 0 3 from e, H.2.2.1.2.2.2.1]
    obtain ⟨m, rfl⟩ : ∃ m, nH = m + 1 := ⟨nH - 1, by omega⟩
    rw [nI_pred]
    rfl
  have e3 := lo_rem (377 - (285 + 4 * h)) (285 + 4 * h) FU ρ (by omega) (by unfold FU; omega) (by omega)
  rw [← e1, e2] at e3
  exact e3
/-- both sides remove hold h -/
theorem rem_sim {τ : St} {ρ : Ms} {α : As} {D d nC nP nH nL h : Nat} (H : Cx τ ρ α D d nC nP nH nL 99) (hh : h < nH) : ∃ g', X5_removes ρ (nI h) = some (msA ρ 0 g') ∧ RepM g' (arm α h nH) ∧ RepC (X4_removeHold τ (nI h)) (arm α h nH) nC nP (nH - 1) nL 99 := by
  have hb := H.b
  obtain ⟨h0, h1, h2, h3⟩ := H.h hh
  refine ⟨_, rem_m H hh, H.1.rem, ?_⟩
  · unfold X4_removeHold
    rw [h2]
    by_cases e : α 4 h 3 = -2
    · rw [if_pos e]
      simp only [bnd]
      exact H.2.1.rem (by omega) (by omega) hh H.2.2.2.2.2.2.2.2.2 (fun i i0 i2 => by rw [stT_get, if_neg i2]) stT_day (by rw [stT_get, if_pos rfl]) (by rw [stT_get, if_neg (by omega)]) (fun c k hc hk => by
        rw [if_neg (fun q => nI_ne2 (n := c) (by omega) (q.2.symm.trans e)), stT_get, if_neg (by omega)])
    · rw [if_neg e]
      simp only [bnd]
      obtain ⟨-, -, -, q⟩ := H.2.2.2.2.2.2.2.1 h hh
      rcases q with q | ⟨c, hc, ec, -⟩
      · exact absurd q e
      · rw [ec]
        have u : UpC τ (stT τ 0 (tput 12 (τ.1 0) (nI c) 5 (-2))) c _ := (UpC.refl τ c).put (k := 5) (-2) H.n.1 (by omega) hc (by omega)
        revert u
        generalize stT τ 0 (tput 12 (τ.1 0) (nI c) 5 (-2)) = S
        intro u
        obtain ⟨u1, u2, u3, u4⟩ := u
        refine H.2.1.rem (by omega) (by omega) hh H.2.2.2.2.2.2.2.2.2 (fun i i0 i2 => by rw [stT_get, if_neg i2]; exact u1 i i0) (stT_day.trans u2) (by rw [stT_get, if_pos rfl, u1 2 (by omega)]) (by rw [stT_get, if_neg (by omega)]; exact u3) (fun c' k hc' hk => ?_)
        rw [stT_get, if_neg (by omega)]
        refine Eq.trans (u4 c' k hk) ?_
        by_cases z : c' = c
        · subst z
          rw [if_pos rfl, ec]
          by_cases z5 : k = 5
          · rw [if_pos ⟨z5, rfl⟩]; exact if_pos z5
          · rw [if_neg (fun q => z5 q.1)]; exact if_neg z5
        · rw [if_neg z, if_neg (fun q => z ((nI_eq (by omega) (by omega)).mp (q.2.symm.trans ec)))]
