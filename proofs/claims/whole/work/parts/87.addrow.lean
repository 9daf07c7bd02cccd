/-! A ROW IS ADDED -/
/-- a table of n rows: f's rows, but row r, which is F -/
def Rw (w n r : Nat) (f F : Nat → Int32) (u : Tab) : Prop := u.1 = nI n ∧ ∀ i k, k < w → fv w u.2 i k = if i = r then F k else fv w f i k
theorem Rw.put {w n r k : Nat} {f F : Nat → Int32} {u : Tab} (v : Int32) (h : Rw w n r f F u) (hn : n ≤ 100) (hw : w ≤ 12) (hr : r < n) (hk : k < w) : Rw w n r f (fun j => if j = k then v else F j) (tput w u (nI r) (nI k) v) := by
  obtain ⟨h1, h2⟩ := h
  rw [tp h1 hn hw hr hk]
  refine ⟨rfl, fun i j hj => ?_⟩
  show fv w (va_up u.2 (r * w + k) v) i j = _
  rw [fv_up hk hj, h2 i j hj]
  by_cases a : i = r
  · by_cases b : j = k
    · rw [if_pos ⟨a, b⟩, if_pos a]; exact (if_pos b).symm
    · rw [if_neg (fun q => b q.2), if_pos a, if_pos a]; exact (if_neg b).symm
  · rw [if_neg (fun q => a q.1), if_neg a, if_neg a]
theorem tadd_new {cap w n : Nat} {u : Tab} (hu : u.1 = nI n) (hn : n < cap) (hc : cap ≤ 100) : (tadd cap w u).1 = nI n ∧ Rw w (n + 1) n u.2 (fun _ => 0) (tadd cap w u).2 := by
  unfold tadd
  rw [hu, if_neg (nI_ge hn (by omega)), nI_clamp (by omega), nI_1]
  refine ⟨rfl, rfl, fun i k hk => ?_⟩
  show (if n * w ≤ i * w + k ∧ i * w + k < n * w + w then (0 : Int32) else u.2 (i * w + k)) = if i = n then 0 else u.2 (i * w + k)
  rcases Nat.lt_trichotomy i n with z | z | z
  · have := Nat.mul_le_mul_right w (show i + 1 ≤ n from z)
    rw [Nat.add_mul] at this
    rw [if_neg (by omega), if_neg (by omega)]
  · rw [z, if_pos (by omega), if_pos rfl]
  · have := Nat.mul_le_mul_right w (show n + 1 ≤ i from z)
    rw [Nat.add_mul] at this
    rw [if_neg (by omega), if_neg (by omega)]
theorem tadd_full {cap w n : Nat} {u : Tab} (hu : u.1 = nI n) (hn : cap ≤ n) (hc : n ≤ 100) : tadd cap w u = (-3, u) := by
  unfold tadd
  rw [hu, if_pos (nI_le hn (by omega))]
theorem stT_self (τ : St) (i : Nat) : stT τ i (τ.1 i) = τ := by
  have e : va_up τ.1 i (τ.1 i) = τ.1 := by
    funext k
    unfold va_up
    split
    · rename_i h; rw [h]
    · rfl
  unfold stT
  rw [e]
/-- α' is α but for row i of region r, which is G, and head q, which is n -/
def AddR (α α' : As) (r i q n : Nat) (G : Nat → Int32) : Prop := (∀ r' i' k, r' ≠ 0 → ¬ (r' = r ∧ i' = i) → α' r' i' k = α r' i' k) ∧ (∀ k, α' r i k = G k) ∧ (∀ k, k ≠ q → α' 0 0 k = α 0 0 k) ∧ α' 0 0 q = nI n
theorem RepM.add {g : Nat → Int32} {α : As} {r i q : Nat} {G : Nat → Int32} (n : Nat) (h : RepM g (ar α r i G)) (hr : r ≠ 0) (hq : q < 5) : ∃ α', RepM (mup g 0 0 q (nI n)) α' ∧ AddR α α' r i q n G := by
  refine ⟨_, (h.of 0 0).row (k := q) (nI n) (by decide) (by decide) hq, fun r' i' k h0 h1 => ?_, fun k => ?_, fun k hk => ?_, ?_⟩
  · rw [ar_reg _ _ _ _ h0]
    unfold ar
    rw [if_neg h1]
  · rw [ar_reg _ _ _ _ hr, ar_at]
  · rw [ar_at]
    show (if k = q then nI n else ar α r i G 0 0 k) = _
    rw [if_neg hk, ar_reg _ _ _ _ (Ne.symm hr)]
  · rw [ar_at]
    exact if_pos rfl
/-! a hold -/
theorem RepC.addH {τ : St} {α α' : As} {nC nP nH nL : Nat} {G F : Nat → Int32} {u : Tab} (h : RepC τ α nC nP nH nL 99) (hA : AddR α α' 4 nH 3 (nH + 1) G) (hu : Rw 4 (nH + 1) nH (τ.1 2).2 F u) (hF : F 0 = G 1 ∧ F 1 = G 2 ∧ F 2 = G 3 ∧ F 3 = G 0) (hG3 : G 3 = -2) (h20 : nC ≤ 20) : RepC (stT τ 2 u) α' nC nP (nH + 1) nL 99 := by
  obtain ⟨⟨a1, a2, a3, a4, a5, a6⟩, b1, b2, b3, b4, b5, b6⟩ := h
  obtain ⟨r1, r2, r3, r4⟩ := hA
  obtain ⟨u1, u2⟩ := hu
  have g0 : ∀ i, i ≠ 2 → (stT τ 2 u).1 i = τ.1 i := fun i hi => by rw [stT_get, if_neg hi]
  have g2 : (stT τ 2 u).1 2 = u := by rw [stT_get, if_pos rfl]
  refine ⟨⟨?_, ?_, ?_, ?_, ?_, ?_⟩, ?_, ?_, ?_, ?_, ?_, fun q => by omega⟩
  · rw [g0 0 (by omega)]; exact a1
  · rw [g0 1 (by omega)]; exact a2
  · rw [g2]; exact u1
  · rw [g0 3 (by omega)]; exact a4
  · rw [g0 4 (by omega)]; exact a5
  · rw [stT_day, r3 0 (by omega)]; exact a6
  · intro j hj
    rw [g0 4 (by omega), r1 1 0 j (by omega) (by omega)]
    exact b1 j hj
  · intro p k hp hk
    rw [g0 1 (by omega), r1 3 p k (by omega) (by omega)]
    exact b2 p k hp hk
  · intro p k hp hk
    rw [g0 3 (by omega), r1 5 p k (by omega) (by omega)]
    exact b3 p k hp hk
  · intro i hi
    rw [g2, u2 i 0 (by omega), u2 i 1 (by omega), u2 i 2 (by omega), u2 i 3 (by omega)]
    by_cases e : i = nH
    · rw [if_pos e, if_pos e, if_pos e, if_pos e, e, r2, r2, r2, r2]
      exact hF
    · rw [if_neg e, if_neg e, if_neg e, if_neg e, r1 4 i 0 (by omega) (fun q => e q.2), r1 4 i 1 (by omega) (fun q => e q.2), r1 4 i 2 (by omega) (fun q => e q.2), r1 4 i 3 (by omega) (fun q => e q.2)]
      exact b4 i (by omega)
  · intro c hc hx
    obtain ⟨q1, q2, q3⟩ := b5 c hc hx
    have e2 : ∀ k, α' 2 c k = α 2 c k := fun k => r1 2 c k (by omega) (by omega)
    rw [g0 0 (by omega)]
    unfold RepCopy
    simp only [e2]
    refine ⟨q1, ?_, q3⟩
    rcases q2 with ⟨w1, w2⟩ | ⟨h, w1, w2, w3⟩
    · refine Or.inl ⟨w1, fun h hh => ?_⟩
      by_cases e : h = nH
      · rw [e, r2, hG3]
        exact (nI_ne2 (by omega)).symm
      · rw [r1 4 h 3 (by omega) (fun q => e q.2)]
        exact w2 h (by omega)
    · exact Or.inr ⟨h, by omega, by rw [r1 4 h 3 (by omega) (by omega)]; exact w2, by rw [r1 4 h 1 (by omega) (by omega)]; exact w3⟩
theorem Inv.addH {α α' : As} {D d nC nP nH nL p t b : Nat} {G : Nat → Int32} (h : Inv α D d nC nP nH nL 99) (hA : AddR α α' 4 nH 3 (nH + 1) G) (h24 : nH < 24) (hp : p < nP) (ht : t < 6) (hb : b < 4) (g0 : G 0 = nI t) (g1 : G 1 = nI p) (g2 : G 2 = nI b) (g3 : G 3 = -2) (hno : ∀ h, h < nH → ¬ (α 4 h 1 = nI p ∧ α 4 h 0 = nI t)) : Inv α' D d nC nP (nH + 1) nL 99 := by
  obtain ⟨⟨c0, c1, c2, c3, c4⟩, ⟨k1, k2, k3, k4, k5⟩, b3, b4, b5, b6, b7, b8⟩ := h
  obtain ⟨r1, r2, r3, r4⟩ := hA
  have e2 : ∀ c k, α' 2 c k = α 2 c k := fun c k => r1 2 c k (by omega) (by omega)
  have e4 : ∀ h k, h ≠ nH → α' 4 h k = α 4 h k := fun h k e => r1 4 h k (by omega) (fun q => e q.2)
  refine ⟨⟨by rw [r3 0 (by omega)]; exact c0, by rw [r3 1 (by omega)]; exact c1, by rw [r3 2 (by omega)]; exact c2, r4, by rw [r3 4 (by omega)]; exact c4⟩, ⟨k1, k2, k3, by omega, k5⟩, ?_, ?_, fun q => by omega, ?_, ?_, ?_⟩
  · intro j hj
    rw [r1 1 0 j (by omega) (by omega)]
    exact b3 j hj
  · intro c hc hx
    unfold CopyI CopyB
    simp only [e2]
    obtain ⟨i1, i2, i3, i4, i5, i6, i7⟩ := b4 c hc hx
    refine ⟨i1, i2, i3, i4, i5, i6, fun q => ?_⟩
    obtain ⟨h, g1, g2⟩ := i7 q
    exact ⟨h, by omega, by rw [e4 h 3 (by omega)]; exact g2⟩
  · intro h hh
    by_cases e : h = nH
    · unfold HoldI
      rw [e]
      simp only [r2]
      exact ⟨⟨t, ht, g0⟩, ⟨p, hp, g1⟩, ⟨b, hb, g2⟩, Or.inl g3⟩
    · unfold HoldI
      simp only [e2, e4 h _ e]
      exact b6 h (by omega)
  · intro h h' hh hh' q1 q2
    by_cases e : h = nH
    · by_cases e' : h' = nH
      · rw [e, e']
      · rw [e, r2, e4 _ _ e'] at q1 q2
        exact absurd ⟨q2.symm.trans g1, q1.symm.trans g0⟩ (hno h' (by omega))
    · by_cases e' : h' = nH
      · rw [e', r2, e4 _ _ e] at q1 q2
        exact absurd ⟨q2.trans g1, q1.trans g0⟩ (hno h (by omega))
      · rw [e4 _ _ e, e4 _ _ e'] at q1 q2
        exact b7 h h' (by omega) (by omega) q1 q2
  · intro h h' hh hh' q1 q2
    by_cases e : h = nH
    · rw [e, r2] at q2
      exact absurd g3 q2
    · by_cases e' : h' = nH
      · rw [e', r2, g3] at q1
        exact absurd q1 q2
      · rw [e4 _ _ e, e4 _ _ e'] at q1
        rw [e4 _ _ e] at q2
        exact b8 h h' (by omega) (by omega) q1 q2
/-! a copy -/
theorem RepC.addC {τ : St} {α α' : As} {nC nP nH nL : Nat} {G F : Nat → Int32} {u : Tab} (h : RepC τ α nC nP nH nL 99) (hA : AddR α α' 2 nC 1 (nC + 1) G) (hu : Rw 12 (nC + 1) nC (τ.1 0).2 F u) (hF : F 0 = G 0 ∧ F 1 = G 1 ∧ F 2 = G 2) (h20 : nC < 20) : RepC (stT τ 0 u) α' (nC + 1) nP nH nL nC := by
  obtain ⟨⟨a1, a2, a3, a4, a5, a6⟩, b1, b2, b3, b4, b5, b6⟩ := h
  obtain ⟨r1, r2, r3, r4⟩ := hA
  obtain ⟨u1, u2⟩ := hu
  have g0 : ∀ i, i ≠ 0 → (stT τ 0 u).1 i = τ.1 i := fun i hi => by rw [stT_get, if_neg hi]
  have g2 : (stT τ 0 u).1 0 = u := by rw [stT_get, if_pos rfl]
  refine ⟨⟨?_, ?_, ?_, ?_, ?_, ?_⟩, ?_, ?_, ?_, ?_, ?_, ?_⟩
  · rw [g2]; exact u1
  · rw [g0 1 (by omega)]; exact a2
  · rw [g0 2 (by omega)]; exact a3
  · rw [g0 3 (by omega)]; exact a4
  · rw [g0 4 (by omega)]; exact a5
  · rw [stT_day, r3 0 (by omega)]; exact a6
  · intro j hj
    rw [g0 4 (by omega), r1 1 0 j (by omega) (by omega)]
    exact b1 j hj
  · intro p k hp hk
    rw [g0 1 (by omega), r1 3 p k (by omega) (by omega)]
    exact b2 p k hp hk
  · intro p k hp hk
    rw [g0 3 (by omega), r1 5 p k (by omega) (by omega)]
    exact b3 p k hp hk
  · intro i hi
    rw [g0 2 (by omega), r1 4 i 0 (by omega) (by omega), r1 4 i 1 (by omega) (by omega), r1 4 i 2 (by omega) (by omega), r1 4 i 3 (by omega) (by omega)]
    exact b4 i hi
  · intro c hc hx
    have e2 : ∀ k, α' 2 c k = α 2 c k := fun k => r1 2 c k (by omega) (fun q => hx q.2)
    have e4 : ∀ h k, α' 4 h k = α 4 h k := fun h k => r1 4 h k (by omega) (by omega)
    have eu : ∀ k, k < 12 → fv 12 u.2 c k = fv 12 (τ.1 0).2 c k := fun k hk => by rw [u2 c k hk, if_neg hx]
    rw [g2]
    unfold RepCopy HolR
    simp only [e2, e4]
    rw [eu 0 (by omega), eu 1 (by omega), eu 2 (by omega), eu 3 (by omega), eu 4 (by omega), eu 5 (by omega), eu 6 (by omega), eu 7 (by omega), eu 8 (by omega), eu 9 (by omega), eu 10 (by omega), eu 11 (by omega)]
    exact b5 c (by omega) (by omega)
  · intro _
    rw [g2, u2 nC 0 (by omega), u2 nC 1 (by omega), u2 nC 2 (by omega), if_pos rfl, if_pos rfl, if_pos rfl, r2, r2, r2]
    exact hF
theorem Inv.addC {α α' : As} {D d nC nP nH nL : Nat} {G : Nat → Int32} (h : Inv α D d nC nP nH nL 99) (hA : AddR α α' 2 nC 1 (nC + 1) G) (h20 : nC < 20) (g0 : ∃ t, t < 6 ∧ G 0 = nI t) (g1 : ∃ b, b < 4 ∧ G 1 = nI b) (g2 : G 2 = 0 ∨ G 2 = 1) : Inv α' D d (nC + 1) nP nH nL nC := by
  obtain ⟨⟨c0, c1, c2, c3, c4⟩, ⟨k1, k2, k3, k4, k5⟩, b3, b4, b5, b6, b7, b8⟩ := h
  obtain ⟨r1, r2, r3, r4⟩ := hA
  have e4 : ∀ h k, α' 4 h k = α 4 h k := fun h k => r1 4 h k (by omega) (by omega)
  have e2 : ∀ c k, c ≠ nC → α' 2 c k = α 2 c k := fun c k e => r1 2 c k (by omega) (fun q => e q.2)
  refine ⟨⟨by rw [r3 0 (by omega)]; exact c0, r4, by rw [r3 2 (by omega)]; exact c2, by rw [r3 3 (by omega)]; exact c3, by rw [r3 4 (by omega)]; exact c4⟩, ⟨k1, by omega, k3, k4, k5⟩, ?_, ?_, ?_, ?_, ?_, ?_⟩
  · intro j hj
    rw [r1 1 0 j (by omega) (by omega)]
    exact b3 j hj
  · intro c hc hx
    unfold CopyI CopyB
    simp only [e2 c _ hx, e4]
    exact b4 c (by omega) (by omega)
  · intro _
    unfold CopyB
    simp only [r2]
    exact ⟨g0, g1, g2⟩
  · intro h hh
    unfold HoldI
    simp only [e4]
    obtain ⟨q1, q2, q3, q4⟩ := b6 h hh
    refine ⟨q1, q2, q3, ?_⟩
    rcases q4 with q4 | ⟨c, z1, z2, z3⟩
    · exact Or.inl q4
    · exact Or.inr ⟨c, by omega, z2, by simp only [e2 c _ (show c ≠ nC by omega)]; exact z3⟩
  · simp only [e4]; exact b7
  · simp only [e4]; exact b8
/-! a patron -/
theorem RepC.addP {τ : St} {α α' : As} {nC nP nH nL : Nat} {G F : Nat → Int32} {u : Tab} (h : RepC τ α nC nP nH nL 99) (hA : AddR α α' 3 nP 2 (nP + 1) G) (hu : Rw 4 (nP + 1) nP (τ.1 1).2 F u) (hF : ∀ k, k < 4 → F k = G k) (h20 : nC ≤ 20) : RepC (stT τ 1 u) α' nC (nP + 1) nH nL 99 := by
  obtain ⟨⟨a1, a2, a3, a4, a5, a6⟩, b1, b2, b3, b4, b5, b6⟩ := h
  obtain ⟨r1, r2, r3, r4⟩ := hA
  obtain ⟨u1, u2⟩ := hu
  have g0 : ∀ i, i ≠ 1 → (stT τ 1 u).1 i = τ.1 i := fun i hi => by rw [stT_get, if_neg hi]
  have g2 : (stT τ 1 u).1 1 = u := by rw [stT_get, if_pos rfl]
  have e2 : ∀ c k, α' 2 c k = α 2 c k := fun c k => r1 2 c k (by omega) (by omega)
  have e4 : ∀ h k, α' 4 h k = α 4 h k := fun h k => r1 4 h k (by omega) (by omega)
  refine ⟨⟨?_, ?_, ?_, ?_, ?_, ?_⟩, ?_, ?_, ?_, ?_, ?_, fun q => by omega⟩
  · rw [g0 0 (by omega)]; exact a1
  · rw [g2]; exact u1
  · rw [g0 2 (by omega)]; exact a3
  · rw [g0 3 (by omega)]; exact a4
  · rw [g0 4 (by omega)]; exact a5
  · rw [stT_day, r3 0 (by omega)]; exact a6
  · intro j hj
    rw [g0 4 (by omega), r1 1 0 j (by omega) (by omega)]
    exact b1 j hj
  · intro p k hp hk
    rw [g2, u2 p k hk]
    by_cases e : p = nP
    · rw [if_pos e, e, r2]; exact hF k hk
    · rw [if_neg e, r1 3 p k (by omega) (fun q => e q.2)]
      exact b2 p k (by omega) hk
  · intro p k hp hk
    rw [g0 3 (by omega), r1 5 p k (by omega) (by omega)]
    exact b3 p k hp hk
  · intro i hi
    rw [g0 2 (by omega), e4, e4, e4, e4]
    exact b4 i hi
  · intro c hc hx
    rw [g0 0 (by omega)]
    unfold RepCopy HolR
    simp only [e2, e4]
    exact b5 c hc hx
theorem Inv.addP {α α' : As} {D d nC nP nH nL : Nat} {G : Nat → Int32} (h : Inv α D d nC nP nH nL 99) (hA : AddR α α' 3 nP 2 (nP + 1) G) (h8 : nP < 8) : Inv α' D d nC (nP + 1) nH nL 99 := by
  obtain ⟨⟨c0, c1, c2, c3, c4⟩, ⟨k1, k2, k3, k4, k5⟩, b3, b4, b5, b6, b7, b8⟩ := h
  obtain ⟨r1, r2, r3, r4⟩ := hA
  have e2 : ∀ c k, α' 2 c k = α 2 c k := fun c k => r1 2 c k (by omega) (by omega)
  have e4 : ∀ h k, α' 4 h k = α 4 h k := fun h k => r1 4 h k (by omega) (by omega)
  refine ⟨⟨by rw [r3 0 (by omega)]; exact c0, by rw [r3 1 (by omega)]; exact c1, r4, by rw [r3 3 (by omega)]; exact c3, by rw [r3 4 (by omega)]; exact c4⟩, ⟨k1, k2, by omega, k4, k5⟩, ?_, ?_, fun q => by omega, ?_, ?_, ?_⟩
  · intro j hj
    rw [r1 1 0 j (by omega) (by omega)]
    exact b3 j hj
  · intro c hc hx
    unfold CopyI CopyB
    simp only [e2, e4]
    obtain ⟨i1, i2, i3, i4, i5, i6, i7⟩ := b4 c hc hx
    refine ⟨i1, i2, i3, fun q => ?_, i5, i6, i7⟩
    obtain ⟨p, p1, p2⟩ := i4 q
    exact ⟨p, by omega, p2⟩
  · intro h hh
    unfold HoldI
    simp only [e2, e4]
    obtain ⟨q1, ⟨p, p1, p2⟩, q3, q4⟩ := b6 h hh
    exact ⟨q1, ⟨p, by omega, p2⟩, q3, q4⟩
  · simp only [e4]; exact b7
  · simp only [e4]; exact b8
