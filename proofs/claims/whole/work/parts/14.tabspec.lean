/-! THE TABLE'S CONTRACTS IN PLAIN WORDS -/
theorem tbOK_n {cap cols L : Nat} {u : Tab} (sh : tbS cap cols L) (ok : tbOK cap u) : ∃ n : Nat, n ≤ cap ∧ u.1 = nI n := by
  obtain ⟨h0, h1⟩ := ok
  have hlt : ¬ u.1 < 0 := by
    intro h; exact absurd (Int32.lt_of_le_of_lt h0 h) (Int32.lt_irrefl)
  exact nI_of2 (nI_toInt (by have := sh.2.1; omega)) hlt h1
theorem tin {r c n cap cols : Nat} (hr : r < n) (hn : n ≤ cap) (hc : c < cols) : r * cols + c < cap * cols := by
  have h1 : (r + 1) * cols ≤ cap * cols := Nat.mul_le_mul_right _ (by omega)
  rw [Nat.add_mul] at h1
  omega
theorem tsm {cap cols : Nat} (h1 : cap ≤ 100) (h2 : cols ≤ 100) : cap * cols ≤ 10000 := Nat.mul_le_mul h1 h2
theorem X3_get_eq {cap cols L : Nat} {u : Tab} (sh : tbS cap cols L) (ok : tbOK cap u) (row col : Int32) : X3_get cap cols L u row col = some (tget cols u row col) := by
  obtain ⟨n, hn, e⟩ := tbOK_n sh ok
  obtain ⟨rfl, hc1, hc2⟩ := sh
  have hsm := tsm hc1 hc2
  unfold X3_get tget
  rw [e]
  rcases pk_ix row (n := n) (by omega) with h | h | ⟨r, hr, rfl⟩
  · rw [if_pos h, if_pos (Or.inl h)]
  · rw [if_pos (Or.inr (Or.inl h))]
    by_cases h0 : row < 0
    · rw [if_pos h0]
    · rw [if_neg h0, if_pos h]
  · rw [if_neg (nI_pos (by omega)), if_neg (nI_ge hr (by omega))]
    rcases pk_ix col (n := cols) (by omega) with h | h | ⟨c, hc, rfl⟩
    · rw [if_pos h, if_pos (Or.inr (Or.inr (Or.inl h)))]
    · rw [if_pos (Or.inr (Or.inr (Or.inr h)))]
      by_cases h0 : col < 0
      · rw [if_pos h0]
      · rw [if_neg h0, if_neg (fun z => absurd (Int32.lt_of_lt_of_le z h) Int32.lt_irrefl)]
    · have hin := tin hr hn hc
      rw [if_neg (nI_pos (by omega)), if_pos (nI_lt hc (by omega)), pk_mul, nI_add, if_neg (nI_ge hin (by omega)), if_neg (fun z => z.elim (nI_pos (by omega)) (fun z => z.elim (nI_ge hr (by omega)) (fun z => z.elim (nI_pos (by omega)) (nI_ge hc (by omega)))))]
      unfold rdA tat
      rw [if_neg (nI_in hin (by omega)), nI_clamp (by omega), nI_clamp (by omega), nI_clamp (by omega)]
      rfl
theorem X3_put_eq {cap cols L : Nat} {u : Tab} (sh : tbS cap cols L) (ok : tbOK cap u) (row col v : Int32) : X3_put cap cols L u row col v = some (tput cols u row col v) := by
  obtain ⟨n, hn, e⟩ := tbOK_n sh ok
  obtain ⟨rfl, hc1, hc2⟩ := sh
  have hsm := tsm hc1 hc2
  unfold X3_put tput
  rw [e]
  rcases pk_ix row (n := n) (by omega) with h | h | ⟨r, hr, rfl⟩
  · rw [if_pos h, if_pos (Or.inl h)]
  · rw [if_pos (Or.inr (Or.inl h))]
    by_cases h0 : row < 0
    · rw [if_pos h0]
    · rw [if_neg h0, if_pos h]
  · rw [if_neg (nI_pos (by omega)), if_neg (nI_ge hr (by omega))]
    rcases pk_ix col (n := cols) (by omega) with h | h | ⟨c, hc, rfl⟩
    · rw [if_pos h, if_pos (Or.inr (Or.inr (Or.inl h)))]
    · rw [if_pos (Or.inr (Or.inr (Or.inr h)))]
      by_cases h0 : col < 0
      · rw [if_pos h0]
      · rw [if_neg h0, if_neg (fun z => absurd (Int32.lt_of_lt_of_le z h) Int32.lt_irrefl)]
    · have hin := tin hr hn hc
      rw [if_neg (nI_pos (by omega)), if_pos (nI_lt hc (by omega)), pk_mul, nI_add, if_neg (nI_ge hin (by omega)), if_neg (fun z => z.elim (nI_pos (by omega)) (fun z => z.elim (nI_ge hr (by omega)) (fun z => z.elim (nI_pos (by omega)) (nI_ge hc (by omega)))))]
      unfold wrA tat
      rw [if_neg (nI_in hin (by omega)), nI_clamp (by omega), nI_clamp (by omega), nI_clamp (by omega), ← e]
      rfl
theorem X3_has_eq {cap cols L : Nat} {u : Tab} (row : Int32) : X3_has cap cols L u row = thas u row := by
  unfold X3_has thas
  by_cases h : row < 0
  · rw [if_pos h]
    have : ¬ 0 ≤ row := fun z => absurd (Int32.lt_of_le_of_lt z h) Int32.lt_irrefl
    simp [this]
  · rw [if_neg h]
    have h1 : 0 ≤ row := Int32.not_lt.mp h
    by_cases h2 : u.1 ≤ row
    · rw [if_pos h2]
      have : ¬ row < u.1 := fun z => absurd (Int32.lt_of_lt_of_le z h2) Int32.lt_irrefl
      simp [this]
    · rw [if_neg h2]
      have : row < u.1 := Int32.not_le.mp h2
      simp [this, h1]
theorem MV.mono {S : Type} {l : Launch} {y : MethodName} {cc : ByteArray} {nL : Nat} {rm : Room} {D : va_G} {cI cS : ClassId} {as : List Value} {w0 : va_W} {wf : S → va_W} {post post' : S → Prop} (h : MV l y cc nL rm D cI cS as w0 wf post) (hp : ∀ u, post u → post' u) : MV l y cc nL rm D cI cS as w0 wf post' := by
  intro sz p e1 a c k s m args below hf hfit hP hK
  obtain ⟨n, o, g1, g2, g3, ⟨⟨u, q1, q2, q3⟩, q4⟩, q5⟩ := h sz p e1 a c k s m args below hf hfit hP hK
  exact ⟨n, o, g1, g2, g3, ⟨⟨u, q1, hp u q2, q3⟩, q4⟩, q5⟩
theorem MI.mono {S : Type} {l : Launch} {y : MethodName} {cc : ByteArray} {nL : Nat} {ret : Option FieldType} {rm : Room} {D : va_G} {cI cS : ClassId} {as : List Value} {w0 : va_W} {wf : S → va_W} {post post' : Int32 → S → Prop} (h : MI l y cc nL ret rm D cI cS as w0 wf post) (hp : ∀ r u, post r u → post' r u) : MI l y cc nL ret rm D cI cS as w0 wf post' := by
  intro sz p e1 a c k s m args below hf hfit hP hK
  obtain ⟨n, o, g1, g2, g3, ⟨⟨r, u, q1, q2, q3⟩, q4⟩, q5⟩ := h sz p e1 a c k s m args below hf hfit hP hK
  exact ⟨n, o, g1, g2, g3, ⟨⟨r, u, q1, hp r u q2, q3⟩, q4⟩, q5⟩
theorem tput_ok {cap cols : Nat} {u : Tab} {row col v : Int32} (ok : tbOK cap u) : tbOK cap (tput cols u row col v) := by
  unfold tput
  split <;> exact ok
theorem c_X3_size (l : Launch) (D : va_G) (cI cS : ClassId) (t a cap cols L : Nat) (sh : tbS cap cols L) (u : Tab) (ok : tbOK cap u) (F : Int32) (hF : u.1 = F) : MI l yX3_size cX3_size 1 (some .int) rm_X3_size D cI cS [.ref t] (tbW t a cI cap cols L u) (tbW t a cI cap cols L) (fun r u' => r = F ∧ u' = u) := m_X3_size l D cI cS t a cap cols L sh u ok F hF
theorem c_X3_has (l : Launch) (D : va_G) (cI cS : ClassId) (t a cap cols L : Nat) (sh : tbS cap cols L) (u : Tab) (ok : tbOK cap u) (p1 : Int32) (F : Bool) (hF : thas u p1 = F) : MI l yX3_has cX3_has 2 (some .boolean) rm_X3_has D cI cS [.ref t, .int p1] (tbW t a cI cap cols L u) (tbW t a cI cap cols L) (fun r u' => r = bi F ∧ u' = u) := m_X3_has l D cI cS t a cap cols L sh u ok p1 F (by rw [X3_has_eq]; exact hF)
theorem c_X3_get (l : Launch) (D : va_G) (cI cS : ClassId) (t a cap cols L : Nat) (sh : tbS cap cols L) (u : Tab) (ok : tbOK cap u) (p1 p2 : Int32) (F : Int32) (hF : tget cols u p1 p2 = F) : MI l yX3_get cX3_get 4 (some .int) rm_X3_get D cI cS [.ref t, .int p1, .int p2] (tbW t a cI cap cols L u) (tbW t a cI cap cols L) (fun r u' => r = F ∧ u' = u) := m_X3_get l D cI cS t a cap cols L sh u ok p1 p2 F (by rw [X3_get_eq sh ok, hF])
theorem c_X3_put (l : Launch) (D : va_G) (cI cS : ClassId) (t a cap cols L : Nat) (sh : tbS cap cols L) (u : Tab) (ok : tbOK cap u) (p1 p2 p3 : Int32) (F : Tab) (hF : tput cols u p1 p2 p3 = F) : MV l yX3_put cX3_put 5 rm_X3_put D cI cS [.ref t, .int p1, .int p2, .int p3] (tbW t a cI cap cols L u) (tbW t a cI cap cols L) (fun u => u = F ∧ tbOK cap u) :=
  (m_X3_put l D cI cS t a cap cols L sh u ok p1 p2 p3 F (by rw [X3_put_eq sh ok, hF])).mono (fun _ h => ⟨h.1, by rw [h.1, ← hF]; exact tput_ok ok⟩)
theorem c_X3_removeAllRows (l : Launch) (D : va_G) (cI cS : ClassId) (t a cap cols L : Nat) (sh : tbS cap cols L) (u : Tab) (ok : tbOK cap u) (F : Tab) (hF : tclr u = F) : MV l yX3_removeAllRows cX3_removeAllRows 1 rm_X3_removeAllRows D cI cS [.ref t] (tbW t a cI cap cols L u) (tbW t a cI cap cols L) (fun u => u = F ∧ tbOK cap u) :=
  (m_X3_removeAllRows l D cI cS t a cap cols L sh u ok F hF).mono (fun _ h => ⟨h.1, by rw [h.1, ← hF]; exact ⟨by show (0 : Int32) ≤ 0; decide, nI_pos' (by have := sh.2.1; omega)⟩⟩)
theorem tb_inc {cap cols L : Nat} {u u1 : Tab} (sh : tbS cap cols L) (ok : tbOK cap u) (h0 : u.1 < nI cap) (e : u1 = (u.1 + (1 : Int32), u.2)) : tbOK cap u1 := by
  obtain ⟨n, hn, e1⟩ := tbOK_n sh ok
  have hc := sh.2.1
  have h : ¬ nI cap ≤ u.1 := fun z => absurd (Int32.lt_of_lt_of_le h0 z) Int32.lt_irrefl
  rw [e1] at h
  have hlt : n < cap := by
    rcases Nat.lt_or_ge n cap with z | z
    · exact z
    · exact absurd (nI_le z (by omega)) h
  rw [e]
  show 0 ≤ u.1 + 1 ∧ u.1 + 1 ≤ nI cap
  rw [e1, nI_1]
  exact ⟨nI_pos' (by omega), nI_le hlt (by omega)⟩
