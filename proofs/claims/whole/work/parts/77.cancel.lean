/-! A HOLD IS CANCELLED -/
theorem lo_hw {τ : St} {ρ : Ms} {α : As} {D d nC nP nH nL x : Nat} (H : Cx τ ρ α D d nC nP nH nL x) {a : Nat} (ha : a < 100) : ∀ (m i k q : Nat), i + m = nH → m < k → ∃ w, w ≤ q + m ∧ X5_holds_L4 ρ (nI a) k (nI q) (nI i) = some (nI w) := by
  intro m
  induction m with
  | zero =>
    intro i k q e1 e2
    have hb := H.b
    obtain ⟨k, rfl⟩ : ∃ q, k = q + 1 := ⟨k - 1, by omega⟩
    rw [X5_holds_L4, H.r.2.2.2.1, Option.bind_some, if_pos (nI_le (by omega) (by omega))]
    exact ⟨q, by omega, rfl⟩
  | succ m ih =>
    intro i k q e1 e2
    obtain ⟨k, rfl⟩ : ∃ q, k = q + 1 := ⟨k - 1, by omega⟩
    have hb := H.b
    have hi : i < nH := by omega
    obtain ⟨r0, r1, r2, r3⟩ := rd_o H.1 (show i < 24 by omega)
    rw [X5_holds_L4, H.r.2.2.2.1, Option.bind_some, if_neg (nI_ge hi (by omega)), if_neg (nI_pos (show a < 2 ^ 31 by omega)), r0, Option.bind_some]
    by_cases h0 : α 4 i 0 = nI a
    · rw [if_pos h0, nI_1, nI_1]
      obtain ⟨w, w1, w2⟩ := ih (i + 1) k (q + 1) (by omega) (by omega)
      exact ⟨w, by omega, w2⟩
    · rw [if_neg h0, nI_1, Int32.add_zero]
      obtain ⟨w, w1, w2⟩ := ih (i + 1) k q (by omega) (by omega)
      exact ⟨w, by omega, w2⟩
theorem r_holdsN {τ : St} {ρ : Ms} {α : As} {D d nC nP nH nL x : Nat} (H : Cx τ ρ α D d nC nP nH nL x) {t : Nat} (ht : t < 6) : ∃ w, w ≤ 24 ∧ X4_holdsBefore τ ((τ.1 2).1) (nI t) = some (nI w) ∧ X5_holds ρ (nI t) = some (nI w) := by
  have hb := H.b
  obtain ⟨r, q1, q2⟩ := r_holds H ht
  obtain ⟨w, w1, w2⟩ := lo_hw H (show t < 100 by omega) nH 0 FU 0 (by omega) (by unfold FU; omega)
  have e : some r = some (nI w) := q2.symm.trans w2
  injection e with e
  rw [H.n.2.2.1, q1, q2, e]
  exact ⟨w, by omega, rfl, rfl⟩
theorem RepC.st {τ : St} {α : As} {nC nP nH nL x c : Nat} (h : RepC τ α nC nP nH nL x) (h20 : nC ≤ 20) (hc : c < nC) (hx : c ≠ x) : X4_stateOf τ (nI c) = α 2 c 3 ∧ tget 12 (τ.1 0) (nI c) 4 = α 2 c 4 := by
  obtain ⟨t0, t1, t2, t3, t4, -⟩ := tg_c h.1.1 (by omega) hc
  have q := (h.2.2.2.2.2.1 c hc hx).1
  exact ⟨t3.trans q.2.2.2.1, t4.trans q.2.2.2.2⟩
theorem out_cancel {D : Nat} (hD : D ≤ 20000000) {τ : St} {ρ : Ms} (hC : Core D τ (ρ.1.1 0)) (a b : Int32) : Out D τ ρ (X4_dropHold τ a b) (X5_cancels ρ a b) := by
  obtain ⟨α, d, nC, nP, nH, nL, H, hS⟩ := hC.cx
  have hb := H.b
  unfold X4_dropHold X5_cancels
  rcases H.isP a with ⟨e1, e2⟩ | ⟨p, hp, rfl, e1, e2⟩
  · rw [e1, e2]
    rw [Option.bind_some]
    simp only [bi_f0, if_true]
    exact Out.no hC _
  · rcases isT b with ⟨e3, e4⟩ | ⟨t, ht, rfl, e3, e4⟩
    · rw [e1, e2, e3, e4]
      rw [Option.bind_some]
      simp only [bi_t0, bi_f0, if_true, if_false]
      exact Out.no hC _
    · rw [e1, e2, e3, e4]
      rw [Option.bind_some]
      simp only [bi_t0, if_false]
      obtain ⟨f1, f2⟩ := fx_by H (nI p) (nI t)
      rw [f1, f2, Option.bind_some, Option.bind_some]
      rcases ffi_spec nH (fun j => decide (α 4 j 1 = nI p ∧ α 4 j 0 = nI t)) with ⟨z1, -⟩ | ⟨h, z1, z2, z3, -⟩
      · rw [z1, if_pos rfl, if_neg (show ¬ (0 : Int32) ≤ -2 by decide)]
        exact Out.no hC _
      · rw [z2, if_neg (nI_ne2 (by omega)), if_pos (nI_pos' (by omega)), (H.h z1).2.2.1, (rd_o H.1 (show h < 24 by omega)).2.2.2, Option.bind_some]
        obtain ⟨-, -, -, hcp⟩ := H.2.2.2.2.2.2.2.1 h z1
        rcases hcp with hcp | ⟨c, hc, ec, et, es⟩
        · obtain ⟨g1, t1, t2, t3⟩ := rem_sim H z1
          have H1 : Cx (X4_removeHold τ (nI h)) (msA ρ 0 g1) (arm α h nH) D d nC nP (nH - 1) nL 99 := ⟨t2, t3, H.2.2.rem z1 (fun c' hc' _ e => absurd (e.symm.trans hcp) (nI_ne2 (by omega))) (fun q => by omega)⟩
          obtain ⟨w, w1, w2, w3⟩ := r_holdsN H1 ht
          rw [t1, Option.bind_some, hcp, if_pos (show (-2 : Int32) < 0 by decide)]
          simp only [bnd]
          rw [if_pos trivial, w2, w3]
          exact ⟨_, _, g1, rfl, rfl, H1.core (hS.rem (by omega)), fun q => absurd q (nI_pos (by omega))⟩
        · obtain ⟨g1, t1, t2, t3, t4, t5⟩ := rem_cx H z1 hc ec
          obtain ⟨s1, s2⟩ := t5.st (by omega) hc (by omega)
          rw [armR _ _ (by omega) (by omega)] at s1 s2
          have r3 : X5_of (msA ρ 0 g1) (nI c) 3 = some (α 2 c 3) := by
            rw [(rd_cm ρ (show RepM g1 (arm α h nH) from t2.1) (show c < 20 by omega)).2.2.2.1, armR _ _ (by omega) (by omega)]
          have r4 : X5_of (msA ρ 0 g1) (nI c) 4 = some (α 2 c 4) := by
            rw [(rd_cm ρ (show RepM g1 (arm α h nH) from t2.1) (show c < 20 by omega)).2.2.2.2.1, armR _ _ (by omega) (by omega)]
          rw [t1, Option.bind_some, ec, if_neg (nI_pos (show c < 2 ^ 31 by omega)), r3, Option.bind_some]
          simp only [bnd]
          rw [if_neg (nI_ne2 (show c < 1000000 by omega)), s1]
          have hS1 := hS.rem (h := h) (by omega)
          rcases es with es | es
          · rw [if_neg (show ¬ α 2 c 3 = 3 by rw [es]; decide), if_neg (show ¬ α 2 c 3 = 3 by rw [es]; decide)]
            have H1 : Cx (X4_removeHold τ (nI h)) (msA ρ 0 g1) (arm α h nH) D d nC nP (nH - 1) nL 99 := ⟨t2.1, t5, H.2.2.rem z1 (fun c' hc' e3 e => by
              have : c' = c := (nI_eq (by omega) (by omega)).mp (e.symm.trans ec)
              rw [this, es] at e3
              exact absurd e3 (by decide)) (fun q => by omega)⟩
            obtain ⟨w, w1, w2, w3⟩ := r_holdsN H1 ht
            rw [w2, w3]
            exact ⟨_, _, g1, rfl, rfl, H1.core hS1, fun q => absurd q (nI_pos (by omega))⟩
          · rw [if_pos es, if_pos es, r4, Option.bind_some, s2]
            obtain ⟨-, -, hB, -⟩ := H.2.2.2.2.2.1 c hc (by omega)
            obtain ⟨b, hb4, eb⟩ := hB (Or.inr (Or.inr es))
            obtain ⟨τ', g', α', u1, u2, u3, u4⟩ := free_sim t2 (Or.inr rfl) hD hc hb4 t3 (fun i c' hi hc' _ e1 e2 => hS1 i c' hi hc' e1 e2)
            rw [msA_msA] at u2 u3
            obtain ⟨w, w1, w2, w3⟩ := r_holdsN u3 ht
            rw [eb, u1, u2, Option.bind_some, Option.bind_some, w2, w3]
            exact ⟨_, _, g', rfl, rfl, u3.core u4, fun q => absurd q (nI_pos (by omega))⟩
theorem sim_cancelHold {D : Nat} (hD : D ≤ 10000000) {σ : Fs} {ρ : Ms} (h : RR D σ ρ) (a b : Int32) : ∃ r σ' ρ', X4_cancelHold σ a b = some (r, σ') ∧ X5_cancelHold ρ a b = some (r, ρ') ∧ RR (D + 6000) σ' ρ' := by
  obtain ⟨r, σ', ρ', e1, e2, e3⟩ := op_sim (B := fun q => X5_cancels q a b) h (Nat.le_refl D) (out_cancel (by omega) (h.core _) a b)
  exact ⟨r, σ', ρ', e1, e2, e3.mono (by omega)⟩
