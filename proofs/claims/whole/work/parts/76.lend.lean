/-! LENDING -/
theorem RepC.ex {τ : St} {α : As} {nC nP nH nL c : Nat} (h : RepC τ α nC nP nH nL 99) (h20 : nC ≤ 20) : RepC τ α nC nP nH nL c := by
  have hb : ∀ hc : c < nC, _ := fun hc => h.base hc
  obtain ⟨a, b1, b2, b3, b4, b5, -⟩ := h
  exact ⟨a, b1, b2, b3, b4, fun c' hc' _ => b5 c' hc' (by omega), hb⟩
theorem lend_core {τ : St} {ρ : Ms} {α : As} {D d nC nP nH nL x c p : Nat} (H : Cx τ ρ α D d nC nP nH nL x) (hx : x = 99 ∨ x = c) (hS : Shf α nC nH) (hD : D ≤ 20000000) (hc : c < nC) (hp : p < nP) (hno : ∀ h, h < nH → α 4 h 3 ≠ nI c) (h5 : fv 12 (τ.1 0).2 c 5 = -2) :
    ∃ n g', ((rdA (ρ.1.1 0) 681 0).bind fun v13 => (rdA (ρ.1.1 0) 681 5).bind fun v15 => (X5_turns ρ (nI c) 1 (nI p) (v13 + v15)).bind fun q17 => (rdA (q17.1.1 0) 681 0).bind fun v19 => (X5_puts q17 (nI c) 6 v19).bind fun q21 => (X5_puts q21 (nI c) 7 0).bind fun q23 => (X5_puts q23 (nI c) 8 0).bind fun q25 => (X5_of q25 (nI c) 5).bind fun v27 => some (v27, q25)) = some (nI n, msA ρ 0 g') ∧ n < 1000000000 ∧ τ.2 + X4_valueOf τ 0 = nI n ∧ Core D (X4_putLoan (X4_putCopy τ (nI c) 1 (nI p) (nI n)) (nI c) (X4_putCopy τ (nI c) 1 (nI p) (nI n)).2 0 0) g' := by
  have hb := H.b
  obtain ⟨y, hy, ey⟩ := H.len
  obtain ⟨b0, b1, b2⟩ := H.2.1.base hc
  obtain ⟨q1, q2, q3⟩ := H.2.2.cb hc
  have u1 := (UpC.refl τ c).copy 1 (nI p) (nI (d + y)) H.n.1 (by omega) hc
  have u2 := u1.loan (nI d) 0 0 H.n.1 (by omega) hc
  have ed : (X4_putCopy τ (nI c) 1 (nI p) (nI (d + y))).2 = nI d := u1.2.1.trans H.n.2.2.2.2.2
  have m1 := (H.1.of 2 c).turn 1 (nI p) (nI (d + y)) (show c < 20 by omega)
  have r0 := (rd_h m1).1
  rw [ar_reg _ _ _ _ (by omega), H.2.2.1.1] at r0
  have m4 := ((m1.row (k := 6) (nI d) (by decide) (show c < 20 by omega) (by decide)).row (k := 7) 0 (by decide) (show c < 20 by omega) (by decide)).row (k := 8) 0 (by decide) (show c < 20 by omega) (by decide)
  have r5 := (rd_cm ρ m4 (show c < 20 by omega)).2.2.2.2.2.1
  rw [ar_at] at r5
  refine ⟨d + y, mup (mup (mup (mup (mup (mup (ρ.1.1 0) 2 c 3 1) 2 c 4 (nI p)) 2 c 5 (nI (d + y))) 2 c 6 (nI d)) 2 c 7 0) 2 c 8 0, ?_, by omega, by rw [H.n.2.2.2.2.2, H.v.1, ey, nI_add], ?_⟩
  · rw [H.r.1, Option.bind_some, H.rs.1, Option.bind_some, ey, nI_add, turns_c (by omega), Option.bind_some, ms_get, r0, Option.bind_some, (put_c (show c < 20 by omega)).2.2.2.2.2.2.1, Option.bind_some, (put_c (show c < 20 by omega)).2.2.2.2.2.2.2.1, Option.bind_some, (put_c (show c < 20 by omega)).2.2.2.2.2.2.2.2.1, Option.bind_some]
    simp only [msA_msA, ms_get]
    rw [r5]
    rfl
  · rw [ed]
    have hCx := H.row hx hc u2 m4 (Or.inl ⟨h5, hno⟩) (by
      simp (config := {decide := true}) only [RowR, b0, b1, b2, if_true, if_false]
      try simp) (by
      refine ⟨⟨q1, q2, q3⟩, ⟨1, by omega, rfl⟩, fun q => ?_, fun _ => ⟨p, hp, rfl⟩, fun _ => ⟨d + y, by omega, rfl⟩, fun _ => ⟨⟨d, Nat.le_refl d, rfl⟩, 0, by omega, rfl⟩, fun q => absurd q (show ¬ (1 : Int32) = 3 by decide)⟩
      exact absurd q (show ¬ ((1 : Int32) = 0 ∨ (1 : Int32) = 2 ∨ (1 : Int32) = 3) by decide)) (fun h hh e => absurd e (hno h hh))
    exact Cx.core hCx (hS.row (show (1 : Int32) ≠ 0 by decide))
theorem hold_gone {α : As} {h nH c : Nat} (h24 : nH ≤ 24) (he : α 4 h 3 = nI c) (hc : c < 20) (hh : h < nH) (hu : ∀ j j', j < nH → j' < nH → α 4 j 3 = α 4 j' 3 → α 4 j 3 ≠ -2 → j = j') : ∀ i, i < nH - 1 → arm α h nH 4 i 3 ≠ nI c := by
  intro i hi e
  rw [arm4 _ (by omega)] at e
  exact fwd_ne h i (hu _ _ (fwd_lt hi) hh (by rw [e, he]) (by rw [e]; exact nI_ne2 (by omega)))
/-- the state after a hold with a copy is removed, that copy between two states -/
theorem rem_cx {τ : St} {ρ : Ms} {α : As} {D d nC nP nH nL h c : Nat} (H : Cx τ ρ α D d nC nP nH nL 99) (hh : h < nH) (hc : c < nC) (he : α 4 h 3 = nI c) : ∃ g1, X5_removes ρ (nI h) = some (msA ρ 0 g1) ∧ Cx (X4_removeHold τ (nI h)) (msA ρ 0 g1) (arm α h nH) D d nC nP (nH - 1) nL c ∧ (∀ i, i < nH - 1 → arm α h nH 4 i 3 ≠ nI c) ∧ fv 12 ((X4_removeHold τ (nI h)).1 0).2 c 5 = -2 ∧ RepC (X4_removeHold τ (nI h)) (arm α h nH) nC nP (nH - 1) nL 99 := by
  have hb := H.b
  obtain ⟨g1, e1, e2, e3⟩ := rem_sim H hh
  have hg := hold_gone (by omega) he (by omega) hh H.2.2.2.2.2.2.2.2.2
  refine ⟨g1, e1, ⟨e2, e3.ex (by omega), H.2.2.rem hh (fun c' hc' _ e => (nI_eq (by omega) (by omega)).mp (e.symm.trans he)) (fun _ => by omega)⟩, hg, ?_, e3⟩
  have q := (e3.2.2.2.2.2.1 c hc (by omega)).2.1
  rcases q with ⟨w, -⟩ | ⟨i, i1, i2, -⟩
  · exact w
  · exact absurd i2 (hg i i1)
theorem out_lend {D : Nat} (hD : D ≤ 20000000) {τ : St} {ρ : Ms} (hC : Core D τ (ρ.1.1 0)) (a b : Int32) : Out D τ ρ (X4_lendOut τ a b) (X5_lends ρ a b) := by
  obtain ⟨α, d, nC, nP, nH, nL, H, hS⟩ := hC.cx
  have hb := H.b
  unfold X4_lendOut X5_lends
  have bad : X4_reasonAgainstLending τ a b = some (-1) → Out D τ ρ ((some (-1 : Int32)).bind fun v1 => if v1 = 0 then (if (X4_stateOf τ b) = (3 : Int32) then ((X4_findHold τ a (X4_titleOf τ b)).bind fun v9 => bnd (X4_removeHold τ v9) fun q11 => bnd (X4_putCopy q11 b (1 : Int32) a ((q11.2 + (X4_valueOf q11 (0 : Int32))))) fun q13 => bnd (X4_putLoan q13 b q13.2 (0 : Int32) (0 : Int32)) fun q15 => some (((q11.2 + (X4_valueOf q11 (0 : Int32))), q15))) else bnd (X4_putCopy τ b (1 : Int32) a ((τ.2 + (X4_valueOf τ (0 : Int32))))) fun q5 => bnd (X4_putLoan q5 b q5.2 (0 : Int32) (0 : Int32)) fun q7 => some (((τ.2 + (X4_valueOf τ (0 : Int32))), q7))) else some (((X4_refusal v1), τ))) (some (-1, ρ)) := by
    intro _
    rw [Option.bind_some, if_neg (by decide), show X4_refusal (-1) = -1 by decide]
    exact Out.no hC _
  rcases H.isP a with ⟨e1, e2⟩ | ⟨p, hp, rfl, e1, e2⟩
  · have e3 : X4_reasonAgainstLending τ a b = some (-1) := by
      unfold X4_reasonAgainstLending
      rw [e1]
      simp only [bi_f0, if_true]
    rw [e2, e3]
    rw [Option.bind_some (a := false)]
    simp only [bi_f0, if_true]
    exact bad e3
  · rcases H.isC b with ⟨e3, e4⟩ | ⟨c, hc, rfl, e3, e4⟩
    · have e5 : X4_reasonAgainstLending τ (nI p) b = some (-1) := by
        unfold X4_reasonAgainstLending
        rw [e1, e3]
        simp only [bi_t0, bi_f0, if_true, if_false]
      rw [e2, e4, e5]
      rw [Option.bind_some (a := true)]
      simp only [bi_t0, if_false]
      rw [Option.bind_some (a := false)]
      simp only [bi_f0, if_true]
      exact bad e5
    · obtain ⟨r, q1, q2, q3⟩ := rs_lend H hp hc
      rw [e2, e4, q1, q2]
      rw [Option.bind_some (a := true)]
      simp only [bi_t0, if_false]
      rw [Option.bind_some (a := true)]
      simp only [bi_t0, if_false]
      rw [Option.bind_some, Option.bind_some]
      rcases q3 with q3 | ⟨rfl, q3⟩
      · obtain ⟨n1, n2, n3⟩ := refus q3
        rw [if_neg n1, if_neg n2, n3]
        exact Out.no hC _
      · obtain ⟨c0, c1, c2, c3, c4, -⟩ := H.c hc (by omega)
        obtain ⟨r0, r1, r2, r3, -⟩ := rd_c H.1 (show c < 20 by omega)
        rw [if_pos rfl, if_pos (show (0 : Int32) ≤ 0 by decide), r3, Option.bind_some]
        unfold X4_stateOf X4_titleOf
        rw [c3, c0]
        rcases q3 with s0 | ⟨s3, h, hh, eh, ep⟩
        · rw [if_neg (show ¬ α 2 c 3 = 3 by rw [s0]; decide), if_neg (show ¬ α 2 c 3 = 3 by rw [s0]; decide)]
          have hno := nohold H hc (by rw [s0]; decide) (by rw [s0]; decide)
          have h5 : fv 12 (τ.1 0).2 c 5 = -2 := by
            rcases (H.2.1.2.2.2.2.2.1 c hc (by omega)).2.1 with ⟨w, -⟩ | ⟨i, i1, i2, -⟩
            · exact w
            · exact absurd i2 (hno i i1)
          obtain ⟨n, g', l1, l2, l3, l4⟩ := lend_core H (Or.inl rfl) hS hD hc hp hno h5
          rw [l1, l3]
          exact ⟨_, _, g', rfl, rfl, l4, fun q => absurd q (nI_pos (by omega))⟩
        · rw [if_pos s3, if_pos s3]
          obtain ⟨g1, t1, t2, t3, t4, -⟩ := rem_cx H hh hc eh
          have eT : α 2 c 0 = α 4 h 0 := by
            obtain ⟨-, -, -, q⟩ := H.2.2.2.2.2.2.2.1 h hh
            rcases q with q | ⟨c', z1, z2, z3, -⟩
            · exact absurd (eh.symm.trans q) (nI_ne2 (by omega))
            · have : c' = c := (nI_eq (by omega) (by omega)).mp (z2.symm.trans eh)
              rw [← this]; exact z3
          have f1 : X4_findHold τ (nI p) (α 2 c 0) = some (nI h) := by
            rw [(fx_by H (nI p) (α 2 c 0)).1]
            rcases ffi_spec nH (fun j => decide (α 4 j 1 = nI p ∧ α 4 j 0 = α 2 c 0)) with ⟨-, z2⟩ | ⟨w, z1, z2, z3, -⟩
            · exact absurd ⟨ep, eT.symm⟩ (of_decide_eq_false (z2 h hh))
            · have z3' := of_decide_eq_true z3
              rw [z2, H.2.2.2.2.2.2.2.2.1 w h z1 hh (z3'.2.trans eT) (z3'.1.trans ep.symm)]
          have f2 : X5_holdOf ρ (nI c) = some (nI h) := by
            rcases holder H hc (by omega) with ⟨-, -, z3⟩ | ⟨w, p', z1, z2, z3, z4, z5, z6⟩
            · exact absurd eh (z3 h hh)
            · rw [z6, H.2.2.2.2.2.2.2.2.2 w h z1 hh (z3.trans eh.symm) (by rw [z3]; exact nI_ne2 (by omega))]
          rw [f1, f2, Option.bind_some, Option.bind_some, t1, Option.bind_some]
          obtain ⟨n, g', l1, l2, l3, l4⟩ := lend_core t2 (Or.inr rfl) (hS.rem (by omega)) hD hc hp t3 t4
          rw [l1]
          simp only [bnd]
          rw [l3, msA_msA]
          exact ⟨_, _, g', rfl, rfl, l4, fun q => absurd q (nI_pos (by omega))⟩
theorem sim_lend {D : Nat} (hD : D ≤ 10000000) {σ : Fs} {ρ : Ms} (h : RR D σ ρ) (a b : Int32) : ∃ r σ' ρ', X4_lend σ a b = some (r, σ') ∧ X5_lend ρ a b = some (r, ρ') ∧ RR (D + 6000) σ' ρ' := by
  obtain ⟨r, σ', ρ', e1, e2, e3⟩ := op_sim (B := fun q => X5_lends q a b) h (Nat.le_refl D) (out_lend (by omega) (h.core _) a b)
  exact ⟨r, σ', ρ', e1, e2, e3.mono (by omega)⟩
