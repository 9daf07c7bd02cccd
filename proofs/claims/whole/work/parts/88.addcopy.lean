/-! A PATRON, A COPY -/
theorem mk1 (ρ : Ms) (g : Nat → Int32) : (msA ρ 1 g).1.1 0 = ρ.1.1 0 := by rw [msA_get, if_neg (by omega)]
theorem lo_addP {ρ : Ms} {α : As} {p : Nat} (hM : RepM (ρ.1.1 0) α) (hp : p < 8) (h2 : α 0 0 2 = nI p) (k : Nat) : ∃ g' α' G, X5_addPatron_L27 (nI p) (k + 1 + 1 + 1 + 1 + 1) 0 ρ = ((X5_made (msA ρ 0 g') (nI p)).bind fun q8 => some (q8.1, q8.2)) ∧ RepM g' α' ∧ AddR α α' 3 p 2 (p + 1) G ∧ ∀ k, k < 4 → G k = 0 := by
  have hi : p < rw_ 3 := hp
  have m1 := (hM.of 3 p).row (k := 0) 0 (by decide) hi (by decide)
  have m2 := m1.row (k := 1) 0 (by decide) hi (by decide)
  have m3 := m2.row (k := 2) 0 (by decide) hi (by decide)
  have m4 := m3.row (k := 3) 0 (by decide) hi (by decide)
  obtain ⟨α', m5, hA⟩ := m4.add (p + 1) (q := 2) (by omega) (by omega)
  have r2 := (rd_h m4).2.2.1
  rw [ar_reg _ _ _ _ (by omega), h2] at r2
  refine ⟨_, α', _, ?_, m5, hA, fun k hk => ?_⟩
  · rw [X5_addPatron_L27, if_neg (show ¬ (4 : Int32) ≤ 0 by decide), (wr_p hp).2.1, Option.bind_some]
    simp only [bnd]
    (try rw [show (0 : Int32) + 1 = 1 by decide])
    rw [X5_addPatron_L27, if_neg (show ¬ (4 : Int32) ≤ 1 by decide), (wr_p hp).2.2.1, Option.bind_some]
    simp only [bnd]
    (try rw [show (1 : Int32) + 1 = 2 by decide])
    rw [X5_addPatron_L27, if_neg (show ¬ (4 : Int32) ≤ 2 by decide), (wr_p hp).2.2.2.1, Option.bind_some]
    simp only [bnd]
    (try rw [show (2 : Int32) + 1 = 3 by decide])
    rw [X5_addPatron_L27, if_neg (show ¬ (4 : Int32) ≤ 3 by decide), (wr_p hp).2.2.2.2, Option.bind_some]
    simp only [bnd]
    (try rw [show (3 : Int32) + 1 = 4 by decide])
    rw [X5_addPatron_L27, if_pos (show (4 : Int32) ≤ 4 by decide)]
    simp only [msA_msA, ms_get]
    rw [r2, Option.bind_some, nI_1, wr_h.2.2.1, Option.bind_some]
    rfl
  · rcases (show k = 0 ∨ k = 1 ∨ k = 2 ∨ k = 3 by omega) with rfl | rfl | rfl | rfl <;> rfl
theorem sim_addPatron {D : Nat} (hD : D ≤ 10000000) {σ : Fs} {ρ : Ms} (h : RR D σ ρ) : ∃ r σ' ρ', X4_addPatron σ = (r, σ') ∧ X5_addPatron ρ = some (r, ρ') ∧ RR (D + 6000) σ' ρ' := by
  obtain ⟨α, d, nC, nP, nH, nL, H, hS⟩ := h.cx
  have hb := H.b
  unfold X4_addPatron X5_addPatron
  rw [H.r.2.2.1, Option.bind_some]
  simp only [bnd]
  by_cases z : nP = 8
  · rw [if_pos (show nI nP = 8 by rw [z]; rfl), tadd_full H.n.2.1 (by omega) (by omega)]
    show ∃ r σ' ρ', (if (0 : Int32) ≤ -3 then _ else ((-3 : Int32), (stT σ.1 1 (σ.1.1 1), σ.2))) = (r, σ') ∧ _
    rw [if_neg (by decide), stT_self]
    exact ⟨_, _, _, rfl, rfl, h.mono (by omega)⟩
  · have e8 : ¬ nI nP = 8 := fun q => z ((nI_eq (a := nP) (b := 8) (by omega) (by omega)).mp q)
    obtain ⟨t1, t2⟩ := tadd_new (w := 4) (cap := 8) H.n.2.1 (by omega) (by omega)
    have hM : RepM ((msA ρ 1 (img (ρ.1.1 0) (ρ.1.1 1))).1.1 0) α := by rw [mk1]; exact H.1
    obtain ⟨g', α', G, q1, q2, q3, q4⟩ := lo_addP hM (show nP < 8 by omega) H.2.2.1.2.2.1 995
    rw [if_neg e8, keeps_eq, Option.bind_some, mk1, H.r.2.2.1, Option.bind_some, show FU = 995 + 1 + 1 + 1 + 1 + 1 from rfl, q1, t1, if_pos (nI_pos' (by omega))]
    revert t2
    generalize (tadd 8 4 (σ.1.1 1)).2 = u
    intro t2
    have hC : Core D (stT σ.1 1 u) g' := ⟨α', d, nC, nP + 1, nH, nL, q2, H.2.1.addP q3 t2 (fun k hk => (q4 k hk).symm) (by omega), H.2.2.addP q3 (by omega), by
      intro i c hi hc z1 z2
      obtain ⟨r1, -⟩ := q3
      rw [r1 4 i _ (by omega) (by omega)] at z1 z2
      rw [r1 2 c _ (by omega) (by omega)] at z2 ⊢
      exact hS i c hi hc z1 z2⟩
    obtain ⟨σ', ρ', s1, s2, s3⟩ := settle_sim h (Nat.le_refl D) hC (nI nP) (nI_pos' (by omega))
    rw [s1, s2]
    exact ⟨_, σ', ρ', rfl, rfl, s3.mono (by omega)⟩
theorem putk {ρ : Ms} {c k : Nat} (hc : c < 20) (hk : k < 12) (v : Int32) : X5_puts ρ (nI c) (nI k) v = some (msA ρ 0 (mup (ρ.1.1 0) 2 c k v)) := by
  unfold X5_puts bnd
  rw [show (13 : Int32) = nI 13 from rfl, show (12 : Int32) = nI 12 from rfl, ix3, show wrA (ρ.1.1 0) 681 (nI (13 + 12 * c + k)) v = some (mup (ρ.1.1 0) 2 c k v) from wrR (r := 2) (by decide) hc hk]
  rfl
theorem lo_zero {α : As} {c : Nat} (hc : c < 20) (t b : Int32) : ∀ (m i k : Nat) (ρ : Ms) (F : Nat → Int32), i + m = 12 → m < k → RepM (ρ.1.1 0) (ar α 2 c F) → (∀ j, j < i → F j = 0) → ∃ g' F', X5_addCopy_L44 t b (nI c) k (nI i) ρ = X5_addCopy_L44 t b (nI c) 1 (nI 12) (msA ρ 0 g') ∧ RepM g' (ar α 2 c F') ∧ ∀ j, j < 12 → F' j = 0 := by
  intro m
  induction m with
  | zero =>
    intro i k ρ F e1 e2 hM hF
    obtain ⟨k, rfl⟩ : ∃ q, k = q + 1 := ⟨k - 1, by omega⟩
    have ei : i = 12 := by omega
    subst ei
    refine ⟨ρ.1.1 0, F, ?_, hM, hF⟩
    rw [msA_self, X5_addCopy_L44, if_pos (show (12 : Int32) ≤ nI 12 by decide), X5_addCopy_L44, if_pos (show (12 : Int32) ≤ nI 12 by decide)]
  | succ m ih =>
    intro i k ρ F e1 e2 hM hF
    obtain ⟨k, rfl⟩ : ∃ q, k = q + 1 := ⟨k - 1, by omega⟩
    have m1 := hM.row (k := i) 0 (by decide) (show c < 20 from hc) (show i < 12 by omega)
    obtain ⟨g', F', q1, q2, q3⟩ := ih (i + 1) k (msA ρ 0 (mup (ρ.1.1 0) 2 c i 0)) _ (by omega) (by omega) m1 (fun j hj => by
      by_cases e : j = i
      · exact if_pos e
      · exact (if_neg e).trans (hF j (by omega)))
    refine ⟨g', F', ?_, q2, q3⟩
    rw [X5_addCopy_L44, if_neg (show ¬ (12 : Int32) ≤ nI i from nI_ge (b := 12) (by omega) (by omega)), putk hc (by omega), Option.bind_some, nI_1, q1, msA_msA]
theorem sim_addCopy {D : Nat} (hD : D ≤ 10000000) {σ : Fs} {ρ : Ms} (h : RR D σ ρ) (a b : Int32) : ∃ r σ' ρ', X4_addCopy σ a b = some (r, σ') ∧ X5_addCopy ρ a b = some (r, ρ') ∧ RR (D + 6000) σ' ρ' := by
  obtain ⟨α, d, nC, nP, nH, nL, H, hS⟩ := h.cx
  have hb := H.b
  have hm := h.mono (Nat.le_add_right D 6000)
  unfold X4_addCopy X5_addCopy
  rcases isT a with ⟨e1, e2⟩ | ⟨t, ht, rfl, e1, e2⟩
  · rw [e1, e2, if_pos (show bi false = 0 by decide), if_pos (show bi false = 0 by decide)]
    exact ⟨_, _, _, rfl, rfl, hm⟩
  · rcases isB b with ⟨e3, e4⟩ | ⟨y, hy, rfl, e3, e4⟩
    · rw [e1, e2, e3, e4, if_neg (show ¬ bi true = 0 by decide), if_neg (show ¬ bi true = 0 by decide), if_pos (show bi false = 0 by decide), if_pos (show bi false = 0 by decide)]
      exact ⟨_, _, _, rfl, rfl, hm⟩
    · rw [e1, e2, e3, e4, if_neg (show ¬ bi true = 0 by decide), if_neg (show ¬ bi true = 0 by decide), if_neg (show ¬ bi true = 0 by decide), if_neg (show ¬ bi true = 0 by decide), H.r.2.1, Option.bind_some]
      by_cases z : nC = 20
      · rw [if_pos (show nI nC = 20 by rw [z]; rfl), tadd_full H.n.1 (by omega) (by omega)]
        simp only [bnd]
        show ∃ r σ' ρ', (if (0 : Int32) ≤ -3 then _ else some ((-3 : Int32), (stT σ.1 0 (σ.1.1 0), σ.2))) = some (r, σ') ∧ _
        rw [if_neg (by decide), stT_self]
        exact ⟨_, _, _, rfl, rfl, hm⟩
      · have e20 : ¬ nI nC = 20 := fun q => z ((nI_eq (a := nC) (b := 20) (by omega) (by omega)).mp q)
        obtain ⟨t1, t2⟩ := tadd_new (w := 12) (cap := 20) H.n.1 (by omega) (by omega)
        have hM : RepM ((msA ρ 1 (img (ρ.1.1 0) (ρ.1.1 1))).1.1 0) α := by rw [mk1]; exact H.1
        have hc : nC < 20 := by omega
        obtain ⟨g1, F1, q1, q2, q3⟩ := lo_zero hc (nI t) (nI y) 12 0 FU (msA ρ 1 (img (ρ.1.1 0) (ρ.1.1 1))) _ (by omega) (by unfold FU; omega) (hM.of 2 nC) (fun j hj => absurd hj (by omega))
        have m1 := q2.row (k := 0) (nI t) (by decide) (show nC < 20 from hc) (by decide)
        have m2 := m1.row (k := 1) (nI y) (by decide) (show nC < 20 from hc) (by decide)
        obtain ⟨α', m3, hA⟩ := m2.add (nC + 1) (q := 1) (by omega) (by omega)
        have r1 := (rd_h m2).2.1
        rw [ar_reg _ _ _ _ (by omega), H.2.2.1.2.1] at r1
        rw [if_neg e20, keeps_eq, Option.bind_some, mk1, H.r.2.1, Option.bind_some, show X5_addCopy_L44 (nI t) (nI y) (nI nC) FU 0 (msA ρ 1 (img (ρ.1.1 0) (ρ.1.1 1))) = _ from q1, X5_addCopy_L44, if_pos (show (12 : Int32) ≤ nI 12 by decide), (put_c hc).1, Option.bind_some, (put_c hc).2.1, Option.bind_some]
        simp only [msA_msA, ms_get]
        rw [r1, Option.bind_some, nI_1, wr_h.2.1, Option.bind_some]
        simp only [bnd, msA_msA]
        rw [t1, if_pos (nI_pos' (by omega))]
        have gg : ∀ u, (stT σ.1 0 u).1 0 = u := fun u => by rw [stT_get, if_pos rfl]
        simp only [gg, stT_stT]
        have w1 := t2.put (k := 0) (nI t) (by omega) (by omega) (by omega) (by omega)
        have w2 := w1.put (k := 1) (nI y) (by omega) (by omega) (by omega) (by omega)
        rw [show nI 0 = 0 from rfl, show nI 1 = 1 from rfl] at w2
        revert w2
        generalize tput 12 (tput 12 (tadd 20 12 (σ.1.1 0)).2 (nI nC) 0 (nI t)) (nI nC) 1 (nI y) = u
        intro w2
        have hG0 : ∀ k, 2 ≤ k → k < 12 → α' 2 nC k = 0 := fun k h1 h2 => (hA.2.1 k).trans ((if_neg (by omega)).trans ((if_neg (by omega)).trans (q3 k h2)))
        have hR := H.2.1.addC (u := u) hA w2 ⟨rfl, rfl, (q3 2 (by omega)).symm⟩ hc
        have hI := H.2.2.addC hA hc ⟨t, ht, rfl⟩ ⟨y, hy, rfl⟩ (Or.inl (q3 2 (by omega)))
        have e4' : ∀ i k, α' 4 i k = α 4 i k := fun i k => hA.1 4 i k (by omega) (by omega)
        have e2' : ∀ c k, c ≠ nC → α' 2 c k = α 2 c k := fun c k e => hA.1 2 c k (by omega) (fun q => e q.2)
        have H1 : Cx (stT σ.1 0 u) (msA (msA ρ 1 (img (ρ.1.1 0) (ρ.1.1 1))) 0 (mup (mup (mup g1 2 nC 0 (nI t)) 2 nC 1 (nI y)) 0 0 1 (nI (nC + 1)))) α' D d (nC + 1) nP nH nL nC := ⟨m3, hR, hI⟩
        obtain ⟨τ', g', α'', f1, f2, f3, f4⟩ := free_sim H1 (Or.inr rfl) (by omega) (show nC < nC + 1 by omega) hy (fun i hi e => by
          rw [e4'] at e
          obtain ⟨-, -, -, q⟩ := H.2.2.2.2.2.2.2.1 i hi
          rcases q with q | ⟨c, z1, z2, -⟩
          · exact absurd (e.symm.trans q) (nI_ne2 (by omega))
          · have : nC = c := (nI_eq (by omega) (by omega)).mp (e.symm.trans z2)
            omega) (fun i c hi hc' hne z1 z2 => by
          rw [e4'] at z1 z2
          rw [e2' _ _ hne] at z2 ⊢
          exact hS i c hi (by omega) z1 z2)
        rw [msA_msA] at f2 f3
        rw [f1, f2, Option.bind_some, Option.bind_some]
        obtain ⟨σ', ρ', s1, s2, s3⟩ := settle_sim h (Nat.le_refl D) (f3.core f4) (nI nC) (nI_pos' (by omega))
        rw [s1, s2]
        exact ⟨_, σ', ρ', rfl, rfl, s3.mono (by omega)⟩
