/-! THE CLASS: what changes the whole object -/
def X4_commit (σ : Fs) : Fs := bnd (σ.1, frH σ.2 (hpush σ.2.2.2.2.1 σ.2.2.1)) fun σ1 => bnd (σ1.1, frS σ1.2 σ1.1) fun σ3 => σ3
def rm_X4_commit : Room := { frames := 4, cells := 0, slots := 0, locals := 124 }
theorem v_X4_commit : WdV RX4 yX4_commit cX4_commit 1 none 0 := ⟨mI_X4_commit, mS_X4_commit, mZ_RX4, mC_X4_commit, by decide +kernel⟩
set_option maxHeartbeats 8000000 in
set_option maxRecDepth 100000 in
theorem c_X4_commit (l : Launch) (D : va_G) (cI cS : ClassId) (ad : Nat → Nat) (σ : Fs) (ok : OKF σ) (F : Fs) (hF : X4_commit σ = F) : MV l yX4_commit cX4_commit 1 rm_X4_commit D cI cS [.ref (ad 0)] (fW ad cI cS σ) (fW ad cI cS) (fun u => u = F ∧ OKF u) := by
  refine MV.mk RX4 rfl (by decide) (Nat.le_of_ble_eq_true rfl) ?_
  intro p e s m args below meth c A Q ls Fc hin hA Z kret hl
  obtain ⟨hx, hb, hml, hown, hts, hKN⟩ := id Fc
  replace hl : lv_has ls 1 [(0, .ref (ad 0))] := hl
  unfold X4_commit at hF
  refine lv_aload_n hx hb dX4_commit_0 rfl (lv_at hl 0 rfl) ?_
  refine kget Fc Z inX4 0 rfl rfl 4 (by decide) mF_RX4_29 rfl rfl dX4_commit_1 ?_
  refine lv_aload_n hx hb dX4_commit_4 rfl (lv_at hl 0 rfl) ?_
  refine kget Fc Z inX4 0 rfl rfl 1 (by decide) mF_RX4_16 rfl rfl dX4_commit_5 ?_
  refine kv_i (As := [.ref (ad 12)]) (ok := HOK) Fc hA Z Lens.fps (c_X1_push l D cI cS ad 12 σ.2.2.2.2.1 ok.2.2.2.2.1 σ.2.2.1 (hpush σ.2.2.2.2.1 σ.2.2.1) rfl) mL_RX4_286 v_X1_push ⟨rfl, rfl⟩ ⟨Nat.le_of_ble_eq_true rfl, Nat.le_of_ble_eq_true rfl⟩ ⟨Nat.zero_le _, Nat.zero_le _⟩ 34 1 rfl rfl rfl hl (Nat.le_of_ble_eq_true rfl) dX4_commit_8 rfl (fun H locs ok1 Z => ?_)
  obtain ⟨σ1, e2, hF⟩ := bnd_el hF
  have Z : Ix D A s (fW ad cI cS σ1) H locs := by rw [e2]; exact Z
  have ok : OKF σ1 := by rw [e2]; exact okf_push ok ok1
  refine lv_aload_n hx hb dX4_commit_11 rfl (lv_at hl 0 rfl) ?_
  refine kget Fc Z inX4 0 rfl rfl 1 (by decide) mF_RX4_16 rfl rfl dX4_commit_12 ?_
  refine lv_aload_n hx hb dX4_commit_15 rfl (lv_at hl 0 rfl) ?_
  refine kget Fc Z inX4 0 rfl rfl 0 (by decide) mF_RX4_10 rfl rfl dX4_commit_16 ?_
  refine kv_i (As := [.ref (ad 1)]) (ok := fun _ : St => True) Fc hA Z Lens.fsn (c_X2_copyFrom l D cI cS ad 12 1 σ1.2.2.1 σ1.1) mL_RX4_269 v_X2_copyFrom ⟨rfl, rfl⟩ ⟨Nat.le_of_ble_eq_true rfl, Nat.le_of_ble_eq_true rfl⟩ ⟨Nat.zero_le _, Nat.zero_le _⟩ 12 2 rfl rfl rfl hl (Nat.le_of_ble_eq_true rfl) dX4_commit_19 rfl (fun H locs _ Z => ?_)
  obtain ⟨σ3, e4, hF⟩ := bnd_el hF
  have Z : Ix D A s (fW ad cI cS σ3) H locs := by rw [e4]; exact Z
  have ok : OKF σ3 := by rw [e4]; exact okf_S ok ok.1
  exact kret σ3 _ _ _ _ ⟨hF, ok⟩ Z dX4_commit_22
def X4_settle (σ : Fs) (p1 : Int32) : Int32 × Fs := if p1 < 0 then ((p1, σ)) else bnd (X4_commit σ) fun q2 => (p1, q2)
def rm_X4_settle : Room := { frames := 5, cells := 0, slots := 0, locals := 144 }
theorem v_X4_settle : WdV RX4 yX4_settle cX4_settle 2 (some .int) 1 := ⟨mI_X4_settle, mS_X4_settle, mZ_RX4, mC_X4_settle, by decide +kernel⟩
set_option maxHeartbeats 8000000 in
set_option maxRecDepth 100000 in
theorem c_X4_settle (l : Launch) (D : va_G) (cI cS : ClassId) (ad : Nat → Nat) (σ : Fs) (ok : OKF σ) (p1 : Int32) (F : Int32 × Fs) (hF : X4_settle σ p1 = F) : MI l yX4_settle cX4_settle 2 (some .int) rm_X4_settle D cI cS [.ref (ad 0), .int p1] (fW ad cI cS σ) (fW ad cI cS) (fun r u => r = F.1 ∧ u = F.2 ∧ OKF u) := by
  refine MI.mk RX4 rfl .int rfl (by decide) (Nat.le_of_ble_eq_true rfl) (fun _ _ _ => rfl) ?_
  intro p e s m args below meth c A Q ls Fc hin hA Z kret hl
  obtain ⟨hx, hb, hml, hown, hts, hKN⟩ := id Fc
  replace hl : lv_has ls 2 [(0, .ref (ad 0)), (1, .int p1)] := hl
  unfold X4_settle at hF
  refine lv_iload_n hx hb dX4_settle_0 rfl (lv_at hl 1 rfl) ?_
  refine lv_if_lt (tgt := 8) hx hb dX4_settle_1 (by decide) (fun c1 => ?_) (fun c1 => ?_)
  · rw [if_pos c1] at hF
    refine lv_iload_n hx hb dX4_settle_8 rfl (lv_at hl 1 rfl) ?_
    exact kret p1 σ _ _ _ _ ⟨(pfst hF), psnd hF, ok⟩ Z dX4_settle_9
  · rw [if_neg c1] at hF
    refine lv_aload_n hx hb dX4_settle_4 rfl (lv_at hl 0 rfl) ?_
    obtain ⟨q2, e3, hF⟩ := bnd_el hF
    refine kv_i (As := []) (ok := OKF) Fc hA Z Lens.all (c_X4_commit l D cI cS ad σ ok  q2 e3.symm) mL_RX4_182 v_X4_commit ⟨rfl, rfl⟩ ⟨Nat.le_of_ble_eq_true rfl, Nat.le_of_ble_eq_true rfl⟩ ⟨Nat.zero_le _, Nat.zero_le _⟩ 0 4 rfl rfl rfl hl (Nat.le_of_ble_eq_true rfl) dX4_settle_5 rfl (fun H locs ok1 Z => ?_)
    have ok := ok1
    refine lv_iload_n hx hb dX4_settle_8 rfl (lv_at hl 1 rfl) ?_
    exact kret p1 q2 _ _ _ _ ⟨(pfst hF), psnd hF, ok⟩ Z dX4_settle_9
def X4_addCopy (σ : Fs) (p1 p2 : Int32) : Option (Int32 × Fs) := if (bi (X4_isTitle p1)) = 0 then (some (((-1 : Int32), σ))) else if (bi (X4_isBranch p2)) = 0 then (some (((-1 : Int32), σ))) else bnd (tadd 20 12 (σ.1.1 0)) fun q3 => bnd (stT σ.1 0 q3.2, σ.2) fun σ5 => if 0 ≤ q3.1 then (bnd (tput 12 (σ5.1.1 0) q3.1 (0 : Int32) p1) fun q8 => bnd (stT σ5.1 0 q8, σ5.2) fun σ10 => bnd (tput 12 (σ10.1.1 0) q3.1 (1 : Int32) p2) fun q12 => bnd (stT σ10.1 0 q12, σ10.2) fun σ14 => (X4_becomeFree σ14.1 q3.1 p2).bind fun q16 => bnd (q16, σ14.2) fun σ18 => bnd (X4_settle σ18 q3.1) fun q20 => some (q20.1, q20.2)) else some (((-3 : Int32), σ5))
def rm_X4_addCopy : Room := { frames := 6, cells := 0, slots := 0, locals := 165 }
theorem v_X4_addCopy : WdV RX4 yX4_addCopy cX4_addCopy 4 (some .int) 2 := ⟨mI_X4_addCopy, mS_X4_addCopy, mZ_RX4, mC_X4_addCopy, by decide +kernel⟩
set_option maxHeartbeats 8000000 in
set_option maxRecDepth 100000 in
theorem c_X4_addCopy (l : Launch) (D : va_G) (cI cS : ClassId) (ad : Nat → Nat) (σ : Fs) (ok : OKF σ) (p1 p2 : Int32) (F : Int32 × Fs) (hF : X4_addCopy σ p1 p2 = some F) : MI l yX4_addCopy cX4_addCopy 4 (some .int) rm_X4_addCopy D cI cS [.ref (ad 0), .int p1, .int p2] (fW ad cI cS σ) (fW ad cI cS) (fun r u => r = F.1 ∧ u = F.2 ∧ OKF u) := by
  refine MI.mk RX4 rfl .int rfl (by decide) (Nat.le_of_ble_eq_true rfl) (fun _ _ _ => rfl) ?_
  intro p e s m args below meth c A Q ls Fc hin hA Z kret hl
  obtain ⟨hx, hb, hml, hown, hts, hKN⟩ := id Fc
  replace hl : lv_has ls 4 [(0, .ref (ad 0)), (1, .int p1), (2, .int p2)] := hl
  unfold X4_addCopy at hF
  refine lv_iload_n hx hb dX4_addCopy_0 rfl (lv_at hl 1 rfl) ?_
  refine ks_i (As := [.int p1]) Fc hA Z (c_X4_isTitle l D cI cS p1 (X4_isTitle p1) rfl) mL_RX4_40 v_X4_isTitle ⟨rfl, rfl⟩ ⟨Nat.le_of_ble_eq_true rfl, Nat.le_of_ble_eq_true rfl⟩ ⟨Nat.zero_le _, Nat.zero_le _⟩ rfl hl (Nat.le_of_ble_eq_true rfl) dX4_addCopy_1 rfl (fun H locs Z => ?_)
  refine lv_if_eq (tgt := 14) hx hb dX4_addCopy_4 (by decide) (fun c1 => ?_) (fun c1 => ?_)
  · rw [if_pos c1] at hF
    refine lv_iconst (v := (-1 : Int32)) hx hb dX4_addCopy_14 (by decide) ?_
    exact kret (-1 : Int32) σ _ _ _ _ ⟨(pfst (Option.some.inj hF)), psnd (Option.some.inj hF), ok⟩ Z dX4_addCopy_15
  · rw [if_neg c1] at hF
    refine lv_iload_n hx hb dX4_addCopy_7 rfl (lv_at hl 2 rfl) ?_
    refine ks_i (As := [.int p2]) Fc hA Z (c_X4_isBranch l D cI cS p2 (X4_isBranch p2) rfl) mL_RX4_44 v_X4_isBranch ⟨rfl, rfl⟩ ⟨Nat.le_of_ble_eq_true rfl, Nat.le_of_ble_eq_true rfl⟩ ⟨Nat.zero_le _, Nat.zero_le _⟩ rfl hl (Nat.le_of_ble_eq_true rfl) dX4_addCopy_8 rfl (fun H locs Z => ?_)
    refine lv_if_ne (tgt := 16) hx hb dX4_addCopy_11 (by decide) (fun c2 => ?_) (fun c2 => ?_)
    · rw [if_neg c2] at hF
      refine lv_aload_n hx hb dX4_addCopy_16 rfl (lv_at hl 0 rfl) ?_
      refine kget Fc Z inX4 0 rfl rfl 0 (by decide) mF_RX4_10 rfl rfl dX4_addCopy_17 ?_
      refine kgetN Fc Z inX2 1 rfl rfl 0 (by decide) nw_RX4_47 rfl rfl dX4_addCopy_20 ?_
      obtain ⟨q3, e4, hF⟩ := bnd_el hF
      refine km_i (As := []) (ok := tbOK 20) Fc hA Z (Lens.c0 (hs := σ.2.1) (τ := σ.1) (R := rW ad cI cS σ.2)) (c_X3_addRow l D cI cS (ad 2) (ad 3) 20 12 (20 * 12) sh0 (σ.1.1 0) ok.1.1  q3 e4.symm) mL_RX4_51 v_X3_addRow ⟨rfl, rfl⟩ ⟨Nat.le_of_ble_eq_true rfl, Nat.le_of_ble_eq_true rfl⟩ ⟨Nat.zero_le _, Nat.zero_le _⟩ 2 3 rfl rfl rfl hl (Nat.le_of_ble_eq_true rfl) dX4_addCopy_23 rfl (fun H locs ok1 Z => ?_)
      obtain ⟨σ5, e6, hF⟩ := bnd_el hF
      have Z : Ix D A s (fW ad cI cS σ5) H locs := by rw [e6]; exact Z
      have ok : OKF σ5 := by rw [e6]; exact okf_N ok (ok_c0 ok.1 ok1)
      refine lv_istore_n (lv' := [(3, .int q3.1), (0, .ref (ad 0)), (1, .int p1), (2, .int p2)]) hx hb dX4_addCopy_26 rfl hl (by decide) rfl (fun ls hl => ?_)
      refine lv_iload_n hx hb dX4_addCopy_27 rfl (lv_at hl 0 rfl) ?_
      refine lv_if_ge (tgt := 34) hx hb dX4_addCopy_28 (by decide) (fun c7 => ?_) (fun c7 => ?_)
      · rw [if_pos c7] at hF
        refine lv_aload_n hx hb dX4_addCopy_34 rfl (lv_at hl 1 rfl) ?_
        refine kget Fc Z inX4 0 rfl rfl 0 (by decide) mF_RX4_10 rfl rfl dX4_addCopy_35 ?_
        refine kgetN Fc Z inX2 1 rfl rfl 0 (by decide) nw_RX4_47 rfl rfl dX4_addCopy_38 ?_
        refine lv_iload_n hx hb dX4_addCopy_41 rfl (lv_at hl 0 rfl) ?_
        refine lv_iconst (v := (0 : Int32)) hx hb dX4_addCopy_42 (by decide) ?_
        refine lv_iload_n hx hb dX4_addCopy_43 rfl (lv_at hl 2 rfl) ?_
        obtain ⟨q8, e9, hF⟩ := bnd_el hF
        refine kv_i (As := [.int q3.1, .int (0 : Int32), .int p1]) (ok := tbOK 20) Fc hA Z (Lens.c0 (hs := σ5.2.1) (τ := σ5.1) (R := rW ad cI cS σ5.2)) (c_X3_put l D cI cS (ad 2) (ad 3) 20 12 (20 * 12) sh0 (σ5.1.1 0) ok.1.1 q3.1 (0 : Int32) p1 q8 e9.symm) mL_RX4_57 v_X3_put ⟨rfl, rfl⟩ ⟨Nat.le_of_ble_eq_true rfl, Nat.le_of_ble_eq_true rfl⟩ ⟨Nat.zero_le _, Nat.zero_le _⟩ 2 3 rfl rfl rfl hl (Nat.le_of_ble_eq_true rfl) dX4_addCopy_44 rfl (fun H locs ok1 Z => ?_)
        obtain ⟨σ10, e11, hF⟩ := bnd_el hF
        have Z : Ix D A s (fW ad cI cS σ10) H locs := by rw [e11]; exact Z
        have ok : OKF σ10 := by rw [e11]; exact okf_N ok (ok_c0 ok.1 ok1)
        refine lv_aload_n hx hb dX4_addCopy_47 rfl (lv_at hl 1 rfl) ?_
        refine kget Fc Z inX4 0 rfl rfl 0 (by decide) mF_RX4_10 rfl rfl dX4_addCopy_48 ?_
        refine kgetN Fc Z inX2 1 rfl rfl 0 (by decide) nw_RX4_47 rfl rfl dX4_addCopy_51 ?_
        refine lv_iload_n hx hb dX4_addCopy_54 rfl (lv_at hl 0 rfl) ?_
        refine lv_iconst (v := (1 : Int32)) hx hb dX4_addCopy_55 (by decide) ?_
        refine lv_iload_n hx hb dX4_addCopy_56 rfl (lv_at hl 3 rfl) ?_
        obtain ⟨q12, e13, hF⟩ := bnd_el hF
        refine kv_i (As := [.int q3.1, .int (1 : Int32), .int p2]) (ok := tbOK 20) Fc hA Z (Lens.c0 (hs := σ10.2.1) (τ := σ10.1) (R := rW ad cI cS σ10.2)) (c_X3_put l D cI cS (ad 2) (ad 3) 20 12 (20 * 12) sh0 (σ10.1.1 0) ok.1.1 q3.1 (1 : Int32) p2 q12 e13.symm) mL_RX4_57 v_X3_put ⟨rfl, rfl⟩ ⟨Nat.le_of_ble_eq_true rfl, Nat.le_of_ble_eq_true rfl⟩ ⟨Nat.zero_le _, Nat.zero_le _⟩ 2 3 rfl rfl rfl hl (Nat.le_of_ble_eq_true rfl) dX4_addCopy_57 rfl (fun H locs ok1 Z => ?_)
        obtain ⟨σ14, e15, hF⟩ := bnd_el hF
        have Z : Ix D A s (fW ad cI cS σ14) H locs := by rw [e15]; exact Z
        have ok : OKF σ14 := by rw [e15]; exact okf_N ok (ok_c0 ok.1 ok1)
        refine lv_aload_n hx hb dX4_addCopy_60 rfl (lv_at hl 1 rfl) ?_
        refine lv_iload_n hx hb dX4_addCopy_61 rfl (lv_at hl 0 rfl) ?_
        refine lv_iload_n hx hb dX4_addCopy_62 rfl (lv_at hl 3 rfl) ?_
        obtain ⟨q16, h17, hF⟩ := obind hF
        refine kv_i (As := [.int q3.1, .int p2]) (ok := OK) Fc hA Z Lens.fc (c_X4_becomeFree l D cI cS ad σ14.2.1 σ14.1 ok.1 q3.1 p2 q16 h17) mL_RX4_61 v_X4_becomeFree ⟨rfl, rfl⟩ ⟨Nat.le_of_ble_eq_true rfl, Nat.le_of_ble_eq_true rfl⟩ ⟨Nat.zero_le _, Nat.zero_le _⟩ 0 4 rfl rfl rfl hl (Nat.le_of_ble_eq_true rfl) dX4_addCopy_63 rfl (fun H locs ok1 Z => ?_)
        obtain ⟨σ18, e19, hF⟩ := bnd_el hF
        have Z : Ix D A s (fW ad cI cS σ18) H locs := by rw [e19]; exact Z
        have ok : OKF σ18 := by rw [e19]; exact okf_N ok ok1
        refine lv_aload_n hx hb dX4_addCopy_66 rfl (lv_at hl 1 rfl) ?_
        refine lv_iload_n hx hb dX4_addCopy_67 rfl (lv_at hl 0 rfl) ?_
        obtain ⟨q20, e21, hF⟩ := bnd_el hF
        refine km_i (As := [.int q3.1]) (ok := OKF) Fc hA Z Lens.all (c_X4_settle l D cI cS ad σ18 ok q3.1 q20 e21.symm) mL_RX4_65 v_X4_settle ⟨rfl, rfl⟩ ⟨Nat.le_of_ble_eq_true rfl, Nat.le_of_ble_eq_true rfl⟩ ⟨Nat.zero_le _, Nat.zero_le _⟩ 0 4 rfl rfl rfl hl (Nat.le_of_ble_eq_true rfl) dX4_addCopy_68 rfl (fun H locs ok1 Z => ?_)
        have ok := ok1
        exact kret q20.1 q20.2 _ _ _ _ ⟨(pfst (Option.some.inj hF)), psnd (Option.some.inj hF), ok⟩ Z dX4_addCopy_71
      · rw [if_neg c7] at hF
        refine lv_bipush (v := (-3 : Int32)) hx hb dX4_addCopy_31 (by decide) ?_
        exact kret (-3 : Int32) σ5 _ _ _ _ ⟨(pfst (Option.some.inj hF)), psnd (Option.some.inj hF), ok⟩ Z dX4_addCopy_33
    · rw [if_pos c2] at hF
      refine lv_iconst (v := (-1 : Int32)) hx hb dX4_addCopy_14 (by decide) ?_
      exact kret (-1 : Int32) σ _ _ _ _ ⟨(pfst (Option.some.inj hF)), psnd (Option.some.inj hF), ok⟩ Z dX4_addCopy_15
def X4_addPatron (σ : Fs) : Int32 × Fs := bnd (tadd 8 4 (σ.1.1 1)) fun q1 => bnd (stT σ.1 1 q1.2, σ.2) fun σ3 => if 0 ≤ q1.1 then (bnd (X4_settle σ3 q1.1) fun q6 => (q6.1, q6.2)) else ((-3 : Int32), σ3)
def rm_X4_addPatron : Room := { frames := 6, cells := 0, slots := 0, locals := 165 }
theorem v_X4_addPatron : WdV RX4 yX4_addPatron cX4_addPatron 2 (some .int) 0 := ⟨mI_X4_addPatron, mS_X4_addPatron, mZ_RX4, mC_X4_addPatron, by decide +kernel⟩
set_option maxHeartbeats 8000000 in
set_option maxRecDepth 100000 in
theorem c_X4_addPatron (l : Launch) (D : va_G) (cI cS : ClassId) (ad : Nat → Nat) (σ : Fs) (ok : OKF σ) (F : Int32 × Fs) (hF : X4_addPatron σ = F) : MI l yX4_addPatron cX4_addPatron 2 (some .int) rm_X4_addPatron D cI cS [.ref (ad 0)] (fW ad cI cS σ) (fW ad cI cS) (fun r u => r = F.1 ∧ u = F.2 ∧ OKF u) := by
  refine MI.mk RX4 rfl .int rfl (by decide) (Nat.le_of_ble_eq_true rfl) (fun _ _ _ => rfl) ?_
  intro p e s m args below meth c A Q ls Fc hin hA Z kret hl
  obtain ⟨hx, hb, hml, hown, hts, hKN⟩ := id Fc
  replace hl : lv_has ls 2 [(0, .ref (ad 0))] := hl
  unfold X4_addPatron at hF
  refine lv_aload_n hx hb dX4_addPatron_0 rfl (lv_at hl 0 rfl) ?_
  refine kget Fc Z inX4 0 rfl rfl 0 (by decide) mF_RX4_10 rfl rfl dX4_addPatron_1 ?_
  refine kgetN Fc Z inX2 1 rfl rfl 1 (by decide) nw_RX4_69 rfl rfl dX4_addPatron_4 ?_
  obtain ⟨q1, e2, hF⟩ := bnd_el hF
  refine km_i (As := []) (ok := tbOK 8) Fc hA Z (Lens.c1 (hs := σ.2.1) (τ := σ.1) (R := rW ad cI cS σ.2)) (c_X3_addRow l D cI cS (ad 4) (ad 5) 8 4 (8 * 4) sh1 (σ.1.1 1) ok.1.2.1  q1 e2.symm) mL_RX4_51 v_X3_addRow ⟨rfl, rfl⟩ ⟨Nat.le_of_ble_eq_true rfl, Nat.le_of_ble_eq_true rfl⟩ ⟨Nat.zero_le _, Nat.zero_le _⟩ 4 3 rfl rfl rfl hl (Nat.le_of_ble_eq_true rfl) dX4_addPatron_7 rfl (fun H locs ok1 Z => ?_)
  obtain ⟨σ3, e4, hF⟩ := bnd_el hF
  have Z : Ix D A s (fW ad cI cS σ3) H locs := by rw [e4]; exact Z
  have ok : OKF σ3 := by rw [e4]; exact okf_N ok (ok_c1 ok.1 ok1)
  refine lv_istore_n (lv' := [(1, .int q1.1), (0, .ref (ad 0))]) hx hb dX4_addPatron_10 rfl hl (by decide) rfl (fun ls hl => ?_)
  refine lv_iload_n hx hb dX4_addPatron_11 rfl (lv_at hl 0 rfl) ?_
  refine lv_if_ge (tgt := 18) hx hb dX4_addPatron_12 (by decide) (fun c5 => ?_) (fun c5 => ?_)
  · rw [if_pos c5] at hF
    refine lv_aload_n hx hb dX4_addPatron_18 rfl (lv_at hl 1 rfl) ?_
    refine lv_iload_n hx hb dX4_addPatron_19 rfl (lv_at hl 0 rfl) ?_
    obtain ⟨q6, e7, hF⟩ := bnd_el hF
    refine km_i (As := [.int q1.1]) (ok := OKF) Fc hA Z Lens.all (c_X4_settle l D cI cS ad σ3 ok q1.1 q6 e7.symm) mL_RX4_65 v_X4_settle ⟨rfl, rfl⟩ ⟨Nat.le_of_ble_eq_true rfl, Nat.le_of_ble_eq_true rfl⟩ ⟨Nat.zero_le _, Nat.zero_le _⟩ 0 4 rfl rfl rfl hl (Nat.le_of_ble_eq_true rfl) dX4_addPatron_20 rfl (fun H locs ok1 Z => ?_)
    have ok := ok1
    exact kret q6.1 q6.2 _ _ _ _ ⟨(pfst hF), psnd hF, ok⟩ Z dX4_addPatron_23
  · rw [if_neg c5] at hF
    refine lv_bipush (v := (-3 : Int32)) hx hb dX4_addPatron_15 (by decide) ?_
    exact kret (-3 : Int32) σ3 _ _ _ _ ⟨(pfst hF), psnd hF, ok⟩ Z dX4_addPatron_17
def X4_setFloating (σ : Fs) (p1 p2 : Int32) : Int32 × Fs := if (bi (X4_isCopy σ.1 p1)) = 0 then (((-1 : Int32), σ)) else if p2 = 0 then (bnd (tput 12 (σ.1.1 0) p1 (2 : Int32) (0 : Int32)) fun q3 => bnd (stT σ.1 0 q3, σ.2) fun σ5 => bnd (X4_settle σ5 ((tget 12 (σ.1.1 0) p1 (2 : Int32)))) fun q7 => (q7.1, q7.2)) else bnd (tput 12 (σ.1.1 0) p1 (2 : Int32) (1 : Int32)) fun q9 => bnd (stT σ.1 0 q9, σ.2) fun σ11 => bnd (X4_settle σ11 ((tget 12 (σ.1.1 0) p1 (2 : Int32)))) fun q13 => (q13.1, q13.2)
def rm_X4_setFloating : Room := { frames := 6, cells := 0, slots := 0, locals := 165 }
theorem v_X4_setFloating : WdV RX4 yX4_setFloating cX4_setFloating 4 (some .int) 2 := ⟨mI_X4_setFloating, mS_X4_setFloating, mZ_RX4, mC_X4_setFloating, by decide +kernel⟩
set_option maxHeartbeats 8000000 in
set_option maxRecDepth 100000 in
theorem c_X4_setFloating (l : Launch) (D : va_G) (cI cS : ClassId) (ad : Nat → Nat) (σ : Fs) (ok : OKF σ) (p1 p2 : Int32) (F : Int32 × Fs) (hF : X4_setFloating σ p1 p2 = F) : MI l yX4_setFloating cX4_setFloating 4 (some .int) rm_X4_setFloating D cI cS [.ref (ad 0), .int p1, .int p2] (fW ad cI cS σ) (fW ad cI cS) (fun r u => r = F.1 ∧ u = F.2 ∧ OKF u) := by
  refine MI.mk RX4 rfl .int rfl (by decide) (Nat.le_of_ble_eq_true rfl) (fun _ _ _ => rfl) ?_
  intro p e s m args below meth c A Q ls Fc hin hA Z kret hl
  obtain ⟨hx, hb, hml, hown, hts, hKN⟩ := id Fc
  replace hl : lv_has ls 4 [(0, .ref (ad 0)), (1, .int p1), (2, .int p2)] := hl
  unfold X4_setFloating at hF
  refine lv_aload_n hx hb dX4_setFloating_0 rfl (lv_at hl 0 rfl) ?_
  refine lv_iload_n hx hb dX4_setFloating_1 rfl (lv_at hl 1 rfl) ?_
  refine kr_i (As := [.int p1]) Fc hA Z Lens.fc (c_X4_isCopy l D cI cS ad σ.2.1 σ.1 ok.1 p1 (X4_isCopy σ.1 p1) rfl) mL_RX4_85 v_X4_isCopy ⟨rfl, rfl⟩ ⟨Nat.le_of_ble_eq_true rfl, Nat.le_of_ble_eq_true rfl⟩ ⟨Nat.zero_le _, Nat.zero_le _⟩ 0 4 rfl rfl rfl hl (Nat.le_of_ble_eq_true rfl) dX4_setFloating_2 rfl (fun H locs Z => ?_)
  refine lv_if_ne (tgt := 10) hx hb dX4_setFloating_5 (by decide) (fun c1 => ?_) (fun c1 => ?_)
  · rw [if_neg c1] at hF
    refine lv_aload_n hx hb dX4_setFloating_10 rfl (lv_at hl 0 rfl) ?_
    refine kget Fc Z inX4 0 rfl rfl 0 (by decide) mF_RX4_10 rfl rfl dX4_setFloating_11 ?_
    refine kgetN Fc Z inX2 1 rfl rfl 0 (by decide) nw_RX4_47 rfl rfl dX4_setFloating_14 ?_
    refine lv_iload_n hx hb dX4_setFloating_17 rfl (lv_at hl 1 rfl) ?_
    refine lv_iconst (v := (2 : Int32)) hx hb dX4_setFloating_18 (by decide) ?_
    refine kr_i (As := [.int p1, .int (2 : Int32)]) Fc hA Z (Lens.c0 (hs := σ.2.1) (τ := σ.1) (R := rW ad cI cS σ.2)) (c_X3_get l D cI cS (ad 2) (ad 3) 20 12 (20 * 12) sh0 (σ.1.1 0) ok.1.1 p1 (2 : Int32) (tget 12 (σ.1.1 0) p1 (2 : Int32)) rfl) mL_RX4_88 v_X3_get ⟨rfl, rfl⟩ ⟨Nat.le_of_ble_eq_true rfl, Nat.le_of_ble_eq_true rfl⟩ ⟨Nat.zero_le _, Nat.zero_le _⟩ 2 3 rfl rfl rfl hl (Nat.le_of_ble_eq_true rfl) dX4_setFloating_19 rfl (fun H locs Z => ?_)
    refine lv_istore_n (lv' := [(3, .int (tget 12 (σ.1.1 0) p1 (2 : Int32))), (0, .ref (ad 0)), (1, .int p1), (2, .int p2)]) hx hb dX4_setFloating_22 rfl hl (by decide) rfl (fun ls hl => ?_)
    refine lv_aload_n hx hb dX4_setFloating_23 rfl (lv_at hl 1 rfl) ?_
    refine kget Fc Z inX4 0 rfl rfl 0 (by decide) mF_RX4_10 rfl rfl dX4_setFloating_24 ?_
    refine kgetN Fc Z inX2 1 rfl rfl 0 (by decide) nw_RX4_47 rfl rfl dX4_setFloating_27 ?_
    refine lv_iload_n hx hb dX4_setFloating_30 rfl (lv_at hl 2 rfl) ?_
    refine lv_iconst (v := (2 : Int32)) hx hb dX4_setFloating_31 (by decide) ?_
    refine lv_iload_n hx hb dX4_setFloating_32 rfl (lv_at hl 3 rfl) ?_
    refine lv_if_eq (tgt := 40) hx hb dX4_setFloating_33 (by decide) (fun c2 => ?_) (fun c2 => ?_)
    · rw [if_pos c2] at hF
      refine lv_iconst (v := (0 : Int32)) hx hb dX4_setFloating_40 (by decide) ?_
      obtain ⟨q3, e4, hF⟩ := bnd_el hF
      refine kv_i (As := [.int p1, .int (2 : Int32), .int (0 : Int32)]) (ok := tbOK 20) Fc hA Z (Lens.c0 (hs := σ.2.1) (τ := σ.1) (R := rW ad cI cS σ.2)) (c_X3_put l D cI cS (ad 2) (ad 3) 20 12 (20 * 12) sh0 (σ.1.1 0) ok.1.1 p1 (2 : Int32) (0 : Int32) q3 e4.symm) mL_RX4_57 v_X3_put ⟨rfl, rfl⟩ ⟨Nat.le_of_ble_eq_true rfl, Nat.le_of_ble_eq_true rfl⟩ ⟨Nat.zero_le _, Nat.zero_le _⟩ 2 3 rfl rfl rfl hl (Nat.le_of_ble_eq_true rfl) dX4_setFloating_41 rfl (fun H locs ok1 Z => ?_)
      obtain ⟨σ5, e6, hF⟩ := bnd_el hF
      have Z : Ix D A s (fW ad cI cS σ5) H locs := by rw [e6]; exact Z
      have ok : OKF σ5 := by rw [e6]; exact okf_N ok (ok_c0 ok.1 ok1)
      refine lv_aload_n hx hb dX4_setFloating_44 rfl (lv_at hl 1 rfl) ?_
      refine lv_iload_n hx hb dX4_setFloating_45 rfl (lv_at hl 0 rfl) ?_
      obtain ⟨q7, e8, hF⟩ := bnd_el hF
      refine km_i (As := [.int (tget 12 (σ.1.1 0) p1 (2 : Int32))]) (ok := OKF) Fc hA Z Lens.all (c_X4_settle l D cI cS ad σ5 ok ((tget 12 (σ.1.1 0) p1 (2 : Int32))) q7 e8.symm) mL_RX4_65 v_X4_settle ⟨rfl, rfl⟩ ⟨Nat.le_of_ble_eq_true rfl, Nat.le_of_ble_eq_true rfl⟩ ⟨Nat.zero_le _, Nat.zero_le _⟩ 0 4 rfl rfl rfl hl (Nat.le_of_ble_eq_true rfl) dX4_setFloating_46 rfl (fun H locs ok1 Z => ?_)
      have ok := ok1
      exact kret q7.1 q7.2 _ _ _ _ ⟨(pfst hF), psnd hF, ok⟩ Z dX4_setFloating_49
    · rw [if_neg c2] at hF
      refine lv_iconst (v := (1 : Int32)) hx hb dX4_setFloating_36 (by decide) ?_
      refine lv_goto (tgt := 41) hx hb dX4_setFloating_37 (by decide) ?_
      obtain ⟨q9, e10, hF⟩ := bnd_el hF
      refine kv_i (As := [.int p1, .int (2 : Int32), .int (1 : Int32)]) (ok := tbOK 20) Fc hA Z (Lens.c0 (hs := σ.2.1) (τ := σ.1) (R := rW ad cI cS σ.2)) (c_X3_put l D cI cS (ad 2) (ad 3) 20 12 (20 * 12) sh0 (σ.1.1 0) ok.1.1 p1 (2 : Int32) (1 : Int32) q9 e10.symm) mL_RX4_57 v_X3_put ⟨rfl, rfl⟩ ⟨Nat.le_of_ble_eq_true rfl, Nat.le_of_ble_eq_true rfl⟩ ⟨Nat.zero_le _, Nat.zero_le _⟩ 2 3 rfl rfl rfl hl (Nat.le_of_ble_eq_true rfl) dX4_setFloating_41 rfl (fun H locs ok1 Z => ?_)
      obtain ⟨σ11, e12, hF⟩ := bnd_el hF
      have Z : Ix D A s (fW ad cI cS σ11) H locs := by rw [e12]; exact Z
      have ok : OKF σ11 := by rw [e12]; exact okf_N ok (ok_c0 ok.1 ok1)
      refine lv_aload_n hx hb dX4_setFloating_44 rfl (lv_at hl 1 rfl) ?_
      refine lv_iload_n hx hb dX4_setFloating_45 rfl (lv_at hl 0 rfl) ?_
      obtain ⟨q13, e14, hF⟩ := bnd_el hF
      refine km_i (As := [.int (tget 12 (σ.1.1 0) p1 (2 : Int32))]) (ok := OKF) Fc hA Z Lens.all (c_X4_settle l D cI cS ad σ11 ok ((tget 12 (σ.1.1 0) p1 (2 : Int32))) q13 e14.symm) mL_RX4_65 v_X4_settle ⟨rfl, rfl⟩ ⟨Nat.le_of_ble_eq_true rfl, Nat.le_of_ble_eq_true rfl⟩ ⟨Nat.zero_le _, Nat.zero_le _⟩ 0 4 rfl rfl rfl hl (Nat.le_of_ble_eq_true rfl) dX4_setFloating_46 rfl (fun H locs ok1 Z => ?_)
      have ok := ok1
      exact kret q13.1 q13.2 _ _ _ _ ⟨(pfst hF), psnd hF, ok⟩ Z dX4_setFloating_49
  · rw [if_pos c1] at hF
    refine lv_iconst (v := (-1 : Int32)) hx hb dX4_setFloating_8 (by decide) ?_
    exact kret (-1 : Int32) σ _ _ _ _ ⟨(pfst hF), psnd hF, ok⟩ Z dX4_setFloating_9
def X4_pass (σ : Fs) (p1 : Int32) : Option (Int32 × Fs) := (X4_letPass σ.1 p1).bind fun q1 => bnd (q1.2, σ.2) fun σ3 => bnd (X4_settle σ3 q1.1) fun q5 => some (q5.1, q5.2)
def rm_X4_pass : Room := { frames := 6, cells := 0, slots := 0, locals := 165 }
theorem v_X4_pass : WdV RX4 yX4_pass cX4_pass 2 (some .int) 1 := ⟨mI_X4_pass, mS_X4_pass, mZ_RX4, mC_X4_pass, by decide +kernel⟩
set_option maxHeartbeats 8000000 in
set_option maxRecDepth 100000 in
theorem c_X4_pass (l : Launch) (D : va_G) (cI cS : ClassId) (ad : Nat → Nat) (σ : Fs) (ok : OKF σ) (p1 : Int32) (F : Int32 × Fs) (hF : X4_pass σ p1 = some F) : MI l yX4_pass cX4_pass 2 (some .int) rm_X4_pass D cI cS [.ref (ad 0), .int p1] (fW ad cI cS σ) (fW ad cI cS) (fun r u => r = F.1 ∧ u = F.2 ∧ OKF u) := by
  refine MI.mk RX4 rfl .int rfl (by decide) (Nat.le_of_ble_eq_true rfl) (fun _ _ _ => rfl) ?_
  intro p e s m args below meth c A Q ls Fc hin hA Z kret hl
  obtain ⟨hx, hb, hml, hown, hts, hKN⟩ := id Fc
  replace hl : lv_has ls 2 [(0, .ref (ad 0)), (1, .int p1)] := hl
  unfold X4_pass at hF
  refine lv_aload_n hx hb dX4_pass_0 rfl (lv_at hl 0 rfl) ?_
  refine lv_aload_n hx hb dX4_pass_1 rfl (lv_at hl 0 rfl) ?_
  refine lv_iload_n hx hb dX4_pass_2 rfl (lv_at hl 1 rfl) ?_
  obtain ⟨q1, h2, hF⟩ := obind hF
  refine km_i (As := [.int p1]) (ok := OK) Fc hA Z Lens.fc (c_X4_letPass l D cI cS ad σ.2.1 σ.1 ok.1 p1 q1 h2) mL_RX4_102 v_X4_letPass ⟨rfl, rfl⟩ ⟨Nat.le_of_ble_eq_true rfl, Nat.le_of_ble_eq_true rfl⟩ ⟨Nat.zero_le _, Nat.zero_le _⟩ 0 4 rfl rfl rfl hl (Nat.le_of_ble_eq_true rfl) dX4_pass_3 rfl (fun H locs ok1 Z => ?_)
  obtain ⟨σ3, e4, hF⟩ := bnd_el hF
  have Z : Ix D A s (fW ad cI cS σ3) H locs := by rw [e4]; exact Z
  have ok : OKF σ3 := by rw [e4]; exact okf_N ok ok1
  obtain ⟨q5, e6, hF⟩ := bnd_el hF
  refine km_i (As := [.int q1.1]) (ok := OKF) Fc hA Z Lens.all (c_X4_settle l D cI cS ad σ3 ok q1.1 q5 e6.symm) mL_RX4_65 v_X4_settle ⟨rfl, rfl⟩ ⟨Nat.le_of_ble_eq_true rfl, Nat.le_of_ble_eq_true rfl⟩ ⟨Nat.zero_le _, Nat.zero_le _⟩ 0 4 rfl rfl rfl hl (Nat.le_of_ble_eq_true rfl) dX4_pass_6 rfl (fun H locs ok1 Z => ?_)
  have ok := ok1
  exact kret q5.1 q5.2 _ _ _ _ ⟨(pfst (Option.some.inj hF)), psnd (Option.some.inj hF), ok⟩ Z dX4_pass_9
def X4_lend (σ : Fs) (p1 p2 : Int32) : Option (Int32 × Fs) := (X4_lendOut σ.1 p1 p2).bind fun q1 => bnd (q1.2, σ.2) fun σ3 => bnd (X4_settle σ3 q1.1) fun q5 => some (q5.1, q5.2)
def rm_X4_lend : Room := { frames := 6, cells := 0, slots := 0, locals := 165 }
theorem v_X4_lend : WdV RX4 yX4_lend cX4_lend 3 (some .int) 2 := ⟨mI_X4_lend, mS_X4_lend, mZ_RX4, mC_X4_lend, by decide +kernel⟩
set_option maxHeartbeats 8000000 in
set_option maxRecDepth 100000 in
theorem c_X4_lend (l : Launch) (D : va_G) (cI cS : ClassId) (ad : Nat → Nat) (σ : Fs) (ok : OKF σ) (p1 p2 : Int32) (F : Int32 × Fs) (hF : X4_lend σ p1 p2 = some F) : MI l yX4_lend cX4_lend 3 (some .int) rm_X4_lend D cI cS [.ref (ad 0), .int p1, .int p2] (fW ad cI cS σ) (fW ad cI cS) (fun r u => r = F.1 ∧ u = F.2 ∧ OKF u) := by
  refine MI.mk RX4 rfl .int rfl (by decide) (Nat.le_of_ble_eq_true rfl) (fun _ _ _ => rfl) ?_
  intro p e s m args below meth c A Q ls Fc hin hA Z kret hl
  obtain ⟨hx, hb, hml, hown, hts, hKN⟩ := id Fc
  replace hl : lv_has ls 3 [(0, .ref (ad 0)), (1, .int p1), (2, .int p2)] := hl
  unfold X4_lend at hF
  refine lv_aload_n hx hb dX4_lend_0 rfl (lv_at hl 0 rfl) ?_
  refine lv_aload_n hx hb dX4_lend_1 rfl (lv_at hl 0 rfl) ?_
  refine lv_iload_n hx hb dX4_lend_2 rfl (lv_at hl 1 rfl) ?_
  refine lv_iload_n hx hb dX4_lend_3 rfl (lv_at hl 2 rfl) ?_
  obtain ⟨q1, h2, hF⟩ := obind hF
  refine km_i (As := [.int p1, .int p2]) (ok := OK) Fc hA Z Lens.fc (c_X4_lendOut l D cI cS ad σ.2.1 σ.1 ok.1 p1 p2 q1 h2) mL_RX4_131 v_X4_lendOut ⟨rfl, rfl⟩ ⟨Nat.le_of_ble_eq_true rfl, Nat.le_of_ble_eq_true rfl⟩ ⟨Nat.zero_le _, Nat.zero_le _⟩ 0 4 rfl rfl rfl hl (Nat.le_of_ble_eq_true rfl) dX4_lend_4 rfl (fun H locs ok1 Z => ?_)
  obtain ⟨σ3, e4, hF⟩ := bnd_el hF
  have Z : Ix D A s (fW ad cI cS σ3) H locs := by rw [e4]; exact Z
  have ok : OKF σ3 := by rw [e4]; exact okf_N ok ok1
  obtain ⟨q5, e6, hF⟩ := bnd_el hF
  refine km_i (As := [.int q1.1]) (ok := OKF) Fc hA Z Lens.all (c_X4_settle l D cI cS ad σ3 ok q1.1 q5 e6.symm) mL_RX4_65 v_X4_settle ⟨rfl, rfl⟩ ⟨Nat.le_of_ble_eq_true rfl, Nat.le_of_ble_eq_true rfl⟩ ⟨Nat.zero_le _, Nat.zero_le _⟩ 0 4 rfl rfl rfl hl (Nat.le_of_ble_eq_true rfl) dX4_lend_7 rfl (fun H locs ok1 Z => ?_)
  have ok := ok1
  exact kret q5.1 q5.2 _ _ _ _ ⟨(pfst (Option.some.inj hF)), psnd (Option.some.inj hF), ok⟩ Z dX4_lend_10
def X4_bringBack (σ : Fs) (p1 p2 : Int32) : Option (Int32 × Fs) := (X4_takeBack σ.1 p1 p2).bind fun q1 => bnd (q1.2, σ.2) fun σ3 => bnd (X4_settle σ3 q1.1) fun q5 => some (q5.1, q5.2)
def rm_X4_bringBack : Room := { frames := 6, cells := 0, slots := 0, locals := 165 }
theorem v_X4_bringBack : WdV RX4 yX4_bringBack cX4_bringBack 3 (some .int) 2 := ⟨mI_X4_bringBack, mS_X4_bringBack, mZ_RX4, mC_X4_bringBack, by decide +kernel⟩
set_option maxHeartbeats 8000000 in
set_option maxRecDepth 100000 in
theorem c_X4_bringBack (l : Launch) (D : va_G) (cI cS : ClassId) (ad : Nat → Nat) (σ : Fs) (ok : OKF σ) (p1 p2 : Int32) (F : Int32 × Fs) (hF : X4_bringBack σ p1 p2 = some F) : MI l yX4_bringBack cX4_bringBack 3 (some .int) rm_X4_bringBack D cI cS [.ref (ad 0), .int p1, .int p2] (fW ad cI cS σ) (fW ad cI cS) (fun r u => r = F.1 ∧ u = F.2 ∧ OKF u) := by
  refine MI.mk RX4 rfl .int rfl (by decide) (Nat.le_of_ble_eq_true rfl) (fun _ _ _ => rfl) ?_
  intro p e s m args below meth c A Q ls Fc hin hA Z kret hl
  obtain ⟨hx, hb, hml, hown, hts, hKN⟩ := id Fc
  replace hl : lv_has ls 3 [(0, .ref (ad 0)), (1, .int p1), (2, .int p2)] := hl
  unfold X4_bringBack at hF
  refine lv_aload_n hx hb dX4_bringBack_0 rfl (lv_at hl 0 rfl) ?_
  refine lv_aload_n hx hb dX4_bringBack_1 rfl (lv_at hl 0 rfl) ?_
  refine lv_iload_n hx hb dX4_bringBack_2 rfl (lv_at hl 1 rfl) ?_
  refine lv_iload_n hx hb dX4_bringBack_3 rfl (lv_at hl 2 rfl) ?_
  obtain ⟨q1, h2, hF⟩ := obind hF
  refine km_i (As := [.int p1, .int p2]) (ok := OK) Fc hA Z Lens.fc (c_X4_takeBack l D cI cS ad σ.2.1 σ.1 ok.1 p1 p2 q1 h2) mL_RX4_155 v_X4_takeBack ⟨rfl, rfl⟩ ⟨Nat.le_of_ble_eq_true rfl, Nat.le_of_ble_eq_true rfl⟩ ⟨Nat.zero_le _, Nat.zero_le _⟩ 0 4 rfl rfl rfl hl (Nat.le_of_ble_eq_true rfl) dX4_bringBack_4 rfl (fun H locs ok1 Z => ?_)
  obtain ⟨σ3, e4, hF⟩ := bnd_el hF
  have Z : Ix D A s (fW ad cI cS σ3) H locs := by rw [e4]; exact Z
  have ok : OKF σ3 := by rw [e4]; exact okf_N ok ok1
  obtain ⟨q5, e6, hF⟩ := bnd_el hF
  refine km_i (As := [.int q1.1]) (ok := OKF) Fc hA Z Lens.all (c_X4_settle l D cI cS ad σ3 ok q1.1 q5 e6.symm) mL_RX4_65 v_X4_settle ⟨rfl, rfl⟩ ⟨Nat.le_of_ble_eq_true rfl, Nat.le_of_ble_eq_true rfl⟩ ⟨Nat.zero_le _, Nat.zero_le _⟩ 0 4 rfl rfl rfl hl (Nat.le_of_ble_eq_true rfl) dX4_bringBack_7 rfl (fun H locs ok1 Z => ?_)
  have ok := ok1
  exact kret q5.1 q5.2 _ _ _ _ ⟨(pfst (Option.some.inj hF)), psnd (Option.some.inj hF), ok⟩ Z dX4_bringBack_10
def X4_renew (σ : Fs) (p1 : Int32) : Option (Int32 × Fs) := (X4_renewLoan σ.1 p1).bind fun q1 => bnd (q1.2, σ.2) fun σ3 => bnd (X4_settle σ3 q1.1) fun q5 => some (q5.1, q5.2)
def rm_X4_renew : Room := { frames := 6, cells := 0, slots := 0, locals := 165 }
theorem v_X4_renew : WdV RX4 yX4_renew cX4_renew 2 (some .int) 1 := ⟨mI_X4_renew, mS_X4_renew, mZ_RX4, mC_X4_renew, by decide +kernel⟩
set_option maxHeartbeats 8000000 in
set_option maxRecDepth 100000 in
theorem c_X4_renew (l : Launch) (D : va_G) (cI cS : ClassId) (ad : Nat → Nat) (σ : Fs) (ok : OKF σ) (p1 : Int32) (F : Int32 × Fs) (hF : X4_renew σ p1 = some F) : MI l yX4_renew cX4_renew 2 (some .int) rm_X4_renew D cI cS [.ref (ad 0), .int p1] (fW ad cI cS σ) (fW ad cI cS) (fun r u => r = F.1 ∧ u = F.2 ∧ OKF u) := by
  refine MI.mk RX4 rfl .int rfl (by decide) (Nat.le_of_ble_eq_true rfl) (fun _ _ _ => rfl) ?_
  intro p e s m args below meth c A Q ls Fc hin hA Z kret hl
  obtain ⟨hx, hb, hml, hown, hts, hKN⟩ := id Fc
  replace hl : lv_has ls 2 [(0, .ref (ad 0)), (1, .int p1)] := hl
  unfold X4_renew at hF
  refine lv_aload_n hx hb dX4_renew_0 rfl (lv_at hl 0 rfl) ?_
  refine lv_aload_n hx hb dX4_renew_1 rfl (lv_at hl 0 rfl) ?_
  refine lv_iload_n hx hb dX4_renew_2 rfl (lv_at hl 1 rfl) ?_
  obtain ⟨q1, h2, hF⟩ := obind hF
  refine km_i (As := [.int p1]) (ok := OK) Fc hA Z Lens.fc (c_X4_renewLoan l D cI cS ad σ.2.1 σ.1 ok.1 p1 q1 h2) mL_RX4_167 v_X4_renewLoan ⟨rfl, rfl⟩ ⟨Nat.le_of_ble_eq_true rfl, Nat.le_of_ble_eq_true rfl⟩ ⟨Nat.zero_le _, Nat.zero_le _⟩ 0 4 rfl rfl rfl hl (Nat.le_of_ble_eq_true rfl) dX4_renew_3 rfl (fun H locs ok1 Z => ?_)
  obtain ⟨σ3, e4, hF⟩ := bnd_el hF
  have Z : Ix D A s (fW ad cI cS σ3) H locs := by rw [e4]; exact Z
  have ok : OKF σ3 := by rw [e4]; exact okf_N ok ok1
  obtain ⟨q5, e6, hF⟩ := bnd_el hF
  refine km_i (As := [.int q1.1]) (ok := OKF) Fc hA Z Lens.all (c_X4_settle l D cI cS ad σ3 ok q1.1 q5 e6.symm) mL_RX4_65 v_X4_settle ⟨rfl, rfl⟩ ⟨Nat.le_of_ble_eq_true rfl, Nat.le_of_ble_eq_true rfl⟩ ⟨Nat.zero_le _, Nat.zero_le _⟩ 0 4 rfl rfl rfl hl (Nat.le_of_ble_eq_true rfl) dX4_renew_6 rfl (fun H locs ok1 Z => ?_)
  have ok := ok1
  exact kret q5.1 q5.2 _ _ _ _ ⟨(pfst (Option.some.inj hF)), psnd (Option.some.inj hF), ok⟩ Z dX4_renew_9
def X4_claim (σ : Fs) (p1 : Int32) : Int32 × Fs := if (X4_reasonAgainstClaiming σ.1 p1) = 0 then (bnd (tput 12 (σ.1.1 0) p1 (10 : Int32) (X4_fineOf σ.1 p1)) fun q2 => bnd (stT σ.1 0 q2, σ.2) fun σ4 => bnd (tput 4 (σ4.1.1 1) ((tget 12 (σ.1.1 0) p1 (4 : Int32))) (1 : Int32) (((tget 4 (σ4.1.1 1) ((tget 12 (σ.1.1 0) p1 (4 : Int32))) (1 : Int32)) + (1 : Int32)))) fun q6 => bnd (stT σ4.1 1 q6, σ4.2) fun σ8 => bnd (X4_putCopy σ8.1 p1 (4 : Int32) ((tget 12 (σ.1.1 0) p1 (4 : Int32))) σ8.1.2) fun q10 => bnd (q10, σ8.2) fun σ12 => bnd (X4_settle σ12 (X4_fineOf σ.1 p1)) fun q14 => (q14.1, q14.2)) else ((X4_refusal (X4_reasonAgainstClaiming σ.1 p1)), σ)
def rm_X4_claim : Room := { frames := 6, cells := 0, slots := 0, locals := 165 }
theorem v_X4_claim : WdV RX4 yX4_claim cX4_claim 5 (some .int) 1 := ⟨mI_X4_claim, mS_X4_claim, mZ_RX4, mC_X4_claim, by decide +kernel⟩
set_option maxHeartbeats 8000000 in
set_option maxRecDepth 100000 in
theorem c_X4_claim (l : Launch) (D : va_G) (cI cS : ClassId) (ad : Nat → Nat) (σ : Fs) (ok : OKF σ) (p1 : Int32) (F : Int32 × Fs) (hF : X4_claim σ p1 = F) : MI l yX4_claim cX4_claim 5 (some .int) rm_X4_claim D cI cS [.ref (ad 0), .int p1] (fW ad cI cS σ) (fW ad cI cS) (fun r u => r = F.1 ∧ u = F.2 ∧ OKF u) := by
  refine MI.mk RX4 rfl .int rfl (by decide) (Nat.le_of_ble_eq_true rfl) (fun _ _ _ => rfl) ?_
  intro p e s m args below meth c A Q ls Fc hin hA Z kret hl
  obtain ⟨hx, hb, hml, hown, hts, hKN⟩ := id Fc
  replace hl : lv_has ls 5 [(0, .ref (ad 0)), (1, .int p1)] := hl
  unfold X4_claim at hF
  refine lv_aload_n hx hb dX4_claim_0 rfl (lv_at hl 0 rfl) ?_
  refine lv_iload_n hx hb dX4_claim_1 rfl (lv_at hl 1 rfl) ?_
  refine kr_i (As := [.int p1]) Fc hA Z Lens.fc (c_X4_reasonAgainstClaiming l D cI cS ad σ.2.1 σ.1 ok.1 p1 (X4_reasonAgainstClaiming σ.1 p1) rfl) mL_RX4_176 v_X4_reasonAgainstClaiming ⟨rfl, rfl⟩ ⟨Nat.le_of_ble_eq_true rfl, Nat.le_of_ble_eq_true rfl⟩ ⟨Nat.zero_le _, Nat.zero_le _⟩ 0 4 rfl rfl rfl hl (Nat.le_of_ble_eq_true rfl) dX4_claim_2 rfl (fun H locs Z => ?_)
  refine lv_istore_n (lv' := [(2, .int (X4_reasonAgainstClaiming σ.1 p1)), (0, .ref (ad 0)), (1, .int p1)]) hx hb dX4_claim_5 rfl hl (by decide) rfl (fun ls hl => ?_)
  refine lv_iload_n hx hb dX4_claim_6 rfl (lv_at hl 0 rfl) ?_
  refine lv_if_eq (tgt := 15) hx hb dX4_claim_7 (by decide) (fun c1 => ?_) (fun c1 => ?_)
  · rw [if_pos c1] at hF
    refine lv_aload_n hx hb dX4_claim_15 rfl (lv_at hl 1 rfl) ?_
    refine kget Fc Z inX4 0 rfl rfl 0 (by decide) mF_RX4_10 rfl rfl dX4_claim_16 ?_
    refine kgetN Fc Z inX2 1 rfl rfl 0 (by decide) nw_RX4_47 rfl rfl dX4_claim_19 ?_
    refine lv_iload_n hx hb dX4_claim_22 rfl (lv_at hl 2 rfl) ?_
    refine lv_iconst (v := (4 : Int32)) hx hb dX4_claim_23 (by decide) ?_
    refine kr_i (As := [.int p1, .int (4 : Int32)]) Fc hA Z (Lens.c0 (hs := σ.2.1) (τ := σ.1) (R := rW ad cI cS σ.2)) (c_X3_get l D cI cS (ad 2) (ad 3) 20 12 (20 * 12) sh0 (σ.1.1 0) ok.1.1 p1 (4 : Int32) (tget 12 (σ.1.1 0) p1 (4 : Int32)) rfl) mL_RX4_88 v_X3_get ⟨rfl, rfl⟩ ⟨Nat.le_of_ble_eq_true rfl, Nat.le_of_ble_eq_true rfl⟩ ⟨Nat.zero_le _, Nat.zero_le _⟩ 2 3 rfl rfl rfl hl (Nat.le_of_ble_eq_true rfl) dX4_claim_24 rfl (fun H locs Z => ?_)
    refine lv_istore_n (lv' := [(3, .int (tget 12 (σ.1.1 0) p1 (4 : Int32))), (2, .int (X4_reasonAgainstClaiming σ.1 p1)), (0, .ref (ad 0)), (1, .int p1)]) hx hb dX4_claim_27 rfl hl (by decide) rfl (fun ls hl => ?_)
    refine lv_aload_n hx hb dX4_claim_28 rfl (lv_at hl 2 rfl) ?_
    refine lv_iload_n hx hb dX4_claim_29 rfl (lv_at hl 3 rfl) ?_
    refine kr_i (As := [.int p1]) Fc hA Z Lens.fc (c_X4_fineOf l D cI cS ad σ.2.1 σ.1 ok.1 p1 (X4_fineOf σ.1 p1) rfl) mL_RX4_161 v_X4_fineOf ⟨rfl, rfl⟩ ⟨Nat.le_of_ble_eq_true rfl, Nat.le_of_ble_eq_true rfl⟩ ⟨Nat.zero_le _, Nat.zero_le _⟩ 0 4 rfl rfl rfl hl (Nat.le_of_ble_eq_true rfl) dX4_claim_30 rfl (fun H locs Z => ?_)
    refine lv_istore (lv' := [(4, .int (X4_fineOf σ.1 p1)), (3, .int (tget 12 (σ.1.1 0) p1 (4 : Int32))), (2, .int (X4_reasonAgainstClaiming σ.1 p1)), (0, .ref (ad 0)), (1, .int p1)]) hx hb dX4_claim_33 hl (by decide) rfl (fun ls hl => ?_)
    refine lv_aload_n hx hb dX4_claim_35 rfl (lv_at hl 3 rfl) ?_
    refine kget Fc Z inX4 0 rfl rfl 0 (by decide) mF_RX4_10 rfl rfl dX4_claim_36 ?_
    refine kgetN Fc Z inX2 1 rfl rfl 0 (by decide) nw_RX4_47 rfl rfl dX4_claim_39 ?_
    refine lv_iload_n hx hb dX4_claim_42 rfl (lv_at hl 4 rfl) ?_
    refine lv_bipush (v := (10 : Int32)) hx hb dX4_claim_43 (by decide) ?_
    refine lv_iload hx hb dX4_claim_45 (lv_at hl 0 rfl) ?_
    obtain ⟨q2, e3, hF⟩ := bnd_el hF
    refine kv_i (As := [.int p1, .int (10 : Int32), .int (X4_fineOf σ.1 p1)]) (ok := tbOK 20) Fc hA Z (Lens.c0 (hs := σ.2.1) (τ := σ.1) (R := rW ad cI cS σ.2)) (c_X3_put l D cI cS (ad 2) (ad 3) 20 12 (20 * 12) sh0 (σ.1.1 0) ok.1.1 p1 (10 : Int32) (X4_fineOf σ.1 p1) q2 e3.symm) mL_RX4_57 v_X3_put ⟨rfl, rfl⟩ ⟨Nat.le_of_ble_eq_true rfl, Nat.le_of_ble_eq_true rfl⟩ ⟨Nat.zero_le _, Nat.zero_le _⟩ 2 3 rfl rfl rfl hl (Nat.le_of_ble_eq_true rfl) dX4_claim_47 rfl (fun H locs ok1 Z => ?_)
    obtain ⟨σ4, e5, hF⟩ := bnd_el hF
    have Z : Ix D A s (fW ad cI cS σ4) H locs := by rw [e5]; exact Z
    have ok : OKF σ4 := by rw [e5]; exact okf_N ok (ok_c0 ok.1 ok1)
    refine lv_aload_n hx hb dX4_claim_50 rfl (lv_at hl 3 rfl) ?_
    refine kget Fc Z inX4 0 rfl rfl 0 (by decide) mF_RX4_10 rfl rfl dX4_claim_51 ?_
    refine kgetN Fc Z inX2 1 rfl rfl 1 (by decide) nw_RX4_69 rfl rfl dX4_claim_54 ?_
    refine lv_iload_n hx hb dX4_claim_57 rfl (lv_at hl 1 rfl) ?_
    refine lv_iconst (v := (1 : Int32)) hx hb dX4_claim_58 (by decide) ?_
    refine lv_aload_n hx hb dX4_claim_59 rfl (lv_at hl 3 rfl) ?_
    refine kget Fc Z inX4 0 rfl rfl 0 (by decide) mF_RX4_10 rfl rfl dX4_claim_60 ?_
    refine kgetN Fc Z inX2 1 rfl rfl 1 (by decide) nw_RX4_69 rfl rfl dX4_claim_63 ?_
    refine lv_iload_n hx hb dX4_claim_66 rfl (lv_at hl 1 rfl) ?_
    refine lv_iconst (v := (1 : Int32)) hx hb dX4_claim_67 (by decide) ?_
    refine kr_i (As := [.int (tget 12 (σ.1.1 0) p1 (4 : Int32)), .int (1 : Int32)]) Fc hA Z (Lens.c1 (hs := σ4.2.1) (τ := σ4.1) (R := rW ad cI cS σ4.2)) (c_X3_get l D cI cS (ad 4) (ad 5) 8 4 (8 * 4) sh1 (σ4.1.1 1) ok.1.2.1 ((tget 12 (σ.1.1 0) p1 (4 : Int32))) (1 : Int32) (tget 4 (σ4.1.1 1) ((tget 12 (σ.1.1 0) p1 (4 : Int32))) (1 : Int32)) rfl) mL_RX4_88 v_X3_get ⟨rfl, rfl⟩ ⟨Nat.le_of_ble_eq_true rfl, Nat.le_of_ble_eq_true rfl⟩ ⟨Nat.zero_le _, Nat.zero_le _⟩ 4 3 rfl rfl rfl hl (Nat.le_of_ble_eq_true rfl) dX4_claim_68 rfl (fun H locs Z => ?_)
    refine lv_iconst (v := (1 : Int32)) hx hb dX4_claim_71 (by decide) ?_
    refine lv_iadd hx hb dX4_claim_72 ?_
    obtain ⟨q6, e7, hF⟩ := bnd_el hF
    refine kv_i (As := [.int (tget 12 (σ.1.1 0) p1 (4 : Int32)), .int (1 : Int32), .int ((tget 4 (σ4.1.1 1) ((tget 12 (σ.1.1 0) p1 (4 : Int32))) (1 : Int32)) + (1 : Int32))]) (ok := tbOK 8) Fc hA Z (Lens.c1 (hs := σ4.2.1) (τ := σ4.1) (R := rW ad cI cS σ4.2)) (c_X3_put l D cI cS (ad 4) (ad 5) 8 4 (8 * 4) sh1 (σ4.1.1 1) ok.1.2.1 ((tget 12 (σ.1.1 0) p1 (4 : Int32))) (1 : Int32) (((tget 4 (σ4.1.1 1) ((tget 12 (σ.1.1 0) p1 (4 : Int32))) (1 : Int32)) + (1 : Int32))) q6 e7.symm) mL_RX4_57 v_X3_put ⟨rfl, rfl⟩ ⟨Nat.le_of_ble_eq_true rfl, Nat.le_of_ble_eq_true rfl⟩ ⟨Nat.zero_le _, Nat.zero_le _⟩ 4 3 rfl rfl rfl hl (Nat.le_of_ble_eq_true rfl) dX4_claim_73 rfl (fun H locs ok1 Z => ?_)
    obtain ⟨σ8, e9, hF⟩ := bnd_el hF
    have Z : Ix D A s (fW ad cI cS σ8) H locs := by rw [e9]; exact Z
    have ok : OKF σ8 := by rw [e9]; exact okf_N ok (ok_c1 ok.1 ok1)
    refine lv_aload_n hx hb dX4_claim_76 rfl (lv_at hl 3 rfl) ?_
    refine lv_iload_n hx hb dX4_claim_77 rfl (lv_at hl 4 rfl) ?_
    refine lv_iconst (v := (4 : Int32)) hx hb dX4_claim_78 (by decide) ?_
    refine lv_iload_n hx hb dX4_claim_79 rfl (lv_at hl 1 rfl) ?_
    refine lv_aload_n hx hb dX4_claim_80 rfl (lv_at hl 3 rfl) ?_
    refine kget Fc Z inX4 0 rfl rfl 0 (by decide) mF_RX4_10 rfl rfl dX4_claim_81 ?_
    refine kgetN Fc Z inX2 1 rfl rfl 5 (by decide) nw_RX4_98 rfl rfl dX4_claim_84 ?_
    obtain ⟨q10, e11, hF⟩ := bnd_el hF
    refine kv_i (As := [.int p1, .int (4 : Int32), .int (tget 12 (σ.1.1 0) p1 (4 : Int32)), .int σ8.1.2]) (ok := OK) Fc hA Z Lens.fc (c_X4_putCopy l D cI cS ad σ8.2.1 σ8.1 ok.1 p1 (4 : Int32) ((tget 12 (σ.1.1 0) p1 (4 : Int32))) σ8.1.2 q10 e11.symm) mL_RX4_114 v_X4_putCopy ⟨rfl, rfl⟩ ⟨Nat.le_of_ble_eq_true rfl, Nat.le_of_ble_eq_true rfl⟩ ⟨Nat.zero_le _, Nat.zero_le _⟩ 0 4 rfl rfl rfl hl (Nat.le_of_ble_eq_true rfl) dX4_claim_87 rfl (fun H locs ok1 Z => ?_)
    obtain ⟨σ12, e13, hF⟩ := bnd_el hF
    have Z : Ix D A s (fW ad cI cS σ12) H locs := by rw [e13]; exact Z
    have ok : OKF σ12 := by rw [e13]; exact okf_N ok ok1
    refine lv_aload_n hx hb dX4_claim_90 rfl (lv_at hl 3 rfl) ?_
    refine lv_iload hx hb dX4_claim_91 (lv_at hl 0 rfl) ?_
    obtain ⟨q14, e15, hF⟩ := bnd_el hF
    refine km_i (As := [.int (X4_fineOf σ.1 p1)]) (ok := OKF) Fc hA Z Lens.all (c_X4_settle l D cI cS ad σ12 ok (X4_fineOf σ.1 p1) q14 e15.symm) mL_RX4_65 v_X4_settle ⟨rfl, rfl⟩ ⟨Nat.le_of_ble_eq_true rfl, Nat.le_of_ble_eq_true rfl⟩ ⟨Nat.zero_le _, Nat.zero_le _⟩ 0 4 rfl rfl rfl hl (Nat.le_of_ble_eq_true rfl) dX4_claim_93 rfl (fun H locs ok1 Z => ?_)
    have ok := ok1
    exact kret q14.1 q14.2 _ _ _ _ ⟨(pfst hF), psnd hF, ok⟩ Z dX4_claim_96
  · rw [if_neg c1] at hF
    refine lv_iload_n hx hb dX4_claim_10 rfl (lv_at hl 0 rfl) ?_
    refine ks_i (As := [.int (X4_reasonAgainstClaiming σ.1 p1)]) Fc hA Z (c_X4_refusal l D cI cS (X4_reasonAgainstClaiming σ.1 p1) (X4_refusal (X4_reasonAgainstClaiming σ.1 p1)) rfl) mL_RX4_137 v_X4_refusal ⟨rfl, rfl⟩ ⟨Nat.le_of_ble_eq_true rfl, Nat.le_of_ble_eq_true rfl⟩ ⟨Nat.zero_le _, Nat.zero_le _⟩ rfl hl (Nat.le_of_ble_eq_true rfl) dX4_claim_11 rfl (fun H locs Z => ?_)
    exact kret ((X4_refusal (X4_reasonAgainstClaiming σ.1 p1))) σ _ _ _ _ ⟨(pfst hF), psnd hF, ok⟩ Z dX4_claim_14
def X4_lose (σ : Fs) (p1 : Int32) : Int32 × Fs := if (X4_reasonAgainstLosing σ.1 p1) = 0 then (bnd (X4_becomeLost σ.1 p1) fun q2 => bnd (q2, σ.2) fun σ4 => bnd (X4_commit σ4) fun q6 => ((tget 4 (q6.1.1 1) ((tget 12 (q6.1.1 0) p1 (4 : Int32))) (0 : Int32)), q6)) else ((X4_refusal (X4_reasonAgainstLosing σ.1 p1)), σ)
def rm_X4_lose : Room := { frames := 5, cells := 0, slots := 0, locals := 144 }
theorem v_X4_lose : WdV RX4 yX4_lose cX4_lose 3 (some .int) 1 := ⟨mI_X4_lose, mS_X4_lose, mZ_RX4, mC_X4_lose, by decide +kernel⟩
set_option maxHeartbeats 8000000 in
set_option maxRecDepth 100000 in
theorem c_X4_lose (l : Launch) (D : va_G) (cI cS : ClassId) (ad : Nat → Nat) (σ : Fs) (ok : OKF σ) (p1 : Int32) (F : Int32 × Fs) (hF : X4_lose σ p1 = F) : MI l yX4_lose cX4_lose 3 (some .int) rm_X4_lose D cI cS [.ref (ad 0), .int p1] (fW ad cI cS σ) (fW ad cI cS) (fun r u => r = F.1 ∧ u = F.2 ∧ OKF u) := by
  refine MI.mk RX4 rfl .int rfl (by decide) (Nat.le_of_ble_eq_true rfl) (fun _ _ _ => rfl) ?_
  intro p e s m args below meth c A Q ls Fc hin hA Z kret hl
  obtain ⟨hx, hb, hml, hown, hts, hKN⟩ := id Fc
  replace hl : lv_has ls 3 [(0, .ref (ad 0)), (1, .int p1)] := hl
  unfold X4_lose at hF
  refine lv_aload_n hx hb dX4_lose_0 rfl (lv_at hl 0 rfl) ?_
  refine lv_iload_n hx hb dX4_lose_1 rfl (lv_at hl 1 rfl) ?_
  refine kr_i (As := [.int p1]) Fc hA Z Lens.fc (c_X4_reasonAgainstLosing l D cI cS ad σ.2.1 σ.1 ok.1 p1 (X4_reasonAgainstLosing σ.1 p1) rfl) mL_RX4_179 v_X4_reasonAgainstLosing ⟨rfl, rfl⟩ ⟨Nat.le_of_ble_eq_true rfl, Nat.le_of_ble_eq_true rfl⟩ ⟨Nat.zero_le _, Nat.zero_le _⟩ 0 4 rfl rfl rfl hl (Nat.le_of_ble_eq_true rfl) dX4_lose_2 rfl (fun H locs Z => ?_)
  refine lv_istore_n (lv' := [(2, .int (X4_reasonAgainstLosing σ.1 p1)), (0, .ref (ad 0)), (1, .int p1)]) hx hb dX4_lose_5 rfl hl (by decide) rfl (fun ls hl => ?_)
  refine lv_iload_n hx hb dX4_lose_6 rfl (lv_at hl 0 rfl) ?_
  refine lv_if_eq (tgt := 15) hx hb dX4_lose_7 (by decide) (fun c1 => ?_) (fun c1 => ?_)
  · rw [if_pos c1] at hF
    refine lv_aload_n hx hb dX4_lose_15 rfl (lv_at hl 1 rfl) ?_
    refine lv_iload_n hx hb dX4_lose_16 rfl (lv_at hl 2 rfl) ?_
    obtain ⟨q2, e3, hF⟩ := bnd_el hF
    refine kv_i (As := [.int p1]) (ok := OK) Fc hA Z Lens.fc (c_X4_becomeLost l D cI cS ad σ.2.1 σ.1 ok.1 p1 q2 e3.symm) mL_RX4_128 v_X4_becomeLost ⟨rfl, rfl⟩ ⟨Nat.le_of_ble_eq_true rfl, Nat.le_of_ble_eq_true rfl⟩ ⟨Nat.zero_le _, Nat.zero_le _⟩ 0 4 rfl rfl rfl hl (Nat.le_of_ble_eq_true rfl) dX4_lose_17 rfl (fun H locs ok1 Z => ?_)
    obtain ⟨σ4, e5, hF⟩ := bnd_el hF
    have Z : Ix D A s (fW ad cI cS σ4) H locs := by rw [e5]; exact Z
    have ok : OKF σ4 := by rw [e5]; exact okf_N ok ok1
    refine lv_aload_n hx hb dX4_lose_20 rfl (lv_at hl 1 rfl) ?_
    obtain ⟨q6, e7, hF⟩ := bnd_el hF
    refine kv_i (As := []) (ok := OKF) Fc hA Z Lens.all (c_X4_commit l D cI cS ad σ4 ok  q6 e7.symm) mL_RX4_182 v_X4_commit ⟨rfl, rfl⟩ ⟨Nat.le_of_ble_eq_true rfl, Nat.le_of_ble_eq_true rfl⟩ ⟨Nat.zero_le _, Nat.zero_le _⟩ 0 4 rfl rfl rfl hl (Nat.le_of_ble_eq_true rfl) dX4_lose_21 rfl (fun H locs ok1 Z => ?_)
    have ok := ok1
    refine lv_aload_n hx hb dX4_lose_24 rfl (lv_at hl 1 rfl) ?_
    refine kget Fc Z inX4 0 rfl rfl 0 (by decide) mF_RX4_10 rfl rfl dX4_lose_25 ?_
    refine kgetN Fc Z inX2 1 rfl rfl 1 (by decide) nw_RX4_69 rfl rfl dX4_lose_28 ?_
    refine lv_aload_n hx hb dX4_lose_31 rfl (lv_at hl 1 rfl) ?_
    refine kget Fc Z inX4 0 rfl rfl 0 (by decide) mF_RX4_10 rfl rfl dX4_lose_32 ?_
    refine kgetN Fc Z inX2 1 rfl rfl 0 (by decide) nw_RX4_47 rfl rfl dX4_lose_35 ?_
    refine lv_iload_n hx hb dX4_lose_38 rfl (lv_at hl 2 rfl) ?_
    refine lv_iconst (v := (4 : Int32)) hx hb dX4_lose_39 (by decide) ?_
    refine kr_i (As := [.int p1, .int (4 : Int32)]) Fc hA Z (Lens.c0 (hs := q6.2.1) (τ := q6.1) (R := rW ad cI cS q6.2)) (c_X3_get l D cI cS (ad 2) (ad 3) 20 12 (20 * 12) sh0 (q6.1.1 0) ok.1.1 p1 (4 : Int32) (tget 12 (q6.1.1 0) p1 (4 : Int32)) rfl) mL_RX4_88 v_X3_get ⟨rfl, rfl⟩ ⟨Nat.le_of_ble_eq_true rfl, Nat.le_of_ble_eq_true rfl⟩ ⟨Nat.zero_le _, Nat.zero_le _⟩ 2 3 rfl rfl rfl hl (Nat.le_of_ble_eq_true rfl) dX4_lose_40 rfl (fun H locs Z => ?_)
    refine lv_iconst (v := (0 : Int32)) hx hb dX4_lose_43 (by decide) ?_
    refine kr_i (As := [.int (tget 12 (q6.1.1 0) p1 (4 : Int32)), .int (0 : Int32)]) Fc hA Z (Lens.c1 (hs := q6.2.1) (τ := q6.1) (R := rW ad cI cS q6.2)) (c_X3_get l D cI cS (ad 4) (ad 5) 8 4 (8 * 4) sh1 (q6.1.1 1) ok.1.2.1 ((tget 12 (q6.1.1 0) p1 (4 : Int32))) (0 : Int32) (tget 4 (q6.1.1 1) ((tget 12 (q6.1.1 0) p1 (4 : Int32))) (0 : Int32)) rfl) mL_RX4_88 v_X3_get ⟨rfl, rfl⟩ ⟨Nat.le_of_ble_eq_true rfl, Nat.le_of_ble_eq_true rfl⟩ ⟨Nat.zero_le _, Nat.zero_le _⟩ 4 3 rfl rfl rfl hl (Nat.le_of_ble_eq_true rfl) dX4_lose_44 rfl (fun H locs Z => ?_)
    exact kret ((tget 4 (q6.1.1 1) ((tget 12 (q6.1.1 0) p1 (4 : Int32))) (0 : Int32))) q6 _ _ _ _ ⟨(pfst hF), psnd hF, ok⟩ Z dX4_lose_47
  · rw [if_neg c1] at hF
    refine lv_iload_n hx hb dX4_lose_10 rfl (lv_at hl 0 rfl) ?_
    refine ks_i (As := [.int (X4_reasonAgainstLosing σ.1 p1)]) Fc hA Z (c_X4_refusal l D cI cS (X4_reasonAgainstLosing σ.1 p1) (X4_refusal (X4_reasonAgainstLosing σ.1 p1)) rfl) mL_RX4_137 v_X4_refusal ⟨rfl, rfl⟩ ⟨Nat.le_of_ble_eq_true rfl, Nat.le_of_ble_eq_true rfl⟩ ⟨Nat.zero_le _, Nat.zero_le _⟩ rfl hl (Nat.le_of_ble_eq_true rfl) dX4_lose_11 rfl (fun H locs Z => ?_)
    exact kret ((X4_refusal (X4_reasonAgainstLosing σ.1 p1))) σ _ _ _ _ ⟨(pfst hF), psnd hF, ok⟩ Z dX4_lose_14
def X4_hold (σ : Fs) (p1 p2 p3 : Int32) : Option (Int32 × Fs) := (X4_makeHold σ.1 p1 p2 p3).bind fun q1 => bnd (q1.2, σ.2) fun σ3 => bnd (X4_settle σ3 q1.1) fun q5 => some (q5.1, q5.2)
def rm_X4_hold : Room := { frames := 6, cells := 0, slots := 0, locals := 165 }
theorem v_X4_hold : WdV RX4 yX4_hold cX4_hold 4 (some .int) 3 := ⟨mI_X4_hold, mS_X4_hold, mZ_RX4, mC_X4_hold, by decide +kernel⟩
set_option maxHeartbeats 8000000 in
set_option maxRecDepth 100000 in
theorem c_X4_hold (l : Launch) (D : va_G) (cI cS : ClassId) (ad : Nat → Nat) (σ : Fs) (ok : OKF σ) (p1 p2 p3 : Int32) (F : Int32 × Fs) (hF : X4_hold σ p1 p2 p3 = some F) : MI l yX4_hold cX4_hold 4 (some .int) rm_X4_hold D cI cS [.ref (ad 0), .int p1, .int p2, .int p3] (fW ad cI cS σ) (fW ad cI cS) (fun r u => r = F.1 ∧ u = F.2 ∧ OKF u) := by
  refine MI.mk RX4 rfl .int rfl (by decide) (Nat.le_of_ble_eq_true rfl) (fun _ _ _ => rfl) ?_
  intro p e s m args below meth c A Q ls Fc hin hA Z kret hl
  obtain ⟨hx, hb, hml, hown, hts, hKN⟩ := id Fc
  replace hl : lv_has ls 4 [(0, .ref (ad 0)), (1, .int p1), (2, .int p2), (3, .int p3)] := hl
  unfold X4_hold at hF
  refine lv_aload_n hx hb dX4_hold_0 rfl (lv_at hl 0 rfl) ?_
  refine lv_aload_n hx hb dX4_hold_1 rfl (lv_at hl 0 rfl) ?_
  refine lv_iload_n hx hb dX4_hold_2 rfl (lv_at hl 1 rfl) ?_
  refine lv_iload_n hx hb dX4_hold_3 rfl (lv_at hl 2 rfl) ?_
  refine lv_iload_n hx hb dX4_hold_4 rfl (lv_at hl 3 rfl) ?_
  obtain ⟨q1, h2, hF⟩ := obind hF
  refine km_i (As := [.int p1, .int p2, .int p3]) (ok := OK) Fc hA Z Lens.fc (c_X4_makeHold l D cI cS ad σ.2.1 σ.1 ok.1 p1 p2 p3 q1 h2) mL_RX4_185 v_X4_makeHold ⟨rfl, rfl⟩ ⟨Nat.le_of_ble_eq_true rfl, Nat.le_of_ble_eq_true rfl⟩ ⟨Nat.zero_le _, Nat.zero_le _⟩ 0 4 rfl rfl rfl hl (Nat.le_of_ble_eq_true rfl) dX4_hold_5 rfl (fun H locs ok1 Z => ?_)
  obtain ⟨σ3, e4, hF⟩ := bnd_el hF
  have Z : Ix D A s (fW ad cI cS σ3) H locs := by rw [e4]; exact Z
  have ok : OKF σ3 := by rw [e4]; exact okf_N ok ok1
  obtain ⟨q5, e6, hF⟩ := bnd_el hF
  refine km_i (As := [.int q1.1]) (ok := OKF) Fc hA Z Lens.all (c_X4_settle l D cI cS ad σ3 ok q1.1 q5 e6.symm) mL_RX4_65 v_X4_settle ⟨rfl, rfl⟩ ⟨Nat.le_of_ble_eq_true rfl, Nat.le_of_ble_eq_true rfl⟩ ⟨Nat.zero_le _, Nat.zero_le _⟩ 0 4 rfl rfl rfl hl (Nat.le_of_ble_eq_true rfl) dX4_hold_8 rfl (fun H locs ok1 Z => ?_)
  have ok := ok1
  exact kret q5.1 q5.2 _ _ _ _ ⟨(pfst (Option.some.inj hF)), psnd (Option.some.inj hF), ok⟩ Z dX4_hold_11
def X4_cancelHold (σ : Fs) (p1 p2 : Int32) : Option (Int32 × Fs) := (X4_dropHold σ.1 p1 p2).bind fun q1 => bnd (q1.2, σ.2) fun σ3 => bnd (X4_settle σ3 q1.1) fun q5 => some (q5.1, q5.2)
def rm_X4_cancelHold : Room := { frames := 6, cells := 0, slots := 0, locals := 165 }
theorem v_X4_cancelHold : WdV RX4 yX4_cancelHold cX4_cancelHold 3 (some .int) 2 := ⟨mI_X4_cancelHold, mS_X4_cancelHold, mZ_RX4, mC_X4_cancelHold, by decide +kernel⟩
set_option maxHeartbeats 8000000 in
set_option maxRecDepth 100000 in
theorem c_X4_cancelHold (l : Launch) (D : va_G) (cI cS : ClassId) (ad : Nat → Nat) (σ : Fs) (ok : OKF σ) (p1 p2 : Int32) (F : Int32 × Fs) (hF : X4_cancelHold σ p1 p2 = some F) : MI l yX4_cancelHold cX4_cancelHold 3 (some .int) rm_X4_cancelHold D cI cS [.ref (ad 0), .int p1, .int p2] (fW ad cI cS σ) (fW ad cI cS) (fun r u => r = F.1 ∧ u = F.2 ∧ OKF u) := by
  refine MI.mk RX4 rfl .int rfl (by decide) (Nat.le_of_ble_eq_true rfl) (fun _ _ _ => rfl) ?_
  intro p e s m args below meth c A Q ls Fc hin hA Z kret hl
  obtain ⟨hx, hb, hml, hown, hts, hKN⟩ := id Fc
  replace hl : lv_has ls 3 [(0, .ref (ad 0)), (1, .int p1), (2, .int p2)] := hl
  unfold X4_cancelHold at hF
  refine lv_aload_n hx hb dX4_cancelHold_0 rfl (lv_at hl 0 rfl) ?_
  refine lv_aload_n hx hb dX4_cancelHold_1 rfl (lv_at hl 0 rfl) ?_
  refine lv_iload_n hx hb dX4_cancelHold_2 rfl (lv_at hl 1 rfl) ?_
  refine lv_iload_n hx hb dX4_cancelHold_3 rfl (lv_at hl 2 rfl) ?_
  obtain ⟨q1, h2, hF⟩ := obind hF
  refine km_i (As := [.int p1, .int p2]) (ok := OK) Fc hA Z Lens.fc (c_X4_dropHold l D cI cS ad σ.2.1 σ.1 ok.1 p1 p2 q1 h2) mL_RX4_210 v_X4_dropHold ⟨rfl, rfl⟩ ⟨Nat.le_of_ble_eq_true rfl, Nat.le_of_ble_eq_true rfl⟩ ⟨Nat.zero_le _, Nat.zero_le _⟩ 0 4 rfl rfl rfl hl (Nat.le_of_ble_eq_true rfl) dX4_cancelHold_4 rfl (fun H locs ok1 Z => ?_)
  obtain ⟨σ3, e4, hF⟩ := bnd_el hF
  have Z : Ix D A s (fW ad cI cS σ3) H locs := by rw [e4]; exact Z
  have ok : OKF σ3 := by rw [e4]; exact okf_N ok ok1
  obtain ⟨q5, e6, hF⟩ := bnd_el hF
  refine km_i (As := [.int q1.1]) (ok := OKF) Fc hA Z Lens.all (c_X4_settle l D cI cS ad σ3 ok q1.1 q5 e6.symm) mL_RX4_65 v_X4_settle ⟨rfl, rfl⟩ ⟨Nat.le_of_ble_eq_true rfl, Nat.le_of_ble_eq_true rfl⟩ ⟨Nat.zero_le _, Nat.zero_le _⟩ 0 4 rfl rfl rfl hl (Nat.le_of_ble_eq_true rfl) dX4_cancelHold_7 rfl (fun H locs ok1 Z => ?_)
  have ok := ok1
  exact kret q5.1 q5.2 _ _ _ _ ⟨(pfst (Option.some.inj hF)), psnd (Option.some.inj hF), ok⟩ Z dX4_cancelHold_10
def X4_pay (σ : Fs) (p1 p2 : Int32) : Int32 × Fs := bnd (X4_credit σ.1 (3 : Int32) p1 p2) fun q1 => bnd (q1.2, σ.2) fun σ3 => bnd (X4_settle σ3 q1.1) fun q5 => (q5.1, q5.2)
def rm_X4_pay : Room := { frames := 6, cells := 0, slots := 0, locals := 165 }
theorem v_X4_pay : WdV RX4 yX4_pay cX4_pay 3 (some .int) 2 := ⟨mI_X4_pay, mS_X4_pay, mZ_RX4, mC_X4_pay, by decide +kernel⟩
set_option maxHeartbeats 8000000 in
set_option maxRecDepth 100000 in
theorem c_X4_pay (l : Launch) (D : va_G) (cI cS : ClassId) (ad : Nat → Nat) (σ : Fs) (ok : OKF σ) (p1 p2 : Int32) (F : Int32 × Fs) (hF : X4_pay σ p1 p2 = F) : MI l yX4_pay cX4_pay 3 (some .int) rm_X4_pay D cI cS [.ref (ad 0), .int p1, .int p2] (fW ad cI cS σ) (fW ad cI cS) (fun r u => r = F.1 ∧ u = F.2 ∧ OKF u) := by
  refine MI.mk RX4 rfl .int rfl (by decide) (Nat.le_of_ble_eq_true rfl) (fun _ _ _ => rfl) ?_
  intro p e s m args below meth c A Q ls Fc hin hA Z kret hl
  obtain ⟨hx, hb, hml, hown, hts, hKN⟩ := id Fc
  replace hl : lv_has ls 3 [(0, .ref (ad 0)), (1, .int p1), (2, .int p2)] := hl
  unfold X4_pay at hF
  refine lv_aload_n hx hb dX4_pay_0 rfl (lv_at hl 0 rfl) ?_
  refine lv_aload_n hx hb dX4_pay_1 rfl (lv_at hl 0 rfl) ?_
  refine lv_iconst (v := (3 : Int32)) hx hb dX4_pay_2 (by decide) ?_
  refine lv_iload_n hx hb dX4_pay_3 rfl (lv_at hl 1 rfl) ?_
  refine lv_iload_n hx hb dX4_pay_4 rfl (lv_at hl 2 rfl) ?_
  obtain ⟨q1, e2, hF⟩ := bnd_el hF
  refine km_i (As := [.int (3 : Int32), .int p1, .int p2]) (ok := OK) Fc hA Z Lens.fc (c_X4_credit l D cI cS ad σ.2.1 σ.1 ok.1 (3 : Int32) p1 p2 q1 e2.symm) mL_RX4_241 v_X4_credit ⟨rfl, rfl⟩ ⟨Nat.le_of_ble_eq_true rfl, Nat.le_of_ble_eq_true rfl⟩ ⟨Nat.zero_le _, Nat.zero_le _⟩ 0 4 rfl rfl rfl hl (Nat.le_of_ble_eq_true rfl) dX4_pay_5 rfl (fun H locs ok1 Z => ?_)
  obtain ⟨σ3, e4, hF⟩ := bnd_el hF
  have Z : Ix D A s (fW ad cI cS σ3) H locs := by rw [e4]; exact Z
  have ok : OKF σ3 := by rw [e4]; exact okf_N ok ok1
  obtain ⟨q5, e6, hF⟩ := bnd_el hF
  refine km_i (As := [.int q1.1]) (ok := OKF) Fc hA Z Lens.all (c_X4_settle l D cI cS ad σ3 ok q1.1 q5 e6.symm) mL_RX4_65 v_X4_settle ⟨rfl, rfl⟩ ⟨Nat.le_of_ble_eq_true rfl, Nat.le_of_ble_eq_true rfl⟩ ⟨Nat.zero_le _, Nat.zero_le _⟩ 0 4 rfl rfl rfl hl (Nat.le_of_ble_eq_true rfl) dX4_pay_8 rfl (fun H locs ok1 Z => ?_)
  have ok := ok1
  exact kret q5.1 q5.2 _ _ _ _ ⟨(pfst hF), psnd hF, ok⟩ Z dX4_pay_11
def X4_waive (σ : Fs) (p1 p2 : Int32) : Int32 × Fs := bnd (X4_credit σ.1 (4 : Int32) p1 p2) fun q1 => bnd (q1.2, σ.2) fun σ3 => bnd (X4_settle σ3 q1.1) fun q5 => (q5.1, q5.2)
def rm_X4_waive : Room := { frames := 6, cells := 0, slots := 0, locals := 165 }
theorem v_X4_waive : WdV RX4 yX4_waive cX4_waive 3 (some .int) 2 := ⟨mI_X4_waive, mS_X4_waive, mZ_RX4, mC_X4_waive, by decide +kernel⟩
set_option maxHeartbeats 8000000 in
set_option maxRecDepth 100000 in
theorem c_X4_waive (l : Launch) (D : va_G) (cI cS : ClassId) (ad : Nat → Nat) (σ : Fs) (ok : OKF σ) (p1 p2 : Int32) (F : Int32 × Fs) (hF : X4_waive σ p1 p2 = F) : MI l yX4_waive cX4_waive 3 (some .int) rm_X4_waive D cI cS [.ref (ad 0), .int p1, .int p2] (fW ad cI cS σ) (fW ad cI cS) (fun r u => r = F.1 ∧ u = F.2 ∧ OKF u) := by
  refine MI.mk RX4 rfl .int rfl (by decide) (Nat.le_of_ble_eq_true rfl) (fun _ _ _ => rfl) ?_
  intro p e s m args below meth c A Q ls Fc hin hA Z kret hl
  obtain ⟨hx, hb, hml, hown, hts, hKN⟩ := id Fc
  replace hl : lv_has ls 3 [(0, .ref (ad 0)), (1, .int p1), (2, .int p2)] := hl
  unfold X4_waive at hF
  refine lv_aload_n hx hb dX4_waive_0 rfl (lv_at hl 0 rfl) ?_
  refine lv_aload_n hx hb dX4_waive_1 rfl (lv_at hl 0 rfl) ?_
  refine lv_iconst (v := (4 : Int32)) hx hb dX4_waive_2 (by decide) ?_
  refine lv_iload_n hx hb dX4_waive_3 rfl (lv_at hl 1 rfl) ?_
  refine lv_iload_n hx hb dX4_waive_4 rfl (lv_at hl 2 rfl) ?_
  obtain ⟨q1, e2, hF⟩ := bnd_el hF
  refine km_i (As := [.int (4 : Int32), .int p1, .int p2]) (ok := OK) Fc hA Z Lens.fc (c_X4_credit l D cI cS ad σ.2.1 σ.1 ok.1 (4 : Int32) p1 p2 q1 e2.symm) mL_RX4_241 v_X4_credit ⟨rfl, rfl⟩ ⟨Nat.le_of_ble_eq_true rfl, Nat.le_of_ble_eq_true rfl⟩ ⟨Nat.zero_le _, Nat.zero_le _⟩ 0 4 rfl rfl rfl hl (Nat.le_of_ble_eq_true rfl) dX4_waive_5 rfl (fun H locs ok1 Z => ?_)
  obtain ⟨σ3, e4, hF⟩ := bnd_el hF
  have Z : Ix D A s (fW ad cI cS σ3) H locs := by rw [e4]; exact Z
  have ok : OKF σ3 := by rw [e4]; exact okf_N ok ok1
  obtain ⟨q5, e6, hF⟩ := bnd_el hF
  refine km_i (As := [.int q1.1]) (ok := OKF) Fc hA Z Lens.all (c_X4_settle l D cI cS ad σ3 ok q1.1 q5 e6.symm) mL_RX4_65 v_X4_settle ⟨rfl, rfl⟩ ⟨Nat.le_of_ble_eq_true rfl, Nat.le_of_ble_eq_true rfl⟩ ⟨Nat.zero_le _, Nat.zero_le _⟩ 0 4 rfl rfl rfl hl (Nat.le_of_ble_eq_true rfl) dX4_waive_8 rfl (fun H locs ok1 Z => ?_)
  have ok := ok1
  exact kret q5.1 q5.2 _ _ _ _ ⟨(pfst hF), psnd hF, ok⟩ Z dX4_waive_11
def X4_feed (σ : Fs) (p1 : Int32) : Option (Int32 × Fs) := if p1 < (32 : Int32) then (some (((-1 : Int32), σ))) else if p1 ≤ (126 : Int32) then ((X0_append σ.2.2.2.2.2 p1).bind fun q3 => bnd (σ.1, frX σ.2 q3.2) fun σ5 => some (q3.1, σ5)) else some (((-1 : Int32), σ))
def rm_X4_feed : Room := { frames := 1, cells := 0, slots := 0, locals := 21 }
theorem v_X4_feed : WdV RX4 yX4_feed cX4_feed 2 (some .int) 1 := ⟨mI_X4_feed, mS_X4_feed, mZ_RX4, mC_X4_feed, by decide +kernel⟩
set_option maxHeartbeats 8000000 in
set_option maxRecDepth 100000 in
theorem c_X4_feed (l : Launch) (D : va_G) (cI cS : ClassId) (ad : Nat → Nat) (σ : Fs) (ok : OKF σ) (p1 : Int32) (F : Int32 × Fs) (hF : X4_feed σ p1 = some F) : MI l yX4_feed cX4_feed 2 (some .int) rm_X4_feed D cI cS [.ref (ad 0), .int p1] (fW ad cI cS σ) (fW ad cI cS) (fun r u => r = F.1 ∧ u = F.2 ∧ OKF u) := by
  refine MI.mk RX4 rfl .int rfl (by decide) (Nat.le_of_ble_eq_true rfl) (fun _ _ _ => rfl) ?_
  intro p e s m args below meth c A Q ls Fc hin hA Z kret hl
  obtain ⟨hx, hb, hml, hown, hts, hKN⟩ := id Fc
  replace hl : lv_has ls 2 [(0, .ref (ad 0)), (1, .int p1)] := hl
  unfold X4_feed at hF
  refine lv_iload_n hx hb dX4_feed_0 rfl (lv_at hl 1 rfl) ?_
  refine lv_bipush (v := (32 : Int32)) hx hb dX4_feed_1 (by decide) ?_
  refine lv_icmp_lt (tgt := 12) hx hb dX4_feed_3 (by decide) (fun c1 => ?_) (fun c1 => ?_)
  · rw [if_pos c1] at hF
    refine lv_iconst (v := (-1 : Int32)) hx hb dX4_feed_12 (by decide) ?_
    exact kret (-1 : Int32) σ _ _ _ _ ⟨(pfst (Option.some.inj hF)), psnd (Option.some.inj hF), ok⟩ Z dX4_feed_13
  · rw [if_neg c1] at hF
    refine lv_iload_n hx hb dX4_feed_6 rfl (lv_at hl 1 rfl) ?_
    refine lv_bipush (v := (126 : Int32)) hx hb dX4_feed_7 (by decide) ?_
    refine lv_icmp_le (tgt := 14) hx hb dX4_feed_9 (by decide) (fun c2 => ?_) (fun c2 => ?_)
    · rw [if_pos c2] at hF
      refine lv_aload_n hx hb dX4_feed_14 rfl (lv_at hl 0 rfl) ?_
      refine kget Fc Z inX4 0 rfl rfl 5 (by decide) mF_RX4_36 rfl rfl dX4_feed_15 ?_
      refine lv_iload_n hx hb dX4_feed_18 rfl (lv_at hl 1 rfl) ?_
      obtain ⟨q3, h4, hF⟩ := obind hF
      refine km_i (As := [.int p1]) (ok := (fun u : Xs => tbOK 15 u.2)) Fc hA Z Lens.ft (c_X0_append l D cI cS ad σ.2.2.2.2.2 ok.2.2.2.2.2 p1 q3 h4) mL_RX4_250 v_X0_append ⟨rfl, rfl⟩ ⟨Nat.le_of_ble_eq_true rfl, Nat.le_of_ble_eq_true rfl⟩ ⟨Nat.zero_le _, Nat.zero_le _⟩ 124 0 rfl rfl rfl hl (Nat.le_of_ble_eq_true rfl) dX4_feed_19 rfl (fun H locs ok1 Z => ?_)
      obtain ⟨σ5, e6, hF⟩ := bnd_el hF
      have Z : Ix D A s (fW ad cI cS σ5) H locs := by rw [e6]; exact Z
      have ok : OKF σ5 := by rw [e6]; exact okf_X ok ok1
      exact kret q3.1 σ5 _ _ _ _ ⟨(pfst (Option.some.inj hF)), psnd (Option.some.inj hF), ok⟩ Z dX4_feed_22
    · rw [if_neg c2] at hF
      refine lv_iconst (v := (-1 : Int32)) hx hb dX4_feed_12 (by decide) ?_
      exact kret (-1 : Int32) σ _ _ _ _ ⟨(pfst (Option.some.inj hF)), psnd (Option.some.inj hF), ok⟩ Z dX4_feed_13
def X4_runCommand (σ : Fs) (p1 : Int32) : Option (Int32 × Fs) := if (X0_letter σ.2.2.2.2.2 p1) = (99 : Int32) then ((X4_dropHold σ.1 ((X0_number σ.2.2.2.2.2 p1 (0 : Int32))) ((X0_number σ.2.2.2.2.2 p1 (1 : Int32)))).bind fun q2 => bnd (q2.2, σ.2) fun σ4 => some (q2.1, σ4)) else if (X0_letter σ.2.2.2.2.2 p1) = (100 : Int32) then ((X4_letPass σ.1 ((X0_number σ.2.2.2.2.2 p1 (0 : Int32)))).bind fun q7 => bnd (q7.2, σ.2) fun σ9 => some (q7.1, σ9)) else if (X0_letter σ.2.2.2.2.2 p1) = (104 : Int32) then ((X4_makeHold σ.1 ((X0_number σ.2.2.2.2.2 p1 (0 : Int32))) ((X0_number σ.2.2.2.2.2 p1 (1 : Int32))) ((X0_number σ.2.2.2.2.2 p1 (2 : Int32)))).bind fun q12 => bnd (q12.2, σ.2) fun σ14 => some (q12.1, σ14)) else if (X0_letter σ.2.2.2.2.2 p1) = (105 : Int32) then ((X4_takeBack σ.1 ((X0_number σ.2.2.2.2.2 p1 (0 : Int32))) ((X0_number σ.2.2.2.2.2 p1 (1 : Int32)))).bind fun q17 => bnd (q17.2, σ.2) fun σ19 => some (q17.1, σ19)) else if (X0_letter σ.2.2.2.2.2 p1) = (111 : Int32) then ((X4_lendOut σ.1 ((X0_number σ.2.2.2.2.2 p1 (0 : Int32))) ((X0_number σ.2.2.2.2.2 p1 (1 : Int32)))).bind fun q22 => bnd (q22.2, σ.2) fun σ24 => some (q22.1, σ24)) else if (X0_letter σ.2.2.2.2.2 p1) = (112 : Int32) then (bnd (X4_credit σ.1 (3 : Int32) ((X0_number σ.2.2.2.2.2 p1 (0 : Int32))) ((X0_number σ.2.2.2.2.2 p1 (1 : Int32)))) fun q27 => bnd (q27.2, σ.2) fun σ29 => some (q27.1, σ29)) else if (X0_letter σ.2.2.2.2.2 p1) = (114 : Int32) then ((X4_renewLoan σ.1 ((X0_number σ.2.2.2.2.2 p1 (0 : Int32)))).bind fun q32 => bnd (q32.2, σ.2) fun σ34 => some (q32.1, σ34)) else some (((-1 : Int32), σ))
def rm_X4_runCommand : Room := { frames := 6, cells := 0, slots := 0, locals := 139 }
theorem v_X4_runCommand : WdV RX4 yX4_runCommand cX4_runCommand 4 (some .int) 1 := ⟨mI_X4_runCommand, mS_X4_runCommand, mZ_RX4, mC_X4_runCommand, by decide +kernel⟩
set_option maxHeartbeats 8000000 in
set_option maxRecDepth 100000 in
theorem c_X4_runCommand (l : Launch) (D : va_G) (cI cS : ClassId) (ad : Nat → Nat) (σ : Fs) (ok : OKF σ) (p1 : Int32) (F : Int32 × Fs) (hF : X4_runCommand σ p1 = some F) : MI l yX4_runCommand cX4_runCommand 4 (some .int) rm_X4_runCommand D cI cS [.ref (ad 0), .int p1] (fW ad cI cS σ) (fW ad cI cS) (fun r u => r = F.1 ∧ u = F.2 ∧ OKF u) := by
  refine MI.mk RX4 rfl .int rfl (by decide) (Nat.le_of_ble_eq_true rfl) (fun _ _ _ => rfl) ?_
  intro p e s m args below meth c A Q ls Fc hin hA Z kret hl
  obtain ⟨hx, hb, hml, hown, hts, hKN⟩ := id Fc
  replace hl : lv_has ls 4 [(0, .ref (ad 0)), (1, .int p1)] := hl
  unfold X4_runCommand at hF
  refine lv_aload_n hx hb dX4_runCommand_0 rfl (lv_at hl 0 rfl) ?_
  refine kget Fc Z inX4 0 rfl rfl 5 (by decide) mF_RX4_36 rfl rfl dX4_runCommand_1 ?_
  refine lv_iload_n hx hb dX4_runCommand_4 rfl (lv_at hl 1 rfl) ?_
  refine lv_iconst (v := (0 : Int32)) hx hb dX4_runCommand_5 (by decide) ?_
  refine kr_i (As := [.int p1, .int (0 : Int32)]) Fc hA Z Lens.ft (c_X0_number l D cI cS ad σ.2.2.2.2.2 ok.2.2.2.2.2 p1 (0 : Int32) (X0_number σ.2.2.2.2.2 p1 (0 : Int32)) rfl) mL_RX4_273 v_X0_number ⟨rfl, rfl⟩ ⟨Nat.le_of_ble_eq_true rfl, Nat.le_of_ble_eq_true rfl⟩ ⟨Nat.zero_le _, Nat.zero_le _⟩ 124 0 rfl rfl rfl hl (Nat.le_of_ble_eq_true rfl) dX4_runCommand_6 rfl (fun H locs Z => ?_)
  refine lv_istore_n (lv' := [(2, .int (X0_number σ.2.2.2.2.2 p1 (0 : Int32))), (0, .ref (ad 0)), (1, .int p1)]) hx hb dX4_runCommand_9 rfl hl (by decide) rfl (fun ls hl => ?_)
  refine lv_aload_n hx hb dX4_runCommand_10 rfl (lv_at hl 1 rfl) ?_
  refine kget Fc Z inX4 0 rfl rfl 5 (by decide) mF_RX4_36 rfl rfl dX4_runCommand_11 ?_
  refine lv_iload_n hx hb dX4_runCommand_14 rfl (lv_at hl 2 rfl) ?_
  refine lv_iconst (v := (1 : Int32)) hx hb dX4_runCommand_15 (by decide) ?_
  refine kr_i (As := [.int p1, .int (1 : Int32)]) Fc hA Z Lens.ft (c_X0_number l D cI cS ad σ.2.2.2.2.2 ok.2.2.2.2.2 p1 (1 : Int32) (X0_number σ.2.2.2.2.2 p1 (1 : Int32)) rfl) mL_RX4_273 v_X0_number ⟨rfl, rfl⟩ ⟨Nat.le_of_ble_eq_true rfl, Nat.le_of_ble_eq_true rfl⟩ ⟨Nat.zero_le _, Nat.zero_le _⟩ 124 0 rfl rfl rfl hl (Nat.le_of_ble_eq_true rfl) dX4_runCommand_16 rfl (fun H locs Z => ?_)
  refine lv_istore_n (lv' := [(3, .int (X0_number σ.2.2.2.2.2 p1 (1 : Int32))), (2, .int (X0_number σ.2.2.2.2.2 p1 (0 : Int32))), (0, .ref (ad 0)), (1, .int p1)]) hx hb dX4_runCommand_19 rfl hl (by decide) rfl (fun ls hl => ?_)
  refine lv_aload_n hx hb dX4_runCommand_20 rfl (lv_at hl 2 rfl) ?_
  refine kget Fc Z inX4 0 rfl rfl 5 (by decide) mF_RX4_36 rfl rfl dX4_runCommand_21 ?_
  refine lv_iload_n hx hb dX4_runCommand_24 rfl (lv_at hl 3 rfl) ?_
  refine kr_i (As := [.int p1]) Fc hA Z Lens.ft (c_X0_letter l D cI cS ad σ.2.2.2.2.2 ok.2.2.2.2.2 p1 (X0_letter σ.2.2.2.2.2 p1) rfl) mL_RX4_276 v_X0_letter ⟨rfl, rfl⟩ ⟨Nat.le_of_ble_eq_true rfl, Nat.le_of_ble_eq_true rfl⟩ ⟨Nat.zero_le _, Nat.zero_le _⟩ 124 0 rfl rfl rfl hl (Nat.le_of_ble_eq_true rfl) dX4_runCommand_25 rfl (fun H locs Z => ?_)
  rcases Decidable.em ((X0_letter σ.2.2.2.2.2 p1) = (99 : Int32)) with c1 | c1
  · rw [if_pos c1] at hF
    refine lv_tableIn (off := 110) (tgt := 138) hx hb dX4_runCommand_28 (by rw [c1]; decide) (by rw [c1]; decide) (by rw [c1]; decide) (by decide) ?_
    refine lv_aload_n hx hb dX4_runCommand_138 rfl (lv_at hl 2 rfl) ?_
    refine lv_iload_n hx hb dX4_runCommand_139 rfl (lv_at hl 1 rfl) ?_
    refine lv_iload_n hx hb dX4_runCommand_140 rfl (lv_at hl 0 rfl) ?_
    obtain ⟨q2, h3, hF⟩ := obind hF
    refine km_i (As := [.int (X0_number σ.2.2.2.2.2 p1 (0 : Int32)), .int (X0_number σ.2.2.2.2.2 p1 (1 : Int32))]) (ok := OK) Fc hA Z Lens.fc (c_X4_dropHold l D cI cS ad σ.2.1 σ.1 ok.1 ((X0_number σ.2.2.2.2.2 p1 (0 : Int32))) ((X0_number σ.2.2.2.2.2 p1 (1 : Int32))) q2 h3) mL_RX4_210 v_X4_dropHold ⟨rfl, rfl⟩ ⟨Nat.le_of_ble_eq_true rfl, Nat.le_of_ble_eq_true rfl⟩ ⟨Nat.zero_le _, Nat.zero_le _⟩ 0 4 rfl rfl rfl hl (Nat.le_of_ble_eq_true rfl) dX4_runCommand_141 rfl (fun H locs ok1 Z => ?_)
    obtain ⟨σ4, e5, hF⟩ := bnd_el hF
    have Z : Ix D A s (fW ad cI cS σ4) H locs := by rw [e5]; exact Z
    have ok : OKF σ4 := by rw [e5]; exact okf_N ok ok1
    exact kret q2.1 σ4 _ _ _ _ ⟨(pfst (Option.some.inj hF)), psnd (Option.some.inj hF), ok⟩ Z dX4_runCommand_144
  rw [if_neg c1] at hF
  rcases Decidable.em ((X0_letter σ.2.2.2.2.2 p1) = (100 : Int32)) with c6 | c6
  · rw [if_pos c6] at hF
    refine lv_tableIn (off := 123) (tgt := 151) hx hb dX4_runCommand_28 (by rw [c6]; decide) (by rw [c6]; decide) (by rw [c6]; decide) (by decide) ?_
    refine lv_aload_n hx hb dX4_runCommand_151 rfl (lv_at hl 2 rfl) ?_
    refine lv_iload_n hx hb dX4_runCommand_152 rfl (lv_at hl 1 rfl) ?_
    obtain ⟨q7, h8, hF⟩ := obind hF
    refine km_i (As := [.int (X0_number σ.2.2.2.2.2 p1 (0 : Int32))]) (ok := OK) Fc hA Z Lens.fc (c_X4_letPass l D cI cS ad σ.2.1 σ.1 ok.1 ((X0_number σ.2.2.2.2.2 p1 (0 : Int32))) q7 h8) mL_RX4_102 v_X4_letPass ⟨rfl, rfl⟩ ⟨Nat.le_of_ble_eq_true rfl, Nat.le_of_ble_eq_true rfl⟩ ⟨Nat.zero_le _, Nat.zero_le _⟩ 0 4 rfl rfl rfl hl (Nat.le_of_ble_eq_true rfl) dX4_runCommand_153 rfl (fun H locs ok1 Z => ?_)
    obtain ⟨σ9, e10, hF⟩ := bnd_el hF
    have Z : Ix D A s (fW ad cI cS σ9) H locs := by rw [e10]; exact Z
    have ok : OKF σ9 := by rw [e10]; exact okf_N ok ok1
    exact kret q7.1 σ9 _ _ _ _ ⟨(pfst (Option.some.inj hF)), psnd (Option.some.inj hF), ok⟩ Z dX4_runCommand_156
  rw [if_neg c6] at hF
  rcases Decidable.em ((X0_letter σ.2.2.2.2.2 p1) = (104 : Int32)) with c11 | c11
  · rw [if_pos c11] at hF
    refine lv_tableIn (off := 94) (tgt := 122) hx hb dX4_runCommand_28 (by rw [c11]; decide) (by rw [c11]; decide) (by rw [c11]; decide) (by decide) ?_
    refine lv_aload_n hx hb dX4_runCommand_122 rfl (lv_at hl 2 rfl) ?_
    refine lv_iload_n hx hb dX4_runCommand_123 rfl (lv_at hl 1 rfl) ?_
    refine lv_iload_n hx hb dX4_runCommand_124 rfl (lv_at hl 0 rfl) ?_
    refine lv_aload_n hx hb dX4_runCommand_125 rfl (lv_at hl 2 rfl) ?_
    refine kget Fc Z inX4 0 rfl rfl 5 (by decide) mF_RX4_36 rfl rfl dX4_runCommand_126 ?_
    refine lv_iload_n hx hb dX4_runCommand_129 rfl (lv_at hl 3 rfl) ?_
    refine lv_iconst (v := (2 : Int32)) hx hb dX4_runCommand_130 (by decide) ?_
    refine kr_i (As := [.int p1, .int (2 : Int32)]) Fc hA Z Lens.ft (c_X0_number l D cI cS ad σ.2.2.2.2.2 ok.2.2.2.2.2 p1 (2 : Int32) (X0_number σ.2.2.2.2.2 p1 (2 : Int32)) rfl) mL_RX4_273 v_X0_number ⟨rfl, rfl⟩ ⟨Nat.le_of_ble_eq_true rfl, Nat.le_of_ble_eq_true rfl⟩ ⟨Nat.zero_le _, Nat.zero_le _⟩ 124 0 rfl rfl rfl hl (Nat.le_of_ble_eq_true rfl) dX4_runCommand_131 rfl (fun H locs Z => ?_)
    obtain ⟨q12, h13, hF⟩ := obind hF
    refine km_i (As := [.int (X0_number σ.2.2.2.2.2 p1 (0 : Int32)), .int (X0_number σ.2.2.2.2.2 p1 (1 : Int32)), .int (X0_number σ.2.2.2.2.2 p1 (2 : Int32))]) (ok := OK) Fc hA Z Lens.fc (c_X4_makeHold l D cI cS ad σ.2.1 σ.1 ok.1 ((X0_number σ.2.2.2.2.2 p1 (0 : Int32))) ((X0_number σ.2.2.2.2.2 p1 (1 : Int32))) ((X0_number σ.2.2.2.2.2 p1 (2 : Int32))) q12 h13) mL_RX4_185 v_X4_makeHold ⟨rfl, rfl⟩ ⟨Nat.le_of_ble_eq_true rfl, Nat.le_of_ble_eq_true rfl⟩ ⟨Nat.zero_le _, Nat.zero_le _⟩ 0 4 rfl rfl rfl hl (Nat.le_of_ble_eq_true rfl) dX4_runCommand_134 rfl (fun H locs ok1 Z => ?_)
    obtain ⟨σ14, e15, hF⟩ := bnd_el hF
    have Z : Ix D A s (fW ad cI cS σ14) H locs := by rw [e15]; exact Z
    have ok : OKF σ14 := by rw [e15]; exact okf_N ok ok1
    exact kret q12.1 σ14 _ _ _ _ ⟨(pfst (Option.some.inj hF)), psnd (Option.some.inj hF), ok⟩ Z dX4_runCommand_137
  rw [if_neg c11] at hF
  rcases Decidable.em ((X0_letter σ.2.2.2.2.2 p1) = (105 : Int32)) with c16 | c16
  · rw [if_pos c16] at hF
    refine lv_tableIn (off := 87) (tgt := 115) hx hb dX4_runCommand_28 (by rw [c16]; decide) (by rw [c16]; decide) (by rw [c16]; decide) (by decide) ?_
    refine lv_aload_n hx hb dX4_runCommand_115 rfl (lv_at hl 2 rfl) ?_
    refine lv_iload_n hx hb dX4_runCommand_116 rfl (lv_at hl 1 rfl) ?_
    refine lv_iload_n hx hb dX4_runCommand_117 rfl (lv_at hl 0 rfl) ?_
    obtain ⟨q17, h18, hF⟩ := obind hF
    refine km_i (As := [.int (X0_number σ.2.2.2.2.2 p1 (0 : Int32)), .int (X0_number σ.2.2.2.2.2 p1 (1 : Int32))]) (ok := OK) Fc hA Z Lens.fc (c_X4_takeBack l D cI cS ad σ.2.1 σ.1 ok.1 ((X0_number σ.2.2.2.2.2 p1 (0 : Int32))) ((X0_number σ.2.2.2.2.2 p1 (1 : Int32))) q17 h18) mL_RX4_155 v_X4_takeBack ⟨rfl, rfl⟩ ⟨Nat.le_of_ble_eq_true rfl, Nat.le_of_ble_eq_true rfl⟩ ⟨Nat.zero_le _, Nat.zero_le _⟩ 0 4 rfl rfl rfl hl (Nat.le_of_ble_eq_true rfl) dX4_runCommand_118 rfl (fun H locs ok1 Z => ?_)
    obtain ⟨σ19, e20, hF⟩ := bnd_el hF
    have Z : Ix D A s (fW ad cI cS σ19) H locs := by rw [e20]; exact Z
    have ok : OKF σ19 := by rw [e20]; exact okf_N ok ok1
    exact kret q17.1 σ19 _ _ _ _ ⟨(pfst (Option.some.inj hF)), psnd (Option.some.inj hF), ok⟩ Z dX4_runCommand_121
  rw [if_neg c16] at hF
  rcases Decidable.em ((X0_letter σ.2.2.2.2.2 p1) = (111 : Int32)) with c21 | c21
  · rw [if_pos c21] at hF
    refine lv_tableIn (off := 80) (tgt := 108) hx hb dX4_runCommand_28 (by rw [c21]; decide) (by rw [c21]; decide) (by rw [c21]; decide) (by decide) ?_
    refine lv_aload_n hx hb dX4_runCommand_108 rfl (lv_at hl 2 rfl) ?_
    refine lv_iload_n hx hb dX4_runCommand_109 rfl (lv_at hl 1 rfl) ?_
    refine lv_iload_n hx hb dX4_runCommand_110 rfl (lv_at hl 0 rfl) ?_
    obtain ⟨q22, h23, hF⟩ := obind hF
    refine km_i (As := [.int (X0_number σ.2.2.2.2.2 p1 (0 : Int32)), .int (X0_number σ.2.2.2.2.2 p1 (1 : Int32))]) (ok := OK) Fc hA Z Lens.fc (c_X4_lendOut l D cI cS ad σ.2.1 σ.1 ok.1 ((X0_number σ.2.2.2.2.2 p1 (0 : Int32))) ((X0_number σ.2.2.2.2.2 p1 (1 : Int32))) q22 h23) mL_RX4_131 v_X4_lendOut ⟨rfl, rfl⟩ ⟨Nat.le_of_ble_eq_true rfl, Nat.le_of_ble_eq_true rfl⟩ ⟨Nat.zero_le _, Nat.zero_le _⟩ 0 4 rfl rfl rfl hl (Nat.le_of_ble_eq_true rfl) dX4_runCommand_111 rfl (fun H locs ok1 Z => ?_)
    obtain ⟨σ24, e25, hF⟩ := bnd_el hF
    have Z : Ix D A s (fW ad cI cS σ24) H locs := by rw [e25]; exact Z
    have ok : OKF σ24 := by rw [e25]; exact okf_N ok ok1
    exact kret q22.1 σ24 _ _ _ _ ⟨(pfst (Option.some.inj hF)), psnd (Option.some.inj hF), ok⟩ Z dX4_runCommand_114
  rw [if_neg c21] at hF
  rcases Decidable.em ((X0_letter σ.2.2.2.2.2 p1) = (112 : Int32)) with c26 | c26
  · rw [if_pos c26] at hF
    refine lv_tableIn (off := 129) (tgt := 157) hx hb dX4_runCommand_28 (by rw [c26]; decide) (by rw [c26]; decide) (by rw [c26]; decide) (by decide) ?_
    refine lv_aload_n hx hb dX4_runCommand_157 rfl (lv_at hl 2 rfl) ?_
    refine lv_iconst (v := (3 : Int32)) hx hb dX4_runCommand_158 (by decide) ?_
    refine lv_iload_n hx hb dX4_runCommand_159 rfl (lv_at hl 1 rfl) ?_
    refine lv_iload_n hx hb dX4_runCommand_160 rfl (lv_at hl 0 rfl) ?_
    obtain ⟨q27, e28, hF⟩ := bnd_el hF
    refine km_i (As := [.int (3 : Int32), .int (X0_number σ.2.2.2.2.2 p1 (0 : Int32)), .int (X0_number σ.2.2.2.2.2 p1 (1 : Int32))]) (ok := OK) Fc hA Z Lens.fc (c_X4_credit l D cI cS ad σ.2.1 σ.1 ok.1 (3 : Int32) ((X0_number σ.2.2.2.2.2 p1 (0 : Int32))) ((X0_number σ.2.2.2.2.2 p1 (1 : Int32))) q27 e28.symm) mL_RX4_241 v_X4_credit ⟨rfl, rfl⟩ ⟨Nat.le_of_ble_eq_true rfl, Nat.le_of_ble_eq_true rfl⟩ ⟨Nat.zero_le _, Nat.zero_le _⟩ 0 4 rfl rfl rfl hl (Nat.le_of_ble_eq_true rfl) dX4_runCommand_161 rfl (fun H locs ok1 Z => ?_)
    obtain ⟨σ29, e30, hF⟩ := bnd_el hF
    have Z : Ix D A s (fW ad cI cS σ29) H locs := by rw [e30]; exact Z
    have ok : OKF σ29 := by rw [e30]; exact okf_N ok ok1
    exact kret q27.1 σ29 _ _ _ _ ⟨(pfst (Option.some.inj hF)), psnd (Option.some.inj hF), ok⟩ Z dX4_runCommand_164
  rw [if_neg c26] at hF
  rcases Decidable.em ((X0_letter σ.2.2.2.2.2 p1) = (114 : Int32)) with c31 | c31
  · rw [if_pos c31] at hF
    refine lv_tableIn (off := 117) (tgt := 145) hx hb dX4_runCommand_28 (by rw [c31]; decide) (by rw [c31]; decide) (by rw [c31]; decide) (by decide) ?_
    refine lv_aload_n hx hb dX4_runCommand_145 rfl (lv_at hl 2 rfl) ?_
    refine lv_iload_n hx hb dX4_runCommand_146 rfl (lv_at hl 1 rfl) ?_
    obtain ⟨q32, h33, hF⟩ := obind hF
    refine km_i (As := [.int (X0_number σ.2.2.2.2.2 p1 (0 : Int32))]) (ok := OK) Fc hA Z Lens.fc (c_X4_renewLoan l D cI cS ad σ.2.1 σ.1 ok.1 ((X0_number σ.2.2.2.2.2 p1 (0 : Int32))) q32 h33) mL_RX4_167 v_X4_renewLoan ⟨rfl, rfl⟩ ⟨Nat.le_of_ble_eq_true rfl, Nat.le_of_ble_eq_true rfl⟩ ⟨Nat.zero_le _, Nat.zero_le _⟩ 0 4 rfl rfl rfl hl (Nat.le_of_ble_eq_true rfl) dX4_runCommand_147 rfl (fun H locs ok1 Z => ?_)
    obtain ⟨σ34, e35, hF⟩ := bnd_el hF
    have Z : Ix D A s (fW ad cI cS σ34) H locs := by rw [e35]; exact Z
    have ok : OKF σ34 := by rw [e35]; exact okf_N ok ok1
    exact kret q32.1 σ34 _ _ _ _ ⟨(pfst (Option.some.inj hF)), psnd (Option.some.inj hF), ok⟩ Z dX4_runCommand_150
  rw [if_neg c31] at hF
  refine kdflt (tgt := 165) hx hb dX4_runCommand_28 [(99 : Int32), (100 : Int32), (104 : Int32), (105 : Int32), (111 : Int32), (112 : Int32), (114 : Int32)] (by decide) (by intro v hv; simp only [List.mem_cons, List.not_mem_nil, or_false] at hv; rcases hv with rfl | rfl | rfl | rfl | rfl | rfl | rfl <;> assumption) (by decide) ?_
  refine lv_iconst (v := (-1 : Int32)) hx hb dX4_runCommand_165 (by decide) ?_
  exact kret (-1 : Int32) σ _ _ _ _ ⟨(pfst (Option.some.inj hF)), psnd (Option.some.inj hF), ok⟩ Z dX4_runCommand_166
def X4_execute_L41 (x2 : Int32) : Nat → Int32 → Fs → Option (Int32 × Fs)
  | 0, _, _ => none
  | k + 1, x3, σ => if x2 ≤ x3 then (bnd (X4_settle σ x2) fun q2 => some (q2.1, q2.2)) else (X4_runCommand σ x3).bind fun q4 => if 0 ≤ q4.1 then (X4_execute_L41 x2 k ((x3 + (1 : Int32))) q4.2) else bnd (q4.2.2.2.1, q4.2.2) fun σ7 => some ((((-300 : Int32) - x3), σ7))
def X4_execute (σ : Fs) : Option (Int32 × Fs) := (X0_readAll σ.2.2.2.2.2).bind fun q9 => bnd (σ.1, frX σ.2 q9.2) fun σ11 => bnd (X0_emptyBuffer σ11.2.2.2.2.2) fun q13 => bnd (σ11.1, frX σ11.2 q13) fun σ15 => if (bi q9.1) = 0 then (some ((((-200 : Int32) - (X0_position σ15.2.2.2.2.2)), σ15))) else X4_execute_L41 (X0_commandCount σ15.2.2.2.2.2) FU (0 : Int32) σ15
def rm_X4_execute : Room := { frames := 7, cells := 0, slots := 0, locals := 165 }
theorem v_X4_execute : WdV RX4 yX4_execute cX4_execute 4 (some .int) 0 := ⟨mI_X4_execute, mS_X4_execute, mZ_RX4, mC_X4_execute, by decide +kernel⟩
set_option maxHeartbeats 8000000 in
set_option maxRecDepth 100000 in
theorem c_X4_execute (l : Launch) (D : va_G) (cI cS : ClassId) (ad : Nat → Nat) (σ : Fs) (ok : OKF σ) (F : Int32 × Fs) (hF : X4_execute σ = some F) : MI l yX4_execute cX4_execute 4 (some .int) rm_X4_execute D cI cS [.ref (ad 0)] (fW ad cI cS σ) (fW ad cI cS) (fun r u => r = F.1 ∧ u = F.2 ∧ OKF u) := by
  refine MI.mk RX4 rfl .int rfl (by decide) (Nat.le_of_ble_eq_true rfl) (fun _ _ _ => rfl) ?_
  intro p e s m args below meth c A Q ls Fc hin hA Z kret hl
  obtain ⟨hx, hb, hml, hown, hts, hKN⟩ := id Fc
  replace hl : lv_has ls 4 [(0, .ref (ad 0))] := hl
  have L41 : ∀ (x2 : Int32) (k : Nat) (x3 : Int32) (σ : Fs) (H : Heap) (locs : List Loc) (ls : Array Slot), X4_execute_L41 x2  k x3 σ = some F → OKF σ → Ix D A s (fW ad cI cS σ) H locs → lv_has ls 4 [(0, .ref (ad 0)), (2, .int x2), (3, .int x3)] → W p l e rm_X4_execute s m args below meth c H locs 0 0 Q (F0 m 41 ls []) := by
    intro x2 k
    induction k with
    | zero => intro x3 σ H locs ls hF; rw [X4_execute_L41] at hF; cases hF
    | succ k ih =>
      intro x3 σ H locs ls hF ok Z hl
      rw [X4_execute_L41] at hF
      refine lv_iload_n hx hb dX4_execute_41 rfl (lv_at hl 2 rfl) ?_
      refine lv_iload_n hx hb dX4_execute_42 rfl (lv_at hl 1 rfl) ?_
      refine lv_icmp_ge (tgt := 77) hx hb dX4_execute_43 (by decide) (fun c1 => ?_) (fun c1 => ?_)
      · rw [if_pos c1] at hF
        refine lv_aload_n hx hb dX4_execute_77 rfl (lv_at hl 0 rfl) ?_
        refine lv_iload_n hx hb dX4_execute_78 rfl (lv_at hl 1 rfl) ?_
        obtain ⟨q2, e3, hF⟩ := bnd_el hF
        refine km_i (As := [.int x2]) (ok := OKF) Fc hA Z Lens.all (c_X4_settle l D cI cS ad σ ok x2 q2 e3.symm) mL_RX4_65 v_X4_settle ⟨rfl, rfl⟩ ⟨Nat.le_of_ble_eq_true rfl, Nat.le_of_ble_eq_true rfl⟩ ⟨Nat.zero_le _, Nat.zero_le _⟩ 0 4 rfl rfl rfl hl (Nat.le_of_ble_eq_true rfl) dX4_execute_79 rfl (fun H locs ok1 Z => ?_)
        have ok := ok1
        exact kret q2.1 q2.2 _ _ _ _ ⟨(pfst (Option.some.inj hF)), psnd (Option.some.inj hF), ok⟩ Z dX4_execute_82
      · rw [if_neg c1] at hF
        refine lv_aload_n hx hb dX4_execute_46 rfl (lv_at hl 0 rfl) ?_
        refine lv_iload_n hx hb dX4_execute_47 rfl (lv_at hl 2 rfl) ?_
        obtain ⟨q4, h5, hF⟩ := obind hF
        refine km_i (As := [.int x3]) (ok := OKF) Fc hA Z Lens.all (c_X4_runCommand l D cI cS ad σ ok x3 q4 h5) mL_RX4_266 v_X4_runCommand ⟨rfl, rfl⟩ ⟨Nat.le_of_ble_eq_true rfl, Nat.le_of_ble_eq_true rfl⟩ ⟨Nat.zero_le _, Nat.zero_le _⟩ 0 4 rfl rfl rfl hl (Nat.le_of_ble_eq_true rfl) dX4_execute_48 rfl (fun H locs ok1 Z => ?_)
        have ok := ok1
        refine lv_if_ge (tgt := 71) hx hb dX4_execute_51 (by decide) (fun c6 => ?_) (fun c6 => ?_)
        · rw [if_pos c6] at hF
          refine lv_iinc (v := (x3 + (1 : Int32))) (lv' := [(3, .int (x3 + (1 : Int32))), (0, .ref (ad 0)), (2, .int x2)]) hx hb dX4_execute_71 hl (k := 2) rfl (by rfl) (by decide) rfl (fun ls hl => ?_)
          refine lv_goto (tgt := 41) hx hb dX4_execute_74 (by decide) ?_
          exact ih ((x3 + (1 : Int32))) q4.2 _ _ _ hF ok Z (lv_sub hl [1, 2, 0] rfl)
        · rw [if_neg c6] at hF
          refine lv_aload_n hx hb dX4_execute_54 rfl (lv_at hl 0 rfl) ?_
          refine kget Fc Z inX4 0 rfl rfl 0 (by decide) mF_RX4_10 rfl rfl dX4_execute_55 ?_
          refine lv_aload_n hx hb dX4_execute_58 rfl (lv_at hl 0 rfl) ?_
          refine kget Fc Z inX4 0 rfl rfl 1 (by decide) mF_RX4_16 rfl rfl dX4_execute_59 ?_
          refine kv_i (As := [.ref (ad 12)]) (ok := fun _ : St => True) Fc hA Z Lens.fns (c_X2_copyFrom l D cI cS ad 1 12 q4.2.1 q4.2.2.2.1) mL_RX4_269 v_X2_copyFrom ⟨rfl, rfl⟩ ⟨Nat.le_of_ble_eq_true rfl, Nat.le_of_ble_eq_true rfl⟩ ⟨Nat.zero_le _, Nat.zero_le _⟩ 1 2 rfl rfl rfl hl (Nat.le_of_ble_eq_true rfl) dX4_execute_62 rfl (fun H locs _ Z => ?_)
          obtain ⟨σ7, e8, hF⟩ := bnd_el hF
          have Z : Ix D A s (fW ad cI cS σ7) H locs := by rw [e8]; exact Z
          have ok : OKF σ7 := by rw [e8]; exact okf_N ok ok.2.1
          refine lv_sipush (v := (-300 : Int32)) hx hb dX4_execute_65 (by decide) ?_
          refine lv_iload_n hx hb dX4_execute_68 rfl (lv_at hl 2 rfl) ?_
          refine lv_isub hx hb dX4_execute_69 ?_
          exact kret (((-300 : Int32) - x3)) σ7 _ _ _ _ ⟨(pfst (Option.some.inj hF)), psnd (Option.some.inj hF), ok⟩ Z dX4_execute_70
  unfold X4_execute at hF
  refine lv_aload_n hx hb dX4_execute_0 rfl (lv_at hl 0 rfl) ?_
  refine kget Fc Z inX4 0 rfl rfl 5 (by decide) mF_RX4_36 rfl rfl dX4_execute_1 ?_
  obtain ⟨q9, h10, hF⟩ := obind hF
  refine km_i (q := (bi q9.1, q9.2)) (As := []) (ok := (fun u : Xs => tbOK 15 u.2)) Fc hA Z Lens.ft (c_X0_readAll l D cI cS ad σ.2.2.2.2.2 ok.2.2.2.2.2  q9 h10) mL_RX4_253 v_X0_readAll ⟨rfl, rfl⟩ ⟨Nat.le_of_ble_eq_true rfl, Nat.le_of_ble_eq_true rfl⟩ ⟨Nat.zero_le _, Nat.zero_le _⟩ 124 0 rfl rfl rfl hl (Nat.le_of_ble_eq_true rfl) dX4_execute_4 rfl (fun H locs ok1 Z => ?_)
  obtain ⟨σ11, e12, hF⟩ := bnd_el hF
  have Z : Ix D A s (fW ad cI cS σ11) H locs := by rw [e12]; exact Z
  have ok : OKF σ11 := by rw [e12]; exact okf_X ok ok1
  refine lv_istore_n (lv' := [(1, .int (bi q9.1)), (0, .ref (ad 0))]) hx hb dX4_execute_7 rfl hl (by decide) rfl (fun ls hl => ?_)
  refine lv_aload_n hx hb dX4_execute_8 rfl (lv_at hl 1 rfl) ?_
  refine kget Fc Z inX4 0 rfl rfl 5 (by decide) mF_RX4_36 rfl rfl dX4_execute_9 ?_
  obtain ⟨q13, e14, hF⟩ := bnd_el hF
  refine kv_i (As := []) (ok := (fun u : Xs => tbOK 15 u.2)) Fc hA Z Lens.ft (c_X0_emptyBuffer l D cI cS ad σ11.2.2.2.2.2 ok.2.2.2.2.2  q13 e14.symm) mL_RX4_257 v_X0_emptyBuffer ⟨rfl, rfl⟩ ⟨Nat.le_of_ble_eq_true rfl, Nat.le_of_ble_eq_true rfl⟩ ⟨Nat.zero_le _, Nat.zero_le _⟩ 124 0 rfl rfl rfl hl (Nat.le_of_ble_eq_true rfl) dX4_execute_12 rfl (fun H locs ok1 Z => ?_)
  obtain ⟨σ15, e16, hF⟩ := bnd_el hF
  have Z : Ix D A s (fW ad cI cS σ15) H locs := by rw [e16]; exact Z
  have ok : OKF σ15 := by rw [e16]; exact okf_X ok ok1
  refine lv_iload_n hx hb dX4_execute_15 rfl (lv_at hl 0 rfl) ?_
  refine lv_if_ne (tgt := 31) hx hb dX4_execute_16 (by decide) (fun c17 => ?_) (fun c17 => ?_)
  · rw [if_neg c17] at hF
    refine lv_aload_n hx hb dX4_execute_31 rfl (lv_at hl 1 rfl) ?_
    refine kget Fc Z inX4 0 rfl rfl 5 (by decide) mF_RX4_36 rfl rfl dX4_execute_32 ?_
    refine kr_i (As := []) Fc hA Z Lens.ft (c_X0_commandCount l D cI cS ad σ15.2.2.2.2.2 ok.2.2.2.2.2  (X0_commandCount σ15.2.2.2.2.2) rfl) mL_RX4_263 v_X0_commandCount ⟨rfl, rfl⟩ ⟨Nat.le_of_ble_eq_true rfl, Nat.le_of_ble_eq_true rfl⟩ ⟨Nat.zero_le _, Nat.zero_le _⟩ 124 0 rfl rfl rfl hl (Nat.le_of_ble_eq_true rfl) dX4_execute_35 rfl (fun H locs Z => ?_)
    refine lv_istore_n (lv' := [(2, .int (X0_commandCount σ15.2.2.2.2.2)), (1, .int (bi q9.1)), (0, .ref (ad 0))]) hx hb dX4_execute_38 rfl hl (by decide) rfl (fun ls hl => ?_)
    refine lv_iconst (v := (0 : Int32)) hx hb dX4_execute_39 (by decide) ?_
    refine lv_istore_n (lv' := [(3, .int (0 : Int32)), (2, .int (X0_commandCount σ15.2.2.2.2.2)), (1, .int (bi q9.1)), (0, .ref (ad 0))]) hx hb dX4_execute_40 rfl hl (by decide) rfl (fun ls hl => ?_)
    exact L41 (X0_commandCount σ15.2.2.2.2.2) FU (0 : Int32) σ15 _ _ _ hF ok Z (lv_sub hl [3, 1, 0] rfl)
  · rw [if_pos c17] at hF
    refine lv_sipush (v := (-200 : Int32)) hx hb dX4_execute_19 (by decide) ?_
    refine lv_aload_n hx hb dX4_execute_22 rfl (lv_at hl 1 rfl) ?_
    refine kget Fc Z inX4 0 rfl rfl 5 (by decide) mF_RX4_36 rfl rfl dX4_execute_23 ?_
    refine kr_i (As := []) Fc hA Z Lens.ft (c_X0_position l D cI cS ad σ15.2.2.2.2.2 ok.2.2.2.2.2  (X0_position σ15.2.2.2.2.2) rfl) mL_RX4_260 v_X0_position ⟨rfl, rfl⟩ ⟨Nat.le_of_ble_eq_true rfl, Nat.le_of_ble_eq_true rfl⟩ ⟨Nat.zero_le _, Nat.zero_le _⟩ 124 0 rfl rfl rfl hl (Nat.le_of_ble_eq_true rfl) dX4_execute_26 rfl (fun H locs Z => ?_)
    refine lv_isub hx hb dX4_execute_29 ?_
    exact kret (((-200 : Int32) - (X0_position σ15.2.2.2.2.2))) σ15 _ _ _ _ ⟨(pfst (Option.some.inj hF)), psnd (Option.some.inj hF), ok⟩ Z dX4_execute_30
def X4_save (σ : Fs) : Int32 × Fs := bnd (σ.1, frV σ.2 σ.1) fun σ1 => bnd (σ1.1, (true, σ1.2.2)) fun σ3 => (σ3.1.2, σ3)
def rm_X4_save : Room := { frames := 3, cells := 0, slots := 0, locals := 102 }
theorem v_X4_save : WdV RX4 yX4_save cX4_save 1 (some .int) 0 := ⟨mI_X4_save, mS_X4_save, mZ_RX4, mC_X4_save, by decide +kernel⟩
set_option maxHeartbeats 8000000 in
set_option maxRecDepth 100000 in
theorem c_X4_save (l : Launch) (D : va_G) (cI cS : ClassId) (ad : Nat → Nat) (σ : Fs) (ok : OKF σ) (F : Int32 × Fs) (hF : X4_save σ = F) : MI l yX4_save cX4_save 1 (some .int) rm_X4_save D cI cS [.ref (ad 0)] (fW ad cI cS σ) (fW ad cI cS) (fun r u => r = F.1 ∧ u = F.2 ∧ OKF u) := by
  refine MI.mk RX4 rfl .int rfl (by decide) (Nat.le_of_ble_eq_true rfl) (fun _ _ _ => rfl) ?_
  intro p e s m args below meth c A Q ls Fc hin hA Z kret hl
  obtain ⟨hx, hb, hml, hown, hts, hKN⟩ := id Fc
  replace hl : lv_has ls 1 [(0, .ref (ad 0))] := hl
  unfold X4_save at hF
  refine lv_aload_n hx hb dX4_save_0 rfl (lv_at hl 0 rfl) ?_
  refine kget Fc Z inX4 0 rfl rfl 2 (by decide) mF_RX4_19 rfl rfl dX4_save_1 ?_
  refine lv_aload_n hx hb dX4_save_4 rfl (lv_at hl 0 rfl) ?_
  refine kget Fc Z inX4 0 rfl rfl 0 (by decide) mF_RX4_10 rfl rfl dX4_save_5 ?_
  refine kv_i (As := [.ref (ad 1)]) (ok := fun _ : St => True) Fc hA Z Lens.fvn (c_X2_copyFrom l D cI cS ad 23 1 σ.2.2.2.1 σ.1) mL_RX4_269 v_X2_copyFrom ⟨rfl, rfl⟩ ⟨Nat.le_of_ble_eq_true rfl, Nat.le_of_ble_eq_true rfl⟩ ⟨Nat.zero_le _, Nat.zero_le _⟩ 23 2 rfl rfl rfl hl (Nat.le_of_ble_eq_true rfl) dX4_save_8 rfl (fun H locs _ Z => ?_)
  obtain ⟨σ1, e2, hF⟩ := bnd_el hF
  have Z : Ix D A s (fW ad cI cS σ1) H locs := by rw [e2]; exact Z
  have ok : OKF σ1 := by rw [e2]; exact okf_V ok ok.1
  refine lv_aload_n hx hb dX4_save_11 rfl (lv_at hl 0 rfl) ?_
  refine lv_iconst (v := (1 : Int32)) hx hb dX4_save_12 (by decide) ?_
  obtain ⟨σ3, e4, hF⟩ := bnd_el hF
  refine kput (v := .int (bi true)) (ty := .boolean) (w' := fW ad cI cS σ3) Fc Z inX4 tyX4 tyX4_ok nmX4 0 rfl rfl 3 (by decide) mF_RX4_22 rfl rfl rfl (bi_nar true) (bi_fit true) (Nat.le_of_ble_eq_true rfl) (by rw [e4]; rfl) dX4_save_13 (fun H locs Z => ?_)
  have ok : OKF σ3 := by rw [e4]; exact ok
  refine lv_aload_n hx hb dX4_save_16 rfl (lv_at hl 0 rfl) ?_
  refine kget Fc Z inX4 0 rfl rfl 0 (by decide) mF_RX4_10 rfl rfl dX4_save_17 ?_
  refine kgetN Fc Z inX2 1 rfl rfl 5 (by decide) nw_RX4_98 rfl rfl dX4_save_20 ?_
  exact kret σ3.1.2 σ3 _ _ _ _ ⟨(pfst hF), psnd hF, ok⟩ Z dX4_save_23
def X4_restore (σ : Fs) : Int32 × Fs := if (bi σ.2.1) = 0 then (((-2 : Int32), σ)) else bnd (σ.2.2.2.1, σ.2) fun σ2 => bnd (X4_settle σ2 σ2.1.2) fun q4 => (q4.1, q4.2)
def rm_X4_restore : Room := { frames := 6, cells := 0, slots := 0, locals := 165 }
theorem v_X4_restore : WdV RX4 yX4_restore cX4_restore 1 (some .int) 0 := ⟨mI_X4_restore, mS_X4_restore, mZ_RX4, mC_X4_restore, by decide +kernel⟩
set_option maxHeartbeats 8000000 in
set_option maxRecDepth 100000 in
theorem c_X4_restore (l : Launch) (D : va_G) (cI cS : ClassId) (ad : Nat → Nat) (σ : Fs) (ok : OKF σ) (F : Int32 × Fs) (hF : X4_restore σ = F) : MI l yX4_restore cX4_restore 1 (some .int) rm_X4_restore D cI cS [.ref (ad 0)] (fW ad cI cS σ) (fW ad cI cS) (fun r u => r = F.1 ∧ u = F.2 ∧ OKF u) := by
  refine MI.mk RX4 rfl .int rfl (by decide) (Nat.le_of_ble_eq_true rfl) (fun _ _ _ => rfl) ?_
  intro p e s m args below meth c A Q ls Fc hin hA Z kret hl
  obtain ⟨hx, hb, hml, hown, hts, hKN⟩ := id Fc
  replace hl : lv_has ls 1 [(0, .ref (ad 0))] := hl
  unfold X4_restore at hF
  refine lv_aload_n hx hb dX4_restore_0 rfl (lv_at hl 0 rfl) ?_
  refine kget Fc Z inX4 0 rfl rfl 3 (by decide) mF_RX4_22 rfl rfl dX4_restore_1 ?_
  refine lv_if_ne (tgt := 10) hx hb dX4_restore_4 (by decide) (fun c1 => ?_) (fun c1 => ?_)
  · rw [if_neg c1] at hF
    refine lv_aload_n hx hb dX4_restore_10 rfl (lv_at hl 0 rfl) ?_
    refine kget Fc Z inX4 0 rfl rfl 0 (by decide) mF_RX4_10 rfl rfl dX4_restore_11 ?_
    refine lv_aload_n hx hb dX4_restore_14 rfl (lv_at hl 0 rfl) ?_
    refine kget Fc Z inX4 0 rfl rfl 2 (by decide) mF_RX4_19 rfl rfl dX4_restore_15 ?_
    refine kv_i (As := [.ref (ad 23)]) (ok := fun _ : St => True) Fc hA Z Lens.fnv (c_X2_copyFrom l D cI cS ad 1 23 σ.1 σ.2.2.2.1) mL_RX4_269 v_X2_copyFrom ⟨rfl, rfl⟩ ⟨Nat.le_of_ble_eq_true rfl, Nat.le_of_ble_eq_true rfl⟩ ⟨Nat.zero_le _, Nat.zero_le _⟩ 1 2 rfl rfl rfl hl (Nat.le_of_ble_eq_true rfl) dX4_restore_18 rfl (fun H locs _ Z => ?_)
    obtain ⟨σ2, e3, hF⟩ := bnd_el hF
    have Z : Ix D A s (fW ad cI cS σ2) H locs := by rw [e3]; exact Z
    have ok : OKF σ2 := by rw [e3]; exact okf_N ok ok.2.2.1
    refine lv_aload_n hx hb dX4_restore_21 rfl (lv_at hl 0 rfl) ?_
    refine lv_aload_n hx hb dX4_restore_22 rfl (lv_at hl 0 rfl) ?_
    refine kget Fc Z inX4 0 rfl rfl 0 (by decide) mF_RX4_10 rfl rfl dX4_restore_23 ?_
    refine kgetN Fc Z inX2 1 rfl rfl 5 (by decide) nw_RX4_98 rfl rfl dX4_restore_26 ?_
    obtain ⟨q4, e5, hF⟩ := bnd_el hF
    refine km_i (As := [.int σ2.1.2]) (ok := OKF) Fc hA Z Lens.all (c_X4_settle l D cI cS ad σ2 ok σ2.1.2 q4 e5.symm) mL_RX4_65 v_X4_settle ⟨rfl, rfl⟩ ⟨Nat.le_of_ble_eq_true rfl, Nat.le_of_ble_eq_true rfl⟩ ⟨Nat.zero_le _, Nat.zero_le _⟩ 0 4 rfl rfl rfl hl (Nat.le_of_ble_eq_true rfl) dX4_restore_29 rfl (fun H locs ok1 Z => ?_)
    have ok := ok1
    exact kret q4.1 q4.2 _ _ _ _ ⟨(pfst hF), psnd hF, ok⟩ Z dX4_restore_32
  · rw [if_pos c1] at hF
    refine lv_bipush (v := (-2 : Int32)) hx hb dX4_restore_7 (by decide) ?_
    exact kret (-2 : Int32) σ _ _ _ _ ⟨(pfst hF), psnd hF, ok⟩ Z dX4_restore_9
def X4_undo (σ : Fs) : Int32 × Fs := if (bi (decide (σ.2.2.2.2.1.2.2 = 0))) = 0 then (bnd ((hpop σ.2.2.2.2.1 σ.1).2, frH σ.2 (hpop σ.2.2.2.2.1 σ.1).1) fun σ2 => bnd (σ2.1, frS σ2.2 σ2.1) fun σ4 => (σ4.2.2.2.2.1.2.2, σ4)) else ((-2 : Int32), σ)
def rm_X4_undo : Room := { frames := 4, cells := 0, slots := 0, locals := 124 }
theorem v_X4_undo : WdV RX4 yX4_undo cX4_undo 1 (some .int) 0 := ⟨mI_X4_undo, mS_X4_undo, mZ_RX4, mC_X4_undo, by decide +kernel⟩
set_option maxHeartbeats 8000000 in
set_option maxRecDepth 100000 in
theorem c_X4_undo (l : Launch) (D : va_G) (cI cS : ClassId) (ad : Nat → Nat) (σ : Fs) (ok : OKF σ) (F : Int32 × Fs) (hF : X4_undo σ = F) : MI l yX4_undo cX4_undo 1 (some .int) rm_X4_undo D cI cS [.ref (ad 0)] (fW ad cI cS σ) (fW ad cI cS) (fun r u => r = F.1 ∧ u = F.2 ∧ OKF u) := by
  refine MI.mk RX4 rfl .int rfl (by decide) (Nat.le_of_ble_eq_true rfl) (fun _ _ _ => rfl) ?_
  intro p e s m args below meth c A Q ls Fc hin hA Z kret hl
  obtain ⟨hx, hb, hml, hown, hts, hKN⟩ := id Fc
  replace hl : lv_has ls 1 [(0, .ref (ad 0))] := hl
  unfold X4_undo at hF
  refine lv_aload_n hx hb dX4_undo_0 rfl (lv_at hl 0 rfl) ?_
  refine kget Fc Z inX4 0 rfl rfl 4 (by decide) mF_RX4_29 rfl rfl dX4_undo_1 ?_
  refine kr_i (As := []) Fc hA Z Lens.fo (c_X1_isEmpty l D cI cS ad σ.2.2.2.2.1.2) mL_RX4_279 v_X1_isEmpty ⟨rfl, rfl⟩ ⟨Nat.le_of_ble_eq_true rfl, Nat.le_of_ble_eq_true rfl⟩ ⟨Nat.zero_le _, Nat.zero_le _⟩ 34 1 rfl rfl rfl hl (Nat.le_of_ble_eq_true rfl) dX4_undo_4 rfl (fun H locs Z => ?_)
  refine lv_if_eq (tgt := 13) hx hb dX4_undo_7 (by decide) (fun c1 => ?_) (fun c1 => ?_)
  · rw [if_pos c1] at hF
    refine lv_aload_n hx hb dX4_undo_13 rfl (lv_at hl 0 rfl) ?_
    refine kget Fc Z inX4 0 rfl rfl 4 (by decide) mF_RX4_29 rfl rfl dX4_undo_14 ?_
    refine lv_aload_n hx hb dX4_undo_17 rfl (lv_at hl 0 rfl) ?_
    refine kget Fc Z inX4 0 rfl rfl 0 (by decide) mF_RX4_10 rfl rfl dX4_undo_18 ?_
    refine kv_i (u0 := (σ.2.2.2.2.1, σ.1)) (As := [.ref (ad 1)]) (ok := fun q : Hs × St => HOK q.1) Fc hA Z Lens.fpn (c_X1_pop l D cI cS ad 1 σ.2.2.2.2.1 ok.2.2.2.2.1 σ.1 (hpop σ.2.2.2.2.1 σ.1) rfl) mL_RX4_282 v_X1_pop ⟨rfl, rfl⟩ ⟨Nat.le_of_ble_eq_true rfl, Nat.le_of_ble_eq_true rfl⟩ ⟨Nat.zero_le _, Nat.zero_le _⟩ 34 1 rfl rfl rfl hl (Nat.le_of_ble_eq_true rfl) dX4_undo_21 rfl (fun H locs ok1 Z => ?_)
    obtain ⟨σ2, e3, hF⟩ := bnd_el hF
    have Z : Ix D A s (fW ad cI cS σ2) H locs := by rw [e3]; exact Z
    have ok : OKF σ2 := by rw [e3]; exact okf_pop ok ok1
    refine lv_aload_n hx hb dX4_undo_24 rfl (lv_at hl 0 rfl) ?_
    refine kget Fc Z inX4 0 rfl rfl 1 (by decide) mF_RX4_16 rfl rfl dX4_undo_25 ?_
    refine lv_aload_n hx hb dX4_undo_28 rfl (lv_at hl 0 rfl) ?_
    refine kget Fc Z inX4 0 rfl rfl 0 (by decide) mF_RX4_10 rfl rfl dX4_undo_29 ?_
    refine kv_i (As := [.ref (ad 1)]) (ok := fun _ : St => True) Fc hA Z Lens.fsn (c_X2_copyFrom l D cI cS ad 12 1 σ2.2.2.1 σ2.1) mL_RX4_269 v_X2_copyFrom ⟨rfl, rfl⟩ ⟨Nat.le_of_ble_eq_true rfl, Nat.le_of_ble_eq_true rfl⟩ ⟨Nat.zero_le _, Nat.zero_le _⟩ 12 2 rfl rfl rfl hl (Nat.le_of_ble_eq_true rfl) dX4_undo_32 rfl (fun H locs _ Z => ?_)
    obtain ⟨σ4, e5, hF⟩ := bnd_el hF
    have Z : Ix D A s (fW ad cI cS σ4) H locs := by rw [e5]; exact Z
    have ok : OKF σ4 := by rw [e5]; exact okf_S ok ok.1
    refine lv_aload_n hx hb dX4_undo_35 rfl (lv_at hl 0 rfl) ?_
    refine kget Fc Z inX4 0 rfl rfl 4 (by decide) mF_RX4_29 rfl rfl dX4_undo_36 ?_
    refine kr_i (As := []) Fc hA Z Lens.fo (c_X1_size l D cI cS ad σ4.2.2.2.2.1.2) mL_RX4_285 v_X1_size ⟨rfl, rfl⟩ ⟨Nat.le_of_ble_eq_true rfl, Nat.le_of_ble_eq_true rfl⟩ ⟨Nat.zero_le _, Nat.zero_le _⟩ 34 1 rfl rfl rfl hl (Nat.le_of_ble_eq_true rfl) dX4_undo_39 rfl (fun H locs Z => ?_)
    exact kret σ4.2.2.2.2.1.2.2 σ4 _ _ _ _ ⟨(pfst hF), psnd hF, ok⟩ Z dX4_undo_42
  · rw [if_neg c1] at hF
    refine lv_bipush (v := (-2 : Int32)) hx hb dX4_undo_10 (by decide) ?_
    exact kret (-2 : Int32) σ _ _ _ _ ⟨(pfst hF), psnd hF, ok⟩ Z dX4_undo_12
