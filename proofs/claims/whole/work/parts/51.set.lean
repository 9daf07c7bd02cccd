/-! SETTINGS: the ranges stand in static rows -/
def X4_isInRange (p0 p1 : Int32) : Option (Bool) := if p0 < 0 then (some false) else if (8 : Int32) ≤ p0 then (some false) else if p0 < (8 : Int32) then ((rdA vLo 8 p0).bind fun v4 => if p1 < v4 then (some false) else (rdA vHi 8 p0).bind fun v7 => if v7 < p1 then (some false) else some true) else some false
def rm_X4_isInRange : Room := { frames := 0, cells := 0, slots := 0, locals := 0 }
theorem v_X4_isInRange : WdS RX4 yX4_isInRange cX4_isInRange 2 (some .boolean) 2 := ⟨mT_X4_isInRange, mZ_RX4, mC_X4_isInRange, by decide +kernel⟩
set_option maxHeartbeats 8000000 in
set_option maxRecDepth 100000 in
theorem c_X4_isInRange (l : Launch) (D : va_G) (cI cS : ClassId) (tF tL tH : Nat)  (p0 p1 : Int32) (F : Bool) (hF : X4_isInRange p0 p1 = some F) : MIE tF tL tH l yX4_isInRange cX4_isInRange 2 (some .boolean) rm_X4_isInRange D cI cS [.int p0, .int p1] (([] : va_W)) (fun _ : Unit => ([] : va_W)) (fun r _ => r = bi F) := by
  refine MIE.mk RX4 rfl .boolean rfl (by decide) (Nat.le_of_ble_eq_true rfl) (fun r u h => by rw [h]; exact bi_nar _) ?_
  intro p e s m args below meth c A Q ls Fc hE hA Z kret hl
  obtain ⟨hx, hb, hml, hown, hts, hKN⟩ := id Fc
  replace hl : lv_has ls 2 [(0, .int p0), (1, .int p1)] := hl
  unfold X4_isInRange at hF
  refine lv_iload_n hx hb dX4_isInRange_0 rfl (lv_at hl 0 rfl) ?_
  refine lv_if_lt (tgt := 20) hx hb dX4_isInRange_1 (by decide) (fun c1 => ?_) (fun c1 => ?_)
  · rw [if_pos c1] at hF
    refine lv_iconst (v := (0 : Int32)) hx hb dX4_isInRange_20 (by decide) ?_
    exact kret (0 : Int32) () _ _ _ _ (congrArg bi (Option.some.inj hF)) Z dX4_isInRange_21
  · rw [if_neg c1] at hF
    refine lv_iload_n hx hb dX4_isInRange_4 rfl (lv_at hl 0 rfl) ?_
    refine kgets Fc hE.2.1 Z mF_RX4_289 dX4_isInRange_5 ?_
    refine ktlen Fc hE.2.1 Z dX4_isInRange_8 ?_
    refine lv_icmp_ge (tgt := 20) hx hb dX4_isInRange_9 (by decide) (fun c2 => ?_) (fun c2 => ?_)
    · rw [if_pos c2] at hF
      refine lv_iconst (v := (0 : Int32)) hx hb dX4_isInRange_20 (by decide) ?_
      exact kret (0 : Int32) () _ _ _ _ (congrArg bi (Option.some.inj hF)) Z dX4_isInRange_21
    · rw [if_neg c2] at hF
      refine lv_iload_n hx hb dX4_isInRange_12 rfl (lv_at hl 0 rfl) ?_
      refine kgets Fc hE.2.2.1 Z mF_RX4_293 dX4_isInRange_13 ?_
      refine ktlen Fc hE.2.2.1 Z dX4_isInRange_16 ?_
      refine lv_icmp_lt (tgt := 22) hx hb dX4_isInRange_17 (by decide) (fun c3 => ?_) (fun c3 => ?_)
      · rw [if_pos c3] at hF
        refine lv_iload_n hx hb dX4_isInRange_22 rfl (lv_at hl 1 rfl) ?_
        refine kgets Fc hE.2.1 Z mF_RX4_289 dX4_isInRange_23 ?_
        refine lv_iload_n hx hb dX4_isInRange_26 rfl (lv_at hl 0 rfl) ?_
        obtain ⟨v4, h5, hF⟩ := obind hF
        refine ktald Fc hE.2.1 Z h5 dX4_isInRange_27 ?_
        refine lv_icmp_lt (tgt := 44) hx hb dX4_isInRange_28 (by decide) (fun c6 => ?_) (fun c6 => ?_)
        · rw [if_pos c6] at hF
          refine lv_iconst (v := (0 : Int32)) hx hb dX4_isInRange_44 (by decide) ?_
          exact kret (0 : Int32) () _ _ _ _ (congrArg bi (Option.some.inj hF)) Z dX4_isInRange_45
        · rw [if_neg c6] at hF
          refine lv_iload_n hx hb dX4_isInRange_31 rfl (lv_at hl 1 rfl) ?_
          refine kgets Fc hE.2.2.1 Z mF_RX4_293 dX4_isInRange_32 ?_
          refine lv_iload_n hx hb dX4_isInRange_35 rfl (lv_at hl 0 rfl) ?_
          obtain ⟨v7, h8, hF⟩ := obind hF
          refine ktald Fc hE.2.2.1 Z h8 dX4_isInRange_36 ?_
          refine lv_icmp_gt (tgt := 44) hx hb dX4_isInRange_37 (by decide) (fun c9 => ?_) (fun c9 => ?_)
          · rw [if_pos c9] at hF
            refine lv_iconst (v := (0 : Int32)) hx hb dX4_isInRange_44 (by decide) ?_
            exact kret (0 : Int32) () _ _ _ _ (congrArg bi (Option.some.inj hF)) Z dX4_isInRange_45
          · rw [if_neg c9] at hF
            refine lv_iconst (v := (1 : Int32)) hx hb dX4_isInRange_40 (by decide) ?_
            refine lv_goto (tgt := 45) hx hb dX4_isInRange_41 (by decide) ?_
            exact kret (1 : Int32) () _ _ _ _ (congrArg bi (Option.some.inj hF)) Z dX4_isInRange_45
      · rw [if_neg c3] at hF
        refine lv_iconst (v := (0 : Int32)) hx hb dX4_isInRange_20 (by decide) ?_
        exact kret (0 : Int32) () _ _ _ _ (congrArg bi (Option.some.inj hF)) Z dX4_isInRange_21
def X4_set (σ : Fs) (p1 p2 : Int32) : Option (Int32 × Fs) := if (bi (thas (σ.1.1 4) p1)) = 0 then (some (((-1 : Int32), σ))) else (X4_isInRange p1 p2).bind fun v2 => if (bi v2) = 0 then (some (((-1 : Int32), σ))) else bnd (tput 1 (σ.1.1 4) p1 (0 : Int32) p2) fun q5 => bnd (stT σ.1 4 q5, σ.2) fun σ7 => bnd (X4_settle σ7 (X4_valueOf σ.1 p1)) fun q9 => some (q9.1, q9.2)
def rm_X4_set : Room := { frames := 6, cells := 0, slots := 0, locals := 165 }
theorem v_X4_set : WdV RX4 yX4_set cX4_set 4 (some .int) 2 := ⟨mI_X4_set, mS_X4_set, mZ_RX4, mC_X4_set, by decide +kernel⟩
set_option maxHeartbeats 8000000 in
set_option maxRecDepth 100000 in
theorem c_X4_set (l : Launch) (D : va_G) (cI cS : ClassId) (ad : Nat → Nat) (σ : Fs) (ok : OKF σ) (tF tL tH : Nat)  (p1 p2 : Int32) (F : Int32 × Fs) (hF : X4_set σ p1 p2 = some F) : MIE tF tL tH l yX4_set cX4_set 4 (some .int) rm_X4_set D cI cS [.ref (ad 0), .int p1, .int p2] (fW ad cI cS σ) (fW ad cI cS) (fun r u => r = F.1 ∧ u = F.2 ∧ OKF u) := by
  refine MIE.mk RX4 rfl .int rfl (by decide) (Nat.le_of_ble_eq_true rfl) (fun _ _ _ => rfl) ?_
  intro p e s m args below meth c A Q ls Fc hE hA Z kret hl
  obtain ⟨hx, hb, hml, hown, hts, hKN⟩ := id Fc
  replace hl : lv_has ls 4 [(0, .ref (ad 0)), (1, .int p1), (2, .int p2)] := hl
  unfold X4_set at hF
  refine lv_aload_n hx hb dX4_set_0 rfl (lv_at hl 0 rfl) ?_
  refine kget Fc Z inX4 0 rfl rfl 0 (by decide) mF_RX4_10 rfl rfl dX4_set_1 ?_
  refine kgetN Fc Z inX2 1 rfl rfl 4 (by decide) nw_RX4_72 rfl rfl dX4_set_4 ?_
  refine lv_iload_n hx hb dX4_set_7 rfl (lv_at hl 1 rfl) ?_
  refine kr_i (As := [.int p1]) Fc hA Z (Lens.c4 (hs := σ.2.1) (τ := σ.1) (R := rW ad cI cS σ.2)) (c_X3_has l D cI cS (ad 10) (ad 11) 8 1 (8 * 1) sh4 (σ.1.1 4) ok.1.2.2.2.2 p1 (thas (σ.1.1 4) p1) rfl) mL_RX4_75 v_X3_has ⟨rfl, rfl⟩ ⟨Nat.le_of_ble_eq_true rfl, Nat.le_of_ble_eq_true rfl⟩ ⟨Nat.zero_le _, Nat.zero_le _⟩ 10 3 rfl rfl rfl hl (Nat.le_of_ble_eq_true rfl) dX4_set_8 rfl (fun H locs Z => ?_)
  refine lv_if_eq (tgt := 22) hx hb dX4_set_11 (by decide) (fun c1 => ?_) (fun c1 => ?_)
  · rw [if_pos c1] at hF
    refine lv_iconst (v := (-1 : Int32)) hx hb dX4_set_22 (by decide) ?_
    exact kret (-1 : Int32) σ _ _ _ _ ⟨(pfst (Option.some.inj hF)), psnd (Option.some.inj hF), ok⟩ Z dX4_set_23
  · rw [if_neg c1] at hF
    refine lv_iload_n hx hb dX4_set_14 rfl (lv_at hl 1 rfl) ?_
    refine lv_iload_n hx hb dX4_set_15 rfl (lv_at hl 2 rfl) ?_
    obtain ⟨v2, h3, hF⟩ := obind hF
    refine ks_iE (As := [.int p1, .int p2]) Fc hE hA Z (c_X4_isInRange l D cI cS tF tL tH p1 p2 v2 h3) mL_RX4_78 v_X4_isInRange ⟨rfl, rfl⟩ ⟨Nat.le_of_ble_eq_true rfl, Nat.le_of_ble_eq_true rfl⟩ ⟨Nat.zero_le _, Nat.zero_le _⟩ rfl hl (Nat.le_of_ble_eq_true rfl) dX4_set_16 rfl (fun H locs Z => ?_)
    refine lv_if_ne (tgt := 24) hx hb dX4_set_19 (by decide) (fun c4 => ?_) (fun c4 => ?_)
    · rw [if_neg c4] at hF
      refine lv_aload_n hx hb dX4_set_24 rfl (lv_at hl 0 rfl) ?_
      refine lv_iload_n hx hb dX4_set_25 rfl (lv_at hl 1 rfl) ?_
      refine kr_i (As := [.int p1]) Fc hA Z Lens.fc (c_X4_valueOf l D cI cS ad σ.2.1 σ.1 ok.1 p1 (X4_valueOf σ.1 p1) rfl) mL_RX4_82 v_X4_valueOf ⟨rfl, rfl⟩ ⟨Nat.le_of_ble_eq_true rfl, Nat.le_of_ble_eq_true rfl⟩ ⟨Nat.zero_le _, Nat.zero_le _⟩ 0 4 rfl rfl rfl hl (Nat.le_of_ble_eq_true rfl) dX4_set_26 rfl (fun H locs Z => ?_)
      refine lv_istore_n (lv' := [(3, .int (X4_valueOf σ.1 p1)), (0, .ref (ad 0)), (1, .int p1), (2, .int p2)]) hx hb dX4_set_29 rfl hl (by decide) rfl (fun ls hl => ?_)
      refine lv_aload_n hx hb dX4_set_30 rfl (lv_at hl 1 rfl) ?_
      refine kget Fc Z inX4 0 rfl rfl 0 (by decide) mF_RX4_10 rfl rfl dX4_set_31 ?_
      refine kgetN Fc Z inX2 1 rfl rfl 4 (by decide) nw_RX4_72 rfl rfl dX4_set_34 ?_
      refine lv_iload_n hx hb dX4_set_37 rfl (lv_at hl 2 rfl) ?_
      refine lv_iconst (v := (0 : Int32)) hx hb dX4_set_38 (by decide) ?_
      refine lv_iload_n hx hb dX4_set_39 rfl (lv_at hl 3 rfl) ?_
      obtain ⟨q5, e6, hF⟩ := bnd_el hF
      refine kv_i (As := [.int p1, .int (0 : Int32), .int p2]) (ok := tbOK 8) Fc hA Z (Lens.c4 (hs := σ.2.1) (τ := σ.1) (R := rW ad cI cS σ.2)) (c_X3_put l D cI cS (ad 10) (ad 11) 8 1 (8 * 1) sh4 (σ.1.1 4) ok.1.2.2.2.2 p1 (0 : Int32) p2 q5 e6.symm) mL_RX4_57 v_X3_put ⟨rfl, rfl⟩ ⟨Nat.le_of_ble_eq_true rfl, Nat.le_of_ble_eq_true rfl⟩ ⟨Nat.zero_le _, Nat.zero_le _⟩ 10 3 rfl rfl rfl hl (Nat.le_of_ble_eq_true rfl) dX4_set_40 rfl (fun H locs ok1 Z => ?_)
      obtain ⟨σ7, e8, hF⟩ := bnd_el hF
      have Z : Ix D A s (fW ad cI cS σ7) H locs := by rw [e8]; exact Z
      have ok : OKF σ7 := by rw [e8]; exact okf_N ok (ok_c4 ok.1 ok1)
      refine lv_aload_n hx hb dX4_set_43 rfl (lv_at hl 1 rfl) ?_
      refine lv_iload_n hx hb dX4_set_44 rfl (lv_at hl 0 rfl) ?_
      obtain ⟨q9, e10, hF⟩ := bnd_el hF
      refine km_i (As := [.int (X4_valueOf σ.1 p1)]) (ok := OKF) Fc hA Z Lens.all (c_X4_settle l D cI cS ad σ7 ok (X4_valueOf σ.1 p1) q9 e10.symm) mL_RX4_65 v_X4_settle ⟨rfl, rfl⟩ ⟨Nat.le_of_ble_eq_true rfl, Nat.le_of_ble_eq_true rfl⟩ ⟨Nat.zero_le _, Nat.zero_le _⟩ 0 4 rfl rfl rfl hl (Nat.le_of_ble_eq_true rfl) dX4_set_45 rfl (fun H locs ok1 Z => ?_)
      have ok := ok1
      exact kret q9.1 q9.2 _ _ _ _ ⟨(pfst (Option.some.inj hF)), psnd (Option.some.inj hF), ok⟩ Z dX4_set_48
    · rw [if_pos c4] at hF
      refine lv_iconst (v := (-1 : Int32)) hx hb dX4_set_22 (by decide) ?_
      exact kret (-1 : Int32) σ _ _ _ _ ⟨(pfst (Option.some.inj hF)), psnd (Option.some.inj hF), ok⟩ Z dX4_set_23
