/-! THE CLASS: methods over the state that is now -/
def X4_valueOf (τ : St) (p1 : Int32) : Int32 := (tget 1 (τ.1 4) p1 (0 : Int32))
def rm_X4_valueOf : Room := { frames := 1, cells := 0, slots := 0, locals := 23 }
theorem v_X4_valueOf : WdV RX4 yX4_valueOf cX4_valueOf 2 (some .int) 1 := ⟨mI_X4_valueOf, mS_X4_valueOf, mZ_RX4, mC_X4_valueOf, by decide +kernel⟩
set_option maxHeartbeats 8000000 in
set_option maxRecDepth 100000 in
theorem c_X4_valueOf (l : Launch) (D : va_G) (cI cS : ClassId) (ad : Nat → Nat) (hs : Bool) (τ : St) (ok : OK τ) (p1 : Int32) (F : Int32) (hF : X4_valueOf τ p1 = F) : MI l yX4_valueOf cX4_valueOf 2 (some .int) rm_X4_valueOf D cI cS [.ref (ad 0), .int p1] (cW ad cI hs τ) (cW ad cI hs) (fun r u' => r = F ∧ u' = τ) := by
  refine MI.mk RX4 rfl .int rfl (by decide) (Nat.le_of_ble_eq_true rfl) (fun _ _ _ => rfl) ?_
  intro p e s m args below meth c A Q ls Fc hin hA Z kret hl
  obtain ⟨hx, hb, hml, hown, hts, hKN⟩ := id Fc
  replace hl : lv_has ls 2 [(0, .ref (ad 0)), (1, .int p1)] := hl
  replace Z := Z.anil
  unfold X4_valueOf at hF
  refine lv_aload_n hx hb dX4_valueOf_0 rfl (lv_at hl 0 rfl) ?_
  refine kget Fc Z inX4 0 rfl rfl 0 (by decide) mF_RX4_10 rfl rfl dX4_valueOf_1 ?_
  refine kgetN Fc Z inX2 1 rfl rfl 4 (by decide) nw_RX4_72 rfl rfl dX4_valueOf_4 ?_
  refine lv_iload_n hx hb dX4_valueOf_7 rfl (lv_at hl 1 rfl) ?_
  refine lv_iconst (v := (0 : Int32)) hx hb dX4_valueOf_8 (by decide) ?_
  refine kr_i (As := [.int p1, .int (0 : Int32)]) Fc hA Z Lens.c4 (c_X3_get l D cI cS (ad 10) (ad 11) 8 1 (8 * 1) sh4 (τ.1 4) ok.2.2.2.2 p1 (0 : Int32) (tget 1 (τ.1 4) p1 (0 : Int32)) rfl) mL_RX4_88 v_X3_get ⟨rfl, rfl⟩ ⟨Nat.le_of_ble_eq_true rfl, Nat.le_of_ble_eq_true rfl⟩ ⟨Nat.zero_le _, Nat.zero_le _⟩ 10 3 rfl rfl rfl hl (Nat.le_of_ble_eq_true rfl) dX4_valueOf_9 rfl (fun H locs Z => ?_)
  exact kret ((tget 1 (τ.1 4) p1 (0 : Int32))) τ _ _ _ _ ⟨hF, rfl⟩ Z.nila dX4_valueOf_12
def X4_stateOf (τ : St) (p1 : Int32) : Int32 := (tget 12 (τ.1 0) p1 (3 : Int32))
def rm_X4_stateOf : Room := { frames := 1, cells := 0, slots := 0, locals := 23 }
theorem v_X4_stateOf : WdV RX4 yX4_stateOf cX4_stateOf 2 (some .int) 1 := ⟨mI_X4_stateOf, mS_X4_stateOf, mZ_RX4, mC_X4_stateOf, by decide +kernel⟩
set_option maxHeartbeats 8000000 in
set_option maxRecDepth 100000 in
theorem c_X4_stateOf (l : Launch) (D : va_G) (cI cS : ClassId) (ad : Nat → Nat) (hs : Bool) (τ : St) (ok : OK τ) (p1 : Int32) (F : Int32) (hF : X4_stateOf τ p1 = F) : MI l yX4_stateOf cX4_stateOf 2 (some .int) rm_X4_stateOf D cI cS [.ref (ad 0), .int p1] (cW ad cI hs τ) (cW ad cI hs) (fun r u' => r = F ∧ u' = τ) := by
  refine MI.mk RX4 rfl .int rfl (by decide) (Nat.le_of_ble_eq_true rfl) (fun _ _ _ => rfl) ?_
  intro p e s m args below meth c A Q ls Fc hin hA Z kret hl
  obtain ⟨hx, hb, hml, hown, hts, hKN⟩ := id Fc
  replace hl : lv_has ls 2 [(0, .ref (ad 0)), (1, .int p1)] := hl
  replace Z := Z.anil
  unfold X4_stateOf at hF
  refine lv_aload_n hx hb dX4_stateOf_0 rfl (lv_at hl 0 rfl) ?_
  refine kget Fc Z inX4 0 rfl rfl 0 (by decide) mF_RX4_10 rfl rfl dX4_stateOf_1 ?_
  refine kgetN Fc Z inX2 1 rfl rfl 0 (by decide) nw_RX4_47 rfl rfl dX4_stateOf_4 ?_
  refine lv_iload_n hx hb dX4_stateOf_7 rfl (lv_at hl 1 rfl) ?_
  refine lv_iconst (v := (3 : Int32)) hx hb dX4_stateOf_8 (by decide) ?_
  refine kr_i (As := [.int p1, .int (3 : Int32)]) Fc hA Z Lens.c0 (c_X3_get l D cI cS (ad 2) (ad 3) 20 12 (20 * 12) sh0 (τ.1 0) ok.1 p1 (3 : Int32) (tget 12 (τ.1 0) p1 (3 : Int32)) rfl) mL_RX4_88 v_X3_get ⟨rfl, rfl⟩ ⟨Nat.le_of_ble_eq_true rfl, Nat.le_of_ble_eq_true rfl⟩ ⟨Nat.zero_le _, Nat.zero_le _⟩ 2 3 rfl rfl rfl hl (Nat.le_of_ble_eq_true rfl) dX4_stateOf_9 rfl (fun H locs Z => ?_)
  exact kret ((tget 12 (τ.1 0) p1 (3 : Int32))) τ _ _ _ _ ⟨hF, rfl⟩ Z.nila dX4_stateOf_12
def X4_fineOf (τ : St) (p1 : Int32) : Int32 := if (X4_stateOf τ p1) = (1 : Int32) then (if 0 < (lg_cmp ((τ.2.toInt64) - (((tget 12 (τ.1 0) p1 (6 : Int32))).toInt64)) (0 : Int64)) then ((((jminL (((X4_valueOf τ (3 : Int32))).toInt64) (((τ.2.toInt64) - (((tget 12 (τ.1 0) p1 (6 : Int32))).toInt64)) * (((X4_valueOf τ (2 : Int32))).toInt64)))).toInt32)) else (0 : Int32)) else (tget 12 (τ.1 0) p1 (10 : Int32))
def rm_X4_fineOf : Room := { frames := 2, cells := 0, slots := 0, locals := 44 }
theorem v_X4_fineOf : WdV RX4 yX4_fineOf cX4_fineOf 4 (some .int) 1 := ⟨mI_X4_fineOf, mS_X4_fineOf, mZ_RX4, mC_X4_fineOf, by decide +kernel⟩
set_option maxHeartbeats 8000000 in
set_option maxRecDepth 100000 in
theorem c_X4_fineOf (l : Launch) (D : va_G) (cI cS : ClassId) (ad : Nat → Nat) (hs : Bool) (τ : St) (ok : OK τ) (p1 : Int32) (F : Int32) (hF : X4_fineOf τ p1 = F) : MI l yX4_fineOf cX4_fineOf 4 (some .int) rm_X4_fineOf D cI cS [.ref (ad 0), .int p1] (cW ad cI hs τ) (cW ad cI hs) (fun r u' => r = F ∧ u' = τ) := by
  refine MI.mk RX4 rfl .int rfl (by decide) (Nat.le_of_ble_eq_true rfl) (fun _ _ _ => rfl) ?_
  intro p e s m args below meth c A Q ls Fc hin hA Z kret hl
  obtain ⟨hx, hb, hml, hown, hts, hKN⟩ := id Fc
  replace hl : lv_has ls 4 [(0, .ref (ad 0)), (1, .int p1)] := hl
  replace Z := Z.anil
  unfold X4_fineOf at hF
  refine lv_aload_n hx hb dX4_fineOf_0 rfl (lv_at hl 0 rfl) ?_
  refine lv_iload_n hx hb dX4_fineOf_1 rfl (lv_at hl 1 rfl) ?_
  refine kr_i (As := [.int p1]) Fc hA Z (Lens.tail []) (c_X4_stateOf l D cI cS ad hs τ ok p1 (X4_stateOf τ p1) rfl) mL_RX4_95 v_X4_stateOf ⟨rfl, rfl⟩ ⟨Nat.le_of_ble_eq_true rfl, Nat.le_of_ble_eq_true rfl⟩ ⟨Nat.zero_le _, Nat.zero_le _⟩ 0 4 rfl rfl rfl hl (Nat.le_of_ble_eq_true rfl) dX4_fineOf_2 rfl (fun H locs Z => ?_)
  refine lv_iconst (v := (1 : Int32)) hx hb dX4_fineOf_5 (by decide) ?_
  refine lv_icmp_eq (tgt := 23) hx hb dX4_fineOf_6 (by decide) (fun c1 => ?_) (fun c1 => ?_)
  · rw [if_pos c1] at hF
    refine lv_aload_n hx hb dX4_fineOf_23 rfl (lv_at hl 0 rfl) ?_
    refine kget Fc Z inX4 0 rfl rfl 0 (by decide) mF_RX4_10 rfl rfl dX4_fineOf_24 ?_
    refine kgetN Fc Z inX2 1 rfl rfl 5 (by decide) nw_RX4_98 rfl rfl dX4_fineOf_27 ?_
    refine lv_i2l (v := τ.2.toInt64) hx hb dX4_fineOf_30 rfl ?_
    refine lv_aload_n hx hb dX4_fineOf_31 rfl (lv_at hl 0 rfl) ?_
    refine kget Fc Z inX4 0 rfl rfl 0 (by decide) mF_RX4_10 rfl rfl dX4_fineOf_32 ?_
    refine kgetN Fc Z inX2 1 rfl rfl 0 (by decide) nw_RX4_47 rfl rfl dX4_fineOf_35 ?_
    refine lv_iload_n hx hb dX4_fineOf_38 rfl (lv_at hl 1 rfl) ?_
    refine lv_bipush (v := (6 : Int32)) hx hb dX4_fineOf_39 (by decide) ?_
    refine kr_i (As := [.int p1, .int (6 : Int32)]) Fc hA Z Lens.c0 (c_X3_get l D cI cS (ad 2) (ad 3) 20 12 (20 * 12) sh0 (τ.1 0) ok.1 p1 (6 : Int32) (tget 12 (τ.1 0) p1 (6 : Int32)) rfl) mL_RX4_88 v_X3_get ⟨rfl, rfl⟩ ⟨Nat.le_of_ble_eq_true rfl, Nat.le_of_ble_eq_true rfl⟩ ⟨Nat.zero_le _, Nat.zero_le _⟩ 2 3 rfl rfl rfl hl (Nat.le_of_ble_eq_true rfl) dX4_fineOf_41 rfl (fun H locs Z => ?_)
    refine lv_i2l (v := ((tget 12 (τ.1 0) p1 (6 : Int32))).toInt64) hx hb dX4_fineOf_44 rfl ?_
    refine lv_lsub hx hb dX4_fineOf_45 ?_
    refine lv_lstore_n (lv' := [(2, .long ((τ.2.toInt64) - (((tget 12 (τ.1 0) p1 (6 : Int32))).toInt64))), (0, .ref (ad 0)), (1, .int p1)]) hx hb dX4_fineOf_46 rfl hl (by decide) rfl (fun ls hl => ?_)
    refine lv_lload_n hx hb dX4_fineOf_47 rfl (lv_at hl 0 rfl) ?_
    refine lv_lconst (v := (0 : Int64)) hx hb dX4_fineOf_48 (by decide) ?_
    refine W.lcmp hx hb dX4_fineOf_49 ?_
    refine lv_if_gt (tgt := 55) hx hb dX4_fineOf_50 (by decide) (fun c2 => ?_) (fun c2 => ?_)
    · rw [if_pos c2] at hF
      refine lv_aload_n hx hb dX4_fineOf_55 rfl (lv_at hl 1 rfl) ?_
      refine lv_iconst (v := (3 : Int32)) hx hb dX4_fineOf_56 (by decide) ?_
      refine kr_i (As := [.int (3 : Int32)]) Fc hA Z (Lens.tail []) (c_X4_valueOf l D cI cS ad hs τ ok (3 : Int32) (X4_valueOf τ (3 : Int32)) rfl) mL_RX4_82 v_X4_valueOf ⟨rfl, rfl⟩ ⟨Nat.le_of_ble_eq_true rfl, Nat.le_of_ble_eq_true rfl⟩ ⟨Nat.zero_le _, Nat.zero_le _⟩ 0 4 rfl rfl rfl hl (Nat.le_of_ble_eq_true rfl) dX4_fineOf_57 rfl (fun H locs Z => ?_)
      refine lv_i2l (v := ((X4_valueOf τ (3 : Int32))).toInt64) hx hb dX4_fineOf_60 rfl ?_
      refine lv_lload_n hx hb dX4_fineOf_61 rfl (lv_at hl 0 rfl) ?_
      refine lv_aload_n hx hb dX4_fineOf_62 rfl (lv_at hl 1 rfl) ?_
      refine lv_iconst (v := (2 : Int32)) hx hb dX4_fineOf_63 (by decide) ?_
      refine kr_i (As := [.int (2 : Int32)]) Fc hA Z (Lens.tail []) (c_X4_valueOf l D cI cS ad hs τ ok (2 : Int32) (X4_valueOf τ (2 : Int32)) rfl) mL_RX4_82 v_X4_valueOf ⟨rfl, rfl⟩ ⟨Nat.le_of_ble_eq_true rfl, Nat.le_of_ble_eq_true rfl⟩ ⟨Nat.zero_le _, Nat.zero_le _⟩ 0 4 rfl rfl rfl hl (Nat.le_of_ble_eq_true rfl) dX4_fineOf_64 rfl (fun H locs Z => ?_)
      refine lv_i2l (v := ((X4_valueOf τ (2 : Int32))).toInt64) hx hb dX4_fineOf_67 rfl ?_
      refine lv_lmul hx hb dX4_fineOf_68 ?_
      refine kminL Fc hl mL_RX4_317 (Nat.le_of_ble_eq_true rfl) (Nat.le_of_ble_eq_true rfl) ⟨Nat.zero_le _, Nat.zero_le _⟩ dX4_fineOf_69 ?_
      refine lv_l2i (v := ((jminL (((X4_valueOf τ (3 : Int32))).toInt64) (((τ.2.toInt64) - (((tget 12 (τ.1 0) p1 (6 : Int32))).toInt64)) * (((X4_valueOf τ (2 : Int32))).toInt64)))).toInt32) hx hb dX4_fineOf_72 rfl ?_
      exact kret ((((jminL (((X4_valueOf τ (3 : Int32))).toInt64) (((τ.2.toInt64) - (((tget 12 (τ.1 0) p1 (6 : Int32))).toInt64)) * (((X4_valueOf τ (2 : Int32))).toInt64)))).toInt32)) τ _ _ _ _ ⟨hF, rfl⟩ Z.nila dX4_fineOf_73
    · rw [if_neg c2] at hF
      refine lv_iconst (v := (0 : Int32)) hx hb dX4_fineOf_53 (by decide) ?_
      exact kret (0 : Int32) τ _ _ _ _ ⟨hF, rfl⟩ Z.nila dX4_fineOf_54
  · rw [if_neg c1] at hF
    refine lv_aload_n hx hb dX4_fineOf_9 rfl (lv_at hl 0 rfl) ?_
    refine kget Fc Z inX4 0 rfl rfl 0 (by decide) mF_RX4_10 rfl rfl dX4_fineOf_10 ?_
    refine kgetN Fc Z inX2 1 rfl rfl 0 (by decide) nw_RX4_47 rfl rfl dX4_fineOf_13 ?_
    refine lv_iload_n hx hb dX4_fineOf_16 rfl (lv_at hl 1 rfl) ?_
    refine lv_bipush (v := (10 : Int32)) hx hb dX4_fineOf_17 (by decide) ?_
    refine kr_i (As := [.int p1, .int (10 : Int32)]) Fc hA Z Lens.c0 (c_X3_get l D cI cS (ad 2) (ad 3) 20 12 (20 * 12) sh0 (τ.1 0) ok.1 p1 (10 : Int32) (tget 12 (τ.1 0) p1 (10 : Int32)) rfl) mL_RX4_88 v_X3_get ⟨rfl, rfl⟩ ⟨Nat.le_of_ble_eq_true rfl, Nat.le_of_ble_eq_true rfl⟩ ⟨Nat.zero_le _, Nat.zero_le _⟩ 2 3 rfl rfl rfl hl (Nat.le_of_ble_eq_true rfl) dX4_fineOf_19 rfl (fun H locs Z => ?_)
    exact kret ((tget 12 (τ.1 0) p1 (10 : Int32))) τ _ _ _ _ ⟨hF, rfl⟩ Z.nila dX4_fineOf_22
def X4_isAt (τ : St) (p1 p2 p3 : Int32) : Bool := if (X4_stateOf τ p1) = p2 then (if (tget 12 (τ.1 0) p1 (4 : Int32)) = p3 then (true) else false) else false
def rm_X4_isAt : Room := { frames := 2, cells := 0, slots := 0, locals := 44 }
theorem v_X4_isAt : WdV RX4 yX4_isAt cX4_isAt 4 (some .boolean) 3 := ⟨mI_X4_isAt, mS_X4_isAt, mZ_RX4, mC_X4_isAt, by decide +kernel⟩
set_option maxHeartbeats 8000000 in
set_option maxRecDepth 100000 in
theorem c_X4_isAt (l : Launch) (D : va_G) (cI cS : ClassId) (ad : Nat → Nat) (hs : Bool) (τ : St) (ok : OK τ) (p1 p2 p3 : Int32) (F : Bool) (hF : X4_isAt τ p1 p2 p3 = F) : MI l yX4_isAt cX4_isAt 4 (some .boolean) rm_X4_isAt D cI cS [.ref (ad 0), .int p1, .int p2, .int p3] (cW ad cI hs τ) (cW ad cI hs) (fun r u' => r = bi F ∧ u' = τ) := by
  refine MI.mk RX4 rfl .boolean rfl (by decide) (Nat.le_of_ble_eq_true rfl) (fun r u h => by rw [h.1]; exact bi_nar _) ?_
  intro p e s m args below meth c A Q ls Fc hin hA Z kret hl
  obtain ⟨hx, hb, hml, hown, hts, hKN⟩ := id Fc
  replace hl : lv_has ls 4 [(0, .ref (ad 0)), (1, .int p1), (2, .int p2), (3, .int p3)] := hl
  replace Z := Z.anil
  unfold X4_isAt at hF
  refine lv_aload_n hx hb dX4_isAt_0 rfl (lv_at hl 0 rfl) ?_
  refine lv_iload_n hx hb dX4_isAt_1 rfl (lv_at hl 1 rfl) ?_
  refine kr_i (As := [.int p1]) Fc hA Z (Lens.tail []) (c_X4_stateOf l D cI cS ad hs τ ok p1 (X4_stateOf τ p1) rfl) mL_RX4_95 v_X4_stateOf ⟨rfl, rfl⟩ ⟨Nat.le_of_ble_eq_true rfl, Nat.le_of_ble_eq_true rfl⟩ ⟨Nat.zero_le _, Nat.zero_le _⟩ 0 4 rfl rfl rfl hl (Nat.le_of_ble_eq_true rfl) dX4_isAt_2 rfl (fun H locs Z => ?_)
  refine lv_iload_n hx hb dX4_isAt_5 rfl (lv_at hl 2 rfl) ?_
  refine lv_icmp_ne (tgt := 29) hx hb dX4_isAt_6 (by decide) (fun c1 => ?_) (fun c1 => ?_)
  · rw [if_neg c1] at hF
    refine lv_iconst (v := (0 : Int32)) hx hb dX4_isAt_29 (by decide) ?_
    exact kret (0 : Int32) τ _ _ _ _ ⟨(congrArg bi hF), rfl⟩ Z.nila dX4_isAt_30
  · rw [if_pos c1] at hF
    refine lv_aload_n hx hb dX4_isAt_9 rfl (lv_at hl 0 rfl) ?_
    refine kget Fc Z inX4 0 rfl rfl 0 (by decide) mF_RX4_10 rfl rfl dX4_isAt_10 ?_
    refine kgetN Fc Z inX2 1 rfl rfl 0 (by decide) nw_RX4_47 rfl rfl dX4_isAt_13 ?_
    refine lv_iload_n hx hb dX4_isAt_16 rfl (lv_at hl 1 rfl) ?_
    refine lv_iconst (v := (4 : Int32)) hx hb dX4_isAt_17 (by decide) ?_
    refine kr_i (As := [.int p1, .int (4 : Int32)]) Fc hA Z Lens.c0 (c_X3_get l D cI cS (ad 2) (ad 3) 20 12 (20 * 12) sh0 (τ.1 0) ok.1 p1 (4 : Int32) (tget 12 (τ.1 0) p1 (4 : Int32)) rfl) mL_RX4_88 v_X3_get ⟨rfl, rfl⟩ ⟨Nat.le_of_ble_eq_true rfl, Nat.le_of_ble_eq_true rfl⟩ ⟨Nat.zero_le _, Nat.zero_le _⟩ 2 3 rfl rfl rfl hl (Nat.le_of_ble_eq_true rfl) dX4_isAt_18 rfl (fun H locs Z => ?_)
    refine lv_iload_n hx hb dX4_isAt_21 rfl (lv_at hl 3 rfl) ?_
    refine lv_icmp_ne (tgt := 29) hx hb dX4_isAt_22 (by decide) (fun c2 => ?_) (fun c2 => ?_)
    · rw [if_neg c2] at hF
      refine lv_iconst (v := (0 : Int32)) hx hb dX4_isAt_29 (by decide) ?_
      exact kret (0 : Int32) τ _ _ _ _ ⟨(congrArg bi hF), rfl⟩ Z.nila dX4_isAt_30
    · rw [if_pos c2] at hF
      refine lv_iconst (v := (1 : Int32)) hx hb dX4_isAt_25 (by decide) ?_
      refine lv_goto (tgt := 30) hx hb dX4_isAt_26 (by decide) ?_
      exact kret (1 : Int32) τ _ _ _ _ ⟨(congrArg bi hF), rfl⟩ Z.nila dX4_isAt_30
def X4_isPatron (τ : St) (p1 : Int32) : Bool := (thas (τ.1 1) p1)
def rm_X4_isPatron : Room := { frames := 1, cells := 0, slots := 0, locals := 21 }
theorem v_X4_isPatron : WdV RX4 yX4_isPatron cX4_isPatron 2 (some .boolean) 1 := ⟨mI_X4_isPatron, mS_X4_isPatron, mZ_RX4, mC_X4_isPatron, by decide +kernel⟩
set_option maxHeartbeats 8000000 in
set_option maxRecDepth 100000 in
theorem c_X4_isPatron (l : Launch) (D : va_G) (cI cS : ClassId) (ad : Nat → Nat) (hs : Bool) (τ : St) (ok : OK τ) (p1 : Int32) (F : Bool) (hF : X4_isPatron τ p1 = F) : MI l yX4_isPatron cX4_isPatron 2 (some .boolean) rm_X4_isPatron D cI cS [.ref (ad 0), .int p1] (cW ad cI hs τ) (cW ad cI hs) (fun r u' => r = bi F ∧ u' = τ) := by
  refine MI.mk RX4 rfl .boolean rfl (by decide) (Nat.le_of_ble_eq_true rfl) (fun r u h => by rw [h.1]; exact bi_nar _) ?_
  intro p e s m args below meth c A Q ls Fc hin hA Z kret hl
  obtain ⟨hx, hb, hml, hown, hts, hKN⟩ := id Fc
  replace hl : lv_has ls 2 [(0, .ref (ad 0)), (1, .int p1)] := hl
  replace Z := Z.anil
  unfold X4_isPatron at hF
  refine lv_aload_n hx hb dX4_isPatron_0 rfl (lv_at hl 0 rfl) ?_
  refine kget Fc Z inX4 0 rfl rfl 0 (by decide) mF_RX4_10 rfl rfl dX4_isPatron_1 ?_
  refine kgetN Fc Z inX2 1 rfl rfl 1 (by decide) nw_RX4_69 rfl rfl dX4_isPatron_4 ?_
  refine lv_iload_n hx hb dX4_isPatron_7 rfl (lv_at hl 1 rfl) ?_
  refine kr_i (As := [.int p1]) Fc hA Z Lens.c1 (c_X3_has l D cI cS (ad 4) (ad 5) 8 4 (8 * 4) sh1 (τ.1 1) ok.2.1 p1 (thas (τ.1 1) p1) rfl) mL_RX4_75 v_X3_has ⟨rfl, rfl⟩ ⟨Nat.le_of_ble_eq_true rfl, Nat.le_of_ble_eq_true rfl⟩ ⟨Nat.zero_le _, Nat.zero_le _⟩ 4 3 rfl rfl rfl hl (Nat.le_of_ble_eq_true rfl) dX4_isPatron_8 rfl (fun H locs Z => ?_)
  exact kret ((bi (thas (τ.1 1) p1))) τ _ _ _ _ ⟨(congrArg bi hF), rfl⟩ Z.nila dX4_isPatron_11
def X4_accrued_L14 (τ : St) (x1 : Int32) : Nat → Int32 → Int32 → Option (Int32)
  | 0, _, _ => none
  | k + 1, x2, x3 => if (τ.1 0).1 ≤ x3 then (some x2) else if (bi (X4_isAt τ x3 (1 : Int32) x1)) = 0 then (X4_accrued_L14 τ x1 k x2 ((x3 + (1 : Int32)))) else X4_accrued_L14 τ x1 k ((x2 + (X4_fineOf τ x3))) ((x3 + (1 : Int32)))
def X4_accrued (τ : St) (p1 : Int32) : Option (Int32) := if (bi (X4_isPatron τ p1)) = 0 then (some (-1 : Int32)) else X4_accrued_L14 τ p1 FU (0 : Int32) (0 : Int32)
def rm_X4_accrued : Room := { frames := 3, cells := 0, slots := 0, locals := 67 }
theorem v_X4_accrued : WdV RX4 yX4_accrued cX4_accrued 4 (some .int) 1 := ⟨mI_X4_accrued, mS_X4_accrued, mZ_RX4, mC_X4_accrued, by decide +kernel⟩
set_option maxHeartbeats 8000000 in
set_option maxRecDepth 100000 in
theorem c_X4_accrued (l : Launch) (D : va_G) (cI cS : ClassId) (ad : Nat → Nat) (hs : Bool) (τ : St) (ok : OK τ) (p1 : Int32) (F : Int32) (hF : X4_accrued τ p1 = some F) : MI l yX4_accrued cX4_accrued 4 (some .int) rm_X4_accrued D cI cS [.ref (ad 0), .int p1] (cW ad cI hs τ) (cW ad cI hs) (fun r u' => r = F ∧ u' = τ) := by
  refine MI.mk RX4 rfl .int rfl (by decide) (Nat.le_of_ble_eq_true rfl) (fun _ _ _ => rfl) ?_
  intro p e s m args below meth c A Q ls Fc hin hA Z kret hl
  obtain ⟨hx, hb, hml, hown, hts, hKN⟩ := id Fc
  replace hl : lv_has ls 4 [(0, .ref (ad 0)), (1, .int p1)] := hl
  replace Z := Z.anil
  have L14 : ∀ (x1 : Int32) (k : Nat) (x2 : Int32) (x3 : Int32) (H : Heap) (locs : List Loc) (ls : Array Slot), X4_accrued_L14 τ x1  k x2 x3 = some F → OK τ → Ix D A s (cW ad cI hs τ ++ []) H locs → lv_has ls 4 [(0, .ref (ad 0)), (1, .int x1), (2, .int x2), (3, .int x3)] → W p l e rm_X4_accrued s m args below meth c H locs 0 0 Q (F0 m 14 ls []) := by
    intro x1 k
    induction k with
    | zero => intro x2 x3 H locs ls hF; rw [X4_accrued_L14] at hF; cases hF
    | succ k ih =>
      intro x2 x3 H locs ls hF ok Z hl
      rw [X4_accrued_L14] at hF
      refine lv_iload_n hx hb dX4_accrued_14 rfl (lv_at hl 3 rfl) ?_
      refine lv_aload_n hx hb dX4_accrued_15 rfl (lv_at hl 0 rfl) ?_
      refine kget Fc Z inX4 0 rfl rfl 0 (by decide) mF_RX4_10 rfl rfl dX4_accrued_16 ?_
      refine kgetN Fc Z inX2 1 rfl rfl 0 (by decide) nw_RX4_47 rfl rfl dX4_accrued_19 ?_
      refine kr_i (As := []) Fc hA Z Lens.c0 (c_X3_size l D cI cS (ad 2) (ad 3) 20 12 (20 * 12) sh0 (τ.1 0) ok.1  (τ.1 0).1 rfl) mL_RX4_92 v_X3_size ⟨rfl, rfl⟩ ⟨Nat.le_of_ble_eq_true rfl, Nat.le_of_ble_eq_true rfl⟩ ⟨Nat.zero_le _, Nat.zero_le _⟩ 2 3 rfl rfl rfl hl (Nat.le_of_ble_eq_true rfl) dX4_accrued_22 rfl (fun H locs Z => ?_)
      refine lv_icmp_ge (tgt := 52) hx hb dX4_accrued_25 (by decide) (fun c1 => ?_) (fun c1 => ?_)
      · rw [if_pos c1] at hF
        refine lv_iload_n hx hb dX4_accrued_52 rfl (lv_at hl 2 rfl) ?_
        exact kret x2 τ _ _ _ _ ⟨(Option.some.inj hF), rfl⟩ Z.nila dX4_accrued_53
      · rw [if_neg c1] at hF
        refine lv_aload_n hx hb dX4_accrued_28 rfl (lv_at hl 0 rfl) ?_
        refine lv_iload_n hx hb dX4_accrued_29 rfl (lv_at hl 3 rfl) ?_
        refine lv_iconst (v := (1 : Int32)) hx hb dX4_accrued_30 (by decide) ?_
        refine lv_iload_n hx hb dX4_accrued_31 rfl (lv_at hl 1 rfl) ?_
        refine kr_i (As := [.int x3, .int (1 : Int32), .int x1]) Fc hA Z (Lens.tail []) (c_X4_isAt l D cI cS ad hs τ ok x3 (1 : Int32) x1 (X4_isAt τ x3 (1 : Int32) x1) rfl) mL_RX4_231 v_X4_isAt ⟨rfl, rfl⟩ ⟨Nat.le_of_ble_eq_true rfl, Nat.le_of_ble_eq_true rfl⟩ ⟨Nat.zero_le _, Nat.zero_le _⟩ 0 4 rfl rfl rfl hl (Nat.le_of_ble_eq_true rfl) dX4_accrued_32 rfl (fun H locs Z => ?_)
        refine lv_if_eq (tgt := 46) hx hb dX4_accrued_35 (by decide) (fun c2 => ?_) (fun c2 => ?_)
        · rw [if_pos c2] at hF
          refine lv_iinc (v := (x3 + (1 : Int32))) (lv' := [(3, .int (x3 + (1 : Int32))), (0, .ref (ad 0)), (1, .int x1), (2, .int x2)]) hx hb dX4_accrued_46 hl (k := 3) rfl (by rfl) (by decide) rfl (fun ls hl => ?_)
          refine lv_goto (tgt := 14) hx hb dX4_accrued_49 (by decide) ?_
          exact ih x2 ((x3 + (1 : Int32))) _ _ _ hF ok Z (lv_sub hl [1, 2, 3, 0] rfl)
        · rw [if_neg c2] at hF
          refine lv_iload_n hx hb dX4_accrued_38 rfl (lv_at hl 2 rfl) ?_
          refine lv_aload_n hx hb dX4_accrued_39 rfl (lv_at hl 0 rfl) ?_
          refine lv_iload_n hx hb dX4_accrued_40 rfl (lv_at hl 3 rfl) ?_
          refine kr_i (As := [.int x3]) Fc hA Z (Lens.tail []) (c_X4_fineOf l D cI cS ad hs τ ok x3 (X4_fineOf τ x3) rfl) mL_RX4_161 v_X4_fineOf ⟨rfl, rfl⟩ ⟨Nat.le_of_ble_eq_true rfl, Nat.le_of_ble_eq_true rfl⟩ ⟨Nat.zero_le _, Nat.zero_le _⟩ 0 4 rfl rfl rfl hl (Nat.le_of_ble_eq_true rfl) dX4_accrued_41 rfl (fun H locs Z => ?_)
          refine lv_iadd hx hb dX4_accrued_44 ?_
          refine lv_istore_n (lv' := [(2, .int (x2 + (X4_fineOf τ x3))), (0, .ref (ad 0)), (1, .int x1), (3, .int x3)]) hx hb dX4_accrued_45 rfl hl (by decide) rfl (fun ls hl => ?_)
          refine lv_iinc (v := (x3 + (1 : Int32))) (lv' := [(3, .int (x3 + (1 : Int32))), (2, .int (x2 + (X4_fineOf τ x3))), (0, .ref (ad 0)), (1, .int x1)]) hx hb dX4_accrued_46 hl (k := 3) rfl (by rfl) (by decide) rfl (fun ls hl => ?_)
          refine lv_goto (tgt := 14) hx hb dX4_accrued_49 (by decide) ?_
          exact ih ((x2 + (X4_fineOf τ x3))) ((x3 + (1 : Int32))) _ _ _ hF ok Z (lv_sub hl [2, 3, 1, 0] rfl)
  unfold X4_accrued at hF
  refine lv_aload_n hx hb dX4_accrued_0 rfl (lv_at hl 0 rfl) ?_
  refine lv_iload_n hx hb dX4_accrued_1 rfl (lv_at hl 1 rfl) ?_
  refine kr_i (As := [.int p1]) Fc hA Z (Lens.tail []) (c_X4_isPatron l D cI cS ad hs τ ok p1 (X4_isPatron τ p1) rfl) mL_RX4_143 v_X4_isPatron ⟨rfl, rfl⟩ ⟨Nat.le_of_ble_eq_true rfl, Nat.le_of_ble_eq_true rfl⟩ ⟨Nat.zero_le _, Nat.zero_le _⟩ 0 4 rfl rfl rfl hl (Nat.le_of_ble_eq_true rfl) dX4_accrued_2 rfl (fun H locs Z => ?_)
  refine lv_if_ne (tgt := 10) hx hb dX4_accrued_5 (by decide) (fun c3 => ?_) (fun c3 => ?_)
  · rw [if_neg c3] at hF
    refine lv_iconst (v := (0 : Int32)) hx hb dX4_accrued_10 (by decide) ?_
    refine lv_istore_n (lv' := [(2, .int (0 : Int32)), (0, .ref (ad 0)), (1, .int p1)]) hx hb dX4_accrued_11 rfl hl (by decide) rfl (fun ls hl => ?_)
    refine lv_iconst (v := (0 : Int32)) hx hb dX4_accrued_12 (by decide) ?_
    refine lv_istore_n (lv' := [(3, .int (0 : Int32)), (2, .int (0 : Int32)), (0, .ref (ad 0)), (1, .int p1)]) hx hb dX4_accrued_13 rfl hl (by decide) rfl (fun ls hl => ?_)
    exact L14 p1 FU (0 : Int32) (0 : Int32) _ _ _ hF ok Z (lv_sub hl [2, 3, 1, 0] rfl)
  · rw [if_pos c3] at hF
    refine lv_iconst (v := (-1 : Int32)) hx hb dX4_accrued_8 (by decide) ?_
    exact kret (-1 : Int32) τ _ _ _ _ ⟨(Option.some.inj hF), rfl⟩ Z.nila dX4_accrued_9
def X4_putCopy (τ : St) (p1 p2 p3 p4 : Int32) : St := bnd (tput 12 (τ.1 0) p1 (3 : Int32) p2) fun q1 => bnd (stT τ 0 q1) fun τ3 => bnd (tput 12 (τ3.1 0) p1 (4 : Int32) p3) fun q5 => bnd (stT τ3 0 q5) fun τ7 => bnd (tput 12 (τ7.1 0) p1 (6 : Int32) p4) fun q9 => bnd (stT τ7 0 q9) fun τ11 => τ11
def rm_X4_putCopy : Room := { frames := 1, cells := 0, slots := 0, locals := 24 }
theorem v_X4_putCopy : WdV RX4 yX4_putCopy cX4_putCopy 5 none 4 := ⟨mI_X4_putCopy, mS_X4_putCopy, mZ_RX4, mC_X4_putCopy, by decide +kernel⟩
set_option maxHeartbeats 8000000 in
set_option maxRecDepth 100000 in
theorem c_X4_putCopy (l : Launch) (D : va_G) (cI cS : ClassId) (ad : Nat → Nat) (hs : Bool) (τ : St) (ok : OK τ) (p1 p2 p3 p4 : Int32) (F : St) (hF : X4_putCopy τ p1 p2 p3 p4 = F) : MV l yX4_putCopy cX4_putCopy 5 rm_X4_putCopy D cI cS [.ref (ad 0), .int p1, .int p2, .int p3, .int p4] (cW ad cI hs τ) (cW ad cI hs) (fun u => u = F ∧ OK u) := by
  refine MV.mk RX4 rfl (by decide) (Nat.le_of_ble_eq_true rfl) ?_
  intro p e s m args below meth c A Q ls Fc hin hA Z kret hl
  obtain ⟨hx, hb, hml, hown, hts, hKN⟩ := id Fc
  replace hl : lv_has ls 5 [(0, .ref (ad 0)), (1, .int p1), (2, .int p2), (3, .int p3), (4, .int p4)] := hl
  replace Z := Z.anil
  unfold X4_putCopy at hF
  refine lv_aload_n hx hb dX4_putCopy_0 rfl (lv_at hl 0 rfl) ?_
  refine kget Fc Z inX4 0 rfl rfl 0 (by decide) mF_RX4_10 rfl rfl dX4_putCopy_1 ?_
  refine kgetN Fc Z inX2 1 rfl rfl 0 (by decide) nw_RX4_47 rfl rfl dX4_putCopy_4 ?_
  refine lv_iload_n hx hb dX4_putCopy_7 rfl (lv_at hl 1 rfl) ?_
  refine lv_iconst (v := (3 : Int32)) hx hb dX4_putCopy_8 (by decide) ?_
  refine lv_iload_n hx hb dX4_putCopy_9 rfl (lv_at hl 2 rfl) ?_
  obtain ⟨q1, e2, hF⟩ := bnd_el hF
  refine kv_i (As := [.int p1, .int (3 : Int32), .int p2]) (ok := tbOK 20) Fc hA Z Lens.c0 (c_X3_put l D cI cS (ad 2) (ad 3) 20 12 (20 * 12) sh0 (τ.1 0) ok.1 p1 (3 : Int32) p2 q1 e2.symm) mL_RX4_57 v_X3_put ⟨rfl, rfl⟩ ⟨Nat.le_of_ble_eq_true rfl, Nat.le_of_ble_eq_true rfl⟩ ⟨Nat.zero_le _, Nat.zero_le _⟩ 2 3 rfl rfl rfl hl (Nat.le_of_ble_eq_true rfl) dX4_putCopy_10 rfl (fun H locs ok1 Z => ?_)
  obtain ⟨τ3, e4, hF⟩ := bnd_el hF
  rw [← e4] at Z
  have ok : OK τ3 := by rw [e4]; exact ok_c0 ok ok1
  refine lv_aload_n hx hb dX4_putCopy_13 rfl (lv_at hl 0 rfl) ?_
  refine kget Fc Z inX4 0 rfl rfl 0 (by decide) mF_RX4_10 rfl rfl dX4_putCopy_14 ?_
  refine kgetN Fc Z inX2 1 rfl rfl 0 (by decide) nw_RX4_47 rfl rfl dX4_putCopy_17 ?_
  refine lv_iload_n hx hb dX4_putCopy_20 rfl (lv_at hl 1 rfl) ?_
  refine lv_iconst (v := (4 : Int32)) hx hb dX4_putCopy_21 (by decide) ?_
  refine lv_iload_n hx hb dX4_putCopy_22 rfl (lv_at hl 3 rfl) ?_
  obtain ⟨q5, e6, hF⟩ := bnd_el hF
  refine kv_i (As := [.int p1, .int (4 : Int32), .int p3]) (ok := tbOK 20) Fc hA Z Lens.c0 (c_X3_put l D cI cS (ad 2) (ad 3) 20 12 (20 * 12) sh0 (τ3.1 0) ok.1 p1 (4 : Int32) p3 q5 e6.symm) mL_RX4_57 v_X3_put ⟨rfl, rfl⟩ ⟨Nat.le_of_ble_eq_true rfl, Nat.le_of_ble_eq_true rfl⟩ ⟨Nat.zero_le _, Nat.zero_le _⟩ 2 3 rfl rfl rfl hl (Nat.le_of_ble_eq_true rfl) dX4_putCopy_23 rfl (fun H locs ok1 Z => ?_)
  obtain ⟨τ7, e8, hF⟩ := bnd_el hF
  rw [← e8] at Z
  have ok : OK τ7 := by rw [e8]; exact ok_c0 ok ok1
  refine lv_aload_n hx hb dX4_putCopy_26 rfl (lv_at hl 0 rfl) ?_
  refine kget Fc Z inX4 0 rfl rfl 0 (by decide) mF_RX4_10 rfl rfl dX4_putCopy_27 ?_
  refine kgetN Fc Z inX2 1 rfl rfl 0 (by decide) nw_RX4_47 rfl rfl dX4_putCopy_30 ?_
  refine lv_iload_n hx hb dX4_putCopy_33 rfl (lv_at hl 1 rfl) ?_
  refine lv_bipush (v := (6 : Int32)) hx hb dX4_putCopy_34 (by decide) ?_
  refine lv_iload hx hb dX4_putCopy_36 (lv_at hl 4 rfl) ?_
  obtain ⟨q9, e10, hF⟩ := bnd_el hF
  refine kv_i (As := [.int p1, .int (6 : Int32), .int p4]) (ok := tbOK 20) Fc hA Z Lens.c0 (c_X3_put l D cI cS (ad 2) (ad 3) 20 12 (20 * 12) sh0 (τ7.1 0) ok.1 p1 (6 : Int32) p4 q9 e10.symm) mL_RX4_57 v_X3_put ⟨rfl, rfl⟩ ⟨Nat.le_of_ble_eq_true rfl, Nat.le_of_ble_eq_true rfl⟩ ⟨Nat.zero_le _, Nat.zero_le _⟩ 2 3 rfl rfl rfl hl (Nat.le_of_ble_eq_true rfl) dX4_putCopy_38 rfl (fun H locs ok1 Z => ?_)
  obtain ⟨τ11, e12, hF⟩ := bnd_el hF
  rw [← e12] at Z
  have ok : OK τ11 := by rw [e12]; exact ok_c0 ok ok1
  exact kret τ11 _ _ _ _ ⟨hF, ok⟩ Z.nila dX4_putCopy_41
def X4_putLoan (τ : St) (p1 p2 p3 p4 : Int32) : St := bnd (tput 12 (τ.1 0) p1 (7 : Int32) p2) fun q1 => bnd (stT τ 0 q1) fun τ3 => bnd (tput 12 (τ3.1 0) p1 (8 : Int32) p3) fun q5 => bnd (stT τ3 0 q5) fun τ7 => bnd (tput 12 (τ7.1 0) p1 (9 : Int32) p4) fun q9 => bnd (stT τ7 0 q9) fun τ11 => τ11
def rm_X4_putLoan : Room := { frames := 1, cells := 0, slots := 0, locals := 24 }
theorem v_X4_putLoan : WdV RX4 yX4_putLoan cX4_putLoan 5 none 4 := ⟨mI_X4_putLoan, mS_X4_putLoan, mZ_RX4, mC_X4_putLoan, by decide +kernel⟩
set_option maxHeartbeats 8000000 in
set_option maxRecDepth 100000 in
theorem c_X4_putLoan (l : Launch) (D : va_G) (cI cS : ClassId) (ad : Nat → Nat) (hs : Bool) (τ : St) (ok : OK τ) (p1 p2 p3 p4 : Int32) (F : St) (hF : X4_putLoan τ p1 p2 p3 p4 = F) : MV l yX4_putLoan cX4_putLoan 5 rm_X4_putLoan D cI cS [.ref (ad 0), .int p1, .int p2, .int p3, .int p4] (cW ad cI hs τ) (cW ad cI hs) (fun u => u = F ∧ OK u) := by
  refine MV.mk RX4 rfl (by decide) (Nat.le_of_ble_eq_true rfl) ?_
  intro p e s m args below meth c A Q ls Fc hin hA Z kret hl
  obtain ⟨hx, hb, hml, hown, hts, hKN⟩ := id Fc
  replace hl : lv_has ls 5 [(0, .ref (ad 0)), (1, .int p1), (2, .int p2), (3, .int p3), (4, .int p4)] := hl
  replace Z := Z.anil
  unfold X4_putLoan at hF
  refine lv_aload_n hx hb dX4_putLoan_0 rfl (lv_at hl 0 rfl) ?_
  refine kget Fc Z inX4 0 rfl rfl 0 (by decide) mF_RX4_10 rfl rfl dX4_putLoan_1 ?_
  refine kgetN Fc Z inX2 1 rfl rfl 0 (by decide) nw_RX4_47 rfl rfl dX4_putLoan_4 ?_
  refine lv_iload_n hx hb dX4_putLoan_7 rfl (lv_at hl 1 rfl) ?_
  refine lv_bipush (v := (7 : Int32)) hx hb dX4_putLoan_8 (by decide) ?_
  refine lv_iload_n hx hb dX4_putLoan_10 rfl (lv_at hl 2 rfl) ?_
  obtain ⟨q1, e2, hF⟩ := bnd_el hF
  refine kv_i (As := [.int p1, .int (7 : Int32), .int p2]) (ok := tbOK 20) Fc hA Z Lens.c0 (c_X3_put l D cI cS (ad 2) (ad 3) 20 12 (20 * 12) sh0 (τ.1 0) ok.1 p1 (7 : Int32) p2 q1 e2.symm) mL_RX4_57 v_X3_put ⟨rfl, rfl⟩ ⟨Nat.le_of_ble_eq_true rfl, Nat.le_of_ble_eq_true rfl⟩ ⟨Nat.zero_le _, Nat.zero_le _⟩ 2 3 rfl rfl rfl hl (Nat.le_of_ble_eq_true rfl) dX4_putLoan_11 rfl (fun H locs ok1 Z => ?_)
  obtain ⟨τ3, e4, hF⟩ := bnd_el hF
  rw [← e4] at Z
  have ok : OK τ3 := by rw [e4]; exact ok_c0 ok ok1
  refine lv_aload_n hx hb dX4_putLoan_14 rfl (lv_at hl 0 rfl) ?_
  refine kget Fc Z inX4 0 rfl rfl 0 (by decide) mF_RX4_10 rfl rfl dX4_putLoan_15 ?_
  refine kgetN Fc Z inX2 1 rfl rfl 0 (by decide) nw_RX4_47 rfl rfl dX4_putLoan_18 ?_
  refine lv_iload_n hx hb dX4_putLoan_21 rfl (lv_at hl 1 rfl) ?_
  refine lv_bipush (v := (8 : Int32)) hx hb dX4_putLoan_22 (by decide) ?_
  refine lv_iload_n hx hb dX4_putLoan_24 rfl (lv_at hl 3 rfl) ?_
  obtain ⟨q5, e6, hF⟩ := bnd_el hF
  refine kv_i (As := [.int p1, .int (8 : Int32), .int p3]) (ok := tbOK 20) Fc hA Z Lens.c0 (c_X3_put l D cI cS (ad 2) (ad 3) 20 12 (20 * 12) sh0 (τ3.1 0) ok.1 p1 (8 : Int32) p3 q5 e6.symm) mL_RX4_57 v_X3_put ⟨rfl, rfl⟩ ⟨Nat.le_of_ble_eq_true rfl, Nat.le_of_ble_eq_true rfl⟩ ⟨Nat.zero_le _, Nat.zero_le _⟩ 2 3 rfl rfl rfl hl (Nat.le_of_ble_eq_true rfl) dX4_putLoan_25 rfl (fun H locs ok1 Z => ?_)
  obtain ⟨τ7, e8, hF⟩ := bnd_el hF
  rw [← e8] at Z
  have ok : OK τ7 := by rw [e8]; exact ok_c0 ok ok1
  refine lv_aload_n hx hb dX4_putLoan_28 rfl (lv_at hl 0 rfl) ?_
  refine kget Fc Z inX4 0 rfl rfl 0 (by decide) mF_RX4_10 rfl rfl dX4_putLoan_29 ?_
  refine kgetN Fc Z inX2 1 rfl rfl 0 (by decide) nw_RX4_47 rfl rfl dX4_putLoan_32 ?_
  refine lv_iload_n hx hb dX4_putLoan_35 rfl (lv_at hl 1 rfl) ?_
  refine lv_bipush (v := (9 : Int32)) hx hb dX4_putLoan_36 (by decide) ?_
  refine lv_iload hx hb dX4_putLoan_38 (lv_at hl 4 rfl) ?_
  obtain ⟨q9, e10, hF⟩ := bnd_el hF
  refine kv_i (As := [.int p1, .int (9 : Int32), .int p4]) (ok := tbOK 20) Fc hA Z Lens.c0 (c_X3_put l D cI cS (ad 2) (ad 3) 20 12 (20 * 12) sh0 (τ7.1 0) ok.1 p1 (9 : Int32) p4 q9 e10.symm) mL_RX4_57 v_X3_put ⟨rfl, rfl⟩ ⟨Nat.le_of_ble_eq_true rfl, Nat.le_of_ble_eq_true rfl⟩ ⟨Nat.zero_le _, Nat.zero_le _⟩ 2 3 rfl rfl rfl hl (Nat.le_of_ble_eq_true rfl) dX4_putLoan_40 rfl (fun H locs ok1 Z => ?_)
  obtain ⟨τ11, e12, hF⟩ := bnd_el hF
  rw [← e12] at Z
  have ok : OK τ11 := by rw [e12]; exact ok_c0 ok ok1
  exact kret τ11 _ _ _ _ ⟨hF, ok⟩ Z.nila dX4_putLoan_43
def X4_isWaiting (τ : St) (p1 p2 : Int32) : Bool := if (tget 4 (τ.1 2) p1 (3 : Int32)) = p2 then (if (tget 4 (τ.1 2) p1 (2 : Int32)) = (-2 : Int32) then (true) else false) else false
def rm_X4_isWaiting : Room := { frames := 1, cells := 0, slots := 0, locals := 23 }
theorem v_X4_isWaiting : WdV RX4 yX4_isWaiting cX4_isWaiting 3 (some .boolean) 2 := ⟨mI_X4_isWaiting, mS_X4_isWaiting, mZ_RX4, mC_X4_isWaiting, by decide +kernel⟩
set_option maxHeartbeats 8000000 in
set_option maxRecDepth 100000 in
theorem c_X4_isWaiting (l : Launch) (D : va_G) (cI cS : ClassId) (ad : Nat → Nat) (hs : Bool) (τ : St) (ok : OK τ) (p1 p2 : Int32) (F : Bool) (hF : X4_isWaiting τ p1 p2 = F) : MI l yX4_isWaiting cX4_isWaiting 3 (some .boolean) rm_X4_isWaiting D cI cS [.ref (ad 0), .int p1, .int p2] (cW ad cI hs τ) (cW ad cI hs) (fun r u' => r = bi F ∧ u' = τ) := by
  refine MI.mk RX4 rfl .boolean rfl (by decide) (Nat.le_of_ble_eq_true rfl) (fun r u h => by rw [h.1]; exact bi_nar _) ?_
  intro p e s m args below meth c A Q ls Fc hin hA Z kret hl
  obtain ⟨hx, hb, hml, hown, hts, hKN⟩ := id Fc
  replace hl : lv_has ls 3 [(0, .ref (ad 0)), (1, .int p1), (2, .int p2)] := hl
  replace Z := Z.anil
  unfold X4_isWaiting at hF
  refine lv_aload_n hx hb dX4_isWaiting_0 rfl (lv_at hl 0 rfl) ?_
  refine kget Fc Z inX4 0 rfl rfl 0 (by decide) mF_RX4_10 rfl rfl dX4_isWaiting_1 ?_
  refine kgetN Fc Z inX2 1 rfl rfl 2 (by decide) nw_RX4_192 rfl rfl dX4_isWaiting_4 ?_
  refine lv_iload_n hx hb dX4_isWaiting_7 rfl (lv_at hl 1 rfl) ?_
  refine lv_iconst (v := (3 : Int32)) hx hb dX4_isWaiting_8 (by decide) ?_
  refine kr_i (As := [.int p1, .int (3 : Int32)]) Fc hA Z Lens.c2 (c_X3_get l D cI cS (ad 6) (ad 7) 24 4 (24 * 4) sh2 (τ.1 2) ok.2.2.1 p1 (3 : Int32) (tget 4 (τ.1 2) p1 (3 : Int32)) rfl) mL_RX4_88 v_X3_get ⟨rfl, rfl⟩ ⟨Nat.le_of_ble_eq_true rfl, Nat.le_of_ble_eq_true rfl⟩ ⟨Nat.zero_le _, Nat.zero_le _⟩ 6 3 rfl rfl rfl hl (Nat.le_of_ble_eq_true rfl) dX4_isWaiting_9 rfl (fun H locs Z => ?_)
  refine lv_iload_n hx hb dX4_isWaiting_12 rfl (lv_at hl 2 rfl) ?_
  refine lv_icmp_ne (tgt := 37) hx hb dX4_isWaiting_13 (by decide) (fun c1 => ?_) (fun c1 => ?_)
  · rw [if_neg c1] at hF
    refine lv_iconst (v := (0 : Int32)) hx hb dX4_isWaiting_37 (by decide) ?_
    exact kret (0 : Int32) τ _ _ _ _ ⟨(congrArg bi hF), rfl⟩ Z.nila dX4_isWaiting_38
  · rw [if_pos c1] at hF
    refine lv_aload_n hx hb dX4_isWaiting_16 rfl (lv_at hl 0 rfl) ?_
    refine kget Fc Z inX4 0 rfl rfl 0 (by decide) mF_RX4_10 rfl rfl dX4_isWaiting_17 ?_
    refine kgetN Fc Z inX2 1 rfl rfl 2 (by decide) nw_RX4_192 rfl rfl dX4_isWaiting_20 ?_
    refine lv_iload_n hx hb dX4_isWaiting_23 rfl (lv_at hl 1 rfl) ?_
    refine lv_iconst (v := (2 : Int32)) hx hb dX4_isWaiting_24 (by decide) ?_
    refine kr_i (As := [.int p1, .int (2 : Int32)]) Fc hA Z Lens.c2 (c_X3_get l D cI cS (ad 6) (ad 7) 24 4 (24 * 4) sh2 (τ.1 2) ok.2.2.1 p1 (2 : Int32) (tget 4 (τ.1 2) p1 (2 : Int32)) rfl) mL_RX4_88 v_X3_get ⟨rfl, rfl⟩ ⟨Nat.le_of_ble_eq_true rfl, Nat.le_of_ble_eq_true rfl⟩ ⟨Nat.zero_le _, Nat.zero_le _⟩ 6 3 rfl rfl rfl hl (Nat.le_of_ble_eq_true rfl) dX4_isWaiting_25 rfl (fun H locs Z => ?_)
    refine lv_bipush (v := (-2 : Int32)) hx hb dX4_isWaiting_28 (by decide) ?_
    refine lv_icmp_ne (tgt := 37) hx hb dX4_isWaiting_30 (by decide) (fun c2 => ?_) (fun c2 => ?_)
    · rw [if_neg c2] at hF
      refine lv_iconst (v := (0 : Int32)) hx hb dX4_isWaiting_37 (by decide) ?_
      exact kret (0 : Int32) τ _ _ _ _ ⟨(congrArg bi hF), rfl⟩ Z.nila dX4_isWaiting_38
    · rw [if_pos c2] at hF
      refine lv_iconst (v := (1 : Int32)) hx hb dX4_isWaiting_33 (by decide) ?_
      refine lv_goto (tgt := 38) hx hb dX4_isWaiting_34 (by decide) ?_
      exact kret (1 : Int32) τ _ _ _ _ ⟨(congrArg bi hF), rfl⟩ Z.nila dX4_isWaiting_38
def X4_firstWaiting_L2 (τ : St) (x1 : Int32) : Nat → Int32 → Option (Int32)
  | 0, _ => none
  | k + 1, x2 => if (τ.1 2).1 ≤ x2 then (some (-2 : Int32)) else if (bi (X4_isWaiting τ x2 x1)) = 0 then (X4_firstWaiting_L2 τ x1 k ((x2 + (1 : Int32)))) else some x2
def X4_firstWaiting (τ : St) (p1 : Int32) : Option (Int32) := X4_firstWaiting_L2 τ p1 FU (0 : Int32)
def rm_X4_firstWaiting : Room := { frames := 2, cells := 0, slots := 0, locals := 45 }
theorem v_X4_firstWaiting : WdV RX4 yX4_firstWaiting cX4_firstWaiting 3 (some .int) 1 := ⟨mI_X4_firstWaiting, mS_X4_firstWaiting, mZ_RX4, mC_X4_firstWaiting, by decide +kernel⟩
set_option maxHeartbeats 8000000 in
set_option maxRecDepth 100000 in
theorem c_X4_firstWaiting (l : Launch) (D : va_G) (cI cS : ClassId) (ad : Nat → Nat) (hs : Bool) (τ : St) (ok : OK τ) (p1 : Int32) (F : Int32) (hF : X4_firstWaiting τ p1 = some F) : MI l yX4_firstWaiting cX4_firstWaiting 3 (some .int) rm_X4_firstWaiting D cI cS [.ref (ad 0), .int p1] (cW ad cI hs τ) (cW ad cI hs) (fun r u' => r = F ∧ u' = τ) := by
  refine MI.mk RX4 rfl .int rfl (by decide) (Nat.le_of_ble_eq_true rfl) (fun _ _ _ => rfl) ?_
  intro p e s m args below meth c A Q ls Fc hin hA Z kret hl
  obtain ⟨hx, hb, hml, hown, hts, hKN⟩ := id Fc
  replace hl : lv_has ls 3 [(0, .ref (ad 0)), (1, .int p1)] := hl
  replace Z := Z.anil
  have L2 : ∀ (x1 : Int32) (k : Nat) (x2 : Int32) (H : Heap) (locs : List Loc) (ls : Array Slot), X4_firstWaiting_L2 τ x1  k x2 = some F → OK τ → Ix D A s (cW ad cI hs τ ++ []) H locs → lv_has ls 3 [(0, .ref (ad 0)), (1, .int x1), (2, .int x2)] → W p l e rm_X4_firstWaiting s m args below meth c H locs 0 0 Q (F0 m 2 ls []) := by
    intro x1 k
    induction k with
    | zero => intro x2 H locs ls hF; rw [X4_firstWaiting_L2] at hF; cases hF
    | succ k ih =>
      intro x2 H locs ls hF ok Z hl
      rw [X4_firstWaiting_L2] at hF
      refine lv_iload_n hx hb dX4_firstWaiting_2 rfl (lv_at hl 2 rfl) ?_
      refine lv_aload_n hx hb dX4_firstWaiting_3 rfl (lv_at hl 0 rfl) ?_
      refine kget Fc Z inX4 0 rfl rfl 0 (by decide) mF_RX4_10 rfl rfl dX4_firstWaiting_4 ?_
      refine kgetN Fc Z inX2 1 rfl rfl 2 (by decide) nw_RX4_192 rfl rfl dX4_firstWaiting_7 ?_
      refine kr_i (As := []) Fc hA Z Lens.c2 (c_X3_size l D cI cS (ad 6) (ad 7) 24 4 (24 * 4) sh2 (τ.1 2) ok.2.2.1  (τ.1 2).1 rfl) mL_RX4_92 v_X3_size ⟨rfl, rfl⟩ ⟨Nat.le_of_ble_eq_true rfl, Nat.le_of_ble_eq_true rfl⟩ ⟨Nat.zero_le _, Nat.zero_le _⟩ 6 3 rfl rfl rfl hl (Nat.le_of_ble_eq_true rfl) dX4_firstWaiting_10 rfl (fun H locs Z => ?_)
      refine lv_icmp_ge (tgt := 33) hx hb dX4_firstWaiting_13 (by decide) (fun c1 => ?_) (fun c1 => ?_)
      · rw [if_pos c1] at hF
        refine lv_bipush (v := (-2 : Int32)) hx hb dX4_firstWaiting_33 (by decide) ?_
        exact kret (-2 : Int32) τ _ _ _ _ ⟨(Option.some.inj hF), rfl⟩ Z.nila dX4_firstWaiting_35
      · rw [if_neg c1] at hF
        refine lv_aload_n hx hb dX4_firstWaiting_16 rfl (lv_at hl 0 rfl) ?_
        refine lv_iload_n hx hb dX4_firstWaiting_17 rfl (lv_at hl 2 rfl) ?_
        refine lv_iload_n hx hb dX4_firstWaiting_18 rfl (lv_at hl 1 rfl) ?_
        refine kr_i (As := [.int x2, .int x1]) Fc hA Z (Lens.tail []) (c_X4_isWaiting l D cI cS ad hs τ ok x2 x1 (X4_isWaiting τ x2 x1) rfl) mL_RX4_314 v_X4_isWaiting ⟨rfl, rfl⟩ ⟨Nat.le_of_ble_eq_true rfl, Nat.le_of_ble_eq_true rfl⟩ ⟨Nat.zero_le _, Nat.zero_le _⟩ 0 4 rfl rfl rfl hl (Nat.le_of_ble_eq_true rfl) dX4_firstWaiting_19 rfl (fun H locs Z => ?_)
        refine lv_if_eq (tgt := 27) hx hb dX4_firstWaiting_22 (by decide) (fun c2 => ?_) (fun c2 => ?_)
        · rw [if_pos c2] at hF
          refine lv_iinc (v := (x2 + (1 : Int32))) (lv' := [(2, .int (x2 + (1 : Int32))), (0, .ref (ad 0)), (1, .int x1)]) hx hb dX4_firstWaiting_27 hl (k := 2) rfl (by rfl) (by decide) rfl (fun ls hl => ?_)
          refine lv_goto (tgt := 2) hx hb dX4_firstWaiting_30 (by decide) ?_
          exact ih ((x2 + (1 : Int32))) _ _ _ hF ok Z (lv_sub hl [1, 2, 0] rfl)
        · rw [if_neg c2] at hF
          refine lv_iload_n hx hb dX4_firstWaiting_25 rfl (lv_at hl 2 rfl) ?_
          exact kret x2 τ _ _ _ _ ⟨(Option.some.inj hF), rfl⟩ Z.nila dX4_firstWaiting_26
  unfold X4_firstWaiting at hF
  refine lv_iconst (v := (0 : Int32)) hx hb dX4_firstWaiting_0 (by decide) ?_
  refine lv_istore_n (lv' := [(2, .int (0 : Int32)), (0, .ref (ad 0)), (1, .int p1)]) hx hb dX4_firstWaiting_1 rfl hl (by decide) rfl (fun ls hl => ?_)
  exact L2 p1 FU (0 : Int32) _ _ _ hF ok Z (lv_sub hl [1, 2, 0] rfl)
def X4_titleOf (τ : St) (p1 : Int32) : Int32 := (tget 12 (τ.1 0) p1 (0 : Int32))
def rm_X4_titleOf : Room := { frames := 1, cells := 0, slots := 0, locals := 23 }
theorem v_X4_titleOf : WdV RX4 yX4_titleOf cX4_titleOf 2 (some .int) 1 := ⟨mI_X4_titleOf, mS_X4_titleOf, mZ_RX4, mC_X4_titleOf, by decide +kernel⟩
set_option maxHeartbeats 8000000 in
set_option maxRecDepth 100000 in
theorem c_X4_titleOf (l : Launch) (D : va_G) (cI cS : ClassId) (ad : Nat → Nat) (hs : Bool) (τ : St) (ok : OK τ) (p1 : Int32) (F : Int32) (hF : X4_titleOf τ p1 = F) : MI l yX4_titleOf cX4_titleOf 2 (some .int) rm_X4_titleOf D cI cS [.ref (ad 0), .int p1] (cW ad cI hs τ) (cW ad cI hs) (fun r u' => r = F ∧ u' = τ) := by
  refine MI.mk RX4 rfl .int rfl (by decide) (Nat.le_of_ble_eq_true rfl) (fun _ _ _ => rfl) ?_
  intro p e s m args below meth c A Q ls Fc hin hA Z kret hl
  obtain ⟨hx, hb, hml, hown, hts, hKN⟩ := id Fc
  replace hl : lv_has ls 2 [(0, .ref (ad 0)), (1, .int p1)] := hl
  replace Z := Z.anil
  unfold X4_titleOf at hF
  refine lv_aload_n hx hb dX4_titleOf_0 rfl (lv_at hl 0 rfl) ?_
  refine kget Fc Z inX4 0 rfl rfl 0 (by decide) mF_RX4_10 rfl rfl dX4_titleOf_1 ?_
  refine kgetN Fc Z inX2 1 rfl rfl 0 (by decide) nw_RX4_47 rfl rfl dX4_titleOf_4 ?_
  refine lv_iload_n hx hb dX4_titleOf_7 rfl (lv_at hl 1 rfl) ?_
  refine lv_iconst (v := (0 : Int32)) hx hb dX4_titleOf_8 (by decide) ?_
  refine kr_i (As := [.int p1, .int (0 : Int32)]) Fc hA Z Lens.c0 (c_X3_get l D cI cS (ad 2) (ad 3) 20 12 (20 * 12) sh0 (τ.1 0) ok.1 p1 (0 : Int32) (tget 12 (τ.1 0) p1 (0 : Int32)) rfl) mL_RX4_88 v_X3_get ⟨rfl, rfl⟩ ⟨Nat.le_of_ble_eq_true rfl, Nat.le_of_ble_eq_true rfl⟩ ⟨Nat.zero_le _, Nat.zero_le _⟩ 2 3 rfl rfl rfl hl (Nat.le_of_ble_eq_true rfl) dX4_titleOf_9 rfl (fun H locs Z => ?_)
  exact kret ((tget 12 (τ.1 0) p1 (0 : Int32))) τ _ _ _ _ ⟨hF, rfl⟩ Z.nila dX4_titleOf_12
def X4_becomeFree (τ : St) (p1 p2 : Int32) : Option (St) := (X4_firstWaiting τ (X4_titleOf τ p1)).bind fun v1 => if v1 = (-2 : Int32) then (if (tget 12 (τ.1 0) p1 (2 : Int32)) = 0 then (bnd (X4_putLoan τ p1 (-2 : Int32) (-2 : Int32) (-2 : Int32)) fun q19 => bnd (tput 12 (q19.1 0) p1 (5 : Int32) (-2 : Int32)) fun q21 => bnd (stT q19 0 q21) fun τ23 => if (tget 12 (τ.1 0) p1 (1 : Int32)) = p2 then (if v1 = (-2 : Int32) then (bnd (X4_putCopy τ23 p1 (0 : Int32) p2 (-2 : Int32)) fun q27 => some q27) else bnd (X4_putCopy τ23 p1 (3 : Int32) p2 ((τ23.2 + (X4_valueOf τ23 (5 : Int32))))) fun q29 => some q29) else bnd (X4_putCopy τ23 p1 (2 : Int32) ((tget 12 (τ.1 0) p1 (1 : Int32))) ((τ23.2 + (X4_wayBetween p2 ((tget 12 (τ.1 0) p1 (1 : Int32))))))) fun q31 => some q31) else bnd (X4_putLoan τ p1 (-2 : Int32) (-2 : Int32) (-2 : Int32)) fun q5 => bnd (tput 12 (q5.1 0) p1 (5 : Int32) (-2 : Int32)) fun q7 => bnd (stT q5 0 q7) fun τ9 => if p2 = p2 then (if v1 = (-2 : Int32) then (bnd (X4_putCopy τ9 p1 (0 : Int32) p2 (-2 : Int32)) fun q13 => some q13) else bnd (X4_putCopy τ9 p1 (3 : Int32) p2 ((τ9.2 + (X4_valueOf τ9 (5 : Int32))))) fun q15 => some q15) else bnd (X4_putCopy τ9 p1 (2 : Int32) p2 ((τ9.2 + (X4_wayBetween p2 p2)))) fun q17 => some q17) else bnd (tput 4 (τ.1 2) v1 (2 : Int32) p1) fun q33 => bnd (stT τ 2 q33) fun τ35 => bnd (X4_putLoan τ35 p1 (-2 : Int32) (-2 : Int32) (-2 : Int32)) fun q37 => bnd (tput 12 (q37.1 0) p1 (5 : Int32) ((tget 4 (τ35.1 2) v1 (0 : Int32)))) fun q39 => bnd (stT q37 0 q39) fun τ41 => if (tget 4 (τ35.1 2) v1 (1 : Int32)) = p2 then (if v1 = (-2 : Int32) then (bnd (X4_putCopy τ41 p1 (0 : Int32) p2 (-2 : Int32)) fun q45 => some q45) else bnd (X4_putCopy τ41 p1 (3 : Int32) p2 ((τ41.2 + (X4_valueOf τ41 (5 : Int32))))) fun q47 => some q47) else bnd (X4_putCopy τ41 p1 (2 : Int32) ((tget 4 (τ35.1 2) v1 (1 : Int32))) ((τ41.2 + (X4_wayBetween p2 ((tget 4 (τ35.1 2) v1 (1 : Int32))))))) fun q49 => some q49
def rm_X4_becomeFree : Room := { frames := 3, cells := 0, slots := 0, locals := 67 }
theorem v_X4_becomeFree : WdV RX4 yX4_becomeFree cX4_becomeFree 6 none 2 := ⟨mI_X4_becomeFree, mS_X4_becomeFree, mZ_RX4, mC_X4_becomeFree, by decide +kernel⟩
set_option maxHeartbeats 8000000 in
set_option maxRecDepth 100000 in
theorem c_X4_becomeFree (l : Launch) (D : va_G) (cI cS : ClassId) (ad : Nat → Nat) (hs : Bool) (τ : St) (ok : OK τ) (p1 p2 : Int32) (F : St) (hF : X4_becomeFree τ p1 p2 = some F) : MV l yX4_becomeFree cX4_becomeFree 6 rm_X4_becomeFree D cI cS [.ref (ad 0), .int p1, .int p2] (cW ad cI hs τ) (cW ad cI hs) (fun u => u = F ∧ OK u) := by
  refine MV.mk RX4 rfl (by decide) (Nat.le_of_ble_eq_true rfl) ?_
  intro p e s m args below meth c A Q ls Fc hin hA Z kret hl
  obtain ⟨hx, hb, hml, hown, hts, hKN⟩ := id Fc
  replace hl : lv_has ls 6 [(0, .ref (ad 0)), (1, .int p1), (2, .int p2)] := hl
  replace Z := Z.anil
  unfold X4_becomeFree at hF
  refine lv_aload_n hx hb dX4_becomeFree_0 rfl (lv_at hl 0 rfl) ?_
  refine lv_aload_n hx hb dX4_becomeFree_1 rfl (lv_at hl 0 rfl) ?_
  refine lv_iload_n hx hb dX4_becomeFree_2 rfl (lv_at hl 1 rfl) ?_
  refine kr_i (As := [.int p1]) Fc hA Z (Lens.tail []) (c_X4_titleOf l D cI cS ad hs τ ok p1 (X4_titleOf τ p1) rfl) mL_RX4_118 v_X4_titleOf ⟨rfl, rfl⟩ ⟨Nat.le_of_ble_eq_true rfl, Nat.le_of_ble_eq_true rfl⟩ ⟨Nat.zero_le _, Nat.zero_le _⟩ 0 4 rfl rfl rfl hl (Nat.le_of_ble_eq_true rfl) dX4_becomeFree_3 rfl (fun H locs Z => ?_)
  obtain ⟨v1, h2, hF⟩ := obind hF
  refine kr_i (As := [.int (X4_titleOf τ p1)]) Fc hA Z (Lens.tail []) (c_X4_firstWaiting l D cI cS ad hs τ ok (X4_titleOf τ p1) v1 h2) mL_RX4_173 v_X4_firstWaiting ⟨rfl, rfl⟩ ⟨Nat.le_of_ble_eq_true rfl, Nat.le_of_ble_eq_true rfl⟩ ⟨Nat.zero_le _, Nat.zero_le _⟩ 0 4 rfl rfl rfl hl (Nat.le_of_ble_eq_true rfl) dX4_becomeFree_6 rfl (fun H locs Z => ?_)
  refine lv_istore_n (lv' := [(3, .int v1), (0, .ref (ad 0)), (1, .int p1), (2, .int p2)]) hx hb dX4_becomeFree_9 rfl hl (by decide) rfl (fun ls hl => ?_)
  refine lv_iload_n hx hb dX4_becomeFree_10 rfl (lv_at hl 3 rfl) ?_
  refine lv_istore (lv' := [(4, .int p2), (3, .int v1), (0, .ref (ad 0)), (1, .int p1), (2, .int p2)]) hx hb dX4_becomeFree_11 hl (by decide) rfl (fun ls hl => ?_)
  refine lv_bipush (v := (-2 : Int32)) hx hb dX4_becomeFree_13 (by decide) ?_
  refine lv_istore (lv' := [(5, .int (-2 : Int32)), (4, .int p2), (3, .int v1), (0, .ref (ad 0)), (1, .int p1), (2, .int p2)]) hx hb dX4_becomeFree_15 hl (by decide) rfl (fun ls hl => ?_)
  refine lv_iload_n hx hb dX4_becomeFree_17 rfl (lv_at hl 2 rfl) ?_
  refine lv_bipush (v := (-2 : Int32)) hx hb dX4_becomeFree_18 (by decide) ?_
  refine lv_icmp_eq (tgt := 67) hx hb dX4_becomeFree_20 (by decide) (fun c3 => ?_) (fun c3 => ?_)
  · rw [if_pos c3] at hF
    refine lv_aload_n hx hb dX4_becomeFree_67 rfl (lv_at hl 3 rfl) ?_
    refine kget Fc Z inX4 0 rfl rfl 0 (by decide) mF_RX4_10 rfl rfl dX4_becomeFree_68 ?_
    refine kgetN Fc Z inX2 1 rfl rfl 0 (by decide) nw_RX4_47 rfl rfl dX4_becomeFree_71 ?_
    refine lv_iload_n hx hb dX4_becomeFree_74 rfl (lv_at hl 4 rfl) ?_
    refine lv_iconst (v := (2 : Int32)) hx hb dX4_becomeFree_75 (by decide) ?_
    refine kr_i (As := [.int p1, .int (2 : Int32)]) Fc hA Z Lens.c0 (c_X3_get l D cI cS (ad 2) (ad 3) 20 12 (20 * 12) sh0 (τ.1 0) ok.1 p1 (2 : Int32) (tget 12 (τ.1 0) p1 (2 : Int32)) rfl) mL_RX4_88 v_X3_get ⟨rfl, rfl⟩ ⟨Nat.le_of_ble_eq_true rfl, Nat.le_of_ble_eq_true rfl⟩ ⟨Nat.zero_le _, Nat.zero_le _⟩ 2 3 rfl rfl rfl hl (Nat.le_of_ble_eq_true rfl) dX4_becomeFree_76 rfl (fun H locs Z => ?_)
    refine lv_if_ne (tgt := 96) hx hb dX4_becomeFree_79 (by decide) (fun c4 => ?_) (fun c4 => ?_)
    · rw [if_neg c4] at hF
      refine lv_aload_n hx hb dX4_becomeFree_96 rfl (lv_at hl 3 rfl) ?_
      refine lv_iload_n hx hb dX4_becomeFree_97 rfl (lv_at hl 4 rfl) ?_
      refine lv_bipush (v := (-2 : Int32)) hx hb dX4_becomeFree_98 (by decide) ?_
      refine lv_bipush (v := (-2 : Int32)) hx hb dX4_becomeFree_100 (by decide) ?_
      refine lv_bipush (v := (-2 : Int32)) hx hb dX4_becomeFree_102 (by decide) ?_
      obtain ⟨q5, e6, hF⟩ := bnd_el hF
      refine kv_i (As := [.int p1, .int (-2 : Int32), .int (-2 : Int32), .int (-2 : Int32)]) (ok := OK) Fc hA Z (Lens.tail []) (c_X4_putLoan l D cI cS ad hs τ ok p1 (-2 : Int32) (-2 : Int32) (-2 : Int32) q5 e6.symm) mL_RX4_140 v_X4_putLoan ⟨rfl, rfl⟩ ⟨Nat.le_of_ble_eq_true rfl, Nat.le_of_ble_eq_true rfl⟩ ⟨Nat.zero_le _, Nat.zero_le _⟩ 0 4 rfl rfl rfl hl (Nat.le_of_ble_eq_true rfl) dX4_becomeFree_104 rfl (fun H locs ok1 Z => ?_)
      have ok := ok1
      refine lv_aload_n hx hb dX4_becomeFree_107 rfl (lv_at hl 3 rfl) ?_
      refine kget Fc Z inX4 0 rfl rfl 0 (by decide) mF_RX4_10 rfl rfl dX4_becomeFree_108 ?_
      refine kgetN Fc Z inX2 1 rfl rfl 0 (by decide) nw_RX4_47 rfl rfl dX4_becomeFree_111 ?_
      refine lv_iload_n hx hb dX4_becomeFree_114 rfl (lv_at hl 4 rfl) ?_
      refine lv_iconst (v := (5 : Int32)) hx hb dX4_becomeFree_115 (by decide) ?_
      refine lv_iload hx hb dX4_becomeFree_116 (lv_at hl 0 rfl) ?_
      obtain ⟨q7, e8, hF⟩ := bnd_el hF
      refine kv_i (As := [.int p1, .int (5 : Int32), .int (-2 : Int32)]) (ok := tbOK 20) Fc hA Z Lens.c0 (c_X3_put l D cI cS (ad 2) (ad 3) 20 12 (20 * 12) sh0 (q5.1 0) ok.1 p1 (5 : Int32) (-2 : Int32) q7 e8.symm) mL_RX4_57 v_X3_put ⟨rfl, rfl⟩ ⟨Nat.le_of_ble_eq_true rfl, Nat.le_of_ble_eq_true rfl⟩ ⟨Nat.zero_le _, Nat.zero_le _⟩ 2 3 rfl rfl rfl hl (Nat.le_of_ble_eq_true rfl) dX4_becomeFree_118 rfl (fun H locs ok1 Z => ?_)
      obtain ⟨τ9, e10, hF⟩ := bnd_el hF
      rw [← e10] at Z
      have ok : OK τ9 := by rw [e10]; exact ok_c0 ok ok1
      refine lv_iload hx hb dX4_becomeFree_121 (lv_at hl 1 rfl) ?_
      refine lv_iload_n hx hb dX4_becomeFree_123 rfl (lv_at hl 5 rfl) ?_
      refine lv_icmp_eq (tgt := 152) hx hb dX4_becomeFree_124 (by decide) (fun c11 => ?_) (fun c11 => ?_)
      · rw [if_pos c11] at hF
        refine lv_iload_n hx hb dX4_becomeFree_152 rfl (lv_at hl 2 rfl) ?_
        refine lv_bipush (v := (-2 : Int32)) hx hb dX4_becomeFree_153 (by decide) ?_
        refine lv_icmp_eq (tgt := 181) hx hb dX4_becomeFree_155 (by decide) (fun c12 => ?_) (fun c12 => ?_)
        · rw [if_pos c12] at hF
          refine lv_aload_n hx hb dX4_becomeFree_181 rfl (lv_at hl 3 rfl) ?_
          refine lv_iload_n hx hb dX4_becomeFree_182 rfl (lv_at hl 4 rfl) ?_
          refine lv_iconst (v := (0 : Int32)) hx hb dX4_becomeFree_183 (by decide) ?_
          refine lv_iload_n hx hb dX4_becomeFree_184 rfl (lv_at hl 5 rfl) ?_
          refine lv_bipush (v := (-2 : Int32)) hx hb dX4_becomeFree_185 (by decide) ?_
          obtain ⟨q13, e14, hF⟩ := bnd_el hF
          refine kv_i (As := [.int p1, .int (0 : Int32), .int p2, .int (-2 : Int32)]) (ok := OK) Fc hA Z (Lens.tail []) (c_X4_putCopy l D cI cS ad hs τ9 ok p1 (0 : Int32) p2 (-2 : Int32) q13 e14.symm) mL_RX4_114 v_X4_putCopy ⟨rfl, rfl⟩ ⟨Nat.le_of_ble_eq_true rfl, Nat.le_of_ble_eq_true rfl⟩ ⟨Nat.zero_le _, Nat.zero_le _⟩ 0 4 rfl rfl rfl hl (Nat.le_of_ble_eq_true rfl) dX4_becomeFree_187 rfl (fun H locs ok1 Z => ?_)
          have ok := ok1
          exact kret q13 _ _ _ _ ⟨(Option.some.inj hF), ok⟩ Z.nila dX4_becomeFree_190
        · rw [if_neg c12] at hF
          refine lv_aload_n hx hb dX4_becomeFree_158 rfl (lv_at hl 3 rfl) ?_
          refine lv_iload_n hx hb dX4_becomeFree_159 rfl (lv_at hl 4 rfl) ?_
          refine lv_iconst (v := (3 : Int32)) hx hb dX4_becomeFree_160 (by decide) ?_
          refine lv_iload_n hx hb dX4_becomeFree_161 rfl (lv_at hl 5 rfl) ?_
          refine lv_aload_n hx hb dX4_becomeFree_162 rfl (lv_at hl 3 rfl) ?_
          refine kget Fc Z inX4 0 rfl rfl 0 (by decide) mF_RX4_10 rfl rfl dX4_becomeFree_163 ?_
          refine kgetN Fc Z inX2 1 rfl rfl 5 (by decide) nw_RX4_98 rfl rfl dX4_becomeFree_166 ?_
          refine lv_aload_n hx hb dX4_becomeFree_169 rfl (lv_at hl 3 rfl) ?_
          refine lv_iconst (v := (5 : Int32)) hx hb dX4_becomeFree_170 (by decide) ?_
          refine kr_i (As := [.int (5 : Int32)]) Fc hA Z (Lens.tail []) (c_X4_valueOf l D cI cS ad hs τ9 ok (5 : Int32) (X4_valueOf τ9 (5 : Int32)) rfl) mL_RX4_82 v_X4_valueOf ⟨rfl, rfl⟩ ⟨Nat.le_of_ble_eq_true rfl, Nat.le_of_ble_eq_true rfl⟩ ⟨Nat.zero_le _, Nat.zero_le _⟩ 0 4 rfl rfl rfl hl (Nat.le_of_ble_eq_true rfl) dX4_becomeFree_171 rfl (fun H locs Z => ?_)
          refine lv_iadd hx hb dX4_becomeFree_174 ?_
          obtain ⟨q15, e16, hF⟩ := bnd_el hF
          refine kv_i (As := [.int p1, .int (3 : Int32), .int p2, .int ((τ9.2 + (X4_valueOf τ9 (5 : Int32))))]) (ok := OK) Fc hA Z (Lens.tail []) (c_X4_putCopy l D cI cS ad hs τ9 ok p1 (3 : Int32) p2 ((τ9.2 + (X4_valueOf τ9 (5 : Int32)))) q15 e16.symm) mL_RX4_114 v_X4_putCopy ⟨rfl, rfl⟩ ⟨Nat.le_of_ble_eq_true rfl, Nat.le_of_ble_eq_true rfl⟩ ⟨Nat.zero_le _, Nat.zero_le _⟩ 0 4 rfl rfl rfl hl (Nat.le_of_ble_eq_true rfl) dX4_becomeFree_175 rfl (fun H locs ok1 Z => ?_)
          have ok := ok1
          refine lv_goto (tgt := 190) hx hb dX4_becomeFree_178 (by decide) ?_
          exact kret q15 _ _ _ _ ⟨(Option.some.inj hF), ok⟩ Z.nila dX4_becomeFree_190
      · rw [if_neg c11] at hF
        refine lv_aload_n hx hb dX4_becomeFree_127 rfl (lv_at hl 3 rfl) ?_
        refine lv_iload_n hx hb dX4_becomeFree_128 rfl (lv_at hl 4 rfl) ?_
        refine lv_iconst (v := (2 : Int32)) hx hb dX4_becomeFree_129 (by decide) ?_
        refine lv_iload hx hb dX4_becomeFree_130 (lv_at hl 1 rfl) ?_
        refine lv_aload_n hx hb dX4_becomeFree_132 rfl (lv_at hl 3 rfl) ?_
        refine kget Fc Z inX4 0 rfl rfl 0 (by decide) mF_RX4_10 rfl rfl dX4_becomeFree_133 ?_
        refine kgetN Fc Z inX2 1 rfl rfl 5 (by decide) nw_RX4_98 rfl rfl dX4_becomeFree_136 ?_
        refine lv_iload_n hx hb dX4_becomeFree_139 rfl (lv_at hl 5 rfl) ?_
        refine lv_iload hx hb dX4_becomeFree_140 (lv_at hl 1 rfl) ?_
        refine ks_i (As := [.int p2, .int p2]) Fc hA Z (c_X4_wayBetween l D cI cS p2 p2 (X4_wayBetween p2 p2) rfl) mL_RX4_296 v_X4_wayBetween ⟨rfl, rfl⟩ ⟨Nat.le_of_ble_eq_true rfl, Nat.le_of_ble_eq_true rfl⟩ ⟨Nat.zero_le _, Nat.zero_le _⟩ rfl hl (Nat.le_of_ble_eq_true rfl) dX4_becomeFree_142 rfl (fun H locs Z => ?_)
        refine lv_iadd hx hb dX4_becomeFree_145 ?_
        obtain ⟨q17, e18, hF⟩ := bnd_el hF
        refine kv_i (As := [.int p1, .int (2 : Int32), .int p2, .int ((τ9.2 + (X4_wayBetween p2 p2)))]) (ok := OK) Fc hA Z (Lens.tail []) (c_X4_putCopy l D cI cS ad hs τ9 ok p1 (2 : Int32) p2 ((τ9.2 + (X4_wayBetween p2 p2))) q17 e18.symm) mL_RX4_114 v_X4_putCopy ⟨rfl, rfl⟩ ⟨Nat.le_of_ble_eq_true rfl, Nat.le_of_ble_eq_true rfl⟩ ⟨Nat.zero_le _, Nat.zero_le _⟩ 0 4 rfl rfl rfl hl (Nat.le_of_ble_eq_true rfl) dX4_becomeFree_146 rfl (fun H locs ok1 Z => ?_)
        have ok := ok1
        refine lv_goto (tgt := 190) hx hb dX4_becomeFree_149 (by decide) ?_
        exact kret q17 _ _ _ _ ⟨(Option.some.inj hF), ok⟩ Z.nila dX4_becomeFree_190
    · rw [if_pos c4] at hF
      refine lv_aload_n hx hb dX4_becomeFree_82 rfl (lv_at hl 3 rfl) ?_
      refine kget Fc Z inX4 0 rfl rfl 0 (by decide) mF_RX4_10 rfl rfl dX4_becomeFree_83 ?_
      refine kgetN Fc Z inX2 1 rfl rfl 0 (by decide) nw_RX4_47 rfl rfl dX4_becomeFree_86 ?_
      refine lv_iload_n hx hb dX4_becomeFree_89 rfl (lv_at hl 4 rfl) ?_
      refine lv_iconst (v := (1 : Int32)) hx hb dX4_becomeFree_90 (by decide) ?_
      refine kr_i (As := [.int p1, .int (1 : Int32)]) Fc hA Z Lens.c0 (c_X3_get l D cI cS (ad 2) (ad 3) 20 12 (20 * 12) sh0 (τ.1 0) ok.1 p1 (1 : Int32) (tget 12 (τ.1 0) p1 (1 : Int32)) rfl) mL_RX4_88 v_X3_get ⟨rfl, rfl⟩ ⟨Nat.le_of_ble_eq_true rfl, Nat.le_of_ble_eq_true rfl⟩ ⟨Nat.zero_le _, Nat.zero_le _⟩ 2 3 rfl rfl rfl hl (Nat.le_of_ble_eq_true rfl) dX4_becomeFree_91 rfl (fun H locs Z => ?_)
      refine lv_istore (lv' := [(4, .int (tget 12 (τ.1 0) p1 (1 : Int32))), (5, .int (-2 : Int32)), (3, .int v1), (0, .ref (ad 0)), (1, .int p1), (2, .int p2)]) hx hb dX4_becomeFree_94 hl (by decide) rfl (fun ls hl => ?_)
      refine lv_aload_n hx hb dX4_becomeFree_96 rfl (lv_at hl 3 rfl) ?_
      refine lv_iload_n hx hb dX4_becomeFree_97 rfl (lv_at hl 4 rfl) ?_
      refine lv_bipush (v := (-2 : Int32)) hx hb dX4_becomeFree_98 (by decide) ?_
      refine lv_bipush (v := (-2 : Int32)) hx hb dX4_becomeFree_100 (by decide) ?_
      refine lv_bipush (v := (-2 : Int32)) hx hb dX4_becomeFree_102 (by decide) ?_
      obtain ⟨q19, e20, hF⟩ := bnd_el hF
      refine kv_i (As := [.int p1, .int (-2 : Int32), .int (-2 : Int32), .int (-2 : Int32)]) (ok := OK) Fc hA Z (Lens.tail []) (c_X4_putLoan l D cI cS ad hs τ ok p1 (-2 : Int32) (-2 : Int32) (-2 : Int32) q19 e20.symm) mL_RX4_140 v_X4_putLoan ⟨rfl, rfl⟩ ⟨Nat.le_of_ble_eq_true rfl, Nat.le_of_ble_eq_true rfl⟩ ⟨Nat.zero_le _, Nat.zero_le _⟩ 0 4 rfl rfl rfl hl (Nat.le_of_ble_eq_true rfl) dX4_becomeFree_104 rfl (fun H locs ok1 Z => ?_)
      have ok := ok1
      refine lv_aload_n hx hb dX4_becomeFree_107 rfl (lv_at hl 3 rfl) ?_
      refine kget Fc Z inX4 0 rfl rfl 0 (by decide) mF_RX4_10 rfl rfl dX4_becomeFree_108 ?_
      refine kgetN Fc Z inX2 1 rfl rfl 0 (by decide) nw_RX4_47 rfl rfl dX4_becomeFree_111 ?_
      refine lv_iload_n hx hb dX4_becomeFree_114 rfl (lv_at hl 4 rfl) ?_
      refine lv_iconst (v := (5 : Int32)) hx hb dX4_becomeFree_115 (by decide) ?_
      refine lv_iload hx hb dX4_becomeFree_116 (lv_at hl 1 rfl) ?_
      obtain ⟨q21, e22, hF⟩ := bnd_el hF
      refine kv_i (As := [.int p1, .int (5 : Int32), .int (-2 : Int32)]) (ok := tbOK 20) Fc hA Z Lens.c0 (c_X3_put l D cI cS (ad 2) (ad 3) 20 12 (20 * 12) sh0 (q19.1 0) ok.1 p1 (5 : Int32) (-2 : Int32) q21 e22.symm) mL_RX4_57 v_X3_put ⟨rfl, rfl⟩ ⟨Nat.le_of_ble_eq_true rfl, Nat.le_of_ble_eq_true rfl⟩ ⟨Nat.zero_le _, Nat.zero_le _⟩ 2 3 rfl rfl rfl hl (Nat.le_of_ble_eq_true rfl) dX4_becomeFree_118 rfl (fun H locs ok1 Z => ?_)
      obtain ⟨τ23, e24, hF⟩ := bnd_el hF
      rw [← e24] at Z
      have ok : OK τ23 := by rw [e24]; exact ok_c0 ok ok1
      refine lv_iload hx hb dX4_becomeFree_121 (lv_at hl 0 rfl) ?_
      refine lv_iload_n hx hb dX4_becomeFree_123 rfl (lv_at hl 5 rfl) ?_
      refine lv_icmp_eq (tgt := 152) hx hb dX4_becomeFree_124 (by decide) (fun c25 => ?_) (fun c25 => ?_)
      · rw [if_pos c25] at hF
        refine lv_iload_n hx hb dX4_becomeFree_152 rfl (lv_at hl 2 rfl) ?_
        refine lv_bipush (v := (-2 : Int32)) hx hb dX4_becomeFree_153 (by decide) ?_
        refine lv_icmp_eq (tgt := 181) hx hb dX4_becomeFree_155 (by decide) (fun c26 => ?_) (fun c26 => ?_)
        · rw [if_pos c26] at hF
          refine lv_aload_n hx hb dX4_becomeFree_181 rfl (lv_at hl 3 rfl) ?_
          refine lv_iload_n hx hb dX4_becomeFree_182 rfl (lv_at hl 4 rfl) ?_
          refine lv_iconst (v := (0 : Int32)) hx hb dX4_becomeFree_183 (by decide) ?_
          refine lv_iload_n hx hb dX4_becomeFree_184 rfl (lv_at hl 5 rfl) ?_
          refine lv_bipush (v := (-2 : Int32)) hx hb dX4_becomeFree_185 (by decide) ?_
          obtain ⟨q27, e28, hF⟩ := bnd_el hF
          refine kv_i (As := [.int p1, .int (0 : Int32), .int p2, .int (-2 : Int32)]) (ok := OK) Fc hA Z (Lens.tail []) (c_X4_putCopy l D cI cS ad hs τ23 ok p1 (0 : Int32) p2 (-2 : Int32) q27 e28.symm) mL_RX4_114 v_X4_putCopy ⟨rfl, rfl⟩ ⟨Nat.le_of_ble_eq_true rfl, Nat.le_of_ble_eq_true rfl⟩ ⟨Nat.zero_le _, Nat.zero_le _⟩ 0 4 rfl rfl rfl hl (Nat.le_of_ble_eq_true rfl) dX4_becomeFree_187 rfl (fun H locs ok1 Z => ?_)
          have ok := ok1
          exact kret q27 _ _ _ _ ⟨(Option.some.inj hF), ok⟩ Z.nila dX4_becomeFree_190
        · rw [if_neg c26] at hF
          refine lv_aload_n hx hb dX4_becomeFree_158 rfl (lv_at hl 3 rfl) ?_
          refine lv_iload_n hx hb dX4_becomeFree_159 rfl (lv_at hl 4 rfl) ?_
          refine lv_iconst (v := (3 : Int32)) hx hb dX4_becomeFree_160 (by decide) ?_
          refine lv_iload_n hx hb dX4_becomeFree_161 rfl (lv_at hl 5 rfl) ?_
          refine lv_aload_n hx hb dX4_becomeFree_162 rfl (lv_at hl 3 rfl) ?_
          refine kget Fc Z inX4 0 rfl rfl 0 (by decide) mF_RX4_10 rfl rfl dX4_becomeFree_163 ?_
          refine kgetN Fc Z inX2 1 rfl rfl 5 (by decide) nw_RX4_98 rfl rfl dX4_becomeFree_166 ?_
          refine lv_aload_n hx hb dX4_becomeFree_169 rfl (lv_at hl 3 rfl) ?_
          refine lv_iconst (v := (5 : Int32)) hx hb dX4_becomeFree_170 (by decide) ?_
          refine kr_i (As := [.int (5 : Int32)]) Fc hA Z (Lens.tail []) (c_X4_valueOf l D cI cS ad hs τ23 ok (5 : Int32) (X4_valueOf τ23 (5 : Int32)) rfl) mL_RX4_82 v_X4_valueOf ⟨rfl, rfl⟩ ⟨Nat.le_of_ble_eq_true rfl, Nat.le_of_ble_eq_true rfl⟩ ⟨Nat.zero_le _, Nat.zero_le _⟩ 0 4 rfl rfl rfl hl (Nat.le_of_ble_eq_true rfl) dX4_becomeFree_171 rfl (fun H locs Z => ?_)
          refine lv_iadd hx hb dX4_becomeFree_174 ?_
          obtain ⟨q29, e30, hF⟩ := bnd_el hF
          refine kv_i (As := [.int p1, .int (3 : Int32), .int p2, .int ((τ23.2 + (X4_valueOf τ23 (5 : Int32))))]) (ok := OK) Fc hA Z (Lens.tail []) (c_X4_putCopy l D cI cS ad hs τ23 ok p1 (3 : Int32) p2 ((τ23.2 + (X4_valueOf τ23 (5 : Int32)))) q29 e30.symm) mL_RX4_114 v_X4_putCopy ⟨rfl, rfl⟩ ⟨Nat.le_of_ble_eq_true rfl, Nat.le_of_ble_eq_true rfl⟩ ⟨Nat.zero_le _, Nat.zero_le _⟩ 0 4 rfl rfl rfl hl (Nat.le_of_ble_eq_true rfl) dX4_becomeFree_175 rfl (fun H locs ok1 Z => ?_)
          have ok := ok1
          refine lv_goto (tgt := 190) hx hb dX4_becomeFree_178 (by decide) ?_
          exact kret q29 _ _ _ _ ⟨(Option.some.inj hF), ok⟩ Z.nila dX4_becomeFree_190
      · rw [if_neg c25] at hF
        refine lv_aload_n hx hb dX4_becomeFree_127 rfl (lv_at hl 3 rfl) ?_
        refine lv_iload_n hx hb dX4_becomeFree_128 rfl (lv_at hl 4 rfl) ?_
        refine lv_iconst (v := (2 : Int32)) hx hb dX4_becomeFree_129 (by decide) ?_
        refine lv_iload hx hb dX4_becomeFree_130 (lv_at hl 0 rfl) ?_
        refine lv_aload_n hx hb dX4_becomeFree_132 rfl (lv_at hl 3 rfl) ?_
        refine kget Fc Z inX4 0 rfl rfl 0 (by decide) mF_RX4_10 rfl rfl dX4_becomeFree_133 ?_
        refine kgetN Fc Z inX2 1 rfl rfl 5 (by decide) nw_RX4_98 rfl rfl dX4_becomeFree_136 ?_
        refine lv_iload_n hx hb dX4_becomeFree_139 rfl (lv_at hl 5 rfl) ?_
        refine lv_iload hx hb dX4_becomeFree_140 (lv_at hl 0 rfl) ?_
        refine ks_i (As := [.int p2, .int ((tget 12 (τ.1 0) p1 (1 : Int32)))]) Fc hA Z (c_X4_wayBetween l D cI cS p2 ((tget 12 (τ.1 0) p1 (1 : Int32))) (X4_wayBetween p2 ((tget 12 (τ.1 0) p1 (1 : Int32)))) rfl) mL_RX4_296 v_X4_wayBetween ⟨rfl, rfl⟩ ⟨Nat.le_of_ble_eq_true rfl, Nat.le_of_ble_eq_true rfl⟩ ⟨Nat.zero_le _, Nat.zero_le _⟩ rfl hl (Nat.le_of_ble_eq_true rfl) dX4_becomeFree_142 rfl (fun H locs Z => ?_)
        refine lv_iadd hx hb dX4_becomeFree_145 ?_
        obtain ⟨q31, e32, hF⟩ := bnd_el hF
        refine kv_i (As := [.int p1, .int (2 : Int32), .int ((tget 12 (τ.1 0) p1 (1 : Int32))), .int ((τ23.2 + (X4_wayBetween p2 ((tget 12 (τ.1 0) p1 (1 : Int32))))))]) (ok := OK) Fc hA Z (Lens.tail []) (c_X4_putCopy l D cI cS ad hs τ23 ok p1 (2 : Int32) ((tget 12 (τ.1 0) p1 (1 : Int32))) ((τ23.2 + (X4_wayBetween p2 ((tget 12 (τ.1 0) p1 (1 : Int32)))))) q31 e32.symm) mL_RX4_114 v_X4_putCopy ⟨rfl, rfl⟩ ⟨Nat.le_of_ble_eq_true rfl, Nat.le_of_ble_eq_true rfl⟩ ⟨Nat.zero_le _, Nat.zero_le _⟩ 0 4 rfl rfl rfl hl (Nat.le_of_ble_eq_true rfl) dX4_becomeFree_146 rfl (fun H locs ok1 Z => ?_)
        have ok := ok1
        refine lv_goto (tgt := 190) hx hb dX4_becomeFree_149 (by decide) ?_
        exact kret q31 _ _ _ _ ⟨(Option.some.inj hF), ok⟩ Z.nila dX4_becomeFree_190
  · rw [if_neg c3] at hF
    refine lv_aload_n hx hb dX4_becomeFree_23 rfl (lv_at hl 3 rfl) ?_
    refine kget Fc Z inX4 0 rfl rfl 0 (by decide) mF_RX4_10 rfl rfl dX4_becomeFree_24 ?_
    refine kgetN Fc Z inX2 1 rfl rfl 2 (by decide) nw_RX4_192 rfl rfl dX4_becomeFree_27 ?_
    refine lv_iload_n hx hb dX4_becomeFree_30 rfl (lv_at hl 2 rfl) ?_
    refine lv_iconst (v := (2 : Int32)) hx hb dX4_becomeFree_31 (by decide) ?_
    refine lv_iload_n hx hb dX4_becomeFree_32 rfl (lv_at hl 4 rfl) ?_
    obtain ⟨q33, e34, hF⟩ := bnd_el hF
    refine kv_i (As := [.int v1, .int (2 : Int32), .int p1]) (ok := tbOK 24) Fc hA Z Lens.c2 (c_X3_put l D cI cS (ad 6) (ad 7) 24 4 (24 * 4) sh2 (τ.1 2) ok.2.2.1 v1 (2 : Int32) p1 q33 e34.symm) mL_RX4_57 v_X3_put ⟨rfl, rfl⟩ ⟨Nat.le_of_ble_eq_true rfl, Nat.le_of_ble_eq_true rfl⟩ ⟨Nat.zero_le _, Nat.zero_le _⟩ 6 3 rfl rfl rfl hl (Nat.le_of_ble_eq_true rfl) dX4_becomeFree_33 rfl (fun H locs ok1 Z => ?_)
    obtain ⟨τ35, e36, hF⟩ := bnd_el hF
    rw [← e36] at Z
    have ok : OK τ35 := by rw [e36]; exact ok_c2 ok ok1
    refine lv_aload_n hx hb dX4_becomeFree_36 rfl (lv_at hl 3 rfl) ?_
    refine kget Fc Z inX4 0 rfl rfl 0 (by decide) mF_RX4_10 rfl rfl dX4_becomeFree_37 ?_
    refine kgetN Fc Z inX2 1 rfl rfl 2 (by decide) nw_RX4_192 rfl rfl dX4_becomeFree_40 ?_
    refine lv_iload_n hx hb dX4_becomeFree_43 rfl (lv_at hl 2 rfl) ?_
    refine lv_iconst (v := (1 : Int32)) hx hb dX4_becomeFree_44 (by decide) ?_
    refine kr_i (As := [.int v1, .int (1 : Int32)]) Fc hA Z Lens.c2 (c_X3_get l D cI cS (ad 6) (ad 7) 24 4 (24 * 4) sh2 (τ35.1 2) ok.2.2.1 v1 (1 : Int32) (tget 4 (τ35.1 2) v1 (1 : Int32)) rfl) mL_RX4_88 v_X3_get ⟨rfl, rfl⟩ ⟨Nat.le_of_ble_eq_true rfl, Nat.le_of_ble_eq_true rfl⟩ ⟨Nat.zero_le _, Nat.zero_le _⟩ 6 3 rfl rfl rfl hl (Nat.le_of_ble_eq_true rfl) dX4_becomeFree_45 rfl (fun H locs Z => ?_)
    refine lv_istore (lv' := [(4, .int (tget 4 (τ35.1 2) v1 (1 : Int32))), (5, .int (-2 : Int32)), (3, .int v1), (0, .ref (ad 0)), (1, .int p1), (2, .int p2)]) hx hb dX4_becomeFree_48 hl (by decide) rfl (fun ls hl => ?_)
    refine lv_aload_n hx hb dX4_becomeFree_50 rfl (lv_at hl 3 rfl) ?_
    refine kget Fc Z inX4 0 rfl rfl 0 (by decide) mF_RX4_10 rfl rfl dX4_becomeFree_51 ?_
    refine kgetN Fc Z inX2 1 rfl rfl 2 (by decide) nw_RX4_192 rfl rfl dX4_becomeFree_54 ?_
    refine lv_iload_n hx hb dX4_becomeFree_57 rfl (lv_at hl 2 rfl) ?_
    refine lv_iconst (v := (0 : Int32)) hx hb dX4_becomeFree_58 (by decide) ?_
    refine kr_i (As := [.int v1, .int (0 : Int32)]) Fc hA Z Lens.c2 (c_X3_get l D cI cS (ad 6) (ad 7) 24 4 (24 * 4) sh2 (τ35.1 2) ok.2.2.1 v1 (0 : Int32) (tget 4 (τ35.1 2) v1 (0 : Int32)) rfl) mL_RX4_88 v_X3_get ⟨rfl, rfl⟩ ⟨Nat.le_of_ble_eq_true rfl, Nat.le_of_ble_eq_true rfl⟩ ⟨Nat.zero_le _, Nat.zero_le _⟩ 6 3 rfl rfl rfl hl (Nat.le_of_ble_eq_true rfl) dX4_becomeFree_59 rfl (fun H locs Z => ?_)
    refine lv_istore (lv' := [(5, .int (tget 4 (τ35.1 2) v1 (0 : Int32))), (4, .int (tget 4 (τ35.1 2) v1 (1 : Int32))), (3, .int v1), (0, .ref (ad 0)), (1, .int p1), (2, .int p2)]) hx hb dX4_becomeFree_62 hl (by decide) rfl (fun ls hl => ?_)
    refine lv_goto (tgt := 96) hx hb dX4_becomeFree_64 (by decide) ?_
    refine lv_aload_n hx hb dX4_becomeFree_96 rfl (lv_at hl 3 rfl) ?_
    refine lv_iload_n hx hb dX4_becomeFree_97 rfl (lv_at hl 4 rfl) ?_
    refine lv_bipush (v := (-2 : Int32)) hx hb dX4_becomeFree_98 (by decide) ?_
    refine lv_bipush (v := (-2 : Int32)) hx hb dX4_becomeFree_100 (by decide) ?_
    refine lv_bipush (v := (-2 : Int32)) hx hb dX4_becomeFree_102 (by decide) ?_
    obtain ⟨q37, e38, hF⟩ := bnd_el hF
    refine kv_i (As := [.int p1, .int (-2 : Int32), .int (-2 : Int32), .int (-2 : Int32)]) (ok := OK) Fc hA Z (Lens.tail []) (c_X4_putLoan l D cI cS ad hs τ35 ok p1 (-2 : Int32) (-2 : Int32) (-2 : Int32) q37 e38.symm) mL_RX4_140 v_X4_putLoan ⟨rfl, rfl⟩ ⟨Nat.le_of_ble_eq_true rfl, Nat.le_of_ble_eq_true rfl⟩ ⟨Nat.zero_le _, Nat.zero_le _⟩ 0 4 rfl rfl rfl hl (Nat.le_of_ble_eq_true rfl) dX4_becomeFree_104 rfl (fun H locs ok1 Z => ?_)
    have ok := ok1
    refine lv_aload_n hx hb dX4_becomeFree_107 rfl (lv_at hl 3 rfl) ?_
    refine kget Fc Z inX4 0 rfl rfl 0 (by decide) mF_RX4_10 rfl rfl dX4_becomeFree_108 ?_
    refine kgetN Fc Z inX2 1 rfl rfl 0 (by decide) nw_RX4_47 rfl rfl dX4_becomeFree_111 ?_
    refine lv_iload_n hx hb dX4_becomeFree_114 rfl (lv_at hl 4 rfl) ?_
    refine lv_iconst (v := (5 : Int32)) hx hb dX4_becomeFree_115 (by decide) ?_
    refine lv_iload hx hb dX4_becomeFree_116 (lv_at hl 0 rfl) ?_
    obtain ⟨q39, e40, hF⟩ := bnd_el hF
    refine kv_i (As := [.int p1, .int (5 : Int32), .int ((tget 4 (τ35.1 2) v1 (0 : Int32)))]) (ok := tbOK 20) Fc hA Z Lens.c0 (c_X3_put l D cI cS (ad 2) (ad 3) 20 12 (20 * 12) sh0 (q37.1 0) ok.1 p1 (5 : Int32) ((tget 4 (τ35.1 2) v1 (0 : Int32))) q39 e40.symm) mL_RX4_57 v_X3_put ⟨rfl, rfl⟩ ⟨Nat.le_of_ble_eq_true rfl, Nat.le_of_ble_eq_true rfl⟩ ⟨Nat.zero_le _, Nat.zero_le _⟩ 2 3 rfl rfl rfl hl (Nat.le_of_ble_eq_true rfl) dX4_becomeFree_118 rfl (fun H locs ok1 Z => ?_)
    obtain ⟨τ41, e42, hF⟩ := bnd_el hF
    rw [← e42] at Z
    have ok : OK τ41 := by rw [e42]; exact ok_c0 ok ok1
    refine lv_iload hx hb dX4_becomeFree_121 (lv_at hl 1 rfl) ?_
    refine lv_iload_n hx hb dX4_becomeFree_123 rfl (lv_at hl 5 rfl) ?_
    refine lv_icmp_eq (tgt := 152) hx hb dX4_becomeFree_124 (by decide) (fun c43 => ?_) (fun c43 => ?_)
    · rw [if_pos c43] at hF
      refine lv_iload_n hx hb dX4_becomeFree_152 rfl (lv_at hl 2 rfl) ?_
      refine lv_bipush (v := (-2 : Int32)) hx hb dX4_becomeFree_153 (by decide) ?_
      refine lv_icmp_eq (tgt := 181) hx hb dX4_becomeFree_155 (by decide) (fun c44 => ?_) (fun c44 => ?_)
      · rw [if_pos c44] at hF
        refine lv_aload_n hx hb dX4_becomeFree_181 rfl (lv_at hl 3 rfl) ?_
        refine lv_iload_n hx hb dX4_becomeFree_182 rfl (lv_at hl 4 rfl) ?_
        refine lv_iconst (v := (0 : Int32)) hx hb dX4_becomeFree_183 (by decide) ?_
        refine lv_iload_n hx hb dX4_becomeFree_184 rfl (lv_at hl 5 rfl) ?_
        refine lv_bipush (v := (-2 : Int32)) hx hb dX4_becomeFree_185 (by decide) ?_
        obtain ⟨q45, e46, hF⟩ := bnd_el hF
        refine kv_i (As := [.int p1, .int (0 : Int32), .int p2, .int (-2 : Int32)]) (ok := OK) Fc hA Z (Lens.tail []) (c_X4_putCopy l D cI cS ad hs τ41 ok p1 (0 : Int32) p2 (-2 : Int32) q45 e46.symm) mL_RX4_114 v_X4_putCopy ⟨rfl, rfl⟩ ⟨Nat.le_of_ble_eq_true rfl, Nat.le_of_ble_eq_true rfl⟩ ⟨Nat.zero_le _, Nat.zero_le _⟩ 0 4 rfl rfl rfl hl (Nat.le_of_ble_eq_true rfl) dX4_becomeFree_187 rfl (fun H locs ok1 Z => ?_)
        have ok := ok1
        exact kret q45 _ _ _ _ ⟨(Option.some.inj hF), ok⟩ Z.nila dX4_becomeFree_190
      · rw [if_neg c44] at hF
        refine lv_aload_n hx hb dX4_becomeFree_158 rfl (lv_at hl 3 rfl) ?_
        refine lv_iload_n hx hb dX4_becomeFree_159 rfl (lv_at hl 4 rfl) ?_
        refine lv_iconst (v := (3 : Int32)) hx hb dX4_becomeFree_160 (by decide) ?_
        refine lv_iload_n hx hb dX4_becomeFree_161 rfl (lv_at hl 5 rfl) ?_
        refine lv_aload_n hx hb dX4_becomeFree_162 rfl (lv_at hl 3 rfl) ?_
        refine kget Fc Z inX4 0 rfl rfl 0 (by decide) mF_RX4_10 rfl rfl dX4_becomeFree_163 ?_
        refine kgetN Fc Z inX2 1 rfl rfl 5 (by decide) nw_RX4_98 rfl rfl dX4_becomeFree_166 ?_
        refine lv_aload_n hx hb dX4_becomeFree_169 rfl (lv_at hl 3 rfl) ?_
        refine lv_iconst (v := (5 : Int32)) hx hb dX4_becomeFree_170 (by decide) ?_
        refine kr_i (As := [.int (5 : Int32)]) Fc hA Z (Lens.tail []) (c_X4_valueOf l D cI cS ad hs τ41 ok (5 : Int32) (X4_valueOf τ41 (5 : Int32)) rfl) mL_RX4_82 v_X4_valueOf ⟨rfl, rfl⟩ ⟨Nat.le_of_ble_eq_true rfl, Nat.le_of_ble_eq_true rfl⟩ ⟨Nat.zero_le _, Nat.zero_le _⟩ 0 4 rfl rfl rfl hl (Nat.le_of_ble_eq_true rfl) dX4_becomeFree_171 rfl (fun H locs Z => ?_)
        refine lv_iadd hx hb dX4_becomeFree_174 ?_
        obtain ⟨q47, e48, hF⟩ := bnd_el hF
        refine kv_i (As := [.int p1, .int (3 : Int32), .int p2, .int ((τ41.2 + (X4_valueOf τ41 (5 : Int32))))]) (ok := OK) Fc hA Z (Lens.tail []) (c_X4_putCopy l D cI cS ad hs τ41 ok p1 (3 : Int32) p2 ((τ41.2 + (X4_valueOf τ41 (5 : Int32)))) q47 e48.symm) mL_RX4_114 v_X4_putCopy ⟨rfl, rfl⟩ ⟨Nat.le_of_ble_eq_true rfl, Nat.le_of_ble_eq_true rfl⟩ ⟨Nat.zero_le _, Nat.zero_le _⟩ 0 4 rfl rfl rfl hl (Nat.le_of_ble_eq_true rfl) dX4_becomeFree_175 rfl (fun H locs ok1 Z => ?_)
        have ok := ok1
        refine lv_goto (tgt := 190) hx hb dX4_becomeFree_178 (by decide) ?_
        exact kret q47 _ _ _ _ ⟨(Option.some.inj hF), ok⟩ Z.nila dX4_becomeFree_190
    · rw [if_neg c43] at hF
      refine lv_aload_n hx hb dX4_becomeFree_127 rfl (lv_at hl 3 rfl) ?_
      refine lv_iload_n hx hb dX4_becomeFree_128 rfl (lv_at hl 4 rfl) ?_
      refine lv_iconst (v := (2 : Int32)) hx hb dX4_becomeFree_129 (by decide) ?_
      refine lv_iload hx hb dX4_becomeFree_130 (lv_at hl 1 rfl) ?_
      refine lv_aload_n hx hb dX4_becomeFree_132 rfl (lv_at hl 3 rfl) ?_
      refine kget Fc Z inX4 0 rfl rfl 0 (by decide) mF_RX4_10 rfl rfl dX4_becomeFree_133 ?_
      refine kgetN Fc Z inX2 1 rfl rfl 5 (by decide) nw_RX4_98 rfl rfl dX4_becomeFree_136 ?_
      refine lv_iload_n hx hb dX4_becomeFree_139 rfl (lv_at hl 5 rfl) ?_
      refine lv_iload hx hb dX4_becomeFree_140 (lv_at hl 1 rfl) ?_
      refine ks_i (As := [.int p2, .int ((tget 4 (τ35.1 2) v1 (1 : Int32)))]) Fc hA Z (c_X4_wayBetween l D cI cS p2 ((tget 4 (τ35.1 2) v1 (1 : Int32))) (X4_wayBetween p2 ((tget 4 (τ35.1 2) v1 (1 : Int32)))) rfl) mL_RX4_296 v_X4_wayBetween ⟨rfl, rfl⟩ ⟨Nat.le_of_ble_eq_true rfl, Nat.le_of_ble_eq_true rfl⟩ ⟨Nat.zero_le _, Nat.zero_le _⟩ rfl hl (Nat.le_of_ble_eq_true rfl) dX4_becomeFree_142 rfl (fun H locs Z => ?_)
      refine lv_iadd hx hb dX4_becomeFree_145 ?_
      obtain ⟨q49, e50, hF⟩ := bnd_el hF
      refine kv_i (As := [.int p1, .int (2 : Int32), .int ((tget 4 (τ35.1 2) v1 (1 : Int32))), .int ((τ41.2 + (X4_wayBetween p2 ((tget 4 (τ35.1 2) v1 (1 : Int32))))))]) (ok := OK) Fc hA Z (Lens.tail []) (c_X4_putCopy l D cI cS ad hs τ41 ok p1 (2 : Int32) ((tget 4 (τ35.1 2) v1 (1 : Int32))) ((τ41.2 + (X4_wayBetween p2 ((tget 4 (τ35.1 2) v1 (1 : Int32)))))) q49 e50.symm) mL_RX4_114 v_X4_putCopy ⟨rfl, rfl⟩ ⟨Nat.le_of_ble_eq_true rfl, Nat.le_of_ble_eq_true rfl⟩ ⟨Nat.zero_le _, Nat.zero_le _⟩ 0 4 rfl rfl rfl hl (Nat.le_of_ble_eq_true rfl) dX4_becomeFree_146 rfl (fun H locs ok1 Z => ?_)
      have ok := ok1
      refine lv_goto (tgt := 190) hx hb dX4_becomeFree_149 (by decide) ?_
      exact kret q49 _ _ _ _ ⟨(Option.some.inj hF), ok⟩ Z.nila dX4_becomeFree_190
def X4_arriveOnThisDay_L2 : Nat → Int32 → St → Option (St)
  | 0, _, _ => none
  | k + 1, x1, τ => if (τ.1 0).1 ≤ x1 then (some τ) else if (X4_stateOf τ x1) = (2 : Int32) then (if (tget 12 (τ.1 0) x1 (6 : Int32)) ≤ τ.2 then (if (tget 12 (τ.1 0) x1 (5 : Int32)) = (-2 : Int32) then ((X4_becomeFree τ x1 ((tget 12 (τ.1 0) x1 (4 : Int32)))).bind fun q7 => X4_arriveOnThisDay_L2 k ((x1 + (1 : Int32))) q7) else bnd (X4_putCopy τ x1 (3 : Int32) ((tget 12 (τ.1 0) x1 (4 : Int32))) ((τ.2 + (X4_valueOf τ (5 : Int32))))) fun q5 => X4_arriveOnThisDay_L2 k ((x1 + (1 : Int32))) q5) else X4_arriveOnThisDay_L2 k ((x1 + (1 : Int32))) τ) else X4_arriveOnThisDay_L2 k ((x1 + (1 : Int32))) τ
def X4_arriveOnThisDay (τ : St) : Option (St) := X4_arriveOnThisDay_L2 FU (0 : Int32) τ
def rm_X4_arriveOnThisDay : Room := { frames := 4, cells := 0, slots := 0, locals := 92 }
theorem v_X4_arriveOnThisDay : WdV RX4 yX4_arriveOnThisDay cX4_arriveOnThisDay 3 none 0 := ⟨mI_X4_arriveOnThisDay, mS_X4_arriveOnThisDay, mZ_RX4, mC_X4_arriveOnThisDay, by decide +kernel⟩
set_option maxHeartbeats 8000000 in
set_option maxRecDepth 100000 in
theorem c_X4_arriveOnThisDay (l : Launch) (D : va_G) (cI cS : ClassId) (ad : Nat → Nat) (hs : Bool) (τ : St) (ok : OK τ) (F : St) (hF : X4_arriveOnThisDay τ = some F) : MV l yX4_arriveOnThisDay cX4_arriveOnThisDay 3 rm_X4_arriveOnThisDay D cI cS [.ref (ad 0)] (cW ad cI hs τ) (cW ad cI hs) (fun u => u = F ∧ OK u) := by
  refine MV.mk RX4 rfl (by decide) (Nat.le_of_ble_eq_true rfl) ?_
  intro p e s m args below meth c A Q ls Fc hin hA Z kret hl
  obtain ⟨hx, hb, hml, hown, hts, hKN⟩ := id Fc
  replace hl : lv_has ls 3 [(0, .ref (ad 0))] := hl
  replace Z := Z.anil
  have L2 : ∀ (k : Nat) (x1 : Int32) (τ : St) (H : Heap) (locs : List Loc) (ls : Array Slot), X4_arriveOnThisDay_L2  k x1 τ = some F → OK τ → Ix D A s (cW ad cI hs τ ++ []) H locs → lv_has ls 3 [(0, .ref (ad 0)), (1, .int x1)] → W p l e rm_X4_arriveOnThisDay s m args below meth c H locs 0 0 Q (F0 m 2 ls []) := by
    intro k
    induction k with
    | zero => intro x1 τ H locs ls hF; rw [X4_arriveOnThisDay_L2] at hF; cases hF
    | succ k ih =>
      intro x1 τ H locs ls hF ok Z hl
      rw [X4_arriveOnThisDay_L2] at hF
      refine lv_iload_n hx hb dX4_arriveOnThisDay_2 rfl (lv_at hl 1 rfl) ?_
      refine lv_aload_n hx hb dX4_arriveOnThisDay_3 rfl (lv_at hl 0 rfl) ?_
      refine kget Fc Z inX4 0 rfl rfl 0 (by decide) mF_RX4_10 rfl rfl dX4_arriveOnThisDay_4 ?_
      refine kgetN Fc Z inX2 1 rfl rfl 0 (by decide) nw_RX4_47 rfl rfl dX4_arriveOnThisDay_7 ?_
      refine kr_i (As := []) Fc hA Z Lens.c0 (c_X3_size l D cI cS (ad 2) (ad 3) 20 12 (20 * 12) sh0 (τ.1 0) ok.1  (τ.1 0).1 rfl) mL_RX4_92 v_X3_size ⟨rfl, rfl⟩ ⟨Nat.le_of_ble_eq_true rfl, Nat.le_of_ble_eq_true rfl⟩ ⟨Nat.zero_le _, Nat.zero_le _⟩ 2 3 rfl rfl rfl hl (Nat.le_of_ble_eq_true rfl) dX4_arriveOnThisDay_10 rfl (fun H locs Z => ?_)
      refine lv_icmp_ge (tgt := 116) hx hb dX4_arriveOnThisDay_13 (by decide) (fun c1 => ?_) (fun c1 => ?_)
      · rw [if_pos c1] at hF
        exact kret τ _ _ _ _ ⟨(Option.some.inj hF), ok⟩ Z.nila dX4_arriveOnThisDay_116
      · rw [if_neg c1] at hF
        refine lv_aload_n hx hb dX4_arriveOnThisDay_16 rfl (lv_at hl 0 rfl) ?_
        refine lv_iload_n hx hb dX4_arriveOnThisDay_17 rfl (lv_at hl 1 rfl) ?_
        refine kr_i (As := [.int x1]) Fc hA Z (Lens.tail []) (c_X4_stateOf l D cI cS ad hs τ ok x1 (X4_stateOf τ x1) rfl) mL_RX4_95 v_X4_stateOf ⟨rfl, rfl⟩ ⟨Nat.le_of_ble_eq_true rfl, Nat.le_of_ble_eq_true rfl⟩ ⟨Nat.zero_le _, Nat.zero_le _⟩ 0 4 rfl rfl rfl hl (Nat.le_of_ble_eq_true rfl) dX4_arriveOnThisDay_18 rfl (fun H locs Z => ?_)
        refine lv_iconst (v := (2 : Int32)) hx hb dX4_arriveOnThisDay_21 (by decide) ?_
        refine lv_icmp_ne (tgt := 110) hx hb dX4_arriveOnThisDay_22 (by decide) (fun c2 => ?_) (fun c2 => ?_)
        · rw [if_neg c2] at hF
          refine lv_iinc (v := (x1 + (1 : Int32))) (lv' := [(1, .int (x1 + (1 : Int32))), (0, .ref (ad 0))]) hx hb dX4_arriveOnThisDay_110 hl (k := 1) rfl (by rfl) (by decide) rfl (fun ls hl => ?_)
          refine lv_goto (tgt := 2) hx hb dX4_arriveOnThisDay_113 (by decide) ?_
          exact ih ((x1 + (1 : Int32))) τ _ _ _ hF ok Z (lv_sub hl [1, 0] rfl)
        · rw [if_pos c2] at hF
          refine lv_aload_n hx hb dX4_arriveOnThisDay_25 rfl (lv_at hl 0 rfl) ?_
          refine kget Fc Z inX4 0 rfl rfl 0 (by decide) mF_RX4_10 rfl rfl dX4_arriveOnThisDay_26 ?_
          refine kgetN Fc Z inX2 1 rfl rfl 0 (by decide) nw_RX4_47 rfl rfl dX4_arriveOnThisDay_29 ?_
          refine lv_iload_n hx hb dX4_arriveOnThisDay_32 rfl (lv_at hl 1 rfl) ?_
          refine lv_bipush (v := (6 : Int32)) hx hb dX4_arriveOnThisDay_33 (by decide) ?_
          refine kr_i (As := [.int x1, .int (6 : Int32)]) Fc hA Z Lens.c0 (c_X3_get l D cI cS (ad 2) (ad 3) 20 12 (20 * 12) sh0 (τ.1 0) ok.1 x1 (6 : Int32) (tget 12 (τ.1 0) x1 (6 : Int32)) rfl) mL_RX4_88 v_X3_get ⟨rfl, rfl⟩ ⟨Nat.le_of_ble_eq_true rfl, Nat.le_of_ble_eq_true rfl⟩ ⟨Nat.zero_le _, Nat.zero_le _⟩ 2 3 rfl rfl rfl hl (Nat.le_of_ble_eq_true rfl) dX4_arriveOnThisDay_35 rfl (fun H locs Z => ?_)
          refine lv_aload_n hx hb dX4_arriveOnThisDay_38 rfl (lv_at hl 0 rfl) ?_
          refine kget Fc Z inX4 0 rfl rfl 0 (by decide) mF_RX4_10 rfl rfl dX4_arriveOnThisDay_39 ?_
          refine kgetN Fc Z inX2 1 rfl rfl 5 (by decide) nw_RX4_98 rfl rfl dX4_arriveOnThisDay_42 ?_
          refine lv_icmp_le (tgt := 51) hx hb dX4_arriveOnThisDay_45 (by decide) (fun c3 => ?_) (fun c3 => ?_)
          · rw [if_pos c3] at hF
            refine lv_aload_n hx hb dX4_arriveOnThisDay_51 rfl (lv_at hl 0 rfl) ?_
            refine kget Fc Z inX4 0 rfl rfl 0 (by decide) mF_RX4_10 rfl rfl dX4_arriveOnThisDay_52 ?_
            refine kgetN Fc Z inX2 1 rfl rfl 0 (by decide) nw_RX4_47 rfl rfl dX4_arriveOnThisDay_55 ?_
            refine lv_iload_n hx hb dX4_arriveOnThisDay_58 rfl (lv_at hl 1 rfl) ?_
            refine lv_iconst (v := (4 : Int32)) hx hb dX4_arriveOnThisDay_59 (by decide) ?_
            refine kr_i (As := [.int x1, .int (4 : Int32)]) Fc hA Z Lens.c0 (c_X3_get l D cI cS (ad 2) (ad 3) 20 12 (20 * 12) sh0 (τ.1 0) ok.1 x1 (4 : Int32) (tget 12 (τ.1 0) x1 (4 : Int32)) rfl) mL_RX4_88 v_X3_get ⟨rfl, rfl⟩ ⟨Nat.le_of_ble_eq_true rfl, Nat.le_of_ble_eq_true rfl⟩ ⟨Nat.zero_le _, Nat.zero_le _⟩ 2 3 rfl rfl rfl hl (Nat.le_of_ble_eq_true rfl) dX4_arriveOnThisDay_60 rfl (fun H locs Z => ?_)
            refine lv_istore_n (lv' := [(2, .int (tget 12 (τ.1 0) x1 (4 : Int32))), (0, .ref (ad 0)), (1, .int x1)]) hx hb dX4_arriveOnThisDay_63 rfl hl (by decide) rfl (fun ls hl => ?_)
            refine lv_aload_n hx hb dX4_arriveOnThisDay_64 rfl (lv_at hl 1 rfl) ?_
            refine kget Fc Z inX4 0 rfl rfl 0 (by decide) mF_RX4_10 rfl rfl dX4_arriveOnThisDay_65 ?_
            refine kgetN Fc Z inX2 1 rfl rfl 0 (by decide) nw_RX4_47 rfl rfl dX4_arriveOnThisDay_68 ?_
            refine lv_iload_n hx hb dX4_arriveOnThisDay_71 rfl (lv_at hl 2 rfl) ?_
            refine lv_iconst (v := (5 : Int32)) hx hb dX4_arriveOnThisDay_72 (by decide) ?_
            refine kr_i (As := [.int x1, .int (5 : Int32)]) Fc hA Z Lens.c0 (c_X3_get l D cI cS (ad 2) (ad 3) 20 12 (20 * 12) sh0 (τ.1 0) ok.1 x1 (5 : Int32) (tget 12 (τ.1 0) x1 (5 : Int32)) rfl) mL_RX4_88 v_X3_get ⟨rfl, rfl⟩ ⟨Nat.le_of_ble_eq_true rfl, Nat.le_of_ble_eq_true rfl⟩ ⟨Nat.zero_le _, Nat.zero_le _⟩ 2 3 rfl rfl rfl hl (Nat.le_of_ble_eq_true rfl) dX4_arriveOnThisDay_73 rfl (fun H locs Z => ?_)
            refine lv_bipush (v := (-2 : Int32)) hx hb dX4_arriveOnThisDay_76 (by decide) ?_
            refine lv_icmp_ne (tgt := 90) hx hb dX4_arriveOnThisDay_78 (by decide) (fun c4 => ?_) (fun c4 => ?_)
            · rw [if_neg c4] at hF
              refine lv_aload_n hx hb dX4_arriveOnThisDay_90 rfl (lv_at hl 1 rfl) ?_
              refine lv_iload_n hx hb dX4_arriveOnThisDay_91 rfl (lv_at hl 2 rfl) ?_
              refine lv_iconst (v := (3 : Int32)) hx hb dX4_arriveOnThisDay_92 (by decide) ?_
              refine lv_iload_n hx hb dX4_arriveOnThisDay_93 rfl (lv_at hl 0 rfl) ?_
              refine lv_aload_n hx hb dX4_arriveOnThisDay_94 rfl (lv_at hl 1 rfl) ?_
              refine kget Fc Z inX4 0 rfl rfl 0 (by decide) mF_RX4_10 rfl rfl dX4_arriveOnThisDay_95 ?_
              refine kgetN Fc Z inX2 1 rfl rfl 5 (by decide) nw_RX4_98 rfl rfl dX4_arriveOnThisDay_98 ?_
              refine lv_aload_n hx hb dX4_arriveOnThisDay_101 rfl (lv_at hl 1 rfl) ?_
              refine lv_iconst (v := (5 : Int32)) hx hb dX4_arriveOnThisDay_102 (by decide) ?_
              refine kr_i (As := [.int (5 : Int32)]) Fc hA Z (Lens.tail []) (c_X4_valueOf l D cI cS ad hs τ ok (5 : Int32) (X4_valueOf τ (5 : Int32)) rfl) mL_RX4_82 v_X4_valueOf ⟨rfl, rfl⟩ ⟨Nat.le_of_ble_eq_true rfl, Nat.le_of_ble_eq_true rfl⟩ ⟨Nat.zero_le _, Nat.zero_le _⟩ 0 4 rfl rfl rfl hl (Nat.le_of_ble_eq_true rfl) dX4_arriveOnThisDay_103 rfl (fun H locs Z => ?_)
              refine lv_iadd hx hb dX4_arriveOnThisDay_106 ?_
              obtain ⟨q5, e6, hF⟩ := bnd_el hF
              refine kv_i (As := [.int x1, .int (3 : Int32), .int ((tget 12 (τ.1 0) x1 (4 : Int32))), .int ((τ.2 + (X4_valueOf τ (5 : Int32))))]) (ok := OK) Fc hA Z (Lens.tail []) (c_X4_putCopy l D cI cS ad hs τ ok x1 (3 : Int32) ((tget 12 (τ.1 0) x1 (4 : Int32))) ((τ.2 + (X4_valueOf τ (5 : Int32)))) q5 e6.symm) mL_RX4_114 v_X4_putCopy ⟨rfl, rfl⟩ ⟨Nat.le_of_ble_eq_true rfl, Nat.le_of_ble_eq_true rfl⟩ ⟨Nat.zero_le _, Nat.zero_le _⟩ 0 4 rfl rfl rfl hl (Nat.le_of_ble_eq_true rfl) dX4_arriveOnThisDay_107 rfl (fun H locs ok1 Z => ?_)
              have ok := ok1
              refine lv_iinc (v := (x1 + (1 : Int32))) (lv' := [(1, .int (x1 + (1 : Int32))), (2, .int (tget 12 (τ.1 0) x1 (4 : Int32))), (0, .ref (ad 0))]) hx hb dX4_arriveOnThisDay_110 hl (k := 2) rfl (by rfl) (by decide) rfl (fun ls hl => ?_)
              refine lv_goto (tgt := 2) hx hb dX4_arriveOnThisDay_113 (by decide) ?_
              exact ih ((x1 + (1 : Int32))) q5 _ _ _ hF ok Z (lv_sub hl [2, 0] rfl)
            · rw [if_pos c4] at hF
              refine lv_aload_n hx hb dX4_arriveOnThisDay_81 rfl (lv_at hl 1 rfl) ?_
              refine lv_iload_n hx hb dX4_arriveOnThisDay_82 rfl (lv_at hl 2 rfl) ?_
              refine lv_iload_n hx hb dX4_arriveOnThisDay_83 rfl (lv_at hl 0 rfl) ?_
              obtain ⟨q7, h8, hF⟩ := obind hF
              refine kv_i (As := [.int x1, .int ((tget 12 (τ.1 0) x1 (4 : Int32)))]) (ok := OK) Fc hA Z (Lens.tail []) (c_X4_becomeFree l D cI cS ad hs τ ok x1 ((tget 12 (τ.1 0) x1 (4 : Int32))) q7 h8) mL_RX4_61 v_X4_becomeFree ⟨rfl, rfl⟩ ⟨Nat.le_of_ble_eq_true rfl, Nat.le_of_ble_eq_true rfl⟩ ⟨Nat.zero_le _, Nat.zero_le _⟩ 0 4 rfl rfl rfl hl (Nat.le_of_ble_eq_true rfl) dX4_arriveOnThisDay_84 rfl (fun H locs ok1 Z => ?_)
              have ok := ok1
              refine lv_goto (tgt := 110) hx hb dX4_arriveOnThisDay_87 (by decide) ?_
              refine lv_iinc (v := (x1 + (1 : Int32))) (lv' := [(1, .int (x1 + (1 : Int32))), (2, .int (tget 12 (τ.1 0) x1 (4 : Int32))), (0, .ref (ad 0))]) hx hb dX4_arriveOnThisDay_110 hl (k := 2) rfl (by rfl) (by decide) rfl (fun ls hl => ?_)
              refine lv_goto (tgt := 2) hx hb dX4_arriveOnThisDay_113 (by decide) ?_
              exact ih ((x1 + (1 : Int32))) q7 _ _ _ hF ok Z (lv_sub hl [2, 0] rfl)
          · rw [if_neg c3] at hF
            refine lv_goto (tgt := 110) hx hb dX4_arriveOnThisDay_48 (by decide) ?_
            refine lv_iinc (v := (x1 + (1 : Int32))) (lv' := [(1, .int (x1 + (1 : Int32))), (0, .ref (ad 0))]) hx hb dX4_arriveOnThisDay_110 hl (k := 1) rfl (by rfl) (by decide) rfl (fun ls hl => ?_)
            refine lv_goto (tgt := 2) hx hb dX4_arriveOnThisDay_113 (by decide) ?_
            exact ih ((x1 + (1 : Int32))) τ _ _ _ hF ok Z (lv_sub hl [1, 0] rfl)
  unfold X4_arriveOnThisDay at hF
  refine lv_iconst (v := (0 : Int32)) hx hb dX4_arriveOnThisDay_0 (by decide) ?_
  refine lv_istore_n (lv' := [(1, .int (0 : Int32)), (0, .ref (ad 0))]) hx hb dX4_arriveOnThisDay_1 rfl hl (by decide) rfl (fun ls hl => ?_)
  exact L2  FU (0 : Int32) τ _ _ _ hF ok Z (lv_sub hl [1, 0] rfl)
def X4_countBefore_L21 (τ : St) (x1 : Int32) (x2 : Int32) (x3 : Int32) (x4 : Int32) : Nat → Int32 → Int32 → Option (Int32)
  | 0, _, _ => none
  | k + 1, x5, x6 => if (τ.1 0).1 ≤ x6 then (some x5) else if (bi (X4_isAt τ x6 x2 x3)) = 0 then (X4_countBefore_L21 τ x1 x2 x3 x4 k x5 ((x6 + (1 : Int32)))) else if (bi (X4_isBefore ((tget 12 (τ.1 0) x6 (6 : Int32))) x6 x4 x1)) = 0 then (X4_countBefore_L21 τ x1 x2 x3 x4 k x5 ((x6 + (1 : Int32)))) else X4_countBefore_L21 τ x1 x2 x3 x4 k ((x5 + (1 : Int32))) ((x6 + (1 : Int32)))
def X4_countBefore (τ : St) (p1 p2 p3 : Int32) : Option (Int32) := X4_countBefore_L21 τ p1 p2 p3 ((tget 12 (τ.1 0) p1 (6 : Int32))) FU (0 : Int32) (0 : Int32)
def rm_X4_countBefore : Room := { frames := 3, cells := 0, slots := 0, locals := 67 }
theorem v_X4_countBefore : WdV RX4 yX4_countBefore cX4_countBefore 7 (some .int) 3 := ⟨mI_X4_countBefore, mS_X4_countBefore, mZ_RX4, mC_X4_countBefore, by decide +kernel⟩
set_option maxHeartbeats 8000000 in
set_option maxRecDepth 100000 in
theorem c_X4_countBefore (l : Launch) (D : va_G) (cI cS : ClassId) (ad : Nat → Nat) (hs : Bool) (τ : St) (ok : OK τ) (p1 p2 p3 : Int32) (F : Int32) (hF : X4_countBefore τ p1 p2 p3 = some F) : MI l yX4_countBefore cX4_countBefore 7 (some .int) rm_X4_countBefore D cI cS [.ref (ad 0), .int p1, .int p2, .int p3] (cW ad cI hs τ) (cW ad cI hs) (fun r u' => r = F ∧ u' = τ) := by
  refine MI.mk RX4 rfl .int rfl (by decide) (Nat.le_of_ble_eq_true rfl) (fun _ _ _ => rfl) ?_
  intro p e s m args below meth c A Q ls Fc hin hA Z kret hl
  obtain ⟨hx, hb, hml, hown, hts, hKN⟩ := id Fc
  replace hl : lv_has ls 7 [(0, .ref (ad 0)), (1, .int p1), (2, .int p2), (3, .int p3)] := hl
  replace Z := Z.anil
  have L21 : ∀ (x1 : Int32) (x2 : Int32) (x3 : Int32) (x4 : Int32) (k : Nat) (x5 : Int32) (x6 : Int32) (H : Heap) (locs : List Loc) (ls : Array Slot), X4_countBefore_L21 τ x1 x2 x3 x4  k x5 x6 = some F → OK τ → Ix D A s (cW ad cI hs τ ++ []) H locs → lv_has ls 7 [(0, .ref (ad 0)), (1, .int x1), (2, .int x2), (3, .int x3), (4, .int x4), (5, .int x5), (6, .int x6)] → W p l e rm_X4_countBefore s m args below meth c H locs 0 0 Q (F0 m 21 ls []) := by
    intro x1 x2 x3 x4 k
    induction k with
    | zero => intro x5 x6 H locs ls hF; rw [X4_countBefore_L21] at hF; cases hF
    | succ k ih =>
      intro x5 x6 H locs ls hF ok Z hl
      rw [X4_countBefore_L21] at hF
      refine lv_iload hx hb dX4_countBefore_21 (lv_at hl 6 rfl) ?_
      refine lv_aload_n hx hb dX4_countBefore_23 rfl (lv_at hl 0 rfl) ?_
      refine kget Fc Z inX4 0 rfl rfl 0 (by decide) mF_RX4_10 rfl rfl dX4_countBefore_24 ?_
      refine kgetN Fc Z inX2 1 rfl rfl 0 (by decide) nw_RX4_47 rfl rfl dX4_countBefore_27 ?_
      refine kr_i (As := []) Fc hA Z Lens.c0 (c_X3_size l D cI cS (ad 2) (ad 3) 20 12 (20 * 12) sh0 (τ.1 0) ok.1  (τ.1 0).1 rfl) mL_RX4_92 v_X3_size ⟨rfl, rfl⟩ ⟨Nat.le_of_ble_eq_true rfl, Nat.le_of_ble_eq_true rfl⟩ ⟨Nat.zero_le _, Nat.zero_le _⟩ 2 3 rfl rfl rfl hl (Nat.le_of_ble_eq_true rfl) dX4_countBefore_30 rfl (fun H locs Z => ?_)
      refine lv_icmp_ge (tgt := 81) hx hb dX4_countBefore_33 (by decide) (fun c1 => ?_) (fun c1 => ?_)
      · rw [if_pos c1] at hF
        refine lv_iload hx hb dX4_countBefore_81 (lv_at hl 5 rfl) ?_
        exact kret x5 τ _ _ _ _ ⟨(Option.some.inj hF), rfl⟩ Z.nila dX4_countBefore_83
      · rw [if_neg c1] at hF
        refine lv_aload_n hx hb dX4_countBefore_36 rfl (lv_at hl 0 rfl) ?_
        refine lv_iload hx hb dX4_countBefore_37 (lv_at hl 6 rfl) ?_
        refine lv_iload_n hx hb dX4_countBefore_39 rfl (lv_at hl 2 rfl) ?_
        refine lv_iload_n hx hb dX4_countBefore_40 rfl (lv_at hl 3 rfl) ?_
        refine kr_i (As := [.int x6, .int x2, .int x3]) Fc hA Z (Lens.tail []) (c_X4_isAt l D cI cS ad hs τ ok x6 x2 x3 (X4_isAt τ x6 x2 x3) rfl) mL_RX4_231 v_X4_isAt ⟨rfl, rfl⟩ ⟨Nat.le_of_ble_eq_true rfl, Nat.le_of_ble_eq_true rfl⟩ ⟨Nat.zero_le _, Nat.zero_le _⟩ 0 4 rfl rfl rfl hl (Nat.le_of_ble_eq_true rfl) dX4_countBefore_41 rfl (fun H locs Z => ?_)
        refine lv_if_eq (tgt := 75) hx hb dX4_countBefore_44 (by decide) (fun c2 => ?_) (fun c2 => ?_)
        · rw [if_pos c2] at hF
          refine lv_iinc (v := (x6 + (1 : Int32))) (lv' := [(6, .int (x6 + (1 : Int32))), (0, .ref (ad 0)), (1, .int x1), (2, .int x2), (3, .int x3), (4, .int x4), (5, .int x5)]) hx hb dX4_countBefore_75 hl (k := 6) rfl (by rfl) (by decide) rfl (fun ls hl => ?_)
          refine lv_goto (tgt := 21) hx hb dX4_countBefore_78 (by decide) ?_
          exact ih x5 ((x6 + (1 : Int32))) _ _ _ hF ok Z (lv_sub hl [1, 2, 3, 4, 5, 6, 0] rfl)
        · rw [if_neg c2] at hF
          refine lv_aload_n hx hb dX4_countBefore_47 rfl (lv_at hl 0 rfl) ?_
          refine kget Fc Z inX4 0 rfl rfl 0 (by decide) mF_RX4_10 rfl rfl dX4_countBefore_48 ?_
          refine kgetN Fc Z inX2 1 rfl rfl 0 (by decide) nw_RX4_47 rfl rfl dX4_countBefore_51 ?_
          refine lv_iload hx hb dX4_countBefore_54 (lv_at hl 6 rfl) ?_
          refine lv_bipush (v := (6 : Int32)) hx hb dX4_countBefore_56 (by decide) ?_
          refine kr_i (As := [.int x6, .int (6 : Int32)]) Fc hA Z Lens.c0 (c_X3_get l D cI cS (ad 2) (ad 3) 20 12 (20 * 12) sh0 (τ.1 0) ok.1 x6 (6 : Int32) (tget 12 (τ.1 0) x6 (6 : Int32)) rfl) mL_RX4_88 v_X3_get ⟨rfl, rfl⟩ ⟨Nat.le_of_ble_eq_true rfl, Nat.le_of_ble_eq_true rfl⟩ ⟨Nat.zero_le _, Nat.zero_le _⟩ 2 3 rfl rfl rfl hl (Nat.le_of_ble_eq_true rfl) dX4_countBefore_58 rfl (fun H locs Z => ?_)
          refine lv_iload hx hb dX4_countBefore_61 (lv_at hl 6 rfl) ?_
          refine lv_iload hx hb dX4_countBefore_63 (lv_at hl 4 rfl) ?_
          refine lv_iload_n hx hb dX4_countBefore_65 rfl (lv_at hl 1 rfl) ?_
          refine ks_i (As := [.int ((tget 12 (τ.1 0) x6 (6 : Int32))), .int x6, .int x4, .int x1]) Fc hA Z (c_X4_isBefore l D cI cS ((tget 12 (τ.1 0) x6 (6 : Int32))) x6 x4 x1 (X4_isBefore ((tget 12 (τ.1 0) x6 (6 : Int32))) x6 x4 x1) rfl) mL_RX4_227 v_X4_isBefore ⟨rfl, rfl⟩ ⟨Nat.le_of_ble_eq_true rfl, Nat.le_of_ble_eq_true rfl⟩ ⟨Nat.zero_le _, Nat.zero_le _⟩ rfl hl (Nat.le_of_ble_eq_true rfl) dX4_countBefore_66 rfl (fun H locs Z => ?_)
          refine lv_if_eq (tgt := 75) hx hb dX4_countBefore_69 (by decide) (fun c3 => ?_) (fun c3 => ?_)
          · rw [if_pos c3] at hF
            refine lv_iinc (v := (x6 + (1 : Int32))) (lv' := [(6, .int (x6 + (1 : Int32))), (0, .ref (ad 0)), (1, .int x1), (2, .int x2), (3, .int x3), (4, .int x4), (5, .int x5)]) hx hb dX4_countBefore_75 hl (k := 6) rfl (by rfl) (by decide) rfl (fun ls hl => ?_)
            refine lv_goto (tgt := 21) hx hb dX4_countBefore_78 (by decide) ?_
            exact ih x5 ((x6 + (1 : Int32))) _ _ _ hF ok Z (lv_sub hl [1, 2, 3, 4, 5, 6, 0] rfl)
          · rw [if_neg c3] at hF
            refine lv_iinc (v := (x5 + (1 : Int32))) (lv' := [(5, .int (x5 + (1 : Int32))), (0, .ref (ad 0)), (1, .int x1), (2, .int x2), (3, .int x3), (4, .int x4), (6, .int x6)]) hx hb dX4_countBefore_72 hl (k := 5) rfl (by rfl) (by decide) rfl (fun ls hl => ?_)
            refine lv_iinc (v := (x6 + (1 : Int32))) (lv' := [(6, .int (x6 + (1 : Int32))), (5, .int (x5 + (1 : Int32))), (0, .ref (ad 0)), (1, .int x1), (2, .int x2), (3, .int x3), (4, .int x4)]) hx hb dX4_countBefore_75 hl (k := 6) rfl (by rfl) (by decide) rfl (fun ls hl => ?_)
            refine lv_goto (tgt := 21) hx hb dX4_countBefore_78 (by decide) ?_
            exact ih ((x5 + (1 : Int32))) ((x6 + (1 : Int32))) _ _ _ hF ok Z (lv_sub hl [2, 3, 4, 5, 6, 1, 0] rfl)
  unfold X4_countBefore at hF
  refine lv_aload_n hx hb dX4_countBefore_0 rfl (lv_at hl 0 rfl) ?_
  refine kget Fc Z inX4 0 rfl rfl 0 (by decide) mF_RX4_10 rfl rfl dX4_countBefore_1 ?_
  refine kgetN Fc Z inX2 1 rfl rfl 0 (by decide) nw_RX4_47 rfl rfl dX4_countBefore_4 ?_
  refine lv_iload_n hx hb dX4_countBefore_7 rfl (lv_at hl 1 rfl) ?_
  refine lv_bipush (v := (6 : Int32)) hx hb dX4_countBefore_8 (by decide) ?_
  refine kr_i (As := [.int p1, .int (6 : Int32)]) Fc hA Z Lens.c0 (c_X3_get l D cI cS (ad 2) (ad 3) 20 12 (20 * 12) sh0 (τ.1 0) ok.1 p1 (6 : Int32) (tget 12 (τ.1 0) p1 (6 : Int32)) rfl) mL_RX4_88 v_X3_get ⟨rfl, rfl⟩ ⟨Nat.le_of_ble_eq_true rfl, Nat.le_of_ble_eq_true rfl⟩ ⟨Nat.zero_le _, Nat.zero_le _⟩ 2 3 rfl rfl rfl hl (Nat.le_of_ble_eq_true rfl) dX4_countBefore_10 rfl (fun H locs Z => ?_)
  refine lv_istore (lv' := [(4, .int (tget 12 (τ.1 0) p1 (6 : Int32))), (0, .ref (ad 0)), (1, .int p1), (2, .int p2), (3, .int p3)]) hx hb dX4_countBefore_13 hl (by decide) rfl (fun ls hl => ?_)
  refine lv_iconst (v := (0 : Int32)) hx hb dX4_countBefore_15 (by decide) ?_
  refine lv_istore (lv' := [(5, .int (0 : Int32)), (4, .int (tget 12 (τ.1 0) p1 (6 : Int32))), (0, .ref (ad 0)), (1, .int p1), (2, .int p2), (3, .int p3)]) hx hb dX4_countBefore_16 hl (by decide) rfl (fun ls hl => ?_)
  refine lv_iconst (v := (0 : Int32)) hx hb dX4_countBefore_18 (by decide) ?_
  refine lv_istore (lv' := [(6, .int (0 : Int32)), (5, .int (0 : Int32)), (4, .int (tget 12 (τ.1 0) p1 (6 : Int32))), (0, .ref (ad 0)), (1, .int p1), (2, .int p2), (3, .int p3)]) hx hb dX4_countBefore_19 hl (by decide) rfl (fun ls hl => ?_)
  exact L21 p1 p2 p3 ((tget 12 (τ.1 0) p1 (6 : Int32))) FU (0 : Int32) (0 : Int32) _ _ _ hF ok Z (lv_sub hl [3, 4, 5, 6, 2, 1, 0] rfl)
def X4_nextByDay_L3 (τ : St) (x1 : Int32) (x2 : Int32) (x3 : Int32) : Nat → Int32 → Option (Int32)
  | 0, _ => none
  | k + 1, x4 => if (τ.1 0).1 ≤ x4 then (some (-2 : Int32)) else if (bi (X4_isAt τ x4 x1 x2)) = 0 then (X4_nextByDay_L3 τ x1 x2 x3 k ((x4 + (1 : Int32)))) else (X4_countBefore τ x4 x1 x2).bind fun v3 => if v3 = x3 then (some x4) else X4_nextByDay_L3 τ x1 x2 x3 k ((x4 + (1 : Int32)))
def X4_nextByDay (τ : St) (p1 p2 p3 : Int32) : Option (Int32) := X4_nextByDay_L3 τ p1 p2 p3 FU (0 : Int32)
def rm_X4_nextByDay : Room := { frames := 4, cells := 0, slots := 0, locals := 93 }
theorem v_X4_nextByDay : WdV RX4 yX4_nextByDay cX4_nextByDay 5 (some .int) 3 := ⟨mI_X4_nextByDay, mS_X4_nextByDay, mZ_RX4, mC_X4_nextByDay, by decide +kernel⟩
set_option maxHeartbeats 8000000 in
set_option maxRecDepth 100000 in
theorem c_X4_nextByDay (l : Launch) (D : va_G) (cI cS : ClassId) (ad : Nat → Nat) (hs : Bool) (τ : St) (ok : OK τ) (p1 p2 p3 : Int32) (F : Int32) (hF : X4_nextByDay τ p1 p2 p3 = some F) : MI l yX4_nextByDay cX4_nextByDay 5 (some .int) rm_X4_nextByDay D cI cS [.ref (ad 0), .int p1, .int p2, .int p3] (cW ad cI hs τ) (cW ad cI hs) (fun r u' => r = F ∧ u' = τ) := by
  refine MI.mk RX4 rfl .int rfl (by decide) (Nat.le_of_ble_eq_true rfl) (fun _ _ _ => rfl) ?_
  intro p e s m args below meth c A Q ls Fc hin hA Z kret hl
  obtain ⟨hx, hb, hml, hown, hts, hKN⟩ := id Fc
  replace hl : lv_has ls 5 [(0, .ref (ad 0)), (1, .int p1), (2, .int p2), (3, .int p3)] := hl
  replace Z := Z.anil
  have L3 : ∀ (x1 : Int32) (x2 : Int32) (x3 : Int32) (k : Nat) (x4 : Int32) (H : Heap) (locs : List Loc) (ls : Array Slot), X4_nextByDay_L3 τ x1 x2 x3  k x4 = some F → OK τ → Ix D A s (cW ad cI hs τ ++ []) H locs → lv_has ls 5 [(0, .ref (ad 0)), (1, .int x1), (2, .int x2), (3, .int x3), (4, .int x4)] → W p l e rm_X4_nextByDay s m args below meth c H locs 0 0 Q (F0 m 3 ls []) := by
    intro x1 x2 x3 k
    induction k with
    | zero => intro x4 H locs ls hF; rw [X4_nextByDay_L3] at hF; cases hF
    | succ k ih =>
      intro x4 H locs ls hF ok Z hl
      rw [X4_nextByDay_L3] at hF
      refine lv_iload hx hb dX4_nextByDay_3 (lv_at hl 4 rfl) ?_
      refine lv_aload_n hx hb dX4_nextByDay_5 rfl (lv_at hl 0 rfl) ?_
      refine kget Fc Z inX4 0 rfl rfl 0 (by decide) mF_RX4_10 rfl rfl dX4_nextByDay_6 ?_
      refine kgetN Fc Z inX2 1 rfl rfl 0 (by decide) nw_RX4_47 rfl rfl dX4_nextByDay_9 ?_
      refine kr_i (As := []) Fc hA Z Lens.c0 (c_X3_size l D cI cS (ad 2) (ad 3) 20 12 (20 * 12) sh0 (τ.1 0) ok.1  (τ.1 0).1 rfl) mL_RX4_92 v_X3_size ⟨rfl, rfl⟩ ⟨Nat.le_of_ble_eq_true rfl, Nat.le_of_ble_eq_true rfl⟩ ⟨Nat.zero_le _, Nat.zero_le _⟩ 2 3 rfl rfl rfl hl (Nat.le_of_ble_eq_true rfl) dX4_nextByDay_12 rfl (fun H locs Z => ?_)
      refine lv_icmp_ge (tgt := 50) hx hb dX4_nextByDay_15 (by decide) (fun c1 => ?_) (fun c1 => ?_)
      · rw [if_pos c1] at hF
        refine lv_bipush (v := (-2 : Int32)) hx hb dX4_nextByDay_50 (by decide) ?_
        exact kret (-2 : Int32) τ _ _ _ _ ⟨(Option.some.inj hF), rfl⟩ Z.nila dX4_nextByDay_52
      · rw [if_neg c1] at hF
        refine lv_aload_n hx hb dX4_nextByDay_18 rfl (lv_at hl 0 rfl) ?_
        refine lv_iload hx hb dX4_nextByDay_19 (lv_at hl 4 rfl) ?_
        refine lv_iload_n hx hb dX4_nextByDay_21 rfl (lv_at hl 1 rfl) ?_
        refine lv_iload_n hx hb dX4_nextByDay_22 rfl (lv_at hl 2 rfl) ?_
        refine kr_i (As := [.int x4, .int x1, .int x2]) Fc hA Z (Lens.tail []) (c_X4_isAt l D cI cS ad hs τ ok x4 x1 x2 (X4_isAt τ x4 x1 x2) rfl) mL_RX4_231 v_X4_isAt ⟨rfl, rfl⟩ ⟨Nat.le_of_ble_eq_true rfl, Nat.le_of_ble_eq_true rfl⟩ ⟨Nat.zero_le _, Nat.zero_le _⟩ 0 4 rfl rfl rfl hl (Nat.le_of_ble_eq_true rfl) dX4_nextByDay_23 rfl (fun H locs Z => ?_)
        refine lv_if_eq (tgt := 44) hx hb dX4_nextByDay_26 (by decide) (fun c2 => ?_) (fun c2 => ?_)
        · rw [if_pos c2] at hF
          refine lv_iinc (v := (x4 + (1 : Int32))) (lv' := [(4, .int (x4 + (1 : Int32))), (0, .ref (ad 0)), (1, .int x1), (2, .int x2), (3, .int x3)]) hx hb dX4_nextByDay_44 hl (k := 4) rfl (by rfl) (by decide) rfl (fun ls hl => ?_)
          refine lv_goto (tgt := 3) hx hb dX4_nextByDay_47 (by decide) ?_
          exact ih ((x4 + (1 : Int32))) _ _ _ hF ok Z (lv_sub hl [1, 2, 3, 4, 0] rfl)
        · rw [if_neg c2] at hF
          refine lv_aload_n hx hb dX4_nextByDay_29 rfl (lv_at hl 0 rfl) ?_
          refine lv_iload hx hb dX4_nextByDay_30 (lv_at hl 4 rfl) ?_
          refine lv_iload_n hx hb dX4_nextByDay_32 rfl (lv_at hl 1 rfl) ?_
          refine lv_iload_n hx hb dX4_nextByDay_33 rfl (lv_at hl 2 rfl) ?_
          obtain ⟨v3, h4, hF⟩ := obind hF
          refine kr_i (As := [.int x4, .int x1, .int x2]) Fc hA Z (Lens.tail []) (c_X4_countBefore l D cI cS ad hs τ ok x4 x1 x2 v3 h4) mL_RX4_308 v_X4_countBefore ⟨rfl, rfl⟩ ⟨Nat.le_of_ble_eq_true rfl, Nat.le_of_ble_eq_true rfl⟩ ⟨Nat.zero_le _, Nat.zero_le _⟩ 0 4 rfl rfl rfl hl (Nat.le_of_ble_eq_true rfl) dX4_nextByDay_34 rfl (fun H locs Z => ?_)
          refine lv_iload_n hx hb dX4_nextByDay_37 rfl (lv_at hl 3 rfl) ?_
          refine lv_icmp_ne (tgt := 44) hx hb dX4_nextByDay_38 (by decide) (fun c5 => ?_) (fun c5 => ?_)
          · rw [if_neg c5] at hF
            refine lv_iinc (v := (x4 + (1 : Int32))) (lv' := [(4, .int (x4 + (1 : Int32))), (0, .ref (ad 0)), (1, .int x1), (2, .int x2), (3, .int x3)]) hx hb dX4_nextByDay_44 hl (k := 4) rfl (by rfl) (by decide) rfl (fun ls hl => ?_)
            refine lv_goto (tgt := 3) hx hb dX4_nextByDay_47 (by decide) ?_
            exact ih ((x4 + (1 : Int32))) _ _ _ hF ok Z (lv_sub hl [1, 2, 3, 4, 0] rfl)
          · rw [if_pos c5] at hF
            refine lv_iload hx hb dX4_nextByDay_41 (lv_at hl 4 rfl) ?_
            exact kret x4 τ _ _ _ _ ⟨(Option.some.inj hF), rfl⟩ Z.nila dX4_nextByDay_43
  unfold X4_nextByDay at hF
  refine lv_iconst (v := (0 : Int32)) hx hb dX4_nextByDay_0 (by decide) ?_
  refine lv_istore (lv' := [(4, .int (0 : Int32)), (0, .ref (ad 0)), (1, .int p1), (2, .int p2), (3, .int p3)]) hx hb dX4_nextByDay_1 hl (by decide) rfl (fun ls hl => ?_)
  exact L3 p1 p2 p3 FU (0 : Int32) _ _ _ hF ok Z (lv_sub hl [1, 2, 3, 4, 0] rfl)
def X4_arriving (τ : St) (p1 p2 : Int32) : Option (Int32) := if (bi (X4_isBranch p1)) = 0 then (some (-1 : Int32)) else (X4_nextByDay τ (2 : Int32) p1 p2).bind fun v2 => some v2
def rm_X4_arriving : Room := { frames := 5, cells := 0, slots := 0, locals := 117 }
theorem v_X4_arriving : WdV RX4 yX4_arriving cX4_arriving 3 (some .int) 2 := ⟨mI_X4_arriving, mS_X4_arriving, mZ_RX4, mC_X4_arriving, by decide +kernel⟩
set_option maxHeartbeats 8000000 in
set_option maxRecDepth 100000 in
theorem c_X4_arriving (l : Launch) (D : va_G) (cI cS : ClassId) (ad : Nat → Nat) (hs : Bool) (τ : St) (ok : OK τ) (p1 p2 : Int32) (F : Int32) (hF : X4_arriving τ p1 p2 = some F) : MI l yX4_arriving cX4_arriving 3 (some .int) rm_X4_arriving D cI cS [.ref (ad 0), .int p1, .int p2] (cW ad cI hs τ) (cW ad cI hs) (fun r u' => r = F ∧ u' = τ) := by
  refine MI.mk RX4 rfl .int rfl (by decide) (Nat.le_of_ble_eq_true rfl) (fun _ _ _ => rfl) ?_
  intro p e s m args below meth c A Q ls Fc hin hA Z kret hl
  obtain ⟨hx, hb, hml, hown, hts, hKN⟩ := id Fc
  replace hl : lv_has ls 3 [(0, .ref (ad 0)), (1, .int p1), (2, .int p2)] := hl
  replace Z := Z.anil
  unfold X4_arriving at hF
  refine lv_iload_n hx hb dX4_arriving_0 rfl (lv_at hl 1 rfl) ?_
  refine ks_i (As := [.int p1]) Fc hA Z (c_X4_isBranch l D cI cS p1 (X4_isBranch p1) rfl) mL_RX4_44 v_X4_isBranch ⟨rfl, rfl⟩ ⟨Nat.le_of_ble_eq_true rfl, Nat.le_of_ble_eq_true rfl⟩ ⟨Nat.zero_le _, Nat.zero_le _⟩ rfl hl (Nat.le_of_ble_eq_true rfl) dX4_arriving_1 rfl (fun H locs Z => ?_)
  refine lv_if_eq (tgt := 17) hx hb dX4_arriving_4 (by decide) (fun c1 => ?_) (fun c1 => ?_)
  · rw [if_pos c1] at hF
    refine lv_iconst (v := (-1 : Int32)) hx hb dX4_arriving_17 (by decide) ?_
    exact kret (-1 : Int32) τ _ _ _ _ ⟨(Option.some.inj hF), rfl⟩ Z.nila dX4_arriving_18
  · rw [if_neg c1] at hF
    refine lv_aload_n hx hb dX4_arriving_7 rfl (lv_at hl 0 rfl) ?_
    refine lv_iconst (v := (2 : Int32)) hx hb dX4_arriving_8 (by decide) ?_
    refine lv_iload_n hx hb dX4_arriving_9 rfl (lv_at hl 1 rfl) ?_
    refine lv_iload_n hx hb dX4_arriving_10 rfl (lv_at hl 2 rfl) ?_
    obtain ⟨v2, h3, hF⟩ := obind hF
    refine kr_i (As := [.int (2 : Int32), .int p1, .int p2]) Fc hA Z (Lens.tail []) (c_X4_nextByDay l D cI cS ad hs τ ok (2 : Int32) p1 p2 v2 h3) mL_RX4_238 v_X4_nextByDay ⟨rfl, rfl⟩ ⟨Nat.le_of_ble_eq_true rfl, Nat.le_of_ble_eq_true rfl⟩ ⟨Nat.zero_le _, Nat.zero_le _⟩ 0 4 rfl rfl rfl hl (Nat.le_of_ble_eq_true rfl) dX4_arriving_11 rfl (fun H locs Z => ?_)
    refine lv_goto (tgt := 18) hx hb dX4_arriving_14 (by decide) ?_
    exact kret v2 τ _ _ _ _ ⟨(Option.some.inj hF), rfl⟩ Z.nila dX4_arriving_18
