/-! THE REFERENCE: its methods -/
def X5_of (ρ : Ms) (p1 p2 : Int32) : Option (Int32) := (rdA (ρ.1.1 0) 681 ((((13 : Int32) + ((12 : Int32) * p1)) + p2))).bind fun v1 => some v1
def rm_X5_of : Room := { frames := 0, cells := 0, slots := 0, locals := 0 }
theorem v_X5_of : WdV RX5 yX5_of cX5_of 3 (some .int) 2 := ⟨mI_X5_of, mS_X5_of, mZ_RX5, mC_X5_of, by decide +kernel⟩
set_option maxHeartbeats 8000000 in
set_option maxRecDepth 100000 in
theorem c_X5_of (l : Launch) (D : va_G) (cI cS : ClassId) (am : Nat → Nat) (ρ : Ms) (p1 p2 : Int32) (F : Int32) (hF : X5_of ρ p1 p2 = some F) : MI l yX5_of cX5_of 3 (some .int) rm_X5_of D cI cS [.ref (am 0), .int p1, .int p2] (mW am cI ρ) (mW am cI) (fun r u' => r = F ∧ u' = ρ) := by
  refine MI.mk RX5 rfl .int rfl (by decide) (Nat.le_of_ble_eq_true rfl) (fun _ _ _ => rfl) ?_
  intro p e s m args below meth c A Q ls Fc hin hA Z kret hl
  obtain ⟨hx, hb, hml, hown, hts, hKN⟩ := id Fc
  replace hl : lv_has ls 3 [(0, .ref (am 0)), (1, .int p1), (2, .int p2)] := hl
  unfold X5_of at hF
  refine lv_aload_n hx hb dX5_of_0 rfl (lv_at hl 0 rfl) ?_
  refine kget Fc Z inX5 0 rfl rfl 0 (by decide) mF_RX5_11 rfl rfl dX5_of_1 ?_
  refine lv_bipush (v := (13 : Int32)) hx hb dX5_of_4 (by decide) ?_
  refine lv_bipush (v := (12 : Int32)) hx hb dX5_of_6 (by decide) ?_
  refine lv_iload_n hx hb dX5_of_8 rfl (lv_at hl 1 rfl) ?_
  refine lv_imul hx hb dX5_of_9 ?_
  refine lv_iadd hx hb dX5_of_10 ?_
  refine lv_iload_n hx hb dX5_of_11 rfl (lv_at hl 2 rfl) ?_
  refine lv_iadd hx hb dX5_of_12 ?_
  obtain ⟨v1, h2, hF⟩ := obind hF
  refine kald Fc Z 1 rfl h2 dX5_of_13 ?_
  exact kret v1 ρ _ _ _ _ ⟨(Option.some.inj hF), rfl⟩ Z dX5_of_14
def X5_late (ρ : Ms) (p1 : Int32) : Option (Int32) := (rdA (ρ.1.1 0) 681 (0 : Int32)).bind fun v1 => (X5_of ρ p1 (5 : Int32)).bind fun v3 => (rdA (ρ.1.1 0) 681 (8 : Int32)).bind fun v5 => (rdA (ρ.1.1 0) 681 (7 : Int32)).bind fun v7 => some ((((jminL (v5.toInt64) ((((jmax (0 : Int32) (v1 - v3))).toInt64) * (v7.toInt64)))).toInt32))
def rm_X5_late : Room := { frames := 1, cells := 0, slots := 0, locals := 23 }
theorem v_X5_late : WdV RX5 yX5_late cX5_late 4 (some .int) 1 := ⟨mI_X5_late, mS_X5_late, mZ_RX5, mC_X5_late, by decide +kernel⟩
set_option maxHeartbeats 8000000 in
set_option maxRecDepth 100000 in
theorem c_X5_late (l : Launch) (D : va_G) (cI cS : ClassId) (am : Nat → Nat) (ρ : Ms) (p1 : Int32) (F : Int32) (hF : X5_late ρ p1 = some F) : MI l yX5_late cX5_late 4 (some .int) rm_X5_late D cI cS [.ref (am 0), .int p1] (mW am cI ρ) (mW am cI) (fun r u' => r = F ∧ u' = ρ) := by
  refine MI.mk RX5 rfl .int rfl (by decide) (Nat.le_of_ble_eq_true rfl) (fun _ _ _ => rfl) ?_
  intro p e s m args below meth c A Q ls Fc hin hA Z kret hl
  obtain ⟨hx, hb, hml, hown, hts, hKN⟩ := id Fc
  replace hl : lv_has ls 4 [(0, .ref (am 0)), (1, .int p1)] := hl
  unfold X5_late at hF
  refine lv_iconst (v := (0 : Int32)) hx hb dX5_late_0 (by decide) ?_
  refine lv_aload_n hx hb dX5_late_1 rfl (lv_at hl 0 rfl) ?_
  refine kget Fc Z inX5 0 rfl rfl 0 (by decide) mF_RX5_11 rfl rfl dX5_late_2 ?_
  refine lv_iconst (v := (0 : Int32)) hx hb dX5_late_5 (by decide) ?_
  obtain ⟨v1, h2, hF⟩ := obind hF
  refine kald Fc Z 1 rfl h2 dX5_late_6 ?_
  refine lv_aload_n hx hb dX5_late_7 rfl (lv_at hl 0 rfl) ?_
  refine lv_iload_n hx hb dX5_late_8 rfl (lv_at hl 1 rfl) ?_
  refine lv_iconst (v := (5 : Int32)) hx hb dX5_late_9 (by decide) ?_
  obtain ⟨v3, h4, hF⟩ := obind hF
  refine kr_i (As := [.int p1, .int (5 : Int32)]) Fc hA Z Lens.all (c_X5_of l D cI cS am ρ p1 (5 : Int32) v3 h4) mL_RX5_73 v_X5_of ⟨rfl, rfl⟩ ⟨Nat.le_of_ble_eq_true rfl, Nat.le_of_ble_eq_true rfl⟩ ⟨Nat.zero_le _, Nat.zero_le _⟩ 0 5 rfl rfl rfl hl (Nat.le_of_ble_eq_true rfl) dX5_late_10 rfl (fun H locs Z => ?_)
  refine lv_isub hx hb dX5_late_13 ?_
  refine kmax Fc hl mL_RX5_82 (Nat.le_of_ble_eq_true rfl) (Nat.le_of_ble_eq_true rfl) ⟨Nat.zero_le _, Nat.zero_le _⟩ dX5_late_14 ?_
  refine lv_i2l (v := ((jmax (0 : Int32) (v1 - v3))).toInt64) hx hb dX5_late_17 rfl ?_
  refine lv_lstore_n (lv' := [(2, .long (((jmax (0 : Int32) (v1 - v3))).toInt64)), (0, .ref (am 0)), (1, .int p1)]) hx hb dX5_late_18 rfl hl (by decide) rfl (fun ls hl => ?_)
  refine lv_aload_n hx hb dX5_late_19 rfl (lv_at hl 1 rfl) ?_
  refine kget Fc Z inX5 0 rfl rfl 0 (by decide) mF_RX5_11 rfl rfl dX5_late_20 ?_
  refine lv_bipush (v := (8 : Int32)) hx hb dX5_late_23 (by decide) ?_
  obtain ⟨v5, h6, hF⟩ := obind hF
  refine kald Fc Z 1 rfl h6 dX5_late_25 ?_
  refine lv_i2l (v := v5.toInt64) hx hb dX5_late_26 rfl ?_
  refine lv_lload_n hx hb dX5_late_27 rfl (lv_at hl 0 rfl) ?_
  refine lv_aload_n hx hb dX5_late_28 rfl (lv_at hl 1 rfl) ?_
  refine kget Fc Z inX5 0 rfl rfl 0 (by decide) mF_RX5_11 rfl rfl dX5_late_29 ?_
  refine lv_bipush (v := (7 : Int32)) hx hb dX5_late_32 (by decide) ?_
  obtain ⟨v7, h8, hF⟩ := obind hF
  refine kald Fc Z 1 rfl h8 dX5_late_34 ?_
  refine lv_i2l (v := v7.toInt64) hx hb dX5_late_35 rfl ?_
  refine lv_lmul hx hb dX5_late_36 ?_
  refine kminL Fc hl mL_RX5_85 (Nat.le_of_ble_eq_true rfl) (Nat.le_of_ble_eq_true rfl) ⟨Nat.zero_le _, Nat.zero_le _⟩ dX5_late_37 ?_
  refine lv_l2i (v := ((jminL (v5.toInt64) ((((jmax (0 : Int32) (v1 - v3))).toInt64) * (v7.toInt64)))).toInt32) hx hb dX5_late_40 rfl ?_
  exact kret ((((jminL (v5.toInt64) ((((jmax (0 : Int32) (v1 - v3))).toInt64) * (v7.toInt64)))).toInt32)) ρ _ _ _ _ ⟨(Option.some.inj hF), rfl⟩ Z dX5_late_41
def X5_isPatron (ρ : Ms) (p1 : Int32) : Option (Bool) := (rdA (ρ.1.1 0) 681 (2 : Int32)).bind fun v1 => some ((X5_in p1 (0 : Int32) ((v1 - (1 : Int32)))))
def rm_X5_isPatron : Room := { frames := 1, cells := 0, slots := 0, locals := 22 }
theorem v_X5_isPatron : WdV RX5 yX5_isPatron cX5_isPatron 2 (some .boolean) 1 := ⟨mI_X5_isPatron, mS_X5_isPatron, mZ_RX5, mC_X5_isPatron, by decide +kernel⟩
set_option maxHeartbeats 8000000 in
set_option maxRecDepth 100000 in
theorem c_X5_isPatron (l : Launch) (D : va_G) (cI cS : ClassId) (am : Nat → Nat) (ρ : Ms) (p1 : Int32) (F : Bool) (hF : X5_isPatron ρ p1 = some F) : MI l yX5_isPatron cX5_isPatron 2 (some .boolean) rm_X5_isPatron D cI cS [.ref (am 0), .int p1] (mW am cI ρ) (mW am cI) (fun r u' => r = bi F ∧ u' = ρ) := by
  refine MI.mk RX5 rfl .boolean rfl (by decide) (Nat.le_of_ble_eq_true rfl) (fun r u h => by rw [h.1]; exact bi_nar _) ?_
  intro p e s m args below meth c A Q ls Fc hin hA Z kret hl
  obtain ⟨hx, hb, hml, hown, hts, hKN⟩ := id Fc
  replace hl : lv_has ls 2 [(0, .ref (am 0)), (1, .int p1)] := hl
  unfold X5_isPatron at hF
  refine lv_iload_n hx hb dX5_isPatron_0 rfl (lv_at hl 1 rfl) ?_
  refine lv_iconst (v := (0 : Int32)) hx hb dX5_isPatron_1 (by decide) ?_
  refine lv_aload_n hx hb dX5_isPatron_2 rfl (lv_at hl 0 rfl) ?_
  refine kget Fc Z inX5 0 rfl rfl 0 (by decide) mF_RX5_11 rfl rfl dX5_isPatron_3 ?_
  refine lv_iconst (v := (2 : Int32)) hx hb dX5_isPatron_6 (by decide) ?_
  obtain ⟨v1, h2, hF⟩ := obind hF
  refine kald Fc Z 1 rfl h2 dX5_isPatron_7 ?_
  refine lv_iconst (v := (1 : Int32)) hx hb dX5_isPatron_8 (by decide) ?_
  refine lv_isub hx hb dX5_isPatron_9 ?_
  refine ks_i (As := [.int p1, .int (0 : Int32), .int ((v1 - (1 : Int32)))]) Fc hA Z (c_X5_in l D cI cS p1 (0 : Int32) ((v1 - (1 : Int32))) (X5_in p1 (0 : Int32) ((v1 - (1 : Int32)))) rfl) mL_RX5_51 v_X5_in ⟨rfl, rfl⟩ ⟨Nat.le_of_ble_eq_true rfl, Nat.le_of_ble_eq_true rfl⟩ ⟨Nat.zero_le _, Nat.zero_le _⟩ rfl hl (Nat.le_of_ble_eq_true rfl) dX5_isPatron_10 rfl (fun H locs Z => ?_)
  exact kret ((bi (X5_in p1 (0 : Int32) ((v1 - (1 : Int32)))))) ρ _ _ _ _ ⟨(congrArg bi (Option.some.inj hF)), rfl⟩ Z dX5_isPatron_13
def X5_accrued_L14 (ρ : Ms) (x1 : Int32) : Nat → Int32 → Int32 → Option (Int32)
  | 0, _, _ => none
  | k + 1, x2, x3 => (rdA (ρ.1.1 0) 681 (1 : Int32)).bind fun v1 => if v1 ≤ x3 then (some x2) else (X5_of ρ x3 (3 : Int32)).bind fun v4 => if v4 = (1 : Int32) then ((X5_of ρ x3 (4 : Int32)).bind fun v7 => if v7 = x1 then ((X5_late ρ x3).bind fun v10 => X5_accrued_L14 ρ x1 k (x2 + v10) ((x3 + (1 : Int32)))) else X5_accrued_L14 ρ x1 k ((x2 + (0 : Int32))) ((x3 + (1 : Int32)))) else X5_accrued_L14 ρ x1 k ((x2 + (0 : Int32))) ((x3 + (1 : Int32)))
def X5_accrued (ρ : Ms) (p1 : Int32) : Option (Int32) := (X5_isPatron ρ p1).bind fun v12 => if (bi v12) = 0 then (some (-1 : Int32)) else X5_accrued_L14 ρ p1 FU (0 : Int32) (0 : Int32)
def rm_X5_accrued : Room := { frames := 2, cells := 0, slots := 0, locals := 46 }
theorem v_X5_accrued : WdV RX5 yX5_accrued cX5_accrued 4 (some .int) 1 := ⟨mI_X5_accrued, mS_X5_accrued, mZ_RX5, mC_X5_accrued, by decide +kernel⟩
set_option maxHeartbeats 8000000 in
set_option maxRecDepth 100000 in
theorem c_X5_accrued (l : Launch) (D : va_G) (cI cS : ClassId) (am : Nat → Nat) (ρ : Ms) (p1 : Int32) (F : Int32) (hF : X5_accrued ρ p1 = some F) : MI l yX5_accrued cX5_accrued 4 (some .int) rm_X5_accrued D cI cS [.ref (am 0), .int p1] (mW am cI ρ) (mW am cI) (fun r u' => r = F ∧ u' = ρ) := by
  refine MI.mk RX5 rfl .int rfl (by decide) (Nat.le_of_ble_eq_true rfl) (fun _ _ _ => rfl) ?_
  intro p e s m args below meth c A Q ls Fc hin hA Z kret hl
  obtain ⟨hx, hb, hml, hown, hts, hKN⟩ := id Fc
  replace hl : lv_has ls 4 [(0, .ref (am 0)), (1, .int p1)] := hl
  have L14 : ∀ (x1 : Int32) (k : Nat) (x2 : Int32) (x3 : Int32) (H : Heap) (locs : List Loc) (ls : Array Slot), X5_accrued_L14 ρ x1  k x2 x3 = some F → Ix D A s (mW am cI ρ) H locs → lv_has ls 4 [(0, .ref (am 0)), (1, .int x1), (2, .int x2), (3, .int x3)] → W p l e rm_X5_accrued s m args below meth c H locs 0 0 Q (F0 m 14 ls []) := by
    intro x1 k
    induction k with
    | zero => intro x2 x3 H locs ls hF; rw [X5_accrued_L14] at hF; cases hF
    | succ k ih =>
      intro x2 x3 H locs ls hF Z hl
      rw [X5_accrued_L14] at hF
      refine lv_iload_n hx hb dX5_accrued_14 rfl (lv_at hl 3 rfl) ?_
      refine lv_aload_n hx hb dX5_accrued_15 rfl (lv_at hl 0 rfl) ?_
      refine kget Fc Z inX5 0 rfl rfl 0 (by decide) mF_RX5_11 rfl rfl dX5_accrued_16 ?_
      refine lv_iconst (v := (1 : Int32)) hx hb dX5_accrued_19 (by decide) ?_
      obtain ⟨v1, h2, hF⟩ := obind hF
      refine kald Fc Z 1 rfl h2 dX5_accrued_20 ?_
      refine lv_icmp_ge (tgt := 62) hx hb dX5_accrued_21 (by decide) (fun c3 => ?_) (fun c3 => ?_)
      · rw [if_pos c3] at hF
        refine lv_iload_n hx hb dX5_accrued_62 rfl (lv_at hl 2 rfl) ?_
        exact kret x2 ρ _ _ _ _ ⟨(Option.some.inj hF), rfl⟩ Z dX5_accrued_63
      · rw [if_neg c3] at hF
        refine lv_iload_n hx hb dX5_accrued_24 rfl (lv_at hl 2 rfl) ?_
        refine lv_aload_n hx hb dX5_accrued_25 rfl (lv_at hl 0 rfl) ?_
        refine lv_iload_n hx hb dX5_accrued_26 rfl (lv_at hl 3 rfl) ?_
        refine lv_iconst (v := (3 : Int32)) hx hb dX5_accrued_27 (by decide) ?_
        obtain ⟨v4, h5, hF⟩ := obind hF
        refine kr_i (As := [.int x3, .int (3 : Int32)]) Fc hA Z Lens.all (c_X5_of l D cI cS am ρ x3 (3 : Int32) v4 h5) mL_RX5_73 v_X5_of ⟨rfl, rfl⟩ ⟨Nat.le_of_ble_eq_true rfl, Nat.le_of_ble_eq_true rfl⟩ ⟨Nat.zero_le _, Nat.zero_le _⟩ 0 5 rfl rfl rfl hl (Nat.le_of_ble_eq_true rfl) dX5_accrued_28 rfl (fun H locs Z => ?_)
        refine lv_iconst (v := (1 : Int32)) hx hb dX5_accrued_31 (by decide) ?_
        refine lv_icmp_ne (tgt := 53) hx hb dX5_accrued_32 (by decide) (fun c6 => ?_) (fun c6 => ?_)
        · rw [if_neg c6] at hF
          refine lv_iconst (v := (0 : Int32)) hx hb dX5_accrued_53 (by decide) ?_
          refine lv_iadd hx hb dX5_accrued_54 ?_
          refine lv_istore_n (lv' := [(2, .int (x2 + (0 : Int32))), (0, .ref (am 0)), (1, .int x1), (3, .int x3)]) hx hb dX5_accrued_55 rfl hl (by decide) rfl (fun ls hl => ?_)
          refine lv_iinc (v := (x3 + (1 : Int32))) (lv' := [(3, .int (x3 + (1 : Int32))), (2, .int (x2 + (0 : Int32))), (0, .ref (am 0)), (1, .int x1)]) hx hb dX5_accrued_56 hl (k := 3) rfl (by rfl) (by decide) rfl (fun ls hl => ?_)
          refine lv_goto (tgt := 14) hx hb dX5_accrued_59 (by decide) ?_
          exact ih ((x2 + (0 : Int32))) ((x3 + (1 : Int32))) _ _ _ hF Z (lv_sub hl [2, 3, 1, 0] rfl)
        · rw [if_pos c6] at hF
          refine lv_aload_n hx hb dX5_accrued_35 rfl (lv_at hl 0 rfl) ?_
          refine lv_iload_n hx hb dX5_accrued_36 rfl (lv_at hl 3 rfl) ?_
          refine lv_iconst (v := (4 : Int32)) hx hb dX5_accrued_37 (by decide) ?_
          obtain ⟨v7, h8, hF⟩ := obind hF
          refine kr_i (As := [.int x3, .int (4 : Int32)]) Fc hA Z Lens.all (c_X5_of l D cI cS am ρ x3 (4 : Int32) v7 h8) mL_RX5_73 v_X5_of ⟨rfl, rfl⟩ ⟨Nat.le_of_ble_eq_true rfl, Nat.le_of_ble_eq_true rfl⟩ ⟨Nat.zero_le _, Nat.zero_le _⟩ 0 5 rfl rfl rfl hl (Nat.le_of_ble_eq_true rfl) dX5_accrued_38 rfl (fun H locs Z => ?_)
          refine lv_iload_n hx hb dX5_accrued_41 rfl (lv_at hl 1 rfl) ?_
          refine lv_icmp_ne (tgt := 53) hx hb dX5_accrued_42 (by decide) (fun c9 => ?_) (fun c9 => ?_)
          · rw [if_neg c9] at hF
            refine lv_iconst (v := (0 : Int32)) hx hb dX5_accrued_53 (by decide) ?_
            refine lv_iadd hx hb dX5_accrued_54 ?_
            refine lv_istore_n (lv' := [(2, .int (x2 + (0 : Int32))), (0, .ref (am 0)), (1, .int x1), (3, .int x3)]) hx hb dX5_accrued_55 rfl hl (by decide) rfl (fun ls hl => ?_)
            refine lv_iinc (v := (x3 + (1 : Int32))) (lv' := [(3, .int (x3 + (1 : Int32))), (2, .int (x2 + (0 : Int32))), (0, .ref (am 0)), (1, .int x1)]) hx hb dX5_accrued_56 hl (k := 3) rfl (by rfl) (by decide) rfl (fun ls hl => ?_)
            refine lv_goto (tgt := 14) hx hb dX5_accrued_59 (by decide) ?_
            exact ih ((x2 + (0 : Int32))) ((x3 + (1 : Int32))) _ _ _ hF Z (lv_sub hl [2, 3, 1, 0] rfl)
          · rw [if_pos c9] at hF
            refine lv_aload_n hx hb dX5_accrued_45 rfl (lv_at hl 0 rfl) ?_
            refine lv_iload_n hx hb dX5_accrued_46 rfl (lv_at hl 3 rfl) ?_
            obtain ⟨v10, h11, hF⟩ := obind hF
            refine kr_i (As := [.int x3]) Fc hA Z Lens.all (c_X5_late l D cI cS am ρ x3 v10 h11) mL_RX5_123 v_X5_late ⟨rfl, rfl⟩ ⟨Nat.le_of_ble_eq_true rfl, Nat.le_of_ble_eq_true rfl⟩ ⟨Nat.zero_le _, Nat.zero_le _⟩ 0 5 rfl rfl rfl hl (Nat.le_of_ble_eq_true rfl) dX5_accrued_47 rfl (fun H locs Z => ?_)
            refine lv_goto (tgt := 54) hx hb dX5_accrued_50 (by decide) ?_
            refine lv_iadd hx hb dX5_accrued_54 ?_
            refine lv_istore_n (lv' := [(2, .int (x2 + v10)), (0, .ref (am 0)), (1, .int x1), (3, .int x3)]) hx hb dX5_accrued_55 rfl hl (by decide) rfl (fun ls hl => ?_)
            refine lv_iinc (v := (x3 + (1 : Int32))) (lv' := [(3, .int (x3 + (1 : Int32))), (2, .int (x2 + v10)), (0, .ref (am 0)), (1, .int x1)]) hx hb dX5_accrued_56 hl (k := 3) rfl (by rfl) (by decide) rfl (fun ls hl => ?_)
            refine lv_goto (tgt := 14) hx hb dX5_accrued_59 (by decide) ?_
            exact ih (x2 + v10) ((x3 + (1 : Int32))) _ _ _ hF Z (lv_sub hl [2, 3, 1, 0] rfl)
  unfold X5_accrued at hF
  refine lv_aload_n hx hb dX5_accrued_0 rfl (lv_at hl 0 rfl) ?_
  refine lv_iload_n hx hb dX5_accrued_1 rfl (lv_at hl 1 rfl) ?_
  obtain ⟨v12, h13, hF⟩ := obind hF
  refine kr_i (As := [.int p1]) Fc hA Z Lens.all (c_X5_isPatron l D cI cS am ρ p1 v12 h13) mL_RX5_147 v_X5_isPatron ⟨rfl, rfl⟩ ⟨Nat.le_of_ble_eq_true rfl, Nat.le_of_ble_eq_true rfl⟩ ⟨Nat.zero_le _, Nat.zero_le _⟩ 0 5 rfl rfl rfl hl (Nat.le_of_ble_eq_true rfl) dX5_accrued_2 rfl (fun H locs Z => ?_)
  refine lv_if_ne (tgt := 10) hx hb dX5_accrued_5 (by decide) (fun c14 => ?_) (fun c14 => ?_)
  · rw [if_neg c14] at hF
    refine lv_iconst (v := (0 : Int32)) hx hb dX5_accrued_10 (by decide) ?_
    refine lv_istore_n (lv' := [(2, .int (0 : Int32)), (0, .ref (am 0)), (1, .int p1)]) hx hb dX5_accrued_11 rfl hl (by decide) rfl (fun ls hl => ?_)
    refine lv_iconst (v := (0 : Int32)) hx hb dX5_accrued_12 (by decide) ?_
    refine lv_istore_n (lv' := [(3, .int (0 : Int32)), (2, .int (0 : Int32)), (0, .ref (am 0)), (1, .int p1)]) hx hb dX5_accrued_13 rfl hl (by decide) rfl (fun ls hl => ?_)
    exact L14 p1 FU (0 : Int32) (0 : Int32) _ _ _ hF Z (lv_sub hl [2, 3, 1, 0] rfl)
  · rw [if_pos c14] at hF
    refine lv_iconst (v := (-1 : Int32)) hx hb dX5_accrued_8 (by decide) ?_
    exact kret (-1 : Int32) ρ _ _ _ _ ⟨(Option.some.inj hF), rfl⟩ Z dX5_accrued_9
def X5_puts (ρ : Ms) (p1 p2 p3 : Int32) : Option (Ms) := (wrA (ρ.1.1 0) 681 ((((13 : Int32) + ((12 : Int32) * p1)) + p2)) p3).bind fun g1 => bnd (msA ρ 0 g1) fun ρ3 => some ρ3
def rm_X5_puts : Room := { frames := 0, cells := 0, slots := 0, locals := 0 }
theorem v_X5_puts : WdV RX5 yX5_puts cX5_puts 4 none 3 := ⟨mI_X5_puts, mS_X5_puts, mZ_RX5, mC_X5_puts, by decide +kernel⟩
set_option maxHeartbeats 8000000 in
set_option maxRecDepth 100000 in
theorem c_X5_puts (l : Launch) (D : va_G) (cI cS : ClassId) (am : Nat → Nat) (ρ : Ms) (p1 p2 p3 : Int32) (F : Ms) (hF : X5_puts ρ p1 p2 p3 = some F) : MV l yX5_puts cX5_puts 4 rm_X5_puts D cI cS [.ref (am 0), .int p1, .int p2, .int p3] (mW am cI ρ) (mW am cI) (fun u => u = F ∧ True) := by
  refine MV.mk RX5 rfl (by decide) (Nat.le_of_ble_eq_true rfl) ?_
  intro p e s m args below meth c A Q ls Fc hin hA Z kret hl
  obtain ⟨hx, hb, hml, hown, hts, hKN⟩ := id Fc
  replace hl : lv_has ls 4 [(0, .ref (am 0)), (1, .int p1), (2, .int p2), (3, .int p3)] := hl
  unfold X5_puts at hF
  refine lv_aload_n hx hb dX5_puts_0 rfl (lv_at hl 0 rfl) ?_
  refine kget Fc Z inX5 0 rfl rfl 0 (by decide) mF_RX5_11 rfl rfl dX5_puts_1 ?_
  refine lv_bipush (v := (13 : Int32)) hx hb dX5_puts_4 (by decide) ?_
  refine lv_bipush (v := (12 : Int32)) hx hb dX5_puts_6 (by decide) ?_
  refine lv_iload_n hx hb dX5_puts_8 rfl (lv_at hl 1 rfl) ?_
  refine lv_imul hx hb dX5_puts_9 ?_
  refine lv_iadd hx hb dX5_puts_10 ?_
  refine lv_iload_n hx hb dX5_puts_11 rfl (lv_at hl 2 rfl) ?_
  refine lv_iadd hx hb dX5_puts_12 ?_
  refine lv_iload_n hx hb dX5_puts_13 rfl (lv_at hl 3 rfl) ?_
  obtain ⟨g1, h2, hF⟩ := obind hF
  obtain ⟨ρ3, e4, hF⟩ := bnd_el hF
  refine kast (w' := mW am cI ρ3) Fc Z 1 rfl h2 (by rw [e4]; rfl) dX5_puts_14 (fun H locs Z => ?_)
  exact kret ρ3 _ _ _ _ ⟨(Option.some.inj hF), trivial⟩ Z dX5_puts_15
def X5_made_L17 (x1 : Int32) : Nat → Int32 → Ms → Option (Int32 × Ms)
  | 0, _, _ => none
  | k + 1, x2, ρ => if (8 : Int32) ≤ x2 then (bnd (msI ρ 0 ((ρ.1.2 0) - (1 : Int32))) fun ρ2 => (X5_copies2 681 5448 (ρ2.1.1 1) (ρ2.1.1 3) (0 : Int32) (((681 : Int32) * (ρ2.1.2 0)))).bind fun g4 => bnd (msA ρ2 3 g4) fun ρ6 => bnd (msI ρ6 0 ((ρ6.1.2 0) + (1 : Int32))) fun ρ8 => some (x1, ρ8)) else (X5_copies1 5448 (ρ.1.1 3) (((681 : Int32) * x2)) (((681 : Int32) * (x2 - (1 : Int32))))).bind fun g10 => bnd (msA ρ 3 g10) fun ρ12 => X5_made_L17 x1 k ((x2 + (1 : Int32))) ρ12
def X5_made (ρ : Ms) (p1 : Int32) : Option (Int32 × Ms) := if 0 ≤ p1 then (if (ρ.1.2 0) = (8 : Int32) then (X5_made_L17 p1 FU (1 : Int32) ρ) else (X5_copies2 681 5448 (ρ.1.1 1) (ρ.1.1 3) (0 : Int32) (((681 : Int32) * (ρ.1.2 0)))).bind fun g16 => bnd (msA ρ 3 g16) fun ρ18 => bnd (msI ρ18 0 ((ρ18.1.2 0) + (1 : Int32))) fun ρ20 => some (p1, ρ20)) else some (p1, ρ)
def rm_X5_made : Room := { frames := 1, cells := 0, slots := 0, locals := 24 }
theorem v_X5_made : WdV RX5 yX5_made cX5_made 3 (some .int) 1 := ⟨mI_X5_made, mS_X5_made, mZ_RX5, mC_X5_made, by decide +kernel⟩
set_option maxHeartbeats 8000000 in
set_option maxRecDepth 100000 in
theorem c_X5_made (l : Launch) (D : va_G) (cI cS : ClassId) (am : Nat → Nat) (ρ : Ms) (p1 : Int32) (F : Int32 × Ms) (hF : X5_made ρ p1 = some F) : MI l yX5_made cX5_made 3 (some .int) rm_X5_made D cI cS [.ref (am 0), .int p1] (mW am cI ρ) (mW am cI) (fun r u => r = F.1 ∧ u = F.2 ∧ True) := by
  refine MI.mk RX5 rfl .int rfl (by decide) (Nat.le_of_ble_eq_true rfl) (fun _ _ _ => rfl) ?_
  intro p e s m args below meth c A Q ls Fc hin hA Z kret hl
  obtain ⟨hx, hb, hml, hown, hts, hKN⟩ := id Fc
  replace hl : lv_has ls 3 [(0, .ref (am 0)), (1, .int p1)] := hl
  have L17 : ∀ (x1 : Int32) (k : Nat) (x2 : Int32) (ρ : Ms) (H : Heap) (locs : List Loc) (ls : Array Slot), X5_made_L17 x1  k x2 ρ = some F → Ix D A s (mW am cI ρ) H locs → lv_has ls 3 [(0, .ref (am 0)), (1, .int x1), (2, .int x2)] → W p l e rm_X5_made s m args below meth c H locs 0 0 Q (F0 m 17 ls []) := by
    intro x1 k
    induction k with
    | zero => intro x2 ρ H locs ls hF; rw [X5_made_L17] at hF; cases hF
    | succ k ih =>
      intro x2 ρ H locs ls hF Z hl
      rw [X5_made_L17] at hF
      refine lv_iload_n hx hb dX5_made_17 rfl (lv_at hl 2 rfl) ?_
      refine lv_bipush (v := (8 : Int32)) hx hb dX5_made_18 (by decide) ?_
      refine lv_icmp_ge (tgt := 52) hx hb dX5_made_20 (by decide) (fun c1 => ?_) (fun c1 => ?_)
      · rw [if_pos c1] at hF
        refine lv_aload_n hx hb dX5_made_52 rfl (lv_at hl 0 rfl) ?_
        refine lv_dup hx hb dX5_made_53 rfl ?_
        refine kget Fc Z inX5 0 rfl rfl 4 (by decide) mF_RX5_24 rfl rfl dX5_made_54 ?_
        refine lv_iconst (v := (1 : Int32)) hx hb dX5_made_57 (by decide) ?_
        refine lv_isub hx hb dX5_made_58 ?_
        obtain ⟨ρ2, e3, hF⟩ := bnd_el hF
        refine kput (v := .int (((ρ.1.2 0) - (1 : Int32)))) (ty := .int) (w' := mW am cI ρ2) Fc Z inX5 tyX5 tyX5_ok nmX5 0 rfl rfl 4 (by decide) mF_RX5_24 rfl rfl rfl rfl rfl (Nat.le_of_ble_eq_true rfl) (by rw [e3]; rfl) dX5_made_59 (fun H locs Z => ?_)
        refine lv_aload_n hx hb dX5_made_62 rfl (lv_at hl 0 rfl) ?_
        refine kget Fc Z inX5 0 rfl rfl 1 (by decide) mF_RX5_15 rfl rfl dX5_made_63 ?_
        refine lv_iconst (v := (0 : Int32)) hx hb dX5_made_66 (by decide) ?_
        refine lv_aload_n hx hb dX5_made_67 rfl (lv_at hl 0 rfl) ?_
        refine kget Fc Z inX5 0 rfl rfl 3 (by decide) mF_RX5_21 rfl rfl dX5_made_68 ?_
        refine lv_sipush (v := (681 : Int32)) hx hb dX5_made_71 (by decide) ?_
        refine lv_aload_n hx hb dX5_made_74 rfl (lv_at hl 0 rfl) ?_
        refine kget Fc Z inX5 0 rfl rfl 4 (by decide) mF_RX5_24 rfl rfl dX5_made_75 ?_
        refine lv_imul hx hb dX5_made_78 ?_
        obtain ⟨g4, h5, hF⟩ := obind hF
        obtain ⟨ρ6, e7, hF⟩ := bnd_el hF
        refine ksv_i (As := [.ref (am 2), .int (0 : Int32), .ref (am 4), .int (((681 : Int32) * (ρ2.1.2 0)))]) Fc hA Z (Lens.m2_1_3) (c_X5_copies2 l D cI cS (am 2) (am 4) 681 5448 (ρ2.1.1 1) (ρ2.1.1 3) (0 : Int32) (((681 : Int32) * (ρ2.1.2 0))) g4 h5) mL_RX5_47 v_X5_copies ⟨rfl, rfl⟩ ⟨Nat.le_of_ble_eq_true rfl, Nat.le_of_ble_eq_true rfl⟩ ⟨Nat.zero_le _, Nat.zero_le _⟩ rfl hl (Nat.le_of_ble_eq_true rfl) dX5_made_79 rfl (fun H locs Z => ?_)
        have Z : Ix D A s (mW am cI ρ6) H locs := by rw [e7]; exact Z
        refine lv_aload_n hx hb dX5_made_82 rfl (lv_at hl 0 rfl) ?_
        refine lv_dup hx hb dX5_made_83 rfl ?_
        refine kget Fc Z inX5 0 rfl rfl 4 (by decide) mF_RX5_24 rfl rfl dX5_made_84 ?_
        refine lv_iconst (v := (1 : Int32)) hx hb dX5_made_87 (by decide) ?_
        refine lv_iadd hx hb dX5_made_88 ?_
        obtain ⟨ρ8, e9, hF⟩ := bnd_el hF
        refine kput (v := .int (((ρ6.1.2 0) + (1 : Int32)))) (ty := .int) (w' := mW am cI ρ8) Fc Z inX5 tyX5 tyX5_ok nmX5 0 rfl rfl 4 (by decide) mF_RX5_24 rfl rfl rfl rfl rfl (Nat.le_of_ble_eq_true rfl) (by rw [e9]; rfl) dX5_made_89 (fun H locs Z => ?_)
        refine lv_iload_n hx hb dX5_made_92 rfl (lv_at hl 1 rfl) ?_
        exact kret x1 ρ8 _ _ _ _ ⟨(pfst (Option.some.inj hF)), psnd (Option.some.inj hF), trivial⟩ Z dX5_made_93
      · rw [if_neg c1] at hF
        refine lv_aload_n hx hb dX5_made_23 rfl (lv_at hl 0 rfl) ?_
        refine kget Fc Z inX5 0 rfl rfl 3 (by decide) mF_RX5_21 rfl rfl dX5_made_24 ?_
        refine lv_sipush (v := (681 : Int32)) hx hb dX5_made_27 (by decide) ?_
        refine lv_iload_n hx hb dX5_made_30 rfl (lv_at hl 2 rfl) ?_
        refine lv_imul hx hb dX5_made_31 ?_
        refine lv_aload_n hx hb dX5_made_32 rfl (lv_at hl 0 rfl) ?_
        refine kget Fc Z inX5 0 rfl rfl 3 (by decide) mF_RX5_21 rfl rfl dX5_made_33 ?_
        refine lv_sipush (v := (681 : Int32)) hx hb dX5_made_36 (by decide) ?_
        refine lv_iload_n hx hb dX5_made_39 rfl (lv_at hl 2 rfl) ?_
        refine lv_iconst (v := (1 : Int32)) hx hb dX5_made_40 (by decide) ?_
        refine lv_isub hx hb dX5_made_41 ?_
        refine lv_imul hx hb dX5_made_42 ?_
        obtain ⟨g10, h11, hF⟩ := obind hF
        obtain ⟨ρ12, e13, hF⟩ := bnd_el hF
        refine ksv_i (As := [.ref (am 4), .int (((681 : Int32) * x2)), .ref (am 4), .int (((681 : Int32) * (x2 - (1 : Int32))))]) Fc hA Z (Lens.m1_3) (c_X5_copies1 l D cI cS (am 4) 5448 (ρ.1.1 3) (((681 : Int32) * x2)) (((681 : Int32) * (x2 - (1 : Int32)))) g10 h11) mL_RX5_47 v_X5_copies ⟨rfl, rfl⟩ ⟨Nat.le_of_ble_eq_true rfl, Nat.le_of_ble_eq_true rfl⟩ ⟨Nat.zero_le _, Nat.zero_le _⟩ rfl hl (Nat.le_of_ble_eq_true rfl) dX5_made_43 rfl (fun H locs Z => ?_)
        have Z : Ix D A s (mW am cI ρ12) H locs := by rw [e13]; exact Z
        refine lv_iinc (v := (x2 + (1 : Int32))) (lv' := [(2, .int (x2 + (1 : Int32))), (0, .ref (am 0)), (1, .int x1)]) hx hb dX5_made_46 hl (k := 2) rfl (by rfl) (by decide) rfl (fun ls hl => ?_)
        refine lv_goto (tgt := 17) hx hb dX5_made_49 (by decide) ?_
        exact ih ((x2 + (1 : Int32))) ρ12 _ _ _ hF Z (lv_sub hl [1, 2, 0] rfl)
  unfold X5_made at hF
  refine lv_iload_n hx hb dX5_made_0 rfl (lv_at hl 1 rfl) ?_
  refine lv_if_ge (tgt := 6) hx hb dX5_made_1 (by decide) (fun c14 => ?_) (fun c14 => ?_)
  · rw [if_pos c14] at hF
    refine lv_aload_n hx hb dX5_made_6 rfl (lv_at hl 0 rfl) ?_
    refine kget Fc Z inX5 0 rfl rfl 4 (by decide) mF_RX5_24 rfl rfl dX5_made_7 ?_
    refine lv_bipush (v := (8 : Int32)) hx hb dX5_made_10 (by decide) ?_
    refine lv_icmp_ne (tgt := 62) hx hb dX5_made_12 (by decide) (fun c15 => ?_) (fun c15 => ?_)
    · rw [if_neg c15] at hF
      refine lv_aload_n hx hb dX5_made_62 rfl (lv_at hl 0 rfl) ?_
      refine kget Fc Z inX5 0 rfl rfl 1 (by decide) mF_RX5_15 rfl rfl dX5_made_63 ?_
      refine lv_iconst (v := (0 : Int32)) hx hb dX5_made_66 (by decide) ?_
      refine lv_aload_n hx hb dX5_made_67 rfl (lv_at hl 0 rfl) ?_
      refine kget Fc Z inX5 0 rfl rfl 3 (by decide) mF_RX5_21 rfl rfl dX5_made_68 ?_
      refine lv_sipush (v := (681 : Int32)) hx hb dX5_made_71 (by decide) ?_
      refine lv_aload_n hx hb dX5_made_74 rfl (lv_at hl 0 rfl) ?_
      refine kget Fc Z inX5 0 rfl rfl 4 (by decide) mF_RX5_24 rfl rfl dX5_made_75 ?_
      refine lv_imul hx hb dX5_made_78 ?_
      obtain ⟨g16, h17, hF⟩ := obind hF
      obtain ⟨ρ18, e19, hF⟩ := bnd_el hF
      refine ksv_i (As := [.ref (am 2), .int (0 : Int32), .ref (am 4), .int (((681 : Int32) * (ρ.1.2 0)))]) Fc hA Z (Lens.m2_1_3) (c_X5_copies2 l D cI cS (am 2) (am 4) 681 5448 (ρ.1.1 1) (ρ.1.1 3) (0 : Int32) (((681 : Int32) * (ρ.1.2 0))) g16 h17) mL_RX5_47 v_X5_copies ⟨rfl, rfl⟩ ⟨Nat.le_of_ble_eq_true rfl, Nat.le_of_ble_eq_true rfl⟩ ⟨Nat.zero_le _, Nat.zero_le _⟩ rfl hl (Nat.le_of_ble_eq_true rfl) dX5_made_79 rfl (fun H locs Z => ?_)
      have Z : Ix D A s (mW am cI ρ18) H locs := by rw [e19]; exact Z
      refine lv_aload_n hx hb dX5_made_82 rfl (lv_at hl 0 rfl) ?_
      refine lv_dup hx hb dX5_made_83 rfl ?_
      refine kget Fc Z inX5 0 rfl rfl 4 (by decide) mF_RX5_24 rfl rfl dX5_made_84 ?_
      refine lv_iconst (v := (1 : Int32)) hx hb dX5_made_87 (by decide) ?_
      refine lv_iadd hx hb dX5_made_88 ?_
      obtain ⟨ρ20, e21, hF⟩ := bnd_el hF
      refine kput (v := .int (((ρ18.1.2 0) + (1 : Int32)))) (ty := .int) (w' := mW am cI ρ20) Fc Z inX5 tyX5 tyX5_ok nmX5 0 rfl rfl 4 (by decide) mF_RX5_24 rfl rfl rfl rfl rfl (Nat.le_of_ble_eq_true rfl) (by rw [e21]; rfl) dX5_made_89 (fun H locs Z => ?_)
      refine lv_iload_n hx hb dX5_made_92 rfl (lv_at hl 1 rfl) ?_
      exact kret p1 ρ20 _ _ _ _ ⟨(pfst (Option.some.inj hF)), psnd (Option.some.inj hF), trivial⟩ Z dX5_made_93
    · rw [if_pos c15] at hF
      refine lv_iconst (v := (1 : Int32)) hx hb dX5_made_15 (by decide) ?_
      refine lv_istore_n (lv' := [(2, .int (1 : Int32)), (0, .ref (am 0)), (1, .int p1)]) hx hb dX5_made_16 rfl hl (by decide) rfl (fun ls hl => ?_)
      exact L17 p1 FU (1 : Int32) ρ _ _ _ hF Z (lv_sub hl [1, 2, 0] rfl)
  · rw [if_neg c14] at hF
    refine lv_iload_n hx hb dX5_made_4 rfl (lv_at hl 1 rfl) ?_
    exact kret p1 ρ _ _ _ _ ⟨(pfst (Option.some.inj hF)), psnd (Option.some.inj hF), trivial⟩ Z dX5_made_5
def X5_turns (ρ : Ms) (p1 p2 p3 p4 : Int32) : Option (Ms) := (X5_puts ρ p1 (3 : Int32) p2).bind fun q1 => (X5_puts q1 p1 (4 : Int32) p3).bind fun q3 => (X5_puts q3 p1 (5 : Int32) p4).bind fun q5 => some q5
def rm_X5_turns : Room := { frames := 1, cells := 0, slots := 0, locals := 23 }
theorem v_X5_turns : WdV RX5 yX5_turns cX5_turns 5 none 4 := ⟨mI_X5_turns, mS_X5_turns, mZ_RX5, mC_X5_turns, by decide +kernel⟩
set_option maxHeartbeats 8000000 in
set_option maxRecDepth 100000 in
theorem c_X5_turns (l : Launch) (D : va_G) (cI cS : ClassId) (am : Nat → Nat) (ρ : Ms) (p1 p2 p3 p4 : Int32) (F : Ms) (hF : X5_turns ρ p1 p2 p3 p4 = some F) : MV l yX5_turns cX5_turns 5 rm_X5_turns D cI cS [.ref (am 0), .int p1, .int p2, .int p3, .int p4] (mW am cI ρ) (mW am cI) (fun u => u = F ∧ True) := by
  refine MV.mk RX5 rfl (by decide) (Nat.le_of_ble_eq_true rfl) ?_
  intro p e s m args below meth c A Q ls Fc hin hA Z kret hl
  obtain ⟨hx, hb, hml, hown, hts, hKN⟩ := id Fc
  replace hl : lv_has ls 5 [(0, .ref (am 0)), (1, .int p1), (2, .int p2), (3, .int p3), (4, .int p4)] := hl
  unfold X5_turns at hF
  refine lv_aload_n hx hb dX5_turns_0 rfl (lv_at hl 0 rfl) ?_
  refine lv_iload_n hx hb dX5_turns_1 rfl (lv_at hl 1 rfl) ?_
  refine lv_iconst (v := (3 : Int32)) hx hb dX5_turns_2 (by decide) ?_
  refine lv_iload_n hx hb dX5_turns_3 rfl (lv_at hl 2 rfl) ?_
  obtain ⟨q1, h2, hF⟩ := obind hF
  refine kv_i (As := [.int p1, .int (3 : Int32), .int p2]) (ok := (fun _ => True)) Fc hA Z Lens.all (c_X5_puts l D cI cS am ρ p1 (3 : Int32) p2 q1 h2) mL_RX5_55 v_X5_puts ⟨rfl, rfl⟩ ⟨Nat.le_of_ble_eq_true rfl, Nat.le_of_ble_eq_true rfl⟩ ⟨Nat.zero_le _, Nat.zero_le _⟩ 0 5 rfl rfl rfl hl (Nat.le_of_ble_eq_true rfl) dX5_turns_4 rfl (fun H locs ok1 Z => ?_)
  refine lv_aload_n hx hb dX5_turns_7 rfl (lv_at hl 0 rfl) ?_
  refine lv_iload_n hx hb dX5_turns_8 rfl (lv_at hl 1 rfl) ?_
  refine lv_iconst (v := (4 : Int32)) hx hb dX5_turns_9 (by decide) ?_
  refine lv_iload_n hx hb dX5_turns_10 rfl (lv_at hl 3 rfl) ?_
  obtain ⟨q3, h4, hF⟩ := obind hF
  refine kv_i (As := [.int p1, .int (4 : Int32), .int p3]) (ok := (fun _ => True)) Fc hA Z Lens.all (c_X5_puts l D cI cS am q1 p1 (4 : Int32) p3 q3 h4) mL_RX5_55 v_X5_puts ⟨rfl, rfl⟩ ⟨Nat.le_of_ble_eq_true rfl, Nat.le_of_ble_eq_true rfl⟩ ⟨Nat.zero_le _, Nat.zero_le _⟩ 0 5 rfl rfl rfl hl (Nat.le_of_ble_eq_true rfl) dX5_turns_11 rfl (fun H locs ok1 Z => ?_)
  refine lv_aload_n hx hb dX5_turns_14 rfl (lv_at hl 0 rfl) ?_
  refine lv_iload_n hx hb dX5_turns_15 rfl (lv_at hl 1 rfl) ?_
  refine lv_iconst (v := (5 : Int32)) hx hb dX5_turns_16 (by decide) ?_
  refine lv_iload hx hb dX5_turns_17 (lv_at hl 4 rfl) ?_
  obtain ⟨q5, h6, hF⟩ := obind hF
  refine kv_i (As := [.int p1, .int (5 : Int32), .int p4]) (ok := (fun _ => True)) Fc hA Z Lens.all (c_X5_puts l D cI cS am q3 p1 (5 : Int32) p4 q5 h6) mL_RX5_55 v_X5_puts ⟨rfl, rfl⟩ ⟨Nat.le_of_ble_eq_true rfl, Nat.le_of_ble_eq_true rfl⟩ ⟨Nat.zero_le _, Nat.zero_le _⟩ 0 5 rfl rfl rfl hl (Nat.le_of_ble_eq_true rfl) dX5_turns_19 rfl (fun H locs ok1 Z => ?_)
  exact kret q5 _ _ _ _ ⟨(Option.some.inj hF), trivial⟩ Z dX5_turns_22
def X5_hold (ρ : Ms) (p1 p2 : Int32) : Option (Int32) := (rdA (ρ.1.1 0) 681 ((((285 : Int32) + ((4 : Int32) * p1)) + p2))).bind fun v1 => some v1
def rm_X5_hold : Room := { frames := 0, cells := 0, slots := 0, locals := 0 }
theorem v_X5_hold : WdV RX5 yX5_hold cX5_hold 3 (some .int) 2 := ⟨mI_X5_hold, mS_X5_hold, mZ_RX5, mC_X5_hold, by decide +kernel⟩
set_option maxHeartbeats 8000000 in
set_option maxRecDepth 100000 in
theorem c_X5_hold (l : Launch) (D : va_G) (cI cS : ClassId) (am : Nat → Nat) (ρ : Ms) (p1 p2 : Int32) (F : Int32) (hF : X5_hold ρ p1 p2 = some F) : MI l yX5_hold cX5_hold 3 (some .int) rm_X5_hold D cI cS [.ref (am 0), .int p1, .int p2] (mW am cI ρ) (mW am cI) (fun r u' => r = F ∧ u' = ρ) := by
  refine MI.mk RX5 rfl .int rfl (by decide) (Nat.le_of_ble_eq_true rfl) (fun _ _ _ => rfl) ?_
  intro p e s m args below meth c A Q ls Fc hin hA Z kret hl
  obtain ⟨hx, hb, hml, hown, hts, hKN⟩ := id Fc
  replace hl : lv_has ls 3 [(0, .ref (am 0)), (1, .int p1), (2, .int p2)] := hl
  unfold X5_hold at hF
  refine lv_aload_n hx hb dX5_hold_0 rfl (lv_at hl 0 rfl) ?_
  refine kget Fc Z inX5 0 rfl rfl 0 (by decide) mF_RX5_11 rfl rfl dX5_hold_1 ?_
  refine lv_sipush (v := (285 : Int32)) hx hb dX5_hold_4 (by decide) ?_
  refine lv_iconst (v := (4 : Int32)) hx hb dX5_hold_7 (by decide) ?_
  refine lv_iload_n hx hb dX5_hold_8 rfl (lv_at hl 1 rfl) ?_
  refine lv_imul hx hb dX5_hold_9 ?_
  refine lv_iadd hx hb dX5_hold_10 ?_
  refine lv_iload_n hx hb dX5_hold_11 rfl (lv_at hl 2 rfl) ?_
  refine lv_iadd hx hb dX5_hold_12 ?_
  obtain ⟨v1, h2, hF⟩ := obind hF
  refine kald Fc Z 1 rfl h2 dX5_hold_13 ?_
  exact kret v1 ρ _ _ _ _ ⟨(Option.some.inj hF), rfl⟩ Z dX5_hold_14
def X5_assigns (ρ : Ms) (p1 p2 p3 : Int32) : Option (Ms) := (wrA (ρ.1.1 0) 681 ((((285 : Int32) + ((4 : Int32) * p3)) + (3 : Int32))) p1).bind fun g1 => bnd (msA ρ 0 g1) fun ρ3 => (X5_hold ρ3 p3 (2 : Int32)).bind fun v5 => if v5 = p2 then ((rdA (ρ3.1.1 0) 681 (0 : Int32)).bind fun v12 => (rdA (ρ3.1.1 0) 681 (10 : Int32)).bind fun v14 => (X5_turns ρ3 p1 (3 : Int32) v5 (v12 + v14)).bind fun q16 => some q16) else (rdA (ρ3.1.1 0) 681 (0 : Int32)).bind fun v8 => (X5_turns ρ3 p1 (2 : Int32) v5 ((v8 + (jab (v5 - p2))))).bind fun q10 => some q10
def rm_X5_assigns : Room := { frames := 2, cells := 0, slots := 0, locals := 47 }
theorem v_X5_assigns : WdV RX5 yX5_assigns cX5_assigns 5 none 3 := ⟨mI_X5_assigns, mS_X5_assigns, mZ_RX5, mC_X5_assigns, by decide +kernel⟩
set_option maxHeartbeats 8000000 in
set_option maxRecDepth 100000 in
theorem c_X5_assigns (l : Launch) (D : va_G) (cI cS : ClassId) (am : Nat → Nat) (ρ : Ms) (p1 p2 p3 : Int32) (F : Ms) (hF : X5_assigns ρ p1 p2 p3 = some F) : MV l yX5_assigns cX5_assigns 5 rm_X5_assigns D cI cS [.ref (am 0), .int p1, .int p2, .int p3] (mW am cI ρ) (mW am cI) (fun u => u = F ∧ True) := by
  refine MV.mk RX5 rfl (by decide) (Nat.le_of_ble_eq_true rfl) ?_
  intro p e s m args below meth c A Q ls Fc hin hA Z kret hl
  obtain ⟨hx, hb, hml, hown, hts, hKN⟩ := id Fc
  replace hl : lv_has ls 5 [(0, .ref (am 0)), (1, .int p1), (2, .int p2), (3, .int p3)] := hl
  unfold X5_assigns at hF
  refine lv_aload_n hx hb dX5_assigns_0 rfl (lv_at hl 0 rfl) ?_
  refine kget Fc Z inX5 0 rfl rfl 0 (by decide) mF_RX5_11 rfl rfl dX5_assigns_1 ?_
  refine lv_sipush (v := (285 : Int32)) hx hb dX5_assigns_4 (by decide) ?_
  refine lv_iconst (v := (4 : Int32)) hx hb dX5_assigns_7 (by decide) ?_
  refine lv_iload_n hx hb dX5_assigns_8 rfl (lv_at hl 3 rfl) ?_
  refine lv_imul hx hb dX5_assigns_9 ?_
  refine lv_iadd hx hb dX5_assigns_10 ?_
  refine lv_iconst (v := (3 : Int32)) hx hb dX5_assigns_11 (by decide) ?_
  refine lv_iadd hx hb dX5_assigns_12 ?_
  refine lv_iload_n hx hb dX5_assigns_13 rfl (lv_at hl 1 rfl) ?_
  obtain ⟨g1, h2, hF⟩ := obind hF
  obtain ⟨ρ3, e4, hF⟩ := bnd_el hF
  refine kast (w' := mW am cI ρ3) Fc Z 1 rfl h2 (by rw [e4]; rfl) dX5_assigns_14 (fun H locs Z => ?_)
  refine lv_aload_n hx hb dX5_assigns_15 rfl (lv_at hl 0 rfl) ?_
  refine lv_iload_n hx hb dX5_assigns_16 rfl (lv_at hl 3 rfl) ?_
  refine lv_iconst (v := (2 : Int32)) hx hb dX5_assigns_17 (by decide) ?_
  obtain ⟨v5, h6, hF⟩ := obind hF
  refine kr_i (As := [.int p3, .int (2 : Int32)]) Fc hA Z Lens.all (c_X5_hold l D cI cS am ρ3 p3 (2 : Int32) v5 h6) mL_RX5_59 v_X5_hold ⟨rfl, rfl⟩ ⟨Nat.le_of_ble_eq_true rfl, Nat.le_of_ble_eq_true rfl⟩ ⟨Nat.zero_le _, Nat.zero_le _⟩ 0 5 rfl rfl rfl hl (Nat.le_of_ble_eq_true rfl) dX5_assigns_18 rfl (fun H locs Z => ?_)
  refine lv_istore (lv' := [(4, .int v5), (0, .ref (am 0)), (1, .int p1), (2, .int p2), (3, .int p3)]) hx hb dX5_assigns_21 hl (by decide) rfl (fun ls hl => ?_)
  refine lv_iload hx hb dX5_assigns_23 (lv_at hl 0 rfl) ?_
  refine lv_iload_n hx hb dX5_assigns_25 rfl (lv_at hl 3 rfl) ?_
  refine lv_icmp_ne (tgt := 54) hx hb dX5_assigns_26 (by decide) (fun c7 => ?_) (fun c7 => ?_)
  · rw [if_neg c7] at hF
    refine lv_aload_n hx hb dX5_assigns_54 rfl (lv_at hl 1 rfl) ?_
    refine lv_iload_n hx hb dX5_assigns_55 rfl (lv_at hl 2 rfl) ?_
    refine lv_iconst (v := (2 : Int32)) hx hb dX5_assigns_56 (by decide) ?_
    refine lv_iload hx hb dX5_assigns_57 (lv_at hl 0 rfl) ?_
    refine lv_aload_n hx hb dX5_assigns_59 rfl (lv_at hl 1 rfl) ?_
    refine kget Fc Z inX5 0 rfl rfl 0 (by decide) mF_RX5_11 rfl rfl dX5_assigns_60 ?_
    refine lv_iconst (v := (0 : Int32)) hx hb dX5_assigns_63 (by decide) ?_
    obtain ⟨v8, h9, hF⟩ := obind hF
    refine kald Fc Z 1 rfl h9 dX5_assigns_64 ?_
    refine lv_iload hx hb dX5_assigns_65 (lv_at hl 0 rfl) ?_
    refine lv_iload_n hx hb dX5_assigns_67 rfl (lv_at hl 3 rfl) ?_
    refine lv_isub hx hb dX5_assigns_68 ?_
    refine kabs Fc hl mL_RX5_67 (Nat.le_of_ble_eq_true rfl) (Nat.le_of_ble_eq_true rfl) ⟨Nat.zero_le _, Nat.zero_le _⟩ dX5_assigns_69 ?_
    refine lv_iadd hx hb dX5_assigns_72 ?_
    obtain ⟨q10, h11, hF⟩ := obind hF
    refine kv_i (As := [.int p1, .int (2 : Int32), .int v5, .int ((v8 + (jab (v5 - p2))))]) (ok := (fun _ => True)) Fc hA Z Lens.all (c_X5_turns l D cI cS am ρ3 p1 (2 : Int32) v5 ((v8 + (jab (v5 - p2)))) q10 h11) mL_RX5_63 v_X5_turns ⟨rfl, rfl⟩ ⟨Nat.le_of_ble_eq_true rfl, Nat.le_of_ble_eq_true rfl⟩ ⟨Nat.zero_le _, Nat.zero_le _⟩ 0 5 rfl rfl rfl hl (Nat.le_of_ble_eq_true rfl) dX5_assigns_73 rfl (fun H locs ok1 Z => ?_)
    exact kret q10 _ _ _ _ ⟨(Option.some.inj hF), trivial⟩ Z dX5_assigns_76
  · rw [if_pos c7] at hF
    refine lv_aload_n hx hb dX5_assigns_29 rfl (lv_at hl 1 rfl) ?_
    refine lv_iload_n hx hb dX5_assigns_30 rfl (lv_at hl 2 rfl) ?_
    refine lv_iconst (v := (3 : Int32)) hx hb dX5_assigns_31 (by decide) ?_
    refine lv_iload hx hb dX5_assigns_32 (lv_at hl 0 rfl) ?_
    refine lv_aload_n hx hb dX5_assigns_34 rfl (lv_at hl 1 rfl) ?_
    refine kget Fc Z inX5 0 rfl rfl 0 (by decide) mF_RX5_11 rfl rfl dX5_assigns_35 ?_
    refine lv_iconst (v := (0 : Int32)) hx hb dX5_assigns_38 (by decide) ?_
    obtain ⟨v12, h13, hF⟩ := obind hF
    refine kald Fc Z 1 rfl h13 dX5_assigns_39 ?_
    refine lv_aload_n hx hb dX5_assigns_40 rfl (lv_at hl 1 rfl) ?_
    refine kget Fc Z inX5 0 rfl rfl 0 (by decide) mF_RX5_11 rfl rfl dX5_assigns_41 ?_
    refine lv_bipush (v := (10 : Int32)) hx hb dX5_assigns_44 (by decide) ?_
    obtain ⟨v14, h15, hF⟩ := obind hF
    refine kald Fc Z 1 rfl h15 dX5_assigns_46 ?_
    refine lv_iadd hx hb dX5_assigns_47 ?_
    obtain ⟨q16, h17, hF⟩ := obind hF
    refine kv_i (As := [.int p1, .int (3 : Int32), .int v5, .int (v12 + v14)]) (ok := (fun _ => True)) Fc hA Z Lens.all (c_X5_turns l D cI cS am ρ3 p1 (3 : Int32) v5 (v12 + v14) q16 h17) mL_RX5_63 v_X5_turns ⟨rfl, rfl⟩ ⟨Nat.le_of_ble_eq_true rfl, Nat.le_of_ble_eq_true rfl⟩ ⟨Nat.zero_le _, Nat.zero_le _⟩ 0 5 rfl rfl rfl hl (Nat.le_of_ble_eq_true rfl) dX5_assigns_48 rfl (fun H locs ok1 Z => ?_)
    refine lv_goto (tgt := 76) hx hb dX5_assigns_51 (by decide) ?_
    exact kret q16 _ _ _ _ ⟨(Option.some.inj hF), trivial⟩ Z dX5_assigns_76
def X5_firstWaiting_L2 (ρ : Ms) (x1 : Int32) : Nat → Int32 → Option (Int32)
  | 0, _ => none
  | k + 1, x2 => (rdA (ρ.1.1 0) 681 (3 : Int32)).bind fun v1 => if v1 ≤ x2 then (some (-2 : Int32)) else (X5_hold ρ x2 (0 : Int32)).bind fun v4 => if v4 = x1 then ((X5_hold ρ x2 (3 : Int32)).bind fun v7 => if v7 = (-2 : Int32) then (some x2) else X5_firstWaiting_L2 ρ x1 k ((x2 + (1 : Int32)))) else X5_firstWaiting_L2 ρ x1 k ((x2 + (1 : Int32)))
def X5_firstWaiting (ρ : Ms) (p1 : Int32) : Option (Int32) := X5_firstWaiting_L2 ρ p1 FU (0 : Int32)
def rm_X5_firstWaiting : Room := { frames := 1, cells := 0, slots := 0, locals := 22 }
theorem v_X5_firstWaiting : WdV RX5 yX5_firstWaiting cX5_firstWaiting 3 (some .int) 1 := ⟨mI_X5_firstWaiting, mS_X5_firstWaiting, mZ_RX5, mC_X5_firstWaiting, by decide +kernel⟩
set_option maxHeartbeats 8000000 in
set_option maxRecDepth 100000 in
theorem c_X5_firstWaiting (l : Launch) (D : va_G) (cI cS : ClassId) (am : Nat → Nat) (ρ : Ms) (p1 : Int32) (F : Int32) (hF : X5_firstWaiting ρ p1 = some F) : MI l yX5_firstWaiting cX5_firstWaiting 3 (some .int) rm_X5_firstWaiting D cI cS [.ref (am 0), .int p1] (mW am cI ρ) (mW am cI) (fun r u' => r = F ∧ u' = ρ) := by
  refine MI.mk RX5 rfl .int rfl (by decide) (Nat.le_of_ble_eq_true rfl) (fun _ _ _ => rfl) ?_
  intro p e s m args below meth c A Q ls Fc hin hA Z kret hl
  obtain ⟨hx, hb, hml, hown, hts, hKN⟩ := id Fc
  replace hl : lv_has ls 3 [(0, .ref (am 0)), (1, .int p1)] := hl
  have L2 : ∀ (x1 : Int32) (k : Nat) (x2 : Int32) (H : Heap) (locs : List Loc) (ls : Array Slot), X5_firstWaiting_L2 ρ x1  k x2 = some F → Ix D A s (mW am cI ρ) H locs → lv_has ls 3 [(0, .ref (am 0)), (1, .int x1), (2, .int x2)] → W p l e rm_X5_firstWaiting s m args below meth c H locs 0 0 Q (F0 m 2 ls []) := by
    intro x1 k
    induction k with
    | zero => intro x2 H locs ls hF; rw [X5_firstWaiting_L2] at hF; cases hF
    | succ k ih =>
      intro x2 H locs ls hF Z hl
      rw [X5_firstWaiting_L2] at hF
      refine lv_iload_n hx hb dX5_firstWaiting_2 rfl (lv_at hl 2 rfl) ?_
      refine lv_aload_n hx hb dX5_firstWaiting_3 rfl (lv_at hl 0 rfl) ?_
      refine kget Fc Z inX5 0 rfl rfl 0 (by decide) mF_RX5_11 rfl rfl dX5_firstWaiting_4 ?_
      refine lv_iconst (v := (3 : Int32)) hx hb dX5_firstWaiting_7 (by decide) ?_
      obtain ⟨v1, h2, hF⟩ := obind hF
      refine kald Fc Z 1 rfl h2 dX5_firstWaiting_8 ?_
      refine lv_icmp_ge (tgt := 41) hx hb dX5_firstWaiting_9 (by decide) (fun c3 => ?_) (fun c3 => ?_)
      · rw [if_pos c3] at hF
        refine lv_bipush (v := (-2 : Int32)) hx hb dX5_firstWaiting_41 (by decide) ?_
        exact kret (-2 : Int32) ρ _ _ _ _ ⟨(Option.some.inj hF), rfl⟩ Z dX5_firstWaiting_43
      · rw [if_neg c3] at hF
        refine lv_aload_n hx hb dX5_firstWaiting_12 rfl (lv_at hl 0 rfl) ?_
        refine lv_iload_n hx hb dX5_firstWaiting_13 rfl (lv_at hl 2 rfl) ?_
        refine lv_iconst (v := (0 : Int32)) hx hb dX5_firstWaiting_14 (by decide) ?_
        obtain ⟨v4, h5, hF⟩ := obind hF
        refine kr_i (As := [.int x2, .int (0 : Int32)]) Fc hA Z Lens.all (c_X5_hold l D cI cS am ρ x2 (0 : Int32) v4 h5) mL_RX5_59 v_X5_hold ⟨rfl, rfl⟩ ⟨Nat.le_of_ble_eq_true rfl, Nat.le_of_ble_eq_true rfl⟩ ⟨Nat.zero_le _, Nat.zero_le _⟩ 0 5 rfl rfl rfl hl (Nat.le_of_ble_eq_true rfl) dX5_firstWaiting_15 rfl (fun H locs Z => ?_)
        refine lv_iload_n hx hb dX5_firstWaiting_18 rfl (lv_at hl 1 rfl) ?_
        refine lv_icmp_ne (tgt := 35) hx hb dX5_firstWaiting_19 (by decide) (fun c6 => ?_) (fun c6 => ?_)
        · rw [if_neg c6] at hF
          refine lv_iinc (v := (x2 + (1 : Int32))) (lv' := [(2, .int (x2 + (1 : Int32))), (0, .ref (am 0)), (1, .int x1)]) hx hb dX5_firstWaiting_35 hl (k := 2) rfl (by rfl) (by decide) rfl (fun ls hl => ?_)
          refine lv_goto (tgt := 2) hx hb dX5_firstWaiting_38 (by decide) ?_
          exact ih ((x2 + (1 : Int32))) _ _ _ hF Z (lv_sub hl [1, 2, 0] rfl)
        · rw [if_pos c6] at hF
          refine lv_aload_n hx hb dX5_firstWaiting_22 rfl (lv_at hl 0 rfl) ?_
          refine lv_iload_n hx hb dX5_firstWaiting_23 rfl (lv_at hl 2 rfl) ?_
          refine lv_iconst (v := (3 : Int32)) hx hb dX5_firstWaiting_24 (by decide) ?_
          obtain ⟨v7, h8, hF⟩ := obind hF
          refine kr_i (As := [.int x2, .int (3 : Int32)]) Fc hA Z Lens.all (c_X5_hold l D cI cS am ρ x2 (3 : Int32) v7 h8) mL_RX5_59 v_X5_hold ⟨rfl, rfl⟩ ⟨Nat.le_of_ble_eq_true rfl, Nat.le_of_ble_eq_true rfl⟩ ⟨Nat.zero_le _, Nat.zero_le _⟩ 0 5 rfl rfl rfl hl (Nat.le_of_ble_eq_true rfl) dX5_firstWaiting_25 rfl (fun H locs Z => ?_)
          refine lv_bipush (v := (-2 : Int32)) hx hb dX5_firstWaiting_28 (by decide) ?_
          refine lv_icmp_ne (tgt := 35) hx hb dX5_firstWaiting_30 (by decide) (fun c9 => ?_) (fun c9 => ?_)
          · rw [if_neg c9] at hF
            refine lv_iinc (v := (x2 + (1 : Int32))) (lv' := [(2, .int (x2 + (1 : Int32))), (0, .ref (am 0)), (1, .int x1)]) hx hb dX5_firstWaiting_35 hl (k := 2) rfl (by rfl) (by decide) rfl (fun ls hl => ?_)
            refine lv_goto (tgt := 2) hx hb dX5_firstWaiting_38 (by decide) ?_
            exact ih ((x2 + (1 : Int32))) _ _ _ hF Z (lv_sub hl [1, 2, 0] rfl)
          · rw [if_pos c9] at hF
            refine lv_iload_n hx hb dX5_firstWaiting_33 rfl (lv_at hl 2 rfl) ?_
            exact kret x2 ρ _ _ _ _ ⟨(Option.some.inj hF), rfl⟩ Z dX5_firstWaiting_34
  unfold X5_firstWaiting at hF
  refine lv_iconst (v := (0 : Int32)) hx hb dX5_firstWaiting_0 (by decide) ?_
  refine lv_istore_n (lv' := [(2, .int (0 : Int32)), (0, .ref (am 0)), (1, .int p1)]) hx hb dX5_firstWaiting_1 rfl hl (by decide) rfl (fun ls hl => ?_)
  exact L2 p1 FU (0 : Int32) _ _ _ hF Z (lv_sub hl [1, 2, 0] rfl)
def X5_frees (ρ : Ms) (p1 p2 : Int32) : Option (Ms) := (X5_of ρ p1 (0 : Int32)).bind fun v1 => (X5_firstWaiting ρ v1).bind fun v3 => (X5_of ρ p1 (1 : Int32)).bind fun v5 => if v3 < 0 then ((X5_of ρ p1 (2 : Int32)).bind fun v8 => if v8 = (1 : Int32) then ((X5_turns ρ p1 (0 : Int32) p2 (0 : Int32)).bind fun q11 => some q11) else if v5 = p2 then ((X5_turns ρ p1 (0 : Int32) p2 (0 : Int32)).bind fun q18 => some q18) else (rdA (ρ.1.1 0) 681 (0 : Int32)).bind fun v14 => (X5_turns ρ p1 (2 : Int32) v5 ((v14 + (jab (v5 - p2))))).bind fun q16 => some q16) else (X5_assigns ρ p1 p2 v3).bind fun q20 => some q20
def rm_X5_frees : Room := { frames := 3, cells := 0, slots := 0, locals := 71 }
theorem v_X5_frees : WdV RX5 yX5_frees cX5_frees 5 none 2 := ⟨mI_X5_frees, mS_X5_frees, mZ_RX5, mC_X5_frees, by decide +kernel⟩
set_option maxHeartbeats 8000000 in
set_option maxRecDepth 100000 in
theorem c_X5_frees (l : Launch) (D : va_G) (cI cS : ClassId) (am : Nat → Nat) (ρ : Ms) (p1 p2 : Int32) (F : Ms) (hF : X5_frees ρ p1 p2 = some F) : MV l yX5_frees cX5_frees 5 rm_X5_frees D cI cS [.ref (am 0), .int p1, .int p2] (mW am cI ρ) (mW am cI) (fun u => u = F ∧ True) := by
  refine MV.mk RX5 rfl (by decide) (Nat.le_of_ble_eq_true rfl) ?_
  intro p e s m args below meth c A Q ls Fc hin hA Z kret hl
  obtain ⟨hx, hb, hml, hown, hts, hKN⟩ := id Fc
  replace hl : lv_has ls 5 [(0, .ref (am 0)), (1, .int p1), (2, .int p2)] := hl
  unfold X5_frees at hF
  refine lv_aload_n hx hb dX5_frees_0 rfl (lv_at hl 0 rfl) ?_
  refine lv_aload_n hx hb dX5_frees_1 rfl (lv_at hl 0 rfl) ?_
  refine lv_iload_n hx hb dX5_frees_2 rfl (lv_at hl 1 rfl) ?_
  refine lv_iconst (v := (0 : Int32)) hx hb dX5_frees_3 (by decide) ?_
  obtain ⟨v1, h2, hF⟩ := obind hF
  refine kr_i (As := [.int p1, .int (0 : Int32)]) Fc hA Z Lens.all (c_X5_of l D cI cS am ρ p1 (0 : Int32) v1 h2) mL_RX5_73 v_X5_of ⟨rfl, rfl⟩ ⟨Nat.le_of_ble_eq_true rfl, Nat.le_of_ble_eq_true rfl⟩ ⟨Nat.zero_le _, Nat.zero_le _⟩ 0 5 rfl rfl rfl hl (Nat.le_of_ble_eq_true rfl) dX5_frees_4 rfl (fun H locs Z => ?_)
  obtain ⟨v3, h4, hF⟩ := obind hF
  refine kr_i (As := [.int v1]) Fc hA Z Lens.all (c_X5_firstWaiting l D cI cS am ρ v1 v3 h4) mL_RX5_76 v_X5_firstWaiting ⟨rfl, rfl⟩ ⟨Nat.le_of_ble_eq_true rfl, Nat.le_of_ble_eq_true rfl⟩ ⟨Nat.zero_le _, Nat.zero_le _⟩ 0 5 rfl rfl rfl hl (Nat.le_of_ble_eq_true rfl) dX5_frees_7 rfl (fun H locs Z => ?_)
  refine lv_istore_n (lv' := [(3, .int v3), (0, .ref (am 0)), (1, .int p1), (2, .int p2)]) hx hb dX5_frees_10 rfl hl (by decide) rfl (fun ls hl => ?_)
  refine lv_aload_n hx hb dX5_frees_11 rfl (lv_at hl 1 rfl) ?_
  refine lv_iload_n hx hb dX5_frees_12 rfl (lv_at hl 2 rfl) ?_
  refine lv_iconst (v := (1 : Int32)) hx hb dX5_frees_13 (by decide) ?_
  obtain ⟨v5, h6, hF⟩ := obind hF
  refine kr_i (As := [.int p1, .int (1 : Int32)]) Fc hA Z Lens.all (c_X5_of l D cI cS am ρ p1 (1 : Int32) v5 h6) mL_RX5_73 v_X5_of ⟨rfl, rfl⟩ ⟨Nat.le_of_ble_eq_true rfl, Nat.le_of_ble_eq_true rfl⟩ ⟨Nat.zero_le _, Nat.zero_le _⟩ 0 5 rfl rfl rfl hl (Nat.le_of_ble_eq_true rfl) dX5_frees_14 rfl (fun H locs Z => ?_)
  refine lv_istore (lv' := [(4, .int v5), (3, .int v3), (0, .ref (am 0)), (1, .int p1), (2, .int p2)]) hx hb dX5_frees_17 hl (by decide) rfl (fun ls hl => ?_)
  refine lv_iload_n hx hb dX5_frees_19 rfl (lv_at hl 1 rfl) ?_
  refine lv_if_lt (tgt := 33) hx hb dX5_frees_20 (by decide) (fun c7 => ?_) (fun c7 => ?_)
  · rw [if_pos c7] at hF
    refine lv_aload_n hx hb dX5_frees_33 rfl (lv_at hl 2 rfl) ?_
    refine lv_iload_n hx hb dX5_frees_34 rfl (lv_at hl 3 rfl) ?_
    refine lv_iconst (v := (2 : Int32)) hx hb dX5_frees_35 (by decide) ?_
    obtain ⟨v8, h9, hF⟩ := obind hF
    refine kr_i (As := [.int p1, .int (2 : Int32)]) Fc hA Z Lens.all (c_X5_of l D cI cS am ρ p1 (2 : Int32) v8 h9) mL_RX5_73 v_X5_of ⟨rfl, rfl⟩ ⟨Nat.le_of_ble_eq_true rfl, Nat.le_of_ble_eq_true rfl⟩ ⟨Nat.zero_le _, Nat.zero_le _⟩ 0 5 rfl rfl rfl hl (Nat.le_of_ble_eq_true rfl) dX5_frees_36 rfl (fun H locs Z => ?_)
    refine lv_iconst (v := (1 : Int32)) hx hb dX5_frees_39 (by decide) ?_
    refine lv_icmp_eq (tgt := 49) hx hb dX5_frees_40 (by decide) (fun c10 => ?_) (fun c10 => ?_)
    · rw [if_pos c10] at hF
      refine lv_aload_n hx hb dX5_frees_49 rfl (lv_at hl 2 rfl) ?_
      refine lv_iload_n hx hb dX5_frees_50 rfl (lv_at hl 3 rfl) ?_
      refine lv_iconst (v := (0 : Int32)) hx hb dX5_frees_51 (by decide) ?_
      refine lv_iload_n hx hb dX5_frees_52 rfl (lv_at hl 4 rfl) ?_
      refine lv_iconst (v := (0 : Int32)) hx hb dX5_frees_53 (by decide) ?_
      obtain ⟨q11, h12, hF⟩ := obind hF
      refine kv_i (As := [.int p1, .int (0 : Int32), .int p2, .int (0 : Int32)]) (ok := (fun _ => True)) Fc hA Z Lens.all (c_X5_turns l D cI cS am ρ p1 (0 : Int32) p2 (0 : Int32) q11 h12) mL_RX5_63 v_X5_turns ⟨rfl, rfl⟩ ⟨Nat.le_of_ble_eq_true rfl, Nat.le_of_ble_eq_true rfl⟩ ⟨Nat.zero_le _, Nat.zero_le _⟩ 0 5 rfl rfl rfl hl (Nat.le_of_ble_eq_true rfl) dX5_frees_54 rfl (fun H locs ok1 Z => ?_)
      refine lv_goto (tgt := 82) hx hb dX5_frees_57 (by decide) ?_
      exact kret q11 _ _ _ _ ⟨(Option.some.inj hF), trivial⟩ Z dX5_frees_82
    · rw [if_neg c10] at hF
      refine lv_iload hx hb dX5_frees_43 (lv_at hl 0 rfl) ?_
      refine lv_iload_n hx hb dX5_frees_45 rfl (lv_at hl 4 rfl) ?_
      refine lv_icmp_ne (tgt := 60) hx hb dX5_frees_46 (by decide) (fun c13 => ?_) (fun c13 => ?_)
      · rw [if_neg c13] at hF
        refine lv_aload_n hx hb dX5_frees_60 rfl (lv_at hl 2 rfl) ?_
        refine lv_iload_n hx hb dX5_frees_61 rfl (lv_at hl 3 rfl) ?_
        refine lv_iconst (v := (2 : Int32)) hx hb dX5_frees_62 (by decide) ?_
        refine lv_iload hx hb dX5_frees_63 (lv_at hl 0 rfl) ?_
        refine lv_aload_n hx hb dX5_frees_65 rfl (lv_at hl 2 rfl) ?_
        refine kget Fc Z inX5 0 rfl rfl 0 (by decide) mF_RX5_11 rfl rfl dX5_frees_66 ?_
        refine lv_iconst (v := (0 : Int32)) hx hb dX5_frees_69 (by decide) ?_
        obtain ⟨v14, h15, hF⟩ := obind hF
        refine kald Fc Z 1 rfl h15 dX5_frees_70 ?_
        refine lv_iload hx hb dX5_frees_71 (lv_at hl 0 rfl) ?_
        refine lv_iload_n hx hb dX5_frees_73 rfl (lv_at hl 4 rfl) ?_
        refine lv_isub hx hb dX5_frees_74 ?_
        refine kabs Fc hl mL_RX5_67 (Nat.le_of_ble_eq_true rfl) (Nat.le_of_ble_eq_true rfl) ⟨Nat.zero_le _, Nat.zero_le _⟩ dX5_frees_75 ?_
        refine lv_iadd hx hb dX5_frees_78 ?_
        obtain ⟨q16, h17, hF⟩ := obind hF
        refine kv_i (As := [.int p1, .int (2 : Int32), .int v5, .int ((v14 + (jab (v5 - p2))))]) (ok := (fun _ => True)) Fc hA Z Lens.all (c_X5_turns l D cI cS am ρ p1 (2 : Int32) v5 ((v14 + (jab (v5 - p2)))) q16 h17) mL_RX5_63 v_X5_turns ⟨rfl, rfl⟩ ⟨Nat.le_of_ble_eq_true rfl, Nat.le_of_ble_eq_true rfl⟩ ⟨Nat.zero_le _, Nat.zero_le _⟩ 0 5 rfl rfl rfl hl (Nat.le_of_ble_eq_true rfl) dX5_frees_79 rfl (fun H locs ok1 Z => ?_)
        exact kret q16 _ _ _ _ ⟨(Option.some.inj hF), trivial⟩ Z dX5_frees_82
      · rw [if_pos c13] at hF
        refine lv_aload_n hx hb dX5_frees_49 rfl (lv_at hl 2 rfl) ?_
        refine lv_iload_n hx hb dX5_frees_50 rfl (lv_at hl 3 rfl) ?_
        refine lv_iconst (v := (0 : Int32)) hx hb dX5_frees_51 (by decide) ?_
        refine lv_iload_n hx hb dX5_frees_52 rfl (lv_at hl 4 rfl) ?_
        refine lv_iconst (v := (0 : Int32)) hx hb dX5_frees_53 (by decide) ?_
        obtain ⟨q18, h19, hF⟩ := obind hF
        refine kv_i (As := [.int p1, .int (0 : Int32), .int p2, .int (0 : Int32)]) (ok := (fun _ => True)) Fc hA Z Lens.all (c_X5_turns l D cI cS am ρ p1 (0 : Int32) p2 (0 : Int32) q18 h19) mL_RX5_63 v_X5_turns ⟨rfl, rfl⟩ ⟨Nat.le_of_ble_eq_true rfl, Nat.le_of_ble_eq_true rfl⟩ ⟨Nat.zero_le _, Nat.zero_le _⟩ 0 5 rfl rfl rfl hl (Nat.le_of_ble_eq_true rfl) dX5_frees_54 rfl (fun H locs ok1 Z => ?_)
        refine lv_goto (tgt := 82) hx hb dX5_frees_57 (by decide) ?_
        exact kret q18 _ _ _ _ ⟨(Option.some.inj hF), trivial⟩ Z dX5_frees_82
  · rw [if_neg c7] at hF
    refine lv_aload_n hx hb dX5_frees_23 rfl (lv_at hl 2 rfl) ?_
    refine lv_iload_n hx hb dX5_frees_24 rfl (lv_at hl 3 rfl) ?_
    refine lv_iload_n hx hb dX5_frees_25 rfl (lv_at hl 4 rfl) ?_
    refine lv_iload_n hx hb dX5_frees_26 rfl (lv_at hl 1 rfl) ?_
    obtain ⟨q20, h21, hF⟩ := obind hF
    refine kv_i (As := [.int p1, .int p2, .int v3]) (ok := (fun _ => True)) Fc hA Z Lens.all (c_X5_assigns l D cI cS am ρ p1 p2 v3 q20 h21) mL_RX5_79 v_X5_assigns ⟨rfl, rfl⟩ ⟨Nat.le_of_ble_eq_true rfl, Nat.le_of_ble_eq_true rfl⟩ ⟨Nat.zero_le _, Nat.zero_le _⟩ 0 5 rfl rfl rfl hl (Nat.le_of_ble_eq_true rfl) dX5_frees_27 rfl (fun H locs ok1 Z => ?_)
    refine lv_goto (tgt := 82) hx hb dX5_frees_30 (by decide) ?_
    exact kret q20 _ _ _ _ ⟨(Option.some.inj hF), trivial⟩ Z dX5_frees_82
def X5_keeps (ρ : Ms) : Option (Ms) := (X5_copies2 681 681 (ρ.1.1 0) (ρ.1.1 1) (0 : Int32) (0 : Int32)).bind fun g1 => bnd (msA ρ 1 g1) fun ρ3 => some ρ3
def rm_X5_keeps : Room := { frames := 1, cells := 0, slots := 0, locals := 24 }
theorem v_X5_keeps : WdV RX5 yX5_keeps cX5_keeps 1 none 0 := ⟨mI_X5_keeps, mS_X5_keeps, mZ_RX5, mC_X5_keeps, by decide +kernel⟩
set_option maxHeartbeats 8000000 in
set_option maxRecDepth 100000 in
theorem c_X5_keeps (l : Launch) (D : va_G) (cI cS : ClassId) (am : Nat → Nat) (ρ : Ms) (F : Ms) (hF : X5_keeps ρ = some F) : MV l yX5_keeps cX5_keeps 1 rm_X5_keeps D cI cS [.ref (am 0)] (mW am cI ρ) (mW am cI) (fun u => u = F ∧ True) := by
  refine MV.mk RX5 rfl (by decide) (Nat.le_of_ble_eq_true rfl) ?_
  intro p e s m args below meth c A Q ls Fc hin hA Z kret hl
  obtain ⟨hx, hb, hml, hown, hts, hKN⟩ := id Fc
  replace hl : lv_has ls 1 [(0, .ref (am 0))] := hl
  unfold X5_keeps at hF
  refine lv_aload_n hx hb dX5_keeps_0 rfl (lv_at hl 0 rfl) ?_
  refine kget Fc Z inX5 0 rfl rfl 0 (by decide) mF_RX5_11 rfl rfl dX5_keeps_1 ?_
  refine lv_iconst (v := (0 : Int32)) hx hb dX5_keeps_4 (by decide) ?_
  refine lv_aload_n hx hb dX5_keeps_5 rfl (lv_at hl 0 rfl) ?_
  refine kget Fc Z inX5 0 rfl rfl 1 (by decide) mF_RX5_15 rfl rfl dX5_keeps_6 ?_
  refine lv_iconst (v := (0 : Int32)) hx hb dX5_keeps_9 (by decide) ?_
  obtain ⟨g1, h2, hF⟩ := obind hF
  obtain ⟨ρ3, e4, hF⟩ := bnd_el hF
  refine ksv_i (As := [.ref (am 1), .int (0 : Int32), .ref (am 2), .int (0 : Int32)]) Fc hA Z (Lens.m2_0_1) (c_X5_copies2 l D cI cS (am 1) (am 2) 681 681 (ρ.1.1 0) (ρ.1.1 1) (0 : Int32) (0 : Int32) g1 h2) mL_RX5_47 v_X5_copies ⟨rfl, rfl⟩ ⟨Nat.le_of_ble_eq_true rfl, Nat.le_of_ble_eq_true rfl⟩ ⟨Nat.zero_le _, Nat.zero_le _⟩ rfl hl (Nat.le_of_ble_eq_true rfl) dX5_keeps_10 rfl (fun H locs Z => ?_)
  have Z : Ix D A s (mW am cI ρ3) H locs := by rw [e4]; exact Z
  exact kret ρ3 _ _ _ _ ⟨(Option.some.inj hF), trivial⟩ Z dX5_keeps_13
def X5_addCopy_L44 (x1 : Int32) (x2 : Int32) (x3 : Int32) : Nat → Int32 → Ms → Option (Int32 × Ms)
  | 0, _, _ => none
  | k + 1, x4, ρ => if (12 : Int32) ≤ x4 then ((X5_puts ρ x3 (0 : Int32) x1).bind fun q2 => (X5_puts q2 x3 (1 : Int32) x2).bind fun q4 => (rdA (q4.1.1 0) 681 (1 : Int32)).bind fun v6 => (wrA (q4.1.1 0) 681 (1 : Int32) ((v6 + (1 : Int32)))).bind fun g8 => bnd (msA q4 0 g8) fun ρ10 => (X5_frees ρ10 x3 x2).bind fun q12 => (X5_made q12 x3).bind fun q14 => some (q14.1, q14.2)) else (X5_puts ρ x3 x4 (0 : Int32)).bind fun q16 => X5_addCopy_L44 x1 x2 x3 k ((x4 + (1 : Int32))) q16
def X5_addCopy (ρ : Ms) (p1 p2 : Int32) : Option (Int32 × Ms) := if (bi (X5_isTitle p1)) = 0 then (some (((-1 : Int32), ρ))) else if (bi (X5_isBranch p2)) = 0 then (some (((-1 : Int32), ρ))) else (rdA (ρ.1.1 0) 681 (1 : Int32)).bind fun v20 => if v20 = (20 : Int32) then (some (((-3 : Int32), ρ))) else (X5_keeps ρ).bind fun q23 => (rdA (q23.1.1 0) 681 (1 : Int32)).bind fun v25 => X5_addCopy_L44 p1 p2 v25 FU (0 : Int32) q23
def rm_X5_addCopy : Room := { frames := 4, cells := 0, slots := 0, locals := 95 }
theorem v_X5_addCopy : WdV RX5 yX5_addCopy cX5_addCopy 5 (some .int) 2 := ⟨mI_X5_addCopy, mS_X5_addCopy, mZ_RX5, mC_X5_addCopy, by decide +kernel⟩
set_option maxHeartbeats 8000000 in
set_option maxRecDepth 100000 in
theorem c_X5_addCopy (l : Launch) (D : va_G) (cI cS : ClassId) (am : Nat → Nat) (ρ : Ms) (p1 p2 : Int32) (F : Int32 × Ms) (hF : X5_addCopy ρ p1 p2 = some F) : MI l yX5_addCopy cX5_addCopy 5 (some .int) rm_X5_addCopy D cI cS [.ref (am 0), .int p1, .int p2] (mW am cI ρ) (mW am cI) (fun r u => r = F.1 ∧ u = F.2 ∧ True) := by
  refine MI.mk RX5 rfl .int rfl (by decide) (Nat.le_of_ble_eq_true rfl) (fun _ _ _ => rfl) ?_
  intro p e s m args below meth c A Q ls Fc hin hA Z kret hl
  obtain ⟨hx, hb, hml, hown, hts, hKN⟩ := id Fc
  replace hl : lv_has ls 5 [(0, .ref (am 0)), (1, .int p1), (2, .int p2)] := hl
  have L44 : ∀ (x1 : Int32) (x2 : Int32) (x3 : Int32) (k : Nat) (x4 : Int32) (ρ : Ms) (H : Heap) (locs : List Loc) (ls : Array Slot), X5_addCopy_L44 x1 x2 x3  k x4 ρ = some F → Ix D A s (mW am cI ρ) H locs → lv_has ls 5 [(0, .ref (am 0)), (1, .int x1), (2, .int x2), (3, .int x3), (4, .int x4)] → W p l e rm_X5_addCopy s m args below meth c H locs 0 0 Q (F0 m 44 ls []) := by
    intro x1 x2 x3 k
    induction k with
    | zero => intro x4 ρ H locs ls hF; rw [X5_addCopy_L44] at hF; cases hF
    | succ k ih =>
      intro x4 ρ H locs ls hF Z hl
      rw [X5_addCopy_L44] at hF
      refine lv_iload hx hb dX5_addCopy_44 (lv_at hl 4 rfl) ?_
      refine lv_bipush (v := (12 : Int32)) hx hb dX5_addCopy_46 (by decide) ?_
      refine lv_icmp_ge (tgt := 65) hx hb dX5_addCopy_48 (by decide) (fun c1 => ?_) (fun c1 => ?_)
      · rw [if_pos c1] at hF
        refine lv_aload_n hx hb dX5_addCopy_65 rfl (lv_at hl 0 rfl) ?_
        refine lv_iload_n hx hb dX5_addCopy_66 rfl (lv_at hl 3 rfl) ?_
        refine lv_iconst (v := (0 : Int32)) hx hb dX5_addCopy_67 (by decide) ?_
        refine lv_iload_n hx hb dX5_addCopy_68 rfl (lv_at hl 1 rfl) ?_
        obtain ⟨q2, h3, hF⟩ := obind hF
        refine kv_i (As := [.int x3, .int (0 : Int32), .int x1]) (ok := (fun _ => True)) Fc hA Z Lens.all (c_X5_puts l D cI cS am ρ x3 (0 : Int32) x1 q2 h3) mL_RX5_55 v_X5_puts ⟨rfl, rfl⟩ ⟨Nat.le_of_ble_eq_true rfl, Nat.le_of_ble_eq_true rfl⟩ ⟨Nat.zero_le _, Nat.zero_le _⟩ 0 5 rfl rfl rfl hl (Nat.le_of_ble_eq_true rfl) dX5_addCopy_69 rfl (fun H locs ok1 Z => ?_)
        refine lv_aload_n hx hb dX5_addCopy_72 rfl (lv_at hl 0 rfl) ?_
        refine lv_iload_n hx hb dX5_addCopy_73 rfl (lv_at hl 3 rfl) ?_
        refine lv_iconst (v := (1 : Int32)) hx hb dX5_addCopy_74 (by decide) ?_
        refine lv_iload_n hx hb dX5_addCopy_75 rfl (lv_at hl 2 rfl) ?_
        obtain ⟨q4, h5, hF⟩ := obind hF
        refine kv_i (As := [.int x3, .int (1 : Int32), .int x2]) (ok := (fun _ => True)) Fc hA Z Lens.all (c_X5_puts l D cI cS am q2 x3 (1 : Int32) x2 q4 h5) mL_RX5_55 v_X5_puts ⟨rfl, rfl⟩ ⟨Nat.le_of_ble_eq_true rfl, Nat.le_of_ble_eq_true rfl⟩ ⟨Nat.zero_le _, Nat.zero_le _⟩ 0 5 rfl rfl rfl hl (Nat.le_of_ble_eq_true rfl) dX5_addCopy_76 rfl (fun H locs ok1 Z => ?_)
        refine lv_aload_n hx hb dX5_addCopy_79 rfl (lv_at hl 0 rfl) ?_
        refine kget Fc Z inX5 0 rfl rfl 0 (by decide) mF_RX5_11 rfl rfl dX5_addCopy_80 ?_
        refine lv_iconst (v := (1 : Int32)) hx hb dX5_addCopy_83 (by decide) ?_
        refine lv_dup2_11 hx hb dX5_addCopy_84 rfl rfl ?_
        obtain ⟨v6, h7, hF⟩ := obind hF
        refine kald Fc Z 1 rfl h7 dX5_addCopy_85 ?_
        refine lv_iconst (v := (1 : Int32)) hx hb dX5_addCopy_86 (by decide) ?_
        refine lv_iadd hx hb dX5_addCopy_87 ?_
        obtain ⟨g8, h9, hF⟩ := obind hF
        obtain ⟨ρ10, e11, hF⟩ := bnd_el hF
        refine kast (w' := mW am cI ρ10) Fc Z 1 rfl h9 (by rw [e11]; rfl) dX5_addCopy_88 (fun H locs Z => ?_)
        refine lv_aload_n hx hb dX5_addCopy_89 rfl (lv_at hl 0 rfl) ?_
        refine lv_iload_n hx hb dX5_addCopy_90 rfl (lv_at hl 3 rfl) ?_
        refine lv_iload_n hx hb dX5_addCopy_91 rfl (lv_at hl 2 rfl) ?_
        obtain ⟨q12, h13, hF⟩ := obind hF
        refine kv_i (As := [.int x3, .int x2]) (ok := (fun _ => True)) Fc hA Z Lens.all (c_X5_frees l D cI cS am ρ10 x3 x2 q12 h13) mL_RX5_99 v_X5_frees ⟨rfl, rfl⟩ ⟨Nat.le_of_ble_eq_true rfl, Nat.le_of_ble_eq_true rfl⟩ ⟨Nat.zero_le _, Nat.zero_le _⟩ 0 5 rfl rfl rfl hl (Nat.le_of_ble_eq_true rfl) dX5_addCopy_92 rfl (fun H locs ok1 Z => ?_)
        refine lv_aload_n hx hb dX5_addCopy_95 rfl (lv_at hl 0 rfl) ?_
        refine lv_iload_n hx hb dX5_addCopy_96 rfl (lv_at hl 3 rfl) ?_
        obtain ⟨q14, h15, hF⟩ := obind hF
        refine km_i (As := [.int x3]) (ok := (fun _ => True)) Fc hA Z Lens.all (c_X5_made l D cI cS am q12 x3 q14 h15) mL_RX5_103 v_X5_made ⟨rfl, rfl⟩ ⟨Nat.le_of_ble_eq_true rfl, Nat.le_of_ble_eq_true rfl⟩ ⟨Nat.zero_le _, Nat.zero_le _⟩ 0 5 rfl rfl rfl hl (Nat.le_of_ble_eq_true rfl) dX5_addCopy_97 rfl (fun H locs ok1 Z => ?_)
        exact kret q14.1 q14.2 _ _ _ _ ⟨(pfst (Option.some.inj hF)), psnd (Option.some.inj hF), trivial⟩ Z dX5_addCopy_100
      · rw [if_neg c1] at hF
        refine lv_aload_n hx hb dX5_addCopy_51 rfl (lv_at hl 0 rfl) ?_
        refine lv_iload_n hx hb dX5_addCopy_52 rfl (lv_at hl 3 rfl) ?_
        refine lv_iload hx hb dX5_addCopy_53 (lv_at hl 4 rfl) ?_
        refine lv_iconst (v := (0 : Int32)) hx hb dX5_addCopy_55 (by decide) ?_
        obtain ⟨q16, h17, hF⟩ := obind hF
        refine kv_i (As := [.int x3, .int x4, .int (0 : Int32)]) (ok := (fun _ => True)) Fc hA Z Lens.all (c_X5_puts l D cI cS am ρ x3 x4 (0 : Int32) q16 h17) mL_RX5_55 v_X5_puts ⟨rfl, rfl⟩ ⟨Nat.le_of_ble_eq_true rfl, Nat.le_of_ble_eq_true rfl⟩ ⟨Nat.zero_le _, Nat.zero_le _⟩ 0 5 rfl rfl rfl hl (Nat.le_of_ble_eq_true rfl) dX5_addCopy_56 rfl (fun H locs ok1 Z => ?_)
        refine lv_iinc (v := (x4 + (1 : Int32))) (lv' := [(4, .int (x4 + (1 : Int32))), (0, .ref (am 0)), (1, .int x1), (2, .int x2), (3, .int x3)]) hx hb dX5_addCopy_59 hl (k := 4) rfl (by rfl) (by decide) rfl (fun ls hl => ?_)
        refine lv_goto (tgt := 44) hx hb dX5_addCopy_62 (by decide) ?_
        exact ih ((x4 + (1 : Int32))) q16 _ _ _ hF Z (lv_sub hl [1, 2, 3, 4, 0] rfl)
  unfold X5_addCopy at hF
  refine lv_iload_n hx hb dX5_addCopy_0 rfl (lv_at hl 1 rfl) ?_
  refine ks_i (As := [.int p1]) Fc hA Z (c_X5_isTitle l D cI cS p1 (X5_isTitle p1) rfl) mL_RX5_89 v_X5_isTitle ⟨rfl, rfl⟩ ⟨Nat.le_of_ble_eq_true rfl, Nat.le_of_ble_eq_true rfl⟩ ⟨Nat.zero_le _, Nat.zero_le _⟩ rfl hl (Nat.le_of_ble_eq_true rfl) dX5_addCopy_1 rfl (fun H locs Z => ?_)
  refine lv_if_eq (tgt := 14) hx hb dX5_addCopy_4 (by decide) (fun c18 => ?_) (fun c18 => ?_)
  · rw [if_pos c18] at hF
    refine lv_iconst (v := (-1 : Int32)) hx hb dX5_addCopy_14 (by decide) ?_
    exact kret (-1 : Int32) ρ _ _ _ _ ⟨(pfst (Option.some.inj hF)), psnd (Option.some.inj hF), trivial⟩ Z dX5_addCopy_15
  · rw [if_neg c18] at hF
    refine lv_iload_n hx hb dX5_addCopy_7 rfl (lv_at hl 2 rfl) ?_
    refine ks_i (As := [.int p2]) Fc hA Z (c_X5_isBranch l D cI cS p2 (X5_isBranch p2) rfl) mL_RX5_93 v_X5_isBranch ⟨rfl, rfl⟩ ⟨Nat.le_of_ble_eq_true rfl, Nat.le_of_ble_eq_true rfl⟩ ⟨Nat.zero_le _, Nat.zero_le _⟩ rfl hl (Nat.le_of_ble_eq_true rfl) dX5_addCopy_8 rfl (fun H locs Z => ?_)
    refine lv_if_ne (tgt := 16) hx hb dX5_addCopy_11 (by decide) (fun c19 => ?_) (fun c19 => ?_)
    · rw [if_neg c19] at hF
      refine lv_aload_n hx hb dX5_addCopy_16 rfl (lv_at hl 0 rfl) ?_
      refine kget Fc Z inX5 0 rfl rfl 0 (by decide) mF_RX5_11 rfl rfl dX5_addCopy_17 ?_
      refine lv_iconst (v := (1 : Int32)) hx hb dX5_addCopy_20 (by decide) ?_
      obtain ⟨v20, h21, hF⟩ := obind hF
      refine kald Fc Z 1 rfl h21 dX5_addCopy_21 ?_
      refine lv_bipush (v := (20 : Int32)) hx hb dX5_addCopy_22 (by decide) ?_
      refine lv_icmp_ne (tgt := 30) hx hb dX5_addCopy_24 (by decide) (fun c22 => ?_) (fun c22 => ?_)
      · rw [if_neg c22] at hF
        refine lv_aload_n hx hb dX5_addCopy_30 rfl (lv_at hl 0 rfl) ?_
        obtain ⟨q23, h24, hF⟩ := obind hF
        refine kv_i (As := []) (ok := (fun _ => True)) Fc hA Z Lens.all (c_X5_keeps l D cI cS am ρ  q23 h24) mL_RX5_96 v_X5_keeps ⟨rfl, rfl⟩ ⟨Nat.le_of_ble_eq_true rfl, Nat.le_of_ble_eq_true rfl⟩ ⟨Nat.zero_le _, Nat.zero_le _⟩ 0 5 rfl rfl rfl hl (Nat.le_of_ble_eq_true rfl) dX5_addCopy_31 rfl (fun H locs ok1 Z => ?_)
        refine lv_aload_n hx hb dX5_addCopy_34 rfl (lv_at hl 0 rfl) ?_
        refine kget Fc Z inX5 0 rfl rfl 0 (by decide) mF_RX5_11 rfl rfl dX5_addCopy_35 ?_
        refine lv_iconst (v := (1 : Int32)) hx hb dX5_addCopy_38 (by decide) ?_
        obtain ⟨v25, h26, hF⟩ := obind hF
        refine kald Fc Z 1 rfl h26 dX5_addCopy_39 ?_
        refine lv_istore_n (lv' := [(3, .int v25), (0, .ref (am 0)), (1, .int p1), (2, .int p2)]) hx hb dX5_addCopy_40 rfl hl (by decide) rfl (fun ls hl => ?_)
        refine lv_iconst (v := (0 : Int32)) hx hb dX5_addCopy_41 (by decide) ?_
        refine lv_istore (lv' := [(4, .int (0 : Int32)), (3, .int v25), (0, .ref (am 0)), (1, .int p1), (2, .int p2)]) hx hb dX5_addCopy_42 hl (by decide) rfl (fun ls hl => ?_)
        exact L44 p1 p2 v25 FU (0 : Int32) q23 _ _ _ hF Z (lv_sub hl [2, 3, 4, 1, 0] rfl)
      · rw [if_pos c22] at hF
        refine lv_bipush (v := (-3 : Int32)) hx hb dX5_addCopy_27 (by decide) ?_
        exact kret (-3 : Int32) ρ _ _ _ _ ⟨(pfst (Option.some.inj hF)), psnd (Option.some.inj hF), trivial⟩ Z dX5_addCopy_29
    · rw [if_pos c19] at hF
      refine lv_iconst (v := (-1 : Int32)) hx hb dX5_addCopy_14 (by decide) ?_
      exact kret (-1 : Int32) ρ _ _ _ _ ⟨(pfst (Option.some.inj hF)), psnd (Option.some.inj hF), trivial⟩ Z dX5_addCopy_15
def X5_addPatron_L27 (x1 : Int32) : Nat → Int32 → Ms → Option (Int32 × Ms)
  | 0, _, _ => none
  | k + 1, x2, ρ => if (4 : Int32) ≤ x2 then ((rdA (ρ.1.1 0) 681 (2 : Int32)).bind fun v2 => (wrA (ρ.1.1 0) 681 (2 : Int32) ((v2 + (1 : Int32)))).bind fun g4 => bnd (msA ρ 0 g4) fun ρ6 => (X5_made ρ6 x1).bind fun q8 => some (q8.1, q8.2)) else (wrA (ρ.1.1 0) 681 ((((253 : Int32) + ((4 : Int32) * x1)) + x2)) (0 : Int32)).bind fun g10 => bnd (msA ρ 0 g10) fun ρ12 => X5_addPatron_L27 x1 k ((x2 + (1 : Int32))) ρ12
def X5_addPatron (ρ : Ms) : Option (Int32 × Ms) := (rdA (ρ.1.1 0) 681 (2 : Int32)).bind fun v14 => if v14 = (8 : Int32) then (some (((-3 : Int32), ρ))) else (X5_keeps ρ).bind fun q17 => (rdA (q17.1.1 0) 681 (2 : Int32)).bind fun v19 => X5_addPatron_L27 v19 FU (0 : Int32) q17
def rm_X5_addPatron : Room := { frames := 2, cells := 0, slots := 0, locals := 46 }
theorem v_X5_addPatron : WdV RX5 yX5_addPatron cX5_addPatron 3 (some .int) 0 := ⟨mI_X5_addPatron, mS_X5_addPatron, mZ_RX5, mC_X5_addPatron, by decide +kernel⟩
set_option maxHeartbeats 8000000 in
set_option maxRecDepth 100000 in
theorem c_X5_addPatron (l : Launch) (D : va_G) (cI cS : ClassId) (am : Nat → Nat) (ρ : Ms) (F : Int32 × Ms) (hF : X5_addPatron ρ = some F) : MI l yX5_addPatron cX5_addPatron 3 (some .int) rm_X5_addPatron D cI cS [.ref (am 0)] (mW am cI ρ) (mW am cI) (fun r u => r = F.1 ∧ u = F.2 ∧ True) := by
  refine MI.mk RX5 rfl .int rfl (by decide) (Nat.le_of_ble_eq_true rfl) (fun _ _ _ => rfl) ?_
  intro p e s m args below meth c A Q ls Fc hin hA Z kret hl
  obtain ⟨hx, hb, hml, hown, hts, hKN⟩ := id Fc
  replace hl : lv_has ls 3 [(0, .ref (am 0))] := hl
  have L27 : ∀ (x1 : Int32) (k : Nat) (x2 : Int32) (ρ : Ms) (H : Heap) (locs : List Loc) (ls : Array Slot), X5_addPatron_L27 x1  k x2 ρ = some F → Ix D A s (mW am cI ρ) H locs → lv_has ls 3 [(0, .ref (am 0)), (1, .int x1), (2, .int x2)] → W p l e rm_X5_addPatron s m args below meth c H locs 0 0 Q (F0 m 27 ls []) := by
    intro x1 k
    induction k with
    | zero => intro x2 ρ H locs ls hF; rw [X5_addPatron_L27] at hF; cases hF
    | succ k ih =>
      intro x2 ρ H locs ls hF Z hl
      rw [X5_addPatron_L27] at hF
      refine lv_iload_n hx hb dX5_addPatron_27 rfl (lv_at hl 2 rfl) ?_
      refine lv_iconst (v := (4 : Int32)) hx hb dX5_addPatron_28 (by decide) ?_
      refine lv_icmp_ge (tgt := 53) hx hb dX5_addPatron_29 (by decide) (fun c1 => ?_) (fun c1 => ?_)
      · rw [if_pos c1] at hF
        refine lv_aload_n hx hb dX5_addPatron_53 rfl (lv_at hl 0 rfl) ?_
        refine kget Fc Z inX5 0 rfl rfl 0 (by decide) mF_RX5_11 rfl rfl dX5_addPatron_54 ?_
        refine lv_iconst (v := (2 : Int32)) hx hb dX5_addPatron_57 (by decide) ?_
        refine lv_dup2_11 hx hb dX5_addPatron_58 rfl rfl ?_
        obtain ⟨v2, h3, hF⟩ := obind hF
        refine kald Fc Z 1 rfl h3 dX5_addPatron_59 ?_
        refine lv_iconst (v := (1 : Int32)) hx hb dX5_addPatron_60 (by decide) ?_
        refine lv_iadd hx hb dX5_addPatron_61 ?_
        obtain ⟨g4, h5, hF⟩ := obind hF
        obtain ⟨ρ6, e7, hF⟩ := bnd_el hF
        refine kast (w' := mW am cI ρ6) Fc Z 1 rfl h5 (by rw [e7]; rfl) dX5_addPatron_62 (fun H locs Z => ?_)
        refine lv_aload_n hx hb dX5_addPatron_63 rfl (lv_at hl 0 rfl) ?_
        refine lv_iload_n hx hb dX5_addPatron_64 rfl (lv_at hl 1 rfl) ?_
        obtain ⟨q8, h9, hF⟩ := obind hF
        refine km_i (As := [.int x1]) (ok := (fun _ => True)) Fc hA Z Lens.all (c_X5_made l D cI cS am ρ6 x1 q8 h9) mL_RX5_103 v_X5_made ⟨rfl, rfl⟩ ⟨Nat.le_of_ble_eq_true rfl, Nat.le_of_ble_eq_true rfl⟩ ⟨Nat.zero_le _, Nat.zero_le _⟩ 0 5 rfl rfl rfl hl (Nat.le_of_ble_eq_true rfl) dX5_addPatron_65 rfl (fun H locs ok1 Z => ?_)
        exact kret q8.1 q8.2 _ _ _ _ ⟨(pfst (Option.some.inj hF)), psnd (Option.some.inj hF), trivial⟩ Z dX5_addPatron_68
      · rw [if_neg c1] at hF
        refine lv_aload_n hx hb dX5_addPatron_32 rfl (lv_at hl 0 rfl) ?_
        refine kget Fc Z inX5 0 rfl rfl 0 (by decide) mF_RX5_11 rfl rfl dX5_addPatron_33 ?_
        refine lv_sipush (v := (253 : Int32)) hx hb dX5_addPatron_36 (by decide) ?_
        refine lv_iconst (v := (4 : Int32)) hx hb dX5_addPatron_39 (by decide) ?_
        refine lv_iload_n hx hb dX5_addPatron_40 rfl (lv_at hl 1 rfl) ?_
        refine lv_imul hx hb dX5_addPatron_41 ?_
        refine lv_iadd hx hb dX5_addPatron_42 ?_
        refine lv_iload_n hx hb dX5_addPatron_43 rfl (lv_at hl 2 rfl) ?_
        refine lv_iadd hx hb dX5_addPatron_44 ?_
        refine lv_iconst (v := (0 : Int32)) hx hb dX5_addPatron_45 (by decide) ?_
        obtain ⟨g10, h11, hF⟩ := obind hF
        obtain ⟨ρ12, e13, hF⟩ := bnd_el hF
        refine kast (w' := mW am cI ρ12) Fc Z 1 rfl h11 (by rw [e13]; rfl) dX5_addPatron_46 (fun H locs Z => ?_)
        refine lv_iinc (v := (x2 + (1 : Int32))) (lv' := [(2, .int (x2 + (1 : Int32))), (0, .ref (am 0)), (1, .int x1)]) hx hb dX5_addPatron_47 hl (k := 2) rfl (by rfl) (by decide) rfl (fun ls hl => ?_)
        refine lv_goto (tgt := 27) hx hb dX5_addPatron_50 (by decide) ?_
        exact ih ((x2 + (1 : Int32))) ρ12 _ _ _ hF Z (lv_sub hl [1, 2, 0] rfl)
  unfold X5_addPatron at hF
  refine lv_aload_n hx hb dX5_addPatron_0 rfl (lv_at hl 0 rfl) ?_
  refine kget Fc Z inX5 0 rfl rfl 0 (by decide) mF_RX5_11 rfl rfl dX5_addPatron_1 ?_
  refine lv_iconst (v := (2 : Int32)) hx hb dX5_addPatron_4 (by decide) ?_
  obtain ⟨v14, h15, hF⟩ := obind hF
  refine kald Fc Z 1 rfl h15 dX5_addPatron_5 ?_
  refine lv_bipush (v := (8 : Int32)) hx hb dX5_addPatron_6 (by decide) ?_
  refine lv_icmp_ne (tgt := 14) hx hb dX5_addPatron_8 (by decide) (fun c16 => ?_) (fun c16 => ?_)
  · rw [if_neg c16] at hF
    refine lv_aload_n hx hb dX5_addPatron_14 rfl (lv_at hl 0 rfl) ?_
    obtain ⟨q17, h18, hF⟩ := obind hF
    refine kv_i (As := []) (ok := (fun _ => True)) Fc hA Z Lens.all (c_X5_keeps l D cI cS am ρ  q17 h18) mL_RX5_96 v_X5_keeps ⟨rfl, rfl⟩ ⟨Nat.le_of_ble_eq_true rfl, Nat.le_of_ble_eq_true rfl⟩ ⟨Nat.zero_le _, Nat.zero_le _⟩ 0 5 rfl rfl rfl hl (Nat.le_of_ble_eq_true rfl) dX5_addPatron_15 rfl (fun H locs ok1 Z => ?_)
    refine lv_aload_n hx hb dX5_addPatron_18 rfl (lv_at hl 0 rfl) ?_
    refine kget Fc Z inX5 0 rfl rfl 0 (by decide) mF_RX5_11 rfl rfl dX5_addPatron_19 ?_
    refine lv_iconst (v := (2 : Int32)) hx hb dX5_addPatron_22 (by decide) ?_
    obtain ⟨v19, h20, hF⟩ := obind hF
    refine kald Fc Z 1 rfl h20 dX5_addPatron_23 ?_
    refine lv_istore_n (lv' := [(1, .int v19), (0, .ref (am 0))]) hx hb dX5_addPatron_24 rfl hl (by decide) rfl (fun ls hl => ?_)
    refine lv_iconst (v := (0 : Int32)) hx hb dX5_addPatron_25 (by decide) ?_
    refine lv_istore_n (lv' := [(2, .int (0 : Int32)), (1, .int v19), (0, .ref (am 0))]) hx hb dX5_addPatron_26 rfl hl (by decide) rfl (fun ls hl => ?_)
    exact L27 v19 FU (0 : Int32) q17 _ _ _ hF Z (lv_sub hl [2, 1, 0] rfl)
  · rw [if_pos c16] at hF
    refine lv_bipush (v := (-3 : Int32)) hx hb dX5_addPatron_11 (by decide) ?_
    exact kret (-3 : Int32) ρ _ _ _ _ ⟨(pfst (Option.some.inj hF)), psnd (Option.some.inj hF), trivial⟩ Z dX5_addPatron_13
def X5_holdOf_L2 (ρ : Ms) (x1 : Int32) : Nat → Int32 → Option (Int32)
  | 0, _ => none
  | k + 1, x2 => (rdA (ρ.1.1 0) 681 (3 : Int32)).bind fun v1 => if v1 ≤ x2 then (some (-2 : Int32)) else (X5_hold ρ x2 (3 : Int32)).bind fun v4 => if v4 = x1 then (some x2) else X5_holdOf_L2 ρ x1 k ((x2 + (1 : Int32)))
def X5_holdOf (ρ : Ms) (p1 : Int32) : Option (Int32) := X5_holdOf_L2 ρ p1 FU (0 : Int32)
def rm_X5_holdOf : Room := { frames := 1, cells := 0, slots := 0, locals := 22 }
theorem v_X5_holdOf : WdV RX5 yX5_holdOf cX5_holdOf 3 (some .int) 1 := ⟨mI_X5_holdOf, mS_X5_holdOf, mZ_RX5, mC_X5_holdOf, by decide +kernel⟩
set_option maxHeartbeats 8000000 in
set_option maxRecDepth 100000 in
theorem c_X5_holdOf (l : Launch) (D : va_G) (cI cS : ClassId) (am : Nat → Nat) (ρ : Ms) (p1 : Int32) (F : Int32) (hF : X5_holdOf ρ p1 = some F) : MI l yX5_holdOf cX5_holdOf 3 (some .int) rm_X5_holdOf D cI cS [.ref (am 0), .int p1] (mW am cI ρ) (mW am cI) (fun r u' => r = F ∧ u' = ρ) := by
  refine MI.mk RX5 rfl .int rfl (by decide) (Nat.le_of_ble_eq_true rfl) (fun _ _ _ => rfl) ?_
  intro p e s m args below meth c A Q ls Fc hin hA Z kret hl
  obtain ⟨hx, hb, hml, hown, hts, hKN⟩ := id Fc
  replace hl : lv_has ls 3 [(0, .ref (am 0)), (1, .int p1)] := hl
  have L2 : ∀ (x1 : Int32) (k : Nat) (x2 : Int32) (H : Heap) (locs : List Loc) (ls : Array Slot), X5_holdOf_L2 ρ x1  k x2 = some F → Ix D A s (mW am cI ρ) H locs → lv_has ls 3 [(0, .ref (am 0)), (1, .int x1), (2, .int x2)] → W p l e rm_X5_holdOf s m args below meth c H locs 0 0 Q (F0 m 2 ls []) := by
    intro x1 k
    induction k with
    | zero => intro x2 H locs ls hF; rw [X5_holdOf_L2] at hF; cases hF
    | succ k ih =>
      intro x2 H locs ls hF Z hl
      rw [X5_holdOf_L2] at hF
      refine lv_iload_n hx hb dX5_holdOf_2 rfl (lv_at hl 2 rfl) ?_
      refine lv_aload_n hx hb dX5_holdOf_3 rfl (lv_at hl 0 rfl) ?_
      refine kget Fc Z inX5 0 rfl rfl 0 (by decide) mF_RX5_11 rfl rfl dX5_holdOf_4 ?_
      refine lv_iconst (v := (3 : Int32)) hx hb dX5_holdOf_7 (by decide) ?_
      obtain ⟨v1, h2, hF⟩ := obind hF
      refine kald Fc Z 1 rfl h2 dX5_holdOf_8 ?_
      refine lv_icmp_ge (tgt := 30) hx hb dX5_holdOf_9 (by decide) (fun c3 => ?_) (fun c3 => ?_)
      · rw [if_pos c3] at hF
        refine lv_bipush (v := (-2 : Int32)) hx hb dX5_holdOf_30 (by decide) ?_
        exact kret (-2 : Int32) ρ _ _ _ _ ⟨(Option.some.inj hF), rfl⟩ Z dX5_holdOf_32
      · rw [if_neg c3] at hF
        refine lv_aload_n hx hb dX5_holdOf_12 rfl (lv_at hl 0 rfl) ?_
        refine lv_iload_n hx hb dX5_holdOf_13 rfl (lv_at hl 2 rfl) ?_
        refine lv_iconst (v := (3 : Int32)) hx hb dX5_holdOf_14 (by decide) ?_
        obtain ⟨v4, h5, hF⟩ := obind hF
        refine kr_i (As := [.int x2, .int (3 : Int32)]) Fc hA Z Lens.all (c_X5_hold l D cI cS am ρ x2 (3 : Int32) v4 h5) mL_RX5_59 v_X5_hold ⟨rfl, rfl⟩ ⟨Nat.le_of_ble_eq_true rfl, Nat.le_of_ble_eq_true rfl⟩ ⟨Nat.zero_le _, Nat.zero_le _⟩ 0 5 rfl rfl rfl hl (Nat.le_of_ble_eq_true rfl) dX5_holdOf_15 rfl (fun H locs Z => ?_)
        refine lv_iload_n hx hb dX5_holdOf_18 rfl (lv_at hl 1 rfl) ?_
        refine lv_icmp_ne (tgt := 24) hx hb dX5_holdOf_19 (by decide) (fun c6 => ?_) (fun c6 => ?_)
        · rw [if_neg c6] at hF
          refine lv_iinc (v := (x2 + (1 : Int32))) (lv' := [(2, .int (x2 + (1 : Int32))), (0, .ref (am 0)), (1, .int x1)]) hx hb dX5_holdOf_24 hl (k := 2) rfl (by rfl) (by decide) rfl (fun ls hl => ?_)
          refine lv_goto (tgt := 2) hx hb dX5_holdOf_27 (by decide) ?_
          exact ih ((x2 + (1 : Int32))) _ _ _ hF Z (lv_sub hl [1, 2, 0] rfl)
        · rw [if_pos c6] at hF
          refine lv_iload_n hx hb dX5_holdOf_22 rfl (lv_at hl 2 rfl) ?_
          exact kret x2 ρ _ _ _ _ ⟨(Option.some.inj hF), rfl⟩ Z dX5_holdOf_23
  unfold X5_holdOf at hF
  refine lv_iconst (v := (0 : Int32)) hx hb dX5_holdOf_0 (by decide) ?_
  refine lv_istore_n (lv' := [(2, .int (0 : Int32)), (0, .ref (am 0)), (1, .int p1)]) hx hb dX5_holdOf_1 rfl hl (by decide) rfl (fun ls hl => ?_)
  exact L2 p1 FU (0 : Int32) _ _ _ hF Z (lv_sub hl [1, 2, 0] rfl)
def X5_arrive_L2 : Nat → Int32 → Ms → Option (Ms)
  | 0, _, _ => none
  | k + 1, x1, ρ => (rdA (ρ.1.1 0) 681 (1 : Int32)).bind fun v1 => if v1 ≤ x1 then (some ρ) else (X5_of ρ x1 (3 : Int32)).bind fun v4 => if v4 = (2 : Int32) then ((X5_of ρ x1 (5 : Int32)).bind fun v7 => (rdA (ρ.1.1 0) 681 (0 : Int32)).bind fun v9 => if v7 ≤ v9 then ((X5_holdOf ρ x1).bind fun v12 => if v12 < 0 then ((X5_of ρ x1 (4 : Int32)).bind fun v15 => (X5_frees ρ x1 v15).bind fun q17 => X5_arrive_L2 k ((x1 + (1 : Int32))) q17) else (X5_of ρ x1 (4 : Int32)).bind fun v19 => (rdA (ρ.1.1 0) 681 (0 : Int32)).bind fun v21 => (rdA (ρ.1.1 0) 681 (10 : Int32)).bind fun v23 => (X5_turns ρ x1 (3 : Int32) v19 (v21 + v23)).bind fun q25 => X5_arrive_L2 k ((x1 + (1 : Int32))) q25) else X5_arrive_L2 k ((x1 + (1 : Int32))) ρ) else X5_arrive_L2 k ((x1 + (1 : Int32))) ρ
def X5_arrive (ρ : Ms) : Option (Ms) := X5_arrive_L2 FU (0 : Int32) ρ
def rm_X5_arrive : Room := { frames := 4, cells := 0, slots := 0, locals := 95 }
theorem v_X5_arrive : WdV RX5 yX5_arrive cX5_arrive 2 none 0 := ⟨mI_X5_arrive, mS_X5_arrive, mZ_RX5, mC_X5_arrive, by decide +kernel⟩
set_option maxHeartbeats 8000000 in
set_option maxRecDepth 100000 in
theorem c_X5_arrive (l : Launch) (D : va_G) (cI cS : ClassId) (am : Nat → Nat) (ρ : Ms) (F : Ms) (hF : X5_arrive ρ = some F) : MV l yX5_arrive cX5_arrive 2 rm_X5_arrive D cI cS [.ref (am 0)] (mW am cI ρ) (mW am cI) (fun u => u = F ∧ True) := by
  refine MV.mk RX5 rfl (by decide) (Nat.le_of_ble_eq_true rfl) ?_
  intro p e s m args below meth c A Q ls Fc hin hA Z kret hl
  obtain ⟨hx, hb, hml, hown, hts, hKN⟩ := id Fc
  replace hl : lv_has ls 2 [(0, .ref (am 0))] := hl
  have L2 : ∀ (k : Nat) (x1 : Int32) (ρ : Ms) (H : Heap) (locs : List Loc) (ls : Array Slot), X5_arrive_L2  k x1 ρ = some F → Ix D A s (mW am cI ρ) H locs → lv_has ls 2 [(0, .ref (am 0)), (1, .int x1)] → W p l e rm_X5_arrive s m args below meth c H locs 0 0 Q (F0 m 2 ls []) := by
    intro k
    induction k with
    | zero => intro x1 ρ H locs ls hF; rw [X5_arrive_L2] at hF; cases hF
    | succ k ih =>
      intro x1 ρ H locs ls hF Z hl
      rw [X5_arrive_L2] at hF
      refine lv_iload_n hx hb dX5_arrive_2 rfl (lv_at hl 1 rfl) ?_
      refine lv_aload_n hx hb dX5_arrive_3 rfl (lv_at hl 0 rfl) ?_
      refine kget Fc Z inX5 0 rfl rfl 0 (by decide) mF_RX5_11 rfl rfl dX5_arrive_4 ?_
      refine lv_iconst (v := (1 : Int32)) hx hb dX5_arrive_7 (by decide) ?_
      obtain ⟨v1, h2, hF⟩ := obind hF
      refine kald Fc Z 1 rfl h2 dX5_arrive_8 ?_
      refine lv_icmp_ge (tgt := 94) hx hb dX5_arrive_9 (by decide) (fun c3 => ?_) (fun c3 => ?_)
      · rw [if_pos c3] at hF
        exact kret ρ _ _ _ _ ⟨(Option.some.inj hF), trivial⟩ Z dX5_arrive_94
      · rw [if_neg c3] at hF
        refine lv_aload_n hx hb dX5_arrive_12 rfl (lv_at hl 0 rfl) ?_
        refine lv_iload_n hx hb dX5_arrive_13 rfl (lv_at hl 1 rfl) ?_
        refine lv_iconst (v := (3 : Int32)) hx hb dX5_arrive_14 (by decide) ?_
        obtain ⟨v4, h5, hF⟩ := obind hF
        refine kr_i (As := [.int x1, .int (3 : Int32)]) Fc hA Z Lens.all (c_X5_of l D cI cS am ρ x1 (3 : Int32) v4 h5) mL_RX5_73 v_X5_of ⟨rfl, rfl⟩ ⟨Nat.le_of_ble_eq_true rfl, Nat.le_of_ble_eq_true rfl⟩ ⟨Nat.zero_le _, Nat.zero_le _⟩ 0 5 rfl rfl rfl hl (Nat.le_of_ble_eq_true rfl) dX5_arrive_15 rfl (fun H locs Z => ?_)
        refine lv_iconst (v := (2 : Int32)) hx hb dX5_arrive_18 (by decide) ?_
        refine lv_icmp_ne (tgt := 88) hx hb dX5_arrive_19 (by decide) (fun c6 => ?_) (fun c6 => ?_)
        · rw [if_neg c6] at hF
          refine lv_iinc (v := (x1 + (1 : Int32))) (lv' := [(1, .int (x1 + (1 : Int32))), (0, .ref (am 0))]) hx hb dX5_arrive_88 hl (k := 1) rfl (by rfl) (by decide) rfl (fun ls hl => ?_)
          refine lv_goto (tgt := 2) hx hb dX5_arrive_91 (by decide) ?_
          exact ih ((x1 + (1 : Int32))) ρ _ _ _ hF Z (lv_sub hl [1, 0] rfl)
        · rw [if_pos c6] at hF
          refine lv_aload_n hx hb dX5_arrive_22 rfl (lv_at hl 0 rfl) ?_
          refine lv_iload_n hx hb dX5_arrive_23 rfl (lv_at hl 1 rfl) ?_
          refine lv_iconst (v := (5 : Int32)) hx hb dX5_arrive_24 (by decide) ?_
          obtain ⟨v7, h8, hF⟩ := obind hF
          refine kr_i (As := [.int x1, .int (5 : Int32)]) Fc hA Z Lens.all (c_X5_of l D cI cS am ρ x1 (5 : Int32) v7 h8) mL_RX5_73 v_X5_of ⟨rfl, rfl⟩ ⟨Nat.le_of_ble_eq_true rfl, Nat.le_of_ble_eq_true rfl⟩ ⟨Nat.zero_le _, Nat.zero_le _⟩ 0 5 rfl rfl rfl hl (Nat.le_of_ble_eq_true rfl) dX5_arrive_25 rfl (fun H locs Z => ?_)
          refine lv_aload_n hx hb dX5_arrive_28 rfl (lv_at hl 0 rfl) ?_
          refine kget Fc Z inX5 0 rfl rfl 0 (by decide) mF_RX5_11 rfl rfl dX5_arrive_29 ?_
          refine lv_iconst (v := (0 : Int32)) hx hb dX5_arrive_32 (by decide) ?_
          obtain ⟨v9, h10, hF⟩ := obind hF
          refine kald Fc Z 1 rfl h10 dX5_arrive_33 ?_
          refine lv_icmp_le (tgt := 40) hx hb dX5_arrive_34 (by decide) (fun c11 => ?_) (fun c11 => ?_)
          · rw [if_pos c11] at hF
            refine lv_aload_n hx hb dX5_arrive_40 rfl (lv_at hl 0 rfl) ?_
            refine lv_iload_n hx hb dX5_arrive_41 rfl (lv_at hl 1 rfl) ?_
            obtain ⟨v12, h13, hF⟩ := obind hF
            refine kr_i (As := [.int x1]) Fc hA Z Lens.all (c_X5_holdOf l D cI cS am ρ x1 v12 h13) mL_RX5_116 v_X5_holdOf ⟨rfl, rfl⟩ ⟨Nat.le_of_ble_eq_true rfl, Nat.le_of_ble_eq_true rfl⟩ ⟨Nat.zero_le _, Nat.zero_le _⟩ 0 5 rfl rfl rfl hl (Nat.le_of_ble_eq_true rfl) dX5_arrive_42 rfl (fun H locs Z => ?_)
            refine lv_if_lt (tgt := 77) hx hb dX5_arrive_45 (by decide) (fun c14 => ?_) (fun c14 => ?_)
            · rw [if_pos c14] at hF
              refine lv_aload_n hx hb dX5_arrive_77 rfl (lv_at hl 0 rfl) ?_
              refine lv_iload_n hx hb dX5_arrive_78 rfl (lv_at hl 1 rfl) ?_
              refine lv_aload_n hx hb dX5_arrive_79 rfl (lv_at hl 0 rfl) ?_
              refine lv_iload_n hx hb dX5_arrive_80 rfl (lv_at hl 1 rfl) ?_
              refine lv_iconst (v := (4 : Int32)) hx hb dX5_arrive_81 (by decide) ?_
              obtain ⟨v15, h16, hF⟩ := obind hF
              refine kr_i (As := [.int x1, .int (4 : Int32)]) Fc hA Z Lens.all (c_X5_of l D cI cS am ρ x1 (4 : Int32) v15 h16) mL_RX5_73 v_X5_of ⟨rfl, rfl⟩ ⟨Nat.le_of_ble_eq_true rfl, Nat.le_of_ble_eq_true rfl⟩ ⟨Nat.zero_le _, Nat.zero_le _⟩ 0 5 rfl rfl rfl hl (Nat.le_of_ble_eq_true rfl) dX5_arrive_82 rfl (fun H locs Z => ?_)
              obtain ⟨q17, h18, hF⟩ := obind hF
              refine kv_i (As := [.int x1, .int v15]) (ok := (fun _ => True)) Fc hA Z Lens.all (c_X5_frees l D cI cS am ρ x1 v15 q17 h18) mL_RX5_99 v_X5_frees ⟨rfl, rfl⟩ ⟨Nat.le_of_ble_eq_true rfl, Nat.le_of_ble_eq_true rfl⟩ ⟨Nat.zero_le _, Nat.zero_le _⟩ 0 5 rfl rfl rfl hl (Nat.le_of_ble_eq_true rfl) dX5_arrive_85 rfl (fun H locs ok1 Z => ?_)
              refine lv_iinc (v := (x1 + (1 : Int32))) (lv' := [(1, .int (x1 + (1 : Int32))), (0, .ref (am 0))]) hx hb dX5_arrive_88 hl (k := 1) rfl (by rfl) (by decide) rfl (fun ls hl => ?_)
              refine lv_goto (tgt := 2) hx hb dX5_arrive_91 (by decide) ?_
              exact ih ((x1 + (1 : Int32))) q17 _ _ _ hF Z (lv_sub hl [1, 0] rfl)
            · rw [if_neg c14] at hF
              refine lv_aload_n hx hb dX5_arrive_48 rfl (lv_at hl 0 rfl) ?_
              refine lv_iload_n hx hb dX5_arrive_49 rfl (lv_at hl 1 rfl) ?_
              refine lv_iconst (v := (3 : Int32)) hx hb dX5_arrive_50 (by decide) ?_
              refine lv_aload_n hx hb dX5_arrive_51 rfl (lv_at hl 0 rfl) ?_
              refine lv_iload_n hx hb dX5_arrive_52 rfl (lv_at hl 1 rfl) ?_
              refine lv_iconst (v := (4 : Int32)) hx hb dX5_arrive_53 (by decide) ?_
              obtain ⟨v19, h20, hF⟩ := obind hF
              refine kr_i (As := [.int x1, .int (4 : Int32)]) Fc hA Z Lens.all (c_X5_of l D cI cS am ρ x1 (4 : Int32) v19 h20) mL_RX5_73 v_X5_of ⟨rfl, rfl⟩ ⟨Nat.le_of_ble_eq_true rfl, Nat.le_of_ble_eq_true rfl⟩ ⟨Nat.zero_le _, Nat.zero_le _⟩ 0 5 rfl rfl rfl hl (Nat.le_of_ble_eq_true rfl) dX5_arrive_54 rfl (fun H locs Z => ?_)
              refine lv_aload_n hx hb dX5_arrive_57 rfl (lv_at hl 0 rfl) ?_
              refine kget Fc Z inX5 0 rfl rfl 0 (by decide) mF_RX5_11 rfl rfl dX5_arrive_58 ?_
              refine lv_iconst (v := (0 : Int32)) hx hb dX5_arrive_61 (by decide) ?_
              obtain ⟨v21, h22, hF⟩ := obind hF
              refine kald Fc Z 1 rfl h22 dX5_arrive_62 ?_
              refine lv_aload_n hx hb dX5_arrive_63 rfl (lv_at hl 0 rfl) ?_
              refine kget Fc Z inX5 0 rfl rfl 0 (by decide) mF_RX5_11 rfl rfl dX5_arrive_64 ?_
              refine lv_bipush (v := (10 : Int32)) hx hb dX5_arrive_67 (by decide) ?_
              obtain ⟨v23, h24, hF⟩ := obind hF
              refine kald Fc Z 1 rfl h24 dX5_arrive_69 ?_
              refine lv_iadd hx hb dX5_arrive_70 ?_
              obtain ⟨q25, h26, hF⟩ := obind hF
              refine kv_i (As := [.int x1, .int (3 : Int32), .int v19, .int (v21 + v23)]) (ok := (fun _ => True)) Fc hA Z Lens.all (c_X5_turns l D cI cS am ρ x1 (3 : Int32) v19 (v21 + v23) q25 h26) mL_RX5_63 v_X5_turns ⟨rfl, rfl⟩ ⟨Nat.le_of_ble_eq_true rfl, Nat.le_of_ble_eq_true rfl⟩ ⟨Nat.zero_le _, Nat.zero_le _⟩ 0 5 rfl rfl rfl hl (Nat.le_of_ble_eq_true rfl) dX5_arrive_71 rfl (fun H locs ok1 Z => ?_)
              refine lv_goto (tgt := 88) hx hb dX5_arrive_74 (by decide) ?_
              refine lv_iinc (v := (x1 + (1 : Int32))) (lv' := [(1, .int (x1 + (1 : Int32))), (0, .ref (am 0))]) hx hb dX5_arrive_88 hl (k := 1) rfl (by rfl) (by decide) rfl (fun ls hl => ?_)
              refine lv_goto (tgt := 2) hx hb dX5_arrive_91 (by decide) ?_
              exact ih ((x1 + (1 : Int32))) q25 _ _ _ hF Z (lv_sub hl [1, 0] rfl)
          · rw [if_neg c11] at hF
            refine lv_goto (tgt := 88) hx hb dX5_arrive_37 (by decide) ?_
            refine lv_iinc (v := (x1 + (1 : Int32))) (lv' := [(1, .int (x1 + (1 : Int32))), (0, .ref (am 0))]) hx hb dX5_arrive_88 hl (k := 1) rfl (by rfl) (by decide) rfl (fun ls hl => ?_)
            refine lv_goto (tgt := 2) hx hb dX5_arrive_91 (by decide) ?_
            exact ih ((x1 + (1 : Int32))) ρ _ _ _ hF Z (lv_sub hl [1, 0] rfl)
  unfold X5_arrive at hF
  refine lv_iconst (v := (0 : Int32)) hx hb dX5_arrive_0 (by decide) ?_
  refine lv_istore_n (lv' := [(1, .int (0 : Int32)), (0, .ref (am 0))]) hx hb dX5_arrive_1 rfl hl (by decide) rfl (fun ls hl => ?_)
  exact L2  FU (0 : Int32) ρ _ _ _ hF Z (lv_sub hl [1, 0] rfl)
def X5_byDate_L45 (ρ : Ms) (x1 : Int32) (x2 : Int32) (x3 : Int32) (x4 : Int32) (K : Int32 → Option (Int32)) : Nat → Int32 → Int32 → Option (Int32)
  | 0, _, _ => none
  | k + 1, x5, x6 => (rdA (ρ.1.1 0) 681 (1 : Int32)).bind fun v1 => if v1 ≤ x6 then (K x5) else (X5_of ρ x6 (3 : Int32)).bind fun v4 => if v4 = x1 then ((X5_of ρ x6 (4 : Int32)).bind fun v8 => if v8 = x2 then ((X5_of ρ x6 (5 : Int32)).bind fun v13 => (X5_of ρ x4 (5 : Int32)).bind fun v15 => if v13 < v15 then (X5_byDate_L45 ρ x1 x2 x3 x4 K k ((x5 + (1 : Int32))) ((x6 + (1 : Int32)))) else (X5_of ρ x6 (5 : Int32)).bind fun v18 => (X5_of ρ x4 (5 : Int32)).bind fun v20 => if v18 = v20 then (if x4 ≤ x6 then (X5_byDate_L45 ρ x1 x2 x3 x4 K k ((x5 + (0 : Int32))) ((x6 + (1 : Int32)))) else X5_byDate_L45 ρ x1 x2 x3 x4 K k ((x5 + (1 : Int32))) ((x6 + (1 : Int32)))) else X5_byDate_L45 ρ x1 x2 x3 x4 K k ((x5 + (0 : Int32))) ((x6 + (1 : Int32)))) else X5_byDate_L45 ρ x1 x2 x3 x4 K k ((x5 + (0 : Int32))) ((x6 + (1 : Int32)))) else X5_byDate_L45 ρ x1 x2 x3 x4 K k ((x5 + (0 : Int32))) ((x6 + (1 : Int32)))
def X5_byDate_L3 (ρ : Ms) (x1 : Int32) (x2 : Int32) (x3 : Int32) : Nat → Int32 → Option (Int32)
  | 0, _ => none
  | k + 1, x4 => (rdA (ρ.1.1 0) 681 (1 : Int32)).bind fun v24 => if v24 ≤ x4 then (some (-2 : Int32)) else (X5_of ρ x4 (3 : Int32)).bind fun v27 => if v27 = x1 then ((X5_of ρ x4 (4 : Int32)).bind fun v30 => if v30 = x2 then (X5_byDate_L45 ρ x1 x2 x3 x4 (fun y45_5 => if y45_5 = x3 then (some x4) else X5_byDate_L3 ρ x1 x2 x3 k ((x4 + (1 : Int32)))) FU (0 : Int32) (0 : Int32)) else X5_byDate_L3 ρ x1 x2 x3 k ((x4 + (1 : Int32)))) else X5_byDate_L3 ρ x1 x2 x3 k ((x4 + (1 : Int32)))
def X5_byDate (ρ : Ms) (p1 p2 p3 : Int32) : Option (Int32) := X5_byDate_L3 ρ p1 p2 p3 FU (0 : Int32)
def rm_X5_byDate : Room := { frames := 1, cells := 0, slots := 0, locals := 22 }
theorem v_X5_byDate : WdV RX5 yX5_byDate cX5_byDate 8 (some .int) 3 := ⟨mI_X5_byDate, mS_X5_byDate, mZ_RX5, mC_X5_byDate, by decide +kernel⟩
set_option maxHeartbeats 8000000 in
set_option maxRecDepth 100000 in
theorem c_X5_byDate (l : Launch) (D : va_G) (cI cS : ClassId) (am : Nat → Nat) (ρ : Ms) (p1 p2 p3 : Int32) (F : Int32) (hF : X5_byDate ρ p1 p2 p3 = some F) : MI l yX5_byDate cX5_byDate 8 (some .int) rm_X5_byDate D cI cS [.ref (am 0), .int p1, .int p2, .int p3] (mW am cI ρ) (mW am cI) (fun r u' => r = F ∧ u' = ρ) := by
  refine MI.mk RX5 rfl .int rfl (by decide) (Nat.le_of_ble_eq_true rfl) (fun _ _ _ => rfl) ?_
  intro p e s m args below meth c A Q ls Fc hin hA Z kret hl
  obtain ⟨hx, hb, hml, hown, hts, hKN⟩ := id Fc
  replace hl : lv_has ls 8 [(0, .ref (am 0)), (1, .int p1), (2, .int p2), (3, .int p3)] := hl
  have L45 : ∀ (x1 : Int32) (x2 : Int32) (x3 : Int32) (x4 : Int32) (K : Int32 → Option (Int32)) (hK : ∀ (y5 : Int32) (H : Heap) (locs : List Loc) (ls : Array Slot), K y5 = some F → Ix D A s (mW am cI ρ) H locs → lv_has ls 8 [(0, .ref (am 0)), (1, .int x1), (2, .int x2), (3, .int x3), (4, .int x4), (5, .int y5)] → W p l e rm_X5_byDate s m args below meth c H locs 0 0 Q (F0 m 147 ls [])) (k : Nat) (x5 : Int32) (x6 : Int32) (H : Heap) (locs : List Loc) (ls : Array Slot), X5_byDate_L45 ρ x1 x2 x3 x4 K  k x5 x6 = some F → Ix D A s (mW am cI ρ) H locs → lv_has ls 8 [(0, .ref (am 0)), (1, .int x1), (2, .int x2), (3, .int x3), (4, .int x4), (5, .int x5), (6, .int x6)] → W p l e rm_X5_byDate s m args below meth c H locs 0 0 Q (F0 m 45 ls []) := by
    intro x1 x2 x3 x4 K hK k
    induction k with
    | zero => intro x5 x6 H locs ls hF; rw [X5_byDate_L45] at hF; cases hF
    | succ k ih =>
      intro x5 x6 H locs ls hF Z hl
      rw [X5_byDate_L45] at hF
      refine lv_iload hx hb dX5_byDate_45 (lv_at hl 6 rfl) ?_
      refine lv_aload_n hx hb dX5_byDate_47 rfl (lv_at hl 0 rfl) ?_
      refine kget Fc Z inX5 0 rfl rfl 0 (by decide) mF_RX5_11 rfl rfl dX5_byDate_48 ?_
      refine lv_iconst (v := (1 : Int32)) hx hb dX5_byDate_51 (by decide) ?_
      obtain ⟨v1, h2, hF⟩ := obind hF
      refine kald Fc Z 1 rfl h2 dX5_byDate_52 ?_
      refine lv_icmp_ge (tgt := 147) hx hb dX5_byDate_53 (by decide) (fun c3 => ?_) (fun c3 => ?_)
      · rw [if_pos c3] at hF
        exact hK x5 _ _ _ hF Z (lv_sub hl [0, 1, 2, 3, 4, 5] rfl)
      · rw [if_neg c3] at hF
        refine lv_aload_n hx hb dX5_byDate_56 rfl (lv_at hl 0 rfl) ?_
        refine lv_iload hx hb dX5_byDate_57 (lv_at hl 6 rfl) ?_
        refine lv_iconst (v := (3 : Int32)) hx hb dX5_byDate_59 (by decide) ?_
        obtain ⟨v4, h5, hF⟩ := obind hF
        refine kr_i (As := [.int x6, .int (3 : Int32)]) Fc hA Z Lens.all (c_X5_of l D cI cS am ρ x6 (3 : Int32) v4 h5) mL_RX5_73 v_X5_of ⟨rfl, rfl⟩ ⟨Nat.le_of_ble_eq_true rfl, Nat.le_of_ble_eq_true rfl⟩ ⟨Nat.zero_le _, Nat.zero_le _⟩ 0 5 rfl rfl rfl hl (Nat.le_of_ble_eq_true rfl) dX5_byDate_60 rfl (fun H locs Z => ?_)
        refine lv_iload_n hx hb dX5_byDate_63 rfl (lv_at hl 1 rfl) ?_
        refine lv_icmp_ne (tgt := 82) hx hb dX5_byDate_64 (by decide) (fun c6 => ?_) (fun c6 => ?_)
        · rw [if_neg c6] at hF
          refine lv_iconst (v := (0 : Int32)) hx hb dX5_byDate_82 (by decide) ?_
          refine lv_istore (lv' := [(7, .int (0 : Int32)), (0, .ref (am 0)), (1, .int x1), (2, .int x2), (3, .int x3), (4, .int x4), (5, .int x5), (6, .int x6)]) hx hb dX5_byDate_83 hl (by decide) rfl (fun ls hl => ?_)
          refine lv_iload hx hb dX5_byDate_85 (lv_at hl 6 rfl) ?_
          refine lv_iload hx hb dX5_byDate_87 (lv_at hl 0 rfl) ?_
          refine lv_if_eq (tgt := 137) hx hb dX5_byDate_89 (by decide) (fun _ => ?_) (fun c7 => absurd c7 (by decide))
          refine lv_iconst (v := (0 : Int32)) hx hb dX5_byDate_137 (by decide) ?_
          refine lv_iadd hx hb dX5_byDate_138 ?_
          refine lv_istore (lv' := [(5, .int (x5 + (0 : Int32))), (7, .int (0 : Int32)), (0, .ref (am 0)), (1, .int x1), (2, .int x2), (3, .int x3), (4, .int x4), (6, .int x6)]) hx hb dX5_byDate_139 hl (by decide) rfl (fun ls hl => ?_)
          refine lv_iinc (v := (x6 + (1 : Int32))) (lv' := [(6, .int (x6 + (1 : Int32))), (5, .int (x5 + (0 : Int32))), (7, .int (0 : Int32)), (0, .ref (am 0)), (1, .int x1), (2, .int x2), (3, .int x3), (4, .int x4)]) hx hb dX5_byDate_141 hl (k := 7) rfl (by rfl) (by decide) rfl (fun ls hl => ?_)
          refine lv_goto (tgt := 45) hx hb dX5_byDate_144 (by decide) ?_
          exact ih ((x5 + (0 : Int32))) ((x6 + (1 : Int32))) _ _ _ hF Z (lv_sub hl [3, 4, 5, 6, 7, 1, 0] rfl)
        · rw [if_pos c6] at hF
          refine lv_aload_n hx hb dX5_byDate_67 rfl (lv_at hl 0 rfl) ?_
          refine lv_iload hx hb dX5_byDate_68 (lv_at hl 6 rfl) ?_
          refine lv_iconst (v := (4 : Int32)) hx hb dX5_byDate_70 (by decide) ?_
          obtain ⟨v8, h9, hF⟩ := obind hF
          refine kr_i (As := [.int x6, .int (4 : Int32)]) Fc hA Z Lens.all (c_X5_of l D cI cS am ρ x6 (4 : Int32) v8 h9) mL_RX5_73 v_X5_of ⟨rfl, rfl⟩ ⟨Nat.le_of_ble_eq_true rfl, Nat.le_of_ble_eq_true rfl⟩ ⟨Nat.zero_le _, Nat.zero_le _⟩ 0 5 rfl rfl rfl hl (Nat.le_of_ble_eq_true rfl) dX5_byDate_71 rfl (fun H locs Z => ?_)
          refine lv_iload_n hx hb dX5_byDate_74 rfl (lv_at hl 2 rfl) ?_
          refine lv_icmp_ne (tgt := 82) hx hb dX5_byDate_75 (by decide) (fun c10 => ?_) (fun c10 => ?_)
          · rw [if_neg c10] at hF
            refine lv_iconst (v := (0 : Int32)) hx hb dX5_byDate_82 (by decide) ?_
            refine lv_istore (lv' := [(7, .int (0 : Int32)), (0, .ref (am 0)), (1, .int x1), (2, .int x2), (3, .int x3), (4, .int x4), (5, .int x5), (6, .int x6)]) hx hb dX5_byDate_83 hl (by decide) rfl (fun ls hl => ?_)
            refine lv_iload hx hb dX5_byDate_85 (lv_at hl 6 rfl) ?_
            refine lv_iload hx hb dX5_byDate_87 (lv_at hl 0 rfl) ?_
            refine lv_if_eq (tgt := 137) hx hb dX5_byDate_89 (by decide) (fun _ => ?_) (fun c11 => absurd c11 (by decide))
            refine lv_iconst (v := (0 : Int32)) hx hb dX5_byDate_137 (by decide) ?_
            refine lv_iadd hx hb dX5_byDate_138 ?_
            refine lv_istore (lv' := [(5, .int (x5 + (0 : Int32))), (7, .int (0 : Int32)), (0, .ref (am 0)), (1, .int x1), (2, .int x2), (3, .int x3), (4, .int x4), (6, .int x6)]) hx hb dX5_byDate_139 hl (by decide) rfl (fun ls hl => ?_)
            refine lv_iinc (v := (x6 + (1 : Int32))) (lv' := [(6, .int (x6 + (1 : Int32))), (5, .int (x5 + (0 : Int32))), (7, .int (0 : Int32)), (0, .ref (am 0)), (1, .int x1), (2, .int x2), (3, .int x3), (4, .int x4)]) hx hb dX5_byDate_141 hl (k := 7) rfl (by rfl) (by decide) rfl (fun ls hl => ?_)
            refine lv_goto (tgt := 45) hx hb dX5_byDate_144 (by decide) ?_
            exact ih ((x5 + (0 : Int32))) ((x6 + (1 : Int32))) _ _ _ hF Z (lv_sub hl [3, 4, 5, 6, 7, 1, 0] rfl)
          · rw [if_pos c10] at hF
            refine lv_iconst (v := (1 : Int32)) hx hb dX5_byDate_78 (by decide) ?_
            refine lv_goto (tgt := 83) hx hb dX5_byDate_79 (by decide) ?_
            refine lv_istore (lv' := [(7, .int (1 : Int32)), (0, .ref (am 0)), (1, .int x1), (2, .int x2), (3, .int x3), (4, .int x4), (5, .int x5), (6, .int x6)]) hx hb dX5_byDate_83 hl (by decide) rfl (fun ls hl => ?_)
            refine lv_iload hx hb dX5_byDate_85 (lv_at hl 6 rfl) ?_
            refine lv_iload hx hb dX5_byDate_87 (lv_at hl 0 rfl) ?_
            refine lv_if_eq (tgt := 137) hx hb dX5_byDate_89 (by decide) (fun c12 => absurd c12 (by decide)) (fun _ => ?_)
            refine lv_aload_n hx hb dX5_byDate_92 rfl (lv_at hl 1 rfl) ?_
            refine lv_iload hx hb dX5_byDate_93 (lv_at hl 7 rfl) ?_
            refine lv_iconst (v := (5 : Int32)) hx hb dX5_byDate_95 (by decide) ?_
            obtain ⟨v13, h14, hF⟩ := obind hF
            refine kr_i (As := [.int x6, .int (5 : Int32)]) Fc hA Z Lens.all (c_X5_of l D cI cS am ρ x6 (5 : Int32) v13 h14) mL_RX5_73 v_X5_of ⟨rfl, rfl⟩ ⟨Nat.le_of_ble_eq_true rfl, Nat.le_of_ble_eq_true rfl⟩ ⟨Nat.zero_le _, Nat.zero_le _⟩ 0 5 rfl rfl rfl hl (Nat.le_of_ble_eq_true rfl) dX5_byDate_96 rfl (fun H locs Z => ?_)
            refine lv_aload_n hx hb dX5_byDate_99 rfl (lv_at hl 1 rfl) ?_
            refine lv_iload hx hb dX5_byDate_100 (lv_at hl 5 rfl) ?_
            refine lv_iconst (v := (5 : Int32)) hx hb dX5_byDate_102 (by decide) ?_
            obtain ⟨v15, h16, hF⟩ := obind hF
            refine kr_i (As := [.int x4, .int (5 : Int32)]) Fc hA Z Lens.all (c_X5_of l D cI cS am ρ x4 (5 : Int32) v15 h16) mL_RX5_73 v_X5_of ⟨rfl, rfl⟩ ⟨Nat.le_of_ble_eq_true rfl, Nat.le_of_ble_eq_true rfl⟩ ⟨Nat.zero_le _, Nat.zero_le _⟩ 0 5 rfl rfl rfl hl (Nat.le_of_ble_eq_true rfl) dX5_byDate_103 rfl (fun H locs Z => ?_)
            refine lv_icmp_lt (tgt := 133) hx hb dX5_byDate_106 (by decide) (fun c17 => ?_) (fun c17 => ?_)
            · rw [if_pos c17] at hF
              refine lv_iconst (v := (1 : Int32)) hx hb dX5_byDate_133 (by decide) ?_
              refine lv_goto (tgt := 138) hx hb dX5_byDate_134 (by decide) ?_
              refine lv_iadd hx hb dX5_byDate_138 ?_
              refine lv_istore (lv' := [(5, .int (x5 + (1 : Int32))), (7, .int (1 : Int32)), (0, .ref (am 0)), (1, .int x1), (2, .int x2), (3, .int x3), (4, .int x4), (6, .int x6)]) hx hb dX5_byDate_139 hl (by decide) rfl (fun ls hl => ?_)
              refine lv_iinc (v := (x6 + (1 : Int32))) (lv' := [(6, .int (x6 + (1 : Int32))), (5, .int (x5 + (1 : Int32))), (7, .int (1 : Int32)), (0, .ref (am 0)), (1, .int x1), (2, .int x2), (3, .int x3), (4, .int x4)]) hx hb dX5_byDate_141 hl (k := 7) rfl (by rfl) (by decide) rfl (fun ls hl => ?_)
              refine lv_goto (tgt := 45) hx hb dX5_byDate_144 (by decide) ?_
              exact ih ((x5 + (1 : Int32))) ((x6 + (1 : Int32))) _ _ _ hF Z (lv_sub hl [3, 4, 5, 6, 7, 1, 0] rfl)
            · rw [if_neg c17] at hF
              refine lv_aload_n hx hb dX5_byDate_109 rfl (lv_at hl 1 rfl) ?_
              refine lv_iload hx hb dX5_byDate_110 (lv_at hl 7 rfl) ?_
              refine lv_iconst (v := (5 : Int32)) hx hb dX5_byDate_112 (by decide) ?_
              obtain ⟨v18, h19, hF⟩ := obind hF
              refine kr_i (As := [.int x6, .int (5 : Int32)]) Fc hA Z Lens.all (c_X5_of l D cI cS am ρ x6 (5 : Int32) v18 h19) mL_RX5_73 v_X5_of ⟨rfl, rfl⟩ ⟨Nat.le_of_ble_eq_true rfl, Nat.le_of_ble_eq_true rfl⟩ ⟨Nat.zero_le _, Nat.zero_le _⟩ 0 5 rfl rfl rfl hl (Nat.le_of_ble_eq_true rfl) dX5_byDate_113 rfl (fun H locs Z => ?_)
              refine lv_aload_n hx hb dX5_byDate_116 rfl (lv_at hl 1 rfl) ?_
              refine lv_iload hx hb dX5_byDate_117 (lv_at hl 5 rfl) ?_
              refine lv_iconst (v := (5 : Int32)) hx hb dX5_byDate_119 (by decide) ?_
              obtain ⟨v20, h21, hF⟩ := obind hF
              refine kr_i (As := [.int x4, .int (5 : Int32)]) Fc hA Z Lens.all (c_X5_of l D cI cS am ρ x4 (5 : Int32) v20 h21) mL_RX5_73 v_X5_of ⟨rfl, rfl⟩ ⟨Nat.le_of_ble_eq_true rfl, Nat.le_of_ble_eq_true rfl⟩ ⟨Nat.zero_le _, Nat.zero_le _⟩ 0 5 rfl rfl rfl hl (Nat.le_of_ble_eq_true rfl) dX5_byDate_120 rfl (fun H locs Z => ?_)
              refine lv_icmp_ne (tgt := 137) hx hb dX5_byDate_123 (by decide) (fun c22 => ?_) (fun c22 => ?_)
              · rw [if_neg c22] at hF
                refine lv_iconst (v := (0 : Int32)) hx hb dX5_byDate_137 (by decide) ?_
                refine lv_iadd hx hb dX5_byDate_138 ?_
                refine lv_istore (lv' := [(5, .int (x5 + (0 : Int32))), (7, .int (1 : Int32)), (0, .ref (am 0)), (1, .int x1), (2, .int x2), (3, .int x3), (4, .int x4), (6, .int x6)]) hx hb dX5_byDate_139 hl (by decide) rfl (fun ls hl => ?_)
                refine lv_iinc (v := (x6 + (1 : Int32))) (lv' := [(6, .int (x6 + (1 : Int32))), (5, .int (x5 + (0 : Int32))), (7, .int (1 : Int32)), (0, .ref (am 0)), (1, .int x1), (2, .int x2), (3, .int x3), (4, .int x4)]) hx hb dX5_byDate_141 hl (k := 7) rfl (by rfl) (by decide) rfl (fun ls hl => ?_)
                refine lv_goto (tgt := 45) hx hb dX5_byDate_144 (by decide) ?_
                exact ih ((x5 + (0 : Int32))) ((x6 + (1 : Int32))) _ _ _ hF Z (lv_sub hl [3, 4, 5, 6, 7, 1, 0] rfl)
              · rw [if_pos c22] at hF
                refine lv_iload hx hb dX5_byDate_126 (lv_at hl 7 rfl) ?_
                refine lv_iload hx hb dX5_byDate_128 (lv_at hl 5 rfl) ?_
                refine lv_icmp_ge (tgt := 137) hx hb dX5_byDate_130 (by decide) (fun c23 => ?_) (fun c23 => ?_)
                · rw [if_pos c23] at hF
                  refine lv_iconst (v := (0 : Int32)) hx hb dX5_byDate_137 (by decide) ?_
                  refine lv_iadd hx hb dX5_byDate_138 ?_
                  refine lv_istore (lv' := [(5, .int (x5 + (0 : Int32))), (7, .int (1 : Int32)), (0, .ref (am 0)), (1, .int x1), (2, .int x2), (3, .int x3), (4, .int x4), (6, .int x6)]) hx hb dX5_byDate_139 hl (by decide) rfl (fun ls hl => ?_)
                  refine lv_iinc (v := (x6 + (1 : Int32))) (lv' := [(6, .int (x6 + (1 : Int32))), (5, .int (x5 + (0 : Int32))), (7, .int (1 : Int32)), (0, .ref (am 0)), (1, .int x1), (2, .int x2), (3, .int x3), (4, .int x4)]) hx hb dX5_byDate_141 hl (k := 7) rfl (by rfl) (by decide) rfl (fun ls hl => ?_)
                  refine lv_goto (tgt := 45) hx hb dX5_byDate_144 (by decide) ?_
                  exact ih ((x5 + (0 : Int32))) ((x6 + (1 : Int32))) _ _ _ hF Z (lv_sub hl [3, 4, 5, 6, 7, 1, 0] rfl)
                · rw [if_neg c23] at hF
                  refine lv_iconst (v := (1 : Int32)) hx hb dX5_byDate_133 (by decide) ?_
                  refine lv_goto (tgt := 138) hx hb dX5_byDate_134 (by decide) ?_
                  refine lv_iadd hx hb dX5_byDate_138 ?_
                  refine lv_istore (lv' := [(5, .int (x5 + (1 : Int32))), (7, .int (1 : Int32)), (0, .ref (am 0)), (1, .int x1), (2, .int x2), (3, .int x3), (4, .int x4), (6, .int x6)]) hx hb dX5_byDate_139 hl (by decide) rfl (fun ls hl => ?_)
                  refine lv_iinc (v := (x6 + (1 : Int32))) (lv' := [(6, .int (x6 + (1 : Int32))), (5, .int (x5 + (1 : Int32))), (7, .int (1 : Int32)), (0, .ref (am 0)), (1, .int x1), (2, .int x2), (3, .int x3), (4, .int x4)]) hx hb dX5_byDate_141 hl (k := 7) rfl (by rfl) (by decide) rfl (fun ls hl => ?_)
                  refine lv_goto (tgt := 45) hx hb dX5_byDate_144 (by decide) ?_
                  exact ih ((x5 + (1 : Int32))) ((x6 + (1 : Int32))) _ _ _ hF Z (lv_sub hl [3, 4, 5, 6, 7, 1, 0] rfl)
  have L3 : ∀ (x1 : Int32) (x2 : Int32) (x3 : Int32) (k : Nat) (x4 : Int32) (H : Heap) (locs : List Loc) (ls : Array Slot), X5_byDate_L3 ρ x1 x2 x3  k x4 = some F → Ix D A s (mW am cI ρ) H locs → lv_has ls 8 [(0, .ref (am 0)), (1, .int x1), (2, .int x2), (3, .int x3), (4, .int x4)] → W p l e rm_X5_byDate s m args below meth c H locs 0 0 Q (F0 m 3 ls []) := by
    intro x1 x2 x3 k
    induction k with
    | zero => intro x4 H locs ls hF; rw [X5_byDate_L3] at hF; cases hF
    | succ k ih =>
      intro x4 H locs ls hF Z hl
      rw [X5_byDate_L3] at hF
      refine lv_iload hx hb dX5_byDate_3 (lv_at hl 4 rfl) ?_
      refine lv_aload_n hx hb dX5_byDate_5 rfl (lv_at hl 0 rfl) ?_
      refine kget Fc Z inX5 0 rfl rfl 0 (by decide) mF_RX5_11 rfl rfl dX5_byDate_6 ?_
      refine lv_iconst (v := (1 : Int32)) hx hb dX5_byDate_9 (by decide) ?_
      obtain ⟨v24, h25, hF⟩ := obind hF
      refine kald Fc Z 1 rfl h25 dX5_byDate_10 ?_
      refine lv_icmp_ge (tgt := 162) hx hb dX5_byDate_11 (by decide) (fun c26 => ?_) (fun c26 => ?_)
      · rw [if_pos c26] at hF
        refine lv_bipush (v := (-2 : Int32)) hx hb dX5_byDate_162 (by decide) ?_
        exact kret (-2 : Int32) ρ _ _ _ _ ⟨(Option.some.inj hF), rfl⟩ Z dX5_byDate_164
      · rw [if_neg c26] at hF
        refine lv_aload_n hx hb dX5_byDate_14 rfl (lv_at hl 0 rfl) ?_
        refine lv_iload hx hb dX5_byDate_15 (lv_at hl 4 rfl) ?_
        refine lv_iconst (v := (3 : Int32)) hx hb dX5_byDate_17 (by decide) ?_
        obtain ⟨v27, h28, hF⟩ := obind hF
        refine kr_i (As := [.int x4, .int (3 : Int32)]) Fc hA Z Lens.all (c_X5_of l D cI cS am ρ x4 (3 : Int32) v27 h28) mL_RX5_73 v_X5_of ⟨rfl, rfl⟩ ⟨Nat.le_of_ble_eq_true rfl, Nat.le_of_ble_eq_true rfl⟩ ⟨Nat.zero_le _, Nat.zero_le _⟩ 0 5 rfl rfl rfl hl (Nat.le_of_ble_eq_true rfl) dX5_byDate_18 rfl (fun H locs Z => ?_)
        refine lv_iload_n hx hb dX5_byDate_21 rfl (lv_at hl 1 rfl) ?_
        refine lv_icmp_ne (tgt := 156) hx hb dX5_byDate_22 (by decide) (fun c29 => ?_) (fun c29 => ?_)
        · rw [if_neg c29] at hF
          refine lv_iinc (v := (x4 + (1 : Int32))) (lv' := [(4, .int (x4 + (1 : Int32))), (0, .ref (am 0)), (1, .int x1), (2, .int x2), (3, .int x3)]) hx hb dX5_byDate_156 hl (k := 4) rfl (by rfl) (by decide) rfl (fun ls hl => ?_)
          refine lv_goto (tgt := 3) hx hb dX5_byDate_159 (by decide) ?_
          exact ih ((x4 + (1 : Int32))) _ _ _ hF Z (lv_sub hl [1, 2, 3, 4, 0] rfl)
        · rw [if_pos c29] at hF
          refine lv_aload_n hx hb dX5_byDate_25 rfl (lv_at hl 0 rfl) ?_
          refine lv_iload hx hb dX5_byDate_26 (lv_at hl 4 rfl) ?_
          refine lv_iconst (v := (4 : Int32)) hx hb dX5_byDate_28 (by decide) ?_
          obtain ⟨v30, h31, hF⟩ := obind hF
          refine kr_i (As := [.int x4, .int (4 : Int32)]) Fc hA Z Lens.all (c_X5_of l D cI cS am ρ x4 (4 : Int32) v30 h31) mL_RX5_73 v_X5_of ⟨rfl, rfl⟩ ⟨Nat.le_of_ble_eq_true rfl, Nat.le_of_ble_eq_true rfl⟩ ⟨Nat.zero_le _, Nat.zero_le _⟩ 0 5 rfl rfl rfl hl (Nat.le_of_ble_eq_true rfl) dX5_byDate_29 rfl (fun H locs Z => ?_)
          refine lv_iload_n hx hb dX5_byDate_32 rfl (lv_at hl 2 rfl) ?_
          refine lv_icmp_eq (tgt := 39) hx hb dX5_byDate_33 (by decide) (fun c32 => ?_) (fun c32 => ?_)
          · rw [if_pos c32] at hF
            refine lv_iconst (v := (0 : Int32)) hx hb dX5_byDate_39 (by decide) ?_
            refine lv_istore (lv' := [(5, .int (0 : Int32)), (0, .ref (am 0)), (1, .int x1), (2, .int x2), (3, .int x3), (4, .int x4)]) hx hb dX5_byDate_40 hl (by decide) rfl (fun ls hl => ?_)
            refine lv_iconst (v := (0 : Int32)) hx hb dX5_byDate_42 (by decide) ?_
            refine lv_istore (lv' := [(6, .int (0 : Int32)), (5, .int (0 : Int32)), (0, .ref (am 0)), (1, .int x1), (2, .int x2), (3, .int x3), (4, .int x4)]) hx hb dX5_byDate_43 hl (by decide) rfl (fun ls hl => ?_)
            refine L45 x1 x2 x3 x4 _ ?_ _ (0 : Int32) (0 : Int32) _ _ _ hF Z (lv_sub hl [2, 3, 4, 5, 6, 1, 0] rfl)
            intro y45_5 H locs ls hF Z hl
            refine lv_iload hx hb dX5_byDate_147 (lv_at hl 5 rfl) ?_
            refine lv_iload_n hx hb dX5_byDate_149 rfl (lv_at hl 3 rfl) ?_
            refine lv_icmp_ne (tgt := 156) hx hb dX5_byDate_150 (by decide) (fun c33 => ?_) (fun c33 => ?_)
            · rw [if_neg c33] at hF
              refine lv_iinc (v := (x4 + (1 : Int32))) (lv' := [(4, .int (x4 + (1 : Int32))), (0, .ref (am 0)), (1, .int x1), (2, .int x2), (3, .int x3), (5, .int y45_5)]) hx hb dX5_byDate_156 hl (k := 4) rfl (by rfl) (by decide) rfl (fun ls hl => ?_)
              refine lv_goto (tgt := 3) hx hb dX5_byDate_159 (by decide) ?_
              exact ih ((x4 + (1 : Int32))) _ _ _ hF Z (lv_sub hl [1, 2, 3, 4, 0] rfl)
            · rw [if_pos c33] at hF
              refine lv_iload hx hb dX5_byDate_153 (lv_at hl 4 rfl) ?_
              exact kret x4 ρ _ _ _ _ ⟨(Option.some.inj hF), rfl⟩ Z dX5_byDate_155
          · rw [if_neg c32] at hF
            refine lv_goto (tgt := 156) hx hb dX5_byDate_36 (by decide) ?_
            refine lv_iinc (v := (x4 + (1 : Int32))) (lv' := [(4, .int (x4 + (1 : Int32))), (0, .ref (am 0)), (1, .int x1), (2, .int x2), (3, .int x3)]) hx hb dX5_byDate_156 hl (k := 4) rfl (by rfl) (by decide) rfl (fun ls hl => ?_)
            refine lv_goto (tgt := 3) hx hb dX5_byDate_159 (by decide) ?_
            exact ih ((x4 + (1 : Int32))) _ _ _ hF Z (lv_sub hl [1, 2, 3, 4, 0] rfl)
  unfold X5_byDate at hF
  refine lv_iconst (v := (0 : Int32)) hx hb dX5_byDate_0 (by decide) ?_
  refine lv_istore (lv' := [(4, .int (0 : Int32)), (0, .ref (am 0)), (1, .int p1), (2, .int p2), (3, .int p3)]) hx hb dX5_byDate_1 hl (by decide) rfl (fun ls hl => ?_)
  exact L3 p1 p2 p3 FU (0 : Int32) _ _ _ hF Z (lv_sub hl [1, 2, 3, 4, 0] rfl)
def X5_arriving (ρ : Ms) (p1 p2 : Int32) : Option (Int32) := if (bi (X5_isBranch p1)) = 0 then (some (-1 : Int32)) else (X5_byDate ρ (2 : Int32) p1 p2).bind fun v2 => some v2
def rm_X5_arriving : Room := { frames := 2, cells := 0, slots := 0, locals := 49 }
theorem v_X5_arriving : WdV RX5 yX5_arriving cX5_arriving 3 (some .int) 2 := ⟨mI_X5_arriving, mS_X5_arriving, mZ_RX5, mC_X5_arriving, by decide +kernel⟩
set_option maxHeartbeats 8000000 in
set_option maxRecDepth 100000 in
theorem c_X5_arriving (l : Launch) (D : va_G) (cI cS : ClassId) (am : Nat → Nat) (ρ : Ms) (p1 p2 : Int32) (F : Int32) (hF : X5_arriving ρ p1 p2 = some F) : MI l yX5_arriving cX5_arriving 3 (some .int) rm_X5_arriving D cI cS [.ref (am 0), .int p1, .int p2] (mW am cI ρ) (mW am cI) (fun r u' => r = F ∧ u' = ρ) := by
  refine MI.mk RX5 rfl .int rfl (by decide) (Nat.le_of_ble_eq_true rfl) (fun _ _ _ => rfl) ?_
  intro p e s m args below meth c A Q ls Fc hin hA Z kret hl
  obtain ⟨hx, hb, hml, hown, hts, hKN⟩ := id Fc
  replace hl : lv_has ls 3 [(0, .ref (am 0)), (1, .int p1), (2, .int p2)] := hl
  unfold X5_arriving at hF
  refine lv_iload_n hx hb dX5_arriving_0 rfl (lv_at hl 1 rfl) ?_
  refine ks_i (As := [.int p1]) Fc hA Z (c_X5_isBranch l D cI cS p1 (X5_isBranch p1) rfl) mL_RX5_93 v_X5_isBranch ⟨rfl, rfl⟩ ⟨Nat.le_of_ble_eq_true rfl, Nat.le_of_ble_eq_true rfl⟩ ⟨Nat.zero_le _, Nat.zero_le _⟩ rfl hl (Nat.le_of_ble_eq_true rfl) dX5_arriving_1 rfl (fun H locs Z => ?_)
  refine lv_if_eq (tgt := 17) hx hb dX5_arriving_4 (by decide) (fun c1 => ?_) (fun c1 => ?_)
  · rw [if_pos c1] at hF
    refine lv_iconst (v := (-1 : Int32)) hx hb dX5_arriving_17 (by decide) ?_
    exact kret (-1 : Int32) ρ _ _ _ _ ⟨(Option.some.inj hF), rfl⟩ Z dX5_arriving_18
  · rw [if_neg c1] at hF
    refine lv_aload_n hx hb dX5_arriving_7 rfl (lv_at hl 0 rfl) ?_
    refine lv_iconst (v := (2 : Int32)) hx hb dX5_arriving_8 (by decide) ?_
    refine lv_iload_n hx hb dX5_arriving_9 rfl (lv_at hl 1 rfl) ?_
    refine lv_iload_n hx hb dX5_arriving_10 rfl (lv_at hl 2 rfl) ?_
    obtain ⟨v2, h3, hF⟩ := obind hF
    refine kr_i (As := [.int (2 : Int32), .int p1, .int p2]) Fc hA Z Lens.all (c_X5_byDate l D cI cS am ρ (2 : Int32) p1 p2 v2 h3) mL_RX5_207 v_X5_byDate ⟨rfl, rfl⟩ ⟨Nat.le_of_ble_eq_true rfl, Nat.le_of_ble_eq_true rfl⟩ ⟨Nat.zero_le _, Nat.zero_le _⟩ 0 5 rfl rfl rfl hl (Nat.le_of_ble_eq_true rfl) dX5_arriving_11 rfl (fun H locs Z => ?_)
    refine lv_goto (tgt := 18) hx hb dX5_arriving_14 (by decide) ?_
    exact kret v2 ρ _ _ _ _ ⟨(Option.some.inj hF), rfl⟩ Z dX5_arriving_18
def X5_owes_L21 (x1 : Int32) (x2 : Int32) (x3 : Int32) (x4 : Int32) : Nat → Int32 → Ms → Option (Ms)
  | 0, _, _ => none
  | k + 1, x5, ρ => if (681 : Int32) ≤ (x5 + (5 : Int32)) then ((rdA (ρ.1.1 0) 681 (4 : Int32)).bind fun v2 => (wrA (ρ.1.1 0) 681 (4 : Int32) ((v2 - (1 : Int32)))).bind fun g4 => bnd (msA ρ 0 g4) fun ρ6 => (rdA (ρ6.1.1 0) 681 (4 : Int32)).bind fun v8 => (wrA (ρ6.1.1 0) 681 (((381 : Int32) + ((5 : Int32) * v8))) x1).bind fun g10 => bnd (msA ρ6 0 g10) fun ρ12 => (wrA (ρ12.1.1 0) 681 ((((381 : Int32) + ((5 : Int32) * v8)) + (1 : Int32))) x2).bind fun g14 => bnd (msA ρ12 0 g14) fun ρ16 => (wrA (ρ16.1.1 0) 681 ((((381 : Int32) + ((5 : Int32) * v8)) + (2 : Int32))) x3).bind fun g18 => bnd (msA ρ16 0 g18) fun ρ20 => (wrA (ρ20.1.1 0) 681 ((((381 : Int32) + ((5 : Int32) * v8)) + (3 : Int32))) x4).bind fun g22 => bnd (msA ρ20 0 g22) fun ρ24 => (rdA (ρ24.1.1 0) 681 (0 : Int32)).bind fun v26 => (wrA (ρ24.1.1 0) 681 ((((381 : Int32) + ((5 : Int32) * v8)) + (4 : Int32))) v26).bind fun g28 => bnd (msA ρ24 0 g28) fun ρ30 => (rdA (ρ30.1.1 0) 681 (4 : Int32)).bind fun v32 => (wrA (ρ30.1.1 0) 681 (4 : Int32) ((v32 + (1 : Int32)))).bind fun g34 => bnd (msA ρ30 0 g34) fun ρ36 => (rdA (ρ36.1.1 0) 681 (((253 : Int32) + ((4 : Int32) * x2)))).bind fun v38 => (wrA (ρ36.1.1 0) 681 (((253 : Int32) + ((4 : Int32) * x2))) (v38 + x3)).bind fun g40 => bnd (msA ρ36 0 g40) fun ρ42 => if x3 ≤ 0 then ((rdA (ρ42.1.1 0) 681 ((((253 : Int32) + ((4 : Int32) * x2)) + (3 : Int32)))).bind fun v45 => (wrA (ρ42.1.1 0) 681 ((((253 : Int32) + ((4 : Int32) * x2)) + (3 : Int32))) ((v45 + (jab x3)))).bind fun g47 => bnd (msA ρ42 0 g47) fun ρ49 => some ρ49) else (rdA (ρ42.1.1 0) 681 ((((253 : Int32) + ((4 : Int32) * x2)) + (2 : Int32)))).bind fun v51 => (wrA (ρ42.1.1 0) 681 ((((253 : Int32) + ((4 : Int32) * x2)) + (2 : Int32))) ((v51 + (jab x3)))).bind fun g53 => bnd (msA ρ42 0 g53) fun ρ55 => some ρ55) else (rdA (ρ.1.1 0) 681 ((x5 + (5 : Int32)))).bind fun v57 => (wrA (ρ.1.1 0) 681 x5 v57).bind fun g59 => bnd (msA ρ 0 g59) fun ρ61 => X5_owes_L21 x1 x2 x3 x4 k ((x5 + (1 : Int32))) ρ61
def X5_owes (ρ : Ms) (p1 p2 p3 p4 : Int32) : Option (Ms) := if p3 = 0 then (some ρ) else (rdA (ρ.1.1 0) 681 (4 : Int32)).bind fun v64 => if v64 = (60 : Int32) then (X5_owes_L21 p1 p2 p3 p4 FU (381 : Int32) ρ) else (rdA (ρ.1.1 0) 681 (4 : Int32)).bind fun v67 => (wrA (ρ.1.1 0) 681 (((381 : Int32) + ((5 : Int32) * v67))) p1).bind fun g69 => bnd (msA ρ 0 g69) fun ρ71 => (wrA (ρ71.1.1 0) 681 ((((381 : Int32) + ((5 : Int32) * v67)) + (1 : Int32))) p2).bind fun g73 => bnd (msA ρ71 0 g73) fun ρ75 => (wrA (ρ75.1.1 0) 681 ((((381 : Int32) + ((5 : Int32) * v67)) + (2 : Int32))) p3).bind fun g77 => bnd (msA ρ75 0 g77) fun ρ79 => (wrA (ρ79.1.1 0) 681 ((((381 : Int32) + ((5 : Int32) * v67)) + (3 : Int32))) p4).bind fun g81 => bnd (msA ρ79 0 g81) fun ρ83 => (rdA (ρ83.1.1 0) 681 (0 : Int32)).bind fun v85 => (wrA (ρ83.1.1 0) 681 ((((381 : Int32) + ((5 : Int32) * v67)) + (4 : Int32))) v85).bind fun g87 => bnd (msA ρ83 0 g87) fun ρ89 => (rdA (ρ89.1.1 0) 681 (4 : Int32)).bind fun v91 => (wrA (ρ89.1.1 0) 681 (4 : Int32) ((v91 + (1 : Int32)))).bind fun g93 => bnd (msA ρ89 0 g93) fun ρ95 => (rdA (ρ95.1.1 0) 681 (((253 : Int32) + ((4 : Int32) * p2)))).bind fun v97 => (wrA (ρ95.1.1 0) 681 (((253 : Int32) + ((4 : Int32) * p2))) (v97 + p3)).bind fun g99 => bnd (msA ρ95 0 g99) fun ρ101 => if p3 ≤ 0 then ((rdA (ρ101.1.1 0) 681 ((((253 : Int32) + ((4 : Int32) * p2)) + (3 : Int32)))).bind fun v104 => (wrA (ρ101.1.1 0) 681 ((((253 : Int32) + ((4 : Int32) * p2)) + (3 : Int32))) ((v104 + (jab p3)))).bind fun g106 => bnd (msA ρ101 0 g106) fun ρ108 => some ρ108) else (rdA (ρ101.1.1 0) 681 ((((253 : Int32) + ((4 : Int32) * p2)) + (2 : Int32)))).bind fun v110 => (wrA (ρ101.1.1 0) 681 ((((253 : Int32) + ((4 : Int32) * p2)) + (2 : Int32))) ((v110 + (jab p3)))).bind fun g112 => bnd (msA ρ101 0 g112) fun ρ114 => some ρ114
def rm_X5_owes : Room := { frames := 1, cells := 0, slots := 0, locals := 23 }
theorem v_X5_owes : WdV RX5 yX5_owes cX5_owes 6 none 4 := ⟨mI_X5_owes, mS_X5_owes, mZ_RX5, mC_X5_owes, by decide +kernel⟩
set_option maxHeartbeats 8000000 in
set_option maxRecDepth 100000 in
theorem c_X5_owes (l : Launch) (D : va_G) (cI cS : ClassId) (am : Nat → Nat) (ρ : Ms) (p1 p2 p3 p4 : Int32) (F : Ms) (hF : X5_owes ρ p1 p2 p3 p4 = some F) : MV l yX5_owes cX5_owes 6 rm_X5_owes D cI cS [.ref (am 0), .int p1, .int p2, .int p3, .int p4] (mW am cI ρ) (mW am cI) (fun u => u = F ∧ True) := by
  refine MV.mk RX5 rfl (by decide) (Nat.le_of_ble_eq_true rfl) ?_
  intro p e s m args below meth c A Q ls Fc hin hA Z kret hl
  obtain ⟨hx, hb, hml, hown, hts, hKN⟩ := id Fc
  replace hl : lv_has ls 6 [(0, .ref (am 0)), (1, .int p1), (2, .int p2), (3, .int p3), (4, .int p4)] := hl
  have L21 : ∀ (x1 : Int32) (x2 : Int32) (x3 : Int32) (x4 : Int32) (k : Nat) (x5 : Int32) (ρ : Ms) (H : Heap) (locs : List Loc) (ls : Array Slot), X5_owes_L21 x1 x2 x3 x4  k x5 ρ = some F → Ix D A s (mW am cI ρ) H locs → lv_has ls 6 [(0, .ref (am 0)), (1, .int x1), (2, .int x2), (3, .int x3), (4, .int x4), (5, .int x5)] → W p l e rm_X5_owes s m args below meth c H locs 0 0 Q (F0 m 21 ls []) := by
    intro x1 x2 x3 x4 k
    induction k with
    | zero => intro x5 ρ H locs ls hF; rw [X5_owes_L21] at hF; cases hF
    | succ k ih =>
      intro x5 ρ H locs ls hF Z hl
      rw [X5_owes_L21] at hF
      refine lv_iload hx hb dX5_owes_21 (lv_at hl 5 rfl) ?_
      refine lv_iconst (v := (5 : Int32)) hx hb dX5_owes_23 (by decide) ?_
      refine lv_iadd hx hb dX5_owes_24 ?_
      refine lv_sipush (v := (681 : Int32)) hx hb dX5_owes_25 (by decide) ?_
      refine lv_icmp_ge (tgt := 53) hx hb dX5_owes_28 (by decide) (fun c1 => ?_) (fun c1 => ?_)
      · rw [if_pos c1] at hF
        refine lv_aload_n hx hb dX5_owes_53 rfl (lv_at hl 0 rfl) ?_
        refine kget Fc Z inX5 0 rfl rfl 0 (by decide) mF_RX5_11 rfl rfl dX5_owes_54 ?_
        refine lv_iconst (v := (4 : Int32)) hx hb dX5_owes_57 (by decide) ?_
        refine lv_dup2_11 hx hb dX5_owes_58 rfl rfl ?_
        obtain ⟨v2, h3, hF⟩ := obind hF
        refine kald Fc Z 1 rfl h3 dX5_owes_59 ?_
        refine lv_iconst (v := (1 : Int32)) hx hb dX5_owes_60 (by decide) ?_
        refine lv_isub hx hb dX5_owes_61 ?_
        obtain ⟨g4, h5, hF⟩ := obind hF
        obtain ⟨ρ6, e7, hF⟩ := bnd_el hF
        refine kast (w' := mW am cI ρ6) Fc Z 1 rfl h5 (by rw [e7]; rfl) dX5_owes_62 (fun H locs Z => ?_)
        refine lv_sipush (v := (381 : Int32)) hx hb dX5_owes_63 (by decide) ?_
        refine lv_iconst (v := (5 : Int32)) hx hb dX5_owes_66 (by decide) ?_
        refine lv_aload_n hx hb dX5_owes_67 rfl (lv_at hl 0 rfl) ?_
        refine kget Fc Z inX5 0 rfl rfl 0 (by decide) mF_RX5_11 rfl rfl dX5_owes_68 ?_
        refine lv_iconst (v := (4 : Int32)) hx hb dX5_owes_71 (by decide) ?_
        obtain ⟨v8, h9, hF⟩ := obind hF
        refine kald Fc Z 1 rfl h9 dX5_owes_72 ?_
        refine lv_imul hx hb dX5_owes_73 ?_
        refine lv_iadd hx hb dX5_owes_74 ?_
        refine lv_istore (lv' := [(5, .int ((381 : Int32) + ((5 : Int32) * v8))), (0, .ref (am 0)), (1, .int x1), (2, .int x2), (3, .int x3), (4, .int x4)]) hx hb dX5_owes_75 hl (by decide) rfl (fun ls hl => ?_)
        refine lv_aload_n hx hb dX5_owes_77 rfl (lv_at hl 1 rfl) ?_
        refine kget Fc Z inX5 0 rfl rfl 0 (by decide) mF_RX5_11 rfl rfl dX5_owes_78 ?_
        refine lv_iload hx hb dX5_owes_81 (lv_at hl 0 rfl) ?_
        refine lv_iload_n hx hb dX5_owes_83 rfl (lv_at hl 2 rfl) ?_
        obtain ⟨g10, h11, hF⟩ := obind hF
        obtain ⟨ρ12, e13, hF⟩ := bnd_el hF
        refine kast (w' := mW am cI ρ12) Fc Z 1 rfl h11 (by rw [e13]; rfl) dX5_owes_84 (fun H locs Z => ?_)
        refine lv_aload_n hx hb dX5_owes_85 rfl (lv_at hl 1 rfl) ?_
        refine kget Fc Z inX5 0 rfl rfl 0 (by decide) mF_RX5_11 rfl rfl dX5_owes_86 ?_
        refine lv_iload hx hb dX5_owes_89 (lv_at hl 0 rfl) ?_
        refine lv_iconst (v := (1 : Int32)) hx hb dX5_owes_91 (by decide) ?_
        refine lv_iadd hx hb dX5_owes_92 ?_
        refine lv_iload_n hx hb dX5_owes_93 rfl (lv_at hl 3 rfl) ?_
        obtain ⟨g14, h15, hF⟩ := obind hF
        obtain ⟨ρ16, e17, hF⟩ := bnd_el hF
        refine kast (w' := mW am cI ρ16) Fc Z 1 rfl h15 (by rw [e17]; rfl) dX5_owes_94 (fun H locs Z => ?_)
        refine lv_aload_n hx hb dX5_owes_95 rfl (lv_at hl 1 rfl) ?_
        refine kget Fc Z inX5 0 rfl rfl 0 (by decide) mF_RX5_11 rfl rfl dX5_owes_96 ?_
        refine lv_iload hx hb dX5_owes_99 (lv_at hl 0 rfl) ?_
        refine lv_iconst (v := (2 : Int32)) hx hb dX5_owes_101 (by decide) ?_
        refine lv_iadd hx hb dX5_owes_102 ?_
        refine lv_iload_n hx hb dX5_owes_103 rfl (lv_at hl 4 rfl) ?_
        obtain ⟨g18, h19, hF⟩ := obind hF
        obtain ⟨ρ20, e21, hF⟩ := bnd_el hF
        refine kast (w' := mW am cI ρ20) Fc Z 1 rfl h19 (by rw [e21]; rfl) dX5_owes_104 (fun H locs Z => ?_)
        refine lv_aload_n hx hb dX5_owes_105 rfl (lv_at hl 1 rfl) ?_
        refine kget Fc Z inX5 0 rfl rfl 0 (by decide) mF_RX5_11 rfl rfl dX5_owes_106 ?_
        refine lv_iload hx hb dX5_owes_109 (lv_at hl 0 rfl) ?_
        refine lv_iconst (v := (3 : Int32)) hx hb dX5_owes_111 (by decide) ?_
        refine lv_iadd hx hb dX5_owes_112 ?_
        refine lv_iload hx hb dX5_owes_113 (lv_at hl 5 rfl) ?_
        obtain ⟨g22, h23, hF⟩ := obind hF
        obtain ⟨ρ24, e25, hF⟩ := bnd_el hF
        refine kast (w' := mW am cI ρ24) Fc Z 1 rfl h23 (by rw [e25]; rfl) dX5_owes_115 (fun H locs Z => ?_)
        refine lv_aload_n hx hb dX5_owes_116 rfl (lv_at hl 1 rfl) ?_
        refine kget Fc Z inX5 0 rfl rfl 0 (by decide) mF_RX5_11 rfl rfl dX5_owes_117 ?_
        refine lv_iload hx hb dX5_owes_120 (lv_at hl 0 rfl) ?_
        refine lv_iconst (v := (4 : Int32)) hx hb dX5_owes_122 (by decide) ?_
        refine lv_iadd hx hb dX5_owes_123 ?_
        refine lv_aload_n hx hb dX5_owes_124 rfl (lv_at hl 1 rfl) ?_
        refine kget Fc Z inX5 0 rfl rfl 0 (by decide) mF_RX5_11 rfl rfl dX5_owes_125 ?_
        refine lv_iconst (v := (0 : Int32)) hx hb dX5_owes_128 (by decide) ?_
        obtain ⟨v26, h27, hF⟩ := obind hF
        refine kald Fc Z 1 rfl h27 dX5_owes_129 ?_
        obtain ⟨g28, h29, hF⟩ := obind hF
        obtain ⟨ρ30, e31, hF⟩ := bnd_el hF
        refine kast (w' := mW am cI ρ30) Fc Z 1 rfl h29 (by rw [e31]; rfl) dX5_owes_130 (fun H locs Z => ?_)
        refine lv_aload_n hx hb dX5_owes_131 rfl (lv_at hl 1 rfl) ?_
        refine kget Fc Z inX5 0 rfl rfl 0 (by decide) mF_RX5_11 rfl rfl dX5_owes_132 ?_
        refine lv_iconst (v := (4 : Int32)) hx hb dX5_owes_135 (by decide) ?_
        refine lv_dup2_11 hx hb dX5_owes_136 rfl rfl ?_
        obtain ⟨v32, h33, hF⟩ := obind hF
        refine kald Fc Z 1 rfl h33 dX5_owes_137 ?_
        refine lv_iconst (v := (1 : Int32)) hx hb dX5_owes_138 (by decide) ?_
        refine lv_iadd hx hb dX5_owes_139 ?_
        obtain ⟨g34, h35, hF⟩ := obind hF
        obtain ⟨ρ36, e37, hF⟩ := bnd_el hF
        refine kast (w' := mW am cI ρ36) Fc Z 1 rfl h35 (by rw [e37]; rfl) dX5_owes_140 (fun H locs Z => ?_)
        refine lv_aload_n hx hb dX5_owes_141 rfl (lv_at hl 1 rfl) ?_
        refine kget Fc Z inX5 0 rfl rfl 0 (by decide) mF_RX5_11 rfl rfl dX5_owes_142 ?_
        refine lv_sipush (v := (253 : Int32)) hx hb dX5_owes_145 (by decide) ?_
        refine lv_iconst (v := (4 : Int32)) hx hb dX5_owes_148 (by decide) ?_
        refine lv_iload_n hx hb dX5_owes_149 rfl (lv_at hl 3 rfl) ?_
        refine lv_imul hx hb dX5_owes_150 ?_
        refine lv_iadd hx hb dX5_owes_151 ?_
        refine lv_dup2_11 hx hb dX5_owes_152 rfl rfl ?_
        obtain ⟨v38, h39, hF⟩ := obind hF
        refine kald Fc Z 1 rfl h39 dX5_owes_153 ?_
        refine lv_iload_n hx hb dX5_owes_154 rfl (lv_at hl 4 rfl) ?_
        refine lv_iadd hx hb dX5_owes_155 ?_
        obtain ⟨g40, h41, hF⟩ := obind hF
        obtain ⟨ρ42, e43, hF⟩ := bnd_el hF
        refine kast (w' := mW am cI ρ42) Fc Z 1 rfl h41 (by rw [e43]; rfl) dX5_owes_156 (fun H locs Z => ?_)
        refine lv_aload_n hx hb dX5_owes_157 rfl (lv_at hl 1 rfl) ?_
        refine kget Fc Z inX5 0 rfl rfl 0 (by decide) mF_RX5_11 rfl rfl dX5_owes_158 ?_
        refine lv_sipush (v := (253 : Int32)) hx hb dX5_owes_161 (by decide) ?_
        refine lv_iconst (v := (4 : Int32)) hx hb dX5_owes_164 (by decide) ?_
        refine lv_iload_n hx hb dX5_owes_165 rfl (lv_at hl 3 rfl) ?_
        refine lv_imul hx hb dX5_owes_166 ?_
        refine lv_iadd hx hb dX5_owes_167 ?_
        refine lv_iload_n hx hb dX5_owes_168 rfl (lv_at hl 4 rfl) ?_
        refine lv_if_le (tgt := 176) hx hb dX5_owes_169 (by decide) (fun c44 => ?_) (fun c44 => ?_)
        · rw [if_pos c44] at hF
          refine lv_iconst (v := (3 : Int32)) hx hb dX5_owes_176 (by decide) ?_
          refine lv_iadd hx hb dX5_owes_177 ?_
          refine lv_dup2_11 hx hb dX5_owes_178 rfl rfl ?_
          obtain ⟨v45, h46, hF⟩ := obind hF
          refine kald Fc Z 1 rfl h46 dX5_owes_179 ?_
          refine lv_iload_n hx hb dX5_owes_180 rfl (lv_at hl 4 rfl) ?_
          refine kabs Fc hl mL_RX5_67 (Nat.le_of_ble_eq_true rfl) (Nat.le_of_ble_eq_true rfl) ⟨Nat.zero_le _, Nat.zero_le _⟩ dX5_owes_181 ?_
          refine lv_iadd hx hb dX5_owes_184 ?_
          obtain ⟨g47, h48, hF⟩ := obind hF
          obtain ⟨ρ49, e50, hF⟩ := bnd_el hF
          refine kast (w' := mW am cI ρ49) Fc Z 1 rfl h48 (by rw [e50]; rfl) dX5_owes_185 (fun H locs Z => ?_)
          exact kret ρ49 _ _ _ _ ⟨(Option.some.inj hF), trivial⟩ Z dX5_owes_186
        · rw [if_neg c44] at hF
          refine lv_iconst (v := (2 : Int32)) hx hb dX5_owes_172 (by decide) ?_
          refine lv_goto (tgt := 177) hx hb dX5_owes_173 (by decide) ?_
          refine lv_iadd hx hb dX5_owes_177 ?_
          refine lv_dup2_11 hx hb dX5_owes_178 rfl rfl ?_
          obtain ⟨v51, h52, hF⟩ := obind hF
          refine kald Fc Z 1 rfl h52 dX5_owes_179 ?_
          refine lv_iload_n hx hb dX5_owes_180 rfl (lv_at hl 4 rfl) ?_
          refine kabs Fc hl mL_RX5_67 (Nat.le_of_ble_eq_true rfl) (Nat.le_of_ble_eq_true rfl) ⟨Nat.zero_le _, Nat.zero_le _⟩ dX5_owes_181 ?_
          refine lv_iadd hx hb dX5_owes_184 ?_
          obtain ⟨g53, h54, hF⟩ := obind hF
          obtain ⟨ρ55, e56, hF⟩ := bnd_el hF
          refine kast (w' := mW am cI ρ55) Fc Z 1 rfl h54 (by rw [e56]; rfl) dX5_owes_185 (fun H locs Z => ?_)
          exact kret ρ55 _ _ _ _ ⟨(Option.some.inj hF), trivial⟩ Z dX5_owes_186
      · rw [if_neg c1] at hF
        refine lv_aload_n hx hb dX5_owes_31 rfl (lv_at hl 0 rfl) ?_
        refine kget Fc Z inX5 0 rfl rfl 0 (by decide) mF_RX5_11 rfl rfl dX5_owes_32 ?_
        refine lv_iload hx hb dX5_owes_35 (lv_at hl 5 rfl) ?_
        refine lv_aload_n hx hb dX5_owes_37 rfl (lv_at hl 0 rfl) ?_
        refine kget Fc Z inX5 0 rfl rfl 0 (by decide) mF_RX5_11 rfl rfl dX5_owes_38 ?_
        refine lv_iload hx hb dX5_owes_41 (lv_at hl 5 rfl) ?_
        refine lv_iconst (v := (5 : Int32)) hx hb dX5_owes_43 (by decide) ?_
        refine lv_iadd hx hb dX5_owes_44 ?_
        obtain ⟨v57, h58, hF⟩ := obind hF
        refine kald Fc Z 1 rfl h58 dX5_owes_45 ?_
        obtain ⟨g59, h60, hF⟩ := obind hF
        obtain ⟨ρ61, e62, hF⟩ := bnd_el hF
        refine kast (w' := mW am cI ρ61) Fc Z 1 rfl h60 (by rw [e62]; rfl) dX5_owes_46 (fun H locs Z => ?_)
        refine lv_iinc (v := (x5 + (1 : Int32))) (lv' := [(5, .int (x5 + (1 : Int32))), (0, .ref (am 0)), (1, .int x1), (2, .int x2), (3, .int x3), (4, .int x4)]) hx hb dX5_owes_47 hl (k := 5) rfl (by rfl) (by decide) rfl (fun ls hl => ?_)
        refine lv_goto (tgt := 21) hx hb dX5_owes_50 (by decide) ?_
        exact ih ((x5 + (1 : Int32))) ρ61 _ _ _ hF Z (lv_sub hl [1, 2, 3, 4, 5, 0] rfl)
  unfold X5_owes at hF
  refine lv_iload_n hx hb dX5_owes_0 rfl (lv_at hl 3 rfl) ?_
  refine lv_if_ne (tgt := 5) hx hb dX5_owes_1 (by decide) (fun c63 => ?_) (fun c63 => ?_)
  · rw [if_neg c63] at hF
    refine lv_aload_n hx hb dX5_owes_5 rfl (lv_at hl 0 rfl) ?_
    refine kget Fc Z inX5 0 rfl rfl 0 (by decide) mF_RX5_11 rfl rfl dX5_owes_6 ?_
    refine lv_iconst (v := (4 : Int32)) hx hb dX5_owes_9 (by decide) ?_
    obtain ⟨v64, h65, hF⟩ := obind hF
    refine kald Fc Z 1 rfl h65 dX5_owes_10 ?_
    refine lv_bipush (v := (60 : Int32)) hx hb dX5_owes_11 (by decide) ?_
    refine lv_icmp_ne (tgt := 63) hx hb dX5_owes_13 (by decide) (fun c66 => ?_) (fun c66 => ?_)
    · rw [if_neg c66] at hF
      refine lv_sipush (v := (381 : Int32)) hx hb dX5_owes_63 (by decide) ?_
      refine lv_iconst (v := (5 : Int32)) hx hb dX5_owes_66 (by decide) ?_
      refine lv_aload_n hx hb dX5_owes_67 rfl (lv_at hl 0 rfl) ?_
      refine kget Fc Z inX5 0 rfl rfl 0 (by decide) mF_RX5_11 rfl rfl dX5_owes_68 ?_
      refine lv_iconst (v := (4 : Int32)) hx hb dX5_owes_71 (by decide) ?_
      obtain ⟨v67, h68, hF⟩ := obind hF
      refine kald Fc Z 1 rfl h68 dX5_owes_72 ?_
      refine lv_imul hx hb dX5_owes_73 ?_
      refine lv_iadd hx hb dX5_owes_74 ?_
      refine lv_istore (lv' := [(5, .int ((381 : Int32) + ((5 : Int32) * v67))), (0, .ref (am 0)), (1, .int p1), (2, .int p2), (3, .int p3), (4, .int p4)]) hx hb dX5_owes_75 hl (by decide) rfl (fun ls hl => ?_)
      refine lv_aload_n hx hb dX5_owes_77 rfl (lv_at hl 1 rfl) ?_
      refine kget Fc Z inX5 0 rfl rfl 0 (by decide) mF_RX5_11 rfl rfl dX5_owes_78 ?_
      refine lv_iload hx hb dX5_owes_81 (lv_at hl 0 rfl) ?_
      refine lv_iload_n hx hb dX5_owes_83 rfl (lv_at hl 2 rfl) ?_
      obtain ⟨g69, h70, hF⟩ := obind hF
      obtain ⟨ρ71, e72, hF⟩ := bnd_el hF
      refine kast (w' := mW am cI ρ71) Fc Z 1 rfl h70 (by rw [e72]; rfl) dX5_owes_84 (fun H locs Z => ?_)
      refine lv_aload_n hx hb dX5_owes_85 rfl (lv_at hl 1 rfl) ?_
      refine kget Fc Z inX5 0 rfl rfl 0 (by decide) mF_RX5_11 rfl rfl dX5_owes_86 ?_
      refine lv_iload hx hb dX5_owes_89 (lv_at hl 0 rfl) ?_
      refine lv_iconst (v := (1 : Int32)) hx hb dX5_owes_91 (by decide) ?_
      refine lv_iadd hx hb dX5_owes_92 ?_
      refine lv_iload_n hx hb dX5_owes_93 rfl (lv_at hl 3 rfl) ?_
      obtain ⟨g73, h74, hF⟩ := obind hF
      obtain ⟨ρ75, e76, hF⟩ := bnd_el hF
      refine kast (w' := mW am cI ρ75) Fc Z 1 rfl h74 (by rw [e76]; rfl) dX5_owes_94 (fun H locs Z => ?_)
      refine lv_aload_n hx hb dX5_owes_95 rfl (lv_at hl 1 rfl) ?_
      refine kget Fc Z inX5 0 rfl rfl 0 (by decide) mF_RX5_11 rfl rfl dX5_owes_96 ?_
      refine lv_iload hx hb dX5_owes_99 (lv_at hl 0 rfl) ?_
      refine lv_iconst (v := (2 : Int32)) hx hb dX5_owes_101 (by decide) ?_
      refine lv_iadd hx hb dX5_owes_102 ?_
      refine lv_iload_n hx hb dX5_owes_103 rfl (lv_at hl 4 rfl) ?_
      obtain ⟨g77, h78, hF⟩ := obind hF
      obtain ⟨ρ79, e80, hF⟩ := bnd_el hF
      refine kast (w' := mW am cI ρ79) Fc Z 1 rfl h78 (by rw [e80]; rfl) dX5_owes_104 (fun H locs Z => ?_)
      refine lv_aload_n hx hb dX5_owes_105 rfl (lv_at hl 1 rfl) ?_
      refine kget Fc Z inX5 0 rfl rfl 0 (by decide) mF_RX5_11 rfl rfl dX5_owes_106 ?_
      refine lv_iload hx hb dX5_owes_109 (lv_at hl 0 rfl) ?_
      refine lv_iconst (v := (3 : Int32)) hx hb dX5_owes_111 (by decide) ?_
      refine lv_iadd hx hb dX5_owes_112 ?_
      refine lv_iload hx hb dX5_owes_113 (lv_at hl 5 rfl) ?_
      obtain ⟨g81, h82, hF⟩ := obind hF
      obtain ⟨ρ83, e84, hF⟩ := bnd_el hF
      refine kast (w' := mW am cI ρ83) Fc Z 1 rfl h82 (by rw [e84]; rfl) dX5_owes_115 (fun H locs Z => ?_)
      refine lv_aload_n hx hb dX5_owes_116 rfl (lv_at hl 1 rfl) ?_
      refine kget Fc Z inX5 0 rfl rfl 0 (by decide) mF_RX5_11 rfl rfl dX5_owes_117 ?_
      refine lv_iload hx hb dX5_owes_120 (lv_at hl 0 rfl) ?_
      refine lv_iconst (v := (4 : Int32)) hx hb dX5_owes_122 (by decide) ?_
      refine lv_iadd hx hb dX5_owes_123 ?_
      refine lv_aload_n hx hb dX5_owes_124 rfl (lv_at hl 1 rfl) ?_
      refine kget Fc Z inX5 0 rfl rfl 0 (by decide) mF_RX5_11 rfl rfl dX5_owes_125 ?_
      refine lv_iconst (v := (0 : Int32)) hx hb dX5_owes_128 (by decide) ?_
      obtain ⟨v85, h86, hF⟩ := obind hF
      refine kald Fc Z 1 rfl h86 dX5_owes_129 ?_
      obtain ⟨g87, h88, hF⟩ := obind hF
      obtain ⟨ρ89, e90, hF⟩ := bnd_el hF
      refine kast (w' := mW am cI ρ89) Fc Z 1 rfl h88 (by rw [e90]; rfl) dX5_owes_130 (fun H locs Z => ?_)
      refine lv_aload_n hx hb dX5_owes_131 rfl (lv_at hl 1 rfl) ?_
      refine kget Fc Z inX5 0 rfl rfl 0 (by decide) mF_RX5_11 rfl rfl dX5_owes_132 ?_
      refine lv_iconst (v := (4 : Int32)) hx hb dX5_owes_135 (by decide) ?_
      refine lv_dup2_11 hx hb dX5_owes_136 rfl rfl ?_
      obtain ⟨v91, h92, hF⟩ := obind hF
      refine kald Fc Z 1 rfl h92 dX5_owes_137 ?_
      refine lv_iconst (v := (1 : Int32)) hx hb dX5_owes_138 (by decide) ?_
      refine lv_iadd hx hb dX5_owes_139 ?_
      obtain ⟨g93, h94, hF⟩ := obind hF
      obtain ⟨ρ95, e96, hF⟩ := bnd_el hF
      refine kast (w' := mW am cI ρ95) Fc Z 1 rfl h94 (by rw [e96]; rfl) dX5_owes_140 (fun H locs Z => ?_)
      refine lv_aload_n hx hb dX5_owes_141 rfl (lv_at hl 1 rfl) ?_
      refine kget Fc Z inX5 0 rfl rfl 0 (by decide) mF_RX5_11 rfl rfl dX5_owes_142 ?_
      refine lv_sipush (v := (253 : Int32)) hx hb dX5_owes_145 (by decide) ?_
      refine lv_iconst (v := (4 : Int32)) hx hb dX5_owes_148 (by decide) ?_
      refine lv_iload_n hx hb dX5_owes_149 rfl (lv_at hl 3 rfl) ?_
      refine lv_imul hx hb dX5_owes_150 ?_
      refine lv_iadd hx hb dX5_owes_151 ?_
      refine lv_dup2_11 hx hb dX5_owes_152 rfl rfl ?_
      obtain ⟨v97, h98, hF⟩ := obind hF
      refine kald Fc Z 1 rfl h98 dX5_owes_153 ?_
      refine lv_iload_n hx hb dX5_owes_154 rfl (lv_at hl 4 rfl) ?_
      refine lv_iadd hx hb dX5_owes_155 ?_
      obtain ⟨g99, h100, hF⟩ := obind hF
      obtain ⟨ρ101, e102, hF⟩ := bnd_el hF
      refine kast (w' := mW am cI ρ101) Fc Z 1 rfl h100 (by rw [e102]; rfl) dX5_owes_156 (fun H locs Z => ?_)
      refine lv_aload_n hx hb dX5_owes_157 rfl (lv_at hl 1 rfl) ?_
      refine kget Fc Z inX5 0 rfl rfl 0 (by decide) mF_RX5_11 rfl rfl dX5_owes_158 ?_
      refine lv_sipush (v := (253 : Int32)) hx hb dX5_owes_161 (by decide) ?_
      refine lv_iconst (v := (4 : Int32)) hx hb dX5_owes_164 (by decide) ?_
      refine lv_iload_n hx hb dX5_owes_165 rfl (lv_at hl 3 rfl) ?_
      refine lv_imul hx hb dX5_owes_166 ?_
      refine lv_iadd hx hb dX5_owes_167 ?_
      refine lv_iload_n hx hb dX5_owes_168 rfl (lv_at hl 4 rfl) ?_
      refine lv_if_le (tgt := 176) hx hb dX5_owes_169 (by decide) (fun c103 => ?_) (fun c103 => ?_)
      · rw [if_pos c103] at hF
        refine lv_iconst (v := (3 : Int32)) hx hb dX5_owes_176 (by decide) ?_
        refine lv_iadd hx hb dX5_owes_177 ?_
        refine lv_dup2_11 hx hb dX5_owes_178 rfl rfl ?_
        obtain ⟨v104, h105, hF⟩ := obind hF
        refine kald Fc Z 1 rfl h105 dX5_owes_179 ?_
        refine lv_iload_n hx hb dX5_owes_180 rfl (lv_at hl 4 rfl) ?_
        refine kabs Fc hl mL_RX5_67 (Nat.le_of_ble_eq_true rfl) (Nat.le_of_ble_eq_true rfl) ⟨Nat.zero_le _, Nat.zero_le _⟩ dX5_owes_181 ?_
        refine lv_iadd hx hb dX5_owes_184 ?_
        obtain ⟨g106, h107, hF⟩ := obind hF
        obtain ⟨ρ108, e109, hF⟩ := bnd_el hF
        refine kast (w' := mW am cI ρ108) Fc Z 1 rfl h107 (by rw [e109]; rfl) dX5_owes_185 (fun H locs Z => ?_)
        exact kret ρ108 _ _ _ _ ⟨(Option.some.inj hF), trivial⟩ Z dX5_owes_186
      · rw [if_neg c103] at hF
        refine lv_iconst (v := (2 : Int32)) hx hb dX5_owes_172 (by decide) ?_
        refine lv_goto (tgt := 177) hx hb dX5_owes_173 (by decide) ?_
        refine lv_iadd hx hb dX5_owes_177 ?_
        refine lv_dup2_11 hx hb dX5_owes_178 rfl rfl ?_
        obtain ⟨v110, h111, hF⟩ := obind hF
        refine kald Fc Z 1 rfl h111 dX5_owes_179 ?_
        refine lv_iload_n hx hb dX5_owes_180 rfl (lv_at hl 4 rfl) ?_
        refine kabs Fc hl mL_RX5_67 (Nat.le_of_ble_eq_true rfl) (Nat.le_of_ble_eq_true rfl) ⟨Nat.zero_le _, Nat.zero_le _⟩ dX5_owes_181 ?_
        refine lv_iadd hx hb dX5_owes_184 ?_
        obtain ⟨g112, h113, hF⟩ := obind hF
        obtain ⟨ρ114, e115, hF⟩ := bnd_el hF
        refine kast (w' := mW am cI ρ114) Fc Z 1 rfl h113 (by rw [e115]; rfl) dX5_owes_185 (fun H locs Z => ?_)
        exact kret ρ114 _ _ _ _ ⟨(Option.some.inj hF), trivial⟩ Z dX5_owes_186
    · rw [if_pos c66] at hF
      refine lv_sipush (v := (381 : Int32)) hx hb dX5_owes_16 (by decide) ?_
      refine lv_istore (lv' := [(5, .int (381 : Int32)), (0, .ref (am 0)), (1, .int p1), (2, .int p2), (3, .int p3), (4, .int p4)]) hx hb dX5_owes_19 hl (by decide) rfl (fun ls hl => ?_)
      exact L21 p1 p2 p3 p4 FU (381 : Int32) ρ _ _ _ hF Z (lv_sub hl [1, 2, 3, 4, 5, 0] rfl)
  · rw [if_pos c63] at hF
    exact kret ρ _ _ _ _ ⟨(Option.some.inj hF), trivial⟩ Z dX5_owes_4
def X5_isCopy (ρ : Ms) (p1 : Int32) : Option (Bool) := (rdA (ρ.1.1 0) 681 (1 : Int32)).bind fun v1 => some ((X5_in p1 (0 : Int32) ((v1 - (1 : Int32)))))
def rm_X5_isCopy : Room := { frames := 1, cells := 0, slots := 0, locals := 22 }
theorem v_X5_isCopy : WdV RX5 yX5_isCopy cX5_isCopy 2 (some .boolean) 1 := ⟨mI_X5_isCopy, mS_X5_isCopy, mZ_RX5, mC_X5_isCopy, by decide +kernel⟩
set_option maxHeartbeats 8000000 in
set_option maxRecDepth 100000 in
theorem c_X5_isCopy (l : Launch) (D : va_G) (cI cS : ClassId) (am : Nat → Nat) (ρ : Ms) (p1 : Int32) (F : Bool) (hF : X5_isCopy ρ p1 = some F) : MI l yX5_isCopy cX5_isCopy 2 (some .boolean) rm_X5_isCopy D cI cS [.ref (am 0), .int p1] (mW am cI ρ) (mW am cI) (fun r u' => r = bi F ∧ u' = ρ) := by
  refine MI.mk RX5 rfl .boolean rfl (by decide) (Nat.le_of_ble_eq_true rfl) (fun r u h => by rw [h.1]; exact bi_nar _) ?_
  intro p e s m args below meth c A Q ls Fc hin hA Z kret hl
  obtain ⟨hx, hb, hml, hown, hts, hKN⟩ := id Fc
  replace hl : lv_has ls 2 [(0, .ref (am 0)), (1, .int p1)] := hl
  unfold X5_isCopy at hF
  refine lv_iload_n hx hb dX5_isCopy_0 rfl (lv_at hl 1 rfl) ?_
  refine lv_iconst (v := (0 : Int32)) hx hb dX5_isCopy_1 (by decide) ?_
  refine lv_aload_n hx hb dX5_isCopy_2 rfl (lv_at hl 0 rfl) ?_
  refine kget Fc Z inX5 0 rfl rfl 0 (by decide) mF_RX5_11 rfl rfl dX5_isCopy_3 ?_
  refine lv_iconst (v := (1 : Int32)) hx hb dX5_isCopy_6 (by decide) ?_
  obtain ⟨v1, h2, hF⟩ := obind hF
  refine kald Fc Z 1 rfl h2 dX5_isCopy_7 ?_
  refine lv_iconst (v := (1 : Int32)) hx hb dX5_isCopy_8 (by decide) ?_
  refine lv_isub hx hb dX5_isCopy_9 ?_
  refine ks_i (As := [.int p1, .int (0 : Int32), .int ((v1 - (1 : Int32)))]) Fc hA Z (c_X5_in l D cI cS p1 (0 : Int32) ((v1 - (1 : Int32))) (X5_in p1 (0 : Int32) ((v1 - (1 : Int32)))) rfl) mL_RX5_51 v_X5_in ⟨rfl, rfl⟩ ⟨Nat.le_of_ble_eq_true rfl, Nat.le_of_ble_eq_true rfl⟩ ⟨Nat.zero_le _, Nat.zero_le _⟩ rfl hl (Nat.le_of_ble_eq_true rfl) dX5_isCopy_10 rfl (fun H locs Z => ?_)
  exact kret ((bi (X5_in p1 (0 : Int32) ((v1 - (1 : Int32)))))) ρ _ _ _ _ ⟨(congrArg bi (Option.some.inj hF)), rfl⟩ Z dX5_isCopy_13
