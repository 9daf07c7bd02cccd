/-! THE REFERENCE: its methods -/
def X5_ledger (ρ : Ms) (p1 p2 : Int32) : Option (Int32) := (rdA (ρ.1.1 0) 681 (4 : Int32)).bind fun v1 => if (bi (X5_in p1 (0 : Int32) ((v1 - (1 : Int32))))) = 0 then (some (-2147483648 : Int32)) else if (bi (X5_in p2 (0 : Int32) (4 : Int32))) = 0 then (some (-2147483648 : Int32)) else (rdA (ρ.1.1 0) 681 ((((381 : Int32) + ((5 : Int32) * p1)) + p2))).bind fun v5 => some v5
def rm_X5_ledger : Room := { frames := 1, cells := 0, slots := 0, locals := 22 }
theorem v_X5_ledger : WdV RX5 yX5_ledger cX5_ledger 3 (some .int) 2 := ⟨mI_X5_ledger, mS_X5_ledger, mZ_RX5, mC_X5_ledger, by decide +kernel⟩
set_option maxHeartbeats 8000000 in
set_option maxRecDepth 100000 in
theorem c_X5_ledger (l : Launch) (D : va_G) (cI cS : ClassId) (am : Nat → Nat) (ρ : Ms) (p1 p2 : Int32) (F : Int32) (hF : X5_ledger ρ p1 p2 = some F) : MI l yX5_ledger cX5_ledger 3 (some .int) rm_X5_ledger D cI cS [.ref (am 0), .int p1, .int p2] (mW am cI ρ) (mW am cI) (fun r u' => r = F ∧ u' = ρ) := by
  refine MI.mk RX5 rfl .int rfl (by decide) (Nat.le_of_ble_eq_true rfl) (fun _ _ _ => rfl) ?_
  intro p e s m args below meth c A Q ls Fc hin hA Z kret hl
  obtain ⟨hx, hb, hml, hown, hts, hKN⟩ := id Fc
  replace hl : lv_has ls 3 [(0, .ref (am 0)), (1, .int p1), (2, .int p2)] := hl
  unfold X5_ledger at hF
  refine lv_iload_n hx hb dX5_ledger_0 rfl (lv_at hl 1 rfl) ?_
  refine lv_iconst (v := (0 : Int32)) hx hb dX5_ledger_1 (by decide) ?_
  refine lv_aload_n hx hb dX5_ledger_2 rfl (lv_at hl 0 rfl) ?_
  refine kget Fc Z inX5 0 rfl rfl 0 (by decide) mF_RX5_11 rfl rfl dX5_ledger_3 ?_
  refine lv_iconst (v := (4 : Int32)) hx hb dX5_ledger_6 (by decide) ?_
  obtain ⟨v1, h2, hF⟩ := obind hF
  refine kald Fc Z 1 rfl h2 dX5_ledger_7 ?_
  refine lv_iconst (v := (1 : Int32)) hx hb dX5_ledger_8 (by decide) ?_
  refine lv_isub hx hb dX5_ledger_9 ?_
  refine ks_i (As := [.int p1, .int (0 : Int32), .int ((v1 - (1 : Int32)))]) Fc hA Z (c_X5_in l D cI cS p1 (0 : Int32) ((v1 - (1 : Int32))) (X5_in p1 (0 : Int32) ((v1 - (1 : Int32)))) rfl) mL_RX5_51 v_X5_in ⟨rfl, rfl⟩ ⟨Nat.le_of_ble_eq_true rfl, Nat.le_of_ble_eq_true rfl⟩ ⟨Nat.zero_le _, Nat.zero_le _⟩ rfl hl (Nat.le_of_ble_eq_true rfl) dX5_ledger_10 rfl (fun H locs Z => ?_)
  refine lv_if_eq (tgt := 42) hx hb dX5_ledger_13 (by decide) (fun c3 => ?_) (fun c3 => ?_)
  · rw [if_pos c3] at hF
    refine lv_ldc (v := (-2147483648 : Int32)) hx hb hown (hts _ mK_RX5_213) dX5_ledger_42 ?_
    exact kret (-2147483648 : Int32) ρ _ _ _ _ ⟨(Option.some.inj hF), rfl⟩ Z dX5_ledger_44
  · rw [if_neg c3] at hF
    refine lv_iload_n hx hb dX5_ledger_16 rfl (lv_at hl 2 rfl) ?_
    refine lv_iconst (v := (0 : Int32)) hx hb dX5_ledger_17 (by decide) ?_
    refine lv_iconst (v := (4 : Int32)) hx hb dX5_ledger_18 (by decide) ?_
    refine ks_i (As := [.int p2, .int (0 : Int32), .int (4 : Int32)]) Fc hA Z (c_X5_in l D cI cS p2 (0 : Int32) (4 : Int32) (X5_in p2 (0 : Int32) (4 : Int32)) rfl) mL_RX5_51 v_X5_in ⟨rfl, rfl⟩ ⟨Nat.le_of_ble_eq_true rfl, Nat.le_of_ble_eq_true rfl⟩ ⟨Nat.zero_le _, Nat.zero_le _⟩ rfl hl (Nat.le_of_ble_eq_true rfl) dX5_ledger_19 rfl (fun H locs Z => ?_)
    refine lv_if_eq (tgt := 42) hx hb dX5_ledger_22 (by decide) (fun c4 => ?_) (fun c4 => ?_)
    · rw [if_pos c4] at hF
      refine lv_ldc (v := (-2147483648 : Int32)) hx hb hown (hts _ mK_RX5_213) dX5_ledger_42 ?_
      exact kret (-2147483648 : Int32) ρ _ _ _ _ ⟨(Option.some.inj hF), rfl⟩ Z dX5_ledger_44
    · rw [if_neg c4] at hF
      refine lv_aload_n hx hb dX5_ledger_25 rfl (lv_at hl 0 rfl) ?_
      refine kget Fc Z inX5 0 rfl rfl 0 (by decide) mF_RX5_11 rfl rfl dX5_ledger_26 ?_
      refine lv_sipush (v := (381 : Int32)) hx hb dX5_ledger_29 (by decide) ?_
      refine lv_iconst (v := (5 : Int32)) hx hb dX5_ledger_32 (by decide) ?_
      refine lv_iload_n hx hb dX5_ledger_33 rfl (lv_at hl 1 rfl) ?_
      refine lv_imul hx hb dX5_ledger_34 ?_
      refine lv_iadd hx hb dX5_ledger_35 ?_
      refine lv_iload_n hx hb dX5_ledger_36 rfl (lv_at hl 2 rfl) ?_
      refine lv_iadd hx hb dX5_ledger_37 ?_
      obtain ⟨v5, h6, hF⟩ := obind hF
      refine kald Fc Z 1 rfl h6 dX5_ledger_38 ?_
      refine lv_goto (tgt := 44) hx hb dX5_ledger_39 (by decide) ?_
      exact kret v5 ρ _ _ _ _ ⟨(Option.some.inj hF), rfl⟩ Z dX5_ledger_44
def X5_ledgerSize (ρ : Ms) : Option (Int32) := (rdA (ρ.1.1 0) 681 (4 : Int32)).bind fun v1 => some v1
def rm_X5_ledgerSize : Room := { frames := 0, cells := 0, slots := 0, locals := 0 }
theorem v_X5_ledgerSize : WdV RX5 yX5_ledgerSize cX5_ledgerSize 1 (some .int) 0 := ⟨mI_X5_ledgerSize, mS_X5_ledgerSize, mZ_RX5, mC_X5_ledgerSize, by decide +kernel⟩
set_option maxHeartbeats 8000000 in
set_option maxRecDepth 100000 in
theorem c_X5_ledgerSize (l : Launch) (D : va_G) (cI cS : ClassId) (am : Nat → Nat) (ρ : Ms) (F : Int32) (hF : X5_ledgerSize ρ = some F) : MI l yX5_ledgerSize cX5_ledgerSize 1 (some .int) rm_X5_ledgerSize D cI cS [.ref (am 0)] (mW am cI ρ) (mW am cI) (fun r u' => r = F ∧ u' = ρ) := by
  refine MI.mk RX5 rfl .int rfl (by decide) (Nat.le_of_ble_eq_true rfl) (fun _ _ _ => rfl) ?_
  intro p e s m args below meth c A Q ls Fc hin hA Z kret hl
  obtain ⟨hx, hb, hml, hown, hts, hKN⟩ := id Fc
  replace hl : lv_has ls 1 [(0, .ref (am 0))] := hl
  unfold X5_ledgerSize at hF
  refine lv_aload_n hx hb dX5_ledgerSize_0 rfl (lv_at hl 0 rfl) ?_
  refine kget Fc Z inX5 0 rfl rfl 0 (by decide) mF_RX5_11 rfl rfl dX5_ledgerSize_1 ?_
  refine lv_iconst (v := (4 : Int32)) hx hb dX5_ledgerSize_4 (by decide) ?_
  obtain ⟨v1, h2, hF⟩ := obind hF
  refine kald Fc Z 1 rfl h2 dX5_ledgerSize_5 ?_
  exact kret v1 ρ _ _ _ _ ⟨(Option.some.inj hF), rfl⟩ Z dX5_ledgerSize_6
def X5_ledgerSum_L25 (ρ : Ms) (x1 : Int32) (x2 : Int32) : Nat → Int32 → Int32 → Option (Int32)
  | 0, _, _ => none
  | k + 1, x3, x4 => (rdA (ρ.1.1 0) 681 (4 : Int32)).bind fun v1 => if v1 ≤ x4 then (some x3) else (rdA (ρ.1.1 0) 681 ((((381 : Int32) + ((5 : Int32) * x4)) + (1 : Int32)))).bind fun v4 => if v4 = x1 then (if x2 < 0 then ((rdA (ρ.1.1 0) 681 ((((381 : Int32) + ((5 : Int32) * x4)) + (2 : Int32)))).bind fun v8 => X5_ledgerSum_L25 ρ x1 x2 k (x3 + v8) ((x4 + (1 : Int32)))) else (rdA (ρ.1.1 0) 681 (((381 : Int32) + ((5 : Int32) * x4)))).bind fun v10 => if v10 = x2 then ((rdA (ρ.1.1 0) 681 ((((381 : Int32) + ((5 : Int32) * x4)) + (2 : Int32)))).bind fun v13 => X5_ledgerSum_L25 ρ x1 x2 k (x3 + v13) ((x4 + (1 : Int32)))) else X5_ledgerSum_L25 ρ x1 x2 k ((x3 + (0 : Int32))) ((x4 + (1 : Int32)))) else X5_ledgerSum_L25 ρ x1 x2 k ((x3 + (0 : Int32))) ((x4 + (1 : Int32)))
def X5_ledgerSum (ρ : Ms) (p1 p2 : Int32) : Option (Int32) := (X5_isPatron ρ p1).bind fun v15 => if (bi v15) = 0 then (some (-2147483648 : Int32)) else if (bi (X5_in p2 (-1 : Int32) (4 : Int32))) = 0 then (some (-2147483648 : Int32)) else X5_ledgerSum_L25 ρ p1 p2 FU (0 : Int32) (0 : Int32)
def rm_X5_ledgerSum : Room := { frames := 2, cells := 0, slots := 0, locals := 43 }
theorem v_X5_ledgerSum : WdV RX5 yX5_ledgerSum cX5_ledgerSum 6 (some .int) 2 := ⟨mI_X5_ledgerSum, mS_X5_ledgerSum, mZ_RX5, mC_X5_ledgerSum, by decide +kernel⟩
set_option maxHeartbeats 8000000 in
set_option maxRecDepth 100000 in
theorem c_X5_ledgerSum (l : Launch) (D : va_G) (cI cS : ClassId) (am : Nat → Nat) (ρ : Ms) (p1 p2 : Int32) (F : Int32) (hF : X5_ledgerSum ρ p1 p2 = some F) : MI l yX5_ledgerSum cX5_ledgerSum 6 (some .int) rm_X5_ledgerSum D cI cS [.ref (am 0), .int p1, .int p2] (mW am cI ρ) (mW am cI) (fun r u' => r = F ∧ u' = ρ) := by
  refine MI.mk RX5 rfl .int rfl (by decide) (Nat.le_of_ble_eq_true rfl) (fun _ _ _ => rfl) ?_
  intro p e s m args below meth c A Q ls Fc hin hA Z kret hl
  obtain ⟨hx, hb, hml, hown, hts, hKN⟩ := id Fc
  replace hl : lv_has ls 6 [(0, .ref (am 0)), (1, .int p1), (2, .int p2)] := hl
  have L25 : ∀ (x1 : Int32) (x2 : Int32) (k : Nat) (x3 : Int32) (x4 : Int32) (H : Heap) (locs : List Loc) (ls : Array Slot), X5_ledgerSum_L25 ρ x1 x2  k x3 x4 = some F → Ix D A s (mW am cI ρ) H locs → lv_has ls 6 [(0, .ref (am 0)), (1, .int x1), (2, .int x2), (3, .int x3), (4, .int x4)] → W p l e rm_X5_ledgerSum s m args below meth c H locs 0 0 Q (F0 m 25 ls []) := by
    intro x1 x2 k
    induction k with
    | zero => intro x3 x4 H locs ls hF; rw [X5_ledgerSum_L25] at hF; cases hF
    | succ k ih =>
      intro x3 x4 H locs ls hF Z hl
      rw [X5_ledgerSum_L25] at hF
      refine lv_iload hx hb dX5_ledgerSum_25 (lv_at hl 4 rfl) ?_
      refine lv_aload_n hx hb dX5_ledgerSum_27 rfl (lv_at hl 0 rfl) ?_
      refine kget Fc Z inX5 0 rfl rfl 0 (by decide) mF_RX5_11 rfl rfl dX5_ledgerSum_28 ?_
      refine lv_iconst (v := (4 : Int32)) hx hb dX5_ledgerSum_31 (by decide) ?_
      obtain ⟨v1, h2, hF⟩ := obind hF
      refine kald Fc Z 1 rfl h2 dX5_ledgerSum_32 ?_
      refine lv_icmp_ge (tgt := 96) hx hb dX5_ledgerSum_33 (by decide) (fun c3 => ?_) (fun c3 => ?_)
      · rw [if_pos c3] at hF
        refine lv_iload_n hx hb dX5_ledgerSum_96 rfl (lv_at hl 3 rfl) ?_
        exact kret x3 ρ _ _ _ _ ⟨(Option.some.inj hF), rfl⟩ Z dX5_ledgerSum_97
      · rw [if_neg c3] at hF
        refine lv_sipush (v := (381 : Int32)) hx hb dX5_ledgerSum_36 (by decide) ?_
        refine lv_iconst (v := (5 : Int32)) hx hb dX5_ledgerSum_39 (by decide) ?_
        refine lv_iload hx hb dX5_ledgerSum_40 (lv_at hl 4 rfl) ?_
        refine lv_imul hx hb dX5_ledgerSum_42 ?_
        refine lv_iadd hx hb dX5_ledgerSum_43 ?_
        refine lv_istore (lv' := [(5, .int ((381 : Int32) + ((5 : Int32) * x4))), (0, .ref (am 0)), (1, .int x1), (2, .int x2), (3, .int x3), (4, .int x4)]) hx hb dX5_ledgerSum_44 hl (by decide) rfl (fun ls hl => ?_)
        refine lv_iload_n hx hb dX5_ledgerSum_46 rfl (lv_at hl 4 rfl) ?_
        refine lv_aload_n hx hb dX5_ledgerSum_47 rfl (lv_at hl 1 rfl) ?_
        refine kget Fc Z inX5 0 rfl rfl 0 (by decide) mF_RX5_11 rfl rfl dX5_ledgerSum_48 ?_
        refine lv_iload hx hb dX5_ledgerSum_51 (lv_at hl 0 rfl) ?_
        refine lv_iconst (v := (1 : Int32)) hx hb dX5_ledgerSum_53 (by decide) ?_
        refine lv_iadd hx hb dX5_ledgerSum_54 ?_
        obtain ⟨v4, h5, hF⟩ := obind hF
        refine kald Fc Z 1 rfl h5 dX5_ledgerSum_55 ?_
        refine lv_iload_n hx hb dX5_ledgerSum_56 rfl (lv_at hl 2 rfl) ?_
        refine lv_icmp_ne (tgt := 87) hx hb dX5_ledgerSum_57 (by decide) (fun c6 => ?_) (fun c6 => ?_)
        · rw [if_neg c6] at hF
          refine lv_iconst (v := (0 : Int32)) hx hb dX5_ledgerSum_87 (by decide) ?_
          refine lv_iadd hx hb dX5_ledgerSum_88 ?_
          refine lv_istore_n (lv' := [(3, .int (x3 + (0 : Int32))), (5, .int ((381 : Int32) + ((5 : Int32) * x4))), (0, .ref (am 0)), (1, .int x1), (2, .int x2), (4, .int x4)]) hx hb dX5_ledgerSum_89 rfl hl (by decide) rfl (fun ls hl => ?_)
          refine lv_iinc (v := (x4 + (1 : Int32))) (lv' := [(4, .int (x4 + (1 : Int32))), (3, .int (x3 + (0 : Int32))), (5, .int ((381 : Int32) + ((5 : Int32) * x4))), (0, .ref (am 0)), (1, .int x1), (2, .int x2)]) hx hb dX5_ledgerSum_90 hl (k := 5) rfl (by rfl) (by decide) rfl (fun ls hl => ?_)
          refine lv_goto (tgt := 25) hx hb dX5_ledgerSum_93 (by decide) ?_
          exact ih ((x3 + (0 : Int32))) ((x4 + (1 : Int32))) _ _ _ hF Z (lv_sub hl [3, 4, 5, 1, 0] rfl)
        · rw [if_pos c6] at hF
          refine lv_iload_n hx hb dX5_ledgerSum_60 rfl (lv_at hl 3 rfl) ?_
          refine lv_if_lt (tgt := 75) hx hb dX5_ledgerSum_61 (by decide) (fun c7 => ?_) (fun c7 => ?_)
          · rw [if_pos c7] at hF
            refine lv_aload_n hx hb dX5_ledgerSum_75 rfl (lv_at hl 1 rfl) ?_
            refine kget Fc Z inX5 0 rfl rfl 0 (by decide) mF_RX5_11 rfl rfl dX5_ledgerSum_76 ?_
            refine lv_iload hx hb dX5_ledgerSum_79 (lv_at hl 0 rfl) ?_
            refine lv_iconst (v := (2 : Int32)) hx hb dX5_ledgerSum_81 (by decide) ?_
            refine lv_iadd hx hb dX5_ledgerSum_82 ?_
            obtain ⟨v8, h9, hF⟩ := obind hF
            refine kald Fc Z 1 rfl h9 dX5_ledgerSum_83 ?_
            refine lv_goto (tgt := 88) hx hb dX5_ledgerSum_84 (by decide) ?_
            refine lv_iadd hx hb dX5_ledgerSum_88 ?_
            refine lv_istore_n (lv' := [(3, .int (x3 + v8)), (5, .int ((381 : Int32) + ((5 : Int32) * x4))), (0, .ref (am 0)), (1, .int x1), (2, .int x2), (4, .int x4)]) hx hb dX5_ledgerSum_89 rfl hl (by decide) rfl (fun ls hl => ?_)
            refine lv_iinc (v := (x4 + (1 : Int32))) (lv' := [(4, .int (x4 + (1 : Int32))), (3, .int (x3 + v8)), (5, .int ((381 : Int32) + ((5 : Int32) * x4))), (0, .ref (am 0)), (1, .int x1), (2, .int x2)]) hx hb dX5_ledgerSum_90 hl (k := 5) rfl (by rfl) (by decide) rfl (fun ls hl => ?_)
            refine lv_goto (tgt := 25) hx hb dX5_ledgerSum_93 (by decide) ?_
            exact ih (x3 + v8) ((x4 + (1 : Int32))) _ _ _ hF Z (lv_sub hl [3, 4, 5, 1, 0] rfl)
          · rw [if_neg c7] at hF
            refine lv_aload_n hx hb dX5_ledgerSum_64 rfl (lv_at hl 1 rfl) ?_
            refine kget Fc Z inX5 0 rfl rfl 0 (by decide) mF_RX5_11 rfl rfl dX5_ledgerSum_65 ?_
            refine lv_iload hx hb dX5_ledgerSum_68 (lv_at hl 0 rfl) ?_
            obtain ⟨v10, h11, hF⟩ := obind hF
            refine kald Fc Z 1 rfl h11 dX5_ledgerSum_70 ?_
            refine lv_iload_n hx hb dX5_ledgerSum_71 rfl (lv_at hl 3 rfl) ?_
            refine lv_icmp_ne (tgt := 87) hx hb dX5_ledgerSum_72 (by decide) (fun c12 => ?_) (fun c12 => ?_)
            · rw [if_neg c12] at hF
              refine lv_iconst (v := (0 : Int32)) hx hb dX5_ledgerSum_87 (by decide) ?_
              refine lv_iadd hx hb dX5_ledgerSum_88 ?_
              refine lv_istore_n (lv' := [(3, .int (x3 + (0 : Int32))), (5, .int ((381 : Int32) + ((5 : Int32) * x4))), (0, .ref (am 0)), (1, .int x1), (2, .int x2), (4, .int x4)]) hx hb dX5_ledgerSum_89 rfl hl (by decide) rfl (fun ls hl => ?_)
              refine lv_iinc (v := (x4 + (1 : Int32))) (lv' := [(4, .int (x4 + (1 : Int32))), (3, .int (x3 + (0 : Int32))), (5, .int ((381 : Int32) + ((5 : Int32) * x4))), (0, .ref (am 0)), (1, .int x1), (2, .int x2)]) hx hb dX5_ledgerSum_90 hl (k := 5) rfl (by rfl) (by decide) rfl (fun ls hl => ?_)
              refine lv_goto (tgt := 25) hx hb dX5_ledgerSum_93 (by decide) ?_
              exact ih ((x3 + (0 : Int32))) ((x4 + (1 : Int32))) _ _ _ hF Z (lv_sub hl [3, 4, 5, 1, 0] rfl)
            · rw [if_pos c12] at hF
              refine lv_aload_n hx hb dX5_ledgerSum_75 rfl (lv_at hl 1 rfl) ?_
              refine kget Fc Z inX5 0 rfl rfl 0 (by decide) mF_RX5_11 rfl rfl dX5_ledgerSum_76 ?_
              refine lv_iload hx hb dX5_ledgerSum_79 (lv_at hl 0 rfl) ?_
              refine lv_iconst (v := (2 : Int32)) hx hb dX5_ledgerSum_81 (by decide) ?_
              refine lv_iadd hx hb dX5_ledgerSum_82 ?_
              obtain ⟨v13, h14, hF⟩ := obind hF
              refine kald Fc Z 1 rfl h14 dX5_ledgerSum_83 ?_
              refine lv_goto (tgt := 88) hx hb dX5_ledgerSum_84 (by decide) ?_
              refine lv_iadd hx hb dX5_ledgerSum_88 ?_
              refine lv_istore_n (lv' := [(3, .int (x3 + v13)), (5, .int ((381 : Int32) + ((5 : Int32) * x4))), (0, .ref (am 0)), (1, .int x1), (2, .int x2), (4, .int x4)]) hx hb dX5_ledgerSum_89 rfl hl (by decide) rfl (fun ls hl => ?_)
              refine lv_iinc (v := (x4 + (1 : Int32))) (lv' := [(4, .int (x4 + (1 : Int32))), (3, .int (x3 + v13)), (5, .int ((381 : Int32) + ((5 : Int32) * x4))), (0, .ref (am 0)), (1, .int x1), (2, .int x2)]) hx hb dX5_ledgerSum_90 hl (k := 5) rfl (by rfl) (by decide) rfl (fun ls hl => ?_)
              refine lv_goto (tgt := 25) hx hb dX5_ledgerSum_93 (by decide) ?_
              exact ih (x3 + v13) ((x4 + (1 : Int32))) _ _ _ hF Z (lv_sub hl [3, 4, 5, 1, 0] rfl)
  unfold X5_ledgerSum at hF
  refine lv_aload_n hx hb dX5_ledgerSum_0 rfl (lv_at hl 0 rfl) ?_
  refine lv_iload_n hx hb dX5_ledgerSum_1 rfl (lv_at hl 1 rfl) ?_
  obtain ⟨v15, h16, hF⟩ := obind hF
  refine kr_i (As := [.int p1]) Fc hA Z Lens.all (c_X5_isPatron l D cI cS am ρ p1 v15 h16) mL_RX5_147 v_X5_isPatron ⟨rfl, rfl⟩ ⟨Nat.le_of_ble_eq_true rfl, Nat.le_of_ble_eq_true rfl⟩ ⟨Nat.zero_le _, Nat.zero_le _⟩ 0 5 rfl rfl rfl hl (Nat.le_of_ble_eq_true rfl) dX5_ledgerSum_2 rfl (fun H locs Z => ?_)
  refine lv_if_eq (tgt := 17) hx hb dX5_ledgerSum_5 (by decide) (fun c17 => ?_) (fun c17 => ?_)
  · rw [if_pos c17] at hF
    refine lv_ldc (v := (-2147483648 : Int32)) hx hb hown (hts _ mK_RX5_213) dX5_ledgerSum_17 ?_
    exact kret (-2147483648 : Int32) ρ _ _ _ _ ⟨(Option.some.inj hF), rfl⟩ Z dX5_ledgerSum_19
  · rw [if_neg c17] at hF
    refine lv_iload_n hx hb dX5_ledgerSum_8 rfl (lv_at hl 2 rfl) ?_
    refine lv_iconst (v := (-1 : Int32)) hx hb dX5_ledgerSum_9 (by decide) ?_
    refine lv_iconst (v := (4 : Int32)) hx hb dX5_ledgerSum_10 (by decide) ?_
    refine ks_i (As := [.int p2, .int (-1 : Int32), .int (4 : Int32)]) Fc hA Z (c_X5_in l D cI cS p2 (-1 : Int32) (4 : Int32) (X5_in p2 (-1 : Int32) (4 : Int32)) rfl) mL_RX5_51 v_X5_in ⟨rfl, rfl⟩ ⟨Nat.le_of_ble_eq_true rfl, Nat.le_of_ble_eq_true rfl⟩ ⟨Nat.zero_le _, Nat.zero_le _⟩ rfl hl (Nat.le_of_ble_eq_true rfl) dX5_ledgerSum_11 rfl (fun H locs Z => ?_)
    refine lv_if_ne (tgt := 20) hx hb dX5_ledgerSum_14 (by decide) (fun c18 => ?_) (fun c18 => ?_)
    · rw [if_neg c18] at hF
      refine lv_iconst (v := (0 : Int32)) hx hb dX5_ledgerSum_20 (by decide) ?_
      refine lv_istore_n (lv' := [(3, .int (0 : Int32)), (0, .ref (am 0)), (1, .int p1), (2, .int p2)]) hx hb dX5_ledgerSum_21 rfl hl (by decide) rfl (fun ls hl => ?_)
      refine lv_iconst (v := (0 : Int32)) hx hb dX5_ledgerSum_22 (by decide) ?_
      refine lv_istore (lv' := [(4, .int (0 : Int32)), (3, .int (0 : Int32)), (0, .ref (am 0)), (1, .int p1), (2, .int p2)]) hx hb dX5_ledgerSum_23 hl (by decide) rfl (fun ls hl => ?_)
      exact L25 p1 p2 FU (0 : Int32) (0 : Int32) _ _ _ hF Z (lv_sub hl [2, 3, 4, 1, 0] rfl)
    · rw [if_pos c18] at hF
      refine lv_ldc (v := (-2147483648 : Int32)) hx hb hown (hts _ mK_RX5_213) dX5_ledgerSum_17 ?_
      exact kret (-2147483648 : Int32) ρ _ _ _ _ ⟨(Option.some.inj hF), rfl⟩ Z dX5_ledgerSum_19
def X5_lend (ρ : Ms) (p1 p2 : Int32) : Option (Int32 × Ms) := (X5_keeps ρ).bind fun q1 => (X5_lends q1 p1 p2).bind fun q3 => (X5_made q3.2 q3.1).bind fun q5 => some (q5.1, q5.2)
def rm_X5_lend : Room := { frames := 4, cells := 0, slots := 0, locals := 91 }
theorem v_X5_lend : WdV RX5 yX5_lend cX5_lend 3 (some .int) 2 := ⟨mI_X5_lend, mS_X5_lend, mZ_RX5, mC_X5_lend, by decide +kernel⟩
set_option maxHeartbeats 8000000 in
set_option maxRecDepth 100000 in
theorem c_X5_lend (l : Launch) (D : va_G) (cI cS : ClassId) (am : Nat → Nat) (ρ : Ms) (p1 p2 : Int32) (F : Int32 × Ms) (hF : X5_lend ρ p1 p2 = some F) : MI l yX5_lend cX5_lend 3 (some .int) rm_X5_lend D cI cS [.ref (am 0), .int p1, .int p2] (mW am cI ρ) (mW am cI) (fun r u => r = F.1 ∧ u = F.2 ∧ True) := by
  refine MI.mk RX5 rfl .int rfl (by decide) (Nat.le_of_ble_eq_true rfl) (fun _ _ _ => rfl) ?_
  intro p e s m args below meth c A Q ls Fc hin hA Z kret hl
  obtain ⟨hx, hb, hml, hown, hts, hKN⟩ := id Fc
  replace hl : lv_has ls 3 [(0, .ref (am 0)), (1, .int p1), (2, .int p2)] := hl
  unfold X5_lend at hF
  refine lv_aload_n hx hb dX5_lend_0 rfl (lv_at hl 0 rfl) ?_
  obtain ⟨q1, h2, hF⟩ := obind hF
  refine kv_i (As := []) (ok := (fun _ => True)) Fc hA Z Lens.all (c_X5_keeps l D cI cS am ρ  q1 h2) mL_RX5_96 v_X5_keeps ⟨rfl, rfl⟩ ⟨Nat.le_of_ble_eq_true rfl, Nat.le_of_ble_eq_true rfl⟩ ⟨Nat.zero_le _, Nat.zero_le _⟩ 0 5 rfl rfl rfl hl (Nat.le_of_ble_eq_true rfl) dX5_lend_1 rfl (fun H locs ok1 Z => ?_)
  refine lv_aload_n hx hb dX5_lend_4 rfl (lv_at hl 0 rfl) ?_
  refine lv_aload_n hx hb dX5_lend_5 rfl (lv_at hl 0 rfl) ?_
  refine lv_iload_n hx hb dX5_lend_6 rfl (lv_at hl 1 rfl) ?_
  refine lv_iload_n hx hb dX5_lend_7 rfl (lv_at hl 2 rfl) ?_
  obtain ⟨q3, h4, hF⟩ := obind hF
  refine km_i (As := [.int p1, .int p2]) (ok := (fun _ => True)) Fc hA Z Lens.all (c_X5_lends l D cI cS am q1 p1 p2 q3 h4) mL_RX5_153 v_X5_lends ⟨rfl, rfl⟩ ⟨Nat.le_of_ble_eq_true rfl, Nat.le_of_ble_eq_true rfl⟩ ⟨Nat.zero_le _, Nat.zero_le _⟩ 0 5 rfl rfl rfl hl (Nat.le_of_ble_eq_true rfl) dX5_lend_8 rfl (fun H locs ok1 Z => ?_)
  obtain ⟨q5, h6, hF⟩ := obind hF
  refine km_i (As := [.int q3.1]) (ok := (fun _ => True)) Fc hA Z Lens.all (c_X5_made l D cI cS am q3.2 q3.1 q5 h6) mL_RX5_103 v_X5_made ⟨rfl, rfl⟩ ⟨Nat.le_of_ble_eq_true rfl, Nat.le_of_ble_eq_true rfl⟩ ⟨Nat.zero_le _, Nat.zero_le _⟩ 0 5 rfl rfl rfl hl (Nat.le_of_ble_eq_true rfl) dX5_lend_11 rfl (fun H locs ok1 Z => ?_)
  exact kret q5.1 q5.2 _ _ _ _ ⟨(pfst (Option.some.inj hF)), psnd (Option.some.inj hF), trivial⟩ Z dX5_lend_14
def X5_loanOf (ρ : Ms) (p1 p2 : Int32) : Option (Int32) := (X5_isPatron ρ p1).bind fun v1 => if (bi v1) = 0 then (some (-1 : Int32)) else (X5_byDate ρ (1 : Int32) p1 p2).bind fun v4 => some v4
def rm_X5_loanOf : Room := { frames := 2, cells := 0, slots := 0, locals := 49 }
theorem v_X5_loanOf : WdV RX5 yX5_loanOf cX5_loanOf 3 (some .int) 2 := ⟨mI_X5_loanOf, mS_X5_loanOf, mZ_RX5, mC_X5_loanOf, by decide +kernel⟩
set_option maxHeartbeats 8000000 in
set_option maxRecDepth 100000 in
theorem c_X5_loanOf (l : Launch) (D : va_G) (cI cS : ClassId) (am : Nat → Nat) (ρ : Ms) (p1 p2 : Int32) (F : Int32) (hF : X5_loanOf ρ p1 p2 = some F) : MI l yX5_loanOf cX5_loanOf 3 (some .int) rm_X5_loanOf D cI cS [.ref (am 0), .int p1, .int p2] (mW am cI ρ) (mW am cI) (fun r u' => r = F ∧ u' = ρ) := by
  refine MI.mk RX5 rfl .int rfl (by decide) (Nat.le_of_ble_eq_true rfl) (fun _ _ _ => rfl) ?_
  intro p e s m args below meth c A Q ls Fc hin hA Z kret hl
  obtain ⟨hx, hb, hml, hown, hts, hKN⟩ := id Fc
  replace hl : lv_has ls 3 [(0, .ref (am 0)), (1, .int p1), (2, .int p2)] := hl
  unfold X5_loanOf at hF
  refine lv_aload_n hx hb dX5_loanOf_0 rfl (lv_at hl 0 rfl) ?_
  refine lv_iload_n hx hb dX5_loanOf_1 rfl (lv_at hl 1 rfl) ?_
  obtain ⟨v1, h2, hF⟩ := obind hF
  refine kr_i (As := [.int p1]) Fc hA Z Lens.all (c_X5_isPatron l D cI cS am ρ p1 v1 h2) mL_RX5_147 v_X5_isPatron ⟨rfl, rfl⟩ ⟨Nat.le_of_ble_eq_true rfl, Nat.le_of_ble_eq_true rfl⟩ ⟨Nat.zero_le _, Nat.zero_le _⟩ 0 5 rfl rfl rfl hl (Nat.le_of_ble_eq_true rfl) dX5_loanOf_2 rfl (fun H locs Z => ?_)
  refine lv_if_eq (tgt := 18) hx hb dX5_loanOf_5 (by decide) (fun c3 => ?_) (fun c3 => ?_)
  · rw [if_pos c3] at hF
    refine lv_iconst (v := (-1 : Int32)) hx hb dX5_loanOf_18 (by decide) ?_
    exact kret (-1 : Int32) ρ _ _ _ _ ⟨(Option.some.inj hF), rfl⟩ Z dX5_loanOf_19
  · rw [if_neg c3] at hF
    refine lv_aload_n hx hb dX5_loanOf_8 rfl (lv_at hl 0 rfl) ?_
    refine lv_iconst (v := (1 : Int32)) hx hb dX5_loanOf_9 (by decide) ?_
    refine lv_iload_n hx hb dX5_loanOf_10 rfl (lv_at hl 1 rfl) ?_
    refine lv_iload_n hx hb dX5_loanOf_11 rfl (lv_at hl 2 rfl) ?_
    obtain ⟨v4, h5, hF⟩ := obind hF
    refine kr_i (As := [.int (1 : Int32), .int p1, .int p2]) Fc hA Z Lens.all (c_X5_byDate l D cI cS am ρ (1 : Int32) p1 p2 v4 h5) mL_RX5_207 v_X5_byDate ⟨rfl, rfl⟩ ⟨Nat.le_of_ble_eq_true rfl, Nat.le_of_ble_eq_true rfl⟩ ⟨Nat.zero_le _, Nat.zero_le _⟩ 0 5 rfl rfl rfl hl (Nat.le_of_ble_eq_true rfl) dX5_loanOf_12 rfl (fun H locs Z => ?_)
    refine lv_goto (tgt := 19) hx hb dX5_loanOf_15 (by decide) ?_
    exact kret v4 ρ _ _ _ _ ⟨(Option.some.inj hF), rfl⟩ Z dX5_loanOf_19
def X5_reasonToLose (ρ : Ms) (p1 : Int32) : Option (Int32) := (X5_of ρ p1 (3 : Int32)).bind fun v1 => if v1 = (1 : Int32) then (some (0 : Int32)) else (X5_of ρ p1 (3 : Int32)).bind fun v4 => if v4 = (4 : Int32) then (some (0 : Int32)) else some (1 : Int32)
def rm_X5_reasonToLose : Room := { frames := 1, cells := 0, slots := 0, locals := 22 }
theorem v_X5_reasonToLose : WdV RX5 yX5_reasonToLose cX5_reasonToLose 2 (some .int) 1 := ⟨mI_X5_reasonToLose, mS_X5_reasonToLose, mZ_RX5, mC_X5_reasonToLose, by decide +kernel⟩
set_option maxHeartbeats 8000000 in
set_option maxRecDepth 100000 in
theorem c_X5_reasonToLose (l : Launch) (D : va_G) (cI cS : ClassId) (am : Nat → Nat) (ρ : Ms) (p1 : Int32) (F : Int32) (hF : X5_reasonToLose ρ p1 = some F) : MI l yX5_reasonToLose cX5_reasonToLose 2 (some .int) rm_X5_reasonToLose D cI cS [.ref (am 0), .int p1] (mW am cI ρ) (mW am cI) (fun r u' => r = F ∧ u' = ρ) := by
  refine MI.mk RX5 rfl .int rfl (by decide) (Nat.le_of_ble_eq_true rfl) (fun _ _ _ => rfl) ?_
  intro p e s m args below meth c A Q ls Fc hin hA Z kret hl
  obtain ⟨hx, hb, hml, hown, hts, hKN⟩ := id Fc
  replace hl : lv_has ls 2 [(0, .ref (am 0)), (1, .int p1)] := hl
  unfold X5_reasonToLose at hF
  refine lv_aload_n hx hb dX5_reasonToLose_0 rfl (lv_at hl 0 rfl) ?_
  refine lv_iload_n hx hb dX5_reasonToLose_1 rfl (lv_at hl 1 rfl) ?_
  refine lv_iconst (v := (3 : Int32)) hx hb dX5_reasonToLose_2 (by decide) ?_
  obtain ⟨v1, h2, hF⟩ := obind hF
  refine kr_i (As := [.int p1, .int (3 : Int32)]) Fc hA Z Lens.all (c_X5_of l D cI cS am ρ p1 (3 : Int32) v1 h2) mL_RX5_73 v_X5_of ⟨rfl, rfl⟩ ⟨Nat.le_of_ble_eq_true rfl, Nat.le_of_ble_eq_true rfl⟩ ⟨Nat.zero_le _, Nat.zero_le _⟩ 0 5 rfl rfl rfl hl (Nat.le_of_ble_eq_true rfl) dX5_reasonToLose_3 rfl (fun H locs Z => ?_)
  refine lv_iconst (v := (1 : Int32)) hx hb dX5_reasonToLose_6 (by decide) ?_
  refine lv_icmp_eq (tgt := 20) hx hb dX5_reasonToLose_7 (by decide) (fun c3 => ?_) (fun c3 => ?_)
  · rw [if_pos c3] at hF
    refine lv_iconst (v := (0 : Int32)) hx hb dX5_reasonToLose_20 (by decide) ?_
    refine lv_goto (tgt := 25) hx hb dX5_reasonToLose_21 (by decide) ?_
    exact kret (0 : Int32) ρ _ _ _ _ ⟨(Option.some.inj hF), rfl⟩ Z dX5_reasonToLose_25
  · rw [if_neg c3] at hF
    refine lv_aload_n hx hb dX5_reasonToLose_10 rfl (lv_at hl 0 rfl) ?_
    refine lv_iload_n hx hb dX5_reasonToLose_11 rfl (lv_at hl 1 rfl) ?_
    refine lv_iconst (v := (3 : Int32)) hx hb dX5_reasonToLose_12 (by decide) ?_
    obtain ⟨v4, h5, hF⟩ := obind hF
    refine kr_i (As := [.int p1, .int (3 : Int32)]) Fc hA Z Lens.all (c_X5_of l D cI cS am ρ p1 (3 : Int32) v4 h5) mL_RX5_73 v_X5_of ⟨rfl, rfl⟩ ⟨Nat.le_of_ble_eq_true rfl, Nat.le_of_ble_eq_true rfl⟩ ⟨Nat.zero_le _, Nat.zero_le _⟩ 0 5 rfl rfl rfl hl (Nat.le_of_ble_eq_true rfl) dX5_reasonToLose_13 rfl (fun H locs Z => ?_)
    refine lv_iconst (v := (4 : Int32)) hx hb dX5_reasonToLose_16 (by decide) ?_
    refine lv_icmp_ne (tgt := 24) hx hb dX5_reasonToLose_17 (by decide) (fun c6 => ?_) (fun c6 => ?_)
    · rw [if_neg c6] at hF
      refine lv_iconst (v := (1 : Int32)) hx hb dX5_reasonToLose_24 (by decide) ?_
      exact kret (1 : Int32) ρ _ _ _ _ ⟨(Option.some.inj hF), rfl⟩ Z dX5_reasonToLose_25
    · rw [if_pos c6] at hF
      refine lv_iconst (v := (0 : Int32)) hx hb dX5_reasonToLose_20 (by decide) ?_
      refine lv_goto (tgt := 25) hx hb dX5_reasonToLose_21 (by decide) ?_
      exact kret (0 : Int32) ρ _ _ _ _ ⟨(Option.some.inj hF), rfl⟩ Z dX5_reasonToLose_25
def X5_lose (ρ : Ms) (p1 : Int32) : Option (Int32 × Ms) := (X5_isCopy ρ p1).bind fun v1 => if (bi v1) = 0 then (some (((-1 : Int32), ρ))) else (X5_reasonToLose ρ p1).bind fun v4 => if v4 ≤ 0 then ((X5_keeps ρ).bind fun q7 => (X5_loses q7 p1).bind fun q9 => (X5_of q9 p1 (4 : Int32)).bind fun v11 => (rdA (q9.1.1 0) 681 (((253 : Int32) + ((4 : Int32) * v11)))).bind fun v13 => (X5_made q9 (0 : Int32)).bind fun q15 => some (v13, q15.2)) else some ((((-100 : Int32) - v4), ρ))
def rm_X5_lose : Room := { frames := 3, cells := 0, slots := 0, locals := 69 }
theorem v_X5_lose : WdV RX5 yX5_lose cX5_lose 5 (some .int) 1 := ⟨mI_X5_lose, mS_X5_lose, mZ_RX5, mC_X5_lose, by decide +kernel⟩
set_option maxHeartbeats 8000000 in
set_option maxRecDepth 100000 in
theorem c_X5_lose (l : Launch) (D : va_G) (cI cS : ClassId) (am : Nat → Nat) (ρ : Ms) (p1 : Int32) (F : Int32 × Ms) (hF : X5_lose ρ p1 = some F) : MI l yX5_lose cX5_lose 5 (some .int) rm_X5_lose D cI cS [.ref (am 0), .int p1] (mW am cI ρ) (mW am cI) (fun r u => r = F.1 ∧ u = F.2 ∧ True) := by
  refine MI.mk RX5 rfl .int rfl (by decide) (Nat.le_of_ble_eq_true rfl) (fun _ _ _ => rfl) ?_
  intro p e s m args below meth c A Q ls Fc hin hA Z kret hl
  obtain ⟨hx, hb, hml, hown, hts, hKN⟩ := id Fc
  replace hl : lv_has ls 5 [(0, .ref (am 0)), (1, .int p1)] := hl
  unfold X5_lose at hF
  refine lv_aload_n hx hb dX5_lose_0 rfl (lv_at hl 0 rfl) ?_
  refine lv_iload_n hx hb dX5_lose_1 rfl (lv_at hl 1 rfl) ?_
  obtain ⟨v1, h2, hF⟩ := obind hF
  refine kr_i (As := [.int p1]) Fc hA Z Lens.all (c_X5_isCopy l D cI cS am ρ p1 v1 h2) mL_RX5_113 v_X5_isCopy ⟨rfl, rfl⟩ ⟨Nat.le_of_ble_eq_true rfl, Nat.le_of_ble_eq_true rfl⟩ ⟨Nat.zero_le _, Nat.zero_le _⟩ 0 5 rfl rfl rfl hl (Nat.le_of_ble_eq_true rfl) dX5_lose_2 rfl (fun H locs Z => ?_)
  refine lv_if_ne (tgt := 10) hx hb dX5_lose_5 (by decide) (fun c3 => ?_) (fun c3 => ?_)
  · rw [if_neg c3] at hF
    refine lv_aload_n hx hb dX5_lose_10 rfl (lv_at hl 0 rfl) ?_
    refine lv_iload_n hx hb dX5_lose_11 rfl (lv_at hl 1 rfl) ?_
    obtain ⟨v4, h5, hF⟩ := obind hF
    refine kr_i (As := [.int p1]) Fc hA Z Lens.all (c_X5_reasonToLose l D cI cS am ρ p1 v4 h5) mL_RX5_171 v_X5_reasonToLose ⟨rfl, rfl⟩ ⟨Nat.le_of_ble_eq_true rfl, Nat.le_of_ble_eq_true rfl⟩ ⟨Nat.zero_le _, Nat.zero_le _⟩ 0 5 rfl rfl rfl hl (Nat.le_of_ble_eq_true rfl) dX5_lose_12 rfl (fun H locs Z => ?_)
    refine lv_istore_n (lv' := [(2, .int v4), (0, .ref (am 0)), (1, .int p1)]) hx hb dX5_lose_15 rfl hl (by decide) rfl (fun ls hl => ?_)
    refine lv_iload_n hx hb dX5_lose_16 rfl (lv_at hl 0 rfl) ?_
    refine lv_if_le (tgt := 25) hx hb dX5_lose_17 (by decide) (fun c6 => ?_) (fun c6 => ?_)
    · rw [if_pos c6] at hF
      refine lv_aload_n hx hb dX5_lose_25 rfl (lv_at hl 1 rfl) ?_
      obtain ⟨q7, h8, hF⟩ := obind hF
      refine kv_i (As := []) (ok := (fun _ => True)) Fc hA Z Lens.all (c_X5_keeps l D cI cS am ρ  q7 h8) mL_RX5_96 v_X5_keeps ⟨rfl, rfl⟩ ⟨Nat.le_of_ble_eq_true rfl, Nat.le_of_ble_eq_true rfl⟩ ⟨Nat.zero_le _, Nat.zero_le _⟩ 0 5 rfl rfl rfl hl (Nat.le_of_ble_eq_true rfl) dX5_lose_26 rfl (fun H locs ok1 Z => ?_)
      refine lv_aload_n hx hb dX5_lose_29 rfl (lv_at hl 1 rfl) ?_
      refine lv_iload_n hx hb dX5_lose_30 rfl (lv_at hl 2 rfl) ?_
      obtain ⟨q9, h10, hF⟩ := obind hF
      refine kv_i (As := [.int p1]) (ok := (fun _ => True)) Fc hA Z Lens.all (c_X5_loses l D cI cS am q7 p1 q9 h10) mL_RX5_135 v_X5_loses ⟨rfl, rfl⟩ ⟨Nat.le_of_ble_eq_true rfl, Nat.le_of_ble_eq_true rfl⟩ ⟨Nat.zero_le _, Nat.zero_le _⟩ 0 5 rfl rfl rfl hl (Nat.le_of_ble_eq_true rfl) dX5_lose_31 rfl (fun H locs ok1 Z => ?_)
      refine lv_aload_n hx hb dX5_lose_34 rfl (lv_at hl 1 rfl) ?_
      refine kget Fc Z inX5 0 rfl rfl 0 (by decide) mF_RX5_11 rfl rfl dX5_lose_35 ?_
      refine lv_sipush (v := (253 : Int32)) hx hb dX5_lose_38 (by decide) ?_
      refine lv_iconst (v := (4 : Int32)) hx hb dX5_lose_41 (by decide) ?_
      refine lv_aload_n hx hb dX5_lose_42 rfl (lv_at hl 1 rfl) ?_
      refine lv_iload_n hx hb dX5_lose_43 rfl (lv_at hl 2 rfl) ?_
      refine lv_iconst (v := (4 : Int32)) hx hb dX5_lose_44 (by decide) ?_
      obtain ⟨v11, h12, hF⟩ := obind hF
      refine kr_i (As := [.int p1, .int (4 : Int32)]) Fc hA Z Lens.all (c_X5_of l D cI cS am q9 p1 (4 : Int32) v11 h12) mL_RX5_73 v_X5_of ⟨rfl, rfl⟩ ⟨Nat.le_of_ble_eq_true rfl, Nat.le_of_ble_eq_true rfl⟩ ⟨Nat.zero_le _, Nat.zero_le _⟩ 0 5 rfl rfl rfl hl (Nat.le_of_ble_eq_true rfl) dX5_lose_45 rfl (fun H locs Z => ?_)
      refine lv_imul hx hb dX5_lose_48 ?_
      refine lv_iadd hx hb dX5_lose_49 ?_
      obtain ⟨v13, h14, hF⟩ := obind hF
      refine kald Fc Z 1 rfl h14 dX5_lose_50 ?_
      refine lv_istore_n (lv' := [(3, .int v13), (2, .int v4), (0, .ref (am 0)), (1, .int p1)]) hx hb dX5_lose_51 rfl hl (by decide) rfl (fun ls hl => ?_)
      refine lv_aload_n hx hb dX5_lose_52 rfl (lv_at hl 2 rfl) ?_
      refine lv_iconst (v := (0 : Int32)) hx hb dX5_lose_53 (by decide) ?_
      obtain ⟨q15, h16, hF⟩ := obind hF
      refine km_i (As := [.int (0 : Int32)]) (ok := (fun _ => True)) Fc hA Z Lens.all (c_X5_made l D cI cS am q9 (0 : Int32) q15 h16) mL_RX5_103 v_X5_made ⟨rfl, rfl⟩ ⟨Nat.le_of_ble_eq_true rfl, Nat.le_of_ble_eq_true rfl⟩ ⟨Nat.zero_le _, Nat.zero_le _⟩ 0 5 rfl rfl rfl hl (Nat.le_of_ble_eq_true rfl) dX5_lose_54 rfl (fun H locs ok1 Z => ?_)
      refine lv_istore (lv' := [(4, .int q15.1), (3, .int v13), (2, .int v4), (0, .ref (am 0)), (1, .int p1)]) hx hb dX5_lose_57 hl (by decide) rfl (fun ls hl => ?_)
      refine lv_iload_n hx hb dX5_lose_59 rfl (lv_at hl 1 rfl) ?_
      exact kret v13 q15.2 _ _ _ _ ⟨(pfst (Option.some.inj hF)), psnd (Option.some.inj hF), trivial⟩ Z dX5_lose_60
    · rw [if_neg c6] at hF
      refine lv_bipush (v := (-100 : Int32)) hx hb dX5_lose_20 (by decide) ?_
      refine lv_iload_n hx hb dX5_lose_22 rfl (lv_at hl 0 rfl) ?_
      refine lv_isub hx hb dX5_lose_23 ?_
      exact kret (((-100 : Int32) - v4)) ρ _ _ _ _ ⟨(pfst (Option.some.inj hF)), psnd (Option.some.inj hF), trivial⟩ Z dX5_lose_24
  · rw [if_pos c3] at hF
    refine lv_iconst (v := (-1 : Int32)) hx hb dX5_lose_8 (by decide) ?_
    exact kret (-1 : Int32) ρ _ _ _ _ ⟨(pfst (Option.some.inj hF)), psnd (Option.some.inj hF), trivial⟩ Z dX5_lose_9
def X5_overdue_L4 (ρ : Ms) (x1 : Int32) : Nat → Int32 → Int32 → Option (Int32)
  | 0, _, _ => none
  | k + 1, x2, x3 => (rdA (ρ.1.1 0) 681 (1 : Int32)).bind fun v1 => if v1 ≤ x3 then (some x2) else (X5_of ρ x3 (3 : Int32)).bind fun v4 => if v4 = (1 : Int32) then ((X5_of ρ x3 (4 : Int32)).bind fun v7 => if v7 = x1 then ((X5_of ρ x3 (5 : Int32)).bind fun v10 => (rdA (ρ.1.1 0) 681 (0 : Int32)).bind fun v12 => if v12 ≤ v10 then (X5_overdue_L4 ρ x1 k ((x2 + (0 : Int32))) ((x3 + (1 : Int32)))) else X5_overdue_L4 ρ x1 k ((x2 + (1 : Int32))) ((x3 + (1 : Int32)))) else X5_overdue_L4 ρ x1 k ((x2 + (0 : Int32))) ((x3 + (1 : Int32)))) else X5_overdue_L4 ρ x1 k ((x2 + (0 : Int32))) ((x3 + (1 : Int32)))
def X5_overdue (ρ : Ms) (p1 : Int32) : Option (Int32) := X5_overdue_L4 ρ p1 FU (0 : Int32) (0 : Int32)
def rm_X5_overdue : Room := { frames := 1, cells := 0, slots := 0, locals := 22 }
theorem v_X5_overdue : WdV RX5 yX5_overdue cX5_overdue 4 (some .int) 1 := ⟨mI_X5_overdue, mS_X5_overdue, mZ_RX5, mC_X5_overdue, by decide +kernel⟩
set_option maxHeartbeats 8000000 in
set_option maxRecDepth 100000 in
theorem c_X5_overdue (l : Launch) (D : va_G) (cI cS : ClassId) (am : Nat → Nat) (ρ : Ms) (p1 : Int32) (F : Int32) (hF : X5_overdue ρ p1 = some F) : MI l yX5_overdue cX5_overdue 4 (some .int) rm_X5_overdue D cI cS [.ref (am 0), .int p1] (mW am cI ρ) (mW am cI) (fun r u' => r = F ∧ u' = ρ) := by
  refine MI.mk RX5 rfl .int rfl (by decide) (Nat.le_of_ble_eq_true rfl) (fun _ _ _ => rfl) ?_
  intro p e s m args below meth c A Q ls Fc hin hA Z kret hl
  obtain ⟨hx, hb, hml, hown, hts, hKN⟩ := id Fc
  replace hl : lv_has ls 4 [(0, .ref (am 0)), (1, .int p1)] := hl
  have L4 : ∀ (x1 : Int32) (k : Nat) (x2 : Int32) (x3 : Int32) (H : Heap) (locs : List Loc) (ls : Array Slot), X5_overdue_L4 ρ x1  k x2 x3 = some F → Ix D A s (mW am cI ρ) H locs → lv_has ls 4 [(0, .ref (am 0)), (1, .int x1), (2, .int x2), (3, .int x3)] → W p l e rm_X5_overdue s m args below meth c H locs 0 0 Q (F0 m 4 ls []) := by
    intro x1 k
    induction k with
    | zero => intro x2 x3 H locs ls hF; rw [X5_overdue_L4] at hF; cases hF
    | succ k ih =>
      intro x2 x3 H locs ls hF Z hl
      rw [X5_overdue_L4] at hF
      refine lv_iload_n hx hb dX5_overdue_4 rfl (lv_at hl 3 rfl) ?_
      refine lv_aload_n hx hb dX5_overdue_5 rfl (lv_at hl 0 rfl) ?_
      refine kget Fc Z inX5 0 rfl rfl 0 (by decide) mF_RX5_11 rfl rfl dX5_overdue_6 ?_
      refine lv_iconst (v := (1 : Int32)) hx hb dX5_overdue_9 (by decide) ?_
      obtain ⟨v1, h2, hF⟩ := obind hF
      refine kald Fc Z 1 rfl h2 dX5_overdue_10 ?_
      refine lv_icmp_ge (tgt := 63) hx hb dX5_overdue_11 (by decide) (fun c3 => ?_) (fun c3 => ?_)
      · rw [if_pos c3] at hF
        refine lv_iload_n hx hb dX5_overdue_63 rfl (lv_at hl 2 rfl) ?_
        exact kret x2 ρ _ _ _ _ ⟨(Option.some.inj hF), rfl⟩ Z dX5_overdue_64
      · rw [if_neg c3] at hF
        refine lv_iload_n hx hb dX5_overdue_14 rfl (lv_at hl 2 rfl) ?_
        refine lv_aload_n hx hb dX5_overdue_15 rfl (lv_at hl 0 rfl) ?_
        refine lv_iload_n hx hb dX5_overdue_16 rfl (lv_at hl 3 rfl) ?_
        refine lv_iconst (v := (3 : Int32)) hx hb dX5_overdue_17 (by decide) ?_
        obtain ⟨v4, h5, hF⟩ := obind hF
        refine kr_i (As := [.int x3, .int (3 : Int32)]) Fc hA Z Lens.all (c_X5_of l D cI cS am ρ x3 (3 : Int32) v4 h5) mL_RX5_73 v_X5_of ⟨rfl, rfl⟩ ⟨Nat.le_of_ble_eq_true rfl, Nat.le_of_ble_eq_true rfl⟩ ⟨Nat.zero_le _, Nat.zero_le _⟩ 0 5 rfl rfl rfl hl (Nat.le_of_ble_eq_true rfl) dX5_overdue_18 rfl (fun H locs Z => ?_)
        refine lv_iconst (v := (1 : Int32)) hx hb dX5_overdue_21 (by decide) ?_
        refine lv_icmp_ne (tgt := 54) hx hb dX5_overdue_22 (by decide) (fun c6 => ?_) (fun c6 => ?_)
        · rw [if_neg c6] at hF
          refine lv_iconst (v := (0 : Int32)) hx hb dX5_overdue_54 (by decide) ?_
          refine lv_iadd hx hb dX5_overdue_55 ?_
          refine lv_istore_n (lv' := [(2, .int (x2 + (0 : Int32))), (0, .ref (am 0)), (1, .int x1), (3, .int x3)]) hx hb dX5_overdue_56 rfl hl (by decide) rfl (fun ls hl => ?_)
          refine lv_iinc (v := (x3 + (1 : Int32))) (lv' := [(3, .int (x3 + (1 : Int32))), (2, .int (x2 + (0 : Int32))), (0, .ref (am 0)), (1, .int x1)]) hx hb dX5_overdue_57 hl (k := 3) rfl (by rfl) (by decide) rfl (fun ls hl => ?_)
          refine lv_goto (tgt := 4) hx hb dX5_overdue_60 (by decide) ?_
          exact ih ((x2 + (0 : Int32))) ((x3 + (1 : Int32))) _ _ _ hF Z (lv_sub hl [2, 3, 1, 0] rfl)
        · rw [if_pos c6] at hF
          refine lv_aload_n hx hb dX5_overdue_25 rfl (lv_at hl 0 rfl) ?_
          refine lv_iload_n hx hb dX5_overdue_26 rfl (lv_at hl 3 rfl) ?_
          refine lv_iconst (v := (4 : Int32)) hx hb dX5_overdue_27 (by decide) ?_
          obtain ⟨v7, h8, hF⟩ := obind hF
          refine kr_i (As := [.int x3, .int (4 : Int32)]) Fc hA Z Lens.all (c_X5_of l D cI cS am ρ x3 (4 : Int32) v7 h8) mL_RX5_73 v_X5_of ⟨rfl, rfl⟩ ⟨Nat.le_of_ble_eq_true rfl, Nat.le_of_ble_eq_true rfl⟩ ⟨Nat.zero_le _, Nat.zero_le _⟩ 0 5 rfl rfl rfl hl (Nat.le_of_ble_eq_true rfl) dX5_overdue_28 rfl (fun H locs Z => ?_)
          refine lv_iload_n hx hb dX5_overdue_31 rfl (lv_at hl 1 rfl) ?_
          refine lv_icmp_ne (tgt := 54) hx hb dX5_overdue_32 (by decide) (fun c9 => ?_) (fun c9 => ?_)
          · rw [if_neg c9] at hF
            refine lv_iconst (v := (0 : Int32)) hx hb dX5_overdue_54 (by decide) ?_
            refine lv_iadd hx hb dX5_overdue_55 ?_
            refine lv_istore_n (lv' := [(2, .int (x2 + (0 : Int32))), (0, .ref (am 0)), (1, .int x1), (3, .int x3)]) hx hb dX5_overdue_56 rfl hl (by decide) rfl (fun ls hl => ?_)
            refine lv_iinc (v := (x3 + (1 : Int32))) (lv' := [(3, .int (x3 + (1 : Int32))), (2, .int (x2 + (0 : Int32))), (0, .ref (am 0)), (1, .int x1)]) hx hb dX5_overdue_57 hl (k := 3) rfl (by rfl) (by decide) rfl (fun ls hl => ?_)
            refine lv_goto (tgt := 4) hx hb dX5_overdue_60 (by decide) ?_
            exact ih ((x2 + (0 : Int32))) ((x3 + (1 : Int32))) _ _ _ hF Z (lv_sub hl [2, 3, 1, 0] rfl)
          · rw [if_pos c9] at hF
            refine lv_aload_n hx hb dX5_overdue_35 rfl (lv_at hl 0 rfl) ?_
            refine lv_iload_n hx hb dX5_overdue_36 rfl (lv_at hl 3 rfl) ?_
            refine lv_iconst (v := (5 : Int32)) hx hb dX5_overdue_37 (by decide) ?_
            obtain ⟨v10, h11, hF⟩ := obind hF
            refine kr_i (As := [.int x3, .int (5 : Int32)]) Fc hA Z Lens.all (c_X5_of l D cI cS am ρ x3 (5 : Int32) v10 h11) mL_RX5_73 v_X5_of ⟨rfl, rfl⟩ ⟨Nat.le_of_ble_eq_true rfl, Nat.le_of_ble_eq_true rfl⟩ ⟨Nat.zero_le _, Nat.zero_le _⟩ 0 5 rfl rfl rfl hl (Nat.le_of_ble_eq_true rfl) dX5_overdue_38 rfl (fun H locs Z => ?_)
            refine lv_aload_n hx hb dX5_overdue_41 rfl (lv_at hl 0 rfl) ?_
            refine kget Fc Z inX5 0 rfl rfl 0 (by decide) mF_RX5_11 rfl rfl dX5_overdue_42 ?_
            refine lv_iconst (v := (0 : Int32)) hx hb dX5_overdue_45 (by decide) ?_
            obtain ⟨v12, h13, hF⟩ := obind hF
            refine kald Fc Z 1 rfl h13 dX5_overdue_46 ?_
            refine lv_icmp_ge (tgt := 54) hx hb dX5_overdue_47 (by decide) (fun c14 => ?_) (fun c14 => ?_)
            · rw [if_pos c14] at hF
              refine lv_iconst (v := (0 : Int32)) hx hb dX5_overdue_54 (by decide) ?_
              refine lv_iadd hx hb dX5_overdue_55 ?_
              refine lv_istore_n (lv' := [(2, .int (x2 + (0 : Int32))), (0, .ref (am 0)), (1, .int x1), (3, .int x3)]) hx hb dX5_overdue_56 rfl hl (by decide) rfl (fun ls hl => ?_)
              refine lv_iinc (v := (x3 + (1 : Int32))) (lv' := [(3, .int (x3 + (1 : Int32))), (2, .int (x2 + (0 : Int32))), (0, .ref (am 0)), (1, .int x1)]) hx hb dX5_overdue_57 hl (k := 3) rfl (by rfl) (by decide) rfl (fun ls hl => ?_)
              refine lv_goto (tgt := 4) hx hb dX5_overdue_60 (by decide) ?_
              exact ih ((x2 + (0 : Int32))) ((x3 + (1 : Int32))) _ _ _ hF Z (lv_sub hl [2, 3, 1, 0] rfl)
            · rw [if_neg c14] at hF
              refine lv_iconst (v := (1 : Int32)) hx hb dX5_overdue_50 (by decide) ?_
              refine lv_goto (tgt := 55) hx hb dX5_overdue_51 (by decide) ?_
              refine lv_iadd hx hb dX5_overdue_55 ?_
              refine lv_istore_n (lv' := [(2, .int (x2 + (1 : Int32))), (0, .ref (am 0)), (1, .int x1), (3, .int x3)]) hx hb dX5_overdue_56 rfl hl (by decide) rfl (fun ls hl => ?_)
              refine lv_iinc (v := (x3 + (1 : Int32))) (lv' := [(3, .int (x3 + (1 : Int32))), (2, .int (x2 + (1 : Int32))), (0, .ref (am 0)), (1, .int x1)]) hx hb dX5_overdue_57 hl (k := 3) rfl (by rfl) (by decide) rfl (fun ls hl => ?_)
              refine lv_goto (tgt := 4) hx hb dX5_overdue_60 (by decide) ?_
              exact ih ((x2 + (1 : Int32))) ((x3 + (1 : Int32))) _ _ _ hF Z (lv_sub hl [2, 3, 1, 0] rfl)
  unfold X5_overdue at hF
  refine lv_iconst (v := (0 : Int32)) hx hb dX5_overdue_0 (by decide) ?_
  refine lv_istore_n (lv' := [(2, .int (0 : Int32)), (0, .ref (am 0)), (1, .int p1)]) hx hb dX5_overdue_1 rfl hl (by decide) rfl (fun ls hl => ?_)
  refine lv_iconst (v := (0 : Int32)) hx hb dX5_overdue_2 (by decide) ?_
  refine lv_istore_n (lv' := [(3, .int (0 : Int32)), (2, .int (0 : Int32)), (0, .ref (am 0)), (1, .int p1)]) hx hb dX5_overdue_3 rfl hl (by decide) rfl (fun ls hl => ?_)
  exact L4 p1 FU (0 : Int32) (0 : Int32) _ _ _ hF Z (lv_sub hl [2, 3, 1, 0] rfl)
def X5_owes_ (ρ : Ms) (p1 : Int32) : Option (Int32) := (X5_isPatron ρ p1).bind fun v1 => if (bi v1) = 0 then (some (-1 : Int32)) else (rdA (ρ.1.1 0) 681 (((253 : Int32) + ((4 : Int32) * p1)))).bind fun v4 => some v4
def rm_X5_owes_ : Room := { frames := 2, cells := 0, slots := 0, locals := 43 }
theorem v_X5_owes_ : WdV RX5 yX5_owes_ cX5_owes_ 2 (some .int) 1 := ⟨mI_X5_owes_, mS_X5_owes_, mZ_RX5, mC_X5_owes_, by decide +kernel⟩
set_option maxHeartbeats 8000000 in
set_option maxRecDepth 100000 in
theorem c_X5_owes_ (l : Launch) (D : va_G) (cI cS : ClassId) (am : Nat → Nat) (ρ : Ms) (p1 : Int32) (F : Int32) (hF : X5_owes_ ρ p1 = some F) : MI l yX5_owes_ cX5_owes_ 2 (some .int) rm_X5_owes_ D cI cS [.ref (am 0), .int p1] (mW am cI ρ) (mW am cI) (fun r u' => r = F ∧ u' = ρ) := by
  refine MI.mk RX5 rfl .int rfl (by decide) (Nat.le_of_ble_eq_true rfl) (fun _ _ _ => rfl) ?_
  intro p e s m args below meth c A Q ls Fc hin hA Z kret hl
  obtain ⟨hx, hb, hml, hown, hts, hKN⟩ := id Fc
  replace hl : lv_has ls 2 [(0, .ref (am 0)), (1, .int p1)] := hl
  unfold X5_owes_ at hF
  refine lv_aload_n hx hb dX5_owes__0 rfl (lv_at hl 0 rfl) ?_
  refine lv_iload_n hx hb dX5_owes__1 rfl (lv_at hl 1 rfl) ?_
  obtain ⟨v1, h2, hF⟩ := obind hF
  refine kr_i (As := [.int p1]) Fc hA Z Lens.all (c_X5_isPatron l D cI cS am ρ p1 v1 h2) mL_RX5_147 v_X5_isPatron ⟨rfl, rfl⟩ ⟨Nat.le_of_ble_eq_true rfl, Nat.le_of_ble_eq_true rfl⟩ ⟨Nat.zero_le _, Nat.zero_le _⟩ 0 5 rfl rfl rfl hl (Nat.le_of_ble_eq_true rfl) dX5_owes__2 rfl (fun H locs Z => ?_)
  refine lv_if_eq (tgt := 23) hx hb dX5_owes__5 (by decide) (fun c3 => ?_) (fun c3 => ?_)
  · rw [if_pos c3] at hF
    refine lv_iconst (v := (-1 : Int32)) hx hb dX5_owes__23 (by decide) ?_
    exact kret (-1 : Int32) ρ _ _ _ _ ⟨(Option.some.inj hF), rfl⟩ Z dX5_owes__24
  · rw [if_neg c3] at hF
    refine lv_aload_n hx hb dX5_owes__8 rfl (lv_at hl 0 rfl) ?_
    refine kget Fc Z inX5 0 rfl rfl 0 (by decide) mF_RX5_11 rfl rfl dX5_owes__9 ?_
    refine lv_sipush (v := (253 : Int32)) hx hb dX5_owes__12 (by decide) ?_
    refine lv_iconst (v := (4 : Int32)) hx hb dX5_owes__15 (by decide) ?_
    refine lv_iload_n hx hb dX5_owes__16 rfl (lv_at hl 1 rfl) ?_
    refine lv_imul hx hb dX5_owes__17 ?_
    refine lv_iadd hx hb dX5_owes__18 ?_
    obtain ⟨v4, h5, hF⟩ := obind hF
    refine kald Fc Z 1 rfl h5 dX5_owes__19 ?_
    refine lv_goto (tgt := 24) hx hb dX5_owes__20 (by decide) ?_
    exact kret v4 ρ _ _ _ _ ⟨(Option.some.inj hF), rfl⟩ Z dX5_owes__24
def X5_pass (ρ : Ms) (p1 : Int32) : Option (Int32 × Ms) := (X5_keeps ρ).bind fun q1 => (X5_passes q1 p1).bind fun q3 => (X5_made q3.2 q3.1).bind fun q5 => some (q5.1, q5.2)
def rm_X5_pass : Room := { frames := 6, cells := 0, slots := 0, locals := 139 }
theorem v_X5_pass : WdV RX5 yX5_pass cX5_pass 2 (some .int) 1 := ⟨mI_X5_pass, mS_X5_pass, mZ_RX5, mC_X5_pass, by decide +kernel⟩
set_option maxHeartbeats 8000000 in
set_option maxRecDepth 100000 in
theorem c_X5_pass (l : Launch) (D : va_G) (cI cS : ClassId) (am : Nat → Nat) (ρ : Ms) (p1 : Int32) (F : Int32 × Ms) (hF : X5_pass ρ p1 = some F) : MI l yX5_pass cX5_pass 2 (some .int) rm_X5_pass D cI cS [.ref (am 0), .int p1] (mW am cI ρ) (mW am cI) (fun r u => r = F.1 ∧ u = F.2 ∧ True) := by
  refine MI.mk RX5 rfl .int rfl (by decide) (Nat.le_of_ble_eq_true rfl) (fun _ _ _ => rfl) ?_
  intro p e s m args below meth c A Q ls Fc hin hA Z kret hl
  obtain ⟨hx, hb, hml, hown, hts, hKN⟩ := id Fc
  replace hl : lv_has ls 2 [(0, .ref (am 0)), (1, .int p1)] := hl
  unfold X5_pass at hF
  refine lv_aload_n hx hb dX5_pass_0 rfl (lv_at hl 0 rfl) ?_
  obtain ⟨q1, h2, hF⟩ := obind hF
  refine kv_i (As := []) (ok := (fun _ => True)) Fc hA Z Lens.all (c_X5_keeps l D cI cS am ρ  q1 h2) mL_RX5_96 v_X5_keeps ⟨rfl, rfl⟩ ⟨Nat.le_of_ble_eq_true rfl, Nat.le_of_ble_eq_true rfl⟩ ⟨Nat.zero_le _, Nat.zero_le _⟩ 0 5 rfl rfl rfl hl (Nat.le_of_ble_eq_true rfl) dX5_pass_1 rfl (fun H locs ok1 Z => ?_)
  refine lv_aload_n hx hb dX5_pass_4 rfl (lv_at hl 0 rfl) ?_
  refine lv_aload_n hx hb dX5_pass_5 rfl (lv_at hl 0 rfl) ?_
  refine lv_iload_n hx hb dX5_pass_6 rfl (lv_at hl 1 rfl) ?_
  obtain ⟨q3, h4, hF⟩ := obind hF
  refine km_i (As := [.int p1]) (ok := (fun _ => True)) Fc hA Z Lens.all (c_X5_passes l D cI cS am q1 p1 q3 h4) mL_RX5_138 v_X5_passes ⟨rfl, rfl⟩ ⟨Nat.le_of_ble_eq_true rfl, Nat.le_of_ble_eq_true rfl⟩ ⟨Nat.zero_le _, Nat.zero_le _⟩ 0 5 rfl rfl rfl hl (Nat.le_of_ble_eq_true rfl) dX5_pass_7 rfl (fun H locs ok1 Z => ?_)
  obtain ⟨q5, h6, hF⟩ := obind hF
  refine km_i (As := [.int q3.1]) (ok := (fun _ => True)) Fc hA Z Lens.all (c_X5_made l D cI cS am q3.2 q3.1 q5 h6) mL_RX5_103 v_X5_made ⟨rfl, rfl⟩ ⟨Nat.le_of_ble_eq_true rfl, Nat.le_of_ble_eq_true rfl⟩ ⟨Nat.zero_le _, Nat.zero_le _⟩ 0 5 rfl rfl rfl hl (Nat.le_of_ble_eq_true rfl) dX5_pass_10 rfl (fun H locs ok1 Z => ?_)
  exact kret q5.1 q5.2 _ _ _ _ ⟨(pfst (Option.some.inj hF)), psnd (Option.some.inj hF), trivial⟩ Z dX5_pass_13
def X5_patron (ρ : Ms) (p1 p2 : Int32) : Option (Int32) := (X5_isPatron ρ p1).bind fun v1 => if (bi v1) = 0 then (some (-1 : Int32)) else if p2 = (0 : Int32) then ((X5_loans ρ p1).bind fun v5 => some v5) else if p2 = (1 : Int32) then ((X5_holdsOf ρ p1).bind fun v8 => some v8) else if p2 = (2 : Int32) then ((rdA (ρ.1.1 0) 681 ((((253 : Int32) + ((4 : Int32) * p1)) + (1 : Int32)))).bind fun v11 => some v11) else if p2 = (3 : Int32) then ((X5_overdue ρ p1).bind fun v14 => some v14) else if p2 = (4 : Int32) then ((rdA (ρ.1.1 0) 681 ((((253 : Int32) + ((4 : Int32) * p1)) + (2 : Int32)))).bind fun v17 => some v17) else if p2 = (5 : Int32) then ((rdA (ρ.1.1 0) 681 ((((253 : Int32) + ((4 : Int32) * p1)) + (3 : Int32)))).bind fun v20 => some v20) else some (-1 : Int32)
def rm_X5_patron : Room := { frames := 2, cells := 0, slots := 0, locals := 45 }
theorem v_X5_patron : WdV RX5 yX5_patron cX5_patron 3 (some .int) 2 := ⟨mI_X5_patron, mS_X5_patron, mZ_RX5, mC_X5_patron, by decide +kernel⟩
set_option maxHeartbeats 8000000 in
set_option maxRecDepth 100000 in
theorem c_X5_patron (l : Launch) (D : va_G) (cI cS : ClassId) (am : Nat → Nat) (ρ : Ms) (p1 p2 : Int32) (F : Int32) (hF : X5_patron ρ p1 p2 = some F) : MI l yX5_patron cX5_patron 3 (some .int) rm_X5_patron D cI cS [.ref (am 0), .int p1, .int p2] (mW am cI ρ) (mW am cI) (fun r u' => r = F ∧ u' = ρ) := by
  refine MI.mk RX5 rfl .int rfl (by decide) (Nat.le_of_ble_eq_true rfl) (fun _ _ _ => rfl) ?_
  intro p e s m args below meth c A Q ls Fc hin hA Z kret hl
  obtain ⟨hx, hb, hml, hown, hts, hKN⟩ := id Fc
  replace hl : lv_has ls 3 [(0, .ref (am 0)), (1, .int p1), (2, .int p2)] := hl
  unfold X5_patron at hF
  refine lv_aload_n hx hb dX5_patron_0 rfl (lv_at hl 0 rfl) ?_
  refine lv_iload_n hx hb dX5_patron_1 rfl (lv_at hl 1 rfl) ?_
  obtain ⟨v1, h2, hF⟩ := obind hF
  refine kr_i (As := [.int p1]) Fc hA Z Lens.all (c_X5_isPatron l D cI cS am ρ p1 v1 h2) mL_RX5_147 v_X5_isPatron ⟨rfl, rfl⟩ ⟨Nat.le_of_ble_eq_true rfl, Nat.le_of_ble_eq_true rfl⟩ ⟨Nat.zero_le _, Nat.zero_le _⟩ 0 5 rfl rfl rfl hl (Nat.le_of_ble_eq_true rfl) dX5_patron_2 rfl (fun H locs Z => ?_)
  refine lv_if_ne (tgt := 10) hx hb dX5_patron_5 (by decide) (fun c3 => ?_) (fun c3 => ?_)
  · rw [if_neg c3] at hF
    refine lv_iload_n hx hb dX5_patron_10 rfl (lv_at hl 2 rfl) ?_
    rcases Decidable.em (p2 = (0 : Int32)) with c4 | c4
    · rw [if_pos c4] at hF
      refine lv_tableIn (off := 37) (tgt := 48) hx hb dX5_patron_11 (by rw [c4]; decide) (by rw [c4]; decide) (by rw [c4]; decide) (by decide) ?_
      refine lv_aload_n hx hb dX5_patron_48 rfl (lv_at hl 0 rfl) ?_
      refine lv_iload_n hx hb dX5_patron_49 rfl (lv_at hl 1 rfl) ?_
      obtain ⟨v5, h6, hF⟩ := obind hF
      refine kr_i (As := [.int p1]) Fc hA Z Lens.all (c_X5_loans l D cI cS am ρ p1 v5 h6) mL_RX5_144 v_X5_loans ⟨rfl, rfl⟩ ⟨Nat.le_of_ble_eq_true rfl, Nat.le_of_ble_eq_true rfl⟩ ⟨Nat.zero_le _, Nat.zero_le _⟩ 0 5 rfl rfl rfl hl (Nat.le_of_ble_eq_true rfl) dX5_patron_50 rfl (fun H locs Z => ?_)
      exact kret v5 ρ _ _ _ _ ⟨(Option.some.inj hF), rfl⟩ Z dX5_patron_53
    rw [if_neg c4] at hF
    rcases Decidable.em (p2 = (1 : Int32)) with c7 | c7
    · rw [if_pos c7] at hF
      refine lv_tableIn (off := 43) (tgt := 54) hx hb dX5_patron_11 (by rw [c7]; decide) (by rw [c7]; decide) (by rw [c7]; decide) (by decide) ?_
      refine lv_aload_n hx hb dX5_patron_54 rfl (lv_at hl 0 rfl) ?_
      refine lv_iload_n hx hb dX5_patron_55 rfl (lv_at hl 1 rfl) ?_
      obtain ⟨v8, h9, hF⟩ := obind hF
      refine kr_i (As := [.int p1]) Fc hA Z Lens.all (c_X5_holdsOf l D cI cS am ρ p1 v8 h9) mL_RX5_201 v_X5_holdsOf ⟨rfl, rfl⟩ ⟨Nat.le_of_ble_eq_true rfl, Nat.le_of_ble_eq_true rfl⟩ ⟨Nat.zero_le _, Nat.zero_le _⟩ 0 5 rfl rfl rfl hl (Nat.le_of_ble_eq_true rfl) dX5_patron_56 rfl (fun H locs Z => ?_)
      exact kret v8 ρ _ _ _ _ ⟨(Option.some.inj hF), rfl⟩ Z dX5_patron_59
    rw [if_neg c7] at hF
    rcases Decidable.em (p2 = (2 : Int32)) with c10 | c10
    · rw [if_pos c10] at hF
      refine lv_tableIn (off := 49) (tgt := 60) hx hb dX5_patron_11 (by rw [c10]; decide) (by rw [c10]; decide) (by rw [c10]; decide) (by decide) ?_
      refine lv_aload_n hx hb dX5_patron_60 rfl (lv_at hl 0 rfl) ?_
      refine kget Fc Z inX5 0 rfl rfl 0 (by decide) mF_RX5_11 rfl rfl dX5_patron_61 ?_
      refine lv_sipush (v := (253 : Int32)) hx hb dX5_patron_64 (by decide) ?_
      refine lv_iconst (v := (4 : Int32)) hx hb dX5_patron_67 (by decide) ?_
      refine lv_iload_n hx hb dX5_patron_68 rfl (lv_at hl 1 rfl) ?_
      refine lv_imul hx hb dX5_patron_69 ?_
      refine lv_iadd hx hb dX5_patron_70 ?_
      refine lv_iconst (v := (1 : Int32)) hx hb dX5_patron_71 (by decide) ?_
      refine lv_iadd hx hb dX5_patron_72 ?_
      obtain ⟨v11, h12, hF⟩ := obind hF
      refine kald Fc Z 1 rfl h12 dX5_patron_73 ?_
      exact kret v11 ρ _ _ _ _ ⟨(Option.some.inj hF), rfl⟩ Z dX5_patron_74
    rw [if_neg c10] at hF
    rcases Decidable.em (p2 = (3 : Int32)) with c13 | c13
    · rw [if_pos c13] at hF
      refine lv_tableIn (off := 64) (tgt := 75) hx hb dX5_patron_11 (by rw [c13]; decide) (by rw [c13]; decide) (by rw [c13]; decide) (by decide) ?_
      refine lv_aload_n hx hb dX5_patron_75 rfl (lv_at hl 0 rfl) ?_
      refine lv_iload_n hx hb dX5_patron_76 rfl (lv_at hl 1 rfl) ?_
      obtain ⟨v14, h15, hF⟩ := obind hF
      refine kr_i (As := [.int p1]) Fc hA Z Lens.all (c_X5_overdue l D cI cS am ρ p1 v14 h15) mL_RX5_204 v_X5_overdue ⟨rfl, rfl⟩ ⟨Nat.le_of_ble_eq_true rfl, Nat.le_of_ble_eq_true rfl⟩ ⟨Nat.zero_le _, Nat.zero_le _⟩ 0 5 rfl rfl rfl hl (Nat.le_of_ble_eq_true rfl) dX5_patron_77 rfl (fun H locs Z => ?_)
      exact kret v14 ρ _ _ _ _ ⟨(Option.some.inj hF), rfl⟩ Z dX5_patron_80
    rw [if_neg c13] at hF
    rcases Decidable.em (p2 = (4 : Int32)) with c16 | c16
    · rw [if_pos c16] at hF
      refine lv_tableIn (off := 70) (tgt := 81) hx hb dX5_patron_11 (by rw [c16]; decide) (by rw [c16]; decide) (by rw [c16]; decide) (by decide) ?_
      refine lv_aload_n hx hb dX5_patron_81 rfl (lv_at hl 0 rfl) ?_
      refine kget Fc Z inX5 0 rfl rfl 0 (by decide) mF_RX5_11 rfl rfl dX5_patron_82 ?_
      refine lv_sipush (v := (253 : Int32)) hx hb dX5_patron_85 (by decide) ?_
      refine lv_iconst (v := (4 : Int32)) hx hb dX5_patron_88 (by decide) ?_
      refine lv_iload_n hx hb dX5_patron_89 rfl (lv_at hl 1 rfl) ?_
      refine lv_imul hx hb dX5_patron_90 ?_
      refine lv_iadd hx hb dX5_patron_91 ?_
      refine lv_iconst (v := (2 : Int32)) hx hb dX5_patron_92 (by decide) ?_
      refine lv_iadd hx hb dX5_patron_93 ?_
      obtain ⟨v17, h18, hF⟩ := obind hF
      refine kald Fc Z 1 rfl h18 dX5_patron_94 ?_
      exact kret v17 ρ _ _ _ _ ⟨(Option.some.inj hF), rfl⟩ Z dX5_patron_95
    rw [if_neg c16] at hF
    rcases Decidable.em (p2 = (5 : Int32)) with c19 | c19
    · rw [if_pos c19] at hF
      refine lv_tableIn (off := 85) (tgt := 96) hx hb dX5_patron_11 (by rw [c19]; decide) (by rw [c19]; decide) (by rw [c19]; decide) (by decide) ?_
      refine lv_aload_n hx hb dX5_patron_96 rfl (lv_at hl 0 rfl) ?_
      refine kget Fc Z inX5 0 rfl rfl 0 (by decide) mF_RX5_11 rfl rfl dX5_patron_97 ?_
      refine lv_sipush (v := (253 : Int32)) hx hb dX5_patron_100 (by decide) ?_
      refine lv_iconst (v := (4 : Int32)) hx hb dX5_patron_103 (by decide) ?_
      refine lv_iload_n hx hb dX5_patron_104 rfl (lv_at hl 1 rfl) ?_
      refine lv_imul hx hb dX5_patron_105 ?_
      refine lv_iadd hx hb dX5_patron_106 ?_
      refine lv_iconst (v := (3 : Int32)) hx hb dX5_patron_107 (by decide) ?_
      refine lv_iadd hx hb dX5_patron_108 ?_
      obtain ⟨v20, h21, hF⟩ := obind hF
      refine kald Fc Z 1 rfl h21 dX5_patron_109 ?_
      exact kret v20 ρ _ _ _ _ ⟨(Option.some.inj hF), rfl⟩ Z dX5_patron_110
    rw [if_neg c19] at hF
    refine kdflt (tgt := 111) hx hb dX5_patron_11 [(0 : Int32), (1 : Int32), (2 : Int32), (3 : Int32), (4 : Int32), (5 : Int32)] (by decide) (by intro v hv; simp only [List.mem_cons, List.not_mem_nil, or_false] at hv; rcases hv with rfl | rfl | rfl | rfl | rfl | rfl <;> assumption) (by decide) ?_
    refine lv_iconst (v := (-1 : Int32)) hx hb dX5_patron_111 (by decide) ?_
    exact kret (-1 : Int32) ρ _ _ _ _ ⟨(Option.some.inj hF), rfl⟩ Z dX5_patron_112
  · rw [if_pos c3] at hF
    refine lv_iconst (v := (-1 : Int32)) hx hb dX5_patron_8 (by decide) ?_
    exact kret (-1 : Int32) ρ _ _ _ _ ⟨(Option.some.inj hF), rfl⟩ Z dX5_patron_9
def X5_patronCount (ρ : Ms) : Option (Int32) := (rdA (ρ.1.1 0) 681 (2 : Int32)).bind fun v1 => some v1
def rm_X5_patronCount : Room := { frames := 0, cells := 0, slots := 0, locals := 0 }
theorem v_X5_patronCount : WdV RX5 yX5_patronCount cX5_patronCount 1 (some .int) 0 := ⟨mI_X5_patronCount, mS_X5_patronCount, mZ_RX5, mC_X5_patronCount, by decide +kernel⟩
set_option maxHeartbeats 8000000 in
set_option maxRecDepth 100000 in
theorem c_X5_patronCount (l : Launch) (D : va_G) (cI cS : ClassId) (am : Nat → Nat) (ρ : Ms) (F : Int32) (hF : X5_patronCount ρ = some F) : MI l yX5_patronCount cX5_patronCount 1 (some .int) rm_X5_patronCount D cI cS [.ref (am 0)] (mW am cI ρ) (mW am cI) (fun r u' => r = F ∧ u' = ρ) := by
  refine MI.mk RX5 rfl .int rfl (by decide) (Nat.le_of_ble_eq_true rfl) (fun _ _ _ => rfl) ?_
  intro p e s m args below meth c A Q ls Fc hin hA Z kret hl
  obtain ⟨hx, hb, hml, hown, hts, hKN⟩ := id Fc
  replace hl : lv_has ls 1 [(0, .ref (am 0))] := hl
  unfold X5_patronCount at hF
  refine lv_aload_n hx hb dX5_patronCount_0 rfl (lv_at hl 0 rfl) ?_
  refine kget Fc Z inX5 0 rfl rfl 0 (by decide) mF_RX5_11 rfl rfl dX5_patronCount_1 ?_
  refine lv_iconst (v := (2 : Int32)) hx hb dX5_patronCount_4 (by decide) ?_
  obtain ⟨v1, h2, hF⟩ := obind hF
  refine kald Fc Z 1 rfl h2 dX5_patronCount_5 ?_
  exact kret v1 ρ _ _ _ _ ⟨(Option.some.inj hF), rfl⟩ Z dX5_patronCount_6
def X5_pay (ρ : Ms) (p1 p2 : Int32) : Option (Int32 × Ms) := (X5_keeps ρ).bind fun q1 => (X5_lessens q1 (3 : Int32) p1 p2).bind fun q3 => (X5_made q3.2 q3.1).bind fun q5 => some (q5.1, q5.2)
def rm_X5_pay : Room := { frames := 3, cells := 0, slots := 0, locals := 71 }
theorem v_X5_pay : WdV RX5 yX5_pay cX5_pay 3 (some .int) 2 := ⟨mI_X5_pay, mS_X5_pay, mZ_RX5, mC_X5_pay, by decide +kernel⟩
set_option maxHeartbeats 8000000 in
set_option maxRecDepth 100000 in
theorem c_X5_pay (l : Launch) (D : va_G) (cI cS : ClassId) (am : Nat → Nat) (ρ : Ms) (p1 p2 : Int32) (F : Int32 × Ms) (hF : X5_pay ρ p1 p2 = some F) : MI l yX5_pay cX5_pay 3 (some .int) rm_X5_pay D cI cS [.ref (am 0), .int p1, .int p2] (mW am cI ρ) (mW am cI) (fun r u => r = F.1 ∧ u = F.2 ∧ True) := by
  refine MI.mk RX5 rfl .int rfl (by decide) (Nat.le_of_ble_eq_true rfl) (fun _ _ _ => rfl) ?_
  intro p e s m args below meth c A Q ls Fc hin hA Z kret hl
  obtain ⟨hx, hb, hml, hown, hts, hKN⟩ := id Fc
  replace hl : lv_has ls 3 [(0, .ref (am 0)), (1, .int p1), (2, .int p2)] := hl
  unfold X5_pay at hF
  refine lv_aload_n hx hb dX5_pay_0 rfl (lv_at hl 0 rfl) ?_
  obtain ⟨q1, h2, hF⟩ := obind hF
  refine kv_i (As := []) (ok := (fun _ => True)) Fc hA Z Lens.all (c_X5_keeps l D cI cS am ρ  q1 h2) mL_RX5_96 v_X5_keeps ⟨rfl, rfl⟩ ⟨Nat.le_of_ble_eq_true rfl, Nat.le_of_ble_eq_true rfl⟩ ⟨Nat.zero_le _, Nat.zero_le _⟩ 0 5 rfl rfl rfl hl (Nat.le_of_ble_eq_true rfl) dX5_pay_1 rfl (fun H locs ok1 Z => ?_)
  refine lv_aload_n hx hb dX5_pay_4 rfl (lv_at hl 0 rfl) ?_
  refine lv_aload_n hx hb dX5_pay_5 rfl (lv_at hl 0 rfl) ?_
  refine lv_iconst (v := (3 : Int32)) hx hb dX5_pay_6 (by decide) ?_
  refine lv_iload_n hx hb dX5_pay_7 rfl (lv_at hl 1 rfl) ?_
  refine lv_iload_n hx hb dX5_pay_8 rfl (lv_at hl 2 rfl) ?_
  obtain ⟨q3, h4, hF⟩ := obind hF
  refine km_i (As := [.int (3 : Int32), .int p1, .int p2]) (ok := (fun _ => True)) Fc hA Z Lens.all (c_X5_lessens l D cI cS am q1 (3 : Int32) p1 p2 q3 h4) mL_RX5_210 v_X5_lessens ⟨rfl, rfl⟩ ⟨Nat.le_of_ble_eq_true rfl, Nat.le_of_ble_eq_true rfl⟩ ⟨Nat.zero_le _, Nat.zero_le _⟩ 0 5 rfl rfl rfl hl (Nat.le_of_ble_eq_true rfl) dX5_pay_9 rfl (fun H locs ok1 Z => ?_)
  obtain ⟨q5, h6, hF⟩ := obind hF
  refine km_i (As := [.int q3.1]) (ok := (fun _ => True)) Fc hA Z Lens.all (c_X5_made l D cI cS am q3.2 q3.1 q5 h6) mL_RX5_103 v_X5_made ⟨rfl, rfl⟩ ⟨Nat.le_of_ble_eq_true rfl, Nat.le_of_ble_eq_true rfl⟩ ⟨Nat.zero_le _, Nat.zero_le _⟩ 0 5 rfl rfl rfl hl (Nat.le_of_ble_eq_true rfl) dX5_pay_12 rfl (fun H locs ok1 Z => ?_)
  exact kret q5.1 q5.2 _ _ _ _ ⟨(pfst (Option.some.inj hF)), psnd (Option.some.inj hF), trivial⟩ Z dX5_pay_15
def X5_place_L37 (ρ : Ms) (x2 : Int32) (x3 : Int32) : Nat → Int32 → Int32 → Option (Int32)
  | 0, _, _ => none
  | k + 1, x4, x5 => if x3 ≤ x5 then (some x4) else (X5_hold ρ x5 (0 : Int32)).bind fun v2 => if v2 = x2 then (X5_place_L37 ρ x2 x3 k ((x4 + (1 : Int32))) ((x5 + (1 : Int32)))) else X5_place_L37 ρ x2 x3 k ((x4 + (0 : Int32))) ((x5 + (1 : Int32)))
def X5_place (ρ : Ms) (p1 p2 : Int32) : Option (Int32) := (X5_isPatron ρ p1).bind fun v5 => if (bi v5) = 0 then (some (-1 : Int32)) else if (bi (X5_isTitle p2)) = 0 then (some (-1 : Int32)) else (X5_holdBy ρ p1 p2).bind fun v9 => if 0 ≤ v9 then (X5_place_L37 ρ p2 v9 FU (0 : Int32) (0 : Int32)) else some (-2 : Int32)
def rm_X5_place : Room := { frames := 2, cells := 0, slots := 0, locals := 45 }
theorem v_X5_place : WdV RX5 yX5_place cX5_place 6 (some .int) 2 := ⟨mI_X5_place, mS_X5_place, mZ_RX5, mC_X5_place, by decide +kernel⟩
set_option maxHeartbeats 8000000 in
set_option maxRecDepth 100000 in
theorem c_X5_place (l : Launch) (D : va_G) (cI cS : ClassId) (am : Nat → Nat) (ρ : Ms) (p1 p2 : Int32) (F : Int32) (hF : X5_place ρ p1 p2 = some F) : MI l yX5_place cX5_place 6 (some .int) rm_X5_place D cI cS [.ref (am 0), .int p1, .int p2] (mW am cI ρ) (mW am cI) (fun r u' => r = F ∧ u' = ρ) := by
  refine MI.mk RX5 rfl .int rfl (by decide) (Nat.le_of_ble_eq_true rfl) (fun _ _ _ => rfl) ?_
  intro p e s m args below meth c A Q ls Fc hin hA Z kret hl
  obtain ⟨hx, hb, hml, hown, hts, hKN⟩ := id Fc
  replace hl : lv_has ls 6 [(0, .ref (am 0)), (1, .int p1), (2, .int p2)] := hl
  have L37 : ∀ (x2 : Int32) (x3 : Int32) (k : Nat) (x4 : Int32) (x5 : Int32) (H : Heap) (locs : List Loc) (ls : Array Slot), X5_place_L37 ρ x2 x3  k x4 x5 = some F → Ix D A s (mW am cI ρ) H locs → lv_has ls 6 [(0, .ref (am 0)), (2, .int x2), (3, .int x3), (4, .int x4), (5, .int x5)] → W p l e rm_X5_place s m args below meth c H locs 0 0 Q (F0 m 37 ls []) := by
    intro x2 x3 k
    induction k with
    | zero => intro x4 x5 H locs ls hF; rw [X5_place_L37] at hF; cases hF
    | succ k ih =>
      intro x4 x5 H locs ls hF Z hl
      rw [X5_place_L37] at hF
      refine lv_iload hx hb dX5_place_37 (lv_at hl 4 rfl) ?_
      refine lv_iload_n hx hb dX5_place_39 rfl (lv_at hl 2 rfl) ?_
      refine lv_icmp_ge (tgt := 70) hx hb dX5_place_40 (by decide) (fun c1 => ?_) (fun c1 => ?_)
      · rw [if_pos c1] at hF
        refine lv_iload hx hb dX5_place_70 (lv_at hl 3 rfl) ?_
        exact kret x4 ρ _ _ _ _ ⟨(Option.some.inj hF), rfl⟩ Z dX5_place_72
      · rw [if_neg c1] at hF
        refine lv_iload hx hb dX5_place_43 (lv_at hl 3 rfl) ?_
        refine lv_aload_n hx hb dX5_place_45 rfl (lv_at hl 0 rfl) ?_
        refine lv_iload hx hb dX5_place_46 (lv_at hl 4 rfl) ?_
        refine lv_iconst (v := (0 : Int32)) hx hb dX5_place_48 (by decide) ?_
        obtain ⟨v2, h3, hF⟩ := obind hF
        refine kr_i (As := [.int x5, .int (0 : Int32)]) Fc hA Z Lens.all (c_X5_hold l D cI cS am ρ x5 (0 : Int32) v2 h3) mL_RX5_59 v_X5_hold ⟨rfl, rfl⟩ ⟨Nat.le_of_ble_eq_true rfl, Nat.le_of_ble_eq_true rfl⟩ ⟨Nat.zero_le _, Nat.zero_le _⟩ 0 5 rfl rfl rfl hl (Nat.le_of_ble_eq_true rfl) dX5_place_49 rfl (fun H locs Z => ?_)
        refine lv_iload_n hx hb dX5_place_52 rfl (lv_at hl 1 rfl) ?_
        refine lv_icmp_ne (tgt := 60) hx hb dX5_place_53 (by decide) (fun c4 => ?_) (fun c4 => ?_)
        · rw [if_neg c4] at hF
          refine lv_iconst (v := (0 : Int32)) hx hb dX5_place_60 (by decide) ?_
          refine lv_iadd hx hb dX5_place_61 ?_
          refine lv_istore (lv' := [(4, .int (x4 + (0 : Int32))), (0, .ref (am 0)), (2, .int x2), (3, .int x3), (5, .int x5)]) hx hb dX5_place_62 hl (by decide) rfl (fun ls hl => ?_)
          refine lv_iinc (v := (x5 + (1 : Int32))) (lv' := [(5, .int (x5 + (1 : Int32))), (4, .int (x4 + (0 : Int32))), (0, .ref (am 0)), (2, .int x2), (3, .int x3)]) hx hb dX5_place_64 hl (k := 4) rfl (by rfl) (by decide) rfl (fun ls hl => ?_)
          refine lv_goto (tgt := 37) hx hb dX5_place_67 (by decide) ?_
          exact ih ((x4 + (0 : Int32))) ((x5 + (1 : Int32))) _ _ _ hF Z (lv_sub hl [2, 3, 4, 1, 0] rfl)
        · rw [if_pos c4] at hF
          refine lv_iconst (v := (1 : Int32)) hx hb dX5_place_56 (by decide) ?_
          refine lv_goto (tgt := 61) hx hb dX5_place_57 (by decide) ?_
          refine lv_iadd hx hb dX5_place_61 ?_
          refine lv_istore (lv' := [(4, .int (x4 + (1 : Int32))), (0, .ref (am 0)), (2, .int x2), (3, .int x3), (5, .int x5)]) hx hb dX5_place_62 hl (by decide) rfl (fun ls hl => ?_)
          refine lv_iinc (v := (x5 + (1 : Int32))) (lv' := [(5, .int (x5 + (1 : Int32))), (4, .int (x4 + (1 : Int32))), (0, .ref (am 0)), (2, .int x2), (3, .int x3)]) hx hb dX5_place_64 hl (k := 4) rfl (by rfl) (by decide) rfl (fun ls hl => ?_)
          refine lv_goto (tgt := 37) hx hb dX5_place_67 (by decide) ?_
          exact ih ((x4 + (1 : Int32))) ((x5 + (1 : Int32))) _ _ _ hF Z (lv_sub hl [2, 3, 4, 1, 0] rfl)
  unfold X5_place at hF
  refine lv_aload_n hx hb dX5_place_0 rfl (lv_at hl 0 rfl) ?_
  refine lv_iload_n hx hb dX5_place_1 rfl (lv_at hl 1 rfl) ?_
  obtain ⟨v5, h6, hF⟩ := obind hF
  refine kr_i (As := [.int p1]) Fc hA Z Lens.all (c_X5_isPatron l D cI cS am ρ p1 v5 h6) mL_RX5_147 v_X5_isPatron ⟨rfl, rfl⟩ ⟨Nat.le_of_ble_eq_true rfl, Nat.le_of_ble_eq_true rfl⟩ ⟨Nat.zero_le _, Nat.zero_le _⟩ 0 5 rfl rfl rfl hl (Nat.le_of_ble_eq_true rfl) dX5_place_2 rfl (fun H locs Z => ?_)
  refine lv_if_eq (tgt := 15) hx hb dX5_place_5 (by decide) (fun c7 => ?_) (fun c7 => ?_)
  · rw [if_pos c7] at hF
    refine lv_iconst (v := (-1 : Int32)) hx hb dX5_place_15 (by decide) ?_
    exact kret (-1 : Int32) ρ _ _ _ _ ⟨(Option.some.inj hF), rfl⟩ Z dX5_place_16
  · rw [if_neg c7] at hF
    refine lv_iload_n hx hb dX5_place_8 rfl (lv_at hl 2 rfl) ?_
    refine ks_i (As := [.int p2]) Fc hA Z (c_X5_isTitle l D cI cS p2 (X5_isTitle p2) rfl) mL_RX5_89 v_X5_isTitle ⟨rfl, rfl⟩ ⟨Nat.le_of_ble_eq_true rfl, Nat.le_of_ble_eq_true rfl⟩ ⟨Nat.zero_le _, Nat.zero_le _⟩ rfl hl (Nat.le_of_ble_eq_true rfl) dX5_place_9 rfl (fun H locs Z => ?_)
    refine lv_if_ne (tgt := 17) hx hb dX5_place_12 (by decide) (fun c8 => ?_) (fun c8 => ?_)
    · rw [if_neg c8] at hF
      refine lv_aload_n hx hb dX5_place_17 rfl (lv_at hl 0 rfl) ?_
      refine lv_iload_n hx hb dX5_place_18 rfl (lv_at hl 1 rfl) ?_
      refine lv_iload_n hx hb dX5_place_19 rfl (lv_at hl 2 rfl) ?_
      obtain ⟨v9, h10, hF⟩ := obind hF
      refine kr_i (As := [.int p1, .int p2]) Fc hA Z Lens.all (c_X5_holdBy l D cI cS am ρ p1 p2 v9 h10) mL_RX5_174 v_X5_holdBy ⟨rfl, rfl⟩ ⟨Nat.le_of_ble_eq_true rfl, Nat.le_of_ble_eq_true rfl⟩ ⟨Nat.zero_le _, Nat.zero_le _⟩ 0 5 rfl rfl rfl hl (Nat.le_of_ble_eq_true rfl) dX5_place_20 rfl (fun H locs Z => ?_)
      refine lv_istore_n (lv' := [(3, .int v9), (0, .ref (am 0)), (1, .int p1), (2, .int p2)]) hx hb dX5_place_23 rfl hl (by decide) rfl (fun ls hl => ?_)
      refine lv_iload_n hx hb dX5_place_24 rfl (lv_at hl 0 rfl) ?_
      refine lv_if_ge (tgt := 31) hx hb dX5_place_25 (by decide) (fun c11 => ?_) (fun c11 => ?_)
      · rw [if_pos c11] at hF
        refine lv_iconst (v := (0 : Int32)) hx hb dX5_place_31 (by decide) ?_
        refine lv_istore (lv' := [(4, .int (0 : Int32)), (3, .int v9), (0, .ref (am 0)), (1, .int p1), (2, .int p2)]) hx hb dX5_place_32 hl (by decide) rfl (fun ls hl => ?_)
        refine lv_iconst (v := (0 : Int32)) hx hb dX5_place_34 (by decide) ?_
        refine lv_istore (lv' := [(5, .int (0 : Int32)), (4, .int (0 : Int32)), (3, .int v9), (0, .ref (am 0)), (1, .int p1), (2, .int p2)]) hx hb dX5_place_35 hl (by decide) rfl (fun ls hl => ?_)
        exact L37 p2 v9 FU (0 : Int32) (0 : Int32) _ _ _ hF Z (lv_sub hl [3, 5, 2, 1, 0] rfl)
      · rw [if_neg c11] at hF
        refine lv_bipush (v := (-2 : Int32)) hx hb dX5_place_28 (by decide) ?_
        exact kret (-2 : Int32) ρ _ _ _ _ ⟨(Option.some.inj hF), rfl⟩ Z dX5_place_30
    · rw [if_pos c8] at hF
      refine lv_iconst (v := (-1 : Int32)) hx hb dX5_place_15 (by decide) ?_
      exact kret (-1 : Int32) ρ _ _ _ _ ⟨(Option.some.inj hF), rfl⟩ Z dX5_place_16
def X5_reason (ρ : Ms) (p1 p2 p3 : Int32) : Option (Int32) := if p1 = 0 then ((X5_isPatron ρ p2).bind fun v22 => if (bi v22) = 0 then (some (-1 : Int32)) else (X5_isCopy ρ p3).bind fun v25 => if (bi v25) = 0 then (some (-1 : Int32)) else (X5_reasonToLend ρ p2 p3).bind fun v28 => some v28) else if p1 = (4 : Int32) then ((X5_isPatron ρ p2).bind fun v16 => if (bi v16) = 0 then (some (-1 : Int32)) else if (bi (X5_isTitle p3)) = 0 then (some (-1 : Int32)) else (X5_reasonToHold ρ p2 p3).bind fun v20 => some v20) else if (bi (X5_in p1 (1 : Int32) (3 : Int32))) = 0 then (some (-1 : Int32)) else if p3 = 0 then ((X5_isCopy ρ p2).bind fun v5 => if (bi v5) = 0 then (some (-1 : Int32)) else if p1 = (1 : Int32) then ((X5_reasonToRenew ρ p2).bind fun v14 => some v14) else if p1 = (2 : Int32) then ((X5_reasonToClaim ρ p2).bind fun v12 => some v12) else (X5_reasonToLose ρ p2).bind fun v10 => some v10) else some (-1 : Int32)
def rm_X5_reason : Room := { frames := 3, cells := 0, slots := 0, locals := 69 }
theorem v_X5_reason : WdV RX5 yX5_reason cX5_reason 4 (some .int) 3 := ⟨mI_X5_reason, mS_X5_reason, mZ_RX5, mC_X5_reason, by decide +kernel⟩
set_option maxHeartbeats 8000000 in
set_option maxRecDepth 100000 in
theorem c_X5_reason (l : Launch) (D : va_G) (cI cS : ClassId) (am : Nat → Nat) (ρ : Ms) (p1 p2 p3 : Int32) (F : Int32) (hF : X5_reason ρ p1 p2 p3 = some F) : MI l yX5_reason cX5_reason 4 (some .int) rm_X5_reason D cI cS [.ref (am 0), .int p1, .int p2, .int p3] (mW am cI ρ) (mW am cI) (fun r u' => r = F ∧ u' = ρ) := by
  refine MI.mk RX5 rfl .int rfl (by decide) (Nat.le_of_ble_eq_true rfl) (fun _ _ _ => rfl) ?_
  intro p e s m args below meth c A Q ls Fc hin hA Z kret hl
  obtain ⟨hx, hb, hml, hown, hts, hKN⟩ := id Fc
  replace hl : lv_has ls 4 [(0, .ref (am 0)), (1, .int p1), (2, .int p2), (3, .int p3)] := hl
  unfold X5_reason at hF
  refine lv_iload_n hx hb dX5_reason_0 rfl (lv_at hl 1 rfl) ?_
  refine lv_if_ne (tgt := 31) hx hb dX5_reason_1 (by decide) (fun c1 => ?_) (fun c1 => ?_)
  · rw [if_neg c1] at hF
    refine lv_iload_n hx hb dX5_reason_31 rfl (lv_at hl 1 rfl) ?_
    refine lv_iconst (v := (4 : Int32)) hx hb dX5_reason_32 (by decide) ?_
    refine lv_icmp_ne (tgt := 62) hx hb dX5_reason_33 (by decide) (fun c2 => ?_) (fun c2 => ?_)
    · rw [if_neg c2] at hF
      refine lv_iload_n hx hb dX5_reason_62 rfl (lv_at hl 1 rfl) ?_
      refine lv_iconst (v := (1 : Int32)) hx hb dX5_reason_63 (by decide) ?_
      refine lv_iconst (v := (3 : Int32)) hx hb dX5_reason_64 (by decide) ?_
      refine ks_i (As := [.int p1, .int (1 : Int32), .int (3 : Int32)]) Fc hA Z (c_X5_in l D cI cS p1 (1 : Int32) (3 : Int32) (X5_in p1 (1 : Int32) (3 : Int32)) rfl) mL_RX5_51 v_X5_in ⟨rfl, rfl⟩ ⟨Nat.le_of_ble_eq_true rfl, Nat.le_of_ble_eq_true rfl⟩ ⟨Nat.zero_le _, Nat.zero_le _⟩ rfl hl (Nat.le_of_ble_eq_true rfl) dX5_reason_65 rfl (fun H locs Z => ?_)
      refine lv_if_eq (tgt := 83) hx hb dX5_reason_68 (by decide) (fun c3 => ?_) (fun c3 => ?_)
      · rw [if_pos c3] at hF
        refine lv_iconst (v := (-1 : Int32)) hx hb dX5_reason_83 (by decide) ?_
        exact kret (-1 : Int32) ρ _ _ _ _ ⟨(Option.some.inj hF), rfl⟩ Z dX5_reason_84
      · rw [if_neg c3] at hF
        refine lv_iload_n hx hb dX5_reason_71 rfl (lv_at hl 3 rfl) ?_
        refine lv_if_ne (tgt := 83) hx hb dX5_reason_72 (by decide) (fun c4 => ?_) (fun c4 => ?_)
        · rw [if_neg c4] at hF
          refine lv_iconst (v := (-1 : Int32)) hx hb dX5_reason_83 (by decide) ?_
          exact kret (-1 : Int32) ρ _ _ _ _ ⟨(Option.some.inj hF), rfl⟩ Z dX5_reason_84
        · rw [if_pos c4] at hF
          refine lv_aload_n hx hb dX5_reason_75 rfl (lv_at hl 0 rfl) ?_
          refine lv_iload_n hx hb dX5_reason_76 rfl (lv_at hl 2 rfl) ?_
          obtain ⟨v5, h6, hF⟩ := obind hF
          refine kr_i (As := [.int p2]) Fc hA Z Lens.all (c_X5_isCopy l D cI cS am ρ p2 v5 h6) mL_RX5_113 v_X5_isCopy ⟨rfl, rfl⟩ ⟨Nat.le_of_ble_eq_true rfl, Nat.le_of_ble_eq_true rfl⟩ ⟨Nat.zero_le _, Nat.zero_le _⟩ 0 5 rfl rfl rfl hl (Nat.le_of_ble_eq_true rfl) dX5_reason_77 rfl (fun H locs Z => ?_)
          refine lv_if_ne (tgt := 85) hx hb dX5_reason_80 (by decide) (fun c7 => ?_) (fun c7 => ?_)
          · rw [if_neg c7] at hF
            refine lv_iload_n hx hb dX5_reason_85 rfl (lv_at hl 1 rfl) ?_
            refine lv_iconst (v := (1 : Int32)) hx hb dX5_reason_86 (by decide) ?_
            refine lv_icmp_ne (tgt := 98) hx hb dX5_reason_87 (by decide) (fun c8 => ?_) (fun c8 => ?_)
            · rw [if_neg c8] at hF
              refine lv_iload_n hx hb dX5_reason_98 rfl (lv_at hl 1 rfl) ?_
              refine lv_iconst (v := (2 : Int32)) hx hb dX5_reason_99 (by decide) ?_
              refine lv_icmp_ne (tgt := 111) hx hb dX5_reason_100 (by decide) (fun c9 => ?_) (fun c9 => ?_)
              · rw [if_neg c9] at hF
                refine lv_aload_n hx hb dX5_reason_111 rfl (lv_at hl 0 rfl) ?_
                refine lv_iload_n hx hb dX5_reason_112 rfl (lv_at hl 2 rfl) ?_
                obtain ⟨v10, h11, hF⟩ := obind hF
                refine kr_i (As := [.int p2]) Fc hA Z Lens.all (c_X5_reasonToLose l D cI cS am ρ p2 v10 h11) mL_RX5_171 v_X5_reasonToLose ⟨rfl, rfl⟩ ⟨Nat.le_of_ble_eq_true rfl, Nat.le_of_ble_eq_true rfl⟩ ⟨Nat.zero_le _, Nat.zero_le _⟩ 0 5 rfl rfl rfl hl (Nat.le_of_ble_eq_true rfl) dX5_reason_113 rfl (fun H locs Z => ?_)
                exact kret v10 ρ _ _ _ _ ⟨(Option.some.inj hF), rfl⟩ Z dX5_reason_116
              · rw [if_pos c9] at hF
                refine lv_aload_n hx hb dX5_reason_103 rfl (lv_at hl 0 rfl) ?_
                refine lv_iload_n hx hb dX5_reason_104 rfl (lv_at hl 2 rfl) ?_
                obtain ⟨v12, h13, hF⟩ := obind hF
                refine kr_i (As := [.int p2]) Fc hA Z Lens.all (c_X5_reasonToClaim l D cI cS am ρ p2 v12 h13) mL_RX5_168 v_X5_reasonToClaim ⟨rfl, rfl⟩ ⟨Nat.le_of_ble_eq_true rfl, Nat.le_of_ble_eq_true rfl⟩ ⟨Nat.zero_le _, Nat.zero_le _⟩ 0 5 rfl rfl rfl hl (Nat.le_of_ble_eq_true rfl) dX5_reason_105 rfl (fun H locs Z => ?_)
                refine lv_goto (tgt := 116) hx hb dX5_reason_108 (by decide) ?_
                exact kret v12 ρ _ _ _ _ ⟨(Option.some.inj hF), rfl⟩ Z dX5_reason_116
            · rw [if_pos c8] at hF
              refine lv_aload_n hx hb dX5_reason_90 rfl (lv_at hl 0 rfl) ?_
              refine lv_iload_n hx hb dX5_reason_91 rfl (lv_at hl 2 rfl) ?_
              obtain ⟨v14, h15, hF⟩ := obind hF
              refine kr_i (As := [.int p2]) Fc hA Z Lens.all (c_X5_reasonToRenew l D cI cS am ρ p2 v14 h15) mL_RX5_162 v_X5_reasonToRenew ⟨rfl, rfl⟩ ⟨Nat.le_of_ble_eq_true rfl, Nat.le_of_ble_eq_true rfl⟩ ⟨Nat.zero_le _, Nat.zero_le _⟩ 0 5 rfl rfl rfl hl (Nat.le_of_ble_eq_true rfl) dX5_reason_92 rfl (fun H locs Z => ?_)
              refine lv_goto (tgt := 116) hx hb dX5_reason_95 (by decide) ?_
              exact kret v14 ρ _ _ _ _ ⟨(Option.some.inj hF), rfl⟩ Z dX5_reason_116
          · rw [if_pos c7] at hF
            refine lv_iconst (v := (-1 : Int32)) hx hb dX5_reason_83 (by decide) ?_
            exact kret (-1 : Int32) ρ _ _ _ _ ⟨(Option.some.inj hF), rfl⟩ Z dX5_reason_84
    · rw [if_pos c2] at hF
      refine lv_aload_n hx hb dX5_reason_36 rfl (lv_at hl 0 rfl) ?_
      refine lv_iload_n hx hb dX5_reason_37 rfl (lv_at hl 2 rfl) ?_
      obtain ⟨v16, h17, hF⟩ := obind hF
      refine kr_i (As := [.int p2]) Fc hA Z Lens.all (c_X5_isPatron l D cI cS am ρ p2 v16 h17) mL_RX5_147 v_X5_isPatron ⟨rfl, rfl⟩ ⟨Nat.le_of_ble_eq_true rfl, Nat.le_of_ble_eq_true rfl⟩ ⟨Nat.zero_le _, Nat.zero_le _⟩ 0 5 rfl rfl rfl hl (Nat.le_of_ble_eq_true rfl) dX5_reason_38 rfl (fun H locs Z => ?_)
      refine lv_if_eq (tgt := 60) hx hb dX5_reason_41 (by decide) (fun c18 => ?_) (fun c18 => ?_)
      · rw [if_pos c18] at hF
        refine lv_iconst (v := (-1 : Int32)) hx hb dX5_reason_60 (by decide) ?_
        exact kret (-1 : Int32) ρ _ _ _ _ ⟨(Option.some.inj hF), rfl⟩ Z dX5_reason_61
      · rw [if_neg c18] at hF
        refine lv_iload_n hx hb dX5_reason_44 rfl (lv_at hl 3 rfl) ?_
        refine ks_i (As := [.int p3]) Fc hA Z (c_X5_isTitle l D cI cS p3 (X5_isTitle p3) rfl) mL_RX5_89 v_X5_isTitle ⟨rfl, rfl⟩ ⟨Nat.le_of_ble_eq_true rfl, Nat.le_of_ble_eq_true rfl⟩ ⟨Nat.zero_le _, Nat.zero_le _⟩ rfl hl (Nat.le_of_ble_eq_true rfl) dX5_reason_45 rfl (fun H locs Z => ?_)
        refine lv_if_eq (tgt := 60) hx hb dX5_reason_48 (by decide) (fun c19 => ?_) (fun c19 => ?_)
        · rw [if_pos c19] at hF
          refine lv_iconst (v := (-1 : Int32)) hx hb dX5_reason_60 (by decide) ?_
          exact kret (-1 : Int32) ρ _ _ _ _ ⟨(Option.some.inj hF), rfl⟩ Z dX5_reason_61
        · rw [if_neg c19] at hF
          refine lv_aload_n hx hb dX5_reason_51 rfl (lv_at hl 0 rfl) ?_
          refine lv_iload_n hx hb dX5_reason_52 rfl (lv_at hl 2 rfl) ?_
          refine lv_iload_n hx hb dX5_reason_53 rfl (lv_at hl 3 rfl) ?_
          obtain ⟨v20, h21, hF⟩ := obind hF
          refine kr_i (As := [.int p2, .int p3]) Fc hA Z Lens.all (c_X5_reasonToHold l D cI cS am ρ p2 p3 v20 h21) mL_RX5_179 v_X5_reasonToHold ⟨rfl, rfl⟩ ⟨Nat.le_of_ble_eq_true rfl, Nat.le_of_ble_eq_true rfl⟩ ⟨Nat.zero_le _, Nat.zero_le _⟩ 0 5 rfl rfl rfl hl (Nat.le_of_ble_eq_true rfl) dX5_reason_54 rfl (fun H locs Z => ?_)
          refine lv_goto (tgt := 61) hx hb dX5_reason_57 (by decide) ?_
          exact kret v20 ρ _ _ _ _ ⟨(Option.some.inj hF), rfl⟩ Z dX5_reason_61
  · rw [if_pos c1] at hF
    refine lv_aload_n hx hb dX5_reason_4 rfl (lv_at hl 0 rfl) ?_
    refine lv_iload_n hx hb dX5_reason_5 rfl (lv_at hl 2 rfl) ?_
    obtain ⟨v22, h23, hF⟩ := obind hF
    refine kr_i (As := [.int p2]) Fc hA Z Lens.all (c_X5_isPatron l D cI cS am ρ p2 v22 h23) mL_RX5_147 v_X5_isPatron ⟨rfl, rfl⟩ ⟨Nat.le_of_ble_eq_true rfl, Nat.le_of_ble_eq_true rfl⟩ ⟨Nat.zero_le _, Nat.zero_le _⟩ 0 5 rfl rfl rfl hl (Nat.le_of_ble_eq_true rfl) dX5_reason_6 rfl (fun H locs Z => ?_)
    refine lv_if_eq (tgt := 29) hx hb dX5_reason_9 (by decide) (fun c24 => ?_) (fun c24 => ?_)
    · rw [if_pos c24] at hF
      refine lv_iconst (v := (-1 : Int32)) hx hb dX5_reason_29 (by decide) ?_
      exact kret (-1 : Int32) ρ _ _ _ _ ⟨(Option.some.inj hF), rfl⟩ Z dX5_reason_30
    · rw [if_neg c24] at hF
      refine lv_aload_n hx hb dX5_reason_12 rfl (lv_at hl 0 rfl) ?_
      refine lv_iload_n hx hb dX5_reason_13 rfl (lv_at hl 3 rfl) ?_
      obtain ⟨v25, h26, hF⟩ := obind hF
      refine kr_i (As := [.int p3]) Fc hA Z Lens.all (c_X5_isCopy l D cI cS am ρ p3 v25 h26) mL_RX5_113 v_X5_isCopy ⟨rfl, rfl⟩ ⟨Nat.le_of_ble_eq_true rfl, Nat.le_of_ble_eq_true rfl⟩ ⟨Nat.zero_le _, Nat.zero_le _⟩ 0 5 rfl rfl rfl hl (Nat.le_of_ble_eq_true rfl) dX5_reason_14 rfl (fun H locs Z => ?_)
      refine lv_if_eq (tgt := 29) hx hb dX5_reason_17 (by decide) (fun c27 => ?_) (fun c27 => ?_)
      · rw [if_pos c27] at hF
        refine lv_iconst (v := (-1 : Int32)) hx hb dX5_reason_29 (by decide) ?_
        exact kret (-1 : Int32) ρ _ _ _ _ ⟨(Option.some.inj hF), rfl⟩ Z dX5_reason_30
      · rw [if_neg c27] at hF
        refine lv_aload_n hx hb dX5_reason_20 rfl (lv_at hl 0 rfl) ?_
        refine lv_iload_n hx hb dX5_reason_21 rfl (lv_at hl 2 rfl) ?_
        refine lv_iload_n hx hb dX5_reason_22 rfl (lv_at hl 3 rfl) ?_
        obtain ⟨v28, h29, hF⟩ := obind hF
        refine kr_i (As := [.int p2, .int p3]) Fc hA Z Lens.all (c_X5_reasonToLend l D cI cS am ρ p2 p3 v28 h29) mL_RX5_150 v_X5_reasonToLend ⟨rfl, rfl⟩ ⟨Nat.le_of_ble_eq_true rfl, Nat.le_of_ble_eq_true rfl⟩ ⟨Nat.zero_le _, Nat.zero_le _⟩ 0 5 rfl rfl rfl hl (Nat.le_of_ble_eq_true rfl) dX5_reason_23 rfl (fun H locs Z => ?_)
        refine lv_goto (tgt := 30) hx hb dX5_reason_26 (by decide) ?_
        exact kret v28 ρ _ _ _ _ ⟨(Option.some.inj hF), rfl⟩ Z dX5_reason_30
def X5_renew (ρ : Ms) (p1 : Int32) : Option (Int32 × Ms) := (X5_keeps ρ).bind fun q1 => (X5_renews q1 p1).bind fun q3 => (X5_made q3.2 q3.1).bind fun q5 => some (q5.1, q5.2)
def rm_X5_renew : Room := { frames := 4, cells := 0, slots := 0, locals := 88 }
theorem v_X5_renew : WdV RX5 yX5_renew cX5_renew 2 (some .int) 1 := ⟨mI_X5_renew, mS_X5_renew, mZ_RX5, mC_X5_renew, by decide +kernel⟩
set_option maxHeartbeats 8000000 in
set_option maxRecDepth 100000 in
theorem c_X5_renew (l : Launch) (D : va_G) (cI cS : ClassId) (am : Nat → Nat) (ρ : Ms) (p1 : Int32) (F : Int32 × Ms) (hF : X5_renew ρ p1 = some F) : MI l yX5_renew cX5_renew 2 (some .int) rm_X5_renew D cI cS [.ref (am 0), .int p1] (mW am cI ρ) (mW am cI) (fun r u => r = F.1 ∧ u = F.2 ∧ True) := by
  refine MI.mk RX5 rfl .int rfl (by decide) (Nat.le_of_ble_eq_true rfl) (fun _ _ _ => rfl) ?_
  intro p e s m args below meth c A Q ls Fc hin hA Z kret hl
  obtain ⟨hx, hb, hml, hown, hts, hKN⟩ := id Fc
  replace hl : lv_has ls 2 [(0, .ref (am 0)), (1, .int p1)] := hl
  unfold X5_renew at hF
  refine lv_aload_n hx hb dX5_renew_0 rfl (lv_at hl 0 rfl) ?_
  obtain ⟨q1, h2, hF⟩ := obind hF
  refine kv_i (As := []) (ok := (fun _ => True)) Fc hA Z Lens.all (c_X5_keeps l D cI cS am ρ  q1 h2) mL_RX5_96 v_X5_keeps ⟨rfl, rfl⟩ ⟨Nat.le_of_ble_eq_true rfl, Nat.le_of_ble_eq_true rfl⟩ ⟨Nat.zero_le _, Nat.zero_le _⟩ 0 5 rfl rfl rfl hl (Nat.le_of_ble_eq_true rfl) dX5_renew_1 rfl (fun H locs ok1 Z => ?_)
  refine lv_aload_n hx hb dX5_renew_4 rfl (lv_at hl 0 rfl) ?_
  refine lv_aload_n hx hb dX5_renew_5 rfl (lv_at hl 0 rfl) ?_
  refine lv_iload_n hx hb dX5_renew_6 rfl (lv_at hl 1 rfl) ?_
  obtain ⟨q3, h4, hF⟩ := obind hF
  refine km_i (As := [.int p1]) (ok := (fun _ => True)) Fc hA Z Lens.all (c_X5_renews l D cI cS am q1 p1 q3 h4) mL_RX5_165 v_X5_renews ⟨rfl, rfl⟩ ⟨Nat.le_of_ble_eq_true rfl, Nat.le_of_ble_eq_true rfl⟩ ⟨Nat.zero_le _, Nat.zero_le _⟩ 0 5 rfl rfl rfl hl (Nat.le_of_ble_eq_true rfl) dX5_renew_7 rfl (fun H locs ok1 Z => ?_)
  obtain ⟨q5, h6, hF⟩ := obind hF
  refine km_i (As := [.int q3.1]) (ok := (fun _ => True)) Fc hA Z Lens.all (c_X5_made l D cI cS am q3.2 q3.1 q5 h6) mL_RX5_103 v_X5_made ⟨rfl, rfl⟩ ⟨Nat.le_of_ble_eq_true rfl, Nat.le_of_ble_eq_true rfl⟩ ⟨Nat.zero_le _, Nat.zero_le _⟩ 0 5 rfl rfl rfl hl (Nat.le_of_ble_eq_true rfl) dX5_renew_10 rfl (fun H locs ok1 Z => ?_)
  exact kret q5.1 q5.2 _ _ _ _ ⟨(pfst (Option.some.inj hF)), psnd (Option.some.inj hF), trivial⟩ Z dX5_renew_13
def X5_restore (ρ : Ms) : Option (Int32 × Ms) := if (bi ρ.2.1) = 0 then (some (((-2 : Int32), ρ))) else (X5_keeps ρ).bind fun q2 => (X5_copies2 681 681 (q2.1.1 2) (q2.1.1 0) (0 : Int32) (0 : Int32)).bind fun g4 => bnd (msA q2 0 g4) fun ρ6 => (rdA (ρ6.1.1 0) 681 (0 : Int32)).bind fun v8 => (X5_made ρ6 v8).bind fun q10 => some (q10.1, q10.2)
def rm_X5_restore : Room := { frames := 2, cells := 0, slots := 0, locals := 46 }
theorem v_X5_restore : WdV RX5 yX5_restore cX5_restore 1 (some .int) 0 := ⟨mI_X5_restore, mS_X5_restore, mZ_RX5, mC_X5_restore, by decide +kernel⟩
set_option maxHeartbeats 8000000 in
set_option maxRecDepth 100000 in
theorem c_X5_restore (l : Launch) (D : va_G) (cI cS : ClassId) (am : Nat → Nat) (ρ : Ms) (F : Int32 × Ms) (hF : X5_restore ρ = some F) : MI l yX5_restore cX5_restore 1 (some .int) rm_X5_restore D cI cS [.ref (am 0)] (mW am cI ρ) (mW am cI) (fun r u => r = F.1 ∧ u = F.2 ∧ True) := by
  refine MI.mk RX5 rfl .int rfl (by decide) (Nat.le_of_ble_eq_true rfl) (fun _ _ _ => rfl) ?_
  intro p e s m args below meth c A Q ls Fc hin hA Z kret hl
  obtain ⟨hx, hb, hml, hown, hts, hKN⟩ := id Fc
  replace hl : lv_has ls 1 [(0, .ref (am 0))] := hl
  unfold X5_restore at hF
  refine lv_aload_n hx hb dX5_restore_0 rfl (lv_at hl 0 rfl) ?_
  refine kget Fc Z inX5 0 rfl rfl 5 (by decide) mF_RX5_28 rfl rfl dX5_restore_1 ?_
  refine lv_if_ne (tgt := 10) hx hb dX5_restore_4 (by decide) (fun c1 => ?_) (fun c1 => ?_)
  · rw [if_neg c1] at hF
    refine lv_aload_n hx hb dX5_restore_10 rfl (lv_at hl 0 rfl) ?_
    obtain ⟨q2, h3, hF⟩ := obind hF
    refine kv_i (As := []) (ok := (fun _ => True)) Fc hA Z Lens.all (c_X5_keeps l D cI cS am ρ  q2 h3) mL_RX5_96 v_X5_keeps ⟨rfl, rfl⟩ ⟨Nat.le_of_ble_eq_true rfl, Nat.le_of_ble_eq_true rfl⟩ ⟨Nat.zero_le _, Nat.zero_le _⟩ 0 5 rfl rfl rfl hl (Nat.le_of_ble_eq_true rfl) dX5_restore_11 rfl (fun H locs ok1 Z => ?_)
    refine lv_aload_n hx hb dX5_restore_14 rfl (lv_at hl 0 rfl) ?_
    refine kget Fc Z inX5 0 rfl rfl 2 (by decide) mF_RX5_18 rfl rfl dX5_restore_15 ?_
    refine lv_iconst (v := (0 : Int32)) hx hb dX5_restore_18 (by decide) ?_
    refine lv_aload_n hx hb dX5_restore_19 rfl (lv_at hl 0 rfl) ?_
    refine kget Fc Z inX5 0 rfl rfl 0 (by decide) mF_RX5_11 rfl rfl dX5_restore_20 ?_
    refine lv_iconst (v := (0 : Int32)) hx hb dX5_restore_23 (by decide) ?_
    obtain ⟨g4, h5, hF⟩ := obind hF
    obtain ⟨ρ6, e7, hF⟩ := bnd_el hF
    refine ksv_i (As := [.ref (am 3), .int (0 : Int32), .ref (am 1), .int (0 : Int32)]) Fc hA Z (Lens.m2_2_0) (c_X5_copies2 l D cI cS (am 3) (am 1) 681 681 (q2.1.1 2) (q2.1.1 0) (0 : Int32) (0 : Int32) g4 h5) mL_RX5_47 v_X5_copies ⟨rfl, rfl⟩ ⟨Nat.le_of_ble_eq_true rfl, Nat.le_of_ble_eq_true rfl⟩ ⟨Nat.zero_le _, Nat.zero_le _⟩ rfl hl (Nat.le_of_ble_eq_true rfl) dX5_restore_24 rfl (fun H locs Z => ?_)
    have Z : Ix D A s (mW am cI ρ6) H locs := by rw [e7]; exact Z
    refine lv_aload_n hx hb dX5_restore_27 rfl (lv_at hl 0 rfl) ?_
    refine lv_aload_n hx hb dX5_restore_28 rfl (lv_at hl 0 rfl) ?_
    refine kget Fc Z inX5 0 rfl rfl 0 (by decide) mF_RX5_11 rfl rfl dX5_restore_29 ?_
    refine lv_iconst (v := (0 : Int32)) hx hb dX5_restore_32 (by decide) ?_
    obtain ⟨v8, h9, hF⟩ := obind hF
    refine kald Fc Z 1 rfl h9 dX5_restore_33 ?_
    obtain ⟨q10, h11, hF⟩ := obind hF
    refine km_i (As := [.int v8]) (ok := (fun _ => True)) Fc hA Z Lens.all (c_X5_made l D cI cS am ρ6 v8 q10 h11) mL_RX5_103 v_X5_made ⟨rfl, rfl⟩ ⟨Nat.le_of_ble_eq_true rfl, Nat.le_of_ble_eq_true rfl⟩ ⟨Nat.zero_le _, Nat.zero_le _⟩ 0 5 rfl rfl rfl hl (Nat.le_of_ble_eq_true rfl) dX5_restore_34 rfl (fun H locs ok1 Z => ?_)
    exact kret q10.1 q10.2 _ _ _ _ ⟨(pfst (Option.some.inj hF)), psnd (Option.some.inj hF), trivial⟩ Z dX5_restore_37
  · rw [if_pos c1] at hF
    refine lv_bipush (v := (-2 : Int32)) hx hb dX5_restore_7 (by decide) ?_
    exact kret (-2 : Int32) ρ _ _ _ _ ⟨(pfst (Option.some.inj hF)), psnd (Option.some.inj hF), trivial⟩ Z dX5_restore_9
def X5_save (ρ : Ms) : Option (Int32 × Ms) := (X5_copies2 681 681 (ρ.1.1 0) (ρ.1.1 2) (0 : Int32) (0 : Int32)).bind fun g1 => bnd (msA ρ 2 g1) fun ρ3 => bnd (msS ρ3 true) fun ρ5 => (rdA (ρ5.1.1 0) 681 (0 : Int32)).bind fun v7 => some (v7, ρ5)
def rm_X5_save : Room := { frames := 1, cells := 0, slots := 0, locals := 24 }
theorem v_X5_save : WdV RX5 yX5_save cX5_save 1 (some .int) 0 := ⟨mI_X5_save, mS_X5_save, mZ_RX5, mC_X5_save, by decide +kernel⟩
set_option maxHeartbeats 8000000 in
set_option maxRecDepth 100000 in
theorem c_X5_save (l : Launch) (D : va_G) (cI cS : ClassId) (am : Nat → Nat) (ρ : Ms) (F : Int32 × Ms) (hF : X5_save ρ = some F) : MI l yX5_save cX5_save 1 (some .int) rm_X5_save D cI cS [.ref (am 0)] (mW am cI ρ) (mW am cI) (fun r u => r = F.1 ∧ u = F.2 ∧ True) := by
  refine MI.mk RX5 rfl .int rfl (by decide) (Nat.le_of_ble_eq_true rfl) (fun _ _ _ => rfl) ?_
  intro p e s m args below meth c A Q ls Fc hin hA Z kret hl
  obtain ⟨hx, hb, hml, hown, hts, hKN⟩ := id Fc
  replace hl : lv_has ls 1 [(0, .ref (am 0))] := hl
  unfold X5_save at hF
  refine lv_aload_n hx hb dX5_save_0 rfl (lv_at hl 0 rfl) ?_
  refine kget Fc Z inX5 0 rfl rfl 0 (by decide) mF_RX5_11 rfl rfl dX5_save_1 ?_
  refine lv_iconst (v := (0 : Int32)) hx hb dX5_save_4 (by decide) ?_
  refine lv_aload_n hx hb dX5_save_5 rfl (lv_at hl 0 rfl) ?_
  refine kget Fc Z inX5 0 rfl rfl 2 (by decide) mF_RX5_18 rfl rfl dX5_save_6 ?_
  refine lv_iconst (v := (0 : Int32)) hx hb dX5_save_9 (by decide) ?_
  obtain ⟨g1, h2, hF⟩ := obind hF
  obtain ⟨ρ3, e4, hF⟩ := bnd_el hF
  refine ksv_i (As := [.ref (am 1), .int (0 : Int32), .ref (am 3), .int (0 : Int32)]) Fc hA Z (Lens.m2_0_2) (c_X5_copies2 l D cI cS (am 1) (am 3) 681 681 (ρ.1.1 0) (ρ.1.1 2) (0 : Int32) (0 : Int32) g1 h2) mL_RX5_47 v_X5_copies ⟨rfl, rfl⟩ ⟨Nat.le_of_ble_eq_true rfl, Nat.le_of_ble_eq_true rfl⟩ ⟨Nat.zero_le _, Nat.zero_le _⟩ rfl hl (Nat.le_of_ble_eq_true rfl) dX5_save_10 rfl (fun H locs Z => ?_)
  have Z : Ix D A s (mW am cI ρ3) H locs := by rw [e4]; exact Z
  refine lv_aload_n hx hb dX5_save_13 rfl (lv_at hl 0 rfl) ?_
  refine lv_iconst (v := (1 : Int32)) hx hb dX5_save_14 (by decide) ?_
  obtain ⟨ρ5, e6, hF⟩ := bnd_el hF
  refine kput (v := .int (bi true)) (ty := .boolean) (w' := mW am cI ρ5) Fc Z inX5 tyX5 tyX5_ok nmX5 0 rfl rfl 5 (by decide) mF_RX5_28 rfl rfl rfl (bi_nar true) (bi_fit true) (Nat.le_of_ble_eq_true rfl) (by rw [e6]; rfl) dX5_save_15 (fun H locs Z => ?_)
  refine lv_aload_n hx hb dX5_save_18 rfl (lv_at hl 0 rfl) ?_
  refine kget Fc Z inX5 0 rfl rfl 0 (by decide) mF_RX5_11 rfl rfl dX5_save_19 ?_
  refine lv_iconst (v := (0 : Int32)) hx hb dX5_save_22 (by decide) ?_
  obtain ⟨v7, h8, hF⟩ := obind hF
  refine kald Fc Z 1 rfl h8 dX5_save_23 ?_
  exact kret v7 ρ5 _ _ _ _ ⟨(pfst (Option.some.inj hF)), psnd (Option.some.inj hF), trivial⟩ Z dX5_save_24
def X5_set (ρ : Ms) (p1 p2 : Int32) : Option (Int32 × Ms) := if (bi (X5_in p1 (0 : Int32) (7 : Int32))) = 0 then (some (((-1 : Int32), ρ))) else if (bi (X5_in p2 (X5_least p1) (X5_most p1))) = 0 then (some (((-1 : Int32), ρ))) else (X5_keeps ρ).bind fun q3 => (rdA (q3.1.1 0) 681 (((5 : Int32) + p1))).bind fun v5 => (wrA (q3.1.1 0) 681 (((5 : Int32) + p1)) p2).bind fun g7 => bnd (msA q3 0 g7) fun ρ9 => (X5_made ρ9 v5).bind fun q11 => some (q11.1, q11.2)
def rm_X5_set : Room := { frames := 2, cells := 0, slots := 0, locals := 46 }
theorem v_X5_set : WdV RX5 yX5_set cX5_set 4 (some .int) 2 := ⟨mI_X5_set, mS_X5_set, mZ_RX5, mC_X5_set, by decide +kernel⟩
set_option maxHeartbeats 8000000 in
set_option maxRecDepth 100000 in
theorem c_X5_set (l : Launch) (D : va_G) (cI cS : ClassId) (am : Nat → Nat) (ρ : Ms) (p1 p2 : Int32) (F : Int32 × Ms) (hF : X5_set ρ p1 p2 = some F) : MI l yX5_set cX5_set 4 (some .int) rm_X5_set D cI cS [.ref (am 0), .int p1, .int p2] (mW am cI ρ) (mW am cI) (fun r u => r = F.1 ∧ u = F.2 ∧ True) := by
  refine MI.mk RX5 rfl .int rfl (by decide) (Nat.le_of_ble_eq_true rfl) (fun _ _ _ => rfl) ?_
  intro p e s m args below meth c A Q ls Fc hin hA Z kret hl
  obtain ⟨hx, hb, hml, hown, hts, hKN⟩ := id Fc
  replace hl : lv_has ls 4 [(0, .ref (am 0)), (1, .int p1), (2, .int p2)] := hl
  unfold X5_set at hF
  refine lv_iload_n hx hb dX5_set_0 rfl (lv_at hl 1 rfl) ?_
  refine lv_iconst (v := (0 : Int32)) hx hb dX5_set_1 (by decide) ?_
  refine lv_bipush (v := (7 : Int32)) hx hb dX5_set_2 (by decide) ?_
  refine ks_i (As := [.int p1, .int (0 : Int32), .int (7 : Int32)]) Fc hA Z (c_X5_in l D cI cS p1 (0 : Int32) (7 : Int32) (X5_in p1 (0 : Int32) (7 : Int32)) rfl) mL_RX5_51 v_X5_in ⟨rfl, rfl⟩ ⟨Nat.le_of_ble_eq_true rfl, Nat.le_of_ble_eq_true rfl⟩ ⟨Nat.zero_le _, Nat.zero_le _⟩ rfl hl (Nat.le_of_ble_eq_true rfl) dX5_set_4 rfl (fun H locs Z => ?_)
  refine lv_if_eq (tgt := 25) hx hb dX5_set_7 (by decide) (fun c1 => ?_) (fun c1 => ?_)
  · rw [if_pos c1] at hF
    refine lv_iconst (v := (-1 : Int32)) hx hb dX5_set_25 (by decide) ?_
    exact kret (-1 : Int32) ρ _ _ _ _ ⟨(pfst (Option.some.inj hF)), psnd (Option.some.inj hF), trivial⟩ Z dX5_set_26
  · rw [if_neg c1] at hF
    refine lv_iload_n hx hb dX5_set_10 rfl (lv_at hl 2 rfl) ?_
    refine lv_iload_n hx hb dX5_set_11 rfl (lv_at hl 1 rfl) ?_
    refine ks_i (As := [.int p1]) Fc hA Z (c_X5_least l D cI cS p1 (X5_least p1) rfl) mL_RX5_107 v_X5_least ⟨rfl, rfl⟩ ⟨Nat.le_of_ble_eq_true rfl, Nat.le_of_ble_eq_true rfl⟩ ⟨Nat.zero_le _, Nat.zero_le _⟩ rfl hl (Nat.le_of_ble_eq_true rfl) dX5_set_12 rfl (fun H locs Z => ?_)
    refine lv_iload_n hx hb dX5_set_15 rfl (lv_at hl 1 rfl) ?_
    refine ks_i (As := [.int p1]) Fc hA Z (c_X5_most l D cI cS p1 (X5_most p1) rfl) mL_RX5_110 v_X5_most ⟨rfl, rfl⟩ ⟨Nat.le_of_ble_eq_true rfl, Nat.le_of_ble_eq_true rfl⟩ ⟨Nat.zero_le _, Nat.zero_le _⟩ rfl hl (Nat.le_of_ble_eq_true rfl) dX5_set_16 rfl (fun H locs Z => ?_)
    refine ks_i (As := [.int p2, .int (X5_least p1), .int (X5_most p1)]) Fc hA Z (c_X5_in l D cI cS p2 (X5_least p1) (X5_most p1) (X5_in p2 (X5_least p1) (X5_most p1)) rfl) mL_RX5_51 v_X5_in ⟨rfl, rfl⟩ ⟨Nat.le_of_ble_eq_true rfl, Nat.le_of_ble_eq_true rfl⟩ ⟨Nat.zero_le _, Nat.zero_le _⟩ rfl hl (Nat.le_of_ble_eq_true rfl) dX5_set_19 rfl (fun H locs Z => ?_)
    refine lv_if_ne (tgt := 27) hx hb dX5_set_22 (by decide) (fun c2 => ?_) (fun c2 => ?_)
    · rw [if_neg c2] at hF
      refine lv_aload_n hx hb dX5_set_27 rfl (lv_at hl 0 rfl) ?_
      obtain ⟨q3, h4, hF⟩ := obind hF
      refine kv_i (As := []) (ok := (fun _ => True)) Fc hA Z Lens.all (c_X5_keeps l D cI cS am ρ  q3 h4) mL_RX5_96 v_X5_keeps ⟨rfl, rfl⟩ ⟨Nat.le_of_ble_eq_true rfl, Nat.le_of_ble_eq_true rfl⟩ ⟨Nat.zero_le _, Nat.zero_le _⟩ 0 5 rfl rfl rfl hl (Nat.le_of_ble_eq_true rfl) dX5_set_28 rfl (fun H locs ok1 Z => ?_)
      refine lv_aload_n hx hb dX5_set_31 rfl (lv_at hl 0 rfl) ?_
      refine kget Fc Z inX5 0 rfl rfl 0 (by decide) mF_RX5_11 rfl rfl dX5_set_32 ?_
      refine lv_iconst (v := (5 : Int32)) hx hb dX5_set_35 (by decide) ?_
      refine lv_iload_n hx hb dX5_set_36 rfl (lv_at hl 1 rfl) ?_
      refine lv_iadd hx hb dX5_set_37 ?_
      obtain ⟨v5, h6, hF⟩ := obind hF
      refine kald Fc Z 1 rfl h6 dX5_set_38 ?_
      refine lv_istore_n (lv' := [(3, .int v5), (0, .ref (am 0)), (1, .int p1), (2, .int p2)]) hx hb dX5_set_39 rfl hl (by decide) rfl (fun ls hl => ?_)
      refine lv_aload_n hx hb dX5_set_40 rfl (lv_at hl 1 rfl) ?_
      refine kget Fc Z inX5 0 rfl rfl 0 (by decide) mF_RX5_11 rfl rfl dX5_set_41 ?_
      refine lv_iconst (v := (5 : Int32)) hx hb dX5_set_44 (by decide) ?_
      refine lv_iload_n hx hb dX5_set_45 rfl (lv_at hl 2 rfl) ?_
      refine lv_iadd hx hb dX5_set_46 ?_
      refine lv_iload_n hx hb dX5_set_47 rfl (lv_at hl 3 rfl) ?_
      obtain ⟨g7, h8, hF⟩ := obind hF
      obtain ⟨ρ9, e10, hF⟩ := bnd_el hF
      refine kast (w' := mW am cI ρ9) Fc Z 1 rfl h8 (by rw [e10]; rfl) dX5_set_48 (fun H locs Z => ?_)
      refine lv_aload_n hx hb dX5_set_49 rfl (lv_at hl 1 rfl) ?_
      refine lv_iload_n hx hb dX5_set_50 rfl (lv_at hl 0 rfl) ?_
      obtain ⟨q11, h12, hF⟩ := obind hF
      refine km_i (As := [.int v5]) (ok := (fun _ => True)) Fc hA Z Lens.all (c_X5_made l D cI cS am ρ9 v5 q11 h12) mL_RX5_103 v_X5_made ⟨rfl, rfl⟩ ⟨Nat.le_of_ble_eq_true rfl, Nat.le_of_ble_eq_true rfl⟩ ⟨Nat.zero_le _, Nat.zero_le _⟩ 0 5 rfl rfl rfl hl (Nat.le_of_ble_eq_true rfl) dX5_set_51 rfl (fun H locs ok1 Z => ?_)
      exact kret q11.1 q11.2 _ _ _ _ ⟨(pfst (Option.some.inj hF)), psnd (Option.some.inj hF), trivial⟩ Z dX5_set_54
    · rw [if_pos c2] at hF
      refine lv_iconst (v := (-1 : Int32)) hx hb dX5_set_25 (by decide) ?_
      exact kret (-1 : Int32) ρ _ _ _ _ ⟨(pfst (Option.some.inj hF)), psnd (Option.some.inj hF), trivial⟩ Z dX5_set_26
def X5_setFloating (ρ : Ms) (p1 p2 : Int32) : Option (Int32 × Ms) := (X5_isCopy ρ p1).bind fun v1 => if (bi v1) = 0 then (some (((-1 : Int32), ρ))) else (X5_keeps ρ).bind fun q4 => (X5_of q4 p1 (2 : Int32)).bind fun v6 => if p2 = 0 then ((X5_puts q4 p1 (2 : Int32) (0 : Int32)).bind fun q9 => (X5_made q9 v6).bind fun q11 => some (q11.1, q11.2)) else (X5_puts q4 p1 (2 : Int32) (1 : Int32)).bind fun q13 => (X5_made q13 v6).bind fun q15 => some (q15.1, q15.2)
def rm_X5_setFloating : Room := { frames := 2, cells := 0, slots := 0, locals := 46 }
theorem v_X5_setFloating : WdV RX5 yX5_setFloating cX5_setFloating 4 (some .int) 2 := ⟨mI_X5_setFloating, mS_X5_setFloating, mZ_RX5, mC_X5_setFloating, by decide +kernel⟩
set_option maxHeartbeats 8000000 in
set_option maxRecDepth 100000 in
theorem c_X5_setFloating (l : Launch) (D : va_G) (cI cS : ClassId) (am : Nat → Nat) (ρ : Ms) (p1 p2 : Int32) (F : Int32 × Ms) (hF : X5_setFloating ρ p1 p2 = some F) : MI l yX5_setFloating cX5_setFloating 4 (some .int) rm_X5_setFloating D cI cS [.ref (am 0), .int p1, .int p2] (mW am cI ρ) (mW am cI) (fun r u => r = F.1 ∧ u = F.2 ∧ True) := by
  refine MI.mk RX5 rfl .int rfl (by decide) (Nat.le_of_ble_eq_true rfl) (fun _ _ _ => rfl) ?_
  intro p e s m args below meth c A Q ls Fc hin hA Z kret hl
  obtain ⟨hx, hb, hml, hown, hts, hKN⟩ := id Fc
  replace hl : lv_has ls 4 [(0, .ref (am 0)), (1, .int p1), (2, .int p2)] := hl
  unfold X5_setFloating at hF
  refine lv_aload_n hx hb dX5_setFloating_0 rfl (lv_at hl 0 rfl) ?_
  refine lv_iload_n hx hb dX5_setFloating_1 rfl (lv_at hl 1 rfl) ?_
  obtain ⟨v1, h2, hF⟩ := obind hF
  refine kr_i (As := [.int p1]) Fc hA Z Lens.all (c_X5_isCopy l D cI cS am ρ p1 v1 h2) mL_RX5_113 v_X5_isCopy ⟨rfl, rfl⟩ ⟨Nat.le_of_ble_eq_true rfl, Nat.le_of_ble_eq_true rfl⟩ ⟨Nat.zero_le _, Nat.zero_le _⟩ 0 5 rfl rfl rfl hl (Nat.le_of_ble_eq_true rfl) dX5_setFloating_2 rfl (fun H locs Z => ?_)
  refine lv_if_ne (tgt := 10) hx hb dX5_setFloating_5 (by decide) (fun c3 => ?_) (fun c3 => ?_)
  · rw [if_neg c3] at hF
    refine lv_aload_n hx hb dX5_setFloating_10 rfl (lv_at hl 0 rfl) ?_
    obtain ⟨q4, h5, hF⟩ := obind hF
    refine kv_i (As := []) (ok := (fun _ => True)) Fc hA Z Lens.all (c_X5_keeps l D cI cS am ρ  q4 h5) mL_RX5_96 v_X5_keeps ⟨rfl, rfl⟩ ⟨Nat.le_of_ble_eq_true rfl, Nat.le_of_ble_eq_true rfl⟩ ⟨Nat.zero_le _, Nat.zero_le _⟩ 0 5 rfl rfl rfl hl (Nat.le_of_ble_eq_true rfl) dX5_setFloating_11 rfl (fun H locs ok1 Z => ?_)
    refine lv_aload_n hx hb dX5_setFloating_14 rfl (lv_at hl 0 rfl) ?_
    refine lv_iload_n hx hb dX5_setFloating_15 rfl (lv_at hl 1 rfl) ?_
    refine lv_iconst (v := (2 : Int32)) hx hb dX5_setFloating_16 (by decide) ?_
    obtain ⟨v6, h7, hF⟩ := obind hF
    refine kr_i (As := [.int p1, .int (2 : Int32)]) Fc hA Z Lens.all (c_X5_of l D cI cS am q4 p1 (2 : Int32) v6 h7) mL_RX5_73 v_X5_of ⟨rfl, rfl⟩ ⟨Nat.le_of_ble_eq_true rfl, Nat.le_of_ble_eq_true rfl⟩ ⟨Nat.zero_le _, Nat.zero_le _⟩ 0 5 rfl rfl rfl hl (Nat.le_of_ble_eq_true rfl) dX5_setFloating_17 rfl (fun H locs Z => ?_)
    refine lv_istore_n (lv' := [(3, .int v6), (0, .ref (am 0)), (1, .int p1), (2, .int p2)]) hx hb dX5_setFloating_20 rfl hl (by decide) rfl (fun ls hl => ?_)
    refine lv_aload_n hx hb dX5_setFloating_21 rfl (lv_at hl 1 rfl) ?_
    refine lv_iload_n hx hb dX5_setFloating_22 rfl (lv_at hl 2 rfl) ?_
    refine lv_iconst (v := (2 : Int32)) hx hb dX5_setFloating_23 (by decide) ?_
    refine lv_iload_n hx hb dX5_setFloating_24 rfl (lv_at hl 3 rfl) ?_
    refine lv_if_eq (tgt := 32) hx hb dX5_setFloating_25 (by decide) (fun c8 => ?_) (fun c8 => ?_)
    · rw [if_pos c8] at hF
      refine lv_iconst (v := (0 : Int32)) hx hb dX5_setFloating_32 (by decide) ?_
      obtain ⟨q9, h10, hF⟩ := obind hF
      refine kv_i (As := [.int p1, .int (2 : Int32), .int (0 : Int32)]) (ok := (fun _ => True)) Fc hA Z Lens.all (c_X5_puts l D cI cS am q4 p1 (2 : Int32) (0 : Int32) q9 h10) mL_RX5_55 v_X5_puts ⟨rfl, rfl⟩ ⟨Nat.le_of_ble_eq_true rfl, Nat.le_of_ble_eq_true rfl⟩ ⟨Nat.zero_le _, Nat.zero_le _⟩ 0 5 rfl rfl rfl hl (Nat.le_of_ble_eq_true rfl) dX5_setFloating_33 rfl (fun H locs ok1 Z => ?_)
      refine lv_aload_n hx hb dX5_setFloating_36 rfl (lv_at hl 1 rfl) ?_
      refine lv_iload_n hx hb dX5_setFloating_37 rfl (lv_at hl 0 rfl) ?_
      obtain ⟨q11, h12, hF⟩ := obind hF
      refine km_i (As := [.int v6]) (ok := (fun _ => True)) Fc hA Z Lens.all (c_X5_made l D cI cS am q9 v6 q11 h12) mL_RX5_103 v_X5_made ⟨rfl, rfl⟩ ⟨Nat.le_of_ble_eq_true rfl, Nat.le_of_ble_eq_true rfl⟩ ⟨Nat.zero_le _, Nat.zero_le _⟩ 0 5 rfl rfl rfl hl (Nat.le_of_ble_eq_true rfl) dX5_setFloating_38 rfl (fun H locs ok1 Z => ?_)
      exact kret q11.1 q11.2 _ _ _ _ ⟨(pfst (Option.some.inj hF)), psnd (Option.some.inj hF), trivial⟩ Z dX5_setFloating_41
    · rw [if_neg c8] at hF
      refine lv_iconst (v := (1 : Int32)) hx hb dX5_setFloating_28 (by decide) ?_
      refine lv_goto (tgt := 33) hx hb dX5_setFloating_29 (by decide) ?_
      obtain ⟨q13, h14, hF⟩ := obind hF
      refine kv_i (As := [.int p1, .int (2 : Int32), .int (1 : Int32)]) (ok := (fun _ => True)) Fc hA Z Lens.all (c_X5_puts l D cI cS am q4 p1 (2 : Int32) (1 : Int32) q13 h14) mL_RX5_55 v_X5_puts ⟨rfl, rfl⟩ ⟨Nat.le_of_ble_eq_true rfl, Nat.le_of_ble_eq_true rfl⟩ ⟨Nat.zero_le _, Nat.zero_le _⟩ 0 5 rfl rfl rfl hl (Nat.le_of_ble_eq_true rfl) dX5_setFloating_33 rfl (fun H locs ok1 Z => ?_)
      refine lv_aload_n hx hb dX5_setFloating_36 rfl (lv_at hl 1 rfl) ?_
      refine lv_iload_n hx hb dX5_setFloating_37 rfl (lv_at hl 0 rfl) ?_
      obtain ⟨q15, h16, hF⟩ := obind hF
      refine km_i (As := [.int v6]) (ok := (fun _ => True)) Fc hA Z Lens.all (c_X5_made l D cI cS am q13 v6 q15 h16) mL_RX5_103 v_X5_made ⟨rfl, rfl⟩ ⟨Nat.le_of_ble_eq_true rfl, Nat.le_of_ble_eq_true rfl⟩ ⟨Nat.zero_le _, Nat.zero_le _⟩ 0 5 rfl rfl rfl hl (Nat.le_of_ble_eq_true rfl) dX5_setFloating_38 rfl (fun H locs ok1 Z => ?_)
      exact kret q15.1 q15.2 _ _ _ _ ⟨(pfst (Option.some.inj hF)), psnd (Option.some.inj hF), trivial⟩ Z dX5_setFloating_41
  · rw [if_pos c3] at hF
    refine lv_iconst (v := (-1 : Int32)) hx hb dX5_setFloating_8 (by decide) ?_
    exact kret (-1 : Int32) ρ _ _ _ _ ⟨(pfst (Option.some.inj hF)), psnd (Option.some.inj hF), trivial⟩ Z dX5_setFloating_9
