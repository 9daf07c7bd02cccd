/-! THE REFERENCE: its methods -/
def X5_setting (ρ : Ms) (p1 : Int32) : Option (Int32) := if (bi (X5_in p1 (0 : Int32) (7 : Int32))) = 0 then (some (-1 : Int32)) else (rdA (ρ.1.1 0) 681 (((5 : Int32) + p1))).bind fun v2 => some v2
def rm_X5_setting : Room := { frames := 1, cells := 0, slots := 0, locals := 22 }
theorem v_X5_setting : WdV RX5 yX5_setting cX5_setting 2 (some .int) 1 := ⟨mI_X5_setting, mS_X5_setting, mZ_RX5, mC_X5_setting, by decide +kernel⟩
set_option maxHeartbeats 8000000 in
set_option maxRecDepth 100000 in
theorem c_X5_setting (l : Launch) (D : va_G) (cI cS : ClassId) (am : Nat → Nat) (ρ : Ms) (p1 : Int32) (F : Int32) (hF : X5_setting ρ p1 = some F) : MI l yX5_setting cX5_setting 2 (some .int) rm_X5_setting D cI cS [.ref (am 0), .int p1] (mW am cI ρ) (mW am cI) (fun r u' => r = F ∧ u' = ρ) := by
  refine MI.mk RX5 rfl .int rfl (by decide) (Nat.le_of_ble_eq_true rfl) (fun _ _ _ => rfl) ?_
  intro p e s m args below meth c A Q ls Fc hin hA Z kret hl
  obtain ⟨hx, hb, hml, hown, hts, hKN⟩ := id Fc
  replace hl : lv_has ls 2 [(0, .ref (am 0)), (1, .int p1)] := hl
  unfold X5_setting at hF
  refine lv_iload_n hx hb dX5_setting_0 rfl (lv_at hl 1 rfl) ?_
  refine lv_iconst (v := (0 : Int32)) hx hb dX5_setting_1 (by decide) ?_
  refine lv_bipush (v := (7 : Int32)) hx hb dX5_setting_2 (by decide) ?_
  refine ks_i (As := [.int p1, .int (0 : Int32), .int (7 : Int32)]) Fc hA Z (c_X5_in l D cI cS p1 (0 : Int32) (7 : Int32) (X5_in p1 (0 : Int32) (7 : Int32)) rfl) mL_RX5_51 v_X5_in ⟨rfl, rfl⟩ ⟨Nat.le_of_ble_eq_true rfl, Nat.le_of_ble_eq_true rfl⟩ ⟨Nat.zero_le _, Nat.zero_le _⟩ rfl hl (Nat.le_of_ble_eq_true rfl) dX5_setting_4 rfl (fun H locs Z => ?_)
  refine lv_if_eq (tgt := 21) hx hb dX5_setting_7 (by decide) (fun c1 => ?_) (fun c1 => ?_)
  · rw [if_pos c1] at hF
    refine lv_iconst (v := (-1 : Int32)) hx hb dX5_setting_21 (by decide) ?_
    exact kret (-1 : Int32) ρ _ _ _ _ ⟨(Option.some.inj hF), rfl⟩ Z dX5_setting_22
  · rw [if_neg c1] at hF
    refine lv_aload_n hx hb dX5_setting_10 rfl (lv_at hl 0 rfl) ?_
    refine kget Fc Z inX5 0 rfl rfl 0 (by decide) mF_RX5_11 rfl rfl dX5_setting_11 ?_
    refine lv_iconst (v := (5 : Int32)) hx hb dX5_setting_14 (by decide) ?_
    refine lv_iload_n hx hb dX5_setting_15 rfl (lv_at hl 1 rfl) ?_
    refine lv_iadd hx hb dX5_setting_16 ?_
    obtain ⟨v2, h3, hF⟩ := obind hF
    refine kald Fc Z 1 rfl h3 dX5_setting_17 ?_
    refine lv_goto (tgt := 22) hx hb dX5_setting_18 (by decide) ?_
    exact kret v2 ρ _ _ _ _ ⟨(Option.some.inj hF), rfl⟩ Z dX5_setting_22
def X5_shelf_L14 (ρ : Ms) (x1 : Int32) (x2 : Int32) : Nat → Int32 → Int32 → Option (Int32)
  | 0, _, _ => none
  | k + 1, x3, x4 => (rdA (ρ.1.1 0) 681 (1 : Int32)).bind fun v1 => if v1 ≤ x4 then (if x2 = (-1 : Int32) then (some x3) else some (-2 : Int32)) else (X5_of ρ x4 (3 : Int32)).bind fun v5 => if v5 = 0 then ((X5_of ρ x4 (4 : Int32)).bind fun v8 => if v8 = x1 then (if x3 = x2 then (some x4) else X5_shelf_L14 ρ x1 x2 k ((x3 + (1 : Int32))) ((x4 + (1 : Int32)))) else X5_shelf_L14 ρ x1 x2 k x3 ((x4 + (1 : Int32)))) else (X5_of ρ x4 (3 : Int32)).bind fun v12 => if v12 = (3 : Int32) then ((X5_of ρ x4 (4 : Int32)).bind fun v15 => if v15 = x1 then (if x3 = x2 then (some x4) else X5_shelf_L14 ρ x1 x2 k ((x3 + (1 : Int32))) ((x4 + (1 : Int32)))) else X5_shelf_L14 ρ x1 x2 k x3 ((x4 + (1 : Int32)))) else X5_shelf_L14 ρ x1 x2 k x3 ((x4 + (1 : Int32)))
def X5_shelf (ρ : Ms) (p1 p2 : Int32) : Option (Int32) := if (bi (X5_isBranch p1)) = 0 then (some (-1 : Int32)) else X5_shelf_L14 ρ p1 p2 FU (0 : Int32) (0 : Int32)
def rm_X5_shelf : Room := { frames := 2, cells := 0, slots := 0, locals := 42 }
theorem v_X5_shelf : WdV RX5 yX5_shelf cX5_shelf 5 (some .int) 2 := ⟨mI_X5_shelf, mS_X5_shelf, mZ_RX5, mC_X5_shelf, by decide +kernel⟩
set_option maxHeartbeats 8000000 in
set_option maxRecDepth 100000 in
theorem c_X5_shelf (l : Launch) (D : va_G) (cI cS : ClassId) (am : Nat → Nat) (ρ : Ms) (p1 p2 : Int32) (F : Int32) (hF : X5_shelf ρ p1 p2 = some F) : MI l yX5_shelf cX5_shelf 5 (some .int) rm_X5_shelf D cI cS [.ref (am 0), .int p1, .int p2] (mW am cI ρ) (mW am cI) (fun r u' => r = F ∧ u' = ρ) := by
  refine MI.mk RX5 rfl .int rfl (by decide) (Nat.le_of_ble_eq_true rfl) (fun _ _ _ => rfl) ?_
  intro p e s m args below meth c A Q ls Fc hin hA Z kret hl
  obtain ⟨hx, hb, hml, hown, hts, hKN⟩ := id Fc
  replace hl : lv_has ls 5 [(0, .ref (am 0)), (1, .int p1), (2, .int p2)] := hl
  have L14 : ∀ (x1 : Int32) (x2 : Int32) (k : Nat) (x3 : Int32) (x4 : Int32) (H : Heap) (locs : List Loc) (ls : Array Slot), X5_shelf_L14 ρ x1 x2  k x3 x4 = some F → Ix D A s (mW am cI ρ) H locs → lv_has ls 5 [(0, .ref (am 0)), (1, .int x1), (2, .int x2), (3, .int x3), (4, .int x4)] → W p l e rm_X5_shelf s m args below meth c H locs 0 0 Q (F0 m 14 ls []) := by
    intro x1 x2 k
    induction k with
    | zero => intro x3 x4 H locs ls hF; rw [X5_shelf_L14] at hF; cases hF
    | succ k ih =>
      intro x3 x4 H locs ls hF Z hl
      rw [X5_shelf_L14] at hF
      refine lv_iload hx hb dX5_shelf_14 (lv_at hl 4 rfl) ?_
      refine lv_aload_n hx hb dX5_shelf_16 rfl (lv_at hl 0 rfl) ?_
      refine kget Fc Z inX5 0 rfl rfl 0 (by decide) mF_RX5_11 rfl rfl dX5_shelf_17 ?_
      refine lv_iconst (v := (1 : Int32)) hx hb dX5_shelf_20 (by decide) ?_
      obtain ⟨v1, h2, hF⟩ := obind hF
      refine kald Fc Z 1 rfl h2 dX5_shelf_21 ?_
      refine lv_icmp_ge (tgt := 77) hx hb dX5_shelf_22 (by decide) (fun c3 => ?_) (fun c3 => ?_)
      · rw [if_pos c3] at hF
        refine lv_iload_n hx hb dX5_shelf_77 rfl (lv_at hl 2 rfl) ?_
        refine lv_iconst (v := (-1 : Int32)) hx hb dX5_shelf_78 (by decide) ?_
        refine lv_icmp_ne (tgt := 86) hx hb dX5_shelf_79 (by decide) (fun c4 => ?_) (fun c4 => ?_)
        · rw [if_neg c4] at hF
          refine lv_bipush (v := (-2 : Int32)) hx hb dX5_shelf_86 (by decide) ?_
          exact kret (-2 : Int32) ρ _ _ _ _ ⟨(Option.some.inj hF), rfl⟩ Z dX5_shelf_88
        · rw [if_pos c4] at hF
          refine lv_iload_n hx hb dX5_shelf_82 rfl (lv_at hl 3 rfl) ?_
          refine lv_goto (tgt := 88) hx hb dX5_shelf_83 (by decide) ?_
          exact kret x3 ρ _ _ _ _ ⟨(Option.some.inj hF), rfl⟩ Z dX5_shelf_88
      · rw [if_neg c3] at hF
        refine lv_aload_n hx hb dX5_shelf_25 rfl (lv_at hl 0 rfl) ?_
        refine lv_iload hx hb dX5_shelf_26 (lv_at hl 4 rfl) ?_
        refine lv_iconst (v := (3 : Int32)) hx hb dX5_shelf_28 (by decide) ?_
        obtain ⟨v5, h6, hF⟩ := obind hF
        refine kr_i (As := [.int x4, .int (3 : Int32)]) Fc hA Z Lens.all (c_X5_of l D cI cS am ρ x4 (3 : Int32) v5 h6) mL_RX5_73 v_X5_of ⟨rfl, rfl⟩ ⟨Nat.le_of_ble_eq_true rfl, Nat.le_of_ble_eq_true rfl⟩ ⟨Nat.zero_le _, Nat.zero_le _⟩ 0 5 rfl rfl rfl hl (Nat.le_of_ble_eq_true rfl) dX5_shelf_29 rfl (fun H locs Z => ?_)
        refine lv_if_eq (tgt := 46) hx hb dX5_shelf_32 (by decide) (fun c7 => ?_) (fun c7 => ?_)
        · rw [if_pos c7] at hF
          refine lv_aload_n hx hb dX5_shelf_46 rfl (lv_at hl 0 rfl) ?_
          refine lv_iload hx hb dX5_shelf_47 (lv_at hl 4 rfl) ?_
          refine lv_iconst (v := (4 : Int32)) hx hb dX5_shelf_49 (by decide) ?_
          obtain ⟨v8, h9, hF⟩ := obind hF
          refine kr_i (As := [.int x4, .int (4 : Int32)]) Fc hA Z Lens.all (c_X5_of l D cI cS am ρ x4 (4 : Int32) v8 h9) mL_RX5_73 v_X5_of ⟨rfl, rfl⟩ ⟨Nat.le_of_ble_eq_true rfl, Nat.le_of_ble_eq_true rfl⟩ ⟨Nat.zero_le _, Nat.zero_le _⟩ 0 5 rfl rfl rfl hl (Nat.le_of_ble_eq_true rfl) dX5_shelf_50 rfl (fun H locs Z => ?_)
          refine lv_iload_n hx hb dX5_shelf_53 rfl (lv_at hl 1 rfl) ?_
          refine lv_icmp_eq (tgt := 60) hx hb dX5_shelf_54 (by decide) (fun c10 => ?_) (fun c10 => ?_)
          · rw [if_pos c10] at hF
            refine lv_iload_n hx hb dX5_shelf_60 rfl (lv_at hl 3 rfl) ?_
            refine lv_iload_n hx hb dX5_shelf_61 rfl (lv_at hl 2 rfl) ?_
            refine lv_icmp_ne (tgt := 68) hx hb dX5_shelf_62 (by decide) (fun c11 => ?_) (fun c11 => ?_)
            · rw [if_neg c11] at hF
              refine lv_iinc (v := (x3 + (1 : Int32))) (lv' := [(3, .int (x3 + (1 : Int32))), (0, .ref (am 0)), (1, .int x1), (2, .int x2), (4, .int x4)]) hx hb dX5_shelf_68 hl (k := 3) rfl (by rfl) (by decide) rfl (fun ls hl => ?_)
              refine lv_iinc (v := (x4 + (1 : Int32))) (lv' := [(4, .int (x4 + (1 : Int32))), (3, .int (x3 + (1 : Int32))), (0, .ref (am 0)), (1, .int x1), (2, .int x2)]) hx hb dX5_shelf_71 hl (k := 4) rfl (by rfl) (by decide) rfl (fun ls hl => ?_)
              refine lv_goto (tgt := 14) hx hb dX5_shelf_74 (by decide) ?_
              exact ih ((x3 + (1 : Int32))) ((x4 + (1 : Int32))) _ _ _ hF Z (lv_sub hl [2, 3, 4, 1, 0] rfl)
            · rw [if_pos c11] at hF
              refine lv_iload hx hb dX5_shelf_65 (lv_at hl 4 rfl) ?_
              exact kret x4 ρ _ _ _ _ ⟨(Option.some.inj hF), rfl⟩ Z dX5_shelf_67
          · rw [if_neg c10] at hF
            refine lv_goto (tgt := 71) hx hb dX5_shelf_57 (by decide) ?_
            refine lv_iinc (v := (x4 + (1 : Int32))) (lv' := [(4, .int (x4 + (1 : Int32))), (0, .ref (am 0)), (1, .int x1), (2, .int x2), (3, .int x3)]) hx hb dX5_shelf_71 hl (k := 4) rfl (by rfl) (by decide) rfl (fun ls hl => ?_)
            refine lv_goto (tgt := 14) hx hb dX5_shelf_74 (by decide) ?_
            exact ih x3 ((x4 + (1 : Int32))) _ _ _ hF Z (lv_sub hl [1, 2, 3, 4, 0] rfl)
        · rw [if_neg c7] at hF
          refine lv_aload_n hx hb dX5_shelf_35 rfl (lv_at hl 0 rfl) ?_
          refine lv_iload hx hb dX5_shelf_36 (lv_at hl 4 rfl) ?_
          refine lv_iconst (v := (3 : Int32)) hx hb dX5_shelf_38 (by decide) ?_
          obtain ⟨v12, h13, hF⟩ := obind hF
          refine kr_i (As := [.int x4, .int (3 : Int32)]) Fc hA Z Lens.all (c_X5_of l D cI cS am ρ x4 (3 : Int32) v12 h13) mL_RX5_73 v_X5_of ⟨rfl, rfl⟩ ⟨Nat.le_of_ble_eq_true rfl, Nat.le_of_ble_eq_true rfl⟩ ⟨Nat.zero_le _, Nat.zero_le _⟩ 0 5 rfl rfl rfl hl (Nat.le_of_ble_eq_true rfl) dX5_shelf_39 rfl (fun H locs Z => ?_)
          refine lv_iconst (v := (3 : Int32)) hx hb dX5_shelf_42 (by decide) ?_
          refine lv_icmp_ne (tgt := 71) hx hb dX5_shelf_43 (by decide) (fun c14 => ?_) (fun c14 => ?_)
          · rw [if_neg c14] at hF
            refine lv_iinc (v := (x4 + (1 : Int32))) (lv' := [(4, .int (x4 + (1 : Int32))), (0, .ref (am 0)), (1, .int x1), (2, .int x2), (3, .int x3)]) hx hb dX5_shelf_71 hl (k := 4) rfl (by rfl) (by decide) rfl (fun ls hl => ?_)
            refine lv_goto (tgt := 14) hx hb dX5_shelf_74 (by decide) ?_
            exact ih x3 ((x4 + (1 : Int32))) _ _ _ hF Z (lv_sub hl [1, 2, 3, 4, 0] rfl)
          · rw [if_pos c14] at hF
            refine lv_aload_n hx hb dX5_shelf_46 rfl (lv_at hl 0 rfl) ?_
            refine lv_iload hx hb dX5_shelf_47 (lv_at hl 4 rfl) ?_
            refine lv_iconst (v := (4 : Int32)) hx hb dX5_shelf_49 (by decide) ?_
            obtain ⟨v15, h16, hF⟩ := obind hF
            refine kr_i (As := [.int x4, .int (4 : Int32)]) Fc hA Z Lens.all (c_X5_of l D cI cS am ρ x4 (4 : Int32) v15 h16) mL_RX5_73 v_X5_of ⟨rfl, rfl⟩ ⟨Nat.le_of_ble_eq_true rfl, Nat.le_of_ble_eq_true rfl⟩ ⟨Nat.zero_le _, Nat.zero_le _⟩ 0 5 rfl rfl rfl hl (Nat.le_of_ble_eq_true rfl) dX5_shelf_50 rfl (fun H locs Z => ?_)
            refine lv_iload_n hx hb dX5_shelf_53 rfl (lv_at hl 1 rfl) ?_
            refine lv_icmp_eq (tgt := 60) hx hb dX5_shelf_54 (by decide) (fun c17 => ?_) (fun c17 => ?_)
            · rw [if_pos c17] at hF
              refine lv_iload_n hx hb dX5_shelf_60 rfl (lv_at hl 3 rfl) ?_
              refine lv_iload_n hx hb dX5_shelf_61 rfl (lv_at hl 2 rfl) ?_
              refine lv_icmp_ne (tgt := 68) hx hb dX5_shelf_62 (by decide) (fun c18 => ?_) (fun c18 => ?_)
              · rw [if_neg c18] at hF
                refine lv_iinc (v := (x3 + (1 : Int32))) (lv' := [(3, .int (x3 + (1 : Int32))), (0, .ref (am 0)), (1, .int x1), (2, .int x2), (4, .int x4)]) hx hb dX5_shelf_68 hl (k := 3) rfl (by rfl) (by decide) rfl (fun ls hl => ?_)
                refine lv_iinc (v := (x4 + (1 : Int32))) (lv' := [(4, .int (x4 + (1 : Int32))), (3, .int (x3 + (1 : Int32))), (0, .ref (am 0)), (1, .int x1), (2, .int x2)]) hx hb dX5_shelf_71 hl (k := 4) rfl (by rfl) (by decide) rfl (fun ls hl => ?_)
                refine lv_goto (tgt := 14) hx hb dX5_shelf_74 (by decide) ?_
                exact ih ((x3 + (1 : Int32))) ((x4 + (1 : Int32))) _ _ _ hF Z (lv_sub hl [2, 3, 4, 1, 0] rfl)
              · rw [if_pos c18] at hF
                refine lv_iload hx hb dX5_shelf_65 (lv_at hl 4 rfl) ?_
                exact kret x4 ρ _ _ _ _ ⟨(Option.some.inj hF), rfl⟩ Z dX5_shelf_67
            · rw [if_neg c17] at hF
              refine lv_goto (tgt := 71) hx hb dX5_shelf_57 (by decide) ?_
              refine lv_iinc (v := (x4 + (1 : Int32))) (lv' := [(4, .int (x4 + (1 : Int32))), (0, .ref (am 0)), (1, .int x1), (2, .int x2), (3, .int x3)]) hx hb dX5_shelf_71 hl (k := 4) rfl (by rfl) (by decide) rfl (fun ls hl => ?_)
              refine lv_goto (tgt := 14) hx hb dX5_shelf_74 (by decide) ?_
              exact ih x3 ((x4 + (1 : Int32))) _ _ _ hF Z (lv_sub hl [1, 2, 3, 4, 0] rfl)
  unfold X5_shelf at hF
  refine lv_iload_n hx hb dX5_shelf_0 rfl (lv_at hl 1 rfl) ?_
  refine ks_i (As := [.int p1]) Fc hA Z (c_X5_isBranch l D cI cS p1 (X5_isBranch p1) rfl) mL_RX5_93 v_X5_isBranch ⟨rfl, rfl⟩ ⟨Nat.le_of_ble_eq_true rfl, Nat.le_of_ble_eq_true rfl⟩ ⟨Nat.zero_le _, Nat.zero_le _⟩ rfl hl (Nat.le_of_ble_eq_true rfl) dX5_shelf_1 rfl (fun H locs Z => ?_)
  refine lv_if_ne (tgt := 9) hx hb dX5_shelf_4 (by decide) (fun c19 => ?_) (fun c19 => ?_)
  · rw [if_neg c19] at hF
    refine lv_iconst (v := (0 : Int32)) hx hb dX5_shelf_9 (by decide) ?_
    refine lv_istore_n (lv' := [(3, .int (0 : Int32)), (0, .ref (am 0)), (1, .int p1), (2, .int p2)]) hx hb dX5_shelf_10 rfl hl (by decide) rfl (fun ls hl => ?_)
    refine lv_iconst (v := (0 : Int32)) hx hb dX5_shelf_11 (by decide) ?_
    refine lv_istore (lv' := [(4, .int (0 : Int32)), (3, .int (0 : Int32)), (0, .ref (am 0)), (1, .int p1), (2, .int p2)]) hx hb dX5_shelf_12 hl (by decide) rfl (fun ls hl => ?_)
    exact L14 p1 p2 FU (0 : Int32) (0 : Int32) _ _ _ hF Z (lv_sub hl [2, 3, 4, 1, 0] rfl)
  · rw [if_pos c19] at hF
    refine lv_iconst (v := (-1 : Int32)) hx hb dX5_shelf_7 (by decide) ?_
    exact kret (-1 : Int32) ρ _ _ _ _ ⟨(Option.some.inj hF), rfl⟩ Z dX5_shelf_8
def X5_undo (ρ : Ms) : Option (Int32 × Ms) := if (ρ.1.2 0) = 0 then (some (((-2 : Int32), ρ))) else bnd (msI ρ 0 ((ρ.1.2 0) - (1 : Int32))) fun ρ2 => (X5_copies2 5448 681 (ρ2.1.1 3) (ρ2.1.1 0) (((681 : Int32) * (ρ2.1.2 0))) (0 : Int32)).bind fun g4 => bnd (msA ρ2 0 g4) fun ρ6 => some (((ρ6.1.2 0), ρ6))
def rm_X5_undo : Room := { frames := 1, cells := 0, slots := 0, locals := 24 }
theorem v_X5_undo : WdV RX5 yX5_undo cX5_undo 1 (some .int) 0 := ⟨mI_X5_undo, mS_X5_undo, mZ_RX5, mC_X5_undo, by decide +kernel⟩
set_option maxHeartbeats 8000000 in
set_option maxRecDepth 100000 in
theorem c_X5_undo (l : Launch) (D : va_G) (cI cS : ClassId) (am : Nat → Nat) (ρ : Ms) (F : Int32 × Ms) (hF : X5_undo ρ = some F) : MI l yX5_undo cX5_undo 1 (some .int) rm_X5_undo D cI cS [.ref (am 0)] (mW am cI ρ) (mW am cI) (fun r u => r = F.1 ∧ u = F.2 ∧ True) := by
  refine MI.mk RX5 rfl .int rfl (by decide) (Nat.le_of_ble_eq_true rfl) (fun _ _ _ => rfl) ?_
  intro p e s m args below meth c A Q ls Fc hin hA Z kret hl
  obtain ⟨hx, hb, hml, hown, hts, hKN⟩ := id Fc
  replace hl : lv_has ls 1 [(0, .ref (am 0))] := hl
  unfold X5_undo at hF
  refine lv_aload_n hx hb dX5_undo_0 rfl (lv_at hl 0 rfl) ?_
  refine kget Fc Z inX5 0 rfl rfl 4 (by decide) mF_RX5_24 rfl rfl dX5_undo_1 ?_
  refine lv_if_ne (tgt := 10) hx hb dX5_undo_4 (by decide) (fun c1 => ?_) (fun c1 => ?_)
  · rw [if_neg c1] at hF
    refine lv_aload_n hx hb dX5_undo_10 rfl (lv_at hl 0 rfl) ?_
    refine lv_dup hx hb dX5_undo_11 rfl ?_
    refine kget Fc Z inX5 0 rfl rfl 4 (by decide) mF_RX5_24 rfl rfl dX5_undo_12 ?_
    refine lv_iconst (v := (1 : Int32)) hx hb dX5_undo_15 (by decide) ?_
    refine lv_isub hx hb dX5_undo_16 ?_
    obtain ⟨ρ2, e3, hF⟩ := bnd_el hF
    refine kput (v := .int (((ρ.1.2 0) - (1 : Int32)))) (ty := .int) (w' := mW am cI ρ2) Fc Z inX5 tyX5 tyX5_ok nmX5 0 rfl rfl 4 (by decide) mF_RX5_24 rfl rfl rfl rfl rfl (Nat.le_of_ble_eq_true rfl) (by rw [e3]; rfl) dX5_undo_17 (fun H locs Z => ?_)
    refine lv_aload_n hx hb dX5_undo_20 rfl (lv_at hl 0 rfl) ?_
    refine kget Fc Z inX5 0 rfl rfl 3 (by decide) mF_RX5_21 rfl rfl dX5_undo_21 ?_
    refine lv_sipush (v := (681 : Int32)) hx hb dX5_undo_24 (by decide) ?_
    refine lv_aload_n hx hb dX5_undo_27 rfl (lv_at hl 0 rfl) ?_
    refine kget Fc Z inX5 0 rfl rfl 4 (by decide) mF_RX5_24 rfl rfl dX5_undo_28 ?_
    refine lv_imul hx hb dX5_undo_31 ?_
    refine lv_aload_n hx hb dX5_undo_32 rfl (lv_at hl 0 rfl) ?_
    refine kget Fc Z inX5 0 rfl rfl 0 (by decide) mF_RX5_11 rfl rfl dX5_undo_33 ?_
    refine lv_iconst (v := (0 : Int32)) hx hb dX5_undo_36 (by decide) ?_
    obtain ⟨g4, h5, hF⟩ := obind hF
    obtain ⟨ρ6, e7, hF⟩ := bnd_el hF
    refine ksv_i (As := [.ref (am 4), .int (((681 : Int32) * (ρ2.1.2 0))), .ref (am 1), .int (0 : Int32)]) Fc hA Z (Lens.m2_3_0) (c_X5_copies2 l D cI cS (am 4) (am 1) 5448 681 (ρ2.1.1 3) (ρ2.1.1 0) (((681 : Int32) * (ρ2.1.2 0))) (0 : Int32) g4 h5) mL_RX5_47 v_X5_copies ⟨rfl, rfl⟩ ⟨Nat.le_of_ble_eq_true rfl, Nat.le_of_ble_eq_true rfl⟩ ⟨Nat.zero_le _, Nat.zero_le _⟩ rfl hl (Nat.le_of_ble_eq_true rfl) dX5_undo_37 rfl (fun H locs Z => ?_)
    have Z : Ix D A s (mW am cI ρ6) H locs := by rw [e7]; exact Z
    refine lv_aload_n hx hb dX5_undo_40 rfl (lv_at hl 0 rfl) ?_
    refine kget Fc Z inX5 0 rfl rfl 4 (by decide) mF_RX5_24 rfl rfl dX5_undo_41 ?_
    exact kret (ρ6.1.2 0) ρ6 _ _ _ _ ⟨(pfst (Option.some.inj hF)), psnd (Option.some.inj hF), trivial⟩ Z dX5_undo_44
  · rw [if_pos c1] at hF
    refine lv_bipush (v := (-2 : Int32)) hx hb dX5_undo_7 (by decide) ?_
    exact kret (-2 : Int32) ρ _ _ _ _ ⟨(pfst (Option.some.inj hF)), psnd (Option.some.inj hF), trivial⟩ Z dX5_undo_9
def X5_waiting (ρ : Ms) (p1 : Int32) : Option (Int32) := if (bi (X5_isTitle p1)) = 0 then (some (-1 : Int32)) else (X5_waitingFor ρ p1).bind fun v2 => some v2
def rm_X5_waiting : Room := { frames := 2, cells := 0, slots := 0, locals := 45 }
theorem v_X5_waiting : WdV RX5 yX5_waiting cX5_waiting 2 (some .int) 1 := ⟨mI_X5_waiting, mS_X5_waiting, mZ_RX5, mC_X5_waiting, by decide +kernel⟩
set_option maxHeartbeats 8000000 in
set_option maxRecDepth 100000 in
theorem c_X5_waiting (l : Launch) (D : va_G) (cI cS : ClassId) (am : Nat → Nat) (ρ : Ms) (p1 : Int32) (F : Int32) (hF : X5_waiting ρ p1 = some F) : MI l yX5_waiting cX5_waiting 2 (some .int) rm_X5_waiting D cI cS [.ref (am 0), .int p1] (mW am cI ρ) (mW am cI) (fun r u' => r = F ∧ u' = ρ) := by
  refine MI.mk RX5 rfl .int rfl (by decide) (Nat.le_of_ble_eq_true rfl) (fun _ _ _ => rfl) ?_
  intro p e s m args below meth c A Q ls Fc hin hA Z kret hl
  obtain ⟨hx, hb, hml, hown, hts, hKN⟩ := id Fc
  replace hl : lv_has ls 2 [(0, .ref (am 0)), (1, .int p1)] := hl
  unfold X5_waiting at hF
  refine lv_iload_n hx hb dX5_waiting_0 rfl (lv_at hl 1 rfl) ?_
  refine ks_i (As := [.int p1]) Fc hA Z (c_X5_isTitle l D cI cS p1 (X5_isTitle p1) rfl) mL_RX5_89 v_X5_isTitle ⟨rfl, rfl⟩ ⟨Nat.le_of_ble_eq_true rfl, Nat.le_of_ble_eq_true rfl⟩ ⟨Nat.zero_le _, Nat.zero_le _⟩ rfl hl (Nat.le_of_ble_eq_true rfl) dX5_waiting_1 rfl (fun H locs Z => ?_)
  refine lv_if_eq (tgt := 15) hx hb dX5_waiting_4 (by decide) (fun c1 => ?_) (fun c1 => ?_)
  · rw [if_pos c1] at hF
    refine lv_iconst (v := (-1 : Int32)) hx hb dX5_waiting_15 (by decide) ?_
    exact kret (-1 : Int32) ρ _ _ _ _ ⟨(Option.some.inj hF), rfl⟩ Z dX5_waiting_16
  · rw [if_neg c1] at hF
    refine lv_aload_n hx hb dX5_waiting_7 rfl (lv_at hl 0 rfl) ?_
    refine lv_iload_n hx hb dX5_waiting_8 rfl (lv_at hl 1 rfl) ?_
    obtain ⟨v2, h3, hF⟩ := obind hF
    refine kr_i (As := [.int p1]) Fc hA Z Lens.all (c_X5_waitingFor l D cI cS am ρ p1 v2 h3) mL_RX5_159 v_X5_waitingFor ⟨rfl, rfl⟩ ⟨Nat.le_of_ble_eq_true rfl, Nat.le_of_ble_eq_true rfl⟩ ⟨Nat.zero_le _, Nat.zero_le _⟩ 0 5 rfl rfl rfl hl (Nat.le_of_ble_eq_true rfl) dX5_waiting_9 rfl (fun H locs Z => ?_)
    refine lv_goto (tgt := 16) hx hb dX5_waiting_12 (by decide) ?_
    exact kret v2 ρ _ _ _ _ ⟨(Option.some.inj hF), rfl⟩ Z dX5_waiting_16
def X5_waive (ρ : Ms) (p1 p2 : Int32) : Option (Int32 × Ms) := (X5_keeps ρ).bind fun q1 => (X5_lessens q1 (4 : Int32) p1 p2).bind fun q3 => (X5_made q3.2 q3.1).bind fun q5 => some (q5.1, q5.2)
def rm_X5_waive : Room := { frames := 3, cells := 0, slots := 0, locals := 71 }
theorem v_X5_waive : WdV RX5 yX5_waive cX5_waive 3 (some .int) 2 := ⟨mI_X5_waive, mS_X5_waive, mZ_RX5, mC_X5_waive, by decide +kernel⟩
set_option maxHeartbeats 8000000 in
set_option maxRecDepth 100000 in
theorem c_X5_waive (l : Launch) (D : va_G) (cI cS : ClassId) (am : Nat → Nat) (ρ : Ms) (p1 p2 : Int32) (F : Int32 × Ms) (hF : X5_waive ρ p1 p2 = some F) : MI l yX5_waive cX5_waive 3 (some .int) rm_X5_waive D cI cS [.ref (am 0), .int p1, .int p2] (mW am cI ρ) (mW am cI) (fun r u => r = F.1 ∧ u = F.2 ∧ True) := by
  refine MI.mk RX5 rfl .int rfl (by decide) (Nat.le_of_ble_eq_true rfl) (fun _ _ _ => rfl) ?_
  intro p e s m args below meth c A Q ls Fc hin hA Z kret hl
  obtain ⟨hx, hb, hml, hown, hts, hKN⟩ := id Fc
  replace hl : lv_has ls 3 [(0, .ref (am 0)), (1, .int p1), (2, .int p2)] := hl
  unfold X5_waive at hF
  refine lv_aload_n hx hb dX5_waive_0 rfl (lv_at hl 0 rfl) ?_
  obtain ⟨q1, h2, hF⟩ := obind hF
  refine kv_i (As := []) (ok := (fun _ => True)) Fc hA Z Lens.all (c_X5_keeps l D cI cS am ρ  q1 h2) mL_RX5_96 v_X5_keeps ⟨rfl, rfl⟩ ⟨Nat.le_of_ble_eq_true rfl, Nat.le_of_ble_eq_true rfl⟩ ⟨Nat.zero_le _, Nat.zero_le _⟩ 0 5 rfl rfl rfl hl (Nat.le_of_ble_eq_true rfl) dX5_waive_1 rfl (fun H locs ok1 Z => ?_)
  refine lv_aload_n hx hb dX5_waive_4 rfl (lv_at hl 0 rfl) ?_
  refine lv_aload_n hx hb dX5_waive_5 rfl (lv_at hl 0 rfl) ?_
  refine lv_iconst (v := (4 : Int32)) hx hb dX5_waive_6 (by decide) ?_
  refine lv_iload_n hx hb dX5_waive_7 rfl (lv_at hl 1 rfl) ?_
  refine lv_iload_n hx hb dX5_waive_8 rfl (lv_at hl 2 rfl) ?_
  obtain ⟨q3, h4, hF⟩ := obind hF
  refine km_i (As := [.int (4 : Int32), .int p1, .int p2]) (ok := (fun _ => True)) Fc hA Z Lens.all (c_X5_lessens l D cI cS am q1 (4 : Int32) p1 p2 q3 h4) mL_RX5_210 v_X5_lessens ⟨rfl, rfl⟩ ⟨Nat.le_of_ble_eq_true rfl, Nat.le_of_ble_eq_true rfl⟩ ⟨Nat.zero_le _, Nat.zero_le _⟩ 0 5 rfl rfl rfl hl (Nat.le_of_ble_eq_true rfl) dX5_waive_9 rfl (fun H locs ok1 Z => ?_)
  obtain ⟨q5, h6, hF⟩ := obind hF
  refine km_i (As := [.int q3.1]) (ok := (fun _ => True)) Fc hA Z Lens.all (c_X5_made l D cI cS am q3.2 q3.1 q5 h6) mL_RX5_103 v_X5_made ⟨rfl, rfl⟩ ⟨Nat.le_of_ble_eq_true rfl, Nat.le_of_ble_eq_true rfl⟩ ⟨Nat.zero_le _, Nat.zero_le _⟩ 0 5 rfl rfl rfl hl (Nat.le_of_ble_eq_true rfl) dX5_waive_12 rfl (fun H locs ok1 Z => ?_)
  exact kret q5.1 q5.2 _ _ _ _ ⟨(pfst (Option.some.inj hF)), psnd (Option.some.inj hF), trivial⟩ Z dX5_waive_15
