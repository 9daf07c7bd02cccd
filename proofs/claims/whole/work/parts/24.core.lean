/-! THE CLASS: methods over the state that is now -/
def X4_setting (τ : St) (p1 : Int32) : Int32 := if (bi (thas (τ.1 4) p1)) = 0 then ((-1 : Int32)) else (X4_valueOf τ p1)
def rm_X4_setting : Room := { frames := 2, cells := 0, slots := 0, locals := 44 }
theorem v_X4_setting : WdV RX4 yX4_setting cX4_setting 2 (some .int) 1 := ⟨mI_X4_setting, mS_X4_setting, mZ_RX4, mC_X4_setting, by decide +kernel⟩
set_option maxHeartbeats 8000000 in
set_option maxRecDepth 100000 in
theorem c_X4_setting (l : Launch) (D : va_G) (cI cS : ClassId) (ad : Nat → Nat) (hs : Bool) (τ : St) (ok : OK τ) (p1 : Int32) (F : Int32) (hF : X4_setting τ p1 = F) : MI l yX4_setting cX4_setting 2 (some .int) rm_X4_setting D cI cS [.ref (ad 0), .int p1] (cW ad cI hs τ) (cW ad cI hs) (fun r u' => r = F ∧ u' = τ) := by
  refine MI.mk RX4 rfl .int rfl (by decide) (Nat.le_of_ble_eq_true rfl) (fun _ _ _ => rfl) ?_
  intro p e s m args below meth c A Q ls Fc hin hA Z kret hl
  obtain ⟨hx, hb, hml, hown, hts, hKN⟩ := id Fc
  replace hl : lv_has ls 2 [(0, .ref (ad 0)), (1, .int p1)] := hl
  replace Z := Z.anil
  unfold X4_setting at hF
  refine lv_aload_n hx hb dX4_setting_0 rfl (lv_at hl 0 rfl) ?_
  refine kget Fc Z inX4 0 rfl rfl 0 (by decide) mF_RX4_10 rfl rfl dX4_setting_1 ?_
  refine kgetN Fc Z inX2 1 rfl rfl 4 (by decide) nw_RX4_72 rfl rfl dX4_setting_4 ?_
  refine lv_iload_n hx hb dX4_setting_7 rfl (lv_at hl 1 rfl) ?_
  refine kr_i (As := [.int p1]) Fc hA Z Lens.c4 (c_X3_has l D cI cS (ad 10) (ad 11) 8 1 (8 * 1) sh4 (τ.1 4) ok.2.2.2.2 p1 (thas (τ.1 4) p1) rfl) mL_RX4_75 v_X3_has ⟨rfl, rfl⟩ ⟨Nat.le_of_ble_eq_true rfl, Nat.le_of_ble_eq_true rfl⟩ ⟨Nat.zero_le _, Nat.zero_le _⟩ 10 3 rfl rfl rfl hl (Nat.le_of_ble_eq_true rfl) dX4_setting_8 rfl (fun H locs Z => ?_)
  refine lv_if_eq (tgt := 22) hx hb dX4_setting_11 (by decide) (fun c1 => ?_) (fun c1 => ?_)
  · rw [if_pos c1] at hF
    refine lv_iconst (v := (-1 : Int32)) hx hb dX4_setting_22 (by decide) ?_
    exact kret (-1 : Int32) τ _ _ _ _ ⟨hF, rfl⟩ Z.nila dX4_setting_23
  · rw [if_neg c1] at hF
    refine lv_aload_n hx hb dX4_setting_14 rfl (lv_at hl 0 rfl) ?_
    refine lv_iload_n hx hb dX4_setting_15 rfl (lv_at hl 1 rfl) ?_
    refine kr_i (As := [.int p1]) Fc hA Z (Lens.tail []) (c_X4_valueOf l D cI cS ad hs τ ok p1 (X4_valueOf τ p1) rfl) mL_RX4_82 v_X4_valueOf ⟨rfl, rfl⟩ ⟨Nat.le_of_ble_eq_true rfl, Nat.le_of_ble_eq_true rfl⟩ ⟨Nat.zero_le _, Nat.zero_le _⟩ 0 4 rfl rfl rfl hl (Nat.le_of_ble_eq_true rfl) dX4_setting_16 rfl (fun H locs Z => ?_)
    refine lv_goto (tgt := 23) hx hb dX4_setting_19 (by decide) ?_
    exact kret (X4_valueOf τ p1) τ _ _ _ _ ⟨hF, rfl⟩ Z.nila dX4_setting_23
def X4_shelf_L14 (τ : St) (x1 : Int32) (x2 : Int32) : Nat → Int32 → Int32 → Option (Int32)
  | 0, _, _ => none
  | k + 1, x3, x4 => if (τ.1 0).1 ≤ x4 then (if x2 = (-1 : Int32) then (some x3) else some (-2 : Int32)) else if (bi (X4_isAt τ x4 (0 : Int32) x1)) = 0 then (if (bi (X4_isAt τ x4 (3 : Int32) x1)) = 0 then (X4_shelf_L14 τ x1 x2 k x3 ((x4 + (1 : Int32)))) else if x3 = x2 then (some x4) else X4_shelf_L14 τ x1 x2 k ((x3 + (1 : Int32))) ((x4 + (1 : Int32)))) else if x3 = x2 then (some x4) else X4_shelf_L14 τ x1 x2 k ((x3 + (1 : Int32))) ((x4 + (1 : Int32)))
def X4_shelf (τ : St) (p1 p2 : Int32) : Option (Int32) := if (bi (X4_isBranch p1)) = 0 then (some (-1 : Int32)) else X4_shelf_L14 τ p1 p2 FU (0 : Int32) (0 : Int32)
def rm_X4_shelf : Room := { frames := 3, cells := 0, slots := 0, locals := 67 }
theorem v_X4_shelf : WdV RX4 yX4_shelf cX4_shelf 5 (some .int) 2 := ⟨mI_X4_shelf, mS_X4_shelf, mZ_RX4, mC_X4_shelf, by decide +kernel⟩
set_option maxHeartbeats 8000000 in
set_option maxRecDepth 100000 in
theorem c_X4_shelf (l : Launch) (D : va_G) (cI cS : ClassId) (ad : Nat → Nat) (hs : Bool) (τ : St) (ok : OK τ) (p1 p2 : Int32) (F : Int32) (hF : X4_shelf τ p1 p2 = some F) : MI l yX4_shelf cX4_shelf 5 (some .int) rm_X4_shelf D cI cS [.ref (ad 0), .int p1, .int p2] (cW ad cI hs τ) (cW ad cI hs) (fun r u' => r = F ∧ u' = τ) := by
  refine MI.mk RX4 rfl .int rfl (by decide) (Nat.le_of_ble_eq_true rfl) (fun _ _ _ => rfl) ?_
  intro p e s m args below meth c A Q ls Fc hin hA Z kret hl
  obtain ⟨hx, hb, hml, hown, hts, hKN⟩ := id Fc
  replace hl : lv_has ls 5 [(0, .ref (ad 0)), (1, .int p1), (2, .int p2)] := hl
  replace Z := Z.anil
  have L14 : ∀ (x1 : Int32) (x2 : Int32) (k : Nat) (x3 : Int32) (x4 : Int32) (H : Heap) (locs : List Loc) (ls : Array Slot), X4_shelf_L14 τ x1 x2  k x3 x4 = some F → OK τ → Ix D A s (cW ad cI hs τ ++ []) H locs → lv_has ls 5 [(0, .ref (ad 0)), (1, .int x1), (2, .int x2), (3, .int x3), (4, .int x4)] → W p l e rm_X4_shelf s m args below meth c H locs 0 0 Q (F0 m 14 ls []) := by
    intro x1 x2 k
    induction k with
    | zero => intro x3 x4 H locs ls hF; rw [X4_shelf_L14] at hF; cases hF
    | succ k ih =>
      intro x3 x4 H locs ls hF ok Z hl
      rw [X4_shelf_L14] at hF
      refine lv_iload hx hb dX4_shelf_14 (lv_at hl 4 rfl) ?_
      refine lv_aload_n hx hb dX4_shelf_16 rfl (lv_at hl 0 rfl) ?_
      refine kget Fc Z inX4 0 rfl rfl 0 (by decide) mF_RX4_10 rfl rfl dX4_shelf_17 ?_
      refine kgetN Fc Z inX2 1 rfl rfl 0 (by decide) nw_RX4_47 rfl rfl dX4_shelf_20 ?_
      refine kr_i (As := []) Fc hA Z Lens.c0 (c_X3_size l D cI cS (ad 2) (ad 3) 20 12 (20 * 12) sh0 (τ.1 0) ok.1  (τ.1 0).1 rfl) mL_RX4_92 v_X3_size ⟨rfl, rfl⟩ ⟨Nat.le_of_ble_eq_true rfl, Nat.le_of_ble_eq_true rfl⟩ ⟨Nat.zero_le _, Nat.zero_le _⟩ 2 3 rfl rfl rfl hl (Nat.le_of_ble_eq_true rfl) dX4_shelf_23 rfl (fun H locs Z => ?_)
      refine lv_icmp_ge (tgt := 71) hx hb dX4_shelf_26 (by decide) (fun c1 => ?_) (fun c1 => ?_)
      · rw [if_pos c1] at hF
        refine lv_iload_n hx hb dX4_shelf_71 rfl (lv_at hl 2 rfl) ?_
        refine lv_iconst (v := (-1 : Int32)) hx hb dX4_shelf_72 (by decide) ?_
        refine lv_icmp_ne (tgt := 80) hx hb dX4_shelf_73 (by decide) (fun c2 => ?_) (fun c2 => ?_)
        · rw [if_neg c2] at hF
          refine lv_bipush (v := (-2 : Int32)) hx hb dX4_shelf_80 (by decide) ?_
          exact kret (-2 : Int32) τ _ _ _ _ ⟨(Option.some.inj hF), rfl⟩ Z.nila dX4_shelf_82
        · rw [if_pos c2] at hF
          refine lv_iload_n hx hb dX4_shelf_76 rfl (lv_at hl 3 rfl) ?_
          refine lv_goto (tgt := 82) hx hb dX4_shelf_77 (by decide) ?_
          exact kret x3 τ _ _ _ _ ⟨(Option.some.inj hF), rfl⟩ Z.nila dX4_shelf_82
      · rw [if_neg c1] at hF
        refine lv_aload_n hx hb dX4_shelf_29 rfl (lv_at hl 0 rfl) ?_
        refine lv_iload hx hb dX4_shelf_30 (lv_at hl 4 rfl) ?_
        refine lv_iconst (v := (0 : Int32)) hx hb dX4_shelf_32 (by decide) ?_
        refine lv_iload_n hx hb dX4_shelf_33 rfl (lv_at hl 1 rfl) ?_
        refine kr_i (As := [.int x4, .int (0 : Int32), .int x1]) Fc hA Z (Lens.tail []) (c_X4_isAt l D cI cS ad hs τ ok x4 (0 : Int32) x1 (X4_isAt τ x4 (0 : Int32) x1) rfl) mL_RX4_231 v_X4_isAt ⟨rfl, rfl⟩ ⟨Nat.le_of_ble_eq_true rfl, Nat.le_of_ble_eq_true rfl⟩ ⟨Nat.zero_le _, Nat.zero_le _⟩ 0 4 rfl rfl rfl hl (Nat.le_of_ble_eq_true rfl) dX4_shelf_34 rfl (fun H locs Z => ?_)
        refine lv_if_ne (tgt := 54) hx hb dX4_shelf_37 (by decide) (fun c3 => ?_) (fun c3 => ?_)
        · rw [if_neg c3] at hF
          refine lv_iload_n hx hb dX4_shelf_54 rfl (lv_at hl 3 rfl) ?_
          refine lv_iload_n hx hb dX4_shelf_55 rfl (lv_at hl 2 rfl) ?_
          refine lv_icmp_ne (tgt := 62) hx hb dX4_shelf_56 (by decide) (fun c4 => ?_) (fun c4 => ?_)
          · rw [if_neg c4] at hF
            refine lv_iinc (v := (x3 + (1 : Int32))) (lv' := [(3, .int (x3 + (1 : Int32))), (0, .ref (ad 0)), (1, .int x1), (2, .int x2), (4, .int x4)]) hx hb dX4_shelf_62 hl (k := 3) rfl (by rfl) (by decide) rfl (fun ls hl => ?_)
            refine lv_iinc (v := (x4 + (1 : Int32))) (lv' := [(4, .int (x4 + (1 : Int32))), (3, .int (x3 + (1 : Int32))), (0, .ref (ad 0)), (1, .int x1), (2, .int x2)]) hx hb dX4_shelf_65 hl (k := 4) rfl (by rfl) (by decide) rfl (fun ls hl => ?_)
            refine lv_goto (tgt := 14) hx hb dX4_shelf_68 (by decide) ?_
            exact ih ((x3 + (1 : Int32))) ((x4 + (1 : Int32))) _ _ _ hF ok Z (lv_sub hl [2, 3, 4, 1, 0] rfl)
          · rw [if_pos c4] at hF
            refine lv_iload hx hb dX4_shelf_59 (lv_at hl 4 rfl) ?_
            exact kret x4 τ _ _ _ _ ⟨(Option.some.inj hF), rfl⟩ Z.nila dX4_shelf_61
        · rw [if_pos c3] at hF
          refine lv_aload_n hx hb dX4_shelf_40 rfl (lv_at hl 0 rfl) ?_
          refine lv_iload hx hb dX4_shelf_41 (lv_at hl 4 rfl) ?_
          refine lv_iconst (v := (3 : Int32)) hx hb dX4_shelf_43 (by decide) ?_
          refine lv_iload_n hx hb dX4_shelf_44 rfl (lv_at hl 1 rfl) ?_
          refine kr_i (As := [.int x4, .int (3 : Int32), .int x1]) Fc hA Z (Lens.tail []) (c_X4_isAt l D cI cS ad hs τ ok x4 (3 : Int32) x1 (X4_isAt τ x4 (3 : Int32) x1) rfl) mL_RX4_231 v_X4_isAt ⟨rfl, rfl⟩ ⟨Nat.le_of_ble_eq_true rfl, Nat.le_of_ble_eq_true rfl⟩ ⟨Nat.zero_le _, Nat.zero_le _⟩ 0 4 rfl rfl rfl hl (Nat.le_of_ble_eq_true rfl) dX4_shelf_45 rfl (fun H locs Z => ?_)
          refine lv_if_ne (tgt := 54) hx hb dX4_shelf_48 (by decide) (fun c5 => ?_) (fun c5 => ?_)
          · rw [if_neg c5] at hF
            refine lv_iload_n hx hb dX4_shelf_54 rfl (lv_at hl 3 rfl) ?_
            refine lv_iload_n hx hb dX4_shelf_55 rfl (lv_at hl 2 rfl) ?_
            refine lv_icmp_ne (tgt := 62) hx hb dX4_shelf_56 (by decide) (fun c6 => ?_) (fun c6 => ?_)
            · rw [if_neg c6] at hF
              refine lv_iinc (v := (x3 + (1 : Int32))) (lv' := [(3, .int (x3 + (1 : Int32))), (0, .ref (ad 0)), (1, .int x1), (2, .int x2), (4, .int x4)]) hx hb dX4_shelf_62 hl (k := 3) rfl (by rfl) (by decide) rfl (fun ls hl => ?_)
              refine lv_iinc (v := (x4 + (1 : Int32))) (lv' := [(4, .int (x4 + (1 : Int32))), (3, .int (x3 + (1 : Int32))), (0, .ref (ad 0)), (1, .int x1), (2, .int x2)]) hx hb dX4_shelf_65 hl (k := 4) rfl (by rfl) (by decide) rfl (fun ls hl => ?_)
              refine lv_goto (tgt := 14) hx hb dX4_shelf_68 (by decide) ?_
              exact ih ((x3 + (1 : Int32))) ((x4 + (1 : Int32))) _ _ _ hF ok Z (lv_sub hl [2, 3, 4, 1, 0] rfl)
            · rw [if_pos c6] at hF
              refine lv_iload hx hb dX4_shelf_59 (lv_at hl 4 rfl) ?_
              exact kret x4 τ _ _ _ _ ⟨(Option.some.inj hF), rfl⟩ Z.nila dX4_shelf_61
          · rw [if_pos c5] at hF
            refine lv_goto (tgt := 65) hx hb dX4_shelf_51 (by decide) ?_
            refine lv_iinc (v := (x4 + (1 : Int32))) (lv' := [(4, .int (x4 + (1 : Int32))), (0, .ref (ad 0)), (1, .int x1), (2, .int x2), (3, .int x3)]) hx hb dX4_shelf_65 hl (k := 4) rfl (by rfl) (by decide) rfl (fun ls hl => ?_)
            refine lv_goto (tgt := 14) hx hb dX4_shelf_68 (by decide) ?_
            exact ih x3 ((x4 + (1 : Int32))) _ _ _ hF ok Z (lv_sub hl [1, 2, 3, 4, 0] rfl)
  unfold X4_shelf at hF
  refine lv_iload_n hx hb dX4_shelf_0 rfl (lv_at hl 1 rfl) ?_
  refine ks_i (As := [.int p1]) Fc hA Z (c_X4_isBranch l D cI cS p1 (X4_isBranch p1) rfl) mL_RX4_44 v_X4_isBranch ⟨rfl, rfl⟩ ⟨Nat.le_of_ble_eq_true rfl, Nat.le_of_ble_eq_true rfl⟩ ⟨Nat.zero_le _, Nat.zero_le _⟩ rfl hl (Nat.le_of_ble_eq_true rfl) dX4_shelf_1 rfl (fun H locs Z => ?_)
  refine lv_if_ne (tgt := 9) hx hb dX4_shelf_4 (by decide) (fun c7 => ?_) (fun c7 => ?_)
  · rw [if_neg c7] at hF
    refine lv_iconst (v := (0 : Int32)) hx hb dX4_shelf_9 (by decide) ?_
    refine lv_istore_n (lv' := [(3, .int (0 : Int32)), (0, .ref (ad 0)), (1, .int p1), (2, .int p2)]) hx hb dX4_shelf_10 rfl hl (by decide) rfl (fun ls hl => ?_)
    refine lv_iconst (v := (0 : Int32)) hx hb dX4_shelf_11 (by decide) ?_
    refine lv_istore (lv' := [(4, .int (0 : Int32)), (3, .int (0 : Int32)), (0, .ref (ad 0)), (1, .int p1), (2, .int p2)]) hx hb dX4_shelf_12 hl (by decide) rfl (fun ls hl => ?_)
    exact L14 p1 p2 FU (0 : Int32) (0 : Int32) _ _ _ hF ok Z (lv_sub hl [2, 3, 4, 1, 0] rfl)
  · rw [if_pos c7] at hF
    refine lv_iconst (v := (-1 : Int32)) hx hb dX4_shelf_7 (by decide) ?_
    exact kret (-1 : Int32) τ _ _ _ _ ⟨(Option.some.inj hF), rfl⟩ Z.nila dX4_shelf_8
def X4_takeBack (τ : St) (p1 p2 : Int32) : Option (Int32 × St) := if (bi (X4_isCopy τ p1)) = 0 then (some (((-1 : Int32), τ))) else if (bi (X4_isBranch p2)) = 0 then (some (((-1 : Int32), τ))) else if (bi (X4_isWithPatron τ p1)) = 0 then (some (((-2 : Int32), τ))) else if (X4_stateOf τ p1) = (4 : Int32) then (bnd (tput 4 (τ.1 1) ((tget 12 (τ.1 0) p1 (4 : Int32))) (1 : Int32) (((tget 4 (τ.1 1) ((tget 12 (τ.1 0) p1 (4 : Int32))) (1 : Int32)) - (1 : Int32)))) fun q16 => bnd (stT τ 1 q16) fun τ18 => (X4_becomeFree τ18 p1 p2).bind fun q20 => some (((X4_stateOf q20 p1), q20))) else if (X4_stateOf τ p1) = (5 : Int32) then (bnd (X4_enter τ (2 : Int32) ((tget 12 (τ.1 0) p1 (4 : Int32))) ((-(tget 12 (τ.1 0) p1 (11 : Int32)))) p1) fun q10 => bnd (X4_enter q10 (0 : Int32) ((tget 12 (τ.1 0) p1 (4 : Int32))) (X4_fineOf τ p1) p1) fun q12 => (X4_becomeFree q12 p1 p2).bind fun q14 => some (((X4_stateOf q14 p1), q14))) else bnd (X4_enter τ (0 : Int32) ((tget 12 (τ.1 0) p1 (4 : Int32))) (X4_fineOf τ p1) p1) fun q6 => (X4_becomeFree q6 p1 p2).bind fun q8 => some (((X4_stateOf q8 p1), q8))
def rm_X4_takeBack : Room := { frames := 4, cells := 0, slots := 0, locals := 92 }
theorem v_X4_takeBack : WdV RX4 yX4_takeBack cX4_takeBack 6 (some .int) 2 := ⟨mI_X4_takeBack, mS_X4_takeBack, mZ_RX4, mC_X4_takeBack, by decide +kernel⟩
set_option maxHeartbeats 8000000 in
set_option maxRecDepth 100000 in
theorem c_X4_takeBack (l : Launch) (D : va_G) (cI cS : ClassId) (ad : Nat → Nat) (hs : Bool) (τ : St) (ok : OK τ) (p1 p2 : Int32) (F : Int32 × St) (hF : X4_takeBack τ p1 p2 = some F) : MI l yX4_takeBack cX4_takeBack 6 (some .int) rm_X4_takeBack D cI cS [.ref (ad 0), .int p1, .int p2] (cW ad cI hs τ) (cW ad cI hs) (fun r u => r = F.1 ∧ u = F.2 ∧ OK u) := by
  refine MI.mk RX4 rfl .int rfl (by decide) (Nat.le_of_ble_eq_true rfl) (fun _ _ _ => rfl) ?_
  intro p e s m args below meth c A Q ls Fc hin hA Z kret hl
  obtain ⟨hx, hb, hml, hown, hts, hKN⟩ := id Fc
  replace hl : lv_has ls 6 [(0, .ref (ad 0)), (1, .int p1), (2, .int p2)] := hl
  replace Z := Z.anil
  unfold X4_takeBack at hF
  refine lv_aload_n hx hb dX4_takeBack_0 rfl (lv_at hl 0 rfl) ?_
  refine lv_iload_n hx hb dX4_takeBack_1 rfl (lv_at hl 1 rfl) ?_
  refine kr_i (As := [.int p1]) Fc hA Z (Lens.tail []) (c_X4_isCopy l D cI cS ad hs τ ok p1 (X4_isCopy τ p1) rfl) mL_RX4_85 v_X4_isCopy ⟨rfl, rfl⟩ ⟨Nat.le_of_ble_eq_true rfl, Nat.le_of_ble_eq_true rfl⟩ ⟨Nat.zero_le _, Nat.zero_le _⟩ 0 4 rfl rfl rfl hl (Nat.le_of_ble_eq_true rfl) dX4_takeBack_2 rfl (fun H locs Z => ?_)
  refine lv_if_eq (tgt := 15) hx hb dX4_takeBack_5 (by decide) (fun c1 => ?_) (fun c1 => ?_)
  · rw [if_pos c1] at hF
    refine lv_iconst (v := (-1 : Int32)) hx hb dX4_takeBack_15 (by decide) ?_
    exact kret (-1 : Int32) τ _ _ _ _ ⟨(pfst (Option.some.inj hF)), psnd (Option.some.inj hF), ok⟩ Z.nila dX4_takeBack_16
  · rw [if_neg c1] at hF
    refine lv_iload_n hx hb dX4_takeBack_8 rfl (lv_at hl 2 rfl) ?_
    refine ks_i (As := [.int p2]) Fc hA Z (c_X4_isBranch l D cI cS p2 (X4_isBranch p2) rfl) mL_RX4_44 v_X4_isBranch ⟨rfl, rfl⟩ ⟨Nat.le_of_ble_eq_true rfl, Nat.le_of_ble_eq_true rfl⟩ ⟨Nat.zero_le _, Nat.zero_le _⟩ rfl hl (Nat.le_of_ble_eq_true rfl) dX4_takeBack_9 rfl (fun H locs Z => ?_)
    refine lv_if_ne (tgt := 17) hx hb dX4_takeBack_12 (by decide) (fun c2 => ?_) (fun c2 => ?_)
    · rw [if_neg c2] at hF
      refine lv_aload_n hx hb dX4_takeBack_17 rfl (lv_at hl 0 rfl) ?_
      refine lv_iload_n hx hb dX4_takeBack_18 rfl (lv_at hl 1 rfl) ?_
      refine kr_i (As := [.int p1]) Fc hA Z (Lens.tail []) (c_X4_isWithPatron l D cI cS ad hs τ ok p1 (X4_isWithPatron τ p1) rfl) mL_RX4_158 v_X4_isWithPatron ⟨rfl, rfl⟩ ⟨Nat.le_of_ble_eq_true rfl, Nat.le_of_ble_eq_true rfl⟩ ⟨Nat.zero_le _, Nat.zero_le _⟩ 0 4 rfl rfl rfl hl (Nat.le_of_ble_eq_true rfl) dX4_takeBack_19 rfl (fun H locs Z => ?_)
      refine lv_if_ne (tgt := 28) hx hb dX4_takeBack_22 (by decide) (fun c3 => ?_) (fun c3 => ?_)
      · rw [if_neg c3] at hF
        refine lv_aload_n hx hb dX4_takeBack_28 rfl (lv_at hl 0 rfl) ?_
        refine kget Fc Z inX4 0 rfl rfl 0 (by decide) mF_RX4_10 rfl rfl dX4_takeBack_29 ?_
        refine kgetN Fc Z inX2 1 rfl rfl 0 (by decide) nw_RX4_47 rfl rfl dX4_takeBack_32 ?_
        refine lv_iload_n hx hb dX4_takeBack_35 rfl (lv_at hl 1 rfl) ?_
        refine lv_iconst (v := (4 : Int32)) hx hb dX4_takeBack_36 (by decide) ?_
        refine kr_i (As := [.int p1, .int (4 : Int32)]) Fc hA Z Lens.c0 (c_X3_get l D cI cS (ad 2) (ad 3) 20 12 (20 * 12) sh0 (τ.1 0) ok.1 p1 (4 : Int32) (tget 12 (τ.1 0) p1 (4 : Int32)) rfl) mL_RX4_88 v_X3_get ⟨rfl, rfl⟩ ⟨Nat.le_of_ble_eq_true rfl, Nat.le_of_ble_eq_true rfl⟩ ⟨Nat.zero_le _, Nat.zero_le _⟩ 2 3 rfl rfl rfl hl (Nat.le_of_ble_eq_true rfl) dX4_takeBack_37 rfl (fun H locs Z => ?_)
        refine lv_istore_n (lv' := [(3, .int (tget 12 (τ.1 0) p1 (4 : Int32))), (0, .ref (ad 0)), (1, .int p1), (2, .int p2)]) hx hb dX4_takeBack_40 rfl hl (by decide) rfl (fun ls hl => ?_)
        refine lv_aload_n hx hb dX4_takeBack_41 rfl (lv_at hl 1 rfl) ?_
        refine lv_iload_n hx hb dX4_takeBack_42 rfl (lv_at hl 2 rfl) ?_
        refine kr_i (As := [.int p1]) Fc hA Z (Lens.tail []) (c_X4_stateOf l D cI cS ad hs τ ok p1 (X4_stateOf τ p1) rfl) mL_RX4_95 v_X4_stateOf ⟨rfl, rfl⟩ ⟨Nat.le_of_ble_eq_true rfl, Nat.le_of_ble_eq_true rfl⟩ ⟨Nat.zero_le _, Nat.zero_le _⟩ 0 4 rfl rfl rfl hl (Nat.le_of_ble_eq_true rfl) dX4_takeBack_43 rfl (fun H locs Z => ?_)
        refine lv_istore (lv' := [(4, .int (X4_stateOf τ p1)), (3, .int (tget 12 (τ.1 0) p1 (4 : Int32))), (0, .ref (ad 0)), (1, .int p1), (2, .int p2)]) hx hb dX4_takeBack_46 hl (by decide) rfl (fun ls hl => ?_)
        refine lv_iload hx hb dX4_takeBack_48 (lv_at hl 0 rfl) ?_
        refine lv_iconst (v := (4 : Int32)) hx hb dX4_takeBack_50 (by decide) ?_
        refine lv_icmp_ne (tgt := 83) hx hb dX4_takeBack_51 (by decide) (fun c4 => ?_) (fun c4 => ?_)
        · rw [if_neg c4] at hF
          refine lv_aload_n hx hb dX4_takeBack_83 rfl (lv_at hl 2 rfl) ?_
          refine lv_iload_n hx hb dX4_takeBack_84 rfl (lv_at hl 3 rfl) ?_
          refine kr_i (As := [.int p1]) Fc hA Z (Lens.tail []) (c_X4_fineOf l D cI cS ad hs τ ok p1 (X4_fineOf τ p1) rfl) mL_RX4_161 v_X4_fineOf ⟨rfl, rfl⟩ ⟨Nat.le_of_ble_eq_true rfl, Nat.le_of_ble_eq_true rfl⟩ ⟨Nat.zero_le _, Nat.zero_le _⟩ 0 4 rfl rfl rfl hl (Nat.le_of_ble_eq_true rfl) dX4_takeBack_85 rfl (fun H locs Z => ?_)
          refine lv_istore (lv' := [(5, .int (X4_fineOf τ p1)), (4, .int (X4_stateOf τ p1)), (3, .int (tget 12 (τ.1 0) p1 (4 : Int32))), (0, .ref (ad 0)), (1, .int p1), (2, .int p2)]) hx hb dX4_takeBack_88 hl (by decide) rfl (fun ls hl => ?_)
          refine lv_iload hx hb dX4_takeBack_90 (lv_at hl 1 rfl) ?_
          refine lv_iconst (v := (5 : Int32)) hx hb dX4_takeBack_92 (by decide) ?_
          refine lv_icmp_ne (tgt := 117) hx hb dX4_takeBack_93 (by decide) (fun c5 => ?_) (fun c5 => ?_)
          · rw [if_neg c5] at hF
            refine lv_aload_n hx hb dX4_takeBack_117 rfl (lv_at hl 3 rfl) ?_
            refine lv_iconst (v := (0 : Int32)) hx hb dX4_takeBack_118 (by decide) ?_
            refine lv_iload_n hx hb dX4_takeBack_119 rfl (lv_at hl 2 rfl) ?_
            refine lv_iload hx hb dX4_takeBack_120 (lv_at hl 0 rfl) ?_
            refine lv_iload_n hx hb dX4_takeBack_122 rfl (lv_at hl 4 rfl) ?_
            obtain ⟨q6, e7, hF⟩ := bnd_el hF
            refine kv_i (As := [.int (0 : Int32), .int ((tget 12 (τ.1 0) p1 (4 : Int32))), .int (X4_fineOf τ p1), .int p1]) (ok := OK) Fc hA Z (Lens.tail []) (c_X4_enter l D cI cS ad hs τ ok (0 : Int32) ((tget 12 (τ.1 0) p1 (4 : Int32))) (X4_fineOf τ p1) p1 q6 e7.symm) mL_RX4_164 v_X4_enter ⟨rfl, rfl⟩ ⟨Nat.le_of_ble_eq_true rfl, Nat.le_of_ble_eq_true rfl⟩ ⟨Nat.zero_le _, Nat.zero_le _⟩ 0 4 rfl rfl rfl hl (Nat.le_of_ble_eq_true rfl) dX4_takeBack_123 rfl (fun H locs ok1 Z => ?_)
            have ok := ok1
            refine lv_aload_n hx hb dX4_takeBack_126 rfl (lv_at hl 3 rfl) ?_
            refine lv_iload_n hx hb dX4_takeBack_127 rfl (lv_at hl 4 rfl) ?_
            refine lv_iload_n hx hb dX4_takeBack_128 rfl (lv_at hl 5 rfl) ?_
            obtain ⟨q8, h9, hF⟩ := obind hF
            refine kv_i (As := [.int p1, .int p2]) (ok := OK) Fc hA Z (Lens.tail []) (c_X4_becomeFree l D cI cS ad hs q6 ok p1 p2 q8 h9) mL_RX4_61 v_X4_becomeFree ⟨rfl, rfl⟩ ⟨Nat.le_of_ble_eq_true rfl, Nat.le_of_ble_eq_true rfl⟩ ⟨Nat.zero_le _, Nat.zero_le _⟩ 0 4 rfl rfl rfl hl (Nat.le_of_ble_eq_true rfl) dX4_takeBack_129 rfl (fun H locs ok1 Z => ?_)
            have ok := ok1
            refine lv_aload_n hx hb dX4_takeBack_132 rfl (lv_at hl 3 rfl) ?_
            refine lv_iload_n hx hb dX4_takeBack_133 rfl (lv_at hl 4 rfl) ?_
            refine kr_i (As := [.int p1]) Fc hA Z (Lens.tail []) (c_X4_stateOf l D cI cS ad hs q8 ok p1 (X4_stateOf q8 p1) rfl) mL_RX4_95 v_X4_stateOf ⟨rfl, rfl⟩ ⟨Nat.le_of_ble_eq_true rfl, Nat.le_of_ble_eq_true rfl⟩ ⟨Nat.zero_le _, Nat.zero_le _⟩ 0 4 rfl rfl rfl hl (Nat.le_of_ble_eq_true rfl) dX4_takeBack_134 rfl (fun H locs Z => ?_)
            exact kret (X4_stateOf q8 p1) q8 _ _ _ _ ⟨(pfst (Option.some.inj hF)), psnd (Option.some.inj hF), ok⟩ Z.nila dX4_takeBack_137
          · rw [if_pos c5] at hF
            refine lv_aload_n hx hb dX4_takeBack_96 rfl (lv_at hl 3 rfl) ?_
            refine lv_iconst (v := (2 : Int32)) hx hb dX4_takeBack_97 (by decide) ?_
            refine lv_iload_n hx hb dX4_takeBack_98 rfl (lv_at hl 2 rfl) ?_
            refine lv_aload_n hx hb dX4_takeBack_99 rfl (lv_at hl 3 rfl) ?_
            refine kget Fc Z inX4 0 rfl rfl 0 (by decide) mF_RX4_10 rfl rfl dX4_takeBack_100 ?_
            refine kgetN Fc Z inX2 1 rfl rfl 0 (by decide) nw_RX4_47 rfl rfl dX4_takeBack_103 ?_
            refine lv_iload_n hx hb dX4_takeBack_106 rfl (lv_at hl 4 rfl) ?_
            refine lv_bipush (v := (11 : Int32)) hx hb dX4_takeBack_107 (by decide) ?_
            refine kr_i (As := [.int p1, .int (11 : Int32)]) Fc hA Z Lens.c0 (c_X3_get l D cI cS (ad 2) (ad 3) 20 12 (20 * 12) sh0 (τ.1 0) ok.1 p1 (11 : Int32) (tget 12 (τ.1 0) p1 (11 : Int32)) rfl) mL_RX4_88 v_X3_get ⟨rfl, rfl⟩ ⟨Nat.le_of_ble_eq_true rfl, Nat.le_of_ble_eq_true rfl⟩ ⟨Nat.zero_le _, Nat.zero_le _⟩ 2 3 rfl rfl rfl hl (Nat.le_of_ble_eq_true rfl) dX4_takeBack_109 rfl (fun H locs Z => ?_)
            refine lv_ineg hx hb dX4_takeBack_112 ?_
            refine lv_iload_n hx hb dX4_takeBack_113 rfl (lv_at hl 4 rfl) ?_
            obtain ⟨q10, e11, hF⟩ := bnd_el hF
            refine kv_i (As := [.int (2 : Int32), .int ((tget 12 (τ.1 0) p1 (4 : Int32))), .int ((-(tget 12 (τ.1 0) p1 (11 : Int32)))), .int p1]) (ok := OK) Fc hA Z (Lens.tail []) (c_X4_enter l D cI cS ad hs τ ok (2 : Int32) ((tget 12 (τ.1 0) p1 (4 : Int32))) ((-(tget 12 (τ.1 0) p1 (11 : Int32)))) p1 q10 e11.symm) mL_RX4_164 v_X4_enter ⟨rfl, rfl⟩ ⟨Nat.le_of_ble_eq_true rfl, Nat.le_of_ble_eq_true rfl⟩ ⟨Nat.zero_le _, Nat.zero_le _⟩ 0 4 rfl rfl rfl hl (Nat.le_of_ble_eq_true rfl) dX4_takeBack_114 rfl (fun H locs ok1 Z => ?_)
            have ok := ok1
            refine lv_aload_n hx hb dX4_takeBack_117 rfl (lv_at hl 3 rfl) ?_
            refine lv_iconst (v := (0 : Int32)) hx hb dX4_takeBack_118 (by decide) ?_
            refine lv_iload_n hx hb dX4_takeBack_119 rfl (lv_at hl 2 rfl) ?_
            refine lv_iload hx hb dX4_takeBack_120 (lv_at hl 0 rfl) ?_
            refine lv_iload_n hx hb dX4_takeBack_122 rfl (lv_at hl 4 rfl) ?_
            obtain ⟨q12, e13, hF⟩ := bnd_el hF
            refine kv_i (As := [.int (0 : Int32), .int ((tget 12 (τ.1 0) p1 (4 : Int32))), .int (X4_fineOf τ p1), .int p1]) (ok := OK) Fc hA Z (Lens.tail []) (c_X4_enter l D cI cS ad hs q10 ok (0 : Int32) ((tget 12 (τ.1 0) p1 (4 : Int32))) (X4_fineOf τ p1) p1 q12 e13.symm) mL_RX4_164 v_X4_enter ⟨rfl, rfl⟩ ⟨Nat.le_of_ble_eq_true rfl, Nat.le_of_ble_eq_true rfl⟩ ⟨Nat.zero_le _, Nat.zero_le _⟩ 0 4 rfl rfl rfl hl (Nat.le_of_ble_eq_true rfl) dX4_takeBack_123 rfl (fun H locs ok1 Z => ?_)
            have ok := ok1
            refine lv_aload_n hx hb dX4_takeBack_126 rfl (lv_at hl 3 rfl) ?_
            refine lv_iload_n hx hb dX4_takeBack_127 rfl (lv_at hl 4 rfl) ?_
            refine lv_iload_n hx hb dX4_takeBack_128 rfl (lv_at hl 5 rfl) ?_
            obtain ⟨q14, h15, hF⟩ := obind hF
            refine kv_i (As := [.int p1, .int p2]) (ok := OK) Fc hA Z (Lens.tail []) (c_X4_becomeFree l D cI cS ad hs q12 ok p1 p2 q14 h15) mL_RX4_61 v_X4_becomeFree ⟨rfl, rfl⟩ ⟨Nat.le_of_ble_eq_true rfl, Nat.le_of_ble_eq_true rfl⟩ ⟨Nat.zero_le _, Nat.zero_le _⟩ 0 4 rfl rfl rfl hl (Nat.le_of_ble_eq_true rfl) dX4_takeBack_129 rfl (fun H locs ok1 Z => ?_)
            have ok := ok1
            refine lv_aload_n hx hb dX4_takeBack_132 rfl (lv_at hl 3 rfl) ?_
            refine lv_iload_n hx hb dX4_takeBack_133 rfl (lv_at hl 4 rfl) ?_
            refine kr_i (As := [.int p1]) Fc hA Z (Lens.tail []) (c_X4_stateOf l D cI cS ad hs q14 ok p1 (X4_stateOf q14 p1) rfl) mL_RX4_95 v_X4_stateOf ⟨rfl, rfl⟩ ⟨Nat.le_of_ble_eq_true rfl, Nat.le_of_ble_eq_true rfl⟩ ⟨Nat.zero_le _, Nat.zero_le _⟩ 0 4 rfl rfl rfl hl (Nat.le_of_ble_eq_true rfl) dX4_takeBack_134 rfl (fun H locs Z => ?_)
            exact kret (X4_stateOf q14 p1) q14 _ _ _ _ ⟨(pfst (Option.some.inj hF)), psnd (Option.some.inj hF), ok⟩ Z.nila dX4_takeBack_137
        · rw [if_pos c4] at hF
          refine lv_aload_n hx hb dX4_takeBack_54 rfl (lv_at hl 2 rfl) ?_
          refine kget Fc Z inX4 0 rfl rfl 0 (by decide) mF_RX4_10 rfl rfl dX4_takeBack_55 ?_
          refine kgetN Fc Z inX2 1 rfl rfl 1 (by decide) nw_RX4_69 rfl rfl dX4_takeBack_58 ?_
          refine lv_iload_n hx hb dX4_takeBack_61 rfl (lv_at hl 1 rfl) ?_
          refine lv_iconst (v := (1 : Int32)) hx hb dX4_takeBack_62 (by decide) ?_
          refine lv_aload_n hx hb dX4_takeBack_63 rfl (lv_at hl 2 rfl) ?_
          refine kget Fc Z inX4 0 rfl rfl 0 (by decide) mF_RX4_10 rfl rfl dX4_takeBack_64 ?_
          refine kgetN Fc Z inX2 1 rfl rfl 1 (by decide) nw_RX4_69 rfl rfl dX4_takeBack_67 ?_
          refine lv_iload_n hx hb dX4_takeBack_70 rfl (lv_at hl 1 rfl) ?_
          refine lv_iconst (v := (1 : Int32)) hx hb dX4_takeBack_71 (by decide) ?_
          refine kr_i (As := [.int ((tget 12 (τ.1 0) p1 (4 : Int32))), .int (1 : Int32)]) Fc hA Z Lens.c1 (c_X3_get l D cI cS (ad 4) (ad 5) 8 4 (8 * 4) sh1 (τ.1 1) ok.2.1 ((tget 12 (τ.1 0) p1 (4 : Int32))) (1 : Int32) (tget 4 (τ.1 1) ((tget 12 (τ.1 0) p1 (4 : Int32))) (1 : Int32)) rfl) mL_RX4_88 v_X3_get ⟨rfl, rfl⟩ ⟨Nat.le_of_ble_eq_true rfl, Nat.le_of_ble_eq_true rfl⟩ ⟨Nat.zero_le _, Nat.zero_le _⟩ 4 3 rfl rfl rfl hl (Nat.le_of_ble_eq_true rfl) dX4_takeBack_72 rfl (fun H locs Z => ?_)
          refine lv_iconst (v := (1 : Int32)) hx hb dX4_takeBack_75 (by decide) ?_
          refine lv_isub hx hb dX4_takeBack_76 ?_
          obtain ⟨q16, e17, hF⟩ := bnd_el hF
          refine kv_i (As := [.int ((tget 12 (τ.1 0) p1 (4 : Int32))), .int (1 : Int32), .int (((tget 4 (τ.1 1) ((tget 12 (τ.1 0) p1 (4 : Int32))) (1 : Int32)) - (1 : Int32)))]) (ok := tbOK 8) Fc hA Z Lens.c1 (c_X3_put l D cI cS (ad 4) (ad 5) 8 4 (8 * 4) sh1 (τ.1 1) ok.2.1 ((tget 12 (τ.1 0) p1 (4 : Int32))) (1 : Int32) (((tget 4 (τ.1 1) ((tget 12 (τ.1 0) p1 (4 : Int32))) (1 : Int32)) - (1 : Int32))) q16 e17.symm) mL_RX4_57 v_X3_put ⟨rfl, rfl⟩ ⟨Nat.le_of_ble_eq_true rfl, Nat.le_of_ble_eq_true rfl⟩ ⟨Nat.zero_le _, Nat.zero_le _⟩ 4 3 rfl rfl rfl hl (Nat.le_of_ble_eq_true rfl) dX4_takeBack_77 rfl (fun H locs ok1 Z => ?_)
          obtain ⟨τ18, e19, hF⟩ := bnd_el hF
          rw [← e19] at Z
          have ok : OK τ18 := by rw [e19]; exact ok_c1 ok ok1
          refine lv_goto (tgt := 126) hx hb dX4_takeBack_80 (by decide) ?_
          refine lv_aload_n hx hb dX4_takeBack_126 rfl (lv_at hl 2 rfl) ?_
          refine lv_iload_n hx hb dX4_takeBack_127 rfl (lv_at hl 3 rfl) ?_
          refine lv_iload_n hx hb dX4_takeBack_128 rfl (lv_at hl 4 rfl) ?_
          obtain ⟨q20, h21, hF⟩ := obind hF
          refine kv_i (As := [.int p1, .int p2]) (ok := OK) Fc hA Z (Lens.tail []) (c_X4_becomeFree l D cI cS ad hs τ18 ok p1 p2 q20 h21) mL_RX4_61 v_X4_becomeFree ⟨rfl, rfl⟩ ⟨Nat.le_of_ble_eq_true rfl, Nat.le_of_ble_eq_true rfl⟩ ⟨Nat.zero_le _, Nat.zero_le _⟩ 0 4 rfl rfl rfl hl (Nat.le_of_ble_eq_true rfl) dX4_takeBack_129 rfl (fun H locs ok1 Z => ?_)
          have ok := ok1
          refine lv_aload_n hx hb dX4_takeBack_132 rfl (lv_at hl 2 rfl) ?_
          refine lv_iload_n hx hb dX4_takeBack_133 rfl (lv_at hl 3 rfl) ?_
          refine kr_i (As := [.int p1]) Fc hA Z (Lens.tail []) (c_X4_stateOf l D cI cS ad hs q20 ok p1 (X4_stateOf q20 p1) rfl) mL_RX4_95 v_X4_stateOf ⟨rfl, rfl⟩ ⟨Nat.le_of_ble_eq_true rfl, Nat.le_of_ble_eq_true rfl⟩ ⟨Nat.zero_le _, Nat.zero_le _⟩ 0 4 rfl rfl rfl hl (Nat.le_of_ble_eq_true rfl) dX4_takeBack_134 rfl (fun H locs Z => ?_)
          exact kret (X4_stateOf q20 p1) q20 _ _ _ _ ⟨(pfst (Option.some.inj hF)), psnd (Option.some.inj hF), ok⟩ Z.nila dX4_takeBack_137
      · rw [if_pos c3] at hF
        refine lv_bipush (v := (-2 : Int32)) hx hb dX4_takeBack_25 (by decide) ?_
        exact kret (-2 : Int32) τ _ _ _ _ ⟨(pfst (Option.some.inj hF)), psnd (Option.some.inj hF), ok⟩ Z.nila dX4_takeBack_27
    · rw [if_pos c2] at hF
      refine lv_iconst (v := (-1 : Int32)) hx hb dX4_takeBack_15 (by decide) ?_
      exact kret (-1 : Int32) τ _ _ _ _ ⟨(pfst (Option.some.inj hF)), psnd (Option.some.inj hF), ok⟩ Z.nila dX4_takeBack_16
def X4_waiting (τ : St) (p1 : Int32) : Option (Int32) := if (bi (X4_isTitle p1)) = 0 then (some (-1 : Int32)) else (X4_waitingBefore τ ((τ.1 2).1) p1).bind fun v2 => some v2
def rm_X4_waiting : Room := { frames := 3, cells := 0, slots := 0, locals := 69 }
theorem v_X4_waiting : WdV RX4 yX4_waiting cX4_waiting 2 (some .int) 1 := ⟨mI_X4_waiting, mS_X4_waiting, mZ_RX4, mC_X4_waiting, by decide +kernel⟩
set_option maxHeartbeats 8000000 in
set_option maxRecDepth 100000 in
theorem c_X4_waiting (l : Launch) (D : va_G) (cI cS : ClassId) (ad : Nat → Nat) (hs : Bool) (τ : St) (ok : OK τ) (p1 : Int32) (F : Int32) (hF : X4_waiting τ p1 = some F) : MI l yX4_waiting cX4_waiting 2 (some .int) rm_X4_waiting D cI cS [.ref (ad 0), .int p1] (cW ad cI hs τ) (cW ad cI hs) (fun r u' => r = F ∧ u' = τ) := by
  refine MI.mk RX4 rfl .int rfl (by decide) (Nat.le_of_ble_eq_true rfl) (fun _ _ _ => rfl) ?_
  intro p e s m args below meth c A Q ls Fc hin hA Z kret hl
  obtain ⟨hx, hb, hml, hown, hts, hKN⟩ := id Fc
  replace hl : lv_has ls 2 [(0, .ref (ad 0)), (1, .int p1)] := hl
  replace Z := Z.anil
  unfold X4_waiting at hF
  refine lv_iload_n hx hb dX4_waiting_0 rfl (lv_at hl 1 rfl) ?_
  refine ks_i (As := [.int p1]) Fc hA Z (c_X4_isTitle l D cI cS p1 (X4_isTitle p1) rfl) mL_RX4_40 v_X4_isTitle ⟨rfl, rfl⟩ ⟨Nat.le_of_ble_eq_true rfl, Nat.le_of_ble_eq_true rfl⟩ ⟨Nat.zero_le _, Nat.zero_le _⟩ rfl hl (Nat.le_of_ble_eq_true rfl) dX4_waiting_1 rfl (fun H locs Z => ?_)
  refine lv_if_eq (tgt := 25) hx hb dX4_waiting_4 (by decide) (fun c1 => ?_) (fun c1 => ?_)
  · rw [if_pos c1] at hF
    refine lv_iconst (v := (-1 : Int32)) hx hb dX4_waiting_25 (by decide) ?_
    exact kret (-1 : Int32) τ _ _ _ _ ⟨(Option.some.inj hF), rfl⟩ Z.nila dX4_waiting_26
  · rw [if_neg c1] at hF
    refine lv_aload_n hx hb dX4_waiting_7 rfl (lv_at hl 0 rfl) ?_
    refine lv_aload_n hx hb dX4_waiting_8 rfl (lv_at hl 0 rfl) ?_
    refine kget Fc Z inX4 0 rfl rfl 0 (by decide) mF_RX4_10 rfl rfl dX4_waiting_9 ?_
    refine kgetN Fc Z inX2 1 rfl rfl 2 (by decide) nw_RX4_192 rfl rfl dX4_waiting_12 ?_
    refine kr_i (As := []) Fc hA Z Lens.c2 (c_X3_size l D cI cS (ad 6) (ad 7) 24 4 (24 * 4) sh2 (τ.1 2) ok.2.2.1  (τ.1 2).1 rfl) mL_RX4_92 v_X3_size ⟨rfl, rfl⟩ ⟨Nat.le_of_ble_eq_true rfl, Nat.le_of_ble_eq_true rfl⟩ ⟨Nat.zero_le _, Nat.zero_le _⟩ 6 3 rfl rfl rfl hl (Nat.le_of_ble_eq_true rfl) dX4_waiting_15 rfl (fun H locs Z => ?_)
    refine lv_iload_n hx hb dX4_waiting_18 rfl (lv_at hl 1 rfl) ?_
    obtain ⟨v2, h3, hF⟩ := obind hF
    refine kr_i (As := [.int ((τ.1 2).1), .int p1]) Fc hA Z (Lens.tail []) (c_X4_waitingBefore l D cI cS ad hs τ ok ((τ.1 2).1) p1 v2 h3) mL_RX4_201 v_X4_waitingBefore ⟨rfl, rfl⟩ ⟨Nat.le_of_ble_eq_true rfl, Nat.le_of_ble_eq_true rfl⟩ ⟨Nat.zero_le _, Nat.zero_le _⟩ 0 4 rfl rfl rfl hl (Nat.le_of_ble_eq_true rfl) dX4_waiting_19 rfl (fun H locs Z => ?_)
    refine lv_goto (tgt := 26) hx hb dX4_waiting_22 (by decide) ?_
    exact kret v2 τ _ _ _ _ ⟨(Option.some.inj hF), rfl⟩ Z.nila dX4_waiting_26
