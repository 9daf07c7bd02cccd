/-! THE REFERENCE: its methods -/
def X5_bringsBack_J128 (ρ : Ms) (x1 : Int32) (x2 : Int32) : Option (Int32 × Ms) := (X5_frees ρ x1 x2).bind fun q1 => (X5_of q1 x1 (3 : Int32)).bind fun v3 => some (v3, q1)
def X5_bringsBack_J92 (ρ : Ms) (x1 : Int32) (x2 : Int32) (x3 : Int32) (x4 : Int32) : Option (Int32 × Ms) := if x3 = (5 : Int32) then ((X5_of ρ x1 (10 : Int32)).bind fun v6 => (X5_owes ρ (2 : Int32) x4 (-v6) x1).bind fun q8 => (X5_of q8 x1 (9 : Int32)).bind fun v10 => (X5_owes q8 (0 : Int32) x4 v10 x1).bind fun q12 => X5_bringsBack_J128 q12 x1 x2) else X5_bringsBack_J128 ρ x1 x2
def X5_bringsBack_J68 (ρ : Ms) (x1 : Int32) (x2 : Int32) (x3 : Int32) (x4 : Int32) : Option (Int32 × Ms) := if x3 = (4 : Int32) then ((rdA (ρ.1.1 0) 681 ((((253 : Int32) + ((4 : Int32) * x4)) + (1 : Int32)))).bind fun v15 => (wrA (ρ.1.1 0) 681 ((((253 : Int32) + ((4 : Int32) * x4)) + (1 : Int32))) ((v15 - (1 : Int32)))).bind fun g17 => bnd (msA ρ 0 g17) fun ρ19 => X5_bringsBack_J92 ρ19 x1 x2 x3 x4) else X5_bringsBack_J92 ρ x1 x2 x3 x4
def X5_bringsBack_J50 (ρ : Ms) (x1 : Int32) (x2 : Int32) (x3 : Int32) (x4 : Int32) : Option (Int32 × Ms) := if x3 = (1 : Int32) then ((X5_late ρ x1).bind fun v22 => (X5_owes ρ (0 : Int32) x4 v22 x1).bind fun q24 => X5_bringsBack_J68 q24 x1 x2 x3 x4) else X5_bringsBack_J68 ρ x1 x2 x3 x4
def X5_bringsBack (ρ : Ms) (p1 p2 : Int32) : Option (Int32 × Ms) := (X5_isCopy ρ p1).bind fun v26 => if (bi v26) = 0 then (some (((-1 : Int32), ρ))) else if (bi (X5_isBranch p2)) = 0 then (some (((-1 : Int32), ρ))) else (X5_of ρ p1 (3 : Int32)).bind fun v30 => (X5_of ρ p1 (4 : Int32)).bind fun v32 => if v30 = (1 : Int32) then (X5_bringsBack_J50 ρ p1 p2 v30 v32) else if v30 = (4 : Int32) then (X5_bringsBack_J50 ρ p1 p2 v30 v32) else if v30 = (5 : Int32) then (X5_bringsBack_J50 ρ p1 p2 v30 v32) else some (((-2 : Int32), ρ))
def rm_X5_bringsBack : Room := { frames := 4, cells := 0, slots := 0, locals := 95 }
theorem v_X5_bringsBack : WdV RX5 yX5_bringsBack cX5_bringsBack 5 (some .int) 2 := ⟨mI_X5_bringsBack, mS_X5_bringsBack, mZ_RX5, mC_X5_bringsBack, by decide +kernel⟩
set_option maxHeartbeats 8000000 in
set_option maxRecDepth 100000 in
theorem c_X5_bringsBack (l : Launch) (D : va_G) (cI cS : ClassId) (am : Nat → Nat) (ρ : Ms) (p1 p2 : Int32) (F : Int32 × Ms) (hF : X5_bringsBack ρ p1 p2 = some F) : MI l yX5_bringsBack cX5_bringsBack 5 (some .int) rm_X5_bringsBack D cI cS [.ref (am 0), .int p1, .int p2] (mW am cI ρ) (mW am cI) (fun r u => r = F.1 ∧ u = F.2 ∧ True) := by
  refine MI.mk RX5 rfl .int rfl (by decide) (Nat.le_of_ble_eq_true rfl) (fun _ _ _ => rfl) ?_
  intro p e s m args below meth c A Q ls Fc hin hA Z kret hl
  obtain ⟨hx, hb, hml, hown, hts, hKN⟩ := id Fc
  replace hl : lv_has ls 5 [(0, .ref (am 0)), (1, .int p1), (2, .int p2)] := hl
  have J128 : ∀ (ρ : Ms) (x1 : Int32) (x2 : Int32) (H : Heap) (locs : List Loc) (ls : Array Slot), X5_bringsBack_J128 ρ x1 x2 = some F → Ix D A s (mW am cI ρ) H locs → lv_has ls 5 [(0, .ref (am 0)), (1, .int x1), (2, .int x2)] → W p l e rm_X5_bringsBack s m args below meth c H locs 0 0 Q (F0 m 128 ls []) := by
    intro ρ x1 x2 H locs ls hF Z hl
    unfold X5_bringsBack_J128 at hF
    refine lv_aload_n hx hb dX5_bringsBack_128 rfl (lv_at hl 0 rfl) ?_
    refine lv_iload_n hx hb dX5_bringsBack_129 rfl (lv_at hl 1 rfl) ?_
    refine lv_iload_n hx hb dX5_bringsBack_130 rfl (lv_at hl 2 rfl) ?_
    obtain ⟨q1, h2, hF⟩ := obind hF
    refine kv_i (As := [.int x1, .int x2]) (ok := (fun _ => True)) Fc hA Z Lens.all (c_X5_frees l D cI cS am ρ x1 x2 q1 h2) mL_RX5_99 v_X5_frees ⟨rfl, rfl⟩ ⟨Nat.le_of_ble_eq_true rfl, Nat.le_of_ble_eq_true rfl⟩ ⟨Nat.zero_le _, Nat.zero_le _⟩ 0 5 rfl rfl rfl hl (Nat.le_of_ble_eq_true rfl) dX5_bringsBack_131 rfl (fun H locs ok1 Z => ?_)
    refine lv_aload_n hx hb dX5_bringsBack_134 rfl (lv_at hl 0 rfl) ?_
    refine lv_iload_n hx hb dX5_bringsBack_135 rfl (lv_at hl 1 rfl) ?_
    refine lv_iconst (v := (3 : Int32)) hx hb dX5_bringsBack_136 (by decide) ?_
    obtain ⟨v3, h4, hF⟩ := obind hF
    refine kr_i (As := [.int x1, .int (3 : Int32)]) Fc hA Z Lens.all (c_X5_of l D cI cS am q1 x1 (3 : Int32) v3 h4) mL_RX5_73 v_X5_of ⟨rfl, rfl⟩ ⟨Nat.le_of_ble_eq_true rfl, Nat.le_of_ble_eq_true rfl⟩ ⟨Nat.zero_le _, Nat.zero_le _⟩ 0 5 rfl rfl rfl hl (Nat.le_of_ble_eq_true rfl) dX5_bringsBack_137 rfl (fun H locs Z => ?_)
    exact kret v3 q1 _ _ _ _ ⟨(pfst (Option.some.inj hF)), psnd (Option.some.inj hF), trivial⟩ Z dX5_bringsBack_140
  have J92 : ∀ (ρ : Ms) (x1 : Int32) (x2 : Int32) (x3 : Int32) (x4 : Int32) (H : Heap) (locs : List Loc) (ls : Array Slot), X5_bringsBack_J92 ρ x1 x2 x3 x4 = some F → Ix D A s (mW am cI ρ) H locs → lv_has ls 5 [(0, .ref (am 0)), (1, .int x1), (2, .int x2), (3, .int x3), (4, .int x4)] → W p l e rm_X5_bringsBack s m args below meth c H locs 0 0 Q (F0 m 92 ls []) := by
    intro ρ x1 x2 x3 x4 H locs ls hF Z hl
    unfold X5_bringsBack_J92 at hF
    refine lv_iload_n hx hb dX5_bringsBack_92 rfl (lv_at hl 3 rfl) ?_
    refine lv_iconst (v := (5 : Int32)) hx hb dX5_bringsBack_93 (by decide) ?_
    refine lv_icmp_ne (tgt := 128) hx hb dX5_bringsBack_94 (by decide) (fun c5 => ?_) (fun c5 => ?_)
    · rw [if_neg c5] at hF
      exact J128 ρ x1 x2 _ _ _ hF Z (lv_sub hl [0, 1, 2] rfl)
    · rw [if_pos c5] at hF
      refine lv_aload_n hx hb dX5_bringsBack_97 rfl (lv_at hl 0 rfl) ?_
      refine lv_iconst (v := (2 : Int32)) hx hb dX5_bringsBack_98 (by decide) ?_
      refine lv_iload hx hb dX5_bringsBack_99 (lv_at hl 4 rfl) ?_
      refine lv_aload_n hx hb dX5_bringsBack_101 rfl (lv_at hl 0 rfl) ?_
      refine lv_iload_n hx hb dX5_bringsBack_102 rfl (lv_at hl 1 rfl) ?_
      refine lv_bipush (v := (10 : Int32)) hx hb dX5_bringsBack_103 (by decide) ?_
      obtain ⟨v6, h7, hF⟩ := obind hF
      refine kr_i (As := [.int x1, .int (10 : Int32)]) Fc hA Z Lens.all (c_X5_of l D cI cS am ρ x1 (10 : Int32) v6 h7) mL_RX5_73 v_X5_of ⟨rfl, rfl⟩ ⟨Nat.le_of_ble_eq_true rfl, Nat.le_of_ble_eq_true rfl⟩ ⟨Nat.zero_le _, Nat.zero_le _⟩ 0 5 rfl rfl rfl hl (Nat.le_of_ble_eq_true rfl) dX5_bringsBack_105 rfl (fun H locs Z => ?_)
      refine lv_ineg hx hb dX5_bringsBack_108 ?_
      refine lv_iload_n hx hb dX5_bringsBack_109 rfl (lv_at hl 1 rfl) ?_
      obtain ⟨q8, h9, hF⟩ := obind hF
      refine kv_i (As := [.int (2 : Int32), .int x4, .int (-v6), .int x1]) (ok := (fun _ => True)) Fc hA Z Lens.all (c_X5_owes l D cI cS am ρ (2 : Int32) x4 (-v6) x1 q8 h9) mL_RX5_126 v_X5_owes ⟨rfl, rfl⟩ ⟨Nat.le_of_ble_eq_true rfl, Nat.le_of_ble_eq_true rfl⟩ ⟨Nat.zero_le _, Nat.zero_le _⟩ 0 5 rfl rfl rfl hl (Nat.le_of_ble_eq_true rfl) dX5_bringsBack_110 rfl (fun H locs ok1 Z => ?_)
      refine lv_aload_n hx hb dX5_bringsBack_113 rfl (lv_at hl 0 rfl) ?_
      refine lv_iconst (v := (0 : Int32)) hx hb dX5_bringsBack_114 (by decide) ?_
      refine lv_iload hx hb dX5_bringsBack_115 (lv_at hl 4 rfl) ?_
      refine lv_aload_n hx hb dX5_bringsBack_117 rfl (lv_at hl 0 rfl) ?_
      refine lv_iload_n hx hb dX5_bringsBack_118 rfl (lv_at hl 1 rfl) ?_
      refine lv_bipush (v := (9 : Int32)) hx hb dX5_bringsBack_119 (by decide) ?_
      obtain ⟨v10, h11, hF⟩ := obind hF
      refine kr_i (As := [.int x1, .int (9 : Int32)]) Fc hA Z Lens.all (c_X5_of l D cI cS am q8 x1 (9 : Int32) v10 h11) mL_RX5_73 v_X5_of ⟨rfl, rfl⟩ ⟨Nat.le_of_ble_eq_true rfl, Nat.le_of_ble_eq_true rfl⟩ ⟨Nat.zero_le _, Nat.zero_le _⟩ 0 5 rfl rfl rfl hl (Nat.le_of_ble_eq_true rfl) dX5_bringsBack_121 rfl (fun H locs Z => ?_)
      refine lv_iload_n hx hb dX5_bringsBack_124 rfl (lv_at hl 1 rfl) ?_
      obtain ⟨q12, h13, hF⟩ := obind hF
      refine kv_i (As := [.int (0 : Int32), .int x4, .int v10, .int x1]) (ok := (fun _ => True)) Fc hA Z Lens.all (c_X5_owes l D cI cS am q8 (0 : Int32) x4 v10 x1 q12 h13) mL_RX5_126 v_X5_owes ⟨rfl, rfl⟩ ⟨Nat.le_of_ble_eq_true rfl, Nat.le_of_ble_eq_true rfl⟩ ⟨Nat.zero_le _, Nat.zero_le _⟩ 0 5 rfl rfl rfl hl (Nat.le_of_ble_eq_true rfl) dX5_bringsBack_125 rfl (fun H locs ok1 Z => ?_)
      exact J128 q12 x1 x2 _ _ _ hF Z (lv_sub hl [0, 1, 2] rfl)
  have J68 : ∀ (ρ : Ms) (x1 : Int32) (x2 : Int32) (x3 : Int32) (x4 : Int32) (H : Heap) (locs : List Loc) (ls : Array Slot), X5_bringsBack_J68 ρ x1 x2 x3 x4 = some F → Ix D A s (mW am cI ρ) H locs → lv_has ls 5 [(0, .ref (am 0)), (1, .int x1), (2, .int x2), (3, .int x3), (4, .int x4)] → W p l e rm_X5_bringsBack s m args below meth c H locs 0 0 Q (F0 m 68 ls []) := by
    intro ρ x1 x2 x3 x4 H locs ls hF Z hl
    unfold X5_bringsBack_J68 at hF
    refine lv_iload_n hx hb dX5_bringsBack_68 rfl (lv_at hl 3 rfl) ?_
    refine lv_iconst (v := (4 : Int32)) hx hb dX5_bringsBack_69 (by decide) ?_
    refine lv_icmp_ne (tgt := 92) hx hb dX5_bringsBack_70 (by decide) (fun c14 => ?_) (fun c14 => ?_)
    · rw [if_neg c14] at hF
      exact J92 ρ x1 x2 x3 x4 _ _ _ hF Z (lv_sub hl [0, 1, 2, 3, 4] rfl)
    · rw [if_pos c14] at hF
      refine lv_aload_n hx hb dX5_bringsBack_73 rfl (lv_at hl 0 rfl) ?_
      refine kget Fc Z inX5 0 rfl rfl 0 (by decide) mF_RX5_11 rfl rfl dX5_bringsBack_74 ?_
      refine lv_sipush (v := (253 : Int32)) hx hb dX5_bringsBack_77 (by decide) ?_
      refine lv_iconst (v := (4 : Int32)) hx hb dX5_bringsBack_80 (by decide) ?_
      refine lv_iload hx hb dX5_bringsBack_81 (lv_at hl 4 rfl) ?_
      refine lv_imul hx hb dX5_bringsBack_83 ?_
      refine lv_iadd hx hb dX5_bringsBack_84 ?_
      refine lv_iconst (v := (1 : Int32)) hx hb dX5_bringsBack_85 (by decide) ?_
      refine lv_iadd hx hb dX5_bringsBack_86 ?_
      refine lv_dup2_11 hx hb dX5_bringsBack_87 rfl rfl ?_
      obtain ⟨v15, h16, hF⟩ := obind hF
      refine kald Fc Z 1 rfl h16 dX5_bringsBack_88 ?_
      refine lv_iconst (v := (1 : Int32)) hx hb dX5_bringsBack_89 (by decide) ?_
      refine lv_isub hx hb dX5_bringsBack_90 ?_
      obtain ⟨g17, h18, hF⟩ := obind hF
      obtain ⟨ρ19, e20, hF⟩ := bnd_el hF
      refine kast (w' := mW am cI ρ19) Fc Z 1 rfl h18 (by rw [e20]; rfl) dX5_bringsBack_91 (fun H locs Z => ?_)
      exact J92 ρ19 x1 x2 x3 x4 _ _ _ hF Z (lv_sub hl [0, 1, 2, 3, 4] rfl)
  have J50 : ∀ (ρ : Ms) (x1 : Int32) (x2 : Int32) (x3 : Int32) (x4 : Int32) (H : Heap) (locs : List Loc) (ls : Array Slot), X5_bringsBack_J50 ρ x1 x2 x3 x4 = some F → Ix D A s (mW am cI ρ) H locs → lv_has ls 5 [(0, .ref (am 0)), (1, .int x1), (2, .int x2), (3, .int x3), (4, .int x4)] → W p l e rm_X5_bringsBack s m args below meth c H locs 0 0 Q (F0 m 50 ls []) := by
    intro ρ x1 x2 x3 x4 H locs ls hF Z hl
    unfold X5_bringsBack_J50 at hF
    refine lv_iload_n hx hb dX5_bringsBack_50 rfl (lv_at hl 3 rfl) ?_
    refine lv_iconst (v := (1 : Int32)) hx hb dX5_bringsBack_51 (by decide) ?_
    refine lv_icmp_ne (tgt := 68) hx hb dX5_bringsBack_52 (by decide) (fun c21 => ?_) (fun c21 => ?_)
    · rw [if_neg c21] at hF
      exact J68 ρ x1 x2 x3 x4 _ _ _ hF Z (lv_sub hl [0, 1, 2, 3, 4] rfl)
    · rw [if_pos c21] at hF
      refine lv_aload_n hx hb dX5_bringsBack_55 rfl (lv_at hl 0 rfl) ?_
      refine lv_iconst (v := (0 : Int32)) hx hb dX5_bringsBack_56 (by decide) ?_
      refine lv_iload hx hb dX5_bringsBack_57 (lv_at hl 4 rfl) ?_
      refine lv_aload_n hx hb dX5_bringsBack_59 rfl (lv_at hl 0 rfl) ?_
      refine lv_iload_n hx hb dX5_bringsBack_60 rfl (lv_at hl 1 rfl) ?_
      obtain ⟨v22, h23, hF⟩ := obind hF
      refine kr_i (As := [.int x1]) Fc hA Z Lens.all (c_X5_late l D cI cS am ρ x1 v22 h23) mL_RX5_123 v_X5_late ⟨rfl, rfl⟩ ⟨Nat.le_of_ble_eq_true rfl, Nat.le_of_ble_eq_true rfl⟩ ⟨Nat.zero_le _, Nat.zero_le _⟩ 0 5 rfl rfl rfl hl (Nat.le_of_ble_eq_true rfl) dX5_bringsBack_61 rfl (fun H locs Z => ?_)
      refine lv_iload_n hx hb dX5_bringsBack_64 rfl (lv_at hl 1 rfl) ?_
      obtain ⟨q24, h25, hF⟩ := obind hF
      refine kv_i (As := [.int (0 : Int32), .int x4, .int v22, .int x1]) (ok := (fun _ => True)) Fc hA Z Lens.all (c_X5_owes l D cI cS am ρ (0 : Int32) x4 v22 x1 q24 h25) mL_RX5_126 v_X5_owes ⟨rfl, rfl⟩ ⟨Nat.le_of_ble_eq_true rfl, Nat.le_of_ble_eq_true rfl⟩ ⟨Nat.zero_le _, Nat.zero_le _⟩ 0 5 rfl rfl rfl hl (Nat.le_of_ble_eq_true rfl) dX5_bringsBack_65 rfl (fun H locs ok1 Z => ?_)
      exact J68 q24 x1 x2 x3 x4 _ _ _ hF Z (lv_sub hl [0, 1, 2, 3, 4] rfl)
  unfold X5_bringsBack at hF
  refine lv_aload_n hx hb dX5_bringsBack_0 rfl (lv_at hl 0 rfl) ?_
  refine lv_iload_n hx hb dX5_bringsBack_1 rfl (lv_at hl 1 rfl) ?_
  obtain ⟨v26, h27, hF⟩ := obind hF
  refine kr_i (As := [.int p1]) Fc hA Z Lens.all (c_X5_isCopy l D cI cS am ρ p1 v26 h27) mL_RX5_113 v_X5_isCopy ⟨rfl, rfl⟩ ⟨Nat.le_of_ble_eq_true rfl, Nat.le_of_ble_eq_true rfl⟩ ⟨Nat.zero_le _, Nat.zero_le _⟩ 0 5 rfl rfl rfl hl (Nat.le_of_ble_eq_true rfl) dX5_bringsBack_2 rfl (fun H locs Z => ?_)
  refine lv_if_eq (tgt := 15) hx hb dX5_bringsBack_5 (by decide) (fun c28 => ?_) (fun c28 => ?_)
  · rw [if_pos c28] at hF
    refine lv_iconst (v := (-1 : Int32)) hx hb dX5_bringsBack_15 (by decide) ?_
    exact kret (-1 : Int32) ρ _ _ _ _ ⟨(pfst (Option.some.inj hF)), psnd (Option.some.inj hF), trivial⟩ Z dX5_bringsBack_16
  · rw [if_neg c28] at hF
    refine lv_iload_n hx hb dX5_bringsBack_8 rfl (lv_at hl 2 rfl) ?_
    refine ks_i (As := [.int p2]) Fc hA Z (c_X5_isBranch l D cI cS p2 (X5_isBranch p2) rfl) mL_RX5_93 v_X5_isBranch ⟨rfl, rfl⟩ ⟨Nat.le_of_ble_eq_true rfl, Nat.le_of_ble_eq_true rfl⟩ ⟨Nat.zero_le _, Nat.zero_le _⟩ rfl hl (Nat.le_of_ble_eq_true rfl) dX5_bringsBack_9 rfl (fun H locs Z => ?_)
    refine lv_if_ne (tgt := 17) hx hb dX5_bringsBack_12 (by decide) (fun c29 => ?_) (fun c29 => ?_)
    · rw [if_neg c29] at hF
      refine lv_aload_n hx hb dX5_bringsBack_17 rfl (lv_at hl 0 rfl) ?_
      refine lv_iload_n hx hb dX5_bringsBack_18 rfl (lv_at hl 1 rfl) ?_
      refine lv_iconst (v := (3 : Int32)) hx hb dX5_bringsBack_19 (by decide) ?_
      obtain ⟨v30, h31, hF⟩ := obind hF
      refine kr_i (As := [.int p1, .int (3 : Int32)]) Fc hA Z Lens.all (c_X5_of l D cI cS am ρ p1 (3 : Int32) v30 h31) mL_RX5_73 v_X5_of ⟨rfl, rfl⟩ ⟨Nat.le_of_ble_eq_true rfl, Nat.le_of_ble_eq_true rfl⟩ ⟨Nat.zero_le _, Nat.zero_le _⟩ 0 5 rfl rfl rfl hl (Nat.le_of_ble_eq_true rfl) dX5_bringsBack_20 rfl (fun H locs Z => ?_)
      refine lv_istore_n (lv' := [(3, .int v30), (0, .ref (am 0)), (1, .int p1), (2, .int p2)]) hx hb dX5_bringsBack_23 rfl hl (by decide) rfl (fun ls hl => ?_)
      refine lv_aload_n hx hb dX5_bringsBack_24 rfl (lv_at hl 1 rfl) ?_
      refine lv_iload_n hx hb dX5_bringsBack_25 rfl (lv_at hl 2 rfl) ?_
      refine lv_iconst (v := (4 : Int32)) hx hb dX5_bringsBack_26 (by decide) ?_
      obtain ⟨v32, h33, hF⟩ := obind hF
      refine kr_i (As := [.int p1, .int (4 : Int32)]) Fc hA Z Lens.all (c_X5_of l D cI cS am ρ p1 (4 : Int32) v32 h33) mL_RX5_73 v_X5_of ⟨rfl, rfl⟩ ⟨Nat.le_of_ble_eq_true rfl, Nat.le_of_ble_eq_true rfl⟩ ⟨Nat.zero_le _, Nat.zero_le _⟩ 0 5 rfl rfl rfl hl (Nat.le_of_ble_eq_true rfl) dX5_bringsBack_27 rfl (fun H locs Z => ?_)
      refine lv_istore (lv' := [(4, .int v32), (3, .int v30), (0, .ref (am 0)), (1, .int p1), (2, .int p2)]) hx hb dX5_bringsBack_30 hl (by decide) rfl (fun ls hl => ?_)
      refine lv_iload_n hx hb dX5_bringsBack_32 rfl (lv_at hl 1 rfl) ?_
      refine lv_iconst (v := (1 : Int32)) hx hb dX5_bringsBack_33 (by decide) ?_
      refine lv_icmp_eq (tgt := 50) hx hb dX5_bringsBack_34 (by decide) (fun c34 => ?_) (fun c34 => ?_)
      · rw [if_pos c34] at hF
        exact J50 ρ p1 p2 v30 v32 _ _ _ hF Z (lv_sub hl [2, 3, 4, 1, 0] rfl)
      · rw [if_neg c34] at hF
        refine lv_iload_n hx hb dX5_bringsBack_37 rfl (lv_at hl 1 rfl) ?_
        refine lv_iconst (v := (4 : Int32)) hx hb dX5_bringsBack_38 (by decide) ?_
        refine lv_icmp_eq (tgt := 50) hx hb dX5_bringsBack_39 (by decide) (fun c35 => ?_) (fun c35 => ?_)
        · rw [if_pos c35] at hF
          exact J50 ρ p1 p2 v30 v32 _ _ _ hF Z (lv_sub hl [2, 3, 4, 1, 0] rfl)
        · rw [if_neg c35] at hF
          refine lv_iload_n hx hb dX5_bringsBack_42 rfl (lv_at hl 1 rfl) ?_
          refine lv_iconst (v := (5 : Int32)) hx hb dX5_bringsBack_43 (by decide) ?_
          refine lv_icmp_eq (tgt := 50) hx hb dX5_bringsBack_44 (by decide) (fun c36 => ?_) (fun c36 => ?_)
          · rw [if_pos c36] at hF
            exact J50 ρ p1 p2 v30 v32 _ _ _ hF Z (lv_sub hl [2, 3, 4, 1, 0] rfl)
          · rw [if_neg c36] at hF
            refine lv_bipush (v := (-2 : Int32)) hx hb dX5_bringsBack_47 (by decide) ?_
            exact kret (-2 : Int32) ρ _ _ _ _ ⟨(pfst (Option.some.inj hF)), psnd (Option.some.inj hF), trivial⟩ Z dX5_bringsBack_49
    · rw [if_pos c29] at hF
      refine lv_iconst (v := (-1 : Int32)) hx hb dX5_bringsBack_15 (by decide) ?_
      exact kret (-1 : Int32) ρ _ _ _ _ ⟨(pfst (Option.some.inj hF)), psnd (Option.some.inj hF), trivial⟩ Z dX5_bringsBack_16
def X5_bringBack (ρ : Ms) (p1 p2 : Int32) : Option (Int32 × Ms) := (X5_keeps ρ).bind fun q1 => (X5_bringsBack q1 p1 p2).bind fun q3 => (X5_made q3.2 q3.1).bind fun q5 => some (q5.1, q5.2)
def rm_X5_bringBack : Room := { frames := 5, cells := 0, slots := 0, locals := 119 }
theorem v_X5_bringBack : WdV RX5 yX5_bringBack cX5_bringBack 3 (some .int) 2 := ⟨mI_X5_bringBack, mS_X5_bringBack, mZ_RX5, mC_X5_bringBack, by decide +kernel⟩
set_option maxHeartbeats 8000000 in
set_option maxRecDepth 100000 in
theorem c_X5_bringBack (l : Launch) (D : va_G) (cI cS : ClassId) (am : Nat → Nat) (ρ : Ms) (p1 p2 : Int32) (F : Int32 × Ms) (hF : X5_bringBack ρ p1 p2 = some F) : MI l yX5_bringBack cX5_bringBack 3 (some .int) rm_X5_bringBack D cI cS [.ref (am 0), .int p1, .int p2] (mW am cI ρ) (mW am cI) (fun r u => r = F.1 ∧ u = F.2 ∧ True) := by
  refine MI.mk RX5 rfl .int rfl (by decide) (Nat.le_of_ble_eq_true rfl) (fun _ _ _ => rfl) ?_
  intro p e s m args below meth c A Q ls Fc hin hA Z kret hl
  obtain ⟨hx, hb, hml, hown, hts, hKN⟩ := id Fc
  replace hl : lv_has ls 3 [(0, .ref (am 0)), (1, .int p1), (2, .int p2)] := hl
  unfold X5_bringBack at hF
  refine lv_aload_n hx hb dX5_bringBack_0 rfl (lv_at hl 0 rfl) ?_
  obtain ⟨q1, h2, hF⟩ := obind hF
  refine kv_i (As := []) (ok := (fun _ => True)) Fc hA Z Lens.all (c_X5_keeps l D cI cS am ρ  q1 h2) mL_RX5_96 v_X5_keeps ⟨rfl, rfl⟩ ⟨Nat.le_of_ble_eq_true rfl, Nat.le_of_ble_eq_true rfl⟩ ⟨Nat.zero_le _, Nat.zero_le _⟩ 0 5 rfl rfl rfl hl (Nat.le_of_ble_eq_true rfl) dX5_bringBack_1 rfl (fun H locs ok1 Z => ?_)
  refine lv_aload_n hx hb dX5_bringBack_4 rfl (lv_at hl 0 rfl) ?_
  refine lv_aload_n hx hb dX5_bringBack_5 rfl (lv_at hl 0 rfl) ?_
  refine lv_iload_n hx hb dX5_bringBack_6 rfl (lv_at hl 1 rfl) ?_
  refine lv_iload_n hx hb dX5_bringBack_7 rfl (lv_at hl 2 rfl) ?_
  obtain ⟨q3, h4, hF⟩ := obind hF
  refine km_i (As := [.int p1, .int p2]) (ok := (fun _ => True)) Fc hA Z Lens.all (c_X5_bringsBack l D cI cS am q1 p1 p2 q3 h4) mL_RX5_156 v_X5_bringsBack ⟨rfl, rfl⟩ ⟨Nat.le_of_ble_eq_true rfl, Nat.le_of_ble_eq_true rfl⟩ ⟨Nat.zero_le _, Nat.zero_le _⟩ 0 5 rfl rfl rfl hl (Nat.le_of_ble_eq_true rfl) dX5_bringBack_8 rfl (fun H locs ok1 Z => ?_)
  obtain ⟨q5, h6, hF⟩ := obind hF
  refine km_i (As := [.int q3.1]) (ok := (fun _ => True)) Fc hA Z Lens.all (c_X5_made l D cI cS am q3.2 q3.1 q5 h6) mL_RX5_103 v_X5_made ⟨rfl, rfl⟩ ⟨Nat.le_of_ble_eq_true rfl, Nat.le_of_ble_eq_true rfl⟩ ⟨Nat.zero_le _, Nat.zero_le _⟩ 0 5 rfl rfl rfl hl (Nat.le_of_ble_eq_true rfl) dX5_bringBack_11 rfl (fun H locs ok1 Z => ?_)
  exact kret q5.1 q5.2 _ _ _ _ ⟨(pfst (Option.some.inj hF)), psnd (Option.some.inj hF), trivial⟩ Z dX5_bringBack_14
def X5_holds_L4 (ρ : Ms) (x1 : Int32) : Nat → Int32 → Int32 → Option (Int32)
  | 0, _, _ => none
  | k + 1, x2, x3 => (rdA (ρ.1.1 0) 681 (3 : Int32)).bind fun v1 => if v1 ≤ x3 then (some x2) else if x1 < 0 then (X5_holds_L4 ρ x1 k ((x2 + (1 : Int32))) ((x3 + (1 : Int32)))) else (X5_hold ρ x3 (0 : Int32)).bind fun v5 => if v5 = x1 then (X5_holds_L4 ρ x1 k ((x2 + (1 : Int32))) ((x3 + (1 : Int32)))) else X5_holds_L4 ρ x1 k ((x2 + (0 : Int32))) ((x3 + (1 : Int32)))
def X5_holds (ρ : Ms) (p1 : Int32) : Option (Int32) := X5_holds_L4 ρ p1 FU (0 : Int32) (0 : Int32)
def rm_X5_holds : Room := { frames := 1, cells := 0, slots := 0, locals := 22 }
theorem v_X5_holds : WdV RX5 yX5_holds cX5_holds 4 (some .int) 1 := ⟨mI_X5_holds, mS_X5_holds, mZ_RX5, mC_X5_holds, by decide +kernel⟩
set_option maxHeartbeats 8000000 in
set_option maxRecDepth 100000 in
theorem c_X5_holds (l : Launch) (D : va_G) (cI cS : ClassId) (am : Nat → Nat) (ρ : Ms) (p1 : Int32) (F : Int32) (hF : X5_holds ρ p1 = some F) : MI l yX5_holds cX5_holds 4 (some .int) rm_X5_holds D cI cS [.ref (am 0), .int p1] (mW am cI ρ) (mW am cI) (fun r u' => r = F ∧ u' = ρ) := by
  refine MI.mk RX5 rfl .int rfl (by decide) (Nat.le_of_ble_eq_true rfl) (fun _ _ _ => rfl) ?_
  intro p e s m args below meth c A Q ls Fc hin hA Z kret hl
  obtain ⟨hx, hb, hml, hown, hts, hKN⟩ := id Fc
  replace hl : lv_has ls 4 [(0, .ref (am 0)), (1, .int p1)] := hl
  have L4 : ∀ (x1 : Int32) (k : Nat) (x2 : Int32) (x3 : Int32) (H : Heap) (locs : List Loc) (ls : Array Slot), X5_holds_L4 ρ x1  k x2 x3 = some F → Ix D A s (mW am cI ρ) H locs → lv_has ls 4 [(0, .ref (am 0)), (1, .int x1), (2, .int x2), (3, .int x3)] → W p l e rm_X5_holds s m args below meth c H locs 0 0 Q (F0 m 4 ls []) := by
    intro x1 k
    induction k with
    | zero => intro x2 x3 H locs ls hF; rw [X5_holds_L4] at hF; cases hF
    | succ k ih =>
      intro x2 x3 H locs ls hF Z hl
      rw [X5_holds_L4] at hF
      refine lv_iload_n hx hb dX5_holds_4 rfl (lv_at hl 3 rfl) ?_
      refine lv_aload_n hx hb dX5_holds_5 rfl (lv_at hl 0 rfl) ?_
      refine kget Fc Z inX5 0 rfl rfl 0 (by decide) mF_RX5_11 rfl rfl dX5_holds_6 ?_
      refine lv_iconst (v := (3 : Int32)) hx hb dX5_holds_9 (by decide) ?_
      obtain ⟨v1, h2, hF⟩ := obind hF
      refine kald Fc Z 1 rfl h2 dX5_holds_10 ?_
      refine lv_icmp_ge (tgt := 42) hx hb dX5_holds_11 (by decide) (fun c3 => ?_) (fun c3 => ?_)
      · rw [if_pos c3] at hF
        refine lv_iload_n hx hb dX5_holds_42 rfl (lv_at hl 2 rfl) ?_
        exact kret x2 ρ _ _ _ _ ⟨(Option.some.inj hF), rfl⟩ Z dX5_holds_43
      · rw [if_neg c3] at hF
        refine lv_iload_n hx hb dX5_holds_14 rfl (lv_at hl 2 rfl) ?_
        refine lv_iload_n hx hb dX5_holds_15 rfl (lv_at hl 1 rfl) ?_
        refine lv_if_lt (tgt := 29) hx hb dX5_holds_16 (by decide) (fun c4 => ?_) (fun c4 => ?_)
        · rw [if_pos c4] at hF
          refine lv_iconst (v := (1 : Int32)) hx hb dX5_holds_29 (by decide) ?_
          refine lv_goto (tgt := 34) hx hb dX5_holds_30 (by decide) ?_
          refine lv_iadd hx hb dX5_holds_34 ?_
          refine lv_istore_n (lv' := [(2, .int (x2 + (1 : Int32))), (0, .ref (am 0)), (1, .int x1), (3, .int x3)]) hx hb dX5_holds_35 rfl hl (by decide) rfl (fun ls hl => ?_)
          refine lv_iinc (v := (x3 + (1 : Int32))) (lv' := [(3, .int (x3 + (1 : Int32))), (2, .int (x2 + (1 : Int32))), (0, .ref (am 0)), (1, .int x1)]) hx hb dX5_holds_36 hl (k := 3) rfl (by rfl) (by decide) rfl (fun ls hl => ?_)
          refine lv_goto (tgt := 4) hx hb dX5_holds_39 (by decide) ?_
          exact ih ((x2 + (1 : Int32))) ((x3 + (1 : Int32))) _ _ _ hF Z (lv_sub hl [2, 3, 1, 0] rfl)
        · rw [if_neg c4] at hF
          refine lv_aload_n hx hb dX5_holds_19 rfl (lv_at hl 0 rfl) ?_
          refine lv_iload_n hx hb dX5_holds_20 rfl (lv_at hl 3 rfl) ?_
          refine lv_iconst (v := (0 : Int32)) hx hb dX5_holds_21 (by decide) ?_
          obtain ⟨v5, h6, hF⟩ := obind hF
          refine kr_i (As := [.int x3, .int (0 : Int32)]) Fc hA Z Lens.all (c_X5_hold l D cI cS am ρ x3 (0 : Int32) v5 h6) mL_RX5_59 v_X5_hold ⟨rfl, rfl⟩ ⟨Nat.le_of_ble_eq_true rfl, Nat.le_of_ble_eq_true rfl⟩ ⟨Nat.zero_le _, Nat.zero_le _⟩ 0 5 rfl rfl rfl hl (Nat.le_of_ble_eq_true rfl) dX5_holds_22 rfl (fun H locs Z => ?_)
          refine lv_iload_n hx hb dX5_holds_25 rfl (lv_at hl 1 rfl) ?_
          refine lv_icmp_ne (tgt := 33) hx hb dX5_holds_26 (by decide) (fun c7 => ?_) (fun c7 => ?_)
          · rw [if_neg c7] at hF
            refine lv_iconst (v := (0 : Int32)) hx hb dX5_holds_33 (by decide) ?_
            refine lv_iadd hx hb dX5_holds_34 ?_
            refine lv_istore_n (lv' := [(2, .int (x2 + (0 : Int32))), (0, .ref (am 0)), (1, .int x1), (3, .int x3)]) hx hb dX5_holds_35 rfl hl (by decide) rfl (fun ls hl => ?_)
            refine lv_iinc (v := (x3 + (1 : Int32))) (lv' := [(3, .int (x3 + (1 : Int32))), (2, .int (x2 + (0 : Int32))), (0, .ref (am 0)), (1, .int x1)]) hx hb dX5_holds_36 hl (k := 3) rfl (by rfl) (by decide) rfl (fun ls hl => ?_)
            refine lv_goto (tgt := 4) hx hb dX5_holds_39 (by decide) ?_
            exact ih ((x2 + (0 : Int32))) ((x3 + (1 : Int32))) _ _ _ hF Z (lv_sub hl [2, 3, 1, 0] rfl)
          · rw [if_pos c7] at hF
            refine lv_iconst (v := (1 : Int32)) hx hb dX5_holds_29 (by decide) ?_
            refine lv_goto (tgt := 34) hx hb dX5_holds_30 (by decide) ?_
            refine lv_iadd hx hb dX5_holds_34 ?_
            refine lv_istore_n (lv' := [(2, .int (x2 + (1 : Int32))), (0, .ref (am 0)), (1, .int x1), (3, .int x3)]) hx hb dX5_holds_35 rfl hl (by decide) rfl (fun ls hl => ?_)
            refine lv_iinc (v := (x3 + (1 : Int32))) (lv' := [(3, .int (x3 + (1 : Int32))), (2, .int (x2 + (1 : Int32))), (0, .ref (am 0)), (1, .int x1)]) hx hb dX5_holds_36 hl (k := 3) rfl (by rfl) (by decide) rfl (fun ls hl => ?_)
            refine lv_goto (tgt := 4) hx hb dX5_holds_39 (by decide) ?_
            exact ih ((x2 + (1 : Int32))) ((x3 + (1 : Int32))) _ _ _ hF Z (lv_sub hl [2, 3, 1, 0] rfl)
  unfold X5_holds at hF
  refine lv_iconst (v := (0 : Int32)) hx hb dX5_holds_0 (by decide) ?_
  refine lv_istore_n (lv' := [(2, .int (0 : Int32)), (0, .ref (am 0)), (1, .int p1)]) hx hb dX5_holds_1 rfl hl (by decide) rfl (fun ls hl => ?_)
  refine lv_iconst (v := (0 : Int32)) hx hb dX5_holds_2 (by decide) ?_
  refine lv_istore_n (lv' := [(3, .int (0 : Int32)), (2, .int (0 : Int32)), (0, .ref (am 0)), (1, .int p1)]) hx hb dX5_holds_3 rfl hl (by decide) rfl (fun ls hl => ?_)
  exact L4 p1 FU (0 : Int32) (0 : Int32) _ _ _ hF Z (lv_sub hl [2, 3, 1, 0] rfl)
def X5_removes_L8 : Nat → Int32 → Ms → Option (Ms)
  | 0, _, _ => none
  | k + 1, x2, ρ => if (381 : Int32) ≤ (x2 + (4 : Int32)) then ((rdA (ρ.1.1 0) 681 (3 : Int32)).bind fun v2 => (wrA (ρ.1.1 0) 681 (3 : Int32) ((v2 - (1 : Int32)))).bind fun g4 => bnd (msA ρ 0 g4) fun ρ6 => some ρ6) else (rdA (ρ.1.1 0) 681 ((x2 + (4 : Int32)))).bind fun v8 => (wrA (ρ.1.1 0) 681 x2 v8).bind fun g10 => bnd (msA ρ 0 g10) fun ρ12 => X5_removes_L8 k ((x2 + (1 : Int32))) ρ12
def X5_removes (ρ : Ms) (p1 : Int32) : Option (Ms) := X5_removes_L8 FU (((285 : Int32) + ((4 : Int32) * p1))) ρ
def rm_X5_removes : Room := { frames := 0, cells := 0, slots := 0, locals := 0 }
theorem v_X5_removes : WdV RX5 yX5_removes cX5_removes 3 none 1 := ⟨mI_X5_removes, mS_X5_removes, mZ_RX5, mC_X5_removes, by decide +kernel⟩
set_option maxHeartbeats 8000000 in
set_option maxRecDepth 100000 in
theorem c_X5_removes (l : Launch) (D : va_G) (cI cS : ClassId) (am : Nat → Nat) (ρ : Ms) (p1 : Int32) (F : Ms) (hF : X5_removes ρ p1 = some F) : MV l yX5_removes cX5_removes 3 rm_X5_removes D cI cS [.ref (am 0), .int p1] (mW am cI ρ) (mW am cI) (fun u => u = F ∧ True) := by
  refine MV.mk RX5 rfl (by decide) (Nat.le_of_ble_eq_true rfl) ?_
  intro p e s m args below meth c A Q ls Fc hin hA Z kret hl
  obtain ⟨hx, hb, hml, hown, hts, hKN⟩ := id Fc
  replace hl : lv_has ls 3 [(0, .ref (am 0)), (1, .int p1)] := hl
  have L8 : ∀ (k : Nat) (x2 : Int32) (ρ : Ms) (H : Heap) (locs : List Loc) (ls : Array Slot), X5_removes_L8  k x2 ρ = some F → Ix D A s (mW am cI ρ) H locs → lv_has ls 3 [(0, .ref (am 0)), (2, .int x2)] → W p l e rm_X5_removes s m args below meth c H locs 0 0 Q (F0 m 8 ls []) := by
    intro k
    induction k with
    | zero => intro x2 ρ H locs ls hF; rw [X5_removes_L8] at hF; cases hF
    | succ k ih =>
      intro x2 ρ H locs ls hF Z hl
      rw [X5_removes_L8] at hF
      refine lv_iload_n hx hb dX5_removes_8 rfl (lv_at hl 1 rfl) ?_
      refine lv_iconst (v := (4 : Int32)) hx hb dX5_removes_9 (by decide) ?_
      refine lv_iadd hx hb dX5_removes_10 ?_
      refine lv_sipush (v := (381 : Int32)) hx hb dX5_removes_11 (by decide) ?_
      refine lv_icmp_ge (tgt := 37) hx hb dX5_removes_14 (by decide) (fun c1 => ?_) (fun c1 => ?_)
      · rw [if_pos c1] at hF
        refine lv_aload_n hx hb dX5_removes_37 rfl (lv_at hl 0 rfl) ?_
        refine kget Fc Z inX5 0 rfl rfl 0 (by decide) mF_RX5_11 rfl rfl dX5_removes_38 ?_
        refine lv_iconst (v := (3 : Int32)) hx hb dX5_removes_41 (by decide) ?_
        refine lv_dup2_11 hx hb dX5_removes_42 rfl rfl ?_
        obtain ⟨v2, h3, hF⟩ := obind hF
        refine kald Fc Z 1 rfl h3 dX5_removes_43 ?_
        refine lv_iconst (v := (1 : Int32)) hx hb dX5_removes_44 (by decide) ?_
        refine lv_isub hx hb dX5_removes_45 ?_
        obtain ⟨g4, h5, hF⟩ := obind hF
        obtain ⟨ρ6, e7, hF⟩ := bnd_el hF
        refine kast (w' := mW am cI ρ6) Fc Z 1 rfl h5 (by rw [e7]; rfl) dX5_removes_46 (fun H locs Z => ?_)
        exact kret ρ6 _ _ _ _ ⟨(Option.some.inj hF), trivial⟩ Z dX5_removes_47
      · rw [if_neg c1] at hF
        refine lv_aload_n hx hb dX5_removes_17 rfl (lv_at hl 0 rfl) ?_
        refine kget Fc Z inX5 0 rfl rfl 0 (by decide) mF_RX5_11 rfl rfl dX5_removes_18 ?_
        refine lv_iload_n hx hb dX5_removes_21 rfl (lv_at hl 1 rfl) ?_
        refine lv_aload_n hx hb dX5_removes_22 rfl (lv_at hl 0 rfl) ?_
        refine kget Fc Z inX5 0 rfl rfl 0 (by decide) mF_RX5_11 rfl rfl dX5_removes_23 ?_
        refine lv_iload_n hx hb dX5_removes_26 rfl (lv_at hl 1 rfl) ?_
        refine lv_iconst (v := (4 : Int32)) hx hb dX5_removes_27 (by decide) ?_
        refine lv_iadd hx hb dX5_removes_28 ?_
        obtain ⟨v8, h9, hF⟩ := obind hF
        refine kald Fc Z 1 rfl h9 dX5_removes_29 ?_
        obtain ⟨g10, h11, hF⟩ := obind hF
        obtain ⟨ρ12, e13, hF⟩ := bnd_el hF
        refine kast (w' := mW am cI ρ12) Fc Z 1 rfl h11 (by rw [e13]; rfl) dX5_removes_30 (fun H locs Z => ?_)
        refine lv_iinc (v := (x2 + (1 : Int32))) (lv' := [(2, .int (x2 + (1 : Int32))), (0, .ref (am 0))]) hx hb dX5_removes_31 hl (k := 1) rfl (by rfl) (by decide) rfl (fun ls hl => ?_)
        refine lv_goto (tgt := 8) hx hb dX5_removes_34 (by decide) ?_
        exact ih ((x2 + (1 : Int32))) ρ12 _ _ _ hF Z (lv_sub hl [1, 0] rfl)
  unfold X5_removes at hF
  refine lv_sipush (v := (285 : Int32)) hx hb dX5_removes_0 (by decide) ?_
  refine lv_iconst (v := (4 : Int32)) hx hb dX5_removes_3 (by decide) ?_
  refine lv_iload_n hx hb dX5_removes_4 rfl (lv_at hl 1 rfl) ?_
  refine lv_imul hx hb dX5_removes_5 ?_
  refine lv_iadd hx hb dX5_removes_6 ?_
  refine lv_istore_n (lv' := [(2, .int ((285 : Int32) + ((4 : Int32) * p1))), (0, .ref (am 0)), (1, .int p1)]) hx hb dX5_removes_7 rfl hl (by decide) rfl (fun ls hl => ?_)
  exact L8  FU (((285 : Int32) + ((4 : Int32) * p1))) ρ _ _ _ hF Z (lv_sub hl [1, 0] rfl)
def X5_holdBy_L2 (ρ : Ms) (x1 : Int32) (x2 : Int32) : Nat → Int32 → Option (Int32)
  | 0, _ => none
  | k + 1, x3 => (rdA (ρ.1.1 0) 681 (3 : Int32)).bind fun v1 => if v1 ≤ x3 then (some (-2 : Int32)) else (X5_hold ρ x3 (0 : Int32)).bind fun v4 => if v4 = x2 then ((X5_hold ρ x3 (1 : Int32)).bind fun v7 => if v7 = x1 then (some x3) else X5_holdBy_L2 ρ x1 x2 k ((x3 + (1 : Int32)))) else X5_holdBy_L2 ρ x1 x2 k ((x3 + (1 : Int32)))
def X5_holdBy (ρ : Ms) (p1 p2 : Int32) : Option (Int32) := X5_holdBy_L2 ρ p1 p2 FU (0 : Int32)
def rm_X5_holdBy : Room := { frames := 1, cells := 0, slots := 0, locals := 22 }
theorem v_X5_holdBy : WdV RX5 yX5_holdBy cX5_holdBy 4 (some .int) 2 := ⟨mI_X5_holdBy, mS_X5_holdBy, mZ_RX5, mC_X5_holdBy, by decide +kernel⟩
set_option maxHeartbeats 8000000 in
set_option maxRecDepth 100000 in
theorem c_X5_holdBy (l : Launch) (D : va_G) (cI cS : ClassId) (am : Nat → Nat) (ρ : Ms) (p1 p2 : Int32) (F : Int32) (hF : X5_holdBy ρ p1 p2 = some F) : MI l yX5_holdBy cX5_holdBy 4 (some .int) rm_X5_holdBy D cI cS [.ref (am 0), .int p1, .int p2] (mW am cI ρ) (mW am cI) (fun r u' => r = F ∧ u' = ρ) := by
  refine MI.mk RX5 rfl .int rfl (by decide) (Nat.le_of_ble_eq_true rfl) (fun _ _ _ => rfl) ?_
  intro p e s m args below meth c A Q ls Fc hin hA Z kret hl
  obtain ⟨hx, hb, hml, hown, hts, hKN⟩ := id Fc
  replace hl : lv_has ls 4 [(0, .ref (am 0)), (1, .int p1), (2, .int p2)] := hl
  have L2 : ∀ (x1 : Int32) (x2 : Int32) (k : Nat) (x3 : Int32) (H : Heap) (locs : List Loc) (ls : Array Slot), X5_holdBy_L2 ρ x1 x2  k x3 = some F → Ix D A s (mW am cI ρ) H locs → lv_has ls 4 [(0, .ref (am 0)), (1, .int x1), (2, .int x2), (3, .int x3)] → W p l e rm_X5_holdBy s m args below meth c H locs 0 0 Q (F0 m 2 ls []) := by
    intro x1 x2 k
    induction k with
    | zero => intro x3 H locs ls hF; rw [X5_holdBy_L2] at hF; cases hF
    | succ k ih =>
      intro x3 H locs ls hF Z hl
      rw [X5_holdBy_L2] at hF
      refine lv_iload_n hx hb dX5_holdBy_2 rfl (lv_at hl 3 rfl) ?_
      refine lv_aload_n hx hb dX5_holdBy_3 rfl (lv_at hl 0 rfl) ?_
      refine kget Fc Z inX5 0 rfl rfl 0 (by decide) mF_RX5_11 rfl rfl dX5_holdBy_4 ?_
      refine lv_iconst (v := (3 : Int32)) hx hb dX5_holdBy_7 (by decide) ?_
      obtain ⟨v1, h2, hF⟩ := obind hF
      refine kald Fc Z 1 rfl h2 dX5_holdBy_8 ?_
      refine lv_icmp_ge (tgt := 40) hx hb dX5_holdBy_9 (by decide) (fun c3 => ?_) (fun c3 => ?_)
      · rw [if_pos c3] at hF
        refine lv_bipush (v := (-2 : Int32)) hx hb dX5_holdBy_40 (by decide) ?_
        exact kret (-2 : Int32) ρ _ _ _ _ ⟨(Option.some.inj hF), rfl⟩ Z dX5_holdBy_42
      · rw [if_neg c3] at hF
        refine lv_aload_n hx hb dX5_holdBy_12 rfl (lv_at hl 0 rfl) ?_
        refine lv_iload_n hx hb dX5_holdBy_13 rfl (lv_at hl 3 rfl) ?_
        refine lv_iconst (v := (0 : Int32)) hx hb dX5_holdBy_14 (by decide) ?_
        obtain ⟨v4, h5, hF⟩ := obind hF
        refine kr_i (As := [.int x3, .int (0 : Int32)]) Fc hA Z Lens.all (c_X5_hold l D cI cS am ρ x3 (0 : Int32) v4 h5) mL_RX5_59 v_X5_hold ⟨rfl, rfl⟩ ⟨Nat.le_of_ble_eq_true rfl, Nat.le_of_ble_eq_true rfl⟩ ⟨Nat.zero_le _, Nat.zero_le _⟩ 0 5 rfl rfl rfl hl (Nat.le_of_ble_eq_true rfl) dX5_holdBy_15 rfl (fun H locs Z => ?_)
        refine lv_iload_n hx hb dX5_holdBy_18 rfl (lv_at hl 2 rfl) ?_
        refine lv_icmp_ne (tgt := 34) hx hb dX5_holdBy_19 (by decide) (fun c6 => ?_) (fun c6 => ?_)
        · rw [if_neg c6] at hF
          refine lv_iinc (v := (x3 + (1 : Int32))) (lv' := [(3, .int (x3 + (1 : Int32))), (0, .ref (am 0)), (1, .int x1), (2, .int x2)]) hx hb dX5_holdBy_34 hl (k := 3) rfl (by rfl) (by decide) rfl (fun ls hl => ?_)
          refine lv_goto (tgt := 2) hx hb dX5_holdBy_37 (by decide) ?_
          exact ih ((x3 + (1 : Int32))) _ _ _ hF Z (lv_sub hl [1, 2, 3, 0] rfl)
        · rw [if_pos c6] at hF
          refine lv_aload_n hx hb dX5_holdBy_22 rfl (lv_at hl 0 rfl) ?_
          refine lv_iload_n hx hb dX5_holdBy_23 rfl (lv_at hl 3 rfl) ?_
          refine lv_iconst (v := (1 : Int32)) hx hb dX5_holdBy_24 (by decide) ?_
          obtain ⟨v7, h8, hF⟩ := obind hF
          refine kr_i (As := [.int x3, .int (1 : Int32)]) Fc hA Z Lens.all (c_X5_hold l D cI cS am ρ x3 (1 : Int32) v7 h8) mL_RX5_59 v_X5_hold ⟨rfl, rfl⟩ ⟨Nat.le_of_ble_eq_true rfl, Nat.le_of_ble_eq_true rfl⟩ ⟨Nat.zero_le _, Nat.zero_le _⟩ 0 5 rfl rfl rfl hl (Nat.le_of_ble_eq_true rfl) dX5_holdBy_25 rfl (fun H locs Z => ?_)
          refine lv_iload_n hx hb dX5_holdBy_28 rfl (lv_at hl 1 rfl) ?_
          refine lv_icmp_ne (tgt := 34) hx hb dX5_holdBy_29 (by decide) (fun c9 => ?_) (fun c9 => ?_)
          · rw [if_neg c9] at hF
            refine lv_iinc (v := (x3 + (1 : Int32))) (lv' := [(3, .int (x3 + (1 : Int32))), (0, .ref (am 0)), (1, .int x1), (2, .int x2)]) hx hb dX5_holdBy_34 hl (k := 3) rfl (by rfl) (by decide) rfl (fun ls hl => ?_)
            refine lv_goto (tgt := 2) hx hb dX5_holdBy_37 (by decide) ?_
            exact ih ((x3 + (1 : Int32))) _ _ _ hF Z (lv_sub hl [1, 2, 3, 0] rfl)
          · rw [if_pos c9] at hF
            refine lv_iload_n hx hb dX5_holdBy_32 rfl (lv_at hl 3 rfl) ?_
            exact kret x3 ρ _ _ _ _ ⟨(Option.some.inj hF), rfl⟩ Z dX5_holdBy_33
  unfold X5_holdBy at hF
  refine lv_iconst (v := (0 : Int32)) hx hb dX5_holdBy_0 (by decide) ?_
  refine lv_istore_n (lv' := [(3, .int (0 : Int32)), (0, .ref (am 0)), (1, .int p1), (2, .int p2)]) hx hb dX5_holdBy_1 rfl hl (by decide) rfl (fun ls hl => ?_)
  exact L2 p1 p2 FU (0 : Int32) _ _ _ hF Z (lv_sub hl [1, 2, 3, 0] rfl)
def X5_cancels (ρ : Ms) (p1 p2 : Int32) : Option (Int32 × Ms) := (X5_isPatron ρ p1).bind fun v1 => if (bi v1) = 0 then (some (((-1 : Int32), ρ))) else if (bi (X5_isTitle p2)) = 0 then (some (((-1 : Int32), ρ))) else (X5_holdBy ρ p1 p2).bind fun v5 => if 0 ≤ v5 then ((X5_hold ρ v5 (3 : Int32)).bind fun v8 => (X5_removes ρ v5).bind fun q10 => if v8 < 0 then ((X5_holds q10 p2).bind fun v13 => some (v13, q10)) else (X5_of q10 v8 (3 : Int32)).bind fun v15 => if v15 = (3 : Int32) then ((X5_of q10 v8 (4 : Int32)).bind fun v20 => (X5_frees q10 v8 v20).bind fun q22 => (X5_holds q22 p2).bind fun v24 => some (v24, q22)) else (X5_holds q10 p2).bind fun v18 => some (v18, q10)) else some (((-2 : Int32), ρ))
def rm_X5_cancels : Room := { frames := 4, cells := 0, slots := 0, locals := 95 }
theorem v_X5_cancels : WdV RX5 yX5_cancels cX5_cancels 5 (some .int) 2 := ⟨mI_X5_cancels, mS_X5_cancels, mZ_RX5, mC_X5_cancels, by decide +kernel⟩
set_option maxHeartbeats 8000000 in
set_option maxRecDepth 100000 in
theorem c_X5_cancels (l : Launch) (D : va_G) (cI cS : ClassId) (am : Nat → Nat) (ρ : Ms) (p1 p2 : Int32) (F : Int32 × Ms) (hF : X5_cancels ρ p1 p2 = some F) : MI l yX5_cancels cX5_cancels 5 (some .int) rm_X5_cancels D cI cS [.ref (am 0), .int p1, .int p2] (mW am cI ρ) (mW am cI) (fun r u => r = F.1 ∧ u = F.2 ∧ True) := by
  refine MI.mk RX5 rfl .int rfl (by decide) (Nat.le_of_ble_eq_true rfl) (fun _ _ _ => rfl) ?_
  intro p e s m args below meth c A Q ls Fc hin hA Z kret hl
  obtain ⟨hx, hb, hml, hown, hts, hKN⟩ := id Fc
  replace hl : lv_has ls 5 [(0, .ref (am 0)), (1, .int p1), (2, .int p2)] := hl
  unfold X5_cancels at hF
  refine lv_aload_n hx hb dX5_cancels_0 rfl (lv_at hl 0 rfl) ?_
  refine lv_iload_n hx hb dX5_cancels_1 rfl (lv_at hl 1 rfl) ?_
  obtain ⟨v1, h2, hF⟩ := obind hF
  refine kr_i (As := [.int p1]) Fc hA Z Lens.all (c_X5_isPatron l D cI cS am ρ p1 v1 h2) mL_RX5_147 v_X5_isPatron ⟨rfl, rfl⟩ ⟨Nat.le_of_ble_eq_true rfl, Nat.le_of_ble_eq_true rfl⟩ ⟨Nat.zero_le _, Nat.zero_le _⟩ 0 5 rfl rfl rfl hl (Nat.le_of_ble_eq_true rfl) dX5_cancels_2 rfl (fun H locs Z => ?_)
  refine lv_if_eq (tgt := 15) hx hb dX5_cancels_5 (by decide) (fun c3 => ?_) (fun c3 => ?_)
  · rw [if_pos c3] at hF
    refine lv_iconst (v := (-1 : Int32)) hx hb dX5_cancels_15 (by decide) ?_
    exact kret (-1 : Int32) ρ _ _ _ _ ⟨(pfst (Option.some.inj hF)), psnd (Option.some.inj hF), trivial⟩ Z dX5_cancels_16
  · rw [if_neg c3] at hF
    refine lv_iload_n hx hb dX5_cancels_8 rfl (lv_at hl 2 rfl) ?_
    refine ks_i (As := [.int p2]) Fc hA Z (c_X5_isTitle l D cI cS p2 (X5_isTitle p2) rfl) mL_RX5_89 v_X5_isTitle ⟨rfl, rfl⟩ ⟨Nat.le_of_ble_eq_true rfl, Nat.le_of_ble_eq_true rfl⟩ ⟨Nat.zero_le _, Nat.zero_le _⟩ rfl hl (Nat.le_of_ble_eq_true rfl) dX5_cancels_9 rfl (fun H locs Z => ?_)
    refine lv_if_ne (tgt := 17) hx hb dX5_cancels_12 (by decide) (fun c4 => ?_) (fun c4 => ?_)
    · rw [if_neg c4] at hF
      refine lv_aload_n hx hb dX5_cancels_17 rfl (lv_at hl 0 rfl) ?_
      refine lv_iload_n hx hb dX5_cancels_18 rfl (lv_at hl 1 rfl) ?_
      refine lv_iload_n hx hb dX5_cancels_19 rfl (lv_at hl 2 rfl) ?_
      obtain ⟨v5, h6, hF⟩ := obind hF
      refine kr_i (As := [.int p1, .int p2]) Fc hA Z Lens.all (c_X5_holdBy l D cI cS am ρ p1 p2 v5 h6) mL_RX5_174 v_X5_holdBy ⟨rfl, rfl⟩ ⟨Nat.le_of_ble_eq_true rfl, Nat.le_of_ble_eq_true rfl⟩ ⟨Nat.zero_le _, Nat.zero_le _⟩ 0 5 rfl rfl rfl hl (Nat.le_of_ble_eq_true rfl) dX5_cancels_20 rfl (fun H locs Z => ?_)
      refine lv_istore_n (lv' := [(3, .int v5), (0, .ref (am 0)), (1, .int p1), (2, .int p2)]) hx hb dX5_cancels_23 rfl hl (by decide) rfl (fun ls hl => ?_)
      refine lv_iload_n hx hb dX5_cancels_24 rfl (lv_at hl 0 rfl) ?_
      refine lv_if_ge (tgt := 31) hx hb dX5_cancels_25 (by decide) (fun c7 => ?_) (fun c7 => ?_)
      · rw [if_pos c7] at hF
        refine lv_aload_n hx hb dX5_cancels_31 rfl (lv_at hl 1 rfl) ?_
        refine lv_iload_n hx hb dX5_cancels_32 rfl (lv_at hl 0 rfl) ?_
        refine lv_iconst (v := (3 : Int32)) hx hb dX5_cancels_33 (by decide) ?_
        obtain ⟨v8, h9, hF⟩ := obind hF
        refine kr_i (As := [.int v5, .int (3 : Int32)]) Fc hA Z Lens.all (c_X5_hold l D cI cS am ρ v5 (3 : Int32) v8 h9) mL_RX5_59 v_X5_hold ⟨rfl, rfl⟩ ⟨Nat.le_of_ble_eq_true rfl, Nat.le_of_ble_eq_true rfl⟩ ⟨Nat.zero_le _, Nat.zero_le _⟩ 0 5 rfl rfl rfl hl (Nat.le_of_ble_eq_true rfl) dX5_cancels_34 rfl (fun H locs Z => ?_)
        refine lv_istore (lv' := [(4, .int v8), (3, .int v5), (0, .ref (am 0)), (1, .int p1), (2, .int p2)]) hx hb dX5_cancels_37 hl (by decide) rfl (fun ls hl => ?_)
        refine lv_aload_n hx hb dX5_cancels_39 rfl (lv_at hl 2 rfl) ?_
        refine lv_iload_n hx hb dX5_cancels_40 rfl (lv_at hl 1 rfl) ?_
        obtain ⟨q10, h11, hF⟩ := obind hF
        refine kv_i (As := [.int v5]) (ok := (fun _ => True)) Fc hA Z Lens.all (c_X5_removes l D cI cS am ρ v5 q10 h11) mL_RX5_119 v_X5_removes ⟨rfl, rfl⟩ ⟨Nat.le_of_ble_eq_true rfl, Nat.le_of_ble_eq_true rfl⟩ ⟨Nat.zero_le _, Nat.zero_le _⟩ 0 5 rfl rfl rfl hl (Nat.le_of_ble_eq_true rfl) dX5_cancels_41 rfl (fun H locs ok1 Z => ?_)
        refine lv_iload hx hb dX5_cancels_44 (lv_at hl 0 rfl) ?_
        refine lv_if_lt (tgt := 73) hx hb dX5_cancels_46 (by decide) (fun c12 => ?_) (fun c12 => ?_)
        · rw [if_pos c12] at hF
          refine lv_aload_n hx hb dX5_cancels_73 rfl (lv_at hl 2 rfl) ?_
          refine lv_iload_n hx hb dX5_cancels_74 rfl (lv_at hl 4 rfl) ?_
          obtain ⟨v13, h14, hF⟩ := obind hF
          refine kr_i (As := [.int p2]) Fc hA Z Lens.all (c_X5_holds l D cI cS am q10 p2 v13 h14) mL_RX5_192 v_X5_holds ⟨rfl, rfl⟩ ⟨Nat.le_of_ble_eq_true rfl, Nat.le_of_ble_eq_true rfl⟩ ⟨Nat.zero_le _, Nat.zero_le _⟩ 0 5 rfl rfl rfl hl (Nat.le_of_ble_eq_true rfl) dX5_cancels_75 rfl (fun H locs Z => ?_)
          exact kret v13 q10 _ _ _ _ ⟨(pfst (Option.some.inj hF)), psnd (Option.some.inj hF), trivial⟩ Z dX5_cancels_78
        · rw [if_neg c12] at hF
          refine lv_aload_n hx hb dX5_cancels_49 rfl (lv_at hl 2 rfl) ?_
          refine lv_iload hx hb dX5_cancels_50 (lv_at hl 0 rfl) ?_
          refine lv_iconst (v := (3 : Int32)) hx hb dX5_cancels_52 (by decide) ?_
          obtain ⟨v15, h16, hF⟩ := obind hF
          refine kr_i (As := [.int v8, .int (3 : Int32)]) Fc hA Z Lens.all (c_X5_of l D cI cS am q10 v8 (3 : Int32) v15 h16) mL_RX5_73 v_X5_of ⟨rfl, rfl⟩ ⟨Nat.le_of_ble_eq_true rfl, Nat.le_of_ble_eq_true rfl⟩ ⟨Nat.zero_le _, Nat.zero_le _⟩ 0 5 rfl rfl rfl hl (Nat.le_of_ble_eq_true rfl) dX5_cancels_53 rfl (fun H locs Z => ?_)
          refine lv_iconst (v := (3 : Int32)) hx hb dX5_cancels_56 (by decide) ?_
          refine lv_icmp_ne (tgt := 73) hx hb dX5_cancels_57 (by decide) (fun c17 => ?_) (fun c17 => ?_)
          · rw [if_neg c17] at hF
            refine lv_aload_n hx hb dX5_cancels_73 rfl (lv_at hl 2 rfl) ?_
            refine lv_iload_n hx hb dX5_cancels_74 rfl (lv_at hl 4 rfl) ?_
            obtain ⟨v18, h19, hF⟩ := obind hF
            refine kr_i (As := [.int p2]) Fc hA Z Lens.all (c_X5_holds l D cI cS am q10 p2 v18 h19) mL_RX5_192 v_X5_holds ⟨rfl, rfl⟩ ⟨Nat.le_of_ble_eq_true rfl, Nat.le_of_ble_eq_true rfl⟩ ⟨Nat.zero_le _, Nat.zero_le _⟩ 0 5 rfl rfl rfl hl (Nat.le_of_ble_eq_true rfl) dX5_cancels_75 rfl (fun H locs Z => ?_)
            exact kret v18 q10 _ _ _ _ ⟨(pfst (Option.some.inj hF)), psnd (Option.some.inj hF), trivial⟩ Z dX5_cancels_78
          · rw [if_pos c17] at hF
            refine lv_aload_n hx hb dX5_cancels_60 rfl (lv_at hl 2 rfl) ?_
            refine lv_iload hx hb dX5_cancels_61 (lv_at hl 0 rfl) ?_
            refine lv_aload_n hx hb dX5_cancels_63 rfl (lv_at hl 2 rfl) ?_
            refine lv_iload hx hb dX5_cancels_64 (lv_at hl 0 rfl) ?_
            refine lv_iconst (v := (4 : Int32)) hx hb dX5_cancels_66 (by decide) ?_
            obtain ⟨v20, h21, hF⟩ := obind hF
            refine kr_i (As := [.int v8, .int (4 : Int32)]) Fc hA Z Lens.all (c_X5_of l D cI cS am q10 v8 (4 : Int32) v20 h21) mL_RX5_73 v_X5_of ⟨rfl, rfl⟩ ⟨Nat.le_of_ble_eq_true rfl, Nat.le_of_ble_eq_true rfl⟩ ⟨Nat.zero_le _, Nat.zero_le _⟩ 0 5 rfl rfl rfl hl (Nat.le_of_ble_eq_true rfl) dX5_cancels_67 rfl (fun H locs Z => ?_)
            obtain ⟨q22, h23, hF⟩ := obind hF
            refine kv_i (As := [.int v8, .int v20]) (ok := (fun _ => True)) Fc hA Z Lens.all (c_X5_frees l D cI cS am q10 v8 v20 q22 h23) mL_RX5_99 v_X5_frees ⟨rfl, rfl⟩ ⟨Nat.le_of_ble_eq_true rfl, Nat.le_of_ble_eq_true rfl⟩ ⟨Nat.zero_le _, Nat.zero_le _⟩ 0 5 rfl rfl rfl hl (Nat.le_of_ble_eq_true rfl) dX5_cancels_70 rfl (fun H locs ok1 Z => ?_)
            refine lv_aload_n hx hb dX5_cancels_73 rfl (lv_at hl 2 rfl) ?_
            refine lv_iload_n hx hb dX5_cancels_74 rfl (lv_at hl 4 rfl) ?_
            obtain ⟨v24, h25, hF⟩ := obind hF
            refine kr_i (As := [.int p2]) Fc hA Z Lens.all (c_X5_holds l D cI cS am q22 p2 v24 h25) mL_RX5_192 v_X5_holds ⟨rfl, rfl⟩ ⟨Nat.le_of_ble_eq_true rfl, Nat.le_of_ble_eq_true rfl⟩ ⟨Nat.zero_le _, Nat.zero_le _⟩ 0 5 rfl rfl rfl hl (Nat.le_of_ble_eq_true rfl) dX5_cancels_75 rfl (fun H locs Z => ?_)
            exact kret v24 q22 _ _ _ _ ⟨(pfst (Option.some.inj hF)), psnd (Option.some.inj hF), trivial⟩ Z dX5_cancels_78
      · rw [if_neg c7] at hF
        refine lv_bipush (v := (-2 : Int32)) hx hb dX5_cancels_28 (by decide) ?_
        exact kret (-2 : Int32) ρ _ _ _ _ ⟨(pfst (Option.some.inj hF)), psnd (Option.some.inj hF), trivial⟩ Z dX5_cancels_30
    · rw [if_pos c4] at hF
      refine lv_iconst (v := (-1 : Int32)) hx hb dX5_cancels_15 (by decide) ?_
      exact kret (-1 : Int32) ρ _ _ _ _ ⟨(pfst (Option.some.inj hF)), psnd (Option.some.inj hF), trivial⟩ Z dX5_cancels_16
def X5_cancelHold (ρ : Ms) (p1 p2 : Int32) : Option (Int32 × Ms) := (X5_keeps ρ).bind fun q1 => (X5_cancels q1 p1 p2).bind fun q3 => (X5_made q3.2 q3.1).bind fun q5 => some (q5.1, q5.2)
def rm_X5_cancelHold : Room := { frames := 5, cells := 0, slots := 0, locals := 119 }
theorem v_X5_cancelHold : WdV RX5 yX5_cancelHold cX5_cancelHold 3 (some .int) 2 := ⟨mI_X5_cancelHold, mS_X5_cancelHold, mZ_RX5, mC_X5_cancelHold, by decide +kernel⟩
set_option maxHeartbeats 8000000 in
set_option maxRecDepth 100000 in
theorem c_X5_cancelHold (l : Launch) (D : va_G) (cI cS : ClassId) (am : Nat → Nat) (ρ : Ms) (p1 p2 : Int32) (F : Int32 × Ms) (hF : X5_cancelHold ρ p1 p2 = some F) : MI l yX5_cancelHold cX5_cancelHold 3 (some .int) rm_X5_cancelHold D cI cS [.ref (am 0), .int p1, .int p2] (mW am cI ρ) (mW am cI) (fun r u => r = F.1 ∧ u = F.2 ∧ True) := by
  refine MI.mk RX5 rfl .int rfl (by decide) (Nat.le_of_ble_eq_true rfl) (fun _ _ _ => rfl) ?_
  intro p e s m args below meth c A Q ls Fc hin hA Z kret hl
  obtain ⟨hx, hb, hml, hown, hts, hKN⟩ := id Fc
  replace hl : lv_has ls 3 [(0, .ref (am 0)), (1, .int p1), (2, .int p2)] := hl
  unfold X5_cancelHold at hF
  refine lv_aload_n hx hb dX5_cancelHold_0 rfl (lv_at hl 0 rfl) ?_
  obtain ⟨q1, h2, hF⟩ := obind hF
  refine kv_i (As := []) (ok := (fun _ => True)) Fc hA Z Lens.all (c_X5_keeps l D cI cS am ρ  q1 h2) mL_RX5_96 v_X5_keeps ⟨rfl, rfl⟩ ⟨Nat.le_of_ble_eq_true rfl, Nat.le_of_ble_eq_true rfl⟩ ⟨Nat.zero_le _, Nat.zero_le _⟩ 0 5 rfl rfl rfl hl (Nat.le_of_ble_eq_true rfl) dX5_cancelHold_1 rfl (fun H locs ok1 Z => ?_)
  refine lv_aload_n hx hb dX5_cancelHold_4 rfl (lv_at hl 0 rfl) ?_
  refine lv_aload_n hx hb dX5_cancelHold_5 rfl (lv_at hl 0 rfl) ?_
  refine lv_iload_n hx hb dX5_cancelHold_6 rfl (lv_at hl 1 rfl) ?_
  refine lv_iload_n hx hb dX5_cancelHold_7 rfl (lv_at hl 2 rfl) ?_
  obtain ⟨q3, h4, hF⟩ := obind hF
  refine km_i (As := [.int p1, .int p2]) (ok := (fun _ => True)) Fc hA Z Lens.all (c_X5_cancels l D cI cS am q1 p1 p2 q3 h4) mL_RX5_195 v_X5_cancels ⟨rfl, rfl⟩ ⟨Nat.le_of_ble_eq_true rfl, Nat.le_of_ble_eq_true rfl⟩ ⟨Nat.zero_le _, Nat.zero_le _⟩ 0 5 rfl rfl rfl hl (Nat.le_of_ble_eq_true rfl) dX5_cancelHold_8 rfl (fun H locs ok1 Z => ?_)
  obtain ⟨q5, h6, hF⟩ := obind hF
  refine km_i (As := [.int q3.1]) (ok := (fun _ => True)) Fc hA Z Lens.all (c_X5_made l D cI cS am q3.2 q3.1 q5 h6) mL_RX5_103 v_X5_made ⟨rfl, rfl⟩ ⟨Nat.le_of_ble_eq_true rfl, Nat.le_of_ble_eq_true rfl⟩ ⟨Nat.zero_le _, Nat.zero_le _⟩ 0 5 rfl rfl rfl hl (Nat.le_of_ble_eq_true rfl) dX5_cancelHold_11 rfl (fun H locs ok1 Z => ?_)
  exact kret q5.1 q5.2 _ _ _ _ ⟨(pfst (Option.some.inj hF)), psnd (Option.some.inj hF), trivial⟩ Z dX5_cancelHold_14
def X5_reasonToClaim (ρ : Ms) (p1 : Int32) : Option (Int32) := (X5_of ρ p1 (3 : Int32)).bind fun v1 => if v1 = (1 : Int32) then ((X5_of ρ p1 (4 : Int32)).bind fun v4 => (rdA (ρ.1.1 0) 681 ((((253 : Int32) + ((4 : Int32) * v4)) + (1 : Int32)))).bind fun v6 => if v6 < (2 : Int32) then (some (0 : Int32)) else some (2 : Int32)) else some (1 : Int32)
def rm_X5_reasonToClaim : Room := { frames := 1, cells := 0, slots := 0, locals := 22 }
theorem v_X5_reasonToClaim : WdV RX5 yX5_reasonToClaim cX5_reasonToClaim 2 (some .int) 1 := ⟨mI_X5_reasonToClaim, mS_X5_reasonToClaim, mZ_RX5, mC_X5_reasonToClaim, by decide +kernel⟩
set_option maxHeartbeats 8000000 in
set_option maxRecDepth 100000 in
theorem c_X5_reasonToClaim (l : Launch) (D : va_G) (cI cS : ClassId) (am : Nat → Nat) (ρ : Ms) (p1 : Int32) (F : Int32) (hF : X5_reasonToClaim ρ p1 = some F) : MI l yX5_reasonToClaim cX5_reasonToClaim 2 (some .int) rm_X5_reasonToClaim D cI cS [.ref (am 0), .int p1] (mW am cI ρ) (mW am cI) (fun r u' => r = F ∧ u' = ρ) := by
  refine MI.mk RX5 rfl .int rfl (by decide) (Nat.le_of_ble_eq_true rfl) (fun _ _ _ => rfl) ?_
  intro p e s m args below meth c A Q ls Fc hin hA Z kret hl
  obtain ⟨hx, hb, hml, hown, hts, hKN⟩ := id Fc
  replace hl : lv_has ls 2 [(0, .ref (am 0)), (1, .int p1)] := hl
  unfold X5_reasonToClaim at hF
  refine lv_aload_n hx hb dX5_reasonToClaim_0 rfl (lv_at hl 0 rfl) ?_
  refine lv_iload_n hx hb dX5_reasonToClaim_1 rfl (lv_at hl 1 rfl) ?_
  refine lv_iconst (v := (3 : Int32)) hx hb dX5_reasonToClaim_2 (by decide) ?_
  obtain ⟨v1, h2, hF⟩ := obind hF
  refine kr_i (As := [.int p1, .int (3 : Int32)]) Fc hA Z Lens.all (c_X5_of l D cI cS am ρ p1 (3 : Int32) v1 h2) mL_RX5_73 v_X5_of ⟨rfl, rfl⟩ ⟨Nat.le_of_ble_eq_true rfl, Nat.le_of_ble_eq_true rfl⟩ ⟨Nat.zero_le _, Nat.zero_le _⟩ 0 5 rfl rfl rfl hl (Nat.le_of_ble_eq_true rfl) dX5_reasonToClaim_3 rfl (fun H locs Z => ?_)
  refine lv_iconst (v := (1 : Int32)) hx hb dX5_reasonToClaim_6 (by decide) ?_
  refine lv_icmp_eq (tgt := 14) hx hb dX5_reasonToClaim_7 (by decide) (fun c3 => ?_) (fun c3 => ?_)
  · rw [if_pos c3] at hF
    refine lv_aload_n hx hb dX5_reasonToClaim_14 rfl (lv_at hl 0 rfl) ?_
    refine kget Fc Z inX5 0 rfl rfl 0 (by decide) mF_RX5_11 rfl rfl dX5_reasonToClaim_15 ?_
    refine lv_sipush (v := (253 : Int32)) hx hb dX5_reasonToClaim_18 (by decide) ?_
    refine lv_iconst (v := (4 : Int32)) hx hb dX5_reasonToClaim_21 (by decide) ?_
    refine lv_aload_n hx hb dX5_reasonToClaim_22 rfl (lv_at hl 0 rfl) ?_
    refine lv_iload_n hx hb dX5_reasonToClaim_23 rfl (lv_at hl 1 rfl) ?_
    refine lv_iconst (v := (4 : Int32)) hx hb dX5_reasonToClaim_24 (by decide) ?_
    obtain ⟨v4, h5, hF⟩ := obind hF
    refine kr_i (As := [.int p1, .int (4 : Int32)]) Fc hA Z Lens.all (c_X5_of l D cI cS am ρ p1 (4 : Int32) v4 h5) mL_RX5_73 v_X5_of ⟨rfl, rfl⟩ ⟨Nat.le_of_ble_eq_true rfl, Nat.le_of_ble_eq_true rfl⟩ ⟨Nat.zero_le _, Nat.zero_le _⟩ 0 5 rfl rfl rfl hl (Nat.le_of_ble_eq_true rfl) dX5_reasonToClaim_25 rfl (fun H locs Z => ?_)
    refine lv_imul hx hb dX5_reasonToClaim_28 ?_
    refine lv_iadd hx hb dX5_reasonToClaim_29 ?_
    refine lv_iconst (v := (1 : Int32)) hx hb dX5_reasonToClaim_30 (by decide) ?_
    refine lv_iadd hx hb dX5_reasonToClaim_31 ?_
    obtain ⟨v6, h7, hF⟩ := obind hF
    refine kald Fc Z 1 rfl h7 dX5_reasonToClaim_32 ?_
    refine lv_iconst (v := (2 : Int32)) hx hb dX5_reasonToClaim_33 (by decide) ?_
    refine lv_icmp_lt (tgt := 41) hx hb dX5_reasonToClaim_34 (by decide) (fun c8 => ?_) (fun c8 => ?_)
    · rw [if_pos c8] at hF
      refine lv_iconst (v := (0 : Int32)) hx hb dX5_reasonToClaim_41 (by decide) ?_
      exact kret (0 : Int32) ρ _ _ _ _ ⟨(Option.some.inj hF), rfl⟩ Z dX5_reasonToClaim_42
    · rw [if_neg c8] at hF
      refine lv_iconst (v := (2 : Int32)) hx hb dX5_reasonToClaim_37 (by decide) ?_
      refine lv_goto (tgt := 42) hx hb dX5_reasonToClaim_38 (by decide) ?_
      exact kret (2 : Int32) ρ _ _ _ _ ⟨(Option.some.inj hF), rfl⟩ Z dX5_reasonToClaim_42
  · rw [if_neg c3] at hF
    refine lv_iconst (v := (1 : Int32)) hx hb dX5_reasonToClaim_10 (by decide) ?_
    refine lv_goto (tgt := 42) hx hb dX5_reasonToClaim_11 (by decide) ?_
    exact kret (1 : Int32) ρ _ _ _ _ ⟨(Option.some.inj hF), rfl⟩ Z dX5_reasonToClaim_42
def X5_claim (ρ : Ms) (p1 : Int32) : Option (Int32 × Ms) := (X5_isCopy ρ p1).bind fun v1 => if (bi v1) = 0 then (some (((-1 : Int32), ρ))) else (X5_reasonToClaim ρ p1).bind fun v4 => if v4 ≤ 0 then ((X5_keeps ρ).bind fun q7 => (X5_late q7 p1).bind fun v9 => (X5_puts q7 p1 (9 : Int32) v9).bind fun q11 => (X5_of q11 p1 (4 : Int32)).bind fun v13 => (rdA (q11.1.1 0) 681 (0 : Int32)).bind fun v15 => (X5_turns q11 p1 (4 : Int32) v13 v15).bind fun q17 => (X5_of q17 p1 (4 : Int32)).bind fun v19 => (rdA (q17.1.1 0) 681 ((((253 : Int32) + ((4 : Int32) * v19)) + (1 : Int32)))).bind fun v21 => (wrA (q17.1.1 0) 681 ((((253 : Int32) + ((4 : Int32) * v19)) + (1 : Int32))) ((v21 + (1 : Int32)))).bind fun g23 => bnd (msA q17 0 g23) fun ρ25 => (X5_of ρ25 p1 (9 : Int32)).bind fun v27 => (X5_made ρ25 v27).bind fun q29 => some (q29.1, q29.2)) else some ((((-100 : Int32) - v4), ρ))
def rm_X5_claim : Room := { frames := 2, cells := 0, slots := 0, locals := 47 }
theorem v_X5_claim : WdV RX5 yX5_claim cX5_claim 3 (some .int) 1 := ⟨mI_X5_claim, mS_X5_claim, mZ_RX5, mC_X5_claim, by decide +kernel⟩
set_option maxHeartbeats 8000000 in
set_option maxRecDepth 100000 in
theorem c_X5_claim (l : Launch) (D : va_G) (cI cS : ClassId) (am : Nat → Nat) (ρ : Ms) (p1 : Int32) (F : Int32 × Ms) (hF : X5_claim ρ p1 = some F) : MI l yX5_claim cX5_claim 3 (some .int) rm_X5_claim D cI cS [.ref (am 0), .int p1] (mW am cI ρ) (mW am cI) (fun r u => r = F.1 ∧ u = F.2 ∧ True) := by
  refine MI.mk RX5 rfl .int rfl (by decide) (Nat.le_of_ble_eq_true rfl) (fun _ _ _ => rfl) ?_
  intro p e s m args below meth c A Q ls Fc hin hA Z kret hl
  obtain ⟨hx, hb, hml, hown, hts, hKN⟩ := id Fc
  replace hl : lv_has ls 3 [(0, .ref (am 0)), (1, .int p1)] := hl
  unfold X5_claim at hF
  refine lv_aload_n hx hb dX5_claim_0 rfl (lv_at hl 0 rfl) ?_
  refine lv_iload_n hx hb dX5_claim_1 rfl (lv_at hl 1 rfl) ?_
  obtain ⟨v1, h2, hF⟩ := obind hF
  refine kr_i (As := [.int p1]) Fc hA Z Lens.all (c_X5_isCopy l D cI cS am ρ p1 v1 h2) mL_RX5_113 v_X5_isCopy ⟨rfl, rfl⟩ ⟨Nat.le_of_ble_eq_true rfl, Nat.le_of_ble_eq_true rfl⟩ ⟨Nat.zero_le _, Nat.zero_le _⟩ 0 5 rfl rfl rfl hl (Nat.le_of_ble_eq_true rfl) dX5_claim_2 rfl (fun H locs Z => ?_)
  refine lv_if_ne (tgt := 10) hx hb dX5_claim_5 (by decide) (fun c3 => ?_) (fun c3 => ?_)
  · rw [if_neg c3] at hF
    refine lv_aload_n hx hb dX5_claim_10 rfl (lv_at hl 0 rfl) ?_
    refine lv_iload_n hx hb dX5_claim_11 rfl (lv_at hl 1 rfl) ?_
    obtain ⟨v4, h5, hF⟩ := obind hF
    refine kr_i (As := [.int p1]) Fc hA Z Lens.all (c_X5_reasonToClaim l D cI cS am ρ p1 v4 h5) mL_RX5_168 v_X5_reasonToClaim ⟨rfl, rfl⟩ ⟨Nat.le_of_ble_eq_true rfl, Nat.le_of_ble_eq_true rfl⟩ ⟨Nat.zero_le _, Nat.zero_le _⟩ 0 5 rfl rfl rfl hl (Nat.le_of_ble_eq_true rfl) dX5_claim_12 rfl (fun H locs Z => ?_)
    refine lv_istore_n (lv' := [(2, .int v4), (0, .ref (am 0)), (1, .int p1)]) hx hb dX5_claim_15 rfl hl (by decide) rfl (fun ls hl => ?_)
    refine lv_iload_n hx hb dX5_claim_16 rfl (lv_at hl 0 rfl) ?_
    refine lv_if_le (tgt := 25) hx hb dX5_claim_17 (by decide) (fun c6 => ?_) (fun c6 => ?_)
    · rw [if_pos c6] at hF
      refine lv_aload_n hx hb dX5_claim_25 rfl (lv_at hl 1 rfl) ?_
      obtain ⟨q7, h8, hF⟩ := obind hF
      refine kv_i (As := []) (ok := (fun _ => True)) Fc hA Z Lens.all (c_X5_keeps l D cI cS am ρ  q7 h8) mL_RX5_96 v_X5_keeps ⟨rfl, rfl⟩ ⟨Nat.le_of_ble_eq_true rfl, Nat.le_of_ble_eq_true rfl⟩ ⟨Nat.zero_le _, Nat.zero_le _⟩ 0 5 rfl rfl rfl hl (Nat.le_of_ble_eq_true rfl) dX5_claim_26 rfl (fun H locs ok1 Z => ?_)
      refine lv_aload_n hx hb dX5_claim_29 rfl (lv_at hl 1 rfl) ?_
      refine lv_iload_n hx hb dX5_claim_30 rfl (lv_at hl 2 rfl) ?_
      refine lv_bipush (v := (9 : Int32)) hx hb dX5_claim_31 (by decide) ?_
      refine lv_aload_n hx hb dX5_claim_33 rfl (lv_at hl 1 rfl) ?_
      refine lv_iload_n hx hb dX5_claim_34 rfl (lv_at hl 2 rfl) ?_
      obtain ⟨v9, h10, hF⟩ := obind hF
      refine kr_i (As := [.int p1]) Fc hA Z Lens.all (c_X5_late l D cI cS am q7 p1 v9 h10) mL_RX5_123 v_X5_late ⟨rfl, rfl⟩ ⟨Nat.le_of_ble_eq_true rfl, Nat.le_of_ble_eq_true rfl⟩ ⟨Nat.zero_le _, Nat.zero_le _⟩ 0 5 rfl rfl rfl hl (Nat.le_of_ble_eq_true rfl) dX5_claim_35 rfl (fun H locs Z => ?_)
      obtain ⟨q11, h12, hF⟩ := obind hF
      refine kv_i (As := [.int p1, .int (9 : Int32), .int v9]) (ok := (fun _ => True)) Fc hA Z Lens.all (c_X5_puts l D cI cS am q7 p1 (9 : Int32) v9 q11 h12) mL_RX5_55 v_X5_puts ⟨rfl, rfl⟩ ⟨Nat.le_of_ble_eq_true rfl, Nat.le_of_ble_eq_true rfl⟩ ⟨Nat.zero_le _, Nat.zero_le _⟩ 0 5 rfl rfl rfl hl (Nat.le_of_ble_eq_true rfl) dX5_claim_38 rfl (fun H locs ok1 Z => ?_)
      refine lv_aload_n hx hb dX5_claim_41 rfl (lv_at hl 1 rfl) ?_
      refine lv_iload_n hx hb dX5_claim_42 rfl (lv_at hl 2 rfl) ?_
      refine lv_iconst (v := (4 : Int32)) hx hb dX5_claim_43 (by decide) ?_
      refine lv_aload_n hx hb dX5_claim_44 rfl (lv_at hl 1 rfl) ?_
      refine lv_iload_n hx hb dX5_claim_45 rfl (lv_at hl 2 rfl) ?_
      refine lv_iconst (v := (4 : Int32)) hx hb dX5_claim_46 (by decide) ?_
      obtain ⟨v13, h14, hF⟩ := obind hF
      refine kr_i (As := [.int p1, .int (4 : Int32)]) Fc hA Z Lens.all (c_X5_of l D cI cS am q11 p1 (4 : Int32) v13 h14) mL_RX5_73 v_X5_of ⟨rfl, rfl⟩ ⟨Nat.le_of_ble_eq_true rfl, Nat.le_of_ble_eq_true rfl⟩ ⟨Nat.zero_le _, Nat.zero_le _⟩ 0 5 rfl rfl rfl hl (Nat.le_of_ble_eq_true rfl) dX5_claim_47 rfl (fun H locs Z => ?_)
      refine lv_aload_n hx hb dX5_claim_50 rfl (lv_at hl 1 rfl) ?_
      refine kget Fc Z inX5 0 rfl rfl 0 (by decide) mF_RX5_11 rfl rfl dX5_claim_51 ?_
      refine lv_iconst (v := (0 : Int32)) hx hb dX5_claim_54 (by decide) ?_
      obtain ⟨v15, h16, hF⟩ := obind hF
      refine kald Fc Z 1 rfl h16 dX5_claim_55 ?_
      obtain ⟨q17, h18, hF⟩ := obind hF
      refine kv_i (As := [.int p1, .int (4 : Int32), .int v13, .int v15]) (ok := (fun _ => True)) Fc hA Z Lens.all (c_X5_turns l D cI cS am q11 p1 (4 : Int32) v13 v15 q17 h18) mL_RX5_63 v_X5_turns ⟨rfl, rfl⟩ ⟨Nat.le_of_ble_eq_true rfl, Nat.le_of_ble_eq_true rfl⟩ ⟨Nat.zero_le _, Nat.zero_le _⟩ 0 5 rfl rfl rfl hl (Nat.le_of_ble_eq_true rfl) dX5_claim_56 rfl (fun H locs ok1 Z => ?_)
      refine lv_aload_n hx hb dX5_claim_59 rfl (lv_at hl 1 rfl) ?_
      refine kget Fc Z inX5 0 rfl rfl 0 (by decide) mF_RX5_11 rfl rfl dX5_claim_60 ?_
      refine lv_sipush (v := (253 : Int32)) hx hb dX5_claim_63 (by decide) ?_
      refine lv_iconst (v := (4 : Int32)) hx hb dX5_claim_66 (by decide) ?_
      refine lv_aload_n hx hb dX5_claim_67 rfl (lv_at hl 1 rfl) ?_
      refine lv_iload_n hx hb dX5_claim_68 rfl (lv_at hl 2 rfl) ?_
      refine lv_iconst (v := (4 : Int32)) hx hb dX5_claim_69 (by decide) ?_
      obtain ⟨v19, h20, hF⟩ := obind hF
      refine kr_i (As := [.int p1, .int (4 : Int32)]) Fc hA Z Lens.all (c_X5_of l D cI cS am q17 p1 (4 : Int32) v19 h20) mL_RX5_73 v_X5_of ⟨rfl, rfl⟩ ⟨Nat.le_of_ble_eq_true rfl, Nat.le_of_ble_eq_true rfl⟩ ⟨Nat.zero_le _, Nat.zero_le _⟩ 0 5 rfl rfl rfl hl (Nat.le_of_ble_eq_true rfl) dX5_claim_70 rfl (fun H locs Z => ?_)
      refine lv_imul hx hb dX5_claim_73 ?_
      refine lv_iadd hx hb dX5_claim_74 ?_
      refine lv_iconst (v := (1 : Int32)) hx hb dX5_claim_75 (by decide) ?_
      refine lv_iadd hx hb dX5_claim_76 ?_
      refine lv_dup2_11 hx hb dX5_claim_77 rfl rfl ?_
      obtain ⟨v21, h22, hF⟩ := obind hF
      refine kald Fc Z 1 rfl h22 dX5_claim_78 ?_
      refine lv_iconst (v := (1 : Int32)) hx hb dX5_claim_79 (by decide) ?_
      refine lv_iadd hx hb dX5_claim_80 ?_
      obtain ⟨g23, h24, hF⟩ := obind hF
      obtain ⟨ρ25, e26, hF⟩ := bnd_el hF
      refine kast (w' := mW am cI ρ25) Fc Z 1 rfl h24 (by rw [e26]; rfl) dX5_claim_81 (fun H locs Z => ?_)
      refine lv_aload_n hx hb dX5_claim_82 rfl (lv_at hl 1 rfl) ?_
      refine lv_aload_n hx hb dX5_claim_83 rfl (lv_at hl 1 rfl) ?_
      refine lv_iload_n hx hb dX5_claim_84 rfl (lv_at hl 2 rfl) ?_
      refine lv_bipush (v := (9 : Int32)) hx hb dX5_claim_85 (by decide) ?_
      obtain ⟨v27, h28, hF⟩ := obind hF
      refine kr_i (As := [.int p1, .int (9 : Int32)]) Fc hA Z Lens.all (c_X5_of l D cI cS am ρ25 p1 (9 : Int32) v27 h28) mL_RX5_73 v_X5_of ⟨rfl, rfl⟩ ⟨Nat.le_of_ble_eq_true rfl, Nat.le_of_ble_eq_true rfl⟩ ⟨Nat.zero_le _, Nat.zero_le _⟩ 0 5 rfl rfl rfl hl (Nat.le_of_ble_eq_true rfl) dX5_claim_87 rfl (fun H locs Z => ?_)
      obtain ⟨q29, h30, hF⟩ := obind hF
      refine km_i (As := [.int v27]) (ok := (fun _ => True)) Fc hA Z Lens.all (c_X5_made l D cI cS am ρ25 v27 q29 h30) mL_RX5_103 v_X5_made ⟨rfl, rfl⟩ ⟨Nat.le_of_ble_eq_true rfl, Nat.le_of_ble_eq_true rfl⟩ ⟨Nat.zero_le _, Nat.zero_le _⟩ 0 5 rfl rfl rfl hl (Nat.le_of_ble_eq_true rfl) dX5_claim_90 rfl (fun H locs ok1 Z => ?_)
      exact kret q29.1 q29.2 _ _ _ _ ⟨(pfst (Option.some.inj hF)), psnd (Option.some.inj hF), trivial⟩ Z dX5_claim_93
    · rw [if_neg c6] at hF
      refine lv_bipush (v := (-100 : Int32)) hx hb dX5_claim_20 (by decide) ?_
      refine lv_iload_n hx hb dX5_claim_22 rfl (lv_at hl 0 rfl) ?_
      refine lv_isub hx hb dX5_claim_23 ?_
      exact kret (((-100 : Int32) - v4)) ρ _ _ _ _ ⟨(pfst (Option.some.inj hF)), psnd (Option.some.inj hF), trivial⟩ Z dX5_claim_24
  · rw [if_pos c3] at hF
    refine lv_iconst (v := (-1 : Int32)) hx hb dX5_claim_8 (by decide) ?_
    exact kret (-1 : Int32) ρ _ _ _ _ ⟨(pfst (Option.some.inj hF)), psnd (Option.some.inj hF), trivial⟩ Z dX5_claim_9
def X5_sign (ρ : Ms) : Option (Int32) := if (bi ρ.2.2) = 0 then (if (ρ.1.2 1) ≤ (ρ.1.2 2) then (some (-2 : Int32)) else (rdA (ρ.1.1 4) 60 (ρ.1.2 2)).bind fun v3 => some v3) else some (-2 : Int32)
def rm_X5_sign : Room := { frames := 0, cells := 0, slots := 0, locals := 0 }
theorem v_X5_sign : WdV RX5 yX5_sign cX5_sign 1 (some .int) 0 := ⟨mI_X5_sign, mS_X5_sign, mZ_RX5, mC_X5_sign, by decide +kernel⟩
set_option maxHeartbeats 8000000 in
set_option maxRecDepth 100000 in
theorem c_X5_sign (l : Launch) (D : va_G) (cI cS : ClassId) (am : Nat → Nat) (ρ : Ms) (F : Int32) (hF : X5_sign ρ = some F) : MI l yX5_sign cX5_sign 1 (some .int) rm_X5_sign D cI cS [.ref (am 0)] (mW am cI ρ) (mW am cI) (fun r u' => r = F ∧ u' = ρ) := by
  refine MI.mk RX5 rfl .int rfl (by decide) (Nat.le_of_ble_eq_true rfl) (fun _ _ _ => rfl) ?_
  intro p e s m args below meth c A Q ls Fc hin hA Z kret hl
  obtain ⟨hx, hb, hml, hown, hts, hKN⟩ := id Fc
  replace hl : lv_has ls 1 [(0, .ref (am 0))] := hl
  unfold X5_sign at hF
  refine lv_aload_n hx hb dX5_sign_0 rfl (lv_at hl 0 rfl) ?_
  refine kget Fc Z inX5 0 rfl rfl 10 (by decide) mF_RX5_44 rfl rfl dX5_sign_1 ?_
  refine lv_if_ne (tgt := 30) hx hb dX5_sign_4 (by decide) (fun c1 => ?_) (fun c1 => ?_)
  · rw [if_neg c1] at hF
    refine lv_bipush (v := (-2 : Int32)) hx hb dX5_sign_30 (by decide) ?_
    exact kret (-2 : Int32) ρ _ _ _ _ ⟨(Option.some.inj hF), rfl⟩ Z dX5_sign_32
  · rw [if_pos c1] at hF
    refine lv_aload_n hx hb dX5_sign_7 rfl (lv_at hl 0 rfl) ?_
    refine kget Fc Z inX5 0 rfl rfl 9 (by decide) mF_RX5_41 rfl rfl dX5_sign_8 ?_
    refine lv_aload_n hx hb dX5_sign_11 rfl (lv_at hl 0 rfl) ?_
    refine kget Fc Z inX5 0 rfl rfl 8 (by decide) mF_RX5_38 rfl rfl dX5_sign_12 ?_
    refine lv_icmp_ge (tgt := 30) hx hb dX5_sign_15 (by decide) (fun c2 => ?_) (fun c2 => ?_)
    · rw [if_pos c2] at hF
      refine lv_bipush (v := (-2 : Int32)) hx hb dX5_sign_30 (by decide) ?_
      exact kret (-2 : Int32) ρ _ _ _ _ ⟨(Option.some.inj hF), rfl⟩ Z dX5_sign_32
    · rw [if_neg c2] at hF
      refine lv_aload_n hx hb dX5_sign_18 rfl (lv_at hl 0 rfl) ?_
      refine kget Fc Z inX5 0 rfl rfl 6 (by decide) mF_RX5_32 rfl rfl dX5_sign_19 ?_
      refine lv_aload_n hx hb dX5_sign_22 rfl (lv_at hl 0 rfl) ?_
      refine kget Fc Z inX5 0 rfl rfl 9 (by decide) mF_RX5_41 rfl rfl dX5_sign_23 ?_
      obtain ⟨v3, h4, hF⟩ := obind hF
      refine kald Fc Z 5 rfl h4 dX5_sign_26 ?_
      refine lv_goto (tgt := 32) hx hb dX5_sign_27 (by decide) ?_
      exact kret v3 ρ _ _ _ _ ⟨(Option.some.inj hF), rfl⟩ Z dX5_sign_32
def X5_number_L4 : Nat → Int32 → Int32 → Ms → Option (Int32 × Ms)
  | 0, _, _, _ => none
  | k + 1, x1, x2, ρ => if (5 : Int32) ≤ x2 then (if x2 = 0 then (bnd (msW ρ true) fun ρ5 => some (x1, ρ5)) else bnd (msW ρ ρ.2.2) fun ρ3 => some (x1, ρ3)) else (X5_sign ρ).bind fun v7 => if (bi (X5_in v7 (48 : Int32) (57 : Int32))) = 0 then (if x2 = 0 then (bnd (msW ρ true) fun ρ13 => some (x1, ρ13)) else bnd (msW ρ ρ.2.2) fun ρ11 => some (x1, ρ11)) else (X5_sign ρ).bind fun v15 => bnd (msI ρ 2 ((ρ.1.2 2) + (1 : Int32))) fun ρ17 => X5_number_L4 k (((((10 : Int32) * x1) + v15) - (48 : Int32))) ((x2 + (1 : Int32))) ρ17
def X5_number (ρ : Ms) : Option (Int32 × Ms) := X5_number_L4 FU (0 : Int32) (0 : Int32) ρ
def rm_X5_number : Room := { frames := 1, cells := 0, slots := 0, locals := 22 }
theorem v_X5_number : WdV RX5 yX5_number cX5_number 3 (some .int) 0 := ⟨mI_X5_number, mS_X5_number, mZ_RX5, mC_X5_number, by decide +kernel⟩
set_option maxHeartbeats 8000000 in
set_option maxRecDepth 100000 in
theorem c_X5_number (l : Launch) (D : va_G) (cI cS : ClassId) (am : Nat → Nat) (ρ : Ms) (F : Int32 × Ms) (hF : X5_number ρ = some F) : MI l yX5_number cX5_number 3 (some .int) rm_X5_number D cI cS [.ref (am 0)] (mW am cI ρ) (mW am cI) (fun r u => r = F.1 ∧ u = F.2 ∧ True) := by
  refine MI.mk RX5 rfl .int rfl (by decide) (Nat.le_of_ble_eq_true rfl) (fun _ _ _ => rfl) ?_
  intro p e s m args below meth c A Q ls Fc hin hA Z kret hl
  obtain ⟨hx, hb, hml, hown, hts, hKN⟩ := id Fc
  replace hl : lv_has ls 3 [(0, .ref (am 0))] := hl
  have L4 : ∀ (k : Nat) (x1 : Int32) (x2 : Int32) (ρ : Ms) (H : Heap) (locs : List Loc) (ls : Array Slot), X5_number_L4  k x1 x2 ρ = some F → Ix D A s (mW am cI ρ) H locs → lv_has ls 3 [(0, .ref (am 0)), (1, .int x1), (2, .int x2)] → W p l e rm_X5_number s m args below meth c H locs 0 0 Q (F0 m 4 ls []) := by
    intro k
    induction k with
    | zero => intro x1 x2 ρ H locs ls hF; rw [X5_number_L4] at hF; cases hF
    | succ k ih =>
      intro x1 x2 ρ H locs ls hF Z hl
      rw [X5_number_L4] at hF
      refine lv_iload_n hx hb dX5_number_4 rfl (lv_at hl 2 rfl) ?_
      refine lv_iconst (v := (5 : Int32)) hx hb dX5_number_5 (by decide) ?_
      refine lv_icmp_ge (tgt := 52) hx hb dX5_number_6 (by decide) (fun c1 => ?_) (fun c1 => ?_)
      · rw [if_pos c1] at hF
        refine lv_aload_n hx hb dX5_number_52 rfl (lv_at hl 0 rfl) ?_
        refine lv_dup hx hb dX5_number_53 rfl ?_
        refine kget Fc Z inX5 0 rfl rfl 10 (by decide) mF_RX5_44 rfl rfl dX5_number_54 ?_
        refine lv_iload_n hx hb dX5_number_57 rfl (lv_at hl 2 rfl) ?_
        refine lv_if_ne (tgt := 65) hx hb dX5_number_58 (by decide) (fun c2 => ?_) (fun c2 => ?_)
        · rw [if_neg c2] at hF
          refine lv_iconst (v := (0 : Int32)) hx hb dX5_number_65 (by decide) ?_
          refine kior (z := (bi ρ.2.2)) hx hb (bi_or0 _) dX5_number_66 ?_
          obtain ⟨ρ3, e4, hF⟩ := bnd_el hF
          refine kput (v := .int (bi ρ.2.2)) (ty := .boolean) (w' := mW am cI ρ3) Fc Z inX5 tyX5 tyX5_ok nmX5 0 rfl rfl 10 (by decide) mF_RX5_44 rfl rfl rfl (bi_nar ρ.2.2) (bi_fit ρ.2.2) (Nat.le_of_ble_eq_true rfl) (by rw [e4]; rfl) dX5_number_67 (fun H locs Z => ?_)
          refine lv_iload_n hx hb dX5_number_70 rfl (lv_at hl 1 rfl) ?_
          exact kret x1 ρ3 _ _ _ _ ⟨(pfst (Option.some.inj hF)), psnd (Option.some.inj hF), trivial⟩ Z dX5_number_71
        · rw [if_pos c2] at hF
          refine lv_iconst (v := (1 : Int32)) hx hb dX5_number_61 (by decide) ?_
          refine lv_goto (tgt := 66) hx hb dX5_number_62 (by decide) ?_
          refine kior (z := (bi true)) hx hb (bi_or1 _) dX5_number_66 ?_
          obtain ⟨ρ5, e6, hF⟩ := bnd_el hF
          refine kput (v := .int (bi true)) (ty := .boolean) (w' := mW am cI ρ5) Fc Z inX5 tyX5 tyX5_ok nmX5 0 rfl rfl 10 (by decide) mF_RX5_44 rfl rfl rfl (bi_nar true) (bi_fit true) (Nat.le_of_ble_eq_true rfl) (by rw [e6]; rfl) dX5_number_67 (fun H locs Z => ?_)
          refine lv_iload_n hx hb dX5_number_70 rfl (lv_at hl 1 rfl) ?_
          exact kret x1 ρ5 _ _ _ _ ⟨(pfst (Option.some.inj hF)), psnd (Option.some.inj hF), trivial⟩ Z dX5_number_71
      · rw [if_neg c1] at hF
        refine lv_aload_n hx hb dX5_number_9 rfl (lv_at hl 0 rfl) ?_
        obtain ⟨v7, h8, hF⟩ := obind hF
        refine kr_i (As := []) Fc hA Z Lens.all (c_X5_sign l D cI cS am ρ  v7 h8) mL_RX5_214 v_X5_sign ⟨rfl, rfl⟩ ⟨Nat.le_of_ble_eq_true rfl, Nat.le_of_ble_eq_true rfl⟩ ⟨Nat.zero_le _, Nat.zero_le _⟩ 0 5 rfl rfl rfl hl (Nat.le_of_ble_eq_true rfl) dX5_number_10 rfl (fun H locs Z => ?_)
        refine lv_bipush (v := (48 : Int32)) hx hb dX5_number_13 (by decide) ?_
        refine lv_bipush (v := (57 : Int32)) hx hb dX5_number_15 (by decide) ?_
        refine ks_i (As := [.int v7, .int (48 : Int32), .int (57 : Int32)]) Fc hA Z (c_X5_in l D cI cS v7 (48 : Int32) (57 : Int32) (X5_in v7 (48 : Int32) (57 : Int32)) rfl) mL_RX5_51 v_X5_in ⟨rfl, rfl⟩ ⟨Nat.le_of_ble_eq_true rfl, Nat.le_of_ble_eq_true rfl⟩ ⟨Nat.zero_le _, Nat.zero_le _⟩ rfl hl (Nat.le_of_ble_eq_true rfl) dX5_number_17 rfl (fun H locs Z => ?_)
        refine lv_if_eq (tgt := 52) hx hb dX5_number_20 (by decide) (fun c9 => ?_) (fun c9 => ?_)
        · rw [if_pos c9] at hF
          refine lv_aload_n hx hb dX5_number_52 rfl (lv_at hl 0 rfl) ?_
          refine lv_dup hx hb dX5_number_53 rfl ?_
          refine kget Fc Z inX5 0 rfl rfl 10 (by decide) mF_RX5_44 rfl rfl dX5_number_54 ?_
          refine lv_iload_n hx hb dX5_number_57 rfl (lv_at hl 2 rfl) ?_
          refine lv_if_ne (tgt := 65) hx hb dX5_number_58 (by decide) (fun c10 => ?_) (fun c10 => ?_)
          · rw [if_neg c10] at hF
            refine lv_iconst (v := (0 : Int32)) hx hb dX5_number_65 (by decide) ?_
            refine kior (z := (bi ρ.2.2)) hx hb (bi_or0 _) dX5_number_66 ?_
            obtain ⟨ρ11, e12, hF⟩ := bnd_el hF
            refine kput (v := .int (bi ρ.2.2)) (ty := .boolean) (w' := mW am cI ρ11) Fc Z inX5 tyX5 tyX5_ok nmX5 0 rfl rfl 10 (by decide) mF_RX5_44 rfl rfl rfl (bi_nar ρ.2.2) (bi_fit ρ.2.2) (Nat.le_of_ble_eq_true rfl) (by rw [e12]; rfl) dX5_number_67 (fun H locs Z => ?_)
            refine lv_iload_n hx hb dX5_number_70 rfl (lv_at hl 1 rfl) ?_
            exact kret x1 ρ11 _ _ _ _ ⟨(pfst (Option.some.inj hF)), psnd (Option.some.inj hF), trivial⟩ Z dX5_number_71
          · rw [if_pos c10] at hF
            refine lv_iconst (v := (1 : Int32)) hx hb dX5_number_61 (by decide) ?_
            refine lv_goto (tgt := 66) hx hb dX5_number_62 (by decide) ?_
            refine kior (z := (bi true)) hx hb (bi_or1 _) dX5_number_66 ?_
            obtain ⟨ρ13, e14, hF⟩ := bnd_el hF
            refine kput (v := .int (bi true)) (ty := .boolean) (w' := mW am cI ρ13) Fc Z inX5 tyX5 tyX5_ok nmX5 0 rfl rfl 10 (by decide) mF_RX5_44 rfl rfl rfl (bi_nar true) (bi_fit true) (Nat.le_of_ble_eq_true rfl) (by rw [e14]; rfl) dX5_number_67 (fun H locs Z => ?_)
            refine lv_iload_n hx hb dX5_number_70 rfl (lv_at hl 1 rfl) ?_
            exact kret x1 ρ13 _ _ _ _ ⟨(pfst (Option.some.inj hF)), psnd (Option.some.inj hF), trivial⟩ Z dX5_number_71
        · rw [if_neg c9] at hF
          refine lv_bipush (v := (10 : Int32)) hx hb dX5_number_23 (by decide) ?_
          refine lv_iload_n hx hb dX5_number_25 rfl (lv_at hl 1 rfl) ?_
          refine lv_imul hx hb dX5_number_26 ?_
          refine lv_aload_n hx hb dX5_number_27 rfl (lv_at hl 0 rfl) ?_
          obtain ⟨v15, h16, hF⟩ := obind hF
          refine kr_i (As := []) Fc hA Z Lens.all (c_X5_sign l D cI cS am ρ  v15 h16) mL_RX5_214 v_X5_sign ⟨rfl, rfl⟩ ⟨Nat.le_of_ble_eq_true rfl, Nat.le_of_ble_eq_true rfl⟩ ⟨Nat.zero_le _, Nat.zero_le _⟩ 0 5 rfl rfl rfl hl (Nat.le_of_ble_eq_true rfl) dX5_number_28 rfl (fun H locs Z => ?_)
          refine lv_iadd hx hb dX5_number_31 ?_
          refine lv_bipush (v := (48 : Int32)) hx hb dX5_number_32 (by decide) ?_
          refine lv_isub hx hb dX5_number_34 ?_
          refine lv_istore_n (lv' := [(1, .int ((((10 : Int32) * x1) + v15) - (48 : Int32))), (0, .ref (am 0)), (2, .int x2)]) hx hb dX5_number_35 rfl hl (by decide) rfl (fun ls hl => ?_)
          refine lv_aload_n hx hb dX5_number_36 rfl (lv_at hl 1 rfl) ?_
          refine lv_dup hx hb dX5_number_37 rfl ?_
          refine kget Fc Z inX5 0 rfl rfl 9 (by decide) mF_RX5_41 rfl rfl dX5_number_38 ?_
          refine lv_iconst (v := (1 : Int32)) hx hb dX5_number_41 (by decide) ?_
          refine lv_iadd hx hb dX5_number_42 ?_
          obtain ⟨ρ17, e18, hF⟩ := bnd_el hF
          refine kput (v := .int (((ρ.1.2 2) + (1 : Int32)))) (ty := .int) (w' := mW am cI ρ17) Fc Z inX5 tyX5 tyX5_ok nmX5 0 rfl rfl 9 (by decide) mF_RX5_41 rfl rfl rfl rfl rfl (Nat.le_of_ble_eq_true rfl) (by rw [e18]; rfl) dX5_number_43 (fun H locs Z => ?_)
          refine lv_iinc (v := (x2 + (1 : Int32))) (lv' := [(2, .int (x2 + (1 : Int32))), (1, .int ((((10 : Int32) * x1) + v15) - (48 : Int32))), (0, .ref (am 0))]) hx hb dX5_number_46 hl (k := 2) rfl (by rfl) (by decide) rfl (fun ls hl => ?_)
          refine lv_goto (tgt := 4) hx hb dX5_number_49 (by decide) ?_
          exact ih (((((10 : Int32) * x1) + v15) - (48 : Int32))) ((x2 + (1 : Int32))) ρ17 _ _ _ hF Z (lv_sub hl [2, 1, 0] rfl)
  unfold X5_number at hF
  refine lv_iconst (v := (0 : Int32)) hx hb dX5_number_0 (by decide) ?_
  refine lv_istore_n (lv' := [(1, .int (0 : Int32)), (0, .ref (am 0))]) hx hb dX5_number_1 rfl hl (by decide) rfl (fun ls hl => ?_)
  refine lv_iconst (v := (0 : Int32)) hx hb dX5_number_2 (by decide) ?_
  refine lv_istore_n (lv' := [(2, .int (0 : Int32)), (1, .int (0 : Int32)), (0, .ref (am 0))]) hx hb dX5_number_3 rfl hl (by decide) rfl (fun ls hl => ?_)
  exact L4  FU (0 : Int32) (0 : Int32) ρ _ _ _ hF Z (lv_sub hl [2, 1, 0] rfl)
def X5_command_L101 (x1 : Int32) (x2 : Int32) : Nat → Int32 → Ms → Option (Int32 × Ms)
  | 0, _, _ => none
  | k + 1, x3, ρ => if x2 ≤ x3 then (some (x1, ρ)) else if (bi ρ.2.2) = 0 then ((X5_sign ρ).bind fun v3 => if v3 = (32 : Int32) then (bnd (msW ρ ρ.2.2) fun ρ6 => if (bi ρ6.2.2) = 0 then (bnd (msI ρ6 2 ((ρ6.1.2 2) + (1 : Int32))) fun ρ9 => (X5_number ρ9).bind fun q11 => (wrA (q11.2.1.1 5) 3 x3 q11.1).bind fun g13 => bnd (msA q11.2 5 g13) fun ρ15 => X5_command_L101 x1 x2 k ((x3 + (1 : Int32))) ρ15) else X5_command_L101 x1 x2 k ((x3 + (1 : Int32))) ρ6) else bnd (msW ρ true) fun ρ17 => if (bi ρ17.2.2) = 0 then (bnd (msI ρ17 2 ((ρ17.1.2 2) + (1 : Int32))) fun ρ20 => (X5_number ρ20).bind fun q22 => (wrA (q22.2.1.1 5) 3 x3 q22.1).bind fun g24 => bnd (msA q22.2 5 g24) fun ρ26 => X5_command_L101 x1 x2 k ((x3 + (1 : Int32))) ρ26) else X5_command_L101 x1 x2 k ((x3 + (1 : Int32))) ρ17) else some (x1, ρ)
def X5_command (ρ : Ms) : Option (Int32 × Ms) := (X5_sign ρ).bind fun v28 => if v28 = (111 : Int32) then (bnd (msW ρ ρ.2.2) fun ρ32 => if (bi ρ32.2.2) = 0 then (bnd (msI ρ32 2 ((ρ32.1.2 2) + (1 : Int32))) fun ρ35 => X5_command_L101 v28 (2 : Int32) FU (0 : Int32) ρ35) else some (((-2 : Int32), ρ32))) else if v28 = (105 : Int32) then (bnd (msW ρ ρ.2.2) fun ρ39 => if (bi ρ39.2.2) = 0 then (bnd (msI ρ39 2 ((ρ39.1.2 2) + (1 : Int32))) fun ρ42 => X5_command_L101 v28 (2 : Int32) FU (0 : Int32) ρ42) else some (((-2 : Int32), ρ39))) else if v28 = (99 : Int32) then (bnd (msW ρ ρ.2.2) fun ρ46 => if (bi ρ46.2.2) = 0 then (bnd (msI ρ46 2 ((ρ46.1.2 2) + (1 : Int32))) fun ρ49 => X5_command_L101 v28 (2 : Int32) FU (0 : Int32) ρ49) else some (((-2 : Int32), ρ46))) else if v28 = (112 : Int32) then (bnd (msW ρ ρ.2.2) fun ρ80 => if (bi ρ80.2.2) = 0 then (bnd (msI ρ80 2 ((ρ80.1.2 2) + (1 : Int32))) fun ρ83 => X5_command_L101 v28 (2 : Int32) FU (0 : Int32) ρ83) else some (((-2 : Int32), ρ80))) else if v28 = (104 : Int32) then (bnd (msW ρ ρ.2.2) fun ρ74 => if (bi ρ74.2.2) = 0 then (bnd (msI ρ74 2 ((ρ74.1.2 2) + (1 : Int32))) fun ρ77 => X5_command_L101 v28 (3 : Int32) FU (0 : Int32) ρ77) else some (((-2 : Int32), ρ74))) else if v28 = (114 : Int32) then (bnd (msW ρ ρ.2.2) fun ρ55 => if (bi ρ55.2.2) = 0 then (bnd (msI ρ55 2 ((ρ55.1.2 2) + (1 : Int32))) fun ρ58 => X5_command_L101 v28 (1 : Int32) FU (0 : Int32) ρ58) else some (((-2 : Int32), ρ55))) else if v28 = (100 : Int32) then (bnd (msW ρ ρ.2.2) fun ρ68 => if (bi ρ68.2.2) = 0 then (bnd (msI ρ68 2 ((ρ68.1.2 2) + (1 : Int32))) fun ρ71 => X5_command_L101 v28 (1 : Int32) FU (0 : Int32) ρ71) else some (((-2 : Int32), ρ68))) else bnd (msW ρ true) fun ρ62 => if (bi ρ62.2.2) = 0 then (bnd (msI ρ62 2 ((ρ62.1.2 2) + (1 : Int32))) fun ρ65 => X5_command_L101 v28 (0 : Int32) FU (0 : Int32) ρ65) else some (((-2 : Int32), ρ62))
def rm_X5_command : Room := { frames := 2, cells := 0, slots := 0, locals := 44 }
theorem v_X5_command : WdV RX5 yX5_command cX5_command 4 (some .int) 0 := ⟨mI_X5_command, mS_X5_command, mZ_RX5, mC_X5_command, by decide +kernel⟩
set_option maxHeartbeats 8000000 in
set_option maxRecDepth 100000 in
theorem c_X5_command (l : Launch) (D : va_G) (cI cS : ClassId) (am : Nat → Nat) (ρ : Ms) (F : Int32 × Ms) (hF : X5_command ρ = some F) : MI l yX5_command cX5_command 4 (some .int) rm_X5_command D cI cS [.ref (am 0)] (mW am cI ρ) (mW am cI) (fun r u => r = F.1 ∧ u = F.2 ∧ True) := by
  refine MI.mk RX5 rfl .int rfl (by decide) (Nat.le_of_ble_eq_true rfl) (fun _ _ _ => rfl) ?_
  intro p e s m args below meth c A Q ls Fc hin hA Z kret hl
  obtain ⟨hx, hb, hml, hown, hts, hKN⟩ := id Fc
  replace hl : lv_has ls 4 [(0, .ref (am 0))] := hl
  have L101 : ∀ (x1 : Int32) (x2 : Int32) (k : Nat) (x3 : Int32) (ρ : Ms) (H : Heap) (locs : List Loc) (ls : Array Slot), X5_command_L101 x1 x2  k x3 ρ = some F → Ix D A s (mW am cI ρ) H locs → lv_has ls 4 [(0, .ref (am 0)), (1, .int x1), (2, .int x2), (3, .int x3)] → W p l e rm_X5_command s m args below meth c H locs 0 0 Q (F0 m 101 ls []) := by
    intro x1 x2 k
    induction k with
    | zero => intro x3 ρ H locs ls hF; rw [X5_command_L101] at hF; cases hF
    | succ k ih =>
      intro x3 ρ H locs ls hF Z hl
      rw [X5_command_L101] at hF
      refine lv_iload_n hx hb dX5_command_101 rfl (lv_at hl 3 rfl) ?_
      refine lv_iload_n hx hb dX5_command_102 rfl (lv_at hl 2 rfl) ?_
      refine lv_icmp_ge (tgt := 172) hx hb dX5_command_103 (by decide) (fun c1 => ?_) (fun c1 => ?_)
      · rw [if_pos c1] at hF
        refine lv_iload_n hx hb dX5_command_172 rfl (lv_at hl 1 rfl) ?_
        exact kret x1 ρ _ _ _ _ ⟨(pfst (Option.some.inj hF)), psnd (Option.some.inj hF), trivial⟩ Z dX5_command_173
      · rw [if_neg c1] at hF
        refine lv_aload_n hx hb dX5_command_106 rfl (lv_at hl 0 rfl) ?_
        refine kget Fc Z inX5 0 rfl rfl 10 (by decide) mF_RX5_44 rfl rfl dX5_command_107 ?_
        refine lv_if_ne (tgt := 172) hx hb dX5_command_110 (by decide) (fun c2 => ?_) (fun c2 => ?_)
        · rw [if_neg c2] at hF
          refine lv_iload_n hx hb dX5_command_172 rfl (lv_at hl 1 rfl) ?_
          exact kret x1 ρ _ _ _ _ ⟨(pfst (Option.some.inj hF)), psnd (Option.some.inj hF), trivial⟩ Z dX5_command_173
        · rw [if_pos c2] at hF
          refine lv_aload_n hx hb dX5_command_113 rfl (lv_at hl 0 rfl) ?_
          refine lv_dup hx hb dX5_command_114 rfl ?_
          refine kget Fc Z inX5 0 rfl rfl 10 (by decide) mF_RX5_44 rfl rfl dX5_command_115 ?_
          refine lv_aload_n hx hb dX5_command_118 rfl (lv_at hl 0 rfl) ?_
          obtain ⟨v3, h4, hF⟩ := obind hF
          refine kr_i (As := []) Fc hA Z Lens.all (c_X5_sign l D cI cS am ρ  v3 h4) mL_RX5_214 v_X5_sign ⟨rfl, rfl⟩ ⟨Nat.le_of_ble_eq_true rfl, Nat.le_of_ble_eq_true rfl⟩ ⟨Nat.zero_le _, Nat.zero_le _⟩ 0 5 rfl rfl rfl hl (Nat.le_of_ble_eq_true rfl) dX5_command_119 rfl (fun H locs Z => ?_)
          refine lv_bipush (v := (32 : Int32)) hx hb dX5_command_122 (by decide) ?_
          refine lv_icmp_eq (tgt := 131) hx hb dX5_command_124 (by decide) (fun c5 => ?_) (fun c5 => ?_)
          · rw [if_pos c5] at hF
            refine lv_iconst (v := (0 : Int32)) hx hb dX5_command_131 (by decide) ?_
            refine kior (z := (bi ρ.2.2)) hx hb (bi_or0 _) dX5_command_132 ?_
            obtain ⟨ρ6, e7, hF⟩ := bnd_el hF
            refine kput (v := .int (bi ρ.2.2)) (ty := .boolean) (w' := mW am cI ρ6) Fc Z inX5 tyX5 tyX5_ok nmX5 0 rfl rfl 10 (by decide) mF_RX5_44 rfl rfl rfl (bi_nar ρ.2.2) (bi_fit ρ.2.2) (Nat.le_of_ble_eq_true rfl) (by rw [e7]; rfl) dX5_command_133 (fun H locs Z => ?_)
            refine lv_aload_n hx hb dX5_command_136 rfl (lv_at hl 0 rfl) ?_
            refine kget Fc Z inX5 0 rfl rfl 10 (by decide) mF_RX5_44 rfl rfl dX5_command_137 ?_
            refine lv_if_eq (tgt := 146) hx hb dX5_command_140 (by decide) (fun c8 => ?_) (fun c8 => ?_)
            · rw [if_pos c8] at hF
              refine lv_aload_n hx hb dX5_command_146 rfl (lv_at hl 0 rfl) ?_
              refine lv_dup hx hb dX5_command_147 rfl ?_
              refine kget Fc Z inX5 0 rfl rfl 9 (by decide) mF_RX5_41 rfl rfl dX5_command_148 ?_
              refine lv_iconst (v := (1 : Int32)) hx hb dX5_command_151 (by decide) ?_
              refine lv_iadd hx hb dX5_command_152 ?_
              obtain ⟨ρ9, e10, hF⟩ := bnd_el hF
              refine kput (v := .int (((ρ6.1.2 2) + (1 : Int32)))) (ty := .int) (w' := mW am cI ρ9) Fc Z inX5 tyX5 tyX5_ok nmX5 0 rfl rfl 9 (by decide) mF_RX5_41 rfl rfl rfl rfl rfl (Nat.le_of_ble_eq_true rfl) (by rw [e10]; rfl) dX5_command_153 (fun H locs Z => ?_)
              refine lv_aload_n hx hb dX5_command_156 rfl (lv_at hl 0 rfl) ?_
              refine kget Fc Z inX5 0 rfl rfl 7 (by decide) mF_RX5_35 rfl rfl dX5_command_157 ?_
              refine lv_iload_n hx hb dX5_command_160 rfl (lv_at hl 3 rfl) ?_
              refine lv_aload_n hx hb dX5_command_161 rfl (lv_at hl 0 rfl) ?_
              obtain ⟨q11, h12, hF⟩ := obind hF
              refine km_i (As := []) (ok := (fun _ => True)) Fc hA Z Lens.all (c_X5_number l D cI cS am ρ9  q11 h12) mL_RX5_218 v_X5_number ⟨rfl, rfl⟩ ⟨Nat.le_of_ble_eq_true rfl, Nat.le_of_ble_eq_true rfl⟩ ⟨Nat.zero_le _, Nat.zero_le _⟩ 0 5 rfl rfl rfl hl (Nat.le_of_ble_eq_true rfl) dX5_command_162 rfl (fun H locs ok1 Z => ?_)
              obtain ⟨g13, h14, hF⟩ := obind hF
              obtain ⟨ρ15, e16, hF⟩ := bnd_el hF
              refine kast (w' := mW am cI ρ15) Fc Z 6 rfl h14 (by rw [e16]; rfl) dX5_command_165 (fun H locs Z => ?_)
              refine lv_iinc (v := (x3 + (1 : Int32))) (lv' := [(3, .int (x3 + (1 : Int32))), (0, .ref (am 0)), (1, .int x1), (2, .int x2)]) hx hb dX5_command_166 hl (k := 3) rfl (by rfl) (by decide) rfl (fun ls hl => ?_)
              refine lv_goto (tgt := 101) hx hb dX5_command_169 (by decide) ?_
              exact ih ((x3 + (1 : Int32))) ρ15 _ _ _ hF Z (lv_sub hl [1, 2, 3, 0] rfl)
            · rw [if_neg c8] at hF
              refine lv_goto (tgt := 166) hx hb dX5_command_143 (by decide) ?_
              refine lv_iinc (v := (x3 + (1 : Int32))) (lv' := [(3, .int (x3 + (1 : Int32))), (0, .ref (am 0)), (1, .int x1), (2, .int x2)]) hx hb dX5_command_166 hl (k := 3) rfl (by rfl) (by decide) rfl (fun ls hl => ?_)
              refine lv_goto (tgt := 101) hx hb dX5_command_169 (by decide) ?_
              exact ih ((x3 + (1 : Int32))) ρ6 _ _ _ hF Z (lv_sub hl [1, 2, 3, 0] rfl)
          · rw [if_neg c5] at hF
            refine lv_iconst (v := (1 : Int32)) hx hb dX5_command_127 (by decide) ?_
            refine lv_goto (tgt := 132) hx hb dX5_command_128 (by decide) ?_
            refine kior (z := (bi true)) hx hb (bi_or1 _) dX5_command_132 ?_
            obtain ⟨ρ17, e18, hF⟩ := bnd_el hF
            refine kput (v := .int (bi true)) (ty := .boolean) (w' := mW am cI ρ17) Fc Z inX5 tyX5 tyX5_ok nmX5 0 rfl rfl 10 (by decide) mF_RX5_44 rfl rfl rfl (bi_nar true) (bi_fit true) (Nat.le_of_ble_eq_true rfl) (by rw [e18]; rfl) dX5_command_133 (fun H locs Z => ?_)
            refine lv_aload_n hx hb dX5_command_136 rfl (lv_at hl 0 rfl) ?_
            refine kget Fc Z inX5 0 rfl rfl 10 (by decide) mF_RX5_44 rfl rfl dX5_command_137 ?_
            refine lv_if_eq (tgt := 146) hx hb dX5_command_140 (by decide) (fun c19 => ?_) (fun c19 => ?_)
            · rw [if_pos c19] at hF
              refine lv_aload_n hx hb dX5_command_146 rfl (lv_at hl 0 rfl) ?_
              refine lv_dup hx hb dX5_command_147 rfl ?_
              refine kget Fc Z inX5 0 rfl rfl 9 (by decide) mF_RX5_41 rfl rfl dX5_command_148 ?_
              refine lv_iconst (v := (1 : Int32)) hx hb dX5_command_151 (by decide) ?_
              refine lv_iadd hx hb dX5_command_152 ?_
              obtain ⟨ρ20, e21, hF⟩ := bnd_el hF
              refine kput (v := .int (((ρ17.1.2 2) + (1 : Int32)))) (ty := .int) (w' := mW am cI ρ20) Fc Z inX5 tyX5 tyX5_ok nmX5 0 rfl rfl 9 (by decide) mF_RX5_41 rfl rfl rfl rfl rfl (Nat.le_of_ble_eq_true rfl) (by rw [e21]; rfl) dX5_command_153 (fun H locs Z => ?_)
              refine lv_aload_n hx hb dX5_command_156 rfl (lv_at hl 0 rfl) ?_
              refine kget Fc Z inX5 0 rfl rfl 7 (by decide) mF_RX5_35 rfl rfl dX5_command_157 ?_
              refine lv_iload_n hx hb dX5_command_160 rfl (lv_at hl 3 rfl) ?_
              refine lv_aload_n hx hb dX5_command_161 rfl (lv_at hl 0 rfl) ?_
              obtain ⟨q22, h23, hF⟩ := obind hF
              refine km_i (As := []) (ok := (fun _ => True)) Fc hA Z Lens.all (c_X5_number l D cI cS am ρ20  q22 h23) mL_RX5_218 v_X5_number ⟨rfl, rfl⟩ ⟨Nat.le_of_ble_eq_true rfl, Nat.le_of_ble_eq_true rfl⟩ ⟨Nat.zero_le _, Nat.zero_le _⟩ 0 5 rfl rfl rfl hl (Nat.le_of_ble_eq_true rfl) dX5_command_162 rfl (fun H locs ok1 Z => ?_)
              obtain ⟨g24, h25, hF⟩ := obind hF
              obtain ⟨ρ26, e27, hF⟩ := bnd_el hF
              refine kast (w' := mW am cI ρ26) Fc Z 6 rfl h25 (by rw [e27]; rfl) dX5_command_165 (fun H locs Z => ?_)
              refine lv_iinc (v := (x3 + (1 : Int32))) (lv' := [(3, .int (x3 + (1 : Int32))), (0, .ref (am 0)), (1, .int x1), (2, .int x2)]) hx hb dX5_command_166 hl (k := 3) rfl (by rfl) (by decide) rfl (fun ls hl => ?_)
              refine lv_goto (tgt := 101) hx hb dX5_command_169 (by decide) ?_
              exact ih ((x3 + (1 : Int32))) ρ26 _ _ _ hF Z (lv_sub hl [1, 2, 3, 0] rfl)
            · rw [if_neg c19] at hF
              refine lv_goto (tgt := 166) hx hb dX5_command_143 (by decide) ?_
              refine lv_iinc (v := (x3 + (1 : Int32))) (lv' := [(3, .int (x3 + (1 : Int32))), (0, .ref (am 0)), (1, .int x1), (2, .int x2)]) hx hb dX5_command_166 hl (k := 3) rfl (by rfl) (by decide) rfl (fun ls hl => ?_)
              refine lv_goto (tgt := 101) hx hb dX5_command_169 (by decide) ?_
              exact ih ((x3 + (1 : Int32))) ρ17 _ _ _ hF Z (lv_sub hl [1, 2, 3, 0] rfl)
  unfold X5_command at hF
  refine lv_aload_n hx hb dX5_command_0 rfl (lv_at hl 0 rfl) ?_
  obtain ⟨v28, h29, hF⟩ := obind hF
  refine kr_i (As := []) Fc hA Z Lens.all (c_X5_sign l D cI cS am ρ  v28 h29) mL_RX5_214 v_X5_sign ⟨rfl, rfl⟩ ⟨Nat.le_of_ble_eq_true rfl, Nat.le_of_ble_eq_true rfl⟩ ⟨Nat.zero_le _, Nat.zero_le _⟩ 0 5 rfl rfl rfl hl (Nat.le_of_ble_eq_true rfl) dX5_command_1 rfl (fun H locs Z => ?_)
  refine lv_istore_n (lv' := [(1, .int v28), (0, .ref (am 0))]) hx hb dX5_command_4 rfl hl (by decide) rfl (fun ls hl => ?_)
  refine lv_iload_n hx hb dX5_command_5 rfl (lv_at hl 0 rfl) ?_
  refine lv_bipush (v := (111 : Int32)) hx hb dX5_command_6 (by decide) ?_
  refine lv_icmp_eq (tgt := 29) hx hb dX5_command_8 (by decide) (fun c30 => ?_) (fun c30 => ?_)
  · rw [if_pos c30] at hF
    refine lv_iconst (v := (2 : Int32)) hx hb dX5_command_29 (by decide) ?_
    refine lv_goto (tgt := 60) hx hb dX5_command_30 (by decide) ?_
    refine lv_istore_n (lv' := [(2, .int (2 : Int32)), (1, .int v28), (0, .ref (am 0))]) hx hb dX5_command_60 rfl hl (by decide) rfl (fun ls hl => ?_)
    refine lv_aload_n hx hb dX5_command_61 rfl (lv_at hl 2 rfl) ?_
    refine lv_dup hx hb dX5_command_62 rfl ?_
    refine kget Fc Z inX5 0 rfl rfl 10 (by decide) mF_RX5_44 rfl rfl dX5_command_63 ?_
    refine lv_iload_n hx hb dX5_command_66 rfl (lv_at hl 0 rfl) ?_
    refine lv_if_ne (tgt := 74) hx hb dX5_command_67 (by decide) (fun _ => ?_) (fun c31 => absurd c31 (by decide))
    refine lv_iconst (v := (0 : Int32)) hx hb dX5_command_74 (by decide) ?_
    refine kior (z := (bi ρ.2.2)) hx hb (bi_or0 _) dX5_command_75 ?_
    obtain ⟨ρ32, e33, hF⟩ := bnd_el hF
    refine kput (v := .int (bi ρ.2.2)) (ty := .boolean) (w' := mW am cI ρ32) Fc Z inX5 tyX5 tyX5_ok nmX5 0 rfl rfl 10 (by decide) mF_RX5_44 rfl rfl rfl (bi_nar ρ.2.2) (bi_fit ρ.2.2) (Nat.le_of_ble_eq_true rfl) (by rw [e33]; rfl) dX5_command_76 (fun H locs Z => ?_)
    refine lv_aload_n hx hb dX5_command_79 rfl (lv_at hl 2 rfl) ?_
    refine kget Fc Z inX5 0 rfl rfl 10 (by decide) mF_RX5_44 rfl rfl dX5_command_80 ?_
    refine lv_if_eq (tgt := 89) hx hb dX5_command_83 (by decide) (fun c34 => ?_) (fun c34 => ?_)
    · rw [if_pos c34] at hF
      refine lv_aload_n hx hb dX5_command_89 rfl (lv_at hl 2 rfl) ?_
      refine lv_dup hx hb dX5_command_90 rfl ?_
      refine kget Fc Z inX5 0 rfl rfl 9 (by decide) mF_RX5_41 rfl rfl dX5_command_91 ?_
      refine lv_iconst (v := (1 : Int32)) hx hb dX5_command_94 (by decide) ?_
      refine lv_iadd hx hb dX5_command_95 ?_
      obtain ⟨ρ35, e36, hF⟩ := bnd_el hF
      refine kput (v := .int (((ρ32.1.2 2) + (1 : Int32)))) (ty := .int) (w' := mW am cI ρ35) Fc Z inX5 tyX5 tyX5_ok nmX5 0 rfl rfl 9 (by decide) mF_RX5_41 rfl rfl rfl rfl rfl (Nat.le_of_ble_eq_true rfl) (by rw [e36]; rfl) dX5_command_96 (fun H locs Z => ?_)
      refine lv_iconst (v := (0 : Int32)) hx hb dX5_command_99 (by decide) ?_
      refine lv_istore_n (lv' := [(3, .int (0 : Int32)), (2, .int (2 : Int32)), (1, .int v28), (0, .ref (am 0))]) hx hb dX5_command_100 rfl hl (by decide) rfl (fun ls hl => ?_)
      exact L101 v28 (2 : Int32) FU (0 : Int32) ρ35 _ _ _ hF Z (lv_sub hl [3, 2, 1, 0] rfl)
    · rw [if_neg c34] at hF
      refine lv_bipush (v := (-2 : Int32)) hx hb dX5_command_86 (by decide) ?_
      exact kret (-2 : Int32) ρ32 _ _ _ _ ⟨(pfst (Option.some.inj hF)), psnd (Option.some.inj hF), trivial⟩ Z dX5_command_88
  · rw [if_neg c30] at hF
    refine lv_iload_n hx hb dX5_command_11 rfl (lv_at hl 0 rfl) ?_
    refine lv_bipush (v := (105 : Int32)) hx hb dX5_command_12 (by decide) ?_
    refine lv_icmp_eq (tgt := 29) hx hb dX5_command_14 (by decide) (fun c37 => ?_) (fun c37 => ?_)
    · rw [if_pos c37] at hF
      refine lv_iconst (v := (2 : Int32)) hx hb dX5_command_29 (by decide) ?_
      refine lv_goto (tgt := 60) hx hb dX5_command_30 (by decide) ?_
      refine lv_istore_n (lv' := [(2, .int (2 : Int32)), (1, .int v28), (0, .ref (am 0))]) hx hb dX5_command_60 rfl hl (by decide) rfl (fun ls hl => ?_)
      refine lv_aload_n hx hb dX5_command_61 rfl (lv_at hl 2 rfl) ?_
      refine lv_dup hx hb dX5_command_62 rfl ?_
      refine kget Fc Z inX5 0 rfl rfl 10 (by decide) mF_RX5_44 rfl rfl dX5_command_63 ?_
      refine lv_iload_n hx hb dX5_command_66 rfl (lv_at hl 0 rfl) ?_
      refine lv_if_ne (tgt := 74) hx hb dX5_command_67 (by decide) (fun _ => ?_) (fun c38 => absurd c38 (by decide))
      refine lv_iconst (v := (0 : Int32)) hx hb dX5_command_74 (by decide) ?_
      refine kior (z := (bi ρ.2.2)) hx hb (bi_or0 _) dX5_command_75 ?_
      obtain ⟨ρ39, e40, hF⟩ := bnd_el hF
      refine kput (v := .int (bi ρ.2.2)) (ty := .boolean) (w' := mW am cI ρ39) Fc Z inX5 tyX5 tyX5_ok nmX5 0 rfl rfl 10 (by decide) mF_RX5_44 rfl rfl rfl (bi_nar ρ.2.2) (bi_fit ρ.2.2) (Nat.le_of_ble_eq_true rfl) (by rw [e40]; rfl) dX5_command_76 (fun H locs Z => ?_)
      refine lv_aload_n hx hb dX5_command_79 rfl (lv_at hl 2 rfl) ?_
      refine kget Fc Z inX5 0 rfl rfl 10 (by decide) mF_RX5_44 rfl rfl dX5_command_80 ?_
      refine lv_if_eq (tgt := 89) hx hb dX5_command_83 (by decide) (fun c41 => ?_) (fun c41 => ?_)
      · rw [if_pos c41] at hF
        refine lv_aload_n hx hb dX5_command_89 rfl (lv_at hl 2 rfl) ?_
        refine lv_dup hx hb dX5_command_90 rfl ?_
        refine kget Fc Z inX5 0 rfl rfl 9 (by decide) mF_RX5_41 rfl rfl dX5_command_91 ?_
        refine lv_iconst (v := (1 : Int32)) hx hb dX5_command_94 (by decide) ?_
        refine lv_iadd hx hb dX5_command_95 ?_
        obtain ⟨ρ42, e43, hF⟩ := bnd_el hF
        refine kput (v := .int (((ρ39.1.2 2) + (1 : Int32)))) (ty := .int) (w' := mW am cI ρ42) Fc Z inX5 tyX5 tyX5_ok nmX5 0 rfl rfl 9 (by decide) mF_RX5_41 rfl rfl rfl rfl rfl (Nat.le_of_ble_eq_true rfl) (by rw [e43]; rfl) dX5_command_96 (fun H locs Z => ?_)
        refine lv_iconst (v := (0 : Int32)) hx hb dX5_command_99 (by decide) ?_
        refine lv_istore_n (lv' := [(3, .int (0 : Int32)), (2, .int (2 : Int32)), (1, .int v28), (0, .ref (am 0))]) hx hb dX5_command_100 rfl hl (by decide) rfl (fun ls hl => ?_)
        exact L101 v28 (2 : Int32) FU (0 : Int32) ρ42 _ _ _ hF Z (lv_sub hl [3, 2, 1, 0] rfl)
      · rw [if_neg c41] at hF
        refine lv_bipush (v := (-2 : Int32)) hx hb dX5_command_86 (by decide) ?_
        exact kret (-2 : Int32) ρ39 _ _ _ _ ⟨(pfst (Option.some.inj hF)), psnd (Option.some.inj hF), trivial⟩ Z dX5_command_88
    · rw [if_neg c37] at hF
      refine lv_iload_n hx hb dX5_command_17 rfl (lv_at hl 0 rfl) ?_
      refine lv_bipush (v := (99 : Int32)) hx hb dX5_command_18 (by decide) ?_
      refine lv_icmp_eq (tgt := 29) hx hb dX5_command_20 (by decide) (fun c44 => ?_) (fun c44 => ?_)
      · rw [if_pos c44] at hF
        refine lv_iconst (v := (2 : Int32)) hx hb dX5_command_29 (by decide) ?_
        refine lv_goto (tgt := 60) hx hb dX5_command_30 (by decide) ?_
        refine lv_istore_n (lv' := [(2, .int (2 : Int32)), (1, .int v28), (0, .ref (am 0))]) hx hb dX5_command_60 rfl hl (by decide) rfl (fun ls hl => ?_)
        refine lv_aload_n hx hb dX5_command_61 rfl (lv_at hl 2 rfl) ?_
        refine lv_dup hx hb dX5_command_62 rfl ?_
        refine kget Fc Z inX5 0 rfl rfl 10 (by decide) mF_RX5_44 rfl rfl dX5_command_63 ?_
        refine lv_iload_n hx hb dX5_command_66 rfl (lv_at hl 0 rfl) ?_
        refine lv_if_ne (tgt := 74) hx hb dX5_command_67 (by decide) (fun _ => ?_) (fun c45 => absurd c45 (by decide))
        refine lv_iconst (v := (0 : Int32)) hx hb dX5_command_74 (by decide) ?_
        refine kior (z := (bi ρ.2.2)) hx hb (bi_or0 _) dX5_command_75 ?_
        obtain ⟨ρ46, e47, hF⟩ := bnd_el hF
        refine kput (v := .int (bi ρ.2.2)) (ty := .boolean) (w' := mW am cI ρ46) Fc Z inX5 tyX5 tyX5_ok nmX5 0 rfl rfl 10 (by decide) mF_RX5_44 rfl rfl rfl (bi_nar ρ.2.2) (bi_fit ρ.2.2) (Nat.le_of_ble_eq_true rfl) (by rw [e47]; rfl) dX5_command_76 (fun H locs Z => ?_)
        refine lv_aload_n hx hb dX5_command_79 rfl (lv_at hl 2 rfl) ?_
        refine kget Fc Z inX5 0 rfl rfl 10 (by decide) mF_RX5_44 rfl rfl dX5_command_80 ?_
        refine lv_if_eq (tgt := 89) hx hb dX5_command_83 (by decide) (fun c48 => ?_) (fun c48 => ?_)
        · rw [if_pos c48] at hF
          refine lv_aload_n hx hb dX5_command_89 rfl (lv_at hl 2 rfl) ?_
          refine lv_dup hx hb dX5_command_90 rfl ?_
          refine kget Fc Z inX5 0 rfl rfl 9 (by decide) mF_RX5_41 rfl rfl dX5_command_91 ?_
          refine lv_iconst (v := (1 : Int32)) hx hb dX5_command_94 (by decide) ?_
          refine lv_iadd hx hb dX5_command_95 ?_
          obtain ⟨ρ49, e50, hF⟩ := bnd_el hF
          refine kput (v := .int (((ρ46.1.2 2) + (1 : Int32)))) (ty := .int) (w' := mW am cI ρ49) Fc Z inX5 tyX5 tyX5_ok nmX5 0 rfl rfl 9 (by decide) mF_RX5_41 rfl rfl rfl rfl rfl (Nat.le_of_ble_eq_true rfl) (by rw [e50]; rfl) dX5_command_96 (fun H locs Z => ?_)
          refine lv_iconst (v := (0 : Int32)) hx hb dX5_command_99 (by decide) ?_
          refine lv_istore_n (lv' := [(3, .int (0 : Int32)), (2, .int (2 : Int32)), (1, .int v28), (0, .ref (am 0))]) hx hb dX5_command_100 rfl hl (by decide) rfl (fun ls hl => ?_)
          exact L101 v28 (2 : Int32) FU (0 : Int32) ρ49 _ _ _ hF Z (lv_sub hl [3, 2, 1, 0] rfl)
        · rw [if_neg c48] at hF
          refine lv_bipush (v := (-2 : Int32)) hx hb dX5_command_86 (by decide) ?_
          exact kret (-2 : Int32) ρ46 _ _ _ _ ⟨(pfst (Option.some.inj hF)), psnd (Option.some.inj hF), trivial⟩ Z dX5_command_88
      · rw [if_neg c44] at hF
        refine lv_iload_n hx hb dX5_command_23 rfl (lv_at hl 0 rfl) ?_
        refine lv_bipush (v := (112 : Int32)) hx hb dX5_command_24 (by decide) ?_
        refine lv_icmp_ne (tgt := 33) hx hb dX5_command_26 (by decide) (fun c51 => ?_) (fun c51 => ?_)
        · rw [if_neg c51] at hF
          refine lv_iload_n hx hb dX5_command_33 rfl (lv_at hl 0 rfl) ?_
          refine lv_bipush (v := (104 : Int32)) hx hb dX5_command_34 (by decide) ?_
          refine lv_icmp_ne (tgt := 43) hx hb dX5_command_36 (by decide) (fun c52 => ?_) (fun c52 => ?_)
          · rw [if_neg c52] at hF
            refine lv_iload_n hx hb dX5_command_43 rfl (lv_at hl 0 rfl) ?_
            refine lv_bipush (v := (114 : Int32)) hx hb dX5_command_44 (by decide) ?_
            refine lv_icmp_eq (tgt := 55) hx hb dX5_command_46 (by decide) (fun c53 => ?_) (fun c53 => ?_)
            · rw [if_pos c53] at hF
              refine lv_iconst (v := (1 : Int32)) hx hb dX5_command_55 (by decide) ?_
              refine lv_goto (tgt := 60) hx hb dX5_command_56 (by decide) ?_
              refine lv_istore_n (lv' := [(2, .int (1 : Int32)), (1, .int v28), (0, .ref (am 0))]) hx hb dX5_command_60 rfl hl (by decide) rfl (fun ls hl => ?_)
              refine lv_aload_n hx hb dX5_command_61 rfl (lv_at hl 2 rfl) ?_
              refine lv_dup hx hb dX5_command_62 rfl ?_
              refine kget Fc Z inX5 0 rfl rfl 10 (by decide) mF_RX5_44 rfl rfl dX5_command_63 ?_
              refine lv_iload_n hx hb dX5_command_66 rfl (lv_at hl 0 rfl) ?_
              refine lv_if_ne (tgt := 74) hx hb dX5_command_67 (by decide) (fun _ => ?_) (fun c54 => absurd c54 (by decide))
              refine lv_iconst (v := (0 : Int32)) hx hb dX5_command_74 (by decide) ?_
              refine kior (z := (bi ρ.2.2)) hx hb (bi_or0 _) dX5_command_75 ?_
              obtain ⟨ρ55, e56, hF⟩ := bnd_el hF
              refine kput (v := .int (bi ρ.2.2)) (ty := .boolean) (w' := mW am cI ρ55) Fc Z inX5 tyX5 tyX5_ok nmX5 0 rfl rfl 10 (by decide) mF_RX5_44 rfl rfl rfl (bi_nar ρ.2.2) (bi_fit ρ.2.2) (Nat.le_of_ble_eq_true rfl) (by rw [e56]; rfl) dX5_command_76 (fun H locs Z => ?_)
              refine lv_aload_n hx hb dX5_command_79 rfl (lv_at hl 2 rfl) ?_
              refine kget Fc Z inX5 0 rfl rfl 10 (by decide) mF_RX5_44 rfl rfl dX5_command_80 ?_
              refine lv_if_eq (tgt := 89) hx hb dX5_command_83 (by decide) (fun c57 => ?_) (fun c57 => ?_)
              · rw [if_pos c57] at hF
                refine lv_aload_n hx hb dX5_command_89 rfl (lv_at hl 2 rfl) ?_
                refine lv_dup hx hb dX5_command_90 rfl ?_
                refine kget Fc Z inX5 0 rfl rfl 9 (by decide) mF_RX5_41 rfl rfl dX5_command_91 ?_
                refine lv_iconst (v := (1 : Int32)) hx hb dX5_command_94 (by decide) ?_
                refine lv_iadd hx hb dX5_command_95 ?_
                obtain ⟨ρ58, e59, hF⟩ := bnd_el hF
                refine kput (v := .int (((ρ55.1.2 2) + (1 : Int32)))) (ty := .int) (w' := mW am cI ρ58) Fc Z inX5 tyX5 tyX5_ok nmX5 0 rfl rfl 9 (by decide) mF_RX5_41 rfl rfl rfl rfl rfl (Nat.le_of_ble_eq_true rfl) (by rw [e59]; rfl) dX5_command_96 (fun H locs Z => ?_)
                refine lv_iconst (v := (0 : Int32)) hx hb dX5_command_99 (by decide) ?_
                refine lv_istore_n (lv' := [(3, .int (0 : Int32)), (2, .int (1 : Int32)), (1, .int v28), (0, .ref (am 0))]) hx hb dX5_command_100 rfl hl (by decide) rfl (fun ls hl => ?_)
                exact L101 v28 (1 : Int32) FU (0 : Int32) ρ58 _ _ _ hF Z (lv_sub hl [3, 2, 1, 0] rfl)
              · rw [if_neg c57] at hF
                refine lv_bipush (v := (-2 : Int32)) hx hb dX5_command_86 (by decide) ?_
                exact kret (-2 : Int32) ρ55 _ _ _ _ ⟨(pfst (Option.some.inj hF)), psnd (Option.some.inj hF), trivial⟩ Z dX5_command_88
            · rw [if_neg c53] at hF
              refine lv_iload_n hx hb dX5_command_49 rfl (lv_at hl 0 rfl) ?_
              refine lv_bipush (v := (100 : Int32)) hx hb dX5_command_50 (by decide) ?_
              refine lv_icmp_ne (tgt := 59) hx hb dX5_command_52 (by decide) (fun c60 => ?_) (fun c60 => ?_)
              · rw [if_neg c60] at hF
                refine lv_iconst (v := (0 : Int32)) hx hb dX5_command_59 (by decide) ?_
                refine lv_istore_n (lv' := [(2, .int (0 : Int32)), (1, .int v28), (0, .ref (am 0))]) hx hb dX5_command_60 rfl hl (by decide) rfl (fun ls hl => ?_)
                refine lv_aload_n hx hb dX5_command_61 rfl (lv_at hl 2 rfl) ?_
                refine lv_dup hx hb dX5_command_62 rfl ?_
                refine kget Fc Z inX5 0 rfl rfl 10 (by decide) mF_RX5_44 rfl rfl dX5_command_63 ?_
                refine lv_iload_n hx hb dX5_command_66 rfl (lv_at hl 0 rfl) ?_
                refine lv_if_ne (tgt := 74) hx hb dX5_command_67 (by decide) (fun c61 => absurd c61 (by decide)) (fun _ => ?_)
                refine lv_iconst (v := (1 : Int32)) hx hb dX5_command_70 (by decide) ?_
                refine lv_goto (tgt := 75) hx hb dX5_command_71 (by decide) ?_
                refine kior (z := (bi true)) hx hb (bi_or1 _) dX5_command_75 ?_
                obtain ⟨ρ62, e63, hF⟩ := bnd_el hF
                refine kput (v := .int (bi true)) (ty := .boolean) (w' := mW am cI ρ62) Fc Z inX5 tyX5 tyX5_ok nmX5 0 rfl rfl 10 (by decide) mF_RX5_44 rfl rfl rfl (bi_nar true) (bi_fit true) (Nat.le_of_ble_eq_true rfl) (by rw [e63]; rfl) dX5_command_76 (fun H locs Z => ?_)
                refine lv_aload_n hx hb dX5_command_79 rfl (lv_at hl 2 rfl) ?_
                refine kget Fc Z inX5 0 rfl rfl 10 (by decide) mF_RX5_44 rfl rfl dX5_command_80 ?_
                refine lv_if_eq (tgt := 89) hx hb dX5_command_83 (by decide) (fun c64 => ?_) (fun c64 => ?_)
                · rw [if_pos c64] at hF
                  refine lv_aload_n hx hb dX5_command_89 rfl (lv_at hl 2 rfl) ?_
                  refine lv_dup hx hb dX5_command_90 rfl ?_
                  refine kget Fc Z inX5 0 rfl rfl 9 (by decide) mF_RX5_41 rfl rfl dX5_command_91 ?_
                  refine lv_iconst (v := (1 : Int32)) hx hb dX5_command_94 (by decide) ?_
                  refine lv_iadd hx hb dX5_command_95 ?_
                  obtain ⟨ρ65, e66, hF⟩ := bnd_el hF
                  refine kput (v := .int (((ρ62.1.2 2) + (1 : Int32)))) (ty := .int) (w' := mW am cI ρ65) Fc Z inX5 tyX5 tyX5_ok nmX5 0 rfl rfl 9 (by decide) mF_RX5_41 rfl rfl rfl rfl rfl (Nat.le_of_ble_eq_true rfl) (by rw [e66]; rfl) dX5_command_96 (fun H locs Z => ?_)
                  refine lv_iconst (v := (0 : Int32)) hx hb dX5_command_99 (by decide) ?_
                  refine lv_istore_n (lv' := [(3, .int (0 : Int32)), (2, .int (0 : Int32)), (1, .int v28), (0, .ref (am 0))]) hx hb dX5_command_100 rfl hl (by decide) rfl (fun ls hl => ?_)
                  exact L101 v28 (0 : Int32) FU (0 : Int32) ρ65 _ _ _ hF Z (lv_sub hl [3, 2, 1, 0] rfl)
                · rw [if_neg c64] at hF
                  refine lv_bipush (v := (-2 : Int32)) hx hb dX5_command_86 (by decide) ?_
                  exact kret (-2 : Int32) ρ62 _ _ _ _ ⟨(pfst (Option.some.inj hF)), psnd (Option.some.inj hF), trivial⟩ Z dX5_command_88
              · rw [if_pos c60] at hF
                refine lv_iconst (v := (1 : Int32)) hx hb dX5_command_55 (by decide) ?_
                refine lv_goto (tgt := 60) hx hb dX5_command_56 (by decide) ?_
                refine lv_istore_n (lv' := [(2, .int (1 : Int32)), (1, .int v28), (0, .ref (am 0))]) hx hb dX5_command_60 rfl hl (by decide) rfl (fun ls hl => ?_)
                refine lv_aload_n hx hb dX5_command_61 rfl (lv_at hl 2 rfl) ?_
                refine lv_dup hx hb dX5_command_62 rfl ?_
                refine kget Fc Z inX5 0 rfl rfl 10 (by decide) mF_RX5_44 rfl rfl dX5_command_63 ?_
                refine lv_iload_n hx hb dX5_command_66 rfl (lv_at hl 0 rfl) ?_
                refine lv_if_ne (tgt := 74) hx hb dX5_command_67 (by decide) (fun _ => ?_) (fun c67 => absurd c67 (by decide))
                refine lv_iconst (v := (0 : Int32)) hx hb dX5_command_74 (by decide) ?_
                refine kior (z := (bi ρ.2.2)) hx hb (bi_or0 _) dX5_command_75 ?_
                obtain ⟨ρ68, e69, hF⟩ := bnd_el hF
                refine kput (v := .int (bi ρ.2.2)) (ty := .boolean) (w' := mW am cI ρ68) Fc Z inX5 tyX5 tyX5_ok nmX5 0 rfl rfl 10 (by decide) mF_RX5_44 rfl rfl rfl (bi_nar ρ.2.2) (bi_fit ρ.2.2) (Nat.le_of_ble_eq_true rfl) (by rw [e69]; rfl) dX5_command_76 (fun H locs Z => ?_)
                refine lv_aload_n hx hb dX5_command_79 rfl (lv_at hl 2 rfl) ?_
                refine kget Fc Z inX5 0 rfl rfl 10 (by decide) mF_RX5_44 rfl rfl dX5_command_80 ?_
                refine lv_if_eq (tgt := 89) hx hb dX5_command_83 (by decide) (fun c70 => ?_) (fun c70 => ?_)
                · rw [if_pos c70] at hF
                  refine lv_aload_n hx hb dX5_command_89 rfl (lv_at hl 2 rfl) ?_
                  refine lv_dup hx hb dX5_command_90 rfl ?_
                  refine kget Fc Z inX5 0 rfl rfl 9 (by decide) mF_RX5_41 rfl rfl dX5_command_91 ?_
                  refine lv_iconst (v := (1 : Int32)) hx hb dX5_command_94 (by decide) ?_
                  refine lv_iadd hx hb dX5_command_95 ?_
                  obtain ⟨ρ71, e72, hF⟩ := bnd_el hF
                  refine kput (v := .int (((ρ68.1.2 2) + (1 : Int32)))) (ty := .int) (w' := mW am cI ρ71) Fc Z inX5 tyX5 tyX5_ok nmX5 0 rfl rfl 9 (by decide) mF_RX5_41 rfl rfl rfl rfl rfl (Nat.le_of_ble_eq_true rfl) (by rw [e72]; rfl) dX5_command_96 (fun H locs Z => ?_)
                  refine lv_iconst (v := (0 : Int32)) hx hb dX5_command_99 (by decide) ?_
                  refine lv_istore_n (lv' := [(3, .int (0 : Int32)), (2, .int (1 : Int32)), (1, .int v28), (0, .ref (am 0))]) hx hb dX5_command_100 rfl hl (by decide) rfl (fun ls hl => ?_)
                  exact L101 v28 (1 : Int32) FU (0 : Int32) ρ71 _ _ _ hF Z (lv_sub hl [3, 2, 1, 0] rfl)
                · rw [if_neg c70] at hF
                  refine lv_bipush (v := (-2 : Int32)) hx hb dX5_command_86 (by decide) ?_
                  exact kret (-2 : Int32) ρ68 _ _ _ _ ⟨(pfst (Option.some.inj hF)), psnd (Option.some.inj hF), trivial⟩ Z dX5_command_88
          · rw [if_pos c52] at hF
            refine lv_iconst (v := (3 : Int32)) hx hb dX5_command_39 (by decide) ?_
            refine lv_goto (tgt := 60) hx hb dX5_command_40 (by decide) ?_
            refine lv_istore_n (lv' := [(2, .int (3 : Int32)), (1, .int v28), (0, .ref (am 0))]) hx hb dX5_command_60 rfl hl (by decide) rfl (fun ls hl => ?_)
            refine lv_aload_n hx hb dX5_command_61 rfl (lv_at hl 2 rfl) ?_
            refine lv_dup hx hb dX5_command_62 rfl ?_
            refine kget Fc Z inX5 0 rfl rfl 10 (by decide) mF_RX5_44 rfl rfl dX5_command_63 ?_
            refine lv_iload_n hx hb dX5_command_66 rfl (lv_at hl 0 rfl) ?_
            refine lv_if_ne (tgt := 74) hx hb dX5_command_67 (by decide) (fun _ => ?_) (fun c73 => absurd c73 (by decide))
            refine lv_iconst (v := (0 : Int32)) hx hb dX5_command_74 (by decide) ?_
            refine kior (z := (bi ρ.2.2)) hx hb (bi_or0 _) dX5_command_75 ?_
            obtain ⟨ρ74, e75, hF⟩ := bnd_el hF
            refine kput (v := .int (bi ρ.2.2)) (ty := .boolean) (w' := mW am cI ρ74) Fc Z inX5 tyX5 tyX5_ok nmX5 0 rfl rfl 10 (by decide) mF_RX5_44 rfl rfl rfl (bi_nar ρ.2.2) (bi_fit ρ.2.2) (Nat.le_of_ble_eq_true rfl) (by rw [e75]; rfl) dX5_command_76 (fun H locs Z => ?_)
            refine lv_aload_n hx hb dX5_command_79 rfl (lv_at hl 2 rfl) ?_
            refine kget Fc Z inX5 0 rfl rfl 10 (by decide) mF_RX5_44 rfl rfl dX5_command_80 ?_
            refine lv_if_eq (tgt := 89) hx hb dX5_command_83 (by decide) (fun c76 => ?_) (fun c76 => ?_)
            · rw [if_pos c76] at hF
              refine lv_aload_n hx hb dX5_command_89 rfl (lv_at hl 2 rfl) ?_
              refine lv_dup hx hb dX5_command_90 rfl ?_
              refine kget Fc Z inX5 0 rfl rfl 9 (by decide) mF_RX5_41 rfl rfl dX5_command_91 ?_
              refine lv_iconst (v := (1 : Int32)) hx hb dX5_command_94 (by decide) ?_
              refine lv_iadd hx hb dX5_command_95 ?_
              obtain ⟨ρ77, e78, hF⟩ := bnd_el hF
              refine kput (v := .int (((ρ74.1.2 2) + (1 : Int32)))) (ty := .int) (w' := mW am cI ρ77) Fc Z inX5 tyX5 tyX5_ok nmX5 0 rfl rfl 9 (by decide) mF_RX5_41 rfl rfl rfl rfl rfl (Nat.le_of_ble_eq_true rfl) (by rw [e78]; rfl) dX5_command_96 (fun H locs Z => ?_)
              refine lv_iconst (v := (0 : Int32)) hx hb dX5_command_99 (by decide) ?_
              refine lv_istore_n (lv' := [(3, .int (0 : Int32)), (2, .int (3 : Int32)), (1, .int v28), (0, .ref (am 0))]) hx hb dX5_command_100 rfl hl (by decide) rfl (fun ls hl => ?_)
              exact L101 v28 (3 : Int32) FU (0 : Int32) ρ77 _ _ _ hF Z (lv_sub hl [3, 2, 1, 0] rfl)
            · rw [if_neg c76] at hF
              refine lv_bipush (v := (-2 : Int32)) hx hb dX5_command_86 (by decide) ?_
              exact kret (-2 : Int32) ρ74 _ _ _ _ ⟨(pfst (Option.some.inj hF)), psnd (Option.some.inj hF), trivial⟩ Z dX5_command_88
        · rw [if_pos c51] at hF
          refine lv_iconst (v := (2 : Int32)) hx hb dX5_command_29 (by decide) ?_
          refine lv_goto (tgt := 60) hx hb dX5_command_30 (by decide) ?_
          refine lv_istore_n (lv' := [(2, .int (2 : Int32)), (1, .int v28), (0, .ref (am 0))]) hx hb dX5_command_60 rfl hl (by decide) rfl (fun ls hl => ?_)
          refine lv_aload_n hx hb dX5_command_61 rfl (lv_at hl 2 rfl) ?_
          refine lv_dup hx hb dX5_command_62 rfl ?_
          refine kget Fc Z inX5 0 rfl rfl 10 (by decide) mF_RX5_44 rfl rfl dX5_command_63 ?_
          refine lv_iload_n hx hb dX5_command_66 rfl (lv_at hl 0 rfl) ?_
          refine lv_if_ne (tgt := 74) hx hb dX5_command_67 (by decide) (fun _ => ?_) (fun c79 => absurd c79 (by decide))
          refine lv_iconst (v := (0 : Int32)) hx hb dX5_command_74 (by decide) ?_
          refine kior (z := (bi ρ.2.2)) hx hb (bi_or0 _) dX5_command_75 ?_
          obtain ⟨ρ80, e81, hF⟩ := bnd_el hF
          refine kput (v := .int (bi ρ.2.2)) (ty := .boolean) (w' := mW am cI ρ80) Fc Z inX5 tyX5 tyX5_ok nmX5 0 rfl rfl 10 (by decide) mF_RX5_44 rfl rfl rfl (bi_nar ρ.2.2) (bi_fit ρ.2.2) (Nat.le_of_ble_eq_true rfl) (by rw [e81]; rfl) dX5_command_76 (fun H locs Z => ?_)
          refine lv_aload_n hx hb dX5_command_79 rfl (lv_at hl 2 rfl) ?_
          refine kget Fc Z inX5 0 rfl rfl 10 (by decide) mF_RX5_44 rfl rfl dX5_command_80 ?_
          refine lv_if_eq (tgt := 89) hx hb dX5_command_83 (by decide) (fun c82 => ?_) (fun c82 => ?_)
          · rw [if_pos c82] at hF
            refine lv_aload_n hx hb dX5_command_89 rfl (lv_at hl 2 rfl) ?_
            refine lv_dup hx hb dX5_command_90 rfl ?_
            refine kget Fc Z inX5 0 rfl rfl 9 (by decide) mF_RX5_41 rfl rfl dX5_command_91 ?_
            refine lv_iconst (v := (1 : Int32)) hx hb dX5_command_94 (by decide) ?_
            refine lv_iadd hx hb dX5_command_95 ?_
            obtain ⟨ρ83, e84, hF⟩ := bnd_el hF
            refine kput (v := .int (((ρ80.1.2 2) + (1 : Int32)))) (ty := .int) (w' := mW am cI ρ83) Fc Z inX5 tyX5 tyX5_ok nmX5 0 rfl rfl 9 (by decide) mF_RX5_41 rfl rfl rfl rfl rfl (Nat.le_of_ble_eq_true rfl) (by rw [e84]; rfl) dX5_command_96 (fun H locs Z => ?_)
            refine lv_iconst (v := (0 : Int32)) hx hb dX5_command_99 (by decide) ?_
            refine lv_istore_n (lv' := [(3, .int (0 : Int32)), (2, .int (2 : Int32)), (1, .int v28), (0, .ref (am 0))]) hx hb dX5_command_100 rfl hl (by decide) rfl (fun ls hl => ?_)
            exact L101 v28 (2 : Int32) FU (0 : Int32) ρ83 _ _ _ hF Z (lv_sub hl [3, 2, 1, 0] rfl)
          · rw [if_neg c82] at hF
            refine lv_bipush (v := (-2 : Int32)) hx hb dX5_command_86 (by decide) ?_
            exact kret (-2 : Int32) ρ80 _ _ _ _ ⟨(pfst (Option.some.inj hF)), psnd (Option.some.inj hF), trivial⟩ Z dX5_command_88
def X5_copy (ρ : Ms) (p1 p2 : Int32) : Option (Int32) := (X5_isCopy ρ p1).bind fun v1 => if (bi v1) = 0 then (some (-1 : Int32)) else if (bi (X5_in p2 (0 : Int32) (9 : Int32))) = 0 then (some (-1 : Int32)) else if (5 : Int32) ≤ p2 then ((X5_of ρ p1 (3 : Int32)).bind fun v6 => if p2 = (5 : Int32) then (if v6 = (2 : Int32) then ((X5_holdOf ρ p1).bind fun v26 => if 0 ≤ v26 then ((X5_hold ρ v26 (1 : Int32)).bind fun v29 => some v29) else some (-2 : Int32)) else if v6 = (3 : Int32) then ((X5_holdOf ρ p1).bind fun v33 => if 0 ≤ v33 then ((X5_hold ρ v33 (1 : Int32)).bind fun v36 => some v36) else some (-2 : Int32)) else some (-2 : Int32)) else if p2 = (6 : Int32) then (if v6 = 0 then (some (-2 : Int32)) else if v6 = (5 : Int32) then (some (-2 : Int32)) else (X5_of ρ p1 (5 : Int32)).bind fun v23 => some v23) else if v6 = 0 then (some (-2 : Int32)) else if v6 = (2 : Int32) then (some (-2 : Int32)) else if v6 = (3 : Int32) then (some (-2 : Int32)) else if p2 = (7 : Int32) then ((X5_of ρ p1 (6 : Int32)).bind fun v19 => some v19) else if p2 = (8 : Int32) then ((X5_of ρ p1 (7 : Int32)).bind fun v17 => some v17) else (X5_of ρ p1 (8 : Int32)).bind fun v15 => some v15) else (X5_of ρ p1 p2).bind fun v38 => some v38
def rm_X5_copy : Room := { frames := 2, cells := 0, slots := 0, locals := 44 }
theorem v_X5_copy : WdV RX5 yX5_copy cX5_copy 5 (some .int) 2 := ⟨mI_X5_copy, mS_X5_copy, mZ_RX5, mC_X5_copy, by decide +kernel⟩
set_option maxHeartbeats 8000000 in
set_option maxRecDepth 100000 in
theorem c_X5_copy (l : Launch) (D : va_G) (cI cS : ClassId) (am : Nat → Nat) (ρ : Ms) (p1 p2 : Int32) (F : Int32) (hF : X5_copy ρ p1 p2 = some F) : MI l yX5_copy cX5_copy 5 (some .int) rm_X5_copy D cI cS [.ref (am 0), .int p1, .int p2] (mW am cI ρ) (mW am cI) (fun r u' => r = F ∧ u' = ρ) := by
  refine MI.mk RX5 rfl .int rfl (by decide) (Nat.le_of_ble_eq_true rfl) (fun _ _ _ => rfl) ?_
  intro p e s m args below meth c A Q ls Fc hin hA Z kret hl
  obtain ⟨hx, hb, hml, hown, hts, hKN⟩ := id Fc
  replace hl : lv_has ls 5 [(0, .ref (am 0)), (1, .int p1), (2, .int p2)] := hl
  unfold X5_copy at hF
  refine lv_aload_n hx hb dX5_copy_0 rfl (lv_at hl 0 rfl) ?_
  refine lv_iload_n hx hb dX5_copy_1 rfl (lv_at hl 1 rfl) ?_
  obtain ⟨v1, h2, hF⟩ := obind hF
  refine kr_i (As := [.int p1]) Fc hA Z Lens.all (c_X5_isCopy l D cI cS am ρ p1 v1 h2) mL_RX5_113 v_X5_isCopy ⟨rfl, rfl⟩ ⟨Nat.le_of_ble_eq_true rfl, Nat.le_of_ble_eq_true rfl⟩ ⟨Nat.zero_le _, Nat.zero_le _⟩ 0 5 rfl rfl rfl hl (Nat.le_of_ble_eq_true rfl) dX5_copy_2 rfl (fun H locs Z => ?_)
  refine lv_if_eq (tgt := 18) hx hb dX5_copy_5 (by decide) (fun c3 => ?_) (fun c3 => ?_)
  · rw [if_pos c3] at hF
    refine lv_iconst (v := (-1 : Int32)) hx hb dX5_copy_18 (by decide) ?_
    exact kret (-1 : Int32) ρ _ _ _ _ ⟨(Option.some.inj hF), rfl⟩ Z dX5_copy_19
  · rw [if_neg c3] at hF
    refine lv_iload_n hx hb dX5_copy_8 rfl (lv_at hl 2 rfl) ?_
    refine lv_iconst (v := (0 : Int32)) hx hb dX5_copy_9 (by decide) ?_
    refine lv_bipush (v := (9 : Int32)) hx hb dX5_copy_10 (by decide) ?_
    refine ks_i (As := [.int p2, .int (0 : Int32), .int (9 : Int32)]) Fc hA Z (c_X5_in l D cI cS p2 (0 : Int32) (9 : Int32) (X5_in p2 (0 : Int32) (9 : Int32)) rfl) mL_RX5_51 v_X5_in ⟨rfl, rfl⟩ ⟨Nat.le_of_ble_eq_true rfl, Nat.le_of_ble_eq_true rfl⟩ ⟨Nat.zero_le _, Nat.zero_le _⟩ rfl hl (Nat.le_of_ble_eq_true rfl) dX5_copy_12 rfl (fun H locs Z => ?_)
    refine lv_if_ne (tgt := 20) hx hb dX5_copy_15 (by decide) (fun c4 => ?_) (fun c4 => ?_)
    · rw [if_neg c4] at hF
      refine lv_iload_n hx hb dX5_copy_20 rfl (lv_at hl 2 rfl) ?_
      refine lv_iconst (v := (5 : Int32)) hx hb dX5_copy_21 (by decide) ?_
      refine lv_icmp_ge (tgt := 32) hx hb dX5_copy_22 (by decide) (fun c5 => ?_) (fun c5 => ?_)
      · rw [if_pos c5] at hF
        refine lv_aload_n hx hb dX5_copy_32 rfl (lv_at hl 0 rfl) ?_
        refine lv_iload_n hx hb dX5_copy_33 rfl (lv_at hl 1 rfl) ?_
        refine lv_iconst (v := (3 : Int32)) hx hb dX5_copy_34 (by decide) ?_
        obtain ⟨v6, h7, hF⟩ := obind hF
        refine kr_i (As := [.int p1, .int (3 : Int32)]) Fc hA Z Lens.all (c_X5_of l D cI cS am ρ p1 (3 : Int32) v6 h7) mL_RX5_73 v_X5_of ⟨rfl, rfl⟩ ⟨Nat.le_of_ble_eq_true rfl, Nat.le_of_ble_eq_true rfl⟩ ⟨Nat.zero_le _, Nat.zero_le _⟩ 0 5 rfl rfl rfl hl (Nat.le_of_ble_eq_true rfl) dX5_copy_35 rfl (fun H locs Z => ?_)
        refine lv_istore_n (lv' := [(3, .int v6), (0, .ref (am 0)), (1, .int p1), (2, .int p2)]) hx hb dX5_copy_38 rfl hl (by decide) rfl (fun ls hl => ?_)
        refine lv_iload_n hx hb dX5_copy_39 rfl (lv_at hl 3 rfl) ?_
        refine lv_iconst (v := (5 : Int32)) hx hb dX5_copy_40 (by decide) ?_
        refine lv_icmp_ne (tgt := 84) hx hb dX5_copy_41 (by decide) (fun c8 => ?_) (fun c8 => ?_)
        · rw [if_neg c8] at hF
          refine lv_iload_n hx hb dX5_copy_84 rfl (lv_at hl 3 rfl) ?_
          refine lv_bipush (v := (6 : Int32)) hx hb dX5_copy_85 (by decide) ?_
          refine lv_icmp_ne (tgt := 111) hx hb dX5_copy_87 (by decide) (fun c9 => ?_) (fun c9 => ?_)
          · rw [if_neg c9] at hF
            refine lv_iload_n hx hb dX5_copy_111 rfl (lv_at hl 0 rfl) ?_
            refine lv_if_eq (tgt := 125) hx hb dX5_copy_112 (by decide) (fun c10 => ?_) (fun c10 => ?_)
            · rw [if_pos c10] at hF
              refine lv_bipush (v := (-2 : Int32)) hx hb dX5_copy_125 (by decide) ?_
              refine lv_goto (tgt := 159) hx hb dX5_copy_127 (by decide) ?_
              exact kret (-2 : Int32) ρ _ _ _ _ ⟨(Option.some.inj hF), rfl⟩ Z dX5_copy_159
            · rw [if_neg c10] at hF
              refine lv_iload_n hx hb dX5_copy_115 rfl (lv_at hl 0 rfl) ?_
              refine lv_iconst (v := (2 : Int32)) hx hb dX5_copy_116 (by decide) ?_
              refine lv_icmp_eq (tgt := 125) hx hb dX5_copy_117 (by decide) (fun c11 => ?_) (fun c11 => ?_)
              · rw [if_pos c11] at hF
                refine lv_bipush (v := (-2 : Int32)) hx hb dX5_copy_125 (by decide) ?_
                refine lv_goto (tgt := 159) hx hb dX5_copy_127 (by decide) ?_
                exact kret (-2 : Int32) ρ _ _ _ _ ⟨(Option.some.inj hF), rfl⟩ Z dX5_copy_159
              · rw [if_neg c11] at hF
                refine lv_iload_n hx hb dX5_copy_120 rfl (lv_at hl 0 rfl) ?_
                refine lv_iconst (v := (3 : Int32)) hx hb dX5_copy_121 (by decide) ?_
                refine lv_icmp_ne (tgt := 130) hx hb dX5_copy_122 (by decide) (fun c12 => ?_) (fun c12 => ?_)
                · rw [if_neg c12] at hF
                  refine lv_aload_n hx hb dX5_copy_130 rfl (lv_at hl 1 rfl) ?_
                  refine lv_iload_n hx hb dX5_copy_131 rfl (lv_at hl 2 rfl) ?_
                  refine lv_iload_n hx hb dX5_copy_132 rfl (lv_at hl 3 rfl) ?_
                  refine lv_bipush (v := (7 : Int32)) hx hb dX5_copy_133 (by decide) ?_
                  refine lv_icmp_ne (tgt := 143) hx hb dX5_copy_135 (by decide) (fun c13 => ?_) (fun c13 => ?_)
                  · rw [if_neg c13] at hF
                    refine lv_iload_n hx hb dX5_copy_143 rfl (lv_at hl 3 rfl) ?_
                    refine lv_bipush (v := (8 : Int32)) hx hb dX5_copy_144 (by decide) ?_
                    refine lv_icmp_ne (tgt := 154) hx hb dX5_copy_146 (by decide) (fun c14 => ?_) (fun c14 => ?_)
                    · rw [if_neg c14] at hF
                      refine lv_bipush (v := (8 : Int32)) hx hb dX5_copy_154 (by decide) ?_
                      obtain ⟨v15, h16, hF⟩ := obind hF
                      refine kr_i (As := [.int p1, .int (8 : Int32)]) Fc hA Z Lens.all (c_X5_of l D cI cS am ρ p1 (8 : Int32) v15 h16) mL_RX5_73 v_X5_of ⟨rfl, rfl⟩ ⟨Nat.le_of_ble_eq_true rfl, Nat.le_of_ble_eq_true rfl⟩ ⟨Nat.zero_le _, Nat.zero_le _⟩ 0 5 rfl rfl rfl hl (Nat.le_of_ble_eq_true rfl) dX5_copy_156 rfl (fun H locs Z => ?_)
                      exact kret v15 ρ _ _ _ _ ⟨(Option.some.inj hF), rfl⟩ Z dX5_copy_159
                    · rw [if_pos c14] at hF
                      refine lv_bipush (v := (7 : Int32)) hx hb dX5_copy_149 (by decide) ?_
                      refine lv_goto (tgt := 156) hx hb dX5_copy_151 (by decide) ?_
                      obtain ⟨v17, h18, hF⟩ := obind hF
                      refine kr_i (As := [.int p1, .int (7 : Int32)]) Fc hA Z Lens.all (c_X5_of l D cI cS am ρ p1 (7 : Int32) v17 h18) mL_RX5_73 v_X5_of ⟨rfl, rfl⟩ ⟨Nat.le_of_ble_eq_true rfl, Nat.le_of_ble_eq_true rfl⟩ ⟨Nat.zero_le _, Nat.zero_le _⟩ 0 5 rfl rfl rfl hl (Nat.le_of_ble_eq_true rfl) dX5_copy_156 rfl (fun H locs Z => ?_)
                      exact kret v17 ρ _ _ _ _ ⟨(Option.some.inj hF), rfl⟩ Z dX5_copy_159
                  · rw [if_pos c13] at hF
                    refine lv_bipush (v := (6 : Int32)) hx hb dX5_copy_138 (by decide) ?_
                    refine lv_goto (tgt := 156) hx hb dX5_copy_140 (by decide) ?_
                    obtain ⟨v19, h20, hF⟩ := obind hF
                    refine kr_i (As := [.int p1, .int (6 : Int32)]) Fc hA Z Lens.all (c_X5_of l D cI cS am ρ p1 (6 : Int32) v19 h20) mL_RX5_73 v_X5_of ⟨rfl, rfl⟩ ⟨Nat.le_of_ble_eq_true rfl, Nat.le_of_ble_eq_true rfl⟩ ⟨Nat.zero_le _, Nat.zero_le _⟩ 0 5 rfl rfl rfl hl (Nat.le_of_ble_eq_true rfl) dX5_copy_156 rfl (fun H locs Z => ?_)
                    exact kret v19 ρ _ _ _ _ ⟨(Option.some.inj hF), rfl⟩ Z dX5_copy_159
                · rw [if_pos c12] at hF
                  refine lv_bipush (v := (-2 : Int32)) hx hb dX5_copy_125 (by decide) ?_
                  refine lv_goto (tgt := 159) hx hb dX5_copy_127 (by decide) ?_
                  exact kret (-2 : Int32) ρ _ _ _ _ ⟨(Option.some.inj hF), rfl⟩ Z dX5_copy_159
          · rw [if_pos c9] at hF
            refine lv_iload_n hx hb dX5_copy_90 rfl (lv_at hl 0 rfl) ?_
            refine lv_if_eq (tgt := 99) hx hb dX5_copy_91 (by decide) (fun c21 => ?_) (fun c21 => ?_)
            · rw [if_pos c21] at hF
              refine lv_bipush (v := (-2 : Int32)) hx hb dX5_copy_99 (by decide) ?_
              refine lv_goto (tgt := 110) hx hb dX5_copy_101 (by decide) ?_
              exact kret (-2 : Int32) ρ _ _ _ _ ⟨(Option.some.inj hF), rfl⟩ Z dX5_copy_110
            · rw [if_neg c21] at hF
              refine lv_iload_n hx hb dX5_copy_94 rfl (lv_at hl 0 rfl) ?_
              refine lv_iconst (v := (5 : Int32)) hx hb dX5_copy_95 (by decide) ?_
              refine lv_icmp_ne (tgt := 104) hx hb dX5_copy_96 (by decide) (fun c22 => ?_) (fun c22 => ?_)
              · rw [if_neg c22] at hF
                refine lv_aload_n hx hb dX5_copy_104 rfl (lv_at hl 1 rfl) ?_
                refine lv_iload_n hx hb dX5_copy_105 rfl (lv_at hl 2 rfl) ?_
                refine lv_iconst (v := (5 : Int32)) hx hb dX5_copy_106 (by decide) ?_
                obtain ⟨v23, h24, hF⟩ := obind hF
                refine kr_i (As := [.int p1, .int (5 : Int32)]) Fc hA Z Lens.all (c_X5_of l D cI cS am ρ p1 (5 : Int32) v23 h24) mL_RX5_73 v_X5_of ⟨rfl, rfl⟩ ⟨Nat.le_of_ble_eq_true rfl, Nat.le_of_ble_eq_true rfl⟩ ⟨Nat.zero_le _, Nat.zero_le _⟩ 0 5 rfl rfl rfl hl (Nat.le_of_ble_eq_true rfl) dX5_copy_107 rfl (fun H locs Z => ?_)
                exact kret v23 ρ _ _ _ _ ⟨(Option.some.inj hF), rfl⟩ Z dX5_copy_110
              · rw [if_pos c22] at hF
                refine lv_bipush (v := (-2 : Int32)) hx hb dX5_copy_99 (by decide) ?_
                refine lv_goto (tgt := 110) hx hb dX5_copy_101 (by decide) ?_
                exact kret (-2 : Int32) ρ _ _ _ _ ⟨(Option.some.inj hF), rfl⟩ Z dX5_copy_110
        · rw [if_pos c8] at hF
          refine lv_iload_n hx hb dX5_copy_44 rfl (lv_at hl 0 rfl) ?_
          refine lv_iconst (v := (2 : Int32)) hx hb dX5_copy_45 (by decide) ?_
          refine lv_icmp_eq (tgt := 54) hx hb dX5_copy_46 (by decide) (fun c25 => ?_) (fun c25 => ?_)
          · rw [if_pos c25] at hF
            refine lv_aload_n hx hb dX5_copy_54 rfl (lv_at hl 1 rfl) ?_
            refine lv_iload_n hx hb dX5_copy_55 rfl (lv_at hl 2 rfl) ?_
            obtain ⟨v26, h27, hF⟩ := obind hF
            refine kr_i (As := [.int p1]) Fc hA Z Lens.all (c_X5_holdOf l D cI cS am ρ p1 v26 h27) mL_RX5_116 v_X5_holdOf ⟨rfl, rfl⟩ ⟨Nat.le_of_ble_eq_true rfl, Nat.le_of_ble_eq_true rfl⟩ ⟨Nat.zero_le _, Nat.zero_le _⟩ 0 5 rfl rfl rfl hl (Nat.le_of_ble_eq_true rfl) dX5_copy_56 rfl (fun H locs Z => ?_)
            refine lv_goto (tgt := 64) hx hb dX5_copy_59 (by decide) ?_
            refine lv_istore (lv' := [(4, .int v26), (3, .int v6), (0, .ref (am 0)), (1, .int p1), (2, .int p2)]) hx hb dX5_copy_64 hl (by decide) rfl (fun ls hl => ?_)
            refine lv_iload hx hb dX5_copy_66 (lv_at hl 0 rfl) ?_
            refine lv_if_ge (tgt := 76) hx hb dX5_copy_68 (by decide) (fun c28 => ?_) (fun c28 => ?_)
            · rw [if_pos c28] at hF
              refine lv_aload_n hx hb dX5_copy_76 rfl (lv_at hl 2 rfl) ?_
              refine lv_iload hx hb dX5_copy_77 (lv_at hl 0 rfl) ?_
              refine lv_iconst (v := (1 : Int32)) hx hb dX5_copy_79 (by decide) ?_
              obtain ⟨v29, h30, hF⟩ := obind hF
              refine kr_i (As := [.int v26, .int (1 : Int32)]) Fc hA Z Lens.all (c_X5_hold l D cI cS am ρ v26 (1 : Int32) v29 h30) mL_RX5_59 v_X5_hold ⟨rfl, rfl⟩ ⟨Nat.le_of_ble_eq_true rfl, Nat.le_of_ble_eq_true rfl⟩ ⟨Nat.zero_le _, Nat.zero_le _⟩ 0 5 rfl rfl rfl hl (Nat.le_of_ble_eq_true rfl) dX5_copy_80 rfl (fun H locs Z => ?_)
              exact kret v29 ρ _ _ _ _ ⟨(Option.some.inj hF), rfl⟩ Z dX5_copy_83
            · rw [if_neg c28] at hF
              refine lv_bipush (v := (-2 : Int32)) hx hb dX5_copy_71 (by decide) ?_
              refine lv_goto (tgt := 83) hx hb dX5_copy_73 (by decide) ?_
              exact kret (-2 : Int32) ρ _ _ _ _ ⟨(Option.some.inj hF), rfl⟩ Z dX5_copy_83
          · rw [if_neg c25] at hF
            refine lv_iload_n hx hb dX5_copy_49 rfl (lv_at hl 0 rfl) ?_
            refine lv_iconst (v := (3 : Int32)) hx hb dX5_copy_50 (by decide) ?_
            refine lv_icmp_ne (tgt := 62) hx hb dX5_copy_51 (by decide) (fun c31 => ?_) (fun c31 => ?_)
            · rw [if_neg c31] at hF
              refine lv_bipush (v := (-2 : Int32)) hx hb dX5_copy_62 (by decide) ?_
              refine lv_istore (lv' := [(4, .int (-2 : Int32)), (3, .int v6), (0, .ref (am 0)), (1, .int p1), (2, .int p2)]) hx hb dX5_copy_64 hl (by decide) rfl (fun ls hl => ?_)
              refine lv_iload hx hb dX5_copy_66 (lv_at hl 0 rfl) ?_
              refine lv_if_ge (tgt := 76) hx hb dX5_copy_68 (by decide) (fun c32 => absurd c32 (by decide)) (fun _ => ?_)
              refine lv_bipush (v := (-2 : Int32)) hx hb dX5_copy_71 (by decide) ?_
              refine lv_goto (tgt := 83) hx hb dX5_copy_73 (by decide) ?_
              exact kret (-2 : Int32) ρ _ _ _ _ ⟨(Option.some.inj hF), rfl⟩ Z dX5_copy_83
            · rw [if_pos c31] at hF
              refine lv_aload_n hx hb dX5_copy_54 rfl (lv_at hl 1 rfl) ?_
              refine lv_iload_n hx hb dX5_copy_55 rfl (lv_at hl 2 rfl) ?_
              obtain ⟨v33, h34, hF⟩ := obind hF
              refine kr_i (As := [.int p1]) Fc hA Z Lens.all (c_X5_holdOf l D cI cS am ρ p1 v33 h34) mL_RX5_116 v_X5_holdOf ⟨rfl, rfl⟩ ⟨Nat.le_of_ble_eq_true rfl, Nat.le_of_ble_eq_true rfl⟩ ⟨Nat.zero_le _, Nat.zero_le _⟩ 0 5 rfl rfl rfl hl (Nat.le_of_ble_eq_true rfl) dX5_copy_56 rfl (fun H locs Z => ?_)
              refine lv_goto (tgt := 64) hx hb dX5_copy_59 (by decide) ?_
              refine lv_istore (lv' := [(4, .int v33), (3, .int v6), (0, .ref (am 0)), (1, .int p1), (2, .int p2)]) hx hb dX5_copy_64 hl (by decide) rfl (fun ls hl => ?_)
              refine lv_iload hx hb dX5_copy_66 (lv_at hl 0 rfl) ?_
              refine lv_if_ge (tgt := 76) hx hb dX5_copy_68 (by decide) (fun c35 => ?_) (fun c35 => ?_)
              · rw [if_pos c35] at hF
                refine lv_aload_n hx hb dX5_copy_76 rfl (lv_at hl 2 rfl) ?_
                refine lv_iload hx hb dX5_copy_77 (lv_at hl 0 rfl) ?_
                refine lv_iconst (v := (1 : Int32)) hx hb dX5_copy_79 (by decide) ?_
                obtain ⟨v36, h37, hF⟩ := obind hF
                refine kr_i (As := [.int v33, .int (1 : Int32)]) Fc hA Z Lens.all (c_X5_hold l D cI cS am ρ v33 (1 : Int32) v36 h37) mL_RX5_59 v_X5_hold ⟨rfl, rfl⟩ ⟨Nat.le_of_ble_eq_true rfl, Nat.le_of_ble_eq_true rfl⟩ ⟨Nat.zero_le _, Nat.zero_le _⟩ 0 5 rfl rfl rfl hl (Nat.le_of_ble_eq_true rfl) dX5_copy_80 rfl (fun H locs Z => ?_)
                exact kret v36 ρ _ _ _ _ ⟨(Option.some.inj hF), rfl⟩ Z dX5_copy_83
              · rw [if_neg c35] at hF
                refine lv_bipush (v := (-2 : Int32)) hx hb dX5_copy_71 (by decide) ?_
                refine lv_goto (tgt := 83) hx hb dX5_copy_73 (by decide) ?_
                exact kret (-2 : Int32) ρ _ _ _ _ ⟨(Option.some.inj hF), rfl⟩ Z dX5_copy_83
      · rw [if_neg c5] at hF
        refine lv_aload_n hx hb dX5_copy_25 rfl (lv_at hl 0 rfl) ?_
        refine lv_iload_n hx hb dX5_copy_26 rfl (lv_at hl 1 rfl) ?_
        refine lv_iload_n hx hb dX5_copy_27 rfl (lv_at hl 2 rfl) ?_
        obtain ⟨v38, h39, hF⟩ := obind hF
        refine kr_i (As := [.int p1, .int p2]) Fc hA Z Lens.all (c_X5_of l D cI cS am ρ p1 p2 v38 h39) mL_RX5_73 v_X5_of ⟨rfl, rfl⟩ ⟨Nat.le_of_ble_eq_true rfl, Nat.le_of_ble_eq_true rfl⟩ ⟨Nat.zero_le _, Nat.zero_le _⟩ 0 5 rfl rfl rfl hl (Nat.le_of_ble_eq_true rfl) dX5_copy_28 rfl (fun H locs Z => ?_)
        exact kret v38 ρ _ _ _ _ ⟨(Option.some.inj hF), rfl⟩ Z dX5_copy_31
    · rw [if_pos c4] at hF
      refine lv_iconst (v := (-1 : Int32)) hx hb dX5_copy_18 (by decide) ?_
      exact kret (-1 : Int32) ρ _ _ _ _ ⟨(Option.some.inj hF), rfl⟩ Z dX5_copy_19
def X5_copyCount_L15 (ρ : Ms) (x1 : Int32) : Nat → Int32 → Int32 → Option (Int32)
  | 0, _, _ => none
  | k + 1, x2, x3 => (rdA (ρ.1.1 0) 681 (1 : Int32)).bind fun v1 => if v1 ≤ x3 then (some x2) else if x1 < 0 then (X5_copyCount_L15 ρ x1 k ((x2 + (1 : Int32))) ((x3 + (1 : Int32)))) else (X5_of ρ x3 (3 : Int32)).bind fun v5 => if v5 = x1 then (X5_copyCount_L15 ρ x1 k ((x2 + (1 : Int32))) ((x3 + (1 : Int32)))) else X5_copyCount_L15 ρ x1 k ((x2 + (0 : Int32))) ((x3 + (1 : Int32)))
def X5_copyCount (ρ : Ms) (p1 : Int32) : Option (Int32) := if (bi (X5_in p1 (-1 : Int32) (5 : Int32))) = 0 then (some (-1 : Int32)) else X5_copyCount_L15 ρ p1 FU (0 : Int32) (0 : Int32)
def rm_X5_copyCount : Room := { frames := 1, cells := 0, slots := 0, locals := 22 }
theorem v_X5_copyCount : WdV RX5 yX5_copyCount cX5_copyCount 4 (some .int) 1 := ⟨mI_X5_copyCount, mS_X5_copyCount, mZ_RX5, mC_X5_copyCount, by decide +kernel⟩
set_option maxHeartbeats 8000000 in
set_option maxRecDepth 100000 in
theorem c_X5_copyCount (l : Launch) (D : va_G) (cI cS : ClassId) (am : Nat → Nat) (ρ : Ms) (p1 : Int32) (F : Int32) (hF : X5_copyCount ρ p1 = some F) : MI l yX5_copyCount cX5_copyCount 4 (some .int) rm_X5_copyCount D cI cS [.ref (am 0), .int p1] (mW am cI ρ) (mW am cI) (fun r u' => r = F ∧ u' = ρ) := by
  refine MI.mk RX5 rfl .int rfl (by decide) (Nat.le_of_ble_eq_true rfl) (fun _ _ _ => rfl) ?_
  intro p e s m args below meth c A Q ls Fc hin hA Z kret hl
  obtain ⟨hx, hb, hml, hown, hts, hKN⟩ := id Fc
  replace hl : lv_has ls 4 [(0, .ref (am 0)), (1, .int p1)] := hl
  have L15 : ∀ (x1 : Int32) (k : Nat) (x2 : Int32) (x3 : Int32) (H : Heap) (locs : List Loc) (ls : Array Slot), X5_copyCount_L15 ρ x1  k x2 x3 = some F → Ix D A s (mW am cI ρ) H locs → lv_has ls 4 [(0, .ref (am 0)), (1, .int x1), (2, .int x2), (3, .int x3)] → W p l e rm_X5_copyCount s m args below meth c H locs 0 0 Q (F0 m 15 ls []) := by
    intro x1 k
    induction k with
    | zero => intro x2 x3 H locs ls hF; rw [X5_copyCount_L15] at hF; cases hF
    | succ k ih =>
      intro x2 x3 H locs ls hF Z hl
      rw [X5_copyCount_L15] at hF
      refine lv_iload_n hx hb dX5_copyCount_15 rfl (lv_at hl 3 rfl) ?_
      refine lv_aload_n hx hb dX5_copyCount_16 rfl (lv_at hl 0 rfl) ?_
      refine kget Fc Z inX5 0 rfl rfl 0 (by decide) mF_RX5_11 rfl rfl dX5_copyCount_17 ?_
      refine lv_iconst (v := (1 : Int32)) hx hb dX5_copyCount_20 (by decide) ?_
      obtain ⟨v1, h2, hF⟩ := obind hF
      refine kald Fc Z 1 rfl h2 dX5_copyCount_21 ?_
      refine lv_icmp_ge (tgt := 53) hx hb dX5_copyCount_22 (by decide) (fun c3 => ?_) (fun c3 => ?_)
      · rw [if_pos c3] at hF
        refine lv_iload_n hx hb dX5_copyCount_53 rfl (lv_at hl 2 rfl) ?_
        exact kret x2 ρ _ _ _ _ ⟨(Option.some.inj hF), rfl⟩ Z dX5_copyCount_54
      · rw [if_neg c3] at hF
        refine lv_iload_n hx hb dX5_copyCount_25 rfl (lv_at hl 2 rfl) ?_
        refine lv_iload_n hx hb dX5_copyCount_26 rfl (lv_at hl 1 rfl) ?_
        refine lv_if_lt (tgt := 40) hx hb dX5_copyCount_27 (by decide) (fun c4 => ?_) (fun c4 => ?_)
        · rw [if_pos c4] at hF
          refine lv_iconst (v := (1 : Int32)) hx hb dX5_copyCount_40 (by decide) ?_
          refine lv_goto (tgt := 45) hx hb dX5_copyCount_41 (by decide) ?_
          refine lv_iadd hx hb dX5_copyCount_45 ?_
          refine lv_istore_n (lv' := [(2, .int (x2 + (1 : Int32))), (0, .ref (am 0)), (1, .int x1), (3, .int x3)]) hx hb dX5_copyCount_46 rfl hl (by decide) rfl (fun ls hl => ?_)
          refine lv_iinc (v := (x3 + (1 : Int32))) (lv' := [(3, .int (x3 + (1 : Int32))), (2, .int (x2 + (1 : Int32))), (0, .ref (am 0)), (1, .int x1)]) hx hb dX5_copyCount_47 hl (k := 3) rfl (by rfl) (by decide) rfl (fun ls hl => ?_)
          refine lv_goto (tgt := 15) hx hb dX5_copyCount_50 (by decide) ?_
          exact ih ((x2 + (1 : Int32))) ((x3 + (1 : Int32))) _ _ _ hF Z (lv_sub hl [2, 3, 1, 0] rfl)
        · rw [if_neg c4] at hF
          refine lv_aload_n hx hb dX5_copyCount_30 rfl (lv_at hl 0 rfl) ?_
          refine lv_iload_n hx hb dX5_copyCount_31 rfl (lv_at hl 3 rfl) ?_
          refine lv_iconst (v := (3 : Int32)) hx hb dX5_copyCount_32 (by decide) ?_
          obtain ⟨v5, h6, hF⟩ := obind hF
          refine kr_i (As := [.int x3, .int (3 : Int32)]) Fc hA Z Lens.all (c_X5_of l D cI cS am ρ x3 (3 : Int32) v5 h6) mL_RX5_73 v_X5_of ⟨rfl, rfl⟩ ⟨Nat.le_of_ble_eq_true rfl, Nat.le_of_ble_eq_true rfl⟩ ⟨Nat.zero_le _, Nat.zero_le _⟩ 0 5 rfl rfl rfl hl (Nat.le_of_ble_eq_true rfl) dX5_copyCount_33 rfl (fun H locs Z => ?_)
          refine lv_iload_n hx hb dX5_copyCount_36 rfl (lv_at hl 1 rfl) ?_
          refine lv_icmp_ne (tgt := 44) hx hb dX5_copyCount_37 (by decide) (fun c7 => ?_) (fun c7 => ?_)
          · rw [if_neg c7] at hF
            refine lv_iconst (v := (0 : Int32)) hx hb dX5_copyCount_44 (by decide) ?_
            refine lv_iadd hx hb dX5_copyCount_45 ?_
            refine lv_istore_n (lv' := [(2, .int (x2 + (0 : Int32))), (0, .ref (am 0)), (1, .int x1), (3, .int x3)]) hx hb dX5_copyCount_46 rfl hl (by decide) rfl (fun ls hl => ?_)
            refine lv_iinc (v := (x3 + (1 : Int32))) (lv' := [(3, .int (x3 + (1 : Int32))), (2, .int (x2 + (0 : Int32))), (0, .ref (am 0)), (1, .int x1)]) hx hb dX5_copyCount_47 hl (k := 3) rfl (by rfl) (by decide) rfl (fun ls hl => ?_)
            refine lv_goto (tgt := 15) hx hb dX5_copyCount_50 (by decide) ?_
            exact ih ((x2 + (0 : Int32))) ((x3 + (1 : Int32))) _ _ _ hF Z (lv_sub hl [2, 3, 1, 0] rfl)
          · rw [if_pos c7] at hF
            refine lv_iconst (v := (1 : Int32)) hx hb dX5_copyCount_40 (by decide) ?_
            refine lv_goto (tgt := 45) hx hb dX5_copyCount_41 (by decide) ?_
            refine lv_iadd hx hb dX5_copyCount_45 ?_
            refine lv_istore_n (lv' := [(2, .int (x2 + (1 : Int32))), (0, .ref (am 0)), (1, .int x1), (3, .int x3)]) hx hb dX5_copyCount_46 rfl hl (by decide) rfl (fun ls hl => ?_)
            refine lv_iinc (v := (x3 + (1 : Int32))) (lv' := [(3, .int (x3 + (1 : Int32))), (2, .int (x2 + (1 : Int32))), (0, .ref (am 0)), (1, .int x1)]) hx hb dX5_copyCount_47 hl (k := 3) rfl (by rfl) (by decide) rfl (fun ls hl => ?_)
            refine lv_goto (tgt := 15) hx hb dX5_copyCount_50 (by decide) ?_
            exact ih ((x2 + (1 : Int32))) ((x3 + (1 : Int32))) _ _ _ hF Z (lv_sub hl [2, 3, 1, 0] rfl)
  unfold X5_copyCount at hF
  refine lv_iload_n hx hb dX5_copyCount_0 rfl (lv_at hl 1 rfl) ?_
  refine lv_iconst (v := (-1 : Int32)) hx hb dX5_copyCount_1 (by decide) ?_
  refine lv_iconst (v := (5 : Int32)) hx hb dX5_copyCount_2 (by decide) ?_
  refine ks_i (As := [.int p1, .int (-1 : Int32), .int (5 : Int32)]) Fc hA Z (c_X5_in l D cI cS p1 (-1 : Int32) (5 : Int32) (X5_in p1 (-1 : Int32) (5 : Int32)) rfl) mL_RX5_51 v_X5_in ⟨rfl, rfl⟩ ⟨Nat.le_of_ble_eq_true rfl, Nat.le_of_ble_eq_true rfl⟩ ⟨Nat.zero_le _, Nat.zero_le _⟩ rfl hl (Nat.le_of_ble_eq_true rfl) dX5_copyCount_3 rfl (fun H locs Z => ?_)
  refine lv_if_ne (tgt := 11) hx hb dX5_copyCount_6 (by decide) (fun c8 => ?_) (fun c8 => ?_)
  · rw [if_neg c8] at hF
    refine lv_iconst (v := (0 : Int32)) hx hb dX5_copyCount_11 (by decide) ?_
    refine lv_istore_n (lv' := [(2, .int (0 : Int32)), (0, .ref (am 0)), (1, .int p1)]) hx hb dX5_copyCount_12 rfl hl (by decide) rfl (fun ls hl => ?_)
    refine lv_iconst (v := (0 : Int32)) hx hb dX5_copyCount_13 (by decide) ?_
    refine lv_istore_n (lv' := [(3, .int (0 : Int32)), (2, .int (0 : Int32)), (0, .ref (am 0)), (1, .int p1)]) hx hb dX5_copyCount_14 rfl hl (by decide) rfl (fun ls hl => ?_)
    exact L15 p1 FU (0 : Int32) (0 : Int32) _ _ _ hF Z (lv_sub hl [2, 3, 1, 0] rfl)
  · rw [if_pos c8] at hF
    refine lv_iconst (v := (-1 : Int32)) hx hb dX5_copyCount_9 (by decide) ?_
    exact kret (-1 : Int32) ρ _ _ _ _ ⟨(Option.some.inj hF), rfl⟩ Z dX5_copyCount_10
def X5_day (ρ : Ms) : Option (Int32) := (rdA (ρ.1.1 0) 681 (0 : Int32)).bind fun v1 => some v1
def rm_X5_day : Room := { frames := 0, cells := 0, slots := 0, locals := 0 }
theorem v_X5_day : WdV RX5 yX5_day cX5_day 1 (some .int) 0 := ⟨mI_X5_day, mS_X5_day, mZ_RX5, mC_X5_day, by decide +kernel⟩
set_option maxHeartbeats 8000000 in
set_option maxRecDepth 100000 in
theorem c_X5_day (l : Launch) (D : va_G) (cI cS : ClassId) (am : Nat → Nat) (ρ : Ms) (F : Int32) (hF : X5_day ρ = some F) : MI l yX5_day cX5_day 1 (some .int) rm_X5_day D cI cS [.ref (am 0)] (mW am cI ρ) (mW am cI) (fun r u' => r = F ∧ u' = ρ) := by
  refine MI.mk RX5 rfl .int rfl (by decide) (Nat.le_of_ble_eq_true rfl) (fun _ _ _ => rfl) ?_
  intro p e s m args below meth c A Q ls Fc hin hA Z kret hl
  obtain ⟨hx, hb, hml, hown, hts, hKN⟩ := id Fc
  replace hl : lv_has ls 1 [(0, .ref (am 0))] := hl
  unfold X5_day at hF
  refine lv_aload_n hx hb dX5_day_0 rfl (lv_at hl 0 rfl) ?_
  refine kget Fc Z inX5 0 rfl rfl 0 (by decide) mF_RX5_11 rfl rfl dX5_day_1 ?_
  refine lv_iconst (v := (0 : Int32)) hx hb dX5_day_4 (by decide) ?_
  obtain ⟨v1, h2, hF⟩ := obind hF
  refine kald Fc Z 1 rfl h2 dX5_day_5 ?_
  exact kret v1 ρ _ _ _ _ ⟨(Option.some.inj hF), rfl⟩ Z dX5_day_6
def X5_lessens (ρ : Ms) (p1 p2 p3 : Int32) : Option (Int32 × Ms) := (X5_isPatron ρ p2).bind fun v1 => if (bi v1) = 0 then (some (((-1 : Int32), ρ))) else if p3 < (1 : Int32) then (some (((-1 : Int32), ρ))) else (rdA (ρ.1.1 0) 681 (((253 : Int32) + ((4 : Int32) * p2)))).bind fun v5 => if p3 ≤ v5 then ((X5_owes ρ p1 p2 (-p3) (-1 : Int32)).bind fun q8 => (rdA (q8.1.1 0) 681 (((253 : Int32) + ((4 : Int32) * p2)))).bind fun v10 => some (v10, q8)) else some (((-1 : Int32), ρ))
def rm_X5_lessens : Room := { frames := 2, cells := 0, slots := 0, locals := 48 }
theorem v_X5_lessens : WdV RX5 yX5_lessens cX5_lessens 4 (some .int) 3 := ⟨mI_X5_lessens, mS_X5_lessens, mZ_RX5, mC_X5_lessens, by decide +kernel⟩
set_option maxHeartbeats 8000000 in
set_option maxRecDepth 100000 in
theorem c_X5_lessens (l : Launch) (D : va_G) (cI cS : ClassId) (am : Nat → Nat) (ρ : Ms) (p1 p2 p3 : Int32) (F : Int32 × Ms) (hF : X5_lessens ρ p1 p2 p3 = some F) : MI l yX5_lessens cX5_lessens 4 (some .int) rm_X5_lessens D cI cS [.ref (am 0), .int p1, .int p2, .int p3] (mW am cI ρ) (mW am cI) (fun r u => r = F.1 ∧ u = F.2 ∧ True) := by
  refine MI.mk RX5 rfl .int rfl (by decide) (Nat.le_of_ble_eq_true rfl) (fun _ _ _ => rfl) ?_
  intro p e s m args below meth c A Q ls Fc hin hA Z kret hl
  obtain ⟨hx, hb, hml, hown, hts, hKN⟩ := id Fc
  replace hl : lv_has ls 4 [(0, .ref (am 0)), (1, .int p1), (2, .int p2), (3, .int p3)] := hl
  unfold X5_lessens at hF
  refine lv_aload_n hx hb dX5_lessens_0 rfl (lv_at hl 0 rfl) ?_
  refine lv_iload_n hx hb dX5_lessens_1 rfl (lv_at hl 2 rfl) ?_
  obtain ⟨v1, h2, hF⟩ := obind hF
  refine kr_i (As := [.int p2]) Fc hA Z Lens.all (c_X5_isPatron l D cI cS am ρ p2 v1 h2) mL_RX5_147 v_X5_isPatron ⟨rfl, rfl⟩ ⟨Nat.le_of_ble_eq_true rfl, Nat.le_of_ble_eq_true rfl⟩ ⟨Nat.zero_le _, Nat.zero_le _⟩ 0 5 rfl rfl rfl hl (Nat.le_of_ble_eq_true rfl) dX5_lessens_2 rfl (fun H locs Z => ?_)
  refine lv_if_eq (tgt := 29) hx hb dX5_lessens_5 (by decide) (fun c3 => ?_) (fun c3 => ?_)
  · rw [if_pos c3] at hF
    refine lv_iconst (v := (-1 : Int32)) hx hb dX5_lessens_29 (by decide) ?_
    exact kret (-1 : Int32) ρ _ _ _ _ ⟨(pfst (Option.some.inj hF)), psnd (Option.some.inj hF), trivial⟩ Z dX5_lessens_30
  · rw [if_neg c3] at hF
    refine lv_iload_n hx hb dX5_lessens_8 rfl (lv_at hl 3 rfl) ?_
    refine lv_iconst (v := (1 : Int32)) hx hb dX5_lessens_9 (by decide) ?_
    refine lv_icmp_lt (tgt := 29) hx hb dX5_lessens_10 (by decide) (fun c4 => ?_) (fun c4 => ?_)
    · rw [if_pos c4] at hF
      refine lv_iconst (v := (-1 : Int32)) hx hb dX5_lessens_29 (by decide) ?_
      exact kret (-1 : Int32) ρ _ _ _ _ ⟨(pfst (Option.some.inj hF)), psnd (Option.some.inj hF), trivial⟩ Z dX5_lessens_30
    · rw [if_neg c4] at hF
      refine lv_iload_n hx hb dX5_lessens_13 rfl (lv_at hl 3 rfl) ?_
      refine lv_aload_n hx hb dX5_lessens_14 rfl (lv_at hl 0 rfl) ?_
      refine kget Fc Z inX5 0 rfl rfl 0 (by decide) mF_RX5_11 rfl rfl dX5_lessens_15 ?_
      refine lv_sipush (v := (253 : Int32)) hx hb dX5_lessens_18 (by decide) ?_
      refine lv_iconst (v := (4 : Int32)) hx hb dX5_lessens_21 (by decide) ?_
      refine lv_iload_n hx hb dX5_lessens_22 rfl (lv_at hl 2 rfl) ?_
      refine lv_imul hx hb dX5_lessens_23 ?_
      refine lv_iadd hx hb dX5_lessens_24 ?_
      obtain ⟨v5, h6, hF⟩ := obind hF
      refine kald Fc Z 1 rfl h6 dX5_lessens_25 ?_
      refine lv_icmp_le (tgt := 31) hx hb dX5_lessens_26 (by decide) (fun c7 => ?_) (fun c7 => ?_)
      · rw [if_pos c7] at hF
        refine lv_aload_n hx hb dX5_lessens_31 rfl (lv_at hl 0 rfl) ?_
        refine lv_iload_n hx hb dX5_lessens_32 rfl (lv_at hl 1 rfl) ?_
        refine lv_iload_n hx hb dX5_lessens_33 rfl (lv_at hl 2 rfl) ?_
        refine lv_iload_n hx hb dX5_lessens_34 rfl (lv_at hl 3 rfl) ?_
        refine lv_ineg hx hb dX5_lessens_35 ?_
        refine lv_iconst (v := (-1 : Int32)) hx hb dX5_lessens_36 (by decide) ?_
        obtain ⟨q8, h9, hF⟩ := obind hF
        refine kv_i (As := [.int p1, .int p2, .int (-p3), .int (-1 : Int32)]) (ok := (fun _ => True)) Fc hA Z Lens.all (c_X5_owes l D cI cS am ρ p1 p2 (-p3) (-1 : Int32) q8 h9) mL_RX5_126 v_X5_owes ⟨rfl, rfl⟩ ⟨Nat.le_of_ble_eq_true rfl, Nat.le_of_ble_eq_true rfl⟩ ⟨Nat.zero_le _, Nat.zero_le _⟩ 0 5 rfl rfl rfl hl (Nat.le_of_ble_eq_true rfl) dX5_lessens_37 rfl (fun H locs ok1 Z => ?_)
        refine lv_aload_n hx hb dX5_lessens_40 rfl (lv_at hl 0 rfl) ?_
        refine kget Fc Z inX5 0 rfl rfl 0 (by decide) mF_RX5_11 rfl rfl dX5_lessens_41 ?_
        refine lv_sipush (v := (253 : Int32)) hx hb dX5_lessens_44 (by decide) ?_
        refine lv_iconst (v := (4 : Int32)) hx hb dX5_lessens_47 (by decide) ?_
        refine lv_iload_n hx hb dX5_lessens_48 rfl (lv_at hl 2 rfl) ?_
        refine lv_imul hx hb dX5_lessens_49 ?_
        refine lv_iadd hx hb dX5_lessens_50 ?_
        obtain ⟨v10, h11, hF⟩ := obind hF
        refine kald Fc Z 1 rfl h11 dX5_lessens_51 ?_
        exact kret v10 q8 _ _ _ _ ⟨(pfst (Option.some.inj hF)), psnd (Option.some.inj hF), trivial⟩ Z dX5_lessens_52
      · rw [if_neg c7] at hF
        refine lv_iconst (v := (-1 : Int32)) hx hb dX5_lessens_29 (by decide) ?_
        exact kret (-1 : Int32) ρ _ _ _ _ ⟨(pfst (Option.some.inj hF)), psnd (Option.some.inj hF), trivial⟩ Z dX5_lessens_30
def X5_loses (ρ : Ms) (p1 : Int32) : Option (Ms) := (X5_of ρ p1 (3 : Int32)).bind fun v1 => if v1 = (1 : Int32) then ((X5_late ρ p1).bind fun v18 => (X5_puts ρ p1 (9 : Int32) v18).bind fun q20 => (X5_of q20 p1 (4 : Int32)).bind fun v22 => (X5_turns q20 p1 (5 : Int32) v22 (0 : Int32)).bind fun q24 => (rdA (q24.1.1 0) 681 (11 : Int32)).bind fun v26 => (X5_puts q24 p1 (10 : Int32) v26).bind fun q28 => (X5_of q28 p1 (4 : Int32)).bind fun v30 => (rdA (q28.1.1 0) 681 (11 : Int32)).bind fun v32 => (X5_owes q28 (1 : Int32) v30 v32 p1).bind fun q34 => some q34) else (X5_of ρ p1 (4 : Int32)).bind fun v4 => (X5_turns ρ p1 (5 : Int32) v4 (0 : Int32)).bind fun q6 => (rdA (q6.1.1 0) 681 (11 : Int32)).bind fun v8 => (X5_puts q6 p1 (10 : Int32) v8).bind fun q10 => (X5_of q10 p1 (4 : Int32)).bind fun v12 => (rdA (q10.1.1 0) 681 (11 : Int32)).bind fun v14 => (X5_owes q10 (1 : Int32) v12 v14 p1).bind fun q16 => some q16
def rm_X5_loses : Room := { frames := 2, cells := 0, slots := 0, locals := 48 }
theorem v_X5_loses : WdV RX5 yX5_loses cX5_loses 2 none 1 := ⟨mI_X5_loses, mS_X5_loses, mZ_RX5, mC_X5_loses, by decide +kernel⟩
set_option maxHeartbeats 8000000 in
set_option maxRecDepth 100000 in
theorem c_X5_loses (l : Launch) (D : va_G) (cI cS : ClassId) (am : Nat → Nat) (ρ : Ms) (p1 : Int32) (F : Ms) (hF : X5_loses ρ p1 = some F) : MV l yX5_loses cX5_loses 2 rm_X5_loses D cI cS [.ref (am 0), .int p1] (mW am cI ρ) (mW am cI) (fun u => u = F ∧ True) := by
  refine MV.mk RX5 rfl (by decide) (Nat.le_of_ble_eq_true rfl) ?_
  intro p e s m args below meth c A Q ls Fc hin hA Z kret hl
  obtain ⟨hx, hb, hml, hown, hts, hKN⟩ := id Fc
  replace hl : lv_has ls 2 [(0, .ref (am 0)), (1, .int p1)] := hl
  unfold X5_loses at hF
  refine lv_aload_n hx hb dX5_loses_0 rfl (lv_at hl 0 rfl) ?_
  refine lv_iload_n hx hb dX5_loses_1 rfl (lv_at hl 1 rfl) ?_
  refine lv_iconst (v := (3 : Int32)) hx hb dX5_loses_2 (by decide) ?_
  obtain ⟨v1, h2, hF⟩ := obind hF
  refine kr_i (As := [.int p1, .int (3 : Int32)]) Fc hA Z Lens.all (c_X5_of l D cI cS am ρ p1 (3 : Int32) v1 h2) mL_RX5_73 v_X5_of ⟨rfl, rfl⟩ ⟨Nat.le_of_ble_eq_true rfl, Nat.le_of_ble_eq_true rfl⟩ ⟨Nat.zero_le _, Nat.zero_le _⟩ 0 5 rfl rfl rfl hl (Nat.le_of_ble_eq_true rfl) dX5_loses_3 rfl (fun H locs Z => ?_)
  refine lv_iconst (v := (1 : Int32)) hx hb dX5_loses_6 (by decide) ?_
  refine lv_icmp_ne (tgt := 22) hx hb dX5_loses_7 (by decide) (fun c3 => ?_) (fun c3 => ?_)
  · rw [if_neg c3] at hF
    refine lv_aload_n hx hb dX5_loses_22 rfl (lv_at hl 0 rfl) ?_
    refine lv_iload_n hx hb dX5_loses_23 rfl (lv_at hl 1 rfl) ?_
    refine lv_iconst (v := (5 : Int32)) hx hb dX5_loses_24 (by decide) ?_
    refine lv_aload_n hx hb dX5_loses_25 rfl (lv_at hl 0 rfl) ?_
    refine lv_iload_n hx hb dX5_loses_26 rfl (lv_at hl 1 rfl) ?_
    refine lv_iconst (v := (4 : Int32)) hx hb dX5_loses_27 (by decide) ?_
    obtain ⟨v4, h5, hF⟩ := obind hF
    refine kr_i (As := [.int p1, .int (4 : Int32)]) Fc hA Z Lens.all (c_X5_of l D cI cS am ρ p1 (4 : Int32) v4 h5) mL_RX5_73 v_X5_of ⟨rfl, rfl⟩ ⟨Nat.le_of_ble_eq_true rfl, Nat.le_of_ble_eq_true rfl⟩ ⟨Nat.zero_le _, Nat.zero_le _⟩ 0 5 rfl rfl rfl hl (Nat.le_of_ble_eq_true rfl) dX5_loses_28 rfl (fun H locs Z => ?_)
    refine lv_iconst (v := (0 : Int32)) hx hb dX5_loses_31 (by decide) ?_
    obtain ⟨q6, h7, hF⟩ := obind hF
    refine kv_i (As := [.int p1, .int (5 : Int32), .int v4, .int (0 : Int32)]) (ok := (fun _ => True)) Fc hA Z Lens.all (c_X5_turns l D cI cS am ρ p1 (5 : Int32) v4 (0 : Int32) q6 h7) mL_RX5_63 v_X5_turns ⟨rfl, rfl⟩ ⟨Nat.le_of_ble_eq_true rfl, Nat.le_of_ble_eq_true rfl⟩ ⟨Nat.zero_le _, Nat.zero_le _⟩ 0 5 rfl rfl rfl hl (Nat.le_of_ble_eq_true rfl) dX5_loses_32 rfl (fun H locs ok1 Z => ?_)
    refine lv_aload_n hx hb dX5_loses_35 rfl (lv_at hl 0 rfl) ?_
    refine lv_iload_n hx hb dX5_loses_36 rfl (lv_at hl 1 rfl) ?_
    refine lv_bipush (v := (10 : Int32)) hx hb dX5_loses_37 (by decide) ?_
    refine lv_aload_n hx hb dX5_loses_39 rfl (lv_at hl 0 rfl) ?_
    refine kget Fc Z inX5 0 rfl rfl 0 (by decide) mF_RX5_11 rfl rfl dX5_loses_40 ?_
    refine lv_bipush (v := (11 : Int32)) hx hb dX5_loses_43 (by decide) ?_
    obtain ⟨v8, h9, hF⟩ := obind hF
    refine kald Fc Z 1 rfl h9 dX5_loses_45 ?_
    obtain ⟨q10, h11, hF⟩ := obind hF
    refine kv_i (As := [.int p1, .int (10 : Int32), .int v8]) (ok := (fun _ => True)) Fc hA Z Lens.all (c_X5_puts l D cI cS am q6 p1 (10 : Int32) v8 q10 h11) mL_RX5_55 v_X5_puts ⟨rfl, rfl⟩ ⟨Nat.le_of_ble_eq_true rfl, Nat.le_of_ble_eq_true rfl⟩ ⟨Nat.zero_le _, Nat.zero_le _⟩ 0 5 rfl rfl rfl hl (Nat.le_of_ble_eq_true rfl) dX5_loses_46 rfl (fun H locs ok1 Z => ?_)
    refine lv_aload_n hx hb dX5_loses_49 rfl (lv_at hl 0 rfl) ?_
    refine lv_iconst (v := (1 : Int32)) hx hb dX5_loses_50 (by decide) ?_
    refine lv_aload_n hx hb dX5_loses_51 rfl (lv_at hl 0 rfl) ?_
    refine lv_iload_n hx hb dX5_loses_52 rfl (lv_at hl 1 rfl) ?_
    refine lv_iconst (v := (4 : Int32)) hx hb dX5_loses_53 (by decide) ?_
    obtain ⟨v12, h13, hF⟩ := obind hF
    refine kr_i (As := [.int p1, .int (4 : Int32)]) Fc hA Z Lens.all (c_X5_of l D cI cS am q10 p1 (4 : Int32) v12 h13) mL_RX5_73 v_X5_of ⟨rfl, rfl⟩ ⟨Nat.le_of_ble_eq_true rfl, Nat.le_of_ble_eq_true rfl⟩ ⟨Nat.zero_le _, Nat.zero_le _⟩ 0 5 rfl rfl rfl hl (Nat.le_of_ble_eq_true rfl) dX5_loses_54 rfl (fun H locs Z => ?_)
    refine lv_aload_n hx hb dX5_loses_57 rfl (lv_at hl 0 rfl) ?_
    refine kget Fc Z inX5 0 rfl rfl 0 (by decide) mF_RX5_11 rfl rfl dX5_loses_58 ?_
    refine lv_bipush (v := (11 : Int32)) hx hb dX5_loses_61 (by decide) ?_
    obtain ⟨v14, h15, hF⟩ := obind hF
    refine kald Fc Z 1 rfl h15 dX5_loses_63 ?_
    refine lv_iload_n hx hb dX5_loses_64 rfl (lv_at hl 1 rfl) ?_
    obtain ⟨q16, h17, hF⟩ := obind hF
    refine kv_i (As := [.int (1 : Int32), .int v12, .int v14, .int p1]) (ok := (fun _ => True)) Fc hA Z Lens.all (c_X5_owes l D cI cS am q10 (1 : Int32) v12 v14 p1 q16 h17) mL_RX5_126 v_X5_owes ⟨rfl, rfl⟩ ⟨Nat.le_of_ble_eq_true rfl, Nat.le_of_ble_eq_true rfl⟩ ⟨Nat.zero_le _, Nat.zero_le _⟩ 0 5 rfl rfl rfl hl (Nat.le_of_ble_eq_true rfl) dX5_loses_65 rfl (fun H locs ok1 Z => ?_)
    exact kret q16 _ _ _ _ ⟨(Option.some.inj hF), trivial⟩ Z dX5_loses_68
  · rw [if_pos c3] at hF
    refine lv_aload_n hx hb dX5_loses_10 rfl (lv_at hl 0 rfl) ?_
    refine lv_iload_n hx hb dX5_loses_11 rfl (lv_at hl 1 rfl) ?_
    refine lv_bipush (v := (9 : Int32)) hx hb dX5_loses_12 (by decide) ?_
    refine lv_aload_n hx hb dX5_loses_14 rfl (lv_at hl 0 rfl) ?_
    refine lv_iload_n hx hb dX5_loses_15 rfl (lv_at hl 1 rfl) ?_
    obtain ⟨v18, h19, hF⟩ := obind hF
    refine kr_i (As := [.int p1]) Fc hA Z Lens.all (c_X5_late l D cI cS am ρ p1 v18 h19) mL_RX5_123 v_X5_late ⟨rfl, rfl⟩ ⟨Nat.le_of_ble_eq_true rfl, Nat.le_of_ble_eq_true rfl⟩ ⟨Nat.zero_le _, Nat.zero_le _⟩ 0 5 rfl rfl rfl hl (Nat.le_of_ble_eq_true rfl) dX5_loses_16 rfl (fun H locs Z => ?_)
    obtain ⟨q20, h21, hF⟩ := obind hF
    refine kv_i (As := [.int p1, .int (9 : Int32), .int v18]) (ok := (fun _ => True)) Fc hA Z Lens.all (c_X5_puts l D cI cS am ρ p1 (9 : Int32) v18 q20 h21) mL_RX5_55 v_X5_puts ⟨rfl, rfl⟩ ⟨Nat.le_of_ble_eq_true rfl, Nat.le_of_ble_eq_true rfl⟩ ⟨Nat.zero_le _, Nat.zero_le _⟩ 0 5 rfl rfl rfl hl (Nat.le_of_ble_eq_true rfl) dX5_loses_19 rfl (fun H locs ok1 Z => ?_)
    refine lv_aload_n hx hb dX5_loses_22 rfl (lv_at hl 0 rfl) ?_
    refine lv_iload_n hx hb dX5_loses_23 rfl (lv_at hl 1 rfl) ?_
    refine lv_iconst (v := (5 : Int32)) hx hb dX5_loses_24 (by decide) ?_
    refine lv_aload_n hx hb dX5_loses_25 rfl (lv_at hl 0 rfl) ?_
    refine lv_iload_n hx hb dX5_loses_26 rfl (lv_at hl 1 rfl) ?_
    refine lv_iconst (v := (4 : Int32)) hx hb dX5_loses_27 (by decide) ?_
    obtain ⟨v22, h23, hF⟩ := obind hF
    refine kr_i (As := [.int p1, .int (4 : Int32)]) Fc hA Z Lens.all (c_X5_of l D cI cS am q20 p1 (4 : Int32) v22 h23) mL_RX5_73 v_X5_of ⟨rfl, rfl⟩ ⟨Nat.le_of_ble_eq_true rfl, Nat.le_of_ble_eq_true rfl⟩ ⟨Nat.zero_le _, Nat.zero_le _⟩ 0 5 rfl rfl rfl hl (Nat.le_of_ble_eq_true rfl) dX5_loses_28 rfl (fun H locs Z => ?_)
    refine lv_iconst (v := (0 : Int32)) hx hb dX5_loses_31 (by decide) ?_
    obtain ⟨q24, h25, hF⟩ := obind hF
    refine kv_i (As := [.int p1, .int (5 : Int32), .int v22, .int (0 : Int32)]) (ok := (fun _ => True)) Fc hA Z Lens.all (c_X5_turns l D cI cS am q20 p1 (5 : Int32) v22 (0 : Int32) q24 h25) mL_RX5_63 v_X5_turns ⟨rfl, rfl⟩ ⟨Nat.le_of_ble_eq_true rfl, Nat.le_of_ble_eq_true rfl⟩ ⟨Nat.zero_le _, Nat.zero_le _⟩ 0 5 rfl rfl rfl hl (Nat.le_of_ble_eq_true rfl) dX5_loses_32 rfl (fun H locs ok1 Z => ?_)
    refine lv_aload_n hx hb dX5_loses_35 rfl (lv_at hl 0 rfl) ?_
    refine lv_iload_n hx hb dX5_loses_36 rfl (lv_at hl 1 rfl) ?_
    refine lv_bipush (v := (10 : Int32)) hx hb dX5_loses_37 (by decide) ?_
    refine lv_aload_n hx hb dX5_loses_39 rfl (lv_at hl 0 rfl) ?_
    refine kget Fc Z inX5 0 rfl rfl 0 (by decide) mF_RX5_11 rfl rfl dX5_loses_40 ?_
    refine lv_bipush (v := (11 : Int32)) hx hb dX5_loses_43 (by decide) ?_
    obtain ⟨v26, h27, hF⟩ := obind hF
    refine kald Fc Z 1 rfl h27 dX5_loses_45 ?_
    obtain ⟨q28, h29, hF⟩ := obind hF
    refine kv_i (As := [.int p1, .int (10 : Int32), .int v26]) (ok := (fun _ => True)) Fc hA Z Lens.all (c_X5_puts l D cI cS am q24 p1 (10 : Int32) v26 q28 h29) mL_RX5_55 v_X5_puts ⟨rfl, rfl⟩ ⟨Nat.le_of_ble_eq_true rfl, Nat.le_of_ble_eq_true rfl⟩ ⟨Nat.zero_le _, Nat.zero_le _⟩ 0 5 rfl rfl rfl hl (Nat.le_of_ble_eq_true rfl) dX5_loses_46 rfl (fun H locs ok1 Z => ?_)
    refine lv_aload_n hx hb dX5_loses_49 rfl (lv_at hl 0 rfl) ?_
    refine lv_iconst (v := (1 : Int32)) hx hb dX5_loses_50 (by decide) ?_
    refine lv_aload_n hx hb dX5_loses_51 rfl (lv_at hl 0 rfl) ?_
    refine lv_iload_n hx hb dX5_loses_52 rfl (lv_at hl 1 rfl) ?_
    refine lv_iconst (v := (4 : Int32)) hx hb dX5_loses_53 (by decide) ?_
    obtain ⟨v30, h31, hF⟩ := obind hF
    refine kr_i (As := [.int p1, .int (4 : Int32)]) Fc hA Z Lens.all (c_X5_of l D cI cS am q28 p1 (4 : Int32) v30 h31) mL_RX5_73 v_X5_of ⟨rfl, rfl⟩ ⟨Nat.le_of_ble_eq_true rfl, Nat.le_of_ble_eq_true rfl⟩ ⟨Nat.zero_le _, Nat.zero_le _⟩ 0 5 rfl rfl rfl hl (Nat.le_of_ble_eq_true rfl) dX5_loses_54 rfl (fun H locs Z => ?_)
    refine lv_aload_n hx hb dX5_loses_57 rfl (lv_at hl 0 rfl) ?_
    refine kget Fc Z inX5 0 rfl rfl 0 (by decide) mF_RX5_11 rfl rfl dX5_loses_58 ?_
    refine lv_bipush (v := (11 : Int32)) hx hb dX5_loses_61 (by decide) ?_
    obtain ⟨v32, h33, hF⟩ := obind hF
    refine kald Fc Z 1 rfl h33 dX5_loses_63 ?_
    refine lv_iload_n hx hb dX5_loses_64 rfl (lv_at hl 1 rfl) ?_
    obtain ⟨q34, h35, hF⟩ := obind hF
    refine kv_i (As := [.int (1 : Int32), .int v30, .int v32, .int p1]) (ok := (fun _ => True)) Fc hA Z Lens.all (c_X5_owes l D cI cS am q28 (1 : Int32) v30 v32 p1 q34 h35) mL_RX5_126 v_X5_owes ⟨rfl, rfl⟩ ⟨Nat.le_of_ble_eq_true rfl, Nat.le_of_ble_eq_true rfl⟩ ⟨Nat.zero_le _, Nat.zero_le _⟩ 0 5 rfl rfl rfl hl (Nat.le_of_ble_eq_true rfl) dX5_loses_65 rfl (fun H locs ok1 Z => ?_)
    exact kret q34 _ _ _ _ ⟨(Option.some.inj hF), trivial⟩ Z dX5_loses_68
def X5_expire_L2 : Nat → Int32 → Ms → Option (Ms)
  | 0, _, _ => none
  | k + 1, x1, ρ => (rdA (ρ.1.1 0) 681 (1 : Int32)).bind fun v1 => if v1 ≤ x1 then (some ρ) else (X5_of ρ x1 (3 : Int32)).bind fun v4 => if v4 = (3 : Int32) then ((X5_of ρ x1 (5 : Int32)).bind fun v7 => (rdA (ρ.1.1 0) 681 (0 : Int32)).bind fun v9 => if v7 < v9 then ((X5_holdOf ρ x1).bind fun v12 => (X5_removes ρ v12).bind fun q14 => (X5_of q14 x1 (4 : Int32)).bind fun v16 => (X5_frees q14 x1 v16).bind fun q18 => X5_expire_L2 k ((x1 + (1 : Int32))) q18) else X5_expire_L2 k ((x1 + (1 : Int32))) ρ) else X5_expire_L2 k ((x1 + (1 : Int32))) ρ
def X5_expire (ρ : Ms) : Option (Ms) := X5_expire_L2 FU (0 : Int32) ρ
def rm_X5_expire : Room := { frames := 4, cells := 0, slots := 0, locals := 95 }
theorem v_X5_expire : WdV RX5 yX5_expire cX5_expire 2 none 0 := ⟨mI_X5_expire, mS_X5_expire, mZ_RX5, mC_X5_expire, by decide +kernel⟩
set_option maxHeartbeats 8000000 in
set_option maxRecDepth 100000 in
theorem c_X5_expire (l : Launch) (D : va_G) (cI cS : ClassId) (am : Nat → Nat) (ρ : Ms) (F : Ms) (hF : X5_expire ρ = some F) : MV l yX5_expire cX5_expire 2 rm_X5_expire D cI cS [.ref (am 0)] (mW am cI ρ) (mW am cI) (fun u => u = F ∧ True) := by
  refine MV.mk RX5 rfl (by decide) (Nat.le_of_ble_eq_true rfl) ?_
  intro p e s m args below meth c A Q ls Fc hin hA Z kret hl
  obtain ⟨hx, hb, hml, hown, hts, hKN⟩ := id Fc
  replace hl : lv_has ls 2 [(0, .ref (am 0))] := hl
  have L2 : ∀ (k : Nat) (x1 : Int32) (ρ : Ms) (H : Heap) (locs : List Loc) (ls : Array Slot), X5_expire_L2  k x1 ρ = some F → Ix D A s (mW am cI ρ) H locs → lv_has ls 2 [(0, .ref (am 0)), (1, .int x1)] → W p l e rm_X5_expire s m args below meth c H locs 0 0 Q (F0 m 2 ls []) := by
    intro k
    induction k with
    | zero => intro x1 ρ H locs ls hF; rw [X5_expire_L2] at hF; cases hF
    | succ k ih =>
      intro x1 ρ H locs ls hF Z hl
      rw [X5_expire_L2] at hF
      refine lv_iload_n hx hb dX5_expire_2 rfl (lv_at hl 1 rfl) ?_
      refine lv_aload_n hx hb dX5_expire_3 rfl (lv_at hl 0 rfl) ?_
      refine kget Fc Z inX5 0 rfl rfl 0 (by decide) mF_RX5_11 rfl rfl dX5_expire_4 ?_
      refine lv_iconst (v := (1 : Int32)) hx hb dX5_expire_7 (by decide) ?_
      obtain ⟨v1, h2, hF⟩ := obind hF
      refine kald Fc Z 1 rfl h2 dX5_expire_8 ?_
      refine lv_icmp_ge (tgt := 66) hx hb dX5_expire_9 (by decide) (fun c3 => ?_) (fun c3 => ?_)
      · rw [if_pos c3] at hF
        exact kret ρ _ _ _ _ ⟨(Option.some.inj hF), trivial⟩ Z dX5_expire_66
      · rw [if_neg c3] at hF
        refine lv_aload_n hx hb dX5_expire_12 rfl (lv_at hl 0 rfl) ?_
        refine lv_iload_n hx hb dX5_expire_13 rfl (lv_at hl 1 rfl) ?_
        refine lv_iconst (v := (3 : Int32)) hx hb dX5_expire_14 (by decide) ?_
        obtain ⟨v4, h5, hF⟩ := obind hF
        refine kr_i (As := [.int x1, .int (3 : Int32)]) Fc hA Z Lens.all (c_X5_of l D cI cS am ρ x1 (3 : Int32) v4 h5) mL_RX5_73 v_X5_of ⟨rfl, rfl⟩ ⟨Nat.le_of_ble_eq_true rfl, Nat.le_of_ble_eq_true rfl⟩ ⟨Nat.zero_le _, Nat.zero_le _⟩ 0 5 rfl rfl rfl hl (Nat.le_of_ble_eq_true rfl) dX5_expire_15 rfl (fun H locs Z => ?_)
        refine lv_iconst (v := (3 : Int32)) hx hb dX5_expire_18 (by decide) ?_
        refine lv_icmp_ne (tgt := 60) hx hb dX5_expire_19 (by decide) (fun c6 => ?_) (fun c6 => ?_)
        · rw [if_neg c6] at hF
          refine lv_iinc (v := (x1 + (1 : Int32))) (lv' := [(1, .int (x1 + (1 : Int32))), (0, .ref (am 0))]) hx hb dX5_expire_60 hl (k := 1) rfl (by rfl) (by decide) rfl (fun ls hl => ?_)
          refine lv_goto (tgt := 2) hx hb dX5_expire_63 (by decide) ?_
          exact ih ((x1 + (1 : Int32))) ρ _ _ _ hF Z (lv_sub hl [1, 0] rfl)
        · rw [if_pos c6] at hF
          refine lv_aload_n hx hb dX5_expire_22 rfl (lv_at hl 0 rfl) ?_
          refine lv_iload_n hx hb dX5_expire_23 rfl (lv_at hl 1 rfl) ?_
          refine lv_iconst (v := (5 : Int32)) hx hb dX5_expire_24 (by decide) ?_
          obtain ⟨v7, h8, hF⟩ := obind hF
          refine kr_i (As := [.int x1, .int (5 : Int32)]) Fc hA Z Lens.all (c_X5_of l D cI cS am ρ x1 (5 : Int32) v7 h8) mL_RX5_73 v_X5_of ⟨rfl, rfl⟩ ⟨Nat.le_of_ble_eq_true rfl, Nat.le_of_ble_eq_true rfl⟩ ⟨Nat.zero_le _, Nat.zero_le _⟩ 0 5 rfl rfl rfl hl (Nat.le_of_ble_eq_true rfl) dX5_expire_25 rfl (fun H locs Z => ?_)
          refine lv_aload_n hx hb dX5_expire_28 rfl (lv_at hl 0 rfl) ?_
          refine kget Fc Z inX5 0 rfl rfl 0 (by decide) mF_RX5_11 rfl rfl dX5_expire_29 ?_
          refine lv_iconst (v := (0 : Int32)) hx hb dX5_expire_32 (by decide) ?_
          obtain ⟨v9, h10, hF⟩ := obind hF
          refine kald Fc Z 1 rfl h10 dX5_expire_33 ?_
          refine lv_icmp_lt (tgt := 40) hx hb dX5_expire_34 (by decide) (fun c11 => ?_) (fun c11 => ?_)
          · rw [if_pos c11] at hF
            refine lv_aload_n hx hb dX5_expire_40 rfl (lv_at hl 0 rfl) ?_
            refine lv_aload_n hx hb dX5_expire_41 rfl (lv_at hl 0 rfl) ?_
            refine lv_iload_n hx hb dX5_expire_42 rfl (lv_at hl 1 rfl) ?_
            obtain ⟨v12, h13, hF⟩ := obind hF
            refine kr_i (As := [.int x1]) Fc hA Z Lens.all (c_X5_holdOf l D cI cS am ρ x1 v12 h13) mL_RX5_116 v_X5_holdOf ⟨rfl, rfl⟩ ⟨Nat.le_of_ble_eq_true rfl, Nat.le_of_ble_eq_true rfl⟩ ⟨Nat.zero_le _, Nat.zero_le _⟩ 0 5 rfl rfl rfl hl (Nat.le_of_ble_eq_true rfl) dX5_expire_43 rfl (fun H locs Z => ?_)
            obtain ⟨q14, h15, hF⟩ := obind hF
            refine kv_i (As := [.int v12]) (ok := (fun _ => True)) Fc hA Z Lens.all (c_X5_removes l D cI cS am ρ v12 q14 h15) mL_RX5_119 v_X5_removes ⟨rfl, rfl⟩ ⟨Nat.le_of_ble_eq_true rfl, Nat.le_of_ble_eq_true rfl⟩ ⟨Nat.zero_le _, Nat.zero_le _⟩ 0 5 rfl rfl rfl hl (Nat.le_of_ble_eq_true rfl) dX5_expire_46 rfl (fun H locs ok1 Z => ?_)
            refine lv_aload_n hx hb dX5_expire_49 rfl (lv_at hl 0 rfl) ?_
            refine lv_iload_n hx hb dX5_expire_50 rfl (lv_at hl 1 rfl) ?_
            refine lv_aload_n hx hb dX5_expire_51 rfl (lv_at hl 0 rfl) ?_
            refine lv_iload_n hx hb dX5_expire_52 rfl (lv_at hl 1 rfl) ?_
            refine lv_iconst (v := (4 : Int32)) hx hb dX5_expire_53 (by decide) ?_
            obtain ⟨v16, h17, hF⟩ := obind hF
            refine kr_i (As := [.int x1, .int (4 : Int32)]) Fc hA Z Lens.all (c_X5_of l D cI cS am q14 x1 (4 : Int32) v16 h17) mL_RX5_73 v_X5_of ⟨rfl, rfl⟩ ⟨Nat.le_of_ble_eq_true rfl, Nat.le_of_ble_eq_true rfl⟩ ⟨Nat.zero_le _, Nat.zero_le _⟩ 0 5 rfl rfl rfl hl (Nat.le_of_ble_eq_true rfl) dX5_expire_54 rfl (fun H locs Z => ?_)
            obtain ⟨q18, h19, hF⟩ := obind hF
            refine kv_i (As := [.int x1, .int v16]) (ok := (fun _ => True)) Fc hA Z Lens.all (c_X5_frees l D cI cS am q14 x1 v16 q18 h19) mL_RX5_99 v_X5_frees ⟨rfl, rfl⟩ ⟨Nat.le_of_ble_eq_true rfl, Nat.le_of_ble_eq_true rfl⟩ ⟨Nat.zero_le _, Nat.zero_le _⟩ 0 5 rfl rfl rfl hl (Nat.le_of_ble_eq_true rfl) dX5_expire_57 rfl (fun H locs ok1 Z => ?_)
            refine lv_iinc (v := (x1 + (1 : Int32))) (lv' := [(1, .int (x1 + (1 : Int32))), (0, .ref (am 0))]) hx hb dX5_expire_60 hl (k := 1) rfl (by rfl) (by decide) rfl (fun ls hl => ?_)
            refine lv_goto (tgt := 2) hx hb dX5_expire_63 (by decide) ?_
            exact ih ((x1 + (1 : Int32))) q18 _ _ _ hF Z (lv_sub hl [1, 0] rfl)
          · rw [if_neg c11] at hF
            refine lv_goto (tgt := 60) hx hb dX5_expire_37 (by decide) ?_
            refine lv_iinc (v := (x1 + (1 : Int32))) (lv' := [(1, .int (x1 + (1 : Int32))), (0, .ref (am 0))]) hx hb dX5_expire_60 hl (k := 1) rfl (by rfl) (by decide) rfl (fun ls hl => ?_)
            refine lv_goto (tgt := 2) hx hb dX5_expire_63 (by decide) ?_
            exact ih ((x1 + (1 : Int32))) ρ _ _ _ hF Z (lv_sub hl [1, 0] rfl)
  unfold X5_expire at hF
  refine lv_iconst (v := (0 : Int32)) hx hb dX5_expire_0 (by decide) ?_
  refine lv_istore_n (lv' := [(1, .int (0 : Int32)), (0, .ref (am 0))]) hx hb dX5_expire_1 rfl hl (by decide) rfl (fun ls hl => ?_)
  exact L2  FU (0 : Int32) ρ _ _ _ hF Z (lv_sub hl [1, 0] rfl)
def X5_passes_L40 (x1 : Int32) (x2 : Int32) (K : Ms → Option (Int32 × Ms)) : Nat → Int32 → Ms → Option (Int32 × Ms)
  | 0, _, _ => none
  | k + 1, x3, ρ => (rdA (ρ.1.1 0) 681 (1 : Int32)).bind fun v1 => if v1 ≤ x3 then (K  ρ) else (X5_of ρ x3 (3 : Int32)).bind fun v4 => if v4 = (4 : Int32) then ((rdA (ρ.1.1 0) 681 (0 : Int32)).bind fun v7 => (X5_of ρ x3 (5 : Int32)).bind fun v9 => (rdA (ρ.1.1 0) 681 (12 : Int32)).bind fun v11 => if (v7 - v9) < v11 then (X5_passes_L40 x1 x2 K k ((x3 + (1 : Int32))) ρ) else (X5_loses ρ x3).bind fun q14 => X5_passes_L40 x1 x2 K k ((x3 + (1 : Int32))) q14) else X5_passes_L40 x1 x2 K k ((x3 + (1 : Int32))) ρ
def X5_passes_L15 (x1 : Int32) : Nat → Int32 → Ms → Option (Int32 × Ms)
  | 0, _, _ => none
  | k + 1, x2, ρ => if x1 ≤ x2 then ((rdA (ρ.1.1 0) 681 (0 : Int32)).bind fun v17 => some (v17, ρ)) else (rdA (ρ.1.1 0) 681 (0 : Int32)).bind fun v19 => (wrA (ρ.1.1 0) 681 (0 : Int32) ((v19 + (1 : Int32)))).bind fun g21 => bnd (msA ρ 0 g21) fun ρ23 => (X5_arrive ρ23).bind fun q25 => (X5_expire q25).bind fun q27 => X5_passes_L40 x1 x2 (fun ρ1040 => X5_passes_L15 x1 k ((x2 + (1 : Int32))) ρ1040) FU (0 : Int32) q27
def X5_passes (ρ : Ms) (p1 : Int32) : Option (Int32 × Ms) := if (bi (X5_in p1 (1 : Int32) (400 : Int32))) = 0 then (some (((-1 : Int32), ρ))) else X5_passes_L15 p1 FU (0 : Int32) ρ
def rm_X5_passes : Room := { frames := 5, cells := 0, slots := 0, locals := 116 }
theorem v_X5_passes : WdV RX5 yX5_passes cX5_passes 4 (some .int) 1 := ⟨mI_X5_passes, mS_X5_passes, mZ_RX5, mC_X5_passes, by decide +kernel⟩
set_option maxHeartbeats 8000000 in
set_option maxRecDepth 100000 in
theorem c_X5_passes (l : Launch) (D : va_G) (cI cS : ClassId) (am : Nat → Nat) (ρ : Ms) (p1 : Int32) (F : Int32 × Ms) (hF : X5_passes ρ p1 = some F) : MI l yX5_passes cX5_passes 4 (some .int) rm_X5_passes D cI cS [.ref (am 0), .int p1] (mW am cI ρ) (mW am cI) (fun r u => r = F.1 ∧ u = F.2 ∧ True) := by
  refine MI.mk RX5 rfl .int rfl (by decide) (Nat.le_of_ble_eq_true rfl) (fun _ _ _ => rfl) ?_
  intro p e s m args below meth c A Q ls Fc hin hA Z kret hl
  obtain ⟨hx, hb, hml, hown, hts, hKN⟩ := id Fc
  replace hl : lv_has ls 4 [(0, .ref (am 0)), (1, .int p1)] := hl
  have L40 : ∀ (x1 : Int32) (x2 : Int32) (K : Ms → Option (Int32 × Ms)) (hK : ∀ (ρ : Ms) (H : Heap) (locs : List Loc) (ls : Array Slot), K  ρ = some F → Ix D A s (mW am cI ρ) H locs → lv_has ls 4 [(0, .ref (am 0)), (1, .int x1), (2, .int x2)] → W p l e rm_X5_passes s m args below meth c H locs 0 0 Q (F0 m 94 ls [])) (k : Nat) (x3 : Int32) (ρ : Ms) (H : Heap) (locs : List Loc) (ls : Array Slot), X5_passes_L40 x1 x2 K  k x3 ρ = some F → Ix D A s (mW am cI ρ) H locs → lv_has ls 4 [(0, .ref (am 0)), (1, .int x1), (2, .int x2), (3, .int x3)] → W p l e rm_X5_passes s m args below meth c H locs 0 0 Q (F0 m 40 ls []) := by
    intro x1 x2 K hK k
    induction k with
    | zero => intro x3 ρ H locs ls hF; rw [X5_passes_L40] at hF; cases hF
    | succ k ih =>
      intro x3 ρ H locs ls hF Z hl
      rw [X5_passes_L40] at hF
      refine lv_iload_n hx hb dX5_passes_40 rfl (lv_at hl 3 rfl) ?_
      refine lv_aload_n hx hb dX5_passes_41 rfl (lv_at hl 0 rfl) ?_
      refine kget Fc Z inX5 0 rfl rfl 0 (by decide) mF_RX5_11 rfl rfl dX5_passes_42 ?_
      refine lv_iconst (v := (1 : Int32)) hx hb dX5_passes_45 (by decide) ?_
      obtain ⟨v1, h2, hF⟩ := obind hF
      refine kald Fc Z 1 rfl h2 dX5_passes_46 ?_
      refine lv_icmp_ge (tgt := 94) hx hb dX5_passes_47 (by decide) (fun c3 => ?_) (fun c3 => ?_)
      · rw [if_pos c3] at hF
        exact hK  ρ _ _ _ hF Z (lv_sub hl [0, 1, 2] rfl)
      · rw [if_neg c3] at hF
        refine lv_aload_n hx hb dX5_passes_50 rfl (lv_at hl 0 rfl) ?_
        refine lv_iload_n hx hb dX5_passes_51 rfl (lv_at hl 3 rfl) ?_
        refine lv_iconst (v := (3 : Int32)) hx hb dX5_passes_52 (by decide) ?_
        obtain ⟨v4, h5, hF⟩ := obind hF
        refine kr_i (As := [.int x3, .int (3 : Int32)]) Fc hA Z Lens.all (c_X5_of l D cI cS am ρ x3 (3 : Int32) v4 h5) mL_RX5_73 v_X5_of ⟨rfl, rfl⟩ ⟨Nat.le_of_ble_eq_true rfl, Nat.le_of_ble_eq_true rfl⟩ ⟨Nat.zero_le _, Nat.zero_le _⟩ 0 5 rfl rfl rfl hl (Nat.le_of_ble_eq_true rfl) dX5_passes_53 rfl (fun H locs Z => ?_)
        refine lv_iconst (v := (4 : Int32)) hx hb dX5_passes_56 (by decide) ?_
        refine lv_icmp_ne (tgt := 88) hx hb dX5_passes_57 (by decide) (fun c6 => ?_) (fun c6 => ?_)
        · rw [if_neg c6] at hF
          refine lv_iinc (v := (x3 + (1 : Int32))) (lv' := [(3, .int (x3 + (1 : Int32))), (0, .ref (am 0)), (1, .int x1), (2, .int x2)]) hx hb dX5_passes_88 hl (k := 3) rfl (by rfl) (by decide) rfl (fun ls hl => ?_)
          refine lv_goto (tgt := 40) hx hb dX5_passes_91 (by decide) ?_
          exact ih ((x3 + (1 : Int32))) ρ _ _ _ hF Z (lv_sub hl [1, 2, 3, 0] rfl)
        · rw [if_pos c6] at hF
          refine lv_aload_n hx hb dX5_passes_60 rfl (lv_at hl 0 rfl) ?_
          refine kget Fc Z inX5 0 rfl rfl 0 (by decide) mF_RX5_11 rfl rfl dX5_passes_61 ?_
          refine lv_iconst (v := (0 : Int32)) hx hb dX5_passes_64 (by decide) ?_
          obtain ⟨v7, h8, hF⟩ := obind hF
          refine kald Fc Z 1 rfl h8 dX5_passes_65 ?_
          refine lv_aload_n hx hb dX5_passes_66 rfl (lv_at hl 0 rfl) ?_
          refine lv_iload_n hx hb dX5_passes_67 rfl (lv_at hl 3 rfl) ?_
          refine lv_iconst (v := (5 : Int32)) hx hb dX5_passes_68 (by decide) ?_
          obtain ⟨v9, h10, hF⟩ := obind hF
          refine kr_i (As := [.int x3, .int (5 : Int32)]) Fc hA Z Lens.all (c_X5_of l D cI cS am ρ x3 (5 : Int32) v9 h10) mL_RX5_73 v_X5_of ⟨rfl, rfl⟩ ⟨Nat.le_of_ble_eq_true rfl, Nat.le_of_ble_eq_true rfl⟩ ⟨Nat.zero_le _, Nat.zero_le _⟩ 0 5 rfl rfl rfl hl (Nat.le_of_ble_eq_true rfl) dX5_passes_69 rfl (fun H locs Z => ?_)
          refine lv_isub hx hb dX5_passes_72 ?_
          refine lv_aload_n hx hb dX5_passes_73 rfl (lv_at hl 0 rfl) ?_
          refine kget Fc Z inX5 0 rfl rfl 0 (by decide) mF_RX5_11 rfl rfl dX5_passes_74 ?_
          refine lv_bipush (v := (12 : Int32)) hx hb dX5_passes_77 (by decide) ?_
          obtain ⟨v11, h12, hF⟩ := obind hF
          refine kald Fc Z 1 rfl h12 dX5_passes_79 ?_
          refine lv_icmp_lt (tgt := 88) hx hb dX5_passes_80 (by decide) (fun c13 => ?_) (fun c13 => ?_)
          · rw [if_pos c13] at hF
            refine lv_iinc (v := (x3 + (1 : Int32))) (lv' := [(3, .int (x3 + (1 : Int32))), (0, .ref (am 0)), (1, .int x1), (2, .int x2)]) hx hb dX5_passes_88 hl (k := 3) rfl (by rfl) (by decide) rfl (fun ls hl => ?_)
            refine lv_goto (tgt := 40) hx hb dX5_passes_91 (by decide) ?_
            exact ih ((x3 + (1 : Int32))) ρ _ _ _ hF Z (lv_sub hl [1, 2, 3, 0] rfl)
          · rw [if_neg c13] at hF
            refine lv_aload_n hx hb dX5_passes_83 rfl (lv_at hl 0 rfl) ?_
            refine lv_iload_n hx hb dX5_passes_84 rfl (lv_at hl 3 rfl) ?_
            obtain ⟨q14, h15, hF⟩ := obind hF
            refine kv_i (As := [.int x3]) (ok := (fun _ => True)) Fc hA Z Lens.all (c_X5_loses l D cI cS am ρ x3 q14 h15) mL_RX5_135 v_X5_loses ⟨rfl, rfl⟩ ⟨Nat.le_of_ble_eq_true rfl, Nat.le_of_ble_eq_true rfl⟩ ⟨Nat.zero_le _, Nat.zero_le _⟩ 0 5 rfl rfl rfl hl (Nat.le_of_ble_eq_true rfl) dX5_passes_85 rfl (fun H locs ok1 Z => ?_)
            refine lv_iinc (v := (x3 + (1 : Int32))) (lv' := [(3, .int (x3 + (1 : Int32))), (0, .ref (am 0)), (1, .int x1), (2, .int x2)]) hx hb dX5_passes_88 hl (k := 3) rfl (by rfl) (by decide) rfl (fun ls hl => ?_)
            refine lv_goto (tgt := 40) hx hb dX5_passes_91 (by decide) ?_
            exact ih ((x3 + (1 : Int32))) q14 _ _ _ hF Z (lv_sub hl [1, 2, 3, 0] rfl)
  have L15 : ∀ (x1 : Int32) (k : Nat) (x2 : Int32) (ρ : Ms) (H : Heap) (locs : List Loc) (ls : Array Slot), X5_passes_L15 x1  k x2 ρ = some F → Ix D A s (mW am cI ρ) H locs → lv_has ls 4 [(0, .ref (am 0)), (1, .int x1), (2, .int x2)] → W p l e rm_X5_passes s m args below meth c H locs 0 0 Q (F0 m 15 ls []) := by
    intro x1 k
    induction k with
    | zero => intro x2 ρ H locs ls hF; rw [X5_passes_L15] at hF; cases hF
    | succ k ih =>
      intro x2 ρ H locs ls hF Z hl
      rw [X5_passes_L15] at hF
      refine lv_iload_n hx hb dX5_passes_15 rfl (lv_at hl 2 rfl) ?_
      refine lv_iload_n hx hb dX5_passes_16 rfl (lv_at hl 1 rfl) ?_
      refine lv_icmp_ge (tgt := 100) hx hb dX5_passes_17 (by decide) (fun c16 => ?_) (fun c16 => ?_)
      · rw [if_pos c16] at hF
        refine lv_aload_n hx hb dX5_passes_100 rfl (lv_at hl 0 rfl) ?_
        refine kget Fc Z inX5 0 rfl rfl 0 (by decide) mF_RX5_11 rfl rfl dX5_passes_101 ?_
        refine lv_iconst (v := (0 : Int32)) hx hb dX5_passes_104 (by decide) ?_
        obtain ⟨v17, h18, hF⟩ := obind hF
        refine kald Fc Z 1 rfl h18 dX5_passes_105 ?_
        exact kret v17 ρ _ _ _ _ ⟨(pfst (Option.some.inj hF)), psnd (Option.some.inj hF), trivial⟩ Z dX5_passes_106
      · rw [if_neg c16] at hF
        refine lv_aload_n hx hb dX5_passes_20 rfl (lv_at hl 0 rfl) ?_
        refine kget Fc Z inX5 0 rfl rfl 0 (by decide) mF_RX5_11 rfl rfl dX5_passes_21 ?_
        refine lv_iconst (v := (0 : Int32)) hx hb dX5_passes_24 (by decide) ?_
        refine lv_dup2_11 hx hb dX5_passes_25 rfl rfl ?_
        obtain ⟨v19, h20, hF⟩ := obind hF
        refine kald Fc Z 1 rfl h20 dX5_passes_26 ?_
        refine lv_iconst (v := (1 : Int32)) hx hb dX5_passes_27 (by decide) ?_
        refine lv_iadd hx hb dX5_passes_28 ?_
        obtain ⟨g21, h22, hF⟩ := obind hF
        obtain ⟨ρ23, e24, hF⟩ := bnd_el hF
        refine kast (w' := mW am cI ρ23) Fc Z 1 rfl h22 (by rw [e24]; rfl) dX5_passes_29 (fun H locs Z => ?_)
        refine lv_aload_n hx hb dX5_passes_30 rfl (lv_at hl 0 rfl) ?_
        obtain ⟨q25, h26, hF⟩ := obind hF
        refine kv_i (As := []) (ok := (fun _ => True)) Fc hA Z Lens.all (c_X5_arrive l D cI cS am ρ23  q25 h26) mL_RX5_129 v_X5_arrive ⟨rfl, rfl⟩ ⟨Nat.le_of_ble_eq_true rfl, Nat.le_of_ble_eq_true rfl⟩ ⟨Nat.zero_le _, Nat.zero_le _⟩ 0 5 rfl rfl rfl hl (Nat.le_of_ble_eq_true rfl) dX5_passes_31 rfl (fun H locs ok1 Z => ?_)
        refine lv_aload_n hx hb dX5_passes_34 rfl (lv_at hl 0 rfl) ?_
        obtain ⟨q27, h28, hF⟩ := obind hF
        refine kv_i (As := []) (ok := (fun _ => True)) Fc hA Z Lens.all (c_X5_expire l D cI cS am q25  q27 h28) mL_RX5_132 v_X5_expire ⟨rfl, rfl⟩ ⟨Nat.le_of_ble_eq_true rfl, Nat.le_of_ble_eq_true rfl⟩ ⟨Nat.zero_le _, Nat.zero_le _⟩ 0 5 rfl rfl rfl hl (Nat.le_of_ble_eq_true rfl) dX5_passes_35 rfl (fun H locs ok1 Z => ?_)
        refine lv_iconst (v := (0 : Int32)) hx hb dX5_passes_38 (by decide) ?_
        refine lv_istore_n (lv' := [(3, .int (0 : Int32)), (0, .ref (am 0)), (1, .int x1), (2, .int x2)]) hx hb dX5_passes_39 rfl hl (by decide) rfl (fun ls hl => ?_)
        refine L40 x1 x2 _ ?_ _ (0 : Int32) q27 _ _ _ hF Z (lv_sub hl [1, 2, 3, 0] rfl)
        intro ρ1040 H locs ls hF Z hl
        refine lv_iinc (v := (x2 + (1 : Int32))) (lv' := [(2, .int (x2 + (1 : Int32))), (0, .ref (am 0)), (1, .int x1)]) hx hb dX5_passes_94 hl (k := 2) rfl (by rfl) (by decide) rfl (fun ls hl => ?_)
        refine lv_goto (tgt := 15) hx hb dX5_passes_97 (by decide) ?_
        exact ih ((x2 + (1 : Int32))) ρ1040 _ _ _ hF Z (lv_sub hl [1, 2, 0] rfl)
  unfold X5_passes at hF
  refine lv_iload_n hx hb dX5_passes_0 rfl (lv_at hl 1 rfl) ?_
  refine lv_iconst (v := (1 : Int32)) hx hb dX5_passes_1 (by decide) ?_
  refine lv_sipush (v := (400 : Int32)) hx hb dX5_passes_2 (by decide) ?_
  refine ks_i (As := [.int p1, .int (1 : Int32), .int (400 : Int32)]) Fc hA Z (c_X5_in l D cI cS p1 (1 : Int32) (400 : Int32) (X5_in p1 (1 : Int32) (400 : Int32)) rfl) mL_RX5_51 v_X5_in ⟨rfl, rfl⟩ ⟨Nat.le_of_ble_eq_true rfl, Nat.le_of_ble_eq_true rfl⟩ ⟨Nat.zero_le _, Nat.zero_le _⟩ rfl hl (Nat.le_of_ble_eq_true rfl) dX5_passes_5 rfl (fun H locs Z => ?_)
  refine lv_if_ne (tgt := 13) hx hb dX5_passes_8 (by decide) (fun c29 => ?_) (fun c29 => ?_)
  · rw [if_neg c29] at hF
    refine lv_iconst (v := (0 : Int32)) hx hb dX5_passes_13 (by decide) ?_
    refine lv_istore_n (lv' := [(2, .int (0 : Int32)), (0, .ref (am 0)), (1, .int p1)]) hx hb dX5_passes_14 rfl hl (by decide) rfl (fun ls hl => ?_)
    exact L15 p1 FU (0 : Int32) ρ _ _ _ hF Z (lv_sub hl [1, 2, 0] rfl)
  · rw [if_pos c29] at hF
    refine lv_iconst (v := (-1 : Int32)) hx hb dX5_passes_11 (by decide) ?_
    exact kret (-1 : Int32) ρ _ _ _ _ ⟨(pfst (Option.some.inj hF)), psnd (Option.some.inj hF), trivial⟩ Z dX5_passes_12
def X5_waitingFor_L4 (ρ : Ms) (x1 : Int32) : Nat → Int32 → Int32 → Option (Int32)
  | 0, _, _ => none
  | k + 1, x2, x3 => (rdA (ρ.1.1 0) 681 (3 : Int32)).bind fun v1 => if v1 ≤ x3 then (some x2) else (X5_hold ρ x3 (0 : Int32)).bind fun v4 => if v4 = x1 then ((X5_hold ρ x3 (3 : Int32)).bind fun v7 => if v7 = (-2 : Int32) then (X5_waitingFor_L4 ρ x1 k ((x2 + (1 : Int32))) ((x3 + (1 : Int32)))) else X5_waitingFor_L4 ρ x1 k ((x2 + (0 : Int32))) ((x3 + (1 : Int32)))) else X5_waitingFor_L4 ρ x1 k ((x2 + (0 : Int32))) ((x3 + (1 : Int32)))
def X5_waitingFor (ρ : Ms) (p1 : Int32) : Option (Int32) := X5_waitingFor_L4 ρ p1 FU (0 : Int32) (0 : Int32)
def rm_X5_waitingFor : Room := { frames := 1, cells := 0, slots := 0, locals := 22 }
theorem v_X5_waitingFor : WdV RX5 yX5_waitingFor cX5_waitingFor 4 (some .int) 1 := ⟨mI_X5_waitingFor, mS_X5_waitingFor, mZ_RX5, mC_X5_waitingFor, by decide +kernel⟩
set_option maxHeartbeats 8000000 in
set_option maxRecDepth 100000 in
theorem c_X5_waitingFor (l : Launch) (D : va_G) (cI cS : ClassId) (am : Nat → Nat) (ρ : Ms) (p1 : Int32) (F : Int32) (hF : X5_waitingFor ρ p1 = some F) : MI l yX5_waitingFor cX5_waitingFor 4 (some .int) rm_X5_waitingFor D cI cS [.ref (am 0), .int p1] (mW am cI ρ) (mW am cI) (fun r u' => r = F ∧ u' = ρ) := by
  refine MI.mk RX5 rfl .int rfl (by decide) (Nat.le_of_ble_eq_true rfl) (fun _ _ _ => rfl) ?_
  intro p e s m args below meth c A Q ls Fc hin hA Z kret hl
  obtain ⟨hx, hb, hml, hown, hts, hKN⟩ := id Fc
  replace hl : lv_has ls 4 [(0, .ref (am 0)), (1, .int p1)] := hl
  have L4 : ∀ (x1 : Int32) (k : Nat) (x2 : Int32) (x3 : Int32) (H : Heap) (locs : List Loc) (ls : Array Slot), X5_waitingFor_L4 ρ x1  k x2 x3 = some F → Ix D A s (mW am cI ρ) H locs → lv_has ls 4 [(0, .ref (am 0)), (1, .int x1), (2, .int x2), (3, .int x3)] → W p l e rm_X5_waitingFor s m args below meth c H locs 0 0 Q (F0 m 4 ls []) := by
    intro x1 k
    induction k with
    | zero => intro x2 x3 H locs ls hF; rw [X5_waitingFor_L4] at hF; cases hF
    | succ k ih =>
      intro x2 x3 H locs ls hF Z hl
      rw [X5_waitingFor_L4] at hF
      refine lv_iload_n hx hb dX5_waitingFor_4 rfl (lv_at hl 3 rfl) ?_
      refine lv_aload_n hx hb dX5_waitingFor_5 rfl (lv_at hl 0 rfl) ?_
      refine kget Fc Z inX5 0 rfl rfl 0 (by decide) mF_RX5_11 rfl rfl dX5_waitingFor_6 ?_
      refine lv_iconst (v := (3 : Int32)) hx hb dX5_waitingFor_9 (by decide) ?_
      obtain ⟨v1, h2, hF⟩ := obind hF
      refine kald Fc Z 1 rfl h2 dX5_waitingFor_10 ?_
      refine lv_icmp_ge (tgt := 49) hx hb dX5_waitingFor_11 (by decide) (fun c3 => ?_) (fun c3 => ?_)
      · rw [if_pos c3] at hF
        refine lv_iload_n hx hb dX5_waitingFor_49 rfl (lv_at hl 2 rfl) ?_
        exact kret x2 ρ _ _ _ _ ⟨(Option.some.inj hF), rfl⟩ Z dX5_waitingFor_50
      · rw [if_neg c3] at hF
        refine lv_iload_n hx hb dX5_waitingFor_14 rfl (lv_at hl 2 rfl) ?_
        refine lv_aload_n hx hb dX5_waitingFor_15 rfl (lv_at hl 0 rfl) ?_
        refine lv_iload_n hx hb dX5_waitingFor_16 rfl (lv_at hl 3 rfl) ?_
        refine lv_iconst (v := (0 : Int32)) hx hb dX5_waitingFor_17 (by decide) ?_
        obtain ⟨v4, h5, hF⟩ := obind hF
        refine kr_i (As := [.int x3, .int (0 : Int32)]) Fc hA Z Lens.all (c_X5_hold l D cI cS am ρ x3 (0 : Int32) v4 h5) mL_RX5_59 v_X5_hold ⟨rfl, rfl⟩ ⟨Nat.le_of_ble_eq_true rfl, Nat.le_of_ble_eq_true rfl⟩ ⟨Nat.zero_le _, Nat.zero_le _⟩ 0 5 rfl rfl rfl hl (Nat.le_of_ble_eq_true rfl) dX5_waitingFor_18 rfl (fun H locs Z => ?_)
        refine lv_iload_n hx hb dX5_waitingFor_21 rfl (lv_at hl 1 rfl) ?_
        refine lv_icmp_ne (tgt := 40) hx hb dX5_waitingFor_22 (by decide) (fun c6 => ?_) (fun c6 => ?_)
        · rw [if_neg c6] at hF
          refine lv_iconst (v := (0 : Int32)) hx hb dX5_waitingFor_40 (by decide) ?_
          refine lv_iadd hx hb dX5_waitingFor_41 ?_
          refine lv_istore_n (lv' := [(2, .int (x2 + (0 : Int32))), (0, .ref (am 0)), (1, .int x1), (3, .int x3)]) hx hb dX5_waitingFor_42 rfl hl (by decide) rfl (fun ls hl => ?_)
          refine lv_iinc (v := (x3 + (1 : Int32))) (lv' := [(3, .int (x3 + (1 : Int32))), (2, .int (x2 + (0 : Int32))), (0, .ref (am 0)), (1, .int x1)]) hx hb dX5_waitingFor_43 hl (k := 3) rfl (by rfl) (by decide) rfl (fun ls hl => ?_)
          refine lv_goto (tgt := 4) hx hb dX5_waitingFor_46 (by decide) ?_
          exact ih ((x2 + (0 : Int32))) ((x3 + (1 : Int32))) _ _ _ hF Z (lv_sub hl [2, 3, 1, 0] rfl)
        · rw [if_pos c6] at hF
          refine lv_aload_n hx hb dX5_waitingFor_25 rfl (lv_at hl 0 rfl) ?_
          refine lv_iload_n hx hb dX5_waitingFor_26 rfl (lv_at hl 3 rfl) ?_
          refine lv_iconst (v := (3 : Int32)) hx hb dX5_waitingFor_27 (by decide) ?_
          obtain ⟨v7, h8, hF⟩ := obind hF
          refine kr_i (As := [.int x3, .int (3 : Int32)]) Fc hA Z Lens.all (c_X5_hold l D cI cS am ρ x3 (3 : Int32) v7 h8) mL_RX5_59 v_X5_hold ⟨rfl, rfl⟩ ⟨Nat.le_of_ble_eq_true rfl, Nat.le_of_ble_eq_true rfl⟩ ⟨Nat.zero_le _, Nat.zero_le _⟩ 0 5 rfl rfl rfl hl (Nat.le_of_ble_eq_true rfl) dX5_waitingFor_28 rfl (fun H locs Z => ?_)
          refine lv_bipush (v := (-2 : Int32)) hx hb dX5_waitingFor_31 (by decide) ?_
          refine lv_icmp_ne (tgt := 40) hx hb dX5_waitingFor_33 (by decide) (fun c9 => ?_) (fun c9 => ?_)
          · rw [if_neg c9] at hF
            refine lv_iconst (v := (0 : Int32)) hx hb dX5_waitingFor_40 (by decide) ?_
            refine lv_iadd hx hb dX5_waitingFor_41 ?_
            refine lv_istore_n (lv' := [(2, .int (x2 + (0 : Int32))), (0, .ref (am 0)), (1, .int x1), (3, .int x3)]) hx hb dX5_waitingFor_42 rfl hl (by decide) rfl (fun ls hl => ?_)
            refine lv_iinc (v := (x3 + (1 : Int32))) (lv' := [(3, .int (x3 + (1 : Int32))), (2, .int (x2 + (0 : Int32))), (0, .ref (am 0)), (1, .int x1)]) hx hb dX5_waitingFor_43 hl (k := 3) rfl (by rfl) (by decide) rfl (fun ls hl => ?_)
            refine lv_goto (tgt := 4) hx hb dX5_waitingFor_46 (by decide) ?_
            exact ih ((x2 + (0 : Int32))) ((x3 + (1 : Int32))) _ _ _ hF Z (lv_sub hl [2, 3, 1, 0] rfl)
          · rw [if_pos c9] at hF
            refine lv_iconst (v := (1 : Int32)) hx hb dX5_waitingFor_36 (by decide) ?_
            refine lv_goto (tgt := 41) hx hb dX5_waitingFor_37 (by decide) ?_
            refine lv_iadd hx hb dX5_waitingFor_41 ?_
            refine lv_istore_n (lv' := [(2, .int (x2 + (1 : Int32))), (0, .ref (am 0)), (1, .int x1), (3, .int x3)]) hx hb dX5_waitingFor_42 rfl hl (by decide) rfl (fun ls hl => ?_)
            refine lv_iinc (v := (x3 + (1 : Int32))) (lv' := [(3, .int (x3 + (1 : Int32))), (2, .int (x2 + (1 : Int32))), (0, .ref (am 0)), (1, .int x1)]) hx hb dX5_waitingFor_43 hl (k := 3) rfl (by rfl) (by decide) rfl (fun ls hl => ?_)
            refine lv_goto (tgt := 4) hx hb dX5_waitingFor_46 (by decide) ?_
            exact ih ((x2 + (1 : Int32))) ((x3 + (1 : Int32))) _ _ _ hF Z (lv_sub hl [2, 3, 1, 0] rfl)
  unfold X5_waitingFor at hF
  refine lv_iconst (v := (0 : Int32)) hx hb dX5_waitingFor_0 (by decide) ?_
  refine lv_istore_n (lv' := [(2, .int (0 : Int32)), (0, .ref (am 0)), (1, .int p1)]) hx hb dX5_waitingFor_1 rfl hl (by decide) rfl (fun ls hl => ?_)
  refine lv_iconst (v := (0 : Int32)) hx hb dX5_waitingFor_2 (by decide) ?_
  refine lv_istore_n (lv' := [(3, .int (0 : Int32)), (2, .int (0 : Int32)), (0, .ref (am 0)), (1, .int p1)]) hx hb dX5_waitingFor_3 rfl hl (by decide) rfl (fun ls hl => ?_)
  exact L4 p1 FU (0 : Int32) (0 : Int32) _ _ _ hF Z (lv_sub hl [2, 3, 1, 0] rfl)
