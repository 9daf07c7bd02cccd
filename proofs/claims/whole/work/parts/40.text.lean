/-! THE COMMAND TEXT -/
def xsA (ξ : Xs) (g : Nat → Int32) : Xs := ((g, ξ.1.2), ξ.2)
def xsL (ξ : Xs) (v : Int32) : Xs := ((ξ.1.1, (v, ξ.1.2.2)), ξ.2)
def xsP (ξ : Xs) (v : Int32) : Xs := ((ξ.1.1, (ξ.1.2.1, v)), ξ.2)
def xsT (ξ : Xs) (u : Tab) : Xs := (ξ.1, u)
def X0_append (ξ : Xs) (p1 : Int32) : Option (Int32 × Xs) := if ξ.1.2.1 < 0 then (some (((-3 : Int32), ξ))) else if ξ.1.2.1 < (60 : Int32) then ((wrA ξ.1.1 60 ξ.1.2.1 p1).bind fun g3 => bnd (xsA ξ g3) fun ξ5 => bnd (xsL ξ5 (ξ5.1.2.1 + (1 : Int32))) fun ξ7 => some (ξ7.1.2.1, ξ7)) else some (((-3 : Int32), ξ))
def rm_X0_append : Room := { frames := 0, cells := 0, slots := 0, locals := 0 }
theorem v_X0_append : WdV RX0 yX0_append cX0_append 2 (some .int) 1 := ⟨mI_X0_append, mS_X0_append, mZ_RX0, mC_X0_append, by decide +kernel⟩
set_option maxHeartbeats 8000000 in
set_option maxRecDepth 100000 in
theorem c_X0_append (l : Launch) (D : va_G) (cI cS : ClassId) (ad : Nat → Nat) (ξ : Xs) (ok : tbOK 15 ξ.2) (p1 : Int32) (F : Int32 × Xs) (hF : X0_append ξ p1 = some F) : MI l yX0_append cX0_append 2 (some .int) rm_X0_append D cI cS [.ref (ad 124), .int p1] (xW ad cI ξ) (xW ad cI) (fun r u => r = F.1 ∧ u = F.2 ∧ tbOK 15 u.2) := by
  refine MI.mk RX0 rfl .int rfl (by decide) (Nat.le_of_ble_eq_true rfl) (fun _ _ _ => rfl) ?_
  intro p e s m args below meth c A Q ls Fc hin hA Z kret hl
  obtain ⟨hx, hb, hml, hown, hts, hKN⟩ := id Fc
  replace hl : lv_has ls 2 [(0, .ref (ad 124)), (1, .int p1)] := hl
  unfold X0_append at hF
  refine lv_aload_n hx hb dX0_append_0 rfl (lv_at hl 0 rfl) ?_
  refine kget Fc Z inX0 0 rfl rfl 1 (by decide) mF_RX0_15 rfl rfl dX0_append_1 ?_
  refine lv_if_lt (tgt := 19) hx hb dX0_append_4 (by decide) (fun c1 => ?_) (fun c1 => ?_)
  · rw [if_pos c1] at hF
    refine lv_bipush (v := (-3 : Int32)) hx hb dX0_append_19 (by decide) ?_
    exact kret (-3 : Int32) ξ _ _ _ _ ⟨(pfst (Option.some.inj hF)), psnd (Option.some.inj hF), ok⟩ Z dX0_append_21
  · rw [if_neg c1] at hF
    refine lv_aload_n hx hb dX0_append_7 rfl (lv_at hl 0 rfl) ?_
    refine kget Fc Z inX0 0 rfl rfl 1 (by decide) mF_RX0_15 rfl rfl dX0_append_8 ?_
    refine lv_aload_n hx hb dX0_append_11 rfl (lv_at hl 0 rfl) ?_
    refine kget Fc Z inX0 0 rfl rfl 0 (by decide) mF_RX0_11 rfl rfl dX0_append_12 ?_
    refine kalen (x := (60 : Int32)) Fc Z 1 rfl (by decide) dX0_append_15 ?_
    refine lv_icmp_lt (tgt := 22) hx hb dX0_append_16 (by decide) (fun c2 => ?_) (fun c2 => ?_)
    · rw [if_pos c2] at hF
      refine lv_aload_n hx hb dX0_append_22 rfl (lv_at hl 0 rfl) ?_
      refine kget Fc Z inX0 0 rfl rfl 0 (by decide) mF_RX0_11 rfl rfl dX0_append_23 ?_
      refine lv_aload_n hx hb dX0_append_26 rfl (lv_at hl 0 rfl) ?_
      refine kget Fc Z inX0 0 rfl rfl 1 (by decide) mF_RX0_15 rfl rfl dX0_append_27 ?_
      refine lv_iload_n hx hb dX0_append_30 rfl (lv_at hl 1 rfl) ?_
      obtain ⟨g3, h4, hF⟩ := obind hF
      obtain ⟨ξ5, e6, hF⟩ := bnd_el hF
      refine kast (w' := xW ad cI ξ5) Fc Z 1 rfl h4 (by rw [e6]; rfl) dX0_append_31 (fun H locs Z => ?_)
      have ok : tbOK 15 ξ5.2 := by rw [e6]; exact ok
      refine lv_aload_n hx hb dX0_append_32 rfl (lv_at hl 0 rfl) ?_
      refine lv_dup hx hb dX0_append_33 rfl ?_
      refine kget Fc Z inX0 0 rfl rfl 1 (by decide) mF_RX0_15 rfl rfl dX0_append_34 ?_
      refine lv_iconst (v := (1 : Int32)) hx hb dX0_append_37 (by decide) ?_
      refine lv_iadd hx hb dX0_append_38 ?_
      obtain ⟨ξ7, e8, hF⟩ := bnd_el hF
      refine kput (v := .int ((ξ5.1.2.1 + (1 : Int32)))) (ty := .int) (w' := xW ad cI ξ7) Fc Z inX0 tyX0 tyX0_ok nmX0 0 rfl rfl 1 (by decide) mF_RX0_15 rfl rfl rfl rfl rfl (Nat.le_of_ble_eq_true rfl) (by rw [e8]; rfl) dX0_append_39 (fun H locs Z => ?_)
      have ok : tbOK 15 ξ7.2 := by rw [e8]; exact ok
      refine lv_aload_n hx hb dX0_append_42 rfl (lv_at hl 0 rfl) ?_
      refine kget Fc Z inX0 0 rfl rfl 1 (by decide) mF_RX0_15 rfl rfl dX0_append_43 ?_
      exact kret ξ7.1.2.1 ξ7 _ _ _ _ ⟨(pfst (Option.some.inj hF)), psnd (Option.some.inj hF), ok⟩ Z dX0_append_46
    · rw [if_neg c2] at hF
      refine lv_bipush (v := (-3 : Int32)) hx hb dX0_append_19 (by decide) ?_
      exact kret (-3 : Int32) ξ _ _ _ _ ⟨(pfst (Option.some.inj hF)), psnd (Option.some.inj hF), ok⟩ Z dX0_append_21
def X0_emptyBuffer (ξ : Xs) : Xs := bnd (xsL ξ (0 : Int32)) fun ξ1 => ξ1
def rm_X0_emptyBuffer : Room := { frames := 0, cells := 0, slots := 0, locals := 0 }
theorem v_X0_emptyBuffer : WdV RX0 yX0_emptyBuffer cX0_emptyBuffer 1 none 0 := ⟨mI_X0_emptyBuffer, mS_X0_emptyBuffer, mZ_RX0, mC_X0_emptyBuffer, by decide +kernel⟩
set_option maxHeartbeats 8000000 in
set_option maxRecDepth 100000 in
theorem c_X0_emptyBuffer (l : Launch) (D : va_G) (cI cS : ClassId) (ad : Nat → Nat) (ξ : Xs) (ok : tbOK 15 ξ.2) (F : Xs) (hF : X0_emptyBuffer ξ = F) : MV l yX0_emptyBuffer cX0_emptyBuffer 1 rm_X0_emptyBuffer D cI cS [.ref (ad 124)] (xW ad cI ξ) (xW ad cI) (fun u => u = F ∧ tbOK 15 u.2) := by
  refine MV.mk RX0 rfl (by decide) (Nat.le_of_ble_eq_true rfl) ?_
  intro p e s m args below meth c A Q ls Fc hin hA Z kret hl
  obtain ⟨hx, hb, hml, hown, hts, hKN⟩ := id Fc
  replace hl : lv_has ls 1 [(0, .ref (ad 124))] := hl
  unfold X0_emptyBuffer at hF
  refine lv_aload_n hx hb dX0_emptyBuffer_0 rfl (lv_at hl 0 rfl) ?_
  refine lv_iconst (v := (0 : Int32)) hx hb dX0_emptyBuffer_1 (by decide) ?_
  obtain ⟨ξ1, e2, hF⟩ := bnd_el hF
  refine kput (v := .int (0 : Int32)) (ty := .int) (w' := xW ad cI ξ1) Fc Z inX0 tyX0 tyX0_ok nmX0 0 rfl rfl 1 (by decide) mF_RX0_15 rfl rfl rfl rfl rfl (Nat.le_of_ble_eq_true rfl) (by rw [e2]; rfl) dX0_emptyBuffer_2 (fun H locs Z => ?_)
  have ok : tbOK 15 ξ1.2 := by rw [e2]; exact ok
  exact kret ξ1 _ _ _ _ ⟨hF, ok⟩ Z dX0_emptyBuffer_5
def X0_commandCount (ξ : Xs) : Int32 := ξ.2.1
def rm_X0_commandCount : Room := { frames := 1, cells := 0, slots := 0, locals := 20 }
theorem v_X0_commandCount : WdV RX0 yX0_commandCount cX0_commandCount 1 (some .int) 0 := ⟨mI_X0_commandCount, mS_X0_commandCount, mZ_RX0, mC_X0_commandCount, by decide +kernel⟩
set_option maxHeartbeats 8000000 in
set_option maxRecDepth 100000 in
theorem c_X0_commandCount (l : Launch) (D : va_G) (cI cS : ClassId) (ad : Nat → Nat) (ξ : Xs) (ok : tbOK 15 ξ.2) (F : Int32) (hF : X0_commandCount ξ = F) : MI l yX0_commandCount cX0_commandCount 1 (some .int) rm_X0_commandCount D cI cS [.ref (ad 124)] (xW ad cI ξ) (xW ad cI) (fun r u' => r = F ∧ u' = ξ) := by
  refine MI.mk RX0 rfl .int rfl (by decide) (Nat.le_of_ble_eq_true rfl) (fun _ _ _ => rfl) ?_
  intro p e s m args below meth c A Q ls Fc hin hA Z kret hl
  obtain ⟨hx, hb, hml, hown, hts, hKN⟩ := id Fc
  replace hl : lv_has ls 1 [(0, .ref (ad 124))] := hl
  unfold X0_commandCount at hF
  refine lv_aload_n hx hb dX0_commandCount_0 rfl (lv_at hl 0 rfl) ?_
  refine kget Fc Z inX0 0 rfl rfl 3 (by decide) mF_RX0_27 rfl rfl dX0_commandCount_1 ?_
  refine kr_i (As := []) Fc hA Z Lens.x3 (c_X3_size l D cI cS (ad 126) (ad 127) 15 4 (15 * 4) shx ξ.2 ok  ξ.2.1 rfl) mL_RX0_31 v_X3_size ⟨rfl, rfl⟩ ⟨Nat.le_of_ble_eq_true rfl, Nat.le_of_ble_eq_true rfl⟩ ⟨Nat.zero_le _, Nat.zero_le _⟩ 2 3 rfl rfl rfl hl (Nat.le_of_ble_eq_true rfl) dX0_commandCount_4 rfl (fun H locs Z => ?_)
  exact kret ξ.2.1 ξ _ _ _ _ ⟨hF, rfl⟩ Z dX0_commandCount_7
def X0_letter (ξ : Xs) (p1 : Int32) : Int32 := (tget 4 ξ.2 p1 (0 : Int32))
def rm_X0_letter : Room := { frames := 1, cells := 0, slots := 0, locals := 23 }
theorem v_X0_letter : WdV RX0 yX0_letter cX0_letter 2 (some .int) 1 := ⟨mI_X0_letter, mS_X0_letter, mZ_RX0, mC_X0_letter, by decide +kernel⟩
set_option maxHeartbeats 8000000 in
set_option maxRecDepth 100000 in
theorem c_X0_letter (l : Launch) (D : va_G) (cI cS : ClassId) (ad : Nat → Nat) (ξ : Xs) (ok : tbOK 15 ξ.2) (p1 : Int32) (F : Int32) (hF : X0_letter ξ p1 = F) : MI l yX0_letter cX0_letter 2 (some .int) rm_X0_letter D cI cS [.ref (ad 124), .int p1] (xW ad cI ξ) (xW ad cI) (fun r u' => r = F ∧ u' = ξ) := by
  refine MI.mk RX0 rfl .int rfl (by decide) (Nat.le_of_ble_eq_true rfl) (fun _ _ _ => rfl) ?_
  intro p e s m args below meth c A Q ls Fc hin hA Z kret hl
  obtain ⟨hx, hb, hml, hown, hts, hKN⟩ := id Fc
  replace hl : lv_has ls 2 [(0, .ref (ad 124)), (1, .int p1)] := hl
  unfold X0_letter at hF
  refine lv_aload_n hx hb dX0_letter_0 rfl (lv_at hl 0 rfl) ?_
  refine kget Fc Z inX0 0 rfl rfl 3 (by decide) mF_RX0_27 rfl rfl dX0_letter_1 ?_
  refine lv_iload_n hx hb dX0_letter_4 rfl (lv_at hl 1 rfl) ?_
  refine lv_iconst (v := (0 : Int32)) hx hb dX0_letter_5 (by decide) ?_
  refine kr_i (As := [.int p1, .int (0 : Int32)]) Fc hA Z Lens.x3 (c_X3_get l D cI cS (ad 126) (ad 127) 15 4 (15 * 4) shx ξ.2 ok p1 (0 : Int32) (tget 4 ξ.2 p1 (0 : Int32)) rfl) mL_RX0_35 v_X3_get ⟨rfl, rfl⟩ ⟨Nat.le_of_ble_eq_true rfl, Nat.le_of_ble_eq_true rfl⟩ ⟨Nat.zero_le _, Nat.zero_le _⟩ 2 3 rfl rfl rfl hl (Nat.le_of_ble_eq_true rfl) dX0_letter_6 rfl (fun H locs Z => ?_)
  exact kret ((tget 4 ξ.2 p1 (0 : Int32))) ξ _ _ _ _ ⟨hF, rfl⟩ Z dX0_letter_9
def X0_number (ξ : Xs) (p1 p2 : Int32) : Int32 := (tget 4 ξ.2 p1 (((1 : Int32) + p2)))
def rm_X0_number : Room := { frames := 1, cells := 0, slots := 0, locals := 23 }
theorem v_X0_number : WdV RX0 yX0_number cX0_number 3 (some .int) 2 := ⟨mI_X0_number, mS_X0_number, mZ_RX0, mC_X0_number, by decide +kernel⟩
set_option maxHeartbeats 8000000 in
set_option maxRecDepth 100000 in
theorem c_X0_number (l : Launch) (D : va_G) (cI cS : ClassId) (ad : Nat → Nat) (ξ : Xs) (ok : tbOK 15 ξ.2) (p1 p2 : Int32) (F : Int32) (hF : X0_number ξ p1 p2 = F) : MI l yX0_number cX0_number 3 (some .int) rm_X0_number D cI cS [.ref (ad 124), .int p1, .int p2] (xW ad cI ξ) (xW ad cI) (fun r u' => r = F ∧ u' = ξ) := by
  refine MI.mk RX0 rfl .int rfl (by decide) (Nat.le_of_ble_eq_true rfl) (fun _ _ _ => rfl) ?_
  intro p e s m args below meth c A Q ls Fc hin hA Z kret hl
  obtain ⟨hx, hb, hml, hown, hts, hKN⟩ := id Fc
  replace hl : lv_has ls 3 [(0, .ref (ad 124)), (1, .int p1), (2, .int p2)] := hl
  unfold X0_number at hF
  refine lv_aload_n hx hb dX0_number_0 rfl (lv_at hl 0 rfl) ?_
  refine kget Fc Z inX0 0 rfl rfl 3 (by decide) mF_RX0_27 rfl rfl dX0_number_1 ?_
  refine lv_iload_n hx hb dX0_number_4 rfl (lv_at hl 1 rfl) ?_
  refine lv_iconst (v := (1 : Int32)) hx hb dX0_number_5 (by decide) ?_
  refine lv_iload_n hx hb dX0_number_6 rfl (lv_at hl 2 rfl) ?_
  refine lv_iadd hx hb dX0_number_7 ?_
  refine kr_i (As := [.int p1, .int (((1 : Int32) + p2))]) Fc hA Z Lens.x3 (c_X3_get l D cI cS (ad 126) (ad 127) 15 4 (15 * 4) shx ξ.2 ok p1 (((1 : Int32) + p2)) (tget 4 ξ.2 p1 (((1 : Int32) + p2))) rfl) mL_RX0_35 v_X3_get ⟨rfl, rfl⟩ ⟨Nat.le_of_ble_eq_true rfl, Nat.le_of_ble_eq_true rfl⟩ ⟨Nat.zero_le _, Nat.zero_le _⟩ 2 3 rfl rfl rfl hl (Nat.le_of_ble_eq_true rfl) dX0_number_8 rfl (fun H locs Z => ?_)
  exact kret ((tget 4 ξ.2 p1 (((1 : Int32) + p2)))) ξ _ _ _ _ ⟨hF, rfl⟩ Z dX0_number_11
def X0_position (ξ : Xs) : Int32 := ξ.1.2.2
def rm_X0_position : Room := { frames := 0, cells := 0, slots := 0, locals := 0 }
theorem v_X0_position : WdV RX0 yX0_position cX0_position 1 (some .int) 0 := ⟨mI_X0_position, mS_X0_position, mZ_RX0, mC_X0_position, by decide +kernel⟩
set_option maxHeartbeats 8000000 in
set_option maxRecDepth 100000 in
theorem c_X0_position (l : Launch) (D : va_G) (cI cS : ClassId) (ad : Nat → Nat) (ξ : Xs) (ok : tbOK 15 ξ.2) (F : Int32) (hF : X0_position ξ = F) : MI l yX0_position cX0_position 1 (some .int) rm_X0_position D cI cS [.ref (ad 124)] (xW ad cI ξ) (xW ad cI) (fun r u' => r = F ∧ u' = ξ) := by
  refine MI.mk RX0 rfl .int rfl (by decide) (Nat.le_of_ble_eq_true rfl) (fun _ _ _ => rfl) ?_
  intro p e s m args below meth c A Q ls Fc hin hA Z kret hl
  obtain ⟨hx, hb, hml, hown, hts, hKN⟩ := id Fc
  replace hl : lv_has ls 1 [(0, .ref (ad 124))] := hl
  unfold X0_position at hF
  refine lv_aload_n hx hb dX0_position_0 rfl (lv_at hl 0 rfl) ?_
  refine kget Fc Z inX0 0 rfl rfl 2 (by decide) mF_RX0_19 rfl rfl dX0_position_1 ?_
  exact kret ξ.1.2.2 ξ _ _ _ _ ⟨hF, rfl⟩ Z dX0_position_4
def X0_letterAt (ξ : Xs) (p1 : Int32) : Option (Int32) := if p1 < 0 then (some (0 : Int32)) else if ξ.1.2.1 ≤ p1 then (some (0 : Int32)) else if (60 : Int32) ≤ p1 then (some (0 : Int32)) else (rdA ξ.1.1 60 p1).bind fun v4 => some v4
def rm_X0_letterAt : Room := { frames := 0, cells := 0, slots := 0, locals := 0 }
theorem v_X0_letterAt : WdV RX0 yX0_letterAt cX0_letterAt 2 (some .int) 1 := ⟨mI_X0_letterAt, mS_X0_letterAt, mZ_RX0, mC_X0_letterAt, by decide +kernel⟩
set_option maxHeartbeats 8000000 in
set_option maxRecDepth 100000 in
theorem c_X0_letterAt (l : Launch) (D : va_G) (cI cS : ClassId) (ad : Nat → Nat) (ξ : Xs) (ok : tbOK 15 ξ.2) (p1 : Int32) (F : Int32) (hF : X0_letterAt ξ p1 = some F) : MI l yX0_letterAt cX0_letterAt 2 (some .int) rm_X0_letterAt D cI cS [.ref (ad 124), .int p1] (xW ad cI ξ) (xW ad cI) (fun r u' => r = F ∧ u' = ξ) := by
  refine MI.mk RX0 rfl .int rfl (by decide) (Nat.le_of_ble_eq_true rfl) (fun _ _ _ => rfl) ?_
  intro p e s m args below meth c A Q ls Fc hin hA Z kret hl
  obtain ⟨hx, hb, hml, hown, hts, hKN⟩ := id Fc
  replace hl : lv_has ls 2 [(0, .ref (ad 124)), (1, .int p1)] := hl
  unfold X0_letterAt at hF
  refine lv_iload_n hx hb dX0_letterAt_0 rfl (lv_at hl 1 rfl) ?_
  refine lv_if_lt (tgt := 30) hx hb dX0_letterAt_1 (by decide) (fun c1 => ?_) (fun c1 => ?_)
  · rw [if_pos c1] at hF
    refine lv_iconst (v := (0 : Int32)) hx hb dX0_letterAt_30 (by decide) ?_
    exact kret (0 : Int32) ξ _ _ _ _ ⟨(Option.some.inj hF), rfl⟩ Z dX0_letterAt_31
  · rw [if_neg c1] at hF
    refine lv_iload_n hx hb dX0_letterAt_4 rfl (lv_at hl 1 rfl) ?_
    refine lv_aload_n hx hb dX0_letterAt_5 rfl (lv_at hl 0 rfl) ?_
    refine kget Fc Z inX0 0 rfl rfl 1 (by decide) mF_RX0_15 rfl rfl dX0_letterAt_6 ?_
    refine lv_icmp_ge (tgt := 30) hx hb dX0_letterAt_9 (by decide) (fun c2 => ?_) (fun c2 => ?_)
    · rw [if_pos c2] at hF
      refine lv_iconst (v := (0 : Int32)) hx hb dX0_letterAt_30 (by decide) ?_
      exact kret (0 : Int32) ξ _ _ _ _ ⟨(Option.some.inj hF), rfl⟩ Z dX0_letterAt_31
    · rw [if_neg c2] at hF
      refine lv_iload_n hx hb dX0_letterAt_12 rfl (lv_at hl 1 rfl) ?_
      refine lv_aload_n hx hb dX0_letterAt_13 rfl (lv_at hl 0 rfl) ?_
      refine kget Fc Z inX0 0 rfl rfl 0 (by decide) mF_RX0_11 rfl rfl dX0_letterAt_14 ?_
      refine kalen (x := (60 : Int32)) Fc Z 1 rfl (by decide) dX0_letterAt_17 ?_
      refine lv_icmp_ge (tgt := 30) hx hb dX0_letterAt_18 (by decide) (fun c3 => ?_) (fun c3 => ?_)
      · rw [if_pos c3] at hF
        refine lv_iconst (v := (0 : Int32)) hx hb dX0_letterAt_30 (by decide) ?_
        exact kret (0 : Int32) ξ _ _ _ _ ⟨(Option.some.inj hF), rfl⟩ Z dX0_letterAt_31
      · rw [if_neg c3] at hF
        refine lv_aload_n hx hb dX0_letterAt_21 rfl (lv_at hl 0 rfl) ?_
        refine kget Fc Z inX0 0 rfl rfl 0 (by decide) mF_RX0_11 rfl rfl dX0_letterAt_22 ?_
        refine lv_iload_n hx hb dX0_letterAt_25 rfl (lv_at hl 1 rfl) ?_
        obtain ⟨v4, h5, hF⟩ := obind hF
        refine kald Fc Z 1 rfl h5 dX0_letterAt_26 ?_
        refine lv_goto (tgt := 31) hx hb dX0_letterAt_27 (by decide) ?_
        exact kret v4 ξ _ _ _ _ ⟨(Option.some.inj hF), rfl⟩ Z dX0_letterAt_31
def X0_readNumber_L46 (x1 : Int32) (x2 : Int32) : Nat → Int32 → Int32 → Xs → Option (Bool × Xs)
  | 0, _, _, _ => none
  | k + 1, x3, x4, ξ => if (5 : Int32) ≤ x4 then (bnd (tput 4 ξ.2 x1 x2 x3) fun q2 => bnd (xsT ξ q2) fun ξ4 => some (true, ξ4)) else (X0_letterAt ξ ξ.1.2.2).bind fun v6 => if (bi (X0_isDigit v6)) = 0 then (bnd (tput 4 ξ.2 x1 x2 x3) fun q9 => bnd (xsT ξ q9) fun ξ11 => some (true, ξ11)) else (X0_letterAt ξ ξ.1.2.2).bind fun v13 => bnd (xsP ξ (ξ.1.2.2 + (1 : Int32))) fun ξ15 => X0_readNumber_L46 x1 x2 k (((((10 : Int32) * x3) + v13) - (48 : Int32))) ((x4 + (1 : Int32))) ξ15
def X0_readNumber (ξ : Xs) (p1 p2 : Int32) : Option (Bool × Xs) := (X0_letterAt ξ ξ.1.2.2).bind fun v17 => if v17 = (32 : Int32) then (bnd (xsP ξ (ξ.1.2.2 + (1 : Int32))) fun ξ20 => (X0_letterAt ξ20 ξ20.1.2.2).bind fun v22 => if (bi (X0_isDigit v22)) = 0 then (some (false, ξ20)) else X0_readNumber_L46 p1 p2 FU (0 : Int32) (0 : Int32) ξ20) else some (false, ξ)
def rm_X0_readNumber : Room := { frames := 1, cells := 0, slots := 0, locals := 24 }
theorem v_X0_readNumber : WdV RX0 yX0_readNumber cX0_readNumber 5 (some .boolean) 2 := ⟨mI_X0_readNumber, mS_X0_readNumber, mZ_RX0, mC_X0_readNumber, by decide +kernel⟩
set_option maxHeartbeats 8000000 in
set_option maxRecDepth 100000 in
theorem c_X0_readNumber (l : Launch) (D : va_G) (cI cS : ClassId) (ad : Nat → Nat) (ξ : Xs) (ok : tbOK 15 ξ.2) (p1 p2 : Int32) (F : Bool × Xs) (hF : X0_readNumber ξ p1 p2 = some F) : MI l yX0_readNumber cX0_readNumber 5 (some .boolean) rm_X0_readNumber D cI cS [.ref (ad 124), .int p1, .int p2] (xW ad cI ξ) (xW ad cI) (fun r u => r = bi F.1 ∧ u = F.2 ∧ tbOK 15 u.2) := by
  refine MI.mk RX0 rfl .boolean rfl (by decide) (Nat.le_of_ble_eq_true rfl) (fun r u h => by rw [h.1]; exact bi_nar _) ?_
  intro p e s m args below meth c A Q ls Fc hin hA Z kret hl
  obtain ⟨hx, hb, hml, hown, hts, hKN⟩ := id Fc
  replace hl : lv_has ls 5 [(0, .ref (ad 124)), (1, .int p1), (2, .int p2)] := hl
  have L46 : ∀ (x1 : Int32) (x2 : Int32) (k : Nat) (x3 : Int32) (x4 : Int32) (ξ : Xs) (H : Heap) (locs : List Loc) (ls : Array Slot), X0_readNumber_L46 x1 x2  k x3 x4 ξ = some F → tbOK 15 ξ.2 → Ix D A s (xW ad cI ξ) H locs → lv_has ls 5 [(0, .ref (ad 124)), (1, .int x1), (2, .int x2), (3, .int x3), (4, .int x4)] → W p l e rm_X0_readNumber s m args below meth c H locs 0 0 Q (F0 m 46 ls []) := by
    intro x1 x2 k
    induction k with
    | zero => intro x3 x4 ξ H locs ls hF; rw [X0_readNumber_L46] at hF; cases hF
    | succ k ih =>
      intro x3 x4 ξ H locs ls hF ok Z hl
      rw [X0_readNumber_L46] at hF
      refine lv_iload hx hb dX0_readNumber_46 (lv_at hl 4 rfl) ?_
      refine lv_iconst (v := (5 : Int32)) hx hb dX0_readNumber_48 (by decide) ?_
      refine lv_icmp_ge (tgt := 99) hx hb dX0_readNumber_49 (by decide) (fun c1 => ?_) (fun c1 => ?_)
      · rw [if_pos c1] at hF
        refine lv_aload_n hx hb dX0_readNumber_99 rfl (lv_at hl 0 rfl) ?_
        refine kget Fc Z inX0 0 rfl rfl 3 (by decide) mF_RX0_27 rfl rfl dX0_readNumber_100 ?_
        refine lv_iload_n hx hb dX0_readNumber_103 rfl (lv_at hl 1 rfl) ?_
        refine lv_iload_n hx hb dX0_readNumber_104 rfl (lv_at hl 2 rfl) ?_
        refine lv_iload_n hx hb dX0_readNumber_105 rfl (lv_at hl 3 rfl) ?_
        obtain ⟨q2, e3, hF⟩ := bnd_el hF
        refine kv_i (As := [.int x1, .int x2, .int x3]) (ok := tbOK 15) Fc hA Z Lens.x3 (c_X3_put l D cI cS (ad 126) (ad 127) 15 4 (15 * 4) shx ξ.2 ok x1 x2 x3 q2 e3.symm) mL_RX0_56 v_X3_put ⟨rfl, rfl⟩ ⟨Nat.le_of_ble_eq_true rfl, Nat.le_of_ble_eq_true rfl⟩ ⟨Nat.zero_le _, Nat.zero_le _⟩ 2 3 rfl rfl rfl hl (Nat.le_of_ble_eq_true rfl) dX0_readNumber_106 rfl (fun H locs ok1 Z => ?_)
        obtain ⟨ξ4, e5, hF⟩ := bnd_el hF
        have Z : Ix D A s (xW ad cI ξ4) H locs := by rw [e5]; exact Z
        have ok : tbOK 15 ξ4.2 := by rw [e5]; exact ok1
        refine lv_iconst (v := (1 : Int32)) hx hb dX0_readNumber_109 (by decide) ?_
        exact kret (1 : Int32) ξ4 _ _ _ _ ⟨(pfstb (Option.some.inj hF)), psnd (Option.some.inj hF), ok⟩ Z dX0_readNumber_110
      · rw [if_neg c1] at hF
        refine lv_aload_n hx hb dX0_readNumber_52 rfl (lv_at hl 0 rfl) ?_
        refine lv_aload_n hx hb dX0_readNumber_53 rfl (lv_at hl 0 rfl) ?_
        refine kget Fc Z inX0 0 rfl rfl 2 (by decide) mF_RX0_19 rfl rfl dX0_readNumber_54 ?_
        obtain ⟨v6, h7, hF⟩ := obind hF
        refine kr_i (As := [.int ξ.1.2.2]) Fc hA Z Lens.all (c_X0_letterAt l D cI cS ad ξ ok ξ.1.2.2 v6 h7) mL_RX0_46 v_X0_letterAt ⟨rfl, rfl⟩ ⟨Nat.le_of_ble_eq_true rfl, Nat.le_of_ble_eq_true rfl⟩ ⟨Nat.zero_le _, Nat.zero_le _⟩ 0 0 rfl rfl rfl hl (Nat.le_of_ble_eq_true rfl) dX0_readNumber_57 rfl (fun H locs Z => ?_)
        refine ks_i (As := [.int v6]) Fc hA Z (c_X0_isDigit l D cI cS v6 (X0_isDigit v6) rfl) mL_RX0_64 v_X0_isDigit ⟨rfl, rfl⟩ ⟨Nat.le_of_ble_eq_true rfl, Nat.le_of_ble_eq_true rfl⟩ ⟨Nat.zero_le _, Nat.zero_le _⟩ rfl hl (Nat.le_of_ble_eq_true rfl) dX0_readNumber_60 rfl (fun H locs Z => ?_)
        refine lv_if_eq (tgt := 99) hx hb dX0_readNumber_63 (by decide) (fun c8 => ?_) (fun c8 => ?_)
        · rw [if_pos c8] at hF
          refine lv_aload_n hx hb dX0_readNumber_99 rfl (lv_at hl 0 rfl) ?_
          refine kget Fc Z inX0 0 rfl rfl 3 (by decide) mF_RX0_27 rfl rfl dX0_readNumber_100 ?_
          refine lv_iload_n hx hb dX0_readNumber_103 rfl (lv_at hl 1 rfl) ?_
          refine lv_iload_n hx hb dX0_readNumber_104 rfl (lv_at hl 2 rfl) ?_
          refine lv_iload_n hx hb dX0_readNumber_105 rfl (lv_at hl 3 rfl) ?_
          obtain ⟨q9, e10, hF⟩ := bnd_el hF
          refine kv_i (As := [.int x1, .int x2, .int x3]) (ok := tbOK 15) Fc hA Z Lens.x3 (c_X3_put l D cI cS (ad 126) (ad 127) 15 4 (15 * 4) shx ξ.2 ok x1 x2 x3 q9 e10.symm) mL_RX0_56 v_X3_put ⟨rfl, rfl⟩ ⟨Nat.le_of_ble_eq_true rfl, Nat.le_of_ble_eq_true rfl⟩ ⟨Nat.zero_le _, Nat.zero_le _⟩ 2 3 rfl rfl rfl hl (Nat.le_of_ble_eq_true rfl) dX0_readNumber_106 rfl (fun H locs ok1 Z => ?_)
          obtain ⟨ξ11, e12, hF⟩ := bnd_el hF
          have Z : Ix D A s (xW ad cI ξ11) H locs := by rw [e12]; exact Z
          have ok : tbOK 15 ξ11.2 := by rw [e12]; exact ok1
          refine lv_iconst (v := (1 : Int32)) hx hb dX0_readNumber_109 (by decide) ?_
          exact kret (1 : Int32) ξ11 _ _ _ _ ⟨(pfstb (Option.some.inj hF)), psnd (Option.some.inj hF), ok⟩ Z dX0_readNumber_110
        · rw [if_neg c8] at hF
          refine lv_bipush (v := (10 : Int32)) hx hb dX0_readNumber_66 (by decide) ?_
          refine lv_iload_n hx hb dX0_readNumber_68 rfl (lv_at hl 3 rfl) ?_
          refine lv_imul hx hb dX0_readNumber_69 ?_
          refine lv_aload_n hx hb dX0_readNumber_70 rfl (lv_at hl 0 rfl) ?_
          refine lv_aload_n hx hb dX0_readNumber_71 rfl (lv_at hl 0 rfl) ?_
          refine kget Fc Z inX0 0 rfl rfl 2 (by decide) mF_RX0_19 rfl rfl dX0_readNumber_72 ?_
          obtain ⟨v13, h14, hF⟩ := obind hF
          refine kr_i (As := [.int ξ.1.2.2]) Fc hA Z Lens.all (c_X0_letterAt l D cI cS ad ξ ok ξ.1.2.2 v13 h14) mL_RX0_46 v_X0_letterAt ⟨rfl, rfl⟩ ⟨Nat.le_of_ble_eq_true rfl, Nat.le_of_ble_eq_true rfl⟩ ⟨Nat.zero_le _, Nat.zero_le _⟩ 0 0 rfl rfl rfl hl (Nat.le_of_ble_eq_true rfl) dX0_readNumber_75 rfl (fun H locs Z => ?_)
          refine lv_iadd hx hb dX0_readNumber_78 ?_
          refine lv_bipush (v := (48 : Int32)) hx hb dX0_readNumber_79 (by decide) ?_
          refine lv_isub hx hb dX0_readNumber_81 ?_
          refine lv_istore_n (lv' := [(3, .int ((((10 : Int32) * x3) + v13) - (48 : Int32))), (0, .ref (ad 124)), (1, .int x1), (2, .int x2), (4, .int x4)]) hx hb dX0_readNumber_82 rfl hl (by decide) rfl (fun ls hl => ?_)
          refine lv_aload_n hx hb dX0_readNumber_83 rfl (lv_at hl 1 rfl) ?_
          refine lv_dup hx hb dX0_readNumber_84 rfl ?_
          refine kget Fc Z inX0 0 rfl rfl 2 (by decide) mF_RX0_19 rfl rfl dX0_readNumber_85 ?_
          refine lv_iconst (v := (1 : Int32)) hx hb dX0_readNumber_88 (by decide) ?_
          refine lv_iadd hx hb dX0_readNumber_89 ?_
          obtain ⟨ξ15, e16, hF⟩ := bnd_el hF
          refine kput (v := .int ((ξ.1.2.2 + (1 : Int32)))) (ty := .int) (w' := xW ad cI ξ15) Fc Z inX0 tyX0 tyX0_ok nmX0 0 rfl rfl 2 (by decide) mF_RX0_19 rfl rfl rfl rfl rfl (Nat.le_of_ble_eq_true rfl) (by rw [e16]; rfl) dX0_readNumber_90 (fun H locs Z => ?_)
          have ok : tbOK 15 ξ15.2 := by rw [e16]; exact ok
          refine lv_iinc (v := (x4 + (1 : Int32))) (lv' := [(4, .int (x4 + (1 : Int32))), (3, .int ((((10 : Int32) * x3) + v13) - (48 : Int32))), (0, .ref (ad 124)), (1, .int x1), (2, .int x2)]) hx hb dX0_readNumber_93 hl (k := 4) rfl (by rfl) (by decide) rfl (fun ls hl => ?_)
          refine lv_goto (tgt := 46) hx hb dX0_readNumber_96 (by decide) ?_
          exact ih (((((10 : Int32) * x3) + v13) - (48 : Int32))) ((x4 + (1 : Int32))) ξ15 _ _ _ hF ok Z (lv_sub hl [2, 3, 4, 1, 0] rfl)
  unfold X0_readNumber at hF
  refine lv_aload_n hx hb dX0_readNumber_0 rfl (lv_at hl 0 rfl) ?_
  refine lv_aload_n hx hb dX0_readNumber_1 rfl (lv_at hl 0 rfl) ?_
  refine kget Fc Z inX0 0 rfl rfl 2 (by decide) mF_RX0_19 rfl rfl dX0_readNumber_2 ?_
  obtain ⟨v17, h18, hF⟩ := obind hF
  refine kr_i (As := [.int ξ.1.2.2]) Fc hA Z Lens.all (c_X0_letterAt l D cI cS ad ξ ok ξ.1.2.2 v17 h18) mL_RX0_46 v_X0_letterAt ⟨rfl, rfl⟩ ⟨Nat.le_of_ble_eq_true rfl, Nat.le_of_ble_eq_true rfl⟩ ⟨Nat.zero_le _, Nat.zero_le _⟩ 0 0 rfl rfl rfl hl (Nat.le_of_ble_eq_true rfl) dX0_readNumber_5 rfl (fun H locs Z => ?_)
  refine lv_bipush (v := (32 : Int32)) hx hb dX0_readNumber_8 (by decide) ?_
  refine lv_icmp_eq (tgt := 15) hx hb dX0_readNumber_10 (by decide) (fun c19 => ?_) (fun c19 => ?_)
  · rw [if_pos c19] at hF
    refine lv_aload_n hx hb dX0_readNumber_15 rfl (lv_at hl 0 rfl) ?_
    refine lv_dup hx hb dX0_readNumber_16 rfl ?_
    refine kget Fc Z inX0 0 rfl rfl 2 (by decide) mF_RX0_19 rfl rfl dX0_readNumber_17 ?_
    refine lv_iconst (v := (1 : Int32)) hx hb dX0_readNumber_20 (by decide) ?_
    refine lv_iadd hx hb dX0_readNumber_21 ?_
    obtain ⟨ξ20, e21, hF⟩ := bnd_el hF
    refine kput (v := .int ((ξ.1.2.2 + (1 : Int32)))) (ty := .int) (w' := xW ad cI ξ20) Fc Z inX0 tyX0 tyX0_ok nmX0 0 rfl rfl 2 (by decide) mF_RX0_19 rfl rfl rfl rfl rfl (Nat.le_of_ble_eq_true rfl) (by rw [e21]; rfl) dX0_readNumber_22 (fun H locs Z => ?_)
    have ok : tbOK 15 ξ20.2 := by rw [e21]; exact ok
    refine lv_aload_n hx hb dX0_readNumber_25 rfl (lv_at hl 0 rfl) ?_
    refine lv_aload_n hx hb dX0_readNumber_26 rfl (lv_at hl 0 rfl) ?_
    refine kget Fc Z inX0 0 rfl rfl 2 (by decide) mF_RX0_19 rfl rfl dX0_readNumber_27 ?_
    obtain ⟨v22, h23, hF⟩ := obind hF
    refine kr_i (As := [.int ξ20.1.2.2]) Fc hA Z Lens.all (c_X0_letterAt l D cI cS ad ξ20 ok ξ20.1.2.2 v22 h23) mL_RX0_46 v_X0_letterAt ⟨rfl, rfl⟩ ⟨Nat.le_of_ble_eq_true rfl, Nat.le_of_ble_eq_true rfl⟩ ⟨Nat.zero_le _, Nat.zero_le _⟩ 0 0 rfl rfl rfl hl (Nat.le_of_ble_eq_true rfl) dX0_readNumber_30 rfl (fun H locs Z => ?_)
    refine ks_i (As := [.int v22]) Fc hA Z (c_X0_isDigit l D cI cS v22 (X0_isDigit v22) rfl) mL_RX0_64 v_X0_isDigit ⟨rfl, rfl⟩ ⟨Nat.le_of_ble_eq_true rfl, Nat.le_of_ble_eq_true rfl⟩ ⟨Nat.zero_le _, Nat.zero_le _⟩ rfl hl (Nat.le_of_ble_eq_true rfl) dX0_readNumber_33 rfl (fun H locs Z => ?_)
    refine lv_if_ne (tgt := 41) hx hb dX0_readNumber_36 (by decide) (fun c24 => ?_) (fun c24 => ?_)
    · rw [if_neg c24] at hF
      refine lv_iconst (v := (0 : Int32)) hx hb dX0_readNumber_41 (by decide) ?_
      refine lv_istore_n (lv' := [(3, .int (0 : Int32)), (0, .ref (ad 124)), (1, .int p1), (2, .int p2)]) hx hb dX0_readNumber_42 rfl hl (by decide) rfl (fun ls hl => ?_)
      refine lv_iconst (v := (0 : Int32)) hx hb dX0_readNumber_43 (by decide) ?_
      refine lv_istore (lv' := [(4, .int (0 : Int32)), (3, .int (0 : Int32)), (0, .ref (ad 124)), (1, .int p1), (2, .int p2)]) hx hb dX0_readNumber_44 hl (by decide) rfl (fun ls hl => ?_)
      exact L46 p1 p2 FU (0 : Int32) (0 : Int32) ξ20 _ _ _ hF ok Z (lv_sub hl [2, 3, 4, 1, 0] rfl)
    · rw [if_pos c24] at hF
      refine lv_iconst (v := (0 : Int32)) hx hb dX0_readNumber_39 (by decide) ?_
      exact kret (0 : Int32) ξ20 _ _ _ _ ⟨(pfstb (Option.some.inj hF)), psnd (Option.some.inj hF), ok⟩ Z dX0_readNumber_40
  · rw [if_neg c19] at hF
    refine lv_iconst (v := (0 : Int32)) hx hb dX0_readNumber_13 (by decide) ?_
    exact kret (0 : Int32) ξ _ _ _ _ ⟨(pfstb (Option.some.inj hF)), psnd (Option.some.inj hF), ok⟩ Z dX0_readNumber_14
def X0_readCommand_L51 (x2 : Int32) (x3 : Int32) : Nat → Int32 → Xs → Option (Bool × Xs)
  | 0, _, _ => none
  | k + 1, x4, ξ => if x2 ≤ x4 then (some (true, ξ)) else (X0_readNumber ξ x3 (((1 : Int32) + x4))).bind fun q2 => if (bi q2.1) = 0 then (some (false, q2.2)) else X0_readCommand_L51 x2 x3 k ((x4 + (1 : Int32))) q2.2
def X0_readCommand (ξ : Xs) : Option (Bool × Xs) := (X0_letterAt ξ ξ.1.2.2).bind fun v5 => if (X0_numbersOf v5) = 0 then (some (false, ξ)) else bnd (tadd 15 4 ξ.2) fun q8 => bnd (xsT ξ q8.2) fun ξ10 => bnd (tput 4 ξ10.2 q8.1 (0 : Int32) v5) fun q12 => bnd (xsT ξ10 q12) fun ξ14 => bnd (xsP ξ14 (ξ14.1.2.2 + (1 : Int32))) fun ξ16 => X0_readCommand_L51 (X0_numbersOf v5) q8.1 FU (0 : Int32) ξ16
def rm_X0_readCommand : Room := { frames := 2, cells := 0, slots := 0, locals := 48 }
theorem v_X0_readCommand : WdV RX0 yX0_readCommand cX0_readCommand 5 (some .boolean) 0 := ⟨mI_X0_readCommand, mS_X0_readCommand, mZ_RX0, mC_X0_readCommand, by decide +kernel⟩
set_option maxHeartbeats 8000000 in
set_option maxRecDepth 100000 in
theorem c_X0_readCommand (l : Launch) (D : va_G) (cI cS : ClassId) (ad : Nat → Nat) (ξ : Xs) (ok : tbOK 15 ξ.2) (F : Bool × Xs) (hF : X0_readCommand ξ = some F) : MI l yX0_readCommand cX0_readCommand 5 (some .boolean) rm_X0_readCommand D cI cS [.ref (ad 124)] (xW ad cI ξ) (xW ad cI) (fun r u => r = bi F.1 ∧ u = F.2 ∧ tbOK 15 u.2) := by
  refine MI.mk RX0 rfl .boolean rfl (by decide) (Nat.le_of_ble_eq_true rfl) (fun r u h => by rw [h.1]; exact bi_nar _) ?_
  intro p e s m args below meth c A Q ls Fc hin hA Z kret hl
  obtain ⟨hx, hb, hml, hown, hts, hKN⟩ := id Fc
  replace hl : lv_has ls 5 [(0, .ref (ad 124))] := hl
  have L51 : ∀ (x2 : Int32) (x3 : Int32) (k : Nat) (x4 : Int32) (ξ : Xs) (H : Heap) (locs : List Loc) (ls : Array Slot), X0_readCommand_L51 x2 x3  k x4 ξ = some F → tbOK 15 ξ.2 → Ix D A s (xW ad cI ξ) H locs → lv_has ls 5 [(0, .ref (ad 124)), (2, .int x2), (3, .int x3), (4, .int x4)] → W p l e rm_X0_readCommand s m args below meth c H locs 0 0 Q (F0 m 51 ls []) := by
    intro x2 x3 k
    induction k with
    | zero => intro x4 ξ H locs ls hF; rw [X0_readCommand_L51] at hF; cases hF
    | succ k ih =>
      intro x4 ξ H locs ls hF ok Z hl
      rw [X0_readCommand_L51] at hF
      refine lv_iload hx hb dX0_readCommand_51 (lv_at hl 3 rfl) ?_
      refine lv_iload_n hx hb dX0_readCommand_53 rfl (lv_at hl 1 rfl) ?_
      refine lv_icmp_ge (tgt := 77) hx hb dX0_readCommand_54 (by decide) (fun c1 => ?_) (fun c1 => ?_)
      · rw [if_pos c1] at hF
        refine lv_iconst (v := (1 : Int32)) hx hb dX0_readCommand_77 (by decide) ?_
        exact kret (1 : Int32) ξ _ _ _ _ ⟨(pfstb (Option.some.inj hF)), psnd (Option.some.inj hF), ok⟩ Z dX0_readCommand_78
      · rw [if_neg c1] at hF
        refine lv_aload_n hx hb dX0_readCommand_57 rfl (lv_at hl 0 rfl) ?_
        refine lv_iload_n hx hb dX0_readCommand_58 rfl (lv_at hl 2 rfl) ?_
        refine lv_iconst (v := (1 : Int32)) hx hb dX0_readCommand_59 (by decide) ?_
        refine lv_iload hx hb dX0_readCommand_60 (lv_at hl 3 rfl) ?_
        refine lv_iadd hx hb dX0_readCommand_62 ?_
        obtain ⟨q2, h3, hF⟩ := obind hF
        refine km_i (q := (bi q2.1, q2.2)) (As := [.int x3, .int (((1 : Int32) + x4))]) (ok := (fun u : Xs => tbOK 15 u.2)) Fc hA Z Lens.all (c_X0_readNumber l D cI cS ad ξ ok x3 (((1 : Int32) + x4)) q2 h3) mL_RX0_60 v_X0_readNumber ⟨rfl, rfl⟩ ⟨Nat.le_of_ble_eq_true rfl, Nat.le_of_ble_eq_true rfl⟩ ⟨Nat.zero_le _, Nat.zero_le _⟩ 0 0 rfl rfl rfl hl (Nat.le_of_ble_eq_true rfl) dX0_readCommand_63 rfl (fun H locs ok1 Z => ?_)
        have ok := ok1
        refine lv_if_ne (tgt := 71) hx hb dX0_readCommand_66 (by decide) (fun c4 => ?_) (fun c4 => ?_)
        · rw [if_neg c4] at hF
          refine lv_iinc (v := (x4 + (1 : Int32))) (lv' := [(4, .int (x4 + (1 : Int32))), (0, .ref (ad 124)), (2, .int x2), (3, .int x3)]) hx hb dX0_readCommand_71 hl (k := 3) rfl (by rfl) (by decide) rfl (fun ls hl => ?_)
          refine lv_goto (tgt := 51) hx hb dX0_readCommand_74 (by decide) ?_
          exact ih ((x4 + (1 : Int32))) q2.2 _ _ _ hF ok Z (lv_sub hl [1, 2, 3, 0] rfl)
        · rw [if_pos c4] at hF
          refine lv_iconst (v := (0 : Int32)) hx hb dX0_readCommand_69 (by decide) ?_
          exact kret (0 : Int32) q2.2 _ _ _ _ ⟨(pfstb (Option.some.inj hF)), psnd (Option.some.inj hF), ok⟩ Z dX0_readCommand_70
  unfold X0_readCommand at hF
  refine lv_aload_n hx hb dX0_readCommand_0 rfl (lv_at hl 0 rfl) ?_
  refine lv_aload_n hx hb dX0_readCommand_1 rfl (lv_at hl 0 rfl) ?_
  refine kget Fc Z inX0 0 rfl rfl 2 (by decide) mF_RX0_19 rfl rfl dX0_readCommand_2 ?_
  obtain ⟨v5, h6, hF⟩ := obind hF
  refine kr_i (As := [.int ξ.1.2.2]) Fc hA Z Lens.all (c_X0_letterAt l D cI cS ad ξ ok ξ.1.2.2 v5 h6) mL_RX0_46 v_X0_letterAt ⟨rfl, rfl⟩ ⟨Nat.le_of_ble_eq_true rfl, Nat.le_of_ble_eq_true rfl⟩ ⟨Nat.zero_le _, Nat.zero_le _⟩ 0 0 rfl rfl rfl hl (Nat.le_of_ble_eq_true rfl) dX0_readCommand_5 rfl (fun H locs Z => ?_)
  refine lv_istore_n (lv' := [(1, .int v5), (0, .ref (ad 124))]) hx hb dX0_readCommand_8 rfl hl (by decide) rfl (fun ls hl => ?_)
  refine lv_iload_n hx hb dX0_readCommand_9 rfl (lv_at hl 0 rfl) ?_
  refine ks_i (As := [.int v5]) Fc hA Z (c_X0_numbersOf l D cI cS v5 (X0_numbersOf v5) rfl) mL_RX0_50 v_X0_numbersOf ⟨rfl, rfl⟩ ⟨Nat.le_of_ble_eq_true rfl, Nat.le_of_ble_eq_true rfl⟩ ⟨Nat.zero_le _, Nat.zero_le _⟩ rfl hl (Nat.le_of_ble_eq_true rfl) dX0_readCommand_10 rfl (fun H locs Z => ?_)
  refine lv_istore_n (lv' := [(2, .int (X0_numbersOf v5)), (1, .int v5), (0, .ref (ad 124))]) hx hb dX0_readCommand_13 rfl hl (by decide) rfl (fun ls hl => ?_)
  refine lv_iload_n hx hb dX0_readCommand_14 rfl (lv_at hl 0 rfl) ?_
  refine lv_if_ne (tgt := 20) hx hb dX0_readCommand_15 (by decide) (fun c7 => ?_) (fun c7 => ?_)
  · rw [if_neg c7] at hF
    refine lv_aload_n hx hb dX0_readCommand_20 rfl (lv_at hl 2 rfl) ?_
    refine kget Fc Z inX0 0 rfl rfl 3 (by decide) mF_RX0_27 rfl rfl dX0_readCommand_21 ?_
    obtain ⟨q8, e9, hF⟩ := bnd_el hF
    refine km_i (As := []) (ok := tbOK 15) Fc hA Z Lens.x3 (c_X3_addRow l D cI cS (ad 126) (ad 127) 15 4 (15 * 4) shx ξ.2 ok  q8 e9.symm) mL_RX0_53 v_X3_addRow ⟨rfl, rfl⟩ ⟨Nat.le_of_ble_eq_true rfl, Nat.le_of_ble_eq_true rfl⟩ ⟨Nat.zero_le _, Nat.zero_le _⟩ 2 3 rfl rfl rfl hl (Nat.le_of_ble_eq_true rfl) dX0_readCommand_24 rfl (fun H locs ok1 Z => ?_)
    obtain ⟨ξ10, e11, hF⟩ := bnd_el hF
    have Z : Ix D A s (xW ad cI ξ10) H locs := by rw [e11]; exact Z
    have ok : tbOK 15 ξ10.2 := by rw [e11]; exact ok1
    refine lv_istore_n (lv' := [(3, .int q8.1), (2, .int (X0_numbersOf v5)), (1, .int v5), (0, .ref (ad 124))]) hx hb dX0_readCommand_27 rfl hl (by decide) rfl (fun ls hl => ?_)
    refine lv_aload_n hx hb dX0_readCommand_28 rfl (lv_at hl 3 rfl) ?_
    refine kget Fc Z inX0 0 rfl rfl 3 (by decide) mF_RX0_27 rfl rfl dX0_readCommand_29 ?_
    refine lv_iload_n hx hb dX0_readCommand_32 rfl (lv_at hl 0 rfl) ?_
    refine lv_iconst (v := (0 : Int32)) hx hb dX0_readCommand_33 (by decide) ?_
    refine lv_iload_n hx hb dX0_readCommand_34 rfl (lv_at hl 2 rfl) ?_
    obtain ⟨q12, e13, hF⟩ := bnd_el hF
    refine kv_i (As := [.int q8.1, .int (0 : Int32), .int v5]) (ok := tbOK 15) Fc hA Z Lens.x3 (c_X3_put l D cI cS (ad 126) (ad 127) 15 4 (15 * 4) shx ξ10.2 ok q8.1 (0 : Int32) v5 q12 e13.symm) mL_RX0_56 v_X3_put ⟨rfl, rfl⟩ ⟨Nat.le_of_ble_eq_true rfl, Nat.le_of_ble_eq_true rfl⟩ ⟨Nat.zero_le _, Nat.zero_le _⟩ 2 3 rfl rfl rfl hl (Nat.le_of_ble_eq_true rfl) dX0_readCommand_35 rfl (fun H locs ok1 Z => ?_)
    obtain ⟨ξ14, e15, hF⟩ := bnd_el hF
    have Z : Ix D A s (xW ad cI ξ14) H locs := by rw [e15]; exact Z
    have ok : tbOK 15 ξ14.2 := by rw [e15]; exact ok1
    refine lv_aload_n hx hb dX0_readCommand_38 rfl (lv_at hl 3 rfl) ?_
    refine lv_dup hx hb dX0_readCommand_39 rfl ?_
    refine kget Fc Z inX0 0 rfl rfl 2 (by decide) mF_RX0_19 rfl rfl dX0_readCommand_40 ?_
    refine lv_iconst (v := (1 : Int32)) hx hb dX0_readCommand_43 (by decide) ?_
    refine lv_iadd hx hb dX0_readCommand_44 ?_
    obtain ⟨ξ16, e17, hF⟩ := bnd_el hF
    refine kput (v := .int ((ξ14.1.2.2 + (1 : Int32)))) (ty := .int) (w' := xW ad cI ξ16) Fc Z inX0 tyX0 tyX0_ok nmX0 0 rfl rfl 2 (by decide) mF_RX0_19 rfl rfl rfl rfl rfl (Nat.le_of_ble_eq_true rfl) (by rw [e17]; rfl) dX0_readCommand_45 (fun H locs Z => ?_)
    have ok : tbOK 15 ξ16.2 := by rw [e17]; exact ok
    refine lv_iconst (v := (0 : Int32)) hx hb dX0_readCommand_48 (by decide) ?_
    refine lv_istore (lv' := [(4, .int (0 : Int32)), (3, .int q8.1), (2, .int (X0_numbersOf v5)), (1, .int v5), (0, .ref (ad 124))]) hx hb dX0_readCommand_49 hl (by decide) rfl (fun ls hl => ?_)
    exact L51 (X0_numbersOf v5) q8.1 FU (0 : Int32) ξ16 _ _ _ hF ok Z (lv_sub hl [4, 2, 1, 0] rfl)
  · rw [if_pos c7] at hF
    refine lv_iconst (v := (0 : Int32)) hx hb dX0_readCommand_18 (by decide) ?_
    exact kret (0 : Int32) ξ _ _ _ _ ⟨(pfstb (Option.some.inj hF)), psnd (Option.some.inj hF), ok⟩ Z dX0_readCommand_19
def X0_readAll_L14 : Nat → Int32 → Xs → Option (Bool × Xs)
  | 0, _, _ => none
  | k + 1, x1, ξ => if (15 : Int32) ≤ x1 then (some (false, ξ)) else (X0_readCommand ξ).bind fun q2 => if (bi q2.1) = 0 then (some (false, q2.2)) else if q2.2.1.2.2 = q2.2.1.2.1 then (some (true, q2.2)) else (X0_letterAt q2.2 q2.2.1.2.2).bind fun v6 => if v6 = (59 : Int32) then (bnd (xsP q2.2 (q2.2.1.2.2 + (1 : Int32))) fun ξ9 => X0_readAll_L14 k ((x1 + (1 : Int32))) ξ9) else some (false, q2.2)
def X0_readAll (ξ : Xs) : Option (Bool × Xs) := bnd (tclr ξ.2) fun q11 => bnd (xsT ξ q11) fun ξ13 => bnd (xsP ξ13 (0 : Int32)) fun ξ15 => X0_readAll_L14 FU (0 : Int32) ξ15
def rm_X0_readAll : Room := { frames := 3, cells := 0, slots := 0, locals := 72 }
theorem v_X0_readAll : WdV RX0 yX0_readAll cX0_readAll 2 (some .boolean) 0 := ⟨mI_X0_readAll, mS_X0_readAll, mZ_RX0, mC_X0_readAll, by decide +kernel⟩
set_option maxHeartbeats 8000000 in
set_option maxRecDepth 100000 in
theorem c_X0_readAll (l : Launch) (D : va_G) (cI cS : ClassId) (ad : Nat → Nat) (ξ : Xs) (ok : tbOK 15 ξ.2) (F : Bool × Xs) (hF : X0_readAll ξ = some F) : MI l yX0_readAll cX0_readAll 2 (some .boolean) rm_X0_readAll D cI cS [.ref (ad 124)] (xW ad cI ξ) (xW ad cI) (fun r u => r = bi F.1 ∧ u = F.2 ∧ tbOK 15 u.2) := by
  refine MI.mk RX0 rfl .boolean rfl (by decide) (Nat.le_of_ble_eq_true rfl) (fun r u h => by rw [h.1]; exact bi_nar _) ?_
  intro p e s m args below meth c A Q ls Fc hin hA Z kret hl
  obtain ⟨hx, hb, hml, hown, hts, hKN⟩ := id Fc
  replace hl : lv_has ls 2 [(0, .ref (ad 124))] := hl
  have L14 : ∀ (k : Nat) (x1 : Int32) (ξ : Xs) (H : Heap) (locs : List Loc) (ls : Array Slot), X0_readAll_L14  k x1 ξ = some F → tbOK 15 ξ.2 → Ix D A s (xW ad cI ξ) H locs → lv_has ls 2 [(0, .ref (ad 124)), (1, .int x1)] → W p l e rm_X0_readAll s m args below meth c H locs 0 0 Q (F0 m 14 ls []) := by
    intro k
    induction k with
    | zero => intro x1 ξ H locs ls hF; rw [X0_readAll_L14] at hF; cases hF
    | succ k ih =>
      intro x1 ξ H locs ls hF ok Z hl
      rw [X0_readAll_L14] at hF
      refine lv_iload_n hx hb dX0_readAll_14 rfl (lv_at hl 1 rfl) ?_
      refine lv_bipush (v := (15 : Int32)) hx hb dX0_readAll_15 (by decide) ?_
      refine lv_icmp_ge (tgt := 73) hx hb dX0_readAll_17 (by decide) (fun c1 => ?_) (fun c1 => ?_)
      · rw [if_pos c1] at hF
        refine lv_iconst (v := (0 : Int32)) hx hb dX0_readAll_73 (by decide) ?_
        exact kret (0 : Int32) ξ _ _ _ _ ⟨(pfstb (Option.some.inj hF)), psnd (Option.some.inj hF), ok⟩ Z dX0_readAll_74
      · rw [if_neg c1] at hF
        refine lv_aload_n hx hb dX0_readAll_20 rfl (lv_at hl 0 rfl) ?_
        obtain ⟨q2, h3, hF⟩ := obind hF
        refine km_i (q := (bi q2.1, q2.2)) (As := []) (ok := (fun u : Xs => tbOK 15 u.2)) Fc hA Z Lens.all (c_X0_readCommand l D cI cS ad ξ ok  q2 h3) mL_RX0_42 v_X0_readCommand ⟨rfl, rfl⟩ ⟨Nat.le_of_ble_eq_true rfl, Nat.le_of_ble_eq_true rfl⟩ ⟨Nat.zero_le _, Nat.zero_le _⟩ 0 0 rfl rfl rfl hl (Nat.le_of_ble_eq_true rfl) dX0_readAll_21 rfl (fun H locs ok1 Z => ?_)
        have ok := ok1
        refine lv_if_ne (tgt := 29) hx hb dX0_readAll_24 (by decide) (fun c4 => ?_) (fun c4 => ?_)
        · rw [if_neg c4] at hF
          refine lv_aload_n hx hb dX0_readAll_29 rfl (lv_at hl 0 rfl) ?_
          refine kget Fc Z inX0 0 rfl rfl 2 (by decide) mF_RX0_19 rfl rfl dX0_readAll_30 ?_
          refine lv_aload_n hx hb dX0_readAll_33 rfl (lv_at hl 0 rfl) ?_
          refine kget Fc Z inX0 0 rfl rfl 1 (by decide) mF_RX0_15 rfl rfl dX0_readAll_34 ?_
          refine lv_icmp_ne (tgt := 42) hx hb dX0_readAll_37 (by decide) (fun c5 => ?_) (fun c5 => ?_)
          · rw [if_neg c5] at hF
            refine lv_aload_n hx hb dX0_readAll_42 rfl (lv_at hl 0 rfl) ?_
            refine lv_aload_n hx hb dX0_readAll_43 rfl (lv_at hl 0 rfl) ?_
            refine kget Fc Z inX0 0 rfl rfl 2 (by decide) mF_RX0_19 rfl rfl dX0_readAll_44 ?_
            obtain ⟨v6, h7, hF⟩ := obind hF
            refine kr_i (As := [.int q2.2.1.2.2]) Fc hA Z Lens.all (c_X0_letterAt l D cI cS ad q2.2 ok q2.2.1.2.2 v6 h7) mL_RX0_46 v_X0_letterAt ⟨rfl, rfl⟩ ⟨Nat.le_of_ble_eq_true rfl, Nat.le_of_ble_eq_true rfl⟩ ⟨Nat.zero_le _, Nat.zero_le _⟩ 0 0 rfl rfl rfl hl (Nat.le_of_ble_eq_true rfl) dX0_readAll_47 rfl (fun H locs Z => ?_)
            refine lv_bipush (v := (59 : Int32)) hx hb dX0_readAll_50 (by decide) ?_
            refine lv_icmp_eq (tgt := 57) hx hb dX0_readAll_52 (by decide) (fun c8 => ?_) (fun c8 => ?_)
            · rw [if_pos c8] at hF
              refine lv_aload_n hx hb dX0_readAll_57 rfl (lv_at hl 0 rfl) ?_
              refine lv_dup hx hb dX0_readAll_58 rfl ?_
              refine kget Fc Z inX0 0 rfl rfl 2 (by decide) mF_RX0_19 rfl rfl dX0_readAll_59 ?_
              refine lv_iconst (v := (1 : Int32)) hx hb dX0_readAll_62 (by decide) ?_
              refine lv_iadd hx hb dX0_readAll_63 ?_
              obtain ⟨ξ9, e10, hF⟩ := bnd_el hF
              refine kput (v := .int ((q2.2.1.2.2 + (1 : Int32)))) (ty := .int) (w' := xW ad cI ξ9) Fc Z inX0 tyX0 tyX0_ok nmX0 0 rfl rfl 2 (by decide) mF_RX0_19 rfl rfl rfl rfl rfl (Nat.le_of_ble_eq_true rfl) (by rw [e10]; rfl) dX0_readAll_64 (fun H locs Z => ?_)
              have ok : tbOK 15 ξ9.2 := by rw [e10]; exact ok
              refine lv_iinc (v := (x1 + (1 : Int32))) (lv' := [(1, .int (x1 + (1 : Int32))), (0, .ref (ad 124))]) hx hb dX0_readAll_67 hl (k := 1) rfl (by rfl) (by decide) rfl (fun ls hl => ?_)
              refine lv_goto (tgt := 14) hx hb dX0_readAll_70 (by decide) ?_
              exact ih ((x1 + (1 : Int32))) ξ9 _ _ _ hF ok Z (lv_sub hl [1, 0] rfl)
            · rw [if_neg c8] at hF
              refine lv_iconst (v := (0 : Int32)) hx hb dX0_readAll_55 (by decide) ?_
              exact kret (0 : Int32) q2.2 _ _ _ _ ⟨(pfstb (Option.some.inj hF)), psnd (Option.some.inj hF), ok⟩ Z dX0_readAll_56
          · rw [if_pos c5] at hF
            refine lv_iconst (v := (1 : Int32)) hx hb dX0_readAll_40 (by decide) ?_
            exact kret (1 : Int32) q2.2 _ _ _ _ ⟨(pfstb (Option.some.inj hF)), psnd (Option.some.inj hF), ok⟩ Z dX0_readAll_41
        · rw [if_pos c4] at hF
          refine lv_iconst (v := (0 : Int32)) hx hb dX0_readAll_27 (by decide) ?_
          exact kret (0 : Int32) q2.2 _ _ _ _ ⟨(pfstb (Option.some.inj hF)), psnd (Option.some.inj hF), ok⟩ Z dX0_readAll_28
  unfold X0_readAll at hF
  refine lv_aload_n hx hb dX0_readAll_0 rfl (lv_at hl 0 rfl) ?_
  refine kget Fc Z inX0 0 rfl rfl 3 (by decide) mF_RX0_27 rfl rfl dX0_readAll_1 ?_
  obtain ⟨q11, e12, hF⟩ := bnd_el hF
  refine kv_i (As := []) (ok := tbOK 15) Fc hA Z Lens.x3 (c_X3_removeAllRows l D cI cS (ad 126) (ad 127) 15 4 (15 * 4) shx ξ.2 ok  q11 e12.symm) mL_RX0_39 v_X3_removeAllRows ⟨rfl, rfl⟩ ⟨Nat.le_of_ble_eq_true rfl, Nat.le_of_ble_eq_true rfl⟩ ⟨Nat.zero_le _, Nat.zero_le _⟩ 2 3 rfl rfl rfl hl (Nat.le_of_ble_eq_true rfl) dX0_readAll_4 rfl (fun H locs ok1 Z => ?_)
  obtain ⟨ξ13, e14, hF⟩ := bnd_el hF
  have Z : Ix D A s (xW ad cI ξ13) H locs := by rw [e14]; exact Z
  have ok : tbOK 15 ξ13.2 := by rw [e14]; exact ok1
  refine lv_aload_n hx hb dX0_readAll_7 rfl (lv_at hl 0 rfl) ?_
  refine lv_iconst (v := (0 : Int32)) hx hb dX0_readAll_8 (by decide) ?_
  obtain ⟨ξ15, e16, hF⟩ := bnd_el hF
  refine kput (v := .int (0 : Int32)) (ty := .int) (w' := xW ad cI ξ15) Fc Z inX0 tyX0 tyX0_ok nmX0 0 rfl rfl 2 (by decide) mF_RX0_19 rfl rfl rfl rfl rfl (Nat.le_of_ble_eq_true rfl) (by rw [e16]; rfl) dX0_readAll_9 (fun H locs Z => ?_)
  have ok : tbOK 15 ξ15.2 := by rw [e16]; exact ok
  refine lv_iconst (v := (0 : Int32)) hx hb dX0_readAll_12 (by decide) ?_
  refine lv_istore_n (lv' := [(1, .int (0 : Int32)), (0, .ref (ad 124))]) hx hb dX0_readAll_13 rfl hl (by decide) rfl (fun ls hl => ?_)
  exact L14  FU (0 : Int32) ξ15 _ _ _ hF ok Z (lv_sub hl [1, 0] rfl)
