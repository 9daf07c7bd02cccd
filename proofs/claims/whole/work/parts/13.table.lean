/-! THE TABLE, as its bytecode computes it -/
def X3_size (cap cols L : Nat) (u : Tab) : Int32 := u.1
def rm_X3_size : Room := { frames := 0, cells := 0, slots := 0, locals := 0 }
theorem v_X3_size : WdV RX3 yX3_size cX3_size 1 (some .int) 0 := ⟨mI_X3_size, mS_X3_size, mZ_RX3, mC_X3_size, by decide +kernel⟩
set_option maxHeartbeats 8000000 in
set_option maxRecDepth 100000 in
theorem m_X3_size (l : Launch) (D : va_G) (cI cS : ClassId) (t a cap cols L : Nat) (sh : tbS cap cols L) (u : Tab) (ok : tbOK cap u) (F : Int32) (hF : X3_size cap cols L u = F) : MI l yX3_size cX3_size 1 (some .int) rm_X3_size D cI cS [.ref t] (tbW t a cI cap cols L u) (tbW t a cI cap cols L) (fun r u' => r = F ∧ u' = u) := by
  refine MI.mk RX3 rfl .int rfl (by decide) (Nat.le_of_ble_eq_true rfl) (fun _ _ _ => rfl) ?_
  intro p e s m args below meth c A Q ls Fc hin hA Z kret hl
  obtain ⟨hx, hb, hml, hown, hts, hKN⟩ := id Fc
  replace hl : lv_has ls 1 [(0, .ref t)] := hl
  unfold X3_size at hF
  refine lv_aload_n hx hb dX3_size_0 rfl (lv_at hl 0 rfl) ?_
  refine kget Fc Z inX3 0 rfl rfl 3 (by decide) mF_RX3_9 rfl rfl dX3_size_1 ?_
  exact kret _ _ _ _ _ _ ⟨hF, rfl⟩ Z dX3_size_4
def X3_has (cap cols L : Nat) (u : Tab) (p1 : Int32) : Bool := if p1 < 0 then (false) else if u.1 ≤ p1 then (false) else true
def rm_X3_has : Room := { frames := 0, cells := 0, slots := 0, locals := 0 }
theorem v_X3_has : WdV RX3 yX3_has cX3_has 2 (some .boolean) 1 := ⟨mI_X3_has, mS_X3_has, mZ_RX3, mC_X3_has, by decide +kernel⟩
set_option maxHeartbeats 8000000 in
set_option maxRecDepth 100000 in
theorem m_X3_has (l : Launch) (D : va_G) (cI cS : ClassId) (t a cap cols L : Nat) (sh : tbS cap cols L) (u : Tab) (ok : tbOK cap u) (p1 : Int32) (F : Bool) (hF : X3_has cap cols L u p1 = F) : MI l yX3_has cX3_has 2 (some .boolean) rm_X3_has D cI cS [.ref t, .int p1] (tbW t a cI cap cols L u) (tbW t a cI cap cols L) (fun r u' => r = bi F ∧ u' = u) := by
  refine MI.mk RX3 rfl .boolean rfl (by decide) (Nat.le_of_ble_eq_true rfl) (fun r u h => by rw [h.1]; exact bi_nar _) ?_
  intro p e s m args below meth c A Q ls Fc hin hA Z kret hl
  obtain ⟨hx, hb, hml, hown, hts, hKN⟩ := id Fc
  replace hl : lv_has ls 2 [(0, .ref t), (1, .int p1)] := hl
  unfold X3_has at hF
  refine lv_iload_n hx hb dX3_has_0 rfl (lv_at hl 1 rfl) ?_
  refine lv_if_lt (tgt := 16) hx hb dX3_has_1 (by decide) (fun c1 => ?_) (fun c1 => ?_)
  · rw [if_pos c1] at hF
    refine lv_iconst (v := (0 : Int32)) hx hb dX3_has_16 (by decide) ?_
    exact kret _ _ _ _ _ _ ⟨(congrArg bi hF), rfl⟩ Z dX3_has_17
  · rw [if_neg c1] at hF
    refine lv_iload_n hx hb dX3_has_4 rfl (lv_at hl 1 rfl) ?_
    refine lv_aload_n hx hb dX3_has_5 rfl (lv_at hl 0 rfl) ?_
    refine kget Fc Z inX3 0 rfl rfl 3 (by decide) mF_RX3_9 rfl rfl dX3_has_6 ?_
    refine lv_icmp_ge (tgt := 16) hx hb dX3_has_9 (by decide) (fun c2 => ?_) (fun c2 => ?_)
    · rw [if_pos c2] at hF
      refine lv_iconst (v := (0 : Int32)) hx hb dX3_has_16 (by decide) ?_
      exact kret _ _ _ _ _ _ ⟨(congrArg bi hF), rfl⟩ Z dX3_has_17
    · rw [if_neg c2] at hF
      refine lv_iconst (v := (1 : Int32)) hx hb dX3_has_12 (by decide) ?_
      refine lv_goto (tgt := 17) hx hb dX3_has_13 (by decide) ?_
      exact kret _ _ _ _ _ _ ⟨(congrArg bi hF), rfl⟩ Z dX3_has_17
def X3_get (cap cols L : Nat) (u : Tab) (p1 p2 : Int32) : Option (Int32) := if p1 < 0 then (some (0 : Int32)) else if u.1 ≤ p1 then (some (0 : Int32)) else if p2 < 0 then (some (0 : Int32)) else if p2 < (nI cols) then (if (nI L) ≤ ((p1 * (nI cols)) + p2) then (some (0 : Int32)) else (rdA u.2 L (((p1 * (nI cols)) + p2))).bind fun v6 => some v6) else some (0 : Int32)
def rm_X3_get : Room := { frames := 0, cells := 0, slots := 0, locals := 0 }
theorem v_X3_get : WdV RX3 yX3_get cX3_get 4 (some .int) 2 := ⟨mI_X3_get, mS_X3_get, mZ_RX3, mC_X3_get, by decide +kernel⟩
set_option maxHeartbeats 8000000 in
set_option maxRecDepth 100000 in
theorem m_X3_get (l : Launch) (D : va_G) (cI cS : ClassId) (t a cap cols L : Nat) (sh : tbS cap cols L) (u : Tab) (ok : tbOK cap u) (p1 p2 : Int32) (F : Int32) (hF : X3_get cap cols L u p1 p2 = some F) : MI l yX3_get cX3_get 4 (some .int) rm_X3_get D cI cS [.ref t, .int p1, .int p2] (tbW t a cI cap cols L u) (tbW t a cI cap cols L) (fun r u' => r = F ∧ u' = u) := by
  refine MI.mk RX3 rfl .int rfl (by decide) (Nat.le_of_ble_eq_true rfl) (fun _ _ _ => rfl) ?_
  intro p e s m args below meth c A Q ls Fc hin hA Z kret hl
  obtain ⟨hx, hb, hml, hown, hts, hKN⟩ := id Fc
  replace hl : lv_has ls 4 [(0, .ref t), (1, .int p1), (2, .int p2)] := hl
  unfold X3_get at hF
  refine lv_iload_n hx hb dX3_get_0 rfl (lv_at hl 1 rfl) ?_
  refine lv_if_lt (tgt := 24) hx hb dX3_get_1 (by decide) (fun c1 => ?_) (fun c1 => ?_)
  · rw [if_pos c1] at hF
    refine lv_iconst (v := (0 : Int32)) hx hb dX3_get_24 (by decide) ?_
    exact kret _ _ _ _ _ _ ⟨(Option.some.inj hF), rfl⟩ Z dX3_get_25
  · rw [if_neg c1] at hF
    refine lv_iload_n hx hb dX3_get_4 rfl (lv_at hl 1 rfl) ?_
    refine lv_aload_n hx hb dX3_get_5 rfl (lv_at hl 0 rfl) ?_
    refine kget Fc Z inX3 0 rfl rfl 3 (by decide) mF_RX3_9 rfl rfl dX3_get_6 ?_
    refine lv_icmp_ge (tgt := 24) hx hb dX3_get_9 (by decide) (fun c2 => ?_) (fun c2 => ?_)
    · rw [if_pos c2] at hF
      refine lv_iconst (v := (0 : Int32)) hx hb dX3_get_24 (by decide) ?_
      exact kret _ _ _ _ _ _ ⟨(Option.some.inj hF), rfl⟩ Z dX3_get_25
    · rw [if_neg c2] at hF
      refine lv_iload_n hx hb dX3_get_12 rfl (lv_at hl 2 rfl) ?_
      refine lv_if_lt (tgt := 24) hx hb dX3_get_13 (by decide) (fun c3 => ?_) (fun c3 => ?_)
      · rw [if_pos c3] at hF
        refine lv_iconst (v := (0 : Int32)) hx hb dX3_get_24 (by decide) ?_
        exact kret _ _ _ _ _ _ ⟨(Option.some.inj hF), rfl⟩ Z dX3_get_25
      · rw [if_neg c3] at hF
        refine lv_iload_n hx hb dX3_get_16 rfl (lv_at hl 2 rfl) ?_
        refine lv_aload_n hx hb dX3_get_17 rfl (lv_at hl 0 rfl) ?_
        refine kget Fc Z inX3 0 rfl rfl 1 (by decide) mF_RX3_18 rfl rfl dX3_get_18 ?_
        refine lv_icmp_lt (tgt := 26) hx hb dX3_get_21 (by decide) (fun c4 => ?_) (fun c4 => ?_)
        · rw [if_pos c4] at hF
          refine lv_iload_n hx hb dX3_get_26 rfl (lv_at hl 1 rfl) ?_
          refine lv_aload_n hx hb dX3_get_27 rfl (lv_at hl 0 rfl) ?_
          refine kget Fc Z inX3 0 rfl rfl 1 (by decide) mF_RX3_18 rfl rfl dX3_get_28 ?_
          refine lv_imul hx hb dX3_get_31 ?_
          refine lv_iload_n hx hb dX3_get_32 rfl (lv_at hl 2 rfl) ?_
          refine lv_iadd hx hb dX3_get_33 ?_
          refine lv_istore_n (lv' := [(3, .int ((p1 * (nI cols)) + p2)), (0, .ref t), (1, .int p1), (2, .int p2)]) hx hb dX3_get_34 rfl hl (by decide) rfl (fun ls hl => ?_)
          refine lv_iload_n hx hb dX3_get_35 rfl (lv_at hl 0 rfl) ?_
          refine lv_aload_n hx hb dX3_get_36 rfl (lv_at hl 1 rfl) ?_
          refine kget Fc Z inX3 0 rfl rfl 2 (by decide) mF_RX3_27 rfl rfl dX3_get_37 ?_
          refine kalen (x := (nI L)) Fc Z 1 rfl rfl dX3_get_40 ?_
          refine lv_icmp_ge (tgt := 53) hx hb dX3_get_41 (by decide) (fun c5 => ?_) (fun c5 => ?_)
          · rw [if_pos c5] at hF
            refine lv_iconst (v := (0 : Int32)) hx hb dX3_get_53 (by decide) ?_
            exact kret _ _ _ _ _ _ ⟨(Option.some.inj hF), rfl⟩ Z dX3_get_54
          · rw [if_neg c5] at hF
            refine lv_aload_n hx hb dX3_get_44 rfl (lv_at hl 1 rfl) ?_
            refine kget Fc Z inX3 0 rfl rfl 2 (by decide) mF_RX3_27 rfl rfl dX3_get_45 ?_
            refine lv_iload_n hx hb dX3_get_48 rfl (lv_at hl 0 rfl) ?_
            obtain ⟨v6, h7, hF⟩ := obind hF
            refine kald Fc Z 1 rfl h7 dX3_get_49 ?_
            refine lv_goto (tgt := 54) hx hb dX3_get_50 (by decide) ?_
            exact kret _ _ _ _ _ _ ⟨(Option.some.inj hF), rfl⟩ Z dX3_get_54
        · rw [if_neg c4] at hF
          refine lv_iconst (v := (0 : Int32)) hx hb dX3_get_24 (by decide) ?_
          exact kret _ _ _ _ _ _ ⟨(Option.some.inj hF), rfl⟩ Z dX3_get_25
def X3_put (cap cols L : Nat) (u : Tab) (p1 p2 p3 : Int32) : Option (Tab) := if p1 < 0 then (some u) else if u.1 ≤ p1 then (some u) else if p2 < 0 then (some u) else if p2 < (nI cols) then (if (nI L) ≤ ((p1 * (nI cols)) + p2) then (some u) else (wrA u.2 L (((p1 * (nI cols)) + p2)) p3).bind fun g6 => bnd (u.1, g6) fun u8 => some u8) else some u
def rm_X3_put : Room := { frames := 0, cells := 0, slots := 0, locals := 0 }
theorem v_X3_put : WdV RX3 yX3_put cX3_put 5 none 3 := ⟨mI_X3_put, mS_X3_put, mZ_RX3, mC_X3_put, by decide +kernel⟩
set_option maxHeartbeats 8000000 in
set_option maxRecDepth 100000 in
theorem m_X3_put (l : Launch) (D : va_G) (cI cS : ClassId) (t a cap cols L : Nat) (sh : tbS cap cols L) (u : Tab) (ok : tbOK cap u) (p1 p2 p3 : Int32) (F : Tab) (hF : X3_put cap cols L u p1 p2 p3 = some F) : MV l yX3_put cX3_put 5 rm_X3_put D cI cS [.ref t, .int p1, .int p2, .int p3] (tbW t a cI cap cols L u) (tbW t a cI cap cols L) (fun u => u = F ∧ True) := by
  refine MV.mk RX3 rfl (by decide) (Nat.le_of_ble_eq_true rfl) ?_
  intro p e s m args below meth c A Q ls Fc hin hA Z kret hl
  obtain ⟨hx, hb, hml, hown, hts, hKN⟩ := id Fc
  replace hl : lv_has ls 5 [(0, .ref t), (1, .int p1), (2, .int p2), (3, .int p3)] := hl
  unfold X3_put at hF
  refine lv_iload_n hx hb dX3_put_0 rfl (lv_at hl 1 rfl) ?_
  refine lv_if_lt (tgt := 24) hx hb dX3_put_1 (by decide) (fun c1 => ?_) (fun c1 => ?_)
  · rw [if_pos c1] at hF
    exact kret _ _ _ _ _ ⟨(Option.some.inj hF), trivial⟩ Z dX3_put_24
  · rw [if_neg c1] at hF
    refine lv_iload_n hx hb dX3_put_4 rfl (lv_at hl 1 rfl) ?_
    refine lv_aload_n hx hb dX3_put_5 rfl (lv_at hl 0 rfl) ?_
    refine kget Fc Z inX3 0 rfl rfl 3 (by decide) mF_RX3_9 rfl rfl dX3_put_6 ?_
    refine lv_icmp_ge (tgt := 24) hx hb dX3_put_9 (by decide) (fun c2 => ?_) (fun c2 => ?_)
    · rw [if_pos c2] at hF
      exact kret _ _ _ _ _ ⟨(Option.some.inj hF), trivial⟩ Z dX3_put_24
    · rw [if_neg c2] at hF
      refine lv_iload_n hx hb dX3_put_12 rfl (lv_at hl 2 rfl) ?_
      refine lv_if_lt (tgt := 24) hx hb dX3_put_13 (by decide) (fun c3 => ?_) (fun c3 => ?_)
      · rw [if_pos c3] at hF
        exact kret _ _ _ _ _ ⟨(Option.some.inj hF), trivial⟩ Z dX3_put_24
      · rw [if_neg c3] at hF
        refine lv_iload_n hx hb dX3_put_16 rfl (lv_at hl 2 rfl) ?_
        refine lv_aload_n hx hb dX3_put_17 rfl (lv_at hl 0 rfl) ?_
        refine kget Fc Z inX3 0 rfl rfl 1 (by decide) mF_RX3_18 rfl rfl dX3_put_18 ?_
        refine lv_icmp_lt (tgt := 25) hx hb dX3_put_21 (by decide) (fun c4 => ?_) (fun c4 => ?_)
        · rw [if_pos c4] at hF
          refine lv_iload_n hx hb dX3_put_25 rfl (lv_at hl 1 rfl) ?_
          refine lv_aload_n hx hb dX3_put_26 rfl (lv_at hl 0 rfl) ?_
          refine kget Fc Z inX3 0 rfl rfl 1 (by decide) mF_RX3_18 rfl rfl dX3_put_27 ?_
          refine lv_imul hx hb dX3_put_30 ?_
          refine lv_iload_n hx hb dX3_put_31 rfl (lv_at hl 2 rfl) ?_
          refine lv_iadd hx hb dX3_put_32 ?_
          refine lv_istore (lv' := [(4, .int ((p1 * (nI cols)) + p2)), (0, .ref t), (1, .int p1), (2, .int p2), (3, .int p3)]) hx hb dX3_put_33 hl (by decide) rfl (fun ls hl => ?_)
          refine lv_iload hx hb dX3_put_35 (lv_at hl 0 rfl) ?_
          refine lv_aload_n hx hb dX3_put_37 rfl (lv_at hl 1 rfl) ?_
          refine kget Fc Z inX3 0 rfl rfl 2 (by decide) mF_RX3_27 rfl rfl dX3_put_38 ?_
          refine kalen (x := (nI L)) Fc Z 1 rfl rfl dX3_put_41 ?_
          refine lv_icmp_ge (tgt := 53) hx hb dX3_put_42 (by decide) (fun c5 => ?_) (fun c5 => ?_)
          · rw [if_pos c5] at hF
            exact kret _ _ _ _ _ ⟨(Option.some.inj hF), trivial⟩ Z dX3_put_53
          · rw [if_neg c5] at hF
            refine lv_aload_n hx hb dX3_put_45 rfl (lv_at hl 1 rfl) ?_
            refine kget Fc Z inX3 0 rfl rfl 2 (by decide) mF_RX3_27 rfl rfl dX3_put_46 ?_
            refine lv_iload hx hb dX3_put_49 (lv_at hl 0 rfl) ?_
            refine lv_iload_n hx hb dX3_put_51 rfl (lv_at hl 4 rfl) ?_
            obtain ⟨g6, h7, hF⟩ := obind hF
            obtain ⟨u8, e9, hF⟩ := bnd_el hF
            refine kast (w' := tbW t a cI cap cols L u8) Fc Z 1 rfl h7 (by rw [e9]; rfl) dX3_put_52 (fun H locs Z => ?_)
            have ok : tbOK cap u8 := by rw [e9]; exact ok
            exact kret _ _ _ _ _ ⟨(Option.some.inj hF), trivial⟩ Z dX3_put_53
        · rw [if_neg c4] at hF
          exact kret _ _ _ _ _ ⟨(Option.some.inj hF), trivial⟩ Z dX3_put_24
def X3_removeAllRows (cap cols L : Nat) (u : Tab) : Tab := bnd ((0 : Int32), u.2) fun u1 => u1
def rm_X3_removeAllRows : Room := { frames := 0, cells := 0, slots := 0, locals := 0 }
theorem v_X3_removeAllRows : WdV RX3 yX3_removeAllRows cX3_removeAllRows 1 none 0 := ⟨mI_X3_removeAllRows, mS_X3_removeAllRows, mZ_RX3, mC_X3_removeAllRows, by decide +kernel⟩
set_option maxHeartbeats 8000000 in
set_option maxRecDepth 100000 in
theorem m_X3_removeAllRows (l : Launch) (D : va_G) (cI cS : ClassId) (t a cap cols L : Nat) (sh : tbS cap cols L) (u : Tab) (ok : tbOK cap u) (F : Tab) (hF : X3_removeAllRows cap cols L u = F) : MV l yX3_removeAllRows cX3_removeAllRows 1 rm_X3_removeAllRows D cI cS [.ref t] (tbW t a cI cap cols L u) (tbW t a cI cap cols L) (fun u => u = F ∧ True) := by
  refine MV.mk RX3 rfl (by decide) (Nat.le_of_ble_eq_true rfl) ?_
  intro p e s m args below meth c A Q ls Fc hin hA Z kret hl
  obtain ⟨hx, hb, hml, hown, hts, hKN⟩ := id Fc
  replace hl : lv_has ls 1 [(0, .ref t)] := hl
  unfold X3_removeAllRows at hF
  refine lv_aload_n hx hb dX3_removeAllRows_0 rfl (lv_at hl 0 rfl) ?_
  refine lv_iconst (v := (0 : Int32)) hx hb dX3_removeAllRows_1 (by decide) ?_
  obtain ⟨u1, e2, hF⟩ := bnd_el hF
  refine kput (v := .int (0 : Int32)) (ty := .int) (w' := tbW t a cI cap cols L u1) Fc Z inX3 tyX3 tyX3_ok nmX3 0 rfl rfl 3 (by decide) mF_RX3_9 rfl rfl rfl rfl rfl (Nat.le_of_ble_eq_true rfl) (by rw [e2]; rfl) dX3_removeAllRows_2 (fun H locs Z => ?_)
  exact kret _ _ _ _ _ ⟨hF, trivial⟩ Z dX3_removeAllRows_5
