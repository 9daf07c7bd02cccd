/-! THE TABLE: rows added and taken away -/
def X3_addRow_L26 (cap cols L : Nat) : Nat → Int32 → Tab → Option (Int32 × Tab)
  | 0, _, _ => none
  | k + 1, x1, u => if (nI cols) ≤ x1 then (some (((u.1 - (1 : Int32)), u))) else bnd (tput cols u ((u.1 - (1 : Int32))) x1 (0 : Int32)) fun q2 => X3_addRow_L26 cap cols L k ((x1 + (1 : Int32))) q2
def X3_addRow (cap cols L : Nat) (u : Tab) : Option (Int32 × Tab) := if u.1 < (nI cap) then (bnd ((u.1 + (1 : Int32)), u.2) fun u5 => X3_addRow_L26 cap cols L FU (0 : Int32) u5) else some (((-3 : Int32), u))
def rm_X3_addRow : Room := { frames := 1, cells := 0, slots := 0, locals := 24 }
theorem v_X3_addRow : WdV RX3 yX3_addRow cX3_addRow 2 (some .int) 0 := ⟨mI_X3_addRow, mS_X3_addRow, mZ_RX3, mC_X3_addRow, by decide +kernel⟩
set_option maxHeartbeats 8000000 in
set_option maxRecDepth 100000 in
theorem m_X3_addRow (l : Launch) (D : va_G) (cI cS : ClassId) (t a cap cols L : Nat) (sh : tbS cap cols L) (u : Tab) (ok : tbOK cap u) (F : Int32 × Tab) (hF : X3_addRow cap cols L u = some F) : MI l yX3_addRow cX3_addRow 2 (some .int) rm_X3_addRow D cI cS [.ref t] (tbW t a cI cap cols L u) (tbW t a cI cap cols L) (fun r u => r = F.1 ∧ u = F.2 ∧ True) := by
  refine MI.mk RX3 rfl .int rfl (by decide) (Nat.le_of_ble_eq_true rfl) (fun _ _ _ => rfl) ?_
  intro p e s m args below meth c A Q ls Fc hin hA Z kret hl
  obtain ⟨hx, hb, hml, hown, hts, hKN⟩ := id Fc
  replace hl : lv_has ls 2 [(0, .ref t)] := hl
  have L26 : ∀ (k : Nat) (x1 : Int32) (u : Tab) (H : Heap) (locs : List Loc) (ls : Array Slot), X3_addRow_L26 cap cols L  k x1 u = some F → tbOK cap u → Ix D A s (tbW t a cI cap cols L u) H locs → lv_has ls 2 [(0, .ref t), (1, .int x1)] → W p l e rm_X3_addRow s m args below meth c H locs 0 0 Q (F0 m 26 ls []) := by
    intro k
    induction k with
    | zero => intro x1 u H locs ls hF; rw [X3_addRow_L26] at hF; cases hF
    | succ k ih =>
      intro x1 u H locs ls hF ok Z hl
      rw [X3_addRow_L26] at hF
      refine lv_iload_n hx hb dX3_addRow_26 rfl (lv_at hl 1 rfl) ?_
      refine lv_aload_n hx hb dX3_addRow_27 rfl (lv_at hl 0 rfl) ?_
      refine kget Fc Z inX3 0 rfl rfl 1 (by decide) mF_RX3_18 rfl rfl dX3_addRow_28 ?_
      refine lv_icmp_ge (tgt := 52) hx hb dX3_addRow_31 (by decide) (fun c1 => ?_) (fun c1 => ?_)
      · rw [if_pos c1] at hF
        refine lv_aload_n hx hb dX3_addRow_52 rfl (lv_at hl 0 rfl) ?_
        refine kget Fc Z inX3 0 rfl rfl 3 (by decide) mF_RX3_9 rfl rfl dX3_addRow_53 ?_
        refine lv_iconst (v := (1 : Int32)) hx hb dX3_addRow_56 (by decide) ?_
        refine lv_isub hx hb dX3_addRow_57 ?_
        exact kret _ _ _ _ _ _ ⟨(congrArg Prod.fst (Option.some.inj hF)), congrArg Prod.snd (Option.some.inj hF), trivial⟩ Z dX3_addRow_58
      · rw [if_neg c1] at hF
        refine lv_aload_n hx hb dX3_addRow_34 rfl (lv_at hl 0 rfl) ?_
        refine lv_aload_n hx hb dX3_addRow_35 rfl (lv_at hl 0 rfl) ?_
        refine kget Fc Z inX3 0 rfl rfl 3 (by decide) mF_RX3_9 rfl rfl dX3_addRow_36 ?_
        refine lv_iconst (v := (1 : Int32)) hx hb dX3_addRow_39 (by decide) ?_
        refine lv_isub hx hb dX3_addRow_40 ?_
        refine lv_iload_n hx hb dX3_addRow_41 rfl (lv_at hl 1 rfl) ?_
        refine lv_iconst (v := (0 : Int32)) hx hb dX3_addRow_42 (by decide) ?_
        obtain ⟨q2, e3, hF⟩ := bnd_el hF
        refine kv_i (As := [.int ((u.1 - (1 : Int32))), .int x1, .int (0 : Int32)]) (ok := tbOK cap) Fc hA Z Lens.all (c_X3_put l D cI cS t a cap cols L sh u ok ((u.1 - (1 : Int32))) x1 (0 : Int32) q2 e3.symm) mL_RX3_31 v_X3_put ⟨rfl, rfl⟩ ⟨Nat.le_of_ble_eq_true rfl, Nat.le_of_ble_eq_true rfl⟩ ⟨Nat.zero_le _, Nat.zero_le _⟩ 0 3 rfl rfl rfl hl (Nat.le_of_ble_eq_true rfl) dX3_addRow_43 rfl (fun H locs ok1 Z => ?_)
        have ok := ok1
        refine lv_iinc (v := (x1 + (1 : Int32))) (lv' := [(1, .int (x1 + (1 : Int32))), (0, .ref t)]) hx hb dX3_addRow_46 hl (k := 1) rfl (by rfl) (by decide) rfl (fun ls hl => ?_)
        refine lv_goto (tgt := 26) hx hb dX3_addRow_49 (by decide) ?_
        exact ih ((x1 + (1 : Int32))) q2 _ _ _ hF ok Z (lv_sub hl [1, 0] rfl)
  unfold X3_addRow at hF
  refine lv_aload_n hx hb dX3_addRow_0 rfl (lv_at hl 0 rfl) ?_
  refine kget Fc Z inX3 0 rfl rfl 3 (by decide) mF_RX3_9 rfl rfl dX3_addRow_1 ?_
  refine lv_aload_n hx hb dX3_addRow_4 rfl (lv_at hl 0 rfl) ?_
  refine kget Fc Z inX3 0 rfl rfl 0 (by decide) mF_RX3_15 rfl rfl dX3_addRow_5 ?_
  refine lv_icmp_lt (tgt := 14) hx hb dX3_addRow_8 (by decide) (fun c4 => ?_) (fun c4 => ?_)
  · rw [if_pos c4] at hF
    refine lv_aload_n hx hb dX3_addRow_14 rfl (lv_at hl 0 rfl) ?_
    refine lv_dup hx hb dX3_addRow_15 rfl ?_
    refine kget Fc Z inX3 0 rfl rfl 3 (by decide) mF_RX3_9 rfl rfl dX3_addRow_16 ?_
    refine lv_iconst (v := (1 : Int32)) hx hb dX3_addRow_19 (by decide) ?_
    refine lv_iadd hx hb dX3_addRow_20 ?_
    obtain ⟨u5, e6, hF⟩ := bnd_el hF
    refine kput (v := .int ((u.1 + (1 : Int32)))) (ty := .int) (w' := tbW t a cI cap cols L u5) Fc Z inX3 tyX3 tyX3_ok nmX3 0 rfl rfl 3 (by decide) mF_RX3_9 rfl rfl rfl rfl rfl (Nat.le_of_ble_eq_true rfl) (by rw [e6]; rfl) dX3_addRow_21 (fun H locs Z => ?_)
    have ok := tb_inc sh ok (by assumption) e6
    refine lv_iconst (v := (0 : Int32)) hx hb dX3_addRow_24 (by decide) ?_
    refine lv_istore_n (lv' := [(1, .int (0 : Int32)), (0, .ref t)]) hx hb dX3_addRow_25 rfl hl (by decide) rfl (fun ls hl => ?_)
    exact L26  FU (0 : Int32) u5 _ _ _ hF ok Z (lv_sub hl [1, 0] rfl)
  · rw [if_neg c4] at hF
    refine lv_bipush (v := (-3 : Int32)) hx hb dX3_addRow_11 (by decide) ?_
    exact kret _ _ _ _ _ _ ⟨(congrArg Prod.fst (Option.some.inj hF)), congrArg Prod.snd (Option.some.inj hF), trivial⟩ Z dX3_addRow_13
def X3_removeRow_L23 (cap cols L : Nat) (x2 : Int32) (K : Tab → Option (Tab)) : Nat → Int32 → Tab → Option (Tab)
  | 0, _, _ => none
  | k + 1, x3, u => if (nI cols) ≤ x3 then (K  u) else bnd (tput cols u ((x2 - (1 : Int32))) x3 (tget cols u x2 x3)) fun q2 => X3_removeRow_L23 cap cols L x2 K k ((x3 + (1 : Int32))) q2
def X3_removeRow_L13 (cap cols L : Nat) : Nat → Int32 → Tab → Option (Tab)
  | 0, _, _ => none
  | k + 1, x2, u => if u.1 ≤ x2 then (bnd ((u.1 - (1 : Int32)), u.2) fun u5 => some u5) else X3_removeRow_L23 cap cols L x2 (fun u1023 => X3_removeRow_L13 cap cols L k ((x2 + (1 : Int32))) u1023) FU (0 : Int32) u
def X3_removeRow (cap cols L : Nat) (u : Tab) (p1 : Int32) : Option (Tab) := if (bi (thas u p1)) = 0 then (some u) else X3_removeRow_L13 cap cols L FU ((p1 + (1 : Int32))) u
def rm_X3_removeRow : Room := { frames := 1, cells := 0, slots := 0, locals := 24 }
theorem v_X3_removeRow : WdV RX3 yX3_removeRow cX3_removeRow 4 none 1 := ⟨mI_X3_removeRow, mS_X3_removeRow, mZ_RX3, mC_X3_removeRow, by decide +kernel⟩
set_option maxHeartbeats 8000000 in
set_option maxRecDepth 100000 in
theorem m_X3_removeRow (l : Launch) (D : va_G) (cI cS : ClassId) (t a cap cols L : Nat) (sh : tbS cap cols L) (u : Tab) (ok : tbOK cap u) (p1 : Int32) (F : Tab) (hF : X3_removeRow cap cols L u p1 = some F) : MV l yX3_removeRow cX3_removeRow 4 rm_X3_removeRow D cI cS [.ref t, .int p1] (tbW t a cI cap cols L u) (tbW t a cI cap cols L) (fun u => u = F ∧ True) := by
  refine MV.mk RX3 rfl (by decide) (Nat.le_of_ble_eq_true rfl) ?_
  intro p e s m args below meth c A Q ls Fc hin hA Z kret hl
  obtain ⟨hx, hb, hml, hown, hts, hKN⟩ := id Fc
  replace hl : lv_has ls 4 [(0, .ref t), (1, .int p1)] := hl
  have L23 : ∀ (x2 : Int32) (K : Tab → Option (Tab)) (hK : ∀ (u : Tab) (H : Heap) (locs : List Loc) (ls : Array Slot), K  u = some F → tbOK cap u → Ix D A s (tbW t a cI cap cols L u) H locs → lv_has ls 4 [(0, .ref t), (2, .int x2)] → W p l e rm_X3_removeRow s m args below meth c H locs 0 0 Q (F0 m 51 ls [])) (k : Nat) (x3 : Int32) (u : Tab) (H : Heap) (locs : List Loc) (ls : Array Slot), X3_removeRow_L23 cap cols L x2 K  k x3 u = some F → tbOK cap u → Ix D A s (tbW t a cI cap cols L u) H locs → lv_has ls 4 [(0, .ref t), (2, .int x2), (3, .int x3)] → W p l e rm_X3_removeRow s m args below meth c H locs 0 0 Q (F0 m 23 ls []) := by
    intro x2 K hK k
    induction k with
    | zero => intro x3 u H locs ls hF; rw [X3_removeRow_L23] at hF; cases hF
    | succ k ih =>
      intro x3 u H locs ls hF ok Z hl
      rw [X3_removeRow_L23] at hF
      refine lv_iload_n hx hb dX3_removeRow_23 rfl (lv_at hl 2 rfl) ?_
      refine lv_aload_n hx hb dX3_removeRow_24 rfl (lv_at hl 0 rfl) ?_
      refine kget Fc Z inX3 0 rfl rfl 1 (by decide) mF_RX3_18 rfl rfl dX3_removeRow_25 ?_
      refine lv_icmp_ge (tgt := 51) hx hb dX3_removeRow_28 (by decide) (fun c1 => ?_) (fun c1 => ?_)
      · rw [if_pos c1] at hF
        exact hK  u _ _ _ hF ok Z (lv_sub hl [0, 1] rfl)
      · rw [if_neg c1] at hF
        refine lv_aload_n hx hb dX3_removeRow_31 rfl (lv_at hl 0 rfl) ?_
        refine lv_iload_n hx hb dX3_removeRow_32 rfl (lv_at hl 1 rfl) ?_
        refine lv_iconst (v := (1 : Int32)) hx hb dX3_removeRow_33 (by decide) ?_
        refine lv_isub hx hb dX3_removeRow_34 ?_
        refine lv_iload_n hx hb dX3_removeRow_35 rfl (lv_at hl 2 rfl) ?_
        refine lv_aload_n hx hb dX3_removeRow_36 rfl (lv_at hl 0 rfl) ?_
        refine lv_iload_n hx hb dX3_removeRow_37 rfl (lv_at hl 1 rfl) ?_
        refine lv_iload_n hx hb dX3_removeRow_38 rfl (lv_at hl 2 rfl) ?_
        refine kr_i (As := [.int x2, .int x3]) Fc hA Z Lens.all (c_X3_get l D cI cS t a cap cols L sh u ok x2 x3 (tget cols u x2 x3) rfl) mL_RX3_39 v_X3_get ⟨rfl, rfl⟩ ⟨Nat.le_of_ble_eq_true rfl, Nat.le_of_ble_eq_true rfl⟩ ⟨Nat.zero_le _, Nat.zero_le _⟩ 0 3 rfl rfl rfl hl (Nat.le_of_ble_eq_true rfl) dX3_removeRow_39 rfl (fun H locs Z => ?_)
        obtain ⟨q2, e3, hF⟩ := bnd_el hF
        refine kv_i (As := [.int ((x2 - (1 : Int32))), .int x3, .int (tget cols u x2 x3)]) (ok := tbOK cap) Fc hA Z Lens.all (c_X3_put l D cI cS t a cap cols L sh u ok ((x2 - (1 : Int32))) x3 (tget cols u x2 x3) q2 e3.symm) mL_RX3_31 v_X3_put ⟨rfl, rfl⟩ ⟨Nat.le_of_ble_eq_true rfl, Nat.le_of_ble_eq_true rfl⟩ ⟨Nat.zero_le _, Nat.zero_le _⟩ 0 3 rfl rfl rfl hl (Nat.le_of_ble_eq_true rfl) dX3_removeRow_42 rfl (fun H locs ok1 Z => ?_)
        have ok := ok1
        refine lv_iinc (v := (x3 + (1 : Int32))) (lv' := [(3, .int (x3 + (1 : Int32))), (0, .ref t), (2, .int x2)]) hx hb dX3_removeRow_45 hl (k := 2) rfl (by rfl) (by decide) rfl (fun ls hl => ?_)
        refine lv_goto (tgt := 23) hx hb dX3_removeRow_48 (by decide) ?_
        exact ih ((x3 + (1 : Int32))) q2 _ _ _ hF ok Z (lv_sub hl [1, 2, 0] rfl)
  have L13 : ∀ (k : Nat) (x2 : Int32) (u : Tab) (H : Heap) (locs : List Loc) (ls : Array Slot), X3_removeRow_L13 cap cols L  k x2 u = some F → tbOK cap u → Ix D A s (tbW t a cI cap cols L u) H locs → lv_has ls 4 [(0, .ref t), (2, .int x2)] → W p l e rm_X3_removeRow s m args below meth c H locs 0 0 Q (F0 m 13 ls []) := by
    intro k
    induction k with
    | zero => intro x2 u H locs ls hF; rw [X3_removeRow_L13] at hF; cases hF
    | succ k ih =>
      intro x2 u H locs ls hF ok Z hl
      rw [X3_removeRow_L13] at hF
      refine lv_iload_n hx hb dX3_removeRow_13 rfl (lv_at hl 1 rfl) ?_
      refine lv_aload_n hx hb dX3_removeRow_14 rfl (lv_at hl 0 rfl) ?_
      refine kget Fc Z inX3 0 rfl rfl 3 (by decide) mF_RX3_9 rfl rfl dX3_removeRow_15 ?_
      refine lv_icmp_ge (tgt := 57) hx hb dX3_removeRow_18 (by decide) (fun c4 => ?_) (fun c4 => ?_)
      · rw [if_pos c4] at hF
        refine lv_aload_n hx hb dX3_removeRow_57 rfl (lv_at hl 0 rfl) ?_
        refine lv_dup hx hb dX3_removeRow_58 rfl ?_
        refine kget Fc Z inX3 0 rfl rfl 3 (by decide) mF_RX3_9 rfl rfl dX3_removeRow_59 ?_
        refine lv_iconst (v := (1 : Int32)) hx hb dX3_removeRow_62 (by decide) ?_
        refine lv_isub hx hb dX3_removeRow_63 ?_
        obtain ⟨u5, e6, hF⟩ := bnd_el hF
        refine kput (v := .int ((u.1 - (1 : Int32)))) (ty := .int) (w' := tbW t a cI cap cols L u5) Fc Z inX3 tyX3 tyX3_ok nmX3 0 rfl rfl 3 (by decide) mF_RX3_9 rfl rfl rfl rfl rfl (Nat.le_of_ble_eq_true rfl) (by rw [e6]; rfl) dX3_removeRow_64 (fun H locs Z => ?_)
        exact kret _ _ _ _ _ ⟨(Option.some.inj hF), trivial⟩ Z dX3_removeRow_67
      · rw [if_neg c4] at hF
        refine lv_iconst (v := (0 : Int32)) hx hb dX3_removeRow_21 (by decide) ?_
        refine lv_istore_n (lv' := [(3, .int (0 : Int32)), (0, .ref t), (2, .int x2)]) hx hb dX3_removeRow_22 rfl hl (by decide) rfl (fun ls hl => ?_)
        refine L23 x2 _ ?_ _ (0 : Int32) u _ _ _ hF ok Z (lv_sub hl [1, 2, 0] rfl)
        intro u1023 H locs ls hF ok Z hl
        refine lv_iinc (v := (x2 + (1 : Int32))) (lv' := [(2, .int (x2 + (1 : Int32))), (0, .ref t)]) hx hb dX3_removeRow_51 hl (k := 1) rfl (by rfl) (by decide) rfl (fun ls hl => ?_)
        refine lv_goto (tgt := 13) hx hb dX3_removeRow_54 (by decide) ?_
        exact ih ((x2 + (1 : Int32))) u1023 _ _ _ hF ok Z (lv_sub hl [1, 0] rfl)
  unfold X3_removeRow at hF
  refine lv_aload_n hx hb dX3_removeRow_0 rfl (lv_at hl 0 rfl) ?_
  refine lv_iload_n hx hb dX3_removeRow_1 rfl (lv_at hl 1 rfl) ?_
  refine kr_i (As := [.int p1]) Fc hA Z Lens.all (c_X3_has l D cI cS t a cap cols L sh u ok p1 (thas u p1) rfl) mL_RX3_35 v_X3_has ⟨rfl, rfl⟩ ⟨Nat.le_of_ble_eq_true rfl, Nat.le_of_ble_eq_true rfl⟩ ⟨Nat.zero_le _, Nat.zero_le _⟩ 0 3 rfl rfl rfl hl (Nat.le_of_ble_eq_true rfl) dX3_removeRow_2 rfl (fun H locs Z => ?_)
  refine lv_if_ne (tgt := 9) hx hb dX3_removeRow_5 (by decide) (fun c7 => ?_) (fun c7 => ?_)
  · rw [if_neg c7] at hF
    refine lv_iload_n hx hb dX3_removeRow_9 rfl (lv_at hl 1 rfl) ?_
    refine lv_iconst (v := (1 : Int32)) hx hb dX3_removeRow_10 (by decide) ?_
    refine lv_iadd hx hb dX3_removeRow_11 ?_
    refine lv_istore_n (lv' := [(2, .int (p1 + (1 : Int32))), (0, .ref t), (1, .int p1)]) hx hb dX3_removeRow_12 rfl hl (by decide) rfl (fun ls hl => ?_)
    exact L13  FU ((p1 + (1 : Int32))) u _ _ _ hF ok Z (lv_sub hl [1, 0] rfl)
  · rw [if_pos c7] at hF
    exact kret _ _ _ _ _ ⟨(Option.some.inj hF), trivial⟩ Z dX3_removeRow_8
