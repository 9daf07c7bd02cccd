/-! THE CLASS: methods over the state that is now -/
def X4_waitingBefore_L5 (τ : St) (x1 : Int32) (x2 : Int32) : Nat → Int32 → Int32 → Option (Int32)
  | 0, _, _ => none
  | k + 1, x3, x4 => if x1 ≤ x4 then (some x3) else if (bi (X4_isWaiting τ x4 x2)) = 0 then (X4_waitingBefore_L5 τ x1 x2 k x3 ((x4 + (1 : Int32)))) else X4_waitingBefore_L5 τ x1 x2 k ((x3 + (1 : Int32))) ((x4 + (1 : Int32)))
def X4_waitingBefore (τ : St) (p1 p2 : Int32) : Option (Int32) := X4_waitingBefore_L5 τ p1 p2 FU (0 : Int32) (0 : Int32)
def rm_X4_waitingBefore : Room := { frames := 2, cells := 0, slots := 0, locals := 45 }
theorem v_X4_waitingBefore : WdV RX4 yX4_waitingBefore cX4_waitingBefore 5 (some .int) 2 := ⟨mI_X4_waitingBefore, mS_X4_waitingBefore, mZ_RX4, mC_X4_waitingBefore, by decide +kernel⟩
set_option maxHeartbeats 8000000 in
set_option maxRecDepth 100000 in
theorem c_X4_waitingBefore (l : Launch) (D : va_G) (cI cS : ClassId) (ad : Nat → Nat) (hs : Bool) (τ : St) (ok : OK τ) (p1 p2 : Int32) (F : Int32) (hF : X4_waitingBefore τ p1 p2 = some F) : MI l yX4_waitingBefore cX4_waitingBefore 5 (some .int) rm_X4_waitingBefore D cI cS [.ref (ad 0), .int p1, .int p2] (cW ad cI hs τ) (cW ad cI hs) (fun r u' => r = F ∧ u' = τ) := by
  refine MI.mk RX4 rfl .int rfl (by decide) (Nat.le_of_ble_eq_true rfl) (fun _ _ _ => rfl) ?_
  intro p e s m args below meth c A Q ls Fc hin hA Z kret hl
  obtain ⟨hx, hb, hml, hown, hts, hKN⟩ := id Fc
  replace hl : lv_has ls 5 [(0, .ref (ad 0)), (1, .int p1), (2, .int p2)] := hl
  replace Z := Z.anil
  have L5 : ∀ (x1 : Int32) (x2 : Int32) (k : Nat) (x3 : Int32) (x4 : Int32) (H : Heap) (locs : List Loc) (ls : Array Slot), X4_waitingBefore_L5 τ x1 x2  k x3 x4 = some F → OK τ → Ix D A s (cW ad cI hs τ ++ []) H locs → lv_has ls 5 [(0, .ref (ad 0)), (1, .int x1), (2, .int x2), (3, .int x3), (4, .int x4)] → W p l e rm_X4_waitingBefore s m args below meth c H locs 0 0 Q (F0 m 5 ls []) := by
    intro x1 x2 k
    induction k with
    | zero => intro x3 x4 H locs ls hF; rw [X4_waitingBefore_L5] at hF; cases hF
    | succ k ih =>
      intro x3 x4 H locs ls hF ok Z hl
      rw [X4_waitingBefore_L5] at hF
      refine lv_iload hx hb dX4_waitingBefore_5 (lv_at hl 4 rfl) ?_
      refine lv_iload_n hx hb dX4_waitingBefore_7 rfl (lv_at hl 1 rfl) ?_
      refine lv_icmp_ge (tgt := 30) hx hb dX4_waitingBefore_8 (by decide) (fun c1 => ?_) (fun c1 => ?_)
      · rw [if_pos c1] at hF
        refine lv_iload_n hx hb dX4_waitingBefore_30 rfl (lv_at hl 3 rfl) ?_
        exact kret x3 τ _ _ _ _ ⟨(Option.some.inj hF), rfl⟩ Z.nila dX4_waitingBefore_31
      · rw [if_neg c1] at hF
        refine lv_aload_n hx hb dX4_waitingBefore_11 rfl (lv_at hl 0 rfl) ?_
        refine lv_iload hx hb dX4_waitingBefore_12 (lv_at hl 4 rfl) ?_
        refine lv_iload_n hx hb dX4_waitingBefore_14 rfl (lv_at hl 2 rfl) ?_
        refine kr_i (As := [.int x4, .int x2]) Fc hA Z (Lens.tail []) (c_X4_isWaiting l D cI cS ad hs τ ok x4 x2 (X4_isWaiting τ x4 x2) rfl) mL_RX4_314 v_X4_isWaiting ⟨rfl, rfl⟩ ⟨Nat.le_of_ble_eq_true rfl, Nat.le_of_ble_eq_true rfl⟩ ⟨Nat.zero_le _, Nat.zero_le _⟩ 0 4 rfl rfl rfl hl (Nat.le_of_ble_eq_true rfl) dX4_waitingBefore_15 rfl (fun H locs Z => ?_)
        refine lv_if_eq (tgt := 24) hx hb dX4_waitingBefore_18 (by decide) (fun c2 => ?_) (fun c2 => ?_)
        · rw [if_pos c2] at hF
          refine lv_iinc (v := (x4 + (1 : Int32))) (lv' := [(4, .int (x4 + (1 : Int32))), (0, .ref (ad 0)), (1, .int x1), (2, .int x2), (3, .int x3)]) hx hb dX4_waitingBefore_24 hl (k := 4) rfl (by rfl) (by decide) rfl (fun ls hl => ?_)
          refine lv_goto (tgt := 5) hx hb dX4_waitingBefore_27 (by decide) ?_
          exact ih x3 ((x4 + (1 : Int32))) _ _ _ hF ok Z (lv_sub hl [1, 2, 3, 4, 0] rfl)
        · rw [if_neg c2] at hF
          refine lv_iinc (v := (x3 + (1 : Int32))) (lv' := [(3, .int (x3 + (1 : Int32))), (0, .ref (ad 0)), (1, .int x1), (2, .int x2), (4, .int x4)]) hx hb dX4_waitingBefore_21 hl (k := 3) rfl (by rfl) (by decide) rfl (fun ls hl => ?_)
          refine lv_iinc (v := (x4 + (1 : Int32))) (lv' := [(4, .int (x4 + (1 : Int32))), (3, .int (x3 + (1 : Int32))), (0, .ref (ad 0)), (1, .int x1), (2, .int x2)]) hx hb dX4_waitingBefore_24 hl (k := 4) rfl (by rfl) (by decide) rfl (fun ls hl => ?_)
          refine lv_goto (tgt := 5) hx hb dX4_waitingBefore_27 (by decide) ?_
          exact ih ((x3 + (1 : Int32))) ((x4 + (1 : Int32))) _ _ _ hF ok Z (lv_sub hl [2, 3, 4, 1, 0] rfl)
  unfold X4_waitingBefore at hF
  refine lv_iconst (v := (0 : Int32)) hx hb dX4_waitingBefore_0 (by decide) ?_
  refine lv_istore_n (lv' := [(3, .int (0 : Int32)), (0, .ref (ad 0)), (1, .int p1), (2, .int p2)]) hx hb dX4_waitingBefore_1 rfl hl (by decide) rfl (fun ls hl => ?_)
  refine lv_iconst (v := (0 : Int32)) hx hb dX4_waitingBefore_2 (by decide) ?_
  refine lv_istore (lv' := [(4, .int (0 : Int32)), (3, .int (0 : Int32)), (0, .ref (ad 0)), (1, .int p1), (2, .int p2)]) hx hb dX4_waitingBefore_3 hl (by decide) rfl (fun ls hl => ?_)
  exact L5 p1 p2 FU (0 : Int32) (0 : Int32) _ _ _ hF ok Z (lv_sub hl [2, 3, 4, 1, 0] rfl)
def X4_estimate_L61 (τ : St) (x2 : Int32) (x4 : Int32) : Nat → Int32 → Option (Int32)
  | 0, _ => none
  | k + 1, x5 => if (τ.1 0).1 ≤ x5 then (some (-2 : Int32)) else if (X4_expectedDay τ x5 x2) = (-2 : Int32) then (X4_estimate_L61 τ x2 x4 k ((x5 + (1 : Int32)))) else (X4_expectedBefore τ (X4_expectedDay τ x5 x2) x5 x2).bind fun v3 => if v3 = x4 then (some (X4_expectedDay τ x5 x2)) else X4_estimate_L61 τ x2 x4 k ((x5 + (1 : Int32)))
def X4_estimate (τ : St) (p1 p2 : Int32) : Option (Int32) := if (bi (X4_isPatron τ p1)) = 0 then (some (-1 : Int32)) else if (bi (X4_isTitle p2)) = 0 then (some (-1 : Int32)) else (X4_findHold τ p1 p2).bind fun v8 => if v8 = (-2 : Int32) then (some (-2 : Int32)) else if (tget 4 (τ.1 2) v8 (2 : Int32)) = (-2 : Int32) then ((X4_waitingBefore τ v8 p2).bind fun v12 => X4_estimate_L61 τ p2 v12 FU (0 : Int32)) else some (-2 : Int32)
def rm_X4_estimate : Room := { frames := 4, cells := 0, slots := 0, locals := 93 }
theorem v_X4_estimate : WdV RX4 yX4_estimate cX4_estimate 7 (some .int) 2 := ⟨mI_X4_estimate, mS_X4_estimate, mZ_RX4, mC_X4_estimate, by decide +kernel⟩
set_option maxHeartbeats 8000000 in
set_option maxRecDepth 100000 in
theorem c_X4_estimate (l : Launch) (D : va_G) (cI cS : ClassId) (ad : Nat → Nat) (hs : Bool) (τ : St) (ok : OK τ) (p1 p2 : Int32) (F : Int32) (hF : X4_estimate τ p1 p2 = some F) : MI l yX4_estimate cX4_estimate 7 (some .int) rm_X4_estimate D cI cS [.ref (ad 0), .int p1, .int p2] (cW ad cI hs τ) (cW ad cI hs) (fun r u' => r = F ∧ u' = τ) := by
  refine MI.mk RX4 rfl .int rfl (by decide) (Nat.le_of_ble_eq_true rfl) (fun _ _ _ => rfl) ?_
  intro p e s m args below meth c A Q ls Fc hin hA Z kret hl
  obtain ⟨hx, hb, hml, hown, hts, hKN⟩ := id Fc
  replace hl : lv_has ls 7 [(0, .ref (ad 0)), (1, .int p1), (2, .int p2)] := hl
  replace Z := Z.anil
  have L61 : ∀ (x2 : Int32) (x4 : Int32) (k : Nat) (x5 : Int32) (H : Heap) (locs : List Loc) (ls : Array Slot), X4_estimate_L61 τ x2 x4  k x5 = some F → OK τ → Ix D A s (cW ad cI hs τ ++ []) H locs → lv_has ls 7 [(0, .ref (ad 0)), (2, .int x2), (4, .int x4), (5, .int x5)] → W p l e rm_X4_estimate s m args below meth c H locs 0 0 Q (F0 m 61 ls []) := by
    intro x2 x4 k
    induction k with
    | zero => intro x5 H locs ls hF; rw [X4_estimate_L61] at hF; cases hF
    | succ k ih =>
      intro x5 H locs ls hF ok Z hl
      rw [X4_estimate_L61] at hF
      refine lv_iload hx hb dX4_estimate_61 (lv_at hl 3 rfl) ?_
      refine lv_aload_n hx hb dX4_estimate_63 rfl (lv_at hl 0 rfl) ?_
      refine kget Fc Z inX4 0 rfl rfl 0 (by decide) mF_RX4_10 rfl rfl dX4_estimate_64 ?_
      refine kgetN Fc Z inX2 1 rfl rfl 0 (by decide) nw_RX4_47 rfl rfl dX4_estimate_67 ?_
      refine kr_i (As := []) Fc hA Z Lens.c0 (c_X3_size l D cI cS (ad 2) (ad 3) 20 12 (20 * 12) sh0 (τ.1 0) ok.1  (τ.1 0).1 rfl) mL_RX4_92 v_X3_size ⟨rfl, rfl⟩ ⟨Nat.le_of_ble_eq_true rfl, Nat.le_of_ble_eq_true rfl⟩ ⟨Nat.zero_le _, Nat.zero_le _⟩ 2 3 rfl rfl rfl hl (Nat.le_of_ble_eq_true rfl) dX4_estimate_70 rfl (fun H locs Z => ?_)
      refine lv_icmp_ge (tgt := 115) hx hb dX4_estimate_73 (by decide) (fun c1 => ?_) (fun c1 => ?_)
      · rw [if_pos c1] at hF
        refine lv_bipush (v := (-2 : Int32)) hx hb dX4_estimate_115 (by decide) ?_
        exact kret (-2 : Int32) τ _ _ _ _ ⟨(Option.some.inj hF), rfl⟩ Z.nila dX4_estimate_117
      · rw [if_neg c1] at hF
        refine lv_aload_n hx hb dX4_estimate_76 rfl (lv_at hl 0 rfl) ?_
        refine lv_iload hx hb dX4_estimate_77 (lv_at hl 3 rfl) ?_
        refine lv_iload_n hx hb dX4_estimate_79 rfl (lv_at hl 1 rfl) ?_
        refine kr_i (As := [.int x5, .int x2]) Fc hA Z (Lens.tail []) (c_X4_expectedDay l D cI cS ad hs τ ok x5 x2 (X4_expectedDay τ x5 x2) rfl) mL_RX4_216 v_X4_expectedDay ⟨rfl, rfl⟩ ⟨Nat.le_of_ble_eq_true rfl, Nat.le_of_ble_eq_true rfl⟩ ⟨Nat.zero_le _, Nat.zero_le _⟩ 0 4 rfl rfl rfl hl (Nat.le_of_ble_eq_true rfl) dX4_estimate_80 rfl (fun H locs Z => ?_)
        refine lv_istore (lv' := [(6, .int (X4_expectedDay τ x5 x2)), (0, .ref (ad 0)), (2, .int x2), (4, .int x4), (5, .int x5)]) hx hb dX4_estimate_83 hl (by decide) rfl (fun ls hl => ?_)
        refine lv_iload hx hb dX4_estimate_85 (lv_at hl 0 rfl) ?_
        refine lv_bipush (v := (-2 : Int32)) hx hb dX4_estimate_87 (by decide) ?_
        refine lv_icmp_eq (tgt := 109) hx hb dX4_estimate_89 (by decide) (fun c2 => ?_) (fun c2 => ?_)
        · rw [if_pos c2] at hF
          refine lv_iinc (v := (x5 + (1 : Int32))) (lv' := [(5, .int (x5 + (1 : Int32))), (6, .int (X4_expectedDay τ x5 x2)), (0, .ref (ad 0)), (2, .int x2), (4, .int x4)]) hx hb dX4_estimate_109 hl (k := 4) rfl (by rfl) (by decide) rfl (fun ls hl => ?_)
          refine lv_goto (tgt := 61) hx hb dX4_estimate_112 (by decide) ?_
          exact ih ((x5 + (1 : Int32))) _ _ _ hF ok Z (lv_sub hl [2, 3, 4, 0] rfl)
        · rw [if_neg c2] at hF
          refine lv_aload_n hx hb dX4_estimate_92 rfl (lv_at hl 1 rfl) ?_
          refine lv_iload hx hb dX4_estimate_93 (lv_at hl 0 rfl) ?_
          refine lv_iload hx hb dX4_estimate_95 (lv_at hl 4 rfl) ?_
          refine lv_iload_n hx hb dX4_estimate_97 rfl (lv_at hl 2 rfl) ?_
          obtain ⟨v3, h4, hF⟩ := obind hF
          refine kr_i (As := [.int (X4_expectedDay τ x5 x2), .int x5, .int x2]) Fc hA Z (Lens.tail []) (c_X4_expectedBefore l D cI cS ad hs τ ok (X4_expectedDay τ x5 x2) x5 x2 v3 h4) mL_RX4_219 v_X4_expectedBefore ⟨rfl, rfl⟩ ⟨Nat.le_of_ble_eq_true rfl, Nat.le_of_ble_eq_true rfl⟩ ⟨Nat.zero_le _, Nat.zero_le _⟩ 0 4 rfl rfl rfl hl (Nat.le_of_ble_eq_true rfl) dX4_estimate_98 rfl (fun H locs Z => ?_)
          refine lv_iload hx hb dX4_estimate_101 (lv_at hl 3 rfl) ?_
          refine lv_icmp_ne (tgt := 109) hx hb dX4_estimate_103 (by decide) (fun c5 => ?_) (fun c5 => ?_)
          · rw [if_neg c5] at hF
            refine lv_iinc (v := (x5 + (1 : Int32))) (lv' := [(5, .int (x5 + (1 : Int32))), (6, .int (X4_expectedDay τ x5 x2)), (0, .ref (ad 0)), (2, .int x2), (4, .int x4)]) hx hb dX4_estimate_109 hl (k := 4) rfl (by rfl) (by decide) rfl (fun ls hl => ?_)
            refine lv_goto (tgt := 61) hx hb dX4_estimate_112 (by decide) ?_
            exact ih ((x5 + (1 : Int32))) _ _ _ hF ok Z (lv_sub hl [2, 3, 4, 0] rfl)
          · rw [if_pos c5] at hF
            refine lv_iload hx hb dX4_estimate_106 (lv_at hl 0 rfl) ?_
            exact kret (X4_expectedDay τ x5 x2) τ _ _ _ _ ⟨(Option.some.inj hF), rfl⟩ Z.nila dX4_estimate_108
  unfold X4_estimate at hF
  refine lv_aload_n hx hb dX4_estimate_0 rfl (lv_at hl 0 rfl) ?_
  refine lv_iload_n hx hb dX4_estimate_1 rfl (lv_at hl 1 rfl) ?_
  refine kr_i (As := [.int p1]) Fc hA Z (Lens.tail []) (c_X4_isPatron l D cI cS ad hs τ ok p1 (X4_isPatron τ p1) rfl) mL_RX4_143 v_X4_isPatron ⟨rfl, rfl⟩ ⟨Nat.le_of_ble_eq_true rfl, Nat.le_of_ble_eq_true rfl⟩ ⟨Nat.zero_le _, Nat.zero_le _⟩ 0 4 rfl rfl rfl hl (Nat.le_of_ble_eq_true rfl) dX4_estimate_2 rfl (fun H locs Z => ?_)
  refine lv_if_eq (tgt := 15) hx hb dX4_estimate_5 (by decide) (fun c6 => ?_) (fun c6 => ?_)
  · rw [if_pos c6] at hF
    refine lv_iconst (v := (-1 : Int32)) hx hb dX4_estimate_15 (by decide) ?_
    exact kret (-1 : Int32) τ _ _ _ _ ⟨(Option.some.inj hF), rfl⟩ Z.nila dX4_estimate_16
  · rw [if_neg c6] at hF
    refine lv_iload_n hx hb dX4_estimate_8 rfl (lv_at hl 2 rfl) ?_
    refine ks_i (As := [.int p2]) Fc hA Z (c_X4_isTitle l D cI cS p2 (X4_isTitle p2) rfl) mL_RX4_40 v_X4_isTitle ⟨rfl, rfl⟩ ⟨Nat.le_of_ble_eq_true rfl, Nat.le_of_ble_eq_true rfl⟩ ⟨Nat.zero_le _, Nat.zero_le _⟩ rfl hl (Nat.le_of_ble_eq_true rfl) dX4_estimate_9 rfl (fun H locs Z => ?_)
    refine lv_if_ne (tgt := 17) hx hb dX4_estimate_12 (by decide) (fun c7 => ?_) (fun c7 => ?_)
    · rw [if_neg c7] at hF
      refine lv_aload_n hx hb dX4_estimate_17 rfl (lv_at hl 0 rfl) ?_
      refine lv_iload_n hx hb dX4_estimate_18 rfl (lv_at hl 1 rfl) ?_
      refine lv_iload_n hx hb dX4_estimate_19 rfl (lv_at hl 2 rfl) ?_
      obtain ⟨v8, h9, hF⟩ := obind hF
      refine kr_i (As := [.int p1, .int p2]) Fc hA Z (Lens.tail []) (c_X4_findHold l D cI cS ad hs τ ok p1 p2 v8 h9) mL_RX4_121 v_X4_findHold ⟨rfl, rfl⟩ ⟨Nat.le_of_ble_eq_true rfl, Nat.le_of_ble_eq_true rfl⟩ ⟨Nat.zero_le _, Nat.zero_le _⟩ 0 4 rfl rfl rfl hl (Nat.le_of_ble_eq_true rfl) dX4_estimate_20 rfl (fun H locs Z => ?_)
      refine lv_istore_n (lv' := [(3, .int v8), (0, .ref (ad 0)), (1, .int p1), (2, .int p2)]) hx hb dX4_estimate_23 rfl hl (by decide) rfl (fun ls hl => ?_)
      refine lv_iload_n hx hb dX4_estimate_24 rfl (lv_at hl 0 rfl) ?_
      refine lv_bipush (v := (-2 : Int32)) hx hb dX4_estimate_25 (by decide) ?_
      refine lv_icmp_eq (tgt := 47) hx hb dX4_estimate_27 (by decide) (fun c10 => ?_) (fun c10 => ?_)
      · rw [if_pos c10] at hF
        refine lv_bipush (v := (-2 : Int32)) hx hb dX4_estimate_47 (by decide) ?_
        exact kret (-2 : Int32) τ _ _ _ _ ⟨(Option.some.inj hF), rfl⟩ Z.nila dX4_estimate_49
      · rw [if_neg c10] at hF
        refine lv_aload_n hx hb dX4_estimate_30 rfl (lv_at hl 1 rfl) ?_
        refine kget Fc Z inX4 0 rfl rfl 0 (by decide) mF_RX4_10 rfl rfl dX4_estimate_31 ?_
        refine kgetN Fc Z inX2 1 rfl rfl 2 (by decide) nw_RX4_192 rfl rfl dX4_estimate_34 ?_
        refine lv_iload_n hx hb dX4_estimate_37 rfl (lv_at hl 0 rfl) ?_
        refine lv_iconst (v := (2 : Int32)) hx hb dX4_estimate_38 (by decide) ?_
        refine kr_i (As := [.int v8, .int (2 : Int32)]) Fc hA Z Lens.c2 (c_X3_get l D cI cS (ad 6) (ad 7) 24 4 (24 * 4) sh2 (τ.1 2) ok.2.2.1 v8 (2 : Int32) (tget 4 (τ.1 2) v8 (2 : Int32)) rfl) mL_RX4_88 v_X3_get ⟨rfl, rfl⟩ ⟨Nat.le_of_ble_eq_true rfl, Nat.le_of_ble_eq_true rfl⟩ ⟨Nat.zero_le _, Nat.zero_le _⟩ 6 3 rfl rfl rfl hl (Nat.le_of_ble_eq_true rfl) dX4_estimate_39 rfl (fun H locs Z => ?_)
        refine lv_bipush (v := (-2 : Int32)) hx hb dX4_estimate_42 (by decide) ?_
        refine lv_icmp_eq (tgt := 50) hx hb dX4_estimate_44 (by decide) (fun c11 => ?_) (fun c11 => ?_)
        · rw [if_pos c11] at hF
          refine lv_aload_n hx hb dX4_estimate_50 rfl (lv_at hl 1 rfl) ?_
          refine lv_iload_n hx hb dX4_estimate_51 rfl (lv_at hl 0 rfl) ?_
          refine lv_iload_n hx hb dX4_estimate_52 rfl (lv_at hl 3 rfl) ?_
          obtain ⟨v12, h13, hF⟩ := obind hF
          refine kr_i (As := [.int v8, .int p2]) Fc hA Z (Lens.tail []) (c_X4_waitingBefore l D cI cS ad hs τ ok v8 p2 v12 h13) mL_RX4_201 v_X4_waitingBefore ⟨rfl, rfl⟩ ⟨Nat.le_of_ble_eq_true rfl, Nat.le_of_ble_eq_true rfl⟩ ⟨Nat.zero_le _, Nat.zero_le _⟩ 0 4 rfl rfl rfl hl (Nat.le_of_ble_eq_true rfl) dX4_estimate_53 rfl (fun H locs Z => ?_)
          refine lv_istore (lv' := [(4, .int v12), (3, .int v8), (0, .ref (ad 0)), (1, .int p1), (2, .int p2)]) hx hb dX4_estimate_56 hl (by decide) rfl (fun ls hl => ?_)
          refine lv_iconst (v := (0 : Int32)) hx hb dX4_estimate_58 (by decide) ?_
          refine lv_istore (lv' := [(5, .int (0 : Int32)), (4, .int v12), (3, .int v8), (0, .ref (ad 0)), (1, .int p1), (2, .int p2)]) hx hb dX4_estimate_59 hl (by decide) rfl (fun ls hl => ?_)
          exact L61 p2 v12 FU (0 : Int32) _ _ _ hF ok Z (lv_sub hl [3, 5, 1, 0] rfl)
        · rw [if_neg c11] at hF
          refine lv_bipush (v := (-2 : Int32)) hx hb dX4_estimate_47 (by decide) ?_
          exact kret (-2 : Int32) τ _ _ _ _ ⟨(Option.some.inj hF), rfl⟩ Z.nila dX4_estimate_49
    · rw [if_pos c7] at hF
      refine lv_iconst (v := (-1 : Int32)) hx hb dX4_estimate_15 (by decide) ?_
      exact kret (-1 : Int32) τ _ _ _ _ ⟨(Option.some.inj hF), rfl⟩ Z.nila dX4_estimate_16
def X4_expireBeforeThisDay_L2 : Nat → Int32 → St → Option (St)
  | 0, _, _ => none
  | k + 1, x1, τ => if (τ.1 0).1 ≤ x1 then (some τ) else if (X4_stateOf τ x1) = (3 : Int32) then (if (tget 12 (τ.1 0) x1 (6 : Int32)) < τ.2 then ((X4_findHold τ ((tget 12 (τ.1 0) x1 (5 : Int32))) (X4_titleOf τ x1)).bind fun v4 => bnd (X4_removeHold τ v4) fun q6 => (X4_becomeFree q6 x1 ((tget 12 (q6.1 0) x1 (4 : Int32)))).bind fun q8 => X4_expireBeforeThisDay_L2 k ((x1 + (1 : Int32))) q8) else X4_expireBeforeThisDay_L2 k ((x1 + (1 : Int32))) τ) else X4_expireBeforeThisDay_L2 k ((x1 + (1 : Int32))) τ
def X4_expireBeforeThisDay (τ : St) : Option (St) := X4_expireBeforeThisDay_L2 FU (0 : Int32) τ
def rm_X4_expireBeforeThisDay : Room := { frames := 4, cells := 0, slots := 0, locals := 92 }
theorem v_X4_expireBeforeThisDay : WdV RX4 yX4_expireBeforeThisDay cX4_expireBeforeThisDay 2 none 0 := ⟨mI_X4_expireBeforeThisDay, mS_X4_expireBeforeThisDay, mZ_RX4, mC_X4_expireBeforeThisDay, by decide +kernel⟩
set_option maxHeartbeats 8000000 in
set_option maxRecDepth 100000 in
theorem c_X4_expireBeforeThisDay (l : Launch) (D : va_G) (cI cS : ClassId) (ad : Nat → Nat) (hs : Bool) (τ : St) (ok : OK τ) (F : St) (hF : X4_expireBeforeThisDay τ = some F) : MV l yX4_expireBeforeThisDay cX4_expireBeforeThisDay 2 rm_X4_expireBeforeThisDay D cI cS [.ref (ad 0)] (cW ad cI hs τ) (cW ad cI hs) (fun u => u = F ∧ OK u) := by
  refine MV.mk RX4 rfl (by decide) (Nat.le_of_ble_eq_true rfl) ?_
  intro p e s m args below meth c A Q ls Fc hin hA Z kret hl
  obtain ⟨hx, hb, hml, hown, hts, hKN⟩ := id Fc
  replace hl : lv_has ls 2 [(0, .ref (ad 0))] := hl
  replace Z := Z.anil
  have L2 : ∀ (k : Nat) (x1 : Int32) (τ : St) (H : Heap) (locs : List Loc) (ls : Array Slot), X4_expireBeforeThisDay_L2  k x1 τ = some F → OK τ → Ix D A s (cW ad cI hs τ ++ []) H locs → lv_has ls 2 [(0, .ref (ad 0)), (1, .int x1)] → W p l e rm_X4_expireBeforeThisDay s m args below meth c H locs 0 0 Q (F0 m 2 ls []) := by
    intro k
    induction k with
    | zero => intro x1 τ H locs ls hF; rw [X4_expireBeforeThisDay_L2] at hF; cases hF
    | succ k ih =>
      intro x1 τ H locs ls hF ok Z hl
      rw [X4_expireBeforeThisDay_L2] at hF
      refine lv_iload_n hx hb dX4_expireBeforeThisDay_2 rfl (lv_at hl 1 rfl) ?_
      refine lv_aload_n hx hb dX4_expireBeforeThisDay_3 rfl (lv_at hl 0 rfl) ?_
      refine kget Fc Z inX4 0 rfl rfl 0 (by decide) mF_RX4_10 rfl rfl dX4_expireBeforeThisDay_4 ?_
      refine kgetN Fc Z inX2 1 rfl rfl 0 (by decide) nw_RX4_47 rfl rfl dX4_expireBeforeThisDay_7 ?_
      refine kr_i (As := []) Fc hA Z Lens.c0 (c_X3_size l D cI cS (ad 2) (ad 3) 20 12 (20 * 12) sh0 (τ.1 0) ok.1  (τ.1 0).1 rfl) mL_RX4_92 v_X3_size ⟨rfl, rfl⟩ ⟨Nat.le_of_ble_eq_true rfl, Nat.le_of_ble_eq_true rfl⟩ ⟨Nat.zero_le _, Nat.zero_le _⟩ 2 3 rfl rfl rfl hl (Nat.le_of_ble_eq_true rfl) dX4_expireBeforeThisDay_10 rfl (fun H locs Z => ?_)
      refine lv_icmp_ge (tgt := 99) hx hb dX4_expireBeforeThisDay_13 (by decide) (fun c1 => ?_) (fun c1 => ?_)
      · rw [if_pos c1] at hF
        exact kret τ _ _ _ _ ⟨(Option.some.inj hF), ok⟩ Z.nila dX4_expireBeforeThisDay_99
      · rw [if_neg c1] at hF
        refine lv_aload_n hx hb dX4_expireBeforeThisDay_16 rfl (lv_at hl 0 rfl) ?_
        refine lv_iload_n hx hb dX4_expireBeforeThisDay_17 rfl (lv_at hl 1 rfl) ?_
        refine kr_i (As := [.int x1]) Fc hA Z (Lens.tail []) (c_X4_stateOf l D cI cS ad hs τ ok x1 (X4_stateOf τ x1) rfl) mL_RX4_95 v_X4_stateOf ⟨rfl, rfl⟩ ⟨Nat.le_of_ble_eq_true rfl, Nat.le_of_ble_eq_true rfl⟩ ⟨Nat.zero_le _, Nat.zero_le _⟩ 0 4 rfl rfl rfl hl (Nat.le_of_ble_eq_true rfl) dX4_expireBeforeThisDay_18 rfl (fun H locs Z => ?_)
        refine lv_iconst (v := (3 : Int32)) hx hb dX4_expireBeforeThisDay_21 (by decide) ?_
        refine lv_icmp_ne (tgt := 93) hx hb dX4_expireBeforeThisDay_22 (by decide) (fun c2 => ?_) (fun c2 => ?_)
        · rw [if_neg c2] at hF
          refine lv_iinc (v := (x1 + (1 : Int32))) (lv' := [(1, .int (x1 + (1 : Int32))), (0, .ref (ad 0))]) hx hb dX4_expireBeforeThisDay_93 hl (k := 1) rfl (by rfl) (by decide) rfl (fun ls hl => ?_)
          refine lv_goto (tgt := 2) hx hb dX4_expireBeforeThisDay_96 (by decide) ?_
          exact ih ((x1 + (1 : Int32))) τ _ _ _ hF ok Z (lv_sub hl [1, 0] rfl)
        · rw [if_pos c2] at hF
          refine lv_aload_n hx hb dX4_expireBeforeThisDay_25 rfl (lv_at hl 0 rfl) ?_
          refine kget Fc Z inX4 0 rfl rfl 0 (by decide) mF_RX4_10 rfl rfl dX4_expireBeforeThisDay_26 ?_
          refine kgetN Fc Z inX2 1 rfl rfl 0 (by decide) nw_RX4_47 rfl rfl dX4_expireBeforeThisDay_29 ?_
          refine lv_iload_n hx hb dX4_expireBeforeThisDay_32 rfl (lv_at hl 1 rfl) ?_
          refine lv_bipush (v := (6 : Int32)) hx hb dX4_expireBeforeThisDay_33 (by decide) ?_
          refine kr_i (As := [.int x1, .int (6 : Int32)]) Fc hA Z Lens.c0 (c_X3_get l D cI cS (ad 2) (ad 3) 20 12 (20 * 12) sh0 (τ.1 0) ok.1 x1 (6 : Int32) (tget 12 (τ.1 0) x1 (6 : Int32)) rfl) mL_RX4_88 v_X3_get ⟨rfl, rfl⟩ ⟨Nat.le_of_ble_eq_true rfl, Nat.le_of_ble_eq_true rfl⟩ ⟨Nat.zero_le _, Nat.zero_le _⟩ 2 3 rfl rfl rfl hl (Nat.le_of_ble_eq_true rfl) dX4_expireBeforeThisDay_35 rfl (fun H locs Z => ?_)
          refine lv_aload_n hx hb dX4_expireBeforeThisDay_38 rfl (lv_at hl 0 rfl) ?_
          refine kget Fc Z inX4 0 rfl rfl 0 (by decide) mF_RX4_10 rfl rfl dX4_expireBeforeThisDay_39 ?_
          refine kgetN Fc Z inX2 1 rfl rfl 5 (by decide) nw_RX4_98 rfl rfl dX4_expireBeforeThisDay_42 ?_
          refine lv_icmp_lt (tgt := 51) hx hb dX4_expireBeforeThisDay_45 (by decide) (fun c3 => ?_) (fun c3 => ?_)
          · rw [if_pos c3] at hF
            refine lv_aload_n hx hb dX4_expireBeforeThisDay_51 rfl (lv_at hl 0 rfl) ?_
            refine lv_aload_n hx hb dX4_expireBeforeThisDay_52 rfl (lv_at hl 0 rfl) ?_
            refine lv_aload_n hx hb dX4_expireBeforeThisDay_53 rfl (lv_at hl 0 rfl) ?_
            refine kget Fc Z inX4 0 rfl rfl 0 (by decide) mF_RX4_10 rfl rfl dX4_expireBeforeThisDay_54 ?_
            refine kgetN Fc Z inX2 1 rfl rfl 0 (by decide) nw_RX4_47 rfl rfl dX4_expireBeforeThisDay_57 ?_
            refine lv_iload_n hx hb dX4_expireBeforeThisDay_60 rfl (lv_at hl 1 rfl) ?_
            refine lv_iconst (v := (5 : Int32)) hx hb dX4_expireBeforeThisDay_61 (by decide) ?_
            refine kr_i (As := [.int x1, .int (5 : Int32)]) Fc hA Z Lens.c0 (c_X3_get l D cI cS (ad 2) (ad 3) 20 12 (20 * 12) sh0 (τ.1 0) ok.1 x1 (5 : Int32) (tget 12 (τ.1 0) x1 (5 : Int32)) rfl) mL_RX4_88 v_X3_get ⟨rfl, rfl⟩ ⟨Nat.le_of_ble_eq_true rfl, Nat.le_of_ble_eq_true rfl⟩ ⟨Nat.zero_le _, Nat.zero_le _⟩ 2 3 rfl rfl rfl hl (Nat.le_of_ble_eq_true rfl) dX4_expireBeforeThisDay_62 rfl (fun H locs Z => ?_)
            refine lv_aload_n hx hb dX4_expireBeforeThisDay_65 rfl (lv_at hl 0 rfl) ?_
            refine lv_iload_n hx hb dX4_expireBeforeThisDay_66 rfl (lv_at hl 1 rfl) ?_
            refine kr_i (As := [.int x1]) Fc hA Z (Lens.tail []) (c_X4_titleOf l D cI cS ad hs τ ok x1 (X4_titleOf τ x1) rfl) mL_RX4_118 v_X4_titleOf ⟨rfl, rfl⟩ ⟨Nat.le_of_ble_eq_true rfl, Nat.le_of_ble_eq_true rfl⟩ ⟨Nat.zero_le _, Nat.zero_le _⟩ 0 4 rfl rfl rfl hl (Nat.le_of_ble_eq_true rfl) dX4_expireBeforeThisDay_67 rfl (fun H locs Z => ?_)
            obtain ⟨v4, h5, hF⟩ := obind hF
            refine kr_i (As := [.int ((tget 12 (τ.1 0) x1 (5 : Int32))), .int (X4_titleOf τ x1)]) Fc hA Z (Lens.tail []) (c_X4_findHold l D cI cS ad hs τ ok ((tget 12 (τ.1 0) x1 (5 : Int32))) (X4_titleOf τ x1) v4 h5) mL_RX4_121 v_X4_findHold ⟨rfl, rfl⟩ ⟨Nat.le_of_ble_eq_true rfl, Nat.le_of_ble_eq_true rfl⟩ ⟨Nat.zero_le _, Nat.zero_le _⟩ 0 4 rfl rfl rfl hl (Nat.le_of_ble_eq_true rfl) dX4_expireBeforeThisDay_70 rfl (fun H locs Z => ?_)
            obtain ⟨q6, e7, hF⟩ := bnd_el hF
            refine kv_i (As := [.int v4]) (ok := OK) Fc hA Z (Lens.tail []) (c_X4_removeHold l D cI cS ad hs τ ok v4 q6 e7.symm) mL_RX4_124 v_X4_removeHold ⟨rfl, rfl⟩ ⟨Nat.le_of_ble_eq_true rfl, Nat.le_of_ble_eq_true rfl⟩ ⟨Nat.zero_le _, Nat.zero_le _⟩ 0 4 rfl rfl rfl hl (Nat.le_of_ble_eq_true rfl) dX4_expireBeforeThisDay_73 rfl (fun H locs ok1 Z => ?_)
            have ok := ok1
            refine lv_aload_n hx hb dX4_expireBeforeThisDay_76 rfl (lv_at hl 0 rfl) ?_
            refine lv_iload_n hx hb dX4_expireBeforeThisDay_77 rfl (lv_at hl 1 rfl) ?_
            refine lv_aload_n hx hb dX4_expireBeforeThisDay_78 rfl (lv_at hl 0 rfl) ?_
            refine kget Fc Z inX4 0 rfl rfl 0 (by decide) mF_RX4_10 rfl rfl dX4_expireBeforeThisDay_79 ?_
            refine kgetN Fc Z inX2 1 rfl rfl 0 (by decide) nw_RX4_47 rfl rfl dX4_expireBeforeThisDay_82 ?_
            refine lv_iload_n hx hb dX4_expireBeforeThisDay_85 rfl (lv_at hl 1 rfl) ?_
            refine lv_iconst (v := (4 : Int32)) hx hb dX4_expireBeforeThisDay_86 (by decide) ?_
            refine kr_i (As := [.int x1, .int (4 : Int32)]) Fc hA Z Lens.c0 (c_X3_get l D cI cS (ad 2) (ad 3) 20 12 (20 * 12) sh0 (q6.1 0) ok.1 x1 (4 : Int32) (tget 12 (q6.1 0) x1 (4 : Int32)) rfl) mL_RX4_88 v_X3_get ⟨rfl, rfl⟩ ⟨Nat.le_of_ble_eq_true rfl, Nat.le_of_ble_eq_true rfl⟩ ⟨Nat.zero_le _, Nat.zero_le _⟩ 2 3 rfl rfl rfl hl (Nat.le_of_ble_eq_true rfl) dX4_expireBeforeThisDay_87 rfl (fun H locs Z => ?_)
            obtain ⟨q8, h9, hF⟩ := obind hF
            refine kv_i (As := [.int x1, .int ((tget 12 (q6.1 0) x1 (4 : Int32)))]) (ok := OK) Fc hA Z (Lens.tail []) (c_X4_becomeFree l D cI cS ad hs q6 ok x1 ((tget 12 (q6.1 0) x1 (4 : Int32))) q8 h9) mL_RX4_61 v_X4_becomeFree ⟨rfl, rfl⟩ ⟨Nat.le_of_ble_eq_true rfl, Nat.le_of_ble_eq_true rfl⟩ ⟨Nat.zero_le _, Nat.zero_le _⟩ 0 4 rfl rfl rfl hl (Nat.le_of_ble_eq_true rfl) dX4_expireBeforeThisDay_90 rfl (fun H locs ok1 Z => ?_)
            have ok := ok1
            refine lv_iinc (v := (x1 + (1 : Int32))) (lv' := [(1, .int (x1 + (1 : Int32))), (0, .ref (ad 0))]) hx hb dX4_expireBeforeThisDay_93 hl (k := 1) rfl (by rfl) (by decide) rfl (fun ls hl => ?_)
            refine lv_goto (tgt := 2) hx hb dX4_expireBeforeThisDay_96 (by decide) ?_
            exact ih ((x1 + (1 : Int32))) q8 _ _ _ hF ok Z (lv_sub hl [1, 0] rfl)
          · rw [if_neg c3] at hF
            refine lv_goto (tgt := 93) hx hb dX4_expireBeforeThisDay_48 (by decide) ?_
            refine lv_iinc (v := (x1 + (1 : Int32))) (lv' := [(1, .int (x1 + (1 : Int32))), (0, .ref (ad 0))]) hx hb dX4_expireBeforeThisDay_93 hl (k := 1) rfl (by rfl) (by decide) rfl (fun ls hl => ?_)
            refine lv_goto (tgt := 2) hx hb dX4_expireBeforeThisDay_96 (by decide) ?_
            exact ih ((x1 + (1 : Int32))) τ _ _ _ hF ok Z (lv_sub hl [1, 0] rfl)
  unfold X4_expireBeforeThisDay at hF
  refine lv_iconst (v := (0 : Int32)) hx hb dX4_expireBeforeThisDay_0 (by decide) ?_
  refine lv_istore_n (lv' := [(1, .int (0 : Int32)), (0, .ref (ad 0))]) hx hb dX4_expireBeforeThisDay_1 rfl hl (by decide) rfl (fun ls hl => ?_)
  exact L2  FU (0 : Int32) τ _ _ _ hF ok Z (lv_sub hl [1, 0] rfl)
def X4_isWithPatron (τ : St) (p1 : Int32) : Bool := if (X4_stateOf τ p1) = (1 : Int32) then (true) else if (X4_stateOf τ p1) = (4 : Int32) then (true) else if (X4_stateOf τ p1) = (5 : Int32) then (true) else false
def rm_X4_isWithPatron : Room := { frames := 2, cells := 0, slots := 0, locals := 44 }
theorem v_X4_isWithPatron : WdV RX4 yX4_isWithPatron cX4_isWithPatron 3 (some .boolean) 1 := ⟨mI_X4_isWithPatron, mS_X4_isWithPatron, mZ_RX4, mC_X4_isWithPatron, by decide +kernel⟩
set_option maxHeartbeats 8000000 in
set_option maxRecDepth 100000 in
theorem c_X4_isWithPatron (l : Launch) (D : va_G) (cI cS : ClassId) (ad : Nat → Nat) (hs : Bool) (τ : St) (ok : OK τ) (p1 : Int32) (F : Bool) (hF : X4_isWithPatron τ p1 = F) : MI l yX4_isWithPatron cX4_isWithPatron 3 (some .boolean) rm_X4_isWithPatron D cI cS [.ref (ad 0), .int p1] (cW ad cI hs τ) (cW ad cI hs) (fun r u' => r = bi F ∧ u' = τ) := by
  refine MI.mk RX4 rfl .boolean rfl (by decide) (Nat.le_of_ble_eq_true rfl) (fun r u h => by rw [h.1]; exact bi_nar _) ?_
  intro p e s m args below meth c A Q ls Fc hin hA Z kret hl
  obtain ⟨hx, hb, hml, hown, hts, hKN⟩ := id Fc
  replace hl : lv_has ls 3 [(0, .ref (ad 0)), (1, .int p1)] := hl
  replace Z := Z.anil
  unfold X4_isWithPatron at hF
  refine lv_aload_n hx hb dX4_isWithPatron_0 rfl (lv_at hl 0 rfl) ?_
  refine lv_iload_n hx hb dX4_isWithPatron_1 rfl (lv_at hl 1 rfl) ?_
  refine kr_i (As := [.int p1]) Fc hA Z (Lens.tail []) (c_X4_stateOf l D cI cS ad hs τ ok p1 (X4_stateOf τ p1) rfl) mL_RX4_95 v_X4_stateOf ⟨rfl, rfl⟩ ⟨Nat.le_of_ble_eq_true rfl, Nat.le_of_ble_eq_true rfl⟩ ⟨Nat.zero_le _, Nat.zero_le _⟩ 0 4 rfl rfl rfl hl (Nat.le_of_ble_eq_true rfl) dX4_isWithPatron_2 rfl (fun H locs Z => ?_)
  refine lv_istore_n (lv' := [(2, .int (X4_stateOf τ p1)), (0, .ref (ad 0)), (1, .int p1)]) hx hb dX4_isWithPatron_5 rfl hl (by decide) rfl (fun ls hl => ?_)
  refine lv_iload_n hx hb dX4_isWithPatron_6 rfl (lv_at hl 0 rfl) ?_
  refine lv_iconst (v := (1 : Int32)) hx hb dX4_isWithPatron_7 (by decide) ?_
  refine lv_icmp_eq (tgt := 21) hx hb dX4_isWithPatron_8 (by decide) (fun c1 => ?_) (fun c1 => ?_)
  · rw [if_pos c1] at hF
    refine lv_iconst (v := (1 : Int32)) hx hb dX4_isWithPatron_21 (by decide) ?_
    refine lv_goto (tgt := 26) hx hb dX4_isWithPatron_22 (by decide) ?_
    exact kret (1 : Int32) τ _ _ _ _ ⟨(congrArg bi hF), rfl⟩ Z.nila dX4_isWithPatron_26
  · rw [if_neg c1] at hF
    refine lv_iload_n hx hb dX4_isWithPatron_11 rfl (lv_at hl 0 rfl) ?_
    refine lv_iconst (v := (4 : Int32)) hx hb dX4_isWithPatron_12 (by decide) ?_
    refine lv_icmp_eq (tgt := 21) hx hb dX4_isWithPatron_13 (by decide) (fun c2 => ?_) (fun c2 => ?_)
    · rw [if_pos c2] at hF
      refine lv_iconst (v := (1 : Int32)) hx hb dX4_isWithPatron_21 (by decide) ?_
      refine lv_goto (tgt := 26) hx hb dX4_isWithPatron_22 (by decide) ?_
      exact kret (1 : Int32) τ _ _ _ _ ⟨(congrArg bi hF), rfl⟩ Z.nila dX4_isWithPatron_26
    · rw [if_neg c2] at hF
      refine lv_iload_n hx hb dX4_isWithPatron_16 rfl (lv_at hl 0 rfl) ?_
      refine lv_iconst (v := (5 : Int32)) hx hb dX4_isWithPatron_17 (by decide) ?_
      refine lv_icmp_ne (tgt := 25) hx hb dX4_isWithPatron_18 (by decide) (fun c3 => ?_) (fun c3 => ?_)
      · rw [if_neg c3] at hF
        refine lv_iconst (v := (0 : Int32)) hx hb dX4_isWithPatron_25 (by decide) ?_
        exact kret (0 : Int32) τ _ _ _ _ ⟨(congrArg bi hF), rfl⟩ Z.nila dX4_isWithPatron_26
      · rw [if_pos c3] at hF
        refine lv_iconst (v := (1 : Int32)) hx hb dX4_isWithPatron_21 (by decide) ?_
        refine lv_goto (tgt := 26) hx hb dX4_isWithPatron_22 (by decide) ?_
        exact kret (1 : Int32) τ _ _ _ _ ⟨(congrArg bi hF), rfl⟩ Z.nila dX4_isWithPatron_26
def X4_fine (τ : St) (p1 : Int32) : Int32 := if (bi (X4_isCopy τ p1)) = 0 then ((-1 : Int32)) else if (bi (X4_isWithPatron τ p1)) = 0 then ((-2 : Int32)) else (X4_fineOf τ p1)
def rm_X4_fine : Room := { frames := 3, cells := 0, slots := 0, locals := 67 }
theorem v_X4_fine : WdV RX4 yX4_fine cX4_fine 2 (some .int) 1 := ⟨mI_X4_fine, mS_X4_fine, mZ_RX4, mC_X4_fine, by decide +kernel⟩
set_option maxHeartbeats 8000000 in
set_option maxRecDepth 100000 in
theorem c_X4_fine (l : Launch) (D : va_G) (cI cS : ClassId) (ad : Nat → Nat) (hs : Bool) (τ : St) (ok : OK τ) (p1 : Int32) (F : Int32) (hF : X4_fine τ p1 = F) : MI l yX4_fine cX4_fine 2 (some .int) rm_X4_fine D cI cS [.ref (ad 0), .int p1] (cW ad cI hs τ) (cW ad cI hs) (fun r u' => r = F ∧ u' = τ) := by
  refine MI.mk RX4 rfl .int rfl (by decide) (Nat.le_of_ble_eq_true rfl) (fun _ _ _ => rfl) ?_
  intro p e s m args below meth c A Q ls Fc hin hA Z kret hl
  obtain ⟨hx, hb, hml, hown, hts, hKN⟩ := id Fc
  replace hl : lv_has ls 2 [(0, .ref (ad 0)), (1, .int p1)] := hl
  replace Z := Z.anil
  unfold X4_fine at hF
  refine lv_aload_n hx hb dX4_fine_0 rfl (lv_at hl 0 rfl) ?_
  refine lv_iload_n hx hb dX4_fine_1 rfl (lv_at hl 1 rfl) ?_
  refine kr_i (As := [.int p1]) Fc hA Z (Lens.tail []) (c_X4_isCopy l D cI cS ad hs τ ok p1 (X4_isCopy τ p1) rfl) mL_RX4_85 v_X4_isCopy ⟨rfl, rfl⟩ ⟨Nat.le_of_ble_eq_true rfl, Nat.le_of_ble_eq_true rfl⟩ ⟨Nat.zero_le _, Nat.zero_le _⟩ 0 4 rfl rfl rfl hl (Nat.le_of_ble_eq_true rfl) dX4_fine_2 rfl (fun H locs Z => ?_)
  refine lv_if_ne (tgt := 10) hx hb dX4_fine_5 (by decide) (fun c1 => ?_) (fun c1 => ?_)
  · rw [if_neg c1] at hF
    refine lv_aload_n hx hb dX4_fine_10 rfl (lv_at hl 0 rfl) ?_
    refine lv_iload_n hx hb dX4_fine_11 rfl (lv_at hl 1 rfl) ?_
    refine kr_i (As := [.int p1]) Fc hA Z (Lens.tail []) (c_X4_isWithPatron l D cI cS ad hs τ ok p1 (X4_isWithPatron τ p1) rfl) mL_RX4_158 v_X4_isWithPatron ⟨rfl, rfl⟩ ⟨Nat.le_of_ble_eq_true rfl, Nat.le_of_ble_eq_true rfl⟩ ⟨Nat.zero_le _, Nat.zero_le _⟩ 0 4 rfl rfl rfl hl (Nat.le_of_ble_eq_true rfl) dX4_fine_12 rfl (fun H locs Z => ?_)
    refine lv_if_eq (tgt := 26) hx hb dX4_fine_15 (by decide) (fun c2 => ?_) (fun c2 => ?_)
    · rw [if_pos c2] at hF
      refine lv_bipush (v := (-2 : Int32)) hx hb dX4_fine_26 (by decide) ?_
      exact kret (-2 : Int32) τ _ _ _ _ ⟨hF, rfl⟩ Z.nila dX4_fine_28
    · rw [if_neg c2] at hF
      refine lv_aload_n hx hb dX4_fine_18 rfl (lv_at hl 0 rfl) ?_
      refine lv_iload_n hx hb dX4_fine_19 rfl (lv_at hl 1 rfl) ?_
      refine kr_i (As := [.int p1]) Fc hA Z (Lens.tail []) (c_X4_fineOf l D cI cS ad hs τ ok p1 (X4_fineOf τ p1) rfl) mL_RX4_161 v_X4_fineOf ⟨rfl, rfl⟩ ⟨Nat.le_of_ble_eq_true rfl, Nat.le_of_ble_eq_true rfl⟩ ⟨Nat.zero_le _, Nat.zero_le _⟩ 0 4 rfl rfl rfl hl (Nat.le_of_ble_eq_true rfl) dX4_fine_20 rfl (fun H locs Z => ?_)
      refine lv_goto (tgt := 28) hx hb dX4_fine_23 (by decide) ?_
      exact kret (X4_fineOf τ p1) τ _ _ _ _ ⟨hF, rfl⟩ Z.nila dX4_fine_28
  · rw [if_pos c1] at hF
    refine lv_iconst (v := (-1 : Int32)) hx hb dX4_fine_8 (by decide) ?_
    exact kret (-1 : Int32) τ _ _ _ _ ⟨hF, rfl⟩ Z.nila dX4_fine_9
def X4_hasLoanOf_L2 (τ : St) (x1 : Int32) (x2 : Int32) : Nat → Int32 → Option (Bool)
  | 0, _ => none
  | k + 1, x3 => if (τ.1 0).1 ≤ x3 then (some false) else if (bi (X4_isAt τ x3 (1 : Int32) x1)) = 0 then (X4_hasLoanOf_L2 τ x1 x2 k ((x3 + (1 : Int32)))) else if (X4_titleOf τ x3) = x2 then (some true) else X4_hasLoanOf_L2 τ x1 x2 k ((x3 + (1 : Int32)))
def X4_hasLoanOf (τ : St) (p1 p2 : Int32) : Option (Bool) := X4_hasLoanOf_L2 τ p1 p2 FU (0 : Int32)
def rm_X4_hasLoanOf : Room := { frames := 3, cells := 0, slots := 0, locals := 67 }
theorem v_X4_hasLoanOf : WdV RX4 yX4_hasLoanOf cX4_hasLoanOf 4 (some .boolean) 2 := ⟨mI_X4_hasLoanOf, mS_X4_hasLoanOf, mZ_RX4, mC_X4_hasLoanOf, by decide +kernel⟩
set_option maxHeartbeats 8000000 in
set_option maxRecDepth 100000 in
theorem c_X4_hasLoanOf (l : Launch) (D : va_G) (cI cS : ClassId) (ad : Nat → Nat) (hs : Bool) (τ : St) (ok : OK τ) (p1 p2 : Int32) (F : Bool) (hF : X4_hasLoanOf τ p1 p2 = some F) : MI l yX4_hasLoanOf cX4_hasLoanOf 4 (some .boolean) rm_X4_hasLoanOf D cI cS [.ref (ad 0), .int p1, .int p2] (cW ad cI hs τ) (cW ad cI hs) (fun r u' => r = bi F ∧ u' = τ) := by
  refine MI.mk RX4 rfl .boolean rfl (by decide) (Nat.le_of_ble_eq_true rfl) (fun r u h => by rw [h.1]; exact bi_nar _) ?_
  intro p e s m args below meth c A Q ls Fc hin hA Z kret hl
  obtain ⟨hx, hb, hml, hown, hts, hKN⟩ := id Fc
  replace hl : lv_has ls 4 [(0, .ref (ad 0)), (1, .int p1), (2, .int p2)] := hl
  replace Z := Z.anil
  have L2 : ∀ (x1 : Int32) (x2 : Int32) (k : Nat) (x3 : Int32) (H : Heap) (locs : List Loc) (ls : Array Slot), X4_hasLoanOf_L2 τ x1 x2  k x3 = some F → OK τ → Ix D A s (cW ad cI hs τ ++ []) H locs → lv_has ls 4 [(0, .ref (ad 0)), (1, .int x1), (2, .int x2), (3, .int x3)] → W p l e rm_X4_hasLoanOf s m args below meth c H locs 0 0 Q (F0 m 2 ls []) := by
    intro x1 x2 k
    induction k with
    | zero => intro x3 H locs ls hF; rw [X4_hasLoanOf_L2] at hF; cases hF
    | succ k ih =>
      intro x3 H locs ls hF ok Z hl
      rw [X4_hasLoanOf_L2] at hF
      refine lv_iload_n hx hb dX4_hasLoanOf_2 rfl (lv_at hl 3 rfl) ?_
      refine lv_aload_n hx hb dX4_hasLoanOf_3 rfl (lv_at hl 0 rfl) ?_
      refine kget Fc Z inX4 0 rfl rfl 0 (by decide) mF_RX4_10 rfl rfl dX4_hasLoanOf_4 ?_
      refine kgetN Fc Z inX2 1 rfl rfl 0 (by decide) nw_RX4_47 rfl rfl dX4_hasLoanOf_7 ?_
      refine kr_i (As := []) Fc hA Z Lens.c0 (c_X3_size l D cI cS (ad 2) (ad 3) 20 12 (20 * 12) sh0 (τ.1 0) ok.1  (τ.1 0).1 rfl) mL_RX4_92 v_X3_size ⟨rfl, rfl⟩ ⟨Nat.le_of_ble_eq_true rfl, Nat.le_of_ble_eq_true rfl⟩ ⟨Nat.zero_le _, Nat.zero_le _⟩ 2 3 rfl rfl rfl hl (Nat.le_of_ble_eq_true rfl) dX4_hasLoanOf_10 rfl (fun H locs Z => ?_)
      refine lv_icmp_ge (tgt := 43) hx hb dX4_hasLoanOf_13 (by decide) (fun c1 => ?_) (fun c1 => ?_)
      · rw [if_pos c1] at hF
        refine lv_iconst (v := (0 : Int32)) hx hb dX4_hasLoanOf_43 (by decide) ?_
        exact kret (0 : Int32) τ _ _ _ _ ⟨(congrArg bi (Option.some.inj hF)), rfl⟩ Z.nila dX4_hasLoanOf_44
      · rw [if_neg c1] at hF
        refine lv_aload_n hx hb dX4_hasLoanOf_16 rfl (lv_at hl 0 rfl) ?_
        refine lv_iload_n hx hb dX4_hasLoanOf_17 rfl (lv_at hl 3 rfl) ?_
        refine lv_iconst (v := (1 : Int32)) hx hb dX4_hasLoanOf_18 (by decide) ?_
        refine lv_iload_n hx hb dX4_hasLoanOf_19 rfl (lv_at hl 1 rfl) ?_
        refine kr_i (As := [.int x3, .int (1 : Int32), .int x1]) Fc hA Z (Lens.tail []) (c_X4_isAt l D cI cS ad hs τ ok x3 (1 : Int32) x1 (X4_isAt τ x3 (1 : Int32) x1) rfl) mL_RX4_231 v_X4_isAt ⟨rfl, rfl⟩ ⟨Nat.le_of_ble_eq_true rfl, Nat.le_of_ble_eq_true rfl⟩ ⟨Nat.zero_le _, Nat.zero_le _⟩ 0 4 rfl rfl rfl hl (Nat.le_of_ble_eq_true rfl) dX4_hasLoanOf_20 rfl (fun H locs Z => ?_)
        refine lv_if_eq (tgt := 37) hx hb dX4_hasLoanOf_23 (by decide) (fun c2 => ?_) (fun c2 => ?_)
        · rw [if_pos c2] at hF
          refine lv_iinc (v := (x3 + (1 : Int32))) (lv' := [(3, .int (x3 + (1 : Int32))), (0, .ref (ad 0)), (1, .int x1), (2, .int x2)]) hx hb dX4_hasLoanOf_37 hl (k := 3) rfl (by rfl) (by decide) rfl (fun ls hl => ?_)
          refine lv_goto (tgt := 2) hx hb dX4_hasLoanOf_40 (by decide) ?_
          exact ih ((x3 + (1 : Int32))) _ _ _ hF ok Z (lv_sub hl [1, 2, 3, 0] rfl)
        · rw [if_neg c2] at hF
          refine lv_aload_n hx hb dX4_hasLoanOf_26 rfl (lv_at hl 0 rfl) ?_
          refine lv_iload_n hx hb dX4_hasLoanOf_27 rfl (lv_at hl 3 rfl) ?_
          refine kr_i (As := [.int x3]) Fc hA Z (Lens.tail []) (c_X4_titleOf l D cI cS ad hs τ ok x3 (X4_titleOf τ x3) rfl) mL_RX4_118 v_X4_titleOf ⟨rfl, rfl⟩ ⟨Nat.le_of_ble_eq_true rfl, Nat.le_of_ble_eq_true rfl⟩ ⟨Nat.zero_le _, Nat.zero_le _⟩ 0 4 rfl rfl rfl hl (Nat.le_of_ble_eq_true rfl) dX4_hasLoanOf_28 rfl (fun H locs Z => ?_)
          refine lv_iload_n hx hb dX4_hasLoanOf_31 rfl (lv_at hl 2 rfl) ?_
          refine lv_icmp_ne (tgt := 37) hx hb dX4_hasLoanOf_32 (by decide) (fun c3 => ?_) (fun c3 => ?_)
          · rw [if_neg c3] at hF
            refine lv_iinc (v := (x3 + (1 : Int32))) (lv' := [(3, .int (x3 + (1 : Int32))), (0, .ref (ad 0)), (1, .int x1), (2, .int x2)]) hx hb dX4_hasLoanOf_37 hl (k := 3) rfl (by rfl) (by decide) rfl (fun ls hl => ?_)
            refine lv_goto (tgt := 2) hx hb dX4_hasLoanOf_40 (by decide) ?_
            exact ih ((x3 + (1 : Int32))) _ _ _ hF ok Z (lv_sub hl [1, 2, 3, 0] rfl)
          · rw [if_pos c3] at hF
            refine lv_iconst (v := (1 : Int32)) hx hb dX4_hasLoanOf_35 (by decide) ?_
            exact kret (1 : Int32) τ _ _ _ _ ⟨(congrArg bi (Option.some.inj hF)), rfl⟩ Z.nila dX4_hasLoanOf_36
  unfold X4_hasLoanOf at hF
  refine lv_iconst (v := (0 : Int32)) hx hb dX4_hasLoanOf_0 (by decide) ?_
  refine lv_istore_n (lv' := [(3, .int (0 : Int32)), (0, .ref (ad 0)), (1, .int p1), (2, .int p2)]) hx hb dX4_hasLoanOf_1 rfl hl (by decide) rfl (fun ls hl => ?_)
  exact L2 p1 p2 FU (0 : Int32) _ _ _ hF ok Z (lv_sub hl [1, 2, 3, 0] rfl)
def X4_holdAt_L24 (τ : St) (x1 : Int32) (x2 : Int32) (x3 : Int32) : Nat → Int32 → Int32 → Option (Int32)
  | 0, _, _ => none
  | k + 1, x4, x5 => if (τ.1 2).1 ≤ x5 then (some (-2 : Int32)) else if (tget 4 (τ.1 2) x5 (3 : Int32)) = x1 then (if x4 = x2 then (some ((tget 4 (τ.1 2) x5 x3))) else X4_holdAt_L24 τ x1 x2 x3 k ((x4 + (1 : Int32))) ((x5 + (1 : Int32)))) else X4_holdAt_L24 τ x1 x2 x3 k x4 ((x5 + (1 : Int32)))
def X4_holdAt (τ : St) (p1 p2 p3 : Int32) : Option (Int32) := if (bi (X4_isTitle p1)) = 0 then (some (-1 : Int32)) else if p3 < 0 then (some (-1 : Int32)) else if p3 < (3 : Int32) then (X4_holdAt_L24 τ p1 p2 p3 FU (0 : Int32) (0 : Int32)) else some (-1 : Int32)
def rm_X4_holdAt : Room := { frames := 1, cells := 0, slots := 0, locals := 23 }
theorem v_X4_holdAt : WdV RX4 yX4_holdAt cX4_holdAt 6 (some .int) 3 := ⟨mI_X4_holdAt, mS_X4_holdAt, mZ_RX4, mC_X4_holdAt, by decide +kernel⟩
set_option maxHeartbeats 8000000 in
set_option maxRecDepth 100000 in
theorem c_X4_holdAt (l : Launch) (D : va_G) (cI cS : ClassId) (ad : Nat → Nat) (hs : Bool) (τ : St) (ok : OK τ) (p1 p2 p3 : Int32) (F : Int32) (hF : X4_holdAt τ p1 p2 p3 = some F) : MI l yX4_holdAt cX4_holdAt 6 (some .int) rm_X4_holdAt D cI cS [.ref (ad 0), .int p1, .int p2, .int p3] (cW ad cI hs τ) (cW ad cI hs) (fun r u' => r = F ∧ u' = τ) := by
  refine MI.mk RX4 rfl .int rfl (by decide) (Nat.le_of_ble_eq_true rfl) (fun _ _ _ => rfl) ?_
  intro p e s m args below meth c A Q ls Fc hin hA Z kret hl
  obtain ⟨hx, hb, hml, hown, hts, hKN⟩ := id Fc
  replace hl : lv_has ls 6 [(0, .ref (ad 0)), (1, .int p1), (2, .int p2), (3, .int p3)] := hl
  replace Z := Z.anil
  have L24 : ∀ (x1 : Int32) (x2 : Int32) (x3 : Int32) (k : Nat) (x4 : Int32) (x5 : Int32) (H : Heap) (locs : List Loc) (ls : Array Slot), X4_holdAt_L24 τ x1 x2 x3  k x4 x5 = some F → OK τ → Ix D A s (cW ad cI hs τ ++ []) H locs → lv_has ls 6 [(0, .ref (ad 0)), (1, .int x1), (2, .int x2), (3, .int x3), (4, .int x4), (5, .int x5)] → W p l e rm_X4_holdAt s m args below meth c H locs 0 0 Q (F0 m 24 ls []) := by
    intro x1 x2 x3 k
    induction k with
    | zero => intro x4 x5 H locs ls hF; rw [X4_holdAt_L24] at hF; cases hF
    | succ k ih =>
      intro x4 x5 H locs ls hF ok Z hl
      rw [X4_holdAt_L24] at hF
      refine lv_iload hx hb dX4_holdAt_24 (lv_at hl 5 rfl) ?_
      refine lv_aload_n hx hb dX4_holdAt_26 rfl (lv_at hl 0 rfl) ?_
      refine kget Fc Z inX4 0 rfl rfl 0 (by decide) mF_RX4_10 rfl rfl dX4_holdAt_27 ?_
      refine kgetN Fc Z inX2 1 rfl rfl 2 (by decide) nw_RX4_192 rfl rfl dX4_holdAt_30 ?_
      refine kr_i (As := []) Fc hA Z Lens.c2 (c_X3_size l D cI cS (ad 6) (ad 7) 24 4 (24 * 4) sh2 (τ.1 2) ok.2.2.1  (τ.1 2).1 rfl) mL_RX4_92 v_X3_size ⟨rfl, rfl⟩ ⟨Nat.le_of_ble_eq_true rfl, Nat.le_of_ble_eq_true rfl⟩ ⟨Nat.zero_le _, Nat.zero_le _⟩ 6 3 rfl rfl rfl hl (Nat.le_of_ble_eq_true rfl) dX4_holdAt_33 rfl (fun H locs Z => ?_)
      refine lv_icmp_ge (tgt := 88) hx hb dX4_holdAt_36 (by decide) (fun c1 => ?_) (fun c1 => ?_)
      · rw [if_pos c1] at hF
        refine lv_bipush (v := (-2 : Int32)) hx hb dX4_holdAt_88 (by decide) ?_
        exact kret (-2 : Int32) τ _ _ _ _ ⟨(Option.some.inj hF), rfl⟩ Z.nila dX4_holdAt_90
      · rw [if_neg c1] at hF
        refine lv_aload_n hx hb dX4_holdAt_39 rfl (lv_at hl 0 rfl) ?_
        refine kget Fc Z inX4 0 rfl rfl 0 (by decide) mF_RX4_10 rfl rfl dX4_holdAt_40 ?_
        refine kgetN Fc Z inX2 1 rfl rfl 2 (by decide) nw_RX4_192 rfl rfl dX4_holdAt_43 ?_
        refine lv_iload hx hb dX4_holdAt_46 (lv_at hl 5 rfl) ?_
        refine lv_iconst (v := (3 : Int32)) hx hb dX4_holdAt_48 (by decide) ?_
        refine kr_i (As := [.int x5, .int (3 : Int32)]) Fc hA Z Lens.c2 (c_X3_get l D cI cS (ad 6) (ad 7) 24 4 (24 * 4) sh2 (τ.1 2) ok.2.2.1 x5 (3 : Int32) (tget 4 (τ.1 2) x5 (3 : Int32)) rfl) mL_RX4_88 v_X3_get ⟨rfl, rfl⟩ ⟨Nat.le_of_ble_eq_true rfl, Nat.le_of_ble_eq_true rfl⟩ ⟨Nat.zero_le _, Nat.zero_le _⟩ 6 3 rfl rfl rfl hl (Nat.le_of_ble_eq_true rfl) dX4_holdAt_49 rfl (fun H locs Z => ?_)
        refine lv_iload_n hx hb dX4_holdAt_52 rfl (lv_at hl 1 rfl) ?_
        refine lv_icmp_eq (tgt := 59) hx hb dX4_holdAt_53 (by decide) (fun c2 => ?_) (fun c2 => ?_)
        · rw [if_pos c2] at hF
          refine lv_iload hx hb dX4_holdAt_59 (lv_at hl 4 rfl) ?_
          refine lv_iload_n hx hb dX4_holdAt_61 rfl (lv_at hl 2 rfl) ?_
          refine lv_icmp_ne (tgt := 79) hx hb dX4_holdAt_62 (by decide) (fun c3 => ?_) (fun c3 => ?_)
          · rw [if_neg c3] at hF
            refine lv_iinc (v := (x4 + (1 : Int32))) (lv' := [(4, .int (x4 + (1 : Int32))), (0, .ref (ad 0)), (1, .int x1), (2, .int x2), (3, .int x3), (5, .int x5)]) hx hb dX4_holdAt_79 hl (k := 4) rfl (by rfl) (by decide) rfl (fun ls hl => ?_)
            refine lv_iinc (v := (x5 + (1 : Int32))) (lv' := [(5, .int (x5 + (1 : Int32))), (4, .int (x4 + (1 : Int32))), (0, .ref (ad 0)), (1, .int x1), (2, .int x2), (3, .int x3)]) hx hb dX4_holdAt_82 hl (k := 5) rfl (by rfl) (by decide) rfl (fun ls hl => ?_)
            refine lv_goto (tgt := 24) hx hb dX4_holdAt_85 (by decide) ?_
            exact ih ((x4 + (1 : Int32))) ((x5 + (1 : Int32))) _ _ _ hF ok Z (lv_sub hl [2, 3, 4, 5, 1, 0] rfl)
          · rw [if_pos c3] at hF
            refine lv_aload_n hx hb dX4_holdAt_65 rfl (lv_at hl 0 rfl) ?_
            refine kget Fc Z inX4 0 rfl rfl 0 (by decide) mF_RX4_10 rfl rfl dX4_holdAt_66 ?_
            refine kgetN Fc Z inX2 1 rfl rfl 2 (by decide) nw_RX4_192 rfl rfl dX4_holdAt_69 ?_
            refine lv_iload hx hb dX4_holdAt_72 (lv_at hl 5 rfl) ?_
            refine lv_iload_n hx hb dX4_holdAt_74 rfl (lv_at hl 3 rfl) ?_
            refine kr_i (As := [.int x5, .int x3]) Fc hA Z Lens.c2 (c_X3_get l D cI cS (ad 6) (ad 7) 24 4 (24 * 4) sh2 (τ.1 2) ok.2.2.1 x5 x3 (tget 4 (τ.1 2) x5 x3) rfl) mL_RX4_88 v_X3_get ⟨rfl, rfl⟩ ⟨Nat.le_of_ble_eq_true rfl, Nat.le_of_ble_eq_true rfl⟩ ⟨Nat.zero_le _, Nat.zero_le _⟩ 6 3 rfl rfl rfl hl (Nat.le_of_ble_eq_true rfl) dX4_holdAt_75 rfl (fun H locs Z => ?_)
            exact kret ((tget 4 (τ.1 2) x5 x3)) τ _ _ _ _ ⟨(Option.some.inj hF), rfl⟩ Z.nila dX4_holdAt_78
        · rw [if_neg c2] at hF
          refine lv_goto (tgt := 82) hx hb dX4_holdAt_56 (by decide) ?_
          refine lv_iinc (v := (x5 + (1 : Int32))) (lv' := [(5, .int (x5 + (1 : Int32))), (0, .ref (ad 0)), (1, .int x1), (2, .int x2), (3, .int x3), (4, .int x4)]) hx hb dX4_holdAt_82 hl (k := 5) rfl (by rfl) (by decide) rfl (fun ls hl => ?_)
          refine lv_goto (tgt := 24) hx hb dX4_holdAt_85 (by decide) ?_
          exact ih x4 ((x5 + (1 : Int32))) _ _ _ hF ok Z (lv_sub hl [1, 2, 3, 4, 5, 0] rfl)
  unfold X4_holdAt at hF
  refine lv_iload_n hx hb dX4_holdAt_0 rfl (lv_at hl 1 rfl) ?_
  refine ks_i (As := [.int p1]) Fc hA Z (c_X4_isTitle l D cI cS p1 (X4_isTitle p1) rfl) mL_RX4_40 v_X4_isTitle ⟨rfl, rfl⟩ ⟨Nat.le_of_ble_eq_true rfl, Nat.le_of_ble_eq_true rfl⟩ ⟨Nat.zero_le _, Nat.zero_le _⟩ rfl hl (Nat.le_of_ble_eq_true rfl) dX4_holdAt_1 rfl (fun H locs Z => ?_)
  refine lv_if_eq (tgt := 16) hx hb dX4_holdAt_4 (by decide) (fun c4 => ?_) (fun c4 => ?_)
  · rw [if_pos c4] at hF
    refine lv_iconst (v := (-1 : Int32)) hx hb dX4_holdAt_16 (by decide) ?_
    exact kret (-1 : Int32) τ _ _ _ _ ⟨(Option.some.inj hF), rfl⟩ Z.nila dX4_holdAt_17
  · rw [if_neg c4] at hF
    refine lv_iload_n hx hb dX4_holdAt_7 rfl (lv_at hl 3 rfl) ?_
    refine lv_if_lt (tgt := 16) hx hb dX4_holdAt_8 (by decide) (fun c5 => ?_) (fun c5 => ?_)
    · rw [if_pos c5] at hF
      refine lv_iconst (v := (-1 : Int32)) hx hb dX4_holdAt_16 (by decide) ?_
      exact kret (-1 : Int32) τ _ _ _ _ ⟨(Option.some.inj hF), rfl⟩ Z.nila dX4_holdAt_17
    · rw [if_neg c5] at hF
      refine lv_iload_n hx hb dX4_holdAt_11 rfl (lv_at hl 3 rfl) ?_
      refine lv_iconst (v := (3 : Int32)) hx hb dX4_holdAt_12 (by decide) ?_
      refine lv_icmp_lt (tgt := 18) hx hb dX4_holdAt_13 (by decide) (fun c6 => ?_) (fun c6 => ?_)
      · rw [if_pos c6] at hF
        refine lv_iconst (v := (0 : Int32)) hx hb dX4_holdAt_18 (by decide) ?_
        refine lv_istore (lv' := [(4, .int (0 : Int32)), (0, .ref (ad 0)), (1, .int p1), (2, .int p2), (3, .int p3)]) hx hb dX4_holdAt_19 hl (by decide) rfl (fun ls hl => ?_)
        refine lv_iconst (v := (0 : Int32)) hx hb dX4_holdAt_21 (by decide) ?_
        refine lv_istore (lv' := [(5, .int (0 : Int32)), (4, .int (0 : Int32)), (0, .ref (ad 0)), (1, .int p1), (2, .int p2), (3, .int p3)]) hx hb dX4_holdAt_22 hl (by decide) rfl (fun ls hl => ?_)
        exact L24 p1 p2 p3 FU (0 : Int32) (0 : Int32) _ _ _ hF ok Z (lv_sub hl [2, 3, 4, 5, 1, 0] rfl)
      · rw [if_neg c6] at hF
        refine lv_iconst (v := (-1 : Int32)) hx hb dX4_holdAt_16 (by decide) ?_
        exact kret (-1 : Int32) τ _ _ _ _ ⟨(Option.some.inj hF), rfl⟩ Z.nila dX4_holdAt_17
def X4_holdCount (τ : St) (p1 : Int32) : Option (Int32) := if p1 = (-1 : Int32) then (some ((τ.1 2).1)) else if (bi (X4_isTitle p1)) = 0 then (some (-1 : Int32)) else (X4_holdsBefore τ ((τ.1 2).1) p1).bind fun v3 => some v3
def rm_X4_holdCount : Room := { frames := 2, cells := 0, slots := 0, locals := 47 }
theorem v_X4_holdCount : WdV RX4 yX4_holdCount cX4_holdCount 2 (some .int) 1 := ⟨mI_X4_holdCount, mS_X4_holdCount, mZ_RX4, mC_X4_holdCount, by decide +kernel⟩
set_option maxHeartbeats 8000000 in
set_option maxRecDepth 100000 in
theorem c_X4_holdCount (l : Launch) (D : va_G) (cI cS : ClassId) (ad : Nat → Nat) (hs : Bool) (τ : St) (ok : OK τ) (p1 : Int32) (F : Int32) (hF : X4_holdCount τ p1 = some F) : MI l yX4_holdCount cX4_holdCount 2 (some .int) rm_X4_holdCount D cI cS [.ref (ad 0), .int p1] (cW ad cI hs τ) (cW ad cI hs) (fun r u' => r = F ∧ u' = τ) := by
  refine MI.mk RX4 rfl .int rfl (by decide) (Nat.le_of_ble_eq_true rfl) (fun _ _ _ => rfl) ?_
  intro p e s m args below meth c A Q ls Fc hin hA Z kret hl
  obtain ⟨hx, hb, hml, hown, hts, hKN⟩ := id Fc
  replace hl : lv_has ls 2 [(0, .ref (ad 0)), (1, .int p1)] := hl
  replace Z := Z.anil
  unfold X4_holdCount at hF
  refine lv_iload_n hx hb dX4_holdCount_0 rfl (lv_at hl 1 rfl) ?_
  refine lv_iconst (v := (-1 : Int32)) hx hb dX4_holdCount_1 (by decide) ?_
  refine lv_icmp_ne (tgt := 16) hx hb dX4_holdCount_2 (by decide) (fun c1 => ?_) (fun c1 => ?_)
  · rw [if_neg c1] at hF
    refine lv_iload_n hx hb dX4_holdCount_16 rfl (lv_at hl 1 rfl) ?_
    refine ks_i (As := [.int p1]) Fc hA Z (c_X4_isTitle l D cI cS p1 (X4_isTitle p1) rfl) mL_RX4_40 v_X4_isTitle ⟨rfl, rfl⟩ ⟨Nat.le_of_ble_eq_true rfl, Nat.le_of_ble_eq_true rfl⟩ ⟨Nat.zero_le _, Nat.zero_le _⟩ rfl hl (Nat.le_of_ble_eq_true rfl) dX4_holdCount_17 rfl (fun H locs Z => ?_)
    refine lv_if_eq (tgt := 41) hx hb dX4_holdCount_20 (by decide) (fun c2 => ?_) (fun c2 => ?_)
    · rw [if_pos c2] at hF
      refine lv_iconst (v := (-1 : Int32)) hx hb dX4_holdCount_41 (by decide) ?_
      exact kret (-1 : Int32) τ _ _ _ _ ⟨(Option.some.inj hF), rfl⟩ Z.nila dX4_holdCount_42
    · rw [if_neg c2] at hF
      refine lv_aload_n hx hb dX4_holdCount_23 rfl (lv_at hl 0 rfl) ?_
      refine lv_aload_n hx hb dX4_holdCount_24 rfl (lv_at hl 0 rfl) ?_
      refine kget Fc Z inX4 0 rfl rfl 0 (by decide) mF_RX4_10 rfl rfl dX4_holdCount_25 ?_
      refine kgetN Fc Z inX2 1 rfl rfl 2 (by decide) nw_RX4_192 rfl rfl dX4_holdCount_28 ?_
      refine kr_i (As := []) Fc hA Z Lens.c2 (c_X3_size l D cI cS (ad 6) (ad 7) 24 4 (24 * 4) sh2 (τ.1 2) ok.2.2.1  (τ.1 2).1 rfl) mL_RX4_92 v_X3_size ⟨rfl, rfl⟩ ⟨Nat.le_of_ble_eq_true rfl, Nat.le_of_ble_eq_true rfl⟩ ⟨Nat.zero_le _, Nat.zero_le _⟩ 6 3 rfl rfl rfl hl (Nat.le_of_ble_eq_true rfl) dX4_holdCount_31 rfl (fun H locs Z => ?_)
      refine lv_iload_n hx hb dX4_holdCount_34 rfl (lv_at hl 1 rfl) ?_
      obtain ⟨v3, h4, hF⟩ := obind hF
      refine kr_i (As := [.int ((τ.1 2).1), .int p1]) Fc hA Z (Lens.tail []) (c_X4_holdsBefore l D cI cS ad hs τ ok ((τ.1 2).1) p1 v3 h4) mL_RX4_213 v_X4_holdsBefore ⟨rfl, rfl⟩ ⟨Nat.le_of_ble_eq_true rfl, Nat.le_of_ble_eq_true rfl⟩ ⟨Nat.zero_le _, Nat.zero_le _⟩ 0 4 rfl rfl rfl hl (Nat.le_of_ble_eq_true rfl) dX4_holdCount_35 rfl (fun H locs Z => ?_)
      refine lv_goto (tgt := 42) hx hb dX4_holdCount_38 (by decide) ?_
      exact kret v3 τ _ _ _ _ ⟨(Option.some.inj hF), rfl⟩ Z.nila dX4_holdCount_42
  · rw [if_pos c1] at hF
    refine lv_aload_n hx hb dX4_holdCount_5 rfl (lv_at hl 0 rfl) ?_
    refine kget Fc Z inX4 0 rfl rfl 0 (by decide) mF_RX4_10 rfl rfl dX4_holdCount_6 ?_
    refine kgetN Fc Z inX2 1 rfl rfl 2 (by decide) nw_RX4_192 rfl rfl dX4_holdCount_9 ?_
    refine kr_i (As := []) Fc hA Z Lens.c2 (c_X3_size l D cI cS (ad 6) (ad 7) 24 4 (24 * 4) sh2 (τ.1 2) ok.2.2.1  (τ.1 2).1 rfl) mL_RX4_92 v_X3_size ⟨rfl, rfl⟩ ⟨Nat.le_of_ble_eq_true rfl, Nat.le_of_ble_eq_true rfl⟩ ⟨Nat.zero_le _, Nat.zero_le _⟩ 6 3 rfl rfl rfl hl (Nat.le_of_ble_eq_true rfl) dX4_holdCount_12 rfl (fun H locs Z => ?_)
    exact kret ((τ.1 2).1) τ _ _ _ _ ⟨(Option.some.inj hF), rfl⟩ Z.nila dX4_holdCount_15
def X4_holdsOf_L4 (τ : St) (x1 : Int32) : Nat → Int32 → Int32 → Option (Int32)
  | 0, _, _ => none
  | k + 1, x2, x3 => if (τ.1 2).1 ≤ x3 then (some x2) else if (tget 4 (τ.1 2) x3 (0 : Int32)) = x1 then (X4_holdsOf_L4 τ x1 k ((x2 + (1 : Int32))) ((x3 + (1 : Int32)))) else X4_holdsOf_L4 τ x1 k x2 ((x3 + (1 : Int32)))
def X4_holdsOf (τ : St) (p1 : Int32) : Option (Int32) := X4_holdsOf_L4 τ p1 FU (0 : Int32) (0 : Int32)
def rm_X4_holdsOf : Room := { frames := 1, cells := 0, slots := 0, locals := 23 }
theorem v_X4_holdsOf : WdV RX4 yX4_holdsOf cX4_holdsOf 4 (some .int) 1 := ⟨mI_X4_holdsOf, mS_X4_holdsOf, mZ_RX4, mC_X4_holdsOf, by decide +kernel⟩
set_option maxHeartbeats 8000000 in
set_option maxRecDepth 100000 in
theorem c_X4_holdsOf (l : Launch) (D : va_G) (cI cS : ClassId) (ad : Nat → Nat) (hs : Bool) (τ : St) (ok : OK τ) (p1 : Int32) (F : Int32) (hF : X4_holdsOf τ p1 = some F) : MI l yX4_holdsOf cX4_holdsOf 4 (some .int) rm_X4_holdsOf D cI cS [.ref (ad 0), .int p1] (cW ad cI hs τ) (cW ad cI hs) (fun r u' => r = F ∧ u' = τ) := by
  refine MI.mk RX4 rfl .int rfl (by decide) (Nat.le_of_ble_eq_true rfl) (fun _ _ _ => rfl) ?_
  intro p e s m args below meth c A Q ls Fc hin hA Z kret hl
  obtain ⟨hx, hb, hml, hown, hts, hKN⟩ := id Fc
  replace hl : lv_has ls 4 [(0, .ref (ad 0)), (1, .int p1)] := hl
  replace Z := Z.anil
  have L4 : ∀ (x1 : Int32) (k : Nat) (x2 : Int32) (x3 : Int32) (H : Heap) (locs : List Loc) (ls : Array Slot), X4_holdsOf_L4 τ x1  k x2 x3 = some F → OK τ → Ix D A s (cW ad cI hs τ ++ []) H locs → lv_has ls 4 [(0, .ref (ad 0)), (1, .int x1), (2, .int x2), (3, .int x3)] → W p l e rm_X4_holdsOf s m args below meth c H locs 0 0 Q (F0 m 4 ls []) := by
    intro x1 k
    induction k with
    | zero => intro x2 x3 H locs ls hF; rw [X4_holdsOf_L4] at hF; cases hF
    | succ k ih =>
      intro x2 x3 H locs ls hF ok Z hl
      rw [X4_holdsOf_L4] at hF
      refine lv_iload_n hx hb dX4_holdsOf_4 rfl (lv_at hl 3 rfl) ?_
      refine lv_aload_n hx hb dX4_holdsOf_5 rfl (lv_at hl 0 rfl) ?_
      refine kget Fc Z inX4 0 rfl rfl 0 (by decide) mF_RX4_10 rfl rfl dX4_holdsOf_6 ?_
      refine kgetN Fc Z inX2 1 rfl rfl 2 (by decide) nw_RX4_192 rfl rfl dX4_holdsOf_9 ?_
      refine kr_i (As := []) Fc hA Z Lens.c2 (c_X3_size l D cI cS (ad 6) (ad 7) 24 4 (24 * 4) sh2 (τ.1 2) ok.2.2.1  (τ.1 2).1 rfl) mL_RX4_92 v_X3_size ⟨rfl, rfl⟩ ⟨Nat.le_of_ble_eq_true rfl, Nat.le_of_ble_eq_true rfl⟩ ⟨Nat.zero_le _, Nat.zero_le _⟩ 6 3 rfl rfl rfl hl (Nat.le_of_ble_eq_true rfl) dX4_holdsOf_12 rfl (fun H locs Z => ?_)
      refine lv_icmp_ge (tgt := 43) hx hb dX4_holdsOf_15 (by decide) (fun c1 => ?_) (fun c1 => ?_)
      · rw [if_pos c1] at hF
        refine lv_iload_n hx hb dX4_holdsOf_43 rfl (lv_at hl 2 rfl) ?_
        exact kret x2 τ _ _ _ _ ⟨(Option.some.inj hF), rfl⟩ Z.nila dX4_holdsOf_44
      · rw [if_neg c1] at hF
        refine lv_aload_n hx hb dX4_holdsOf_18 rfl (lv_at hl 0 rfl) ?_
        refine kget Fc Z inX4 0 rfl rfl 0 (by decide) mF_RX4_10 rfl rfl dX4_holdsOf_19 ?_
        refine kgetN Fc Z inX2 1 rfl rfl 2 (by decide) nw_RX4_192 rfl rfl dX4_holdsOf_22 ?_
        refine lv_iload_n hx hb dX4_holdsOf_25 rfl (lv_at hl 3 rfl) ?_
        refine lv_iconst (v := (0 : Int32)) hx hb dX4_holdsOf_26 (by decide) ?_
        refine kr_i (As := [.int x3, .int (0 : Int32)]) Fc hA Z Lens.c2 (c_X3_get l D cI cS (ad 6) (ad 7) 24 4 (24 * 4) sh2 (τ.1 2) ok.2.2.1 x3 (0 : Int32) (tget 4 (τ.1 2) x3 (0 : Int32)) rfl) mL_RX4_88 v_X3_get ⟨rfl, rfl⟩ ⟨Nat.le_of_ble_eq_true rfl, Nat.le_of_ble_eq_true rfl⟩ ⟨Nat.zero_le _, Nat.zero_le _⟩ 6 3 rfl rfl rfl hl (Nat.le_of_ble_eq_true rfl) dX4_holdsOf_27 rfl (fun H locs Z => ?_)
        refine lv_iload_n hx hb dX4_holdsOf_30 rfl (lv_at hl 1 rfl) ?_
        refine lv_icmp_ne (tgt := 37) hx hb dX4_holdsOf_31 (by decide) (fun c2 => ?_) (fun c2 => ?_)
        · rw [if_neg c2] at hF
          refine lv_iinc (v := (x3 + (1 : Int32))) (lv' := [(3, .int (x3 + (1 : Int32))), (0, .ref (ad 0)), (1, .int x1), (2, .int x2)]) hx hb dX4_holdsOf_37 hl (k := 3) rfl (by rfl) (by decide) rfl (fun ls hl => ?_)
          refine lv_goto (tgt := 4) hx hb dX4_holdsOf_40 (by decide) ?_
          exact ih x2 ((x3 + (1 : Int32))) _ _ _ hF ok Z (lv_sub hl [1, 2, 3, 0] rfl)
        · rw [if_pos c2] at hF
          refine lv_iinc (v := (x2 + (1 : Int32))) (lv' := [(2, .int (x2 + (1 : Int32))), (0, .ref (ad 0)), (1, .int x1), (3, .int x3)]) hx hb dX4_holdsOf_34 hl (k := 2) rfl (by rfl) (by decide) rfl (fun ls hl => ?_)
          refine lv_iinc (v := (x3 + (1 : Int32))) (lv' := [(3, .int (x3 + (1 : Int32))), (2, .int (x2 + (1 : Int32))), (0, .ref (ad 0)), (1, .int x1)]) hx hb dX4_holdsOf_37 hl (k := 3) rfl (by rfl) (by decide) rfl (fun ls hl => ?_)
          refine lv_goto (tgt := 4) hx hb dX4_holdsOf_40 (by decide) ?_
          exact ih ((x2 + (1 : Int32))) ((x3 + (1 : Int32))) _ _ _ hF ok Z (lv_sub hl [2, 3, 1, 0] rfl)
  unfold X4_holdsOf at hF
  refine lv_iconst (v := (0 : Int32)) hx hb dX4_holdsOf_0 (by decide) ?_
  refine lv_istore_n (lv' := [(2, .int (0 : Int32)), (0, .ref (ad 0)), (1, .int p1)]) hx hb dX4_holdsOf_1 rfl hl (by decide) rfl (fun ls hl => ?_)
  refine lv_iconst (v := (0 : Int32)) hx hb dX4_holdsOf_2 (by decide) ?_
  refine lv_istore_n (lv' := [(3, .int (0 : Int32)), (2, .int (0 : Int32)), (0, .ref (ad 0)), (1, .int p1)]) hx hb dX4_holdsOf_3 rfl hl (by decide) rfl (fun ls hl => ?_)
  exact L4 p1 FU (0 : Int32) (0 : Int32) _ _ _ hF ok Z (lv_sub hl [2, 3, 1, 0] rfl)
def X4_ledger (τ : St) (p1 p2 : Int32) : Int32 := if (bi (thas (τ.1 3) p1)) = 0 then ((-2147483648 : Int32)) else if p2 < 0 then ((-2147483648 : Int32)) else if p2 < (5 : Int32) then ((tget 5 (τ.1 3) p1 p2)) else (-2147483648 : Int32)
def rm_X4_ledger : Room := { frames := 1, cells := 0, slots := 0, locals := 23 }
theorem v_X4_ledger : WdV RX4 yX4_ledger cX4_ledger 3 (some .int) 2 := ⟨mI_X4_ledger, mS_X4_ledger, mZ_RX4, mC_X4_ledger, by decide +kernel⟩
set_option maxHeartbeats 8000000 in
set_option maxRecDepth 100000 in
theorem c_X4_ledger (l : Launch) (D : va_G) (cI cS : ClassId) (ad : Nat → Nat) (hs : Bool) (τ : St) (ok : OK τ) (p1 p2 : Int32) (F : Int32) (hF : X4_ledger τ p1 p2 = F) : MI l yX4_ledger cX4_ledger 3 (some .int) rm_X4_ledger D cI cS [.ref (ad 0), .int p1, .int p2] (cW ad cI hs τ) (cW ad cI hs) (fun r u' => r = F ∧ u' = τ) := by
  refine MI.mk RX4 rfl .int rfl (by decide) (Nat.le_of_ble_eq_true rfl) (fun _ _ _ => rfl) ?_
  intro p e s m args below meth c A Q ls Fc hin hA Z kret hl
  obtain ⟨hx, hb, hml, hown, hts, hKN⟩ := id Fc
  replace hl : lv_has ls 3 [(0, .ref (ad 0)), (1, .int p1), (2, .int p2)] := hl
  replace Z := Z.anil
  unfold X4_ledger at hF
  refine lv_aload_n hx hb dX4_ledger_0 rfl (lv_at hl 0 rfl) ?_
  refine kget Fc Z inX4 0 rfl rfl 0 (by decide) mF_RX4_10 rfl rfl dX4_ledger_1 ?_
  refine kgetN Fc Z inX2 1 rfl rfl 3 (by decide) nw_RX4_244 rfl rfl dX4_ledger_4 ?_
  refine lv_iload_n hx hb dX4_ledger_7 rfl (lv_at hl 1 rfl) ?_
  refine kr_i (As := [.int p1]) Fc hA Z Lens.c3 (c_X3_has l D cI cS (ad 8) (ad 9) 60 5 (60 * 5) sh3 (τ.1 3) ok.2.2.2.1 p1 (thas (τ.1 3) p1) rfl) mL_RX4_75 v_X3_has ⟨rfl, rfl⟩ ⟨Nat.le_of_ble_eq_true rfl, Nat.le_of_ble_eq_true rfl⟩ ⟨Nat.zero_le _, Nat.zero_le _⟩ 8 3 rfl rfl rfl hl (Nat.le_of_ble_eq_true rfl) dX4_ledger_8 rfl (fun H locs Z => ?_)
  refine lv_if_eq (tgt := 23) hx hb dX4_ledger_11 (by decide) (fun c1 => ?_) (fun c1 => ?_)
  · rw [if_pos c1] at hF
    refine lv_ldc (v := (-2147483648 : Int32)) hx hb hown (hts _ mK_RX4_249) dX4_ledger_23 ?_
    exact kret (-2147483648 : Int32) τ _ _ _ _ ⟨hF, rfl⟩ Z.nila dX4_ledger_25
  · rw [if_neg c1] at hF
    refine lv_iload_n hx hb dX4_ledger_14 rfl (lv_at hl 2 rfl) ?_
    refine lv_if_lt (tgt := 23) hx hb dX4_ledger_15 (by decide) (fun c2 => ?_) (fun c2 => ?_)
    · rw [if_pos c2] at hF
      refine lv_ldc (v := (-2147483648 : Int32)) hx hb hown (hts _ mK_RX4_249) dX4_ledger_23 ?_
      exact kret (-2147483648 : Int32) τ _ _ _ _ ⟨hF, rfl⟩ Z.nila dX4_ledger_25
    · rw [if_neg c2] at hF
      refine lv_iload_n hx hb dX4_ledger_18 rfl (lv_at hl 2 rfl) ?_
      refine lv_iconst (v := (5 : Int32)) hx hb dX4_ledger_19 (by decide) ?_
      refine lv_icmp_lt (tgt := 26) hx hb dX4_ledger_20 (by decide) (fun c3 => ?_) (fun c3 => ?_)
      · rw [if_pos c3] at hF
        refine lv_aload_n hx hb dX4_ledger_26 rfl (lv_at hl 0 rfl) ?_
        refine kget Fc Z inX4 0 rfl rfl 0 (by decide) mF_RX4_10 rfl rfl dX4_ledger_27 ?_
        refine kgetN Fc Z inX2 1 rfl rfl 3 (by decide) nw_RX4_244 rfl rfl dX4_ledger_30 ?_
        refine lv_iload_n hx hb dX4_ledger_33 rfl (lv_at hl 1 rfl) ?_
        refine lv_iload_n hx hb dX4_ledger_34 rfl (lv_at hl 2 rfl) ?_
        refine kr_i (As := [.int p1, .int p2]) Fc hA Z Lens.c3 (c_X3_get l D cI cS (ad 8) (ad 9) 60 5 (60 * 5) sh3 (τ.1 3) ok.2.2.2.1 p1 p2 (tget 5 (τ.1 3) p1 p2) rfl) mL_RX4_88 v_X3_get ⟨rfl, rfl⟩ ⟨Nat.le_of_ble_eq_true rfl, Nat.le_of_ble_eq_true rfl⟩ ⟨Nat.zero_le _, Nat.zero_le _⟩ 8 3 rfl rfl rfl hl (Nat.le_of_ble_eq_true rfl) dX4_ledger_35 rfl (fun H locs Z => ?_)
        exact kret ((tget 5 (τ.1 3) p1 p2)) τ _ _ _ _ ⟨hF, rfl⟩ Z.nila dX4_ledger_38
      · rw [if_neg c3] at hF
        refine lv_ldc (v := (-2147483648 : Int32)) hx hb hown (hts _ mK_RX4_249) dX4_ledger_23 ?_
        exact kret (-2147483648 : Int32) τ _ _ _ _ ⟨hF, rfl⟩ Z.nila dX4_ledger_25
def X4_ledgerSize (τ : St) : Int32 := (τ.1 3).1
def rm_X4_ledgerSize : Room := { frames := 1, cells := 0, slots := 0, locals := 20 }
theorem v_X4_ledgerSize : WdV RX4 yX4_ledgerSize cX4_ledgerSize 1 (some .int) 0 := ⟨mI_X4_ledgerSize, mS_X4_ledgerSize, mZ_RX4, mC_X4_ledgerSize, by decide +kernel⟩
set_option maxHeartbeats 8000000 in
set_option maxRecDepth 100000 in
theorem c_X4_ledgerSize (l : Launch) (D : va_G) (cI cS : ClassId) (ad : Nat → Nat) (hs : Bool) (τ : St) (ok : OK τ) (F : Int32) (hF : X4_ledgerSize τ = F) : MI l yX4_ledgerSize cX4_ledgerSize 1 (some .int) rm_X4_ledgerSize D cI cS [.ref (ad 0)] (cW ad cI hs τ) (cW ad cI hs) (fun r u' => r = F ∧ u' = τ) := by
  refine MI.mk RX4 rfl .int rfl (by decide) (Nat.le_of_ble_eq_true rfl) (fun _ _ _ => rfl) ?_
  intro p e s m args below meth c A Q ls Fc hin hA Z kret hl
  obtain ⟨hx, hb, hml, hown, hts, hKN⟩ := id Fc
  replace hl : lv_has ls 1 [(0, .ref (ad 0))] := hl
  replace Z := Z.anil
  unfold X4_ledgerSize at hF
  refine lv_aload_n hx hb dX4_ledgerSize_0 rfl (lv_at hl 0 rfl) ?_
  refine kget Fc Z inX4 0 rfl rfl 0 (by decide) mF_RX4_10 rfl rfl dX4_ledgerSize_1 ?_
  refine kgetN Fc Z inX2 1 rfl rfl 3 (by decide) nw_RX4_244 rfl rfl dX4_ledgerSize_4 ?_
  refine kr_i (As := []) Fc hA Z Lens.c3 (c_X3_size l D cI cS (ad 8) (ad 9) 60 5 (60 * 5) sh3 (τ.1 3) ok.2.2.2.1  (τ.1 3).1 rfl) mL_RX4_92 v_X3_size ⟨rfl, rfl⟩ ⟨Nat.le_of_ble_eq_true rfl, Nat.le_of_ble_eq_true rfl⟩ ⟨Nat.zero_le _, Nat.zero_le _⟩ 8 3 rfl rfl rfl hl (Nat.le_of_ble_eq_true rfl) dX4_ledgerSize_7 rfl (fun H locs Z => ?_)
  exact kret ((τ.1 3).1) τ _ _ _ _ ⟨hF, rfl⟩ Z.nila dX4_ledgerSize_10
def X4_ledgerSum_L26 (τ : St) (x1 : Int32) (x2 : Int32) : Nat → Int32 → Int32 → Option (Int32)
  | 0, _, _ => none
  | k + 1, x3, x4 => if (τ.1 3).1 ≤ x4 then (some x3) else if x2 = (-1 : Int32) then (if (tget 5 (τ.1 3) x4 (1 : Int32)) = x1 then (X4_ledgerSum_L26 τ x1 x2 k ((x3 + (tget 5 (τ.1 3) x4 (2 : Int32)))) ((x4 + (1 : Int32)))) else X4_ledgerSum_L26 τ x1 x2 k x3 ((x4 + (1 : Int32)))) else if (tget 5 (τ.1 3) x4 (0 : Int32)) = x2 then (if (tget 5 (τ.1 3) x4 (1 : Int32)) = x1 then (X4_ledgerSum_L26 τ x1 x2 k ((x3 + (tget 5 (τ.1 3) x4 (2 : Int32)))) ((x4 + (1 : Int32)))) else X4_ledgerSum_L26 τ x1 x2 k x3 ((x4 + (1 : Int32)))) else X4_ledgerSum_L26 τ x1 x2 k x3 ((x4 + (1 : Int32)))
def X4_ledgerSum (τ : St) (p1 p2 : Int32) : Option (Int32) := if (bi (X4_isPatron τ p1)) = 0 then (some (-2147483648 : Int32)) else if p2 < (-1 : Int32) then (some (-2147483648 : Int32)) else if p2 < (5 : Int32) then (X4_ledgerSum_L26 τ p1 p2 FU (0 : Int32) (0 : Int32)) else some (-2147483648 : Int32)
def rm_X4_ledgerSum : Room := { frames := 2, cells := 0, slots := 0, locals := 42 }
theorem v_X4_ledgerSum : WdV RX4 yX4_ledgerSum cX4_ledgerSum 6 (some .int) 2 := ⟨mI_X4_ledgerSum, mS_X4_ledgerSum, mZ_RX4, mC_X4_ledgerSum, by decide +kernel⟩
set_option maxHeartbeats 8000000 in
set_option maxRecDepth 100000 in
theorem c_X4_ledgerSum (l : Launch) (D : va_G) (cI cS : ClassId) (ad : Nat → Nat) (hs : Bool) (τ : St) (ok : OK τ) (p1 p2 : Int32) (F : Int32) (hF : X4_ledgerSum τ p1 p2 = some F) : MI l yX4_ledgerSum cX4_ledgerSum 6 (some .int) rm_X4_ledgerSum D cI cS [.ref (ad 0), .int p1, .int p2] (cW ad cI hs τ) (cW ad cI hs) (fun r u' => r = F ∧ u' = τ) := by
  refine MI.mk RX4 rfl .int rfl (by decide) (Nat.le_of_ble_eq_true rfl) (fun _ _ _ => rfl) ?_
  intro p e s m args below meth c A Q ls Fc hin hA Z kret hl
  obtain ⟨hx, hb, hml, hown, hts, hKN⟩ := id Fc
  replace hl : lv_has ls 6 [(0, .ref (ad 0)), (1, .int p1), (2, .int p2)] := hl
  replace Z := Z.anil
  have L26 : ∀ (x1 : Int32) (x2 : Int32) (k : Nat) (x3 : Int32) (x4 : Int32) (H : Heap) (locs : List Loc) (ls : Array Slot), X4_ledgerSum_L26 τ x1 x2  k x3 x4 = some F → OK τ → Ix D A s (cW ad cI hs τ ++ []) H locs → lv_has ls 6 [(0, .ref (ad 0)), (1, .int x1), (2, .int x2), (3, .int x3), (4, .int x4)] → W p l e rm_X4_ledgerSum s m args below meth c H locs 0 0 Q (F0 m 26 ls []) := by
    intro x1 x2 k
    induction k with
    | zero => intro x3 x4 H locs ls hF; rw [X4_ledgerSum_L26] at hF; cases hF
    | succ k ih =>
      intro x3 x4 H locs ls hF ok Z hl
      rw [X4_ledgerSum_L26] at hF
      refine lv_iload hx hb dX4_ledgerSum_26 (lv_at hl 4 rfl) ?_
      refine lv_aload_n hx hb dX4_ledgerSum_28 rfl (lv_at hl 0 rfl) ?_
      refine kget Fc Z inX4 0 rfl rfl 0 (by decide) mF_RX4_10 rfl rfl dX4_ledgerSum_29 ?_
      refine kgetN Fc Z inX2 1 rfl rfl 3 (by decide) nw_RX4_244 rfl rfl dX4_ledgerSum_32 ?_
      refine kr_i (As := []) Fc hA Z Lens.c3 (c_X3_size l D cI cS (ad 8) (ad 9) 60 5 (60 * 5) sh3 (τ.1 3) ok.2.2.2.1  (τ.1 3).1 rfl) mL_RX4_92 v_X3_size ⟨rfl, rfl⟩ ⟨Nat.le_of_ble_eq_true rfl, Nat.le_of_ble_eq_true rfl⟩ ⟨Nat.zero_le _, Nat.zero_le _⟩ 8 3 rfl rfl rfl hl (Nat.le_of_ble_eq_true rfl) dX4_ledgerSum_35 rfl (fun H locs Z => ?_)
      refine lv_icmp_ge (tgt := 114) hx hb dX4_ledgerSum_38 (by decide) (fun c1 => ?_) (fun c1 => ?_)
      · rw [if_pos c1] at hF
        refine lv_iload_n hx hb dX4_ledgerSum_114 rfl (lv_at hl 3 rfl) ?_
        exact kret x3 τ _ _ _ _ ⟨(Option.some.inj hF), rfl⟩ Z.nila dX4_ledgerSum_115
      · rw [if_neg c1] at hF
        refine lv_iload_n hx hb dX4_ledgerSum_41 rfl (lv_at hl 2 rfl) ?_
        refine lv_iconst (v := (-1 : Int32)) hx hb dX4_ledgerSum_42 (by decide) ?_
        refine lv_icmp_eq (tgt := 63) hx hb dX4_ledgerSum_43 (by decide) (fun c2 => ?_) (fun c2 => ?_)
        · rw [if_pos c2] at hF
          refine lv_iconst (v := (1 : Int32)) hx hb dX4_ledgerSum_63 (by decide) ?_
          refine lv_goto (tgt := 68) hx hb dX4_ledgerSum_64 (by decide) ?_
          refine lv_istore (lv' := [(5, .int (1 : Int32)), (0, .ref (ad 0)), (1, .int x1), (2, .int x2), (3, .int x3), (4, .int x4)]) hx hb dX4_ledgerSum_68 hl (by decide) rfl (fun ls hl => ?_)
          refine lv_iload hx hb dX4_ledgerSum_70 (lv_at hl 0 rfl) ?_
          refine lv_if_eq (tgt := 108) hx hb dX4_ledgerSum_72 (by decide) (fun c3 => absurd c3 (by decide)) (fun _ => ?_)
          refine lv_aload_n hx hb dX4_ledgerSum_75 rfl (lv_at hl 1 rfl) ?_
          refine kget Fc Z inX4 0 rfl rfl 0 (by decide) mF_RX4_10 rfl rfl dX4_ledgerSum_76 ?_
          refine kgetN Fc Z inX2 1 rfl rfl 3 (by decide) nw_RX4_244 rfl rfl dX4_ledgerSum_79 ?_
          refine lv_iload hx hb dX4_ledgerSum_82 (lv_at hl 5 rfl) ?_
          refine lv_iconst (v := (1 : Int32)) hx hb dX4_ledgerSum_84 (by decide) ?_
          refine kr_i (As := [.int x4, .int (1 : Int32)]) Fc hA Z Lens.c3 (c_X3_get l D cI cS (ad 8) (ad 9) 60 5 (60 * 5) sh3 (τ.1 3) ok.2.2.2.1 x4 (1 : Int32) (tget 5 (τ.1 3) x4 (1 : Int32)) rfl) mL_RX4_88 v_X3_get ⟨rfl, rfl⟩ ⟨Nat.le_of_ble_eq_true rfl, Nat.le_of_ble_eq_true rfl⟩ ⟨Nat.zero_le _, Nat.zero_le _⟩ 8 3 rfl rfl rfl hl (Nat.le_of_ble_eq_true rfl) dX4_ledgerSum_85 rfl (fun H locs Z => ?_)
          refine lv_iload_n hx hb dX4_ledgerSum_88 rfl (lv_at hl 2 rfl) ?_
          refine lv_icmp_ne (tgt := 108) hx hb dX4_ledgerSum_89 (by decide) (fun c4 => ?_) (fun c4 => ?_)
          · rw [if_neg c4] at hF
            refine lv_iinc (v := (x4 + (1 : Int32))) (lv' := [(4, .int (x4 + (1 : Int32))), (5, .int (1 : Int32)), (0, .ref (ad 0)), (1, .int x1), (2, .int x2), (3, .int x3)]) hx hb dX4_ledgerSum_108 hl (k := 5) rfl (by rfl) (by decide) rfl (fun ls hl => ?_)
            refine lv_goto (tgt := 26) hx hb dX4_ledgerSum_111 (by decide) ?_
            exact ih x3 ((x4 + (1 : Int32))) _ _ _ hF ok Z (lv_sub hl [2, 3, 4, 5, 0] rfl)
          · rw [if_pos c4] at hF
            refine lv_iload_n hx hb dX4_ledgerSum_92 rfl (lv_at hl 4 rfl) ?_
            refine lv_aload_n hx hb dX4_ledgerSum_93 rfl (lv_at hl 1 rfl) ?_
            refine kget Fc Z inX4 0 rfl rfl 0 (by decide) mF_RX4_10 rfl rfl dX4_ledgerSum_94 ?_
            refine kgetN Fc Z inX2 1 rfl rfl 3 (by decide) nw_RX4_244 rfl rfl dX4_ledgerSum_97 ?_
            refine lv_iload hx hb dX4_ledgerSum_100 (lv_at hl 5 rfl) ?_
            refine lv_iconst (v := (2 : Int32)) hx hb dX4_ledgerSum_102 (by decide) ?_
            refine kr_i (As := [.int x4, .int (2 : Int32)]) Fc hA Z Lens.c3 (c_X3_get l D cI cS (ad 8) (ad 9) 60 5 (60 * 5) sh3 (τ.1 3) ok.2.2.2.1 x4 (2 : Int32) (tget 5 (τ.1 3) x4 (2 : Int32)) rfl) mL_RX4_88 v_X3_get ⟨rfl, rfl⟩ ⟨Nat.le_of_ble_eq_true rfl, Nat.le_of_ble_eq_true rfl⟩ ⟨Nat.zero_le _, Nat.zero_le _⟩ 8 3 rfl rfl rfl hl (Nat.le_of_ble_eq_true rfl) dX4_ledgerSum_103 rfl (fun H locs Z => ?_)
            refine lv_iadd hx hb dX4_ledgerSum_106 ?_
            refine lv_istore_n (lv' := [(3, .int (x3 + (tget 5 (τ.1 3) x4 (2 : Int32)))), (5, .int (1 : Int32)), (0, .ref (ad 0)), (1, .int x1), (2, .int x2), (4, .int x4)]) hx hb dX4_ledgerSum_107 rfl hl (by decide) rfl (fun ls hl => ?_)
            refine lv_iinc (v := (x4 + (1 : Int32))) (lv' := [(4, .int (x4 + (1 : Int32))), (3, .int (x3 + (tget 5 (τ.1 3) x4 (2 : Int32)))), (5, .int (1 : Int32)), (0, .ref (ad 0)), (1, .int x1), (2, .int x2)]) hx hb dX4_ledgerSum_108 hl (k := 5) rfl (by rfl) (by decide) rfl (fun ls hl => ?_)
            refine lv_goto (tgt := 26) hx hb dX4_ledgerSum_111 (by decide) ?_
            exact ih ((x3 + (tget 5 (τ.1 3) x4 (2 : Int32)))) ((x4 + (1 : Int32))) _ _ _ hF ok Z (lv_sub hl [3, 4, 5, 1, 0] rfl)
        · rw [if_neg c2] at hF
          refine lv_aload_n hx hb dX4_ledgerSum_46 rfl (lv_at hl 0 rfl) ?_
          refine kget Fc Z inX4 0 rfl rfl 0 (by decide) mF_RX4_10 rfl rfl dX4_ledgerSum_47 ?_
          refine kgetN Fc Z inX2 1 rfl rfl 3 (by decide) nw_RX4_244 rfl rfl dX4_ledgerSum_50 ?_
          refine lv_iload hx hb dX4_ledgerSum_53 (lv_at hl 4 rfl) ?_
          refine lv_iconst (v := (0 : Int32)) hx hb dX4_ledgerSum_55 (by decide) ?_
          refine kr_i (As := [.int x4, .int (0 : Int32)]) Fc hA Z Lens.c3 (c_X3_get l D cI cS (ad 8) (ad 9) 60 5 (60 * 5) sh3 (τ.1 3) ok.2.2.2.1 x4 (0 : Int32) (tget 5 (τ.1 3) x4 (0 : Int32)) rfl) mL_RX4_88 v_X3_get ⟨rfl, rfl⟩ ⟨Nat.le_of_ble_eq_true rfl, Nat.le_of_ble_eq_true rfl⟩ ⟨Nat.zero_le _, Nat.zero_le _⟩ 8 3 rfl rfl rfl hl (Nat.le_of_ble_eq_true rfl) dX4_ledgerSum_56 rfl (fun H locs Z => ?_)
          refine lv_iload_n hx hb dX4_ledgerSum_59 rfl (lv_at hl 2 rfl) ?_
          refine lv_icmp_ne (tgt := 67) hx hb dX4_ledgerSum_60 (by decide) (fun c5 => ?_) (fun c5 => ?_)
          · rw [if_neg c5] at hF
            refine lv_iconst (v := (0 : Int32)) hx hb dX4_ledgerSum_67 (by decide) ?_
            refine lv_istore (lv' := [(5, .int (0 : Int32)), (0, .ref (ad 0)), (1, .int x1), (2, .int x2), (3, .int x3), (4, .int x4)]) hx hb dX4_ledgerSum_68 hl (by decide) rfl (fun ls hl => ?_)
            refine lv_iload hx hb dX4_ledgerSum_70 (lv_at hl 0 rfl) ?_
            refine lv_if_eq (tgt := 108) hx hb dX4_ledgerSum_72 (by decide) (fun _ => ?_) (fun c6 => absurd c6 (by decide))
            refine lv_iinc (v := (x4 + (1 : Int32))) (lv' := [(4, .int (x4 + (1 : Int32))), (5, .int (0 : Int32)), (0, .ref (ad 0)), (1, .int x1), (2, .int x2), (3, .int x3)]) hx hb dX4_ledgerSum_108 hl (k := 5) rfl (by rfl) (by decide) rfl (fun ls hl => ?_)
            refine lv_goto (tgt := 26) hx hb dX4_ledgerSum_111 (by decide) ?_
            exact ih x3 ((x4 + (1 : Int32))) _ _ _ hF ok Z (lv_sub hl [2, 3, 4, 5, 0] rfl)
          · rw [if_pos c5] at hF
            refine lv_iconst (v := (1 : Int32)) hx hb dX4_ledgerSum_63 (by decide) ?_
            refine lv_goto (tgt := 68) hx hb dX4_ledgerSum_64 (by decide) ?_
            refine lv_istore (lv' := [(5, .int (1 : Int32)), (0, .ref (ad 0)), (1, .int x1), (2, .int x2), (3, .int x3), (4, .int x4)]) hx hb dX4_ledgerSum_68 hl (by decide) rfl (fun ls hl => ?_)
            refine lv_iload hx hb dX4_ledgerSum_70 (lv_at hl 0 rfl) ?_
            refine lv_if_eq (tgt := 108) hx hb dX4_ledgerSum_72 (by decide) (fun c7 => absurd c7 (by decide)) (fun _ => ?_)
            refine lv_aload_n hx hb dX4_ledgerSum_75 rfl (lv_at hl 1 rfl) ?_
            refine kget Fc Z inX4 0 rfl rfl 0 (by decide) mF_RX4_10 rfl rfl dX4_ledgerSum_76 ?_
            refine kgetN Fc Z inX2 1 rfl rfl 3 (by decide) nw_RX4_244 rfl rfl dX4_ledgerSum_79 ?_
            refine lv_iload hx hb dX4_ledgerSum_82 (lv_at hl 5 rfl) ?_
            refine lv_iconst (v := (1 : Int32)) hx hb dX4_ledgerSum_84 (by decide) ?_
            refine kr_i (As := [.int x4, .int (1 : Int32)]) Fc hA Z Lens.c3 (c_X3_get l D cI cS (ad 8) (ad 9) 60 5 (60 * 5) sh3 (τ.1 3) ok.2.2.2.1 x4 (1 : Int32) (tget 5 (τ.1 3) x4 (1 : Int32)) rfl) mL_RX4_88 v_X3_get ⟨rfl, rfl⟩ ⟨Nat.le_of_ble_eq_true rfl, Nat.le_of_ble_eq_true rfl⟩ ⟨Nat.zero_le _, Nat.zero_le _⟩ 8 3 rfl rfl rfl hl (Nat.le_of_ble_eq_true rfl) dX4_ledgerSum_85 rfl (fun H locs Z => ?_)
            refine lv_iload_n hx hb dX4_ledgerSum_88 rfl (lv_at hl 2 rfl) ?_
            refine lv_icmp_ne (tgt := 108) hx hb dX4_ledgerSum_89 (by decide) (fun c8 => ?_) (fun c8 => ?_)
            · rw [if_neg c8] at hF
              refine lv_iinc (v := (x4 + (1 : Int32))) (lv' := [(4, .int (x4 + (1 : Int32))), (5, .int (1 : Int32)), (0, .ref (ad 0)), (1, .int x1), (2, .int x2), (3, .int x3)]) hx hb dX4_ledgerSum_108 hl (k := 5) rfl (by rfl) (by decide) rfl (fun ls hl => ?_)
              refine lv_goto (tgt := 26) hx hb dX4_ledgerSum_111 (by decide) ?_
              exact ih x3 ((x4 + (1 : Int32))) _ _ _ hF ok Z (lv_sub hl [2, 3, 4, 5, 0] rfl)
            · rw [if_pos c8] at hF
              refine lv_iload_n hx hb dX4_ledgerSum_92 rfl (lv_at hl 4 rfl) ?_
              refine lv_aload_n hx hb dX4_ledgerSum_93 rfl (lv_at hl 1 rfl) ?_
              refine kget Fc Z inX4 0 rfl rfl 0 (by decide) mF_RX4_10 rfl rfl dX4_ledgerSum_94 ?_
              refine kgetN Fc Z inX2 1 rfl rfl 3 (by decide) nw_RX4_244 rfl rfl dX4_ledgerSum_97 ?_
              refine lv_iload hx hb dX4_ledgerSum_100 (lv_at hl 5 rfl) ?_
              refine lv_iconst (v := (2 : Int32)) hx hb dX4_ledgerSum_102 (by decide) ?_
              refine kr_i (As := [.int x4, .int (2 : Int32)]) Fc hA Z Lens.c3 (c_X3_get l D cI cS (ad 8) (ad 9) 60 5 (60 * 5) sh3 (τ.1 3) ok.2.2.2.1 x4 (2 : Int32) (tget 5 (τ.1 3) x4 (2 : Int32)) rfl) mL_RX4_88 v_X3_get ⟨rfl, rfl⟩ ⟨Nat.le_of_ble_eq_true rfl, Nat.le_of_ble_eq_true rfl⟩ ⟨Nat.zero_le _, Nat.zero_le _⟩ 8 3 rfl rfl rfl hl (Nat.le_of_ble_eq_true rfl) dX4_ledgerSum_103 rfl (fun H locs Z => ?_)
              refine lv_iadd hx hb dX4_ledgerSum_106 ?_
              refine lv_istore_n (lv' := [(3, .int (x3 + (tget 5 (τ.1 3) x4 (2 : Int32)))), (5, .int (1 : Int32)), (0, .ref (ad 0)), (1, .int x1), (2, .int x2), (4, .int x4)]) hx hb dX4_ledgerSum_107 rfl hl (by decide) rfl (fun ls hl => ?_)
              refine lv_iinc (v := (x4 + (1 : Int32))) (lv' := [(4, .int (x4 + (1 : Int32))), (3, .int (x3 + (tget 5 (τ.1 3) x4 (2 : Int32)))), (5, .int (1 : Int32)), (0, .ref (ad 0)), (1, .int x1), (2, .int x2)]) hx hb dX4_ledgerSum_108 hl (k := 5) rfl (by rfl) (by decide) rfl (fun ls hl => ?_)
              refine lv_goto (tgt := 26) hx hb dX4_ledgerSum_111 (by decide) ?_
              exact ih ((x3 + (tget 5 (τ.1 3) x4 (2 : Int32)))) ((x4 + (1 : Int32))) _ _ _ hF ok Z (lv_sub hl [3, 4, 5, 1, 0] rfl)
  unfold X4_ledgerSum at hF
  refine lv_aload_n hx hb dX4_ledgerSum_0 rfl (lv_at hl 0 rfl) ?_
  refine lv_iload_n hx hb dX4_ledgerSum_1 rfl (lv_at hl 1 rfl) ?_
  refine kr_i (As := [.int p1]) Fc hA Z (Lens.tail []) (c_X4_isPatron l D cI cS ad hs τ ok p1 (X4_isPatron τ p1) rfl) mL_RX4_143 v_X4_isPatron ⟨rfl, rfl⟩ ⟨Nat.le_of_ble_eq_true rfl, Nat.le_of_ble_eq_true rfl⟩ ⟨Nat.zero_le _, Nat.zero_le _⟩ 0 4 rfl rfl rfl hl (Nat.le_of_ble_eq_true rfl) dX4_ledgerSum_2 rfl (fun H locs Z => ?_)
  refine lv_if_eq (tgt := 18) hx hb dX4_ledgerSum_5 (by decide) (fun c9 => ?_) (fun c9 => ?_)
  · rw [if_pos c9] at hF
    refine lv_ldc (v := (-2147483648 : Int32)) hx hb hown (hts _ mK_RX4_249) dX4_ledgerSum_18 ?_
    exact kret (-2147483648 : Int32) τ _ _ _ _ ⟨(Option.some.inj hF), rfl⟩ Z.nila dX4_ledgerSum_20
  · rw [if_neg c9] at hF
    refine lv_iload_n hx hb dX4_ledgerSum_8 rfl (lv_at hl 2 rfl) ?_
    refine lv_iconst (v := (-1 : Int32)) hx hb dX4_ledgerSum_9 (by decide) ?_
    refine lv_icmp_lt (tgt := 18) hx hb dX4_ledgerSum_10 (by decide) (fun c10 => ?_) (fun c10 => ?_)
    · rw [if_pos c10] at hF
      refine lv_ldc (v := (-2147483648 : Int32)) hx hb hown (hts _ mK_RX4_249) dX4_ledgerSum_18 ?_
      exact kret (-2147483648 : Int32) τ _ _ _ _ ⟨(Option.some.inj hF), rfl⟩ Z.nila dX4_ledgerSum_20
    · rw [if_neg c10] at hF
      refine lv_iload_n hx hb dX4_ledgerSum_13 rfl (lv_at hl 2 rfl) ?_
      refine lv_iconst (v := (5 : Int32)) hx hb dX4_ledgerSum_14 (by decide) ?_
      refine lv_icmp_lt (tgt := 21) hx hb dX4_ledgerSum_15 (by decide) (fun c11 => ?_) (fun c11 => ?_)
      · rw [if_pos c11] at hF
        refine lv_iconst (v := (0 : Int32)) hx hb dX4_ledgerSum_21 (by decide) ?_
        refine lv_istore_n (lv' := [(3, .int (0 : Int32)), (0, .ref (ad 0)), (1, .int p1), (2, .int p2)]) hx hb dX4_ledgerSum_22 rfl hl (by decide) rfl (fun ls hl => ?_)
        refine lv_iconst (v := (0 : Int32)) hx hb dX4_ledgerSum_23 (by decide) ?_
        refine lv_istore (lv' := [(4, .int (0 : Int32)), (3, .int (0 : Int32)), (0, .ref (ad 0)), (1, .int p1), (2, .int p2)]) hx hb dX4_ledgerSum_24 hl (by decide) rfl (fun ls hl => ?_)
        exact L26 p1 p2 FU (0 : Int32) (0 : Int32) _ _ _ hF ok Z (lv_sub hl [2, 3, 4, 1, 0] rfl)
      · rw [if_neg c11] at hF
        refine lv_ldc (v := (-2147483648 : Int32)) hx hb hown (hts _ mK_RX4_249) dX4_ledgerSum_18 ?_
        exact kret (-2147483648 : Int32) τ _ _ _ _ ⟨(Option.some.inj hF), rfl⟩ Z.nila dX4_ledgerSum_20
def X4_loanCount_L4 (τ : St) (x1 : Int32) : Nat → Int32 → Int32 → Option (Int32)
  | 0, _, _ => none
  | k + 1, x2, x3 => if (τ.1 0).1 ≤ x3 then (some x2) else if (bi (X4_isAt τ x3 (1 : Int32) x1)) = 0 then (X4_loanCount_L4 τ x1 k x2 ((x3 + (1 : Int32)))) else X4_loanCount_L4 τ x1 k ((x2 + (1 : Int32))) ((x3 + (1 : Int32)))
def X4_loanCount (τ : St) (p1 : Int32) : Option (Int32) := X4_loanCount_L4 τ p1 FU (0 : Int32) (0 : Int32)
def rm_X4_loanCount : Room := { frames := 3, cells := 0, slots := 0, locals := 67 }
theorem v_X4_loanCount : WdV RX4 yX4_loanCount cX4_loanCount 4 (some .int) 1 := ⟨mI_X4_loanCount, mS_X4_loanCount, mZ_RX4, mC_X4_loanCount, by decide +kernel⟩
set_option maxHeartbeats 8000000 in
set_option maxRecDepth 100000 in
theorem c_X4_loanCount (l : Launch) (D : va_G) (cI cS : ClassId) (ad : Nat → Nat) (hs : Bool) (τ : St) (ok : OK τ) (p1 : Int32) (F : Int32) (hF : X4_loanCount τ p1 = some F) : MI l yX4_loanCount cX4_loanCount 4 (some .int) rm_X4_loanCount D cI cS [.ref (ad 0), .int p1] (cW ad cI hs τ) (cW ad cI hs) (fun r u' => r = F ∧ u' = τ) := by
  refine MI.mk RX4 rfl .int rfl (by decide) (Nat.le_of_ble_eq_true rfl) (fun _ _ _ => rfl) ?_
  intro p e s m args below meth c A Q ls Fc hin hA Z kret hl
  obtain ⟨hx, hb, hml, hown, hts, hKN⟩ := id Fc
  replace hl : lv_has ls 4 [(0, .ref (ad 0)), (1, .int p1)] := hl
  replace Z := Z.anil
  have L4 : ∀ (x1 : Int32) (k : Nat) (x2 : Int32) (x3 : Int32) (H : Heap) (locs : List Loc) (ls : Array Slot), X4_loanCount_L4 τ x1  k x2 x3 = some F → OK τ → Ix D A s (cW ad cI hs τ ++ []) H locs → lv_has ls 4 [(0, .ref (ad 0)), (1, .int x1), (2, .int x2), (3, .int x3)] → W p l e rm_X4_loanCount s m args below meth c H locs 0 0 Q (F0 m 4 ls []) := by
    intro x1 k
    induction k with
    | zero => intro x2 x3 H locs ls hF; rw [X4_loanCount_L4] at hF; cases hF
    | succ k ih =>
      intro x2 x3 H locs ls hF ok Z hl
      rw [X4_loanCount_L4] at hF
      refine lv_iload_n hx hb dX4_loanCount_4 rfl (lv_at hl 3 rfl) ?_
      refine lv_aload_n hx hb dX4_loanCount_5 rfl (lv_at hl 0 rfl) ?_
      refine kget Fc Z inX4 0 rfl rfl 0 (by decide) mF_RX4_10 rfl rfl dX4_loanCount_6 ?_
      refine kgetN Fc Z inX2 1 rfl rfl 0 (by decide) nw_RX4_47 rfl rfl dX4_loanCount_9 ?_
      refine kr_i (As := []) Fc hA Z Lens.c0 (c_X3_size l D cI cS (ad 2) (ad 3) 20 12 (20 * 12) sh0 (τ.1 0) ok.1  (τ.1 0).1 rfl) mL_RX4_92 v_X3_size ⟨rfl, rfl⟩ ⟨Nat.le_of_ble_eq_true rfl, Nat.le_of_ble_eq_true rfl⟩ ⟨Nat.zero_le _, Nat.zero_le _⟩ 2 3 rfl rfl rfl hl (Nat.le_of_ble_eq_true rfl) dX4_loanCount_12 rfl (fun H locs Z => ?_)
      refine lv_icmp_ge (tgt := 37) hx hb dX4_loanCount_15 (by decide) (fun c1 => ?_) (fun c1 => ?_)
      · rw [if_pos c1] at hF
        refine lv_iload_n hx hb dX4_loanCount_37 rfl (lv_at hl 2 rfl) ?_
        exact kret x2 τ _ _ _ _ ⟨(Option.some.inj hF), rfl⟩ Z.nila dX4_loanCount_38
      · rw [if_neg c1] at hF
        refine lv_aload_n hx hb dX4_loanCount_18 rfl (lv_at hl 0 rfl) ?_
        refine lv_iload_n hx hb dX4_loanCount_19 rfl (lv_at hl 3 rfl) ?_
        refine lv_iconst (v := (1 : Int32)) hx hb dX4_loanCount_20 (by decide) ?_
        refine lv_iload_n hx hb dX4_loanCount_21 rfl (lv_at hl 1 rfl) ?_
        refine kr_i (As := [.int x3, .int (1 : Int32), .int x1]) Fc hA Z (Lens.tail []) (c_X4_isAt l D cI cS ad hs τ ok x3 (1 : Int32) x1 (X4_isAt τ x3 (1 : Int32) x1) rfl) mL_RX4_231 v_X4_isAt ⟨rfl, rfl⟩ ⟨Nat.le_of_ble_eq_true rfl, Nat.le_of_ble_eq_true rfl⟩ ⟨Nat.zero_le _, Nat.zero_le _⟩ 0 4 rfl rfl rfl hl (Nat.le_of_ble_eq_true rfl) dX4_loanCount_22 rfl (fun H locs Z => ?_)
        refine lv_if_eq (tgt := 31) hx hb dX4_loanCount_25 (by decide) (fun c2 => ?_) (fun c2 => ?_)
        · rw [if_pos c2] at hF
          refine lv_iinc (v := (x3 + (1 : Int32))) (lv' := [(3, .int (x3 + (1 : Int32))), (0, .ref (ad 0)), (1, .int x1), (2, .int x2)]) hx hb dX4_loanCount_31 hl (k := 3) rfl (by rfl) (by decide) rfl (fun ls hl => ?_)
          refine lv_goto (tgt := 4) hx hb dX4_loanCount_34 (by decide) ?_
          exact ih x2 ((x3 + (1 : Int32))) _ _ _ hF ok Z (lv_sub hl [1, 2, 3, 0] rfl)
        · rw [if_neg c2] at hF
          refine lv_iinc (v := (x2 + (1 : Int32))) (lv' := [(2, .int (x2 + (1 : Int32))), (0, .ref (ad 0)), (1, .int x1), (3, .int x3)]) hx hb dX4_loanCount_28 hl (k := 2) rfl (by rfl) (by decide) rfl (fun ls hl => ?_)
          refine lv_iinc (v := (x3 + (1 : Int32))) (lv' := [(3, .int (x3 + (1 : Int32))), (2, .int (x2 + (1 : Int32))), (0, .ref (ad 0)), (1, .int x1)]) hx hb dX4_loanCount_31 hl (k := 3) rfl (by rfl) (by decide) rfl (fun ls hl => ?_)
          refine lv_goto (tgt := 4) hx hb dX4_loanCount_34 (by decide) ?_
          exact ih ((x2 + (1 : Int32))) ((x3 + (1 : Int32))) _ _ _ hF ok Z (lv_sub hl [2, 3, 1, 0] rfl)
  unfold X4_loanCount at hF
  refine lv_iconst (v := (0 : Int32)) hx hb dX4_loanCount_0 (by decide) ?_
  refine lv_istore_n (lv' := [(2, .int (0 : Int32)), (0, .ref (ad 0)), (1, .int p1)]) hx hb dX4_loanCount_1 rfl hl (by decide) rfl (fun ls hl => ?_)
  refine lv_iconst (v := (0 : Int32)) hx hb dX4_loanCount_2 (by decide) ?_
  refine lv_istore_n (lv' := [(3, .int (0 : Int32)), (2, .int (0 : Int32)), (0, .ref (ad 0)), (1, .int p1)]) hx hb dX4_loanCount_3 rfl hl (by decide) rfl (fun ls hl => ?_)
  exact L4 p1 FU (0 : Int32) (0 : Int32) _ _ _ hF ok Z (lv_sub hl [2, 3, 1, 0] rfl)
def X4_owesTheLimit (τ : St) (p1 : Int32) : Bool := if (tget 4 (τ.1 1) p1 (0 : Int32)) < (X4_valueOf τ (4 : Int32)) then (false) else true
def rm_X4_owesTheLimit : Room := { frames := 2, cells := 0, slots := 0, locals := 44 }
theorem v_X4_owesTheLimit : WdV RX4 yX4_owesTheLimit cX4_owesTheLimit 2 (some .boolean) 1 := ⟨mI_X4_owesTheLimit, mS_X4_owesTheLimit, mZ_RX4, mC_X4_owesTheLimit, by decide +kernel⟩
set_option maxHeartbeats 8000000 in
set_option maxRecDepth 100000 in
theorem c_X4_owesTheLimit (l : Launch) (D : va_G) (cI cS : ClassId) (ad : Nat → Nat) (hs : Bool) (τ : St) (ok : OK τ) (p1 : Int32) (F : Bool) (hF : X4_owesTheLimit τ p1 = F) : MI l yX4_owesTheLimit cX4_owesTheLimit 2 (some .boolean) rm_X4_owesTheLimit D cI cS [.ref (ad 0), .int p1] (cW ad cI hs τ) (cW ad cI hs) (fun r u' => r = bi F ∧ u' = τ) := by
  refine MI.mk RX4 rfl .boolean rfl (by decide) (Nat.le_of_ble_eq_true rfl) (fun r u h => by rw [h.1]; exact bi_nar _) ?_
  intro p e s m args below meth c A Q ls Fc hin hA Z kret hl
  obtain ⟨hx, hb, hml, hown, hts, hKN⟩ := id Fc
  replace hl : lv_has ls 2 [(0, .ref (ad 0)), (1, .int p1)] := hl
  replace Z := Z.anil
  unfold X4_owesTheLimit at hF
  refine lv_aload_n hx hb dX4_owesTheLimit_0 rfl (lv_at hl 0 rfl) ?_
  refine kget Fc Z inX4 0 rfl rfl 0 (by decide) mF_RX4_10 rfl rfl dX4_owesTheLimit_1 ?_
  refine kgetN Fc Z inX2 1 rfl rfl 1 (by decide) nw_RX4_69 rfl rfl dX4_owesTheLimit_4 ?_
  refine lv_iload_n hx hb dX4_owesTheLimit_7 rfl (lv_at hl 1 rfl) ?_
  refine lv_iconst (v := (0 : Int32)) hx hb dX4_owesTheLimit_8 (by decide) ?_
  refine kr_i (As := [.int p1, .int (0 : Int32)]) Fc hA Z Lens.c1 (c_X3_get l D cI cS (ad 4) (ad 5) 8 4 (8 * 4) sh1 (τ.1 1) ok.2.1 p1 (0 : Int32) (tget 4 (τ.1 1) p1 (0 : Int32)) rfl) mL_RX4_88 v_X3_get ⟨rfl, rfl⟩ ⟨Nat.le_of_ble_eq_true rfl, Nat.le_of_ble_eq_true rfl⟩ ⟨Nat.zero_le _, Nat.zero_le _⟩ 4 3 rfl rfl rfl hl (Nat.le_of_ble_eq_true rfl) dX4_owesTheLimit_9 rfl (fun H locs Z => ?_)
  refine lv_aload_n hx hb dX4_owesTheLimit_12 rfl (lv_at hl 0 rfl) ?_
  refine lv_iconst (v := (4 : Int32)) hx hb dX4_owesTheLimit_13 (by decide) ?_
  refine kr_i (As := [.int (4 : Int32)]) Fc hA Z (Lens.tail []) (c_X4_valueOf l D cI cS ad hs τ ok (4 : Int32) (X4_valueOf τ (4 : Int32)) rfl) mL_RX4_82 v_X4_valueOf ⟨rfl, rfl⟩ ⟨Nat.le_of_ble_eq_true rfl, Nat.le_of_ble_eq_true rfl⟩ ⟨Nat.zero_le _, Nat.zero_le _⟩ 0 4 rfl rfl rfl hl (Nat.le_of_ble_eq_true rfl) dX4_owesTheLimit_14 rfl (fun H locs Z => ?_)
  refine lv_icmp_lt (tgt := 24) hx hb dX4_owesTheLimit_17 (by decide) (fun c1 => ?_) (fun c1 => ?_)
  · rw [if_pos c1] at hF
    refine lv_iconst (v := (0 : Int32)) hx hb dX4_owesTheLimit_24 (by decide) ?_
    exact kret (0 : Int32) τ _ _ _ _ ⟨(congrArg bi hF), rfl⟩ Z.nila dX4_owesTheLimit_25
  · rw [if_neg c1] at hF
    refine lv_iconst (v := (1 : Int32)) hx hb dX4_owesTheLimit_20 (by decide) ?_
    refine lv_goto (tgt := 25) hx hb dX4_owesTheLimit_21 (by decide) ?_
    exact kret (1 : Int32) τ _ _ _ _ ⟨(congrArg bi hF), rfl⟩ Z.nila dX4_owesTheLimit_25
def X4_reasonAgainstLending (τ : St) (p1 p2 : Int32) : Option (Int32) := if (bi (X4_isPatron τ p1)) = 0 then (some (-1 : Int32)) else if (bi (X4_isCopy τ p2)) = 0 then (some (-1 : Int32)) else if (bi (X4_owesTheLimit τ p1)) = 0 then ((X4_loanCount τ p1).bind fun v4 => if v4 < (X4_valueOf τ (1 : Int32)) then (if (bi (X4_canBeTakenBy τ p1 p2)) = 0 then (some (3 : Int32)) else some (0 : Int32)) else some (2 : Int32)) else some (1 : Int32)
def rm_X4_reasonAgainstLending : Room := { frames := 4, cells := 0, slots := 0, locals := 90 }
theorem v_X4_reasonAgainstLending : WdV RX4 yX4_reasonAgainstLending cX4_reasonAgainstLending 3 (some .int) 2 := ⟨mI_X4_reasonAgainstLending, mS_X4_reasonAgainstLending, mZ_RX4, mC_X4_reasonAgainstLending, by decide +kernel⟩
set_option maxHeartbeats 8000000 in
set_option maxRecDepth 100000 in
theorem c_X4_reasonAgainstLending (l : Launch) (D : va_G) (cI cS : ClassId) (ad : Nat → Nat) (hs : Bool) (τ : St) (ok : OK τ) (p1 p2 : Int32) (F : Int32) (hF : X4_reasonAgainstLending τ p1 p2 = some F) : MI l yX4_reasonAgainstLending cX4_reasonAgainstLending 3 (some .int) rm_X4_reasonAgainstLending D cI cS [.ref (ad 0), .int p1, .int p2] (cW ad cI hs τ) (cW ad cI hs) (fun r u' => r = F ∧ u' = τ) := by
  refine MI.mk RX4 rfl .int rfl (by decide) (Nat.le_of_ble_eq_true rfl) (fun _ _ _ => rfl) ?_
  intro p e s m args below meth c A Q ls Fc hin hA Z kret hl
  obtain ⟨hx, hb, hml, hown, hts, hKN⟩ := id Fc
  replace hl : lv_has ls 3 [(0, .ref (ad 0)), (1, .int p1), (2, .int p2)] := hl
  replace Z := Z.anil
  unfold X4_reasonAgainstLending at hF
  refine lv_aload_n hx hb dX4_reasonAgainstLending_0 rfl (lv_at hl 0 rfl) ?_
  refine lv_iload_n hx hb dX4_reasonAgainstLending_1 rfl (lv_at hl 1 rfl) ?_
  refine kr_i (As := [.int p1]) Fc hA Z (Lens.tail []) (c_X4_isPatron l D cI cS ad hs τ ok p1 (X4_isPatron τ p1) rfl) mL_RX4_143 v_X4_isPatron ⟨rfl, rfl⟩ ⟨Nat.le_of_ble_eq_true rfl, Nat.le_of_ble_eq_true rfl⟩ ⟨Nat.zero_le _, Nat.zero_le _⟩ 0 4 rfl rfl rfl hl (Nat.le_of_ble_eq_true rfl) dX4_reasonAgainstLending_2 rfl (fun H locs Z => ?_)
  refine lv_if_eq (tgt := 16) hx hb dX4_reasonAgainstLending_5 (by decide) (fun c1 => ?_) (fun c1 => ?_)
  · rw [if_pos c1] at hF
    refine lv_iconst (v := (-1 : Int32)) hx hb dX4_reasonAgainstLending_16 (by decide) ?_
    exact kret (-1 : Int32) τ _ _ _ _ ⟨(Option.some.inj hF), rfl⟩ Z.nila dX4_reasonAgainstLending_17
  · rw [if_neg c1] at hF
    refine lv_aload_n hx hb dX4_reasonAgainstLending_8 rfl (lv_at hl 0 rfl) ?_
    refine lv_iload_n hx hb dX4_reasonAgainstLending_9 rfl (lv_at hl 2 rfl) ?_
    refine kr_i (As := [.int p2]) Fc hA Z (Lens.tail []) (c_X4_isCopy l D cI cS ad hs τ ok p2 (X4_isCopy τ p2) rfl) mL_RX4_85 v_X4_isCopy ⟨rfl, rfl⟩ ⟨Nat.le_of_ble_eq_true rfl, Nat.le_of_ble_eq_true rfl⟩ ⟨Nat.zero_le _, Nat.zero_le _⟩ 0 4 rfl rfl rfl hl (Nat.le_of_ble_eq_true rfl) dX4_reasonAgainstLending_10 rfl (fun H locs Z => ?_)
    refine lv_if_ne (tgt := 18) hx hb dX4_reasonAgainstLending_13 (by decide) (fun c2 => ?_) (fun c2 => ?_)
    · rw [if_neg c2] at hF
      refine lv_aload_n hx hb dX4_reasonAgainstLending_18 rfl (lv_at hl 0 rfl) ?_
      refine lv_iload_n hx hb dX4_reasonAgainstLending_19 rfl (lv_at hl 1 rfl) ?_
      refine kr_i (As := [.int p1]) Fc hA Z (Lens.tail []) (c_X4_owesTheLimit l D cI cS ad hs τ ok p1 (X4_owesTheLimit τ p1) rfl) mL_RX4_146 v_X4_owesTheLimit ⟨rfl, rfl⟩ ⟨Nat.le_of_ble_eq_true rfl, Nat.le_of_ble_eq_true rfl⟩ ⟨Nat.zero_le _, Nat.zero_le _⟩ 0 4 rfl rfl rfl hl (Nat.le_of_ble_eq_true rfl) dX4_reasonAgainstLending_20 rfl (fun H locs Z => ?_)
      refine lv_if_eq (tgt := 28) hx hb dX4_reasonAgainstLending_23 (by decide) (fun c3 => ?_) (fun c3 => ?_)
      · rw [if_pos c3] at hF
        refine lv_aload_n hx hb dX4_reasonAgainstLending_28 rfl (lv_at hl 0 rfl) ?_
        refine lv_iload_n hx hb dX4_reasonAgainstLending_29 rfl (lv_at hl 1 rfl) ?_
        obtain ⟨v4, h5, hF⟩ := obind hF
        refine kr_i (As := [.int p1]) Fc hA Z (Lens.tail []) (c_X4_loanCount l D cI cS ad hs τ ok p1 v4 h5) mL_RX4_149 v_X4_loanCount ⟨rfl, rfl⟩ ⟨Nat.le_of_ble_eq_true rfl, Nat.le_of_ble_eq_true rfl⟩ ⟨Nat.zero_le _, Nat.zero_le _⟩ 0 4 rfl rfl rfl hl (Nat.le_of_ble_eq_true rfl) dX4_reasonAgainstLending_30 rfl (fun H locs Z => ?_)
        refine lv_aload_n hx hb dX4_reasonAgainstLending_33 rfl (lv_at hl 0 rfl) ?_
        refine lv_iconst (v := (1 : Int32)) hx hb dX4_reasonAgainstLending_34 (by decide) ?_
        refine kr_i (As := [.int (1 : Int32)]) Fc hA Z (Lens.tail []) (c_X4_valueOf l D cI cS ad hs τ ok (1 : Int32) (X4_valueOf τ (1 : Int32)) rfl) mL_RX4_82 v_X4_valueOf ⟨rfl, rfl⟩ ⟨Nat.le_of_ble_eq_true rfl, Nat.le_of_ble_eq_true rfl⟩ ⟨Nat.zero_le _, Nat.zero_le _⟩ 0 4 rfl rfl rfl hl (Nat.le_of_ble_eq_true rfl) dX4_reasonAgainstLending_35 rfl (fun H locs Z => ?_)
        refine lv_icmp_lt (tgt := 43) hx hb dX4_reasonAgainstLending_38 (by decide) (fun c6 => ?_) (fun c6 => ?_)
        · rw [if_pos c6] at hF
          refine lv_aload_n hx hb dX4_reasonAgainstLending_43 rfl (lv_at hl 0 rfl) ?_
          refine lv_iload_n hx hb dX4_reasonAgainstLending_44 rfl (lv_at hl 1 rfl) ?_
          refine lv_iload_n hx hb dX4_reasonAgainstLending_45 rfl (lv_at hl 2 rfl) ?_
          refine kr_i (As := [.int p1, .int p2]) Fc hA Z (Lens.tail []) (c_X4_canBeTakenBy l D cI cS ad hs τ ok p1 p2 (X4_canBeTakenBy τ p1 p2) rfl) mL_RX4_152 v_X4_canBeTakenBy ⟨rfl, rfl⟩ ⟨Nat.le_of_ble_eq_true rfl, Nat.le_of_ble_eq_true rfl⟩ ⟨Nat.zero_le _, Nat.zero_le _⟩ 0 4 rfl rfl rfl hl (Nat.le_of_ble_eq_true rfl) dX4_reasonAgainstLending_46 rfl (fun H locs Z => ?_)
          refine lv_if_eq (tgt := 56) hx hb dX4_reasonAgainstLending_49 (by decide) (fun c7 => ?_) (fun c7 => ?_)
          · rw [if_pos c7] at hF
            refine lv_iconst (v := (3 : Int32)) hx hb dX4_reasonAgainstLending_56 (by decide) ?_
            exact kret (3 : Int32) τ _ _ _ _ ⟨(Option.some.inj hF), rfl⟩ Z.nila dX4_reasonAgainstLending_57
          · rw [if_neg c7] at hF
            refine lv_iconst (v := (0 : Int32)) hx hb dX4_reasonAgainstLending_52 (by decide) ?_
            refine lv_goto (tgt := 57) hx hb dX4_reasonAgainstLending_53 (by decide) ?_
            exact kret (0 : Int32) τ _ _ _ _ ⟨(Option.some.inj hF), rfl⟩ Z.nila dX4_reasonAgainstLending_57
        · rw [if_neg c6] at hF
          refine lv_iconst (v := (2 : Int32)) hx hb dX4_reasonAgainstLending_41 (by decide) ?_
          exact kret (2 : Int32) τ _ _ _ _ ⟨(Option.some.inj hF), rfl⟩ Z.nila dX4_reasonAgainstLending_42
      · rw [if_neg c3] at hF
        refine lv_iconst (v := (1 : Int32)) hx hb dX4_reasonAgainstLending_26 (by decide) ?_
        exact kret (1 : Int32) τ _ _ _ _ ⟨(Option.some.inj hF), rfl⟩ Z.nila dX4_reasonAgainstLending_27
    · rw [if_pos c2] at hF
      refine lv_iconst (v := (-1 : Int32)) hx hb dX4_reasonAgainstLending_16 (by decide) ?_
      exact kret (-1 : Int32) τ _ _ _ _ ⟨(Option.some.inj hF), rfl⟩ Z.nila dX4_reasonAgainstLending_17
def X4_lendOut (τ : St) (p1 p2 : Int32) : Option (Int32 × St) := (X4_reasonAgainstLending τ p1 p2).bind fun v1 => if v1 = 0 then (if (X4_stateOf τ p2) = (3 : Int32) then ((X4_findHold τ p1 (X4_titleOf τ p2)).bind fun v9 => bnd (X4_removeHold τ v9) fun q11 => bnd (X4_putCopy q11 p2 (1 : Int32) p1 ((q11.2 + (X4_valueOf q11 (0 : Int32))))) fun q13 => bnd (X4_putLoan q13 p2 q13.2 (0 : Int32) (0 : Int32)) fun q15 => some (((q11.2 + (X4_valueOf q11 (0 : Int32))), q15))) else bnd (X4_putCopy τ p2 (1 : Int32) p1 ((τ.2 + (X4_valueOf τ (0 : Int32))))) fun q5 => bnd (X4_putLoan q5 p2 q5.2 (0 : Int32) (0 : Int32)) fun q7 => some (((τ.2 + (X4_valueOf τ (0 : Int32))), q7))) else some (((X4_refusal v1), τ))
def rm_X4_lendOut : Room := { frames := 5, cells := 0, slots := 0, locals := 112 }
theorem v_X4_lendOut : WdV RX4 yX4_lendOut cX4_lendOut 5 (some .int) 2 := ⟨mI_X4_lendOut, mS_X4_lendOut, mZ_RX4, mC_X4_lendOut, by decide +kernel⟩
set_option maxHeartbeats 8000000 in
set_option maxRecDepth 100000 in
theorem c_X4_lendOut (l : Launch) (D : va_G) (cI cS : ClassId) (ad : Nat → Nat) (hs : Bool) (τ : St) (ok : OK τ) (p1 p2 : Int32) (F : Int32 × St) (hF : X4_lendOut τ p1 p2 = some F) : MI l yX4_lendOut cX4_lendOut 5 (some .int) rm_X4_lendOut D cI cS [.ref (ad 0), .int p1, .int p2] (cW ad cI hs τ) (cW ad cI hs) (fun r u => r = F.1 ∧ u = F.2 ∧ OK u) := by
  refine MI.mk RX4 rfl .int rfl (by decide) (Nat.le_of_ble_eq_true rfl) (fun _ _ _ => rfl) ?_
  intro p e s m args below meth c A Q ls Fc hin hA Z kret hl
  obtain ⟨hx, hb, hml, hown, hts, hKN⟩ := id Fc
  replace hl : lv_has ls 5 [(0, .ref (ad 0)), (1, .int p1), (2, .int p2)] := hl
  replace Z := Z.anil
  unfold X4_lendOut at hF
  refine lv_aload_n hx hb dX4_lendOut_0 rfl (lv_at hl 0 rfl) ?_
  refine lv_iload_n hx hb dX4_lendOut_1 rfl (lv_at hl 1 rfl) ?_
  refine lv_iload_n hx hb dX4_lendOut_2 rfl (lv_at hl 2 rfl) ?_
  obtain ⟨v1, h2, hF⟩ := obind hF
  refine kr_i (As := [.int p1, .int p2]) Fc hA Z (Lens.tail []) (c_X4_reasonAgainstLending l D cI cS ad hs τ ok p1 p2 v1 h2) mL_RX4_134 v_X4_reasonAgainstLending ⟨rfl, rfl⟩ ⟨Nat.le_of_ble_eq_true rfl, Nat.le_of_ble_eq_true rfl⟩ ⟨Nat.zero_le _, Nat.zero_le _⟩ 0 4 rfl rfl rfl hl (Nat.le_of_ble_eq_true rfl) dX4_lendOut_3 rfl (fun H locs Z => ?_)
  refine lv_istore_n (lv' := [(3, .int v1), (0, .ref (ad 0)), (1, .int p1), (2, .int p2)]) hx hb dX4_lendOut_6 rfl hl (by decide) rfl (fun ls hl => ?_)
  refine lv_iload_n hx hb dX4_lendOut_7 rfl (lv_at hl 0 rfl) ?_
  refine lv_if_eq (tgt := 16) hx hb dX4_lendOut_8 (by decide) (fun c3 => ?_) (fun c3 => ?_)
  · rw [if_pos c3] at hF
    refine lv_aload_n hx hb dX4_lendOut_16 rfl (lv_at hl 1 rfl) ?_
    refine lv_iload_n hx hb dX4_lendOut_17 rfl (lv_at hl 3 rfl) ?_
    refine kr_i (As := [.int p2]) Fc hA Z (Lens.tail []) (c_X4_stateOf l D cI cS ad hs τ ok p2 (X4_stateOf τ p2) rfl) mL_RX4_95 v_X4_stateOf ⟨rfl, rfl⟩ ⟨Nat.le_of_ble_eq_true rfl, Nat.le_of_ble_eq_true rfl⟩ ⟨Nat.zero_le _, Nat.zero_le _⟩ 0 4 rfl rfl rfl hl (Nat.le_of_ble_eq_true rfl) dX4_lendOut_18 rfl (fun H locs Z => ?_)
    refine lv_iconst (v := (3 : Int32)) hx hb dX4_lendOut_21 (by decide) ?_
    refine lv_icmp_ne (tgt := 39) hx hb dX4_lendOut_22 (by decide) (fun c4 => ?_) (fun c4 => ?_)
    · rw [if_neg c4] at hF
      refine lv_aload_n hx hb dX4_lendOut_39 rfl (lv_at hl 1 rfl) ?_
      refine kget Fc Z inX4 0 rfl rfl 0 (by decide) mF_RX4_10 rfl rfl dX4_lendOut_40 ?_
      refine kgetN Fc Z inX2 1 rfl rfl 5 (by decide) nw_RX4_98 rfl rfl dX4_lendOut_43 ?_
      refine lv_aload_n hx hb dX4_lendOut_46 rfl (lv_at hl 1 rfl) ?_
      refine lv_iconst (v := (0 : Int32)) hx hb dX4_lendOut_47 (by decide) ?_
      refine kr_i (As := [.int (0 : Int32)]) Fc hA Z (Lens.tail []) (c_X4_valueOf l D cI cS ad hs τ ok (0 : Int32) (X4_valueOf τ (0 : Int32)) rfl) mL_RX4_82 v_X4_valueOf ⟨rfl, rfl⟩ ⟨Nat.le_of_ble_eq_true rfl, Nat.le_of_ble_eq_true rfl⟩ ⟨Nat.zero_le _, Nat.zero_le _⟩ 0 4 rfl rfl rfl hl (Nat.le_of_ble_eq_true rfl) dX4_lendOut_48 rfl (fun H locs Z => ?_)
      refine lv_iadd hx hb dX4_lendOut_51 ?_
      refine lv_istore (lv' := [(4, .int (τ.2 + (X4_valueOf τ (0 : Int32)))), (3, .int v1), (0, .ref (ad 0)), (1, .int p1), (2, .int p2)]) hx hb dX4_lendOut_52 hl (by decide) rfl (fun ls hl => ?_)
      refine lv_aload_n hx hb dX4_lendOut_54 rfl (lv_at hl 2 rfl) ?_
      refine lv_iload_n hx hb dX4_lendOut_55 rfl (lv_at hl 4 rfl) ?_
      refine lv_iconst (v := (1 : Int32)) hx hb dX4_lendOut_56 (by decide) ?_
      refine lv_iload_n hx hb dX4_lendOut_57 rfl (lv_at hl 3 rfl) ?_
      refine lv_iload hx hb dX4_lendOut_58 (lv_at hl 0 rfl) ?_
      obtain ⟨q5, e6, hF⟩ := bnd_el hF
      refine kv_i (As := [.int p2, .int (1 : Int32), .int p1, .int ((τ.2 + (X4_valueOf τ (0 : Int32))))]) (ok := OK) Fc hA Z (Lens.tail []) (c_X4_putCopy l D cI cS ad hs τ ok p2 (1 : Int32) p1 ((τ.2 + (X4_valueOf τ (0 : Int32)))) q5 e6.symm) mL_RX4_114 v_X4_putCopy ⟨rfl, rfl⟩ ⟨Nat.le_of_ble_eq_true rfl, Nat.le_of_ble_eq_true rfl⟩ ⟨Nat.zero_le _, Nat.zero_le _⟩ 0 4 rfl rfl rfl hl (Nat.le_of_ble_eq_true rfl) dX4_lendOut_60 rfl (fun H locs ok1 Z => ?_)
      have ok := ok1
      refine lv_aload_n hx hb dX4_lendOut_63 rfl (lv_at hl 2 rfl) ?_
      refine lv_iload_n hx hb dX4_lendOut_64 rfl (lv_at hl 4 rfl) ?_
      refine lv_aload_n hx hb dX4_lendOut_65 rfl (lv_at hl 2 rfl) ?_
      refine kget Fc Z inX4 0 rfl rfl 0 (by decide) mF_RX4_10 rfl rfl dX4_lendOut_66 ?_
      refine kgetN Fc Z inX2 1 rfl rfl 5 (by decide) nw_RX4_98 rfl rfl dX4_lendOut_69 ?_
      refine lv_iconst (v := (0 : Int32)) hx hb dX4_lendOut_72 (by decide) ?_
      refine lv_iconst (v := (0 : Int32)) hx hb dX4_lendOut_73 (by decide) ?_
      obtain ⟨q7, e8, hF⟩ := bnd_el hF
      refine kv_i (As := [.int p2, .int q5.2, .int (0 : Int32), .int (0 : Int32)]) (ok := OK) Fc hA Z (Lens.tail []) (c_X4_putLoan l D cI cS ad hs q5 ok p2 q5.2 (0 : Int32) (0 : Int32) q7 e8.symm) mL_RX4_140 v_X4_putLoan ⟨rfl, rfl⟩ ⟨Nat.le_of_ble_eq_true rfl, Nat.le_of_ble_eq_true rfl⟩ ⟨Nat.zero_le _, Nat.zero_le _⟩ 0 4 rfl rfl rfl hl (Nat.le_of_ble_eq_true rfl) dX4_lendOut_74 rfl (fun H locs ok1 Z => ?_)
      have ok := ok1
      refine lv_iload hx hb dX4_lendOut_77 (lv_at hl 0 rfl) ?_
      exact kret ((τ.2 + (X4_valueOf τ (0 : Int32)))) q7 _ _ _ _ ⟨(pfst (Option.some.inj hF)), psnd (Option.some.inj hF), ok⟩ Z.nila dX4_lendOut_79
    · rw [if_pos c4] at hF
      refine lv_aload_n hx hb dX4_lendOut_25 rfl (lv_at hl 1 rfl) ?_
      refine lv_aload_n hx hb dX4_lendOut_26 rfl (lv_at hl 1 rfl) ?_
      refine lv_iload_n hx hb dX4_lendOut_27 rfl (lv_at hl 2 rfl) ?_
      refine lv_aload_n hx hb dX4_lendOut_28 rfl (lv_at hl 1 rfl) ?_
      refine lv_iload_n hx hb dX4_lendOut_29 rfl (lv_at hl 3 rfl) ?_
      refine kr_i (As := [.int p2]) Fc hA Z (Lens.tail []) (c_X4_titleOf l D cI cS ad hs τ ok p2 (X4_titleOf τ p2) rfl) mL_RX4_118 v_X4_titleOf ⟨rfl, rfl⟩ ⟨Nat.le_of_ble_eq_true rfl, Nat.le_of_ble_eq_true rfl⟩ ⟨Nat.zero_le _, Nat.zero_le _⟩ 0 4 rfl rfl rfl hl (Nat.le_of_ble_eq_true rfl) dX4_lendOut_30 rfl (fun H locs Z => ?_)
      obtain ⟨v9, h10, hF⟩ := obind hF
      refine kr_i (As := [.int p1, .int (X4_titleOf τ p2)]) Fc hA Z (Lens.tail []) (c_X4_findHold l D cI cS ad hs τ ok p1 (X4_titleOf τ p2) v9 h10) mL_RX4_121 v_X4_findHold ⟨rfl, rfl⟩ ⟨Nat.le_of_ble_eq_true rfl, Nat.le_of_ble_eq_true rfl⟩ ⟨Nat.zero_le _, Nat.zero_le _⟩ 0 4 rfl rfl rfl hl (Nat.le_of_ble_eq_true rfl) dX4_lendOut_33 rfl (fun H locs Z => ?_)
      obtain ⟨q11, e12, hF⟩ := bnd_el hF
      refine kv_i (As := [.int v9]) (ok := OK) Fc hA Z (Lens.tail []) (c_X4_removeHold l D cI cS ad hs τ ok v9 q11 e12.symm) mL_RX4_124 v_X4_removeHold ⟨rfl, rfl⟩ ⟨Nat.le_of_ble_eq_true rfl, Nat.le_of_ble_eq_true rfl⟩ ⟨Nat.zero_le _, Nat.zero_le _⟩ 0 4 rfl rfl rfl hl (Nat.le_of_ble_eq_true rfl) dX4_lendOut_36 rfl (fun H locs ok1 Z => ?_)
      have ok := ok1
      refine lv_aload_n hx hb dX4_lendOut_39 rfl (lv_at hl 1 rfl) ?_
      refine kget Fc Z inX4 0 rfl rfl 0 (by decide) mF_RX4_10 rfl rfl dX4_lendOut_40 ?_
      refine kgetN Fc Z inX2 1 rfl rfl 5 (by decide) nw_RX4_98 rfl rfl dX4_lendOut_43 ?_
      refine lv_aload_n hx hb dX4_lendOut_46 rfl (lv_at hl 1 rfl) ?_
      refine lv_iconst (v := (0 : Int32)) hx hb dX4_lendOut_47 (by decide) ?_
      refine kr_i (As := [.int (0 : Int32)]) Fc hA Z (Lens.tail []) (c_X4_valueOf l D cI cS ad hs q11 ok (0 : Int32) (X4_valueOf q11 (0 : Int32)) rfl) mL_RX4_82 v_X4_valueOf ⟨rfl, rfl⟩ ⟨Nat.le_of_ble_eq_true rfl, Nat.le_of_ble_eq_true rfl⟩ ⟨Nat.zero_le _, Nat.zero_le _⟩ 0 4 rfl rfl rfl hl (Nat.le_of_ble_eq_true rfl) dX4_lendOut_48 rfl (fun H locs Z => ?_)
      refine lv_iadd hx hb dX4_lendOut_51 ?_
      refine lv_istore (lv' := [(4, .int (q11.2 + (X4_valueOf q11 (0 : Int32)))), (3, .int v1), (0, .ref (ad 0)), (1, .int p1), (2, .int p2)]) hx hb dX4_lendOut_52 hl (by decide) rfl (fun ls hl => ?_)
      refine lv_aload_n hx hb dX4_lendOut_54 rfl (lv_at hl 2 rfl) ?_
      refine lv_iload_n hx hb dX4_lendOut_55 rfl (lv_at hl 4 rfl) ?_
      refine lv_iconst (v := (1 : Int32)) hx hb dX4_lendOut_56 (by decide) ?_
      refine lv_iload_n hx hb dX4_lendOut_57 rfl (lv_at hl 3 rfl) ?_
      refine lv_iload hx hb dX4_lendOut_58 (lv_at hl 0 rfl) ?_
      obtain ⟨q13, e14, hF⟩ := bnd_el hF
      refine kv_i (As := [.int p2, .int (1 : Int32), .int p1, .int ((q11.2 + (X4_valueOf q11 (0 : Int32))))]) (ok := OK) Fc hA Z (Lens.tail []) (c_X4_putCopy l D cI cS ad hs q11 ok p2 (1 : Int32) p1 ((q11.2 + (X4_valueOf q11 (0 : Int32)))) q13 e14.symm) mL_RX4_114 v_X4_putCopy ⟨rfl, rfl⟩ ⟨Nat.le_of_ble_eq_true rfl, Nat.le_of_ble_eq_true rfl⟩ ⟨Nat.zero_le _, Nat.zero_le _⟩ 0 4 rfl rfl rfl hl (Nat.le_of_ble_eq_true rfl) dX4_lendOut_60 rfl (fun H locs ok1 Z => ?_)
      have ok := ok1
      refine lv_aload_n hx hb dX4_lendOut_63 rfl (lv_at hl 2 rfl) ?_
      refine lv_iload_n hx hb dX4_lendOut_64 rfl (lv_at hl 4 rfl) ?_
      refine lv_aload_n hx hb dX4_lendOut_65 rfl (lv_at hl 2 rfl) ?_
      refine kget Fc Z inX4 0 rfl rfl 0 (by decide) mF_RX4_10 rfl rfl dX4_lendOut_66 ?_
      refine kgetN Fc Z inX2 1 rfl rfl 5 (by decide) nw_RX4_98 rfl rfl dX4_lendOut_69 ?_
      refine lv_iconst (v := (0 : Int32)) hx hb dX4_lendOut_72 (by decide) ?_
      refine lv_iconst (v := (0 : Int32)) hx hb dX4_lendOut_73 (by decide) ?_
      obtain ⟨q15, e16, hF⟩ := bnd_el hF
      refine kv_i (As := [.int p2, .int q13.2, .int (0 : Int32), .int (0 : Int32)]) (ok := OK) Fc hA Z (Lens.tail []) (c_X4_putLoan l D cI cS ad hs q13 ok p2 q13.2 (0 : Int32) (0 : Int32) q15 e16.symm) mL_RX4_140 v_X4_putLoan ⟨rfl, rfl⟩ ⟨Nat.le_of_ble_eq_true rfl, Nat.le_of_ble_eq_true rfl⟩ ⟨Nat.zero_le _, Nat.zero_le _⟩ 0 4 rfl rfl rfl hl (Nat.le_of_ble_eq_true rfl) dX4_lendOut_74 rfl (fun H locs ok1 Z => ?_)
      have ok := ok1
      refine lv_iload hx hb dX4_lendOut_77 (lv_at hl 0 rfl) ?_
      exact kret ((q11.2 + (X4_valueOf q11 (0 : Int32)))) q15 _ _ _ _ ⟨(pfst (Option.some.inj hF)), psnd (Option.some.inj hF), ok⟩ Z.nila dX4_lendOut_79
  · rw [if_neg c3] at hF
    refine lv_iload_n hx hb dX4_lendOut_11 rfl (lv_at hl 0 rfl) ?_
    refine ks_i (As := [.int v1]) Fc hA Z (c_X4_refusal l D cI cS v1 (X4_refusal v1) rfl) mL_RX4_137 v_X4_refusal ⟨rfl, rfl⟩ ⟨Nat.le_of_ble_eq_true rfl, Nat.le_of_ble_eq_true rfl⟩ ⟨Nat.zero_le _, Nat.zero_le _⟩ rfl hl (Nat.le_of_ble_eq_true rfl) dX4_lendOut_12 rfl (fun H locs Z => ?_)
    exact kret (X4_refusal v1) τ _ _ _ _ ⟨(pfst (Option.some.inj hF)), psnd (Option.some.inj hF), ok⟩ Z.nila dX4_lendOut_15
