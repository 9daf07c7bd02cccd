/-! THE CLASS: methods over the state that is now -/
def X4_letPass_L16 (x1 : Int32) : Nat → Int32 → St → Option (Int32 × St)
  | 0, _, _ => none
  | k + 1, x2, τ => if x1 ≤ x2 then (some (τ.2, τ)) else bnd (stD τ (τ.2 + (1 : Int32))) fun τ2 => (X4_arriveOnThisDay τ2).bind fun q4 => (X4_expireBeforeThisDay q4).bind fun q6 => (X4_endClaims q6).bind fun q8 => X4_letPass_L16 x1 k ((x2 + (1 : Int32))) q8
def X4_letPass (τ : St) (p1 : Int32) : Option (Int32 × St) := if p1 < (1 : Int32) then (some (((-1 : Int32), τ))) else if p1 ≤ (400 : Int32) then (X4_letPass_L16 p1 FU (0 : Int32) τ) else some (((-1 : Int32), τ))
def rm_X4_letPass : Room := { frames := 5, cells := 0, slots := 0, locals := 117 }
theorem v_X4_letPass : WdV RX4 yX4_letPass cX4_letPass 3 (some .int) 1 := ⟨mI_X4_letPass, mS_X4_letPass, mZ_RX4, mC_X4_letPass, by decide +kernel⟩
set_option maxHeartbeats 8000000 in
set_option maxRecDepth 100000 in
theorem c_X4_letPass (l : Launch) (D : va_G) (cI cS : ClassId) (ad : Nat → Nat) (hs : Bool) (τ : St) (ok : OK τ) (p1 : Int32) (F : Int32 × St) (hF : X4_letPass τ p1 = some F) : MI l yX4_letPass cX4_letPass 3 (some .int) rm_X4_letPass D cI cS [.ref (ad 0), .int p1] (cW ad cI hs τ) (cW ad cI hs) (fun r u => r = F.1 ∧ u = F.2 ∧ OK u) := by
  refine MI.mk RX4 rfl .int rfl (by decide) (Nat.le_of_ble_eq_true rfl) (fun _ _ _ => rfl) ?_
  intro p e s m args below meth c A Q ls Fc hin hA Z kret hl
  obtain ⟨hx, hb, hml, hown, hts, hKN⟩ := id Fc
  replace hl : lv_has ls 3 [(0, .ref (ad 0)), (1, .int p1)] := hl
  replace Z := Z.anil
  have L16 : ∀ (x1 : Int32) (k : Nat) (x2 : Int32) (τ : St) (H : Heap) (locs : List Loc) (ls : Array Slot), X4_letPass_L16 x1  k x2 τ = some F → OK τ → Ix D A s (cW ad cI hs τ ++ []) H locs → lv_has ls 3 [(0, .ref (ad 0)), (1, .int x1), (2, .int x2)] → W p l e rm_X4_letPass s m args below meth c H locs 0 0 Q (F0 m 16 ls []) := by
    intro x1 k
    induction k with
    | zero => intro x2 τ H locs ls hF; rw [X4_letPass_L16] at hF; cases hF
    | succ k ih =>
      intro x2 τ H locs ls hF ok Z hl
      rw [X4_letPass_L16] at hF
      refine lv_iload_n hx hb dX4_letPass_16 rfl (lv_at hl 2 rfl) ?_
      refine lv_iload_n hx hb dX4_letPass_17 rfl (lv_at hl 1 rfl) ?_
      refine lv_icmp_ge (tgt := 52) hx hb dX4_letPass_18 (by decide) (fun c1 => ?_) (fun c1 => ?_)
      · rw [if_pos c1] at hF
        refine lv_aload_n hx hb dX4_letPass_52 rfl (lv_at hl 0 rfl) ?_
        refine kget Fc Z inX4 0 rfl rfl 0 (by decide) mF_RX4_10 rfl rfl dX4_letPass_53 ?_
        refine kgetN Fc Z inX2 1 rfl rfl 5 (by decide) nw_RX4_98 rfl rfl dX4_letPass_56 ?_
        exact kret τ.2 τ _ _ _ _ ⟨(pfst (Option.some.inj hF)), psnd (Option.some.inj hF), ok⟩ Z.nila dX4_letPass_59
      · rw [if_neg c1] at hF
        refine lv_aload_n hx hb dX4_letPass_21 rfl (lv_at hl 0 rfl) ?_
        refine kget Fc Z inX4 0 rfl rfl 0 (by decide) mF_RX4_10 rfl rfl dX4_letPass_22 ?_
        refine lv_dup hx hb dX4_letPass_25 rfl ?_
        refine kgetN Fc Z inX2 1 rfl rfl 5 (by decide) nw_RX4_98 rfl rfl dX4_letPass_26 ?_
        refine lv_iconst (v := (1 : Int32)) hx hb dX4_letPass_29 (by decide) ?_
        refine lv_iadd hx hb dX4_letPass_30 ?_
        obtain ⟨τ2, e3, hF⟩ := bnd_el hF
        refine kputN (v := .int ((τ.2 + (1 : Int32)))) (ty := .int) (w' := cW ad cI hs τ2 ++ []) Fc Z inX2 tyX2 tyX2_ok nmX2 1 rfl rfl 5 (by decide) nw_RX4_98 rfl rfl rfl rfl rfl (Nat.le_of_ble_eq_true rfl) (by rw [e3]; rfl) dX4_letPass_31 (fun H locs Z => ?_)
        have ok : OK τ2 := by rw [e3]; exact ok
        refine lv_aload_n hx hb dX4_letPass_34 rfl (lv_at hl 0 rfl) ?_
        obtain ⟨q4, h5, hF⟩ := obind hF
        refine kv_i (As := []) (ok := OK) Fc hA Z (Lens.tail []) (c_X4_arriveOnThisDay l D cI cS ad hs τ2 ok  q4 h5) mL_RX4_105 v_X4_arriveOnThisDay ⟨rfl, rfl⟩ ⟨Nat.le_of_ble_eq_true rfl, Nat.le_of_ble_eq_true rfl⟩ ⟨Nat.zero_le _, Nat.zero_le _⟩ 0 4 rfl rfl rfl hl (Nat.le_of_ble_eq_true rfl) dX4_letPass_35 rfl (fun H locs ok1 Z => ?_)
        have ok := ok1
        refine lv_aload_n hx hb dX4_letPass_38 rfl (lv_at hl 0 rfl) ?_
        obtain ⟨q6, h7, hF⟩ := obind hF
        refine kv_i (As := []) (ok := OK) Fc hA Z (Lens.tail []) (c_X4_expireBeforeThisDay l D cI cS ad hs q4 ok  q6 h7) mL_RX4_108 v_X4_expireBeforeThisDay ⟨rfl, rfl⟩ ⟨Nat.le_of_ble_eq_true rfl, Nat.le_of_ble_eq_true rfl⟩ ⟨Nat.zero_le _, Nat.zero_le _⟩ 0 4 rfl rfl rfl hl (Nat.le_of_ble_eq_true rfl) dX4_letPass_39 rfl (fun H locs ok1 Z => ?_)
        have ok := ok1
        refine lv_aload_n hx hb dX4_letPass_42 rfl (lv_at hl 0 rfl) ?_
        obtain ⟨q8, h9, hF⟩ := obind hF
        refine kv_i (As := []) (ok := OK) Fc hA Z (Lens.tail []) (c_X4_endClaims l D cI cS ad hs q6 ok  q8 h9) mL_RX4_111 v_X4_endClaims ⟨rfl, rfl⟩ ⟨Nat.le_of_ble_eq_true rfl, Nat.le_of_ble_eq_true rfl⟩ ⟨Nat.zero_le _, Nat.zero_le _⟩ 0 4 rfl rfl rfl hl (Nat.le_of_ble_eq_true rfl) dX4_letPass_43 rfl (fun H locs ok1 Z => ?_)
        have ok := ok1
        refine lv_iinc (v := (x2 + (1 : Int32))) (lv' := [(2, .int (x2 + (1 : Int32))), (0, .ref (ad 0)), (1, .int x1)]) hx hb dX4_letPass_46 hl (k := 2) rfl (by rfl) (by decide) rfl (fun ls hl => ?_)
        refine lv_goto (tgt := 16) hx hb dX4_letPass_49 (by decide) ?_
        exact ih ((x2 + (1 : Int32))) q8 _ _ _ hF ok Z (lv_sub hl [1, 2, 0] rfl)
  unfold X4_letPass at hF
  refine lv_iload_n hx hb dX4_letPass_0 rfl (lv_at hl 1 rfl) ?_
  refine lv_iconst (v := (1 : Int32)) hx hb dX4_letPass_1 (by decide) ?_
  refine lv_icmp_lt (tgt := 12) hx hb dX4_letPass_2 (by decide) (fun c10 => ?_) (fun c10 => ?_)
  · rw [if_pos c10] at hF
    refine lv_iconst (v := (-1 : Int32)) hx hb dX4_letPass_12 (by decide) ?_
    exact kret (-1 : Int32) τ _ _ _ _ ⟨(pfst (Option.some.inj hF)), psnd (Option.some.inj hF), ok⟩ Z.nila dX4_letPass_13
  · rw [if_neg c10] at hF
    refine lv_iload_n hx hb dX4_letPass_5 rfl (lv_at hl 1 rfl) ?_
    refine lv_sipush (v := (400 : Int32)) hx hb dX4_letPass_6 (by decide) ?_
    refine lv_icmp_le (tgt := 14) hx hb dX4_letPass_9 (by decide) (fun c11 => ?_) (fun c11 => ?_)
    · rw [if_pos c11] at hF
      refine lv_iconst (v := (0 : Int32)) hx hb dX4_letPass_14 (by decide) ?_
      refine lv_istore_n (lv' := [(2, .int (0 : Int32)), (0, .ref (ad 0)), (1, .int p1)]) hx hb dX4_letPass_15 rfl hl (by decide) rfl (fun ls hl => ?_)
      exact L16 p1 FU (0 : Int32) τ _ _ _ hF ok Z (lv_sub hl [1, 2, 0] rfl)
    · rw [if_neg c11] at hF
      refine lv_iconst (v := (-1 : Int32)) hx hb dX4_letPass_12 (by decide) ?_
      exact kret (-1 : Int32) τ _ _ _ _ ⟨(pfst (Option.some.inj hF)), psnd (Option.some.inj hF), ok⟩ Z.nila dX4_letPass_13
def X4_loanOf (τ : St) (p1 p2 : Int32) : Option (Int32) := if (bi (X4_isPatron τ p1)) = 0 then (some (-1 : Int32)) else (X4_nextByDay τ (1 : Int32) p1 p2).bind fun v2 => some v2
def rm_X4_loanOf : Room := { frames := 5, cells := 0, slots := 0, locals := 117 }
theorem v_X4_loanOf : WdV RX4 yX4_loanOf cX4_loanOf 3 (some .int) 2 := ⟨mI_X4_loanOf, mS_X4_loanOf, mZ_RX4, mC_X4_loanOf, by decide +kernel⟩
set_option maxHeartbeats 8000000 in
set_option maxRecDepth 100000 in
theorem c_X4_loanOf (l : Launch) (D : va_G) (cI cS : ClassId) (ad : Nat → Nat) (hs : Bool) (τ : St) (ok : OK τ) (p1 p2 : Int32) (F : Int32) (hF : X4_loanOf τ p1 p2 = some F) : MI l yX4_loanOf cX4_loanOf 3 (some .int) rm_X4_loanOf D cI cS [.ref (ad 0), .int p1, .int p2] (cW ad cI hs τ) (cW ad cI hs) (fun r u' => r = F ∧ u' = τ) := by
  refine MI.mk RX4 rfl .int rfl (by decide) (Nat.le_of_ble_eq_true rfl) (fun _ _ _ => rfl) ?_
  intro p e s m args below meth c A Q ls Fc hin hA Z kret hl
  obtain ⟨hx, hb, hml, hown, hts, hKN⟩ := id Fc
  replace hl : lv_has ls 3 [(0, .ref (ad 0)), (1, .int p1), (2, .int p2)] := hl
  replace Z := Z.anil
  unfold X4_loanOf at hF
  refine lv_aload_n hx hb dX4_loanOf_0 rfl (lv_at hl 0 rfl) ?_
  refine lv_iload_n hx hb dX4_loanOf_1 rfl (lv_at hl 1 rfl) ?_
  refine kr_i (As := [.int p1]) Fc hA Z (Lens.tail []) (c_X4_isPatron l D cI cS ad hs τ ok p1 (X4_isPatron τ p1) rfl) mL_RX4_143 v_X4_isPatron ⟨rfl, rfl⟩ ⟨Nat.le_of_ble_eq_true rfl, Nat.le_of_ble_eq_true rfl⟩ ⟨Nat.zero_le _, Nat.zero_le _⟩ 0 4 rfl rfl rfl hl (Nat.le_of_ble_eq_true rfl) dX4_loanOf_2 rfl (fun H locs Z => ?_)
  refine lv_if_eq (tgt := 18) hx hb dX4_loanOf_5 (by decide) (fun c1 => ?_) (fun c1 => ?_)
  · rw [if_pos c1] at hF
    refine lv_iconst (v := (-1 : Int32)) hx hb dX4_loanOf_18 (by decide) ?_
    exact kret (-1 : Int32) τ _ _ _ _ ⟨(Option.some.inj hF), rfl⟩ Z.nila dX4_loanOf_19
  · rw [if_neg c1] at hF
    refine lv_aload_n hx hb dX4_loanOf_8 rfl (lv_at hl 0 rfl) ?_
    refine lv_iconst (v := (1 : Int32)) hx hb dX4_loanOf_9 (by decide) ?_
    refine lv_iload_n hx hb dX4_loanOf_10 rfl (lv_at hl 1 rfl) ?_
    refine lv_iload_n hx hb dX4_loanOf_11 rfl (lv_at hl 2 rfl) ?_
    obtain ⟨v2, h3, hF⟩ := obind hF
    refine kr_i (As := [.int (1 : Int32), .int p1, .int p2]) Fc hA Z (Lens.tail []) (c_X4_nextByDay l D cI cS ad hs τ ok (1 : Int32) p1 p2 v2 h3) mL_RX4_238 v_X4_nextByDay ⟨rfl, rfl⟩ ⟨Nat.le_of_ble_eq_true rfl, Nat.le_of_ble_eq_true rfl⟩ ⟨Nat.zero_le _, Nat.zero_le _⟩ 0 4 rfl rfl rfl hl (Nat.le_of_ble_eq_true rfl) dX4_loanOf_12 rfl (fun H locs Z => ?_)
    refine lv_goto (tgt := 19) hx hb dX4_loanOf_15 (by decide) ?_
    exact kret v2 τ _ _ _ _ ⟨(Option.some.inj hF), rfl⟩ Z.nila dX4_loanOf_19
def X4_recallFor (τ : St) (p1 : Int32) : Option (St) := (X4_earliestNotRecalled τ p1).bind fun v1 => if v1 = (-2 : Int32) then (some τ) else bnd (tput 12 (τ.1 0) v1 (6 : Int32) ((jmin ((tget 12 (τ.1 0) v1 (6 : Int32))) ((jmax ((τ.2 + (3 : Int32))) (((tget 12 (τ.1 0) v1 (7 : Int32)) + (7 : Int32)))))))) fun q4 => bnd (stT τ 0 q4) fun τ6 => bnd (tput 12 (τ6.1 0) v1 (9 : Int32) (1 : Int32)) fun q8 => bnd (stT τ6 0 q8) fun τ10 => some τ10
def rm_X4_recallFor : Room := { frames := 3, cells := 0, slots := 0, locals := 67 }
theorem v_X4_recallFor : WdV RX4 yX4_recallFor cX4_recallFor 6 none 1 := ⟨mI_X4_recallFor, mS_X4_recallFor, mZ_RX4, mC_X4_recallFor, by decide +kernel⟩
set_option maxHeartbeats 8000000 in
set_option maxRecDepth 100000 in
theorem c_X4_recallFor (l : Launch) (D : va_G) (cI cS : ClassId) (ad : Nat → Nat) (hs : Bool) (τ : St) (ok : OK τ) (p1 : Int32) (F : St) (hF : X4_recallFor τ p1 = some F) : MV l yX4_recallFor cX4_recallFor 6 rm_X4_recallFor D cI cS [.ref (ad 0), .int p1] (cW ad cI hs τ) (cW ad cI hs) (fun u => u = F ∧ OK u) := by
  refine MV.mk RX4 rfl (by decide) (Nat.le_of_ble_eq_true rfl) ?_
  intro p e s m args below meth c A Q ls Fc hin hA Z kret hl
  obtain ⟨hx, hb, hml, hown, hts, hKN⟩ := id Fc
  replace hl : lv_has ls 6 [(0, .ref (ad 0)), (1, .int p1)] := hl
  replace Z := Z.anil
  unfold X4_recallFor at hF
  refine lv_aload_n hx hb dX4_recallFor_0 rfl (lv_at hl 0 rfl) ?_
  refine lv_iload_n hx hb dX4_recallFor_1 rfl (lv_at hl 1 rfl) ?_
  obtain ⟨v1, h2, hF⟩ := obind hF
  refine kr_i (As := [.int p1]) Fc hA Z (Lens.tail []) (c_X4_earliestNotRecalled l D cI cS ad hs τ ok p1 v1 h2) mL_RX4_302 v_X4_earliestNotRecalled ⟨rfl, rfl⟩ ⟨Nat.le_of_ble_eq_true rfl, Nat.le_of_ble_eq_true rfl⟩ ⟨Nat.zero_le _, Nat.zero_le _⟩ 0 4 rfl rfl rfl hl (Nat.le_of_ble_eq_true rfl) dX4_recallFor_2 rfl (fun H locs Z => ?_)
  refine lv_istore_n (lv' := [(2, .int v1), (0, .ref (ad 0)), (1, .int p1)]) hx hb dX4_recallFor_5 rfl hl (by decide) rfl (fun ls hl => ?_)
  refine lv_iload_n hx hb dX4_recallFor_6 rfl (lv_at hl 0 rfl) ?_
  refine lv_bipush (v := (-2 : Int32)) hx hb dX4_recallFor_7 (by decide) ?_
  refine lv_icmp_ne (tgt := 13) hx hb dX4_recallFor_9 (by decide) (fun c3 => ?_) (fun c3 => ?_)
  · rw [if_neg c3] at hF
    refine lv_aload_n hx hb dX4_recallFor_13 rfl (lv_at hl 1 rfl) ?_
    refine kget Fc Z inX4 0 rfl rfl 0 (by decide) mF_RX4_10 rfl rfl dX4_recallFor_14 ?_
    refine kgetN Fc Z inX2 1 rfl rfl 5 (by decide) nw_RX4_98 rfl rfl dX4_recallFor_17 ?_
    refine lv_iconst (v := (3 : Int32)) hx hb dX4_recallFor_20 (by decide) ?_
    refine lv_iadd hx hb dX4_recallFor_21 ?_
    refine lv_istore_n (lv' := [(3, .int (τ.2 + (3 : Int32))), (2, .int v1), (0, .ref (ad 0)), (1, .int p1)]) hx hb dX4_recallFor_22 rfl hl (by decide) rfl (fun ls hl => ?_)
    refine lv_aload_n hx hb dX4_recallFor_23 rfl (lv_at hl 2 rfl) ?_
    refine kget Fc Z inX4 0 rfl rfl 0 (by decide) mF_RX4_10 rfl rfl dX4_recallFor_24 ?_
    refine kgetN Fc Z inX2 1 rfl rfl 0 (by decide) nw_RX4_47 rfl rfl dX4_recallFor_27 ?_
    refine lv_iload_n hx hb dX4_recallFor_30 rfl (lv_at hl 1 rfl) ?_
    refine lv_bipush (v := (7 : Int32)) hx hb dX4_recallFor_31 (by decide) ?_
    refine kr_i (As := [.int v1, .int (7 : Int32)]) Fc hA Z Lens.c0 (c_X3_get l D cI cS (ad 2) (ad 3) 20 12 (20 * 12) sh0 (τ.1 0) ok.1 v1 (7 : Int32) (tget 12 (τ.1 0) v1 (7 : Int32)) rfl) mL_RX4_88 v_X3_get ⟨rfl, rfl⟩ ⟨Nat.le_of_ble_eq_true rfl, Nat.le_of_ble_eq_true rfl⟩ ⟨Nat.zero_le _, Nat.zero_le _⟩ 2 3 rfl rfl rfl hl (Nat.le_of_ble_eq_true rfl) dX4_recallFor_33 rfl (fun H locs Z => ?_)
    refine lv_bipush (v := (7 : Int32)) hx hb dX4_recallFor_36 (by decide) ?_
    refine lv_iadd hx hb dX4_recallFor_38 ?_
    refine lv_istore (lv' := [(4, .int ((tget 12 (τ.1 0) v1 (7 : Int32)) + (7 : Int32))), (3, .int (τ.2 + (3 : Int32))), (2, .int v1), (0, .ref (ad 0)), (1, .int p1)]) hx hb dX4_recallFor_39 hl (by decide) rfl (fun ls hl => ?_)
    refine lv_aload_n hx hb dX4_recallFor_41 rfl (lv_at hl 3 rfl) ?_
    refine kget Fc Z inX4 0 rfl rfl 0 (by decide) mF_RX4_10 rfl rfl dX4_recallFor_42 ?_
    refine kgetN Fc Z inX2 1 rfl rfl 0 (by decide) nw_RX4_47 rfl rfl dX4_recallFor_45 ?_
    refine lv_iload_n hx hb dX4_recallFor_48 rfl (lv_at hl 2 rfl) ?_
    refine lv_bipush (v := (6 : Int32)) hx hb dX4_recallFor_49 (by decide) ?_
    refine kr_i (As := [.int v1, .int (6 : Int32)]) Fc hA Z Lens.c0 (c_X3_get l D cI cS (ad 2) (ad 3) 20 12 (20 * 12) sh0 (τ.1 0) ok.1 v1 (6 : Int32) (tget 12 (τ.1 0) v1 (6 : Int32)) rfl) mL_RX4_88 v_X3_get ⟨rfl, rfl⟩ ⟨Nat.le_of_ble_eq_true rfl, Nat.le_of_ble_eq_true rfl⟩ ⟨Nat.zero_le _, Nat.zero_le _⟩ 2 3 rfl rfl rfl hl (Nat.le_of_ble_eq_true rfl) dX4_recallFor_51 rfl (fun H locs Z => ?_)
    refine lv_iload_n hx hb dX4_recallFor_54 rfl (lv_at hl 1 rfl) ?_
    refine lv_iload hx hb dX4_recallFor_55 (lv_at hl 0 rfl) ?_
    refine kmax Fc hl mL_RX4_222 (Nat.le_of_ble_eq_true rfl) (Nat.le_of_ble_eq_true rfl) ⟨Nat.zero_le _, Nat.zero_le _⟩ dX4_recallFor_57 ?_
    refine kmin Fc hl mL_RX4_305 (Nat.le_of_ble_eq_true rfl) (Nat.le_of_ble_eq_true rfl) ⟨Nat.zero_le _, Nat.zero_le _⟩ dX4_recallFor_60 ?_
    refine lv_istore (lv' := [(5, .int (jmin ((tget 12 (τ.1 0) v1 (6 : Int32))) ((jmax ((τ.2 + (3 : Int32))) (((tget 12 (τ.1 0) v1 (7 : Int32)) + (7 : Int32))))))), (4, .int ((tget 12 (τ.1 0) v1 (7 : Int32)) + (7 : Int32))), (3, .int (τ.2 + (3 : Int32))), (2, .int v1), (0, .ref (ad 0)), (1, .int p1)]) hx hb dX4_recallFor_63 hl (by decide) rfl (fun ls hl => ?_)
    refine lv_aload_n hx hb dX4_recallFor_65 rfl (lv_at hl 4 rfl) ?_
    refine kget Fc Z inX4 0 rfl rfl 0 (by decide) mF_RX4_10 rfl rfl dX4_recallFor_66 ?_
    refine kgetN Fc Z inX2 1 rfl rfl 0 (by decide) nw_RX4_47 rfl rfl dX4_recallFor_69 ?_
    refine lv_iload_n hx hb dX4_recallFor_72 rfl (lv_at hl 3 rfl) ?_
    refine lv_bipush (v := (6 : Int32)) hx hb dX4_recallFor_73 (by decide) ?_
    refine lv_iload hx hb dX4_recallFor_75 (lv_at hl 0 rfl) ?_
    obtain ⟨q4, e5, hF⟩ := bnd_el hF
    refine kv_i (As := [.int v1, .int (6 : Int32), .int ((jmin ((tget 12 (τ.1 0) v1 (6 : Int32))) ((jmax ((τ.2 + (3 : Int32))) (((tget 12 (τ.1 0) v1 (7 : Int32)) + (7 : Int32)))))))]) (ok := tbOK 20) Fc hA Z Lens.c0 (c_X3_put l D cI cS (ad 2) (ad 3) 20 12 (20 * 12) sh0 (τ.1 0) ok.1 v1 (6 : Int32) ((jmin ((tget 12 (τ.1 0) v1 (6 : Int32))) ((jmax ((τ.2 + (3 : Int32))) (((tget 12 (τ.1 0) v1 (7 : Int32)) + (7 : Int32))))))) q4 e5.symm) mL_RX4_57 v_X3_put ⟨rfl, rfl⟩ ⟨Nat.le_of_ble_eq_true rfl, Nat.le_of_ble_eq_true rfl⟩ ⟨Nat.zero_le _, Nat.zero_le _⟩ 2 3 rfl rfl rfl hl (Nat.le_of_ble_eq_true rfl) dX4_recallFor_77 rfl (fun H locs ok1 Z => ?_)
    obtain ⟨τ6, e7, hF⟩ := bnd_el hF
    rw [← e7] at Z
    have ok : OK τ6 := by rw [e7]; exact ok_c0 ok ok1
    refine lv_aload_n hx hb dX4_recallFor_80 rfl (lv_at hl 4 rfl) ?_
    refine kget Fc Z inX4 0 rfl rfl 0 (by decide) mF_RX4_10 rfl rfl dX4_recallFor_81 ?_
    refine kgetN Fc Z inX2 1 rfl rfl 0 (by decide) nw_RX4_47 rfl rfl dX4_recallFor_84 ?_
    refine lv_iload_n hx hb dX4_recallFor_87 rfl (lv_at hl 3 rfl) ?_
    refine lv_bipush (v := (9 : Int32)) hx hb dX4_recallFor_88 (by decide) ?_
    refine lv_iconst (v := (1 : Int32)) hx hb dX4_recallFor_90 (by decide) ?_
    obtain ⟨q8, e9, hF⟩ := bnd_el hF
    refine kv_i (As := [.int v1, .int (9 : Int32), .int (1 : Int32)]) (ok := tbOK 20) Fc hA Z Lens.c0 (c_X3_put l D cI cS (ad 2) (ad 3) 20 12 (20 * 12) sh0 (τ6.1 0) ok.1 v1 (9 : Int32) (1 : Int32) q8 e9.symm) mL_RX4_57 v_X3_put ⟨rfl, rfl⟩ ⟨Nat.le_of_ble_eq_true rfl, Nat.le_of_ble_eq_true rfl⟩ ⟨Nat.zero_le _, Nat.zero_le _⟩ 2 3 rfl rfl rfl hl (Nat.le_of_ble_eq_true rfl) dX4_recallFor_91 rfl (fun H locs ok1 Z => ?_)
    obtain ⟨τ10, e11, hF⟩ := bnd_el hF
    rw [← e11] at Z
    have ok : OK τ10 := by rw [e11]; exact ok_c0 ok ok1
    exact kret τ10 _ _ _ _ ⟨(Option.some.inj hF), ok⟩ Z.nila dX4_recallFor_94
  · rw [if_pos c3] at hF
    exact kret τ _ _ _ _ ⟨(Option.some.inj hF), ok⟩ Z.nila dX4_recallFor_12
def X4_nearestOnShelf_L9 (τ : St) (x1 : Int32) (x2 : Int32) : Nat → Int32 → Int32 → Int32 → Option (Int32)
  | 0, _, _, _ => none
  | k + 1, x3, x4, x5 => if (τ.1 0).1 ≤ x5 then (some x3) else if (X4_titleOf τ x5) = x1 then (if (X4_stateOf τ x5) = 0 then (if x4 ≤ (X4_wayBetween ((tget 12 (τ.1 0) x5 (4 : Int32))) x2) then (X4_nearestOnShelf_L9 τ x1 x2 k x3 x4 ((x5 + (1 : Int32)))) else X4_nearestOnShelf_L9 τ x1 x2 k x5 ((X4_wayBetween ((tget 12 (τ.1 0) x5 (4 : Int32))) x2)) ((x5 + (1 : Int32)))) else X4_nearestOnShelf_L9 τ x1 x2 k x3 x4 ((x5 + (1 : Int32)))) else X4_nearestOnShelf_L9 τ x1 x2 k x3 x4 ((x5 + (1 : Int32)))
def X4_nearestOnShelf (τ : St) (p1 p2 : Int32) : Option (Int32) := X4_nearestOnShelf_L9 τ p1 p2 FU (-2 : Int32) (4 : Int32) (0 : Int32)
def rm_X4_nearestOnShelf : Room := { frames := 2, cells := 0, slots := 0, locals := 44 }
theorem v_X4_nearestOnShelf : WdV RX4 yX4_nearestOnShelf cX4_nearestOnShelf 7 (some .int) 2 := ⟨mI_X4_nearestOnShelf, mS_X4_nearestOnShelf, mZ_RX4, mC_X4_nearestOnShelf, by decide +kernel⟩
set_option maxHeartbeats 8000000 in
set_option maxRecDepth 100000 in
theorem c_X4_nearestOnShelf (l : Launch) (D : va_G) (cI cS : ClassId) (ad : Nat → Nat) (hs : Bool) (τ : St) (ok : OK τ) (p1 p2 : Int32) (F : Int32) (hF : X4_nearestOnShelf τ p1 p2 = some F) : MI l yX4_nearestOnShelf cX4_nearestOnShelf 7 (some .int) rm_X4_nearestOnShelf D cI cS [.ref (ad 0), .int p1, .int p2] (cW ad cI hs τ) (cW ad cI hs) (fun r u' => r = F ∧ u' = τ) := by
  refine MI.mk RX4 rfl .int rfl (by decide) (Nat.le_of_ble_eq_true rfl) (fun _ _ _ => rfl) ?_
  intro p e s m args below meth c A Q ls Fc hin hA Z kret hl
  obtain ⟨hx, hb, hml, hown, hts, hKN⟩ := id Fc
  replace hl : lv_has ls 7 [(0, .ref (ad 0)), (1, .int p1), (2, .int p2)] := hl
  replace Z := Z.anil
  have L9 : ∀ (x1 : Int32) (x2 : Int32) (k : Nat) (x3 : Int32) (x4 : Int32) (x5 : Int32) (H : Heap) (locs : List Loc) (ls : Array Slot), X4_nearestOnShelf_L9 τ x1 x2  k x3 x4 x5 = some F → OK τ → Ix D A s (cW ad cI hs τ ++ []) H locs → lv_has ls 7 [(0, .ref (ad 0)), (1, .int x1), (2, .int x2), (3, .int x3), (4, .int x4), (5, .int x5)] → W p l e rm_X4_nearestOnShelf s m args below meth c H locs 0 0 Q (F0 m 9 ls []) := by
    intro x1 x2 k
    induction k with
    | zero => intro x3 x4 x5 H locs ls hF; rw [X4_nearestOnShelf_L9] at hF; cases hF
    | succ k ih =>
      intro x3 x4 x5 H locs ls hF ok Z hl
      rw [X4_nearestOnShelf_L9] at hF
      refine lv_iload hx hb dX4_nearestOnShelf_9 (lv_at hl 5 rfl) ?_
      refine lv_aload_n hx hb dX4_nearestOnShelf_11 rfl (lv_at hl 0 rfl) ?_
      refine kget Fc Z inX4 0 rfl rfl 0 (by decide) mF_RX4_10 rfl rfl dX4_nearestOnShelf_12 ?_
      refine kgetN Fc Z inX2 1 rfl rfl 0 (by decide) nw_RX4_47 rfl rfl dX4_nearestOnShelf_15 ?_
      refine kr_i (As := []) Fc hA Z Lens.c0 (c_X3_size l D cI cS (ad 2) (ad 3) 20 12 (20 * 12) sh0 (τ.1 0) ok.1  (τ.1 0).1 rfl) mL_RX4_92 v_X3_size ⟨rfl, rfl⟩ ⟨Nat.le_of_ble_eq_true rfl, Nat.le_of_ble_eq_true rfl⟩ ⟨Nat.zero_le _, Nat.zero_le _⟩ 2 3 rfl rfl rfl hl (Nat.le_of_ble_eq_true rfl) dX4_nearestOnShelf_18 rfl (fun H locs Z => ?_)
      refine lv_icmp_ge (tgt := 85) hx hb dX4_nearestOnShelf_21 (by decide) (fun c1 => ?_) (fun c1 => ?_)
      · rw [if_pos c1] at hF
        refine lv_iload_n hx hb dX4_nearestOnShelf_85 rfl (lv_at hl 3 rfl) ?_
        exact kret x3 τ _ _ _ _ ⟨(Option.some.inj hF), rfl⟩ Z.nila dX4_nearestOnShelf_86
      · rw [if_neg c1] at hF
        refine lv_aload_n hx hb dX4_nearestOnShelf_24 rfl (lv_at hl 0 rfl) ?_
        refine lv_iload hx hb dX4_nearestOnShelf_25 (lv_at hl 5 rfl) ?_
        refine kr_i (As := [.int x5]) Fc hA Z (Lens.tail []) (c_X4_titleOf l D cI cS ad hs τ ok x5 (X4_titleOf τ x5) rfl) mL_RX4_118 v_X4_titleOf ⟨rfl, rfl⟩ ⟨Nat.le_of_ble_eq_true rfl, Nat.le_of_ble_eq_true rfl⟩ ⟨Nat.zero_le _, Nat.zero_le _⟩ 0 4 rfl rfl rfl hl (Nat.le_of_ble_eq_true rfl) dX4_nearestOnShelf_27 rfl (fun H locs Z => ?_)
        refine lv_iload_n hx hb dX4_nearestOnShelf_30 rfl (lv_at hl 1 rfl) ?_
        refine lv_icmp_ne (tgt := 79) hx hb dX4_nearestOnShelf_31 (by decide) (fun c2 => ?_) (fun c2 => ?_)
        · rw [if_neg c2] at hF
          refine lv_iinc (v := (x5 + (1 : Int32))) (lv' := [(5, .int (x5 + (1 : Int32))), (0, .ref (ad 0)), (1, .int x1), (2, .int x2), (3, .int x3), (4, .int x4)]) hx hb dX4_nearestOnShelf_79 hl (k := 5) rfl (by rfl) (by decide) rfl (fun ls hl => ?_)
          refine lv_goto (tgt := 9) hx hb dX4_nearestOnShelf_82 (by decide) ?_
          exact ih x3 x4 ((x5 + (1 : Int32))) _ _ _ hF ok Z (lv_sub hl [1, 2, 3, 4, 5, 0] rfl)
        · rw [if_pos c2] at hF
          refine lv_aload_n hx hb dX4_nearestOnShelf_34 rfl (lv_at hl 0 rfl) ?_
          refine lv_iload hx hb dX4_nearestOnShelf_35 (lv_at hl 5 rfl) ?_
          refine kr_i (As := [.int x5]) Fc hA Z (Lens.tail []) (c_X4_stateOf l D cI cS ad hs τ ok x5 (X4_stateOf τ x5) rfl) mL_RX4_95 v_X4_stateOf ⟨rfl, rfl⟩ ⟨Nat.le_of_ble_eq_true rfl, Nat.le_of_ble_eq_true rfl⟩ ⟨Nat.zero_le _, Nat.zero_le _⟩ 0 4 rfl rfl rfl hl (Nat.le_of_ble_eq_true rfl) dX4_nearestOnShelf_37 rfl (fun H locs Z => ?_)
          refine lv_if_eq (tgt := 46) hx hb dX4_nearestOnShelf_40 (by decide) (fun c3 => ?_) (fun c3 => ?_)
          · rw [if_pos c3] at hF
            refine lv_aload_n hx hb dX4_nearestOnShelf_46 rfl (lv_at hl 0 rfl) ?_
            refine kget Fc Z inX4 0 rfl rfl 0 (by decide) mF_RX4_10 rfl rfl dX4_nearestOnShelf_47 ?_
            refine kgetN Fc Z inX2 1 rfl rfl 0 (by decide) nw_RX4_47 rfl rfl dX4_nearestOnShelf_50 ?_
            refine lv_iload hx hb dX4_nearestOnShelf_53 (lv_at hl 5 rfl) ?_
            refine lv_iconst (v := (4 : Int32)) hx hb dX4_nearestOnShelf_55 (by decide) ?_
            refine kr_i (As := [.int x5, .int (4 : Int32)]) Fc hA Z Lens.c0 (c_X3_get l D cI cS (ad 2) (ad 3) 20 12 (20 * 12) sh0 (τ.1 0) ok.1 x5 (4 : Int32) (tget 12 (τ.1 0) x5 (4 : Int32)) rfl) mL_RX4_88 v_X3_get ⟨rfl, rfl⟩ ⟨Nat.le_of_ble_eq_true rfl, Nat.le_of_ble_eq_true rfl⟩ ⟨Nat.zero_le _, Nat.zero_le _⟩ 2 3 rfl rfl rfl hl (Nat.le_of_ble_eq_true rfl) dX4_nearestOnShelf_56 rfl (fun H locs Z => ?_)
            refine lv_iload_n hx hb dX4_nearestOnShelf_59 rfl (lv_at hl 2 rfl) ?_
            refine ks_i (As := [.int ((tget 12 (τ.1 0) x5 (4 : Int32))), .int x2]) Fc hA Z (c_X4_wayBetween l D cI cS ((tget 12 (τ.1 0) x5 (4 : Int32))) x2 (X4_wayBetween ((tget 12 (τ.1 0) x5 (4 : Int32))) x2) rfl) mL_RX4_296 v_X4_wayBetween ⟨rfl, rfl⟩ ⟨Nat.le_of_ble_eq_true rfl, Nat.le_of_ble_eq_true rfl⟩ ⟨Nat.zero_le _, Nat.zero_le _⟩ rfl hl (Nat.le_of_ble_eq_true rfl) dX4_nearestOnShelf_60 rfl (fun H locs Z => ?_)
            refine lv_istore (lv' := [(6, .int (X4_wayBetween ((tget 12 (τ.1 0) x5 (4 : Int32))) x2)), (0, .ref (ad 0)), (1, .int x1), (2, .int x2), (3, .int x3), (4, .int x4), (5, .int x5)]) hx hb dX4_nearestOnShelf_63 hl (by decide) rfl (fun ls hl => ?_)
            refine lv_iload hx hb dX4_nearestOnShelf_65 (lv_at hl 0 rfl) ?_
            refine lv_iload hx hb dX4_nearestOnShelf_67 (lv_at hl 5 rfl) ?_
            refine lv_icmp_ge (tgt := 79) hx hb dX4_nearestOnShelf_69 (by decide) (fun c4 => ?_) (fun c4 => ?_)
            · rw [if_pos c4] at hF
              refine lv_iinc (v := (x5 + (1 : Int32))) (lv' := [(5, .int (x5 + (1 : Int32))), (6, .int (X4_wayBetween ((tget 12 (τ.1 0) x5 (4 : Int32))) x2)), (0, .ref (ad 0)), (1, .int x1), (2, .int x2), (3, .int x3), (4, .int x4)]) hx hb dX4_nearestOnShelf_79 hl (k := 6) rfl (by rfl) (by decide) rfl (fun ls hl => ?_)
              refine lv_goto (tgt := 9) hx hb dX4_nearestOnShelf_82 (by decide) ?_
              exact ih x3 x4 ((x5 + (1 : Int32))) _ _ _ hF ok Z (lv_sub hl [2, 3, 4, 5, 6, 0] rfl)
            · rw [if_neg c4] at hF
              refine lv_iload hx hb dX4_nearestOnShelf_72 (lv_at hl 6 rfl) ?_
              refine lv_istore_n (lv' := [(3, .int x5), (6, .int (X4_wayBetween ((tget 12 (τ.1 0) x5 (4 : Int32))) x2)), (0, .ref (ad 0)), (1, .int x1), (2, .int x2), (4, .int x4), (5, .int x5)]) hx hb dX4_nearestOnShelf_74 rfl hl (by decide) rfl (fun ls hl => ?_)
              refine lv_iload hx hb dX4_nearestOnShelf_75 (lv_at hl 1 rfl) ?_
              refine lv_istore (lv' := [(4, .int (X4_wayBetween ((tget 12 (τ.1 0) x5 (4 : Int32))) x2)), (3, .int x5), (6, .int (X4_wayBetween ((tget 12 (τ.1 0) x5 (4 : Int32))) x2)), (0, .ref (ad 0)), (1, .int x1), (2, .int x2), (5, .int x5)]) hx hb dX4_nearestOnShelf_77 hl (by decide) rfl (fun ls hl => ?_)
              refine lv_iinc (v := (x5 + (1 : Int32))) (lv' := [(5, .int (x5 + (1 : Int32))), (4, .int (X4_wayBetween ((tget 12 (τ.1 0) x5 (4 : Int32))) x2)), (3, .int x5), (6, .int (X4_wayBetween ((tget 12 (τ.1 0) x5 (4 : Int32))) x2)), (0, .ref (ad 0)), (1, .int x1), (2, .int x2)]) hx hb dX4_nearestOnShelf_79 hl (k := 6) rfl (by rfl) (by decide) rfl (fun ls hl => ?_)
              refine lv_goto (tgt := 9) hx hb dX4_nearestOnShelf_82 (by decide) ?_
              exact ih x5 ((X4_wayBetween ((tget 12 (τ.1 0) x5 (4 : Int32))) x2)) ((x5 + (1 : Int32))) _ _ _ hF ok Z (lv_sub hl [4, 5, 6, 2, 1, 0] rfl)
          · rw [if_neg c3] at hF
            refine lv_goto (tgt := 79) hx hb dX4_nearestOnShelf_43 (by decide) ?_
            refine lv_iinc (v := (x5 + (1 : Int32))) (lv' := [(5, .int (x5 + (1 : Int32))), (0, .ref (ad 0)), (1, .int x1), (2, .int x2), (3, .int x3), (4, .int x4)]) hx hb dX4_nearestOnShelf_79 hl (k := 5) rfl (by rfl) (by decide) rfl (fun ls hl => ?_)
            refine lv_goto (tgt := 9) hx hb dX4_nearestOnShelf_82 (by decide) ?_
            exact ih x3 x4 ((x5 + (1 : Int32))) _ _ _ hF ok Z (lv_sub hl [1, 2, 3, 4, 5, 0] rfl)
  unfold X4_nearestOnShelf at hF
  refine lv_bipush (v := (-2 : Int32)) hx hb dX4_nearestOnShelf_0 (by decide) ?_
  refine lv_istore_n (lv' := [(3, .int (-2 : Int32)), (0, .ref (ad 0)), (1, .int p1), (2, .int p2)]) hx hb dX4_nearestOnShelf_2 rfl hl (by decide) rfl (fun ls hl => ?_)
  refine lv_iconst (v := (4 : Int32)) hx hb dX4_nearestOnShelf_3 (by decide) ?_
  refine lv_istore (lv' := [(4, .int (4 : Int32)), (3, .int (-2 : Int32)), (0, .ref (ad 0)), (1, .int p1), (2, .int p2)]) hx hb dX4_nearestOnShelf_4 hl (by decide) rfl (fun ls hl => ?_)
  refine lv_iconst (v := (0 : Int32)) hx hb dX4_nearestOnShelf_6 (by decide) ?_
  refine lv_istore (lv' := [(5, .int (0 : Int32)), (4, .int (4 : Int32)), (3, .int (-2 : Int32)), (0, .ref (ad 0)), (1, .int p1), (2, .int p2)]) hx hb dX4_nearestOnShelf_7 hl (by decide) rfl (fun ls hl => ?_)
  exact L9 p1 p2 FU (-2 : Int32) (4 : Int32) (0 : Int32) _ _ _ hF ok Z (lv_sub hl [3, 4, 5, 2, 1, 0] rfl)
def X4_reasonAgainstHolding (τ : St) (p1 p2 : Int32) : Option (Int32) := if (bi (X4_isPatron τ p1)) = 0 then (some (-1 : Int32)) else if (bi (X4_isTitle p2)) = 0 then (some (-1 : Int32)) else if (bi (X4_owesTheLimit τ p1)) = 0 then ((X4_holdsOf τ p1).bind fun v4 => if v4 < (3 : Int32) then ((X4_findHold τ p1 p2).bind fun v7 => if v7 = (-2 : Int32) then ((X4_hasLoanOf τ p1 p2).bind fun v10 => if (bi v10) = 0 then (some (0 : Int32)) else some (4 : Int32)) else some (3 : Int32)) else some (2 : Int32)) else some (1 : Int32)
def rm_X4_reasonAgainstHolding : Room := { frames := 4, cells := 0, slots := 0, locals := 90 }
theorem v_X4_reasonAgainstHolding : WdV RX4 yX4_reasonAgainstHolding cX4_reasonAgainstHolding 3 (some .int) 2 := ⟨mI_X4_reasonAgainstHolding, mS_X4_reasonAgainstHolding, mZ_RX4, mC_X4_reasonAgainstHolding, by decide +kernel⟩
set_option maxHeartbeats 8000000 in
set_option maxRecDepth 100000 in
theorem c_X4_reasonAgainstHolding (l : Launch) (D : va_G) (cI cS : ClassId) (ad : Nat → Nat) (hs : Bool) (τ : St) (ok : OK τ) (p1 p2 : Int32) (F : Int32) (hF : X4_reasonAgainstHolding τ p1 p2 = some F) : MI l yX4_reasonAgainstHolding cX4_reasonAgainstHolding 3 (some .int) rm_X4_reasonAgainstHolding D cI cS [.ref (ad 0), .int p1, .int p2] (cW ad cI hs τ) (cW ad cI hs) (fun r u' => r = F ∧ u' = τ) := by
  refine MI.mk RX4 rfl .int rfl (by decide) (Nat.le_of_ble_eq_true rfl) (fun _ _ _ => rfl) ?_
  intro p e s m args below meth c A Q ls Fc hin hA Z kret hl
  obtain ⟨hx, hb, hml, hown, hts, hKN⟩ := id Fc
  replace hl : lv_has ls 3 [(0, .ref (ad 0)), (1, .int p1), (2, .int p2)] := hl
  replace Z := Z.anil
  unfold X4_reasonAgainstHolding at hF
  refine lv_aload_n hx hb dX4_reasonAgainstHolding_0 rfl (lv_at hl 0 rfl) ?_
  refine lv_iload_n hx hb dX4_reasonAgainstHolding_1 rfl (lv_at hl 1 rfl) ?_
  refine kr_i (As := [.int p1]) Fc hA Z (Lens.tail []) (c_X4_isPatron l D cI cS ad hs τ ok p1 (X4_isPatron τ p1) rfl) mL_RX4_143 v_X4_isPatron ⟨rfl, rfl⟩ ⟨Nat.le_of_ble_eq_true rfl, Nat.le_of_ble_eq_true rfl⟩ ⟨Nat.zero_le _, Nat.zero_le _⟩ 0 4 rfl rfl rfl hl (Nat.le_of_ble_eq_true rfl) dX4_reasonAgainstHolding_2 rfl (fun H locs Z => ?_)
  refine lv_if_eq (tgt := 15) hx hb dX4_reasonAgainstHolding_5 (by decide) (fun c1 => ?_) (fun c1 => ?_)
  · rw [if_pos c1] at hF
    refine lv_iconst (v := (-1 : Int32)) hx hb dX4_reasonAgainstHolding_15 (by decide) ?_
    exact kret (-1 : Int32) τ _ _ _ _ ⟨(Option.some.inj hF), rfl⟩ Z.nila dX4_reasonAgainstHolding_16
  · rw [if_neg c1] at hF
    refine lv_iload_n hx hb dX4_reasonAgainstHolding_8 rfl (lv_at hl 2 rfl) ?_
    refine ks_i (As := [.int p2]) Fc hA Z (c_X4_isTitle l D cI cS p2 (X4_isTitle p2) rfl) mL_RX4_40 v_X4_isTitle ⟨rfl, rfl⟩ ⟨Nat.le_of_ble_eq_true rfl, Nat.le_of_ble_eq_true rfl⟩ ⟨Nat.zero_le _, Nat.zero_le _⟩ rfl hl (Nat.le_of_ble_eq_true rfl) dX4_reasonAgainstHolding_9 rfl (fun H locs Z => ?_)
    refine lv_if_ne (tgt := 17) hx hb dX4_reasonAgainstHolding_12 (by decide) (fun c2 => ?_) (fun c2 => ?_)
    · rw [if_neg c2] at hF
      refine lv_aload_n hx hb dX4_reasonAgainstHolding_17 rfl (lv_at hl 0 rfl) ?_
      refine lv_iload_n hx hb dX4_reasonAgainstHolding_18 rfl (lv_at hl 1 rfl) ?_
      refine kr_i (As := [.int p1]) Fc hA Z (Lens.tail []) (c_X4_owesTheLimit l D cI cS ad hs τ ok p1 (X4_owesTheLimit τ p1) rfl) mL_RX4_146 v_X4_owesTheLimit ⟨rfl, rfl⟩ ⟨Nat.le_of_ble_eq_true rfl, Nat.le_of_ble_eq_true rfl⟩ ⟨Nat.zero_le _, Nat.zero_le _⟩ 0 4 rfl rfl rfl hl (Nat.le_of_ble_eq_true rfl) dX4_reasonAgainstHolding_19 rfl (fun H locs Z => ?_)
      refine lv_if_eq (tgt := 27) hx hb dX4_reasonAgainstHolding_22 (by decide) (fun c3 => ?_) (fun c3 => ?_)
      · rw [if_pos c3] at hF
        refine lv_aload_n hx hb dX4_reasonAgainstHolding_27 rfl (lv_at hl 0 rfl) ?_
        refine lv_iload_n hx hb dX4_reasonAgainstHolding_28 rfl (lv_at hl 1 rfl) ?_
        obtain ⟨v4, h5, hF⟩ := obind hF
        refine kr_i (As := [.int p1]) Fc hA Z (Lens.tail []) (c_X4_holdsOf l D cI cS ad hs τ ok p1 v4 h5) mL_RX4_204 v_X4_holdsOf ⟨rfl, rfl⟩ ⟨Nat.le_of_ble_eq_true rfl, Nat.le_of_ble_eq_true rfl⟩ ⟨Nat.zero_le _, Nat.zero_le _⟩ 0 4 rfl rfl rfl hl (Nat.le_of_ble_eq_true rfl) dX4_reasonAgainstHolding_29 rfl (fun H locs Z => ?_)
        refine lv_iconst (v := (3 : Int32)) hx hb dX4_reasonAgainstHolding_32 (by decide) ?_
        refine lv_icmp_lt (tgt := 38) hx hb dX4_reasonAgainstHolding_33 (by decide) (fun c6 => ?_) (fun c6 => ?_)
        · rw [if_pos c6] at hF
          refine lv_aload_n hx hb dX4_reasonAgainstHolding_38 rfl (lv_at hl 0 rfl) ?_
          refine lv_iload_n hx hb dX4_reasonAgainstHolding_39 rfl (lv_at hl 1 rfl) ?_
          refine lv_iload_n hx hb dX4_reasonAgainstHolding_40 rfl (lv_at hl 2 rfl) ?_
          obtain ⟨v7, h8, hF⟩ := obind hF
          refine kr_i (As := [.int p1, .int p2]) Fc hA Z (Lens.tail []) (c_X4_findHold l D cI cS ad hs τ ok p1 p2 v7 h8) mL_RX4_121 v_X4_findHold ⟨rfl, rfl⟩ ⟨Nat.le_of_ble_eq_true rfl, Nat.le_of_ble_eq_true rfl⟩ ⟨Nat.zero_le _, Nat.zero_le _⟩ 0 4 rfl rfl rfl hl (Nat.le_of_ble_eq_true rfl) dX4_reasonAgainstHolding_41 rfl (fun H locs Z => ?_)
          refine lv_bipush (v := (-2 : Int32)) hx hb dX4_reasonAgainstHolding_44 (by decide) ?_
          refine lv_icmp_eq (tgt := 51) hx hb dX4_reasonAgainstHolding_46 (by decide) (fun c9 => ?_) (fun c9 => ?_)
          · rw [if_pos c9] at hF
            refine lv_aload_n hx hb dX4_reasonAgainstHolding_51 rfl (lv_at hl 0 rfl) ?_
            refine lv_iload_n hx hb dX4_reasonAgainstHolding_52 rfl (lv_at hl 1 rfl) ?_
            refine lv_iload_n hx hb dX4_reasonAgainstHolding_53 rfl (lv_at hl 2 rfl) ?_
            obtain ⟨v10, h11, hF⟩ := obind hF
            refine kr_i (As := [.int p1, .int p2]) Fc hA Z (Lens.tail []) (c_X4_hasLoanOf l D cI cS ad hs τ ok p1 p2 v10 h11) mL_RX4_207 v_X4_hasLoanOf ⟨rfl, rfl⟩ ⟨Nat.le_of_ble_eq_true rfl, Nat.le_of_ble_eq_true rfl⟩ ⟨Nat.zero_le _, Nat.zero_le _⟩ 0 4 rfl rfl rfl hl (Nat.le_of_ble_eq_true rfl) dX4_reasonAgainstHolding_54 rfl (fun H locs Z => ?_)
            refine lv_if_eq (tgt := 64) hx hb dX4_reasonAgainstHolding_57 (by decide) (fun c12 => ?_) (fun c12 => ?_)
            · rw [if_pos c12] at hF
              refine lv_iconst (v := (0 : Int32)) hx hb dX4_reasonAgainstHolding_64 (by decide) ?_
              exact kret (0 : Int32) τ _ _ _ _ ⟨(Option.some.inj hF), rfl⟩ Z.nila dX4_reasonAgainstHolding_65
            · rw [if_neg c12] at hF
              refine lv_iconst (v := (4 : Int32)) hx hb dX4_reasonAgainstHolding_60 (by decide) ?_
              refine lv_goto (tgt := 65) hx hb dX4_reasonAgainstHolding_61 (by decide) ?_
              exact kret (4 : Int32) τ _ _ _ _ ⟨(Option.some.inj hF), rfl⟩ Z.nila dX4_reasonAgainstHolding_65
          · rw [if_neg c9] at hF
            refine lv_iconst (v := (3 : Int32)) hx hb dX4_reasonAgainstHolding_49 (by decide) ?_
            exact kret (3 : Int32) τ _ _ _ _ ⟨(Option.some.inj hF), rfl⟩ Z.nila dX4_reasonAgainstHolding_50
        · rw [if_neg c6] at hF
          refine lv_iconst (v := (2 : Int32)) hx hb dX4_reasonAgainstHolding_36 (by decide) ?_
          exact kret (2 : Int32) τ _ _ _ _ ⟨(Option.some.inj hF), rfl⟩ Z.nila dX4_reasonAgainstHolding_37
      · rw [if_neg c3] at hF
        refine lv_iconst (v := (1 : Int32)) hx hb dX4_reasonAgainstHolding_25 (by decide) ?_
        exact kret (1 : Int32) τ _ _ _ _ ⟨(Option.some.inj hF), rfl⟩ Z.nila dX4_reasonAgainstHolding_26
    · rw [if_pos c2] at hF
      refine lv_iconst (v := (-1 : Int32)) hx hb dX4_reasonAgainstHolding_15 (by decide) ?_
      exact kret (-1 : Int32) τ _ _ _ _ ⟨(Option.some.inj hF), rfl⟩ Z.nila dX4_reasonAgainstHolding_16
def X4_makeHold (τ : St) (p1 p2 p3 : Int32) : Option (Int32 × St) := if (bi (X4_isBranch p3)) = 0 then (some (((-1 : Int32), τ))) else (X4_reasonAgainstHolding τ p1 p2).bind fun v2 => if v2 = 0 then (bnd (tadd 24 4 (τ.1 2)) fun q5 => bnd (stT τ 2 q5.2) fun τ7 => if 0 ≤ q5.1 then (bnd (tput 4 (τ7.1 2) q5.1 (0 : Int32) p1) fun q10 => bnd (stT τ7 2 q10) fun τ12 => bnd (tput 4 (τ12.1 2) q5.1 (1 : Int32) p3) fun q14 => bnd (stT τ12 2 q14) fun τ16 => bnd (tput 4 (τ16.1 2) q5.1 (2 : Int32) (-2 : Int32)) fun q18 => bnd (stT τ16 2 q18) fun τ20 => bnd (tput 4 (τ20.1 2) q5.1 (3 : Int32) p2) fun q22 => bnd (stT τ20 2 q22) fun τ24 => (X4_nearestOnShelf τ24 p2 p3).bind fun v26 => if v26 = (-2 : Int32) then ((X4_recallFor τ24 p2).bind fun q33 => (X4_waitingBefore q33 ((q33.1 2).1) p2).bind fun v35 => some (v35, q33)) else (X4_becomeFree τ24 v26 ((tget 12 (τ24.1 0) v26 (4 : Int32)))).bind fun q29 => (X4_waitingBefore q29 ((q29.1 2).1) p2).bind fun v31 => some (v31, q29)) else some (((-3 : Int32), τ7))) else some (((X4_refusal v2), τ))
def rm_X4_makeHold : Room := { frames := 5, cells := 0, slots := 0, locals := 112 }
theorem v_X4_makeHold : WdV RX4 yX4_makeHold cX4_makeHold 7 (some .int) 3 := ⟨mI_X4_makeHold, mS_X4_makeHold, mZ_RX4, mC_X4_makeHold, by decide +kernel⟩
set_option maxHeartbeats 8000000 in
set_option maxRecDepth 100000 in
theorem c_X4_makeHold (l : Launch) (D : va_G) (cI cS : ClassId) (ad : Nat → Nat) (hs : Bool) (τ : St) (ok : OK τ) (p1 p2 p3 : Int32) (F : Int32 × St) (hF : X4_makeHold τ p1 p2 p3 = some F) : MI l yX4_makeHold cX4_makeHold 7 (some .int) rm_X4_makeHold D cI cS [.ref (ad 0), .int p1, .int p2, .int p3] (cW ad cI hs τ) (cW ad cI hs) (fun r u => r = F.1 ∧ u = F.2 ∧ OK u) := by
  refine MI.mk RX4 rfl .int rfl (by decide) (Nat.le_of_ble_eq_true rfl) (fun _ _ _ => rfl) ?_
  intro p e s m args below meth c A Q ls Fc hin hA Z kret hl
  obtain ⟨hx, hb, hml, hown, hts, hKN⟩ := id Fc
  replace hl : lv_has ls 7 [(0, .ref (ad 0)), (1, .int p1), (2, .int p2), (3, .int p3)] := hl
  replace Z := Z.anil
  unfold X4_makeHold at hF
  refine lv_iload_n hx hb dX4_makeHold_0 rfl (lv_at hl 3 rfl) ?_
  refine ks_i (As := [.int p3]) Fc hA Z (c_X4_isBranch l D cI cS p3 (X4_isBranch p3) rfl) mL_RX4_44 v_X4_isBranch ⟨rfl, rfl⟩ ⟨Nat.le_of_ble_eq_true rfl, Nat.le_of_ble_eq_true rfl⟩ ⟨Nat.zero_le _, Nat.zero_le _⟩ rfl hl (Nat.le_of_ble_eq_true rfl) dX4_makeHold_1 rfl (fun H locs Z => ?_)
  refine lv_if_ne (tgt := 9) hx hb dX4_makeHold_4 (by decide) (fun c1 => ?_) (fun c1 => ?_)
  · rw [if_neg c1] at hF
    refine lv_aload_n hx hb dX4_makeHold_9 rfl (lv_at hl 0 rfl) ?_
    refine lv_iload_n hx hb dX4_makeHold_10 rfl (lv_at hl 1 rfl) ?_
    refine lv_iload_n hx hb dX4_makeHold_11 rfl (lv_at hl 2 rfl) ?_
    obtain ⟨v2, h3, hF⟩ := obind hF
    refine kr_i (As := [.int p1, .int p2]) Fc hA Z (Lens.tail []) (c_X4_reasonAgainstHolding l D cI cS ad hs τ ok p1 p2 v2 h3) mL_RX4_189 v_X4_reasonAgainstHolding ⟨rfl, rfl⟩ ⟨Nat.le_of_ble_eq_true rfl, Nat.le_of_ble_eq_true rfl⟩ ⟨Nat.zero_le _, Nat.zero_le _⟩ 0 4 rfl rfl rfl hl (Nat.le_of_ble_eq_true rfl) dX4_makeHold_12 rfl (fun H locs Z => ?_)
    refine lv_istore (lv' := [(4, .int v2), (0, .ref (ad 0)), (1, .int p1), (2, .int p2), (3, .int p3)]) hx hb dX4_makeHold_15 hl (by decide) rfl (fun ls hl => ?_)
    refine lv_iload hx hb dX4_makeHold_17 (lv_at hl 0 rfl) ?_
    refine lv_if_eq (tgt := 28) hx hb dX4_makeHold_19 (by decide) (fun c4 => ?_) (fun c4 => ?_)
    · rw [if_pos c4] at hF
      refine lv_aload_n hx hb dX4_makeHold_28 rfl (lv_at hl 1 rfl) ?_
      refine kget Fc Z inX4 0 rfl rfl 0 (by decide) mF_RX4_10 rfl rfl dX4_makeHold_29 ?_
      refine kgetN Fc Z inX2 1 rfl rfl 2 (by decide) nw_RX4_192 rfl rfl dX4_makeHold_32 ?_
      obtain ⟨q5, e6, hF⟩ := bnd_el hF
      refine km_i (As := []) (ok := tbOK 24) Fc hA Z Lens.c2 (c_X3_addRow l D cI cS (ad 6) (ad 7) 24 4 (24 * 4) sh2 (τ.1 2) ok.2.2.1  q5 e6.symm) mL_RX4_51 v_X3_addRow ⟨rfl, rfl⟩ ⟨Nat.le_of_ble_eq_true rfl, Nat.le_of_ble_eq_true rfl⟩ ⟨Nat.zero_le _, Nat.zero_le _⟩ 6 3 rfl rfl rfl hl (Nat.le_of_ble_eq_true rfl) dX4_makeHold_35 rfl (fun H locs ok1 Z => ?_)
      obtain ⟨τ7, e8, hF⟩ := bnd_el hF
      rw [← e8] at Z
      have ok : OK τ7 := by rw [e8]; exact ok_c2 ok ok1
      refine lv_istore (lv' := [(5, .int q5.1), (4, .int v2), (0, .ref (ad 0)), (1, .int p1), (2, .int p2), (3, .int p3)]) hx hb dX4_makeHold_38 hl (by decide) rfl (fun ls hl => ?_)
      refine lv_iload hx hb dX4_makeHold_40 (lv_at hl 0 rfl) ?_
      refine lv_if_ge (tgt := 48) hx hb dX4_makeHold_42 (by decide) (fun c9 => ?_) (fun c9 => ?_)
      · rw [if_pos c9] at hF
        refine lv_aload_n hx hb dX4_makeHold_48 rfl (lv_at hl 2 rfl) ?_
        refine kget Fc Z inX4 0 rfl rfl 0 (by decide) mF_RX4_10 rfl rfl dX4_makeHold_49 ?_
        refine kgetN Fc Z inX2 1 rfl rfl 2 (by decide) nw_RX4_192 rfl rfl dX4_makeHold_52 ?_
        refine lv_iload hx hb dX4_makeHold_55 (lv_at hl 0 rfl) ?_
        refine lv_iconst (v := (0 : Int32)) hx hb dX4_makeHold_57 (by decide) ?_
        refine lv_iload_n hx hb dX4_makeHold_58 rfl (lv_at hl 3 rfl) ?_
        obtain ⟨q10, e11, hF⟩ := bnd_el hF
        refine kv_i (As := [.int q5.1, .int (0 : Int32), .int p1]) (ok := tbOK 24) Fc hA Z Lens.c2 (c_X3_put l D cI cS (ad 6) (ad 7) 24 4 (24 * 4) sh2 (τ7.1 2) ok.2.2.1 q5.1 (0 : Int32) p1 q10 e11.symm) mL_RX4_57 v_X3_put ⟨rfl, rfl⟩ ⟨Nat.le_of_ble_eq_true rfl, Nat.le_of_ble_eq_true rfl⟩ ⟨Nat.zero_le _, Nat.zero_le _⟩ 6 3 rfl rfl rfl hl (Nat.le_of_ble_eq_true rfl) dX4_makeHold_59 rfl (fun H locs ok1 Z => ?_)
        obtain ⟨τ12, e13, hF⟩ := bnd_el hF
        rw [← e13] at Z
        have ok : OK τ12 := by rw [e13]; exact ok_c2 ok ok1
        refine lv_aload_n hx hb dX4_makeHold_62 rfl (lv_at hl 2 rfl) ?_
        refine kget Fc Z inX4 0 rfl rfl 0 (by decide) mF_RX4_10 rfl rfl dX4_makeHold_63 ?_
        refine kgetN Fc Z inX2 1 rfl rfl 2 (by decide) nw_RX4_192 rfl rfl dX4_makeHold_66 ?_
        refine lv_iload hx hb dX4_makeHold_69 (lv_at hl 0 rfl) ?_
        refine lv_iconst (v := (1 : Int32)) hx hb dX4_makeHold_71 (by decide) ?_
        refine lv_iload_n hx hb dX4_makeHold_72 rfl (lv_at hl 5 rfl) ?_
        obtain ⟨q14, e15, hF⟩ := bnd_el hF
        refine kv_i (As := [.int q5.1, .int (1 : Int32), .int p3]) (ok := tbOK 24) Fc hA Z Lens.c2 (c_X3_put l D cI cS (ad 6) (ad 7) 24 4 (24 * 4) sh2 (τ12.1 2) ok.2.2.1 q5.1 (1 : Int32) p3 q14 e15.symm) mL_RX4_57 v_X3_put ⟨rfl, rfl⟩ ⟨Nat.le_of_ble_eq_true rfl, Nat.le_of_ble_eq_true rfl⟩ ⟨Nat.zero_le _, Nat.zero_le _⟩ 6 3 rfl rfl rfl hl (Nat.le_of_ble_eq_true rfl) dX4_makeHold_73 rfl (fun H locs ok1 Z => ?_)
        obtain ⟨τ16, e17, hF⟩ := bnd_el hF
        rw [← e17] at Z
        have ok : OK τ16 := by rw [e17]; exact ok_c2 ok ok1
        refine lv_aload_n hx hb dX4_makeHold_76 rfl (lv_at hl 2 rfl) ?_
        refine kget Fc Z inX4 0 rfl rfl 0 (by decide) mF_RX4_10 rfl rfl dX4_makeHold_77 ?_
        refine kgetN Fc Z inX2 1 rfl rfl 2 (by decide) nw_RX4_192 rfl rfl dX4_makeHold_80 ?_
        refine lv_iload hx hb dX4_makeHold_83 (lv_at hl 0 rfl) ?_
        refine lv_iconst (v := (2 : Int32)) hx hb dX4_makeHold_85 (by decide) ?_
        refine lv_bipush (v := (-2 : Int32)) hx hb dX4_makeHold_86 (by decide) ?_
        obtain ⟨q18, e19, hF⟩ := bnd_el hF
        refine kv_i (As := [.int q5.1, .int (2 : Int32), .int (-2 : Int32)]) (ok := tbOK 24) Fc hA Z Lens.c2 (c_X3_put l D cI cS (ad 6) (ad 7) 24 4 (24 * 4) sh2 (τ16.1 2) ok.2.2.1 q5.1 (2 : Int32) (-2 : Int32) q18 e19.symm) mL_RX4_57 v_X3_put ⟨rfl, rfl⟩ ⟨Nat.le_of_ble_eq_true rfl, Nat.le_of_ble_eq_true rfl⟩ ⟨Nat.zero_le _, Nat.zero_le _⟩ 6 3 rfl rfl rfl hl (Nat.le_of_ble_eq_true rfl) dX4_makeHold_88 rfl (fun H locs ok1 Z => ?_)
        obtain ⟨τ20, e21, hF⟩ := bnd_el hF
        rw [← e21] at Z
        have ok : OK τ20 := by rw [e21]; exact ok_c2 ok ok1
        refine lv_aload_n hx hb dX4_makeHold_91 rfl (lv_at hl 2 rfl) ?_
        refine kget Fc Z inX4 0 rfl rfl 0 (by decide) mF_RX4_10 rfl rfl dX4_makeHold_92 ?_
        refine kgetN Fc Z inX2 1 rfl rfl 2 (by decide) nw_RX4_192 rfl rfl dX4_makeHold_95 ?_
        refine lv_iload hx hb dX4_makeHold_98 (lv_at hl 0 rfl) ?_
        refine lv_iconst (v := (3 : Int32)) hx hb dX4_makeHold_100 (by decide) ?_
        refine lv_iload_n hx hb dX4_makeHold_101 rfl (lv_at hl 4 rfl) ?_
        obtain ⟨q22, e23, hF⟩ := bnd_el hF
        refine kv_i (As := [.int q5.1, .int (3 : Int32), .int p2]) (ok := tbOK 24) Fc hA Z Lens.c2 (c_X3_put l D cI cS (ad 6) (ad 7) 24 4 (24 * 4) sh2 (τ20.1 2) ok.2.2.1 q5.1 (3 : Int32) p2 q22 e23.symm) mL_RX4_57 v_X3_put ⟨rfl, rfl⟩ ⟨Nat.le_of_ble_eq_true rfl, Nat.le_of_ble_eq_true rfl⟩ ⟨Nat.zero_le _, Nat.zero_le _⟩ 6 3 rfl rfl rfl hl (Nat.le_of_ble_eq_true rfl) dX4_makeHold_102 rfl (fun H locs ok1 Z => ?_)
        obtain ⟨τ24, e25, hF⟩ := bnd_el hF
        rw [← e25] at Z
        have ok : OK τ24 := by rw [e25]; exact ok_c2 ok ok1
        refine lv_aload_n hx hb dX4_makeHold_105 rfl (lv_at hl 2 rfl) ?_
        refine lv_iload_n hx hb dX4_makeHold_106 rfl (lv_at hl 4 rfl) ?_
        refine lv_iload_n hx hb dX4_makeHold_107 rfl (lv_at hl 5 rfl) ?_
        obtain ⟨v26, h27, hF⟩ := obind hF
        refine kr_i (As := [.int p2, .int p3]) Fc hA Z (Lens.tail []) (c_X4_nearestOnShelf l D cI cS ad hs τ24 ok p2 p3 v26 h27) mL_RX4_195 v_X4_nearestOnShelf ⟨rfl, rfl⟩ ⟨Nat.le_of_ble_eq_true rfl, Nat.le_of_ble_eq_true rfl⟩ ⟨Nat.zero_le _, Nat.zero_le _⟩ 0 4 rfl rfl rfl hl (Nat.le_of_ble_eq_true rfl) dX4_makeHold_108 rfl (fun H locs Z => ?_)
        refine lv_istore (lv' := [(6, .int v26), (5, .int q5.1), (4, .int v2), (0, .ref (ad 0)), (1, .int p1), (2, .int p2), (3, .int p3)]) hx hb dX4_makeHold_111 hl (by decide) rfl (fun ls hl => ?_)
        refine lv_iload hx hb dX4_makeHold_113 (lv_at hl 0 rfl) ?_
        refine lv_bipush (v := (-2 : Int32)) hx hb dX4_makeHold_115 (by decide) ?_
        refine lv_icmp_ne (tgt := 128) hx hb dX4_makeHold_117 (by decide) (fun c28 => ?_) (fun c28 => ?_)
        · rw [if_neg c28] at hF
          refine lv_aload_n hx hb dX4_makeHold_128 rfl (lv_at hl 3 rfl) ?_
          refine lv_iload hx hb dX4_makeHold_129 (lv_at hl 0 rfl) ?_
          refine lv_aload_n hx hb dX4_makeHold_131 rfl (lv_at hl 3 rfl) ?_
          refine kget Fc Z inX4 0 rfl rfl 0 (by decide) mF_RX4_10 rfl rfl dX4_makeHold_132 ?_
          refine kgetN Fc Z inX2 1 rfl rfl 0 (by decide) nw_RX4_47 rfl rfl dX4_makeHold_135 ?_
          refine lv_iload hx hb dX4_makeHold_138 (lv_at hl 0 rfl) ?_
          refine lv_iconst (v := (4 : Int32)) hx hb dX4_makeHold_140 (by decide) ?_
          refine kr_i (As := [.int v26, .int (4 : Int32)]) Fc hA Z Lens.c0 (c_X3_get l D cI cS (ad 2) (ad 3) 20 12 (20 * 12) sh0 (τ24.1 0) ok.1 v26 (4 : Int32) (tget 12 (τ24.1 0) v26 (4 : Int32)) rfl) mL_RX4_88 v_X3_get ⟨rfl, rfl⟩ ⟨Nat.le_of_ble_eq_true rfl, Nat.le_of_ble_eq_true rfl⟩ ⟨Nat.zero_le _, Nat.zero_le _⟩ 2 3 rfl rfl rfl hl (Nat.le_of_ble_eq_true rfl) dX4_makeHold_141 rfl (fun H locs Z => ?_)
          obtain ⟨q29, h30, hF⟩ := obind hF
          refine kv_i (As := [.int v26, .int ((tget 12 (τ24.1 0) v26 (4 : Int32)))]) (ok := OK) Fc hA Z (Lens.tail []) (c_X4_becomeFree l D cI cS ad hs τ24 ok v26 ((tget 12 (τ24.1 0) v26 (4 : Int32))) q29 h30) mL_RX4_61 v_X4_becomeFree ⟨rfl, rfl⟩ ⟨Nat.le_of_ble_eq_true rfl, Nat.le_of_ble_eq_true rfl⟩ ⟨Nat.zero_le _, Nat.zero_le _⟩ 0 4 rfl rfl rfl hl (Nat.le_of_ble_eq_true rfl) dX4_makeHold_144 rfl (fun H locs ok1 Z => ?_)
          have ok := ok1
          refine lv_aload_n hx hb dX4_makeHold_147 rfl (lv_at hl 3 rfl) ?_
          refine lv_aload_n hx hb dX4_makeHold_148 rfl (lv_at hl 3 rfl) ?_
          refine kget Fc Z inX4 0 rfl rfl 0 (by decide) mF_RX4_10 rfl rfl dX4_makeHold_149 ?_
          refine kgetN Fc Z inX2 1 rfl rfl 2 (by decide) nw_RX4_192 rfl rfl dX4_makeHold_152 ?_
          refine kr_i (As := []) Fc hA Z Lens.c2 (c_X3_size l D cI cS (ad 6) (ad 7) 24 4 (24 * 4) sh2 (q29.1 2) ok.2.2.1  (q29.1 2).1 rfl) mL_RX4_92 v_X3_size ⟨rfl, rfl⟩ ⟨Nat.le_of_ble_eq_true rfl, Nat.le_of_ble_eq_true rfl⟩ ⟨Nat.zero_le _, Nat.zero_le _⟩ 6 3 rfl rfl rfl hl (Nat.le_of_ble_eq_true rfl) dX4_makeHold_155 rfl (fun H locs Z => ?_)
          refine lv_iload_n hx hb dX4_makeHold_158 rfl (lv_at hl 5 rfl) ?_
          obtain ⟨v31, h32, hF⟩ := obind hF
          refine kr_i (As := [.int ((q29.1 2).1), .int p2]) Fc hA Z (Lens.tail []) (c_X4_waitingBefore l D cI cS ad hs q29 ok ((q29.1 2).1) p2 v31 h32) mL_RX4_201 v_X4_waitingBefore ⟨rfl, rfl⟩ ⟨Nat.le_of_ble_eq_true rfl, Nat.le_of_ble_eq_true rfl⟩ ⟨Nat.zero_le _, Nat.zero_le _⟩ 0 4 rfl rfl rfl hl (Nat.le_of_ble_eq_true rfl) dX4_makeHold_159 rfl (fun H locs Z => ?_)
          exact kret v31 q29 _ _ _ _ ⟨(pfst (Option.some.inj hF)), psnd (Option.some.inj hF), ok⟩ Z.nila dX4_makeHold_162
        · rw [if_pos c28] at hF
          refine lv_aload_n hx hb dX4_makeHold_120 rfl (lv_at hl 3 rfl) ?_
          refine lv_iload_n hx hb dX4_makeHold_121 rfl (lv_at hl 5 rfl) ?_
          obtain ⟨q33, h34, hF⟩ := obind hF
          refine kv_i (As := [.int p2]) (ok := OK) Fc hA Z (Lens.tail []) (c_X4_recallFor l D cI cS ad hs τ24 ok p2 q33 h34) mL_RX4_198 v_X4_recallFor ⟨rfl, rfl⟩ ⟨Nat.le_of_ble_eq_true rfl, Nat.le_of_ble_eq_true rfl⟩ ⟨Nat.zero_le _, Nat.zero_le _⟩ 0 4 rfl rfl rfl hl (Nat.le_of_ble_eq_true rfl) dX4_makeHold_122 rfl (fun H locs ok1 Z => ?_)
          have ok := ok1
          refine lv_goto (tgt := 147) hx hb dX4_makeHold_125 (by decide) ?_
          refine lv_aload_n hx hb dX4_makeHold_147 rfl (lv_at hl 3 rfl) ?_
          refine lv_aload_n hx hb dX4_makeHold_148 rfl (lv_at hl 3 rfl) ?_
          refine kget Fc Z inX4 0 rfl rfl 0 (by decide) mF_RX4_10 rfl rfl dX4_makeHold_149 ?_
          refine kgetN Fc Z inX2 1 rfl rfl 2 (by decide) nw_RX4_192 rfl rfl dX4_makeHold_152 ?_
          refine kr_i (As := []) Fc hA Z Lens.c2 (c_X3_size l D cI cS (ad 6) (ad 7) 24 4 (24 * 4) sh2 (q33.1 2) ok.2.2.1  (q33.1 2).1 rfl) mL_RX4_92 v_X3_size ⟨rfl, rfl⟩ ⟨Nat.le_of_ble_eq_true rfl, Nat.le_of_ble_eq_true rfl⟩ ⟨Nat.zero_le _, Nat.zero_le _⟩ 6 3 rfl rfl rfl hl (Nat.le_of_ble_eq_true rfl) dX4_makeHold_155 rfl (fun H locs Z => ?_)
          refine lv_iload_n hx hb dX4_makeHold_158 rfl (lv_at hl 5 rfl) ?_
          obtain ⟨v35, h36, hF⟩ := obind hF
          refine kr_i (As := [.int ((q33.1 2).1), .int p2]) Fc hA Z (Lens.tail []) (c_X4_waitingBefore l D cI cS ad hs q33 ok ((q33.1 2).1) p2 v35 h36) mL_RX4_201 v_X4_waitingBefore ⟨rfl, rfl⟩ ⟨Nat.le_of_ble_eq_true rfl, Nat.le_of_ble_eq_true rfl⟩ ⟨Nat.zero_le _, Nat.zero_le _⟩ 0 4 rfl rfl rfl hl (Nat.le_of_ble_eq_true rfl) dX4_makeHold_159 rfl (fun H locs Z => ?_)
          exact kret v35 q33 _ _ _ _ ⟨(pfst (Option.some.inj hF)), psnd (Option.some.inj hF), ok⟩ Z.nila dX4_makeHold_162
      · rw [if_neg c9] at hF
        refine lv_bipush (v := (-3 : Int32)) hx hb dX4_makeHold_45 (by decide) ?_
        exact kret (-3 : Int32) τ7 _ _ _ _ ⟨(pfst (Option.some.inj hF)), psnd (Option.some.inj hF), ok⟩ Z.nila dX4_makeHold_47
    · rw [if_neg c4] at hF
      refine lv_iload hx hb dX4_makeHold_22 (lv_at hl 0 rfl) ?_
      refine ks_i (As := [.int v2]) Fc hA Z (c_X4_refusal l D cI cS v2 (X4_refusal v2) rfl) mL_RX4_137 v_X4_refusal ⟨rfl, rfl⟩ ⟨Nat.le_of_ble_eq_true rfl, Nat.le_of_ble_eq_true rfl⟩ ⟨Nat.zero_le _, Nat.zero_le _⟩ rfl hl (Nat.le_of_ble_eq_true rfl) dX4_makeHold_24 rfl (fun H locs Z => ?_)
      exact kret (X4_refusal v2) τ _ _ _ _ ⟨(pfst (Option.some.inj hF)), psnd (Option.some.inj hF), ok⟩ Z.nila dX4_makeHold_27
  · rw [if_pos c1] at hF
    refine lv_iconst (v := (-1 : Int32)) hx hb dX4_makeHold_7 (by decide) ?_
    exact kret (-1 : Int32) τ _ _ _ _ ⟨(pfst (Option.some.inj hF)), psnd (Option.some.inj hF), ok⟩ Z.nila dX4_makeHold_8
def X4_overdueCount_L4 (τ : St) (x1 : Int32) : Nat → Int32 → Int32 → Option (Int32)
  | 0, _, _ => none
  | k + 1, x2, x3 => if (τ.1 0).1 ≤ x3 then (some x2) else if (bi (X4_isAt τ x3 (1 : Int32) x1)) = 0 then (X4_overdueCount_L4 τ x1 k x2 ((x3 + (1 : Int32)))) else if τ.2 ≤ (tget 12 (τ.1 0) x3 (6 : Int32)) then (X4_overdueCount_L4 τ x1 k x2 ((x3 + (1 : Int32)))) else X4_overdueCount_L4 τ x1 k ((x2 + (1 : Int32))) ((x3 + (1 : Int32)))
def X4_overdueCount (τ : St) (p1 : Int32) : Option (Int32) := X4_overdueCount_L4 τ p1 FU (0 : Int32) (0 : Int32)
def rm_X4_overdueCount : Room := { frames := 3, cells := 0, slots := 0, locals := 67 }
theorem v_X4_overdueCount : WdV RX4 yX4_overdueCount cX4_overdueCount 4 (some .int) 1 := ⟨mI_X4_overdueCount, mS_X4_overdueCount, mZ_RX4, mC_X4_overdueCount, by decide +kernel⟩
set_option maxHeartbeats 8000000 in
set_option maxRecDepth 100000 in
theorem c_X4_overdueCount (l : Launch) (D : va_G) (cI cS : ClassId) (ad : Nat → Nat) (hs : Bool) (τ : St) (ok : OK τ) (p1 : Int32) (F : Int32) (hF : X4_overdueCount τ p1 = some F) : MI l yX4_overdueCount cX4_overdueCount 4 (some .int) rm_X4_overdueCount D cI cS [.ref (ad 0), .int p1] (cW ad cI hs τ) (cW ad cI hs) (fun r u' => r = F ∧ u' = τ) := by
  refine MI.mk RX4 rfl .int rfl (by decide) (Nat.le_of_ble_eq_true rfl) (fun _ _ _ => rfl) ?_
  intro p e s m args below meth c A Q ls Fc hin hA Z kret hl
  obtain ⟨hx, hb, hml, hown, hts, hKN⟩ := id Fc
  replace hl : lv_has ls 4 [(0, .ref (ad 0)), (1, .int p1)] := hl
  replace Z := Z.anil
  have L4 : ∀ (x1 : Int32) (k : Nat) (x2 : Int32) (x3 : Int32) (H : Heap) (locs : List Loc) (ls : Array Slot), X4_overdueCount_L4 τ x1  k x2 x3 = some F → OK τ → Ix D A s (cW ad cI hs τ ++ []) H locs → lv_has ls 4 [(0, .ref (ad 0)), (1, .int x1), (2, .int x2), (3, .int x3)] → W p l e rm_X4_overdueCount s m args below meth c H locs 0 0 Q (F0 m 4 ls []) := by
    intro x1 k
    induction k with
    | zero => intro x2 x3 H locs ls hF; rw [X4_overdueCount_L4] at hF; cases hF
    | succ k ih =>
      intro x2 x3 H locs ls hF ok Z hl
      rw [X4_overdueCount_L4] at hF
      refine lv_iload_n hx hb dX4_overdueCount_4 rfl (lv_at hl 3 rfl) ?_
      refine lv_aload_n hx hb dX4_overdueCount_5 rfl (lv_at hl 0 rfl) ?_
      refine kget Fc Z inX4 0 rfl rfl 0 (by decide) mF_RX4_10 rfl rfl dX4_overdueCount_6 ?_
      refine kgetN Fc Z inX2 1 rfl rfl 0 (by decide) nw_RX4_47 rfl rfl dX4_overdueCount_9 ?_
      refine kr_i (As := []) Fc hA Z Lens.c0 (c_X3_size l D cI cS (ad 2) (ad 3) 20 12 (20 * 12) sh0 (τ.1 0) ok.1  (τ.1 0).1 rfl) mL_RX4_92 v_X3_size ⟨rfl, rfl⟩ ⟨Nat.le_of_ble_eq_true rfl, Nat.le_of_ble_eq_true rfl⟩ ⟨Nat.zero_le _, Nat.zero_le _⟩ 2 3 rfl rfl rfl hl (Nat.le_of_ble_eq_true rfl) dX4_overdueCount_12 rfl (fun H locs Z => ?_)
      refine lv_icmp_ge (tgt := 60) hx hb dX4_overdueCount_15 (by decide) (fun c1 => ?_) (fun c1 => ?_)
      · rw [if_pos c1] at hF
        refine lv_iload_n hx hb dX4_overdueCount_60 rfl (lv_at hl 2 rfl) ?_
        exact kret x2 τ _ _ _ _ ⟨(Option.some.inj hF), rfl⟩ Z.nila dX4_overdueCount_61
      · rw [if_neg c1] at hF
        refine lv_aload_n hx hb dX4_overdueCount_18 rfl (lv_at hl 0 rfl) ?_
        refine lv_iload_n hx hb dX4_overdueCount_19 rfl (lv_at hl 3 rfl) ?_
        refine lv_iconst (v := (1 : Int32)) hx hb dX4_overdueCount_20 (by decide) ?_
        refine lv_iload_n hx hb dX4_overdueCount_21 rfl (lv_at hl 1 rfl) ?_
        refine kr_i (As := [.int x3, .int (1 : Int32), .int x1]) Fc hA Z (Lens.tail []) (c_X4_isAt l D cI cS ad hs τ ok x3 (1 : Int32) x1 (X4_isAt τ x3 (1 : Int32) x1) rfl) mL_RX4_231 v_X4_isAt ⟨rfl, rfl⟩ ⟨Nat.le_of_ble_eq_true rfl, Nat.le_of_ble_eq_true rfl⟩ ⟨Nat.zero_le _, Nat.zero_le _⟩ 0 4 rfl rfl rfl hl (Nat.le_of_ble_eq_true rfl) dX4_overdueCount_22 rfl (fun H locs Z => ?_)
        refine lv_if_eq (tgt := 54) hx hb dX4_overdueCount_25 (by decide) (fun c2 => ?_) (fun c2 => ?_)
        · rw [if_pos c2] at hF
          refine lv_iinc (v := (x3 + (1 : Int32))) (lv' := [(3, .int (x3 + (1 : Int32))), (0, .ref (ad 0)), (1, .int x1), (2, .int x2)]) hx hb dX4_overdueCount_54 hl (k := 3) rfl (by rfl) (by decide) rfl (fun ls hl => ?_)
          refine lv_goto (tgt := 4) hx hb dX4_overdueCount_57 (by decide) ?_
          exact ih x2 ((x3 + (1 : Int32))) _ _ _ hF ok Z (lv_sub hl [1, 2, 3, 0] rfl)
        · rw [if_neg c2] at hF
          refine lv_aload_n hx hb dX4_overdueCount_28 rfl (lv_at hl 0 rfl) ?_
          refine kget Fc Z inX4 0 rfl rfl 0 (by decide) mF_RX4_10 rfl rfl dX4_overdueCount_29 ?_
          refine kgetN Fc Z inX2 1 rfl rfl 0 (by decide) nw_RX4_47 rfl rfl dX4_overdueCount_32 ?_
          refine lv_iload_n hx hb dX4_overdueCount_35 rfl (lv_at hl 3 rfl) ?_
          refine lv_bipush (v := (6 : Int32)) hx hb dX4_overdueCount_36 (by decide) ?_
          refine kr_i (As := [.int x3, .int (6 : Int32)]) Fc hA Z Lens.c0 (c_X3_get l D cI cS (ad 2) (ad 3) 20 12 (20 * 12) sh0 (τ.1 0) ok.1 x3 (6 : Int32) (tget 12 (τ.1 0) x3 (6 : Int32)) rfl) mL_RX4_88 v_X3_get ⟨rfl, rfl⟩ ⟨Nat.le_of_ble_eq_true rfl, Nat.le_of_ble_eq_true rfl⟩ ⟨Nat.zero_le _, Nat.zero_le _⟩ 2 3 rfl rfl rfl hl (Nat.le_of_ble_eq_true rfl) dX4_overdueCount_38 rfl (fun H locs Z => ?_)
          refine lv_aload_n hx hb dX4_overdueCount_41 rfl (lv_at hl 0 rfl) ?_
          refine kget Fc Z inX4 0 rfl rfl 0 (by decide) mF_RX4_10 rfl rfl dX4_overdueCount_42 ?_
          refine kgetN Fc Z inX2 1 rfl rfl 5 (by decide) nw_RX4_98 rfl rfl dX4_overdueCount_45 ?_
          refine lv_icmp_ge (tgt := 54) hx hb dX4_overdueCount_48 (by decide) (fun c3 => ?_) (fun c3 => ?_)
          · rw [if_pos c3] at hF
            refine lv_iinc (v := (x3 + (1 : Int32))) (lv' := [(3, .int (x3 + (1 : Int32))), (0, .ref (ad 0)), (1, .int x1), (2, .int x2)]) hx hb dX4_overdueCount_54 hl (k := 3) rfl (by rfl) (by decide) rfl (fun ls hl => ?_)
            refine lv_goto (tgt := 4) hx hb dX4_overdueCount_57 (by decide) ?_
            exact ih x2 ((x3 + (1 : Int32))) _ _ _ hF ok Z (lv_sub hl [1, 2, 3, 0] rfl)
          · rw [if_neg c3] at hF
            refine lv_iinc (v := (x2 + (1 : Int32))) (lv' := [(2, .int (x2 + (1 : Int32))), (0, .ref (ad 0)), (1, .int x1), (3, .int x3)]) hx hb dX4_overdueCount_51 hl (k := 2) rfl (by rfl) (by decide) rfl (fun ls hl => ?_)
            refine lv_iinc (v := (x3 + (1 : Int32))) (lv' := [(3, .int (x3 + (1 : Int32))), (2, .int (x2 + (1 : Int32))), (0, .ref (ad 0)), (1, .int x1)]) hx hb dX4_overdueCount_54 hl (k := 3) rfl (by rfl) (by decide) rfl (fun ls hl => ?_)
            refine lv_goto (tgt := 4) hx hb dX4_overdueCount_57 (by decide) ?_
            exact ih ((x2 + (1 : Int32))) ((x3 + (1 : Int32))) _ _ _ hF ok Z (lv_sub hl [2, 3, 1, 0] rfl)
  unfold X4_overdueCount at hF
  refine lv_iconst (v := (0 : Int32)) hx hb dX4_overdueCount_0 (by decide) ?_
  refine lv_istore_n (lv' := [(2, .int (0 : Int32)), (0, .ref (ad 0)), (1, .int p1)]) hx hb dX4_overdueCount_1 rfl hl (by decide) rfl (fun ls hl => ?_)
  refine lv_iconst (v := (0 : Int32)) hx hb dX4_overdueCount_2 (by decide) ?_
  refine lv_istore_n (lv' := [(3, .int (0 : Int32)), (2, .int (0 : Int32)), (0, .ref (ad 0)), (1, .int p1)]) hx hb dX4_overdueCount_3 rfl hl (by decide) rfl (fun ls hl => ?_)
  exact L4 p1 FU (0 : Int32) (0 : Int32) _ _ _ hF ok Z (lv_sub hl [2, 3, 1, 0] rfl)
def X4_owes (τ : St) (p1 : Int32) : Int32 := if (bi (X4_isPatron τ p1)) = 0 then ((-1 : Int32)) else (tget 4 (τ.1 1) p1 (0 : Int32))
def rm_X4_owes : Room := { frames := 2, cells := 0, slots := 0, locals := 42 }
theorem v_X4_owes : WdV RX4 yX4_owes cX4_owes 2 (some .int) 1 := ⟨mI_X4_owes, mS_X4_owes, mZ_RX4, mC_X4_owes, by decide +kernel⟩
set_option maxHeartbeats 8000000 in
set_option maxRecDepth 100000 in
theorem c_X4_owes (l : Launch) (D : va_G) (cI cS : ClassId) (ad : Nat → Nat) (hs : Bool) (τ : St) (ok : OK τ) (p1 : Int32) (F : Int32) (hF : X4_owes τ p1 = F) : MI l yX4_owes cX4_owes 2 (some .int) rm_X4_owes D cI cS [.ref (ad 0), .int p1] (cW ad cI hs τ) (cW ad cI hs) (fun r u' => r = F ∧ u' = τ) := by
  refine MI.mk RX4 rfl .int rfl (by decide) (Nat.le_of_ble_eq_true rfl) (fun _ _ _ => rfl) ?_
  intro p e s m args below meth c A Q ls Fc hin hA Z kret hl
  obtain ⟨hx, hb, hml, hown, hts, hKN⟩ := id Fc
  replace hl : lv_has ls 2 [(0, .ref (ad 0)), (1, .int p1)] := hl
  replace Z := Z.anil
  unfold X4_owes at hF
  refine lv_aload_n hx hb dX4_owes_0 rfl (lv_at hl 0 rfl) ?_
  refine lv_iload_n hx hb dX4_owes_1 rfl (lv_at hl 1 rfl) ?_
  refine kr_i (As := [.int p1]) Fc hA Z (Lens.tail []) (c_X4_isPatron l D cI cS ad hs τ ok p1 (X4_isPatron τ p1) rfl) mL_RX4_143 v_X4_isPatron ⟨rfl, rfl⟩ ⟨Nat.le_of_ble_eq_true rfl, Nat.le_of_ble_eq_true rfl⟩ ⟨Nat.zero_le _, Nat.zero_le _⟩ 0 4 rfl rfl rfl hl (Nat.le_of_ble_eq_true rfl) dX4_owes_2 rfl (fun H locs Z => ?_)
  refine lv_if_eq (tgt := 23) hx hb dX4_owes_5 (by decide) (fun c1 => ?_) (fun c1 => ?_)
  · rw [if_pos c1] at hF
    refine lv_iconst (v := (-1 : Int32)) hx hb dX4_owes_23 (by decide) ?_
    exact kret (-1 : Int32) τ _ _ _ _ ⟨hF, rfl⟩ Z.nila dX4_owes_24
  · rw [if_neg c1] at hF
    refine lv_aload_n hx hb dX4_owes_8 rfl (lv_at hl 0 rfl) ?_
    refine kget Fc Z inX4 0 rfl rfl 0 (by decide) mF_RX4_10 rfl rfl dX4_owes_9 ?_
    refine kgetN Fc Z inX2 1 rfl rfl 1 (by decide) nw_RX4_69 rfl rfl dX4_owes_12 ?_
    refine lv_iload_n hx hb dX4_owes_15 rfl (lv_at hl 1 rfl) ?_
    refine lv_iconst (v := (0 : Int32)) hx hb dX4_owes_16 (by decide) ?_
    refine kr_i (As := [.int p1, .int (0 : Int32)]) Fc hA Z Lens.c1 (c_X3_get l D cI cS (ad 4) (ad 5) 8 4 (8 * 4) sh1 (τ.1 1) ok.2.1 p1 (0 : Int32) (tget 4 (τ.1 1) p1 (0 : Int32)) rfl) mL_RX4_88 v_X3_get ⟨rfl, rfl⟩ ⟨Nat.le_of_ble_eq_true rfl, Nat.le_of_ble_eq_true rfl⟩ ⟨Nat.zero_le _, Nat.zero_le _⟩ 4 3 rfl rfl rfl hl (Nat.le_of_ble_eq_true rfl) dX4_owes_17 rfl (fun H locs Z => ?_)
    refine lv_goto (tgt := 24) hx hb dX4_owes_20 (by decide) ?_
    exact kret ((tget 4 (τ.1 1) p1 (0 : Int32))) τ _ _ _ _ ⟨hF, rfl⟩ Z.nila dX4_owes_24
def X4_patron (τ : St) (p1 p2 : Int32) : Option (Int32) := if (bi (X4_isPatron τ p1)) = 0 then (some (-1 : Int32)) else if p2 = (0 : Int32) then ((X4_loanCount τ p1).bind fun v3 => some v3) else if p2 = (1 : Int32) then ((X4_holdsOf τ p1).bind fun v6 => some v6) else if p2 = (2 : Int32) then (some ((tget 4 (τ.1 1) p1 (1 : Int32)))) else if p2 = (3 : Int32) then ((X4_overdueCount τ p1).bind fun v10 => some v10) else if p2 = (4 : Int32) then (some ((tget 4 (τ.1 1) p1 (2 : Int32)))) else if p2 = (5 : Int32) then (some ((tget 4 (τ.1 1) p1 (3 : Int32)))) else some (-1 : Int32)
def rm_X4_patron : Room := { frames := 4, cells := 0, slots := 0, locals := 90 }
theorem v_X4_patron : WdV RX4 yX4_patron cX4_patron 3 (some .int) 2 := ⟨mI_X4_patron, mS_X4_patron, mZ_RX4, mC_X4_patron, by decide +kernel⟩
set_option maxHeartbeats 8000000 in
set_option maxRecDepth 100000 in
theorem c_X4_patron (l : Launch) (D : va_G) (cI cS : ClassId) (ad : Nat → Nat) (hs : Bool) (τ : St) (ok : OK τ) (p1 p2 : Int32) (F : Int32) (hF : X4_patron τ p1 p2 = some F) : MI l yX4_patron cX4_patron 3 (some .int) rm_X4_patron D cI cS [.ref (ad 0), .int p1, .int p2] (cW ad cI hs τ) (cW ad cI hs) (fun r u' => r = F ∧ u' = τ) := by
  refine MI.mk RX4 rfl .int rfl (by decide) (Nat.le_of_ble_eq_true rfl) (fun _ _ _ => rfl) ?_
  intro p e s m args below meth c A Q ls Fc hin hA Z kret hl
  obtain ⟨hx, hb, hml, hown, hts, hKN⟩ := id Fc
  replace hl : lv_has ls 3 [(0, .ref (ad 0)), (1, .int p1), (2, .int p2)] := hl
  replace Z := Z.anil
  unfold X4_patron at hF
  refine lv_aload_n hx hb dX4_patron_0 rfl (lv_at hl 0 rfl) ?_
  refine lv_iload_n hx hb dX4_patron_1 rfl (lv_at hl 1 rfl) ?_
  refine kr_i (As := [.int p1]) Fc hA Z (Lens.tail []) (c_X4_isPatron l D cI cS ad hs τ ok p1 (X4_isPatron τ p1) rfl) mL_RX4_143 v_X4_isPatron ⟨rfl, rfl⟩ ⟨Nat.le_of_ble_eq_true rfl, Nat.le_of_ble_eq_true rfl⟩ ⟨Nat.zero_le _, Nat.zero_le _⟩ 0 4 rfl rfl rfl hl (Nat.le_of_ble_eq_true rfl) dX4_patron_2 rfl (fun H locs Z => ?_)
  refine lv_if_ne (tgt := 10) hx hb dX4_patron_5 (by decide) (fun c1 => ?_) (fun c1 => ?_)
  · rw [if_neg c1] at hF
    refine lv_iload_n hx hb dX4_patron_10 rfl (lv_at hl 2 rfl) ?_
    rcases Decidable.em (p2 = (0 : Int32)) with c2 | c2
    · rw [if_pos c2] at hF
      refine lv_tableIn (off := 37) (tgt := 48) hx hb dX4_patron_11 (by rw [c2]; decide) (by rw [c2]; decide) (by rw [c2]; decide) (by decide) ?_
      refine lv_aload_n hx hb dX4_patron_48 rfl (lv_at hl 0 rfl) ?_
      refine lv_iload_n hx hb dX4_patron_49 rfl (lv_at hl 1 rfl) ?_
      obtain ⟨v3, h4, hF⟩ := obind hF
      refine kr_i (As := [.int p1]) Fc hA Z (Lens.tail []) (c_X4_loanCount l D cI cS ad hs τ ok p1 v3 h4) mL_RX4_149 v_X4_loanCount ⟨rfl, rfl⟩ ⟨Nat.le_of_ble_eq_true rfl, Nat.le_of_ble_eq_true rfl⟩ ⟨Nat.zero_le _, Nat.zero_le _⟩ 0 4 rfl rfl rfl hl (Nat.le_of_ble_eq_true rfl) dX4_patron_50 rfl (fun H locs Z => ?_)
      exact kret v3 τ _ _ _ _ ⟨(Option.some.inj hF), rfl⟩ Z.nila dX4_patron_53
    rw [if_neg c2] at hF
    rcases Decidable.em (p2 = (1 : Int32)) with c5 | c5
    · rw [if_pos c5] at hF
      refine lv_tableIn (off := 43) (tgt := 54) hx hb dX4_patron_11 (by rw [c5]; decide) (by rw [c5]; decide) (by rw [c5]; decide) (by decide) ?_
      refine lv_aload_n hx hb dX4_patron_54 rfl (lv_at hl 0 rfl) ?_
      refine lv_iload_n hx hb dX4_patron_55 rfl (lv_at hl 1 rfl) ?_
      obtain ⟨v6, h7, hF⟩ := obind hF
      refine kr_i (As := [.int p1]) Fc hA Z (Lens.tail []) (c_X4_holdsOf l D cI cS ad hs τ ok p1 v6 h7) mL_RX4_204 v_X4_holdsOf ⟨rfl, rfl⟩ ⟨Nat.le_of_ble_eq_true rfl, Nat.le_of_ble_eq_true rfl⟩ ⟨Nat.zero_le _, Nat.zero_le _⟩ 0 4 rfl rfl rfl hl (Nat.le_of_ble_eq_true rfl) dX4_patron_56 rfl (fun H locs Z => ?_)
      exact kret v6 τ _ _ _ _ ⟨(Option.some.inj hF), rfl⟩ Z.nila dX4_patron_59
    rw [if_neg c5] at hF
    rcases Decidable.em (p2 = (2 : Int32)) with c8 | c8
    · rw [if_pos c8] at hF
      refine lv_tableIn (off := 49) (tgt := 60) hx hb dX4_patron_11 (by rw [c8]; decide) (by rw [c8]; decide) (by rw [c8]; decide) (by decide) ?_
      refine lv_aload_n hx hb dX4_patron_60 rfl (lv_at hl 0 rfl) ?_
      refine kget Fc Z inX4 0 rfl rfl 0 (by decide) mF_RX4_10 rfl rfl dX4_patron_61 ?_
      refine kgetN Fc Z inX2 1 rfl rfl 1 (by decide) nw_RX4_69 rfl rfl dX4_patron_64 ?_
      refine lv_iload_n hx hb dX4_patron_67 rfl (lv_at hl 1 rfl) ?_
      refine lv_iconst (v := (1 : Int32)) hx hb dX4_patron_68 (by decide) ?_
      refine kr_i (As := [.int p1, .int (1 : Int32)]) Fc hA Z Lens.c1 (c_X3_get l D cI cS (ad 4) (ad 5) 8 4 (8 * 4) sh1 (τ.1 1) ok.2.1 p1 (1 : Int32) (tget 4 (τ.1 1) p1 (1 : Int32)) rfl) mL_RX4_88 v_X3_get ⟨rfl, rfl⟩ ⟨Nat.le_of_ble_eq_true rfl, Nat.le_of_ble_eq_true rfl⟩ ⟨Nat.zero_le _, Nat.zero_le _⟩ 4 3 rfl rfl rfl hl (Nat.le_of_ble_eq_true rfl) dX4_patron_69 rfl (fun H locs Z => ?_)
      exact kret ((tget 4 (τ.1 1) p1 (1 : Int32))) τ _ _ _ _ ⟨(Option.some.inj hF), rfl⟩ Z.nila dX4_patron_72
    rw [if_neg c8] at hF
    rcases Decidable.em (p2 = (3 : Int32)) with c9 | c9
    · rw [if_pos c9] at hF
      refine lv_tableIn (off := 62) (tgt := 73) hx hb dX4_patron_11 (by rw [c9]; decide) (by rw [c9]; decide) (by rw [c9]; decide) (by decide) ?_
      refine lv_aload_n hx hb dX4_patron_73 rfl (lv_at hl 0 rfl) ?_
      refine lv_iload_n hx hb dX4_patron_74 rfl (lv_at hl 1 rfl) ?_
      obtain ⟨v10, h11, hF⟩ := obind hF
      refine kr_i (As := [.int p1]) Fc hA Z (Lens.tail []) (c_X4_overdueCount l D cI cS ad hs τ ok p1 v10 h11) mL_RX4_235 v_X4_overdueCount ⟨rfl, rfl⟩ ⟨Nat.le_of_ble_eq_true rfl, Nat.le_of_ble_eq_true rfl⟩ ⟨Nat.zero_le _, Nat.zero_le _⟩ 0 4 rfl rfl rfl hl (Nat.le_of_ble_eq_true rfl) dX4_patron_75 rfl (fun H locs Z => ?_)
      exact kret v10 τ _ _ _ _ ⟨(Option.some.inj hF), rfl⟩ Z.nila dX4_patron_78
    rw [if_neg c9] at hF
    rcases Decidable.em (p2 = (4 : Int32)) with c12 | c12
    · rw [if_pos c12] at hF
      refine lv_tableIn (off := 68) (tgt := 79) hx hb dX4_patron_11 (by rw [c12]; decide) (by rw [c12]; decide) (by rw [c12]; decide) (by decide) ?_
      refine lv_aload_n hx hb dX4_patron_79 rfl (lv_at hl 0 rfl) ?_
      refine kget Fc Z inX4 0 rfl rfl 0 (by decide) mF_RX4_10 rfl rfl dX4_patron_80 ?_
      refine kgetN Fc Z inX2 1 rfl rfl 1 (by decide) nw_RX4_69 rfl rfl dX4_patron_83 ?_
      refine lv_iload_n hx hb dX4_patron_86 rfl (lv_at hl 1 rfl) ?_
      refine lv_iconst (v := (2 : Int32)) hx hb dX4_patron_87 (by decide) ?_
      refine kr_i (As := [.int p1, .int (2 : Int32)]) Fc hA Z Lens.c1 (c_X3_get l D cI cS (ad 4) (ad 5) 8 4 (8 * 4) sh1 (τ.1 1) ok.2.1 p1 (2 : Int32) (tget 4 (τ.1 1) p1 (2 : Int32)) rfl) mL_RX4_88 v_X3_get ⟨rfl, rfl⟩ ⟨Nat.le_of_ble_eq_true rfl, Nat.le_of_ble_eq_true rfl⟩ ⟨Nat.zero_le _, Nat.zero_le _⟩ 4 3 rfl rfl rfl hl (Nat.le_of_ble_eq_true rfl) dX4_patron_88 rfl (fun H locs Z => ?_)
      exact kret ((tget 4 (τ.1 1) p1 (2 : Int32))) τ _ _ _ _ ⟨(Option.some.inj hF), rfl⟩ Z.nila dX4_patron_91
    rw [if_neg c12] at hF
    rcases Decidable.em (p2 = (5 : Int32)) with c13 | c13
    · rw [if_pos c13] at hF
      refine lv_tableIn (off := 81) (tgt := 92) hx hb dX4_patron_11 (by rw [c13]; decide) (by rw [c13]; decide) (by rw [c13]; decide) (by decide) ?_
      refine lv_aload_n hx hb dX4_patron_92 rfl (lv_at hl 0 rfl) ?_
      refine kget Fc Z inX4 0 rfl rfl 0 (by decide) mF_RX4_10 rfl rfl dX4_patron_93 ?_
      refine kgetN Fc Z inX2 1 rfl rfl 1 (by decide) nw_RX4_69 rfl rfl dX4_patron_96 ?_
      refine lv_iload_n hx hb dX4_patron_99 rfl (lv_at hl 1 rfl) ?_
      refine lv_iconst (v := (3 : Int32)) hx hb dX4_patron_100 (by decide) ?_
      refine kr_i (As := [.int p1, .int (3 : Int32)]) Fc hA Z Lens.c1 (c_X3_get l D cI cS (ad 4) (ad 5) 8 4 (8 * 4) sh1 (τ.1 1) ok.2.1 p1 (3 : Int32) (tget 4 (τ.1 1) p1 (3 : Int32)) rfl) mL_RX4_88 v_X3_get ⟨rfl, rfl⟩ ⟨Nat.le_of_ble_eq_true rfl, Nat.le_of_ble_eq_true rfl⟩ ⟨Nat.zero_le _, Nat.zero_le _⟩ 4 3 rfl rfl rfl hl (Nat.le_of_ble_eq_true rfl) dX4_patron_101 rfl (fun H locs Z => ?_)
      exact kret ((tget 4 (τ.1 1) p1 (3 : Int32))) τ _ _ _ _ ⟨(Option.some.inj hF), rfl⟩ Z.nila dX4_patron_104
    rw [if_neg c13] at hF
    refine kdflt (tgt := 105) hx hb dX4_patron_11 [(0 : Int32), (1 : Int32), (2 : Int32), (3 : Int32), (4 : Int32), (5 : Int32)] (by decide) (by intro v hv; simp only [List.mem_cons, List.not_mem_nil, or_false] at hv; rcases hv with rfl | rfl | rfl | rfl | rfl | rfl <;> assumption) (by decide) ?_
    refine lv_iconst (v := (-1 : Int32)) hx hb dX4_patron_105 (by decide) ?_
    exact kret (-1 : Int32) τ _ _ _ _ ⟨(Option.some.inj hF), rfl⟩ Z.nila dX4_patron_106
  · rw [if_pos c1] at hF
    refine lv_iconst (v := (-1 : Int32)) hx hb dX4_patron_8 (by decide) ?_
    exact kret (-1 : Int32) τ _ _ _ _ ⟨(Option.some.inj hF), rfl⟩ Z.nila dX4_patron_9
def X4_patronCount (τ : St) : Int32 := (τ.1 1).1
def rm_X4_patronCount : Room := { frames := 1, cells := 0, slots := 0, locals := 20 }
theorem v_X4_patronCount : WdV RX4 yX4_patronCount cX4_patronCount 1 (some .int) 0 := ⟨mI_X4_patronCount, mS_X4_patronCount, mZ_RX4, mC_X4_patronCount, by decide +kernel⟩
set_option maxHeartbeats 8000000 in
set_option maxRecDepth 100000 in
theorem c_X4_patronCount (l : Launch) (D : va_G) (cI cS : ClassId) (ad : Nat → Nat) (hs : Bool) (τ : St) (ok : OK τ) (F : Int32) (hF : X4_patronCount τ = F) : MI l yX4_patronCount cX4_patronCount 1 (some .int) rm_X4_patronCount D cI cS [.ref (ad 0)] (cW ad cI hs τ) (cW ad cI hs) (fun r u' => r = F ∧ u' = τ) := by
  refine MI.mk RX4 rfl .int rfl (by decide) (Nat.le_of_ble_eq_true rfl) (fun _ _ _ => rfl) ?_
  intro p e s m args below meth c A Q ls Fc hin hA Z kret hl
  obtain ⟨hx, hb, hml, hown, hts, hKN⟩ := id Fc
  replace hl : lv_has ls 1 [(0, .ref (ad 0))] := hl
  replace Z := Z.anil
  unfold X4_patronCount at hF
  refine lv_aload_n hx hb dX4_patronCount_0 rfl (lv_at hl 0 rfl) ?_
  refine kget Fc Z inX4 0 rfl rfl 0 (by decide) mF_RX4_10 rfl rfl dX4_patronCount_1 ?_
  refine kgetN Fc Z inX2 1 rfl rfl 1 (by decide) nw_RX4_69 rfl rfl dX4_patronCount_4 ?_
  refine kr_i (As := []) Fc hA Z Lens.c1 (c_X3_size l D cI cS (ad 4) (ad 5) 8 4 (8 * 4) sh1 (τ.1 1) ok.2.1  (τ.1 1).1 rfl) mL_RX4_92 v_X3_size ⟨rfl, rfl⟩ ⟨Nat.le_of_ble_eq_true rfl, Nat.le_of_ble_eq_true rfl⟩ ⟨Nat.zero_le _, Nat.zero_le _⟩ 4 3 rfl rfl rfl hl (Nat.le_of_ble_eq_true rfl) dX4_patronCount_7 rfl (fun H locs Z => ?_)
  exact kret ((τ.1 1).1) τ _ _ _ _ ⟨hF, rfl⟩ Z.nila dX4_patronCount_10
def X4_place (τ : St) (p1 p2 : Int32) : Option (Int32) := if (bi (X4_isPatron τ p1)) = 0 then (some (-1 : Int32)) else if (bi (X4_isTitle p2)) = 0 then (some (-1 : Int32)) else (X4_findHold τ p1 p2).bind fun v3 => if v3 = (-2 : Int32) then (some (-2 : Int32)) else (X4_holdsBefore τ v3 p2).bind fun v6 => some v6
def rm_X4_place : Room := { frames := 2, cells := 0, slots := 0, locals := 47 }
theorem v_X4_place : WdV RX4 yX4_place cX4_place 4 (some .int) 2 := ⟨mI_X4_place, mS_X4_place, mZ_RX4, mC_X4_place, by decide +kernel⟩
set_option maxHeartbeats 8000000 in
set_option maxRecDepth 100000 in
theorem c_X4_place (l : Launch) (D : va_G) (cI cS : ClassId) (ad : Nat → Nat) (hs : Bool) (τ : St) (ok : OK τ) (p1 p2 : Int32) (F : Int32) (hF : X4_place τ p1 p2 = some F) : MI l yX4_place cX4_place 4 (some .int) rm_X4_place D cI cS [.ref (ad 0), .int p1, .int p2] (cW ad cI hs τ) (cW ad cI hs) (fun r u' => r = F ∧ u' = τ) := by
  refine MI.mk RX4 rfl .int rfl (by decide) (Nat.le_of_ble_eq_true rfl) (fun _ _ _ => rfl) ?_
  intro p e s m args below meth c A Q ls Fc hin hA Z kret hl
  obtain ⟨hx, hb, hml, hown, hts, hKN⟩ := id Fc
  replace hl : lv_has ls 4 [(0, .ref (ad 0)), (1, .int p1), (2, .int p2)] := hl
  replace Z := Z.anil
  unfold X4_place at hF
  refine lv_aload_n hx hb dX4_place_0 rfl (lv_at hl 0 rfl) ?_
  refine lv_iload_n hx hb dX4_place_1 rfl (lv_at hl 1 rfl) ?_
  refine kr_i (As := [.int p1]) Fc hA Z (Lens.tail []) (c_X4_isPatron l D cI cS ad hs τ ok p1 (X4_isPatron τ p1) rfl) mL_RX4_143 v_X4_isPatron ⟨rfl, rfl⟩ ⟨Nat.le_of_ble_eq_true rfl, Nat.le_of_ble_eq_true rfl⟩ ⟨Nat.zero_le _, Nat.zero_le _⟩ 0 4 rfl rfl rfl hl (Nat.le_of_ble_eq_true rfl) dX4_place_2 rfl (fun H locs Z => ?_)
  refine lv_if_eq (tgt := 15) hx hb dX4_place_5 (by decide) (fun c1 => ?_) (fun c1 => ?_)
  · rw [if_pos c1] at hF
    refine lv_iconst (v := (-1 : Int32)) hx hb dX4_place_15 (by decide) ?_
    exact kret (-1 : Int32) τ _ _ _ _ ⟨(Option.some.inj hF), rfl⟩ Z.nila dX4_place_16
  · rw [if_neg c1] at hF
    refine lv_iload_n hx hb dX4_place_8 rfl (lv_at hl 2 rfl) ?_
    refine ks_i (As := [.int p2]) Fc hA Z (c_X4_isTitle l D cI cS p2 (X4_isTitle p2) rfl) mL_RX4_40 v_X4_isTitle ⟨rfl, rfl⟩ ⟨Nat.le_of_ble_eq_true rfl, Nat.le_of_ble_eq_true rfl⟩ ⟨Nat.zero_le _, Nat.zero_le _⟩ rfl hl (Nat.le_of_ble_eq_true rfl) dX4_place_9 rfl (fun H locs Z => ?_)
    refine lv_if_ne (tgt := 17) hx hb dX4_place_12 (by decide) (fun c2 => ?_) (fun c2 => ?_)
    · rw [if_neg c2] at hF
      refine lv_aload_n hx hb dX4_place_17 rfl (lv_at hl 0 rfl) ?_
      refine lv_iload_n hx hb dX4_place_18 rfl (lv_at hl 1 rfl) ?_
      refine lv_iload_n hx hb dX4_place_19 rfl (lv_at hl 2 rfl) ?_
      obtain ⟨v3, h4, hF⟩ := obind hF
      refine kr_i (As := [.int p1, .int p2]) Fc hA Z (Lens.tail []) (c_X4_findHold l D cI cS ad hs τ ok p1 p2 v3 h4) mL_RX4_121 v_X4_findHold ⟨rfl, rfl⟩ ⟨Nat.le_of_ble_eq_true rfl, Nat.le_of_ble_eq_true rfl⟩ ⟨Nat.zero_le _, Nat.zero_le _⟩ 0 4 rfl rfl rfl hl (Nat.le_of_ble_eq_true rfl) dX4_place_20 rfl (fun H locs Z => ?_)
      refine lv_istore_n (lv' := [(3, .int v3), (0, .ref (ad 0)), (1, .int p1), (2, .int p2)]) hx hb dX4_place_23 rfl hl (by decide) rfl (fun ls hl => ?_)
      refine lv_iload_n hx hb dX4_place_24 rfl (lv_at hl 0 rfl) ?_
      refine lv_bipush (v := (-2 : Int32)) hx hb dX4_place_25 (by decide) ?_
      refine lv_icmp_ne (tgt := 35) hx hb dX4_place_27 (by decide) (fun c5 => ?_) (fun c5 => ?_)
      · rw [if_neg c5] at hF
        refine lv_aload_n hx hb dX4_place_35 rfl (lv_at hl 1 rfl) ?_
        refine lv_iload_n hx hb dX4_place_36 rfl (lv_at hl 0 rfl) ?_
        refine lv_iload_n hx hb dX4_place_37 rfl (lv_at hl 3 rfl) ?_
        obtain ⟨v6, h7, hF⟩ := obind hF
        refine kr_i (As := [.int v3, .int p2]) Fc hA Z (Lens.tail []) (c_X4_holdsBefore l D cI cS ad hs τ ok v3 p2 v6 h7) mL_RX4_213 v_X4_holdsBefore ⟨rfl, rfl⟩ ⟨Nat.le_of_ble_eq_true rfl, Nat.le_of_ble_eq_true rfl⟩ ⟨Nat.zero_le _, Nat.zero_le _⟩ 0 4 rfl rfl rfl hl (Nat.le_of_ble_eq_true rfl) dX4_place_38 rfl (fun H locs Z => ?_)
        exact kret v6 τ _ _ _ _ ⟨(Option.some.inj hF), rfl⟩ Z.nila dX4_place_41
      · rw [if_pos c5] at hF
        refine lv_bipush (v := (-2 : Int32)) hx hb dX4_place_30 (by decide) ?_
        refine lv_goto (tgt := 41) hx hb dX4_place_32 (by decide) ?_
        exact kret (-2 : Int32) τ _ _ _ _ ⟨(Option.some.inj hF), rfl⟩ Z.nila dX4_place_41
    · rw [if_pos c2] at hF
      refine lv_iconst (v := (-1 : Int32)) hx hb dX4_place_15 (by decide) ?_
      exact kret (-1 : Int32) τ _ _ _ _ ⟨(Option.some.inj hF), rfl⟩ Z.nila dX4_place_16
def X4_reasonAgainstRenewing (τ : St) (p1 : Int32) : Option (Int32) := if (bi (X4_isCopy τ p1)) = 0 then (some (-1 : Int32)) else if (X4_stateOf τ p1) = (1 : Int32) then (if (tget 12 (τ.1 0) p1 (8 : Int32)) < (2 : Int32) then (if (tget 12 (τ.1 0) p1 (9 : Int32)) = (1 : Int32) then (some (3 : Int32)) else (X4_firstWaiting τ (X4_titleOf τ p1)).bind fun v5 => if v5 = (-2 : Int32) then (if (bi (X4_owesTheLimit τ ((tget 12 (τ.1 0) p1 (4 : Int32))))) = 0 then (if (τ.2 + (X4_valueOf τ (0 : Int32))) ≤ (tget 12 (τ.1 0) p1 (6 : Int32)) then (some (5 : Int32)) else some (0 : Int32)) else some (4 : Int32)) else some (3 : Int32)) else some (2 : Int32)) else some (1 : Int32)
def rm_X4_reasonAgainstRenewing : Room := { frames := 3, cells := 0, slots := 0, locals := 67 }
theorem v_X4_reasonAgainstRenewing : WdV RX4 yX4_reasonAgainstRenewing cX4_reasonAgainstRenewing 2 (some .int) 1 := ⟨mI_X4_reasonAgainstRenewing, mS_X4_reasonAgainstRenewing, mZ_RX4, mC_X4_reasonAgainstRenewing, by decide +kernel⟩
set_option maxHeartbeats 8000000 in
set_option maxRecDepth 100000 in
theorem c_X4_reasonAgainstRenewing (l : Launch) (D : va_G) (cI cS : ClassId) (ad : Nat → Nat) (hs : Bool) (τ : St) (ok : OK τ) (p1 : Int32) (F : Int32) (hF : X4_reasonAgainstRenewing τ p1 = some F) : MI l yX4_reasonAgainstRenewing cX4_reasonAgainstRenewing 2 (some .int) rm_X4_reasonAgainstRenewing D cI cS [.ref (ad 0), .int p1] (cW ad cI hs τ) (cW ad cI hs) (fun r u' => r = F ∧ u' = τ) := by
  refine MI.mk RX4 rfl .int rfl (by decide) (Nat.le_of_ble_eq_true rfl) (fun _ _ _ => rfl) ?_
  intro p e s m args below meth c A Q ls Fc hin hA Z kret hl
  obtain ⟨hx, hb, hml, hown, hts, hKN⟩ := id Fc
  replace hl : lv_has ls 2 [(0, .ref (ad 0)), (1, .int p1)] := hl
  replace Z := Z.anil
  unfold X4_reasonAgainstRenewing at hF
  refine lv_aload_n hx hb dX4_reasonAgainstRenewing_0 rfl (lv_at hl 0 rfl) ?_
  refine lv_iload_n hx hb dX4_reasonAgainstRenewing_1 rfl (lv_at hl 1 rfl) ?_
  refine kr_i (As := [.int p1]) Fc hA Z (Lens.tail []) (c_X4_isCopy l D cI cS ad hs τ ok p1 (X4_isCopy τ p1) rfl) mL_RX4_85 v_X4_isCopy ⟨rfl, rfl⟩ ⟨Nat.le_of_ble_eq_true rfl, Nat.le_of_ble_eq_true rfl⟩ ⟨Nat.zero_le _, Nat.zero_le _⟩ 0 4 rfl rfl rfl hl (Nat.le_of_ble_eq_true rfl) dX4_reasonAgainstRenewing_2 rfl (fun H locs Z => ?_)
  refine lv_if_ne (tgt := 10) hx hb dX4_reasonAgainstRenewing_5 (by decide) (fun c1 => ?_) (fun c1 => ?_)
  · rw [if_neg c1] at hF
    refine lv_aload_n hx hb dX4_reasonAgainstRenewing_10 rfl (lv_at hl 0 rfl) ?_
    refine lv_iload_n hx hb dX4_reasonAgainstRenewing_11 rfl (lv_at hl 1 rfl) ?_
    refine kr_i (As := [.int p1]) Fc hA Z (Lens.tail []) (c_X4_stateOf l D cI cS ad hs τ ok p1 (X4_stateOf τ p1) rfl) mL_RX4_95 v_X4_stateOf ⟨rfl, rfl⟩ ⟨Nat.le_of_ble_eq_true rfl, Nat.le_of_ble_eq_true rfl⟩ ⟨Nat.zero_le _, Nat.zero_le _⟩ 0 4 rfl rfl rfl hl (Nat.le_of_ble_eq_true rfl) dX4_reasonAgainstRenewing_12 rfl (fun H locs Z => ?_)
    refine lv_iconst (v := (1 : Int32)) hx hb dX4_reasonAgainstRenewing_15 (by decide) ?_
    refine lv_icmp_eq (tgt := 21) hx hb dX4_reasonAgainstRenewing_16 (by decide) (fun c2 => ?_) (fun c2 => ?_)
    · rw [if_pos c2] at hF
      refine lv_aload_n hx hb dX4_reasonAgainstRenewing_21 rfl (lv_at hl 0 rfl) ?_
      refine kget Fc Z inX4 0 rfl rfl 0 (by decide) mF_RX4_10 rfl rfl dX4_reasonAgainstRenewing_22 ?_
      refine kgetN Fc Z inX2 1 rfl rfl 0 (by decide) nw_RX4_47 rfl rfl dX4_reasonAgainstRenewing_25 ?_
      refine lv_iload_n hx hb dX4_reasonAgainstRenewing_28 rfl (lv_at hl 1 rfl) ?_
      refine lv_bipush (v := (8 : Int32)) hx hb dX4_reasonAgainstRenewing_29 (by decide) ?_
      refine kr_i (As := [.int p1, .int (8 : Int32)]) Fc hA Z Lens.c0 (c_X3_get l D cI cS (ad 2) (ad 3) 20 12 (20 * 12) sh0 (τ.1 0) ok.1 p1 (8 : Int32) (tget 12 (τ.1 0) p1 (8 : Int32)) rfl) mL_RX4_88 v_X3_get ⟨rfl, rfl⟩ ⟨Nat.le_of_ble_eq_true rfl, Nat.le_of_ble_eq_true rfl⟩ ⟨Nat.zero_le _, Nat.zero_le _⟩ 2 3 rfl rfl rfl hl (Nat.le_of_ble_eq_true rfl) dX4_reasonAgainstRenewing_31 rfl (fun H locs Z => ?_)
      refine lv_iconst (v := (2 : Int32)) hx hb dX4_reasonAgainstRenewing_34 (by decide) ?_
      refine lv_icmp_lt (tgt := 40) hx hb dX4_reasonAgainstRenewing_35 (by decide) (fun c3 => ?_) (fun c3 => ?_)
      · rw [if_pos c3] at hF
        refine lv_aload_n hx hb dX4_reasonAgainstRenewing_40 rfl (lv_at hl 0 rfl) ?_
        refine kget Fc Z inX4 0 rfl rfl 0 (by decide) mF_RX4_10 rfl rfl dX4_reasonAgainstRenewing_41 ?_
        refine kgetN Fc Z inX2 1 rfl rfl 0 (by decide) nw_RX4_47 rfl rfl dX4_reasonAgainstRenewing_44 ?_
        refine lv_iload_n hx hb dX4_reasonAgainstRenewing_47 rfl (lv_at hl 1 rfl) ?_
        refine lv_bipush (v := (9 : Int32)) hx hb dX4_reasonAgainstRenewing_48 (by decide) ?_
        refine kr_i (As := [.int p1, .int (9 : Int32)]) Fc hA Z Lens.c0 (c_X3_get l D cI cS (ad 2) (ad 3) 20 12 (20 * 12) sh0 (τ.1 0) ok.1 p1 (9 : Int32) (tget 12 (τ.1 0) p1 (9 : Int32)) rfl) mL_RX4_88 v_X3_get ⟨rfl, rfl⟩ ⟨Nat.le_of_ble_eq_true rfl, Nat.le_of_ble_eq_true rfl⟩ ⟨Nat.zero_le _, Nat.zero_le _⟩ 2 3 rfl rfl rfl hl (Nat.le_of_ble_eq_true rfl) dX4_reasonAgainstRenewing_50 rfl (fun H locs Z => ?_)
        refine lv_iconst (v := (1 : Int32)) hx hb dX4_reasonAgainstRenewing_53 (by decide) ?_
        refine lv_icmp_eq (tgt := 71) hx hb dX4_reasonAgainstRenewing_54 (by decide) (fun c4 => ?_) (fun c4 => ?_)
        · rw [if_pos c4] at hF
          refine lv_iconst (v := (3 : Int32)) hx hb dX4_reasonAgainstRenewing_71 (by decide) ?_
          exact kret (3 : Int32) τ _ _ _ _ ⟨(Option.some.inj hF), rfl⟩ Z.nila dX4_reasonAgainstRenewing_72
        · rw [if_neg c4] at hF
          refine lv_aload_n hx hb dX4_reasonAgainstRenewing_57 rfl (lv_at hl 0 rfl) ?_
          refine lv_aload_n hx hb dX4_reasonAgainstRenewing_58 rfl (lv_at hl 0 rfl) ?_
          refine lv_iload_n hx hb dX4_reasonAgainstRenewing_59 rfl (lv_at hl 1 rfl) ?_
          refine kr_i (As := [.int p1]) Fc hA Z (Lens.tail []) (c_X4_titleOf l D cI cS ad hs τ ok p1 (X4_titleOf τ p1) rfl) mL_RX4_118 v_X4_titleOf ⟨rfl, rfl⟩ ⟨Nat.le_of_ble_eq_true rfl, Nat.le_of_ble_eq_true rfl⟩ ⟨Nat.zero_le _, Nat.zero_le _⟩ 0 4 rfl rfl rfl hl (Nat.le_of_ble_eq_true rfl) dX4_reasonAgainstRenewing_60 rfl (fun H locs Z => ?_)
          obtain ⟨v5, h6, hF⟩ := obind hF
          refine kr_i (As := [.int (X4_titleOf τ p1)]) Fc hA Z (Lens.tail []) (c_X4_firstWaiting l D cI cS ad hs τ ok (X4_titleOf τ p1) v5 h6) mL_RX4_173 v_X4_firstWaiting ⟨rfl, rfl⟩ ⟨Nat.le_of_ble_eq_true rfl, Nat.le_of_ble_eq_true rfl⟩ ⟨Nat.zero_le _, Nat.zero_le _⟩ 0 4 rfl rfl rfl hl (Nat.le_of_ble_eq_true rfl) dX4_reasonAgainstRenewing_63 rfl (fun H locs Z => ?_)
          refine lv_bipush (v := (-2 : Int32)) hx hb dX4_reasonAgainstRenewing_66 (by decide) ?_
          refine lv_icmp_eq (tgt := 73) hx hb dX4_reasonAgainstRenewing_68 (by decide) (fun c7 => ?_) (fun c7 => ?_)
          · rw [if_pos c7] at hF
            refine lv_aload_n hx hb dX4_reasonAgainstRenewing_73 rfl (lv_at hl 0 rfl) ?_
            refine lv_aload_n hx hb dX4_reasonAgainstRenewing_74 rfl (lv_at hl 0 rfl) ?_
            refine kget Fc Z inX4 0 rfl rfl 0 (by decide) mF_RX4_10 rfl rfl dX4_reasonAgainstRenewing_75 ?_
            refine kgetN Fc Z inX2 1 rfl rfl 0 (by decide) nw_RX4_47 rfl rfl dX4_reasonAgainstRenewing_78 ?_
            refine lv_iload_n hx hb dX4_reasonAgainstRenewing_81 rfl (lv_at hl 1 rfl) ?_
            refine lv_iconst (v := (4 : Int32)) hx hb dX4_reasonAgainstRenewing_82 (by decide) ?_
            refine kr_i (As := [.int p1, .int (4 : Int32)]) Fc hA Z Lens.c0 (c_X3_get l D cI cS (ad 2) (ad 3) 20 12 (20 * 12) sh0 (τ.1 0) ok.1 p1 (4 : Int32) (tget 12 (τ.1 0) p1 (4 : Int32)) rfl) mL_RX4_88 v_X3_get ⟨rfl, rfl⟩ ⟨Nat.le_of_ble_eq_true rfl, Nat.le_of_ble_eq_true rfl⟩ ⟨Nat.zero_le _, Nat.zero_le _⟩ 2 3 rfl rfl rfl hl (Nat.le_of_ble_eq_true rfl) dX4_reasonAgainstRenewing_83 rfl (fun H locs Z => ?_)
            refine kr_i (As := [.int ((tget 12 (τ.1 0) p1 (4 : Int32)))]) Fc hA Z (Lens.tail []) (c_X4_owesTheLimit l D cI cS ad hs τ ok ((tget 12 (τ.1 0) p1 (4 : Int32))) (X4_owesTheLimit τ ((tget 12 (τ.1 0) p1 (4 : Int32)))) rfl) mL_RX4_146 v_X4_owesTheLimit ⟨rfl, rfl⟩ ⟨Nat.le_of_ble_eq_true rfl, Nat.le_of_ble_eq_true rfl⟩ ⟨Nat.zero_le _, Nat.zero_le _⟩ 0 4 rfl rfl rfl hl (Nat.le_of_ble_eq_true rfl) dX4_reasonAgainstRenewing_86 rfl (fun H locs Z => ?_)
            refine lv_if_eq (tgt := 94) hx hb dX4_reasonAgainstRenewing_89 (by decide) (fun c8 => ?_) (fun c8 => ?_)
            · rw [if_pos c8] at hF
              refine lv_aload_n hx hb dX4_reasonAgainstRenewing_94 rfl (lv_at hl 0 rfl) ?_
              refine kget Fc Z inX4 0 rfl rfl 0 (by decide) mF_RX4_10 rfl rfl dX4_reasonAgainstRenewing_95 ?_
              refine kgetN Fc Z inX2 1 rfl rfl 5 (by decide) nw_RX4_98 rfl rfl dX4_reasonAgainstRenewing_98 ?_
              refine lv_aload_n hx hb dX4_reasonAgainstRenewing_101 rfl (lv_at hl 0 rfl) ?_
              refine lv_iconst (v := (0 : Int32)) hx hb dX4_reasonAgainstRenewing_102 (by decide) ?_
              refine kr_i (As := [.int (0 : Int32)]) Fc hA Z (Lens.tail []) (c_X4_valueOf l D cI cS ad hs τ ok (0 : Int32) (X4_valueOf τ (0 : Int32)) rfl) mL_RX4_82 v_X4_valueOf ⟨rfl, rfl⟩ ⟨Nat.le_of_ble_eq_true rfl, Nat.le_of_ble_eq_true rfl⟩ ⟨Nat.zero_le _, Nat.zero_le _⟩ 0 4 rfl rfl rfl hl (Nat.le_of_ble_eq_true rfl) dX4_reasonAgainstRenewing_103 rfl (fun H locs Z => ?_)
              refine lv_iadd hx hb dX4_reasonAgainstRenewing_106 ?_
              refine lv_aload_n hx hb dX4_reasonAgainstRenewing_107 rfl (lv_at hl 0 rfl) ?_
              refine kget Fc Z inX4 0 rfl rfl 0 (by decide) mF_RX4_10 rfl rfl dX4_reasonAgainstRenewing_108 ?_
              refine kgetN Fc Z inX2 1 rfl rfl 0 (by decide) nw_RX4_47 rfl rfl dX4_reasonAgainstRenewing_111 ?_
              refine lv_iload_n hx hb dX4_reasonAgainstRenewing_114 rfl (lv_at hl 1 rfl) ?_
              refine lv_bipush (v := (6 : Int32)) hx hb dX4_reasonAgainstRenewing_115 (by decide) ?_
              refine kr_i (As := [.int p1, .int (6 : Int32)]) Fc hA Z Lens.c0 (c_X3_get l D cI cS (ad 2) (ad 3) 20 12 (20 * 12) sh0 (τ.1 0) ok.1 p1 (6 : Int32) (tget 12 (τ.1 0) p1 (6 : Int32)) rfl) mL_RX4_88 v_X3_get ⟨rfl, rfl⟩ ⟨Nat.le_of_ble_eq_true rfl, Nat.le_of_ble_eq_true rfl⟩ ⟨Nat.zero_le _, Nat.zero_le _⟩ 2 3 rfl rfl rfl hl (Nat.le_of_ble_eq_true rfl) dX4_reasonAgainstRenewing_117 rfl (fun H locs Z => ?_)
              refine lv_icmp_le (tgt := 127) hx hb dX4_reasonAgainstRenewing_120 (by decide) (fun c9 => ?_) (fun c9 => ?_)
              · rw [if_pos c9] at hF
                refine lv_iconst (v := (5 : Int32)) hx hb dX4_reasonAgainstRenewing_127 (by decide) ?_
                exact kret (5 : Int32) τ _ _ _ _ ⟨(Option.some.inj hF), rfl⟩ Z.nila dX4_reasonAgainstRenewing_128
              · rw [if_neg c9] at hF
                refine lv_iconst (v := (0 : Int32)) hx hb dX4_reasonAgainstRenewing_123 (by decide) ?_
                refine lv_goto (tgt := 128) hx hb dX4_reasonAgainstRenewing_124 (by decide) ?_
                exact kret (0 : Int32) τ _ _ _ _ ⟨(Option.some.inj hF), rfl⟩ Z.nila dX4_reasonAgainstRenewing_128
            · rw [if_neg c8] at hF
              refine lv_iconst (v := (4 : Int32)) hx hb dX4_reasonAgainstRenewing_92 (by decide) ?_
              exact kret (4 : Int32) τ _ _ _ _ ⟨(Option.some.inj hF), rfl⟩ Z.nila dX4_reasonAgainstRenewing_93
          · rw [if_neg c7] at hF
            refine lv_iconst (v := (3 : Int32)) hx hb dX4_reasonAgainstRenewing_71 (by decide) ?_
            exact kret (3 : Int32) τ _ _ _ _ ⟨(Option.some.inj hF), rfl⟩ Z.nila dX4_reasonAgainstRenewing_72
      · rw [if_neg c3] at hF
        refine lv_iconst (v := (2 : Int32)) hx hb dX4_reasonAgainstRenewing_38 (by decide) ?_
        exact kret (2 : Int32) τ _ _ _ _ ⟨(Option.some.inj hF), rfl⟩ Z.nila dX4_reasonAgainstRenewing_39
    · rw [if_neg c2] at hF
      refine lv_iconst (v := (1 : Int32)) hx hb dX4_reasonAgainstRenewing_19 (by decide) ?_
      exact kret (1 : Int32) τ _ _ _ _ ⟨(Option.some.inj hF), rfl⟩ Z.nila dX4_reasonAgainstRenewing_20
  · rw [if_pos c1] at hF
    refine lv_iconst (v := (-1 : Int32)) hx hb dX4_reasonAgainstRenewing_8 (by decide) ?_
    exact kret (-1 : Int32) τ _ _ _ _ ⟨(Option.some.inj hF), rfl⟩ Z.nila dX4_reasonAgainstRenewing_9
def X4_reasonAgainstClaiming (τ : St) (p1 : Int32) : Int32 := if (bi (X4_isCopy τ p1)) = 0 then ((-1 : Int32)) else if (X4_stateOf τ p1) = (1 : Int32) then (if (tget 4 (τ.1 1) ((tget 12 (τ.1 0) p1 (4 : Int32))) (1 : Int32)) < (2 : Int32) then ((0 : Int32)) else (2 : Int32)) else (1 : Int32)
def rm_X4_reasonAgainstClaiming : Room := { frames := 2, cells := 0, slots := 0, locals := 44 }
theorem v_X4_reasonAgainstClaiming : WdV RX4 yX4_reasonAgainstClaiming cX4_reasonAgainstClaiming 3 (some .int) 1 := ⟨mI_X4_reasonAgainstClaiming, mS_X4_reasonAgainstClaiming, mZ_RX4, mC_X4_reasonAgainstClaiming, by decide +kernel⟩
set_option maxHeartbeats 8000000 in
set_option maxRecDepth 100000 in
theorem c_X4_reasonAgainstClaiming (l : Launch) (D : va_G) (cI cS : ClassId) (ad : Nat → Nat) (hs : Bool) (τ : St) (ok : OK τ) (p1 : Int32) (F : Int32) (hF : X4_reasonAgainstClaiming τ p1 = F) : MI l yX4_reasonAgainstClaiming cX4_reasonAgainstClaiming 3 (some .int) rm_X4_reasonAgainstClaiming D cI cS [.ref (ad 0), .int p1] (cW ad cI hs τ) (cW ad cI hs) (fun r u' => r = F ∧ u' = τ) := by
  refine MI.mk RX4 rfl .int rfl (by decide) (Nat.le_of_ble_eq_true rfl) (fun _ _ _ => rfl) ?_
  intro p e s m args below meth c A Q ls Fc hin hA Z kret hl
  obtain ⟨hx, hb, hml, hown, hts, hKN⟩ := id Fc
  replace hl : lv_has ls 3 [(0, .ref (ad 0)), (1, .int p1)] := hl
  replace Z := Z.anil
  unfold X4_reasonAgainstClaiming at hF
  refine lv_aload_n hx hb dX4_reasonAgainstClaiming_0 rfl (lv_at hl 0 rfl) ?_
  refine lv_iload_n hx hb dX4_reasonAgainstClaiming_1 rfl (lv_at hl 1 rfl) ?_
  refine kr_i (As := [.int p1]) Fc hA Z (Lens.tail []) (c_X4_isCopy l D cI cS ad hs τ ok p1 (X4_isCopy τ p1) rfl) mL_RX4_85 v_X4_isCopy ⟨rfl, rfl⟩ ⟨Nat.le_of_ble_eq_true rfl, Nat.le_of_ble_eq_true rfl⟩ ⟨Nat.zero_le _, Nat.zero_le _⟩ 0 4 rfl rfl rfl hl (Nat.le_of_ble_eq_true rfl) dX4_reasonAgainstClaiming_2 rfl (fun H locs Z => ?_)
  refine lv_if_ne (tgt := 10) hx hb dX4_reasonAgainstClaiming_5 (by decide) (fun c1 => ?_) (fun c1 => ?_)
  · rw [if_neg c1] at hF
    refine lv_aload_n hx hb dX4_reasonAgainstClaiming_10 rfl (lv_at hl 0 rfl) ?_
    refine lv_iload_n hx hb dX4_reasonAgainstClaiming_11 rfl (lv_at hl 1 rfl) ?_
    refine kr_i (As := [.int p1]) Fc hA Z (Lens.tail []) (c_X4_stateOf l D cI cS ad hs τ ok p1 (X4_stateOf τ p1) rfl) mL_RX4_95 v_X4_stateOf ⟨rfl, rfl⟩ ⟨Nat.le_of_ble_eq_true rfl, Nat.le_of_ble_eq_true rfl⟩ ⟨Nat.zero_le _, Nat.zero_le _⟩ 0 4 rfl rfl rfl hl (Nat.le_of_ble_eq_true rfl) dX4_reasonAgainstClaiming_12 rfl (fun H locs Z => ?_)
    refine lv_iconst (v := (1 : Int32)) hx hb dX4_reasonAgainstClaiming_15 (by decide) ?_
    refine lv_icmp_eq (tgt := 21) hx hb dX4_reasonAgainstClaiming_16 (by decide) (fun c2 => ?_) (fun c2 => ?_)
    · rw [if_pos c2] at hF
      refine lv_aload_n hx hb dX4_reasonAgainstClaiming_21 rfl (lv_at hl 0 rfl) ?_
      refine kget Fc Z inX4 0 rfl rfl 0 (by decide) mF_RX4_10 rfl rfl dX4_reasonAgainstClaiming_22 ?_
      refine kgetN Fc Z inX2 1 rfl rfl 1 (by decide) nw_RX4_69 rfl rfl dX4_reasonAgainstClaiming_25 ?_
      refine lv_aload_n hx hb dX4_reasonAgainstClaiming_28 rfl (lv_at hl 0 rfl) ?_
      refine kget Fc Z inX4 0 rfl rfl 0 (by decide) mF_RX4_10 rfl rfl dX4_reasonAgainstClaiming_29 ?_
      refine kgetN Fc Z inX2 1 rfl rfl 0 (by decide) nw_RX4_47 rfl rfl dX4_reasonAgainstClaiming_32 ?_
      refine lv_iload_n hx hb dX4_reasonAgainstClaiming_35 rfl (lv_at hl 1 rfl) ?_
      refine lv_iconst (v := (4 : Int32)) hx hb dX4_reasonAgainstClaiming_36 (by decide) ?_
      refine kr_i (As := [.int p1, .int (4 : Int32)]) Fc hA Z Lens.c0 (c_X3_get l D cI cS (ad 2) (ad 3) 20 12 (20 * 12) sh0 (τ.1 0) ok.1 p1 (4 : Int32) (tget 12 (τ.1 0) p1 (4 : Int32)) rfl) mL_RX4_88 v_X3_get ⟨rfl, rfl⟩ ⟨Nat.le_of_ble_eq_true rfl, Nat.le_of_ble_eq_true rfl⟩ ⟨Nat.zero_le _, Nat.zero_le _⟩ 2 3 rfl rfl rfl hl (Nat.le_of_ble_eq_true rfl) dX4_reasonAgainstClaiming_37 rfl (fun H locs Z => ?_)
      refine lv_iconst (v := (1 : Int32)) hx hb dX4_reasonAgainstClaiming_40 (by decide) ?_
      refine kr_i (As := [.int ((tget 12 (τ.1 0) p1 (4 : Int32))), .int (1 : Int32)]) Fc hA Z Lens.c1 (c_X3_get l D cI cS (ad 4) (ad 5) 8 4 (8 * 4) sh1 (τ.1 1) ok.2.1 ((tget 12 (τ.1 0) p1 (4 : Int32))) (1 : Int32) (tget 4 (τ.1 1) ((tget 12 (τ.1 0) p1 (4 : Int32))) (1 : Int32)) rfl) mL_RX4_88 v_X3_get ⟨rfl, rfl⟩ ⟨Nat.le_of_ble_eq_true rfl, Nat.le_of_ble_eq_true rfl⟩ ⟨Nat.zero_le _, Nat.zero_le _⟩ 4 3 rfl rfl rfl hl (Nat.le_of_ble_eq_true rfl) dX4_reasonAgainstClaiming_41 rfl (fun H locs Z => ?_)
      refine lv_istore_n (lv' := [(2, .int (tget 4 (τ.1 1) ((tget 12 (τ.1 0) p1 (4 : Int32))) (1 : Int32))), (0, .ref (ad 0)), (1, .int p1)]) hx hb dX4_reasonAgainstClaiming_44 rfl hl (by decide) rfl (fun ls hl => ?_)
      refine lv_iload_n hx hb dX4_reasonAgainstClaiming_45 rfl (lv_at hl 0 rfl) ?_
      refine lv_iconst (v := (2 : Int32)) hx hb dX4_reasonAgainstClaiming_46 (by decide) ?_
      refine lv_icmp_lt (tgt := 54) hx hb dX4_reasonAgainstClaiming_47 (by decide) (fun c3 => ?_) (fun c3 => ?_)
      · rw [if_pos c3] at hF
        refine lv_iconst (v := (0 : Int32)) hx hb dX4_reasonAgainstClaiming_54 (by decide) ?_
        exact kret (0 : Int32) τ _ _ _ _ ⟨hF, rfl⟩ Z.nila dX4_reasonAgainstClaiming_55
      · rw [if_neg c3] at hF
        refine lv_iconst (v := (2 : Int32)) hx hb dX4_reasonAgainstClaiming_50 (by decide) ?_
        refine lv_goto (tgt := 55) hx hb dX4_reasonAgainstClaiming_51 (by decide) ?_
        exact kret (2 : Int32) τ _ _ _ _ ⟨hF, rfl⟩ Z.nila dX4_reasonAgainstClaiming_55
    · rw [if_neg c2] at hF
      refine lv_iconst (v := (1 : Int32)) hx hb dX4_reasonAgainstClaiming_19 (by decide) ?_
      exact kret (1 : Int32) τ _ _ _ _ ⟨hF, rfl⟩ Z.nila dX4_reasonAgainstClaiming_20
  · rw [if_pos c1] at hF
    refine lv_iconst (v := (-1 : Int32)) hx hb dX4_reasonAgainstClaiming_8 (by decide) ?_
    exact kret (-1 : Int32) τ _ _ _ _ ⟨hF, rfl⟩ Z.nila dX4_reasonAgainstClaiming_9
def X4_reasonAgainstLosing (τ : St) (p1 : Int32) : Int32 := if (bi (X4_isCopy τ p1)) = 0 then ((-1 : Int32)) else if (X4_stateOf τ p1) = (1 : Int32) then ((0 : Int32)) else if (X4_stateOf τ p1) = (4 : Int32) then ((0 : Int32)) else (1 : Int32)
def rm_X4_reasonAgainstLosing : Room := { frames := 2, cells := 0, slots := 0, locals := 44 }
theorem v_X4_reasonAgainstLosing : WdV RX4 yX4_reasonAgainstLosing cX4_reasonAgainstLosing 3 (some .int) 1 := ⟨mI_X4_reasonAgainstLosing, mS_X4_reasonAgainstLosing, mZ_RX4, mC_X4_reasonAgainstLosing, by decide +kernel⟩
set_option maxHeartbeats 8000000 in
set_option maxRecDepth 100000 in
theorem c_X4_reasonAgainstLosing (l : Launch) (D : va_G) (cI cS : ClassId) (ad : Nat → Nat) (hs : Bool) (τ : St) (ok : OK τ) (p1 : Int32) (F : Int32) (hF : X4_reasonAgainstLosing τ p1 = F) : MI l yX4_reasonAgainstLosing cX4_reasonAgainstLosing 3 (some .int) rm_X4_reasonAgainstLosing D cI cS [.ref (ad 0), .int p1] (cW ad cI hs τ) (cW ad cI hs) (fun r u' => r = F ∧ u' = τ) := by
  refine MI.mk RX4 rfl .int rfl (by decide) (Nat.le_of_ble_eq_true rfl) (fun _ _ _ => rfl) ?_
  intro p e s m args below meth c A Q ls Fc hin hA Z kret hl
  obtain ⟨hx, hb, hml, hown, hts, hKN⟩ := id Fc
  replace hl : lv_has ls 3 [(0, .ref (ad 0)), (1, .int p1)] := hl
  replace Z := Z.anil
  unfold X4_reasonAgainstLosing at hF
  refine lv_aload_n hx hb dX4_reasonAgainstLosing_0 rfl (lv_at hl 0 rfl) ?_
  refine lv_iload_n hx hb dX4_reasonAgainstLosing_1 rfl (lv_at hl 1 rfl) ?_
  refine kr_i (As := [.int p1]) Fc hA Z (Lens.tail []) (c_X4_isCopy l D cI cS ad hs τ ok p1 (X4_isCopy τ p1) rfl) mL_RX4_85 v_X4_isCopy ⟨rfl, rfl⟩ ⟨Nat.le_of_ble_eq_true rfl, Nat.le_of_ble_eq_true rfl⟩ ⟨Nat.zero_le _, Nat.zero_le _⟩ 0 4 rfl rfl rfl hl (Nat.le_of_ble_eq_true rfl) dX4_reasonAgainstLosing_2 rfl (fun H locs Z => ?_)
  refine lv_if_ne (tgt := 10) hx hb dX4_reasonAgainstLosing_5 (by decide) (fun c1 => ?_) (fun c1 => ?_)
  · rw [if_neg c1] at hF
    refine lv_aload_n hx hb dX4_reasonAgainstLosing_10 rfl (lv_at hl 0 rfl) ?_
    refine lv_iload_n hx hb dX4_reasonAgainstLosing_11 rfl (lv_at hl 1 rfl) ?_
    refine kr_i (As := [.int p1]) Fc hA Z (Lens.tail []) (c_X4_stateOf l D cI cS ad hs τ ok p1 (X4_stateOf τ p1) rfl) mL_RX4_95 v_X4_stateOf ⟨rfl, rfl⟩ ⟨Nat.le_of_ble_eq_true rfl, Nat.le_of_ble_eq_true rfl⟩ ⟨Nat.zero_le _, Nat.zero_le _⟩ 0 4 rfl rfl rfl hl (Nat.le_of_ble_eq_true rfl) dX4_reasonAgainstLosing_12 rfl (fun H locs Z => ?_)
    refine lv_istore_n (lv' := [(2, .int (X4_stateOf τ p1)), (0, .ref (ad 0)), (1, .int p1)]) hx hb dX4_reasonAgainstLosing_15 rfl hl (by decide) rfl (fun ls hl => ?_)
    refine lv_iload_n hx hb dX4_reasonAgainstLosing_16 rfl (lv_at hl 0 rfl) ?_
    refine lv_iconst (v := (1 : Int32)) hx hb dX4_reasonAgainstLosing_17 (by decide) ?_
    refine lv_icmp_eq (tgt := 26) hx hb dX4_reasonAgainstLosing_18 (by decide) (fun c2 => ?_) (fun c2 => ?_)
    · rw [if_pos c2] at hF
      refine lv_iconst (v := (0 : Int32)) hx hb dX4_reasonAgainstLosing_26 (by decide) ?_
      refine lv_goto (tgt := 31) hx hb dX4_reasonAgainstLosing_27 (by decide) ?_
      exact kret (0 : Int32) τ _ _ _ _ ⟨hF, rfl⟩ Z.nila dX4_reasonAgainstLosing_31
    · rw [if_neg c2] at hF
      refine lv_iload_n hx hb dX4_reasonAgainstLosing_21 rfl (lv_at hl 0 rfl) ?_
      refine lv_iconst (v := (4 : Int32)) hx hb dX4_reasonAgainstLosing_22 (by decide) ?_
      refine lv_icmp_ne (tgt := 30) hx hb dX4_reasonAgainstLosing_23 (by decide) (fun c3 => ?_) (fun c3 => ?_)
      · rw [if_neg c3] at hF
        refine lv_iconst (v := (1 : Int32)) hx hb dX4_reasonAgainstLosing_30 (by decide) ?_
        exact kret (1 : Int32) τ _ _ _ _ ⟨hF, rfl⟩ Z.nila dX4_reasonAgainstLosing_31
      · rw [if_pos c3] at hF
        refine lv_iconst (v := (0 : Int32)) hx hb dX4_reasonAgainstLosing_26 (by decide) ?_
        refine lv_goto (tgt := 31) hx hb dX4_reasonAgainstLosing_27 (by decide) ?_
        exact kret (0 : Int32) τ _ _ _ _ ⟨hF, rfl⟩ Z.nila dX4_reasonAgainstLosing_31
  · rw [if_pos c1] at hF
    refine lv_iconst (v := (-1 : Int32)) hx hb dX4_reasonAgainstLosing_8 (by decide) ?_
    exact kret (-1 : Int32) τ _ _ _ _ ⟨hF, rfl⟩ Z.nila dX4_reasonAgainstLosing_9
def X4_reason (τ : St) (p1 p2 p3 : Int32) : Option (Int32) := if p1 < (1 : Int32) then (if p1 = (0 : Int32) then ((X4_reasonAgainstLending τ p2 p3).bind fun v3 => some v3) else if p1 = (1 : Int32) then ((X4_reasonAgainstRenewing τ p2).bind fun v6 => some v6) else if p1 = (2 : Int32) then (some (X4_reasonAgainstClaiming τ p2)) else if p1 = (3 : Int32) then (some (X4_reasonAgainstLosing τ p2)) else if p1 = (4 : Int32) then ((X4_reasonAgainstHolding τ p2 p3).bind fun v11 => some v11) else some (-1 : Int32)) else if (3 : Int32) < p1 then (if p1 = (0 : Int32) then ((X4_reasonAgainstLending τ p2 p3).bind fun v15 => some v15) else if p1 = (1 : Int32) then ((X4_reasonAgainstRenewing τ p2).bind fun v18 => some v18) else if p1 = (2 : Int32) then (some (X4_reasonAgainstClaiming τ p2)) else if p1 = (3 : Int32) then (some (X4_reasonAgainstLosing τ p2)) else if p1 = (4 : Int32) then ((X4_reasonAgainstHolding τ p2 p3).bind fun v23 => some v23) else some (-1 : Int32)) else if p3 = 0 then (if p1 = (0 : Int32) then ((X4_reasonAgainstLending τ p2 p3).bind fun v27 => some v27) else if p1 = (1 : Int32) then ((X4_reasonAgainstRenewing τ p2).bind fun v30 => some v30) else if p1 = (2 : Int32) then (some (X4_reasonAgainstClaiming τ p2)) else if p1 = (3 : Int32) then (some (X4_reasonAgainstLosing τ p2)) else if p1 = (4 : Int32) then ((X4_reasonAgainstHolding τ p2 p3).bind fun v35 => some v35) else some (-1 : Int32)) else some (-1 : Int32)
def rm_X4_reason : Room := { frames := 5, cells := 0, slots := 0, locals := 112 }
theorem v_X4_reason : WdV RX4 yX4_reason cX4_reason 4 (some .int) 3 := ⟨mI_X4_reason, mS_X4_reason, mZ_RX4, mC_X4_reason, by decide +kernel⟩
set_option maxHeartbeats 8000000 in
set_option maxRecDepth 100000 in
theorem c_X4_reason (l : Launch) (D : va_G) (cI cS : ClassId) (ad : Nat → Nat) (hs : Bool) (τ : St) (ok : OK τ) (p1 p2 p3 : Int32) (F : Int32) (hF : X4_reason τ p1 p2 p3 = some F) : MI l yX4_reason cX4_reason 4 (some .int) rm_X4_reason D cI cS [.ref (ad 0), .int p1, .int p2, .int p3] (cW ad cI hs τ) (cW ad cI hs) (fun r u' => r = F ∧ u' = τ) := by
  refine MI.mk RX4 rfl .int rfl (by decide) (Nat.le_of_ble_eq_true rfl) (fun _ _ _ => rfl) ?_
  intro p e s m args below meth c A Q ls Fc hin hA Z kret hl
  obtain ⟨hx, hb, hml, hown, hts, hKN⟩ := id Fc
  replace hl : lv_has ls 4 [(0, .ref (ad 0)), (1, .int p1), (2, .int p2), (3, .int p3)] := hl
  replace Z := Z.anil
  unfold X4_reason at hF
  refine lv_iload_n hx hb dX4_reason_0 rfl (lv_at hl 1 rfl) ?_
  refine lv_iconst (v := (1 : Int32)) hx hb dX4_reason_1 (by decide) ?_
  refine lv_icmp_lt (tgt := 16) hx hb dX4_reason_2 (by decide) (fun c1 => ?_) (fun c1 => ?_)
  · rw [if_pos c1] at hF
    refine lv_iload_n hx hb dX4_reason_16 rfl (lv_at hl 1 rfl) ?_
    rcases Decidable.em (p1 = (0 : Int32)) with c2 | c2
    · rw [if_pos c2] at hF
      refine lv_tableIn (off := 35) (tgt := 52) hx hb dX4_reason_17 (by rw [c2]; decide) (by rw [c2]; decide) (by rw [c2]; decide) (by decide) ?_
      refine lv_aload_n hx hb dX4_reason_52 rfl (lv_at hl 0 rfl) ?_
      refine lv_iload_n hx hb dX4_reason_53 rfl (lv_at hl 2 rfl) ?_
      refine lv_iload_n hx hb dX4_reason_54 rfl (lv_at hl 3 rfl) ?_
      obtain ⟨v3, h4, hF⟩ := obind hF
      refine kr_i (As := [.int p2, .int p3]) Fc hA Z (Lens.tail []) (c_X4_reasonAgainstLending l D cI cS ad hs τ ok p2 p3 v3 h4) mL_RX4_134 v_X4_reasonAgainstLending ⟨rfl, rfl⟩ ⟨Nat.le_of_ble_eq_true rfl, Nat.le_of_ble_eq_true rfl⟩ ⟨Nat.zero_le _, Nat.zero_le _⟩ 0 4 rfl rfl rfl hl (Nat.le_of_ble_eq_true rfl) dX4_reason_55 rfl (fun H locs Z => ?_)
      exact kret v3 τ _ _ _ _ ⟨(Option.some.inj hF), rfl⟩ Z.nila dX4_reason_58
    rw [if_neg c2] at hF
    rcases Decidable.em (p1 = (1 : Int32)) with c5 | c5
    · rw [if_pos c5] at hF
      refine lv_tableIn (off := 42) (tgt := 59) hx hb dX4_reason_17 (by rw [c5]; decide) (by rw [c5]; decide) (by rw [c5]; decide) (by decide) ?_
      refine lv_aload_n hx hb dX4_reason_59 rfl (lv_at hl 0 rfl) ?_
      refine lv_iload_n hx hb dX4_reason_60 rfl (lv_at hl 2 rfl) ?_
      obtain ⟨v6, h7, hF⟩ := obind hF
      refine kr_i (As := [.int p2]) Fc hA Z (Lens.tail []) (c_X4_reasonAgainstRenewing l D cI cS ad hs τ ok p2 v6 h7) mL_RX4_170 v_X4_reasonAgainstRenewing ⟨rfl, rfl⟩ ⟨Nat.le_of_ble_eq_true rfl, Nat.le_of_ble_eq_true rfl⟩ ⟨Nat.zero_le _, Nat.zero_le _⟩ 0 4 rfl rfl rfl hl (Nat.le_of_ble_eq_true rfl) dX4_reason_61 rfl (fun H locs Z => ?_)
      exact kret v6 τ _ _ _ _ ⟨(Option.some.inj hF), rfl⟩ Z.nila dX4_reason_64
    rw [if_neg c5] at hF
    rcases Decidable.em (p1 = (2 : Int32)) with c8 | c8
    · rw [if_pos c8] at hF
      refine lv_tableIn (off := 48) (tgt := 65) hx hb dX4_reason_17 (by rw [c8]; decide) (by rw [c8]; decide) (by rw [c8]; decide) (by decide) ?_
      refine lv_aload_n hx hb dX4_reason_65 rfl (lv_at hl 0 rfl) ?_
      refine lv_iload_n hx hb dX4_reason_66 rfl (lv_at hl 2 rfl) ?_
      refine kr_i (As := [.int p2]) Fc hA Z (Lens.tail []) (c_X4_reasonAgainstClaiming l D cI cS ad hs τ ok p2 (X4_reasonAgainstClaiming τ p2) rfl) mL_RX4_176 v_X4_reasonAgainstClaiming ⟨rfl, rfl⟩ ⟨Nat.le_of_ble_eq_true rfl, Nat.le_of_ble_eq_true rfl⟩ ⟨Nat.zero_le _, Nat.zero_le _⟩ 0 4 rfl rfl rfl hl (Nat.le_of_ble_eq_true rfl) dX4_reason_67 rfl (fun H locs Z => ?_)
      exact kret (X4_reasonAgainstClaiming τ p2) τ _ _ _ _ ⟨(Option.some.inj hF), rfl⟩ Z.nila dX4_reason_70
    rw [if_neg c8] at hF
    rcases Decidable.em (p1 = (3 : Int32)) with c9 | c9
    · rw [if_pos c9] at hF
      refine lv_tableIn (off := 54) (tgt := 71) hx hb dX4_reason_17 (by rw [c9]; decide) (by rw [c9]; decide) (by rw [c9]; decide) (by decide) ?_
      refine lv_aload_n hx hb dX4_reason_71 rfl (lv_at hl 0 rfl) ?_
      refine lv_iload_n hx hb dX4_reason_72 rfl (lv_at hl 2 rfl) ?_
      refine kr_i (As := [.int p2]) Fc hA Z (Lens.tail []) (c_X4_reasonAgainstLosing l D cI cS ad hs τ ok p2 (X4_reasonAgainstLosing τ p2) rfl) mL_RX4_179 v_X4_reasonAgainstLosing ⟨rfl, rfl⟩ ⟨Nat.le_of_ble_eq_true rfl, Nat.le_of_ble_eq_true rfl⟩ ⟨Nat.zero_le _, Nat.zero_le _⟩ 0 4 rfl rfl rfl hl (Nat.le_of_ble_eq_true rfl) dX4_reason_73 rfl (fun H locs Z => ?_)
      exact kret (X4_reasonAgainstLosing τ p2) τ _ _ _ _ ⟨(Option.some.inj hF), rfl⟩ Z.nila dX4_reason_76
    rw [if_neg c9] at hF
    rcases Decidable.em (p1 = (4 : Int32)) with c10 | c10
    · rw [if_pos c10] at hF
      refine lv_tableIn (off := 60) (tgt := 77) hx hb dX4_reason_17 (by rw [c10]; decide) (by rw [c10]; decide) (by rw [c10]; decide) (by decide) ?_
      refine lv_aload_n hx hb dX4_reason_77 rfl (lv_at hl 0 rfl) ?_
      refine lv_iload_n hx hb dX4_reason_78 rfl (lv_at hl 2 rfl) ?_
      refine lv_iload_n hx hb dX4_reason_79 rfl (lv_at hl 3 rfl) ?_
      obtain ⟨v11, h12, hF⟩ := obind hF
      refine kr_i (As := [.int p2, .int p3]) Fc hA Z (Lens.tail []) (c_X4_reasonAgainstHolding l D cI cS ad hs τ ok p2 p3 v11 h12) mL_RX4_189 v_X4_reasonAgainstHolding ⟨rfl, rfl⟩ ⟨Nat.le_of_ble_eq_true rfl, Nat.le_of_ble_eq_true rfl⟩ ⟨Nat.zero_le _, Nat.zero_le _⟩ 0 4 rfl rfl rfl hl (Nat.le_of_ble_eq_true rfl) dX4_reason_80 rfl (fun H locs Z => ?_)
      exact kret v11 τ _ _ _ _ ⟨(Option.some.inj hF), rfl⟩ Z.nila dX4_reason_83
    rw [if_neg c10] at hF
    refine kdflt (tgt := 84) hx hb dX4_reason_17 [(0 : Int32), (1 : Int32), (2 : Int32), (3 : Int32), (4 : Int32)] (by decide) (by intro v hv; simp only [List.mem_cons, List.not_mem_nil, or_false] at hv; rcases hv with rfl | rfl | rfl | rfl | rfl <;> assumption) (by decide) ?_
    refine lv_iconst (v := (-1 : Int32)) hx hb dX4_reason_84 (by decide) ?_
    exact kret (-1 : Int32) τ _ _ _ _ ⟨(Option.some.inj hF), rfl⟩ Z.nila dX4_reason_85
  · rw [if_neg c1] at hF
    refine lv_iload_n hx hb dX4_reason_5 rfl (lv_at hl 1 rfl) ?_
    refine lv_iconst (v := (3 : Int32)) hx hb dX4_reason_6 (by decide) ?_
    refine lv_icmp_gt (tgt := 16) hx hb dX4_reason_7 (by decide) (fun c13 => ?_) (fun c13 => ?_)
    · rw [if_pos c13] at hF
      refine lv_iload_n hx hb dX4_reason_16 rfl (lv_at hl 1 rfl) ?_
      rcases Decidable.em (p1 = (0 : Int32)) with c14 | c14
      · rw [if_pos c14] at hF
        refine lv_tableIn (off := 35) (tgt := 52) hx hb dX4_reason_17 (by rw [c14]; decide) (by rw [c14]; decide) (by rw [c14]; decide) (by decide) ?_
        refine lv_aload_n hx hb dX4_reason_52 rfl (lv_at hl 0 rfl) ?_
        refine lv_iload_n hx hb dX4_reason_53 rfl (lv_at hl 2 rfl) ?_
        refine lv_iload_n hx hb dX4_reason_54 rfl (lv_at hl 3 rfl) ?_
        obtain ⟨v15, h16, hF⟩ := obind hF
        refine kr_i (As := [.int p2, .int p3]) Fc hA Z (Lens.tail []) (c_X4_reasonAgainstLending l D cI cS ad hs τ ok p2 p3 v15 h16) mL_RX4_134 v_X4_reasonAgainstLending ⟨rfl, rfl⟩ ⟨Nat.le_of_ble_eq_true rfl, Nat.le_of_ble_eq_true rfl⟩ ⟨Nat.zero_le _, Nat.zero_le _⟩ 0 4 rfl rfl rfl hl (Nat.le_of_ble_eq_true rfl) dX4_reason_55 rfl (fun H locs Z => ?_)
        exact kret v15 τ _ _ _ _ ⟨(Option.some.inj hF), rfl⟩ Z.nila dX4_reason_58
      rw [if_neg c14] at hF
      rcases Decidable.em (p1 = (1 : Int32)) with c17 | c17
      · rw [if_pos c17] at hF
        refine lv_tableIn (off := 42) (tgt := 59) hx hb dX4_reason_17 (by rw [c17]; decide) (by rw [c17]; decide) (by rw [c17]; decide) (by decide) ?_
        refine lv_aload_n hx hb dX4_reason_59 rfl (lv_at hl 0 rfl) ?_
        refine lv_iload_n hx hb dX4_reason_60 rfl (lv_at hl 2 rfl) ?_
        obtain ⟨v18, h19, hF⟩ := obind hF
        refine kr_i (As := [.int p2]) Fc hA Z (Lens.tail []) (c_X4_reasonAgainstRenewing l D cI cS ad hs τ ok p2 v18 h19) mL_RX4_170 v_X4_reasonAgainstRenewing ⟨rfl, rfl⟩ ⟨Nat.le_of_ble_eq_true rfl, Nat.le_of_ble_eq_true rfl⟩ ⟨Nat.zero_le _, Nat.zero_le _⟩ 0 4 rfl rfl rfl hl (Nat.le_of_ble_eq_true rfl) dX4_reason_61 rfl (fun H locs Z => ?_)
        exact kret v18 τ _ _ _ _ ⟨(Option.some.inj hF), rfl⟩ Z.nila dX4_reason_64
      rw [if_neg c17] at hF
      rcases Decidable.em (p1 = (2 : Int32)) with c20 | c20
      · rw [if_pos c20] at hF
        refine lv_tableIn (off := 48) (tgt := 65) hx hb dX4_reason_17 (by rw [c20]; decide) (by rw [c20]; decide) (by rw [c20]; decide) (by decide) ?_
        refine lv_aload_n hx hb dX4_reason_65 rfl (lv_at hl 0 rfl) ?_
        refine lv_iload_n hx hb dX4_reason_66 rfl (lv_at hl 2 rfl) ?_
        refine kr_i (As := [.int p2]) Fc hA Z (Lens.tail []) (c_X4_reasonAgainstClaiming l D cI cS ad hs τ ok p2 (X4_reasonAgainstClaiming τ p2) rfl) mL_RX4_176 v_X4_reasonAgainstClaiming ⟨rfl, rfl⟩ ⟨Nat.le_of_ble_eq_true rfl, Nat.le_of_ble_eq_true rfl⟩ ⟨Nat.zero_le _, Nat.zero_le _⟩ 0 4 rfl rfl rfl hl (Nat.le_of_ble_eq_true rfl) dX4_reason_67 rfl (fun H locs Z => ?_)
        exact kret (X4_reasonAgainstClaiming τ p2) τ _ _ _ _ ⟨(Option.some.inj hF), rfl⟩ Z.nila dX4_reason_70
      rw [if_neg c20] at hF
      rcases Decidable.em (p1 = (3 : Int32)) with c21 | c21
      · rw [if_pos c21] at hF
        refine lv_tableIn (off := 54) (tgt := 71) hx hb dX4_reason_17 (by rw [c21]; decide) (by rw [c21]; decide) (by rw [c21]; decide) (by decide) ?_
        refine lv_aload_n hx hb dX4_reason_71 rfl (lv_at hl 0 rfl) ?_
        refine lv_iload_n hx hb dX4_reason_72 rfl (lv_at hl 2 rfl) ?_
        refine kr_i (As := [.int p2]) Fc hA Z (Lens.tail []) (c_X4_reasonAgainstLosing l D cI cS ad hs τ ok p2 (X4_reasonAgainstLosing τ p2) rfl) mL_RX4_179 v_X4_reasonAgainstLosing ⟨rfl, rfl⟩ ⟨Nat.le_of_ble_eq_true rfl, Nat.le_of_ble_eq_true rfl⟩ ⟨Nat.zero_le _, Nat.zero_le _⟩ 0 4 rfl rfl rfl hl (Nat.le_of_ble_eq_true rfl) dX4_reason_73 rfl (fun H locs Z => ?_)
        exact kret (X4_reasonAgainstLosing τ p2) τ _ _ _ _ ⟨(Option.some.inj hF), rfl⟩ Z.nila dX4_reason_76
      rw [if_neg c21] at hF
      rcases Decidable.em (p1 = (4 : Int32)) with c22 | c22
      · rw [if_pos c22] at hF
        refine lv_tableIn (off := 60) (tgt := 77) hx hb dX4_reason_17 (by rw [c22]; decide) (by rw [c22]; decide) (by rw [c22]; decide) (by decide) ?_
        refine lv_aload_n hx hb dX4_reason_77 rfl (lv_at hl 0 rfl) ?_
        refine lv_iload_n hx hb dX4_reason_78 rfl (lv_at hl 2 rfl) ?_
        refine lv_iload_n hx hb dX4_reason_79 rfl (lv_at hl 3 rfl) ?_
        obtain ⟨v23, h24, hF⟩ := obind hF
        refine kr_i (As := [.int p2, .int p3]) Fc hA Z (Lens.tail []) (c_X4_reasonAgainstHolding l D cI cS ad hs τ ok p2 p3 v23 h24) mL_RX4_189 v_X4_reasonAgainstHolding ⟨rfl, rfl⟩ ⟨Nat.le_of_ble_eq_true rfl, Nat.le_of_ble_eq_true rfl⟩ ⟨Nat.zero_le _, Nat.zero_le _⟩ 0 4 rfl rfl rfl hl (Nat.le_of_ble_eq_true rfl) dX4_reason_80 rfl (fun H locs Z => ?_)
        exact kret v23 τ _ _ _ _ ⟨(Option.some.inj hF), rfl⟩ Z.nila dX4_reason_83
      rw [if_neg c22] at hF
      refine kdflt (tgt := 84) hx hb dX4_reason_17 [(0 : Int32), (1 : Int32), (2 : Int32), (3 : Int32), (4 : Int32)] (by decide) (by intro v hv; simp only [List.mem_cons, List.not_mem_nil, or_false] at hv; rcases hv with rfl | rfl | rfl | rfl | rfl <;> assumption) (by decide) ?_
      refine lv_iconst (v := (-1 : Int32)) hx hb dX4_reason_84 (by decide) ?_
      exact kret (-1 : Int32) τ _ _ _ _ ⟨(Option.some.inj hF), rfl⟩ Z.nila dX4_reason_85
    · rw [if_neg c13] at hF
      refine lv_iload_n hx hb dX4_reason_10 rfl (lv_at hl 3 rfl) ?_
      refine lv_if_eq (tgt := 16) hx hb dX4_reason_11 (by decide) (fun c25 => ?_) (fun c25 => ?_)
      · rw [if_pos c25] at hF
        refine lv_iload_n hx hb dX4_reason_16 rfl (lv_at hl 1 rfl) ?_
        rcases Decidable.em (p1 = (0 : Int32)) with c26 | c26
        · rw [if_pos c26] at hF
          refine lv_tableIn (off := 35) (tgt := 52) hx hb dX4_reason_17 (by rw [c26]; decide) (by rw [c26]; decide) (by rw [c26]; decide) (by decide) ?_
          refine lv_aload_n hx hb dX4_reason_52 rfl (lv_at hl 0 rfl) ?_
          refine lv_iload_n hx hb dX4_reason_53 rfl (lv_at hl 2 rfl) ?_
          refine lv_iload_n hx hb dX4_reason_54 rfl (lv_at hl 3 rfl) ?_
          obtain ⟨v27, h28, hF⟩ := obind hF
          refine kr_i (As := [.int p2, .int p3]) Fc hA Z (Lens.tail []) (c_X4_reasonAgainstLending l D cI cS ad hs τ ok p2 p3 v27 h28) mL_RX4_134 v_X4_reasonAgainstLending ⟨rfl, rfl⟩ ⟨Nat.le_of_ble_eq_true rfl, Nat.le_of_ble_eq_true rfl⟩ ⟨Nat.zero_le _, Nat.zero_le _⟩ 0 4 rfl rfl rfl hl (Nat.le_of_ble_eq_true rfl) dX4_reason_55 rfl (fun H locs Z => ?_)
          exact kret v27 τ _ _ _ _ ⟨(Option.some.inj hF), rfl⟩ Z.nila dX4_reason_58
        rw [if_neg c26] at hF
        rcases Decidable.em (p1 = (1 : Int32)) with c29 | c29
        · rw [if_pos c29] at hF
          refine lv_tableIn (off := 42) (tgt := 59) hx hb dX4_reason_17 (by rw [c29]; decide) (by rw [c29]; decide) (by rw [c29]; decide) (by decide) ?_
          refine lv_aload_n hx hb dX4_reason_59 rfl (lv_at hl 0 rfl) ?_
          refine lv_iload_n hx hb dX4_reason_60 rfl (lv_at hl 2 rfl) ?_
          obtain ⟨v30, h31, hF⟩ := obind hF
          refine kr_i (As := [.int p2]) Fc hA Z (Lens.tail []) (c_X4_reasonAgainstRenewing l D cI cS ad hs τ ok p2 v30 h31) mL_RX4_170 v_X4_reasonAgainstRenewing ⟨rfl, rfl⟩ ⟨Nat.le_of_ble_eq_true rfl, Nat.le_of_ble_eq_true rfl⟩ ⟨Nat.zero_le _, Nat.zero_le _⟩ 0 4 rfl rfl rfl hl (Nat.le_of_ble_eq_true rfl) dX4_reason_61 rfl (fun H locs Z => ?_)
          exact kret v30 τ _ _ _ _ ⟨(Option.some.inj hF), rfl⟩ Z.nila dX4_reason_64
        rw [if_neg c29] at hF
        rcases Decidable.em (p1 = (2 : Int32)) with c32 | c32
        · rw [if_pos c32] at hF
          refine lv_tableIn (off := 48) (tgt := 65) hx hb dX4_reason_17 (by rw [c32]; decide) (by rw [c32]; decide) (by rw [c32]; decide) (by decide) ?_
          refine lv_aload_n hx hb dX4_reason_65 rfl (lv_at hl 0 rfl) ?_
          refine lv_iload_n hx hb dX4_reason_66 rfl (lv_at hl 2 rfl) ?_
          refine kr_i (As := [.int p2]) Fc hA Z (Lens.tail []) (c_X4_reasonAgainstClaiming l D cI cS ad hs τ ok p2 (X4_reasonAgainstClaiming τ p2) rfl) mL_RX4_176 v_X4_reasonAgainstClaiming ⟨rfl, rfl⟩ ⟨Nat.le_of_ble_eq_true rfl, Nat.le_of_ble_eq_true rfl⟩ ⟨Nat.zero_le _, Nat.zero_le _⟩ 0 4 rfl rfl rfl hl (Nat.le_of_ble_eq_true rfl) dX4_reason_67 rfl (fun H locs Z => ?_)
          exact kret (X4_reasonAgainstClaiming τ p2) τ _ _ _ _ ⟨(Option.some.inj hF), rfl⟩ Z.nila dX4_reason_70
        rw [if_neg c32] at hF
        rcases Decidable.em (p1 = (3 : Int32)) with c33 | c33
        · rw [if_pos c33] at hF
          refine lv_tableIn (off := 54) (tgt := 71) hx hb dX4_reason_17 (by rw [c33]; decide) (by rw [c33]; decide) (by rw [c33]; decide) (by decide) ?_
          refine lv_aload_n hx hb dX4_reason_71 rfl (lv_at hl 0 rfl) ?_
          refine lv_iload_n hx hb dX4_reason_72 rfl (lv_at hl 2 rfl) ?_
          refine kr_i (As := [.int p2]) Fc hA Z (Lens.tail []) (c_X4_reasonAgainstLosing l D cI cS ad hs τ ok p2 (X4_reasonAgainstLosing τ p2) rfl) mL_RX4_179 v_X4_reasonAgainstLosing ⟨rfl, rfl⟩ ⟨Nat.le_of_ble_eq_true rfl, Nat.le_of_ble_eq_true rfl⟩ ⟨Nat.zero_le _, Nat.zero_le _⟩ 0 4 rfl rfl rfl hl (Nat.le_of_ble_eq_true rfl) dX4_reason_73 rfl (fun H locs Z => ?_)
          exact kret (X4_reasonAgainstLosing τ p2) τ _ _ _ _ ⟨(Option.some.inj hF), rfl⟩ Z.nila dX4_reason_76
        rw [if_neg c33] at hF
        rcases Decidable.em (p1 = (4 : Int32)) with c34 | c34
        · rw [if_pos c34] at hF
          refine lv_tableIn (off := 60) (tgt := 77) hx hb dX4_reason_17 (by rw [c34]; decide) (by rw [c34]; decide) (by rw [c34]; decide) (by decide) ?_
          refine lv_aload_n hx hb dX4_reason_77 rfl (lv_at hl 0 rfl) ?_
          refine lv_iload_n hx hb dX4_reason_78 rfl (lv_at hl 2 rfl) ?_
          refine lv_iload_n hx hb dX4_reason_79 rfl (lv_at hl 3 rfl) ?_
          obtain ⟨v35, h36, hF⟩ := obind hF
          refine kr_i (As := [.int p2, .int p3]) Fc hA Z (Lens.tail []) (c_X4_reasonAgainstHolding l D cI cS ad hs τ ok p2 p3 v35 h36) mL_RX4_189 v_X4_reasonAgainstHolding ⟨rfl, rfl⟩ ⟨Nat.le_of_ble_eq_true rfl, Nat.le_of_ble_eq_true rfl⟩ ⟨Nat.zero_le _, Nat.zero_le _⟩ 0 4 rfl rfl rfl hl (Nat.le_of_ble_eq_true rfl) dX4_reason_80 rfl (fun H locs Z => ?_)
          exact kret v35 τ _ _ _ _ ⟨(Option.some.inj hF), rfl⟩ Z.nila dX4_reason_83
        rw [if_neg c34] at hF
        refine kdflt (tgt := 84) hx hb dX4_reason_17 [(0 : Int32), (1 : Int32), (2 : Int32), (3 : Int32), (4 : Int32)] (by decide) (by intro v hv; simp only [List.mem_cons, List.not_mem_nil, or_false] at hv; rcases hv with rfl | rfl | rfl | rfl | rfl <;> assumption) (by decide) ?_
        refine lv_iconst (v := (-1 : Int32)) hx hb dX4_reason_84 (by decide) ?_
        exact kret (-1 : Int32) τ _ _ _ _ ⟨(Option.some.inj hF), rfl⟩ Z.nila dX4_reason_85
      · rw [if_neg c25] at hF
        refine lv_iconst (v := (-1 : Int32)) hx hb dX4_reason_14 (by decide) ?_
        exact kret (-1 : Int32) τ _ _ _ _ ⟨(Option.some.inj hF), rfl⟩ Z.nila dX4_reason_15
def X4_renewLoan (τ : St) (p1 : Int32) : Option (Int32 × St) := (X4_reasonAgainstRenewing τ p1).bind fun v1 => if v1 = 0 then (bnd (tput 12 (τ.1 0) p1 (6 : Int32) ((τ.2 + (X4_valueOf τ (0 : Int32))))) fun q4 => bnd (stT τ 0 q4) fun τ6 => bnd (tput 12 (τ6.1 0) p1 (8 : Int32) (((tget 12 (τ6.1 0) p1 (8 : Int32)) + (1 : Int32)))) fun q8 => bnd (stT τ6 0 q8) fun τ10 => some (((τ.2 + (X4_valueOf τ (0 : Int32))), τ10))) else some (((X4_refusal v1), τ))
def rm_X4_renewLoan : Room := { frames := 4, cells := 0, slots := 0, locals := 88 }
theorem v_X4_renewLoan : WdV RX4 yX4_renewLoan cX4_renewLoan 4 (some .int) 1 := ⟨mI_X4_renewLoan, mS_X4_renewLoan, mZ_RX4, mC_X4_renewLoan, by decide +kernel⟩
set_option maxHeartbeats 8000000 in
set_option maxRecDepth 100000 in
theorem c_X4_renewLoan (l : Launch) (D : va_G) (cI cS : ClassId) (ad : Nat → Nat) (hs : Bool) (τ : St) (ok : OK τ) (p1 : Int32) (F : Int32 × St) (hF : X4_renewLoan τ p1 = some F) : MI l yX4_renewLoan cX4_renewLoan 4 (some .int) rm_X4_renewLoan D cI cS [.ref (ad 0), .int p1] (cW ad cI hs τ) (cW ad cI hs) (fun r u => r = F.1 ∧ u = F.2 ∧ OK u) := by
  refine MI.mk RX4 rfl .int rfl (by decide) (Nat.le_of_ble_eq_true rfl) (fun _ _ _ => rfl) ?_
  intro p e s m args below meth c A Q ls Fc hin hA Z kret hl
  obtain ⟨hx, hb, hml, hown, hts, hKN⟩ := id Fc
  replace hl : lv_has ls 4 [(0, .ref (ad 0)), (1, .int p1)] := hl
  replace Z := Z.anil
  unfold X4_renewLoan at hF
  refine lv_aload_n hx hb dX4_renewLoan_0 rfl (lv_at hl 0 rfl) ?_
  refine lv_iload_n hx hb dX4_renewLoan_1 rfl (lv_at hl 1 rfl) ?_
  obtain ⟨v1, h2, hF⟩ := obind hF
  refine kr_i (As := [.int p1]) Fc hA Z (Lens.tail []) (c_X4_reasonAgainstRenewing l D cI cS ad hs τ ok p1 v1 h2) mL_RX4_170 v_X4_reasonAgainstRenewing ⟨rfl, rfl⟩ ⟨Nat.le_of_ble_eq_true rfl, Nat.le_of_ble_eq_true rfl⟩ ⟨Nat.zero_le _, Nat.zero_le _⟩ 0 4 rfl rfl rfl hl (Nat.le_of_ble_eq_true rfl) dX4_renewLoan_2 rfl (fun H locs Z => ?_)
  refine lv_istore_n (lv' := [(2, .int v1), (0, .ref (ad 0)), (1, .int p1)]) hx hb dX4_renewLoan_5 rfl hl (by decide) rfl (fun ls hl => ?_)
  refine lv_iload_n hx hb dX4_renewLoan_6 rfl (lv_at hl 0 rfl) ?_
  refine lv_if_eq (tgt := 15) hx hb dX4_renewLoan_7 (by decide) (fun c3 => ?_) (fun c3 => ?_)
  · rw [if_pos c3] at hF
    refine lv_aload_n hx hb dX4_renewLoan_15 rfl (lv_at hl 1 rfl) ?_
    refine kget Fc Z inX4 0 rfl rfl 0 (by decide) mF_RX4_10 rfl rfl dX4_renewLoan_16 ?_
    refine kgetN Fc Z inX2 1 rfl rfl 5 (by decide) nw_RX4_98 rfl rfl dX4_renewLoan_19 ?_
    refine lv_aload_n hx hb dX4_renewLoan_22 rfl (lv_at hl 1 rfl) ?_
    refine lv_iconst (v := (0 : Int32)) hx hb dX4_renewLoan_23 (by decide) ?_
    refine kr_i (As := [.int (0 : Int32)]) Fc hA Z (Lens.tail []) (c_X4_valueOf l D cI cS ad hs τ ok (0 : Int32) (X4_valueOf τ (0 : Int32)) rfl) mL_RX4_82 v_X4_valueOf ⟨rfl, rfl⟩ ⟨Nat.le_of_ble_eq_true rfl, Nat.le_of_ble_eq_true rfl⟩ ⟨Nat.zero_le _, Nat.zero_le _⟩ 0 4 rfl rfl rfl hl (Nat.le_of_ble_eq_true rfl) dX4_renewLoan_24 rfl (fun H locs Z => ?_)
    refine lv_iadd hx hb dX4_renewLoan_27 ?_
    refine lv_istore_n (lv' := [(3, .int (τ.2 + (X4_valueOf τ (0 : Int32)))), (2, .int v1), (0, .ref (ad 0)), (1, .int p1)]) hx hb dX4_renewLoan_28 rfl hl (by decide) rfl (fun ls hl => ?_)
    refine lv_aload_n hx hb dX4_renewLoan_29 rfl (lv_at hl 2 rfl) ?_
    refine kget Fc Z inX4 0 rfl rfl 0 (by decide) mF_RX4_10 rfl rfl dX4_renewLoan_30 ?_
    refine kgetN Fc Z inX2 1 rfl rfl 0 (by decide) nw_RX4_47 rfl rfl dX4_renewLoan_33 ?_
    refine lv_iload_n hx hb dX4_renewLoan_36 rfl (lv_at hl 3 rfl) ?_
    refine lv_bipush (v := (6 : Int32)) hx hb dX4_renewLoan_37 (by decide) ?_
    refine lv_iload_n hx hb dX4_renewLoan_39 rfl (lv_at hl 0 rfl) ?_
    obtain ⟨q4, e5, hF⟩ := bnd_el hF
    refine kv_i (As := [.int p1, .int (6 : Int32), .int ((τ.2 + (X4_valueOf τ (0 : Int32))))]) (ok := tbOK 20) Fc hA Z Lens.c0 (c_X3_put l D cI cS (ad 2) (ad 3) 20 12 (20 * 12) sh0 (τ.1 0) ok.1 p1 (6 : Int32) ((τ.2 + (X4_valueOf τ (0 : Int32)))) q4 e5.symm) mL_RX4_57 v_X3_put ⟨rfl, rfl⟩ ⟨Nat.le_of_ble_eq_true rfl, Nat.le_of_ble_eq_true rfl⟩ ⟨Nat.zero_le _, Nat.zero_le _⟩ 2 3 rfl rfl rfl hl (Nat.le_of_ble_eq_true rfl) dX4_renewLoan_40 rfl (fun H locs ok1 Z => ?_)
    obtain ⟨τ6, e7, hF⟩ := bnd_el hF
    rw [← e7] at Z
    have ok : OK τ6 := by rw [e7]; exact ok_c0 ok ok1
    refine lv_aload_n hx hb dX4_renewLoan_43 rfl (lv_at hl 2 rfl) ?_
    refine kget Fc Z inX4 0 rfl rfl 0 (by decide) mF_RX4_10 rfl rfl dX4_renewLoan_44 ?_
    refine kgetN Fc Z inX2 1 rfl rfl 0 (by decide) nw_RX4_47 rfl rfl dX4_renewLoan_47 ?_
    refine lv_iload_n hx hb dX4_renewLoan_50 rfl (lv_at hl 3 rfl) ?_
    refine lv_bipush (v := (8 : Int32)) hx hb dX4_renewLoan_51 (by decide) ?_
    refine lv_aload_n hx hb dX4_renewLoan_53 rfl (lv_at hl 2 rfl) ?_
    refine kget Fc Z inX4 0 rfl rfl 0 (by decide) mF_RX4_10 rfl rfl dX4_renewLoan_54 ?_
    refine kgetN Fc Z inX2 1 rfl rfl 0 (by decide) nw_RX4_47 rfl rfl dX4_renewLoan_57 ?_
    refine lv_iload_n hx hb dX4_renewLoan_60 rfl (lv_at hl 3 rfl) ?_
    refine lv_bipush (v := (8 : Int32)) hx hb dX4_renewLoan_61 (by decide) ?_
    refine kr_i (As := [.int p1, .int (8 : Int32)]) Fc hA Z Lens.c0 (c_X3_get l D cI cS (ad 2) (ad 3) 20 12 (20 * 12) sh0 (τ6.1 0) ok.1 p1 (8 : Int32) (tget 12 (τ6.1 0) p1 (8 : Int32)) rfl) mL_RX4_88 v_X3_get ⟨rfl, rfl⟩ ⟨Nat.le_of_ble_eq_true rfl, Nat.le_of_ble_eq_true rfl⟩ ⟨Nat.zero_le _, Nat.zero_le _⟩ 2 3 rfl rfl rfl hl (Nat.le_of_ble_eq_true rfl) dX4_renewLoan_63 rfl (fun H locs Z => ?_)
    refine lv_iconst (v := (1 : Int32)) hx hb dX4_renewLoan_66 (by decide) ?_
    refine lv_iadd hx hb dX4_renewLoan_67 ?_
    obtain ⟨q8, e9, hF⟩ := bnd_el hF
    refine kv_i (As := [.int p1, .int (8 : Int32), .int (((tget 12 (τ6.1 0) p1 (8 : Int32)) + (1 : Int32)))]) (ok := tbOK 20) Fc hA Z Lens.c0 (c_X3_put l D cI cS (ad 2) (ad 3) 20 12 (20 * 12) sh0 (τ6.1 0) ok.1 p1 (8 : Int32) (((tget 12 (τ6.1 0) p1 (8 : Int32)) + (1 : Int32))) q8 e9.symm) mL_RX4_57 v_X3_put ⟨rfl, rfl⟩ ⟨Nat.le_of_ble_eq_true rfl, Nat.le_of_ble_eq_true rfl⟩ ⟨Nat.zero_le _, Nat.zero_le _⟩ 2 3 rfl rfl rfl hl (Nat.le_of_ble_eq_true rfl) dX4_renewLoan_68 rfl (fun H locs ok1 Z => ?_)
    obtain ⟨τ10, e11, hF⟩ := bnd_el hF
    rw [← e11] at Z
    have ok : OK τ10 := by rw [e11]; exact ok_c0 ok ok1
    refine lv_iload_n hx hb dX4_renewLoan_71 rfl (lv_at hl 0 rfl) ?_
    exact kret ((τ.2 + (X4_valueOf τ (0 : Int32)))) τ10 _ _ _ _ ⟨(pfst (Option.some.inj hF)), psnd (Option.some.inj hF), ok⟩ Z.nila dX4_renewLoan_72
  · rw [if_neg c3] at hF
    refine lv_iload_n hx hb dX4_renewLoan_10 rfl (lv_at hl 0 rfl) ?_
    refine ks_i (As := [.int v1]) Fc hA Z (c_X4_refusal l D cI cS v1 (X4_refusal v1) rfl) mL_RX4_137 v_X4_refusal ⟨rfl, rfl⟩ ⟨Nat.le_of_ble_eq_true rfl, Nat.le_of_ble_eq_true rfl⟩ ⟨Nat.zero_le _, Nat.zero_le _⟩ rfl hl (Nat.le_of_ble_eq_true rfl) dX4_renewLoan_11 rfl (fun H locs Z => ?_)
    exact kret (X4_refusal v1) τ _ _ _ _ ⟨(pfst (Option.some.inj hF)), psnd (Option.some.inj hF), ok⟩ Z.nila dX4_renewLoan_14
