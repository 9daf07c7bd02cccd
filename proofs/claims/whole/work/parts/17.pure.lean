/-! STATIC METHODS THAT TOUCH NO CELL -/
theorem pfst {α β : Type} {a : α} {b : β} {F : α × β} (h : (a, b) = F) : a = F.1 := by rw [← h]
theorem psnd {α β : Type} {a : α} {b : β} {F : α × β} (h : (a, b) = F) : b = F.2 := by rw [← h]
theorem pfstb {β : Type} {a : Bool} {b : β} {F : Bool × β} (h : (a, b) = F) : bi a = bi F.1 := by rw [← h]
theorem nw_RX2_29 : Cond.fieldLinkNest RX2 29 "LibraryCirculation" "FIRST_VALUES" "[I" "LibraryCirculation" ∈ nws := List.mem_of_getElem? (i := 0) rfl
theorem nw_RX4_47 : Cond.fieldLinkNest RX4 47 "LibraryCirculation$State" "copies" "LLibraryCirculation$Table;" "LibraryCirculation" ∈ nws := List.mem_of_getElem? (i := 1) rfl
theorem nw_RX4_69 : Cond.fieldLinkNest RX4 69 "LibraryCirculation$State" "patrons" "LLibraryCirculation$Table;" "LibraryCirculation" ∈ nws := List.mem_of_getElem? (i := 2) rfl
theorem nw_RX4_192 : Cond.fieldLinkNest RX4 192 "LibraryCirculation$State" "holds" "LLibraryCirculation$Table;" "LibraryCirculation" ∈ nws := List.mem_of_getElem? (i := 3) rfl
theorem nw_RX4_244 : Cond.fieldLinkNest RX4 244 "LibraryCirculation$State" "ledger" "LLibraryCirculation$Table;" "LibraryCirculation" ∈ nws := List.mem_of_getElem? (i := 4) rfl
theorem nw_RX4_72 : Cond.fieldLinkNest RX4 72 "LibraryCirculation$State" "settings" "LLibraryCirculation$Table;" "LibraryCirculation" ∈ nws := List.mem_of_getElem? (i := 5) rfl
theorem nw_RX4_98 : Cond.fieldLinkNest RX4 98 "LibraryCirculation$State" "today" "I" "LibraryCirculation" ∈ nws := List.mem_of_getElem? (i := 6) rfl
def X4_isTitle (p0 : Int32) : Bool := if p0 < 0 then (false) else if (6 : Int32) ≤ p0 then (false) else true
def rm_X4_isTitle : Room := { frames := 0, cells := 0, slots := 0, locals := 0 }
theorem v_X4_isTitle : WdS RX4 yX4_isTitle cX4_isTitle 1 (some .boolean) 1 := ⟨mT_X4_isTitle, mZ_RX4, mC_X4_isTitle, by decide +kernel⟩
set_option maxHeartbeats 8000000 in
set_option maxRecDepth 100000 in
theorem c_X4_isTitle (l : Launch) (D : va_G) (cI cS : ClassId) (p0 : Int32) (F : Bool) (hF : X4_isTitle p0 = F) : MI l yX4_isTitle cX4_isTitle 1 (some .boolean) rm_X4_isTitle D cI cS [.int p0] (([] : va_W)) (fun _ : Unit => ([] : va_W)) (fun r _ => r = bi F) := by
  refine MI.mk RX4 rfl .boolean rfl (by decide) (Nat.le_of_ble_eq_true rfl) (fun r u h => by rw [h]; exact bi_nar _) ?_
  intro p e s m args below meth c A Q ls Fc hin hA Z kret hl
  obtain ⟨hx, hb, hml, hown, hts, hKN⟩ := id Fc
  replace hl : lv_has ls 1 [(0, .int p0)] := hl
  unfold X4_isTitle at hF
  refine lv_iload_n hx hb dX4_isTitle_0 rfl (lv_at hl 0 rfl) ?_
  refine lv_if_lt (tgt := 14) hx hb dX4_isTitle_1 (by decide) (fun c1 => ?_) (fun c1 => ?_)
  · rw [if_pos c1] at hF
    refine lv_iconst (v := (0 : Int32)) hx hb dX4_isTitle_14 (by decide) ?_
    exact kret (0 : Int32) () _ _ _ _ (congrArg bi hF) Z dX4_isTitle_15
  · rw [if_neg c1] at hF
    refine lv_iload_n hx hb dX4_isTitle_4 rfl (lv_at hl 0 rfl) ?_
    refine lv_bipush (v := (6 : Int32)) hx hb dX4_isTitle_5 (by decide) ?_
    refine lv_icmp_ge (tgt := 14) hx hb dX4_isTitle_7 (by decide) (fun c2 => ?_) (fun c2 => ?_)
    · rw [if_pos c2] at hF
      refine lv_iconst (v := (0 : Int32)) hx hb dX4_isTitle_14 (by decide) ?_
      exact kret (0 : Int32) () _ _ _ _ (congrArg bi hF) Z dX4_isTitle_15
    · rw [if_neg c2] at hF
      refine lv_iconst (v := (1 : Int32)) hx hb dX4_isTitle_10 (by decide) ?_
      refine lv_goto (tgt := 15) hx hb dX4_isTitle_11 (by decide) ?_
      exact kret (1 : Int32) () _ _ _ _ (congrArg bi hF) Z dX4_isTitle_15
def X4_isBranch (p0 : Int32) : Bool := if p0 < 0 then (false) else if (4 : Int32) ≤ p0 then (false) else true
def rm_X4_isBranch : Room := { frames := 0, cells := 0, slots := 0, locals := 0 }
theorem v_X4_isBranch : WdS RX4 yX4_isBranch cX4_isBranch 1 (some .boolean) 1 := ⟨mT_X4_isBranch, mZ_RX4, mC_X4_isBranch, by decide +kernel⟩
set_option maxHeartbeats 8000000 in
set_option maxRecDepth 100000 in
theorem c_X4_isBranch (l : Launch) (D : va_G) (cI cS : ClassId) (p0 : Int32) (F : Bool) (hF : X4_isBranch p0 = F) : MI l yX4_isBranch cX4_isBranch 1 (some .boolean) rm_X4_isBranch D cI cS [.int p0] (([] : va_W)) (fun _ : Unit => ([] : va_W)) (fun r _ => r = bi F) := by
  refine MI.mk RX4 rfl .boolean rfl (by decide) (Nat.le_of_ble_eq_true rfl) (fun r u h => by rw [h]; exact bi_nar _) ?_
  intro p e s m args below meth c A Q ls Fc hin hA Z kret hl
  obtain ⟨hx, hb, hml, hown, hts, hKN⟩ := id Fc
  replace hl : lv_has ls 1 [(0, .int p0)] := hl
  unfold X4_isBranch at hF
  refine lv_iload_n hx hb dX4_isBranch_0 rfl (lv_at hl 0 rfl) ?_
  refine lv_if_lt (tgt := 13) hx hb dX4_isBranch_1 (by decide) (fun c1 => ?_) (fun c1 => ?_)
  · rw [if_pos c1] at hF
    refine lv_iconst (v := (0 : Int32)) hx hb dX4_isBranch_13 (by decide) ?_
    exact kret (0 : Int32) () _ _ _ _ (congrArg bi hF) Z dX4_isBranch_14
  · rw [if_neg c1] at hF
    refine lv_iload_n hx hb dX4_isBranch_4 rfl (lv_at hl 0 rfl) ?_
    refine lv_iconst (v := (4 : Int32)) hx hb dX4_isBranch_5 (by decide) ?_
    refine lv_icmp_ge (tgt := 13) hx hb dX4_isBranch_6 (by decide) (fun c2 => ?_) (fun c2 => ?_)
    · rw [if_pos c2] at hF
      refine lv_iconst (v := (0 : Int32)) hx hb dX4_isBranch_13 (by decide) ?_
      exact kret (0 : Int32) () _ _ _ _ (congrArg bi hF) Z dX4_isBranch_14
    · rw [if_neg c2] at hF
      refine lv_iconst (v := (1 : Int32)) hx hb dX4_isBranch_9 (by decide) ?_
      refine lv_goto (tgt := 14) hx hb dX4_isBranch_10 (by decide) ?_
      exact kret (1 : Int32) () _ _ _ _ (congrArg bi hF) Z dX4_isBranch_14
def X4_refusal (p0 : Int32) : Int32 := if 0 ≤ p0 then (((-100 : Int32) - p0)) else p0
def rm_X4_refusal : Room := { frames := 0, cells := 0, slots := 0, locals := 0 }
theorem v_X4_refusal : WdS RX4 yX4_refusal cX4_refusal 1 (some .int) 1 := ⟨mT_X4_refusal, mZ_RX4, mC_X4_refusal, by decide +kernel⟩
set_option maxHeartbeats 8000000 in
set_option maxRecDepth 100000 in
theorem c_X4_refusal (l : Launch) (D : va_G) (cI cS : ClassId) (p0 : Int32) (F : Int32) (hF : X4_refusal p0 = F) : MI l yX4_refusal cX4_refusal 1 (some .int) rm_X4_refusal D cI cS [.int p0] (([] : va_W)) (fun _ : Unit => ([] : va_W)) (fun r _ => r = F) := by
  refine MI.mk RX4 rfl .int rfl (by decide) (Nat.le_of_ble_eq_true rfl) (fun _ _ _ => rfl) ?_
  intro p e s m args below meth c A Q ls Fc hin hA Z kret hl
  obtain ⟨hx, hb, hml, hown, hts, hKN⟩ := id Fc
  replace hl : lv_has ls 1 [(0, .int p0)] := hl
  unfold X4_refusal at hF
  refine lv_iload_n hx hb dX4_refusal_0 rfl (lv_at hl 0 rfl) ?_
  refine lv_if_ge (tgt := 8) hx hb dX4_refusal_1 (by decide) (fun c1 => ?_) (fun c1 => ?_)
  · rw [if_pos c1] at hF
    refine lv_bipush (v := (-100 : Int32)) hx hb dX4_refusal_8 (by decide) ?_
    refine lv_iload_n hx hb dX4_refusal_10 rfl (lv_at hl 0 rfl) ?_
    refine lv_isub hx hb dX4_refusal_11 ?_
    exact kret (((-100 : Int32) - p0)) () _ _ _ _ hF Z dX4_refusal_12
  · rw [if_neg c1] at hF
    refine lv_iload_n hx hb dX4_refusal_4 rfl (lv_at hl 0 rfl) ?_
    refine lv_goto (tgt := 12) hx hb dX4_refusal_5 (by decide) ?_
    exact kret p0 () _ _ _ _ hF Z dX4_refusal_12
def X4_wayBetween (p0 p1 : Int32) : Int32 := (jab (p0 - p1))
def rm_X4_wayBetween : Room := { frames := 1, cells := 0, slots := 0, locals := 23 }
theorem v_X4_wayBetween : WdS RX4 yX4_wayBetween cX4_wayBetween 2 (some .int) 2 := ⟨mT_X4_wayBetween, mZ_RX4, mC_X4_wayBetween, by decide +kernel⟩
set_option maxHeartbeats 8000000 in
set_option maxRecDepth 100000 in
theorem c_X4_wayBetween (l : Launch) (D : va_G) (cI cS : ClassId) (p0 p1 : Int32) (F : Int32) (hF : X4_wayBetween p0 p1 = F) : MI l yX4_wayBetween cX4_wayBetween 2 (some .int) rm_X4_wayBetween D cI cS [.int p0, .int p1] (([] : va_W)) (fun _ : Unit => ([] : va_W)) (fun r _ => r = F) := by
  refine MI.mk RX4 rfl .int rfl (by decide) (Nat.le_of_ble_eq_true rfl) (fun _ _ _ => rfl) ?_
  intro p e s m args below meth c A Q ls Fc hin hA Z kret hl
  obtain ⟨hx, hb, hml, hown, hts, hKN⟩ := id Fc
  replace hl : lv_has ls 2 [(0, .int p0), (1, .int p1)] := hl
  unfold X4_wayBetween at hF
  refine lv_iload_n hx hb dX4_wayBetween_0 rfl (lv_at hl 0 rfl) ?_
  refine lv_iload_n hx hb dX4_wayBetween_1 rfl (lv_at hl 1 rfl) ?_
  refine lv_isub hx hb dX4_wayBetween_2 ?_
  refine kabs Fc hl mL_RX4_299 (Nat.le_of_ble_eq_true rfl) (Nat.le_of_ble_eq_true rfl) ⟨Nat.zero_le _, Nat.zero_le _⟩ dX4_wayBetween_3 ?_
  exact kret ((jab (p0 - p1))) () _ _ _ _ hF Z dX4_wayBetween_6
def X4_isBefore (p0 p1 p2 p3 : Int32) : Bool := if p0 < p2 then (true) else if p0 = p2 then (if p3 ≤ p1 then (false) else true) else false
def rm_X4_isBefore : Room := { frames := 0, cells := 0, slots := 0, locals := 0 }
theorem v_X4_isBefore : WdS RX4 yX4_isBefore cX4_isBefore 4 (some .boolean) 4 := ⟨mT_X4_isBefore, mZ_RX4, mC_X4_isBefore, by decide +kernel⟩
set_option maxHeartbeats 8000000 in
set_option maxRecDepth 100000 in
theorem c_X4_isBefore (l : Launch) (D : va_G) (cI cS : ClassId) (p0 p1 p2 p3 : Int32) (F : Bool) (hF : X4_isBefore p0 p1 p2 p3 = F) : MI l yX4_isBefore cX4_isBefore 4 (some .boolean) rm_X4_isBefore D cI cS [.int p0, .int p1, .int p2, .int p3] (([] : va_W)) (fun _ : Unit => ([] : va_W)) (fun r _ => r = bi F) := by
  refine MI.mk RX4 rfl .boolean rfl (by decide) (Nat.le_of_ble_eq_true rfl) (fun r u h => by rw [h]; exact bi_nar _) ?_
  intro p e s m args below meth c A Q ls Fc hin hA Z kret hl
  obtain ⟨hx, hb, hml, hown, hts, hKN⟩ := id Fc
  replace hl : lv_has ls 4 [(0, .int p0), (1, .int p1), (2, .int p2), (3, .int p3)] := hl
  unfold X4_isBefore at hF
  refine lv_iload_n hx hb dX4_isBefore_0 rfl (lv_at hl 0 rfl) ?_
  refine lv_iload_n hx hb dX4_isBefore_1 rfl (lv_at hl 2 rfl) ?_
  refine lv_icmp_lt (tgt := 15) hx hb dX4_isBefore_2 (by decide) (fun c1 => ?_) (fun c1 => ?_)
  · rw [if_pos c1] at hF
    refine lv_iconst (v := (1 : Int32)) hx hb dX4_isBefore_15 (by decide) ?_
    refine lv_goto (tgt := 20) hx hb dX4_isBefore_16 (by decide) ?_
    exact kret (1 : Int32) () _ _ _ _ (congrArg bi hF) Z dX4_isBefore_20
  · rw [if_neg c1] at hF
    refine lv_iload_n hx hb dX4_isBefore_5 rfl (lv_at hl 0 rfl) ?_
    refine lv_iload_n hx hb dX4_isBefore_6 rfl (lv_at hl 2 rfl) ?_
    refine lv_icmp_ne (tgt := 19) hx hb dX4_isBefore_7 (by decide) (fun c2 => ?_) (fun c2 => ?_)
    · rw [if_neg c2] at hF
      refine lv_iconst (v := (0 : Int32)) hx hb dX4_isBefore_19 (by decide) ?_
      exact kret (0 : Int32) () _ _ _ _ (congrArg bi hF) Z dX4_isBefore_20
    · rw [if_pos c2] at hF
      refine lv_iload_n hx hb dX4_isBefore_10 rfl (lv_at hl 1 rfl) ?_
      refine lv_iload_n hx hb dX4_isBefore_11 rfl (lv_at hl 3 rfl) ?_
      refine lv_icmp_ge (tgt := 19) hx hb dX4_isBefore_12 (by decide) (fun c3 => ?_) (fun c3 => ?_)
      · rw [if_pos c3] at hF
        refine lv_iconst (v := (0 : Int32)) hx hb dX4_isBefore_19 (by decide) ?_
        exact kret (0 : Int32) () _ _ _ _ (congrArg bi hF) Z dX4_isBefore_20
      · rw [if_neg c3] at hF
        refine lv_iconst (v := (1 : Int32)) hx hb dX4_isBefore_15 (by decide) ?_
        refine lv_goto (tgt := 20) hx hb dX4_isBefore_16 (by decide) ?_
        exact kret (1 : Int32) () _ _ _ _ (congrArg bi hF) Z dX4_isBefore_20
def X0_isDigit (p0 : Int32) : Bool := if p0 < (48 : Int32) then (false) else if (57 : Int32) < p0 then (false) else true
def rm_X0_isDigit : Room := { frames := 0, cells := 0, slots := 0, locals := 0 }
theorem v_X0_isDigit : WdS RX0 yX0_isDigit cX0_isDigit 1 (some .boolean) 1 := ⟨mT_X0_isDigit, mZ_RX0, mC_X0_isDigit, by decide +kernel⟩
set_option maxHeartbeats 8000000 in
set_option maxRecDepth 100000 in
theorem c_X0_isDigit (l : Launch) (D : va_G) (cI cS : ClassId) (p0 : Int32) (F : Bool) (hF : X0_isDigit p0 = F) : MI l yX0_isDigit cX0_isDigit 1 (some .boolean) rm_X0_isDigit D cI cS [.int p0] (([] : va_W)) (fun _ : Unit => ([] : va_W)) (fun r _ => r = bi F) := by
  refine MI.mk RX0 rfl .boolean rfl (by decide) (Nat.le_of_ble_eq_true rfl) (fun r u h => by rw [h]; exact bi_nar _) ?_
  intro p e s m args below meth c A Q ls Fc hin hA Z kret hl
  obtain ⟨hx, hb, hml, hown, hts, hKN⟩ := id Fc
  replace hl : lv_has ls 1 [(0, .int p0)] := hl
  unfold X0_isDigit at hF
  refine lv_iload_n hx hb dX0_isDigit_0 rfl (lv_at hl 0 rfl) ?_
  refine lv_bipush (v := (48 : Int32)) hx hb dX0_isDigit_1 (by decide) ?_
  refine lv_icmp_lt (tgt := 16) hx hb dX0_isDigit_3 (by decide) (fun c1 => ?_) (fun c1 => ?_)
  · rw [if_pos c1] at hF
    refine lv_iconst (v := (0 : Int32)) hx hb dX0_isDigit_16 (by decide) ?_
    exact kret (0 : Int32) () _ _ _ _ (congrArg bi hF) Z dX0_isDigit_17
  · rw [if_neg c1] at hF
    refine lv_iload_n hx hb dX0_isDigit_6 rfl (lv_at hl 0 rfl) ?_
    refine lv_bipush (v := (57 : Int32)) hx hb dX0_isDigit_7 (by decide) ?_
    refine lv_icmp_gt (tgt := 16) hx hb dX0_isDigit_9 (by decide) (fun c2 => ?_) (fun c2 => ?_)
    · rw [if_pos c2] at hF
      refine lv_iconst (v := (0 : Int32)) hx hb dX0_isDigit_16 (by decide) ?_
      exact kret (0 : Int32) () _ _ _ _ (congrArg bi hF) Z dX0_isDigit_17
    · rw [if_neg c2] at hF
      refine lv_iconst (v := (1 : Int32)) hx hb dX0_isDigit_12 (by decide) ?_
      refine lv_goto (tgt := 17) hx hb dX0_isDigit_13 (by decide) ?_
      exact kret (1 : Int32) () _ _ _ _ (congrArg bi hF) Z dX0_isDigit_17
def X0_numbersOf (p0 : Int32) : Int32 := if p0 = (99 : Int32) then ((2 : Int32)) else if p0 = (100 : Int32) then ((1 : Int32)) else if p0 = (104 : Int32) then ((3 : Int32)) else if p0 = (105 : Int32) then ((2 : Int32)) else if p0 = (111 : Int32) then ((2 : Int32)) else if p0 = (112 : Int32) then ((2 : Int32)) else if p0 = (114 : Int32) then ((1 : Int32)) else (0 : Int32)
def rm_X0_numbersOf : Room := { frames := 0, cells := 0, slots := 0, locals := 0 }
theorem v_X0_numbersOf : WdS RX0 yX0_numbersOf cX0_numbersOf 1 (some .int) 1 := ⟨mT_X0_numbersOf, mZ_RX0, mC_X0_numbersOf, by decide +kernel⟩
set_option maxHeartbeats 8000000 in
set_option maxRecDepth 100000 in
theorem c_X0_numbersOf (l : Launch) (D : va_G) (cI cS : ClassId) (p0 : Int32) (F : Int32) (hF : X0_numbersOf p0 = F) : MI l yX0_numbersOf cX0_numbersOf 1 (some .int) rm_X0_numbersOf D cI cS [.int p0] (([] : va_W)) (fun _ : Unit => ([] : va_W)) (fun r _ => r = F) := by
  refine MI.mk RX0 rfl .int rfl (by decide) (Nat.le_of_ble_eq_true rfl) (fun _ _ _ => rfl) ?_
  intro p e s m args below meth c A Q ls Fc hin hA Z kret hl
  obtain ⟨hx, hb, hml, hown, hts, hKN⟩ := id Fc
  replace hl : lv_has ls 1 [(0, .int p0)] := hl
  unfold X0_numbersOf at hF
  refine lv_iload_n hx hb dX0_numbersOf_0 rfl (lv_at hl 0 rfl) ?_
  rcases Decidable.em (p0 = (99 : Int32)) with c1 | c1
  · rw [if_pos c1] at hF
    refine lv_tableIn (off := 81) (tgt := 82) hx hb dX0_numbersOf_1 (by rw [c1]; decide) (by rw [c1]; decide) (by rw [c1]; decide) (by decide) ?_
    refine lv_iconst (v := (2 : Int32)) hx hb dX0_numbersOf_82 (by decide) ?_
    exact kret (2 : Int32) () _ _ _ _ hF Z dX0_numbersOf_83
  rw [if_neg c1] at hF
  rcases Decidable.em (p0 = (100 : Int32)) with c2 | c2
  · rw [if_pos c2] at hF
    refine lv_tableIn (off := 83) (tgt := 84) hx hb dX0_numbersOf_1 (by rw [c2]; decide) (by rw [c2]; decide) (by rw [c2]; decide) (by decide) ?_
    refine lv_iconst (v := (1 : Int32)) hx hb dX0_numbersOf_84 (by decide) ?_
    exact kret (1 : Int32) () _ _ _ _ hF Z dX0_numbersOf_85
  rw [if_neg c2] at hF
  rcases Decidable.em (p0 = (104 : Int32)) with c3 | c3
  · rw [if_pos c3] at hF
    refine lv_tableIn (off := 79) (tgt := 80) hx hb dX0_numbersOf_1 (by rw [c3]; decide) (by rw [c3]; decide) (by rw [c3]; decide) (by decide) ?_
    refine lv_iconst (v := (3 : Int32)) hx hb dX0_numbersOf_80 (by decide) ?_
    exact kret (3 : Int32) () _ _ _ _ hF Z dX0_numbersOf_81
  rw [if_neg c3] at hF
  rcases Decidable.em (p0 = (105 : Int32)) with c4 | c4
  · rw [if_pos c4] at hF
    refine lv_tableIn (off := 81) (tgt := 82) hx hb dX0_numbersOf_1 (by rw [c4]; decide) (by rw [c4]; decide) (by rw [c4]; decide) (by decide) ?_
    refine lv_iconst (v := (2 : Int32)) hx hb dX0_numbersOf_82 (by decide) ?_
    exact kret (2 : Int32) () _ _ _ _ hF Z dX0_numbersOf_83
  rw [if_neg c4] at hF
  rcases Decidable.em (p0 = (111 : Int32)) with c5 | c5
  · rw [if_pos c5] at hF
    refine lv_tableIn (off := 81) (tgt := 82) hx hb dX0_numbersOf_1 (by rw [c5]; decide) (by rw [c5]; decide) (by rw [c5]; decide) (by decide) ?_
    refine lv_iconst (v := (2 : Int32)) hx hb dX0_numbersOf_82 (by decide) ?_
    exact kret (2 : Int32) () _ _ _ _ hF Z dX0_numbersOf_83
  rw [if_neg c5] at hF
  rcases Decidable.em (p0 = (112 : Int32)) with c6 | c6
  · rw [if_pos c6] at hF
    refine lv_tableIn (off := 81) (tgt := 82) hx hb dX0_numbersOf_1 (by rw [c6]; decide) (by rw [c6]; decide) (by rw [c6]; decide) (by decide) ?_
    refine lv_iconst (v := (2 : Int32)) hx hb dX0_numbersOf_82 (by decide) ?_
    exact kret (2 : Int32) () _ _ _ _ hF Z dX0_numbersOf_83
  rw [if_neg c6] at hF
  rcases Decidable.em (p0 = (114 : Int32)) with c7 | c7
  · rw [if_pos c7] at hF
    refine lv_tableIn (off := 83) (tgt := 84) hx hb dX0_numbersOf_1 (by rw [c7]; decide) (by rw [c7]; decide) (by rw [c7]; decide) (by decide) ?_
    refine lv_iconst (v := (1 : Int32)) hx hb dX0_numbersOf_84 (by decide) ?_
    exact kret (1 : Int32) () _ _ _ _ hF Z dX0_numbersOf_85
  rw [if_neg c7] at hF
  refine kdflt (tgt := 86) hx hb dX0_numbersOf_1 [(99 : Int32), (100 : Int32), (104 : Int32), (105 : Int32), (111 : Int32), (112 : Int32), (114 : Int32)] (by decide) (by intro v hv; simp only [List.mem_cons, List.not_mem_nil, or_false] at hv; rcases hv with rfl | rfl | rfl | rfl | rfl | rfl | rfl <;> assumption) (by decide) ?_
  refine lv_iconst (v := (0 : Int32)) hx hb dX0_numbersOf_86 (by decide) ?_
  exact kret (0 : Int32) () _ _ _ _ hF Z dX0_numbersOf_87
def X5_in (p0 p1 p2 : Int32) : Bool := if p0 < p1 then (false) else if p2 < p0 then (false) else true
def rm_X5_in : Room := { frames := 0, cells := 0, slots := 0, locals := 0 }
theorem v_X5_in : WdS RX5 yX5_in cX5_in 3 (some .boolean) 3 := ⟨mT_X5_in, mZ_RX5, mC_X5_in, by decide +kernel⟩
set_option maxHeartbeats 8000000 in
set_option maxRecDepth 100000 in
theorem c_X5_in (l : Launch) (D : va_G) (cI cS : ClassId) (p0 p1 p2 : Int32) (F : Bool) (hF : X5_in p0 p1 p2 = F) : MI l yX5_in cX5_in 3 (some .boolean) rm_X5_in D cI cS [.int p0, .int p1, .int p2] (([] : va_W)) (fun _ : Unit => ([] : va_W)) (fun r _ => r = bi F) := by
  refine MI.mk RX5 rfl .boolean rfl (by decide) (Nat.le_of_ble_eq_true rfl) (fun r u h => by rw [h]; exact bi_nar _) ?_
  intro p e s m args below meth c A Q ls Fc hin hA Z kret hl
  obtain ⟨hx, hb, hml, hown, hts, hKN⟩ := id Fc
  replace hl : lv_has ls 3 [(0, .int p0), (1, .int p1), (2, .int p2)] := hl
  unfold X5_in at hF
  refine lv_iload_n hx hb dX5_in_0 rfl (lv_at hl 0 rfl) ?_
  refine lv_iload_n hx hb dX5_in_1 rfl (lv_at hl 1 rfl) ?_
  refine lv_icmp_lt (tgt := 14) hx hb dX5_in_2 (by decide) (fun c1 => ?_) (fun c1 => ?_)
  · rw [if_pos c1] at hF
    refine lv_iconst (v := (0 : Int32)) hx hb dX5_in_14 (by decide) ?_
    exact kret (0 : Int32) () _ _ _ _ (congrArg bi hF) Z dX5_in_15
  · rw [if_neg c1] at hF
    refine lv_iload_n hx hb dX5_in_5 rfl (lv_at hl 0 rfl) ?_
    refine lv_iload_n hx hb dX5_in_6 rfl (lv_at hl 2 rfl) ?_
    refine lv_icmp_gt (tgt := 14) hx hb dX5_in_7 (by decide) (fun c2 => ?_) (fun c2 => ?_)
    · rw [if_pos c2] at hF
      refine lv_iconst (v := (0 : Int32)) hx hb dX5_in_14 (by decide) ?_
      exact kret (0 : Int32) () _ _ _ _ (congrArg bi hF) Z dX5_in_15
    · rw [if_neg c2] at hF
      refine lv_iconst (v := (1 : Int32)) hx hb dX5_in_10 (by decide) ?_
      refine lv_goto (tgt := 15) hx hb dX5_in_11 (by decide) ?_
      exact kret (1 : Int32) () _ _ _ _ (congrArg bi hF) Z dX5_in_15
def X5_isTitle (p0 : Int32) : Bool := (X5_in p0 (0 : Int32) (5 : Int32))
def rm_X5_isTitle : Room := { frames := 1, cells := 0, slots := 0, locals := 22 }
theorem v_X5_isTitle : WdS RX5 yX5_isTitle cX5_isTitle 1 (some .boolean) 1 := ⟨mT_X5_isTitle, mZ_RX5, mC_X5_isTitle, by decide +kernel⟩
set_option maxHeartbeats 8000000 in
set_option maxRecDepth 100000 in
theorem c_X5_isTitle (l : Launch) (D : va_G) (cI cS : ClassId) (p0 : Int32) (F : Bool) (hF : X5_isTitle p0 = F) : MI l yX5_isTitle cX5_isTitle 1 (some .boolean) rm_X5_isTitle D cI cS [.int p0] (([] : va_W)) (fun _ : Unit => ([] : va_W)) (fun r _ => r = bi F) := by
  refine MI.mk RX5 rfl .boolean rfl (by decide) (Nat.le_of_ble_eq_true rfl) (fun r u h => by rw [h]; exact bi_nar _) ?_
  intro p e s m args below meth c A Q ls Fc hin hA Z kret hl
  obtain ⟨hx, hb, hml, hown, hts, hKN⟩ := id Fc
  replace hl : lv_has ls 1 [(0, .int p0)] := hl
  unfold X5_isTitle at hF
  refine lv_iload_n hx hb dX5_isTitle_0 rfl (lv_at hl 0 rfl) ?_
  refine lv_iconst (v := (0 : Int32)) hx hb dX5_isTitle_1 (by decide) ?_
  refine lv_iconst (v := (5 : Int32)) hx hb dX5_isTitle_2 (by decide) ?_
  refine ks_i (As := [.int p0, .int (0 : Int32), .int (5 : Int32)]) Fc hA Z (c_X5_in l D cI cS p0 (0 : Int32) (5 : Int32) (X5_in p0 (0 : Int32) (5 : Int32)) rfl) mL_RX5_51 v_X5_in ⟨rfl, rfl⟩ ⟨Nat.le_of_ble_eq_true rfl, Nat.le_of_ble_eq_true rfl⟩ ⟨Nat.zero_le _, Nat.zero_le _⟩ rfl hl (Nat.le_of_ble_eq_true rfl) dX5_isTitle_3 rfl (fun H locs Z => ?_)
  exact kret ((bi (X5_in p0 (0 : Int32) (5 : Int32)))) () _ _ _ _ (congrArg bi hF) Z dX5_isTitle_6
def X5_isBranch (p0 : Int32) : Bool := (X5_in p0 (0 : Int32) (3 : Int32))
def rm_X5_isBranch : Room := { frames := 1, cells := 0, slots := 0, locals := 22 }
theorem v_X5_isBranch : WdS RX5 yX5_isBranch cX5_isBranch 1 (some .boolean) 1 := ⟨mT_X5_isBranch, mZ_RX5, mC_X5_isBranch, by decide +kernel⟩
set_option maxHeartbeats 8000000 in
set_option maxRecDepth 100000 in
theorem c_X5_isBranch (l : Launch) (D : va_G) (cI cS : ClassId) (p0 : Int32) (F : Bool) (hF : X5_isBranch p0 = F) : MI l yX5_isBranch cX5_isBranch 1 (some .boolean) rm_X5_isBranch D cI cS [.int p0] (([] : va_W)) (fun _ : Unit => ([] : va_W)) (fun r _ => r = bi F) := by
  refine MI.mk RX5 rfl .boolean rfl (by decide) (Nat.le_of_ble_eq_true rfl) (fun r u h => by rw [h]; exact bi_nar _) ?_
  intro p e s m args below meth c A Q ls Fc hin hA Z kret hl
  obtain ⟨hx, hb, hml, hown, hts, hKN⟩ := id Fc
  replace hl : lv_has ls 1 [(0, .int p0)] := hl
  unfold X5_isBranch at hF
  refine lv_iload_n hx hb dX5_isBranch_0 rfl (lv_at hl 0 rfl) ?_
  refine lv_iconst (v := (0 : Int32)) hx hb dX5_isBranch_1 (by decide) ?_
  refine lv_iconst (v := (3 : Int32)) hx hb dX5_isBranch_2 (by decide) ?_
  refine ks_i (As := [.int p0, .int (0 : Int32), .int (3 : Int32)]) Fc hA Z (c_X5_in l D cI cS p0 (0 : Int32) (3 : Int32) (X5_in p0 (0 : Int32) (3 : Int32)) rfl) mL_RX5_51 v_X5_in ⟨rfl, rfl⟩ ⟨Nat.le_of_ble_eq_true rfl, Nat.le_of_ble_eq_true rfl⟩ ⟨Nat.zero_le _, Nat.zero_le _⟩ rfl hl (Nat.le_of_ble_eq_true rfl) dX5_isBranch_3 rfl (fun H locs Z => ?_)
  exact kret ((bi (X5_in p0 (0 : Int32) (3 : Int32)))) () _ _ _ _ (congrArg bi hF) Z dX5_isBranch_6
def X5_least (p0 : Int32) : Int32 := if p0 = 0 then ((1 : Int32)) else if p0 = (1 : Int32) then ((1 : Int32)) else if p0 = (4 : Int32) then ((1 : Int32)) else if p0 = (7 : Int32) then ((1 : Int32)) else (0 : Int32)
def rm_X5_least : Room := { frames := 0, cells := 0, slots := 0, locals := 0 }
theorem v_X5_least : WdS RX5 yX5_least cX5_least 1 (some .int) 1 := ⟨mT_X5_least, mZ_RX5, mC_X5_least, by decide +kernel⟩
set_option maxHeartbeats 8000000 in
set_option maxRecDepth 100000 in
theorem c_X5_least (l : Launch) (D : va_G) (cI cS : ClassId) (p0 : Int32) (F : Int32) (hF : X5_least p0 = F) : MI l yX5_least cX5_least 1 (some .int) rm_X5_least D cI cS [.int p0] (([] : va_W)) (fun _ : Unit => ([] : va_W)) (fun r _ => r = F) := by
  refine MI.mk RX5 rfl .int rfl (by decide) (Nat.le_of_ble_eq_true rfl) (fun _ _ _ => rfl) ?_
  intro p e s m args below meth c A Q ls Fc hin hA Z kret hl
  obtain ⟨hx, hb, hml, hown, hts, hKN⟩ := id Fc
  replace hl : lv_has ls 1 [(0, .int p0)] := hl
  unfold X5_least at hF
  refine lv_iload_n hx hb dX5_least_0 rfl (lv_at hl 0 rfl) ?_
  refine lv_if_eq (tgt := 20) hx hb dX5_least_1 (by decide) (fun c1 => ?_) (fun c1 => ?_)
  · rw [if_pos c1] at hF
    refine lv_iconst (v := (1 : Int32)) hx hb dX5_least_20 (by decide) ?_
    refine lv_goto (tgt := 25) hx hb dX5_least_21 (by decide) ?_
    exact kret (1 : Int32) () _ _ _ _ hF Z dX5_least_25
  · rw [if_neg c1] at hF
    refine lv_iload_n hx hb dX5_least_4 rfl (lv_at hl 0 rfl) ?_
    refine lv_iconst (v := (1 : Int32)) hx hb dX5_least_5 (by decide) ?_
    refine lv_icmp_eq (tgt := 20) hx hb dX5_least_6 (by decide) (fun c2 => ?_) (fun c2 => ?_)
    · rw [if_pos c2] at hF
      refine lv_iconst (v := (1 : Int32)) hx hb dX5_least_20 (by decide) ?_
      refine lv_goto (tgt := 25) hx hb dX5_least_21 (by decide) ?_
      exact kret (1 : Int32) () _ _ _ _ hF Z dX5_least_25
    · rw [if_neg c2] at hF
      refine lv_iload_n hx hb dX5_least_9 rfl (lv_at hl 0 rfl) ?_
      refine lv_iconst (v := (4 : Int32)) hx hb dX5_least_10 (by decide) ?_
      refine lv_icmp_eq (tgt := 20) hx hb dX5_least_11 (by decide) (fun c3 => ?_) (fun c3 => ?_)
      · rw [if_pos c3] at hF
        refine lv_iconst (v := (1 : Int32)) hx hb dX5_least_20 (by decide) ?_
        refine lv_goto (tgt := 25) hx hb dX5_least_21 (by decide) ?_
        exact kret (1 : Int32) () _ _ _ _ hF Z dX5_least_25
      · rw [if_neg c3] at hF
        refine lv_iload_n hx hb dX5_least_14 rfl (lv_at hl 0 rfl) ?_
        refine lv_bipush (v := (7 : Int32)) hx hb dX5_least_15 (by decide) ?_
        refine lv_icmp_ne (tgt := 24) hx hb dX5_least_17 (by decide) (fun c4 => ?_) (fun c4 => ?_)
        · rw [if_neg c4] at hF
          refine lv_iconst (v := (0 : Int32)) hx hb dX5_least_24 (by decide) ?_
          exact kret (0 : Int32) () _ _ _ _ hF Z dX5_least_25
        · rw [if_pos c4] at hF
          refine lv_iconst (v := (1 : Int32)) hx hb dX5_least_20 (by decide) ?_
          refine lv_goto (tgt := 25) hx hb dX5_least_21 (by decide) ?_
          exact kret (1 : Int32) () _ _ _ _ hF Z dX5_least_25
def X5_most (p0 : Int32) : Int32 := if p0 = (0 : Int32) then ((60 : Int32)) else if p0 = (1 : Int32) then ((20 : Int32)) else if p0 = (2 : Int32) then ((1000 : Int32)) else if p0 = (3 : Int32) then ((10000 : Int32)) else if p0 = (4 : Int32) then ((100000 : Int32)) else if p0 = (5 : Int32) then ((30 : Int32)) else if p0 = (6 : Int32) then ((100000 : Int32)) else (365 : Int32)
def rm_X5_most : Room := { frames := 0, cells := 0, slots := 0, locals := 0 }
theorem v_X5_most : WdS RX5 yX5_most cX5_most 1 (some .int) 1 := ⟨mT_X5_most, mZ_RX5, mC_X5_most, by decide +kernel⟩
set_option maxHeartbeats 8000000 in
set_option maxRecDepth 100000 in
theorem c_X5_most (l : Launch) (D : va_G) (cI cS : ClassId) (p0 : Int32) (F : Int32) (hF : X5_most p0 = F) : MI l yX5_most cX5_most 1 (some .int) rm_X5_most D cI cS [.int p0] (([] : va_W)) (fun _ : Unit => ([] : va_W)) (fun r _ => r = F) := by
  refine MI.mk RX5 rfl .int rfl (by decide) (Nat.le_of_ble_eq_true rfl) (fun _ _ _ => rfl) ?_
  intro p e s m args below meth c A Q ls Fc hin hA Z kret hl
  obtain ⟨hx, hb, hml, hown, hts, hKN⟩ := id Fc
  replace hl : lv_has ls 1 [(0, .int p0)] := hl
  unfold X5_most at hF
  refine lv_iload_n hx hb dX5_most_0 rfl (lv_at hl 0 rfl) ?_
  rcases Decidable.em (p0 = (0 : Int32)) with c1 | c1
  · rw [if_pos c1] at hF
    refine lv_tableIn (off := 43) (tgt := 44) hx hb dX5_most_1 (by rw [c1]; decide) (by rw [c1]; decide) (by rw [c1]; decide) (by decide) ?_
    refine lv_bipush (v := (60 : Int32)) hx hb dX5_most_44 (by decide) ?_
    exact kret (60 : Int32) () _ _ _ _ hF Z dX5_most_46
  rw [if_neg c1] at hF
  rcases Decidable.em (p0 = (1 : Int32)) with c2 | c2
  · rw [if_pos c2] at hF
    refine lv_tableIn (off := 46) (tgt := 47) hx hb dX5_most_1 (by rw [c2]; decide) (by rw [c2]; decide) (by rw [c2]; decide) (by decide) ?_
    refine lv_bipush (v := (20 : Int32)) hx hb dX5_most_47 (by decide) ?_
    exact kret (20 : Int32) () _ _ _ _ hF Z dX5_most_49
  rw [if_neg c2] at hF
  rcases Decidable.em (p0 = (2 : Int32)) with c3 | c3
  · rw [if_pos c3] at hF
    refine lv_tableIn (off := 49) (tgt := 50) hx hb dX5_most_1 (by rw [c3]; decide) (by rw [c3]; decide) (by rw [c3]; decide) (by decide) ?_
    refine lv_sipush (v := (1000 : Int32)) hx hb dX5_most_50 (by decide) ?_
    exact kret (1000 : Int32) () _ _ _ _ hF Z dX5_most_53
  rw [if_neg c3] at hF
  rcases Decidable.em (p0 = (3 : Int32)) with c4 | c4
  · rw [if_pos c4] at hF
    refine lv_tableIn (off := 53) (tgt := 54) hx hb dX5_most_1 (by rw [c4]; decide) (by rw [c4]; decide) (by rw [c4]; decide) (by decide) ?_
    refine lv_sipush (v := (10000 : Int32)) hx hb dX5_most_54 (by decide) ?_
    exact kret (10000 : Int32) () _ _ _ _ hF Z dX5_most_57
  rw [if_neg c4] at hF
  rcases Decidable.em (p0 = (4 : Int32)) with c5 | c5
  · rw [if_pos c5] at hF
    refine lv_tableIn (off := 57) (tgt := 58) hx hb dX5_most_1 (by rw [c5]; decide) (by rw [c5]; decide) (by rw [c5]; decide) (by decide) ?_
    refine lv_ldc (v := (100000 : Int32)) hx hb hown (hts _ mK_RX5_106) dX5_most_58 ?_
    exact kret (100000 : Int32) () _ _ _ _ hF Z dX5_most_60
  rw [if_neg c5] at hF
  rcases Decidable.em (p0 = (5 : Int32)) with c6 | c6
  · rw [if_pos c6] at hF
    refine lv_tableIn (off := 60) (tgt := 61) hx hb dX5_most_1 (by rw [c6]; decide) (by rw [c6]; decide) (by rw [c6]; decide) (by decide) ?_
    refine lv_bipush (v := (30 : Int32)) hx hb dX5_most_61 (by decide) ?_
    exact kret (30 : Int32) () _ _ _ _ hF Z dX5_most_63
  rw [if_neg c6] at hF
  rcases Decidable.em (p0 = (6 : Int32)) with c7 | c7
  · rw [if_pos c7] at hF
    refine lv_tableIn (off := 63) (tgt := 64) hx hb dX5_most_1 (by rw [c7]; decide) (by rw [c7]; decide) (by rw [c7]; decide) (by decide) ?_
    refine lv_ldc (v := (100000 : Int32)) hx hb hown (hts _ mK_RX5_106) dX5_most_64 ?_
    exact kret (100000 : Int32) () _ _ _ _ hF Z dX5_most_66
  rw [if_neg c7] at hF
  refine kdflt (tgt := 67) hx hb dX5_most_1 [(0 : Int32), (1 : Int32), (2 : Int32), (3 : Int32), (4 : Int32), (5 : Int32), (6 : Int32)] (by decide) (by intro v hv; simp only [List.mem_cons, List.not_mem_nil, or_false] at hv; rcases hv with rfl | rfl | rfl | rfl | rfl | rfl | rfl <;> assumption) (by decide) ?_
  refine lv_sipush (v := (365 : Int32)) hx hb dX5_most_67 (by decide) ?_
  exact kret (365 : Int32) () _ _ _ _ hF Z dX5_most_70
