/-! THE REFERENCE: its methods -/
def X5_recalls_L5 (ρ : Ms) (x1 : Int32) : Nat → Int32 → Int32 → Option (Ms)
  | 0, _, _ => none
  | k + 1, x2, x3 => (rdA (ρ.1.1 0) 681 (1 : Int32)).bind fun v1 => if v1 ≤ x3 then (if 0 ≤ x2 then ((X5_puts ρ x2 (8 : Int32) (1 : Int32)).bind fun q5 => (X5_of q5 x2 (5 : Int32)).bind fun v7 => (rdA (q5.1.1 0) 681 (0 : Int32)).bind fun v9 => (X5_of q5 x2 (6 : Int32)).bind fun v11 => (X5_puts q5 x2 (5 : Int32) ((jmin v7 ((jmax ((v9 + (3 : Int32))) ((v11 + (7 : Int32)))))))).bind fun q13 => some q13) else some ρ) else (X5_of ρ x3 (0 : Int32)).bind fun v15 => if v15 = x1 then ((X5_of ρ x3 (3 : Int32)).bind fun v18 => if v18 = (1 : Int32) then ((X5_of ρ x3 (8 : Int32)).bind fun v21 => if v21 = (1 : Int32) then (X5_recalls_L5 ρ x1 k x2 ((x3 + (1 : Int32)))) else if x2 < 0 then (X5_recalls_L5 ρ x1 k x3 ((x3 + (1 : Int32)))) else (X5_of ρ x3 (6 : Int32)).bind fun v25 => (X5_of ρ x2 (6 : Int32)).bind fun v27 => if v27 ≤ v25 then (X5_recalls_L5 ρ x1 k x2 ((x3 + (1 : Int32)))) else X5_recalls_L5 ρ x1 k x3 ((x3 + (1 : Int32)))) else X5_recalls_L5 ρ x1 k x2 ((x3 + (1 : Int32)))) else X5_recalls_L5 ρ x1 k x2 ((x3 + (1 : Int32)))
def X5_recalls (ρ : Ms) (p1 : Int32) : Option (Ms) := X5_recalls_L5 ρ p1 FU (-2 : Int32) (0 : Int32)
def rm_X5_recalls : Room := { frames := 1, cells := 0, slots := 0, locals := 23 }
theorem v_X5_recalls : WdV RX5 yX5_recalls cX5_recalls 4 none 1 := ⟨mI_X5_recalls, mS_X5_recalls, mZ_RX5, mC_X5_recalls, by decide +kernel⟩
set_option maxHeartbeats 8000000 in
set_option maxRecDepth 100000 in
theorem c_X5_recalls (l : Launch) (D : va_G) (cI cS : ClassId) (am : Nat → Nat) (ρ : Ms) (p1 : Int32) (F : Ms) (hF : X5_recalls ρ p1 = some F) : MV l yX5_recalls cX5_recalls 4 rm_X5_recalls D cI cS [.ref (am 0), .int p1] (mW am cI ρ) (mW am cI) (fun u => u = F ∧ True) := by
  refine MV.mk RX5 rfl (by decide) (Nat.le_of_ble_eq_true rfl) ?_
  intro p e s m args below meth c A Q ls Fc hin hA Z kret hl
  obtain ⟨hx, hb, hml, hown, hts, hKN⟩ := id Fc
  replace hl : lv_has ls 4 [(0, .ref (am 0)), (1, .int p1)] := hl
  have L5 : ∀ (ρ : Ms) (x1 : Int32) (k : Nat) (x2 : Int32) (x3 : Int32) (H : Heap) (locs : List Loc) (ls : Array Slot), X5_recalls_L5 ρ x1  k x2 x3 = some F → Ix D A s (mW am cI ρ) H locs → lv_has ls 4 [(0, .ref (am 0)), (1, .int x1), (2, .int x2), (3, .int x3)] → W p l e rm_X5_recalls s m args below meth c H locs 0 0 Q (F0 m 5 ls []) := by
    intro ρ x1 k
    induction k with
    | zero => intro x2 x3 H locs ls hF; rw [X5_recalls_L5] at hF; cases hF
    | succ k ih =>
      intro x2 x3 H locs ls hF Z hl
      rw [X5_recalls_L5] at hF
      refine lv_iload_n hx hb dX5_recalls_5 rfl (lv_at hl 3 rfl) ?_
      refine lv_aload_n hx hb dX5_recalls_6 rfl (lv_at hl 0 rfl) ?_
      refine kget Fc Z inX5 0 rfl rfl 0 (by decide) mF_RX5_11 rfl rfl dX5_recalls_7 ?_
      refine lv_iconst (v := (1 : Int32)) hx hb dX5_recalls_10 (by decide) ?_
      obtain ⟨v1, h2, hF⟩ := obind hF
      refine kald Fc Z 1 rfl h2 dX5_recalls_11 ?_
      refine lv_icmp_ge (tgt := 78) hx hb dX5_recalls_12 (by decide) (fun c3 => ?_) (fun c3 => ?_)
      · rw [if_pos c3] at hF
        refine lv_iload_n hx hb dX5_recalls_78 rfl (lv_at hl 2 rfl) ?_
        refine lv_if_ge (tgt := 83) hx hb dX5_recalls_79 (by decide) (fun c4 => ?_) (fun c4 => ?_)
        · rw [if_pos c4] at hF
          refine lv_aload_n hx hb dX5_recalls_83 rfl (lv_at hl 0 rfl) ?_
          refine lv_iload_n hx hb dX5_recalls_84 rfl (lv_at hl 2 rfl) ?_
          refine lv_bipush (v := (8 : Int32)) hx hb dX5_recalls_85 (by decide) ?_
          refine lv_iconst (v := (1 : Int32)) hx hb dX5_recalls_87 (by decide) ?_
          obtain ⟨q5, h6, hF⟩ := obind hF
          refine kv_i (As := [.int x2, .int (8 : Int32), .int (1 : Int32)]) (ok := (fun _ => True)) Fc hA Z Lens.all (c_X5_puts l D cI cS am ρ x2 (8 : Int32) (1 : Int32) q5 h6) mL_RX5_55 v_X5_puts ⟨rfl, rfl⟩ ⟨Nat.le_of_ble_eq_true rfl, Nat.le_of_ble_eq_true rfl⟩ ⟨Nat.zero_le _, Nat.zero_le _⟩ 0 5 rfl rfl rfl hl (Nat.le_of_ble_eq_true rfl) dX5_recalls_88 rfl (fun H locs ok1 Z => ?_)
          refine lv_aload_n hx hb dX5_recalls_91 rfl (lv_at hl 0 rfl) ?_
          refine lv_iload_n hx hb dX5_recalls_92 rfl (lv_at hl 2 rfl) ?_
          refine lv_iconst (v := (5 : Int32)) hx hb dX5_recalls_93 (by decide) ?_
          refine lv_aload_n hx hb dX5_recalls_94 rfl (lv_at hl 0 rfl) ?_
          refine lv_iload_n hx hb dX5_recalls_95 rfl (lv_at hl 2 rfl) ?_
          refine lv_iconst (v := (5 : Int32)) hx hb dX5_recalls_96 (by decide) ?_
          obtain ⟨v7, h8, hF⟩ := obind hF
          refine kr_i (As := [.int x2, .int (5 : Int32)]) Fc hA Z Lens.all (c_X5_of l D cI cS am q5 x2 (5 : Int32) v7 h8) mL_RX5_73 v_X5_of ⟨rfl, rfl⟩ ⟨Nat.le_of_ble_eq_true rfl, Nat.le_of_ble_eq_true rfl⟩ ⟨Nat.zero_le _, Nat.zero_le _⟩ 0 5 rfl rfl rfl hl (Nat.le_of_ble_eq_true rfl) dX5_recalls_97 rfl (fun H locs Z => ?_)
          refine lv_aload_n hx hb dX5_recalls_100 rfl (lv_at hl 0 rfl) ?_
          refine kget Fc Z inX5 0 rfl rfl 0 (by decide) mF_RX5_11 rfl rfl dX5_recalls_101 ?_
          refine lv_iconst (v := (0 : Int32)) hx hb dX5_recalls_104 (by decide) ?_
          obtain ⟨v9, h10, hF⟩ := obind hF
          refine kald Fc Z 1 rfl h10 dX5_recalls_105 ?_
          refine lv_iconst (v := (3 : Int32)) hx hb dX5_recalls_106 (by decide) ?_
          refine lv_iadd hx hb dX5_recalls_107 ?_
          refine lv_aload_n hx hb dX5_recalls_108 rfl (lv_at hl 0 rfl) ?_
          refine lv_iload_n hx hb dX5_recalls_109 rfl (lv_at hl 2 rfl) ?_
          refine lv_bipush (v := (6 : Int32)) hx hb dX5_recalls_110 (by decide) ?_
          obtain ⟨v11, h12, hF⟩ := obind hF
          refine kr_i (As := [.int x2, .int (6 : Int32)]) Fc hA Z Lens.all (c_X5_of l D cI cS am q5 x2 (6 : Int32) v11 h12) mL_RX5_73 v_X5_of ⟨rfl, rfl⟩ ⟨Nat.le_of_ble_eq_true rfl, Nat.le_of_ble_eq_true rfl⟩ ⟨Nat.zero_le _, Nat.zero_le _⟩ 0 5 rfl rfl rfl hl (Nat.le_of_ble_eq_true rfl) dX5_recalls_112 rfl (fun H locs Z => ?_)
          refine lv_bipush (v := (7 : Int32)) hx hb dX5_recalls_115 (by decide) ?_
          refine lv_iadd hx hb dX5_recalls_117 ?_
          refine kmax Fc hl mL_RX5_82 (Nat.le_of_ble_eq_true rfl) (Nat.le_of_ble_eq_true rfl) ⟨Nat.zero_le _, Nat.zero_le _⟩ dX5_recalls_118 ?_
          refine kmin Fc hl mL_RX5_177 (Nat.le_of_ble_eq_true rfl) (Nat.le_of_ble_eq_true rfl) ⟨Nat.zero_le _, Nat.zero_le _⟩ dX5_recalls_121 ?_
          obtain ⟨q13, h14, hF⟩ := obind hF
          refine kv_i (As := [.int x2, .int (5 : Int32), .int ((jmin v7 ((jmax ((v9 + (3 : Int32))) ((v11 + (7 : Int32)))))))]) (ok := (fun _ => True)) Fc hA Z Lens.all (c_X5_puts l D cI cS am q5 x2 (5 : Int32) ((jmin v7 ((jmax ((v9 + (3 : Int32))) ((v11 + (7 : Int32))))))) q13 h14) mL_RX5_55 v_X5_puts ⟨rfl, rfl⟩ ⟨Nat.le_of_ble_eq_true rfl, Nat.le_of_ble_eq_true rfl⟩ ⟨Nat.zero_le _, Nat.zero_le _⟩ 0 5 rfl rfl rfl hl (Nat.le_of_ble_eq_true rfl) dX5_recalls_124 rfl (fun H locs ok1 Z => ?_)
          exact kret q13 _ _ _ _ ⟨(Option.some.inj hF), trivial⟩ Z dX5_recalls_127
        · rw [if_neg c4] at hF
          exact kret ρ _ _ _ _ ⟨(Option.some.inj hF), trivial⟩ Z dX5_recalls_82
      · rw [if_neg c3] at hF
        refine lv_aload_n hx hb dX5_recalls_15 rfl (lv_at hl 0 rfl) ?_
        refine lv_iload_n hx hb dX5_recalls_16 rfl (lv_at hl 3 rfl) ?_
        refine lv_iconst (v := (0 : Int32)) hx hb dX5_recalls_17 (by decide) ?_
        obtain ⟨v15, h16, hF⟩ := obind hF
        refine kr_i (As := [.int x3, .int (0 : Int32)]) Fc hA Z Lens.all (c_X5_of l D cI cS am ρ x3 (0 : Int32) v15 h16) mL_RX5_73 v_X5_of ⟨rfl, rfl⟩ ⟨Nat.le_of_ble_eq_true rfl, Nat.le_of_ble_eq_true rfl⟩ ⟨Nat.zero_le _, Nat.zero_le _⟩ 0 5 rfl rfl rfl hl (Nat.le_of_ble_eq_true rfl) dX5_recalls_18 rfl (fun H locs Z => ?_)
        refine lv_iload_n hx hb dX5_recalls_21 rfl (lv_at hl 1 rfl) ?_
        refine lv_icmp_ne (tgt := 72) hx hb dX5_recalls_22 (by decide) (fun c17 => ?_) (fun c17 => ?_)
        · rw [if_neg c17] at hF
          refine lv_iinc (v := (x3 + (1 : Int32))) (lv' := [(3, .int (x3 + (1 : Int32))), (0, .ref (am 0)), (1, .int x1), (2, .int x2)]) hx hb dX5_recalls_72 hl (k := 3) rfl (by rfl) (by decide) rfl (fun ls hl => ?_)
          refine lv_goto (tgt := 5) hx hb dX5_recalls_75 (by decide) ?_
          exact ih x2 ((x3 + (1 : Int32))) _ _ _ hF Z (lv_sub hl [1, 2, 3, 0] rfl)
        · rw [if_pos c17] at hF
          refine lv_aload_n hx hb dX5_recalls_25 rfl (lv_at hl 0 rfl) ?_
          refine lv_iload_n hx hb dX5_recalls_26 rfl (lv_at hl 3 rfl) ?_
          refine lv_iconst (v := (3 : Int32)) hx hb dX5_recalls_27 (by decide) ?_
          obtain ⟨v18, h19, hF⟩ := obind hF
          refine kr_i (As := [.int x3, .int (3 : Int32)]) Fc hA Z Lens.all (c_X5_of l D cI cS am ρ x3 (3 : Int32) v18 h19) mL_RX5_73 v_X5_of ⟨rfl, rfl⟩ ⟨Nat.le_of_ble_eq_true rfl, Nat.le_of_ble_eq_true rfl⟩ ⟨Nat.zero_le _, Nat.zero_le _⟩ 0 5 rfl rfl rfl hl (Nat.le_of_ble_eq_true rfl) dX5_recalls_28 rfl (fun H locs Z => ?_)
          refine lv_iconst (v := (1 : Int32)) hx hb dX5_recalls_31 (by decide) ?_
          refine lv_icmp_ne (tgt := 72) hx hb dX5_recalls_32 (by decide) (fun c20 => ?_) (fun c20 => ?_)
          · rw [if_neg c20] at hF
            refine lv_iinc (v := (x3 + (1 : Int32))) (lv' := [(3, .int (x3 + (1 : Int32))), (0, .ref (am 0)), (1, .int x1), (2, .int x2)]) hx hb dX5_recalls_72 hl (k := 3) rfl (by rfl) (by decide) rfl (fun ls hl => ?_)
            refine lv_goto (tgt := 5) hx hb dX5_recalls_75 (by decide) ?_
            exact ih x2 ((x3 + (1 : Int32))) _ _ _ hF Z (lv_sub hl [1, 2, 3, 0] rfl)
          · rw [if_pos c20] at hF
            refine lv_aload_n hx hb dX5_recalls_35 rfl (lv_at hl 0 rfl) ?_
            refine lv_iload_n hx hb dX5_recalls_36 rfl (lv_at hl 3 rfl) ?_
            refine lv_bipush (v := (8 : Int32)) hx hb dX5_recalls_37 (by decide) ?_
            obtain ⟨v21, h22, hF⟩ := obind hF
            refine kr_i (As := [.int x3, .int (8 : Int32)]) Fc hA Z Lens.all (c_X5_of l D cI cS am ρ x3 (8 : Int32) v21 h22) mL_RX5_73 v_X5_of ⟨rfl, rfl⟩ ⟨Nat.le_of_ble_eq_true rfl, Nat.le_of_ble_eq_true rfl⟩ ⟨Nat.zero_le _, Nat.zero_le _⟩ 0 5 rfl rfl rfl hl (Nat.le_of_ble_eq_true rfl) dX5_recalls_39 rfl (fun H locs Z => ?_)
            refine lv_iconst (v := (1 : Int32)) hx hb dX5_recalls_42 (by decide) ?_
            refine lv_icmp_ne (tgt := 49) hx hb dX5_recalls_43 (by decide) (fun c23 => ?_) (fun c23 => ?_)
            · rw [if_neg c23] at hF
              refine lv_iload_n hx hb dX5_recalls_49 rfl (lv_at hl 2 rfl) ?_
              refine lv_if_lt (tgt := 70) hx hb dX5_recalls_50 (by decide) (fun c24 => ?_) (fun c24 => ?_)
              · rw [if_pos c24] at hF
                refine lv_iload_n hx hb dX5_recalls_70 rfl (lv_at hl 3 rfl) ?_
                refine lv_istore_n (lv' := [(2, .int x3), (0, .ref (am 0)), (1, .int x1), (3, .int x3)]) hx hb dX5_recalls_71 rfl hl (by decide) rfl (fun ls hl => ?_)
                refine lv_iinc (v := (x3 + (1 : Int32))) (lv' := [(3, .int (x3 + (1 : Int32))), (2, .int x3), (0, .ref (am 0)), (1, .int x1)]) hx hb dX5_recalls_72 hl (k := 3) rfl (by rfl) (by decide) rfl (fun ls hl => ?_)
                refine lv_goto (tgt := 5) hx hb dX5_recalls_75 (by decide) ?_
                exact ih x3 ((x3 + (1 : Int32))) _ _ _ hF Z (lv_sub hl [2, 3, 1, 0] rfl)
              · rw [if_neg c24] at hF
                refine lv_aload_n hx hb dX5_recalls_53 rfl (lv_at hl 0 rfl) ?_
                refine lv_iload_n hx hb dX5_recalls_54 rfl (lv_at hl 3 rfl) ?_
                refine lv_bipush (v := (6 : Int32)) hx hb dX5_recalls_55 (by decide) ?_
                obtain ⟨v25, h26, hF⟩ := obind hF
                refine kr_i (As := [.int x3, .int (6 : Int32)]) Fc hA Z Lens.all (c_X5_of l D cI cS am ρ x3 (6 : Int32) v25 h26) mL_RX5_73 v_X5_of ⟨rfl, rfl⟩ ⟨Nat.le_of_ble_eq_true rfl, Nat.le_of_ble_eq_true rfl⟩ ⟨Nat.zero_le _, Nat.zero_le _⟩ 0 5 rfl rfl rfl hl (Nat.le_of_ble_eq_true rfl) dX5_recalls_57 rfl (fun H locs Z => ?_)
                refine lv_aload_n hx hb dX5_recalls_60 rfl (lv_at hl 0 rfl) ?_
                refine lv_iload_n hx hb dX5_recalls_61 rfl (lv_at hl 2 rfl) ?_
                refine lv_bipush (v := (6 : Int32)) hx hb dX5_recalls_62 (by decide) ?_
                obtain ⟨v27, h28, hF⟩ := obind hF
                refine kr_i (As := [.int x2, .int (6 : Int32)]) Fc hA Z Lens.all (c_X5_of l D cI cS am ρ x2 (6 : Int32) v27 h28) mL_RX5_73 v_X5_of ⟨rfl, rfl⟩ ⟨Nat.le_of_ble_eq_true rfl, Nat.le_of_ble_eq_true rfl⟩ ⟨Nat.zero_le _, Nat.zero_le _⟩ 0 5 rfl rfl rfl hl (Nat.le_of_ble_eq_true rfl) dX5_recalls_64 rfl (fun H locs Z => ?_)
                refine lv_icmp_ge (tgt := 72) hx hb dX5_recalls_67 (by decide) (fun c29 => ?_) (fun c29 => ?_)
                · rw [if_pos c29] at hF
                  refine lv_iinc (v := (x3 + (1 : Int32))) (lv' := [(3, .int (x3 + (1 : Int32))), (0, .ref (am 0)), (1, .int x1), (2, .int x2)]) hx hb dX5_recalls_72 hl (k := 3) rfl (by rfl) (by decide) rfl (fun ls hl => ?_)
                  refine lv_goto (tgt := 5) hx hb dX5_recalls_75 (by decide) ?_
                  exact ih x2 ((x3 + (1 : Int32))) _ _ _ hF Z (lv_sub hl [1, 2, 3, 0] rfl)
                · rw [if_neg c29] at hF
                  refine lv_iload_n hx hb dX5_recalls_70 rfl (lv_at hl 3 rfl) ?_
                  refine lv_istore_n (lv' := [(2, .int x3), (0, .ref (am 0)), (1, .int x1), (3, .int x3)]) hx hb dX5_recalls_71 rfl hl (by decide) rfl (fun ls hl => ?_)
                  refine lv_iinc (v := (x3 + (1 : Int32))) (lv' := [(3, .int (x3 + (1 : Int32))), (2, .int x3), (0, .ref (am 0)), (1, .int x1)]) hx hb dX5_recalls_72 hl (k := 3) rfl (by rfl) (by decide) rfl (fun ls hl => ?_)
                  refine lv_goto (tgt := 5) hx hb dX5_recalls_75 (by decide) ?_
                  exact ih x3 ((x3 + (1 : Int32))) _ _ _ hF Z (lv_sub hl [2, 3, 1, 0] rfl)
            · rw [if_pos c23] at hF
              refine lv_goto (tgt := 72) hx hb dX5_recalls_46 (by decide) ?_
              refine lv_iinc (v := (x3 + (1 : Int32))) (lv' := [(3, .int (x3 + (1 : Int32))), (0, .ref (am 0)), (1, .int x1), (2, .int x2)]) hx hb dX5_recalls_72 hl (k := 3) rfl (by rfl) (by decide) rfl (fun ls hl => ?_)
              refine lv_goto (tgt := 5) hx hb dX5_recalls_75 (by decide) ?_
              exact ih x2 ((x3 + (1 : Int32))) _ _ _ hF Z (lv_sub hl [1, 2, 3, 0] rfl)
  unfold X5_recalls at hF
  refine lv_bipush (v := (-2 : Int32)) hx hb dX5_recalls_0 (by decide) ?_
  refine lv_istore_n (lv' := [(2, .int (-2 : Int32)), (0, .ref (am 0)), (1, .int p1)]) hx hb dX5_recalls_2 rfl hl (by decide) rfl (fun ls hl => ?_)
  refine lv_iconst (v := (0 : Int32)) hx hb dX5_recalls_3 (by decide) ?_
  refine lv_istore_n (lv' := [(3, .int (0 : Int32)), (2, .int (-2 : Int32)), (0, .ref (am 0)), (1, .int p1)]) hx hb dX5_recalls_4 rfl hl (by decide) rfl (fun ls hl => ?_)
  exact L5 ρ p1 FU (-2 : Int32) (0 : Int32) _ _ _ hF Z (lv_sub hl [2, 3, 1, 0] rfl)
def X5_nearest_L6 (ρ : Ms) (x1 : Int32) (x2 : Int32) : Nat → Int32 → Int32 → Option (Int32)
  | 0, _, _ => none
  | k + 1, x3, x4 => (rdA (ρ.1.1 0) 681 (1 : Int32)).bind fun v1 => if v1 ≤ x4 then (some x3) else (X5_of ρ x4 (0 : Int32)).bind fun v4 => if v4 = x1 then ((X5_of ρ x4 (3 : Int32)).bind fun v7 => if v7 = 0 then (if x3 < 0 then (X5_nearest_L6 ρ x1 x2 k x4 ((x4 + (1 : Int32)))) else (X5_of ρ x4 (4 : Int32)).bind fun v11 => (X5_of ρ x3 (4 : Int32)).bind fun v13 => if (jab (v13 - x2)) ≤ (jab (v11 - x2)) then (X5_nearest_L6 ρ x1 x2 k x3 ((x4 + (1 : Int32)))) else X5_nearest_L6 ρ x1 x2 k x4 ((x4 + (1 : Int32)))) else X5_nearest_L6 ρ x1 x2 k x3 ((x4 + (1 : Int32)))) else X5_nearest_L6 ρ x1 x2 k x3 ((x4 + (1 : Int32)))
def X5_nearest (ρ : Ms) (p1 p2 : Int32) : Option (Int32) := X5_nearest_L6 ρ p1 p2 FU (-2 : Int32) (0 : Int32)
def rm_X5_nearest : Room := { frames := 1, cells := 0, slots := 0, locals := 23 }
theorem v_X5_nearest : WdV RX5 yX5_nearest cX5_nearest 5 (some .int) 2 := ⟨mI_X5_nearest, mS_X5_nearest, mZ_RX5, mC_X5_nearest, by decide +kernel⟩
set_option maxHeartbeats 8000000 in
set_option maxRecDepth 100000 in
theorem c_X5_nearest (l : Launch) (D : va_G) (cI cS : ClassId) (am : Nat → Nat) (ρ : Ms) (p1 p2 : Int32) (F : Int32) (hF : X5_nearest ρ p1 p2 = some F) : MI l yX5_nearest cX5_nearest 5 (some .int) rm_X5_nearest D cI cS [.ref (am 0), .int p1, .int p2] (mW am cI ρ) (mW am cI) (fun r u' => r = F ∧ u' = ρ) := by
  refine MI.mk RX5 rfl .int rfl (by decide) (Nat.le_of_ble_eq_true rfl) (fun _ _ _ => rfl) ?_
  intro p e s m args below meth c A Q ls Fc hin hA Z kret hl
  obtain ⟨hx, hb, hml, hown, hts, hKN⟩ := id Fc
  replace hl : lv_has ls 5 [(0, .ref (am 0)), (1, .int p1), (2, .int p2)] := hl
  have L6 : ∀ (x1 : Int32) (x2 : Int32) (k : Nat) (x3 : Int32) (x4 : Int32) (H : Heap) (locs : List Loc) (ls : Array Slot), X5_nearest_L6 ρ x1 x2  k x3 x4 = some F → Ix D A s (mW am cI ρ) H locs → lv_has ls 5 [(0, .ref (am 0)), (1, .int x1), (2, .int x2), (3, .int x3), (4, .int x4)] → W p l e rm_X5_nearest s m args below meth c H locs 0 0 Q (F0 m 6 ls []) := by
    intro x1 x2 k
    induction k with
    | zero => intro x3 x4 H locs ls hF; rw [X5_nearest_L6] at hF; cases hF
    | succ k ih =>
      intro x3 x4 H locs ls hF Z hl
      rw [X5_nearest_L6] at hF
      refine lv_iload hx hb dX5_nearest_6 (lv_at hl 4 rfl) ?_
      refine lv_aload_n hx hb dX5_nearest_8 rfl (lv_at hl 0 rfl) ?_
      refine kget Fc Z inX5 0 rfl rfl 0 (by decide) mF_RX5_11 rfl rfl dX5_nearest_9 ?_
      refine lv_iconst (v := (1 : Int32)) hx hb dX5_nearest_12 (by decide) ?_
      obtain ⟨v1, h2, hF⟩ := obind hF
      refine kald Fc Z 1 rfl h2 dX5_nearest_13 ?_
      refine lv_icmp_ge (tgt := 80) hx hb dX5_nearest_14 (by decide) (fun c3 => ?_) (fun c3 => ?_)
      · rw [if_pos c3] at hF
        refine lv_iload_n hx hb dX5_nearest_80 rfl (lv_at hl 3 rfl) ?_
        exact kret x3 ρ _ _ _ _ ⟨(Option.some.inj hF), rfl⟩ Z dX5_nearest_81
      · rw [if_neg c3] at hF
        refine lv_aload_n hx hb dX5_nearest_17 rfl (lv_at hl 0 rfl) ?_
        refine lv_iload hx hb dX5_nearest_18 (lv_at hl 4 rfl) ?_
        refine lv_iconst (v := (0 : Int32)) hx hb dX5_nearest_20 (by decide) ?_
        obtain ⟨v4, h5, hF⟩ := obind hF
        refine kr_i (As := [.int x4, .int (0 : Int32)]) Fc hA Z Lens.all (c_X5_of l D cI cS am ρ x4 (0 : Int32) v4 h5) mL_RX5_73 v_X5_of ⟨rfl, rfl⟩ ⟨Nat.le_of_ble_eq_true rfl, Nat.le_of_ble_eq_true rfl⟩ ⟨Nat.zero_le _, Nat.zero_le _⟩ 0 5 rfl rfl rfl hl (Nat.le_of_ble_eq_true rfl) dX5_nearest_21 rfl (fun H locs Z => ?_)
        refine lv_iload_n hx hb dX5_nearest_24 rfl (lv_at hl 1 rfl) ?_
        refine lv_icmp_ne (tgt := 74) hx hb dX5_nearest_25 (by decide) (fun c6 => ?_) (fun c6 => ?_)
        · rw [if_neg c6] at hF
          refine lv_iinc (v := (x4 + (1 : Int32))) (lv' := [(4, .int (x4 + (1 : Int32))), (0, .ref (am 0)), (1, .int x1), (2, .int x2), (3, .int x3)]) hx hb dX5_nearest_74 hl (k := 4) rfl (by rfl) (by decide) rfl (fun ls hl => ?_)
          refine lv_goto (tgt := 6) hx hb dX5_nearest_77 (by decide) ?_
          exact ih x3 ((x4 + (1 : Int32))) _ _ _ hF Z (lv_sub hl [1, 2, 3, 4, 0] rfl)
        · rw [if_pos c6] at hF
          refine lv_aload_n hx hb dX5_nearest_28 rfl (lv_at hl 0 rfl) ?_
          refine lv_iload hx hb dX5_nearest_29 (lv_at hl 4 rfl) ?_
          refine lv_iconst (v := (3 : Int32)) hx hb dX5_nearest_31 (by decide) ?_
          obtain ⟨v7, h8, hF⟩ := obind hF
          refine kr_i (As := [.int x4, .int (3 : Int32)]) Fc hA Z Lens.all (c_X5_of l D cI cS am ρ x4 (3 : Int32) v7 h8) mL_RX5_73 v_X5_of ⟨rfl, rfl⟩ ⟨Nat.le_of_ble_eq_true rfl, Nat.le_of_ble_eq_true rfl⟩ ⟨Nat.zero_le _, Nat.zero_le _⟩ 0 5 rfl rfl rfl hl (Nat.le_of_ble_eq_true rfl) dX5_nearest_32 rfl (fun H locs Z => ?_)
          refine lv_if_eq (tgt := 41) hx hb dX5_nearest_35 (by decide) (fun c9 => ?_) (fun c9 => ?_)
          · rw [if_pos c9] at hF
            refine lv_iload_n hx hb dX5_nearest_41 rfl (lv_at hl 3 rfl) ?_
            refine lv_if_lt (tgt := 71) hx hb dX5_nearest_42 (by decide) (fun c10 => ?_) (fun c10 => ?_)
            · rw [if_pos c10] at hF
              refine lv_iload hx hb dX5_nearest_71 (lv_at hl 4 rfl) ?_
              refine lv_istore_n (lv' := [(3, .int x4), (0, .ref (am 0)), (1, .int x1), (2, .int x2), (4, .int x4)]) hx hb dX5_nearest_73 rfl hl (by decide) rfl (fun ls hl => ?_)
              refine lv_iinc (v := (x4 + (1 : Int32))) (lv' := [(4, .int (x4 + (1 : Int32))), (3, .int x4), (0, .ref (am 0)), (1, .int x1), (2, .int x2)]) hx hb dX5_nearest_74 hl (k := 4) rfl (by rfl) (by decide) rfl (fun ls hl => ?_)
              refine lv_goto (tgt := 6) hx hb dX5_nearest_77 (by decide) ?_
              exact ih x4 ((x4 + (1 : Int32))) _ _ _ hF Z (lv_sub hl [2, 3, 4, 1, 0] rfl)
            · rw [if_neg c10] at hF
              refine lv_aload_n hx hb dX5_nearest_45 rfl (lv_at hl 0 rfl) ?_
              refine lv_iload hx hb dX5_nearest_46 (lv_at hl 4 rfl) ?_
              refine lv_iconst (v := (4 : Int32)) hx hb dX5_nearest_48 (by decide) ?_
              obtain ⟨v11, h12, hF⟩ := obind hF
              refine kr_i (As := [.int x4, .int (4 : Int32)]) Fc hA Z Lens.all (c_X5_of l D cI cS am ρ x4 (4 : Int32) v11 h12) mL_RX5_73 v_X5_of ⟨rfl, rfl⟩ ⟨Nat.le_of_ble_eq_true rfl, Nat.le_of_ble_eq_true rfl⟩ ⟨Nat.zero_le _, Nat.zero_le _⟩ 0 5 rfl rfl rfl hl (Nat.le_of_ble_eq_true rfl) dX5_nearest_49 rfl (fun H locs Z => ?_)
              refine lv_iload_n hx hb dX5_nearest_52 rfl (lv_at hl 2 rfl) ?_
              refine lv_isub hx hb dX5_nearest_53 ?_
              refine kabs Fc hl mL_RX5_67 (Nat.le_of_ble_eq_true rfl) (Nat.le_of_ble_eq_true rfl) ⟨Nat.zero_le _, Nat.zero_le _⟩ dX5_nearest_54 ?_
              refine lv_aload_n hx hb dX5_nearest_57 rfl (lv_at hl 0 rfl) ?_
              refine lv_iload_n hx hb dX5_nearest_58 rfl (lv_at hl 3 rfl) ?_
              refine lv_iconst (v := (4 : Int32)) hx hb dX5_nearest_59 (by decide) ?_
              obtain ⟨v13, h14, hF⟩ := obind hF
              refine kr_i (As := [.int x3, .int (4 : Int32)]) Fc hA Z Lens.all (c_X5_of l D cI cS am ρ x3 (4 : Int32) v13 h14) mL_RX5_73 v_X5_of ⟨rfl, rfl⟩ ⟨Nat.le_of_ble_eq_true rfl, Nat.le_of_ble_eq_true rfl⟩ ⟨Nat.zero_le _, Nat.zero_le _⟩ 0 5 rfl rfl rfl hl (Nat.le_of_ble_eq_true rfl) dX5_nearest_60 rfl (fun H locs Z => ?_)
              refine lv_iload_n hx hb dX5_nearest_63 rfl (lv_at hl 2 rfl) ?_
              refine lv_isub hx hb dX5_nearest_64 ?_
              refine kabs Fc hl mL_RX5_67 (Nat.le_of_ble_eq_true rfl) (Nat.le_of_ble_eq_true rfl) ⟨Nat.zero_le _, Nat.zero_le _⟩ dX5_nearest_65 ?_
              refine lv_icmp_ge (tgt := 74) hx hb dX5_nearest_68 (by decide) (fun c15 => ?_) (fun c15 => ?_)
              · rw [if_pos c15] at hF
                refine lv_iinc (v := (x4 + (1 : Int32))) (lv' := [(4, .int (x4 + (1 : Int32))), (0, .ref (am 0)), (1, .int x1), (2, .int x2), (3, .int x3)]) hx hb dX5_nearest_74 hl (k := 4) rfl (by rfl) (by decide) rfl (fun ls hl => ?_)
                refine lv_goto (tgt := 6) hx hb dX5_nearest_77 (by decide) ?_
                exact ih x3 ((x4 + (1 : Int32))) _ _ _ hF Z (lv_sub hl [1, 2, 3, 4, 0] rfl)
              · rw [if_neg c15] at hF
                refine lv_iload hx hb dX5_nearest_71 (lv_at hl 4 rfl) ?_
                refine lv_istore_n (lv' := [(3, .int x4), (0, .ref (am 0)), (1, .int x1), (2, .int x2), (4, .int x4)]) hx hb dX5_nearest_73 rfl hl (by decide) rfl (fun ls hl => ?_)
                refine lv_iinc (v := (x4 + (1 : Int32))) (lv' := [(4, .int (x4 + (1 : Int32))), (3, .int x4), (0, .ref (am 0)), (1, .int x1), (2, .int x2)]) hx hb dX5_nearest_74 hl (k := 4) rfl (by rfl) (by decide) rfl (fun ls hl => ?_)
                refine lv_goto (tgt := 6) hx hb dX5_nearest_77 (by decide) ?_
                exact ih x4 ((x4 + (1 : Int32))) _ _ _ hF Z (lv_sub hl [2, 3, 4, 1, 0] rfl)
          · rw [if_neg c9] at hF
            refine lv_goto (tgt := 74) hx hb dX5_nearest_38 (by decide) ?_
            refine lv_iinc (v := (x4 + (1 : Int32))) (lv' := [(4, .int (x4 + (1 : Int32))), (0, .ref (am 0)), (1, .int x1), (2, .int x2), (3, .int x3)]) hx hb dX5_nearest_74 hl (k := 4) rfl (by rfl) (by decide) rfl (fun ls hl => ?_)
            refine lv_goto (tgt := 6) hx hb dX5_nearest_77 (by decide) ?_
            exact ih x3 ((x4 + (1 : Int32))) _ _ _ hF Z (lv_sub hl [1, 2, 3, 4, 0] rfl)
  unfold X5_nearest at hF
  refine lv_bipush (v := (-2 : Int32)) hx hb dX5_nearest_0 (by decide) ?_
  refine lv_istore_n (lv' := [(3, .int (-2 : Int32)), (0, .ref (am 0)), (1, .int p1), (2, .int p2)]) hx hb dX5_nearest_2 rfl hl (by decide) rfl (fun ls hl => ?_)
  refine lv_iconst (v := (0 : Int32)) hx hb dX5_nearest_3 (by decide) ?_
  refine lv_istore (lv' := [(4, .int (0 : Int32)), (3, .int (-2 : Int32)), (0, .ref (am 0)), (1, .int p1), (2, .int p2)]) hx hb dX5_nearest_4 hl (by decide) rfl (fun ls hl => ?_)
  exact L6 p1 p2 FU (-2 : Int32) (0 : Int32) _ _ _ hF Z (lv_sub hl [2, 3, 4, 1, 0] rfl)
def X5_isBarred (ρ : Ms) (p1 : Int32) : Option (Bool) := (rdA (ρ.1.1 0) 681 (((253 : Int32) + ((4 : Int32) * p1)))).bind fun v1 => (rdA (ρ.1.1 0) 681 (9 : Int32)).bind fun v3 => if v1 < v3 then (some false) else some true
def rm_X5_isBarred : Room := { frames := 0, cells := 0, slots := 0, locals := 0 }
theorem v_X5_isBarred : WdV RX5 yX5_isBarred cX5_isBarred 2 (some .boolean) 1 := ⟨mI_X5_isBarred, mS_X5_isBarred, mZ_RX5, mC_X5_isBarred, by decide +kernel⟩
set_option maxHeartbeats 8000000 in
set_option maxRecDepth 100000 in
theorem c_X5_isBarred (l : Launch) (D : va_G) (cI cS : ClassId) (am : Nat → Nat) (ρ : Ms) (p1 : Int32) (F : Bool) (hF : X5_isBarred ρ p1 = some F) : MI l yX5_isBarred cX5_isBarred 2 (some .boolean) rm_X5_isBarred D cI cS [.ref (am 0), .int p1] (mW am cI ρ) (mW am cI) (fun r u' => r = bi F ∧ u' = ρ) := by
  refine MI.mk RX5 rfl .boolean rfl (by decide) (Nat.le_of_ble_eq_true rfl) (fun r u h => by rw [h.1]; exact bi_nar _) ?_
  intro p e s m args below meth c A Q ls Fc hin hA Z kret hl
  obtain ⟨hx, hb, hml, hown, hts, hKN⟩ := id Fc
  replace hl : lv_has ls 2 [(0, .ref (am 0)), (1, .int p1)] := hl
  unfold X5_isBarred at hF
  refine lv_aload_n hx hb dX5_isBarred_0 rfl (lv_at hl 0 rfl) ?_
  refine kget Fc Z inX5 0 rfl rfl 0 (by decide) mF_RX5_11 rfl rfl dX5_isBarred_1 ?_
  refine lv_sipush (v := (253 : Int32)) hx hb dX5_isBarred_4 (by decide) ?_
  refine lv_iconst (v := (4 : Int32)) hx hb dX5_isBarred_7 (by decide) ?_
  refine lv_iload_n hx hb dX5_isBarred_8 rfl (lv_at hl 1 rfl) ?_
  refine lv_imul hx hb dX5_isBarred_9 ?_
  refine lv_iadd hx hb dX5_isBarred_10 ?_
  obtain ⟨v1, h2, hF⟩ := obind hF
  refine kald Fc Z 1 rfl h2 dX5_isBarred_11 ?_
  refine lv_aload_n hx hb dX5_isBarred_12 rfl (lv_at hl 0 rfl) ?_
  refine kget Fc Z inX5 0 rfl rfl 0 (by decide) mF_RX5_11 rfl rfl dX5_isBarred_13 ?_
  refine lv_bipush (v := (9 : Int32)) hx hb dX5_isBarred_16 (by decide) ?_
  obtain ⟨v3, h4, hF⟩ := obind hF
  refine kald Fc Z 1 rfl h4 dX5_isBarred_18 ?_
  refine lv_icmp_lt (tgt := 26) hx hb dX5_isBarred_19 (by decide) (fun c5 => ?_) (fun c5 => ?_)
  · rw [if_pos c5] at hF
    refine lv_iconst (v := (0 : Int32)) hx hb dX5_isBarred_26 (by decide) ?_
    exact kret (0 : Int32) ρ _ _ _ _ ⟨(congrArg bi (Option.some.inj hF)), rfl⟩ Z dX5_isBarred_27
  · rw [if_neg c5] at hF
    refine lv_iconst (v := (1 : Int32)) hx hb dX5_isBarred_22 (by decide) ?_
    refine lv_goto (tgt := 27) hx hb dX5_isBarred_23 (by decide) ?_
    exact kret (1 : Int32) ρ _ _ _ _ ⟨(congrArg bi (Option.some.inj hF)), rfl⟩ Z dX5_isBarred_27
def X5_reasonToHold_L72 (ρ : Ms) (x1 : Int32) (x2 : Int32) : Nat → Int32 → Option (Int32)
  | 0, _ => none
  | k + 1, x4 => (rdA (ρ.1.1 0) 681 (1 : Int32)).bind fun v1 => if v1 ≤ x4 then (some (0 : Int32)) else (X5_of ρ x4 (3 : Int32)).bind fun v4 => if v4 = (1 : Int32) then ((X5_of ρ x4 (4 : Int32)).bind fun v7 => if v7 = x1 then ((X5_of ρ x4 (0 : Int32)).bind fun v10 => if v10 = x2 then (some (4 : Int32)) else X5_reasonToHold_L72 ρ x1 x2 k ((x4 + (1 : Int32)))) else X5_reasonToHold_L72 ρ x1 x2 k ((x4 + (1 : Int32)))) else X5_reasonToHold_L72 ρ x1 x2 k ((x4 + (1 : Int32)))
def X5_reasonToHold_L15 (ρ : Ms) (x1 : Int32) (x2 : Int32) : Nat → Int32 → Int32 → Option (Int32)
  | 0, _, _ => none
  | k + 1, x3, x4 => (rdA (ρ.1.1 0) 681 (3 : Int32)).bind fun v13 => if v13 ≤ x4 then (if x3 < (3 : Int32) then ((X5_holdBy ρ x1 x2).bind fun v17 => if v17 < 0 then (X5_reasonToHold_L72 ρ x1 x2 FU (0 : Int32)) else some (3 : Int32)) else some (2 : Int32)) else (X5_hold ρ x4 (1 : Int32)).bind fun v20 => if v20 = x1 then (X5_reasonToHold_L15 ρ x1 x2 k ((x3 + (1 : Int32))) ((x4 + (1 : Int32)))) else X5_reasonToHold_L15 ρ x1 x2 k ((x3 + (0 : Int32))) ((x4 + (1 : Int32)))
def X5_reasonToHold (ρ : Ms) (p1 p2 : Int32) : Option (Int32) := (X5_isBarred ρ p1).bind fun v23 => if (bi v23) = 0 then (X5_reasonToHold_L15 ρ p1 p2 FU (0 : Int32) (0 : Int32)) else some (1 : Int32)
def rm_X5_reasonToHold : Room := { frames := 2, cells := 0, slots := 0, locals := 45 }
theorem v_X5_reasonToHold : WdV RX5 yX5_reasonToHold cX5_reasonToHold 5 (some .int) 2 := ⟨mI_X5_reasonToHold, mS_X5_reasonToHold, mZ_RX5, mC_X5_reasonToHold, by decide +kernel⟩
set_option maxHeartbeats 8000000 in
set_option maxRecDepth 100000 in
theorem c_X5_reasonToHold (l : Launch) (D : va_G) (cI cS : ClassId) (am : Nat → Nat) (ρ : Ms) (p1 p2 : Int32) (F : Int32) (hF : X5_reasonToHold ρ p1 p2 = some F) : MI l yX5_reasonToHold cX5_reasonToHold 5 (some .int) rm_X5_reasonToHold D cI cS [.ref (am 0), .int p1, .int p2] (mW am cI ρ) (mW am cI) (fun r u' => r = F ∧ u' = ρ) := by
  refine MI.mk RX5 rfl .int rfl (by decide) (Nat.le_of_ble_eq_true rfl) (fun _ _ _ => rfl) ?_
  intro p e s m args below meth c A Q ls Fc hin hA Z kret hl
  obtain ⟨hx, hb, hml, hown, hts, hKN⟩ := id Fc
  replace hl : lv_has ls 5 [(0, .ref (am 0)), (1, .int p1), (2, .int p2)] := hl
  have L72 : ∀ (x1 : Int32) (x2 : Int32) (k : Nat) (x4 : Int32) (H : Heap) (locs : List Loc) (ls : Array Slot), X5_reasonToHold_L72 ρ x1 x2  k x4 = some F → Ix D A s (mW am cI ρ) H locs → lv_has ls 5 [(0, .ref (am 0)), (1, .int x1), (2, .int x2), (4, .int x4)] → W p l e rm_X5_reasonToHold s m args below meth c H locs 0 0 Q (F0 m 72 ls []) := by
    intro x1 x2 k
    induction k with
    | zero => intro x4 H locs ls hF; rw [X5_reasonToHold_L72] at hF; cases hF
    | succ k ih =>
      intro x4 H locs ls hF Z hl
      rw [X5_reasonToHold_L72] at hF
      refine lv_iload hx hb dX5_reasonToHold_72 (lv_at hl 3 rfl) ?_
      refine lv_aload_n hx hb dX5_reasonToHold_74 rfl (lv_at hl 0 rfl) ?_
      refine kget Fc Z inX5 0 rfl rfl 0 (by decide) mF_RX5_11 rfl rfl dX5_reasonToHold_75 ?_
      refine lv_iconst (v := (1 : Int32)) hx hb dX5_reasonToHold_78 (by decide) ?_
      obtain ⟨v1, h2, hF⟩ := obind hF
      refine kald Fc Z 1 rfl h2 dX5_reasonToHold_79 ?_
      refine lv_icmp_ge (tgt := 124) hx hb dX5_reasonToHold_80 (by decide) (fun c3 => ?_) (fun c3 => ?_)
      · rw [if_pos c3] at hF
        refine lv_iconst (v := (0 : Int32)) hx hb dX5_reasonToHold_124 (by decide) ?_
        exact kret (0 : Int32) ρ _ _ _ _ ⟨(Option.some.inj hF), rfl⟩ Z dX5_reasonToHold_125
      · rw [if_neg c3] at hF
        refine lv_aload_n hx hb dX5_reasonToHold_83 rfl (lv_at hl 0 rfl) ?_
        refine lv_iload hx hb dX5_reasonToHold_84 (lv_at hl 3 rfl) ?_
        refine lv_iconst (v := (3 : Int32)) hx hb dX5_reasonToHold_86 (by decide) ?_
        obtain ⟨v4, h5, hF⟩ := obind hF
        refine kr_i (As := [.int x4, .int (3 : Int32)]) Fc hA Z Lens.all (c_X5_of l D cI cS am ρ x4 (3 : Int32) v4 h5) mL_RX5_73 v_X5_of ⟨rfl, rfl⟩ ⟨Nat.le_of_ble_eq_true rfl, Nat.le_of_ble_eq_true rfl⟩ ⟨Nat.zero_le _, Nat.zero_le _⟩ 0 5 rfl rfl rfl hl (Nat.le_of_ble_eq_true rfl) dX5_reasonToHold_87 rfl (fun H locs Z => ?_)
        refine lv_iconst (v := (1 : Int32)) hx hb dX5_reasonToHold_90 (by decide) ?_
        refine lv_icmp_ne (tgt := 118) hx hb dX5_reasonToHold_91 (by decide) (fun c6 => ?_) (fun c6 => ?_)
        · rw [if_neg c6] at hF
          refine lv_iinc (v := (x4 + (1 : Int32))) (lv' := [(4, .int (x4 + (1 : Int32))), (0, .ref (am 0)), (1, .int x1), (2, .int x2)]) hx hb dX5_reasonToHold_118 hl (k := 3) rfl (by rfl) (by decide) rfl (fun ls hl => ?_)
          refine lv_goto (tgt := 72) hx hb dX5_reasonToHold_121 (by decide) ?_
          exact ih ((x4 + (1 : Int32))) _ _ _ hF Z (lv_sub hl [1, 2, 3, 0] rfl)
        · rw [if_pos c6] at hF
          refine lv_aload_n hx hb dX5_reasonToHold_94 rfl (lv_at hl 0 rfl) ?_
          refine lv_iload hx hb dX5_reasonToHold_95 (lv_at hl 3 rfl) ?_
          refine lv_iconst (v := (4 : Int32)) hx hb dX5_reasonToHold_97 (by decide) ?_
          obtain ⟨v7, h8, hF⟩ := obind hF
          refine kr_i (As := [.int x4, .int (4 : Int32)]) Fc hA Z Lens.all (c_X5_of l D cI cS am ρ x4 (4 : Int32) v7 h8) mL_RX5_73 v_X5_of ⟨rfl, rfl⟩ ⟨Nat.le_of_ble_eq_true rfl, Nat.le_of_ble_eq_true rfl⟩ ⟨Nat.zero_le _, Nat.zero_le _⟩ 0 5 rfl rfl rfl hl (Nat.le_of_ble_eq_true rfl) dX5_reasonToHold_98 rfl (fun H locs Z => ?_)
          refine lv_iload_n hx hb dX5_reasonToHold_101 rfl (lv_at hl 1 rfl) ?_
          refine lv_icmp_ne (tgt := 118) hx hb dX5_reasonToHold_102 (by decide) (fun c9 => ?_) (fun c9 => ?_)
          · rw [if_neg c9] at hF
            refine lv_iinc (v := (x4 + (1 : Int32))) (lv' := [(4, .int (x4 + (1 : Int32))), (0, .ref (am 0)), (1, .int x1), (2, .int x2)]) hx hb dX5_reasonToHold_118 hl (k := 3) rfl (by rfl) (by decide) rfl (fun ls hl => ?_)
            refine lv_goto (tgt := 72) hx hb dX5_reasonToHold_121 (by decide) ?_
            exact ih ((x4 + (1 : Int32))) _ _ _ hF Z (lv_sub hl [1, 2, 3, 0] rfl)
          · rw [if_pos c9] at hF
            refine lv_aload_n hx hb dX5_reasonToHold_105 rfl (lv_at hl 0 rfl) ?_
            refine lv_iload hx hb dX5_reasonToHold_106 (lv_at hl 3 rfl) ?_
            refine lv_iconst (v := (0 : Int32)) hx hb dX5_reasonToHold_108 (by decide) ?_
            obtain ⟨v10, h11, hF⟩ := obind hF
            refine kr_i (As := [.int x4, .int (0 : Int32)]) Fc hA Z Lens.all (c_X5_of l D cI cS am ρ x4 (0 : Int32) v10 h11) mL_RX5_73 v_X5_of ⟨rfl, rfl⟩ ⟨Nat.le_of_ble_eq_true rfl, Nat.le_of_ble_eq_true rfl⟩ ⟨Nat.zero_le _, Nat.zero_le _⟩ 0 5 rfl rfl rfl hl (Nat.le_of_ble_eq_true rfl) dX5_reasonToHold_109 rfl (fun H locs Z => ?_)
            refine lv_iload_n hx hb dX5_reasonToHold_112 rfl (lv_at hl 2 rfl) ?_
            refine lv_icmp_ne (tgt := 118) hx hb dX5_reasonToHold_113 (by decide) (fun c12 => ?_) (fun c12 => ?_)
            · rw [if_neg c12] at hF
              refine lv_iinc (v := (x4 + (1 : Int32))) (lv' := [(4, .int (x4 + (1 : Int32))), (0, .ref (am 0)), (1, .int x1), (2, .int x2)]) hx hb dX5_reasonToHold_118 hl (k := 3) rfl (by rfl) (by decide) rfl (fun ls hl => ?_)
              refine lv_goto (tgt := 72) hx hb dX5_reasonToHold_121 (by decide) ?_
              exact ih ((x4 + (1 : Int32))) _ _ _ hF Z (lv_sub hl [1, 2, 3, 0] rfl)
            · rw [if_pos c12] at hF
              refine lv_iconst (v := (4 : Int32)) hx hb dX5_reasonToHold_116 (by decide) ?_
              exact kret (4 : Int32) ρ _ _ _ _ ⟨(Option.some.inj hF), rfl⟩ Z dX5_reasonToHold_117
  have L15 : ∀ (x1 : Int32) (x2 : Int32) (k : Nat) (x3 : Int32) (x4 : Int32) (H : Heap) (locs : List Loc) (ls : Array Slot), X5_reasonToHold_L15 ρ x1 x2  k x3 x4 = some F → Ix D A s (mW am cI ρ) H locs → lv_has ls 5 [(0, .ref (am 0)), (1, .int x1), (2, .int x2), (3, .int x3), (4, .int x4)] → W p l e rm_X5_reasonToHold s m args below meth c H locs 0 0 Q (F0 m 15 ls []) := by
    intro x1 x2 k
    induction k with
    | zero => intro x3 x4 H locs ls hF; rw [X5_reasonToHold_L15] at hF; cases hF
    | succ k ih =>
      intro x3 x4 H locs ls hF Z hl
      rw [X5_reasonToHold_L15] at hF
      refine lv_iload hx hb dX5_reasonToHold_15 (lv_at hl 4 rfl) ?_
      refine lv_aload_n hx hb dX5_reasonToHold_17 rfl (lv_at hl 0 rfl) ?_
      refine kget Fc Z inX5 0 rfl rfl 0 (by decide) mF_RX5_11 rfl rfl dX5_reasonToHold_18 ?_
      refine lv_iconst (v := (3 : Int32)) hx hb dX5_reasonToHold_21 (by decide) ?_
      obtain ⟨v13, h14, hF⟩ := obind hF
      refine kald Fc Z 1 rfl h14 dX5_reasonToHold_22 ?_
      refine lv_icmp_ge (tgt := 51) hx hb dX5_reasonToHold_23 (by decide) (fun c15 => ?_) (fun c15 => ?_)
      · rw [if_pos c15] at hF
        refine lv_iload_n hx hb dX5_reasonToHold_51 rfl (lv_at hl 3 rfl) ?_
        refine lv_iconst (v := (3 : Int32)) hx hb dX5_reasonToHold_52 (by decide) ?_
        refine lv_icmp_lt (tgt := 58) hx hb dX5_reasonToHold_53 (by decide) (fun c16 => ?_) (fun c16 => ?_)
        · rw [if_pos c16] at hF
          refine lv_aload_n hx hb dX5_reasonToHold_58 rfl (lv_at hl 0 rfl) ?_
          refine lv_iload_n hx hb dX5_reasonToHold_59 rfl (lv_at hl 1 rfl) ?_
          refine lv_iload_n hx hb dX5_reasonToHold_60 rfl (lv_at hl 2 rfl) ?_
          obtain ⟨v17, h18, hF⟩ := obind hF
          refine kr_i (As := [.int x1, .int x2]) Fc hA Z Lens.all (c_X5_holdBy l D cI cS am ρ x1 x2 v17 h18) mL_RX5_174 v_X5_holdBy ⟨rfl, rfl⟩ ⟨Nat.le_of_ble_eq_true rfl, Nat.le_of_ble_eq_true rfl⟩ ⟨Nat.zero_le _, Nat.zero_le _⟩ 0 5 rfl rfl rfl hl (Nat.le_of_ble_eq_true rfl) dX5_reasonToHold_61 rfl (fun H locs Z => ?_)
          refine lv_if_lt (tgt := 69) hx hb dX5_reasonToHold_64 (by decide) (fun c19 => ?_) (fun c19 => ?_)
          · rw [if_pos c19] at hF
            refine lv_iconst (v := (0 : Int32)) hx hb dX5_reasonToHold_69 (by decide) ?_
            refine lv_istore (lv' := [(4, .int (0 : Int32)), (0, .ref (am 0)), (1, .int x1), (2, .int x2), (3, .int x3)]) hx hb dX5_reasonToHold_70 hl (by decide) rfl (fun ls hl => ?_)
            exact L72 x1 x2 FU (0 : Int32) _ _ _ hF Z (lv_sub hl [1, 2, 3, 0] rfl)
          · rw [if_neg c19] at hF
            refine lv_iconst (v := (3 : Int32)) hx hb dX5_reasonToHold_67 (by decide) ?_
            exact kret (3 : Int32) ρ _ _ _ _ ⟨(Option.some.inj hF), rfl⟩ Z dX5_reasonToHold_68
        · rw [if_neg c16] at hF
          refine lv_iconst (v := (2 : Int32)) hx hb dX5_reasonToHold_56 (by decide) ?_
          exact kret (2 : Int32) ρ _ _ _ _ ⟨(Option.some.inj hF), rfl⟩ Z dX5_reasonToHold_57
      · rw [if_neg c15] at hF
        refine lv_iload_n hx hb dX5_reasonToHold_26 rfl (lv_at hl 3 rfl) ?_
        refine lv_aload_n hx hb dX5_reasonToHold_27 rfl (lv_at hl 0 rfl) ?_
        refine lv_iload hx hb dX5_reasonToHold_28 (lv_at hl 4 rfl) ?_
        refine lv_iconst (v := (1 : Int32)) hx hb dX5_reasonToHold_30 (by decide) ?_
        obtain ⟨v20, h21, hF⟩ := obind hF
        refine kr_i (As := [.int x4, .int (1 : Int32)]) Fc hA Z Lens.all (c_X5_hold l D cI cS am ρ x4 (1 : Int32) v20 h21) mL_RX5_59 v_X5_hold ⟨rfl, rfl⟩ ⟨Nat.le_of_ble_eq_true rfl, Nat.le_of_ble_eq_true rfl⟩ ⟨Nat.zero_le _, Nat.zero_le _⟩ 0 5 rfl rfl rfl hl (Nat.le_of_ble_eq_true rfl) dX5_reasonToHold_31 rfl (fun H locs Z => ?_)
        refine lv_iload_n hx hb dX5_reasonToHold_34 rfl (lv_at hl 1 rfl) ?_
        refine lv_icmp_ne (tgt := 42) hx hb dX5_reasonToHold_35 (by decide) (fun c22 => ?_) (fun c22 => ?_)
        · rw [if_neg c22] at hF
          refine lv_iconst (v := (0 : Int32)) hx hb dX5_reasonToHold_42 (by decide) ?_
          refine lv_iadd hx hb dX5_reasonToHold_43 ?_
          refine lv_istore_n (lv' := [(3, .int (x3 + (0 : Int32))), (0, .ref (am 0)), (1, .int x1), (2, .int x2), (4, .int x4)]) hx hb dX5_reasonToHold_44 rfl hl (by decide) rfl (fun ls hl => ?_)
          refine lv_iinc (v := (x4 + (1 : Int32))) (lv' := [(4, .int (x4 + (1 : Int32))), (3, .int (x3 + (0 : Int32))), (0, .ref (am 0)), (1, .int x1), (2, .int x2)]) hx hb dX5_reasonToHold_45 hl (k := 4) rfl (by rfl) (by decide) rfl (fun ls hl => ?_)
          refine lv_goto (tgt := 15) hx hb dX5_reasonToHold_48 (by decide) ?_
          exact ih ((x3 + (0 : Int32))) ((x4 + (1 : Int32))) _ _ _ hF Z (lv_sub hl [2, 3, 4, 1, 0] rfl)
        · rw [if_pos c22] at hF
          refine lv_iconst (v := (1 : Int32)) hx hb dX5_reasonToHold_38 (by decide) ?_
          refine lv_goto (tgt := 43) hx hb dX5_reasonToHold_39 (by decide) ?_
          refine lv_iadd hx hb dX5_reasonToHold_43 ?_
          refine lv_istore_n (lv' := [(3, .int (x3 + (1 : Int32))), (0, .ref (am 0)), (1, .int x1), (2, .int x2), (4, .int x4)]) hx hb dX5_reasonToHold_44 rfl hl (by decide) rfl (fun ls hl => ?_)
          refine lv_iinc (v := (x4 + (1 : Int32))) (lv' := [(4, .int (x4 + (1 : Int32))), (3, .int (x3 + (1 : Int32))), (0, .ref (am 0)), (1, .int x1), (2, .int x2)]) hx hb dX5_reasonToHold_45 hl (k := 4) rfl (by rfl) (by decide) rfl (fun ls hl => ?_)
          refine lv_goto (tgt := 15) hx hb dX5_reasonToHold_48 (by decide) ?_
          exact ih ((x3 + (1 : Int32))) ((x4 + (1 : Int32))) _ _ _ hF Z (lv_sub hl [2, 3, 4, 1, 0] rfl)
  unfold X5_reasonToHold at hF
  refine lv_aload_n hx hb dX5_reasonToHold_0 rfl (lv_at hl 0 rfl) ?_
  refine lv_iload_n hx hb dX5_reasonToHold_1 rfl (lv_at hl 1 rfl) ?_
  obtain ⟨v23, h24, hF⟩ := obind hF
  refine kr_i (As := [.int p1]) Fc hA Z Lens.all (c_X5_isBarred l D cI cS am ρ p1 v23 h24) mL_RX5_141 v_X5_isBarred ⟨rfl, rfl⟩ ⟨Nat.le_of_ble_eq_true rfl, Nat.le_of_ble_eq_true rfl⟩ ⟨Nat.zero_le _, Nat.zero_le _⟩ 0 5 rfl rfl rfl hl (Nat.le_of_ble_eq_true rfl) dX5_reasonToHold_2 rfl (fun H locs Z => ?_)
  refine lv_if_eq (tgt := 10) hx hb dX5_reasonToHold_5 (by decide) (fun c25 => ?_) (fun c25 => ?_)
  · rw [if_pos c25] at hF
    refine lv_iconst (v := (0 : Int32)) hx hb dX5_reasonToHold_10 (by decide) ?_
    refine lv_istore_n (lv' := [(3, .int (0 : Int32)), (0, .ref (am 0)), (1, .int p1), (2, .int p2)]) hx hb dX5_reasonToHold_11 rfl hl (by decide) rfl (fun ls hl => ?_)
    refine lv_iconst (v := (0 : Int32)) hx hb dX5_reasonToHold_12 (by decide) ?_
    refine lv_istore (lv' := [(4, .int (0 : Int32)), (3, .int (0 : Int32)), (0, .ref (am 0)), (1, .int p1), (2, .int p2)]) hx hb dX5_reasonToHold_13 hl (by decide) rfl (fun ls hl => ?_)
    exact L15 p1 p2 FU (0 : Int32) (0 : Int32) _ _ _ hF Z (lv_sub hl [2, 3, 4, 1, 0] rfl)
  · rw [if_neg c25] at hF
    refine lv_iconst (v := (1 : Int32)) hx hb dX5_reasonToHold_8 (by decide) ?_
    exact kret (1 : Int32) ρ _ _ _ _ ⟨(Option.some.inj hF), rfl⟩ Z dX5_reasonToHold_9
def X5_laysHold (ρ : Ms) (p1 p2 p3 : Int32) : Option (Int32 × Ms) := (X5_isPatron ρ p1).bind fun v1 => if (bi v1) = 0 then (some (((-1 : Int32), ρ))) else if (bi (X5_isTitle p2)) = 0 then (some (((-1 : Int32), ρ))) else if (bi (X5_isBranch p3)) = 0 then (some (((-1 : Int32), ρ))) else (X5_reasonToHold ρ p1 p2).bind fun v6 => if v6 ≤ 0 then ((rdA (ρ.1.1 0) 681 (3 : Int32)).bind fun v9 => if v9 = (24 : Int32) then (some (((-3 : Int32), ρ))) else (wrA (ρ.1.1 0) 681 (((285 : Int32) + ((4 : Int32) * v9))) p2).bind fun g12 => bnd (msA ρ 0 g12) fun ρ14 => (wrA (ρ14.1.1 0) 681 ((((285 : Int32) + ((4 : Int32) * v9)) + (1 : Int32))) p1).bind fun g16 => bnd (msA ρ14 0 g16) fun ρ18 => (wrA (ρ18.1.1 0) 681 ((((285 : Int32) + ((4 : Int32) * v9)) + (2 : Int32))) p3).bind fun g20 => bnd (msA ρ18 0 g20) fun ρ22 => (wrA (ρ22.1.1 0) 681 ((((285 : Int32) + ((4 : Int32) * v9)) + (3 : Int32))) (-2 : Int32)).bind fun g24 => bnd (msA ρ22 0 g24) fun ρ26 => (rdA (ρ26.1.1 0) 681 (3 : Int32)).bind fun v28 => (wrA (ρ26.1.1 0) 681 (3 : Int32) ((v28 + (1 : Int32)))).bind fun g30 => bnd (msA ρ26 0 g30) fun ρ32 => (X5_nearest ρ32 p2 p3).bind fun v34 => if v34 < 0 then ((X5_recalls ρ32 p2).bind fun q37 => (X5_waitingFor q37 p2).bind fun v39 => some (v39, q37)) else (X5_of ρ32 v34 (4 : Int32)).bind fun v41 => (X5_assigns ρ32 v34 v41 v9).bind fun q43 => (X5_waitingFor q43 p2).bind fun v45 => some (v45, q43)) else some ((((-100 : Int32) - v6), ρ))
def rm_X5_laysHold : Room := { frames := 3, cells := 0, slots := 0, locals := 71 }
theorem v_X5_laysHold : WdV RX5 yX5_laysHold cX5_laysHold 7 (some .int) 3 := ⟨mI_X5_laysHold, mS_X5_laysHold, mZ_RX5, mC_X5_laysHold, by decide +kernel⟩
set_option maxHeartbeats 8000000 in
set_option maxRecDepth 100000 in
theorem c_X5_laysHold (l : Launch) (D : va_G) (cI cS : ClassId) (am : Nat → Nat) (ρ : Ms) (p1 p2 p3 : Int32) (F : Int32 × Ms) (hF : X5_laysHold ρ p1 p2 p3 = some F) : MI l yX5_laysHold cX5_laysHold 7 (some .int) rm_X5_laysHold D cI cS [.ref (am 0), .int p1, .int p2, .int p3] (mW am cI ρ) (mW am cI) (fun r u => r = F.1 ∧ u = F.2 ∧ True) := by
  refine MI.mk RX5 rfl .int rfl (by decide) (Nat.le_of_ble_eq_true rfl) (fun _ _ _ => rfl) ?_
  intro p e s m args below meth c A Q ls Fc hin hA Z kret hl
  obtain ⟨hx, hb, hml, hown, hts, hKN⟩ := id Fc
  replace hl : lv_has ls 7 [(0, .ref (am 0)), (1, .int p1), (2, .int p2), (3, .int p3)] := hl
  unfold X5_laysHold at hF
  refine lv_aload_n hx hb dX5_laysHold_0 rfl (lv_at hl 0 rfl) ?_
  refine lv_iload_n hx hb dX5_laysHold_1 rfl (lv_at hl 1 rfl) ?_
  obtain ⟨v1, h2, hF⟩ := obind hF
  refine kr_i (As := [.int p1]) Fc hA Z Lens.all (c_X5_isPatron l D cI cS am ρ p1 v1 h2) mL_RX5_147 v_X5_isPatron ⟨rfl, rfl⟩ ⟨Nat.le_of_ble_eq_true rfl, Nat.le_of_ble_eq_true rfl⟩ ⟨Nat.zero_le _, Nat.zero_le _⟩ 0 5 rfl rfl rfl hl (Nat.le_of_ble_eq_true rfl) dX5_laysHold_2 rfl (fun H locs Z => ?_)
  refine lv_if_eq (tgt := 22) hx hb dX5_laysHold_5 (by decide) (fun c3 => ?_) (fun c3 => ?_)
  · rw [if_pos c3] at hF
    refine lv_iconst (v := (-1 : Int32)) hx hb dX5_laysHold_22 (by decide) ?_
    exact kret (-1 : Int32) ρ _ _ _ _ ⟨(pfst (Option.some.inj hF)), psnd (Option.some.inj hF), trivial⟩ Z dX5_laysHold_23
  · rw [if_neg c3] at hF
    refine lv_iload_n hx hb dX5_laysHold_8 rfl (lv_at hl 2 rfl) ?_
    refine ks_i (As := [.int p2]) Fc hA Z (c_X5_isTitle l D cI cS p2 (X5_isTitle p2) rfl) mL_RX5_89 v_X5_isTitle ⟨rfl, rfl⟩ ⟨Nat.le_of_ble_eq_true rfl, Nat.le_of_ble_eq_true rfl⟩ ⟨Nat.zero_le _, Nat.zero_le _⟩ rfl hl (Nat.le_of_ble_eq_true rfl) dX5_laysHold_9 rfl (fun H locs Z => ?_)
    refine lv_if_eq (tgt := 22) hx hb dX5_laysHold_12 (by decide) (fun c4 => ?_) (fun c4 => ?_)
    · rw [if_pos c4] at hF
      refine lv_iconst (v := (-1 : Int32)) hx hb dX5_laysHold_22 (by decide) ?_
      exact kret (-1 : Int32) ρ _ _ _ _ ⟨(pfst (Option.some.inj hF)), psnd (Option.some.inj hF), trivial⟩ Z dX5_laysHold_23
    · rw [if_neg c4] at hF
      refine lv_iload_n hx hb dX5_laysHold_15 rfl (lv_at hl 3 rfl) ?_
      refine ks_i (As := [.int p3]) Fc hA Z (c_X5_isBranch l D cI cS p3 (X5_isBranch p3) rfl) mL_RX5_93 v_X5_isBranch ⟨rfl, rfl⟩ ⟨Nat.le_of_ble_eq_true rfl, Nat.le_of_ble_eq_true rfl⟩ ⟨Nat.zero_le _, Nat.zero_le _⟩ rfl hl (Nat.le_of_ble_eq_true rfl) dX5_laysHold_16 rfl (fun H locs Z => ?_)
      refine lv_if_ne (tgt := 24) hx hb dX5_laysHold_19 (by decide) (fun c5 => ?_) (fun c5 => ?_)
      · rw [if_neg c5] at hF
        refine lv_aload_n hx hb dX5_laysHold_24 rfl (lv_at hl 0 rfl) ?_
        refine lv_iload_n hx hb dX5_laysHold_25 rfl (lv_at hl 1 rfl) ?_
        refine lv_iload_n hx hb dX5_laysHold_26 rfl (lv_at hl 2 rfl) ?_
        obtain ⟨v6, h7, hF⟩ := obind hF
        refine kr_i (As := [.int p1, .int p2]) Fc hA Z Lens.all (c_X5_reasonToHold l D cI cS am ρ p1 p2 v6 h7) mL_RX5_179 v_X5_reasonToHold ⟨rfl, rfl⟩ ⟨Nat.le_of_ble_eq_true rfl, Nat.le_of_ble_eq_true rfl⟩ ⟨Nat.zero_le _, Nat.zero_le _⟩ 0 5 rfl rfl rfl hl (Nat.le_of_ble_eq_true rfl) dX5_laysHold_27 rfl (fun H locs Z => ?_)
        refine lv_istore (lv' := [(4, .int v6), (0, .ref (am 0)), (1, .int p1), (2, .int p2), (3, .int p3)]) hx hb dX5_laysHold_30 hl (by decide) rfl (fun ls hl => ?_)
        refine lv_iload hx hb dX5_laysHold_32 (lv_at hl 0 rfl) ?_
        refine lv_if_le (tgt := 43) hx hb dX5_laysHold_34 (by decide) (fun c8 => ?_) (fun c8 => ?_)
        · rw [if_pos c8] at hF
          refine lv_aload_n hx hb dX5_laysHold_43 rfl (lv_at hl 1 rfl) ?_
          refine kget Fc Z inX5 0 rfl rfl 0 (by decide) mF_RX5_11 rfl rfl dX5_laysHold_44 ?_
          refine lv_iconst (v := (3 : Int32)) hx hb dX5_laysHold_47 (by decide) ?_
          obtain ⟨v9, h10, hF⟩ := obind hF
          refine kald Fc Z 1 rfl h10 dX5_laysHold_48 ?_
          refine lv_istore (lv' := [(5, .int v9), (4, .int v6), (0, .ref (am 0)), (1, .int p1), (2, .int p2), (3, .int p3)]) hx hb dX5_laysHold_49 hl (by decide) rfl (fun ls hl => ?_)
          refine lv_iload hx hb dX5_laysHold_51 (lv_at hl 0 rfl) ?_
          refine lv_bipush (v := (24 : Int32)) hx hb dX5_laysHold_53 (by decide) ?_
          refine lv_icmp_ne (tgt := 61) hx hb dX5_laysHold_55 (by decide) (fun c11 => ?_) (fun c11 => ?_)
          · rw [if_neg c11] at hF
            refine lv_aload_n hx hb dX5_laysHold_61 rfl (lv_at hl 2 rfl) ?_
            refine kget Fc Z inX5 0 rfl rfl 0 (by decide) mF_RX5_11 rfl rfl dX5_laysHold_62 ?_
            refine lv_sipush (v := (285 : Int32)) hx hb dX5_laysHold_65 (by decide) ?_
            refine lv_iconst (v := (4 : Int32)) hx hb dX5_laysHold_68 (by decide) ?_
            refine lv_iload hx hb dX5_laysHold_69 (lv_at hl 0 rfl) ?_
            refine lv_imul hx hb dX5_laysHold_71 ?_
            refine lv_iadd hx hb dX5_laysHold_72 ?_
            refine lv_iload_n hx hb dX5_laysHold_73 rfl (lv_at hl 4 rfl) ?_
            obtain ⟨g12, h13, hF⟩ := obind hF
            obtain ⟨ρ14, e15, hF⟩ := bnd_el hF
            refine kast (w' := mW am cI ρ14) Fc Z 1 rfl h13 (by rw [e15]; rfl) dX5_laysHold_74 (fun H locs Z => ?_)
            refine lv_aload_n hx hb dX5_laysHold_75 rfl (lv_at hl 2 rfl) ?_
            refine kget Fc Z inX5 0 rfl rfl 0 (by decide) mF_RX5_11 rfl rfl dX5_laysHold_76 ?_
            refine lv_sipush (v := (285 : Int32)) hx hb dX5_laysHold_79 (by decide) ?_
            refine lv_iconst (v := (4 : Int32)) hx hb dX5_laysHold_82 (by decide) ?_
            refine lv_iload hx hb dX5_laysHold_83 (lv_at hl 0 rfl) ?_
            refine lv_imul hx hb dX5_laysHold_85 ?_
            refine lv_iadd hx hb dX5_laysHold_86 ?_
            refine lv_iconst (v := (1 : Int32)) hx hb dX5_laysHold_87 (by decide) ?_
            refine lv_iadd hx hb dX5_laysHold_88 ?_
            refine lv_iload_n hx hb dX5_laysHold_89 rfl (lv_at hl 3 rfl) ?_
            obtain ⟨g16, h17, hF⟩ := obind hF
            obtain ⟨ρ18, e19, hF⟩ := bnd_el hF
            refine kast (w' := mW am cI ρ18) Fc Z 1 rfl h17 (by rw [e19]; rfl) dX5_laysHold_90 (fun H locs Z => ?_)
            refine lv_aload_n hx hb dX5_laysHold_91 rfl (lv_at hl 2 rfl) ?_
            refine kget Fc Z inX5 0 rfl rfl 0 (by decide) mF_RX5_11 rfl rfl dX5_laysHold_92 ?_
            refine lv_sipush (v := (285 : Int32)) hx hb dX5_laysHold_95 (by decide) ?_
            refine lv_iconst (v := (4 : Int32)) hx hb dX5_laysHold_98 (by decide) ?_
            refine lv_iload hx hb dX5_laysHold_99 (lv_at hl 0 rfl) ?_
            refine lv_imul hx hb dX5_laysHold_101 ?_
            refine lv_iadd hx hb dX5_laysHold_102 ?_
            refine lv_iconst (v := (2 : Int32)) hx hb dX5_laysHold_103 (by decide) ?_
            refine lv_iadd hx hb dX5_laysHold_104 ?_
            refine lv_iload_n hx hb dX5_laysHold_105 rfl (lv_at hl 5 rfl) ?_
            obtain ⟨g20, h21, hF⟩ := obind hF
            obtain ⟨ρ22, e23, hF⟩ := bnd_el hF
            refine kast (w' := mW am cI ρ22) Fc Z 1 rfl h21 (by rw [e23]; rfl) dX5_laysHold_106 (fun H locs Z => ?_)
            refine lv_aload_n hx hb dX5_laysHold_107 rfl (lv_at hl 2 rfl) ?_
            refine kget Fc Z inX5 0 rfl rfl 0 (by decide) mF_RX5_11 rfl rfl dX5_laysHold_108 ?_
            refine lv_sipush (v := (285 : Int32)) hx hb dX5_laysHold_111 (by decide) ?_
            refine lv_iconst (v := (4 : Int32)) hx hb dX5_laysHold_114 (by decide) ?_
            refine lv_iload hx hb dX5_laysHold_115 (lv_at hl 0 rfl) ?_
            refine lv_imul hx hb dX5_laysHold_117 ?_
            refine lv_iadd hx hb dX5_laysHold_118 ?_
            refine lv_iconst (v := (3 : Int32)) hx hb dX5_laysHold_119 (by decide) ?_
            refine lv_iadd hx hb dX5_laysHold_120 ?_
            refine lv_bipush (v := (-2 : Int32)) hx hb dX5_laysHold_121 (by decide) ?_
            obtain ⟨g24, h25, hF⟩ := obind hF
            obtain ⟨ρ26, e27, hF⟩ := bnd_el hF
            refine kast (w' := mW am cI ρ26) Fc Z 1 rfl h25 (by rw [e27]; rfl) dX5_laysHold_123 (fun H locs Z => ?_)
            refine lv_aload_n hx hb dX5_laysHold_124 rfl (lv_at hl 2 rfl) ?_
            refine kget Fc Z inX5 0 rfl rfl 0 (by decide) mF_RX5_11 rfl rfl dX5_laysHold_125 ?_
            refine lv_iconst (v := (3 : Int32)) hx hb dX5_laysHold_128 (by decide) ?_
            refine lv_dup2_11 hx hb dX5_laysHold_129 rfl rfl ?_
            obtain ⟨v28, h29, hF⟩ := obind hF
            refine kald Fc Z 1 rfl h29 dX5_laysHold_130 ?_
            refine lv_iconst (v := (1 : Int32)) hx hb dX5_laysHold_131 (by decide) ?_
            refine lv_iadd hx hb dX5_laysHold_132 ?_
            obtain ⟨g30, h31, hF⟩ := obind hF
            obtain ⟨ρ32, e33, hF⟩ := bnd_el hF
            refine kast (w' := mW am cI ρ32) Fc Z 1 rfl h31 (by rw [e33]; rfl) dX5_laysHold_133 (fun H locs Z => ?_)
            refine lv_aload_n hx hb dX5_laysHold_134 rfl (lv_at hl 2 rfl) ?_
            refine lv_iload_n hx hb dX5_laysHold_135 rfl (lv_at hl 4 rfl) ?_
            refine lv_iload_n hx hb dX5_laysHold_136 rfl (lv_at hl 5 rfl) ?_
            obtain ⟨v34, h35, hF⟩ := obind hF
            refine kr_i (As := [.int p2, .int p3]) Fc hA Z Lens.all (c_X5_nearest l D cI cS am ρ32 p2 p3 v34 h35) mL_RX5_182 v_X5_nearest ⟨rfl, rfl⟩ ⟨Nat.le_of_ble_eq_true rfl, Nat.le_of_ble_eq_true rfl⟩ ⟨Nat.zero_le _, Nat.zero_le _⟩ 0 5 rfl rfl rfl hl (Nat.le_of_ble_eq_true rfl) dX5_laysHold_137 rfl (fun H locs Z => ?_)
            refine lv_istore (lv' := [(6, .int v34), (5, .int v9), (4, .int v6), (0, .ref (am 0)), (1, .int p1), (2, .int p2), (3, .int p3)]) hx hb dX5_laysHold_140 hl (by decide) rfl (fun ls hl => ?_)
            refine lv_iload hx hb dX5_laysHold_142 (lv_at hl 0 rfl) ?_
            refine lv_if_lt (tgt := 165) hx hb dX5_laysHold_144 (by decide) (fun c36 => ?_) (fun c36 => ?_)
            · rw [if_pos c36] at hF
              refine lv_aload_n hx hb dX5_laysHold_165 rfl (lv_at hl 3 rfl) ?_
              refine lv_iload_n hx hb dX5_laysHold_166 rfl (lv_at hl 5 rfl) ?_
              obtain ⟨q37, h38, hF⟩ := obind hF
              refine kv_i (As := [.int p2]) (ok := (fun _ => True)) Fc hA Z Lens.all (c_X5_recalls l D cI cS am ρ32 p2 q37 h38) mL_RX5_185 v_X5_recalls ⟨rfl, rfl⟩ ⟨Nat.le_of_ble_eq_true rfl, Nat.le_of_ble_eq_true rfl⟩ ⟨Nat.zero_le _, Nat.zero_le _⟩ 0 5 rfl rfl rfl hl (Nat.le_of_ble_eq_true rfl) dX5_laysHold_167 rfl (fun H locs ok1 Z => ?_)
              refine lv_aload_n hx hb dX5_laysHold_170 rfl (lv_at hl 3 rfl) ?_
              refine lv_iload_n hx hb dX5_laysHold_171 rfl (lv_at hl 5 rfl) ?_
              obtain ⟨v39, h40, hF⟩ := obind hF
              refine kr_i (As := [.int p2]) Fc hA Z Lens.all (c_X5_waitingFor l D cI cS am q37 p2 v39 h40) mL_RX5_159 v_X5_waitingFor ⟨rfl, rfl⟩ ⟨Nat.le_of_ble_eq_true rfl, Nat.le_of_ble_eq_true rfl⟩ ⟨Nat.zero_le _, Nat.zero_le _⟩ 0 5 rfl rfl rfl hl (Nat.le_of_ble_eq_true rfl) dX5_laysHold_172 rfl (fun H locs Z => ?_)
              exact kret v39 q37 _ _ _ _ ⟨(pfst (Option.some.inj hF)), psnd (Option.some.inj hF), trivial⟩ Z dX5_laysHold_175
            · rw [if_neg c36] at hF
              refine lv_aload_n hx hb dX5_laysHold_147 rfl (lv_at hl 3 rfl) ?_
              refine lv_iload hx hb dX5_laysHold_148 (lv_at hl 0 rfl) ?_
              refine lv_aload_n hx hb dX5_laysHold_150 rfl (lv_at hl 3 rfl) ?_
              refine lv_iload hx hb dX5_laysHold_151 (lv_at hl 0 rfl) ?_
              refine lv_iconst (v := (4 : Int32)) hx hb dX5_laysHold_153 (by decide) ?_
              obtain ⟨v41, h42, hF⟩ := obind hF
              refine kr_i (As := [.int v34, .int (4 : Int32)]) Fc hA Z Lens.all (c_X5_of l D cI cS am ρ32 v34 (4 : Int32) v41 h42) mL_RX5_73 v_X5_of ⟨rfl, rfl⟩ ⟨Nat.le_of_ble_eq_true rfl, Nat.le_of_ble_eq_true rfl⟩ ⟨Nat.zero_le _, Nat.zero_le _⟩ 0 5 rfl rfl rfl hl (Nat.le_of_ble_eq_true rfl) dX5_laysHold_154 rfl (fun H locs Z => ?_)
              refine lv_iload hx hb dX5_laysHold_157 (lv_at hl 1 rfl) ?_
              obtain ⟨q43, h44, hF⟩ := obind hF
              refine kv_i (As := [.int v34, .int v41, .int v9]) (ok := (fun _ => True)) Fc hA Z Lens.all (c_X5_assigns l D cI cS am ρ32 v34 v41 v9 q43 h44) mL_RX5_79 v_X5_assigns ⟨rfl, rfl⟩ ⟨Nat.le_of_ble_eq_true rfl, Nat.le_of_ble_eq_true rfl⟩ ⟨Nat.zero_le _, Nat.zero_le _⟩ 0 5 rfl rfl rfl hl (Nat.le_of_ble_eq_true rfl) dX5_laysHold_159 rfl (fun H locs ok1 Z => ?_)
              refine lv_goto (tgt := 170) hx hb dX5_laysHold_162 (by decide) ?_
              refine lv_aload_n hx hb dX5_laysHold_170 rfl (lv_at hl 3 rfl) ?_
              refine lv_iload_n hx hb dX5_laysHold_171 rfl (lv_at hl 5 rfl) ?_
              obtain ⟨v45, h46, hF⟩ := obind hF
              refine kr_i (As := [.int p2]) Fc hA Z Lens.all (c_X5_waitingFor l D cI cS am q43 p2 v45 h46) mL_RX5_159 v_X5_waitingFor ⟨rfl, rfl⟩ ⟨Nat.le_of_ble_eq_true rfl, Nat.le_of_ble_eq_true rfl⟩ ⟨Nat.zero_le _, Nat.zero_le _⟩ 0 5 rfl rfl rfl hl (Nat.le_of_ble_eq_true rfl) dX5_laysHold_172 rfl (fun H locs Z => ?_)
              exact kret v45 q43 _ _ _ _ ⟨(pfst (Option.some.inj hF)), psnd (Option.some.inj hF), trivial⟩ Z dX5_laysHold_175
          · rw [if_pos c11] at hF
            refine lv_bipush (v := (-3 : Int32)) hx hb dX5_laysHold_58 (by decide) ?_
            exact kret (-3 : Int32) ρ _ _ _ _ ⟨(pfst (Option.some.inj hF)), psnd (Option.some.inj hF), trivial⟩ Z dX5_laysHold_60
        · rw [if_neg c8] at hF
          refine lv_bipush (v := (-100 : Int32)) hx hb dX5_laysHold_37 (by decide) ?_
          refine lv_iload hx hb dX5_laysHold_39 (lv_at hl 0 rfl) ?_
          refine lv_isub hx hb dX5_laysHold_41 ?_
          exact kret (((-100 : Int32) - v6)) ρ _ _ _ _ ⟨(pfst (Option.some.inj hF)), psnd (Option.some.inj hF), trivial⟩ Z dX5_laysHold_42
      · rw [if_pos c5] at hF
        refine lv_iconst (v := (-1 : Int32)) hx hb dX5_laysHold_22 (by decide) ?_
        exact kret (-1 : Int32) ρ _ _ _ _ ⟨(pfst (Option.some.inj hF)), psnd (Option.some.inj hF), trivial⟩ Z dX5_laysHold_23
def X5_loans_L4 (ρ : Ms) (x1 : Int32) : Nat → Int32 → Int32 → Option (Int32)
  | 0, _, _ => none
  | k + 1, x2, x3 => (rdA (ρ.1.1 0) 681 (1 : Int32)).bind fun v1 => if v1 ≤ x3 then (some x2) else (X5_of ρ x3 (3 : Int32)).bind fun v4 => if v4 = (1 : Int32) then ((X5_of ρ x3 (4 : Int32)).bind fun v7 => if v7 = x1 then (X5_loans_L4 ρ x1 k ((x2 + (1 : Int32))) ((x3 + (1 : Int32)))) else X5_loans_L4 ρ x1 k ((x2 + (0 : Int32))) ((x3 + (1 : Int32)))) else X5_loans_L4 ρ x1 k ((x2 + (0 : Int32))) ((x3 + (1 : Int32)))
def X5_loans (ρ : Ms) (p1 : Int32) : Option (Int32) := X5_loans_L4 ρ p1 FU (0 : Int32) (0 : Int32)
def rm_X5_loans : Room := { frames := 1, cells := 0, slots := 0, locals := 22 }
theorem v_X5_loans : WdV RX5 yX5_loans cX5_loans 4 (some .int) 1 := ⟨mI_X5_loans, mS_X5_loans, mZ_RX5, mC_X5_loans, by decide +kernel⟩
set_option maxHeartbeats 8000000 in
set_option maxRecDepth 100000 in
theorem c_X5_loans (l : Launch) (D : va_G) (cI cS : ClassId) (am : Nat → Nat) (ρ : Ms) (p1 : Int32) (F : Int32) (hF : X5_loans ρ p1 = some F) : MI l yX5_loans cX5_loans 4 (some .int) rm_X5_loans D cI cS [.ref (am 0), .int p1] (mW am cI ρ) (mW am cI) (fun r u' => r = F ∧ u' = ρ) := by
  refine MI.mk RX5 rfl .int rfl (by decide) (Nat.le_of_ble_eq_true rfl) (fun _ _ _ => rfl) ?_
  intro p e s m args below meth c A Q ls Fc hin hA Z kret hl
  obtain ⟨hx, hb, hml, hown, hts, hKN⟩ := id Fc
  replace hl : lv_has ls 4 [(0, .ref (am 0)), (1, .int p1)] := hl
  have L4 : ∀ (x1 : Int32) (k : Nat) (x2 : Int32) (x3 : Int32) (H : Heap) (locs : List Loc) (ls : Array Slot), X5_loans_L4 ρ x1  k x2 x3 = some F → Ix D A s (mW am cI ρ) H locs → lv_has ls 4 [(0, .ref (am 0)), (1, .int x1), (2, .int x2), (3, .int x3)] → W p l e rm_X5_loans s m args below meth c H locs 0 0 Q (F0 m 4 ls []) := by
    intro x1 k
    induction k with
    | zero => intro x2 x3 H locs ls hF; rw [X5_loans_L4] at hF; cases hF
    | succ k ih =>
      intro x2 x3 H locs ls hF Z hl
      rw [X5_loans_L4] at hF
      refine lv_iload_n hx hb dX5_loans_4 rfl (lv_at hl 3 rfl) ?_
      refine lv_aload_n hx hb dX5_loans_5 rfl (lv_at hl 0 rfl) ?_
      refine kget Fc Z inX5 0 rfl rfl 0 (by decide) mF_RX5_11 rfl rfl dX5_loans_6 ?_
      refine lv_iconst (v := (1 : Int32)) hx hb dX5_loans_9 (by decide) ?_
      obtain ⟨v1, h2, hF⟩ := obind hF
      refine kald Fc Z 1 rfl h2 dX5_loans_10 ?_
      refine lv_icmp_ge (tgt := 48) hx hb dX5_loans_11 (by decide) (fun c3 => ?_) (fun c3 => ?_)
      · rw [if_pos c3] at hF
        refine lv_iload_n hx hb dX5_loans_48 rfl (lv_at hl 2 rfl) ?_
        exact kret x2 ρ _ _ _ _ ⟨(Option.some.inj hF), rfl⟩ Z dX5_loans_49
      · rw [if_neg c3] at hF
        refine lv_iload_n hx hb dX5_loans_14 rfl (lv_at hl 2 rfl) ?_
        refine lv_aload_n hx hb dX5_loans_15 rfl (lv_at hl 0 rfl) ?_
        refine lv_iload_n hx hb dX5_loans_16 rfl (lv_at hl 3 rfl) ?_
        refine lv_iconst (v := (3 : Int32)) hx hb dX5_loans_17 (by decide) ?_
        obtain ⟨v4, h5, hF⟩ := obind hF
        refine kr_i (As := [.int x3, .int (3 : Int32)]) Fc hA Z Lens.all (c_X5_of l D cI cS am ρ x3 (3 : Int32) v4 h5) mL_RX5_73 v_X5_of ⟨rfl, rfl⟩ ⟨Nat.le_of_ble_eq_true rfl, Nat.le_of_ble_eq_true rfl⟩ ⟨Nat.zero_le _, Nat.zero_le _⟩ 0 5 rfl rfl rfl hl (Nat.le_of_ble_eq_true rfl) dX5_loans_18 rfl (fun H locs Z => ?_)
        refine lv_iconst (v := (1 : Int32)) hx hb dX5_loans_21 (by decide) ?_
        refine lv_icmp_ne (tgt := 39) hx hb dX5_loans_22 (by decide) (fun c6 => ?_) (fun c6 => ?_)
        · rw [if_neg c6] at hF
          refine lv_iconst (v := (0 : Int32)) hx hb dX5_loans_39 (by decide) ?_
          refine lv_iadd hx hb dX5_loans_40 ?_
          refine lv_istore_n (lv' := [(2, .int (x2 + (0 : Int32))), (0, .ref (am 0)), (1, .int x1), (3, .int x3)]) hx hb dX5_loans_41 rfl hl (by decide) rfl (fun ls hl => ?_)
          refine lv_iinc (v := (x3 + (1 : Int32))) (lv' := [(3, .int (x3 + (1 : Int32))), (2, .int (x2 + (0 : Int32))), (0, .ref (am 0)), (1, .int x1)]) hx hb dX5_loans_42 hl (k := 3) rfl (by rfl) (by decide) rfl (fun ls hl => ?_)
          refine lv_goto (tgt := 4) hx hb dX5_loans_45 (by decide) ?_
          exact ih ((x2 + (0 : Int32))) ((x3 + (1 : Int32))) _ _ _ hF Z (lv_sub hl [2, 3, 1, 0] rfl)
        · rw [if_pos c6] at hF
          refine lv_aload_n hx hb dX5_loans_25 rfl (lv_at hl 0 rfl) ?_
          refine lv_iload_n hx hb dX5_loans_26 rfl (lv_at hl 3 rfl) ?_
          refine lv_iconst (v := (4 : Int32)) hx hb dX5_loans_27 (by decide) ?_
          obtain ⟨v7, h8, hF⟩ := obind hF
          refine kr_i (As := [.int x3, .int (4 : Int32)]) Fc hA Z Lens.all (c_X5_of l D cI cS am ρ x3 (4 : Int32) v7 h8) mL_RX5_73 v_X5_of ⟨rfl, rfl⟩ ⟨Nat.le_of_ble_eq_true rfl, Nat.le_of_ble_eq_true rfl⟩ ⟨Nat.zero_le _, Nat.zero_le _⟩ 0 5 rfl rfl rfl hl (Nat.le_of_ble_eq_true rfl) dX5_loans_28 rfl (fun H locs Z => ?_)
          refine lv_iload_n hx hb dX5_loans_31 rfl (lv_at hl 1 rfl) ?_
          refine lv_icmp_ne (tgt := 39) hx hb dX5_loans_32 (by decide) (fun c9 => ?_) (fun c9 => ?_)
          · rw [if_neg c9] at hF
            refine lv_iconst (v := (0 : Int32)) hx hb dX5_loans_39 (by decide) ?_
            refine lv_iadd hx hb dX5_loans_40 ?_
            refine lv_istore_n (lv' := [(2, .int (x2 + (0 : Int32))), (0, .ref (am 0)), (1, .int x1), (3, .int x3)]) hx hb dX5_loans_41 rfl hl (by decide) rfl (fun ls hl => ?_)
            refine lv_iinc (v := (x3 + (1 : Int32))) (lv' := [(3, .int (x3 + (1 : Int32))), (2, .int (x2 + (0 : Int32))), (0, .ref (am 0)), (1, .int x1)]) hx hb dX5_loans_42 hl (k := 3) rfl (by rfl) (by decide) rfl (fun ls hl => ?_)
            refine lv_goto (tgt := 4) hx hb dX5_loans_45 (by decide) ?_
            exact ih ((x2 + (0 : Int32))) ((x3 + (1 : Int32))) _ _ _ hF Z (lv_sub hl [2, 3, 1, 0] rfl)
          · rw [if_pos c9] at hF
            refine lv_iconst (v := (1 : Int32)) hx hb dX5_loans_35 (by decide) ?_
            refine lv_goto (tgt := 40) hx hb dX5_loans_36 (by decide) ?_
            refine lv_iadd hx hb dX5_loans_40 ?_
            refine lv_istore_n (lv' := [(2, .int (x2 + (1 : Int32))), (0, .ref (am 0)), (1, .int x1), (3, .int x3)]) hx hb dX5_loans_41 rfl hl (by decide) rfl (fun ls hl => ?_)
            refine lv_iinc (v := (x3 + (1 : Int32))) (lv' := [(3, .int (x3 + (1 : Int32))), (2, .int (x2 + (1 : Int32))), (0, .ref (am 0)), (1, .int x1)]) hx hb dX5_loans_42 hl (k := 3) rfl (by rfl) (by decide) rfl (fun ls hl => ?_)
            refine lv_goto (tgt := 4) hx hb dX5_loans_45 (by decide) ?_
            exact ih ((x2 + (1 : Int32))) ((x3 + (1 : Int32))) _ _ _ hF Z (lv_sub hl [2, 3, 1, 0] rfl)
  unfold X5_loans at hF
  refine lv_iconst (v := (0 : Int32)) hx hb dX5_loans_0 (by decide) ?_
  refine lv_istore_n (lv' := [(2, .int (0 : Int32)), (0, .ref (am 0)), (1, .int p1)]) hx hb dX5_loans_1 rfl hl (by decide) rfl (fun ls hl => ?_)
  refine lv_iconst (v := (0 : Int32)) hx hb dX5_loans_2 (by decide) ?_
  refine lv_istore_n (lv' := [(3, .int (0 : Int32)), (2, .int (0 : Int32)), (0, .ref (am 0)), (1, .int p1)]) hx hb dX5_loans_3 rfl hl (by decide) rfl (fun ls hl => ?_)
  exact L4 p1 FU (0 : Int32) (0 : Int32) _ _ _ hF Z (lv_sub hl [2, 3, 1, 0] rfl)
def X5_reasonToLend (ρ : Ms) (p1 p2 : Int32) : Option (Int32) := (X5_isBarred ρ p1).bind fun v1 => if (bi v1) = 0 then ((X5_loans ρ p1).bind fun v4 => (rdA (ρ.1.1 0) 681 (6 : Int32)).bind fun v6 => if v4 < v6 then ((X5_of ρ p2 (3 : Int32)).bind fun v9 => if v9 = (3 : Int32) then ((X5_holdOf ρ p2).bind fun v16 => (X5_hold ρ v16 (1 : Int32)).bind fun v18 => if v18 = p1 then ((X5_of ρ p2 (3 : Int32)).bind fun v25 => if v25 = 0 then (some (0 : Int32)) else some (0 : Int32)) else (X5_of ρ p2 (3 : Int32)).bind fun v21 => if v21 = 0 then (some (0 : Int32)) else some (3 : Int32)) else (X5_of ρ p2 (3 : Int32)).bind fun v12 => if v12 = 0 then (some (0 : Int32)) else some (3 : Int32)) else some (2 : Int32)) else some (1 : Int32)
def rm_X5_reasonToLend : Room := { frames := 2, cells := 0, slots := 0, locals := 45 }
theorem v_X5_reasonToLend : WdV RX5 yX5_reasonToLend cX5_reasonToLend 4 (some .int) 2 := ⟨mI_X5_reasonToLend, mS_X5_reasonToLend, mZ_RX5, mC_X5_reasonToLend, by decide +kernel⟩
set_option maxHeartbeats 8000000 in
set_option maxRecDepth 100000 in
theorem c_X5_reasonToLend (l : Launch) (D : va_G) (cI cS : ClassId) (am : Nat → Nat) (ρ : Ms) (p1 p2 : Int32) (F : Int32) (hF : X5_reasonToLend ρ p1 p2 = some F) : MI l yX5_reasonToLend cX5_reasonToLend 4 (some .int) rm_X5_reasonToLend D cI cS [.ref (am 0), .int p1, .int p2] (mW am cI ρ) (mW am cI) (fun r u' => r = F ∧ u' = ρ) := by
  refine MI.mk RX5 rfl .int rfl (by decide) (Nat.le_of_ble_eq_true rfl) (fun _ _ _ => rfl) ?_
  intro p e s m args below meth c A Q ls Fc hin hA Z kret hl
  obtain ⟨hx, hb, hml, hown, hts, hKN⟩ := id Fc
  replace hl : lv_has ls 4 [(0, .ref (am 0)), (1, .int p1), (2, .int p2)] := hl
  unfold X5_reasonToLend at hF
  refine lv_aload_n hx hb dX5_reasonToLend_0 rfl (lv_at hl 0 rfl) ?_
  refine lv_iload_n hx hb dX5_reasonToLend_1 rfl (lv_at hl 1 rfl) ?_
  obtain ⟨v1, h2, hF⟩ := obind hF
  refine kr_i (As := [.int p1]) Fc hA Z Lens.all (c_X5_isBarred l D cI cS am ρ p1 v1 h2) mL_RX5_141 v_X5_isBarred ⟨rfl, rfl⟩ ⟨Nat.le_of_ble_eq_true rfl, Nat.le_of_ble_eq_true rfl⟩ ⟨Nat.zero_le _, Nat.zero_le _⟩ 0 5 rfl rfl rfl hl (Nat.le_of_ble_eq_true rfl) dX5_reasonToLend_2 rfl (fun H locs Z => ?_)
  refine lv_if_eq (tgt := 10) hx hb dX5_reasonToLend_5 (by decide) (fun c3 => ?_) (fun c3 => ?_)
  · rw [if_pos c3] at hF
    refine lv_aload_n hx hb dX5_reasonToLend_10 rfl (lv_at hl 0 rfl) ?_
    refine lv_iload_n hx hb dX5_reasonToLend_11 rfl (lv_at hl 1 rfl) ?_
    obtain ⟨v4, h5, hF⟩ := obind hF
    refine kr_i (As := [.int p1]) Fc hA Z Lens.all (c_X5_loans l D cI cS am ρ p1 v4 h5) mL_RX5_144 v_X5_loans ⟨rfl, rfl⟩ ⟨Nat.le_of_ble_eq_true rfl, Nat.le_of_ble_eq_true rfl⟩ ⟨Nat.zero_le _, Nat.zero_le _⟩ 0 5 rfl rfl rfl hl (Nat.le_of_ble_eq_true rfl) dX5_reasonToLend_12 rfl (fun H locs Z => ?_)
    refine lv_aload_n hx hb dX5_reasonToLend_15 rfl (lv_at hl 0 rfl) ?_
    refine kget Fc Z inX5 0 rfl rfl 0 (by decide) mF_RX5_11 rfl rfl dX5_reasonToLend_16 ?_
    refine lv_bipush (v := (6 : Int32)) hx hb dX5_reasonToLend_19 (by decide) ?_
    obtain ⟨v6, h7, hF⟩ := obind hF
    refine kald Fc Z 1 rfl h7 dX5_reasonToLend_21 ?_
    refine lv_icmp_lt (tgt := 27) hx hb dX5_reasonToLend_22 (by decide) (fun c8 => ?_) (fun c8 => ?_)
    · rw [if_pos c8] at hF
      refine lv_aload_n hx hb dX5_reasonToLend_27 rfl (lv_at hl 0 rfl) ?_
      refine lv_iload_n hx hb dX5_reasonToLend_28 rfl (lv_at hl 2 rfl) ?_
      refine lv_iconst (v := (3 : Int32)) hx hb dX5_reasonToLend_29 (by decide) ?_
      obtain ⟨v9, h10, hF⟩ := obind hF
      refine kr_i (As := [.int p2, .int (3 : Int32)]) Fc hA Z Lens.all (c_X5_of l D cI cS am ρ p2 (3 : Int32) v9 h10) mL_RX5_73 v_X5_of ⟨rfl, rfl⟩ ⟨Nat.le_of_ble_eq_true rfl, Nat.le_of_ble_eq_true rfl⟩ ⟨Nat.zero_le _, Nat.zero_le _⟩ 0 5 rfl rfl rfl hl (Nat.le_of_ble_eq_true rfl) dX5_reasonToLend_30 rfl (fun H locs Z => ?_)
      refine lv_iconst (v := (3 : Int32)) hx hb dX5_reasonToLend_33 (by decide) ?_
      refine lv_icmp_ne (tgt := 55) hx hb dX5_reasonToLend_34 (by decide) (fun c11 => ?_) (fun c11 => ?_)
      · rw [if_neg c11] at hF
        refine lv_iconst (v := (0 : Int32)) hx hb dX5_reasonToLend_55 (by decide) ?_
        refine lv_istore_n (lv' := [(3, .int (0 : Int32)), (0, .ref (am 0)), (1, .int p1), (2, .int p2)]) hx hb dX5_reasonToLend_56 rfl hl (by decide) rfl (fun ls hl => ?_)
        refine lv_aload_n hx hb dX5_reasonToLend_57 rfl (lv_at hl 1 rfl) ?_
        refine lv_iload_n hx hb dX5_reasonToLend_58 rfl (lv_at hl 3 rfl) ?_
        refine lv_iconst (v := (3 : Int32)) hx hb dX5_reasonToLend_59 (by decide) ?_
        obtain ⟨v12, h13, hF⟩ := obind hF
        refine kr_i (As := [.int p2, .int (3 : Int32)]) Fc hA Z Lens.all (c_X5_of l D cI cS am ρ p2 (3 : Int32) v12 h13) mL_RX5_73 v_X5_of ⟨rfl, rfl⟩ ⟨Nat.le_of_ble_eq_true rfl, Nat.le_of_ble_eq_true rfl⟩ ⟨Nat.zero_le _, Nat.zero_le _⟩ 0 5 rfl rfl rfl hl (Nat.le_of_ble_eq_true rfl) dX5_reasonToLend_60 rfl (fun H locs Z => ?_)
        refine lv_if_eq (tgt := 70) hx hb dX5_reasonToLend_63 (by decide) (fun c14 => ?_) (fun c14 => ?_)
        · rw [if_pos c14] at hF
          refine lv_iconst (v := (0 : Int32)) hx hb dX5_reasonToLend_70 (by decide) ?_
          refine lv_goto (tgt := 75) hx hb dX5_reasonToLend_71 (by decide) ?_
          exact kret (0 : Int32) ρ _ _ _ _ ⟨(Option.some.inj hF), rfl⟩ Z dX5_reasonToLend_75
        · rw [if_neg c14] at hF
          refine lv_iload_n hx hb dX5_reasonToLend_66 rfl (lv_at hl 0 rfl) ?_
          refine lv_if_eq (tgt := 74) hx hb dX5_reasonToLend_67 (by decide) (fun _ => ?_) (fun c15 => absurd c15 (by decide))
          refine lv_iconst (v := (3 : Int32)) hx hb dX5_reasonToLend_74 (by decide) ?_
          exact kret (3 : Int32) ρ _ _ _ _ ⟨(Option.some.inj hF), rfl⟩ Z dX5_reasonToLend_75
      · rw [if_pos c11] at hF
        refine lv_aload_n hx hb dX5_reasonToLend_37 rfl (lv_at hl 0 rfl) ?_
        refine lv_aload_n hx hb dX5_reasonToLend_38 rfl (lv_at hl 0 rfl) ?_
        refine lv_iload_n hx hb dX5_reasonToLend_39 rfl (lv_at hl 2 rfl) ?_
        obtain ⟨v16, h17, hF⟩ := obind hF
        refine kr_i (As := [.int p2]) Fc hA Z Lens.all (c_X5_holdOf l D cI cS am ρ p2 v16 h17) mL_RX5_116 v_X5_holdOf ⟨rfl, rfl⟩ ⟨Nat.le_of_ble_eq_true rfl, Nat.le_of_ble_eq_true rfl⟩ ⟨Nat.zero_le _, Nat.zero_le _⟩ 0 5 rfl rfl rfl hl (Nat.le_of_ble_eq_true rfl) dX5_reasonToLend_40 rfl (fun H locs Z => ?_)
        refine lv_iconst (v := (1 : Int32)) hx hb dX5_reasonToLend_43 (by decide) ?_
        obtain ⟨v18, h19, hF⟩ := obind hF
        refine kr_i (As := [.int v16, .int (1 : Int32)]) Fc hA Z Lens.all (c_X5_hold l D cI cS am ρ v16 (1 : Int32) v18 h19) mL_RX5_59 v_X5_hold ⟨rfl, rfl⟩ ⟨Nat.le_of_ble_eq_true rfl, Nat.le_of_ble_eq_true rfl⟩ ⟨Nat.zero_le _, Nat.zero_le _⟩ 0 5 rfl rfl rfl hl (Nat.le_of_ble_eq_true rfl) dX5_reasonToLend_44 rfl (fun H locs Z => ?_)
        refine lv_iload_n hx hb dX5_reasonToLend_47 rfl (lv_at hl 1 rfl) ?_
        refine lv_icmp_ne (tgt := 55) hx hb dX5_reasonToLend_48 (by decide) (fun c20 => ?_) (fun c20 => ?_)
        · rw [if_neg c20] at hF
          refine lv_iconst (v := (0 : Int32)) hx hb dX5_reasonToLend_55 (by decide) ?_
          refine lv_istore_n (lv' := [(3, .int (0 : Int32)), (0, .ref (am 0)), (1, .int p1), (2, .int p2)]) hx hb dX5_reasonToLend_56 rfl hl (by decide) rfl (fun ls hl => ?_)
          refine lv_aload_n hx hb dX5_reasonToLend_57 rfl (lv_at hl 1 rfl) ?_
          refine lv_iload_n hx hb dX5_reasonToLend_58 rfl (lv_at hl 3 rfl) ?_
          refine lv_iconst (v := (3 : Int32)) hx hb dX5_reasonToLend_59 (by decide) ?_
          obtain ⟨v21, h22, hF⟩ := obind hF
          refine kr_i (As := [.int p2, .int (3 : Int32)]) Fc hA Z Lens.all (c_X5_of l D cI cS am ρ p2 (3 : Int32) v21 h22) mL_RX5_73 v_X5_of ⟨rfl, rfl⟩ ⟨Nat.le_of_ble_eq_true rfl, Nat.le_of_ble_eq_true rfl⟩ ⟨Nat.zero_le _, Nat.zero_le _⟩ 0 5 rfl rfl rfl hl (Nat.le_of_ble_eq_true rfl) dX5_reasonToLend_60 rfl (fun H locs Z => ?_)
          refine lv_if_eq (tgt := 70) hx hb dX5_reasonToLend_63 (by decide) (fun c23 => ?_) (fun c23 => ?_)
          · rw [if_pos c23] at hF
            refine lv_iconst (v := (0 : Int32)) hx hb dX5_reasonToLend_70 (by decide) ?_
            refine lv_goto (tgt := 75) hx hb dX5_reasonToLend_71 (by decide) ?_
            exact kret (0 : Int32) ρ _ _ _ _ ⟨(Option.some.inj hF), rfl⟩ Z dX5_reasonToLend_75
          · rw [if_neg c23] at hF
            refine lv_iload_n hx hb dX5_reasonToLend_66 rfl (lv_at hl 0 rfl) ?_
            refine lv_if_eq (tgt := 74) hx hb dX5_reasonToLend_67 (by decide) (fun _ => ?_) (fun c24 => absurd c24 (by decide))
            refine lv_iconst (v := (3 : Int32)) hx hb dX5_reasonToLend_74 (by decide) ?_
            exact kret (3 : Int32) ρ _ _ _ _ ⟨(Option.some.inj hF), rfl⟩ Z dX5_reasonToLend_75
        · rw [if_pos c20] at hF
          refine lv_iconst (v := (1 : Int32)) hx hb dX5_reasonToLend_51 (by decide) ?_
          refine lv_goto (tgt := 56) hx hb dX5_reasonToLend_52 (by decide) ?_
          refine lv_istore_n (lv' := [(3, .int (1 : Int32)), (0, .ref (am 0)), (1, .int p1), (2, .int p2)]) hx hb dX5_reasonToLend_56 rfl hl (by decide) rfl (fun ls hl => ?_)
          refine lv_aload_n hx hb dX5_reasonToLend_57 rfl (lv_at hl 1 rfl) ?_
          refine lv_iload_n hx hb dX5_reasonToLend_58 rfl (lv_at hl 3 rfl) ?_
          refine lv_iconst (v := (3 : Int32)) hx hb dX5_reasonToLend_59 (by decide) ?_
          obtain ⟨v25, h26, hF⟩ := obind hF
          refine kr_i (As := [.int p2, .int (3 : Int32)]) Fc hA Z Lens.all (c_X5_of l D cI cS am ρ p2 (3 : Int32) v25 h26) mL_RX5_73 v_X5_of ⟨rfl, rfl⟩ ⟨Nat.le_of_ble_eq_true rfl, Nat.le_of_ble_eq_true rfl⟩ ⟨Nat.zero_le _, Nat.zero_le _⟩ 0 5 rfl rfl rfl hl (Nat.le_of_ble_eq_true rfl) dX5_reasonToLend_60 rfl (fun H locs Z => ?_)
          refine lv_if_eq (tgt := 70) hx hb dX5_reasonToLend_63 (by decide) (fun c27 => ?_) (fun c27 => ?_)
          · rw [if_pos c27] at hF
            refine lv_iconst (v := (0 : Int32)) hx hb dX5_reasonToLend_70 (by decide) ?_
            refine lv_goto (tgt := 75) hx hb dX5_reasonToLend_71 (by decide) ?_
            exact kret (0 : Int32) ρ _ _ _ _ ⟨(Option.some.inj hF), rfl⟩ Z dX5_reasonToLend_75
          · rw [if_neg c27] at hF
            refine lv_iload_n hx hb dX5_reasonToLend_66 rfl (lv_at hl 0 rfl) ?_
            refine lv_if_eq (tgt := 74) hx hb dX5_reasonToLend_67 (by decide) (fun c28 => absurd c28 (by decide)) (fun _ => ?_)
            refine lv_iconst (v := (0 : Int32)) hx hb dX5_reasonToLend_70 (by decide) ?_
            refine lv_goto (tgt := 75) hx hb dX5_reasonToLend_71 (by decide) ?_
            exact kret (0 : Int32) ρ _ _ _ _ ⟨(Option.some.inj hF), rfl⟩ Z dX5_reasonToLend_75
    · rw [if_neg c8] at hF
      refine lv_iconst (v := (2 : Int32)) hx hb dX5_reasonToLend_25 (by decide) ?_
      exact kret (2 : Int32) ρ _ _ _ _ ⟨(Option.some.inj hF), rfl⟩ Z dX5_reasonToLend_26
  · rw [if_neg c3] at hF
    refine lv_iconst (v := (1 : Int32)) hx hb dX5_reasonToLend_8 (by decide) ?_
    exact kret (1 : Int32) ρ _ _ _ _ ⟨(Option.some.inj hF), rfl⟩ Z dX5_reasonToLend_9
def X5_lends (ρ : Ms) (p1 p2 : Int32) : Option (Int32 × Ms) := (X5_isPatron ρ p1).bind fun v1 => if (bi v1) = 0 then (some (((-1 : Int32), ρ))) else (X5_isCopy ρ p2).bind fun v4 => if (bi v4) = 0 then (some (((-1 : Int32), ρ))) else (X5_reasonToLend ρ p1 p2).bind fun v7 => if v7 ≤ 0 then ((X5_of ρ p2 (3 : Int32)).bind fun v10 => if v10 = (3 : Int32) then ((X5_holdOf ρ p2).bind fun v29 => (X5_removes ρ v29).bind fun q31 => (rdA (q31.1.1 0) 681 (0 : Int32)).bind fun v33 => (rdA (q31.1.1 0) 681 (5 : Int32)).bind fun v35 => (X5_turns q31 p2 (1 : Int32) p1 (v33 + v35)).bind fun q37 => (rdA (q37.1.1 0) 681 (0 : Int32)).bind fun v39 => (X5_puts q37 p2 (6 : Int32) v39).bind fun q41 => (X5_puts q41 p2 (7 : Int32) (0 : Int32)).bind fun q43 => (X5_puts q43 p2 (8 : Int32) (0 : Int32)).bind fun q45 => (X5_of q45 p2 (5 : Int32)).bind fun v47 => some (v47, q45)) else (rdA (ρ.1.1 0) 681 (0 : Int32)).bind fun v13 => (rdA (ρ.1.1 0) 681 (5 : Int32)).bind fun v15 => (X5_turns ρ p2 (1 : Int32) p1 (v13 + v15)).bind fun q17 => (rdA (q17.1.1 0) 681 (0 : Int32)).bind fun v19 => (X5_puts q17 p2 (6 : Int32) v19).bind fun q21 => (X5_puts q21 p2 (7 : Int32) (0 : Int32)).bind fun q23 => (X5_puts q23 p2 (8 : Int32) (0 : Int32)).bind fun q25 => (X5_of q25 p2 (5 : Int32)).bind fun v27 => some (v27, q25)) else some ((((-100 : Int32) - v7), ρ))
def rm_X5_lends : Room := { frames := 3, cells := 0, slots := 0, locals := 68 }
theorem v_X5_lends : WdV RX5 yX5_lends cX5_lends 4 (some .int) 2 := ⟨mI_X5_lends, mS_X5_lends, mZ_RX5, mC_X5_lends, by decide +kernel⟩
set_option maxHeartbeats 8000000 in
set_option maxRecDepth 100000 in
theorem c_X5_lends (l : Launch) (D : va_G) (cI cS : ClassId) (am : Nat → Nat) (ρ : Ms) (p1 p2 : Int32) (F : Int32 × Ms) (hF : X5_lends ρ p1 p2 = some F) : MI l yX5_lends cX5_lends 4 (some .int) rm_X5_lends D cI cS [.ref (am 0), .int p1, .int p2] (mW am cI ρ) (mW am cI) (fun r u => r = F.1 ∧ u = F.2 ∧ True) := by
  refine MI.mk RX5 rfl .int rfl (by decide) (Nat.le_of_ble_eq_true rfl) (fun _ _ _ => rfl) ?_
  intro p e s m args below meth c A Q ls Fc hin hA Z kret hl
  obtain ⟨hx, hb, hml, hown, hts, hKN⟩ := id Fc
  replace hl : lv_has ls 4 [(0, .ref (am 0)), (1, .int p1), (2, .int p2)] := hl
  unfold X5_lends at hF
  refine lv_aload_n hx hb dX5_lends_0 rfl (lv_at hl 0 rfl) ?_
  refine lv_iload_n hx hb dX5_lends_1 rfl (lv_at hl 1 rfl) ?_
  obtain ⟨v1, h2, hF⟩ := obind hF
  refine kr_i (As := [.int p1]) Fc hA Z Lens.all (c_X5_isPatron l D cI cS am ρ p1 v1 h2) mL_RX5_147 v_X5_isPatron ⟨rfl, rfl⟩ ⟨Nat.le_of_ble_eq_true rfl, Nat.le_of_ble_eq_true rfl⟩ ⟨Nat.zero_le _, Nat.zero_le _⟩ 0 5 rfl rfl rfl hl (Nat.le_of_ble_eq_true rfl) dX5_lends_2 rfl (fun H locs Z => ?_)
  refine lv_if_eq (tgt := 16) hx hb dX5_lends_5 (by decide) (fun c3 => ?_) (fun c3 => ?_)
  · rw [if_pos c3] at hF
    refine lv_iconst (v := (-1 : Int32)) hx hb dX5_lends_16 (by decide) ?_
    exact kret (-1 : Int32) ρ _ _ _ _ ⟨(pfst (Option.some.inj hF)), psnd (Option.some.inj hF), trivial⟩ Z dX5_lends_17
  · rw [if_neg c3] at hF
    refine lv_aload_n hx hb dX5_lends_8 rfl (lv_at hl 0 rfl) ?_
    refine lv_iload_n hx hb dX5_lends_9 rfl (lv_at hl 2 rfl) ?_
    obtain ⟨v4, h5, hF⟩ := obind hF
    refine kr_i (As := [.int p2]) Fc hA Z Lens.all (c_X5_isCopy l D cI cS am ρ p2 v4 h5) mL_RX5_113 v_X5_isCopy ⟨rfl, rfl⟩ ⟨Nat.le_of_ble_eq_true rfl, Nat.le_of_ble_eq_true rfl⟩ ⟨Nat.zero_le _, Nat.zero_le _⟩ 0 5 rfl rfl rfl hl (Nat.le_of_ble_eq_true rfl) dX5_lends_10 rfl (fun H locs Z => ?_)
    refine lv_if_ne (tgt := 18) hx hb dX5_lends_13 (by decide) (fun c6 => ?_) (fun c6 => ?_)
    · rw [if_neg c6] at hF
      refine lv_aload_n hx hb dX5_lends_18 rfl (lv_at hl 0 rfl) ?_
      refine lv_iload_n hx hb dX5_lends_19 rfl (lv_at hl 1 rfl) ?_
      refine lv_iload_n hx hb dX5_lends_20 rfl (lv_at hl 2 rfl) ?_
      obtain ⟨v7, h8, hF⟩ := obind hF
      refine kr_i (As := [.int p1, .int p2]) Fc hA Z Lens.all (c_X5_reasonToLend l D cI cS am ρ p1 p2 v7 h8) mL_RX5_150 v_X5_reasonToLend ⟨rfl, rfl⟩ ⟨Nat.le_of_ble_eq_true rfl, Nat.le_of_ble_eq_true rfl⟩ ⟨Nat.zero_le _, Nat.zero_le _⟩ 0 5 rfl rfl rfl hl (Nat.le_of_ble_eq_true rfl) dX5_lends_21 rfl (fun H locs Z => ?_)
      refine lv_istore_n (lv' := [(3, .int v7), (0, .ref (am 0)), (1, .int p1), (2, .int p2)]) hx hb dX5_lends_24 rfl hl (by decide) rfl (fun ls hl => ?_)
      refine lv_iload_n hx hb dX5_lends_25 rfl (lv_at hl 0 rfl) ?_
      refine lv_if_le (tgt := 34) hx hb dX5_lends_26 (by decide) (fun c9 => ?_) (fun c9 => ?_)
      · rw [if_pos c9] at hF
        refine lv_aload_n hx hb dX5_lends_34 rfl (lv_at hl 1 rfl) ?_
        refine lv_iload_n hx hb dX5_lends_35 rfl (lv_at hl 3 rfl) ?_
        refine lv_iconst (v := (3 : Int32)) hx hb dX5_lends_36 (by decide) ?_
        obtain ⟨v10, h11, hF⟩ := obind hF
        refine kr_i (As := [.int p2, .int (3 : Int32)]) Fc hA Z Lens.all (c_X5_of l D cI cS am ρ p2 (3 : Int32) v10 h11) mL_RX5_73 v_X5_of ⟨rfl, rfl⟩ ⟨Nat.le_of_ble_eq_true rfl, Nat.le_of_ble_eq_true rfl⟩ ⟨Nat.zero_le _, Nat.zero_le _⟩ 0 5 rfl rfl rfl hl (Nat.le_of_ble_eq_true rfl) dX5_lends_37 rfl (fun H locs Z => ?_)
        refine lv_iconst (v := (3 : Int32)) hx hb dX5_lends_40 (by decide) ?_
        refine lv_icmp_ne (tgt := 53) hx hb dX5_lends_41 (by decide) (fun c12 => ?_) (fun c12 => ?_)
        · rw [if_neg c12] at hF
          refine lv_aload_n hx hb dX5_lends_53 rfl (lv_at hl 1 rfl) ?_
          refine lv_iload_n hx hb dX5_lends_54 rfl (lv_at hl 3 rfl) ?_
          refine lv_iconst (v := (1 : Int32)) hx hb dX5_lends_55 (by decide) ?_
          refine lv_iload_n hx hb dX5_lends_56 rfl (lv_at hl 2 rfl) ?_
          refine lv_aload_n hx hb dX5_lends_57 rfl (lv_at hl 1 rfl) ?_
          refine kget Fc Z inX5 0 rfl rfl 0 (by decide) mF_RX5_11 rfl rfl dX5_lends_58 ?_
          refine lv_iconst (v := (0 : Int32)) hx hb dX5_lends_61 (by decide) ?_
          obtain ⟨v13, h14, hF⟩ := obind hF
          refine kald Fc Z 1 rfl h14 dX5_lends_62 ?_
          refine lv_aload_n hx hb dX5_lends_63 rfl (lv_at hl 1 rfl) ?_
          refine kget Fc Z inX5 0 rfl rfl 0 (by decide) mF_RX5_11 rfl rfl dX5_lends_64 ?_
          refine lv_iconst (v := (5 : Int32)) hx hb dX5_lends_67 (by decide) ?_
          obtain ⟨v15, h16, hF⟩ := obind hF
          refine kald Fc Z 1 rfl h16 dX5_lends_68 ?_
          refine lv_iadd hx hb dX5_lends_69 ?_
          obtain ⟨q17, h18, hF⟩ := obind hF
          refine kv_i (As := [.int p2, .int (1 : Int32), .int p1, .int (v13 + v15)]) (ok := (fun _ => True)) Fc hA Z Lens.all (c_X5_turns l D cI cS am ρ p2 (1 : Int32) p1 (v13 + v15) q17 h18) mL_RX5_63 v_X5_turns ⟨rfl, rfl⟩ ⟨Nat.le_of_ble_eq_true rfl, Nat.le_of_ble_eq_true rfl⟩ ⟨Nat.zero_le _, Nat.zero_le _⟩ 0 5 rfl rfl rfl hl (Nat.le_of_ble_eq_true rfl) dX5_lends_70 rfl (fun H locs ok1 Z => ?_)
          refine lv_aload_n hx hb dX5_lends_73 rfl (lv_at hl 1 rfl) ?_
          refine lv_iload_n hx hb dX5_lends_74 rfl (lv_at hl 3 rfl) ?_
          refine lv_bipush (v := (6 : Int32)) hx hb dX5_lends_75 (by decide) ?_
          refine lv_aload_n hx hb dX5_lends_77 rfl (lv_at hl 1 rfl) ?_
          refine kget Fc Z inX5 0 rfl rfl 0 (by decide) mF_RX5_11 rfl rfl dX5_lends_78 ?_
          refine lv_iconst (v := (0 : Int32)) hx hb dX5_lends_81 (by decide) ?_
          obtain ⟨v19, h20, hF⟩ := obind hF
          refine kald Fc Z 1 rfl h20 dX5_lends_82 ?_
          obtain ⟨q21, h22, hF⟩ := obind hF
          refine kv_i (As := [.int p2, .int (6 : Int32), .int v19]) (ok := (fun _ => True)) Fc hA Z Lens.all (c_X5_puts l D cI cS am q17 p2 (6 : Int32) v19 q21 h22) mL_RX5_55 v_X5_puts ⟨rfl, rfl⟩ ⟨Nat.le_of_ble_eq_true rfl, Nat.le_of_ble_eq_true rfl⟩ ⟨Nat.zero_le _, Nat.zero_le _⟩ 0 5 rfl rfl rfl hl (Nat.le_of_ble_eq_true rfl) dX5_lends_83 rfl (fun H locs ok1 Z => ?_)
          refine lv_aload_n hx hb dX5_lends_86 rfl (lv_at hl 1 rfl) ?_
          refine lv_iload_n hx hb dX5_lends_87 rfl (lv_at hl 3 rfl) ?_
          refine lv_bipush (v := (7 : Int32)) hx hb dX5_lends_88 (by decide) ?_
          refine lv_iconst (v := (0 : Int32)) hx hb dX5_lends_90 (by decide) ?_
          obtain ⟨q23, h24, hF⟩ := obind hF
          refine kv_i (As := [.int p2, .int (7 : Int32), .int (0 : Int32)]) (ok := (fun _ => True)) Fc hA Z Lens.all (c_X5_puts l D cI cS am q21 p2 (7 : Int32) (0 : Int32) q23 h24) mL_RX5_55 v_X5_puts ⟨rfl, rfl⟩ ⟨Nat.le_of_ble_eq_true rfl, Nat.le_of_ble_eq_true rfl⟩ ⟨Nat.zero_le _, Nat.zero_le _⟩ 0 5 rfl rfl rfl hl (Nat.le_of_ble_eq_true rfl) dX5_lends_91 rfl (fun H locs ok1 Z => ?_)
          refine lv_aload_n hx hb dX5_lends_94 rfl (lv_at hl 1 rfl) ?_
          refine lv_iload_n hx hb dX5_lends_95 rfl (lv_at hl 3 rfl) ?_
          refine lv_bipush (v := (8 : Int32)) hx hb dX5_lends_96 (by decide) ?_
          refine lv_iconst (v := (0 : Int32)) hx hb dX5_lends_98 (by decide) ?_
          obtain ⟨q25, h26, hF⟩ := obind hF
          refine kv_i (As := [.int p2, .int (8 : Int32), .int (0 : Int32)]) (ok := (fun _ => True)) Fc hA Z Lens.all (c_X5_puts l D cI cS am q23 p2 (8 : Int32) (0 : Int32) q25 h26) mL_RX5_55 v_X5_puts ⟨rfl, rfl⟩ ⟨Nat.le_of_ble_eq_true rfl, Nat.le_of_ble_eq_true rfl⟩ ⟨Nat.zero_le _, Nat.zero_le _⟩ 0 5 rfl rfl rfl hl (Nat.le_of_ble_eq_true rfl) dX5_lends_99 rfl (fun H locs ok1 Z => ?_)
          refine lv_aload_n hx hb dX5_lends_102 rfl (lv_at hl 1 rfl) ?_
          refine lv_iload_n hx hb dX5_lends_103 rfl (lv_at hl 3 rfl) ?_
          refine lv_iconst (v := (5 : Int32)) hx hb dX5_lends_104 (by decide) ?_
          obtain ⟨v27, h28, hF⟩ := obind hF
          refine kr_i (As := [.int p2, .int (5 : Int32)]) Fc hA Z Lens.all (c_X5_of l D cI cS am q25 p2 (5 : Int32) v27 h28) mL_RX5_73 v_X5_of ⟨rfl, rfl⟩ ⟨Nat.le_of_ble_eq_true rfl, Nat.le_of_ble_eq_true rfl⟩ ⟨Nat.zero_le _, Nat.zero_le _⟩ 0 5 rfl rfl rfl hl (Nat.le_of_ble_eq_true rfl) dX5_lends_105 rfl (fun H locs Z => ?_)
          exact kret v27 q25 _ _ _ _ ⟨(pfst (Option.some.inj hF)), psnd (Option.some.inj hF), trivial⟩ Z dX5_lends_108
        · rw [if_pos c12] at hF
          refine lv_aload_n hx hb dX5_lends_44 rfl (lv_at hl 1 rfl) ?_
          refine lv_aload_n hx hb dX5_lends_45 rfl (lv_at hl 1 rfl) ?_
          refine lv_iload_n hx hb dX5_lends_46 rfl (lv_at hl 3 rfl) ?_
          obtain ⟨v29, h30, hF⟩ := obind hF
          refine kr_i (As := [.int p2]) Fc hA Z Lens.all (c_X5_holdOf l D cI cS am ρ p2 v29 h30) mL_RX5_116 v_X5_holdOf ⟨rfl, rfl⟩ ⟨Nat.le_of_ble_eq_true rfl, Nat.le_of_ble_eq_true rfl⟩ ⟨Nat.zero_le _, Nat.zero_le _⟩ 0 5 rfl rfl rfl hl (Nat.le_of_ble_eq_true rfl) dX5_lends_47 rfl (fun H locs Z => ?_)
          obtain ⟨q31, h32, hF⟩ := obind hF
          refine kv_i (As := [.int v29]) (ok := (fun _ => True)) Fc hA Z Lens.all (c_X5_removes l D cI cS am ρ v29 q31 h32) mL_RX5_119 v_X5_removes ⟨rfl, rfl⟩ ⟨Nat.le_of_ble_eq_true rfl, Nat.le_of_ble_eq_true rfl⟩ ⟨Nat.zero_le _, Nat.zero_le _⟩ 0 5 rfl rfl rfl hl (Nat.le_of_ble_eq_true rfl) dX5_lends_50 rfl (fun H locs ok1 Z => ?_)
          refine lv_aload_n hx hb dX5_lends_53 rfl (lv_at hl 1 rfl) ?_
          refine lv_iload_n hx hb dX5_lends_54 rfl (lv_at hl 3 rfl) ?_
          refine lv_iconst (v := (1 : Int32)) hx hb dX5_lends_55 (by decide) ?_
          refine lv_iload_n hx hb dX5_lends_56 rfl (lv_at hl 2 rfl) ?_
          refine lv_aload_n hx hb dX5_lends_57 rfl (lv_at hl 1 rfl) ?_
          refine kget Fc Z inX5 0 rfl rfl 0 (by decide) mF_RX5_11 rfl rfl dX5_lends_58 ?_
          refine lv_iconst (v := (0 : Int32)) hx hb dX5_lends_61 (by decide) ?_
          obtain ⟨v33, h34, hF⟩ := obind hF
          refine kald Fc Z 1 rfl h34 dX5_lends_62 ?_
          refine lv_aload_n hx hb dX5_lends_63 rfl (lv_at hl 1 rfl) ?_
          refine kget Fc Z inX5 0 rfl rfl 0 (by decide) mF_RX5_11 rfl rfl dX5_lends_64 ?_
          refine lv_iconst (v := (5 : Int32)) hx hb dX5_lends_67 (by decide) ?_
          obtain ⟨v35, h36, hF⟩ := obind hF
          refine kald Fc Z 1 rfl h36 dX5_lends_68 ?_
          refine lv_iadd hx hb dX5_lends_69 ?_
          obtain ⟨q37, h38, hF⟩ := obind hF
          refine kv_i (As := [.int p2, .int (1 : Int32), .int p1, .int (v33 + v35)]) (ok := (fun _ => True)) Fc hA Z Lens.all (c_X5_turns l D cI cS am q31 p2 (1 : Int32) p1 (v33 + v35) q37 h38) mL_RX5_63 v_X5_turns ⟨rfl, rfl⟩ ⟨Nat.le_of_ble_eq_true rfl, Nat.le_of_ble_eq_true rfl⟩ ⟨Nat.zero_le _, Nat.zero_le _⟩ 0 5 rfl rfl rfl hl (Nat.le_of_ble_eq_true rfl) dX5_lends_70 rfl (fun H locs ok1 Z => ?_)
          refine lv_aload_n hx hb dX5_lends_73 rfl (lv_at hl 1 rfl) ?_
          refine lv_iload_n hx hb dX5_lends_74 rfl (lv_at hl 3 rfl) ?_
          refine lv_bipush (v := (6 : Int32)) hx hb dX5_lends_75 (by decide) ?_
          refine lv_aload_n hx hb dX5_lends_77 rfl (lv_at hl 1 rfl) ?_
          refine kget Fc Z inX5 0 rfl rfl 0 (by decide) mF_RX5_11 rfl rfl dX5_lends_78 ?_
          refine lv_iconst (v := (0 : Int32)) hx hb dX5_lends_81 (by decide) ?_
          obtain ⟨v39, h40, hF⟩ := obind hF
          refine kald Fc Z 1 rfl h40 dX5_lends_82 ?_
          obtain ⟨q41, h42, hF⟩ := obind hF
          refine kv_i (As := [.int p2, .int (6 : Int32), .int v39]) (ok := (fun _ => True)) Fc hA Z Lens.all (c_X5_puts l D cI cS am q37 p2 (6 : Int32) v39 q41 h42) mL_RX5_55 v_X5_puts ⟨rfl, rfl⟩ ⟨Nat.le_of_ble_eq_true rfl, Nat.le_of_ble_eq_true rfl⟩ ⟨Nat.zero_le _, Nat.zero_le _⟩ 0 5 rfl rfl rfl hl (Nat.le_of_ble_eq_true rfl) dX5_lends_83 rfl (fun H locs ok1 Z => ?_)
          refine lv_aload_n hx hb dX5_lends_86 rfl (lv_at hl 1 rfl) ?_
          refine lv_iload_n hx hb dX5_lends_87 rfl (lv_at hl 3 rfl) ?_
          refine lv_bipush (v := (7 : Int32)) hx hb dX5_lends_88 (by decide) ?_
          refine lv_iconst (v := (0 : Int32)) hx hb dX5_lends_90 (by decide) ?_
          obtain ⟨q43, h44, hF⟩ := obind hF
          refine kv_i (As := [.int p2, .int (7 : Int32), .int (0 : Int32)]) (ok := (fun _ => True)) Fc hA Z Lens.all (c_X5_puts l D cI cS am q41 p2 (7 : Int32) (0 : Int32) q43 h44) mL_RX5_55 v_X5_puts ⟨rfl, rfl⟩ ⟨Nat.le_of_ble_eq_true rfl, Nat.le_of_ble_eq_true rfl⟩ ⟨Nat.zero_le _, Nat.zero_le _⟩ 0 5 rfl rfl rfl hl (Nat.le_of_ble_eq_true rfl) dX5_lends_91 rfl (fun H locs ok1 Z => ?_)
          refine lv_aload_n hx hb dX5_lends_94 rfl (lv_at hl 1 rfl) ?_
          refine lv_iload_n hx hb dX5_lends_95 rfl (lv_at hl 3 rfl) ?_
          refine lv_bipush (v := (8 : Int32)) hx hb dX5_lends_96 (by decide) ?_
          refine lv_iconst (v := (0 : Int32)) hx hb dX5_lends_98 (by decide) ?_
          obtain ⟨q45, h46, hF⟩ := obind hF
          refine kv_i (As := [.int p2, .int (8 : Int32), .int (0 : Int32)]) (ok := (fun _ => True)) Fc hA Z Lens.all (c_X5_puts l D cI cS am q43 p2 (8 : Int32) (0 : Int32) q45 h46) mL_RX5_55 v_X5_puts ⟨rfl, rfl⟩ ⟨Nat.le_of_ble_eq_true rfl, Nat.le_of_ble_eq_true rfl⟩ ⟨Nat.zero_le _, Nat.zero_le _⟩ 0 5 rfl rfl rfl hl (Nat.le_of_ble_eq_true rfl) dX5_lends_99 rfl (fun H locs ok1 Z => ?_)
          refine lv_aload_n hx hb dX5_lends_102 rfl (lv_at hl 1 rfl) ?_
          refine lv_iload_n hx hb dX5_lends_103 rfl (lv_at hl 3 rfl) ?_
          refine lv_iconst (v := (5 : Int32)) hx hb dX5_lends_104 (by decide) ?_
          obtain ⟨v47, h48, hF⟩ := obind hF
          refine kr_i (As := [.int p2, .int (5 : Int32)]) Fc hA Z Lens.all (c_X5_of l D cI cS am q45 p2 (5 : Int32) v47 h48) mL_RX5_73 v_X5_of ⟨rfl, rfl⟩ ⟨Nat.le_of_ble_eq_true rfl, Nat.le_of_ble_eq_true rfl⟩ ⟨Nat.zero_le _, Nat.zero_le _⟩ 0 5 rfl rfl rfl hl (Nat.le_of_ble_eq_true rfl) dX5_lends_105 rfl (fun H locs Z => ?_)
          exact kret v47 q45 _ _ _ _ ⟨(pfst (Option.some.inj hF)), psnd (Option.some.inj hF), trivial⟩ Z dX5_lends_108
      · rw [if_neg c9] at hF
        refine lv_bipush (v := (-100 : Int32)) hx hb dX5_lends_29 (by decide) ?_
        refine lv_iload_n hx hb dX5_lends_31 rfl (lv_at hl 0 rfl) ?_
        refine lv_isub hx hb dX5_lends_32 ?_
        exact kret (((-100 : Int32) - v7)) ρ _ _ _ _ ⟨(pfst (Option.some.inj hF)), psnd (Option.some.inj hF), trivial⟩ Z dX5_lends_33
    · rw [if_pos c6] at hF
      refine lv_iconst (v := (-1 : Int32)) hx hb dX5_lends_16 (by decide) ?_
      exact kret (-1 : Int32) ρ _ _ _ _ ⟨(pfst (Option.some.inj hF)), psnd (Option.some.inj hF), trivial⟩ Z dX5_lends_17
def X5_reasonToRenew (ρ : Ms) (p1 : Int32) : Option (Int32) := (X5_of ρ p1 (3 : Int32)).bind fun v1 => if v1 = (1 : Int32) then ((X5_of ρ p1 (7 : Int32)).bind fun v4 => if v4 = (2 : Int32) then (some (2 : Int32)) else (X5_of ρ p1 (8 : Int32)).bind fun v7 => if v7 = (1 : Int32) then (some (3 : Int32)) else (X5_of ρ p1 (0 : Int32)).bind fun v10 => (X5_waitingFor ρ v10).bind fun v12 => if v12 ≤ 0 then ((X5_of ρ p1 (4 : Int32)).bind fun v15 => (X5_isBarred ρ v15).bind fun v17 => if (bi v17) = 0 then ((rdA (ρ.1.1 0) 681 (0 : Int32)).bind fun v20 => (rdA (ρ.1.1 0) 681 (5 : Int32)).bind fun v22 => (X5_of ρ p1 (5 : Int32)).bind fun v24 => if v24 < (v20 + v22) then (some (0 : Int32)) else some (5 : Int32)) else some (4 : Int32)) else some (3 : Int32)) else some (1 : Int32)
def rm_X5_reasonToRenew : Room := { frames := 2, cells := 0, slots := 0, locals := 45 }
theorem v_X5_reasonToRenew : WdV RX5 yX5_reasonToRenew cX5_reasonToRenew 2 (some .int) 1 := ⟨mI_X5_reasonToRenew, mS_X5_reasonToRenew, mZ_RX5, mC_X5_reasonToRenew, by decide +kernel⟩
set_option maxHeartbeats 8000000 in
set_option maxRecDepth 100000 in
theorem c_X5_reasonToRenew (l : Launch) (D : va_G) (cI cS : ClassId) (am : Nat → Nat) (ρ : Ms) (p1 : Int32) (F : Int32) (hF : X5_reasonToRenew ρ p1 = some F) : MI l yX5_reasonToRenew cX5_reasonToRenew 2 (some .int) rm_X5_reasonToRenew D cI cS [.ref (am 0), .int p1] (mW am cI ρ) (mW am cI) (fun r u' => r = F ∧ u' = ρ) := by
  refine MI.mk RX5 rfl .int rfl (by decide) (Nat.le_of_ble_eq_true rfl) (fun _ _ _ => rfl) ?_
  intro p e s m args below meth c A Q ls Fc hin hA Z kret hl
  obtain ⟨hx, hb, hml, hown, hts, hKN⟩ := id Fc
  replace hl : lv_has ls 2 [(0, .ref (am 0)), (1, .int p1)] := hl
  unfold X5_reasonToRenew at hF
  refine lv_aload_n hx hb dX5_reasonToRenew_0 rfl (lv_at hl 0 rfl) ?_
  refine lv_iload_n hx hb dX5_reasonToRenew_1 rfl (lv_at hl 1 rfl) ?_
  refine lv_iconst (v := (3 : Int32)) hx hb dX5_reasonToRenew_2 (by decide) ?_
  obtain ⟨v1, h2, hF⟩ := obind hF
  refine kr_i (As := [.int p1, .int (3 : Int32)]) Fc hA Z Lens.all (c_X5_of l D cI cS am ρ p1 (3 : Int32) v1 h2) mL_RX5_73 v_X5_of ⟨rfl, rfl⟩ ⟨Nat.le_of_ble_eq_true rfl, Nat.le_of_ble_eq_true rfl⟩ ⟨Nat.zero_le _, Nat.zero_le _⟩ 0 5 rfl rfl rfl hl (Nat.le_of_ble_eq_true rfl) dX5_reasonToRenew_3 rfl (fun H locs Z => ?_)
  refine lv_iconst (v := (1 : Int32)) hx hb dX5_reasonToRenew_6 (by decide) ?_
  refine lv_icmp_eq (tgt := 12) hx hb dX5_reasonToRenew_7 (by decide) (fun c3 => ?_) (fun c3 => ?_)
  · rw [if_pos c3] at hF
    refine lv_aload_n hx hb dX5_reasonToRenew_12 rfl (lv_at hl 0 rfl) ?_
    refine lv_iload_n hx hb dX5_reasonToRenew_13 rfl (lv_at hl 1 rfl) ?_
    refine lv_bipush (v := (7 : Int32)) hx hb dX5_reasonToRenew_14 (by decide) ?_
    obtain ⟨v4, h5, hF⟩ := obind hF
    refine kr_i (As := [.int p1, .int (7 : Int32)]) Fc hA Z Lens.all (c_X5_of l D cI cS am ρ p1 (7 : Int32) v4 h5) mL_RX5_73 v_X5_of ⟨rfl, rfl⟩ ⟨Nat.le_of_ble_eq_true rfl, Nat.le_of_ble_eq_true rfl⟩ ⟨Nat.zero_le _, Nat.zero_le _⟩ 0 5 rfl rfl rfl hl (Nat.le_of_ble_eq_true rfl) dX5_reasonToRenew_16 rfl (fun H locs Z => ?_)
    refine lv_iconst (v := (2 : Int32)) hx hb dX5_reasonToRenew_19 (by decide) ?_
    refine lv_icmp_ne (tgt := 25) hx hb dX5_reasonToRenew_20 (by decide) (fun c6 => ?_) (fun c6 => ?_)
    · rw [if_neg c6] at hF
      refine lv_aload_n hx hb dX5_reasonToRenew_25 rfl (lv_at hl 0 rfl) ?_
      refine lv_iload_n hx hb dX5_reasonToRenew_26 rfl (lv_at hl 1 rfl) ?_
      refine lv_bipush (v := (8 : Int32)) hx hb dX5_reasonToRenew_27 (by decide) ?_
      obtain ⟨v7, h8, hF⟩ := obind hF
      refine kr_i (As := [.int p1, .int (8 : Int32)]) Fc hA Z Lens.all (c_X5_of l D cI cS am ρ p1 (8 : Int32) v7 h8) mL_RX5_73 v_X5_of ⟨rfl, rfl⟩ ⟨Nat.le_of_ble_eq_true rfl, Nat.le_of_ble_eq_true rfl⟩ ⟨Nat.zero_le _, Nat.zero_le _⟩ 0 5 rfl rfl rfl hl (Nat.le_of_ble_eq_true rfl) dX5_reasonToRenew_29 rfl (fun H locs Z => ?_)
      refine lv_iconst (v := (1 : Int32)) hx hb dX5_reasonToRenew_32 (by decide) ?_
      refine lv_icmp_eq (tgt := 49) hx hb dX5_reasonToRenew_33 (by decide) (fun c9 => ?_) (fun c9 => ?_)
      · rw [if_pos c9] at hF
        refine lv_iconst (v := (3 : Int32)) hx hb dX5_reasonToRenew_49 (by decide) ?_
        exact kret (3 : Int32) ρ _ _ _ _ ⟨(Option.some.inj hF), rfl⟩ Z dX5_reasonToRenew_50
      · rw [if_neg c9] at hF
        refine lv_aload_n hx hb dX5_reasonToRenew_36 rfl (lv_at hl 0 rfl) ?_
        refine lv_aload_n hx hb dX5_reasonToRenew_37 rfl (lv_at hl 0 rfl) ?_
        refine lv_iload_n hx hb dX5_reasonToRenew_38 rfl (lv_at hl 1 rfl) ?_
        refine lv_iconst (v := (0 : Int32)) hx hb dX5_reasonToRenew_39 (by decide) ?_
        obtain ⟨v10, h11, hF⟩ := obind hF
        refine kr_i (As := [.int p1, .int (0 : Int32)]) Fc hA Z Lens.all (c_X5_of l D cI cS am ρ p1 (0 : Int32) v10 h11) mL_RX5_73 v_X5_of ⟨rfl, rfl⟩ ⟨Nat.le_of_ble_eq_true rfl, Nat.le_of_ble_eq_true rfl⟩ ⟨Nat.zero_le _, Nat.zero_le _⟩ 0 5 rfl rfl rfl hl (Nat.le_of_ble_eq_true rfl) dX5_reasonToRenew_40 rfl (fun H locs Z => ?_)
        obtain ⟨v12, h13, hF⟩ := obind hF
        refine kr_i (As := [.int v10]) Fc hA Z Lens.all (c_X5_waitingFor l D cI cS am ρ v10 v12 h13) mL_RX5_159 v_X5_waitingFor ⟨rfl, rfl⟩ ⟨Nat.le_of_ble_eq_true rfl, Nat.le_of_ble_eq_true rfl⟩ ⟨Nat.zero_le _, Nat.zero_le _⟩ 0 5 rfl rfl rfl hl (Nat.le_of_ble_eq_true rfl) dX5_reasonToRenew_43 rfl (fun H locs Z => ?_)
        refine lv_if_le (tgt := 51) hx hb dX5_reasonToRenew_46 (by decide) (fun c14 => ?_) (fun c14 => ?_)
        · rw [if_pos c14] at hF
          refine lv_aload_n hx hb dX5_reasonToRenew_51 rfl (lv_at hl 0 rfl) ?_
          refine lv_aload_n hx hb dX5_reasonToRenew_52 rfl (lv_at hl 0 rfl) ?_
          refine lv_iload_n hx hb dX5_reasonToRenew_53 rfl (lv_at hl 1 rfl) ?_
          refine lv_iconst (v := (4 : Int32)) hx hb dX5_reasonToRenew_54 (by decide) ?_
          obtain ⟨v15, h16, hF⟩ := obind hF
          refine kr_i (As := [.int p1, .int (4 : Int32)]) Fc hA Z Lens.all (c_X5_of l D cI cS am ρ p1 (4 : Int32) v15 h16) mL_RX5_73 v_X5_of ⟨rfl, rfl⟩ ⟨Nat.le_of_ble_eq_true rfl, Nat.le_of_ble_eq_true rfl⟩ ⟨Nat.zero_le _, Nat.zero_le _⟩ 0 5 rfl rfl rfl hl (Nat.le_of_ble_eq_true rfl) dX5_reasonToRenew_55 rfl (fun H locs Z => ?_)
          obtain ⟨v17, h18, hF⟩ := obind hF
          refine kr_i (As := [.int v15]) Fc hA Z Lens.all (c_X5_isBarred l D cI cS am ρ v15 v17 h18) mL_RX5_141 v_X5_isBarred ⟨rfl, rfl⟩ ⟨Nat.le_of_ble_eq_true rfl, Nat.le_of_ble_eq_true rfl⟩ ⟨Nat.zero_le _, Nat.zero_le _⟩ 0 5 rfl rfl rfl hl (Nat.le_of_ble_eq_true rfl) dX5_reasonToRenew_58 rfl (fun H locs Z => ?_)
          refine lv_if_eq (tgt := 66) hx hb dX5_reasonToRenew_61 (by decide) (fun c19 => ?_) (fun c19 => ?_)
          · rw [if_pos c19] at hF
            refine lv_aload_n hx hb dX5_reasonToRenew_66 rfl (lv_at hl 0 rfl) ?_
            refine kget Fc Z inX5 0 rfl rfl 0 (by decide) mF_RX5_11 rfl rfl dX5_reasonToRenew_67 ?_
            refine lv_iconst (v := (0 : Int32)) hx hb dX5_reasonToRenew_70 (by decide) ?_
            obtain ⟨v20, h21, hF⟩ := obind hF
            refine kald Fc Z 1 rfl h21 dX5_reasonToRenew_71 ?_
            refine lv_aload_n hx hb dX5_reasonToRenew_72 rfl (lv_at hl 0 rfl) ?_
            refine kget Fc Z inX5 0 rfl rfl 0 (by decide) mF_RX5_11 rfl rfl dX5_reasonToRenew_73 ?_
            refine lv_iconst (v := (5 : Int32)) hx hb dX5_reasonToRenew_76 (by decide) ?_
            obtain ⟨v22, h23, hF⟩ := obind hF
            refine kald Fc Z 1 rfl h23 dX5_reasonToRenew_77 ?_
            refine lv_iadd hx hb dX5_reasonToRenew_78 ?_
            refine lv_aload_n hx hb dX5_reasonToRenew_79 rfl (lv_at hl 0 rfl) ?_
            refine lv_iload_n hx hb dX5_reasonToRenew_80 rfl (lv_at hl 1 rfl) ?_
            refine lv_iconst (v := (5 : Int32)) hx hb dX5_reasonToRenew_81 (by decide) ?_
            obtain ⟨v24, h25, hF⟩ := obind hF
            refine kr_i (As := [.int p1, .int (5 : Int32)]) Fc hA Z Lens.all (c_X5_of l D cI cS am ρ p1 (5 : Int32) v24 h25) mL_RX5_73 v_X5_of ⟨rfl, rfl⟩ ⟨Nat.le_of_ble_eq_true rfl, Nat.le_of_ble_eq_true rfl⟩ ⟨Nat.zero_le _, Nat.zero_le _⟩ 0 5 rfl rfl rfl hl (Nat.le_of_ble_eq_true rfl) dX5_reasonToRenew_82 rfl (fun H locs Z => ?_)
            refine lv_icmp_gt (tgt := 92) hx hb dX5_reasonToRenew_85 (by decide) (fun c26 => ?_) (fun c26 => ?_)
            · rw [if_pos c26] at hF
              refine lv_iconst (v := (0 : Int32)) hx hb dX5_reasonToRenew_92 (by decide) ?_
              exact kret (0 : Int32) ρ _ _ _ _ ⟨(Option.some.inj hF), rfl⟩ Z dX5_reasonToRenew_93
            · rw [if_neg c26] at hF
              refine lv_iconst (v := (5 : Int32)) hx hb dX5_reasonToRenew_88 (by decide) ?_
              refine lv_goto (tgt := 93) hx hb dX5_reasonToRenew_89 (by decide) ?_
              exact kret (5 : Int32) ρ _ _ _ _ ⟨(Option.some.inj hF), rfl⟩ Z dX5_reasonToRenew_93
          · rw [if_neg c19] at hF
            refine lv_iconst (v := (4 : Int32)) hx hb dX5_reasonToRenew_64 (by decide) ?_
            exact kret (4 : Int32) ρ _ _ _ _ ⟨(Option.some.inj hF), rfl⟩ Z dX5_reasonToRenew_65
        · rw [if_neg c14] at hF
          refine lv_iconst (v := (3 : Int32)) hx hb dX5_reasonToRenew_49 (by decide) ?_
          exact kret (3 : Int32) ρ _ _ _ _ ⟨(Option.some.inj hF), rfl⟩ Z dX5_reasonToRenew_50
    · rw [if_pos c6] at hF
      refine lv_iconst (v := (2 : Int32)) hx hb dX5_reasonToRenew_23 (by decide) ?_
      exact kret (2 : Int32) ρ _ _ _ _ ⟨(Option.some.inj hF), rfl⟩ Z dX5_reasonToRenew_24
  · rw [if_neg c3] at hF
    refine lv_iconst (v := (1 : Int32)) hx hb dX5_reasonToRenew_10 (by decide) ?_
    exact kret (1 : Int32) ρ _ _ _ _ ⟨(Option.some.inj hF), rfl⟩ Z dX5_reasonToRenew_11
def X5_renews (ρ : Ms) (p1 : Int32) : Option (Int32 × Ms) := (X5_isCopy ρ p1).bind fun v1 => if (bi v1) = 0 then (some (((-1 : Int32), ρ))) else (X5_reasonToRenew ρ p1).bind fun v4 => if v4 ≤ 0 then ((rdA (ρ.1.1 0) 681 (0 : Int32)).bind fun v7 => (rdA (ρ.1.1 0) 681 (5 : Int32)).bind fun v9 => (X5_puts ρ p1 (5 : Int32) (v7 + v9)).bind fun q11 => (X5_of q11 p1 (7 : Int32)).bind fun v13 => (X5_puts q11 p1 (7 : Int32) ((v13 + (1 : Int32)))).bind fun q15 => (X5_of q15 p1 (5 : Int32)).bind fun v17 => some (v17, q15)) else some ((((-100 : Int32) - v4), ρ))
def rm_X5_renews : Room := { frames := 3, cells := 0, slots := 0, locals := 66 }
theorem v_X5_renews : WdV RX5 yX5_renews cX5_renews 3 (some .int) 1 := ⟨mI_X5_renews, mS_X5_renews, mZ_RX5, mC_X5_renews, by decide +kernel⟩
set_option maxHeartbeats 8000000 in
set_option maxRecDepth 100000 in
theorem c_X5_renews (l : Launch) (D : va_G) (cI cS : ClassId) (am : Nat → Nat) (ρ : Ms) (p1 : Int32) (F : Int32 × Ms) (hF : X5_renews ρ p1 = some F) : MI l yX5_renews cX5_renews 3 (some .int) rm_X5_renews D cI cS [.ref (am 0), .int p1] (mW am cI ρ) (mW am cI) (fun r u => r = F.1 ∧ u = F.2 ∧ True) := by
  refine MI.mk RX5 rfl .int rfl (by decide) (Nat.le_of_ble_eq_true rfl) (fun _ _ _ => rfl) ?_
  intro p e s m args below meth c A Q ls Fc hin hA Z kret hl
  obtain ⟨hx, hb, hml, hown, hts, hKN⟩ := id Fc
  replace hl : lv_has ls 3 [(0, .ref (am 0)), (1, .int p1)] := hl
  unfold X5_renews at hF
  refine lv_aload_n hx hb dX5_renews_0 rfl (lv_at hl 0 rfl) ?_
  refine lv_iload_n hx hb dX5_renews_1 rfl (lv_at hl 1 rfl) ?_
  obtain ⟨v1, h2, hF⟩ := obind hF
  refine kr_i (As := [.int p1]) Fc hA Z Lens.all (c_X5_isCopy l D cI cS am ρ p1 v1 h2) mL_RX5_113 v_X5_isCopy ⟨rfl, rfl⟩ ⟨Nat.le_of_ble_eq_true rfl, Nat.le_of_ble_eq_true rfl⟩ ⟨Nat.zero_le _, Nat.zero_le _⟩ 0 5 rfl rfl rfl hl (Nat.le_of_ble_eq_true rfl) dX5_renews_2 rfl (fun H locs Z => ?_)
  refine lv_if_ne (tgt := 10) hx hb dX5_renews_5 (by decide) (fun c3 => ?_) (fun c3 => ?_)
  · rw [if_neg c3] at hF
    refine lv_aload_n hx hb dX5_renews_10 rfl (lv_at hl 0 rfl) ?_
    refine lv_iload_n hx hb dX5_renews_11 rfl (lv_at hl 1 rfl) ?_
    obtain ⟨v4, h5, hF⟩ := obind hF
    refine kr_i (As := [.int p1]) Fc hA Z Lens.all (c_X5_reasonToRenew l D cI cS am ρ p1 v4 h5) mL_RX5_162 v_X5_reasonToRenew ⟨rfl, rfl⟩ ⟨Nat.le_of_ble_eq_true rfl, Nat.le_of_ble_eq_true rfl⟩ ⟨Nat.zero_le _, Nat.zero_le _⟩ 0 5 rfl rfl rfl hl (Nat.le_of_ble_eq_true rfl) dX5_renews_12 rfl (fun H locs Z => ?_)
    refine lv_istore_n (lv' := [(2, .int v4), (0, .ref (am 0)), (1, .int p1)]) hx hb dX5_renews_15 rfl hl (by decide) rfl (fun ls hl => ?_)
    refine lv_iload_n hx hb dX5_renews_16 rfl (lv_at hl 0 rfl) ?_
    refine lv_if_le (tgt := 25) hx hb dX5_renews_17 (by decide) (fun c6 => ?_) (fun c6 => ?_)
    · rw [if_pos c6] at hF
      refine lv_aload_n hx hb dX5_renews_25 rfl (lv_at hl 1 rfl) ?_
      refine lv_iload_n hx hb dX5_renews_26 rfl (lv_at hl 2 rfl) ?_
      refine lv_iconst (v := (5 : Int32)) hx hb dX5_renews_27 (by decide) ?_
      refine lv_aload_n hx hb dX5_renews_28 rfl (lv_at hl 1 rfl) ?_
      refine kget Fc Z inX5 0 rfl rfl 0 (by decide) mF_RX5_11 rfl rfl dX5_renews_29 ?_
      refine lv_iconst (v := (0 : Int32)) hx hb dX5_renews_32 (by decide) ?_
      obtain ⟨v7, h8, hF⟩ := obind hF
      refine kald Fc Z 1 rfl h8 dX5_renews_33 ?_
      refine lv_aload_n hx hb dX5_renews_34 rfl (lv_at hl 1 rfl) ?_
      refine kget Fc Z inX5 0 rfl rfl 0 (by decide) mF_RX5_11 rfl rfl dX5_renews_35 ?_
      refine lv_iconst (v := (5 : Int32)) hx hb dX5_renews_38 (by decide) ?_
      obtain ⟨v9, h10, hF⟩ := obind hF
      refine kald Fc Z 1 rfl h10 dX5_renews_39 ?_
      refine lv_iadd hx hb dX5_renews_40 ?_
      obtain ⟨q11, h12, hF⟩ := obind hF
      refine kv_i (As := [.int p1, .int (5 : Int32), .int (v7 + v9)]) (ok := (fun _ => True)) Fc hA Z Lens.all (c_X5_puts l D cI cS am ρ p1 (5 : Int32) (v7 + v9) q11 h12) mL_RX5_55 v_X5_puts ⟨rfl, rfl⟩ ⟨Nat.le_of_ble_eq_true rfl, Nat.le_of_ble_eq_true rfl⟩ ⟨Nat.zero_le _, Nat.zero_le _⟩ 0 5 rfl rfl rfl hl (Nat.le_of_ble_eq_true rfl) dX5_renews_41 rfl (fun H locs ok1 Z => ?_)
      refine lv_aload_n hx hb dX5_renews_44 rfl (lv_at hl 1 rfl) ?_
      refine lv_iload_n hx hb dX5_renews_45 rfl (lv_at hl 2 rfl) ?_
      refine lv_bipush (v := (7 : Int32)) hx hb dX5_renews_46 (by decide) ?_
      refine lv_aload_n hx hb dX5_renews_48 rfl (lv_at hl 1 rfl) ?_
      refine lv_iload_n hx hb dX5_renews_49 rfl (lv_at hl 2 rfl) ?_
      refine lv_bipush (v := (7 : Int32)) hx hb dX5_renews_50 (by decide) ?_
      obtain ⟨v13, h14, hF⟩ := obind hF
      refine kr_i (As := [.int p1, .int (7 : Int32)]) Fc hA Z Lens.all (c_X5_of l D cI cS am q11 p1 (7 : Int32) v13 h14) mL_RX5_73 v_X5_of ⟨rfl, rfl⟩ ⟨Nat.le_of_ble_eq_true rfl, Nat.le_of_ble_eq_true rfl⟩ ⟨Nat.zero_le _, Nat.zero_le _⟩ 0 5 rfl rfl rfl hl (Nat.le_of_ble_eq_true rfl) dX5_renews_52 rfl (fun H locs Z => ?_)
      refine lv_iconst (v := (1 : Int32)) hx hb dX5_renews_55 (by decide) ?_
      refine lv_iadd hx hb dX5_renews_56 ?_
      obtain ⟨q15, h16, hF⟩ := obind hF
      refine kv_i (As := [.int p1, .int (7 : Int32), .int ((v13 + (1 : Int32)))]) (ok := (fun _ => True)) Fc hA Z Lens.all (c_X5_puts l D cI cS am q11 p1 (7 : Int32) ((v13 + (1 : Int32))) q15 h16) mL_RX5_55 v_X5_puts ⟨rfl, rfl⟩ ⟨Nat.le_of_ble_eq_true rfl, Nat.le_of_ble_eq_true rfl⟩ ⟨Nat.zero_le _, Nat.zero_le _⟩ 0 5 rfl rfl rfl hl (Nat.le_of_ble_eq_true rfl) dX5_renews_57 rfl (fun H locs ok1 Z => ?_)
      refine lv_aload_n hx hb dX5_renews_60 rfl (lv_at hl 1 rfl) ?_
      refine lv_iload_n hx hb dX5_renews_61 rfl (lv_at hl 2 rfl) ?_
      refine lv_iconst (v := (5 : Int32)) hx hb dX5_renews_62 (by decide) ?_
      obtain ⟨v17, h18, hF⟩ := obind hF
      refine kr_i (As := [.int p1, .int (5 : Int32)]) Fc hA Z Lens.all (c_X5_of l D cI cS am q15 p1 (5 : Int32) v17 h18) mL_RX5_73 v_X5_of ⟨rfl, rfl⟩ ⟨Nat.le_of_ble_eq_true rfl, Nat.le_of_ble_eq_true rfl⟩ ⟨Nat.zero_le _, Nat.zero_le _⟩ 0 5 rfl rfl rfl hl (Nat.le_of_ble_eq_true rfl) dX5_renews_63 rfl (fun H locs Z => ?_)
      exact kret v17 q15 _ _ _ _ ⟨(pfst (Option.some.inj hF)), psnd (Option.some.inj hF), trivial⟩ Z dX5_renews_66
    · rw [if_neg c6] at hF
      refine lv_bipush (v := (-100 : Int32)) hx hb dX5_renews_20 (by decide) ?_
      refine lv_iload_n hx hb dX5_renews_22 rfl (lv_at hl 0 rfl) ?_
      refine lv_isub hx hb dX5_renews_23 ?_
      exact kret (((-100 : Int32) - v4)) ρ _ _ _ _ ⟨(pfst (Option.some.inj hF)), psnd (Option.some.inj hF), trivial⟩ Z dX5_renews_24
  · rw [if_pos c3] at hF
    refine lv_iconst (v := (-1 : Int32)) hx hb dX5_renews_8 (by decide) ?_
    exact kret (-1 : Int32) ρ _ _ _ _ ⟨(pfst (Option.some.inj hF)), psnd (Option.some.inj hF), trivial⟩ Z dX5_renews_9
def X5_does (ρ : Ms) (p1 : Int32) : Option (Int32 × Ms) := if p1 = (99 : Int32) then ((rdA (ρ.1.1 5) 3 (0 : Int32)).bind fun v2 => (rdA (ρ.1.1 5) 3 (1 : Int32)).bind fun v4 => (X5_cancels ρ v2 v4).bind fun q6 => some (q6.1, q6.2)) else if p1 = (100 : Int32) then ((rdA (ρ.1.1 5) 3 (0 : Int32)).bind fun v9 => (X5_passes ρ v9).bind fun q11 => some (q11.1, q11.2)) else if p1 = (104 : Int32) then ((rdA (ρ.1.1 5) 3 (0 : Int32)).bind fun v14 => (rdA (ρ.1.1 5) 3 (1 : Int32)).bind fun v16 => (rdA (ρ.1.1 5) 3 (2 : Int32)).bind fun v18 => (X5_laysHold ρ v14 v16 v18).bind fun q20 => some (q20.1, q20.2)) else if p1 = (105 : Int32) then ((rdA (ρ.1.1 5) 3 (0 : Int32)).bind fun v23 => (rdA (ρ.1.1 5) 3 (1 : Int32)).bind fun v25 => (X5_bringsBack ρ v23 v25).bind fun q27 => some (q27.1, q27.2)) else if p1 = (111 : Int32) then ((rdA (ρ.1.1 5) 3 (0 : Int32)).bind fun v30 => (rdA (ρ.1.1 5) 3 (1 : Int32)).bind fun v32 => (X5_lends ρ v30 v32).bind fun q34 => some (q34.1, q34.2)) else if p1 = (114 : Int32) then ((rdA (ρ.1.1 5) 3 (0 : Int32)).bind fun v37 => (X5_renews ρ v37).bind fun q39 => some (q39.1, q39.2)) else (rdA (ρ.1.1 5) 3 (0 : Int32)).bind fun v41 => (rdA (ρ.1.1 5) 3 (1 : Int32)).bind fun v43 => (X5_lessens ρ (3 : Int32) v41 v43).bind fun q45 => some (q45.1, q45.2)
def rm_X5_does : Room := { frames := 6, cells := 0, slots := 0, locals := 139 }
theorem v_X5_does : WdV RX5 yX5_does cX5_does 2 (some .int) 1 := ⟨mI_X5_does, mS_X5_does, mZ_RX5, mC_X5_does, by decide +kernel⟩
set_option maxHeartbeats 8000000 in
set_option maxRecDepth 100000 in
theorem c_X5_does (l : Launch) (D : va_G) (cI cS : ClassId) (am : Nat → Nat) (ρ : Ms) (p1 : Int32) (F : Int32 × Ms) (hF : X5_does ρ p1 = some F) : MI l yX5_does cX5_does 2 (some .int) rm_X5_does D cI cS [.ref (am 0), .int p1] (mW am cI ρ) (mW am cI) (fun r u => r = F.1 ∧ u = F.2 ∧ True) := by
  refine MI.mk RX5 rfl .int rfl (by decide) (Nat.le_of_ble_eq_true rfl) (fun _ _ _ => rfl) ?_
  intro p e s m args below meth c A Q ls Fc hin hA Z kret hl
  obtain ⟨hx, hb, hml, hown, hts, hKN⟩ := id Fc
  replace hl : lv_has ls 2 [(0, .ref (am 0)), (1, .int p1)] := hl
  unfold X5_does at hF
  refine lv_iload_n hx hb dX5_does_0 rfl (lv_at hl 1 rfl) ?_
  rcases Decidable.em (p1 = (99 : Int32)) with c1 | c1
  · rw [if_pos c1] at hF
    refine lv_tableIn (off := 136) (tgt := 137) hx hb dX5_does_1 (by rw [c1]; decide) (by rw [c1]; decide) (by rw [c1]; decide) (by decide) ?_
    refine lv_aload_n hx hb dX5_does_137 rfl (lv_at hl 0 rfl) ?_
    refine lv_aload_n hx hb dX5_does_138 rfl (lv_at hl 0 rfl) ?_
    refine kget Fc Z inX5 0 rfl rfl 7 (by decide) mF_RX5_35 rfl rfl dX5_does_139 ?_
    refine lv_iconst (v := (0 : Int32)) hx hb dX5_does_142 (by decide) ?_
    obtain ⟨v2, h3, hF⟩ := obind hF
    refine kald Fc Z 6 rfl h3 dX5_does_143 ?_
    refine lv_aload_n hx hb dX5_does_144 rfl (lv_at hl 0 rfl) ?_
    refine kget Fc Z inX5 0 rfl rfl 7 (by decide) mF_RX5_35 rfl rfl dX5_does_145 ?_
    refine lv_iconst (v := (1 : Int32)) hx hb dX5_does_148 (by decide) ?_
    obtain ⟨v4, h5, hF⟩ := obind hF
    refine kald Fc Z 6 rfl h5 dX5_does_149 ?_
    obtain ⟨q6, h7, hF⟩ := obind hF
    refine km_i (As := [.int v2, .int v4]) (ok := (fun _ => True)) Fc hA Z Lens.all (c_X5_cancels l D cI cS am ρ v2 v4 q6 h7) mL_RX5_195 v_X5_cancels ⟨rfl, rfl⟩ ⟨Nat.le_of_ble_eq_true rfl, Nat.le_of_ble_eq_true rfl⟩ ⟨Nat.zero_le _, Nat.zero_le _⟩ 0 5 rfl rfl rfl hl (Nat.le_of_ble_eq_true rfl) dX5_does_150 rfl (fun H locs ok1 Z => ?_)
    exact kret q6.1 q6.2 _ _ _ _ ⟨(pfst (Option.some.inj hF)), psnd (Option.some.inj hF), trivial⟩ Z dX5_does_153
  rw [if_neg c1] at hF
  rcases Decidable.em (p1 = (100 : Int32)) with c8 | c8
  · rw [if_pos c8] at hF
    refine lv_tableIn (off := 164) (tgt := 165) hx hb dX5_does_1 (by rw [c8]; decide) (by rw [c8]; decide) (by rw [c8]; decide) (by decide) ?_
    refine lv_aload_n hx hb dX5_does_165 rfl (lv_at hl 0 rfl) ?_
    refine lv_aload_n hx hb dX5_does_166 rfl (lv_at hl 0 rfl) ?_
    refine kget Fc Z inX5 0 rfl rfl 7 (by decide) mF_RX5_35 rfl rfl dX5_does_167 ?_
    refine lv_iconst (v := (0 : Int32)) hx hb dX5_does_170 (by decide) ?_
    obtain ⟨v9, h10, hF⟩ := obind hF
    refine kald Fc Z 6 rfl h10 dX5_does_171 ?_
    obtain ⟨q11, h12, hF⟩ := obind hF
    refine km_i (As := [.int v9]) (ok := (fun _ => True)) Fc hA Z Lens.all (c_X5_passes l D cI cS am ρ v9 q11 h12) mL_RX5_138 v_X5_passes ⟨rfl, rfl⟩ ⟨Nat.le_of_ble_eq_true rfl, Nat.le_of_ble_eq_true rfl⟩ ⟨Nat.zero_le _, Nat.zero_le _⟩ 0 5 rfl rfl rfl hl (Nat.le_of_ble_eq_true rfl) dX5_does_172 rfl (fun H locs ok1 Z => ?_)
    exact kret q11.1 q11.2 _ _ _ _ ⟨(pfst (Option.some.inj hF)), psnd (Option.some.inj hF), trivial⟩ Z dX5_does_175
  rw [if_neg c8] at hF
  rcases Decidable.em (p1 = (104 : Int32)) with c13 | c13
  · rw [if_pos c13] at hF
    refine lv_tableIn (off := 113) (tgt := 114) hx hb dX5_does_1 (by rw [c13]; decide) (by rw [c13]; decide) (by rw [c13]; decide) (by decide) ?_
    refine lv_aload_n hx hb dX5_does_114 rfl (lv_at hl 0 rfl) ?_
    refine lv_aload_n hx hb dX5_does_115 rfl (lv_at hl 0 rfl) ?_
    refine kget Fc Z inX5 0 rfl rfl 7 (by decide) mF_RX5_35 rfl rfl dX5_does_116 ?_
    refine lv_iconst (v := (0 : Int32)) hx hb dX5_does_119 (by decide) ?_
    obtain ⟨v14, h15, hF⟩ := obind hF
    refine kald Fc Z 6 rfl h15 dX5_does_120 ?_
    refine lv_aload_n hx hb dX5_does_121 rfl (lv_at hl 0 rfl) ?_
    refine kget Fc Z inX5 0 rfl rfl 7 (by decide) mF_RX5_35 rfl rfl dX5_does_122 ?_
    refine lv_iconst (v := (1 : Int32)) hx hb dX5_does_125 (by decide) ?_
    obtain ⟨v16, h17, hF⟩ := obind hF
    refine kald Fc Z 6 rfl h17 dX5_does_126 ?_
    refine lv_aload_n hx hb dX5_does_127 rfl (lv_at hl 0 rfl) ?_
    refine kget Fc Z inX5 0 rfl rfl 7 (by decide) mF_RX5_35 rfl rfl dX5_does_128 ?_
    refine lv_iconst (v := (2 : Int32)) hx hb dX5_does_131 (by decide) ?_
    obtain ⟨v18, h19, hF⟩ := obind hF
    refine kald Fc Z 6 rfl h19 dX5_does_132 ?_
    obtain ⟨q20, h21, hF⟩ := obind hF
    refine km_i (As := [.int v14, .int v16, .int v18]) (ok := (fun _ => True)) Fc hA Z Lens.all (c_X5_laysHold l D cI cS am ρ v14 v16 v18 q20 h21) mL_RX5_188 v_X5_laysHold ⟨rfl, rfl⟩ ⟨Nat.le_of_ble_eq_true rfl, Nat.le_of_ble_eq_true rfl⟩ ⟨Nat.zero_le _, Nat.zero_le _⟩ 0 5 rfl rfl rfl hl (Nat.le_of_ble_eq_true rfl) dX5_does_133 rfl (fun H locs ok1 Z => ?_)
    exact kret q20.1 q20.2 _ _ _ _ ⟨(pfst (Option.some.inj hF)), psnd (Option.some.inj hF), trivial⟩ Z dX5_does_136
  rw [if_neg c13] at hF
  rcases Decidable.em (p1 = (105 : Int32)) with c22 | c22
  · rw [if_pos c22] at hF
    refine lv_tableIn (off := 96) (tgt := 97) hx hb dX5_does_1 (by rw [c22]; decide) (by rw [c22]; decide) (by rw [c22]; decide) (by decide) ?_
    refine lv_aload_n hx hb dX5_does_97 rfl (lv_at hl 0 rfl) ?_
    refine lv_aload_n hx hb dX5_does_98 rfl (lv_at hl 0 rfl) ?_
    refine kget Fc Z inX5 0 rfl rfl 7 (by decide) mF_RX5_35 rfl rfl dX5_does_99 ?_
    refine lv_iconst (v := (0 : Int32)) hx hb dX5_does_102 (by decide) ?_
    obtain ⟨v23, h24, hF⟩ := obind hF
    refine kald Fc Z 6 rfl h24 dX5_does_103 ?_
    refine lv_aload_n hx hb dX5_does_104 rfl (lv_at hl 0 rfl) ?_
    refine kget Fc Z inX5 0 rfl rfl 7 (by decide) mF_RX5_35 rfl rfl dX5_does_105 ?_
    refine lv_iconst (v := (1 : Int32)) hx hb dX5_does_108 (by decide) ?_
    obtain ⟨v25, h26, hF⟩ := obind hF
    refine kald Fc Z 6 rfl h26 dX5_does_109 ?_
    obtain ⟨q27, h28, hF⟩ := obind hF
    refine km_i (As := [.int v23, .int v25]) (ok := (fun _ => True)) Fc hA Z Lens.all (c_X5_bringsBack l D cI cS am ρ v23 v25 q27 h28) mL_RX5_156 v_X5_bringsBack ⟨rfl, rfl⟩ ⟨Nat.le_of_ble_eq_true rfl, Nat.le_of_ble_eq_true rfl⟩ ⟨Nat.zero_le _, Nat.zero_le _⟩ 0 5 rfl rfl rfl hl (Nat.le_of_ble_eq_true rfl) dX5_does_110 rfl (fun H locs ok1 Z => ?_)
    exact kret q27.1 q27.2 _ _ _ _ ⟨(pfst (Option.some.inj hF)), psnd (Option.some.inj hF), trivial⟩ Z dX5_does_113
  rw [if_neg c22] at hF
  rcases Decidable.em (p1 = (111 : Int32)) with c29 | c29
  · rw [if_pos c29] at hF
    refine lv_tableIn (off := 79) (tgt := 80) hx hb dX5_does_1 (by rw [c29]; decide) (by rw [c29]; decide) (by rw [c29]; decide) (by decide) ?_
    refine lv_aload_n hx hb dX5_does_80 rfl (lv_at hl 0 rfl) ?_
    refine lv_aload_n hx hb dX5_does_81 rfl (lv_at hl 0 rfl) ?_
    refine kget Fc Z inX5 0 rfl rfl 7 (by decide) mF_RX5_35 rfl rfl dX5_does_82 ?_
    refine lv_iconst (v := (0 : Int32)) hx hb dX5_does_85 (by decide) ?_
    obtain ⟨v30, h31, hF⟩ := obind hF
    refine kald Fc Z 6 rfl h31 dX5_does_86 ?_
    refine lv_aload_n hx hb dX5_does_87 rfl (lv_at hl 0 rfl) ?_
    refine kget Fc Z inX5 0 rfl rfl 7 (by decide) mF_RX5_35 rfl rfl dX5_does_88 ?_
    refine lv_iconst (v := (1 : Int32)) hx hb dX5_does_91 (by decide) ?_
    obtain ⟨v32, h33, hF⟩ := obind hF
    refine kald Fc Z 6 rfl h33 dX5_does_92 ?_
    obtain ⟨q34, h35, hF⟩ := obind hF
    refine km_i (As := [.int v30, .int v32]) (ok := (fun _ => True)) Fc hA Z Lens.all (c_X5_lends l D cI cS am ρ v30 v32 q34 h35) mL_RX5_153 v_X5_lends ⟨rfl, rfl⟩ ⟨Nat.le_of_ble_eq_true rfl, Nat.le_of_ble_eq_true rfl⟩ ⟨Nat.zero_le _, Nat.zero_le _⟩ 0 5 rfl rfl rfl hl (Nat.le_of_ble_eq_true rfl) dX5_does_93 rfl (fun H locs ok1 Z => ?_)
    exact kret q34.1 q34.2 _ _ _ _ ⟨(pfst (Option.some.inj hF)), psnd (Option.some.inj hF), trivial⟩ Z dX5_does_96
  rw [if_neg c29] at hF
  rcases Decidable.em (p1 = (114 : Int32)) with c36 | c36
  · rw [if_pos c36] at hF
    refine lv_tableIn (off := 153) (tgt := 154) hx hb dX5_does_1 (by rw [c36]; decide) (by rw [c36]; decide) (by rw [c36]; decide) (by decide) ?_
    refine lv_aload_n hx hb dX5_does_154 rfl (lv_at hl 0 rfl) ?_
    refine lv_aload_n hx hb dX5_does_155 rfl (lv_at hl 0 rfl) ?_
    refine kget Fc Z inX5 0 rfl rfl 7 (by decide) mF_RX5_35 rfl rfl dX5_does_156 ?_
    refine lv_iconst (v := (0 : Int32)) hx hb dX5_does_159 (by decide) ?_
    obtain ⟨v37, h38, hF⟩ := obind hF
    refine kald Fc Z 6 rfl h38 dX5_does_160 ?_
    obtain ⟨q39, h40, hF⟩ := obind hF
    refine km_i (As := [.int v37]) (ok := (fun _ => True)) Fc hA Z Lens.all (c_X5_renews l D cI cS am ρ v37 q39 h40) mL_RX5_165 v_X5_renews ⟨rfl, rfl⟩ ⟨Nat.le_of_ble_eq_true rfl, Nat.le_of_ble_eq_true rfl⟩ ⟨Nat.zero_le _, Nat.zero_le _⟩ 0 5 rfl rfl rfl hl (Nat.le_of_ble_eq_true rfl) dX5_does_161 rfl (fun H locs ok1 Z => ?_)
    exact kret q39.1 q39.2 _ _ _ _ ⟨(pfst (Option.some.inj hF)), psnd (Option.some.inj hF), trivial⟩ Z dX5_does_164
  rw [if_neg c36] at hF
  refine kdflt (tgt := 176) hx hb dX5_does_1 [(99 : Int32), (100 : Int32), (104 : Int32), (105 : Int32), (111 : Int32), (114 : Int32)] (by decide) (by intro v hv; simp only [List.mem_cons, List.not_mem_nil, or_false] at hv; rcases hv with rfl | rfl | rfl | rfl | rfl | rfl <;> assumption) (by decide) ?_
  refine lv_aload_n hx hb dX5_does_176 rfl (lv_at hl 0 rfl) ?_
  refine lv_iconst (v := (3 : Int32)) hx hb dX5_does_177 (by decide) ?_
  refine lv_aload_n hx hb dX5_does_178 rfl (lv_at hl 0 rfl) ?_
  refine kget Fc Z inX5 0 rfl rfl 7 (by decide) mF_RX5_35 rfl rfl dX5_does_179 ?_
  refine lv_iconst (v := (0 : Int32)) hx hb dX5_does_182 (by decide) ?_
  obtain ⟨v41, h42, hF⟩ := obind hF
  refine kald Fc Z 6 rfl h42 dX5_does_183 ?_
  refine lv_aload_n hx hb dX5_does_184 rfl (lv_at hl 0 rfl) ?_
  refine kget Fc Z inX5 0 rfl rfl 7 (by decide) mF_RX5_35 rfl rfl dX5_does_185 ?_
  refine lv_iconst (v := (1 : Int32)) hx hb dX5_does_188 (by decide) ?_
  obtain ⟨v43, h44, hF⟩ := obind hF
  refine kald Fc Z 6 rfl h44 dX5_does_189 ?_
  obtain ⟨q45, h46, hF⟩ := obind hF
  refine km_i (As := [.int (3 : Int32), .int v41, .int v43]) (ok := (fun _ => True)) Fc hA Z Lens.all (c_X5_lessens l D cI cS am ρ (3 : Int32) v41 v43 q45 h46) mL_RX5_210 v_X5_lessens ⟨rfl, rfl⟩ ⟨Nat.le_of_ble_eq_true rfl, Nat.le_of_ble_eq_true rfl⟩ ⟨Nat.zero_le _, Nat.zero_le _⟩ 0 5 rfl rfl rfl hl (Nat.le_of_ble_eq_true rfl) dX5_does_190 rfl (fun H locs ok1 Z => ?_)
  exact kret q45.1 q45.2 _ _ _ _ ⟨(pfst (Option.some.inj hF)), psnd (Option.some.inj hF), trivial⟩ Z dX5_does_193
def X5_freeDay (ρ : Ms) (p1 p2 : Int32) : Option (Int32) := (X5_of ρ p1 (0 : Int32)).bind fun v1 => if v1 = p2 then ((X5_of ρ p1 (3 : Int32)).bind fun v4 => if v4 = (1 : Int32) then ((rdA (ρ.1.1 0) 681 (0 : Int32)).bind fun v15 => (X5_of ρ p1 (5 : Int32)).bind fun v17 => some (jmax v15 v17)) else (X5_of ρ p1 (3 : Int32)).bind fun v7 => if v7 = (2 : Int32) then ((X5_holdOf ρ p1).bind fun v10 => if 0 ≤ v10 then (some (-2 : Int32)) else (X5_of ρ p1 (5 : Int32)).bind fun v13 => some v13) else some (-2 : Int32)) else some (-2 : Int32)
def rm_X5_freeDay : Room := { frames := 2, cells := 0, slots := 0, locals := 44 }
theorem v_X5_freeDay : WdV RX5 yX5_freeDay cX5_freeDay 3 (some .int) 2 := ⟨mI_X5_freeDay, mS_X5_freeDay, mZ_RX5, mC_X5_freeDay, by decide +kernel⟩
set_option maxHeartbeats 8000000 in
set_option maxRecDepth 100000 in
theorem c_X5_freeDay (l : Launch) (D : va_G) (cI cS : ClassId) (am : Nat → Nat) (ρ : Ms) (p1 p2 : Int32) (F : Int32) (hF : X5_freeDay ρ p1 p2 = some F) : MI l yX5_freeDay cX5_freeDay 3 (some .int) rm_X5_freeDay D cI cS [.ref (am 0), .int p1, .int p2] (mW am cI ρ) (mW am cI) (fun r u' => r = F ∧ u' = ρ) := by
  refine MI.mk RX5 rfl .int rfl (by decide) (Nat.le_of_ble_eq_true rfl) (fun _ _ _ => rfl) ?_
  intro p e s m args below meth c A Q ls Fc hin hA Z kret hl
  obtain ⟨hx, hb, hml, hown, hts, hKN⟩ := id Fc
  replace hl : lv_has ls 3 [(0, .ref (am 0)), (1, .int p1), (2, .int p2)] := hl
  unfold X5_freeDay at hF
  refine lv_aload_n hx hb dX5_freeDay_0 rfl (lv_at hl 0 rfl) ?_
  refine lv_iload_n hx hb dX5_freeDay_1 rfl (lv_at hl 1 rfl) ?_
  refine lv_iconst (v := (0 : Int32)) hx hb dX5_freeDay_2 (by decide) ?_
  obtain ⟨v1, h2, hF⟩ := obind hF
  refine kr_i (As := [.int p1, .int (0 : Int32)]) Fc hA Z Lens.all (c_X5_of l D cI cS am ρ p1 (0 : Int32) v1 h2) mL_RX5_73 v_X5_of ⟨rfl, rfl⟩ ⟨Nat.le_of_ble_eq_true rfl, Nat.le_of_ble_eq_true rfl⟩ ⟨Nat.zero_le _, Nat.zero_le _⟩ 0 5 rfl rfl rfl hl (Nat.le_of_ble_eq_true rfl) dX5_freeDay_3 rfl (fun H locs Z => ?_)
  refine lv_iload_n hx hb dX5_freeDay_6 rfl (lv_at hl 2 rfl) ?_
  refine lv_icmp_eq (tgt := 13) hx hb dX5_freeDay_7 (by decide) (fun c3 => ?_) (fun c3 => ?_)
  · rw [if_pos c3] at hF
    refine lv_aload_n hx hb dX5_freeDay_13 rfl (lv_at hl 0 rfl) ?_
    refine lv_iload_n hx hb dX5_freeDay_14 rfl (lv_at hl 1 rfl) ?_
    refine lv_iconst (v := (3 : Int32)) hx hb dX5_freeDay_15 (by decide) ?_
    obtain ⟨v4, h5, hF⟩ := obind hF
    refine kr_i (As := [.int p1, .int (3 : Int32)]) Fc hA Z Lens.all (c_X5_of l D cI cS am ρ p1 (3 : Int32) v4 h5) mL_RX5_73 v_X5_of ⟨rfl, rfl⟩ ⟨Nat.le_of_ble_eq_true rfl, Nat.le_of_ble_eq_true rfl⟩ ⟨Nat.zero_le _, Nat.zero_le _⟩ 0 5 rfl rfl rfl hl (Nat.le_of_ble_eq_true rfl) dX5_freeDay_16 rfl (fun H locs Z => ?_)
    refine lv_iconst (v := (1 : Int32)) hx hb dX5_freeDay_19 (by decide) ?_
    refine lv_icmp_ne (tgt := 39) hx hb dX5_freeDay_20 (by decide) (fun c6 => ?_) (fun c6 => ?_)
    · rw [if_neg c6] at hF
      refine lv_aload_n hx hb dX5_freeDay_39 rfl (lv_at hl 0 rfl) ?_
      refine lv_iload_n hx hb dX5_freeDay_40 rfl (lv_at hl 1 rfl) ?_
      refine lv_iconst (v := (3 : Int32)) hx hb dX5_freeDay_41 (by decide) ?_
      obtain ⟨v7, h8, hF⟩ := obind hF
      refine kr_i (As := [.int p1, .int (3 : Int32)]) Fc hA Z Lens.all (c_X5_of l D cI cS am ρ p1 (3 : Int32) v7 h8) mL_RX5_73 v_X5_of ⟨rfl, rfl⟩ ⟨Nat.le_of_ble_eq_true rfl, Nat.le_of_ble_eq_true rfl⟩ ⟨Nat.zero_le _, Nat.zero_le _⟩ 0 5 rfl rfl rfl hl (Nat.le_of_ble_eq_true rfl) dX5_freeDay_42 rfl (fun H locs Z => ?_)
      refine lv_iconst (v := (2 : Int32)) hx hb dX5_freeDay_45 (by decide) ?_
      refine lv_icmp_ne (tgt := 66) hx hb dX5_freeDay_46 (by decide) (fun c9 => ?_) (fun c9 => ?_)
      · rw [if_neg c9] at hF
        refine lv_bipush (v := (-2 : Int32)) hx hb dX5_freeDay_66 (by decide) ?_
        exact kret (-2 : Int32) ρ _ _ _ _ ⟨(Option.some.inj hF), rfl⟩ Z dX5_freeDay_68
      · rw [if_pos c9] at hF
        refine lv_aload_n hx hb dX5_freeDay_49 rfl (lv_at hl 0 rfl) ?_
        refine lv_iload_n hx hb dX5_freeDay_50 rfl (lv_at hl 1 rfl) ?_
        obtain ⟨v10, h11, hF⟩ := obind hF
        refine kr_i (As := [.int p1]) Fc hA Z Lens.all (c_X5_holdOf l D cI cS am ρ p1 v10 h11) mL_RX5_116 v_X5_holdOf ⟨rfl, rfl⟩ ⟨Nat.le_of_ble_eq_true rfl, Nat.le_of_ble_eq_true rfl⟩ ⟨Nat.zero_le _, Nat.zero_le _⟩ 0 5 rfl rfl rfl hl (Nat.le_of_ble_eq_true rfl) dX5_freeDay_51 rfl (fun H locs Z => ?_)
        refine lv_if_ge (tgt := 66) hx hb dX5_freeDay_54 (by decide) (fun c12 => ?_) (fun c12 => ?_)
        · rw [if_pos c12] at hF
          refine lv_bipush (v := (-2 : Int32)) hx hb dX5_freeDay_66 (by decide) ?_
          exact kret (-2 : Int32) ρ _ _ _ _ ⟨(Option.some.inj hF), rfl⟩ Z dX5_freeDay_68
        · rw [if_neg c12] at hF
          refine lv_aload_n hx hb dX5_freeDay_57 rfl (lv_at hl 0 rfl) ?_
          refine lv_iload_n hx hb dX5_freeDay_58 rfl (lv_at hl 1 rfl) ?_
          refine lv_iconst (v := (5 : Int32)) hx hb dX5_freeDay_59 (by decide) ?_
          obtain ⟨v13, h14, hF⟩ := obind hF
          refine kr_i (As := [.int p1, .int (5 : Int32)]) Fc hA Z Lens.all (c_X5_of l D cI cS am ρ p1 (5 : Int32) v13 h14) mL_RX5_73 v_X5_of ⟨rfl, rfl⟩ ⟨Nat.le_of_ble_eq_true rfl, Nat.le_of_ble_eq_true rfl⟩ ⟨Nat.zero_le _, Nat.zero_le _⟩ 0 5 rfl rfl rfl hl (Nat.le_of_ble_eq_true rfl) dX5_freeDay_60 rfl (fun H locs Z => ?_)
          refine lv_goto (tgt := 68) hx hb dX5_freeDay_63 (by decide) ?_
          exact kret v13 ρ _ _ _ _ ⟨(Option.some.inj hF), rfl⟩ Z dX5_freeDay_68
    · rw [if_pos c6] at hF
      refine lv_aload_n hx hb dX5_freeDay_23 rfl (lv_at hl 0 rfl) ?_
      refine kget Fc Z inX5 0 rfl rfl 0 (by decide) mF_RX5_11 rfl rfl dX5_freeDay_24 ?_
      refine lv_iconst (v := (0 : Int32)) hx hb dX5_freeDay_27 (by decide) ?_
      obtain ⟨v15, h16, hF⟩ := obind hF
      refine kald Fc Z 1 rfl h16 dX5_freeDay_28 ?_
      refine lv_aload_n hx hb dX5_freeDay_29 rfl (lv_at hl 0 rfl) ?_
      refine lv_iload_n hx hb dX5_freeDay_30 rfl (lv_at hl 1 rfl) ?_
      refine lv_iconst (v := (5 : Int32)) hx hb dX5_freeDay_31 (by decide) ?_
      obtain ⟨v17, h18, hF⟩ := obind hF
      refine kr_i (As := [.int p1, .int (5 : Int32)]) Fc hA Z Lens.all (c_X5_of l D cI cS am ρ p1 (5 : Int32) v17 h18) mL_RX5_73 v_X5_of ⟨rfl, rfl⟩ ⟨Nat.le_of_ble_eq_true rfl, Nat.le_of_ble_eq_true rfl⟩ ⟨Nat.zero_le _, Nat.zero_le _⟩ 0 5 rfl rfl rfl hl (Nat.le_of_ble_eq_true rfl) dX5_freeDay_32 rfl (fun H locs Z => ?_)
      refine kmax Fc hl mL_RX5_82 (Nat.le_of_ble_eq_true rfl) (Nat.le_of_ble_eq_true rfl) ⟨Nat.zero_le _, Nat.zero_le _⟩ dX5_freeDay_35 ?_
      exact kret (jmax v15 v17) ρ _ _ _ _ ⟨(Option.some.inj hF), rfl⟩ Z dX5_freeDay_38
  · rw [if_neg c3] at hF
    refine lv_bipush (v := (-2 : Int32)) hx hb dX5_freeDay_10 (by decide) ?_
    exact kret (-2 : Int32) ρ _ _ _ _ ⟨(Option.some.inj hF), rfl⟩ Z dX5_freeDay_12
def X5_estimate_L122 (ρ : Ms) (x2 : Int32) (x4 : Int32) (x5 : Int32) (x6 : Int32) (K : Int32 → Option (Int32)) : Nat → Int32 → Int32 → Option (Int32)
  | 0, _, _ => none
  | k + 1, x7, x8 => (rdA (ρ.1.1 0) 681 (1 : Int32)).bind fun v1 => if v1 ≤ x8 then (K x7) else if x6 < 0 then (K x7) else (X5_freeDay ρ x8 x2).bind fun v5 => if v5 < 0 then (X5_estimate_L122 ρ x2 x4 x5 x6 K k ((x7 + (0 : Int32))) ((x8 + (1 : Int32)))) else if v5 < x6 then (X5_estimate_L122 ρ x2 x4 x5 x6 K k ((x7 + (1 : Int32))) ((x8 + (1 : Int32)))) else if v5 = x6 then (if x5 ≤ x8 then (X5_estimate_L122 ρ x2 x4 x5 x6 K k ((x7 + (0 : Int32))) ((x8 + (1 : Int32)))) else X5_estimate_L122 ρ x2 x4 x5 x6 K k ((x7 + (1 : Int32))) ((x8 + (1 : Int32)))) else X5_estimate_L122 ρ x2 x4 x5 x6 K k ((x7 + (0 : Int32))) ((x8 + (1 : Int32)))
def X5_estimate_L96 (ρ : Ms) (x2 : Int32) (x4 : Int32) : Nat → Int32 → Option (Int32)
  | 0, _ => none
  | k + 1, x5 => (rdA (ρ.1.1 0) 681 (1 : Int32)).bind fun v11 => if v11 ≤ x5 then (some (-2 : Int32)) else (X5_freeDay ρ x5 x2).bind fun v14 => X5_estimate_L122 ρ x2 x4 x5 v14 (fun y122_7 => if v14 < 0 then (X5_estimate_L96 ρ x2 x4 k ((x5 + (1 : Int32)))) else if y122_7 = x4 then (some v14) else X5_estimate_L96 ρ x2 x4 k ((x5 + (1 : Int32)))) FU (0 : Int32) (0 : Int32)
def X5_estimate_L48 (ρ : Ms) (x2 : Int32) (x3 : Int32) : Nat → Int32 → Int32 → Option (Int32)
  | 0, _, _ => none
  | k + 1, x4, x5 => if x3 ≤ x5 then (X5_estimate_L96 ρ x2 x4 FU (0 : Int32)) else (X5_hold ρ x5 (0 : Int32)).bind fun v19 => if v19 = x2 then ((X5_hold ρ x5 (3 : Int32)).bind fun v22 => if v22 = (-2 : Int32) then (X5_estimate_L48 ρ x2 x3 k ((x4 + (1 : Int32))) ((x5 + (1 : Int32)))) else X5_estimate_L48 ρ x2 x3 k ((x4 + (0 : Int32))) ((x5 + (1 : Int32)))) else X5_estimate_L48 ρ x2 x3 k ((x4 + (0 : Int32))) ((x5 + (1 : Int32)))
def X5_estimate (ρ : Ms) (p1 p2 : Int32) : Option (Int32) := (X5_isPatron ρ p1).bind fun v25 => if (bi v25) = 0 then (some (-1 : Int32)) else if (bi (X5_isTitle p2)) = 0 then (some (-1 : Int32)) else (X5_holdBy ρ p1 p2).bind fun v29 => if v29 < 0 then (some (-2 : Int32)) else (X5_hold ρ v29 (3 : Int32)).bind fun v32 => if v32 = (-2 : Int32) then (X5_estimate_L48 ρ p2 v29 FU (0 : Int32) (0 : Int32)) else some (-2 : Int32)
def rm_X5_estimate : Room := { frames := 3, cells := 0, slots := 0, locals := 66 }
theorem v_X5_estimate : WdV RX5 yX5_estimate cX5_estimate 10 (some .int) 2 := ⟨mI_X5_estimate, mS_X5_estimate, mZ_RX5, mC_X5_estimate, by decide +kernel⟩
set_option maxHeartbeats 8000000 in
set_option maxRecDepth 100000 in
theorem c_X5_estimate (l : Launch) (D : va_G) (cI cS : ClassId) (am : Nat → Nat) (ρ : Ms) (p1 p2 : Int32) (F : Int32) (hF : X5_estimate ρ p1 p2 = some F) : MI l yX5_estimate cX5_estimate 10 (some .int) rm_X5_estimate D cI cS [.ref (am 0), .int p1, .int p2] (mW am cI ρ) (mW am cI) (fun r u' => r = F ∧ u' = ρ) := by
  refine MI.mk RX5 rfl .int rfl (by decide) (Nat.le_of_ble_eq_true rfl) (fun _ _ _ => rfl) ?_
  intro p e s m args below meth c A Q ls Fc hin hA Z kret hl
  obtain ⟨hx, hb, hml, hown, hts, hKN⟩ := id Fc
  replace hl : lv_has ls 10 [(0, .ref (am 0)), (1, .int p1), (2, .int p2)] := hl
  have L122 : ∀ (x2 : Int32) (x4 : Int32) (x5 : Int32) (x6 : Int32) (K : Int32 → Option (Int32)) (hK : ∀ (y7 : Int32) (H : Heap) (locs : List Loc) (ls : Array Slot), K y7 = some F → Ix D A s (mW am cI ρ) H locs → lv_has ls 10 [(0, .ref (am 0)), (2, .int x2), (4, .int x4), (5, .int x5), (6, .int x6), (7, .int y7)] → W p l e rm_X5_estimate s m args below meth c H locs 0 0 Q (F0 m 189 ls [])) (k : Nat) (x7 : Int32) (x8 : Int32) (H : Heap) (locs : List Loc) (ls : Array Slot), X5_estimate_L122 ρ x2 x4 x5 x6 K  k x7 x8 = some F → Ix D A s (mW am cI ρ) H locs → lv_has ls 10 [(0, .ref (am 0)), (2, .int x2), (4, .int x4), (5, .int x5), (6, .int x6), (7, .int x7), (8, .int x8)] → W p l e rm_X5_estimate s m args below meth c H locs 0 0 Q (F0 m 122 ls []) := by
    intro x2 x4 x5 x6 K hK k
    induction k with
    | zero => intro x7 x8 H locs ls hF; rw [X5_estimate_L122] at hF; cases hF
    | succ k ih =>
      intro x7 x8 H locs ls hF Z hl
      rw [X5_estimate_L122] at hF
      refine lv_iload hx hb dX5_estimate_122 (lv_at hl 6 rfl) ?_
      refine lv_aload_n hx hb dX5_estimate_124 rfl (lv_at hl 0 rfl) ?_
      refine kget Fc Z inX5 0 rfl rfl 0 (by decide) mF_RX5_11 rfl rfl dX5_estimate_125 ?_
      refine lv_iconst (v := (1 : Int32)) hx hb dX5_estimate_128 (by decide) ?_
      obtain ⟨v1, h2, hF⟩ := obind hF
      refine kald Fc Z 1 rfl h2 dX5_estimate_129 ?_
      refine lv_icmp_ge (tgt := 189) hx hb dX5_estimate_130 (by decide) (fun c3 => ?_) (fun c3 => ?_)
      · rw [if_pos c3] at hF
        exact hK x7 _ _ _ hF Z (lv_sub hl [0, 1, 2, 3, 4, 5] rfl)
      · rw [if_neg c3] at hF
        refine lv_iload hx hb dX5_estimate_133 (lv_at hl 4 rfl) ?_
        refine lv_if_lt (tgt := 189) hx hb dX5_estimate_135 (by decide) (fun c4 => ?_) (fun c4 => ?_)
        · rw [if_pos c4] at hF
          exact hK x7 _ _ _ hF Z (lv_sub hl [0, 1, 2, 3, 4, 5] rfl)
        · rw [if_neg c4] at hF
          refine lv_aload_n hx hb dX5_estimate_138 rfl (lv_at hl 0 rfl) ?_
          refine lv_iload hx hb dX5_estimate_139 (lv_at hl 6 rfl) ?_
          refine lv_iload_n hx hb dX5_estimate_141 rfl (lv_at hl 1 rfl) ?_
          obtain ⟨v5, h6, hF⟩ := obind hF
          refine kr_i (As := [.int x8, .int x2]) Fc hA Z Lens.all (c_X5_freeDay l D cI cS am ρ x8 x2 v5 h6) mL_RX5_198 v_X5_freeDay ⟨rfl, rfl⟩ ⟨Nat.le_of_ble_eq_true rfl, Nat.le_of_ble_eq_true rfl⟩ ⟨Nat.zero_le _, Nat.zero_le _⟩ 0 5 rfl rfl rfl hl (Nat.le_of_ble_eq_true rfl) dX5_estimate_142 rfl (fun H locs Z => ?_)
          refine lv_istore (lv' := [(9, .int v5), (0, .ref (am 0)), (2, .int x2), (4, .int x4), (5, .int x5), (6, .int x6), (7, .int x7), (8, .int x8)]) hx hb dX5_estimate_145 hl (by decide) rfl (fun ls hl => ?_)
          refine lv_iload hx hb dX5_estimate_147 (lv_at hl 6 rfl) ?_
          refine lv_iload hx hb dX5_estimate_149 (lv_at hl 0 rfl) ?_
          refine lv_if_lt (tgt := 179) hx hb dX5_estimate_151 (by decide) (fun c7 => ?_) (fun c7 => ?_)
          · rw [if_pos c7] at hF
            refine lv_iconst (v := (0 : Int32)) hx hb dX5_estimate_179 (by decide) ?_
            refine lv_iadd hx hb dX5_estimate_180 ?_
            refine lv_istore (lv' := [(7, .int (x7 + (0 : Int32))), (9, .int v5), (0, .ref (am 0)), (2, .int x2), (4, .int x4), (5, .int x5), (6, .int x6), (8, .int x8)]) hx hb dX5_estimate_181 hl (by decide) rfl (fun ls hl => ?_)
            refine lv_iinc (v := (x8 + (1 : Int32))) (lv' := [(8, .int (x8 + (1 : Int32))), (7, .int (x7 + (0 : Int32))), (9, .int v5), (0, .ref (am 0)), (2, .int x2), (4, .int x4), (5, .int x5), (6, .int x6)]) hx hb dX5_estimate_183 hl (k := 7) rfl (by rfl) (by decide) rfl (fun ls hl => ?_)
            refine lv_goto (tgt := 122) hx hb dX5_estimate_186 (by decide) ?_
            exact ih ((x7 + (0 : Int32))) ((x8 + (1 : Int32))) _ _ _ hF Z (lv_sub hl [3, 4, 5, 6, 7, 1, 0] rfl)
          · rw [if_neg c7] at hF
            refine lv_iload hx hb dX5_estimate_154 (lv_at hl 0 rfl) ?_
            refine lv_iload hx hb dX5_estimate_156 (lv_at hl 5 rfl) ?_
            refine lv_icmp_lt (tgt := 175) hx hb dX5_estimate_158 (by decide) (fun c8 => ?_) (fun c8 => ?_)
            · rw [if_pos c8] at hF
              refine lv_iconst (v := (1 : Int32)) hx hb dX5_estimate_175 (by decide) ?_
              refine lv_goto (tgt := 180) hx hb dX5_estimate_176 (by decide) ?_
              refine lv_iadd hx hb dX5_estimate_180 ?_
              refine lv_istore (lv' := [(7, .int (x7 + (1 : Int32))), (9, .int v5), (0, .ref (am 0)), (2, .int x2), (4, .int x4), (5, .int x5), (6, .int x6), (8, .int x8)]) hx hb dX5_estimate_181 hl (by decide) rfl (fun ls hl => ?_)
              refine lv_iinc (v := (x8 + (1 : Int32))) (lv' := [(8, .int (x8 + (1 : Int32))), (7, .int (x7 + (1 : Int32))), (9, .int v5), (0, .ref (am 0)), (2, .int x2), (4, .int x4), (5, .int x5), (6, .int x6)]) hx hb dX5_estimate_183 hl (k := 7) rfl (by rfl) (by decide) rfl (fun ls hl => ?_)
              refine lv_goto (tgt := 122) hx hb dX5_estimate_186 (by decide) ?_
              exact ih ((x7 + (1 : Int32))) ((x8 + (1 : Int32))) _ _ _ hF Z (lv_sub hl [3, 4, 5, 6, 7, 1, 0] rfl)
            · rw [if_neg c8] at hF
              refine lv_iload hx hb dX5_estimate_161 (lv_at hl 0 rfl) ?_
              refine lv_iload hx hb dX5_estimate_163 (lv_at hl 5 rfl) ?_
              refine lv_icmp_ne (tgt := 179) hx hb dX5_estimate_165 (by decide) (fun c9 => ?_) (fun c9 => ?_)
              · rw [if_neg c9] at hF
                refine lv_iconst (v := (0 : Int32)) hx hb dX5_estimate_179 (by decide) ?_
                refine lv_iadd hx hb dX5_estimate_180 ?_
                refine lv_istore (lv' := [(7, .int (x7 + (0 : Int32))), (9, .int v5), (0, .ref (am 0)), (2, .int x2), (4, .int x4), (5, .int x5), (6, .int x6), (8, .int x8)]) hx hb dX5_estimate_181 hl (by decide) rfl (fun ls hl => ?_)
                refine lv_iinc (v := (x8 + (1 : Int32))) (lv' := [(8, .int (x8 + (1 : Int32))), (7, .int (x7 + (0 : Int32))), (9, .int v5), (0, .ref (am 0)), (2, .int x2), (4, .int x4), (5, .int x5), (6, .int x6)]) hx hb dX5_estimate_183 hl (k := 7) rfl (by rfl) (by decide) rfl (fun ls hl => ?_)
                refine lv_goto (tgt := 122) hx hb dX5_estimate_186 (by decide) ?_
                exact ih ((x7 + (0 : Int32))) ((x8 + (1 : Int32))) _ _ _ hF Z (lv_sub hl [3, 4, 5, 6, 7, 1, 0] rfl)
              · rw [if_pos c9] at hF
                refine lv_iload hx hb dX5_estimate_168 (lv_at hl 7 rfl) ?_
                refine lv_iload hx hb dX5_estimate_170 (lv_at hl 4 rfl) ?_
                refine lv_icmp_ge (tgt := 179) hx hb dX5_estimate_172 (by decide) (fun c10 => ?_) (fun c10 => ?_)
                · rw [if_pos c10] at hF
                  refine lv_iconst (v := (0 : Int32)) hx hb dX5_estimate_179 (by decide) ?_
                  refine lv_iadd hx hb dX5_estimate_180 ?_
                  refine lv_istore (lv' := [(7, .int (x7 + (0 : Int32))), (9, .int v5), (0, .ref (am 0)), (2, .int x2), (4, .int x4), (5, .int x5), (6, .int x6), (8, .int x8)]) hx hb dX5_estimate_181 hl (by decide) rfl (fun ls hl => ?_)
                  refine lv_iinc (v := (x8 + (1 : Int32))) (lv' := [(8, .int (x8 + (1 : Int32))), (7, .int (x7 + (0 : Int32))), (9, .int v5), (0, .ref (am 0)), (2, .int x2), (4, .int x4), (5, .int x5), (6, .int x6)]) hx hb dX5_estimate_183 hl (k := 7) rfl (by rfl) (by decide) rfl (fun ls hl => ?_)
                  refine lv_goto (tgt := 122) hx hb dX5_estimate_186 (by decide) ?_
                  exact ih ((x7 + (0 : Int32))) ((x8 + (1 : Int32))) _ _ _ hF Z (lv_sub hl [3, 4, 5, 6, 7, 1, 0] rfl)
                · rw [if_neg c10] at hF
                  refine lv_iconst (v := (1 : Int32)) hx hb dX5_estimate_175 (by decide) ?_
                  refine lv_goto (tgt := 180) hx hb dX5_estimate_176 (by decide) ?_
                  refine lv_iadd hx hb dX5_estimate_180 ?_
                  refine lv_istore (lv' := [(7, .int (x7 + (1 : Int32))), (9, .int v5), (0, .ref (am 0)), (2, .int x2), (4, .int x4), (5, .int x5), (6, .int x6), (8, .int x8)]) hx hb dX5_estimate_181 hl (by decide) rfl (fun ls hl => ?_)
                  refine lv_iinc (v := (x8 + (1 : Int32))) (lv' := [(8, .int (x8 + (1 : Int32))), (7, .int (x7 + (1 : Int32))), (9, .int v5), (0, .ref (am 0)), (2, .int x2), (4, .int x4), (5, .int x5), (6, .int x6)]) hx hb dX5_estimate_183 hl (k := 7) rfl (by rfl) (by decide) rfl (fun ls hl => ?_)
                  refine lv_goto (tgt := 122) hx hb dX5_estimate_186 (by decide) ?_
                  exact ih ((x7 + (1 : Int32))) ((x8 + (1 : Int32))) _ _ _ hF Z (lv_sub hl [3, 4, 5, 6, 7, 1, 0] rfl)
  have L96 : ∀ (x2 : Int32) (x4 : Int32) (k : Nat) (x5 : Int32) (H : Heap) (locs : List Loc) (ls : Array Slot), X5_estimate_L96 ρ x2 x4  k x5 = some F → Ix D A s (mW am cI ρ) H locs → lv_has ls 10 [(0, .ref (am 0)), (2, .int x2), (4, .int x4), (5, .int x5)] → W p l e rm_X5_estimate s m args below meth c H locs 0 0 Q (F0 m 96 ls []) := by
    intro x2 x4 k
    induction k with
    | zero => intro x5 H locs ls hF; rw [X5_estimate_L96] at hF; cases hF
    | succ k ih =>
      intro x5 H locs ls hF Z hl
      rw [X5_estimate_L96] at hF
      refine lv_iload hx hb dX5_estimate_96 (lv_at hl 3 rfl) ?_
      refine lv_aload_n hx hb dX5_estimate_98 rfl (lv_at hl 0 rfl) ?_
      refine kget Fc Z inX5 0 rfl rfl 0 (by decide) mF_RX5_11 rfl rfl dX5_estimate_99 ?_
      refine lv_iconst (v := (1 : Int32)) hx hb dX5_estimate_102 (by decide) ?_
      obtain ⟨v11, h12, hF⟩ := obind hF
      refine kald Fc Z 1 rfl h12 dX5_estimate_103 ?_
      refine lv_icmp_ge (tgt := 210) hx hb dX5_estimate_104 (by decide) (fun c13 => ?_) (fun c13 => ?_)
      · rw [if_pos c13] at hF
        refine lv_bipush (v := (-2 : Int32)) hx hb dX5_estimate_210 (by decide) ?_
        exact kret (-2 : Int32) ρ _ _ _ _ ⟨(Option.some.inj hF), rfl⟩ Z dX5_estimate_212
      · rw [if_neg c13] at hF
        refine lv_aload_n hx hb dX5_estimate_107 rfl (lv_at hl 0 rfl) ?_
        refine lv_iload hx hb dX5_estimate_108 (lv_at hl 3 rfl) ?_
        refine lv_iload_n hx hb dX5_estimate_110 rfl (lv_at hl 1 rfl) ?_
        obtain ⟨v14, h15, hF⟩ := obind hF
        refine kr_i (As := [.int x5, .int x2]) Fc hA Z Lens.all (c_X5_freeDay l D cI cS am ρ x5 x2 v14 h15) mL_RX5_198 v_X5_freeDay ⟨rfl, rfl⟩ ⟨Nat.le_of_ble_eq_true rfl, Nat.le_of_ble_eq_true rfl⟩ ⟨Nat.zero_le _, Nat.zero_le _⟩ 0 5 rfl rfl rfl hl (Nat.le_of_ble_eq_true rfl) dX5_estimate_111 rfl (fun H locs Z => ?_)
        refine lv_istore (lv' := [(6, .int v14), (0, .ref (am 0)), (2, .int x2), (4, .int x4), (5, .int x5)]) hx hb dX5_estimate_114 hl (by decide) rfl (fun ls hl => ?_)
        refine lv_iconst (v := (0 : Int32)) hx hb dX5_estimate_116 (by decide) ?_
        refine lv_istore (lv' := [(7, .int (0 : Int32)), (6, .int v14), (0, .ref (am 0)), (2, .int x2), (4, .int x4), (5, .int x5)]) hx hb dX5_estimate_117 hl (by decide) rfl (fun ls hl => ?_)
        refine lv_iconst (v := (0 : Int32)) hx hb dX5_estimate_119 (by decide) ?_
        refine lv_istore (lv' := [(8, .int (0 : Int32)), (7, .int (0 : Int32)), (6, .int v14), (0, .ref (am 0)), (2, .int x2), (4, .int x4), (5, .int x5)]) hx hb dX5_estimate_120 hl (by decide) rfl (fun ls hl => ?_)
        refine L122 x2 x4 x5 v14 _ ?_ _ (0 : Int32) (0 : Int32) _ _ _ hF Z (lv_sub hl [3, 4, 5, 6, 2, 1, 0] rfl)
        intro y122_7 H locs ls hF Z hl
        refine lv_iload hx hb dX5_estimate_189 (lv_at hl 4 rfl) ?_
        refine lv_if_lt (tgt := 204) hx hb dX5_estimate_191 (by decide) (fun c16 => ?_) (fun c16 => ?_)
        · rw [if_pos c16] at hF
          refine lv_iinc (v := (x5 + (1 : Int32))) (lv' := [(5, .int (x5 + (1 : Int32))), (0, .ref (am 0)), (2, .int x2), (4, .int x4), (6, .int v14), (7, .int y122_7)]) hx hb dX5_estimate_204 hl (k := 3) rfl (by rfl) (by decide) rfl (fun ls hl => ?_)
          refine lv_goto (tgt := 96) hx hb dX5_estimate_207 (by decide) ?_
          exact ih ((x5 + (1 : Int32))) _ _ _ hF Z (lv_sub hl [1, 2, 3, 0] rfl)
        · rw [if_neg c16] at hF
          refine lv_iload hx hb dX5_estimate_194 (lv_at hl 5 rfl) ?_
          refine lv_iload hx hb dX5_estimate_196 (lv_at hl 2 rfl) ?_
          refine lv_icmp_ne (tgt := 204) hx hb dX5_estimate_198 (by decide) (fun c17 => ?_) (fun c17 => ?_)
          · rw [if_neg c17] at hF
            refine lv_iinc (v := (x5 + (1 : Int32))) (lv' := [(5, .int (x5 + (1 : Int32))), (0, .ref (am 0)), (2, .int x2), (4, .int x4), (6, .int v14), (7, .int y122_7)]) hx hb dX5_estimate_204 hl (k := 3) rfl (by rfl) (by decide) rfl (fun ls hl => ?_)
            refine lv_goto (tgt := 96) hx hb dX5_estimate_207 (by decide) ?_
            exact ih ((x5 + (1 : Int32))) _ _ _ hF Z (lv_sub hl [1, 2, 3, 0] rfl)
          · rw [if_pos c17] at hF
            refine lv_iload hx hb dX5_estimate_201 (lv_at hl 4 rfl) ?_
            exact kret v14 ρ _ _ _ _ ⟨(Option.some.inj hF), rfl⟩ Z dX5_estimate_203
  have L48 : ∀ (x2 : Int32) (x3 : Int32) (k : Nat) (x4 : Int32) (x5 : Int32) (H : Heap) (locs : List Loc) (ls : Array Slot), X5_estimate_L48 ρ x2 x3  k x4 x5 = some F → Ix D A s (mW am cI ρ) H locs → lv_has ls 10 [(0, .ref (am 0)), (2, .int x2), (3, .int x3), (4, .int x4), (5, .int x5)] → W p l e rm_X5_estimate s m args below meth c H locs 0 0 Q (F0 m 48 ls []) := by
    intro x2 x3 k
    induction k with
    | zero => intro x4 x5 H locs ls hF; rw [X5_estimate_L48] at hF; cases hF
    | succ k ih =>
      intro x4 x5 H locs ls hF Z hl
      rw [X5_estimate_L48] at hF
      refine lv_iload hx hb dX5_estimate_48 (lv_at hl 4 rfl) ?_
      refine lv_iload_n hx hb dX5_estimate_50 rfl (lv_at hl 2 rfl) ?_
      refine lv_icmp_ge (tgt := 93) hx hb dX5_estimate_51 (by decide) (fun c18 => ?_) (fun c18 => ?_)
      · rw [if_pos c18] at hF
        refine lv_iconst (v := (0 : Int32)) hx hb dX5_estimate_93 (by decide) ?_
        refine lv_istore (lv' := [(5, .int (0 : Int32)), (0, .ref (am 0)), (2, .int x2), (3, .int x3), (4, .int x4)]) hx hb dX5_estimate_94 hl (by decide) rfl (fun ls hl => ?_)
        exact L96 x2 x4 FU (0 : Int32) _ _ _ hF Z (lv_sub hl [1, 2, 4, 0] rfl)
      · rw [if_neg c18] at hF
        refine lv_iload hx hb dX5_estimate_54 (lv_at hl 3 rfl) ?_
        refine lv_aload_n hx hb dX5_estimate_56 rfl (lv_at hl 0 rfl) ?_
        refine lv_iload hx hb dX5_estimate_57 (lv_at hl 4 rfl) ?_
        refine lv_iconst (v := (0 : Int32)) hx hb dX5_estimate_59 (by decide) ?_
        obtain ⟨v19, h20, hF⟩ := obind hF
        refine kr_i (As := [.int x5, .int (0 : Int32)]) Fc hA Z Lens.all (c_X5_hold l D cI cS am ρ x5 (0 : Int32) v19 h20) mL_RX5_59 v_X5_hold ⟨rfl, rfl⟩ ⟨Nat.le_of_ble_eq_true rfl, Nat.le_of_ble_eq_true rfl⟩ ⟨Nat.zero_le _, Nat.zero_le _⟩ 0 5 rfl rfl rfl hl (Nat.le_of_ble_eq_true rfl) dX5_estimate_60 rfl (fun H locs Z => ?_)
        refine lv_iload_n hx hb dX5_estimate_63 rfl (lv_at hl 1 rfl) ?_
        refine lv_icmp_ne (tgt := 83) hx hb dX5_estimate_64 (by decide) (fun c21 => ?_) (fun c21 => ?_)
        · rw [if_neg c21] at hF
          refine lv_iconst (v := (0 : Int32)) hx hb dX5_estimate_83 (by decide) ?_
          refine lv_iadd hx hb dX5_estimate_84 ?_
          refine lv_istore (lv' := [(4, .int (x4 + (0 : Int32))), (0, .ref (am 0)), (2, .int x2), (3, .int x3), (5, .int x5)]) hx hb dX5_estimate_85 hl (by decide) rfl (fun ls hl => ?_)
          refine lv_iinc (v := (x5 + (1 : Int32))) (lv' := [(5, .int (x5 + (1 : Int32))), (4, .int (x4 + (0 : Int32))), (0, .ref (am 0)), (2, .int x2), (3, .int x3)]) hx hb dX5_estimate_87 hl (k := 4) rfl (by rfl) (by decide) rfl (fun ls hl => ?_)
          refine lv_goto (tgt := 48) hx hb dX5_estimate_90 (by decide) ?_
          exact ih ((x4 + (0 : Int32))) ((x5 + (1 : Int32))) _ _ _ hF Z (lv_sub hl [2, 3, 4, 1, 0] rfl)
        · rw [if_pos c21] at hF
          refine lv_aload_n hx hb dX5_estimate_67 rfl (lv_at hl 0 rfl) ?_
          refine lv_iload hx hb dX5_estimate_68 (lv_at hl 4 rfl) ?_
          refine lv_iconst (v := (3 : Int32)) hx hb dX5_estimate_70 (by decide) ?_
          obtain ⟨v22, h23, hF⟩ := obind hF
          refine kr_i (As := [.int x5, .int (3 : Int32)]) Fc hA Z Lens.all (c_X5_hold l D cI cS am ρ x5 (3 : Int32) v22 h23) mL_RX5_59 v_X5_hold ⟨rfl, rfl⟩ ⟨Nat.le_of_ble_eq_true rfl, Nat.le_of_ble_eq_true rfl⟩ ⟨Nat.zero_le _, Nat.zero_le _⟩ 0 5 rfl rfl rfl hl (Nat.le_of_ble_eq_true rfl) dX5_estimate_71 rfl (fun H locs Z => ?_)
          refine lv_bipush (v := (-2 : Int32)) hx hb dX5_estimate_74 (by decide) ?_
          refine lv_icmp_ne (tgt := 83) hx hb dX5_estimate_76 (by decide) (fun c24 => ?_) (fun c24 => ?_)
          · rw [if_neg c24] at hF
            refine lv_iconst (v := (0 : Int32)) hx hb dX5_estimate_83 (by decide) ?_
            refine lv_iadd hx hb dX5_estimate_84 ?_
            refine lv_istore (lv' := [(4, .int (x4 + (0 : Int32))), (0, .ref (am 0)), (2, .int x2), (3, .int x3), (5, .int x5)]) hx hb dX5_estimate_85 hl (by decide) rfl (fun ls hl => ?_)
            refine lv_iinc (v := (x5 + (1 : Int32))) (lv' := [(5, .int (x5 + (1 : Int32))), (4, .int (x4 + (0 : Int32))), (0, .ref (am 0)), (2, .int x2), (3, .int x3)]) hx hb dX5_estimate_87 hl (k := 4) rfl (by rfl) (by decide) rfl (fun ls hl => ?_)
            refine lv_goto (tgt := 48) hx hb dX5_estimate_90 (by decide) ?_
            exact ih ((x4 + (0 : Int32))) ((x5 + (1 : Int32))) _ _ _ hF Z (lv_sub hl [2, 3, 4, 1, 0] rfl)
          · rw [if_pos c24] at hF
            refine lv_iconst (v := (1 : Int32)) hx hb dX5_estimate_79 (by decide) ?_
            refine lv_goto (tgt := 84) hx hb dX5_estimate_80 (by decide) ?_
            refine lv_iadd hx hb dX5_estimate_84 ?_
            refine lv_istore (lv' := [(4, .int (x4 + (1 : Int32))), (0, .ref (am 0)), (2, .int x2), (3, .int x3), (5, .int x5)]) hx hb dX5_estimate_85 hl (by decide) rfl (fun ls hl => ?_)
            refine lv_iinc (v := (x5 + (1 : Int32))) (lv' := [(5, .int (x5 + (1 : Int32))), (4, .int (x4 + (1 : Int32))), (0, .ref (am 0)), (2, .int x2), (3, .int x3)]) hx hb dX5_estimate_87 hl (k := 4) rfl (by rfl) (by decide) rfl (fun ls hl => ?_)
            refine lv_goto (tgt := 48) hx hb dX5_estimate_90 (by decide) ?_
            exact ih ((x4 + (1 : Int32))) ((x5 + (1 : Int32))) _ _ _ hF Z (lv_sub hl [2, 3, 4, 1, 0] rfl)
  unfold X5_estimate at hF
  refine lv_aload_n hx hb dX5_estimate_0 rfl (lv_at hl 0 rfl) ?_
  refine lv_iload_n hx hb dX5_estimate_1 rfl (lv_at hl 1 rfl) ?_
  obtain ⟨v25, h26, hF⟩ := obind hF
  refine kr_i (As := [.int p1]) Fc hA Z Lens.all (c_X5_isPatron l D cI cS am ρ p1 v25 h26) mL_RX5_147 v_X5_isPatron ⟨rfl, rfl⟩ ⟨Nat.le_of_ble_eq_true rfl, Nat.le_of_ble_eq_true rfl⟩ ⟨Nat.zero_le _, Nat.zero_le _⟩ 0 5 rfl rfl rfl hl (Nat.le_of_ble_eq_true rfl) dX5_estimate_2 rfl (fun H locs Z => ?_)
  refine lv_if_eq (tgt := 15) hx hb dX5_estimate_5 (by decide) (fun c27 => ?_) (fun c27 => ?_)
  · rw [if_pos c27] at hF
    refine lv_iconst (v := (-1 : Int32)) hx hb dX5_estimate_15 (by decide) ?_
    exact kret (-1 : Int32) ρ _ _ _ _ ⟨(Option.some.inj hF), rfl⟩ Z dX5_estimate_16
  · rw [if_neg c27] at hF
    refine lv_iload_n hx hb dX5_estimate_8 rfl (lv_at hl 2 rfl) ?_
    refine ks_i (As := [.int p2]) Fc hA Z (c_X5_isTitle l D cI cS p2 (X5_isTitle p2) rfl) mL_RX5_89 v_X5_isTitle ⟨rfl, rfl⟩ ⟨Nat.le_of_ble_eq_true rfl, Nat.le_of_ble_eq_true rfl⟩ ⟨Nat.zero_le _, Nat.zero_le _⟩ rfl hl (Nat.le_of_ble_eq_true rfl) dX5_estimate_9 rfl (fun H locs Z => ?_)
    refine lv_if_ne (tgt := 17) hx hb dX5_estimate_12 (by decide) (fun c28 => ?_) (fun c28 => ?_)
    · rw [if_neg c28] at hF
      refine lv_aload_n hx hb dX5_estimate_17 rfl (lv_at hl 0 rfl) ?_
      refine lv_iload_n hx hb dX5_estimate_18 rfl (lv_at hl 1 rfl) ?_
      refine lv_iload_n hx hb dX5_estimate_19 rfl (lv_at hl 2 rfl) ?_
      obtain ⟨v29, h30, hF⟩ := obind hF
      refine kr_i (As := [.int p1, .int p2]) Fc hA Z Lens.all (c_X5_holdBy l D cI cS am ρ p1 p2 v29 h30) mL_RX5_174 v_X5_holdBy ⟨rfl, rfl⟩ ⟨Nat.le_of_ble_eq_true rfl, Nat.le_of_ble_eq_true rfl⟩ ⟨Nat.zero_le _, Nat.zero_le _⟩ 0 5 rfl rfl rfl hl (Nat.le_of_ble_eq_true rfl) dX5_estimate_20 rfl (fun H locs Z => ?_)
      refine lv_istore_n (lv' := [(3, .int v29), (0, .ref (am 0)), (1, .int p1), (2, .int p2)]) hx hb dX5_estimate_23 rfl hl (by decide) rfl (fun ls hl => ?_)
      refine lv_iload_n hx hb dX5_estimate_24 rfl (lv_at hl 0 rfl) ?_
      refine lv_if_lt (tgt := 39) hx hb dX5_estimate_25 (by decide) (fun c31 => ?_) (fun c31 => ?_)
      · rw [if_pos c31] at hF
        refine lv_bipush (v := (-2 : Int32)) hx hb dX5_estimate_39 (by decide) ?_
        exact kret (-2 : Int32) ρ _ _ _ _ ⟨(Option.some.inj hF), rfl⟩ Z dX5_estimate_41
      · rw [if_neg c31] at hF
        refine lv_aload_n hx hb dX5_estimate_28 rfl (lv_at hl 1 rfl) ?_
        refine lv_iload_n hx hb dX5_estimate_29 rfl (lv_at hl 0 rfl) ?_
        refine lv_iconst (v := (3 : Int32)) hx hb dX5_estimate_30 (by decide) ?_
        obtain ⟨v32, h33, hF⟩ := obind hF
        refine kr_i (As := [.int v29, .int (3 : Int32)]) Fc hA Z Lens.all (c_X5_hold l D cI cS am ρ v29 (3 : Int32) v32 h33) mL_RX5_59 v_X5_hold ⟨rfl, rfl⟩ ⟨Nat.le_of_ble_eq_true rfl, Nat.le_of_ble_eq_true rfl⟩ ⟨Nat.zero_le _, Nat.zero_le _⟩ 0 5 rfl rfl rfl hl (Nat.le_of_ble_eq_true rfl) dX5_estimate_31 rfl (fun H locs Z => ?_)
        refine lv_bipush (v := (-2 : Int32)) hx hb dX5_estimate_34 (by decide) ?_
        refine lv_icmp_eq (tgt := 42) hx hb dX5_estimate_36 (by decide) (fun c34 => ?_) (fun c34 => ?_)
        · rw [if_pos c34] at hF
          refine lv_iconst (v := (0 : Int32)) hx hb dX5_estimate_42 (by decide) ?_
          refine lv_istore (lv' := [(4, .int (0 : Int32)), (3, .int v29), (0, .ref (am 0)), (1, .int p1), (2, .int p2)]) hx hb dX5_estimate_43 hl (by decide) rfl (fun ls hl => ?_)
          refine lv_iconst (v := (0 : Int32)) hx hb dX5_estimate_45 (by decide) ?_
          refine lv_istore (lv' := [(5, .int (0 : Int32)), (4, .int (0 : Int32)), (3, .int v29), (0, .ref (am 0)), (1, .int p1), (2, .int p2)]) hx hb dX5_estimate_46 hl (by decide) rfl (fun ls hl => ?_)
          exact L48 p2 v29 FU (0 : Int32) (0 : Int32) _ _ _ hF Z (lv_sub hl [3, 5, 2, 1, 0] rfl)
        · rw [if_neg c34] at hF
          refine lv_bipush (v := (-2 : Int32)) hx hb dX5_estimate_39 (by decide) ?_
          exact kret (-2 : Int32) ρ _ _ _ _ ⟨(Option.some.inj hF), rfl⟩ Z dX5_estimate_41
    · rw [if_pos c28] at hF
      refine lv_iconst (v := (-1 : Int32)) hx hb dX5_estimate_15 (by decide) ?_
      exact kret (-1 : Int32) ρ _ _ _ _ ⟨(Option.some.inj hF), rfl⟩ Z dX5_estimate_16
def X5_execute_L85 : Nat → Int32 → Ms → Option (Int32 × Ms)
  | 0, _, _ => none
  | k + 1, x2, ρ => if (ρ.1.2 1) ≤ (ρ.1.2 2) then (bnd (msI ρ 1 (0 : Int32)) fun ρ2 => (X5_made ρ2 x2).bind fun q4 => some (q4.1, q4.2)) else if x2 ≤ 0 then ((X5_command ρ).bind fun q7 => (X5_does q7.2 q7.1).bind fun q9 => if 0 ≤ q9.1 then (X5_execute_L85 k ((x2 + (1 : Int32))) q9.2) else (X5_copies2 681 681 (q9.2.1.1 1) (q9.2.1.1 0) (0 : Int32) (0 : Int32)).bind fun g12 => bnd (msA q9.2 0 g12) fun ρ14 => bnd (msI ρ14 1 (0 : Int32)) fun ρ16 => some ((((-300 : Int32) - x2), ρ16))) else bnd (msI ρ 2 ((ρ.1.2 2) + (1 : Int32))) fun ρ18 => (X5_command ρ18).bind fun q20 => (X5_does q20.2 q20.1).bind fun q22 => if 0 ≤ q22.1 then (X5_execute_L85 k ((x2 + (1 : Int32))) q22.2) else (X5_copies2 681 681 (q22.2.1.1 1) (q22.2.1.1 0) (0 : Int32) (0 : Int32)).bind fun g25 => bnd (msA q22.2 0 g25) fun ρ27 => bnd (msI ρ27 1 (0 : Int32)) fun ρ29 => some ((((-300 : Int32) - x2), ρ29))
def X5_execute_L15 : Nat → Ms → Option (Int32 × Ms)
  | 0, _ => none
  | k + 1, ρ => (X5_sign ρ).bind fun v31 => if v31 = (59 : Int32) then (bnd (msI ρ 2 ((ρ.1.2 2) + (1 : Int32))) fun ρ44 => (X5_command ρ44).bind fun q46 => X5_execute_L15 k q46.2) else if (bi ρ.2.2) = 0 then (if (ρ.1.2 1) ≤ (ρ.1.2 2) then ((X5_keeps ρ).bind fun q38 => bnd (msI q38 2 (0 : Int32)) fun ρ40 => X5_execute_L85 FU (0 : Int32) ρ40) else bnd (msI ρ 1 (0 : Int32)) fun ρ42 => some ((((-200 : Int32) - (ρ42.1.2 2)), ρ42))) else bnd (msI ρ 1 (0 : Int32)) fun ρ35 => some ((((-200 : Int32) - (ρ35.1.2 2)), ρ35))
def X5_execute (ρ : Ms) : Option (Int32 × Ms) := bnd (msI ρ 2 (0 : Int32)) fun ρ48 => bnd (msW ρ48 false) fun ρ50 => (X5_command ρ50).bind fun q52 => X5_execute_L15 FU q52.2
def rm_X5_execute : Room := { frames := 7, cells := 0, slots := 0, locals := 160 }
theorem v_X5_execute : WdV RX5 yX5_execute cX5_execute 3 (some .int) 0 := ⟨mI_X5_execute, mS_X5_execute, mZ_RX5, mC_X5_execute, by decide +kernel⟩
set_option maxHeartbeats 8000000 in
set_option maxRecDepth 100000 in
theorem c_X5_execute (l : Launch) (D : va_G) (cI cS : ClassId) (am : Nat → Nat) (ρ : Ms) (F : Int32 × Ms) (hF : X5_execute ρ = some F) : MI l yX5_execute cX5_execute 3 (some .int) rm_X5_execute D cI cS [.ref (am 0)] (mW am cI ρ) (mW am cI) (fun r u => r = F.1 ∧ u = F.2 ∧ True) := by
  refine MI.mk RX5 rfl .int rfl (by decide) (Nat.le_of_ble_eq_true rfl) (fun _ _ _ => rfl) ?_
  intro p e s m args below meth c A Q ls Fc hin hA Z kret hl
  obtain ⟨hx, hb, hml, hown, hts, hKN⟩ := id Fc
  replace hl : lv_has ls 3 [(0, .ref (am 0))] := hl
  have L85 : ∀ (k : Nat) (x2 : Int32) (ρ : Ms) (H : Heap) (locs : List Loc) (ls : Array Slot), X5_execute_L85  k x2 ρ = some F → Ix D A s (mW am cI ρ) H locs → lv_has ls 3 [(0, .ref (am 0)), (2, .int x2)] → W p l e rm_X5_execute s m args below meth c H locs 0 0 Q (F0 m 85 ls []) := by
    intro k
    induction k with
    | zero => intro x2 ρ H locs ls hF; rw [X5_execute_L85] at hF; cases hF
    | succ k ih =>
      intro x2 ρ H locs ls hF Z hl
      rw [X5_execute_L85] at hF
      refine lv_aload_n hx hb dX5_execute_85 rfl (lv_at hl 0 rfl) ?_
      refine kget Fc Z inX5 0 rfl rfl 9 (by decide) mF_RX5_41 rfl rfl dX5_execute_86 ?_
      refine lv_aload_n hx hb dX5_execute_89 rfl (lv_at hl 0 rfl) ?_
      refine kget Fc Z inX5 0 rfl rfl 8 (by decide) mF_RX5_38 rfl rfl dX5_execute_90 ?_
      refine lv_icmp_ge (tgt := 153) hx hb dX5_execute_93 (by decide) (fun c1 => ?_) (fun c1 => ?_)
      · rw [if_pos c1] at hF
        refine lv_aload_n hx hb dX5_execute_153 rfl (lv_at hl 0 rfl) ?_
        refine lv_iconst (v := (0 : Int32)) hx hb dX5_execute_154 (by decide) ?_
        obtain ⟨ρ2, e3, hF⟩ := bnd_el hF
        refine kput (v := .int (0 : Int32)) (ty := .int) (w' := mW am cI ρ2) Fc Z inX5 tyX5 tyX5_ok nmX5 0 rfl rfl 8 (by decide) mF_RX5_38 rfl rfl rfl rfl rfl (Nat.le_of_ble_eq_true rfl) (by rw [e3]; rfl) dX5_execute_155 (fun H locs Z => ?_)
        refine lv_aload_n hx hb dX5_execute_158 rfl (lv_at hl 0 rfl) ?_
        refine lv_iload_n hx hb dX5_execute_159 rfl (lv_at hl 1 rfl) ?_
        obtain ⟨q4, h5, hF⟩ := obind hF
        refine km_i (As := [.int x2]) (ok := (fun _ => True)) Fc hA Z Lens.all (c_X5_made l D cI cS am ρ2 x2 q4 h5) mL_RX5_103 v_X5_made ⟨rfl, rfl⟩ ⟨Nat.le_of_ble_eq_true rfl, Nat.le_of_ble_eq_true rfl⟩ ⟨Nat.zero_le _, Nat.zero_le _⟩ 0 5 rfl rfl rfl hl (Nat.le_of_ble_eq_true rfl) dX5_execute_160 rfl (fun H locs ok1 Z => ?_)
        exact kret q4.1 q4.2 _ _ _ _ ⟨(pfst (Option.some.inj hF)), psnd (Option.some.inj hF), trivial⟩ Z dX5_execute_163
      · rw [if_neg c1] at hF
        refine lv_iload_n hx hb dX5_execute_96 rfl (lv_at hl 1 rfl) ?_
        refine lv_if_le (tgt := 110) hx hb dX5_execute_97 (by decide) (fun c6 => ?_) (fun c6 => ?_)
        · rw [if_pos c6] at hF
          refine lv_aload_n hx hb dX5_execute_110 rfl (lv_at hl 0 rfl) ?_
          obtain ⟨q7, h8, hF⟩ := obind hF
          refine km_i (As := []) (ok := (fun _ => True)) Fc hA Z Lens.all (c_X5_command l D cI cS am ρ  q7 h8) mL_RX5_221 v_X5_command ⟨rfl, rfl⟩ ⟨Nat.le_of_ble_eq_true rfl, Nat.le_of_ble_eq_true rfl⟩ ⟨Nat.zero_le _, Nat.zero_le _⟩ 0 5 rfl rfl rfl hl (Nat.le_of_ble_eq_true rfl) dX5_execute_111 rfl (fun H locs ok1 Z => ?_)
          refine lv_istore_n (lv' := [(1, .int q7.1), (0, .ref (am 0)), (2, .int x2)]) hx hb dX5_execute_114 rfl hl (by decide) rfl (fun ls hl => ?_)
          refine lv_aload_n hx hb dX5_execute_115 rfl (lv_at hl 1 rfl) ?_
          refine lv_iload_n hx hb dX5_execute_116 rfl (lv_at hl 0 rfl) ?_
          obtain ⟨q9, h10, hF⟩ := obind hF
          refine km_i (As := [.int q7.1]) (ok := (fun _ => True)) Fc hA Z Lens.all (c_X5_does l D cI cS am q7.2 q7.1 q9 h10) mL_RX5_224 v_X5_does ⟨rfl, rfl⟩ ⟨Nat.le_of_ble_eq_true rfl, Nat.le_of_ble_eq_true rfl⟩ ⟨Nat.zero_le _, Nat.zero_le _⟩ 0 5 rfl rfl rfl hl (Nat.le_of_ble_eq_true rfl) dX5_execute_117 rfl (fun H locs ok1 Z => ?_)
          refine lv_if_ge (tgt := 147) hx hb dX5_execute_120 (by decide) (fun c11 => ?_) (fun c11 => ?_)
          · rw [if_pos c11] at hF
            refine lv_iinc (v := (x2 + (1 : Int32))) (lv' := [(2, .int (x2 + (1 : Int32))), (1, .int q7.1), (0, .ref (am 0))]) hx hb dX5_execute_147 hl (k := 2) rfl (by rfl) (by decide) rfl (fun ls hl => ?_)
            refine lv_goto (tgt := 85) hx hb dX5_execute_150 (by decide) ?_
            exact ih ((x2 + (1 : Int32))) q9.2 _ _ _ hF Z (lv_sub hl [2, 0] rfl)
          · rw [if_neg c11] at hF
            refine lv_aload_n hx hb dX5_execute_123 rfl (lv_at hl 1 rfl) ?_
            refine kget Fc Z inX5 0 rfl rfl 1 (by decide) mF_RX5_15 rfl rfl dX5_execute_124 ?_
            refine lv_iconst (v := (0 : Int32)) hx hb dX5_execute_127 (by decide) ?_
            refine lv_aload_n hx hb dX5_execute_128 rfl (lv_at hl 1 rfl) ?_
            refine kget Fc Z inX5 0 rfl rfl 0 (by decide) mF_RX5_11 rfl rfl dX5_execute_129 ?_
            refine lv_iconst (v := (0 : Int32)) hx hb dX5_execute_132 (by decide) ?_
            obtain ⟨g12, h13, hF⟩ := obind hF
            obtain ⟨ρ14, e15, hF⟩ := bnd_el hF
            refine ksv_i (As := [.ref (am 2), .int (0 : Int32), .ref (am 1), .int (0 : Int32)]) Fc hA Z (Lens.m2_1_0) (c_X5_copies2 l D cI cS (am 2) (am 1) 681 681 (q9.2.1.1 1) (q9.2.1.1 0) (0 : Int32) (0 : Int32) g12 h13) mL_RX5_47 v_X5_copies ⟨rfl, rfl⟩ ⟨Nat.le_of_ble_eq_true rfl, Nat.le_of_ble_eq_true rfl⟩ ⟨Nat.zero_le _, Nat.zero_le _⟩ rfl hl (Nat.le_of_ble_eq_true rfl) dX5_execute_133 rfl (fun H locs Z => ?_)
            have Z : Ix D A s (mW am cI ρ14) H locs := by rw [e15]; exact Z
            refine lv_aload_n hx hb dX5_execute_136 rfl (lv_at hl 1 rfl) ?_
            refine lv_iconst (v := (0 : Int32)) hx hb dX5_execute_137 (by decide) ?_
            obtain ⟨ρ16, e17, hF⟩ := bnd_el hF
            refine kput (v := .int (0 : Int32)) (ty := .int) (w' := mW am cI ρ16) Fc Z inX5 tyX5 tyX5_ok nmX5 0 rfl rfl 8 (by decide) mF_RX5_38 rfl rfl rfl rfl rfl (Nat.le_of_ble_eq_true rfl) (by rw [e17]; rfl) dX5_execute_138 (fun H locs Z => ?_)
            refine lv_sipush (v := (-300 : Int32)) hx hb dX5_execute_141 (by decide) ?_
            refine lv_iload_n hx hb dX5_execute_144 rfl (lv_at hl 2 rfl) ?_
            refine lv_isub hx hb dX5_execute_145 ?_
            exact kret (((-300 : Int32) - x2)) ρ16 _ _ _ _ ⟨(pfst (Option.some.inj hF)), psnd (Option.some.inj hF), trivial⟩ Z dX5_execute_146
        · rw [if_neg c6] at hF
          refine lv_aload_n hx hb dX5_execute_100 rfl (lv_at hl 0 rfl) ?_
          refine lv_dup hx hb dX5_execute_101 rfl ?_
          refine kget Fc Z inX5 0 rfl rfl 9 (by decide) mF_RX5_41 rfl rfl dX5_execute_102 ?_
          refine lv_iconst (v := (1 : Int32)) hx hb dX5_execute_105 (by decide) ?_
          refine lv_iadd hx hb dX5_execute_106 ?_
          obtain ⟨ρ18, e19, hF⟩ := bnd_el hF
          refine kput (v := .int (((ρ.1.2 2) + (1 : Int32)))) (ty := .int) (w' := mW am cI ρ18) Fc Z inX5 tyX5 tyX5_ok nmX5 0 rfl rfl 9 (by decide) mF_RX5_41 rfl rfl rfl rfl rfl (Nat.le_of_ble_eq_true rfl) (by rw [e19]; rfl) dX5_execute_107 (fun H locs Z => ?_)
          refine lv_aload_n hx hb dX5_execute_110 rfl (lv_at hl 0 rfl) ?_
          obtain ⟨q20, h21, hF⟩ := obind hF
          refine km_i (As := []) (ok := (fun _ => True)) Fc hA Z Lens.all (c_X5_command l D cI cS am ρ18  q20 h21) mL_RX5_221 v_X5_command ⟨rfl, rfl⟩ ⟨Nat.le_of_ble_eq_true rfl, Nat.le_of_ble_eq_true rfl⟩ ⟨Nat.zero_le _, Nat.zero_le _⟩ 0 5 rfl rfl rfl hl (Nat.le_of_ble_eq_true rfl) dX5_execute_111 rfl (fun H locs ok1 Z => ?_)
          refine lv_istore_n (lv' := [(1, .int q20.1), (0, .ref (am 0)), (2, .int x2)]) hx hb dX5_execute_114 rfl hl (by decide) rfl (fun ls hl => ?_)
          refine lv_aload_n hx hb dX5_execute_115 rfl (lv_at hl 1 rfl) ?_
          refine lv_iload_n hx hb dX5_execute_116 rfl (lv_at hl 0 rfl) ?_
          obtain ⟨q22, h23, hF⟩ := obind hF
          refine km_i (As := [.int q20.1]) (ok := (fun _ => True)) Fc hA Z Lens.all (c_X5_does l D cI cS am q20.2 q20.1 q22 h23) mL_RX5_224 v_X5_does ⟨rfl, rfl⟩ ⟨Nat.le_of_ble_eq_true rfl, Nat.le_of_ble_eq_true rfl⟩ ⟨Nat.zero_le _, Nat.zero_le _⟩ 0 5 rfl rfl rfl hl (Nat.le_of_ble_eq_true rfl) dX5_execute_117 rfl (fun H locs ok1 Z => ?_)
          refine lv_if_ge (tgt := 147) hx hb dX5_execute_120 (by decide) (fun c24 => ?_) (fun c24 => ?_)
          · rw [if_pos c24] at hF
            refine lv_iinc (v := (x2 + (1 : Int32))) (lv' := [(2, .int (x2 + (1 : Int32))), (1, .int q20.1), (0, .ref (am 0))]) hx hb dX5_execute_147 hl (k := 2) rfl (by rfl) (by decide) rfl (fun ls hl => ?_)
            refine lv_goto (tgt := 85) hx hb dX5_execute_150 (by decide) ?_
            exact ih ((x2 + (1 : Int32))) q22.2 _ _ _ hF Z (lv_sub hl [2, 0] rfl)
          · rw [if_neg c24] at hF
            refine lv_aload_n hx hb dX5_execute_123 rfl (lv_at hl 1 rfl) ?_
            refine kget Fc Z inX5 0 rfl rfl 1 (by decide) mF_RX5_15 rfl rfl dX5_execute_124 ?_
            refine lv_iconst (v := (0 : Int32)) hx hb dX5_execute_127 (by decide) ?_
            refine lv_aload_n hx hb dX5_execute_128 rfl (lv_at hl 1 rfl) ?_
            refine kget Fc Z inX5 0 rfl rfl 0 (by decide) mF_RX5_11 rfl rfl dX5_execute_129 ?_
            refine lv_iconst (v := (0 : Int32)) hx hb dX5_execute_132 (by decide) ?_
            obtain ⟨g25, h26, hF⟩ := obind hF
            obtain ⟨ρ27, e28, hF⟩ := bnd_el hF
            refine ksv_i (As := [.ref (am 2), .int (0 : Int32), .ref (am 1), .int (0 : Int32)]) Fc hA Z (Lens.m2_1_0) (c_X5_copies2 l D cI cS (am 2) (am 1) 681 681 (q22.2.1.1 1) (q22.2.1.1 0) (0 : Int32) (0 : Int32) g25 h26) mL_RX5_47 v_X5_copies ⟨rfl, rfl⟩ ⟨Nat.le_of_ble_eq_true rfl, Nat.le_of_ble_eq_true rfl⟩ ⟨Nat.zero_le _, Nat.zero_le _⟩ rfl hl (Nat.le_of_ble_eq_true rfl) dX5_execute_133 rfl (fun H locs Z => ?_)
            have Z : Ix D A s (mW am cI ρ27) H locs := by rw [e28]; exact Z
            refine lv_aload_n hx hb dX5_execute_136 rfl (lv_at hl 1 rfl) ?_
            refine lv_iconst (v := (0 : Int32)) hx hb dX5_execute_137 (by decide) ?_
            obtain ⟨ρ29, e30, hF⟩ := bnd_el hF
            refine kput (v := .int (0 : Int32)) (ty := .int) (w' := mW am cI ρ29) Fc Z inX5 tyX5 tyX5_ok nmX5 0 rfl rfl 8 (by decide) mF_RX5_38 rfl rfl rfl rfl rfl (Nat.le_of_ble_eq_true rfl) (by rw [e30]; rfl) dX5_execute_138 (fun H locs Z => ?_)
            refine lv_sipush (v := (-300 : Int32)) hx hb dX5_execute_141 (by decide) ?_
            refine lv_iload_n hx hb dX5_execute_144 rfl (lv_at hl 2 rfl) ?_
            refine lv_isub hx hb dX5_execute_145 ?_
            exact kret (((-300 : Int32) - x2)) ρ29 _ _ _ _ ⟨(pfst (Option.some.inj hF)), psnd (Option.some.inj hF), trivial⟩ Z dX5_execute_146
  have L15 : ∀ (k : Nat) (ρ : Ms) (H : Heap) (locs : List Loc) (ls : Array Slot), X5_execute_L15  k  ρ = some F → Ix D A s (mW am cI ρ) H locs → lv_has ls 3 [(0, .ref (am 0))] → W p l e rm_X5_execute s m args below meth c H locs 0 0 Q (F0 m 15 ls []) := by
    intro k
    induction k with
    | zero => intro ρ H locs ls hF; rw [X5_execute_L15] at hF; cases hF
    | succ k ih =>
      intro ρ H locs ls hF Z hl
      rw [X5_execute_L15] at hF
      refine lv_aload_n hx hb dX5_execute_15 rfl (lv_at hl 0 rfl) ?_
      obtain ⟨v31, h32, hF⟩ := obind hF
      refine kr_i (As := []) Fc hA Z Lens.all (c_X5_sign l D cI cS am ρ  v31 h32) mL_RX5_214 v_X5_sign ⟨rfl, rfl⟩ ⟨Nat.le_of_ble_eq_true rfl, Nat.le_of_ble_eq_true rfl⟩ ⟨Nat.zero_le _, Nat.zero_le _⟩ 0 5 rfl rfl rfl hl (Nat.le_of_ble_eq_true rfl) dX5_execute_16 rfl (fun H locs Z => ?_)
      refine lv_bipush (v := (59 : Int32)) hx hb dX5_execute_19 (by decide) ?_
      refine lv_icmp_ne (tgt := 42) hx hb dX5_execute_21 (by decide) (fun c33 => ?_) (fun c33 => ?_)
      · rw [if_neg c33] at hF
        refine lv_aload_n hx hb dX5_execute_42 rfl (lv_at hl 0 rfl) ?_
        refine kget Fc Z inX5 0 rfl rfl 10 (by decide) mF_RX5_44 rfl rfl dX5_execute_43 ?_
        refine lv_if_ne (tgt := 60) hx hb dX5_execute_46 (by decide) (fun c34 => ?_) (fun c34 => ?_)
        · rw [if_neg c34] at hF
          refine lv_aload_n hx hb dX5_execute_60 rfl (lv_at hl 0 rfl) ?_
          refine lv_iconst (v := (0 : Int32)) hx hb dX5_execute_61 (by decide) ?_
          obtain ⟨ρ35, e36, hF⟩ := bnd_el hF
          refine kput (v := .int (0 : Int32)) (ty := .int) (w' := mW am cI ρ35) Fc Z inX5 tyX5 tyX5_ok nmX5 0 rfl rfl 8 (by decide) mF_RX5_38 rfl rfl rfl rfl rfl (Nat.le_of_ble_eq_true rfl) (by rw [e36]; rfl) dX5_execute_62 (fun H locs Z => ?_)
          refine lv_sipush (v := (-200 : Int32)) hx hb dX5_execute_65 (by decide) ?_
          refine lv_aload_n hx hb dX5_execute_68 rfl (lv_at hl 0 rfl) ?_
          refine kget Fc Z inX5 0 rfl rfl 9 (by decide) mF_RX5_41 rfl rfl dX5_execute_69 ?_
          refine lv_isub hx hb dX5_execute_72 ?_
          exact kret (((-200 : Int32) - (ρ35.1.2 2))) ρ35 _ _ _ _ ⟨(pfst (Option.some.inj hF)), psnd (Option.some.inj hF), trivial⟩ Z dX5_execute_73
        · rw [if_pos c34] at hF
          refine lv_aload_n hx hb dX5_execute_49 rfl (lv_at hl 0 rfl) ?_
          refine kget Fc Z inX5 0 rfl rfl 9 (by decide) mF_RX5_41 rfl rfl dX5_execute_50 ?_
          refine lv_aload_n hx hb dX5_execute_53 rfl (lv_at hl 0 rfl) ?_
          refine kget Fc Z inX5 0 rfl rfl 8 (by decide) mF_RX5_38 rfl rfl dX5_execute_54 ?_
          refine lv_icmp_ge (tgt := 74) hx hb dX5_execute_57 (by decide) (fun c37 => ?_) (fun c37 => ?_)
          · rw [if_pos c37] at hF
            refine lv_aload_n hx hb dX5_execute_74 rfl (lv_at hl 0 rfl) ?_
            obtain ⟨q38, h39, hF⟩ := obind hF
            refine kv_i (As := []) (ok := (fun _ => True)) Fc hA Z Lens.all (c_X5_keeps l D cI cS am ρ  q38 h39) mL_RX5_96 v_X5_keeps ⟨rfl, rfl⟩ ⟨Nat.le_of_ble_eq_true rfl, Nat.le_of_ble_eq_true rfl⟩ ⟨Nat.zero_le _, Nat.zero_le _⟩ 0 5 rfl rfl rfl hl (Nat.le_of_ble_eq_true rfl) dX5_execute_75 rfl (fun H locs ok1 Z => ?_)
            refine lv_aload_n hx hb dX5_execute_78 rfl (lv_at hl 0 rfl) ?_
            refine lv_iconst (v := (0 : Int32)) hx hb dX5_execute_79 (by decide) ?_
            obtain ⟨ρ40, e41, hF⟩ := bnd_el hF
            refine kput (v := .int (0 : Int32)) (ty := .int) (w' := mW am cI ρ40) Fc Z inX5 tyX5 tyX5_ok nmX5 0 rfl rfl 9 (by decide) mF_RX5_41 rfl rfl rfl rfl rfl (Nat.le_of_ble_eq_true rfl) (by rw [e41]; rfl) dX5_execute_80 (fun H locs Z => ?_)
            refine lv_iconst (v := (0 : Int32)) hx hb dX5_execute_83 (by decide) ?_
            refine lv_istore_n (lv' := [(2, .int (0 : Int32)), (0, .ref (am 0))]) hx hb dX5_execute_84 rfl hl (by decide) rfl (fun ls hl => ?_)
            exact L85  FU (0 : Int32) ρ40 _ _ _ hF Z (lv_sub hl [1, 0] rfl)
          · rw [if_neg c37] at hF
            refine lv_aload_n hx hb dX5_execute_60 rfl (lv_at hl 0 rfl) ?_
            refine lv_iconst (v := (0 : Int32)) hx hb dX5_execute_61 (by decide) ?_
            obtain ⟨ρ42, e43, hF⟩ := bnd_el hF
            refine kput (v := .int (0 : Int32)) (ty := .int) (w' := mW am cI ρ42) Fc Z inX5 tyX5 tyX5_ok nmX5 0 rfl rfl 8 (by decide) mF_RX5_38 rfl rfl rfl rfl rfl (Nat.le_of_ble_eq_true rfl) (by rw [e43]; rfl) dX5_execute_62 (fun H locs Z => ?_)
            refine lv_sipush (v := (-200 : Int32)) hx hb dX5_execute_65 (by decide) ?_
            refine lv_aload_n hx hb dX5_execute_68 rfl (lv_at hl 0 rfl) ?_
            refine kget Fc Z inX5 0 rfl rfl 9 (by decide) mF_RX5_41 rfl rfl dX5_execute_69 ?_
            refine lv_isub hx hb dX5_execute_72 ?_
            exact kret (((-200 : Int32) - (ρ42.1.2 2))) ρ42 _ _ _ _ ⟨(pfst (Option.some.inj hF)), psnd (Option.some.inj hF), trivial⟩ Z dX5_execute_73
      · rw [if_pos c33] at hF
        refine lv_aload_n hx hb dX5_execute_24 rfl (lv_at hl 0 rfl) ?_
        refine lv_dup hx hb dX5_execute_25 rfl ?_
        refine kget Fc Z inX5 0 rfl rfl 9 (by decide) mF_RX5_41 rfl rfl dX5_execute_26 ?_
        refine lv_iconst (v := (1 : Int32)) hx hb dX5_execute_29 (by decide) ?_
        refine lv_iadd hx hb dX5_execute_30 ?_
        obtain ⟨ρ44, e45, hF⟩ := bnd_el hF
        refine kput (v := .int (((ρ.1.2 2) + (1 : Int32)))) (ty := .int) (w' := mW am cI ρ44) Fc Z inX5 tyX5 tyX5_ok nmX5 0 rfl rfl 9 (by decide) mF_RX5_41 rfl rfl rfl rfl rfl (Nat.le_of_ble_eq_true rfl) (by rw [e45]; rfl) dX5_execute_31 (fun H locs Z => ?_)
        refine lv_aload_n hx hb dX5_execute_34 rfl (lv_at hl 0 rfl) ?_
        obtain ⟨q46, h47, hF⟩ := obind hF
        refine km_i (As := []) (ok := (fun _ => True)) Fc hA Z Lens.all (c_X5_command l D cI cS am ρ44  q46 h47) mL_RX5_221 v_X5_command ⟨rfl, rfl⟩ ⟨Nat.le_of_ble_eq_true rfl, Nat.le_of_ble_eq_true rfl⟩ ⟨Nat.zero_le _, Nat.zero_le _⟩ 0 5 rfl rfl rfl hl (Nat.le_of_ble_eq_true rfl) dX5_execute_35 rfl (fun H locs ok1 Z => ?_)
        refine lv_istore_n (lv' := [(1, .int q46.1), (0, .ref (am 0))]) hx hb dX5_execute_38 rfl hl (by decide) rfl (fun ls hl => ?_)
        refine lv_goto (tgt := 15) hx hb dX5_execute_39 (by decide) ?_
        exact ih  q46.2 _ _ _ hF Z (lv_sub hl [1] rfl)
  unfold X5_execute at hF
  refine lv_aload_n hx hb dX5_execute_0 rfl (lv_at hl 0 rfl) ?_
  refine lv_iconst (v := (0 : Int32)) hx hb dX5_execute_1 (by decide) ?_
  obtain ⟨ρ48, e49, hF⟩ := bnd_el hF
  refine kput (v := .int (0 : Int32)) (ty := .int) (w' := mW am cI ρ48) Fc Z inX5 tyX5 tyX5_ok nmX5 0 rfl rfl 9 (by decide) mF_RX5_41 rfl rfl rfl rfl rfl (Nat.le_of_ble_eq_true rfl) (by rw [e49]; rfl) dX5_execute_2 (fun H locs Z => ?_)
  refine lv_aload_n hx hb dX5_execute_5 rfl (lv_at hl 0 rfl) ?_
  refine lv_iconst (v := (0 : Int32)) hx hb dX5_execute_6 (by decide) ?_
  obtain ⟨ρ50, e51, hF⟩ := bnd_el hF
  refine kput (v := .int (bi false)) (ty := .boolean) (w' := mW am cI ρ50) Fc Z inX5 tyX5 tyX5_ok nmX5 0 rfl rfl 10 (by decide) mF_RX5_44 rfl rfl rfl (bi_nar false) (bi_fit false) (Nat.le_of_ble_eq_true rfl) (by rw [e51]; rfl) dX5_execute_7 (fun H locs Z => ?_)
  refine lv_aload_n hx hb dX5_execute_10 rfl (lv_at hl 0 rfl) ?_
  obtain ⟨q52, h53, hF⟩ := obind hF
  refine km_i (As := []) (ok := (fun _ => True)) Fc hA Z Lens.all (c_X5_command l D cI cS am ρ50  q52 h53) mL_RX5_221 v_X5_command ⟨rfl, rfl⟩ ⟨Nat.le_of_ble_eq_true rfl, Nat.le_of_ble_eq_true rfl⟩ ⟨Nat.zero_le _, Nat.zero_le _⟩ 0 5 rfl rfl rfl hl (Nat.le_of_ble_eq_true rfl) dX5_execute_11 rfl (fun H locs ok1 Z => ?_)
  refine lv_istore_n (lv' := [(1, .int q52.1), (0, .ref (am 0))]) hx hb dX5_execute_14 rfl hl (by decide) rfl (fun ls hl => ?_)
  exact L15  FU  q52.2 _ _ _ hF Z (lv_sub hl [1] rfl)
def X5_feed (ρ : Ms) (p1 : Int32) : Option (Int32 × Ms) := if (bi (X5_in p1 (32 : Int32) (126 : Int32))) = 0 then (some (((-1 : Int32), ρ))) else if (ρ.1.2 1) = (60 : Int32) then (some (((-3 : Int32), ρ))) else (wrA (ρ.1.1 4) 60 (ρ.1.2 1) p1).bind fun g3 => bnd (msA ρ 4 g3) fun ρ5 => bnd (msI ρ5 1 ((ρ5.1.2 1) + (1 : Int32))) fun ρ7 => some (((ρ7.1.2 1), ρ7))
def rm_X5_feed : Room := { frames := 1, cells := 0, slots := 0, locals := 22 }
theorem v_X5_feed : WdV RX5 yX5_feed cX5_feed 2 (some .int) 1 := ⟨mI_X5_feed, mS_X5_feed, mZ_RX5, mC_X5_feed, by decide +kernel⟩
set_option maxHeartbeats 8000000 in
set_option maxRecDepth 100000 in
theorem c_X5_feed (l : Launch) (D : va_G) (cI cS : ClassId) (am : Nat → Nat) (ρ : Ms) (p1 : Int32) (F : Int32 × Ms) (hF : X5_feed ρ p1 = some F) : MI l yX5_feed cX5_feed 2 (some .int) rm_X5_feed D cI cS [.ref (am 0), .int p1] (mW am cI ρ) (mW am cI) (fun r u => r = F.1 ∧ u = F.2 ∧ True) := by
  refine MI.mk RX5 rfl .int rfl (by decide) (Nat.le_of_ble_eq_true rfl) (fun _ _ _ => rfl) ?_
  intro p e s m args below meth c A Q ls Fc hin hA Z kret hl
  obtain ⟨hx, hb, hml, hown, hts, hKN⟩ := id Fc
  replace hl : lv_has ls 2 [(0, .ref (am 0)), (1, .int p1)] := hl
  unfold X5_feed at hF
  refine lv_iload_n hx hb dX5_feed_0 rfl (lv_at hl 1 rfl) ?_
  refine lv_bipush (v := (32 : Int32)) hx hb dX5_feed_1 (by decide) ?_
  refine lv_bipush (v := (126 : Int32)) hx hb dX5_feed_3 (by decide) ?_
  refine ks_i (As := [.int p1, .int (32 : Int32), .int (126 : Int32)]) Fc hA Z (c_X5_in l D cI cS p1 (32 : Int32) (126 : Int32) (X5_in p1 (32 : Int32) (126 : Int32)) rfl) mL_RX5_51 v_X5_in ⟨rfl, rfl⟩ ⟨Nat.le_of_ble_eq_true rfl, Nat.le_of_ble_eq_true rfl⟩ ⟨Nat.zero_le _, Nat.zero_le _⟩ rfl hl (Nat.le_of_ble_eq_true rfl) dX5_feed_5 rfl (fun H locs Z => ?_)
  refine lv_if_ne (tgt := 13) hx hb dX5_feed_8 (by decide) (fun c1 => ?_) (fun c1 => ?_)
  · rw [if_neg c1] at hF
    refine lv_aload_n hx hb dX5_feed_13 rfl (lv_at hl 0 rfl) ?_
    refine kget Fc Z inX5 0 rfl rfl 8 (by decide) mF_RX5_38 rfl rfl dX5_feed_14 ?_
    refine lv_bipush (v := (60 : Int32)) hx hb dX5_feed_17 (by decide) ?_
    refine lv_icmp_ne (tgt := 25) hx hb dX5_feed_19 (by decide) (fun c2 => ?_) (fun c2 => ?_)
    · rw [if_neg c2] at hF
      refine lv_aload_n hx hb dX5_feed_25 rfl (lv_at hl 0 rfl) ?_
      refine kget Fc Z inX5 0 rfl rfl 6 (by decide) mF_RX5_32 rfl rfl dX5_feed_26 ?_
      refine lv_aload_n hx hb dX5_feed_29 rfl (lv_at hl 0 rfl) ?_
      refine kget Fc Z inX5 0 rfl rfl 8 (by decide) mF_RX5_38 rfl rfl dX5_feed_30 ?_
      refine lv_iload_n hx hb dX5_feed_33 rfl (lv_at hl 1 rfl) ?_
      obtain ⟨g3, h4, hF⟩ := obind hF
      obtain ⟨ρ5, e6, hF⟩ := bnd_el hF
      refine kast (w' := mW am cI ρ5) Fc Z 5 rfl h4 (by rw [e6]; rfl) dX5_feed_34 (fun H locs Z => ?_)
      refine lv_aload_n hx hb dX5_feed_35 rfl (lv_at hl 0 rfl) ?_
      refine lv_dup hx hb dX5_feed_36 rfl ?_
      refine kget Fc Z inX5 0 rfl rfl 8 (by decide) mF_RX5_38 rfl rfl dX5_feed_37 ?_
      refine lv_iconst (v := (1 : Int32)) hx hb dX5_feed_40 (by decide) ?_
      refine lv_iadd hx hb dX5_feed_41 ?_
      obtain ⟨ρ7, e8, hF⟩ := bnd_el hF
      refine kput (v := .int (((ρ5.1.2 1) + (1 : Int32)))) (ty := .int) (w' := mW am cI ρ7) Fc Z inX5 tyX5 tyX5_ok nmX5 0 rfl rfl 8 (by decide) mF_RX5_38 rfl rfl rfl rfl rfl (Nat.le_of_ble_eq_true rfl) (by rw [e8]; rfl) dX5_feed_42 (fun H locs Z => ?_)
      refine lv_aload_n hx hb dX5_feed_45 rfl (lv_at hl 0 rfl) ?_
      refine kget Fc Z inX5 0 rfl rfl 8 (by decide) mF_RX5_38 rfl rfl dX5_feed_46 ?_
      exact kret (ρ7.1.2 1) ρ7 _ _ _ _ ⟨(pfst (Option.some.inj hF)), psnd (Option.some.inj hF), trivial⟩ Z dX5_feed_49
    · rw [if_pos c2] at hF
      refine lv_bipush (v := (-3 : Int32)) hx hb dX5_feed_22 (by decide) ?_
      exact kret (-3 : Int32) ρ _ _ _ _ ⟨(pfst (Option.some.inj hF)), psnd (Option.some.inj hF), trivial⟩ Z dX5_feed_24
  · rw [if_pos c1] at hF
    refine lv_iconst (v := (-1 : Int32)) hx hb dX5_feed_11 (by decide) ?_
    exact kret (-1 : Int32) ρ _ _ _ _ ⟨(pfst (Option.some.inj hF)), psnd (Option.some.inj hF), trivial⟩ Z dX5_feed_12
def X5_fine (ρ : Ms) (p1 : Int32) : Option (Int32) := (X5_isCopy ρ p1).bind fun v1 => if (bi v1) = 0 then (some (-1 : Int32)) else (X5_of ρ p1 (3 : Int32)).bind fun v4 => if v4 = (1 : Int32) then ((X5_late ρ p1).bind fun v13 => some v13) else if v4 = (4 : Int32) then ((X5_of ρ p1 (9 : Int32)).bind fun v8 => some v8) else if v4 = (5 : Int32) then ((X5_of ρ p1 (9 : Int32)).bind fun v11 => some v11) else some (-2 : Int32)
def rm_X5_fine : Room := { frames := 2, cells := 0, slots := 0, locals := 46 }
theorem v_X5_fine : WdV RX5 yX5_fine cX5_fine 3 (some .int) 1 := ⟨mI_X5_fine, mS_X5_fine, mZ_RX5, mC_X5_fine, by decide +kernel⟩
set_option maxHeartbeats 8000000 in
set_option maxRecDepth 100000 in
theorem c_X5_fine (l : Launch) (D : va_G) (cI cS : ClassId) (am : Nat → Nat) (ρ : Ms) (p1 : Int32) (F : Int32) (hF : X5_fine ρ p1 = some F) : MI l yX5_fine cX5_fine 3 (some .int) rm_X5_fine D cI cS [.ref (am 0), .int p1] (mW am cI ρ) (mW am cI) (fun r u' => r = F ∧ u' = ρ) := by
  refine MI.mk RX5 rfl .int rfl (by decide) (Nat.le_of_ble_eq_true rfl) (fun _ _ _ => rfl) ?_
  intro p e s m args below meth c A Q ls Fc hin hA Z kret hl
  obtain ⟨hx, hb, hml, hown, hts, hKN⟩ := id Fc
  replace hl : lv_has ls 3 [(0, .ref (am 0)), (1, .int p1)] := hl
  unfold X5_fine at hF
  refine lv_aload_n hx hb dX5_fine_0 rfl (lv_at hl 0 rfl) ?_
  refine lv_iload_n hx hb dX5_fine_1 rfl (lv_at hl 1 rfl) ?_
  obtain ⟨v1, h2, hF⟩ := obind hF
  refine kr_i (As := [.int p1]) Fc hA Z Lens.all (c_X5_isCopy l D cI cS am ρ p1 v1 h2) mL_RX5_113 v_X5_isCopy ⟨rfl, rfl⟩ ⟨Nat.le_of_ble_eq_true rfl, Nat.le_of_ble_eq_true rfl⟩ ⟨Nat.zero_le _, Nat.zero_le _⟩ 0 5 rfl rfl rfl hl (Nat.le_of_ble_eq_true rfl) dX5_fine_2 rfl (fun H locs Z => ?_)
  refine lv_if_ne (tgt := 10) hx hb dX5_fine_5 (by decide) (fun c3 => ?_) (fun c3 => ?_)
  · rw [if_neg c3] at hF
    refine lv_aload_n hx hb dX5_fine_10 rfl (lv_at hl 0 rfl) ?_
    refine lv_iload_n hx hb dX5_fine_11 rfl (lv_at hl 1 rfl) ?_
    refine lv_iconst (v := (3 : Int32)) hx hb dX5_fine_12 (by decide) ?_
    obtain ⟨v4, h5, hF⟩ := obind hF
    refine kr_i (As := [.int p1, .int (3 : Int32)]) Fc hA Z Lens.all (c_X5_of l D cI cS am ρ p1 (3 : Int32) v4 h5) mL_RX5_73 v_X5_of ⟨rfl, rfl⟩ ⟨Nat.le_of_ble_eq_true rfl, Nat.le_of_ble_eq_true rfl⟩ ⟨Nat.zero_le _, Nat.zero_le _⟩ 0 5 rfl rfl rfl hl (Nat.le_of_ble_eq_true rfl) dX5_fine_13 rfl (fun H locs Z => ?_)
    refine lv_istore_n (lv' := [(2, .int v4), (0, .ref (am 0)), (1, .int p1)]) hx hb dX5_fine_16 rfl hl (by decide) rfl (fun ls hl => ?_)
    refine lv_iload_n hx hb dX5_fine_17 rfl (lv_at hl 0 rfl) ?_
    refine lv_iconst (v := (1 : Int32)) hx hb dX5_fine_18 (by decide) ?_
    refine lv_icmp_ne (tgt := 30) hx hb dX5_fine_19 (by decide) (fun c6 => ?_) (fun c6 => ?_)
    · rw [if_neg c6] at hF
      refine lv_iload_n hx hb dX5_fine_30 rfl (lv_at hl 0 rfl) ?_
      refine lv_iconst (v := (4 : Int32)) hx hb dX5_fine_31 (by decide) ?_
      refine lv_icmp_eq (tgt := 40) hx hb dX5_fine_32 (by decide) (fun c7 => ?_) (fun c7 => ?_)
      · rw [if_pos c7] at hF
        refine lv_aload_n hx hb dX5_fine_40 rfl (lv_at hl 1 rfl) ?_
        refine lv_iload_n hx hb dX5_fine_41 rfl (lv_at hl 2 rfl) ?_
        refine lv_bipush (v := (9 : Int32)) hx hb dX5_fine_42 (by decide) ?_
        obtain ⟨v8, h9, hF⟩ := obind hF
        refine kr_i (As := [.int p1, .int (9 : Int32)]) Fc hA Z Lens.all (c_X5_of l D cI cS am ρ p1 (9 : Int32) v8 h9) mL_RX5_73 v_X5_of ⟨rfl, rfl⟩ ⟨Nat.le_of_ble_eq_true rfl, Nat.le_of_ble_eq_true rfl⟩ ⟨Nat.zero_le _, Nat.zero_le _⟩ 0 5 rfl rfl rfl hl (Nat.le_of_ble_eq_true rfl) dX5_fine_44 rfl (fun H locs Z => ?_)
        refine lv_goto (tgt := 52) hx hb dX5_fine_47 (by decide) ?_
        exact kret v8 ρ _ _ _ _ ⟨(Option.some.inj hF), rfl⟩ Z dX5_fine_52
      · rw [if_neg c7] at hF
        refine lv_iload_n hx hb dX5_fine_35 rfl (lv_at hl 0 rfl) ?_
        refine lv_iconst (v := (5 : Int32)) hx hb dX5_fine_36 (by decide) ?_
        refine lv_icmp_ne (tgt := 50) hx hb dX5_fine_37 (by decide) (fun c10 => ?_) (fun c10 => ?_)
        · rw [if_neg c10] at hF
          refine lv_bipush (v := (-2 : Int32)) hx hb dX5_fine_50 (by decide) ?_
          exact kret (-2 : Int32) ρ _ _ _ _ ⟨(Option.some.inj hF), rfl⟩ Z dX5_fine_52
        · rw [if_pos c10] at hF
          refine lv_aload_n hx hb dX5_fine_40 rfl (lv_at hl 1 rfl) ?_
          refine lv_iload_n hx hb dX5_fine_41 rfl (lv_at hl 2 rfl) ?_
          refine lv_bipush (v := (9 : Int32)) hx hb dX5_fine_42 (by decide) ?_
          obtain ⟨v11, h12, hF⟩ := obind hF
          refine kr_i (As := [.int p1, .int (9 : Int32)]) Fc hA Z Lens.all (c_X5_of l D cI cS am ρ p1 (9 : Int32) v11 h12) mL_RX5_73 v_X5_of ⟨rfl, rfl⟩ ⟨Nat.le_of_ble_eq_true rfl, Nat.le_of_ble_eq_true rfl⟩ ⟨Nat.zero_le _, Nat.zero_le _⟩ 0 5 rfl rfl rfl hl (Nat.le_of_ble_eq_true rfl) dX5_fine_44 rfl (fun H locs Z => ?_)
          refine lv_goto (tgt := 52) hx hb dX5_fine_47 (by decide) ?_
          exact kret v11 ρ _ _ _ _ ⟨(Option.some.inj hF), rfl⟩ Z dX5_fine_52
    · rw [if_pos c6] at hF
      refine lv_aload_n hx hb dX5_fine_22 rfl (lv_at hl 1 rfl) ?_
      refine lv_iload_n hx hb dX5_fine_23 rfl (lv_at hl 2 rfl) ?_
      obtain ⟨v13, h14, hF⟩ := obind hF
      refine kr_i (As := [.int p1]) Fc hA Z Lens.all (c_X5_late l D cI cS am ρ p1 v13 h14) mL_RX5_123 v_X5_late ⟨rfl, rfl⟩ ⟨Nat.le_of_ble_eq_true rfl, Nat.le_of_ble_eq_true rfl⟩ ⟨Nat.zero_le _, Nat.zero_le _⟩ 0 5 rfl rfl rfl hl (Nat.le_of_ble_eq_true rfl) dX5_fine_24 rfl (fun H locs Z => ?_)
      refine lv_goto (tgt := 52) hx hb dX5_fine_27 (by decide) ?_
      exact kret v13 ρ _ _ _ _ ⟨(Option.some.inj hF), rfl⟩ Z dX5_fine_52
  · rw [if_pos c3] at hF
    refine lv_iconst (v := (-1 : Int32)) hx hb dX5_fine_8 (by decide) ?_
    exact kret (-1 : Int32) ρ _ _ _ _ ⟨(Option.some.inj hF), rfl⟩ Z dX5_fine_9
def X5_holdAt_L24 (ρ : Ms) (x1 : Int32) (x2 : Int32) (x3 : Int32) : Nat → Int32 → Int32 → Option (Int32)
  | 0, _, _ => none
  | k + 1, x4, x5 => (rdA (ρ.1.1 0) 681 (3 : Int32)).bind fun v1 => if v1 ≤ x5 then (some (-2 : Int32)) else if x2 < 0 then (some (-2 : Int32)) else (X5_hold ρ x5 (0 : Int32)).bind fun v5 => if v5 = x1 then (if x4 = 0 then ((X5_hold ρ x5 (((1 : Int32) + x3))).bind fun v9 => some v9) else X5_holdAt_L24 ρ x1 x2 x3 k ((x4 + (-1 : Int32))) ((x5 + (1 : Int32)))) else X5_holdAt_L24 ρ x1 x2 x3 k x4 ((x5 + (1 : Int32)))
def X5_holdAt (ρ : Ms) (p1 p2 p3 : Int32) : Option (Int32) := if (bi (X5_isTitle p1)) = 0 then (some (-1 : Int32)) else if (bi (X5_in p3 (0 : Int32) (2 : Int32))) = 0 then (some (-1 : Int32)) else X5_holdAt_L24 ρ p1 p2 p3 FU p2 (0 : Int32)
def rm_X5_holdAt : Room := { frames := 2, cells := 0, slots := 0, locals := 42 }
theorem v_X5_holdAt : WdV RX5 yX5_holdAt cX5_holdAt 6 (some .int) 3 := ⟨mI_X5_holdAt, mS_X5_holdAt, mZ_RX5, mC_X5_holdAt, by decide +kernel⟩
set_option maxHeartbeats 8000000 in
set_option maxRecDepth 100000 in
theorem c_X5_holdAt (l : Launch) (D : va_G) (cI cS : ClassId) (am : Nat → Nat) (ρ : Ms) (p1 p2 p3 : Int32) (F : Int32) (hF : X5_holdAt ρ p1 p2 p3 = some F) : MI l yX5_holdAt cX5_holdAt 6 (some .int) rm_X5_holdAt D cI cS [.ref (am 0), .int p1, .int p2, .int p3] (mW am cI ρ) (mW am cI) (fun r u' => r = F ∧ u' = ρ) := by
  refine MI.mk RX5 rfl .int rfl (by decide) (Nat.le_of_ble_eq_true rfl) (fun _ _ _ => rfl) ?_
  intro p e s m args below meth c A Q ls Fc hin hA Z kret hl
  obtain ⟨hx, hb, hml, hown, hts, hKN⟩ := id Fc
  replace hl : lv_has ls 6 [(0, .ref (am 0)), (1, .int p1), (2, .int p2), (3, .int p3)] := hl
  have L24 : ∀ (x1 : Int32) (x2 : Int32) (x3 : Int32) (k : Nat) (x4 : Int32) (x5 : Int32) (H : Heap) (locs : List Loc) (ls : Array Slot), X5_holdAt_L24 ρ x1 x2 x3  k x4 x5 = some F → Ix D A s (mW am cI ρ) H locs → lv_has ls 6 [(0, .ref (am 0)), (1, .int x1), (2, .int x2), (3, .int x3), (4, .int x4), (5, .int x5)] → W p l e rm_X5_holdAt s m args below meth c H locs 0 0 Q (F0 m 24 ls []) := by
    intro x1 x2 x3 k
    induction k with
    | zero => intro x4 x5 H locs ls hF; rw [X5_holdAt_L24] at hF; cases hF
    | succ k ih =>
      intro x4 x5 H locs ls hF Z hl
      rw [X5_holdAt_L24] at hF
      refine lv_iload hx hb dX5_holdAt_24 (lv_at hl 5 rfl) ?_
      refine lv_aload_n hx hb dX5_holdAt_26 rfl (lv_at hl 0 rfl) ?_
      refine kget Fc Z inX5 0 rfl rfl 0 (by decide) mF_RX5_11 rfl rfl dX5_holdAt_27 ?_
      refine lv_iconst (v := (3 : Int32)) hx hb dX5_holdAt_30 (by decide) ?_
      obtain ⟨v1, h2, hF⟩ := obind hF
      refine kald Fc Z 1 rfl h2 dX5_holdAt_31 ?_
      refine lv_icmp_ge (tgt := 77) hx hb dX5_holdAt_32 (by decide) (fun c3 => ?_) (fun c3 => ?_)
      · rw [if_pos c3] at hF
        refine lv_bipush (v := (-2 : Int32)) hx hb dX5_holdAt_77 (by decide) ?_
        exact kret (-2 : Int32) ρ _ _ _ _ ⟨(Option.some.inj hF), rfl⟩ Z dX5_holdAt_79
      · rw [if_neg c3] at hF
        refine lv_iload_n hx hb dX5_holdAt_35 rfl (lv_at hl 2 rfl) ?_
        refine lv_if_lt (tgt := 77) hx hb dX5_holdAt_36 (by decide) (fun c4 => ?_) (fun c4 => ?_)
        · rw [if_pos c4] at hF
          refine lv_bipush (v := (-2 : Int32)) hx hb dX5_holdAt_77 (by decide) ?_
          exact kret (-2 : Int32) ρ _ _ _ _ ⟨(Option.some.inj hF), rfl⟩ Z dX5_holdAt_79
        · rw [if_neg c4] at hF
          refine lv_aload_n hx hb dX5_holdAt_39 rfl (lv_at hl 0 rfl) ?_
          refine lv_iload hx hb dX5_holdAt_40 (lv_at hl 5 rfl) ?_
          refine lv_iconst (v := (0 : Int32)) hx hb dX5_holdAt_42 (by decide) ?_
          obtain ⟨v5, h6, hF⟩ := obind hF
          refine kr_i (As := [.int x5, .int (0 : Int32)]) Fc hA Z Lens.all (c_X5_hold l D cI cS am ρ x5 (0 : Int32) v5 h6) mL_RX5_59 v_X5_hold ⟨rfl, rfl⟩ ⟨Nat.le_of_ble_eq_true rfl, Nat.le_of_ble_eq_true rfl⟩ ⟨Nat.zero_le _, Nat.zero_le _⟩ 0 5 rfl rfl rfl hl (Nat.le_of_ble_eq_true rfl) dX5_holdAt_43 rfl (fun H locs Z => ?_)
          refine lv_iload_n hx hb dX5_holdAt_46 rfl (lv_at hl 1 rfl) ?_
          refine lv_icmp_eq (tgt := 53) hx hb dX5_holdAt_47 (by decide) (fun c7 => ?_) (fun c7 => ?_)
          · rw [if_pos c7] at hF
            refine lv_iload hx hb dX5_holdAt_53 (lv_at hl 4 rfl) ?_
            refine lv_if_ne (tgt := 68) hx hb dX5_holdAt_55 (by decide) (fun c8 => ?_) (fun c8 => ?_)
            · rw [if_neg c8] at hF
              refine lv_iinc (v := (x4 + (-1 : Int32))) (lv' := [(4, .int (x4 + (-1 : Int32))), (0, .ref (am 0)), (1, .int x1), (2, .int x2), (3, .int x3), (5, .int x5)]) hx hb dX5_holdAt_68 hl (k := 4) rfl (by rfl) (by decide) rfl (fun ls hl => ?_)
              refine lv_iinc (v := (x5 + (1 : Int32))) (lv' := [(5, .int (x5 + (1 : Int32))), (4, .int (x4 + (-1 : Int32))), (0, .ref (am 0)), (1, .int x1), (2, .int x2), (3, .int x3)]) hx hb dX5_holdAt_71 hl (k := 5) rfl (by rfl) (by decide) rfl (fun ls hl => ?_)
              refine lv_goto (tgt := 24) hx hb dX5_holdAt_74 (by decide) ?_
              exact ih ((x4 + (-1 : Int32))) ((x5 + (1 : Int32))) _ _ _ hF Z (lv_sub hl [2, 3, 4, 5, 1, 0] rfl)
            · rw [if_pos c8] at hF
              refine lv_aload_n hx hb dX5_holdAt_58 rfl (lv_at hl 0 rfl) ?_
              refine lv_iload hx hb dX5_holdAt_59 (lv_at hl 5 rfl) ?_
              refine lv_iconst (v := (1 : Int32)) hx hb dX5_holdAt_61 (by decide) ?_
              refine lv_iload_n hx hb dX5_holdAt_62 rfl (lv_at hl 3 rfl) ?_
              refine lv_iadd hx hb dX5_holdAt_63 ?_
              obtain ⟨v9, h10, hF⟩ := obind hF
              refine kr_i (As := [.int x5, .int (((1 : Int32) + x3))]) Fc hA Z Lens.all (c_X5_hold l D cI cS am ρ x5 (((1 : Int32) + x3)) v9 h10) mL_RX5_59 v_X5_hold ⟨rfl, rfl⟩ ⟨Nat.le_of_ble_eq_true rfl, Nat.le_of_ble_eq_true rfl⟩ ⟨Nat.zero_le _, Nat.zero_le _⟩ 0 5 rfl rfl rfl hl (Nat.le_of_ble_eq_true rfl) dX5_holdAt_64 rfl (fun H locs Z => ?_)
              exact kret v9 ρ _ _ _ _ ⟨(Option.some.inj hF), rfl⟩ Z dX5_holdAt_67
          · rw [if_neg c7] at hF
            refine lv_goto (tgt := 71) hx hb dX5_holdAt_50 (by decide) ?_
            refine lv_iinc (v := (x5 + (1 : Int32))) (lv' := [(5, .int (x5 + (1 : Int32))), (0, .ref (am 0)), (1, .int x1), (2, .int x2), (3, .int x3), (4, .int x4)]) hx hb dX5_holdAt_71 hl (k := 5) rfl (by rfl) (by decide) rfl (fun ls hl => ?_)
            refine lv_goto (tgt := 24) hx hb dX5_holdAt_74 (by decide) ?_
            exact ih x4 ((x5 + (1 : Int32))) _ _ _ hF Z (lv_sub hl [1, 2, 3, 4, 5, 0] rfl)
  unfold X5_holdAt at hF
  refine lv_iload_n hx hb dX5_holdAt_0 rfl (lv_at hl 1 rfl) ?_
  refine ks_i (As := [.int p1]) Fc hA Z (c_X5_isTitle l D cI cS p1 (X5_isTitle p1) rfl) mL_RX5_89 v_X5_isTitle ⟨rfl, rfl⟩ ⟨Nat.le_of_ble_eq_true rfl, Nat.le_of_ble_eq_true rfl⟩ ⟨Nat.zero_le _, Nat.zero_le _⟩ rfl hl (Nat.le_of_ble_eq_true rfl) dX5_holdAt_1 rfl (fun H locs Z => ?_)
  refine lv_if_eq (tgt := 16) hx hb dX5_holdAt_4 (by decide) (fun c11 => ?_) (fun c11 => ?_)
  · rw [if_pos c11] at hF
    refine lv_iconst (v := (-1 : Int32)) hx hb dX5_holdAt_16 (by decide) ?_
    exact kret (-1 : Int32) ρ _ _ _ _ ⟨(Option.some.inj hF), rfl⟩ Z dX5_holdAt_17
  · rw [if_neg c11] at hF
    refine lv_iload_n hx hb dX5_holdAt_7 rfl (lv_at hl 3 rfl) ?_
    refine lv_iconst (v := (0 : Int32)) hx hb dX5_holdAt_8 (by decide) ?_
    refine lv_iconst (v := (2 : Int32)) hx hb dX5_holdAt_9 (by decide) ?_
    refine ks_i (As := [.int p3, .int (0 : Int32), .int (2 : Int32)]) Fc hA Z (c_X5_in l D cI cS p3 (0 : Int32) (2 : Int32) (X5_in p3 (0 : Int32) (2 : Int32)) rfl) mL_RX5_51 v_X5_in ⟨rfl, rfl⟩ ⟨Nat.le_of_ble_eq_true rfl, Nat.le_of_ble_eq_true rfl⟩ ⟨Nat.zero_le _, Nat.zero_le _⟩ rfl hl (Nat.le_of_ble_eq_true rfl) dX5_holdAt_10 rfl (fun H locs Z => ?_)
    refine lv_if_ne (tgt := 18) hx hb dX5_holdAt_13 (by decide) (fun c12 => ?_) (fun c12 => ?_)
    · rw [if_neg c12] at hF
      refine lv_iload_n hx hb dX5_holdAt_18 rfl (lv_at hl 2 rfl) ?_
      refine lv_istore (lv' := [(4, .int p2), (0, .ref (am 0)), (1, .int p1), (2, .int p2), (3, .int p3)]) hx hb dX5_holdAt_19 hl (by decide) rfl (fun ls hl => ?_)
      refine lv_iconst (v := (0 : Int32)) hx hb dX5_holdAt_21 (by decide) ?_
      refine lv_istore (lv' := [(5, .int (0 : Int32)), (4, .int p2), (0, .ref (am 0)), (1, .int p1), (2, .int p2), (3, .int p3)]) hx hb dX5_holdAt_22 hl (by decide) rfl (fun ls hl => ?_)
      exact L24 p1 p2 p3 FU p2 (0 : Int32) _ _ _ hF Z (lv_sub hl [2, 3, 4, 5, 1, 0] rfl)
    · rw [if_pos c12] at hF
      refine lv_iconst (v := (-1 : Int32)) hx hb dX5_holdAt_16 (by decide) ?_
      exact kret (-1 : Int32) ρ _ _ _ _ ⟨(Option.some.inj hF), rfl⟩ Z dX5_holdAt_17
def X5_holdCount (ρ : Ms) (p1 : Int32) : Option (Int32) := if (bi (X5_in p1 (-1 : Int32) (5 : Int32))) = 0 then (some (-1 : Int32)) else (X5_holds ρ p1).bind fun v2 => some v2
def rm_X5_holdCount : Room := { frames := 2, cells := 0, slots := 0, locals := 45 }
theorem v_X5_holdCount : WdV RX5 yX5_holdCount cX5_holdCount 2 (some .int) 1 := ⟨mI_X5_holdCount, mS_X5_holdCount, mZ_RX5, mC_X5_holdCount, by decide +kernel⟩
set_option maxHeartbeats 8000000 in
set_option maxRecDepth 100000 in
theorem c_X5_holdCount (l : Launch) (D : va_G) (cI cS : ClassId) (am : Nat → Nat) (ρ : Ms) (p1 : Int32) (F : Int32) (hF : X5_holdCount ρ p1 = some F) : MI l yX5_holdCount cX5_holdCount 2 (some .int) rm_X5_holdCount D cI cS [.ref (am 0), .int p1] (mW am cI ρ) (mW am cI) (fun r u' => r = F ∧ u' = ρ) := by
  refine MI.mk RX5 rfl .int rfl (by decide) (Nat.le_of_ble_eq_true rfl) (fun _ _ _ => rfl) ?_
  intro p e s m args below meth c A Q ls Fc hin hA Z kret hl
  obtain ⟨hx, hb, hml, hown, hts, hKN⟩ := id Fc
  replace hl : lv_has ls 2 [(0, .ref (am 0)), (1, .int p1)] := hl
  unfold X5_holdCount at hF
  refine lv_iload_n hx hb dX5_holdCount_0 rfl (lv_at hl 1 rfl) ?_
  refine lv_iconst (v := (-1 : Int32)) hx hb dX5_holdCount_1 (by decide) ?_
  refine lv_iconst (v := (5 : Int32)) hx hb dX5_holdCount_2 (by decide) ?_
  refine ks_i (As := [.int p1, .int (-1 : Int32), .int (5 : Int32)]) Fc hA Z (c_X5_in l D cI cS p1 (-1 : Int32) (5 : Int32) (X5_in p1 (-1 : Int32) (5 : Int32)) rfl) mL_RX5_51 v_X5_in ⟨rfl, rfl⟩ ⟨Nat.le_of_ble_eq_true rfl, Nat.le_of_ble_eq_true rfl⟩ ⟨Nat.zero_le _, Nat.zero_le _⟩ rfl hl (Nat.le_of_ble_eq_true rfl) dX5_holdCount_3 rfl (fun H locs Z => ?_)
  refine lv_if_eq (tgt := 17) hx hb dX5_holdCount_6 (by decide) (fun c1 => ?_) (fun c1 => ?_)
  · rw [if_pos c1] at hF
    refine lv_iconst (v := (-1 : Int32)) hx hb dX5_holdCount_17 (by decide) ?_
    exact kret (-1 : Int32) ρ _ _ _ _ ⟨(Option.some.inj hF), rfl⟩ Z dX5_holdCount_18
  · rw [if_neg c1] at hF
    refine lv_aload_n hx hb dX5_holdCount_9 rfl (lv_at hl 0 rfl) ?_
    refine lv_iload_n hx hb dX5_holdCount_10 rfl (lv_at hl 1 rfl) ?_
    obtain ⟨v2, h3, hF⟩ := obind hF
    refine kr_i (As := [.int p1]) Fc hA Z Lens.all (c_X5_holds l D cI cS am ρ p1 v2 h3) mL_RX5_192 v_X5_holds ⟨rfl, rfl⟩ ⟨Nat.le_of_ble_eq_true rfl, Nat.le_of_ble_eq_true rfl⟩ ⟨Nat.zero_le _, Nat.zero_le _⟩ 0 5 rfl rfl rfl hl (Nat.le_of_ble_eq_true rfl) dX5_holdCount_11 rfl (fun H locs Z => ?_)
    refine lv_goto (tgt := 18) hx hb dX5_holdCount_14 (by decide) ?_
    exact kret v2 ρ _ _ _ _ ⟨(Option.some.inj hF), rfl⟩ Z dX5_holdCount_18
def X5_hold_ (ρ : Ms) (p1 p2 p3 : Int32) : Option (Int32 × Ms) := (X5_keeps ρ).bind fun q1 => (X5_laysHold q1 p1 p2 p3).bind fun q3 => (X5_made q3.2 q3.1).bind fun q5 => some (q5.1, q5.2)
def rm_X5_hold_ : Room := { frames := 4, cells := 0, slots := 0, locals := 97 }
theorem v_X5_hold_ : WdV RX5 yX5_hold_ cX5_hold_ 4 (some .int) 3 := ⟨mI_X5_hold_, mS_X5_hold_, mZ_RX5, mC_X5_hold_, by decide +kernel⟩
set_option maxHeartbeats 8000000 in
set_option maxRecDepth 100000 in
theorem c_X5_hold_ (l : Launch) (D : va_G) (cI cS : ClassId) (am : Nat → Nat) (ρ : Ms) (p1 p2 p3 : Int32) (F : Int32 × Ms) (hF : X5_hold_ ρ p1 p2 p3 = some F) : MI l yX5_hold_ cX5_hold_ 4 (some .int) rm_X5_hold_ D cI cS [.ref (am 0), .int p1, .int p2, .int p3] (mW am cI ρ) (mW am cI) (fun r u => r = F.1 ∧ u = F.2 ∧ True) := by
  refine MI.mk RX5 rfl .int rfl (by decide) (Nat.le_of_ble_eq_true rfl) (fun _ _ _ => rfl) ?_
  intro p e s m args below meth c A Q ls Fc hin hA Z kret hl
  obtain ⟨hx, hb, hml, hown, hts, hKN⟩ := id Fc
  replace hl : lv_has ls 4 [(0, .ref (am 0)), (1, .int p1), (2, .int p2), (3, .int p3)] := hl
  unfold X5_hold_ at hF
  refine lv_aload_n hx hb dX5_hold__0 rfl (lv_at hl 0 rfl) ?_
  obtain ⟨q1, h2, hF⟩ := obind hF
  refine kv_i (As := []) (ok := (fun _ => True)) Fc hA Z Lens.all (c_X5_keeps l D cI cS am ρ  q1 h2) mL_RX5_96 v_X5_keeps ⟨rfl, rfl⟩ ⟨Nat.le_of_ble_eq_true rfl, Nat.le_of_ble_eq_true rfl⟩ ⟨Nat.zero_le _, Nat.zero_le _⟩ 0 5 rfl rfl rfl hl (Nat.le_of_ble_eq_true rfl) dX5_hold__1 rfl (fun H locs ok1 Z => ?_)
  refine lv_aload_n hx hb dX5_hold__4 rfl (lv_at hl 0 rfl) ?_
  refine lv_aload_n hx hb dX5_hold__5 rfl (lv_at hl 0 rfl) ?_
  refine lv_iload_n hx hb dX5_hold__6 rfl (lv_at hl 1 rfl) ?_
  refine lv_iload_n hx hb dX5_hold__7 rfl (lv_at hl 2 rfl) ?_
  refine lv_iload_n hx hb dX5_hold__8 rfl (lv_at hl 3 rfl) ?_
  obtain ⟨q3, h4, hF⟩ := obind hF
  refine km_i (As := [.int p1, .int p2, .int p3]) (ok := (fun _ => True)) Fc hA Z Lens.all (c_X5_laysHold l D cI cS am q1 p1 p2 p3 q3 h4) mL_RX5_188 v_X5_laysHold ⟨rfl, rfl⟩ ⟨Nat.le_of_ble_eq_true rfl, Nat.le_of_ble_eq_true rfl⟩ ⟨Nat.zero_le _, Nat.zero_le _⟩ 0 5 rfl rfl rfl hl (Nat.le_of_ble_eq_true rfl) dX5_hold__9 rfl (fun H locs ok1 Z => ?_)
  obtain ⟨q5, h6, hF⟩ := obind hF
  refine km_i (As := [.int q3.1]) (ok := (fun _ => True)) Fc hA Z Lens.all (c_X5_made l D cI cS am q3.2 q3.1 q5 h6) mL_RX5_103 v_X5_made ⟨rfl, rfl⟩ ⟨Nat.le_of_ble_eq_true rfl, Nat.le_of_ble_eq_true rfl⟩ ⟨Nat.zero_le _, Nat.zero_le _⟩ 0 5 rfl rfl rfl hl (Nat.le_of_ble_eq_true rfl) dX5_hold__12 rfl (fun H locs ok1 Z => ?_)
  exact kret q5.1 q5.2 _ _ _ _ ⟨(pfst (Option.some.inj hF)), psnd (Option.some.inj hF), trivial⟩ Z dX5_hold__15
def X5_holdsOf_L4 (ρ : Ms) (x1 : Int32) : Nat → Int32 → Int32 → Option (Int32)
  | 0, _, _ => none
  | k + 1, x2, x3 => (rdA (ρ.1.1 0) 681 (3 : Int32)).bind fun v1 => if v1 ≤ x3 then (some x2) else (X5_hold ρ x3 (1 : Int32)).bind fun v4 => if v4 = x1 then (X5_holdsOf_L4 ρ x1 k ((x2 + (1 : Int32))) ((x3 + (1 : Int32)))) else X5_holdsOf_L4 ρ x1 k ((x2 + (0 : Int32))) ((x3 + (1 : Int32)))
def X5_holdsOf (ρ : Ms) (p1 : Int32) : Option (Int32) := X5_holdsOf_L4 ρ p1 FU (0 : Int32) (0 : Int32)
def rm_X5_holdsOf : Room := { frames := 1, cells := 0, slots := 0, locals := 22 }
theorem v_X5_holdsOf : WdV RX5 yX5_holdsOf cX5_holdsOf 4 (some .int) 1 := ⟨mI_X5_holdsOf, mS_X5_holdsOf, mZ_RX5, mC_X5_holdsOf, by decide +kernel⟩
set_option maxHeartbeats 8000000 in
set_option maxRecDepth 100000 in
theorem c_X5_holdsOf (l : Launch) (D : va_G) (cI cS : ClassId) (am : Nat → Nat) (ρ : Ms) (p1 : Int32) (F : Int32) (hF : X5_holdsOf ρ p1 = some F) : MI l yX5_holdsOf cX5_holdsOf 4 (some .int) rm_X5_holdsOf D cI cS [.ref (am 0), .int p1] (mW am cI ρ) (mW am cI) (fun r u' => r = F ∧ u' = ρ) := by
  refine MI.mk RX5 rfl .int rfl (by decide) (Nat.le_of_ble_eq_true rfl) (fun _ _ _ => rfl) ?_
  intro p e s m args below meth c A Q ls Fc hin hA Z kret hl
  obtain ⟨hx, hb, hml, hown, hts, hKN⟩ := id Fc
  replace hl : lv_has ls 4 [(0, .ref (am 0)), (1, .int p1)] := hl
  have L4 : ∀ (x1 : Int32) (k : Nat) (x2 : Int32) (x3 : Int32) (H : Heap) (locs : List Loc) (ls : Array Slot), X5_holdsOf_L4 ρ x1  k x2 x3 = some F → Ix D A s (mW am cI ρ) H locs → lv_has ls 4 [(0, .ref (am 0)), (1, .int x1), (2, .int x2), (3, .int x3)] → W p l e rm_X5_holdsOf s m args below meth c H locs 0 0 Q (F0 m 4 ls []) := by
    intro x1 k
    induction k with
    | zero => intro x2 x3 H locs ls hF; rw [X5_holdsOf_L4] at hF; cases hF
    | succ k ih =>
      intro x2 x3 H locs ls hF Z hl
      rw [X5_holdsOf_L4] at hF
      refine lv_iload_n hx hb dX5_holdsOf_4 rfl (lv_at hl 3 rfl) ?_
      refine lv_aload_n hx hb dX5_holdsOf_5 rfl (lv_at hl 0 rfl) ?_
      refine kget Fc Z inX5 0 rfl rfl 0 (by decide) mF_RX5_11 rfl rfl dX5_holdsOf_6 ?_
      refine lv_iconst (v := (3 : Int32)) hx hb dX5_holdsOf_9 (by decide) ?_
      obtain ⟨v1, h2, hF⟩ := obind hF
      refine kald Fc Z 1 rfl h2 dX5_holdsOf_10 ?_
      refine lv_icmp_ge (tgt := 38) hx hb dX5_holdsOf_11 (by decide) (fun c3 => ?_) (fun c3 => ?_)
      · rw [if_pos c3] at hF
        refine lv_iload_n hx hb dX5_holdsOf_38 rfl (lv_at hl 2 rfl) ?_
        exact kret x2 ρ _ _ _ _ ⟨(Option.some.inj hF), rfl⟩ Z dX5_holdsOf_39
      · rw [if_neg c3] at hF
        refine lv_iload_n hx hb dX5_holdsOf_14 rfl (lv_at hl 2 rfl) ?_
        refine lv_aload_n hx hb dX5_holdsOf_15 rfl (lv_at hl 0 rfl) ?_
        refine lv_iload_n hx hb dX5_holdsOf_16 rfl (lv_at hl 3 rfl) ?_
        refine lv_iconst (v := (1 : Int32)) hx hb dX5_holdsOf_17 (by decide) ?_
        obtain ⟨v4, h5, hF⟩ := obind hF
        refine kr_i (As := [.int x3, .int (1 : Int32)]) Fc hA Z Lens.all (c_X5_hold l D cI cS am ρ x3 (1 : Int32) v4 h5) mL_RX5_59 v_X5_hold ⟨rfl, rfl⟩ ⟨Nat.le_of_ble_eq_true rfl, Nat.le_of_ble_eq_true rfl⟩ ⟨Nat.zero_le _, Nat.zero_le _⟩ 0 5 rfl rfl rfl hl (Nat.le_of_ble_eq_true rfl) dX5_holdsOf_18 rfl (fun H locs Z => ?_)
        refine lv_iload_n hx hb dX5_holdsOf_21 rfl (lv_at hl 1 rfl) ?_
        refine lv_icmp_ne (tgt := 29) hx hb dX5_holdsOf_22 (by decide) (fun c6 => ?_) (fun c6 => ?_)
        · rw [if_neg c6] at hF
          refine lv_iconst (v := (0 : Int32)) hx hb dX5_holdsOf_29 (by decide) ?_
          refine lv_iadd hx hb dX5_holdsOf_30 ?_
          refine lv_istore_n (lv' := [(2, .int (x2 + (0 : Int32))), (0, .ref (am 0)), (1, .int x1), (3, .int x3)]) hx hb dX5_holdsOf_31 rfl hl (by decide) rfl (fun ls hl => ?_)
          refine lv_iinc (v := (x3 + (1 : Int32))) (lv' := [(3, .int (x3 + (1 : Int32))), (2, .int (x2 + (0 : Int32))), (0, .ref (am 0)), (1, .int x1)]) hx hb dX5_holdsOf_32 hl (k := 3) rfl (by rfl) (by decide) rfl (fun ls hl => ?_)
          refine lv_goto (tgt := 4) hx hb dX5_holdsOf_35 (by decide) ?_
          exact ih ((x2 + (0 : Int32))) ((x3 + (1 : Int32))) _ _ _ hF Z (lv_sub hl [2, 3, 1, 0] rfl)
        · rw [if_pos c6] at hF
          refine lv_iconst (v := (1 : Int32)) hx hb dX5_holdsOf_25 (by decide) ?_
          refine lv_goto (tgt := 30) hx hb dX5_holdsOf_26 (by decide) ?_
          refine lv_iadd hx hb dX5_holdsOf_30 ?_
          refine lv_istore_n (lv' := [(2, .int (x2 + (1 : Int32))), (0, .ref (am 0)), (1, .int x1), (3, .int x3)]) hx hb dX5_holdsOf_31 rfl hl (by decide) rfl (fun ls hl => ?_)
          refine lv_iinc (v := (x3 + (1 : Int32))) (lv' := [(3, .int (x3 + (1 : Int32))), (2, .int (x2 + (1 : Int32))), (0, .ref (am 0)), (1, .int x1)]) hx hb dX5_holdsOf_32 hl (k := 3) rfl (by rfl) (by decide) rfl (fun ls hl => ?_)
          refine lv_goto (tgt := 4) hx hb dX5_holdsOf_35 (by decide) ?_
          exact ih ((x2 + (1 : Int32))) ((x3 + (1 : Int32))) _ _ _ hF Z (lv_sub hl [2, 3, 1, 0] rfl)
  unfold X5_holdsOf at hF
  refine lv_iconst (v := (0 : Int32)) hx hb dX5_holdsOf_0 (by decide) ?_
  refine lv_istore_n (lv' := [(2, .int (0 : Int32)), (0, .ref (am 0)), (1, .int p1)]) hx hb dX5_holdsOf_1 rfl hl (by decide) rfl (fun ls hl => ?_)
  refine lv_iconst (v := (0 : Int32)) hx hb dX5_holdsOf_2 (by decide) ?_
  refine lv_istore_n (lv' := [(3, .int (0 : Int32)), (2, .int (0 : Int32)), (0, .ref (am 0)), (1, .int p1)]) hx hb dX5_holdsOf_3 rfl hl (by decide) rfl (fun ls hl => ?_)
  exact L4 p1 FU (0 : Int32) (0 : Int32) _ _ _ hF Z (lv_sub hl [2, 3, 1, 0] rfl)
