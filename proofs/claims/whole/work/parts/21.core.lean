/-! THE CLASS: methods over the state that is now -/
def X4_enter (τ : St) (p1 p2 p3 p4 : Int32) : St := if p3 = 0 then (τ) else if p3 ≤ 0 then (bnd (tput 4 (τ.1 1) p2 (0 : Int32) (((tget 4 (τ.1 1) p2 (0 : Int32)) + p3))) fun q3 => bnd (stT τ 1 q3) fun τ5 => bnd (tput 4 (τ5.1 1) p2 (3 : Int32) (((tget 4 (τ5.1 1) p2 (3 : Int32)) + (jab p3)))) fun q7 => bnd (stT τ5 1 q7) fun τ9 => if (τ9.1 3).1 = (60 : Int32) then (bnd (trem 5 (τ9.1 3) (0 : Int32)) fun q36 => bnd (stT τ9 3 q36) fun τ38 => bnd (tadd 60 5 (τ38.1 3)) fun q40 => bnd (stT τ38 3 q40.2) fun τ42 => bnd (tput 5 (τ42.1 3) q40.1 (0 : Int32) p1) fun q44 => bnd (stT τ42 3 q44) fun τ46 => bnd (tput 5 (τ46.1 3) q40.1 (1 : Int32) p2) fun q48 => bnd (stT τ46 3 q48) fun τ50 => bnd (tput 5 (τ50.1 3) q40.1 (2 : Int32) p3) fun q52 => bnd (stT τ50 3 q52) fun τ54 => bnd (tput 5 (τ54.1 3) q40.1 (3 : Int32) p4) fun q56 => bnd (stT τ54 3 q56) fun τ58 => bnd (tput 5 (τ58.1 3) q40.1 (4 : Int32) τ58.2) fun q60 => bnd (stT τ58 3 q60) fun τ62 => τ62) else bnd (tadd 60 5 (τ9.1 3)) fun q12 => bnd (stT τ9 3 q12.2) fun τ14 => bnd (tput 5 (τ14.1 3) q12.1 (0 : Int32) p1) fun q16 => bnd (stT τ14 3 q16) fun τ18 => bnd (tput 5 (τ18.1 3) q12.1 (1 : Int32) p2) fun q20 => bnd (stT τ18 3 q20) fun τ22 => bnd (tput 5 (τ22.1 3) q12.1 (2 : Int32) p3) fun q24 => bnd (stT τ22 3 q24) fun τ26 => bnd (tput 5 (τ26.1 3) q12.1 (3 : Int32) p4) fun q28 => bnd (stT τ26 3 q28) fun τ30 => bnd (tput 5 (τ30.1 3) q12.1 (4 : Int32) τ30.2) fun q32 => bnd (stT τ30 3 q32) fun τ34 => τ34) else bnd (tput 4 (τ.1 1) p2 (0 : Int32) (((tget 4 (τ.1 1) p2 (0 : Int32)) + p3))) fun q64 => bnd (stT τ 1 q64) fun τ66 => bnd (tput 4 (τ66.1 1) p2 (2 : Int32) (((tget 4 (τ66.1 1) p2 (2 : Int32)) + (jab p3)))) fun q68 => bnd (stT τ66 1 q68) fun τ70 => if (τ70.1 3).1 = (60 : Int32) then (bnd (trem 5 (τ70.1 3) (0 : Int32)) fun q97 => bnd (stT τ70 3 q97) fun τ99 => bnd (tadd 60 5 (τ99.1 3)) fun q101 => bnd (stT τ99 3 q101.2) fun τ103 => bnd (tput 5 (τ103.1 3) q101.1 (0 : Int32) p1) fun q105 => bnd (stT τ103 3 q105) fun τ107 => bnd (tput 5 (τ107.1 3) q101.1 (1 : Int32) p2) fun q109 => bnd (stT τ107 3 q109) fun τ111 => bnd (tput 5 (τ111.1 3) q101.1 (2 : Int32) p3) fun q113 => bnd (stT τ111 3 q113) fun τ115 => bnd (tput 5 (τ115.1 3) q101.1 (3 : Int32) p4) fun q117 => bnd (stT τ115 3 q117) fun τ119 => bnd (tput 5 (τ119.1 3) q101.1 (4 : Int32) τ119.2) fun q121 => bnd (stT τ119 3 q121) fun τ123 => τ123) else bnd (tadd 60 5 (τ70.1 3)) fun q73 => bnd (stT τ70 3 q73.2) fun τ75 => bnd (tput 5 (τ75.1 3) q73.1 (0 : Int32) p1) fun q77 => bnd (stT τ75 3 q77) fun τ79 => bnd (tput 5 (τ79.1 3) q73.1 (1 : Int32) p2) fun q81 => bnd (stT τ79 3 q81) fun τ83 => bnd (tput 5 (τ83.1 3) q73.1 (2 : Int32) p3) fun q85 => bnd (stT τ83 3 q85) fun τ87 => bnd (tput 5 (τ87.1 3) q73.1 (3 : Int32) p4) fun q89 => bnd (stT τ87 3 q89) fun τ91 => bnd (tput 5 (τ91.1 3) q73.1 (4 : Int32) τ91.2) fun q93 => bnd (stT τ91 3 q93) fun τ95 => τ95
def rm_X4_enter : Room := { frames := 2, cells := 0, slots := 0, locals := 47 }
theorem v_X4_enter : WdV RX4 yX4_enter cX4_enter 7 none 4 := ⟨mI_X4_enter, mS_X4_enter, mZ_RX4, mC_X4_enter, by decide +kernel⟩
set_option maxHeartbeats 8000000 in
set_option maxRecDepth 100000 in
theorem c_X4_enter (l : Launch) (D : va_G) (cI cS : ClassId) (ad : Nat → Nat) (hs : Bool) (τ : St) (ok : OK τ) (p1 p2 p3 p4 : Int32) (F : St) (hF : X4_enter τ p1 p2 p3 p4 = F) : MV l yX4_enter cX4_enter 7 rm_X4_enter D cI cS [.ref (ad 0), .int p1, .int p2, .int p3, .int p4] (cW ad cI hs τ) (cW ad cI hs) (fun u => u = F ∧ OK u) := by
  refine MV.mk RX4 rfl (by decide) (Nat.le_of_ble_eq_true rfl) ?_
  intro p e s m args below meth c A Q ls Fc hin hA Z kret hl
  obtain ⟨hx, hb, hml, hown, hts, hKN⟩ := id Fc
  replace hl : lv_has ls 7 [(0, .ref (ad 0)), (1, .int p1), (2, .int p2), (3, .int p3), (4, .int p4)] := hl
  replace Z := Z.anil
  unfold X4_enter at hF
  refine lv_iload_n hx hb dX4_enter_0 rfl (lv_at hl 3 rfl) ?_
  refine lv_if_ne (tgt := 5) hx hb dX4_enter_1 (by decide) (fun c1 => ?_) (fun c1 => ?_)
  · rw [if_neg c1] at hF
    refine lv_iload_n hx hb dX4_enter_5 rfl (lv_at hl 3 rfl) ?_
    refine lv_if_le (tgt := 13) hx hb dX4_enter_6 (by decide) (fun c2 => ?_) (fun c2 => ?_)
    · rw [if_pos c2] at hF
      refine lv_iconst (v := (3 : Int32)) hx hb dX4_enter_13 (by decide) ?_
      refine lv_istore (lv' := [(5, .int (3 : Int32)), (0, .ref (ad 0)), (1, .int p1), (2, .int p2), (3, .int p3), (4, .int p4)]) hx hb dX4_enter_14 hl (by decide) rfl (fun ls hl => ?_)
      refine lv_aload_n hx hb dX4_enter_16 rfl (lv_at hl 1 rfl) ?_
      refine kget Fc Z inX4 0 rfl rfl 0 (by decide) mF_RX4_10 rfl rfl dX4_enter_17 ?_
      refine kgetN Fc Z inX2 1 rfl rfl 1 (by decide) nw_RX4_69 rfl rfl dX4_enter_20 ?_
      refine lv_iload_n hx hb dX4_enter_23 rfl (lv_at hl 3 rfl) ?_
      refine lv_iconst (v := (0 : Int32)) hx hb dX4_enter_24 (by decide) ?_
      refine lv_aload_n hx hb dX4_enter_25 rfl (lv_at hl 1 rfl) ?_
      refine kget Fc Z inX4 0 rfl rfl 0 (by decide) mF_RX4_10 rfl rfl dX4_enter_26 ?_
      refine kgetN Fc Z inX2 1 rfl rfl 1 (by decide) nw_RX4_69 rfl rfl dX4_enter_29 ?_
      refine lv_iload_n hx hb dX4_enter_32 rfl (lv_at hl 3 rfl) ?_
      refine lv_iconst (v := (0 : Int32)) hx hb dX4_enter_33 (by decide) ?_
      refine kr_i (As := [.int p2, .int (0 : Int32)]) Fc hA Z Lens.c1 (c_X3_get l D cI cS (ad 4) (ad 5) 8 4 (8 * 4) sh1 (τ.1 1) ok.2.1 p2 (0 : Int32) (tget 4 (τ.1 1) p2 (0 : Int32)) rfl) mL_RX4_88 v_X3_get ⟨rfl, rfl⟩ ⟨Nat.le_of_ble_eq_true rfl, Nat.le_of_ble_eq_true rfl⟩ ⟨Nat.zero_le _, Nat.zero_le _⟩ 4 3 rfl rfl rfl hl (Nat.le_of_ble_eq_true rfl) dX4_enter_34 rfl (fun H locs Z => ?_)
      refine lv_iload_n hx hb dX4_enter_37 rfl (lv_at hl 4 rfl) ?_
      refine lv_iadd hx hb dX4_enter_38 ?_
      obtain ⟨q3, e4, hF⟩ := bnd_el hF
      refine kv_i (As := [.int p2, .int (0 : Int32), .int (((tget 4 (τ.1 1) p2 (0 : Int32)) + p3))]) (ok := tbOK 8) Fc hA Z Lens.c1 (c_X3_put l D cI cS (ad 4) (ad 5) 8 4 (8 * 4) sh1 (τ.1 1) ok.2.1 p2 (0 : Int32) (((tget 4 (τ.1 1) p2 (0 : Int32)) + p3)) q3 e4.symm) mL_RX4_57 v_X3_put ⟨rfl, rfl⟩ ⟨Nat.le_of_ble_eq_true rfl, Nat.le_of_ble_eq_true rfl⟩ ⟨Nat.zero_le _, Nat.zero_le _⟩ 4 3 rfl rfl rfl hl (Nat.le_of_ble_eq_true rfl) dX4_enter_39 rfl (fun H locs ok1 Z => ?_)
      obtain ⟨τ5, e6, hF⟩ := bnd_el hF
      rw [← e6] at Z
      have ok : OK τ5 := by rw [e6]; exact ok_c1 ok ok1
      refine lv_aload_n hx hb dX4_enter_42 rfl (lv_at hl 1 rfl) ?_
      refine kget Fc Z inX4 0 rfl rfl 0 (by decide) mF_RX4_10 rfl rfl dX4_enter_43 ?_
      refine kgetN Fc Z inX2 1 rfl rfl 1 (by decide) nw_RX4_69 rfl rfl dX4_enter_46 ?_
      refine lv_iload_n hx hb dX4_enter_49 rfl (lv_at hl 3 rfl) ?_
      refine lv_iload hx hb dX4_enter_50 (lv_at hl 0 rfl) ?_
      refine lv_aload_n hx hb dX4_enter_52 rfl (lv_at hl 1 rfl) ?_
      refine kget Fc Z inX4 0 rfl rfl 0 (by decide) mF_RX4_10 rfl rfl dX4_enter_53 ?_
      refine kgetN Fc Z inX2 1 rfl rfl 1 (by decide) nw_RX4_69 rfl rfl dX4_enter_56 ?_
      refine lv_iload_n hx hb dX4_enter_59 rfl (lv_at hl 3 rfl) ?_
      refine lv_iload hx hb dX4_enter_60 (lv_at hl 0 rfl) ?_
      refine kr_i (As := [.int p2, .int (3 : Int32)]) Fc hA Z Lens.c1 (c_X3_get l D cI cS (ad 4) (ad 5) 8 4 (8 * 4) sh1 (τ5.1 1) ok.2.1 p2 (3 : Int32) (tget 4 (τ5.1 1) p2 (3 : Int32)) rfl) mL_RX4_88 v_X3_get ⟨rfl, rfl⟩ ⟨Nat.le_of_ble_eq_true rfl, Nat.le_of_ble_eq_true rfl⟩ ⟨Nat.zero_le _, Nat.zero_le _⟩ 4 3 rfl rfl rfl hl (Nat.le_of_ble_eq_true rfl) dX4_enter_62 rfl (fun H locs Z => ?_)
      refine lv_iload_n hx hb dX4_enter_65 rfl (lv_at hl 4 rfl) ?_
      refine kabs Fc hl mL_RX4_299 (Nat.le_of_ble_eq_true rfl) (Nat.le_of_ble_eq_true rfl) ⟨Nat.zero_le _, Nat.zero_le _⟩ dX4_enter_66 ?_
      refine lv_iadd hx hb dX4_enter_69 ?_
      obtain ⟨q7, e8, hF⟩ := bnd_el hF
      refine kv_i (As := [.int p2, .int (3 : Int32), .int (((tget 4 (τ5.1 1) p2 (3 : Int32)) + (jab p3)))]) (ok := tbOK 8) Fc hA Z Lens.c1 (c_X3_put l D cI cS (ad 4) (ad 5) 8 4 (8 * 4) sh1 (τ5.1 1) ok.2.1 p2 (3 : Int32) (((tget 4 (τ5.1 1) p2 (3 : Int32)) + (jab p3))) q7 e8.symm) mL_RX4_57 v_X3_put ⟨rfl, rfl⟩ ⟨Nat.le_of_ble_eq_true rfl, Nat.le_of_ble_eq_true rfl⟩ ⟨Nat.zero_le _, Nat.zero_le _⟩ 4 3 rfl rfl rfl hl (Nat.le_of_ble_eq_true rfl) dX4_enter_70 rfl (fun H locs ok1 Z => ?_)
      obtain ⟨τ9, e10, hF⟩ := bnd_el hF
      rw [← e10] at Z
      have ok : OK τ9 := by rw [e10]; exact ok_c1 ok ok1
      refine lv_aload_n hx hb dX4_enter_73 rfl (lv_at hl 1 rfl) ?_
      refine kget Fc Z inX4 0 rfl rfl 0 (by decide) mF_RX4_10 rfl rfl dX4_enter_74 ?_
      refine kgetN Fc Z inX2 1 rfl rfl 3 (by decide) nw_RX4_244 rfl rfl dX4_enter_77 ?_
      refine kr_i (As := []) Fc hA Z Lens.c3 (c_X3_size l D cI cS (ad 8) (ad 9) 60 5 (60 * 5) sh3 (τ9.1 3) ok.2.2.2.1  (τ9.1 3).1 rfl) mL_RX4_92 v_X3_size ⟨rfl, rfl⟩ ⟨Nat.le_of_ble_eq_true rfl, Nat.le_of_ble_eq_true rfl⟩ ⟨Nat.zero_le _, Nat.zero_le _⟩ 8 3 rfl rfl rfl hl (Nat.le_of_ble_eq_true rfl) dX4_enter_80 rfl (fun H locs Z => ?_)
      refine lv_bipush (v := (60 : Int32)) hx hb dX4_enter_83 (by decide) ?_
      refine lv_icmp_ne (tgt := 99) hx hb dX4_enter_85 (by decide) (fun c11 => ?_) (fun c11 => ?_)
      · rw [if_neg c11] at hF
        refine lv_aload_n hx hb dX4_enter_99 rfl (lv_at hl 1 rfl) ?_
        refine kget Fc Z inX4 0 rfl rfl 0 (by decide) mF_RX4_10 rfl rfl dX4_enter_100 ?_
        refine kgetN Fc Z inX2 1 rfl rfl 3 (by decide) nw_RX4_244 rfl rfl dX4_enter_103 ?_
        obtain ⟨q12, e13, hF⟩ := bnd_el hF
        refine km_i (As := []) (ok := tbOK 60) Fc hA Z Lens.c3 (c_X3_addRow l D cI cS (ad 8) (ad 9) 60 5 (60 * 5) sh3 (τ9.1 3) ok.2.2.2.1  q12 e13.symm) mL_RX4_51 v_X3_addRow ⟨rfl, rfl⟩ ⟨Nat.le_of_ble_eq_true rfl, Nat.le_of_ble_eq_true rfl⟩ ⟨Nat.zero_le _, Nat.zero_le _⟩ 8 3 rfl rfl rfl hl (Nat.le_of_ble_eq_true rfl) dX4_enter_106 rfl (fun H locs ok1 Z => ?_)
        obtain ⟨τ14, e15, hF⟩ := bnd_el hF
        rw [← e15] at Z
        have ok : OK τ14 := by rw [e15]; exact ok_c3 ok ok1
        refine lv_istore (lv' := [(6, .int q12.1), (5, .int (3 : Int32)), (0, .ref (ad 0)), (1, .int p1), (2, .int p2), (3, .int p3), (4, .int p4)]) hx hb dX4_enter_109 hl (by decide) rfl (fun ls hl => ?_)
        refine lv_aload_n hx hb dX4_enter_111 rfl (lv_at hl 2 rfl) ?_
        refine kget Fc Z inX4 0 rfl rfl 0 (by decide) mF_RX4_10 rfl rfl dX4_enter_112 ?_
        refine kgetN Fc Z inX2 1 rfl rfl 3 (by decide) nw_RX4_244 rfl rfl dX4_enter_115 ?_
        refine lv_iload hx hb dX4_enter_118 (lv_at hl 0 rfl) ?_
        refine lv_iconst (v := (0 : Int32)) hx hb dX4_enter_120 (by decide) ?_
        refine lv_iload_n hx hb dX4_enter_121 rfl (lv_at hl 3 rfl) ?_
        obtain ⟨q16, e17, hF⟩ := bnd_el hF
        refine kv_i (As := [.int q12.1, .int (0 : Int32), .int p1]) (ok := tbOK 60) Fc hA Z Lens.c3 (c_X3_put l D cI cS (ad 8) (ad 9) 60 5 (60 * 5) sh3 (τ14.1 3) ok.2.2.2.1 q12.1 (0 : Int32) p1 q16 e17.symm) mL_RX4_57 v_X3_put ⟨rfl, rfl⟩ ⟨Nat.le_of_ble_eq_true rfl, Nat.le_of_ble_eq_true rfl⟩ ⟨Nat.zero_le _, Nat.zero_le _⟩ 8 3 rfl rfl rfl hl (Nat.le_of_ble_eq_true rfl) dX4_enter_122 rfl (fun H locs ok1 Z => ?_)
        obtain ⟨τ18, e19, hF⟩ := bnd_el hF
        rw [← e19] at Z
        have ok : OK τ18 := by rw [e19]; exact ok_c3 ok ok1
        refine lv_aload_n hx hb dX4_enter_125 rfl (lv_at hl 2 rfl) ?_
        refine kget Fc Z inX4 0 rfl rfl 0 (by decide) mF_RX4_10 rfl rfl dX4_enter_126 ?_
        refine kgetN Fc Z inX2 1 rfl rfl 3 (by decide) nw_RX4_244 rfl rfl dX4_enter_129 ?_
        refine lv_iload hx hb dX4_enter_132 (lv_at hl 0 rfl) ?_
        refine lv_iconst (v := (1 : Int32)) hx hb dX4_enter_134 (by decide) ?_
        refine lv_iload_n hx hb dX4_enter_135 rfl (lv_at hl 4 rfl) ?_
        obtain ⟨q20, e21, hF⟩ := bnd_el hF
        refine kv_i (As := [.int q12.1, .int (1 : Int32), .int p2]) (ok := tbOK 60) Fc hA Z Lens.c3 (c_X3_put l D cI cS (ad 8) (ad 9) 60 5 (60 * 5) sh3 (τ18.1 3) ok.2.2.2.1 q12.1 (1 : Int32) p2 q20 e21.symm) mL_RX4_57 v_X3_put ⟨rfl, rfl⟩ ⟨Nat.le_of_ble_eq_true rfl, Nat.le_of_ble_eq_true rfl⟩ ⟨Nat.zero_le _, Nat.zero_le _⟩ 8 3 rfl rfl rfl hl (Nat.le_of_ble_eq_true rfl) dX4_enter_136 rfl (fun H locs ok1 Z => ?_)
        obtain ⟨τ22, e23, hF⟩ := bnd_el hF
        rw [← e23] at Z
        have ok : OK τ22 := by rw [e23]; exact ok_c3 ok ok1
        refine lv_aload_n hx hb dX4_enter_139 rfl (lv_at hl 2 rfl) ?_
        refine kget Fc Z inX4 0 rfl rfl 0 (by decide) mF_RX4_10 rfl rfl dX4_enter_140 ?_
        refine kgetN Fc Z inX2 1 rfl rfl 3 (by decide) nw_RX4_244 rfl rfl dX4_enter_143 ?_
        refine lv_iload hx hb dX4_enter_146 (lv_at hl 0 rfl) ?_
        refine lv_iconst (v := (2 : Int32)) hx hb dX4_enter_148 (by decide) ?_
        refine lv_iload_n hx hb dX4_enter_149 rfl (lv_at hl 5 rfl) ?_
        obtain ⟨q24, e25, hF⟩ := bnd_el hF
        refine kv_i (As := [.int q12.1, .int (2 : Int32), .int p3]) (ok := tbOK 60) Fc hA Z Lens.c3 (c_X3_put l D cI cS (ad 8) (ad 9) 60 5 (60 * 5) sh3 (τ22.1 3) ok.2.2.2.1 q12.1 (2 : Int32) p3 q24 e25.symm) mL_RX4_57 v_X3_put ⟨rfl, rfl⟩ ⟨Nat.le_of_ble_eq_true rfl, Nat.le_of_ble_eq_true rfl⟩ ⟨Nat.zero_le _, Nat.zero_le _⟩ 8 3 rfl rfl rfl hl (Nat.le_of_ble_eq_true rfl) dX4_enter_150 rfl (fun H locs ok1 Z => ?_)
        obtain ⟨τ26, e27, hF⟩ := bnd_el hF
        rw [← e27] at Z
        have ok : OK τ26 := by rw [e27]; exact ok_c3 ok ok1
        refine lv_aload_n hx hb dX4_enter_153 rfl (lv_at hl 2 rfl) ?_
        refine kget Fc Z inX4 0 rfl rfl 0 (by decide) mF_RX4_10 rfl rfl dX4_enter_154 ?_
        refine kgetN Fc Z inX2 1 rfl rfl 3 (by decide) nw_RX4_244 rfl rfl dX4_enter_157 ?_
        refine lv_iload hx hb dX4_enter_160 (lv_at hl 0 rfl) ?_
        refine lv_iconst (v := (3 : Int32)) hx hb dX4_enter_162 (by decide) ?_
        refine lv_iload hx hb dX4_enter_163 (lv_at hl 6 rfl) ?_
        obtain ⟨q28, e29, hF⟩ := bnd_el hF
        refine kv_i (As := [.int q12.1, .int (3 : Int32), .int p4]) (ok := tbOK 60) Fc hA Z Lens.c3 (c_X3_put l D cI cS (ad 8) (ad 9) 60 5 (60 * 5) sh3 (τ26.1 3) ok.2.2.2.1 q12.1 (3 : Int32) p4 q28 e29.symm) mL_RX4_57 v_X3_put ⟨rfl, rfl⟩ ⟨Nat.le_of_ble_eq_true rfl, Nat.le_of_ble_eq_true rfl⟩ ⟨Nat.zero_le _, Nat.zero_le _⟩ 8 3 rfl rfl rfl hl (Nat.le_of_ble_eq_true rfl) dX4_enter_165 rfl (fun H locs ok1 Z => ?_)
        obtain ⟨τ30, e31, hF⟩ := bnd_el hF
        rw [← e31] at Z
        have ok : OK τ30 := by rw [e31]; exact ok_c3 ok ok1
        refine lv_aload_n hx hb dX4_enter_168 rfl (lv_at hl 2 rfl) ?_
        refine kget Fc Z inX4 0 rfl rfl 0 (by decide) mF_RX4_10 rfl rfl dX4_enter_169 ?_
        refine kgetN Fc Z inX2 1 rfl rfl 3 (by decide) nw_RX4_244 rfl rfl dX4_enter_172 ?_
        refine lv_iload hx hb dX4_enter_175 (lv_at hl 0 rfl) ?_
        refine lv_iconst (v := (4 : Int32)) hx hb dX4_enter_177 (by decide) ?_
        refine lv_aload_n hx hb dX4_enter_178 rfl (lv_at hl 2 rfl) ?_
        refine kget Fc Z inX4 0 rfl rfl 0 (by decide) mF_RX4_10 rfl rfl dX4_enter_179 ?_
        refine kgetN Fc Z inX2 1 rfl rfl 5 (by decide) nw_RX4_98 rfl rfl dX4_enter_182 ?_
        obtain ⟨q32, e33, hF⟩ := bnd_el hF
        refine kv_i (As := [.int q12.1, .int (4 : Int32), .int τ30.2]) (ok := tbOK 60) Fc hA Z Lens.c3 (c_X3_put l D cI cS (ad 8) (ad 9) 60 5 (60 * 5) sh3 (τ30.1 3) ok.2.2.2.1 q12.1 (4 : Int32) τ30.2 q32 e33.symm) mL_RX4_57 v_X3_put ⟨rfl, rfl⟩ ⟨Nat.le_of_ble_eq_true rfl, Nat.le_of_ble_eq_true rfl⟩ ⟨Nat.zero_le _, Nat.zero_le _⟩ 8 3 rfl rfl rfl hl (Nat.le_of_ble_eq_true rfl) dX4_enter_185 rfl (fun H locs ok1 Z => ?_)
        obtain ⟨τ34, e35, hF⟩ := bnd_el hF
        rw [← e35] at Z
        have ok : OK τ34 := by rw [e35]; exact ok_c3 ok ok1
        exact kret τ34 _ _ _ _ ⟨hF, ok⟩ Z.nila dX4_enter_188
      · rw [if_pos c11] at hF
        refine lv_aload_n hx hb dX4_enter_88 rfl (lv_at hl 1 rfl) ?_
        refine kget Fc Z inX4 0 rfl rfl 0 (by decide) mF_RX4_10 rfl rfl dX4_enter_89 ?_
        refine kgetN Fc Z inX2 1 rfl rfl 3 (by decide) nw_RX4_244 rfl rfl dX4_enter_92 ?_
        refine lv_iconst (v := (0 : Int32)) hx hb dX4_enter_95 (by decide) ?_
        obtain ⟨q36, e37, hF⟩ := bnd_el hF
        refine kv_i (As := [.int (0 : Int32)]) (ok := tbOK 60) Fc hA Z Lens.c3 (c_X3_removeRow l D cI cS (ad 8) (ad 9) 60 5 (60 * 5) sh3 (τ9.1 3) ok.2.2.2.1 (0 : Int32) q36 e37.symm) mL_RX4_311 v_X3_removeRow ⟨rfl, rfl⟩ ⟨Nat.le_of_ble_eq_true rfl, Nat.le_of_ble_eq_true rfl⟩ ⟨Nat.zero_le _, Nat.zero_le _⟩ 8 3 rfl rfl rfl hl (Nat.le_of_ble_eq_true rfl) dX4_enter_96 rfl (fun H locs ok1 Z => ?_)
        obtain ⟨τ38, e39, hF⟩ := bnd_el hF
        rw [← e39] at Z
        have ok : OK τ38 := by rw [e39]; exact ok_c3 ok ok1
        refine lv_aload_n hx hb dX4_enter_99 rfl (lv_at hl 1 rfl) ?_
        refine kget Fc Z inX4 0 rfl rfl 0 (by decide) mF_RX4_10 rfl rfl dX4_enter_100 ?_
        refine kgetN Fc Z inX2 1 rfl rfl 3 (by decide) nw_RX4_244 rfl rfl dX4_enter_103 ?_
        obtain ⟨q40, e41, hF⟩ := bnd_el hF
        refine km_i (As := []) (ok := tbOK 60) Fc hA Z Lens.c3 (c_X3_addRow l D cI cS (ad 8) (ad 9) 60 5 (60 * 5) sh3 (τ38.1 3) ok.2.2.2.1  q40 e41.symm) mL_RX4_51 v_X3_addRow ⟨rfl, rfl⟩ ⟨Nat.le_of_ble_eq_true rfl, Nat.le_of_ble_eq_true rfl⟩ ⟨Nat.zero_le _, Nat.zero_le _⟩ 8 3 rfl rfl rfl hl (Nat.le_of_ble_eq_true rfl) dX4_enter_106 rfl (fun H locs ok1 Z => ?_)
        obtain ⟨τ42, e43, hF⟩ := bnd_el hF
        rw [← e43] at Z
        have ok : OK τ42 := by rw [e43]; exact ok_c3 ok ok1
        refine lv_istore (lv' := [(6, .int q40.1), (5, .int (3 : Int32)), (0, .ref (ad 0)), (1, .int p1), (2, .int p2), (3, .int p3), (4, .int p4)]) hx hb dX4_enter_109 hl (by decide) rfl (fun ls hl => ?_)
        refine lv_aload_n hx hb dX4_enter_111 rfl (lv_at hl 2 rfl) ?_
        refine kget Fc Z inX4 0 rfl rfl 0 (by decide) mF_RX4_10 rfl rfl dX4_enter_112 ?_
        refine kgetN Fc Z inX2 1 rfl rfl 3 (by decide) nw_RX4_244 rfl rfl dX4_enter_115 ?_
        refine lv_iload hx hb dX4_enter_118 (lv_at hl 0 rfl) ?_
        refine lv_iconst (v := (0 : Int32)) hx hb dX4_enter_120 (by decide) ?_
        refine lv_iload_n hx hb dX4_enter_121 rfl (lv_at hl 3 rfl) ?_
        obtain ⟨q44, e45, hF⟩ := bnd_el hF
        refine kv_i (As := [.int q40.1, .int (0 : Int32), .int p1]) (ok := tbOK 60) Fc hA Z Lens.c3 (c_X3_put l D cI cS (ad 8) (ad 9) 60 5 (60 * 5) sh3 (τ42.1 3) ok.2.2.2.1 q40.1 (0 : Int32) p1 q44 e45.symm) mL_RX4_57 v_X3_put ⟨rfl, rfl⟩ ⟨Nat.le_of_ble_eq_true rfl, Nat.le_of_ble_eq_true rfl⟩ ⟨Nat.zero_le _, Nat.zero_le _⟩ 8 3 rfl rfl rfl hl (Nat.le_of_ble_eq_true rfl) dX4_enter_122 rfl (fun H locs ok1 Z => ?_)
        obtain ⟨τ46, e47, hF⟩ := bnd_el hF
        rw [← e47] at Z
        have ok : OK τ46 := by rw [e47]; exact ok_c3 ok ok1
        refine lv_aload_n hx hb dX4_enter_125 rfl (lv_at hl 2 rfl) ?_
        refine kget Fc Z inX4 0 rfl rfl 0 (by decide) mF_RX4_10 rfl rfl dX4_enter_126 ?_
        refine kgetN Fc Z inX2 1 rfl rfl 3 (by decide) nw_RX4_244 rfl rfl dX4_enter_129 ?_
        refine lv_iload hx hb dX4_enter_132 (lv_at hl 0 rfl) ?_
        refine lv_iconst (v := (1 : Int32)) hx hb dX4_enter_134 (by decide) ?_
        refine lv_iload_n hx hb dX4_enter_135 rfl (lv_at hl 4 rfl) ?_
        obtain ⟨q48, e49, hF⟩ := bnd_el hF
        refine kv_i (As := [.int q40.1, .int (1 : Int32), .int p2]) (ok := tbOK 60) Fc hA Z Lens.c3 (c_X3_put l D cI cS (ad 8) (ad 9) 60 5 (60 * 5) sh3 (τ46.1 3) ok.2.2.2.1 q40.1 (1 : Int32) p2 q48 e49.symm) mL_RX4_57 v_X3_put ⟨rfl, rfl⟩ ⟨Nat.le_of_ble_eq_true rfl, Nat.le_of_ble_eq_true rfl⟩ ⟨Nat.zero_le _, Nat.zero_le _⟩ 8 3 rfl rfl rfl hl (Nat.le_of_ble_eq_true rfl) dX4_enter_136 rfl (fun H locs ok1 Z => ?_)
        obtain ⟨τ50, e51, hF⟩ := bnd_el hF
        rw [← e51] at Z
        have ok : OK τ50 := by rw [e51]; exact ok_c3 ok ok1
        refine lv_aload_n hx hb dX4_enter_139 rfl (lv_at hl 2 rfl) ?_
        refine kget Fc Z inX4 0 rfl rfl 0 (by decide) mF_RX4_10 rfl rfl dX4_enter_140 ?_
        refine kgetN Fc Z inX2 1 rfl rfl 3 (by decide) nw_RX4_244 rfl rfl dX4_enter_143 ?_
        refine lv_iload hx hb dX4_enter_146 (lv_at hl 0 rfl) ?_
        refine lv_iconst (v := (2 : Int32)) hx hb dX4_enter_148 (by decide) ?_
        refine lv_iload_n hx hb dX4_enter_149 rfl (lv_at hl 5 rfl) ?_
        obtain ⟨q52, e53, hF⟩ := bnd_el hF
        refine kv_i (As := [.int q40.1, .int (2 : Int32), .int p3]) (ok := tbOK 60) Fc hA Z Lens.c3 (c_X3_put l D cI cS (ad 8) (ad 9) 60 5 (60 * 5) sh3 (τ50.1 3) ok.2.2.2.1 q40.1 (2 : Int32) p3 q52 e53.symm) mL_RX4_57 v_X3_put ⟨rfl, rfl⟩ ⟨Nat.le_of_ble_eq_true rfl, Nat.le_of_ble_eq_true rfl⟩ ⟨Nat.zero_le _, Nat.zero_le _⟩ 8 3 rfl rfl rfl hl (Nat.le_of_ble_eq_true rfl) dX4_enter_150 rfl (fun H locs ok1 Z => ?_)
        obtain ⟨τ54, e55, hF⟩ := bnd_el hF
        rw [← e55] at Z
        have ok : OK τ54 := by rw [e55]; exact ok_c3 ok ok1
        refine lv_aload_n hx hb dX4_enter_153 rfl (lv_at hl 2 rfl) ?_
        refine kget Fc Z inX4 0 rfl rfl 0 (by decide) mF_RX4_10 rfl rfl dX4_enter_154 ?_
        refine kgetN Fc Z inX2 1 rfl rfl 3 (by decide) nw_RX4_244 rfl rfl dX4_enter_157 ?_
        refine lv_iload hx hb dX4_enter_160 (lv_at hl 0 rfl) ?_
        refine lv_iconst (v := (3 : Int32)) hx hb dX4_enter_162 (by decide) ?_
        refine lv_iload hx hb dX4_enter_163 (lv_at hl 6 rfl) ?_
        obtain ⟨q56, e57, hF⟩ := bnd_el hF
        refine kv_i (As := [.int q40.1, .int (3 : Int32), .int p4]) (ok := tbOK 60) Fc hA Z Lens.c3 (c_X3_put l D cI cS (ad 8) (ad 9) 60 5 (60 * 5) sh3 (τ54.1 3) ok.2.2.2.1 q40.1 (3 : Int32) p4 q56 e57.symm) mL_RX4_57 v_X3_put ⟨rfl, rfl⟩ ⟨Nat.le_of_ble_eq_true rfl, Nat.le_of_ble_eq_true rfl⟩ ⟨Nat.zero_le _, Nat.zero_le _⟩ 8 3 rfl rfl rfl hl (Nat.le_of_ble_eq_true rfl) dX4_enter_165 rfl (fun H locs ok1 Z => ?_)
        obtain ⟨τ58, e59, hF⟩ := bnd_el hF
        rw [← e59] at Z
        have ok : OK τ58 := by rw [e59]; exact ok_c3 ok ok1
        refine lv_aload_n hx hb dX4_enter_168 rfl (lv_at hl 2 rfl) ?_
        refine kget Fc Z inX4 0 rfl rfl 0 (by decide) mF_RX4_10 rfl rfl dX4_enter_169 ?_
        refine kgetN Fc Z inX2 1 rfl rfl 3 (by decide) nw_RX4_244 rfl rfl dX4_enter_172 ?_
        refine lv_iload hx hb dX4_enter_175 (lv_at hl 0 rfl) ?_
        refine lv_iconst (v := (4 : Int32)) hx hb dX4_enter_177 (by decide) ?_
        refine lv_aload_n hx hb dX4_enter_178 rfl (lv_at hl 2 rfl) ?_
        refine kget Fc Z inX4 0 rfl rfl 0 (by decide) mF_RX4_10 rfl rfl dX4_enter_179 ?_
        refine kgetN Fc Z inX2 1 rfl rfl 5 (by decide) nw_RX4_98 rfl rfl dX4_enter_182 ?_
        obtain ⟨q60, e61, hF⟩ := bnd_el hF
        refine kv_i (As := [.int q40.1, .int (4 : Int32), .int τ58.2]) (ok := tbOK 60) Fc hA Z Lens.c3 (c_X3_put l D cI cS (ad 8) (ad 9) 60 5 (60 * 5) sh3 (τ58.1 3) ok.2.2.2.1 q40.1 (4 : Int32) τ58.2 q60 e61.symm) mL_RX4_57 v_X3_put ⟨rfl, rfl⟩ ⟨Nat.le_of_ble_eq_true rfl, Nat.le_of_ble_eq_true rfl⟩ ⟨Nat.zero_le _, Nat.zero_le _⟩ 8 3 rfl rfl rfl hl (Nat.le_of_ble_eq_true rfl) dX4_enter_185 rfl (fun H locs ok1 Z => ?_)
        obtain ⟨τ62, e63, hF⟩ := bnd_el hF
        rw [← e63] at Z
        have ok : OK τ62 := by rw [e63]; exact ok_c3 ok ok1
        exact kret τ62 _ _ _ _ ⟨hF, ok⟩ Z.nila dX4_enter_188
    · rw [if_neg c2] at hF
      refine lv_iconst (v := (2 : Int32)) hx hb dX4_enter_9 (by decide) ?_
      refine lv_goto (tgt := 14) hx hb dX4_enter_10 (by decide) ?_
      refine lv_istore (lv' := [(5, .int (2 : Int32)), (0, .ref (ad 0)), (1, .int p1), (2, .int p2), (3, .int p3), (4, .int p4)]) hx hb dX4_enter_14 hl (by decide) rfl (fun ls hl => ?_)
      refine lv_aload_n hx hb dX4_enter_16 rfl (lv_at hl 1 rfl) ?_
      refine kget Fc Z inX4 0 rfl rfl 0 (by decide) mF_RX4_10 rfl rfl dX4_enter_17 ?_
      refine kgetN Fc Z inX2 1 rfl rfl 1 (by decide) nw_RX4_69 rfl rfl dX4_enter_20 ?_
      refine lv_iload_n hx hb dX4_enter_23 rfl (lv_at hl 3 rfl) ?_
      refine lv_iconst (v := (0 : Int32)) hx hb dX4_enter_24 (by decide) ?_
      refine lv_aload_n hx hb dX4_enter_25 rfl (lv_at hl 1 rfl) ?_
      refine kget Fc Z inX4 0 rfl rfl 0 (by decide) mF_RX4_10 rfl rfl dX4_enter_26 ?_
      refine kgetN Fc Z inX2 1 rfl rfl 1 (by decide) nw_RX4_69 rfl rfl dX4_enter_29 ?_
      refine lv_iload_n hx hb dX4_enter_32 rfl (lv_at hl 3 rfl) ?_
      refine lv_iconst (v := (0 : Int32)) hx hb dX4_enter_33 (by decide) ?_
      refine kr_i (As := [.int p2, .int (0 : Int32)]) Fc hA Z Lens.c1 (c_X3_get l D cI cS (ad 4) (ad 5) 8 4 (8 * 4) sh1 (τ.1 1) ok.2.1 p2 (0 : Int32) (tget 4 (τ.1 1) p2 (0 : Int32)) rfl) mL_RX4_88 v_X3_get ⟨rfl, rfl⟩ ⟨Nat.le_of_ble_eq_true rfl, Nat.le_of_ble_eq_true rfl⟩ ⟨Nat.zero_le _, Nat.zero_le _⟩ 4 3 rfl rfl rfl hl (Nat.le_of_ble_eq_true rfl) dX4_enter_34 rfl (fun H locs Z => ?_)
      refine lv_iload_n hx hb dX4_enter_37 rfl (lv_at hl 4 rfl) ?_
      refine lv_iadd hx hb dX4_enter_38 ?_
      obtain ⟨q64, e65, hF⟩ := bnd_el hF
      refine kv_i (As := [.int p2, .int (0 : Int32), .int (((tget 4 (τ.1 1) p2 (0 : Int32)) + p3))]) (ok := tbOK 8) Fc hA Z Lens.c1 (c_X3_put l D cI cS (ad 4) (ad 5) 8 4 (8 * 4) sh1 (τ.1 1) ok.2.1 p2 (0 : Int32) (((tget 4 (τ.1 1) p2 (0 : Int32)) + p3)) q64 e65.symm) mL_RX4_57 v_X3_put ⟨rfl, rfl⟩ ⟨Nat.le_of_ble_eq_true rfl, Nat.le_of_ble_eq_true rfl⟩ ⟨Nat.zero_le _, Nat.zero_le _⟩ 4 3 rfl rfl rfl hl (Nat.le_of_ble_eq_true rfl) dX4_enter_39 rfl (fun H locs ok1 Z => ?_)
      obtain ⟨τ66, e67, hF⟩ := bnd_el hF
      rw [← e67] at Z
      have ok : OK τ66 := by rw [e67]; exact ok_c1 ok ok1
      refine lv_aload_n hx hb dX4_enter_42 rfl (lv_at hl 1 rfl) ?_
      refine kget Fc Z inX4 0 rfl rfl 0 (by decide) mF_RX4_10 rfl rfl dX4_enter_43 ?_
      refine kgetN Fc Z inX2 1 rfl rfl 1 (by decide) nw_RX4_69 rfl rfl dX4_enter_46 ?_
      refine lv_iload_n hx hb dX4_enter_49 rfl (lv_at hl 3 rfl) ?_
      refine lv_iload hx hb dX4_enter_50 (lv_at hl 0 rfl) ?_
      refine lv_aload_n hx hb dX4_enter_52 rfl (lv_at hl 1 rfl) ?_
      refine kget Fc Z inX4 0 rfl rfl 0 (by decide) mF_RX4_10 rfl rfl dX4_enter_53 ?_
      refine kgetN Fc Z inX2 1 rfl rfl 1 (by decide) nw_RX4_69 rfl rfl dX4_enter_56 ?_
      refine lv_iload_n hx hb dX4_enter_59 rfl (lv_at hl 3 rfl) ?_
      refine lv_iload hx hb dX4_enter_60 (lv_at hl 0 rfl) ?_
      refine kr_i (As := [.int p2, .int (2 : Int32)]) Fc hA Z Lens.c1 (c_X3_get l D cI cS (ad 4) (ad 5) 8 4 (8 * 4) sh1 (τ66.1 1) ok.2.1 p2 (2 : Int32) (tget 4 (τ66.1 1) p2 (2 : Int32)) rfl) mL_RX4_88 v_X3_get ⟨rfl, rfl⟩ ⟨Nat.le_of_ble_eq_true rfl, Nat.le_of_ble_eq_true rfl⟩ ⟨Nat.zero_le _, Nat.zero_le _⟩ 4 3 rfl rfl rfl hl (Nat.le_of_ble_eq_true rfl) dX4_enter_62 rfl (fun H locs Z => ?_)
      refine lv_iload_n hx hb dX4_enter_65 rfl (lv_at hl 4 rfl) ?_
      refine kabs Fc hl mL_RX4_299 (Nat.le_of_ble_eq_true rfl) (Nat.le_of_ble_eq_true rfl) ⟨Nat.zero_le _, Nat.zero_le _⟩ dX4_enter_66 ?_
      refine lv_iadd hx hb dX4_enter_69 ?_
      obtain ⟨q68, e69, hF⟩ := bnd_el hF
      refine kv_i (As := [.int p2, .int (2 : Int32), .int (((tget 4 (τ66.1 1) p2 (2 : Int32)) + (jab p3)))]) (ok := tbOK 8) Fc hA Z Lens.c1 (c_X3_put l D cI cS (ad 4) (ad 5) 8 4 (8 * 4) sh1 (τ66.1 1) ok.2.1 p2 (2 : Int32) (((tget 4 (τ66.1 1) p2 (2 : Int32)) + (jab p3))) q68 e69.symm) mL_RX4_57 v_X3_put ⟨rfl, rfl⟩ ⟨Nat.le_of_ble_eq_true rfl, Nat.le_of_ble_eq_true rfl⟩ ⟨Nat.zero_le _, Nat.zero_le _⟩ 4 3 rfl rfl rfl hl (Nat.le_of_ble_eq_true rfl) dX4_enter_70 rfl (fun H locs ok1 Z => ?_)
      obtain ⟨τ70, e71, hF⟩ := bnd_el hF
      rw [← e71] at Z
      have ok : OK τ70 := by rw [e71]; exact ok_c1 ok ok1
      refine lv_aload_n hx hb dX4_enter_73 rfl (lv_at hl 1 rfl) ?_
      refine kget Fc Z inX4 0 rfl rfl 0 (by decide) mF_RX4_10 rfl rfl dX4_enter_74 ?_
      refine kgetN Fc Z inX2 1 rfl rfl 3 (by decide) nw_RX4_244 rfl rfl dX4_enter_77 ?_
      refine kr_i (As := []) Fc hA Z Lens.c3 (c_X3_size l D cI cS (ad 8) (ad 9) 60 5 (60 * 5) sh3 (τ70.1 3) ok.2.2.2.1  (τ70.1 3).1 rfl) mL_RX4_92 v_X3_size ⟨rfl, rfl⟩ ⟨Nat.le_of_ble_eq_true rfl, Nat.le_of_ble_eq_true rfl⟩ ⟨Nat.zero_le _, Nat.zero_le _⟩ 8 3 rfl rfl rfl hl (Nat.le_of_ble_eq_true rfl) dX4_enter_80 rfl (fun H locs Z => ?_)
      refine lv_bipush (v := (60 : Int32)) hx hb dX4_enter_83 (by decide) ?_
      refine lv_icmp_ne (tgt := 99) hx hb dX4_enter_85 (by decide) (fun c72 => ?_) (fun c72 => ?_)
      · rw [if_neg c72] at hF
        refine lv_aload_n hx hb dX4_enter_99 rfl (lv_at hl 1 rfl) ?_
        refine kget Fc Z inX4 0 rfl rfl 0 (by decide) mF_RX4_10 rfl rfl dX4_enter_100 ?_
        refine kgetN Fc Z inX2 1 rfl rfl 3 (by decide) nw_RX4_244 rfl rfl dX4_enter_103 ?_
        obtain ⟨q73, e74, hF⟩ := bnd_el hF
        refine km_i (As := []) (ok := tbOK 60) Fc hA Z Lens.c3 (c_X3_addRow l D cI cS (ad 8) (ad 9) 60 5 (60 * 5) sh3 (τ70.1 3) ok.2.2.2.1  q73 e74.symm) mL_RX4_51 v_X3_addRow ⟨rfl, rfl⟩ ⟨Nat.le_of_ble_eq_true rfl, Nat.le_of_ble_eq_true rfl⟩ ⟨Nat.zero_le _, Nat.zero_le _⟩ 8 3 rfl rfl rfl hl (Nat.le_of_ble_eq_true rfl) dX4_enter_106 rfl (fun H locs ok1 Z => ?_)
        obtain ⟨τ75, e76, hF⟩ := bnd_el hF
        rw [← e76] at Z
        have ok : OK τ75 := by rw [e76]; exact ok_c3 ok ok1
        refine lv_istore (lv' := [(6, .int q73.1), (5, .int (2 : Int32)), (0, .ref (ad 0)), (1, .int p1), (2, .int p2), (3, .int p3), (4, .int p4)]) hx hb dX4_enter_109 hl (by decide) rfl (fun ls hl => ?_)
        refine lv_aload_n hx hb dX4_enter_111 rfl (lv_at hl 2 rfl) ?_
        refine kget Fc Z inX4 0 rfl rfl 0 (by decide) mF_RX4_10 rfl rfl dX4_enter_112 ?_
        refine kgetN Fc Z inX2 1 rfl rfl 3 (by decide) nw_RX4_244 rfl rfl dX4_enter_115 ?_
        refine lv_iload hx hb dX4_enter_118 (lv_at hl 0 rfl) ?_
        refine lv_iconst (v := (0 : Int32)) hx hb dX4_enter_120 (by decide) ?_
        refine lv_iload_n hx hb dX4_enter_121 rfl (lv_at hl 3 rfl) ?_
        obtain ⟨q77, e78, hF⟩ := bnd_el hF
        refine kv_i (As := [.int q73.1, .int (0 : Int32), .int p1]) (ok := tbOK 60) Fc hA Z Lens.c3 (c_X3_put l D cI cS (ad 8) (ad 9) 60 5 (60 * 5) sh3 (τ75.1 3) ok.2.2.2.1 q73.1 (0 : Int32) p1 q77 e78.symm) mL_RX4_57 v_X3_put ⟨rfl, rfl⟩ ⟨Nat.le_of_ble_eq_true rfl, Nat.le_of_ble_eq_true rfl⟩ ⟨Nat.zero_le _, Nat.zero_le _⟩ 8 3 rfl rfl rfl hl (Nat.le_of_ble_eq_true rfl) dX4_enter_122 rfl (fun H locs ok1 Z => ?_)
        obtain ⟨τ79, e80, hF⟩ := bnd_el hF
        rw [← e80] at Z
        have ok : OK τ79 := by rw [e80]; exact ok_c3 ok ok1
        refine lv_aload_n hx hb dX4_enter_125 rfl (lv_at hl 2 rfl) ?_
        refine kget Fc Z inX4 0 rfl rfl 0 (by decide) mF_RX4_10 rfl rfl dX4_enter_126 ?_
        refine kgetN Fc Z inX2 1 rfl rfl 3 (by decide) nw_RX4_244 rfl rfl dX4_enter_129 ?_
        refine lv_iload hx hb dX4_enter_132 (lv_at hl 0 rfl) ?_
        refine lv_iconst (v := (1 : Int32)) hx hb dX4_enter_134 (by decide) ?_
        refine lv_iload_n hx hb dX4_enter_135 rfl (lv_at hl 4 rfl) ?_
        obtain ⟨q81, e82, hF⟩ := bnd_el hF
        refine kv_i (As := [.int q73.1, .int (1 : Int32), .int p2]) (ok := tbOK 60) Fc hA Z Lens.c3 (c_X3_put l D cI cS (ad 8) (ad 9) 60 5 (60 * 5) sh3 (τ79.1 3) ok.2.2.2.1 q73.1 (1 : Int32) p2 q81 e82.symm) mL_RX4_57 v_X3_put ⟨rfl, rfl⟩ ⟨Nat.le_of_ble_eq_true rfl, Nat.le_of_ble_eq_true rfl⟩ ⟨Nat.zero_le _, Nat.zero_le _⟩ 8 3 rfl rfl rfl hl (Nat.le_of_ble_eq_true rfl) dX4_enter_136 rfl (fun H locs ok1 Z => ?_)
        obtain ⟨τ83, e84, hF⟩ := bnd_el hF
        rw [← e84] at Z
        have ok : OK τ83 := by rw [e84]; exact ok_c3 ok ok1
        refine lv_aload_n hx hb dX4_enter_139 rfl (lv_at hl 2 rfl) ?_
        refine kget Fc Z inX4 0 rfl rfl 0 (by decide) mF_RX4_10 rfl rfl dX4_enter_140 ?_
        refine kgetN Fc Z inX2 1 rfl rfl 3 (by decide) nw_RX4_244 rfl rfl dX4_enter_143 ?_
        refine lv_iload hx hb dX4_enter_146 (lv_at hl 0 rfl) ?_
        refine lv_iconst (v := (2 : Int32)) hx hb dX4_enter_148 (by decide) ?_
        refine lv_iload_n hx hb dX4_enter_149 rfl (lv_at hl 5 rfl) ?_
        obtain ⟨q85, e86, hF⟩ := bnd_el hF
        refine kv_i (As := [.int q73.1, .int (2 : Int32), .int p3]) (ok := tbOK 60) Fc hA Z Lens.c3 (c_X3_put l D cI cS (ad 8) (ad 9) 60 5 (60 * 5) sh3 (τ83.1 3) ok.2.2.2.1 q73.1 (2 : Int32) p3 q85 e86.symm) mL_RX4_57 v_X3_put ⟨rfl, rfl⟩ ⟨Nat.le_of_ble_eq_true rfl, Nat.le_of_ble_eq_true rfl⟩ ⟨Nat.zero_le _, Nat.zero_le _⟩ 8 3 rfl rfl rfl hl (Nat.le_of_ble_eq_true rfl) dX4_enter_150 rfl (fun H locs ok1 Z => ?_)
        obtain ⟨τ87, e88, hF⟩ := bnd_el hF
        rw [← e88] at Z
        have ok : OK τ87 := by rw [e88]; exact ok_c3 ok ok1
        refine lv_aload_n hx hb dX4_enter_153 rfl (lv_at hl 2 rfl) ?_
        refine kget Fc Z inX4 0 rfl rfl 0 (by decide) mF_RX4_10 rfl rfl dX4_enter_154 ?_
        refine kgetN Fc Z inX2 1 rfl rfl 3 (by decide) nw_RX4_244 rfl rfl dX4_enter_157 ?_
        refine lv_iload hx hb dX4_enter_160 (lv_at hl 0 rfl) ?_
        refine lv_iconst (v := (3 : Int32)) hx hb dX4_enter_162 (by decide) ?_
        refine lv_iload hx hb dX4_enter_163 (lv_at hl 6 rfl) ?_
        obtain ⟨q89, e90, hF⟩ := bnd_el hF
        refine kv_i (As := [.int q73.1, .int (3 : Int32), .int p4]) (ok := tbOK 60) Fc hA Z Lens.c3 (c_X3_put l D cI cS (ad 8) (ad 9) 60 5 (60 * 5) sh3 (τ87.1 3) ok.2.2.2.1 q73.1 (3 : Int32) p4 q89 e90.symm) mL_RX4_57 v_X3_put ⟨rfl, rfl⟩ ⟨Nat.le_of_ble_eq_true rfl, Nat.le_of_ble_eq_true rfl⟩ ⟨Nat.zero_le _, Nat.zero_le _⟩ 8 3 rfl rfl rfl hl (Nat.le_of_ble_eq_true rfl) dX4_enter_165 rfl (fun H locs ok1 Z => ?_)
        obtain ⟨τ91, e92, hF⟩ := bnd_el hF
        rw [← e92] at Z
        have ok : OK τ91 := by rw [e92]; exact ok_c3 ok ok1
        refine lv_aload_n hx hb dX4_enter_168 rfl (lv_at hl 2 rfl) ?_
        refine kget Fc Z inX4 0 rfl rfl 0 (by decide) mF_RX4_10 rfl rfl dX4_enter_169 ?_
        refine kgetN Fc Z inX2 1 rfl rfl 3 (by decide) nw_RX4_244 rfl rfl dX4_enter_172 ?_
        refine lv_iload hx hb dX4_enter_175 (lv_at hl 0 rfl) ?_
        refine lv_iconst (v := (4 : Int32)) hx hb dX4_enter_177 (by decide) ?_
        refine lv_aload_n hx hb dX4_enter_178 rfl (lv_at hl 2 rfl) ?_
        refine kget Fc Z inX4 0 rfl rfl 0 (by decide) mF_RX4_10 rfl rfl dX4_enter_179 ?_
        refine kgetN Fc Z inX2 1 rfl rfl 5 (by decide) nw_RX4_98 rfl rfl dX4_enter_182 ?_
        obtain ⟨q93, e94, hF⟩ := bnd_el hF
        refine kv_i (As := [.int q73.1, .int (4 : Int32), .int τ91.2]) (ok := tbOK 60) Fc hA Z Lens.c3 (c_X3_put l D cI cS (ad 8) (ad 9) 60 5 (60 * 5) sh3 (τ91.1 3) ok.2.2.2.1 q73.1 (4 : Int32) τ91.2 q93 e94.symm) mL_RX4_57 v_X3_put ⟨rfl, rfl⟩ ⟨Nat.le_of_ble_eq_true rfl, Nat.le_of_ble_eq_true rfl⟩ ⟨Nat.zero_le _, Nat.zero_le _⟩ 8 3 rfl rfl rfl hl (Nat.le_of_ble_eq_true rfl) dX4_enter_185 rfl (fun H locs ok1 Z => ?_)
        obtain ⟨τ95, e96, hF⟩ := bnd_el hF
        rw [← e96] at Z
        have ok : OK τ95 := by rw [e96]; exact ok_c3 ok ok1
        exact kret τ95 _ _ _ _ ⟨hF, ok⟩ Z.nila dX4_enter_188
      · rw [if_pos c72] at hF
        refine lv_aload_n hx hb dX4_enter_88 rfl (lv_at hl 1 rfl) ?_
        refine kget Fc Z inX4 0 rfl rfl 0 (by decide) mF_RX4_10 rfl rfl dX4_enter_89 ?_
        refine kgetN Fc Z inX2 1 rfl rfl 3 (by decide) nw_RX4_244 rfl rfl dX4_enter_92 ?_
        refine lv_iconst (v := (0 : Int32)) hx hb dX4_enter_95 (by decide) ?_
        obtain ⟨q97, e98, hF⟩ := bnd_el hF
        refine kv_i (As := [.int (0 : Int32)]) (ok := tbOK 60) Fc hA Z Lens.c3 (c_X3_removeRow l D cI cS (ad 8) (ad 9) 60 5 (60 * 5) sh3 (τ70.1 3) ok.2.2.2.1 (0 : Int32) q97 e98.symm) mL_RX4_311 v_X3_removeRow ⟨rfl, rfl⟩ ⟨Nat.le_of_ble_eq_true rfl, Nat.le_of_ble_eq_true rfl⟩ ⟨Nat.zero_le _, Nat.zero_le _⟩ 8 3 rfl rfl rfl hl (Nat.le_of_ble_eq_true rfl) dX4_enter_96 rfl (fun H locs ok1 Z => ?_)
        obtain ⟨τ99, e100, hF⟩ := bnd_el hF
        rw [← e100] at Z
        have ok : OK τ99 := by rw [e100]; exact ok_c3 ok ok1
        refine lv_aload_n hx hb dX4_enter_99 rfl (lv_at hl 1 rfl) ?_
        refine kget Fc Z inX4 0 rfl rfl 0 (by decide) mF_RX4_10 rfl rfl dX4_enter_100 ?_
        refine kgetN Fc Z inX2 1 rfl rfl 3 (by decide) nw_RX4_244 rfl rfl dX4_enter_103 ?_
        obtain ⟨q101, e102, hF⟩ := bnd_el hF
        refine km_i (As := []) (ok := tbOK 60) Fc hA Z Lens.c3 (c_X3_addRow l D cI cS (ad 8) (ad 9) 60 5 (60 * 5) sh3 (τ99.1 3) ok.2.2.2.1  q101 e102.symm) mL_RX4_51 v_X3_addRow ⟨rfl, rfl⟩ ⟨Nat.le_of_ble_eq_true rfl, Nat.le_of_ble_eq_true rfl⟩ ⟨Nat.zero_le _, Nat.zero_le _⟩ 8 3 rfl rfl rfl hl (Nat.le_of_ble_eq_true rfl) dX4_enter_106 rfl (fun H locs ok1 Z => ?_)
        obtain ⟨τ103, e104, hF⟩ := bnd_el hF
        rw [← e104] at Z
        have ok : OK τ103 := by rw [e104]; exact ok_c3 ok ok1
        refine lv_istore (lv' := [(6, .int q101.1), (5, .int (2 : Int32)), (0, .ref (ad 0)), (1, .int p1), (2, .int p2), (3, .int p3), (4, .int p4)]) hx hb dX4_enter_109 hl (by decide) rfl (fun ls hl => ?_)
        refine lv_aload_n hx hb dX4_enter_111 rfl (lv_at hl 2 rfl) ?_
        refine kget Fc Z inX4 0 rfl rfl 0 (by decide) mF_RX4_10 rfl rfl dX4_enter_112 ?_
        refine kgetN Fc Z inX2 1 rfl rfl 3 (by decide) nw_RX4_244 rfl rfl dX4_enter_115 ?_
        refine lv_iload hx hb dX4_enter_118 (lv_at hl 0 rfl) ?_
        refine lv_iconst (v := (0 : Int32)) hx hb dX4_enter_120 (by decide) ?_
        refine lv_iload_n hx hb dX4_enter_121 rfl (lv_at hl 3 rfl) ?_
        obtain ⟨q105, e106, hF⟩ := bnd_el hF
        refine kv_i (As := [.int q101.1, .int (0 : Int32), .int p1]) (ok := tbOK 60) Fc hA Z Lens.c3 (c_X3_put l D cI cS (ad 8) (ad 9) 60 5 (60 * 5) sh3 (τ103.1 3) ok.2.2.2.1 q101.1 (0 : Int32) p1 q105 e106.symm) mL_RX4_57 v_X3_put ⟨rfl, rfl⟩ ⟨Nat.le_of_ble_eq_true rfl, Nat.le_of_ble_eq_true rfl⟩ ⟨Nat.zero_le _, Nat.zero_le _⟩ 8 3 rfl rfl rfl hl (Nat.le_of_ble_eq_true rfl) dX4_enter_122 rfl (fun H locs ok1 Z => ?_)
        obtain ⟨τ107, e108, hF⟩ := bnd_el hF
        rw [← e108] at Z
        have ok : OK τ107 := by rw [e108]; exact ok_c3 ok ok1
        refine lv_aload_n hx hb dX4_enter_125 rfl (lv_at hl 2 rfl) ?_
        refine kget Fc Z inX4 0 rfl rfl 0 (by decide) mF_RX4_10 rfl rfl dX4_enter_126 ?_
        refine kgetN Fc Z inX2 1 rfl rfl 3 (by decide) nw_RX4_244 rfl rfl dX4_enter_129 ?_
        refine lv_iload hx hb dX4_enter_132 (lv_at hl 0 rfl) ?_
        refine lv_iconst (v := (1 : Int32)) hx hb dX4_enter_134 (by decide) ?_
        refine lv_iload_n hx hb dX4_enter_135 rfl (lv_at hl 4 rfl) ?_
        obtain ⟨q109, e110, hF⟩ := bnd_el hF
        refine kv_i (As := [.int q101.1, .int (1 : Int32), .int p2]) (ok := tbOK 60) Fc hA Z Lens.c3 (c_X3_put l D cI cS (ad 8) (ad 9) 60 5 (60 * 5) sh3 (τ107.1 3) ok.2.2.2.1 q101.1 (1 : Int32) p2 q109 e110.symm) mL_RX4_57 v_X3_put ⟨rfl, rfl⟩ ⟨Nat.le_of_ble_eq_true rfl, Nat.le_of_ble_eq_true rfl⟩ ⟨Nat.zero_le _, Nat.zero_le _⟩ 8 3 rfl rfl rfl hl (Nat.le_of_ble_eq_true rfl) dX4_enter_136 rfl (fun H locs ok1 Z => ?_)
        obtain ⟨τ111, e112, hF⟩ := bnd_el hF
        rw [← e112] at Z
        have ok : OK τ111 := by rw [e112]; exact ok_c3 ok ok1
        refine lv_aload_n hx hb dX4_enter_139 rfl (lv_at hl 2 rfl) ?_
        refine kget Fc Z inX4 0 rfl rfl 0 (by decide) mF_RX4_10 rfl rfl dX4_enter_140 ?_
        refine kgetN Fc Z inX2 1 rfl rfl 3 (by decide) nw_RX4_244 rfl rfl dX4_enter_143 ?_
        refine lv_iload hx hb dX4_enter_146 (lv_at hl 0 rfl) ?_
        refine lv_iconst (v := (2 : Int32)) hx hb dX4_enter_148 (by decide) ?_
        refine lv_iload_n hx hb dX4_enter_149 rfl (lv_at hl 5 rfl) ?_
        obtain ⟨q113, e114, hF⟩ := bnd_el hF
        refine kv_i (As := [.int q101.1, .int (2 : Int32), .int p3]) (ok := tbOK 60) Fc hA Z Lens.c3 (c_X3_put l D cI cS (ad 8) (ad 9) 60 5 (60 * 5) sh3 (τ111.1 3) ok.2.2.2.1 q101.1 (2 : Int32) p3 q113 e114.symm) mL_RX4_57 v_X3_put ⟨rfl, rfl⟩ ⟨Nat.le_of_ble_eq_true rfl, Nat.le_of_ble_eq_true rfl⟩ ⟨Nat.zero_le _, Nat.zero_le _⟩ 8 3 rfl rfl rfl hl (Nat.le_of_ble_eq_true rfl) dX4_enter_150 rfl (fun H locs ok1 Z => ?_)
        obtain ⟨τ115, e116, hF⟩ := bnd_el hF
        rw [← e116] at Z
        have ok : OK τ115 := by rw [e116]; exact ok_c3 ok ok1
        refine lv_aload_n hx hb dX4_enter_153 rfl (lv_at hl 2 rfl) ?_
        refine kget Fc Z inX4 0 rfl rfl 0 (by decide) mF_RX4_10 rfl rfl dX4_enter_154 ?_
        refine kgetN Fc Z inX2 1 rfl rfl 3 (by decide) nw_RX4_244 rfl rfl dX4_enter_157 ?_
        refine lv_iload hx hb dX4_enter_160 (lv_at hl 0 rfl) ?_
        refine lv_iconst (v := (3 : Int32)) hx hb dX4_enter_162 (by decide) ?_
        refine lv_iload hx hb dX4_enter_163 (lv_at hl 6 rfl) ?_
        obtain ⟨q117, e118, hF⟩ := bnd_el hF
        refine kv_i (As := [.int q101.1, .int (3 : Int32), .int p4]) (ok := tbOK 60) Fc hA Z Lens.c3 (c_X3_put l D cI cS (ad 8) (ad 9) 60 5 (60 * 5) sh3 (τ115.1 3) ok.2.2.2.1 q101.1 (3 : Int32) p4 q117 e118.symm) mL_RX4_57 v_X3_put ⟨rfl, rfl⟩ ⟨Nat.le_of_ble_eq_true rfl, Nat.le_of_ble_eq_true rfl⟩ ⟨Nat.zero_le _, Nat.zero_le _⟩ 8 3 rfl rfl rfl hl (Nat.le_of_ble_eq_true rfl) dX4_enter_165 rfl (fun H locs ok1 Z => ?_)
        obtain ⟨τ119, e120, hF⟩ := bnd_el hF
        rw [← e120] at Z
        have ok : OK τ119 := by rw [e120]; exact ok_c3 ok ok1
        refine lv_aload_n hx hb dX4_enter_168 rfl (lv_at hl 2 rfl) ?_
        refine kget Fc Z inX4 0 rfl rfl 0 (by decide) mF_RX4_10 rfl rfl dX4_enter_169 ?_
        refine kgetN Fc Z inX2 1 rfl rfl 3 (by decide) nw_RX4_244 rfl rfl dX4_enter_172 ?_
        refine lv_iload hx hb dX4_enter_175 (lv_at hl 0 rfl) ?_
        refine lv_iconst (v := (4 : Int32)) hx hb dX4_enter_177 (by decide) ?_
        refine lv_aload_n hx hb dX4_enter_178 rfl (lv_at hl 2 rfl) ?_
        refine kget Fc Z inX4 0 rfl rfl 0 (by decide) mF_RX4_10 rfl rfl dX4_enter_179 ?_
        refine kgetN Fc Z inX2 1 rfl rfl 5 (by decide) nw_RX4_98 rfl rfl dX4_enter_182 ?_
        obtain ⟨q121, e122, hF⟩ := bnd_el hF
        refine kv_i (As := [.int q101.1, .int (4 : Int32), .int τ119.2]) (ok := tbOK 60) Fc hA Z Lens.c3 (c_X3_put l D cI cS (ad 8) (ad 9) 60 5 (60 * 5) sh3 (τ119.1 3) ok.2.2.2.1 q101.1 (4 : Int32) τ119.2 q121 e122.symm) mL_RX4_57 v_X3_put ⟨rfl, rfl⟩ ⟨Nat.le_of_ble_eq_true rfl, Nat.le_of_ble_eq_true rfl⟩ ⟨Nat.zero_le _, Nat.zero_le _⟩ 8 3 rfl rfl rfl hl (Nat.le_of_ble_eq_true rfl) dX4_enter_185 rfl (fun H locs ok1 Z => ?_)
        obtain ⟨τ123, e124, hF⟩ := bnd_el hF
        rw [← e124] at Z
        have ok : OK τ123 := by rw [e124]; exact ok_c3 ok ok1
        exact kret τ123 _ _ _ _ ⟨hF, ok⟩ Z.nila dX4_enter_188
  · rw [if_pos c1] at hF
    exact kret τ _ _ _ _ ⟨hF, ok⟩ Z.nila dX4_enter_4
def X4_becomeLost (τ : St) (p1 : Int32) : St := bnd (tput 12 (τ.1 0) p1 (10 : Int32) (X4_fineOf τ p1)) fun q1 => bnd (stT τ 0 q1) fun τ3 => bnd (tput 12 (τ3.1 0) p1 (11 : Int32) ((X4_valueOf τ (6 : Int32)))) fun q5 => bnd (stT τ3 0 q5) fun τ7 => bnd (X4_putCopy τ7 p1 (5 : Int32) ((tget 12 (τ.1 0) p1 (4 : Int32))) (-2 : Int32)) fun q9 => bnd (X4_enter q9 (1 : Int32) ((tget 12 (τ.1 0) p1 (4 : Int32))) ((X4_valueOf τ (6 : Int32))) p1) fun q11 => q11
def rm_X4_becomeLost : Room := { frames := 3, cells := 0, slots := 0, locals := 73 }
theorem v_X4_becomeLost : WdV RX4 yX4_becomeLost cX4_becomeLost 4 none 1 := ⟨mI_X4_becomeLost, mS_X4_becomeLost, mZ_RX4, mC_X4_becomeLost, by decide +kernel⟩
set_option maxHeartbeats 8000000 in
set_option maxRecDepth 100000 in
theorem c_X4_becomeLost (l : Launch) (D : va_G) (cI cS : ClassId) (ad : Nat → Nat) (hs : Bool) (τ : St) (ok : OK τ) (p1 : Int32) (F : St) (hF : X4_becomeLost τ p1 = F) : MV l yX4_becomeLost cX4_becomeLost 4 rm_X4_becomeLost D cI cS [.ref (ad 0), .int p1] (cW ad cI hs τ) (cW ad cI hs) (fun u => u = F ∧ OK u) := by
  refine MV.mk RX4 rfl (by decide) (Nat.le_of_ble_eq_true rfl) ?_
  intro p e s m args below meth c A Q ls Fc hin hA Z kret hl
  obtain ⟨hx, hb, hml, hown, hts, hKN⟩ := id Fc
  replace hl : lv_has ls 4 [(0, .ref (ad 0)), (1, .int p1)] := hl
  replace Z := Z.anil
  unfold X4_becomeLost at hF
  refine lv_aload_n hx hb dX4_becomeLost_0 rfl (lv_at hl 0 rfl) ?_
  refine kget Fc Z inX4 0 rfl rfl 0 (by decide) mF_RX4_10 rfl rfl dX4_becomeLost_1 ?_
  refine kgetN Fc Z inX2 1 rfl rfl 0 (by decide) nw_RX4_47 rfl rfl dX4_becomeLost_4 ?_
  refine lv_iload_n hx hb dX4_becomeLost_7 rfl (lv_at hl 1 rfl) ?_
  refine lv_iconst (v := (4 : Int32)) hx hb dX4_becomeLost_8 (by decide) ?_
  refine kr_i (As := [.int p1, .int (4 : Int32)]) Fc hA Z Lens.c0 (c_X3_get l D cI cS (ad 2) (ad 3) 20 12 (20 * 12) sh0 (τ.1 0) ok.1 p1 (4 : Int32) (tget 12 (τ.1 0) p1 (4 : Int32)) rfl) mL_RX4_88 v_X3_get ⟨rfl, rfl⟩ ⟨Nat.le_of_ble_eq_true rfl, Nat.le_of_ble_eq_true rfl⟩ ⟨Nat.zero_le _, Nat.zero_le _⟩ 2 3 rfl rfl rfl hl (Nat.le_of_ble_eq_true rfl) dX4_becomeLost_9 rfl (fun H locs Z => ?_)
  refine lv_istore_n (lv' := [(2, .int (tget 12 (τ.1 0) p1 (4 : Int32))), (0, .ref (ad 0)), (1, .int p1)]) hx hb dX4_becomeLost_12 rfl hl (by decide) rfl (fun ls hl => ?_)
  refine lv_aload_n hx hb dX4_becomeLost_13 rfl (lv_at hl 1 rfl) ?_
  refine lv_bipush (v := (6 : Int32)) hx hb dX4_becomeLost_14 (by decide) ?_
  refine kr_i (As := [.int (6 : Int32)]) Fc hA Z (Lens.tail []) (c_X4_valueOf l D cI cS ad hs τ ok (6 : Int32) (X4_valueOf τ (6 : Int32)) rfl) mL_RX4_82 v_X4_valueOf ⟨rfl, rfl⟩ ⟨Nat.le_of_ble_eq_true rfl, Nat.le_of_ble_eq_true rfl⟩ ⟨Nat.zero_le _, Nat.zero_le _⟩ 0 4 rfl rfl rfl hl (Nat.le_of_ble_eq_true rfl) dX4_becomeLost_16 rfl (fun H locs Z => ?_)
  refine lv_istore_n (lv' := [(3, .int (X4_valueOf τ (6 : Int32))), (2, .int (tget 12 (τ.1 0) p1 (4 : Int32))), (0, .ref (ad 0)), (1, .int p1)]) hx hb dX4_becomeLost_19 rfl hl (by decide) rfl (fun ls hl => ?_)
  refine lv_aload_n hx hb dX4_becomeLost_20 rfl (lv_at hl 2 rfl) ?_
  refine kget Fc Z inX4 0 rfl rfl 0 (by decide) mF_RX4_10 rfl rfl dX4_becomeLost_21 ?_
  refine kgetN Fc Z inX2 1 rfl rfl 0 (by decide) nw_RX4_47 rfl rfl dX4_becomeLost_24 ?_
  refine lv_iload_n hx hb dX4_becomeLost_27 rfl (lv_at hl 3 rfl) ?_
  refine lv_bipush (v := (10 : Int32)) hx hb dX4_becomeLost_28 (by decide) ?_
  refine lv_aload_n hx hb dX4_becomeLost_30 rfl (lv_at hl 2 rfl) ?_
  refine lv_iload_n hx hb dX4_becomeLost_31 rfl (lv_at hl 3 rfl) ?_
  refine kr_i (As := [.int p1]) Fc hA Z (Lens.tail []) (c_X4_fineOf l D cI cS ad hs τ ok p1 (X4_fineOf τ p1) rfl) mL_RX4_161 v_X4_fineOf ⟨rfl, rfl⟩ ⟨Nat.le_of_ble_eq_true rfl, Nat.le_of_ble_eq_true rfl⟩ ⟨Nat.zero_le _, Nat.zero_le _⟩ 0 4 rfl rfl rfl hl (Nat.le_of_ble_eq_true rfl) dX4_becomeLost_32 rfl (fun H locs Z => ?_)
  obtain ⟨q1, e2, hF⟩ := bnd_el hF
  refine kv_i (As := [.int p1, .int (10 : Int32), .int (X4_fineOf τ p1)]) (ok := tbOK 20) Fc hA Z Lens.c0 (c_X3_put l D cI cS (ad 2) (ad 3) 20 12 (20 * 12) sh0 (τ.1 0) ok.1 p1 (10 : Int32) (X4_fineOf τ p1) q1 e2.symm) mL_RX4_57 v_X3_put ⟨rfl, rfl⟩ ⟨Nat.le_of_ble_eq_true rfl, Nat.le_of_ble_eq_true rfl⟩ ⟨Nat.zero_le _, Nat.zero_le _⟩ 2 3 rfl rfl rfl hl (Nat.le_of_ble_eq_true rfl) dX4_becomeLost_35 rfl (fun H locs ok1 Z => ?_)
  obtain ⟨τ3, e4, hF⟩ := bnd_el hF
  rw [← e4] at Z
  have ok : OK τ3 := by rw [e4]; exact ok_c0 ok ok1
  refine lv_aload_n hx hb dX4_becomeLost_38 rfl (lv_at hl 2 rfl) ?_
  refine kget Fc Z inX4 0 rfl rfl 0 (by decide) mF_RX4_10 rfl rfl dX4_becomeLost_39 ?_
  refine kgetN Fc Z inX2 1 rfl rfl 0 (by decide) nw_RX4_47 rfl rfl dX4_becomeLost_42 ?_
  refine lv_iload_n hx hb dX4_becomeLost_45 rfl (lv_at hl 3 rfl) ?_
  refine lv_bipush (v := (11 : Int32)) hx hb dX4_becomeLost_46 (by decide) ?_
  refine lv_iload_n hx hb dX4_becomeLost_48 rfl (lv_at hl 0 rfl) ?_
  obtain ⟨q5, e6, hF⟩ := bnd_el hF
  refine kv_i (As := [.int p1, .int (11 : Int32), .int ((X4_valueOf τ (6 : Int32)))]) (ok := tbOK 20) Fc hA Z Lens.c0 (c_X3_put l D cI cS (ad 2) (ad 3) 20 12 (20 * 12) sh0 (τ3.1 0) ok.1 p1 (11 : Int32) ((X4_valueOf τ (6 : Int32))) q5 e6.symm) mL_RX4_57 v_X3_put ⟨rfl, rfl⟩ ⟨Nat.le_of_ble_eq_true rfl, Nat.le_of_ble_eq_true rfl⟩ ⟨Nat.zero_le _, Nat.zero_le _⟩ 2 3 rfl rfl rfl hl (Nat.le_of_ble_eq_true rfl) dX4_becomeLost_49 rfl (fun H locs ok1 Z => ?_)
  obtain ⟨τ7, e8, hF⟩ := bnd_el hF
  rw [← e8] at Z
  have ok : OK τ7 := by rw [e8]; exact ok_c0 ok ok1
  refine lv_aload_n hx hb dX4_becomeLost_52 rfl (lv_at hl 2 rfl) ?_
  refine lv_iload_n hx hb dX4_becomeLost_53 rfl (lv_at hl 3 rfl) ?_
  refine lv_iconst (v := (5 : Int32)) hx hb dX4_becomeLost_54 (by decide) ?_
  refine lv_iload_n hx hb dX4_becomeLost_55 rfl (lv_at hl 1 rfl) ?_
  refine lv_bipush (v := (-2 : Int32)) hx hb dX4_becomeLost_56 (by decide) ?_
  obtain ⟨q9, e10, hF⟩ := bnd_el hF
  refine kv_i (As := [.int p1, .int (5 : Int32), .int ((tget 12 (τ.1 0) p1 (4 : Int32))), .int (-2 : Int32)]) (ok := OK) Fc hA Z (Lens.tail []) (c_X4_putCopy l D cI cS ad hs τ7 ok p1 (5 : Int32) ((tget 12 (τ.1 0) p1 (4 : Int32))) (-2 : Int32) q9 e10.symm) mL_RX4_114 v_X4_putCopy ⟨rfl, rfl⟩ ⟨Nat.le_of_ble_eq_true rfl, Nat.le_of_ble_eq_true rfl⟩ ⟨Nat.zero_le _, Nat.zero_le _⟩ 0 4 rfl rfl rfl hl (Nat.le_of_ble_eq_true rfl) dX4_becomeLost_58 rfl (fun H locs ok1 Z => ?_)
  have ok := ok1
  refine lv_aload_n hx hb dX4_becomeLost_61 rfl (lv_at hl 2 rfl) ?_
  refine lv_iconst (v := (1 : Int32)) hx hb dX4_becomeLost_62 (by decide) ?_
  refine lv_iload_n hx hb dX4_becomeLost_63 rfl (lv_at hl 1 rfl) ?_
  refine lv_iload_n hx hb dX4_becomeLost_64 rfl (lv_at hl 0 rfl) ?_
  refine lv_iload_n hx hb dX4_becomeLost_65 rfl (lv_at hl 3 rfl) ?_
  obtain ⟨q11, e12, hF⟩ := bnd_el hF
  refine kv_i (As := [.int (1 : Int32), .int ((tget 12 (τ.1 0) p1 (4 : Int32))), .int ((X4_valueOf τ (6 : Int32))), .int p1]) (ok := OK) Fc hA Z (Lens.tail []) (c_X4_enter l D cI cS ad hs q9 ok (1 : Int32) ((tget 12 (τ.1 0) p1 (4 : Int32))) ((X4_valueOf τ (6 : Int32))) p1 q11 e12.symm) mL_RX4_164 v_X4_enter ⟨rfl, rfl⟩ ⟨Nat.le_of_ble_eq_true rfl, Nat.le_of_ble_eq_true rfl⟩ ⟨Nat.zero_le _, Nat.zero_le _⟩ 0 4 rfl rfl rfl hl (Nat.le_of_ble_eq_true rfl) dX4_becomeLost_66 rfl (fun H locs ok1 Z => ?_)
  have ok := ok1
  exact kret q11 _ _ _ _ ⟨hF, ok⟩ Z.nila dX4_becomeLost_69
def X4_canBeTakenBy (τ : St) (p1 p2 : Int32) : Bool := if (X4_stateOf τ p2) = 0 then (true) else if (X4_stateOf τ p2) = (3 : Int32) then (if (tget 12 (τ.1 0) p2 (5 : Int32)) = p1 then (true) else false) else false
def rm_X4_canBeTakenBy : Room := { frames := 2, cells := 0, slots := 0, locals := 44 }
theorem v_X4_canBeTakenBy : WdV RX4 yX4_canBeTakenBy cX4_canBeTakenBy 4 (some .boolean) 2 := ⟨mI_X4_canBeTakenBy, mS_X4_canBeTakenBy, mZ_RX4, mC_X4_canBeTakenBy, by decide +kernel⟩
set_option maxHeartbeats 8000000 in
set_option maxRecDepth 100000 in
theorem c_X4_canBeTakenBy (l : Launch) (D : va_G) (cI cS : ClassId) (ad : Nat → Nat) (hs : Bool) (τ : St) (ok : OK τ) (p1 p2 : Int32) (F : Bool) (hF : X4_canBeTakenBy τ p1 p2 = F) : MI l yX4_canBeTakenBy cX4_canBeTakenBy 4 (some .boolean) rm_X4_canBeTakenBy D cI cS [.ref (ad 0), .int p1, .int p2] (cW ad cI hs τ) (cW ad cI hs) (fun r u' => r = bi F ∧ u' = τ) := by
  refine MI.mk RX4 rfl .boolean rfl (by decide) (Nat.le_of_ble_eq_true rfl) (fun r u h => by rw [h.1]; exact bi_nar _) ?_
  intro p e s m args below meth c A Q ls Fc hin hA Z kret hl
  obtain ⟨hx, hb, hml, hown, hts, hKN⟩ := id Fc
  replace hl : lv_has ls 4 [(0, .ref (ad 0)), (1, .int p1), (2, .int p2)] := hl
  replace Z := Z.anil
  unfold X4_canBeTakenBy at hF
  refine lv_aload_n hx hb dX4_canBeTakenBy_0 rfl (lv_at hl 0 rfl) ?_
  refine lv_iload_n hx hb dX4_canBeTakenBy_1 rfl (lv_at hl 2 rfl) ?_
  refine kr_i (As := [.int p2]) Fc hA Z (Lens.tail []) (c_X4_stateOf l D cI cS ad hs τ ok p2 (X4_stateOf τ p2) rfl) mL_RX4_95 v_X4_stateOf ⟨rfl, rfl⟩ ⟨Nat.le_of_ble_eq_true rfl, Nat.le_of_ble_eq_true rfl⟩ ⟨Nat.zero_le _, Nat.zero_le _⟩ 0 4 rfl rfl rfl hl (Nat.le_of_ble_eq_true rfl) dX4_canBeTakenBy_2 rfl (fun H locs Z => ?_)
  refine lv_istore_n (lv' := [(3, .int (X4_stateOf τ p2)), (0, .ref (ad 0)), (1, .int p1), (2, .int p2)]) hx hb dX4_canBeTakenBy_5 rfl hl (by decide) rfl (fun ls hl => ?_)
  refine lv_iload_n hx hb dX4_canBeTakenBy_6 rfl (lv_at hl 0 rfl) ?_
  refine lv_if_eq (tgt := 31) hx hb dX4_canBeTakenBy_7 (by decide) (fun c1 => ?_) (fun c1 => ?_)
  · rw [if_pos c1] at hF
    refine lv_iconst (v := (1 : Int32)) hx hb dX4_canBeTakenBy_31 (by decide) ?_
    refine lv_goto (tgt := 36) hx hb dX4_canBeTakenBy_32 (by decide) ?_
    exact kret (1 : Int32) τ _ _ _ _ ⟨(congrArg bi hF), rfl⟩ Z.nila dX4_canBeTakenBy_36
  · rw [if_neg c1] at hF
    refine lv_iload_n hx hb dX4_canBeTakenBy_10 rfl (lv_at hl 0 rfl) ?_
    refine lv_iconst (v := (3 : Int32)) hx hb dX4_canBeTakenBy_11 (by decide) ?_
    refine lv_icmp_ne (tgt := 35) hx hb dX4_canBeTakenBy_12 (by decide) (fun c2 => ?_) (fun c2 => ?_)
    · rw [if_neg c2] at hF
      refine lv_iconst (v := (0 : Int32)) hx hb dX4_canBeTakenBy_35 (by decide) ?_
      exact kret (0 : Int32) τ _ _ _ _ ⟨(congrArg bi hF), rfl⟩ Z.nila dX4_canBeTakenBy_36
    · rw [if_pos c2] at hF
      refine lv_aload_n hx hb dX4_canBeTakenBy_15 rfl (lv_at hl 1 rfl) ?_
      refine kget Fc Z inX4 0 rfl rfl 0 (by decide) mF_RX4_10 rfl rfl dX4_canBeTakenBy_16 ?_
      refine kgetN Fc Z inX2 1 rfl rfl 0 (by decide) nw_RX4_47 rfl rfl dX4_canBeTakenBy_19 ?_
      refine lv_iload_n hx hb dX4_canBeTakenBy_22 rfl (lv_at hl 3 rfl) ?_
      refine lv_iconst (v := (5 : Int32)) hx hb dX4_canBeTakenBy_23 (by decide) ?_
      refine kr_i (As := [.int p2, .int (5 : Int32)]) Fc hA Z Lens.c0 (c_X3_get l D cI cS (ad 2) (ad 3) 20 12 (20 * 12) sh0 (τ.1 0) ok.1 p2 (5 : Int32) (tget 12 (τ.1 0) p2 (5 : Int32)) rfl) mL_RX4_88 v_X3_get ⟨rfl, rfl⟩ ⟨Nat.le_of_ble_eq_true rfl, Nat.le_of_ble_eq_true rfl⟩ ⟨Nat.zero_le _, Nat.zero_le _⟩ 2 3 rfl rfl rfl hl (Nat.le_of_ble_eq_true rfl) dX4_canBeTakenBy_24 rfl (fun H locs Z => ?_)
      refine lv_iload_n hx hb dX4_canBeTakenBy_27 rfl (lv_at hl 2 rfl) ?_
      refine lv_icmp_ne (tgt := 35) hx hb dX4_canBeTakenBy_28 (by decide) (fun c3 => ?_) (fun c3 => ?_)
      · rw [if_neg c3] at hF
        refine lv_iconst (v := (0 : Int32)) hx hb dX4_canBeTakenBy_35 (by decide) ?_
        exact kret (0 : Int32) τ _ _ _ _ ⟨(congrArg bi hF), rfl⟩ Z.nila dX4_canBeTakenBy_36
      · rw [if_pos c3] at hF
        refine lv_iconst (v := (1 : Int32)) hx hb dX4_canBeTakenBy_31 (by decide) ?_
        refine lv_goto (tgt := 36) hx hb dX4_canBeTakenBy_32 (by decide) ?_
        exact kret (1 : Int32) τ _ _ _ _ ⟨(congrArg bi hF), rfl⟩ Z.nila dX4_canBeTakenBy_36
def X4_isCopy (τ : St) (p1 : Int32) : Bool := (thas (τ.1 0) p1)
def rm_X4_isCopy : Room := { frames := 1, cells := 0, slots := 0, locals := 21 }
theorem v_X4_isCopy : WdV RX4 yX4_isCopy cX4_isCopy 2 (some .boolean) 1 := ⟨mI_X4_isCopy, mS_X4_isCopy, mZ_RX4, mC_X4_isCopy, by decide +kernel⟩
set_option maxHeartbeats 8000000 in
set_option maxRecDepth 100000 in
theorem c_X4_isCopy (l : Launch) (D : va_G) (cI cS : ClassId) (ad : Nat → Nat) (hs : Bool) (τ : St) (ok : OK τ) (p1 : Int32) (F : Bool) (hF : X4_isCopy τ p1 = F) : MI l yX4_isCopy cX4_isCopy 2 (some .boolean) rm_X4_isCopy D cI cS [.ref (ad 0), .int p1] (cW ad cI hs τ) (cW ad cI hs) (fun r u' => r = bi F ∧ u' = τ) := by
  refine MI.mk RX4 rfl .boolean rfl (by decide) (Nat.le_of_ble_eq_true rfl) (fun r u h => by rw [h.1]; exact bi_nar _) ?_
  intro p e s m args below meth c A Q ls Fc hin hA Z kret hl
  obtain ⟨hx, hb, hml, hown, hts, hKN⟩ := id Fc
  replace hl : lv_has ls 2 [(0, .ref (ad 0)), (1, .int p1)] := hl
  replace Z := Z.anil
  unfold X4_isCopy at hF
  refine lv_aload_n hx hb dX4_isCopy_0 rfl (lv_at hl 0 rfl) ?_
  refine kget Fc Z inX4 0 rfl rfl 0 (by decide) mF_RX4_10 rfl rfl dX4_isCopy_1 ?_
  refine kgetN Fc Z inX2 1 rfl rfl 0 (by decide) nw_RX4_47 rfl rfl dX4_isCopy_4 ?_
  refine lv_iload_n hx hb dX4_isCopy_7 rfl (lv_at hl 1 rfl) ?_
  refine kr_i (As := [.int p1]) Fc hA Z Lens.c0 (c_X3_has l D cI cS (ad 2) (ad 3) 20 12 (20 * 12) sh0 (τ.1 0) ok.1 p1 (thas (τ.1 0) p1) rfl) mL_RX4_75 v_X3_has ⟨rfl, rfl⟩ ⟨Nat.le_of_ble_eq_true rfl, Nat.le_of_ble_eq_true rfl⟩ ⟨Nat.zero_le _, Nat.zero_le _⟩ 2 3 rfl rfl rfl hl (Nat.le_of_ble_eq_true rfl) dX4_isCopy_8 rfl (fun H locs Z => ?_)
  exact kret ((bi (thas (τ.1 0) p1))) τ _ _ _ _ ⟨(congrArg bi hF), rfl⟩ Z.nila dX4_isCopy_11
def X4_copy (τ : St) (p1 p2 : Int32) : Int32 := if (bi (X4_isCopy τ p1)) = 0 then ((-1 : Int32)) else if p2 < 0 then ((-1 : Int32)) else if p2 < (10 : Int32) then ((tget 12 (τ.1 0) p1 p2)) else (-1 : Int32)
def rm_X4_copy : Room := { frames := 2, cells := 0, slots := 0, locals := 42 }
theorem v_X4_copy : WdV RX4 yX4_copy cX4_copy 3 (some .int) 2 := ⟨mI_X4_copy, mS_X4_copy, mZ_RX4, mC_X4_copy, by decide +kernel⟩
set_option maxHeartbeats 8000000 in
set_option maxRecDepth 100000 in
theorem c_X4_copy (l : Launch) (D : va_G) (cI cS : ClassId) (ad : Nat → Nat) (hs : Bool) (τ : St) (ok : OK τ) (p1 p2 : Int32) (F : Int32) (hF : X4_copy τ p1 p2 = F) : MI l yX4_copy cX4_copy 3 (some .int) rm_X4_copy D cI cS [.ref (ad 0), .int p1, .int p2] (cW ad cI hs τ) (cW ad cI hs) (fun r u' => r = F ∧ u' = τ) := by
  refine MI.mk RX4 rfl .int rfl (by decide) (Nat.le_of_ble_eq_true rfl) (fun _ _ _ => rfl) ?_
  intro p e s m args below meth c A Q ls Fc hin hA Z kret hl
  obtain ⟨hx, hb, hml, hown, hts, hKN⟩ := id Fc
  replace hl : lv_has ls 3 [(0, .ref (ad 0)), (1, .int p1), (2, .int p2)] := hl
  replace Z := Z.anil
  unfold X4_copy at hF
  refine lv_aload_n hx hb dX4_copy_0 rfl (lv_at hl 0 rfl) ?_
  refine lv_iload_n hx hb dX4_copy_1 rfl (lv_at hl 1 rfl) ?_
  refine kr_i (As := [.int p1]) Fc hA Z (Lens.tail []) (c_X4_isCopy l D cI cS ad hs τ ok p1 (X4_isCopy τ p1) rfl) mL_RX4_85 v_X4_isCopy ⟨rfl, rfl⟩ ⟨Nat.le_of_ble_eq_true rfl, Nat.le_of_ble_eq_true rfl⟩ ⟨Nat.zero_le _, Nat.zero_le _⟩ 0 4 rfl rfl rfl hl (Nat.le_of_ble_eq_true rfl) dX4_copy_2 rfl (fun H locs Z => ?_)
  refine lv_if_eq (tgt := 18) hx hb dX4_copy_5 (by decide) (fun c1 => ?_) (fun c1 => ?_)
  · rw [if_pos c1] at hF
    refine lv_iconst (v := (-1 : Int32)) hx hb dX4_copy_18 (by decide) ?_
    exact kret (-1 : Int32) τ _ _ _ _ ⟨hF, rfl⟩ Z.nila dX4_copy_19
  · rw [if_neg c1] at hF
    refine lv_iload_n hx hb dX4_copy_8 rfl (lv_at hl 2 rfl) ?_
    refine lv_if_lt (tgt := 18) hx hb dX4_copy_9 (by decide) (fun c2 => ?_) (fun c2 => ?_)
    · rw [if_pos c2] at hF
      refine lv_iconst (v := (-1 : Int32)) hx hb dX4_copy_18 (by decide) ?_
      exact kret (-1 : Int32) τ _ _ _ _ ⟨hF, rfl⟩ Z.nila dX4_copy_19
    · rw [if_neg c2] at hF
      refine lv_iload_n hx hb dX4_copy_12 rfl (lv_at hl 2 rfl) ?_
      refine lv_bipush (v := (10 : Int32)) hx hb dX4_copy_13 (by decide) ?_
      refine lv_icmp_lt (tgt := 20) hx hb dX4_copy_15 (by decide) (fun c3 => ?_) (fun c3 => ?_)
      · rw [if_pos c3] at hF
        refine lv_aload_n hx hb dX4_copy_20 rfl (lv_at hl 0 rfl) ?_
        refine kget Fc Z inX4 0 rfl rfl 0 (by decide) mF_RX4_10 rfl rfl dX4_copy_21 ?_
        refine kgetN Fc Z inX2 1 rfl rfl 0 (by decide) nw_RX4_47 rfl rfl dX4_copy_24 ?_
        refine lv_iload_n hx hb dX4_copy_27 rfl (lv_at hl 1 rfl) ?_
        refine lv_iload_n hx hb dX4_copy_28 rfl (lv_at hl 2 rfl) ?_
        refine kr_i (As := [.int p1, .int p2]) Fc hA Z Lens.c0 (c_X3_get l D cI cS (ad 2) (ad 3) 20 12 (20 * 12) sh0 (τ.1 0) ok.1 p1 p2 (tget 12 (τ.1 0) p1 p2) rfl) mL_RX4_88 v_X3_get ⟨rfl, rfl⟩ ⟨Nat.le_of_ble_eq_true rfl, Nat.le_of_ble_eq_true rfl⟩ ⟨Nat.zero_le _, Nat.zero_le _⟩ 2 3 rfl rfl rfl hl (Nat.le_of_ble_eq_true rfl) dX4_copy_29 rfl (fun H locs Z => ?_)
        exact kret ((tget 12 (τ.1 0) p1 p2)) τ _ _ _ _ ⟨hF, rfl⟩ Z.nila dX4_copy_32
      · rw [if_neg c3] at hF
        refine lv_iconst (v := (-1 : Int32)) hx hb dX4_copy_18 (by decide) ?_
        exact kret (-1 : Int32) τ _ _ _ _ ⟨hF, rfl⟩ Z.nila dX4_copy_19
def X4_copyCount_L32 (τ : St) (x1 : Int32) : Nat → Int32 → Int32 → Option (Int32)
  | 0, _, _ => none
  | k + 1, x2, x3 => if (τ.1 0).1 ≤ x3 then (some x2) else if (X4_stateOf τ x3) = x1 then (X4_copyCount_L32 τ x1 k ((x2 + (1 : Int32))) ((x3 + (1 : Int32)))) else X4_copyCount_L32 τ x1 k x2 ((x3 + (1 : Int32)))
def X4_copyCount (τ : St) (p1 : Int32) : Option (Int32) := if p1 = (-1 : Int32) then (some ((τ.1 0).1)) else if p1 < 0 then (some (-1 : Int32)) else if p1 < (6 : Int32) then (X4_copyCount_L32 τ p1 FU (0 : Int32) (0 : Int32)) else some (-1 : Int32)
def rm_X4_copyCount : Room := { frames := 2, cells := 0, slots := 0, locals := 44 }
theorem v_X4_copyCount : WdV RX4 yX4_copyCount cX4_copyCount 4 (some .int) 1 := ⟨mI_X4_copyCount, mS_X4_copyCount, mZ_RX4, mC_X4_copyCount, by decide +kernel⟩
set_option maxHeartbeats 8000000 in
set_option maxRecDepth 100000 in
theorem c_X4_copyCount (l : Launch) (D : va_G) (cI cS : ClassId) (ad : Nat → Nat) (hs : Bool) (τ : St) (ok : OK τ) (p1 : Int32) (F : Int32) (hF : X4_copyCount τ p1 = some F) : MI l yX4_copyCount cX4_copyCount 4 (some .int) rm_X4_copyCount D cI cS [.ref (ad 0), .int p1] (cW ad cI hs τ) (cW ad cI hs) (fun r u' => r = F ∧ u' = τ) := by
  refine MI.mk RX4 rfl .int rfl (by decide) (Nat.le_of_ble_eq_true rfl) (fun _ _ _ => rfl) ?_
  intro p e s m args below meth c A Q ls Fc hin hA Z kret hl
  obtain ⟨hx, hb, hml, hown, hts, hKN⟩ := id Fc
  replace hl : lv_has ls 4 [(0, .ref (ad 0)), (1, .int p1)] := hl
  replace Z := Z.anil
  have L32 : ∀ (x1 : Int32) (k : Nat) (x2 : Int32) (x3 : Int32) (H : Heap) (locs : List Loc) (ls : Array Slot), X4_copyCount_L32 τ x1  k x2 x3 = some F → OK τ → Ix D A s (cW ad cI hs τ ++ []) H locs → lv_has ls 4 [(0, .ref (ad 0)), (1, .int x1), (2, .int x2), (3, .int x3)] → W p l e rm_X4_copyCount s m args below meth c H locs 0 0 Q (F0 m 32 ls []) := by
    intro x1 k
    induction k with
    | zero => intro x2 x3 H locs ls hF; rw [X4_copyCount_L32] at hF; cases hF
    | succ k ih =>
      intro x2 x3 H locs ls hF ok Z hl
      rw [X4_copyCount_L32] at hF
      refine lv_iload_n hx hb dX4_copyCount_32 rfl (lv_at hl 3 rfl) ?_
      refine lv_aload_n hx hb dX4_copyCount_33 rfl (lv_at hl 0 rfl) ?_
      refine kget Fc Z inX4 0 rfl rfl 0 (by decide) mF_RX4_10 rfl rfl dX4_copyCount_34 ?_
      refine kgetN Fc Z inX2 1 rfl rfl 0 (by decide) nw_RX4_47 rfl rfl dX4_copyCount_37 ?_
      refine kr_i (As := []) Fc hA Z Lens.c0 (c_X3_size l D cI cS (ad 2) (ad 3) 20 12 (20 * 12) sh0 (τ.1 0) ok.1  (τ.1 0).1 rfl) mL_RX4_92 v_X3_size ⟨rfl, rfl⟩ ⟨Nat.le_of_ble_eq_true rfl, Nat.le_of_ble_eq_true rfl⟩ ⟨Nat.zero_le _, Nat.zero_le _⟩ 2 3 rfl rfl rfl hl (Nat.le_of_ble_eq_true rfl) dX4_copyCount_40 rfl (fun H locs Z => ?_)
      refine lv_icmp_ge (tgt := 64) hx hb dX4_copyCount_43 (by decide) (fun c1 => ?_) (fun c1 => ?_)
      · rw [if_pos c1] at hF
        refine lv_iload_n hx hb dX4_copyCount_64 rfl (lv_at hl 2 rfl) ?_
        exact kret x2 τ _ _ _ _ ⟨(Option.some.inj hF), rfl⟩ Z.nila dX4_copyCount_65
      · rw [if_neg c1] at hF
        refine lv_aload_n hx hb dX4_copyCount_46 rfl (lv_at hl 0 rfl) ?_
        refine lv_iload_n hx hb dX4_copyCount_47 rfl (lv_at hl 3 rfl) ?_
        refine kr_i (As := [.int x3]) Fc hA Z (Lens.tail []) (c_X4_stateOf l D cI cS ad hs τ ok x3 (X4_stateOf τ x3) rfl) mL_RX4_95 v_X4_stateOf ⟨rfl, rfl⟩ ⟨Nat.le_of_ble_eq_true rfl, Nat.le_of_ble_eq_true rfl⟩ ⟨Nat.zero_le _, Nat.zero_le _⟩ 0 4 rfl rfl rfl hl (Nat.le_of_ble_eq_true rfl) dX4_copyCount_48 rfl (fun H locs Z => ?_)
        refine lv_iload_n hx hb dX4_copyCount_51 rfl (lv_at hl 1 rfl) ?_
        refine lv_icmp_ne (tgt := 58) hx hb dX4_copyCount_52 (by decide) (fun c2 => ?_) (fun c2 => ?_)
        · rw [if_neg c2] at hF
          refine lv_iinc (v := (x3 + (1 : Int32))) (lv' := [(3, .int (x3 + (1 : Int32))), (0, .ref (ad 0)), (1, .int x1), (2, .int x2)]) hx hb dX4_copyCount_58 hl (k := 3) rfl (by rfl) (by decide) rfl (fun ls hl => ?_)
          refine lv_goto (tgt := 32) hx hb dX4_copyCount_61 (by decide) ?_
          exact ih x2 ((x3 + (1 : Int32))) _ _ _ hF ok Z (lv_sub hl [1, 2, 3, 0] rfl)
        · rw [if_pos c2] at hF
          refine lv_iinc (v := (x2 + (1 : Int32))) (lv' := [(2, .int (x2 + (1 : Int32))), (0, .ref (ad 0)), (1, .int x1), (3, .int x3)]) hx hb dX4_copyCount_55 hl (k := 2) rfl (by rfl) (by decide) rfl (fun ls hl => ?_)
          refine lv_iinc (v := (x3 + (1 : Int32))) (lv' := [(3, .int (x3 + (1 : Int32))), (2, .int (x2 + (1 : Int32))), (0, .ref (ad 0)), (1, .int x1)]) hx hb dX4_copyCount_58 hl (k := 3) rfl (by rfl) (by decide) rfl (fun ls hl => ?_)
          refine lv_goto (tgt := 32) hx hb dX4_copyCount_61 (by decide) ?_
          exact ih ((x2 + (1 : Int32))) ((x3 + (1 : Int32))) _ _ _ hF ok Z (lv_sub hl [2, 3, 1, 0] rfl)
  unfold X4_copyCount at hF
  refine lv_iload_n hx hb dX4_copyCount_0 rfl (lv_at hl 1 rfl) ?_
  refine lv_iconst (v := (-1 : Int32)) hx hb dX4_copyCount_1 (by decide) ?_
  refine lv_icmp_ne (tgt := 16) hx hb dX4_copyCount_2 (by decide) (fun c3 => ?_) (fun c3 => ?_)
  · rw [if_neg c3] at hF
    refine lv_iload_n hx hb dX4_copyCount_16 rfl (lv_at hl 1 rfl) ?_
    refine lv_if_lt (tgt := 26) hx hb dX4_copyCount_17 (by decide) (fun c4 => ?_) (fun c4 => ?_)
    · rw [if_pos c4] at hF
      refine lv_iconst (v := (-1 : Int32)) hx hb dX4_copyCount_26 (by decide) ?_
      exact kret (-1 : Int32) τ _ _ _ _ ⟨(Option.some.inj hF), rfl⟩ Z.nila dX4_copyCount_27
    · rw [if_neg c4] at hF
      refine lv_iload_n hx hb dX4_copyCount_20 rfl (lv_at hl 1 rfl) ?_
      refine lv_bipush (v := (6 : Int32)) hx hb dX4_copyCount_21 (by decide) ?_
      refine lv_icmp_lt (tgt := 28) hx hb dX4_copyCount_23 (by decide) (fun c5 => ?_) (fun c5 => ?_)
      · rw [if_pos c5] at hF
        refine lv_iconst (v := (0 : Int32)) hx hb dX4_copyCount_28 (by decide) ?_
        refine lv_istore_n (lv' := [(2, .int (0 : Int32)), (0, .ref (ad 0)), (1, .int p1)]) hx hb dX4_copyCount_29 rfl hl (by decide) rfl (fun ls hl => ?_)
        refine lv_iconst (v := (0 : Int32)) hx hb dX4_copyCount_30 (by decide) ?_
        refine lv_istore_n (lv' := [(3, .int (0 : Int32)), (2, .int (0 : Int32)), (0, .ref (ad 0)), (1, .int p1)]) hx hb dX4_copyCount_31 rfl hl (by decide) rfl (fun ls hl => ?_)
        exact L32 p1 FU (0 : Int32) (0 : Int32) _ _ _ hF ok Z (lv_sub hl [2, 3, 1, 0] rfl)
      · rw [if_neg c5] at hF
        refine lv_iconst (v := (-1 : Int32)) hx hb dX4_copyCount_26 (by decide) ?_
        exact kret (-1 : Int32) τ _ _ _ _ ⟨(Option.some.inj hF), rfl⟩ Z.nila dX4_copyCount_27
  · rw [if_pos c3] at hF
    refine lv_aload_n hx hb dX4_copyCount_5 rfl (lv_at hl 0 rfl) ?_
    refine kget Fc Z inX4 0 rfl rfl 0 (by decide) mF_RX4_10 rfl rfl dX4_copyCount_6 ?_
    refine kgetN Fc Z inX2 1 rfl rfl 0 (by decide) nw_RX4_47 rfl rfl dX4_copyCount_9 ?_
    refine kr_i (As := []) Fc hA Z Lens.c0 (c_X3_size l D cI cS (ad 2) (ad 3) 20 12 (20 * 12) sh0 (τ.1 0) ok.1  (τ.1 0).1 rfl) mL_RX4_92 v_X3_size ⟨rfl, rfl⟩ ⟨Nat.le_of_ble_eq_true rfl, Nat.le_of_ble_eq_true rfl⟩ ⟨Nat.zero_le _, Nat.zero_le _⟩ 2 3 rfl rfl rfl hl (Nat.le_of_ble_eq_true rfl) dX4_copyCount_12 rfl (fun H locs Z => ?_)
    exact kret ((τ.1 0).1) τ _ _ _ _ ⟨(Option.some.inj hF), rfl⟩ Z.nila dX4_copyCount_15
def X4_credit (τ : St) (p1 p2 p3 : Int32) : Int32 × St := if (bi (X4_isPatron τ p2)) = 0 then (((-1 : Int32), τ)) else if p3 < (1 : Int32) then (((-1 : Int32), τ)) else if p3 ≤ (tget 4 (τ.1 1) p2 (0 : Int32)) then (bnd (X4_enter τ p1 p2 (-p3) (-1 : Int32)) fun q4 => ((tget 4 (q4.1 1) p2 (0 : Int32)), q4)) else ((-1 : Int32), τ)
def rm_X4_credit : Room := { frames := 3, cells := 0, slots := 0, locals := 73 }
theorem v_X4_credit : WdV RX4 yX4_credit cX4_credit 4 (some .int) 3 := ⟨mI_X4_credit, mS_X4_credit, mZ_RX4, mC_X4_credit, by decide +kernel⟩
set_option maxHeartbeats 8000000 in
set_option maxRecDepth 100000 in
theorem c_X4_credit (l : Launch) (D : va_G) (cI cS : ClassId) (ad : Nat → Nat) (hs : Bool) (τ : St) (ok : OK τ) (p1 p2 p3 : Int32) (F : Int32 × St) (hF : X4_credit τ p1 p2 p3 = F) : MI l yX4_credit cX4_credit 4 (some .int) rm_X4_credit D cI cS [.ref (ad 0), .int p1, .int p2, .int p3] (cW ad cI hs τ) (cW ad cI hs) (fun r u => r = F.1 ∧ u = F.2 ∧ OK u) := by
  refine MI.mk RX4 rfl .int rfl (by decide) (Nat.le_of_ble_eq_true rfl) (fun _ _ _ => rfl) ?_
  intro p e s m args below meth c A Q ls Fc hin hA Z kret hl
  obtain ⟨hx, hb, hml, hown, hts, hKN⟩ := id Fc
  replace hl : lv_has ls 4 [(0, .ref (ad 0)), (1, .int p1), (2, .int p2), (3, .int p3)] := hl
  replace Z := Z.anil
  unfold X4_credit at hF
  refine lv_aload_n hx hb dX4_credit_0 rfl (lv_at hl 0 rfl) ?_
  refine lv_iload_n hx hb dX4_credit_1 rfl (lv_at hl 2 rfl) ?_
  refine kr_i (As := [.int p2]) Fc hA Z (Lens.tail []) (c_X4_isPatron l D cI cS ad hs τ ok p2 (X4_isPatron τ p2) rfl) mL_RX4_143 v_X4_isPatron ⟨rfl, rfl⟩ ⟨Nat.le_of_ble_eq_true rfl, Nat.le_of_ble_eq_true rfl⟩ ⟨Nat.zero_le _, Nat.zero_le _⟩ 0 4 rfl rfl rfl hl (Nat.le_of_ble_eq_true rfl) dX4_credit_2 rfl (fun H locs Z => ?_)
  refine lv_if_eq (tgt := 29) hx hb dX4_credit_5 (by decide) (fun c1 => ?_) (fun c1 => ?_)
  · rw [if_pos c1] at hF
    refine lv_iconst (v := (-1 : Int32)) hx hb dX4_credit_29 (by decide) ?_
    exact kret (-1 : Int32) τ _ _ _ _ ⟨(pfst hF), psnd hF, ok⟩ Z.nila dX4_credit_30
  · rw [if_neg c1] at hF
    refine lv_iload_n hx hb dX4_credit_8 rfl (lv_at hl 3 rfl) ?_
    refine lv_iconst (v := (1 : Int32)) hx hb dX4_credit_9 (by decide) ?_
    refine lv_icmp_lt (tgt := 29) hx hb dX4_credit_10 (by decide) (fun c2 => ?_) (fun c2 => ?_)
    · rw [if_pos c2] at hF
      refine lv_iconst (v := (-1 : Int32)) hx hb dX4_credit_29 (by decide) ?_
      exact kret (-1 : Int32) τ _ _ _ _ ⟨(pfst hF), psnd hF, ok⟩ Z.nila dX4_credit_30
    · rw [if_neg c2] at hF
      refine lv_iload_n hx hb dX4_credit_13 rfl (lv_at hl 3 rfl) ?_
      refine lv_aload_n hx hb dX4_credit_14 rfl (lv_at hl 0 rfl) ?_
      refine kget Fc Z inX4 0 rfl rfl 0 (by decide) mF_RX4_10 rfl rfl dX4_credit_15 ?_
      refine kgetN Fc Z inX2 1 rfl rfl 1 (by decide) nw_RX4_69 rfl rfl dX4_credit_18 ?_
      refine lv_iload_n hx hb dX4_credit_21 rfl (lv_at hl 2 rfl) ?_
      refine lv_iconst (v := (0 : Int32)) hx hb dX4_credit_22 (by decide) ?_
      refine kr_i (As := [.int p2, .int (0 : Int32)]) Fc hA Z Lens.c1 (c_X3_get l D cI cS (ad 4) (ad 5) 8 4 (8 * 4) sh1 (τ.1 1) ok.2.1 p2 (0 : Int32) (tget 4 (τ.1 1) p2 (0 : Int32)) rfl) mL_RX4_88 v_X3_get ⟨rfl, rfl⟩ ⟨Nat.le_of_ble_eq_true rfl, Nat.le_of_ble_eq_true rfl⟩ ⟨Nat.zero_le _, Nat.zero_le _⟩ 4 3 rfl rfl rfl hl (Nat.le_of_ble_eq_true rfl) dX4_credit_23 rfl (fun H locs Z => ?_)
      refine lv_icmp_le (tgt := 31) hx hb dX4_credit_26 (by decide) (fun c3 => ?_) (fun c3 => ?_)
      · rw [if_pos c3] at hF
        refine lv_aload_n hx hb dX4_credit_31 rfl (lv_at hl 0 rfl) ?_
        refine lv_iload_n hx hb dX4_credit_32 rfl (lv_at hl 1 rfl) ?_
        refine lv_iload_n hx hb dX4_credit_33 rfl (lv_at hl 2 rfl) ?_
        refine lv_iload_n hx hb dX4_credit_34 rfl (lv_at hl 3 rfl) ?_
        refine lv_ineg hx hb dX4_credit_35 ?_
        refine lv_iconst (v := (-1 : Int32)) hx hb dX4_credit_36 (by decide) ?_
        obtain ⟨q4, e5, hF⟩ := bnd_el hF
        refine kv_i (As := [.int p1, .int p2, .int (-p3), .int (-1 : Int32)]) (ok := OK) Fc hA Z (Lens.tail []) (c_X4_enter l D cI cS ad hs τ ok p1 p2 (-p3) (-1 : Int32) q4 e5.symm) mL_RX4_164 v_X4_enter ⟨rfl, rfl⟩ ⟨Nat.le_of_ble_eq_true rfl, Nat.le_of_ble_eq_true rfl⟩ ⟨Nat.zero_le _, Nat.zero_le _⟩ 0 4 rfl rfl rfl hl (Nat.le_of_ble_eq_true rfl) dX4_credit_37 rfl (fun H locs ok1 Z => ?_)
        have ok := ok1
        refine lv_aload_n hx hb dX4_credit_40 rfl (lv_at hl 0 rfl) ?_
        refine kget Fc Z inX4 0 rfl rfl 0 (by decide) mF_RX4_10 rfl rfl dX4_credit_41 ?_
        refine kgetN Fc Z inX2 1 rfl rfl 1 (by decide) nw_RX4_69 rfl rfl dX4_credit_44 ?_
        refine lv_iload_n hx hb dX4_credit_47 rfl (lv_at hl 2 rfl) ?_
        refine lv_iconst (v := (0 : Int32)) hx hb dX4_credit_48 (by decide) ?_
        refine kr_i (As := [.int p2, .int (0 : Int32)]) Fc hA Z Lens.c1 (c_X3_get l D cI cS (ad 4) (ad 5) 8 4 (8 * 4) sh1 (q4.1 1) ok.2.1 p2 (0 : Int32) (tget 4 (q4.1 1) p2 (0 : Int32)) rfl) mL_RX4_88 v_X3_get ⟨rfl, rfl⟩ ⟨Nat.le_of_ble_eq_true rfl, Nat.le_of_ble_eq_true rfl⟩ ⟨Nat.zero_le _, Nat.zero_le _⟩ 4 3 rfl rfl rfl hl (Nat.le_of_ble_eq_true rfl) dX4_credit_49 rfl (fun H locs Z => ?_)
        exact kret ((tget 4 (q4.1 1) p2 (0 : Int32))) q4 _ _ _ _ ⟨(pfst hF), psnd hF, ok⟩ Z.nila dX4_credit_52
      · rw [if_neg c3] at hF
        refine lv_iconst (v := (-1 : Int32)) hx hb dX4_credit_29 (by decide) ?_
        exact kret (-1 : Int32) τ _ _ _ _ ⟨(pfst hF), psnd hF, ok⟩ Z.nila dX4_credit_30
def X4_day (τ : St) : Int32 := τ.2
def rm_X4_day : Room := { frames := 0, cells := 0, slots := 0, locals := 0 }
theorem v_X4_day : WdV RX4 yX4_day cX4_day 1 (some .int) 0 := ⟨mI_X4_day, mS_X4_day, mZ_RX4, mC_X4_day, by decide +kernel⟩
set_option maxHeartbeats 8000000 in
set_option maxRecDepth 100000 in
theorem c_X4_day (l : Launch) (D : va_G) (cI cS : ClassId) (ad : Nat → Nat) (hs : Bool) (τ : St) (ok : OK τ) (F : Int32) (hF : X4_day τ = F) : MI l yX4_day cX4_day 1 (some .int) rm_X4_day D cI cS [.ref (ad 0)] (cW ad cI hs τ) (cW ad cI hs) (fun r u' => r = F ∧ u' = τ) := by
  refine MI.mk RX4 rfl .int rfl (by decide) (Nat.le_of_ble_eq_true rfl) (fun _ _ _ => rfl) ?_
  intro p e s m args below meth c A Q ls Fc hin hA Z kret hl
  obtain ⟨hx, hb, hml, hown, hts, hKN⟩ := id Fc
  replace hl : lv_has ls 1 [(0, .ref (ad 0))] := hl
  replace Z := Z.anil
  unfold X4_day at hF
  refine lv_aload_n hx hb dX4_day_0 rfl (lv_at hl 0 rfl) ?_
  refine kget Fc Z inX4 0 rfl rfl 0 (by decide) mF_RX4_10 rfl rfl dX4_day_1 ?_
  refine kgetN Fc Z inX2 1 rfl rfl 5 (by decide) nw_RX4_98 rfl rfl dX4_day_4 ?_
  exact kret τ.2 τ _ _ _ _ ⟨hF, rfl⟩ Z.nila dX4_day_7
def X4_holdsBefore_L5 (τ : St) (x1 : Int32) (x2 : Int32) : Nat → Int32 → Int32 → Option (Int32)
  | 0, _, _ => none
  | k + 1, x3, x4 => if x1 ≤ x4 then (some x3) else if (tget 4 (τ.1 2) x4 (3 : Int32)) = x2 then (X4_holdsBefore_L5 τ x1 x2 k ((x3 + (1 : Int32))) ((x4 + (1 : Int32)))) else X4_holdsBefore_L5 τ x1 x2 k x3 ((x4 + (1 : Int32)))
def X4_holdsBefore (τ : St) (p1 p2 : Int32) : Option (Int32) := X4_holdsBefore_L5 τ p1 p2 FU (0 : Int32) (0 : Int32)
def rm_X4_holdsBefore : Room := { frames := 1, cells := 0, slots := 0, locals := 23 }
theorem v_X4_holdsBefore : WdV RX4 yX4_holdsBefore cX4_holdsBefore 5 (some .int) 2 := ⟨mI_X4_holdsBefore, mS_X4_holdsBefore, mZ_RX4, mC_X4_holdsBefore, by decide +kernel⟩
set_option maxHeartbeats 8000000 in
set_option maxRecDepth 100000 in
theorem c_X4_holdsBefore (l : Launch) (D : va_G) (cI cS : ClassId) (ad : Nat → Nat) (hs : Bool) (τ : St) (ok : OK τ) (p1 p2 : Int32) (F : Int32) (hF : X4_holdsBefore τ p1 p2 = some F) : MI l yX4_holdsBefore cX4_holdsBefore 5 (some .int) rm_X4_holdsBefore D cI cS [.ref (ad 0), .int p1, .int p2] (cW ad cI hs τ) (cW ad cI hs) (fun r u' => r = F ∧ u' = τ) := by
  refine MI.mk RX4 rfl .int rfl (by decide) (Nat.le_of_ble_eq_true rfl) (fun _ _ _ => rfl) ?_
  intro p e s m args below meth c A Q ls Fc hin hA Z kret hl
  obtain ⟨hx, hb, hml, hown, hts, hKN⟩ := id Fc
  replace hl : lv_has ls 5 [(0, .ref (ad 0)), (1, .int p1), (2, .int p2)] := hl
  replace Z := Z.anil
  have L5 : ∀ (x1 : Int32) (x2 : Int32) (k : Nat) (x3 : Int32) (x4 : Int32) (H : Heap) (locs : List Loc) (ls : Array Slot), X4_holdsBefore_L5 τ x1 x2  k x3 x4 = some F → OK τ → Ix D A s (cW ad cI hs τ ++ []) H locs → lv_has ls 5 [(0, .ref (ad 0)), (1, .int x1), (2, .int x2), (3, .int x3), (4, .int x4)] → W p l e rm_X4_holdsBefore s m args below meth c H locs 0 0 Q (F0 m 5 ls []) := by
    intro x1 x2 k
    induction k with
    | zero => intro x3 x4 H locs ls hF; rw [X4_holdsBefore_L5] at hF; cases hF
    | succ k ih =>
      intro x3 x4 H locs ls hF ok Z hl
      rw [X4_holdsBefore_L5] at hF
      refine lv_iload hx hb dX4_holdsBefore_5 (lv_at hl 4 rfl) ?_
      refine lv_iload_n hx hb dX4_holdsBefore_7 rfl (lv_at hl 1 rfl) ?_
      refine lv_icmp_ge (tgt := 37) hx hb dX4_holdsBefore_8 (by decide) (fun c1 => ?_) (fun c1 => ?_)
      · rw [if_pos c1] at hF
        refine lv_iload_n hx hb dX4_holdsBefore_37 rfl (lv_at hl 3 rfl) ?_
        exact kret x3 τ _ _ _ _ ⟨(Option.some.inj hF), rfl⟩ Z.nila dX4_holdsBefore_38
      · rw [if_neg c1] at hF
        refine lv_aload_n hx hb dX4_holdsBefore_11 rfl (lv_at hl 0 rfl) ?_
        refine kget Fc Z inX4 0 rfl rfl 0 (by decide) mF_RX4_10 rfl rfl dX4_holdsBefore_12 ?_
        refine kgetN Fc Z inX2 1 rfl rfl 2 (by decide) nw_RX4_192 rfl rfl dX4_holdsBefore_15 ?_
        refine lv_iload hx hb dX4_holdsBefore_18 (lv_at hl 4 rfl) ?_
        refine lv_iconst (v := (3 : Int32)) hx hb dX4_holdsBefore_20 (by decide) ?_
        refine kr_i (As := [.int x4, .int (3 : Int32)]) Fc hA Z Lens.c2 (c_X3_get l D cI cS (ad 6) (ad 7) 24 4 (24 * 4) sh2 (τ.1 2) ok.2.2.1 x4 (3 : Int32) (tget 4 (τ.1 2) x4 (3 : Int32)) rfl) mL_RX4_88 v_X3_get ⟨rfl, rfl⟩ ⟨Nat.le_of_ble_eq_true rfl, Nat.le_of_ble_eq_true rfl⟩ ⟨Nat.zero_le _, Nat.zero_le _⟩ 6 3 rfl rfl rfl hl (Nat.le_of_ble_eq_true rfl) dX4_holdsBefore_21 rfl (fun H locs Z => ?_)
        refine lv_iload_n hx hb dX4_holdsBefore_24 rfl (lv_at hl 2 rfl) ?_
        refine lv_icmp_ne (tgt := 31) hx hb dX4_holdsBefore_25 (by decide) (fun c2 => ?_) (fun c2 => ?_)
        · rw [if_neg c2] at hF
          refine lv_iinc (v := (x4 + (1 : Int32))) (lv' := [(4, .int (x4 + (1 : Int32))), (0, .ref (ad 0)), (1, .int x1), (2, .int x2), (3, .int x3)]) hx hb dX4_holdsBefore_31 hl (k := 4) rfl (by rfl) (by decide) rfl (fun ls hl => ?_)
          refine lv_goto (tgt := 5) hx hb dX4_holdsBefore_34 (by decide) ?_
          exact ih x3 ((x4 + (1 : Int32))) _ _ _ hF ok Z (lv_sub hl [1, 2, 3, 4, 0] rfl)
        · rw [if_pos c2] at hF
          refine lv_iinc (v := (x3 + (1 : Int32))) (lv' := [(3, .int (x3 + (1 : Int32))), (0, .ref (ad 0)), (1, .int x1), (2, .int x2), (4, .int x4)]) hx hb dX4_holdsBefore_28 hl (k := 3) rfl (by rfl) (by decide) rfl (fun ls hl => ?_)
          refine lv_iinc (v := (x4 + (1 : Int32))) (lv' := [(4, .int (x4 + (1 : Int32))), (3, .int (x3 + (1 : Int32))), (0, .ref (ad 0)), (1, .int x1), (2, .int x2)]) hx hb dX4_holdsBefore_31 hl (k := 4) rfl (by rfl) (by decide) rfl (fun ls hl => ?_)
          refine lv_goto (tgt := 5) hx hb dX4_holdsBefore_34 (by decide) ?_
          exact ih ((x3 + (1 : Int32))) ((x4 + (1 : Int32))) _ _ _ hF ok Z (lv_sub hl [2, 3, 4, 1, 0] rfl)
  unfold X4_holdsBefore at hF
  refine lv_iconst (v := (0 : Int32)) hx hb dX4_holdsBefore_0 (by decide) ?_
  refine lv_istore_n (lv' := [(3, .int (0 : Int32)), (0, .ref (ad 0)), (1, .int p1), (2, .int p2)]) hx hb dX4_holdsBefore_1 rfl hl (by decide) rfl (fun ls hl => ?_)
  refine lv_iconst (v := (0 : Int32)) hx hb dX4_holdsBefore_2 (by decide) ?_
  refine lv_istore (lv' := [(4, .int (0 : Int32)), (3, .int (0 : Int32)), (0, .ref (ad 0)), (1, .int p1), (2, .int p2)]) hx hb dX4_holdsBefore_3 hl (by decide) rfl (fun ls hl => ?_)
  exact L5 p1 p2 FU (0 : Int32) (0 : Int32) _ _ _ hF ok Z (lv_sub hl [2, 3, 4, 1, 0] rfl)
def X4_removeHold (τ : St) (p1 : Int32) : St := if (tget 4 (τ.1 2) p1 (2 : Int32)) = (-2 : Int32) then (bnd (trem 4 (τ.1 2) p1) fun q2 => bnd (stT τ 2 q2) fun τ4 => τ4) else bnd (tput 12 (τ.1 0) ((tget 4 (τ.1 2) p1 (2 : Int32))) (5 : Int32) (-2 : Int32)) fun q6 => bnd (stT τ 0 q6) fun τ8 => bnd (trem 4 (τ8.1 2) p1) fun q10 => bnd (stT τ8 2 q10) fun τ12 => τ12
def rm_X4_removeHold : Room := { frames := 2, cells := 0, slots := 0, locals := 47 }
theorem v_X4_removeHold : WdV RX4 yX4_removeHold cX4_removeHold 3 none 1 := ⟨mI_X4_removeHold, mS_X4_removeHold, mZ_RX4, mC_X4_removeHold, by decide +kernel⟩
set_option maxHeartbeats 8000000 in
set_option maxRecDepth 100000 in
theorem c_X4_removeHold (l : Launch) (D : va_G) (cI cS : ClassId) (ad : Nat → Nat) (hs : Bool) (τ : St) (ok : OK τ) (p1 : Int32) (F : St) (hF : X4_removeHold τ p1 = F) : MV l yX4_removeHold cX4_removeHold 3 rm_X4_removeHold D cI cS [.ref (ad 0), .int p1] (cW ad cI hs τ) (cW ad cI hs) (fun u => u = F ∧ OK u) := by
  refine MV.mk RX4 rfl (by decide) (Nat.le_of_ble_eq_true rfl) ?_
  intro p e s m args below meth c A Q ls Fc hin hA Z kret hl
  obtain ⟨hx, hb, hml, hown, hts, hKN⟩ := id Fc
  replace hl : lv_has ls 3 [(0, .ref (ad 0)), (1, .int p1)] := hl
  replace Z := Z.anil
  unfold X4_removeHold at hF
  refine lv_aload_n hx hb dX4_removeHold_0 rfl (lv_at hl 0 rfl) ?_
  refine kget Fc Z inX4 0 rfl rfl 0 (by decide) mF_RX4_10 rfl rfl dX4_removeHold_1 ?_
  refine kgetN Fc Z inX2 1 rfl rfl 2 (by decide) nw_RX4_192 rfl rfl dX4_removeHold_4 ?_
  refine lv_iload_n hx hb dX4_removeHold_7 rfl (lv_at hl 1 rfl) ?_
  refine lv_iconst (v := (2 : Int32)) hx hb dX4_removeHold_8 (by decide) ?_
  refine kr_i (As := [.int p1, .int (2 : Int32)]) Fc hA Z Lens.c2 (c_X3_get l D cI cS (ad 6) (ad 7) 24 4 (24 * 4) sh2 (τ.1 2) ok.2.2.1 p1 (2 : Int32) (tget 4 (τ.1 2) p1 (2 : Int32)) rfl) mL_RX4_88 v_X3_get ⟨rfl, rfl⟩ ⟨Nat.le_of_ble_eq_true rfl, Nat.le_of_ble_eq_true rfl⟩ ⟨Nat.zero_le _, Nat.zero_le _⟩ 6 3 rfl rfl rfl hl (Nat.le_of_ble_eq_true rfl) dX4_removeHold_9 rfl (fun H locs Z => ?_)
  refine lv_istore_n (lv' := [(2, .int (tget 4 (τ.1 2) p1 (2 : Int32))), (0, .ref (ad 0)), (1, .int p1)]) hx hb dX4_removeHold_12 rfl hl (by decide) rfl (fun ls hl => ?_)
  refine lv_iload_n hx hb dX4_removeHold_13 rfl (lv_at hl 0 rfl) ?_
  refine lv_bipush (v := (-2 : Int32)) hx hb dX4_removeHold_14 (by decide) ?_
  refine lv_icmp_eq (tgt := 33) hx hb dX4_removeHold_16 (by decide) (fun c1 => ?_) (fun c1 => ?_)
  · rw [if_pos c1] at hF
    refine lv_aload_n hx hb dX4_removeHold_33 rfl (lv_at hl 1 rfl) ?_
    refine kget Fc Z inX4 0 rfl rfl 0 (by decide) mF_RX4_10 rfl rfl dX4_removeHold_34 ?_
    refine kgetN Fc Z inX2 1 rfl rfl 2 (by decide) nw_RX4_192 rfl rfl dX4_removeHold_37 ?_
    refine lv_iload_n hx hb dX4_removeHold_40 rfl (lv_at hl 2 rfl) ?_
    obtain ⟨q2, e3, hF⟩ := bnd_el hF
    refine kv_i (As := [.int p1]) (ok := tbOK 24) Fc hA Z Lens.c2 (c_X3_removeRow l D cI cS (ad 6) (ad 7) 24 4 (24 * 4) sh2 (τ.1 2) ok.2.2.1 p1 q2 e3.symm) mL_RX4_311 v_X3_removeRow ⟨rfl, rfl⟩ ⟨Nat.le_of_ble_eq_true rfl, Nat.le_of_ble_eq_true rfl⟩ ⟨Nat.zero_le _, Nat.zero_le _⟩ 6 3 rfl rfl rfl hl (Nat.le_of_ble_eq_true rfl) dX4_removeHold_41 rfl (fun H locs ok1 Z => ?_)
    obtain ⟨τ4, e5, hF⟩ := bnd_el hF
    rw [← e5] at Z
    have ok : OK τ4 := by rw [e5]; exact ok_c2 ok ok1
    exact kret τ4 _ _ _ _ ⟨hF, ok⟩ Z.nila dX4_removeHold_44
  · rw [if_neg c1] at hF
    refine lv_aload_n hx hb dX4_removeHold_19 rfl (lv_at hl 1 rfl) ?_
    refine kget Fc Z inX4 0 rfl rfl 0 (by decide) mF_RX4_10 rfl rfl dX4_removeHold_20 ?_
    refine kgetN Fc Z inX2 1 rfl rfl 0 (by decide) nw_RX4_47 rfl rfl dX4_removeHold_23 ?_
    refine lv_iload_n hx hb dX4_removeHold_26 rfl (lv_at hl 0 rfl) ?_
    refine lv_iconst (v := (5 : Int32)) hx hb dX4_removeHold_27 (by decide) ?_
    refine lv_bipush (v := (-2 : Int32)) hx hb dX4_removeHold_28 (by decide) ?_
    obtain ⟨q6, e7, hF⟩ := bnd_el hF
    refine kv_i (As := [.int ((tget 4 (τ.1 2) p1 (2 : Int32))), .int (5 : Int32), .int (-2 : Int32)]) (ok := tbOK 20) Fc hA Z Lens.c0 (c_X3_put l D cI cS (ad 2) (ad 3) 20 12 (20 * 12) sh0 (τ.1 0) ok.1 ((tget 4 (τ.1 2) p1 (2 : Int32))) (5 : Int32) (-2 : Int32) q6 e7.symm) mL_RX4_57 v_X3_put ⟨rfl, rfl⟩ ⟨Nat.le_of_ble_eq_true rfl, Nat.le_of_ble_eq_true rfl⟩ ⟨Nat.zero_le _, Nat.zero_le _⟩ 2 3 rfl rfl rfl hl (Nat.le_of_ble_eq_true rfl) dX4_removeHold_30 rfl (fun H locs ok1 Z => ?_)
    obtain ⟨τ8, e9, hF⟩ := bnd_el hF
    rw [← e9] at Z
    have ok : OK τ8 := by rw [e9]; exact ok_c0 ok ok1
    refine lv_aload_n hx hb dX4_removeHold_33 rfl (lv_at hl 1 rfl) ?_
    refine kget Fc Z inX4 0 rfl rfl 0 (by decide) mF_RX4_10 rfl rfl dX4_removeHold_34 ?_
    refine kgetN Fc Z inX2 1 rfl rfl 2 (by decide) nw_RX4_192 rfl rfl dX4_removeHold_37 ?_
    refine lv_iload_n hx hb dX4_removeHold_40 rfl (lv_at hl 2 rfl) ?_
    obtain ⟨q10, e11, hF⟩ := bnd_el hF
    refine kv_i (As := [.int p1]) (ok := tbOK 24) Fc hA Z Lens.c2 (c_X3_removeRow l D cI cS (ad 6) (ad 7) 24 4 (24 * 4) sh2 (τ8.1 2) ok.2.2.1 p1 q10 e11.symm) mL_RX4_311 v_X3_removeRow ⟨rfl, rfl⟩ ⟨Nat.le_of_ble_eq_true rfl, Nat.le_of_ble_eq_true rfl⟩ ⟨Nat.zero_le _, Nat.zero_le _⟩ 6 3 rfl rfl rfl hl (Nat.le_of_ble_eq_true rfl) dX4_removeHold_41 rfl (fun H locs ok1 Z => ?_)
    obtain ⟨τ12, e13, hF⟩ := bnd_el hF
    rw [← e13] at Z
    have ok : OK τ12 := by rw [e13]; exact ok_c2 ok ok1
    exact kret τ12 _ _ _ _ ⟨hF, ok⟩ Z.nila dX4_removeHold_44
def X4_findHold_L2 (τ : St) (x1 : Int32) (x2 : Int32) : Nat → Int32 → Option (Int32)
  | 0, _ => none
  | k + 1, x3 => if (τ.1 2).1 ≤ x3 then (some (-2 : Int32)) else if (tget 4 (τ.1 2) x3 (0 : Int32)) = x1 then (if (tget 4 (τ.1 2) x3 (3 : Int32)) = x2 then (some x3) else X4_findHold_L2 τ x1 x2 k ((x3 + (1 : Int32)))) else X4_findHold_L2 τ x1 x2 k ((x3 + (1 : Int32)))
def X4_findHold (τ : St) (p1 p2 : Int32) : Option (Int32) := X4_findHold_L2 τ p1 p2 FU (0 : Int32)
def rm_X4_findHold : Room := { frames := 1, cells := 0, slots := 0, locals := 23 }
theorem v_X4_findHold : WdV RX4 yX4_findHold cX4_findHold 4 (some .int) 2 := ⟨mI_X4_findHold, mS_X4_findHold, mZ_RX4, mC_X4_findHold, by decide +kernel⟩
set_option maxHeartbeats 8000000 in
set_option maxRecDepth 100000 in
theorem c_X4_findHold (l : Launch) (D : va_G) (cI cS : ClassId) (ad : Nat → Nat) (hs : Bool) (τ : St) (ok : OK τ) (p1 p2 : Int32) (F : Int32) (hF : X4_findHold τ p1 p2 = some F) : MI l yX4_findHold cX4_findHold 4 (some .int) rm_X4_findHold D cI cS [.ref (ad 0), .int p1, .int p2] (cW ad cI hs τ) (cW ad cI hs) (fun r u' => r = F ∧ u' = τ) := by
  refine MI.mk RX4 rfl .int rfl (by decide) (Nat.le_of_ble_eq_true rfl) (fun _ _ _ => rfl) ?_
  intro p e s m args below meth c A Q ls Fc hin hA Z kret hl
  obtain ⟨hx, hb, hml, hown, hts, hKN⟩ := id Fc
  replace hl : lv_has ls 4 [(0, .ref (ad 0)), (1, .int p1), (2, .int p2)] := hl
  replace Z := Z.anil
  have L2 : ∀ (x1 : Int32) (x2 : Int32) (k : Nat) (x3 : Int32) (H : Heap) (locs : List Loc) (ls : Array Slot), X4_findHold_L2 τ x1 x2  k x3 = some F → OK τ → Ix D A s (cW ad cI hs τ ++ []) H locs → lv_has ls 4 [(0, .ref (ad 0)), (1, .int x1), (2, .int x2), (3, .int x3)] → W p l e rm_X4_findHold s m args below meth c H locs 0 0 Q (F0 m 2 ls []) := by
    intro x1 x2 k
    induction k with
    | zero => intro x3 H locs ls hF; rw [X4_findHold_L2] at hF; cases hF
    | succ k ih =>
      intro x3 H locs ls hF ok Z hl
      rw [X4_findHold_L2] at hF
      refine lv_iload_n hx hb dX4_findHold_2 rfl (lv_at hl 3 rfl) ?_
      refine lv_aload_n hx hb dX4_findHold_3 rfl (lv_at hl 0 rfl) ?_
      refine kget Fc Z inX4 0 rfl rfl 0 (by decide) mF_RX4_10 rfl rfl dX4_findHold_4 ?_
      refine kgetN Fc Z inX2 1 rfl rfl 2 (by decide) nw_RX4_192 rfl rfl dX4_findHold_7 ?_
      refine kr_i (As := []) Fc hA Z Lens.c2 (c_X3_size l D cI cS (ad 6) (ad 7) 24 4 (24 * 4) sh2 (τ.1 2) ok.2.2.1  (τ.1 2).1 rfl) mL_RX4_92 v_X3_size ⟨rfl, rfl⟩ ⟨Nat.le_of_ble_eq_true rfl, Nat.le_of_ble_eq_true rfl⟩ ⟨Nat.zero_le _, Nat.zero_le _⟩ 6 3 rfl rfl rfl hl (Nat.le_of_ble_eq_true rfl) dX4_findHold_10 rfl (fun H locs Z => ?_)
      refine lv_icmp_ge (tgt := 56) hx hb dX4_findHold_13 (by decide) (fun c1 => ?_) (fun c1 => ?_)
      · rw [if_pos c1] at hF
        refine lv_bipush (v := (-2 : Int32)) hx hb dX4_findHold_56 (by decide) ?_
        exact kret (-2 : Int32) τ _ _ _ _ ⟨(Option.some.inj hF), rfl⟩ Z.nila dX4_findHold_58
      · rw [if_neg c1] at hF
        refine lv_aload_n hx hb dX4_findHold_16 rfl (lv_at hl 0 rfl) ?_
        refine kget Fc Z inX4 0 rfl rfl 0 (by decide) mF_RX4_10 rfl rfl dX4_findHold_17 ?_
        refine kgetN Fc Z inX2 1 rfl rfl 2 (by decide) nw_RX4_192 rfl rfl dX4_findHold_20 ?_
        refine lv_iload_n hx hb dX4_findHold_23 rfl (lv_at hl 3 rfl) ?_
        refine lv_iconst (v := (0 : Int32)) hx hb dX4_findHold_24 (by decide) ?_
        refine kr_i (As := [.int x3, .int (0 : Int32)]) Fc hA Z Lens.c2 (c_X3_get l D cI cS (ad 6) (ad 7) 24 4 (24 * 4) sh2 (τ.1 2) ok.2.2.1 x3 (0 : Int32) (tget 4 (τ.1 2) x3 (0 : Int32)) rfl) mL_RX4_88 v_X3_get ⟨rfl, rfl⟩ ⟨Nat.le_of_ble_eq_true rfl, Nat.le_of_ble_eq_true rfl⟩ ⟨Nat.zero_le _, Nat.zero_le _⟩ 6 3 rfl rfl rfl hl (Nat.le_of_ble_eq_true rfl) dX4_findHold_25 rfl (fun H locs Z => ?_)
        refine lv_iload_n hx hb dX4_findHold_28 rfl (lv_at hl 1 rfl) ?_
        refine lv_icmp_ne (tgt := 50) hx hb dX4_findHold_29 (by decide) (fun c2 => ?_) (fun c2 => ?_)
        · rw [if_neg c2] at hF
          refine lv_iinc (v := (x3 + (1 : Int32))) (lv' := [(3, .int (x3 + (1 : Int32))), (0, .ref (ad 0)), (1, .int x1), (2, .int x2)]) hx hb dX4_findHold_50 hl (k := 3) rfl (by rfl) (by decide) rfl (fun ls hl => ?_)
          refine lv_goto (tgt := 2) hx hb dX4_findHold_53 (by decide) ?_
          exact ih ((x3 + (1 : Int32))) _ _ _ hF ok Z (lv_sub hl [1, 2, 3, 0] rfl)
        · rw [if_pos c2] at hF
          refine lv_aload_n hx hb dX4_findHold_32 rfl (lv_at hl 0 rfl) ?_
          refine kget Fc Z inX4 0 rfl rfl 0 (by decide) mF_RX4_10 rfl rfl dX4_findHold_33 ?_
          refine kgetN Fc Z inX2 1 rfl rfl 2 (by decide) nw_RX4_192 rfl rfl dX4_findHold_36 ?_
          refine lv_iload_n hx hb dX4_findHold_39 rfl (lv_at hl 3 rfl) ?_
          refine lv_iconst (v := (3 : Int32)) hx hb dX4_findHold_40 (by decide) ?_
          refine kr_i (As := [.int x3, .int (3 : Int32)]) Fc hA Z Lens.c2 (c_X3_get l D cI cS (ad 6) (ad 7) 24 4 (24 * 4) sh2 (τ.1 2) ok.2.2.1 x3 (3 : Int32) (tget 4 (τ.1 2) x3 (3 : Int32)) rfl) mL_RX4_88 v_X3_get ⟨rfl, rfl⟩ ⟨Nat.le_of_ble_eq_true rfl, Nat.le_of_ble_eq_true rfl⟩ ⟨Nat.zero_le _, Nat.zero_le _⟩ 6 3 rfl rfl rfl hl (Nat.le_of_ble_eq_true rfl) dX4_findHold_41 rfl (fun H locs Z => ?_)
          refine lv_iload_n hx hb dX4_findHold_44 rfl (lv_at hl 2 rfl) ?_
          refine lv_icmp_ne (tgt := 50) hx hb dX4_findHold_45 (by decide) (fun c3 => ?_) (fun c3 => ?_)
          · rw [if_neg c3] at hF
            refine lv_iinc (v := (x3 + (1 : Int32))) (lv' := [(3, .int (x3 + (1 : Int32))), (0, .ref (ad 0)), (1, .int x1), (2, .int x2)]) hx hb dX4_findHold_50 hl (k := 3) rfl (by rfl) (by decide) rfl (fun ls hl => ?_)
            refine lv_goto (tgt := 2) hx hb dX4_findHold_53 (by decide) ?_
            exact ih ((x3 + (1 : Int32))) _ _ _ hF ok Z (lv_sub hl [1, 2, 3, 0] rfl)
          · rw [if_pos c3] at hF
            refine lv_iload_n hx hb dX4_findHold_48 rfl (lv_at hl 3 rfl) ?_
            exact kret x3 τ _ _ _ _ ⟨(Option.some.inj hF), rfl⟩ Z.nila dX4_findHold_49
  unfold X4_findHold at hF
  refine lv_iconst (v := (0 : Int32)) hx hb dX4_findHold_0 (by decide) ?_
  refine lv_istore_n (lv' := [(3, .int (0 : Int32)), (0, .ref (ad 0)), (1, .int p1), (2, .int p2)]) hx hb dX4_findHold_1 rfl hl (by decide) rfl (fun ls hl => ?_)
  exact L2 p1 p2 FU (0 : Int32) _ _ _ hF ok Z (lv_sub hl [1, 2, 3, 0] rfl)
def X4_dropHold (τ : St) (p1 p2 : Int32) : Option (Int32 × St) := if (bi (X4_isPatron τ p1)) = 0 then (some (((-1 : Int32), τ))) else if (bi (X4_isTitle p2)) = 0 then (some (((-1 : Int32), τ))) else (X4_findHold τ p1 p2).bind fun v3 => if v3 = (-2 : Int32) then (some (((-2 : Int32), τ))) else bnd (X4_removeHold τ v3) fun q6 => if (tget 4 (τ.1 2) v3 (2 : Int32)) = (-2 : Int32) then ((X4_holdsBefore q6 ((q6.1 2).1) p2).bind fun v9 => some (v9, q6)) else if (X4_stateOf q6 ((tget 4 (τ.1 2) v3 (2 : Int32)))) = (3 : Int32) then ((X4_becomeFree q6 ((tget 4 (τ.1 2) v3 (2 : Int32))) ((tget 12 (q6.1 0) ((tget 4 (τ.1 2) v3 (2 : Int32))) (4 : Int32)))).bind fun q14 => (X4_holdsBefore q14 ((q14.1 2).1) p2).bind fun v16 => some (v16, q14)) else (X4_holdsBefore q6 ((q6.1 2).1) p2).bind fun v12 => some (v12, q6)
def rm_X4_dropHold : Room := { frames := 4, cells := 0, slots := 0, locals := 92 }
theorem v_X4_dropHold : WdV RX4 yX4_dropHold cX4_dropHold 5 (some .int) 2 := ⟨mI_X4_dropHold, mS_X4_dropHold, mZ_RX4, mC_X4_dropHold, by decide +kernel⟩
set_option maxHeartbeats 8000000 in
set_option maxRecDepth 100000 in
theorem c_X4_dropHold (l : Launch) (D : va_G) (cI cS : ClassId) (ad : Nat → Nat) (hs : Bool) (τ : St) (ok : OK τ) (p1 p2 : Int32) (F : Int32 × St) (hF : X4_dropHold τ p1 p2 = some F) : MI l yX4_dropHold cX4_dropHold 5 (some .int) rm_X4_dropHold D cI cS [.ref (ad 0), .int p1, .int p2] (cW ad cI hs τ) (cW ad cI hs) (fun r u => r = F.1 ∧ u = F.2 ∧ OK u) := by
  refine MI.mk RX4 rfl .int rfl (by decide) (Nat.le_of_ble_eq_true rfl) (fun _ _ _ => rfl) ?_
  intro p e s m args below meth c A Q ls Fc hin hA Z kret hl
  obtain ⟨hx, hb, hml, hown, hts, hKN⟩ := id Fc
  replace hl : lv_has ls 5 [(0, .ref (ad 0)), (1, .int p1), (2, .int p2)] := hl
  replace Z := Z.anil
  unfold X4_dropHold at hF
  refine lv_aload_n hx hb dX4_dropHold_0 rfl (lv_at hl 0 rfl) ?_
  refine lv_iload_n hx hb dX4_dropHold_1 rfl (lv_at hl 1 rfl) ?_
  refine kr_i (As := [.int p1]) Fc hA Z (Lens.tail []) (c_X4_isPatron l D cI cS ad hs τ ok p1 (X4_isPatron τ p1) rfl) mL_RX4_143 v_X4_isPatron ⟨rfl, rfl⟩ ⟨Nat.le_of_ble_eq_true rfl, Nat.le_of_ble_eq_true rfl⟩ ⟨Nat.zero_le _, Nat.zero_le _⟩ 0 4 rfl rfl rfl hl (Nat.le_of_ble_eq_true rfl) dX4_dropHold_2 rfl (fun H locs Z => ?_)
  refine lv_if_eq (tgt := 15) hx hb dX4_dropHold_5 (by decide) (fun c1 => ?_) (fun c1 => ?_)
  · rw [if_pos c1] at hF
    refine lv_iconst (v := (-1 : Int32)) hx hb dX4_dropHold_15 (by decide) ?_
    exact kret (-1 : Int32) τ _ _ _ _ ⟨(pfst (Option.some.inj hF)), psnd (Option.some.inj hF), ok⟩ Z.nila dX4_dropHold_16
  · rw [if_neg c1] at hF
    refine lv_iload_n hx hb dX4_dropHold_8 rfl (lv_at hl 2 rfl) ?_
    refine ks_i (As := [.int p2]) Fc hA Z (c_X4_isTitle l D cI cS p2 (X4_isTitle p2) rfl) mL_RX4_40 v_X4_isTitle ⟨rfl, rfl⟩ ⟨Nat.le_of_ble_eq_true rfl, Nat.le_of_ble_eq_true rfl⟩ ⟨Nat.zero_le _, Nat.zero_le _⟩ rfl hl (Nat.le_of_ble_eq_true rfl) dX4_dropHold_9 rfl (fun H locs Z => ?_)
    refine lv_if_ne (tgt := 17) hx hb dX4_dropHold_12 (by decide) (fun c2 => ?_) (fun c2 => ?_)
    · rw [if_neg c2] at hF
      refine lv_aload_n hx hb dX4_dropHold_17 rfl (lv_at hl 0 rfl) ?_
      refine lv_iload_n hx hb dX4_dropHold_18 rfl (lv_at hl 1 rfl) ?_
      refine lv_iload_n hx hb dX4_dropHold_19 rfl (lv_at hl 2 rfl) ?_
      obtain ⟨v3, h4, hF⟩ := obind hF
      refine kr_i (As := [.int p1, .int p2]) Fc hA Z (Lens.tail []) (c_X4_findHold l D cI cS ad hs τ ok p1 p2 v3 h4) mL_RX4_121 v_X4_findHold ⟨rfl, rfl⟩ ⟨Nat.le_of_ble_eq_true rfl, Nat.le_of_ble_eq_true rfl⟩ ⟨Nat.zero_le _, Nat.zero_le _⟩ 0 4 rfl rfl rfl hl (Nat.le_of_ble_eq_true rfl) dX4_dropHold_20 rfl (fun H locs Z => ?_)
      refine lv_istore_n (lv' := [(3, .int v3), (0, .ref (ad 0)), (1, .int p1), (2, .int p2)]) hx hb dX4_dropHold_23 rfl hl (by decide) rfl (fun ls hl => ?_)
      refine lv_iload_n hx hb dX4_dropHold_24 rfl (lv_at hl 0 rfl) ?_
      refine lv_bipush (v := (-2 : Int32)) hx hb dX4_dropHold_25 (by decide) ?_
      refine lv_icmp_ne (tgt := 33) hx hb dX4_dropHold_27 (by decide) (fun c5 => ?_) (fun c5 => ?_)
      · rw [if_neg c5] at hF
        refine lv_aload_n hx hb dX4_dropHold_33 rfl (lv_at hl 1 rfl) ?_
        refine kget Fc Z inX4 0 rfl rfl 0 (by decide) mF_RX4_10 rfl rfl dX4_dropHold_34 ?_
        refine kgetN Fc Z inX2 1 rfl rfl 2 (by decide) nw_RX4_192 rfl rfl dX4_dropHold_37 ?_
        refine lv_iload_n hx hb dX4_dropHold_40 rfl (lv_at hl 0 rfl) ?_
        refine lv_iconst (v := (2 : Int32)) hx hb dX4_dropHold_41 (by decide) ?_
        refine kr_i (As := [.int v3, .int (2 : Int32)]) Fc hA Z Lens.c2 (c_X3_get l D cI cS (ad 6) (ad 7) 24 4 (24 * 4) sh2 (τ.1 2) ok.2.2.1 v3 (2 : Int32) (tget 4 (τ.1 2) v3 (2 : Int32)) rfl) mL_RX4_88 v_X3_get ⟨rfl, rfl⟩ ⟨Nat.le_of_ble_eq_true rfl, Nat.le_of_ble_eq_true rfl⟩ ⟨Nat.zero_le _, Nat.zero_le _⟩ 6 3 rfl rfl rfl hl (Nat.le_of_ble_eq_true rfl) dX4_dropHold_42 rfl (fun H locs Z => ?_)
        refine lv_istore (lv' := [(4, .int (tget 4 (τ.1 2) v3 (2 : Int32))), (3, .int v3), (0, .ref (ad 0)), (1, .int p1), (2, .int p2)]) hx hb dX4_dropHold_45 hl (by decide) rfl (fun ls hl => ?_)
        refine lv_aload_n hx hb dX4_dropHold_47 rfl (lv_at hl 2 rfl) ?_
        refine lv_iload_n hx hb dX4_dropHold_48 rfl (lv_at hl 1 rfl) ?_
        obtain ⟨q6, e7, hF⟩ := bnd_el hF
        refine kv_i (As := [.int v3]) (ok := OK) Fc hA Z (Lens.tail []) (c_X4_removeHold l D cI cS ad hs τ ok v3 q6 e7.symm) mL_RX4_124 v_X4_removeHold ⟨rfl, rfl⟩ ⟨Nat.le_of_ble_eq_true rfl, Nat.le_of_ble_eq_true rfl⟩ ⟨Nat.zero_le _, Nat.zero_le _⟩ 0 4 rfl rfl rfl hl (Nat.le_of_ble_eq_true rfl) dX4_dropHold_49 rfl (fun H locs ok1 Z => ?_)
        have ok := ok1
        refine lv_iload hx hb dX4_dropHold_52 (lv_at hl 0 rfl) ?_
        refine lv_bipush (v := (-2 : Int32)) hx hb dX4_dropHold_54 (by decide) ?_
        refine lv_icmp_eq (tgt := 88) hx hb dX4_dropHold_56 (by decide) (fun c8 => ?_) (fun c8 => ?_)
        · rw [if_pos c8] at hF
          refine lv_aload_n hx hb dX4_dropHold_88 rfl (lv_at hl 2 rfl) ?_
          refine lv_aload_n hx hb dX4_dropHold_89 rfl (lv_at hl 2 rfl) ?_
          refine kget Fc Z inX4 0 rfl rfl 0 (by decide) mF_RX4_10 rfl rfl dX4_dropHold_90 ?_
          refine kgetN Fc Z inX2 1 rfl rfl 2 (by decide) nw_RX4_192 rfl rfl dX4_dropHold_93 ?_
          refine kr_i (As := []) Fc hA Z Lens.c2 (c_X3_size l D cI cS (ad 6) (ad 7) 24 4 (24 * 4) sh2 (q6.1 2) ok.2.2.1  (q6.1 2).1 rfl) mL_RX4_92 v_X3_size ⟨rfl, rfl⟩ ⟨Nat.le_of_ble_eq_true rfl, Nat.le_of_ble_eq_true rfl⟩ ⟨Nat.zero_le _, Nat.zero_le _⟩ 6 3 rfl rfl rfl hl (Nat.le_of_ble_eq_true rfl) dX4_dropHold_96 rfl (fun H locs Z => ?_)
          refine lv_iload_n hx hb dX4_dropHold_99 rfl (lv_at hl 4 rfl) ?_
          obtain ⟨v9, h10, hF⟩ := obind hF
          refine kr_i (As := [.int ((q6.1 2).1), .int p2]) Fc hA Z (Lens.tail []) (c_X4_holdsBefore l D cI cS ad hs q6 ok ((q6.1 2).1) p2 v9 h10) mL_RX4_213 v_X4_holdsBefore ⟨rfl, rfl⟩ ⟨Nat.le_of_ble_eq_true rfl, Nat.le_of_ble_eq_true rfl⟩ ⟨Nat.zero_le _, Nat.zero_le _⟩ 0 4 rfl rfl rfl hl (Nat.le_of_ble_eq_true rfl) dX4_dropHold_100 rfl (fun H locs Z => ?_)
          exact kret v9 q6 _ _ _ _ ⟨(pfst (Option.some.inj hF)), psnd (Option.some.inj hF), ok⟩ Z.nila dX4_dropHold_103
        · rw [if_neg c8] at hF
          refine lv_aload_n hx hb dX4_dropHold_59 rfl (lv_at hl 2 rfl) ?_
          refine lv_iload hx hb dX4_dropHold_60 (lv_at hl 0 rfl) ?_
          refine kr_i (As := [.int ((tget 4 (τ.1 2) v3 (2 : Int32)))]) Fc hA Z (Lens.tail []) (c_X4_stateOf l D cI cS ad hs q6 ok ((tget 4 (τ.1 2) v3 (2 : Int32))) (X4_stateOf q6 ((tget 4 (τ.1 2) v3 (2 : Int32)))) rfl) mL_RX4_95 v_X4_stateOf ⟨rfl, rfl⟩ ⟨Nat.le_of_ble_eq_true rfl, Nat.le_of_ble_eq_true rfl⟩ ⟨Nat.zero_le _, Nat.zero_le _⟩ 0 4 rfl rfl rfl hl (Nat.le_of_ble_eq_true rfl) dX4_dropHold_62 rfl (fun H locs Z => ?_)
          refine lv_iconst (v := (3 : Int32)) hx hb dX4_dropHold_65 (by decide) ?_
          refine lv_icmp_ne (tgt := 88) hx hb dX4_dropHold_66 (by decide) (fun c11 => ?_) (fun c11 => ?_)
          · rw [if_neg c11] at hF
            refine lv_aload_n hx hb dX4_dropHold_88 rfl (lv_at hl 2 rfl) ?_
            refine lv_aload_n hx hb dX4_dropHold_89 rfl (lv_at hl 2 rfl) ?_
            refine kget Fc Z inX4 0 rfl rfl 0 (by decide) mF_RX4_10 rfl rfl dX4_dropHold_90 ?_
            refine kgetN Fc Z inX2 1 rfl rfl 2 (by decide) nw_RX4_192 rfl rfl dX4_dropHold_93 ?_
            refine kr_i (As := []) Fc hA Z Lens.c2 (c_X3_size l D cI cS (ad 6) (ad 7) 24 4 (24 * 4) sh2 (q6.1 2) ok.2.2.1  (q6.1 2).1 rfl) mL_RX4_92 v_X3_size ⟨rfl, rfl⟩ ⟨Nat.le_of_ble_eq_true rfl, Nat.le_of_ble_eq_true rfl⟩ ⟨Nat.zero_le _, Nat.zero_le _⟩ 6 3 rfl rfl rfl hl (Nat.le_of_ble_eq_true rfl) dX4_dropHold_96 rfl (fun H locs Z => ?_)
            refine lv_iload_n hx hb dX4_dropHold_99 rfl (lv_at hl 4 rfl) ?_
            obtain ⟨v12, h13, hF⟩ := obind hF
            refine kr_i (As := [.int ((q6.1 2).1), .int p2]) Fc hA Z (Lens.tail []) (c_X4_holdsBefore l D cI cS ad hs q6 ok ((q6.1 2).1) p2 v12 h13) mL_RX4_213 v_X4_holdsBefore ⟨rfl, rfl⟩ ⟨Nat.le_of_ble_eq_true rfl, Nat.le_of_ble_eq_true rfl⟩ ⟨Nat.zero_le _, Nat.zero_le _⟩ 0 4 rfl rfl rfl hl (Nat.le_of_ble_eq_true rfl) dX4_dropHold_100 rfl (fun H locs Z => ?_)
            exact kret v12 q6 _ _ _ _ ⟨(pfst (Option.some.inj hF)), psnd (Option.some.inj hF), ok⟩ Z.nila dX4_dropHold_103
          · rw [if_pos c11] at hF
            refine lv_aload_n hx hb dX4_dropHold_69 rfl (lv_at hl 2 rfl) ?_
            refine lv_iload hx hb dX4_dropHold_70 (lv_at hl 0 rfl) ?_
            refine lv_aload_n hx hb dX4_dropHold_72 rfl (lv_at hl 2 rfl) ?_
            refine kget Fc Z inX4 0 rfl rfl 0 (by decide) mF_RX4_10 rfl rfl dX4_dropHold_73 ?_
            refine kgetN Fc Z inX2 1 rfl rfl 0 (by decide) nw_RX4_47 rfl rfl dX4_dropHold_76 ?_
            refine lv_iload hx hb dX4_dropHold_79 (lv_at hl 0 rfl) ?_
            refine lv_iconst (v := (4 : Int32)) hx hb dX4_dropHold_81 (by decide) ?_
            refine kr_i (As := [.int ((tget 4 (τ.1 2) v3 (2 : Int32))), .int (4 : Int32)]) Fc hA Z Lens.c0 (c_X3_get l D cI cS (ad 2) (ad 3) 20 12 (20 * 12) sh0 (q6.1 0) ok.1 ((tget 4 (τ.1 2) v3 (2 : Int32))) (4 : Int32) (tget 12 (q6.1 0) ((tget 4 (τ.1 2) v3 (2 : Int32))) (4 : Int32)) rfl) mL_RX4_88 v_X3_get ⟨rfl, rfl⟩ ⟨Nat.le_of_ble_eq_true rfl, Nat.le_of_ble_eq_true rfl⟩ ⟨Nat.zero_le _, Nat.zero_le _⟩ 2 3 rfl rfl rfl hl (Nat.le_of_ble_eq_true rfl) dX4_dropHold_82 rfl (fun H locs Z => ?_)
            obtain ⟨q14, h15, hF⟩ := obind hF
            refine kv_i (As := [.int ((tget 4 (τ.1 2) v3 (2 : Int32))), .int ((tget 12 (q6.1 0) ((tget 4 (τ.1 2) v3 (2 : Int32))) (4 : Int32)))]) (ok := OK) Fc hA Z (Lens.tail []) (c_X4_becomeFree l D cI cS ad hs q6 ok ((tget 4 (τ.1 2) v3 (2 : Int32))) ((tget 12 (q6.1 0) ((tget 4 (τ.1 2) v3 (2 : Int32))) (4 : Int32))) q14 h15) mL_RX4_61 v_X4_becomeFree ⟨rfl, rfl⟩ ⟨Nat.le_of_ble_eq_true rfl, Nat.le_of_ble_eq_true rfl⟩ ⟨Nat.zero_le _, Nat.zero_le _⟩ 0 4 rfl rfl rfl hl (Nat.le_of_ble_eq_true rfl) dX4_dropHold_85 rfl (fun H locs ok1 Z => ?_)
            have ok := ok1
            refine lv_aload_n hx hb dX4_dropHold_88 rfl (lv_at hl 2 rfl) ?_
            refine lv_aload_n hx hb dX4_dropHold_89 rfl (lv_at hl 2 rfl) ?_
            refine kget Fc Z inX4 0 rfl rfl 0 (by decide) mF_RX4_10 rfl rfl dX4_dropHold_90 ?_
            refine kgetN Fc Z inX2 1 rfl rfl 2 (by decide) nw_RX4_192 rfl rfl dX4_dropHold_93 ?_
            refine kr_i (As := []) Fc hA Z Lens.c2 (c_X3_size l D cI cS (ad 6) (ad 7) 24 4 (24 * 4) sh2 (q14.1 2) ok.2.2.1  (q14.1 2).1 rfl) mL_RX4_92 v_X3_size ⟨rfl, rfl⟩ ⟨Nat.le_of_ble_eq_true rfl, Nat.le_of_ble_eq_true rfl⟩ ⟨Nat.zero_le _, Nat.zero_le _⟩ 6 3 rfl rfl rfl hl (Nat.le_of_ble_eq_true rfl) dX4_dropHold_96 rfl (fun H locs Z => ?_)
            refine lv_iload_n hx hb dX4_dropHold_99 rfl (lv_at hl 4 rfl) ?_
            obtain ⟨v16, h17, hF⟩ := obind hF
            refine kr_i (As := [.int ((q14.1 2).1), .int p2]) Fc hA Z (Lens.tail []) (c_X4_holdsBefore l D cI cS ad hs q14 ok ((q14.1 2).1) p2 v16 h17) mL_RX4_213 v_X4_holdsBefore ⟨rfl, rfl⟩ ⟨Nat.le_of_ble_eq_true rfl, Nat.le_of_ble_eq_true rfl⟩ ⟨Nat.zero_le _, Nat.zero_le _⟩ 0 4 rfl rfl rfl hl (Nat.le_of_ble_eq_true rfl) dX4_dropHold_100 rfl (fun H locs Z => ?_)
            exact kret v16 q14 _ _ _ _ ⟨(pfst (Option.some.inj hF)), psnd (Option.some.inj hF), ok⟩ Z.nila dX4_dropHold_103
      · rw [if_pos c5] at hF
        refine lv_bipush (v := (-2 : Int32)) hx hb dX4_dropHold_30 (by decide) ?_
        exact kret (-2 : Int32) τ _ _ _ _ ⟨(pfst (Option.some.inj hF)), psnd (Option.some.inj hF), ok⟩ Z.nila dX4_dropHold_32
    · rw [if_pos c2] at hF
      refine lv_iconst (v := (-1 : Int32)) hx hb dX4_dropHold_15 (by decide) ?_
      exact kret (-1 : Int32) τ _ _ _ _ ⟨(pfst (Option.some.inj hF)), psnd (Option.some.inj hF), ok⟩ Z.nila dX4_dropHold_16
def X4_earliestNotRecalled_L5 (τ : St) (x1 : Int32) : Nat → Int32 → Int32 → Option (Int32)
  | 0, _, _ => none
  | k + 1, x2, x3 => if (τ.1 0).1 ≤ x3 then (some x2) else if (X4_titleOf τ x3) = x1 then (if (X4_stateOf τ x3) = (1 : Int32) then (if (tget 12 (τ.1 0) x3 (9 : Int32)) = (1 : Int32) then (X4_earliestNotRecalled_L5 τ x1 k x2 ((x3 + (1 : Int32)))) else if x2 = (-2 : Int32) then (X4_earliestNotRecalled_L5 τ x1 k x3 ((x3 + (1 : Int32)))) else if (tget 12 (τ.1 0) x2 (7 : Int32)) ≤ (tget 12 (τ.1 0) x3 (7 : Int32)) then (X4_earliestNotRecalled_L5 τ x1 k x2 ((x3 + (1 : Int32)))) else X4_earliestNotRecalled_L5 τ x1 k x3 ((x3 + (1 : Int32)))) else X4_earliestNotRecalled_L5 τ x1 k x2 ((x3 + (1 : Int32)))) else X4_earliestNotRecalled_L5 τ x1 k x2 ((x3 + (1 : Int32)))
def X4_earliestNotRecalled (τ : St) (p1 : Int32) : Option (Int32) := X4_earliestNotRecalled_L5 τ p1 FU (-2 : Int32) (0 : Int32)
def rm_X4_earliestNotRecalled : Room := { frames := 2, cells := 0, slots := 0, locals := 44 }
theorem v_X4_earliestNotRecalled : WdV RX4 yX4_earliestNotRecalled cX4_earliestNotRecalled 4 (some .int) 1 := ⟨mI_X4_earliestNotRecalled, mS_X4_earliestNotRecalled, mZ_RX4, mC_X4_earliestNotRecalled, by decide +kernel⟩
set_option maxHeartbeats 8000000 in
set_option maxRecDepth 100000 in
theorem c_X4_earliestNotRecalled (l : Launch) (D : va_G) (cI cS : ClassId) (ad : Nat → Nat) (hs : Bool) (τ : St) (ok : OK τ) (p1 : Int32) (F : Int32) (hF : X4_earliestNotRecalled τ p1 = some F) : MI l yX4_earliestNotRecalled cX4_earliestNotRecalled 4 (some .int) rm_X4_earliestNotRecalled D cI cS [.ref (ad 0), .int p1] (cW ad cI hs τ) (cW ad cI hs) (fun r u' => r = F ∧ u' = τ) := by
  refine MI.mk RX4 rfl .int rfl (by decide) (Nat.le_of_ble_eq_true rfl) (fun _ _ _ => rfl) ?_
  intro p e s m args below meth c A Q ls Fc hin hA Z kret hl
  obtain ⟨hx, hb, hml, hown, hts, hKN⟩ := id Fc
  replace hl : lv_has ls 4 [(0, .ref (ad 0)), (1, .int p1)] := hl
  replace Z := Z.anil
  have L5 : ∀ (x1 : Int32) (k : Nat) (x2 : Int32) (x3 : Int32) (H : Heap) (locs : List Loc) (ls : Array Slot), X4_earliestNotRecalled_L5 τ x1  k x2 x3 = some F → OK τ → Ix D A s (cW ad cI hs τ ++ []) H locs → lv_has ls 4 [(0, .ref (ad 0)), (1, .int x1), (2, .int x2), (3, .int x3)] → W p l e rm_X4_earliestNotRecalled s m args below meth c H locs 0 0 Q (F0 m 5 ls []) := by
    intro x1 k
    induction k with
    | zero => intro x2 x3 H locs ls hF; rw [X4_earliestNotRecalled_L5] at hF; cases hF
    | succ k ih =>
      intro x2 x3 H locs ls hF ok Z hl
      rw [X4_earliestNotRecalled_L5] at hF
      refine lv_iload_n hx hb dX4_earliestNotRecalled_5 rfl (lv_at hl 3 rfl) ?_
      refine lv_aload_n hx hb dX4_earliestNotRecalled_6 rfl (lv_at hl 0 rfl) ?_
      refine kget Fc Z inX4 0 rfl rfl 0 (by decide) mF_RX4_10 rfl rfl dX4_earliestNotRecalled_7 ?_
      refine kgetN Fc Z inX2 1 rfl rfl 0 (by decide) nw_RX4_47 rfl rfl dX4_earliestNotRecalled_10 ?_
      refine kr_i (As := []) Fc hA Z Lens.c0 (c_X3_size l D cI cS (ad 2) (ad 3) 20 12 (20 * 12) sh0 (τ.1 0) ok.1  (τ.1 0).1 rfl) mL_RX4_92 v_X3_size ⟨rfl, rfl⟩ ⟨Nat.le_of_ble_eq_true rfl, Nat.le_of_ble_eq_true rfl⟩ ⟨Nat.zero_le _, Nat.zero_le _⟩ 2 3 rfl rfl rfl hl (Nat.le_of_ble_eq_true rfl) dX4_earliestNotRecalled_13 rfl (fun H locs Z => ?_)
      refine lv_icmp_ge (tgt := 100) hx hb dX4_earliestNotRecalled_16 (by decide) (fun c1 => ?_) (fun c1 => ?_)
      · rw [if_pos c1] at hF
        refine lv_iload_n hx hb dX4_earliestNotRecalled_100 rfl (lv_at hl 2 rfl) ?_
        exact kret x2 τ _ _ _ _ ⟨(Option.some.inj hF), rfl⟩ Z.nila dX4_earliestNotRecalled_101
      · rw [if_neg c1] at hF
        refine lv_aload_n hx hb dX4_earliestNotRecalled_19 rfl (lv_at hl 0 rfl) ?_
        refine lv_iload_n hx hb dX4_earliestNotRecalled_20 rfl (lv_at hl 3 rfl) ?_
        refine kr_i (As := [.int x3]) Fc hA Z (Lens.tail []) (c_X4_titleOf l D cI cS ad hs τ ok x3 (X4_titleOf τ x3) rfl) mL_RX4_118 v_X4_titleOf ⟨rfl, rfl⟩ ⟨Nat.le_of_ble_eq_true rfl, Nat.le_of_ble_eq_true rfl⟩ ⟨Nat.zero_le _, Nat.zero_le _⟩ 0 4 rfl rfl rfl hl (Nat.le_of_ble_eq_true rfl) dX4_earliestNotRecalled_21 rfl (fun H locs Z => ?_)
        refine lv_iload_n hx hb dX4_earliestNotRecalled_24 rfl (lv_at hl 1 rfl) ?_
        refine lv_icmp_ne (tgt := 94) hx hb dX4_earliestNotRecalled_25 (by decide) (fun c2 => ?_) (fun c2 => ?_)
        · rw [if_neg c2] at hF
          refine lv_iinc (v := (x3 + (1 : Int32))) (lv' := [(3, .int (x3 + (1 : Int32))), (0, .ref (ad 0)), (1, .int x1), (2, .int x2)]) hx hb dX4_earliestNotRecalled_94 hl (k := 3) rfl (by rfl) (by decide) rfl (fun ls hl => ?_)
          refine lv_goto (tgt := 5) hx hb dX4_earliestNotRecalled_97 (by decide) ?_
          exact ih x2 ((x3 + (1 : Int32))) _ _ _ hF ok Z (lv_sub hl [1, 2, 3, 0] rfl)
        · rw [if_pos c2] at hF
          refine lv_aload_n hx hb dX4_earliestNotRecalled_28 rfl (lv_at hl 0 rfl) ?_
          refine lv_iload_n hx hb dX4_earliestNotRecalled_29 rfl (lv_at hl 3 rfl) ?_
          refine kr_i (As := [.int x3]) Fc hA Z (Lens.tail []) (c_X4_stateOf l D cI cS ad hs τ ok x3 (X4_stateOf τ x3) rfl) mL_RX4_95 v_X4_stateOf ⟨rfl, rfl⟩ ⟨Nat.le_of_ble_eq_true rfl, Nat.le_of_ble_eq_true rfl⟩ ⟨Nat.zero_le _, Nat.zero_le _⟩ 0 4 rfl rfl rfl hl (Nat.le_of_ble_eq_true rfl) dX4_earliestNotRecalled_30 rfl (fun H locs Z => ?_)
          refine lv_iconst (v := (1 : Int32)) hx hb dX4_earliestNotRecalled_33 (by decide) ?_
          refine lv_icmp_ne (tgt := 94) hx hb dX4_earliestNotRecalled_34 (by decide) (fun c3 => ?_) (fun c3 => ?_)
          · rw [if_neg c3] at hF
            refine lv_iinc (v := (x3 + (1 : Int32))) (lv' := [(3, .int (x3 + (1 : Int32))), (0, .ref (ad 0)), (1, .int x1), (2, .int x2)]) hx hb dX4_earliestNotRecalled_94 hl (k := 3) rfl (by rfl) (by decide) rfl (fun ls hl => ?_)
            refine lv_goto (tgt := 5) hx hb dX4_earliestNotRecalled_97 (by decide) ?_
            exact ih x2 ((x3 + (1 : Int32))) _ _ _ hF ok Z (lv_sub hl [1, 2, 3, 0] rfl)
          · rw [if_pos c3] at hF
            refine lv_aload_n hx hb dX4_earliestNotRecalled_37 rfl (lv_at hl 0 rfl) ?_
            refine kget Fc Z inX4 0 rfl rfl 0 (by decide) mF_RX4_10 rfl rfl dX4_earliestNotRecalled_38 ?_
            refine kgetN Fc Z inX2 1 rfl rfl 0 (by decide) nw_RX4_47 rfl rfl dX4_earliestNotRecalled_41 ?_
            refine lv_iload_n hx hb dX4_earliestNotRecalled_44 rfl (lv_at hl 3 rfl) ?_
            refine lv_bipush (v := (9 : Int32)) hx hb dX4_earliestNotRecalled_45 (by decide) ?_
            refine kr_i (As := [.int x3, .int (9 : Int32)]) Fc hA Z Lens.c0 (c_X3_get l D cI cS (ad 2) (ad 3) 20 12 (20 * 12) sh0 (τ.1 0) ok.1 x3 (9 : Int32) (tget 12 (τ.1 0) x3 (9 : Int32)) rfl) mL_RX4_88 v_X3_get ⟨rfl, rfl⟩ ⟨Nat.le_of_ble_eq_true rfl, Nat.le_of_ble_eq_true rfl⟩ ⟨Nat.zero_le _, Nat.zero_le _⟩ 2 3 rfl rfl rfl hl (Nat.le_of_ble_eq_true rfl) dX4_earliestNotRecalled_47 rfl (fun H locs Z => ?_)
            refine lv_iconst (v := (1 : Int32)) hx hb dX4_earliestNotRecalled_50 (by decide) ?_
            refine lv_icmp_ne (tgt := 57) hx hb dX4_earliestNotRecalled_51 (by decide) (fun c4 => ?_) (fun c4 => ?_)
            · rw [if_neg c4] at hF
              refine lv_iload_n hx hb dX4_earliestNotRecalled_57 rfl (lv_at hl 2 rfl) ?_
              refine lv_bipush (v := (-2 : Int32)) hx hb dX4_earliestNotRecalled_58 (by decide) ?_
              refine lv_icmp_eq (tgt := 92) hx hb dX4_earliestNotRecalled_60 (by decide) (fun c5 => ?_) (fun c5 => ?_)
              · rw [if_pos c5] at hF
                refine lv_iload_n hx hb dX4_earliestNotRecalled_92 rfl (lv_at hl 3 rfl) ?_
                refine lv_istore_n (lv' := [(2, .int x3), (0, .ref (ad 0)), (1, .int x1), (3, .int x3)]) hx hb dX4_earliestNotRecalled_93 rfl hl (by decide) rfl (fun ls hl => ?_)
                refine lv_iinc (v := (x3 + (1 : Int32))) (lv' := [(3, .int (x3 + (1 : Int32))), (2, .int x3), (0, .ref (ad 0)), (1, .int x1)]) hx hb dX4_earliestNotRecalled_94 hl (k := 3) rfl (by rfl) (by decide) rfl (fun ls hl => ?_)
                refine lv_goto (tgt := 5) hx hb dX4_earliestNotRecalled_97 (by decide) ?_
                exact ih x3 ((x3 + (1 : Int32))) _ _ _ hF ok Z (lv_sub hl [2, 3, 1, 0] rfl)
              · rw [if_neg c5] at hF
                refine lv_aload_n hx hb dX4_earliestNotRecalled_63 rfl (lv_at hl 0 rfl) ?_
                refine kget Fc Z inX4 0 rfl rfl 0 (by decide) mF_RX4_10 rfl rfl dX4_earliestNotRecalled_64 ?_
                refine kgetN Fc Z inX2 1 rfl rfl 0 (by decide) nw_RX4_47 rfl rfl dX4_earliestNotRecalled_67 ?_
                refine lv_iload_n hx hb dX4_earliestNotRecalled_70 rfl (lv_at hl 3 rfl) ?_
                refine lv_bipush (v := (7 : Int32)) hx hb dX4_earliestNotRecalled_71 (by decide) ?_
                refine kr_i (As := [.int x3, .int (7 : Int32)]) Fc hA Z Lens.c0 (c_X3_get l D cI cS (ad 2) (ad 3) 20 12 (20 * 12) sh0 (τ.1 0) ok.1 x3 (7 : Int32) (tget 12 (τ.1 0) x3 (7 : Int32)) rfl) mL_RX4_88 v_X3_get ⟨rfl, rfl⟩ ⟨Nat.le_of_ble_eq_true rfl, Nat.le_of_ble_eq_true rfl⟩ ⟨Nat.zero_le _, Nat.zero_le _⟩ 2 3 rfl rfl rfl hl (Nat.le_of_ble_eq_true rfl) dX4_earliestNotRecalled_73 rfl (fun H locs Z => ?_)
                refine lv_aload_n hx hb dX4_earliestNotRecalled_76 rfl (lv_at hl 0 rfl) ?_
                refine kget Fc Z inX4 0 rfl rfl 0 (by decide) mF_RX4_10 rfl rfl dX4_earliestNotRecalled_77 ?_
                refine kgetN Fc Z inX2 1 rfl rfl 0 (by decide) nw_RX4_47 rfl rfl dX4_earliestNotRecalled_80 ?_
                refine lv_iload_n hx hb dX4_earliestNotRecalled_83 rfl (lv_at hl 2 rfl) ?_
                refine lv_bipush (v := (7 : Int32)) hx hb dX4_earliestNotRecalled_84 (by decide) ?_
                refine kr_i (As := [.int x2, .int (7 : Int32)]) Fc hA Z Lens.c0 (c_X3_get l D cI cS (ad 2) (ad 3) 20 12 (20 * 12) sh0 (τ.1 0) ok.1 x2 (7 : Int32) (tget 12 (τ.1 0) x2 (7 : Int32)) rfl) mL_RX4_88 v_X3_get ⟨rfl, rfl⟩ ⟨Nat.le_of_ble_eq_true rfl, Nat.le_of_ble_eq_true rfl⟩ ⟨Nat.zero_le _, Nat.zero_le _⟩ 2 3 rfl rfl rfl hl (Nat.le_of_ble_eq_true rfl) dX4_earliestNotRecalled_86 rfl (fun H locs Z => ?_)
                refine lv_icmp_ge (tgt := 94) hx hb dX4_earliestNotRecalled_89 (by decide) (fun c6 => ?_) (fun c6 => ?_)
                · rw [if_pos c6] at hF
                  refine lv_iinc (v := (x3 + (1 : Int32))) (lv' := [(3, .int (x3 + (1 : Int32))), (0, .ref (ad 0)), (1, .int x1), (2, .int x2)]) hx hb dX4_earliestNotRecalled_94 hl (k := 3) rfl (by rfl) (by decide) rfl (fun ls hl => ?_)
                  refine lv_goto (tgt := 5) hx hb dX4_earliestNotRecalled_97 (by decide) ?_
                  exact ih x2 ((x3 + (1 : Int32))) _ _ _ hF ok Z (lv_sub hl [1, 2, 3, 0] rfl)
                · rw [if_neg c6] at hF
                  refine lv_iload_n hx hb dX4_earliestNotRecalled_92 rfl (lv_at hl 3 rfl) ?_
                  refine lv_istore_n (lv' := [(2, .int x3), (0, .ref (ad 0)), (1, .int x1), (3, .int x3)]) hx hb dX4_earliestNotRecalled_93 rfl hl (by decide) rfl (fun ls hl => ?_)
                  refine lv_iinc (v := (x3 + (1 : Int32))) (lv' := [(3, .int (x3 + (1 : Int32))), (2, .int x3), (0, .ref (ad 0)), (1, .int x1)]) hx hb dX4_earliestNotRecalled_94 hl (k := 3) rfl (by rfl) (by decide) rfl (fun ls hl => ?_)
                  refine lv_goto (tgt := 5) hx hb dX4_earliestNotRecalled_97 (by decide) ?_
                  exact ih x3 ((x3 + (1 : Int32))) _ _ _ hF ok Z (lv_sub hl [2, 3, 1, 0] rfl)
            · rw [if_pos c4] at hF
              refine lv_goto (tgt := 94) hx hb dX4_earliestNotRecalled_54 (by decide) ?_
              refine lv_iinc (v := (x3 + (1 : Int32))) (lv' := [(3, .int (x3 + (1 : Int32))), (0, .ref (ad 0)), (1, .int x1), (2, .int x2)]) hx hb dX4_earliestNotRecalled_94 hl (k := 3) rfl (by rfl) (by decide) rfl (fun ls hl => ?_)
              refine lv_goto (tgt := 5) hx hb dX4_earliestNotRecalled_97 (by decide) ?_
              exact ih x2 ((x3 + (1 : Int32))) _ _ _ hF ok Z (lv_sub hl [1, 2, 3, 0] rfl)
  unfold X4_earliestNotRecalled at hF
  refine lv_bipush (v := (-2 : Int32)) hx hb dX4_earliestNotRecalled_0 (by decide) ?_
  refine lv_istore_n (lv' := [(2, .int (-2 : Int32)), (0, .ref (ad 0)), (1, .int p1)]) hx hb dX4_earliestNotRecalled_2 rfl hl (by decide) rfl (fun ls hl => ?_)
  refine lv_iconst (v := (0 : Int32)) hx hb dX4_earliestNotRecalled_3 (by decide) ?_
  refine lv_istore_n (lv' := [(3, .int (0 : Int32)), (2, .int (-2 : Int32)), (0, .ref (ad 0)), (1, .int p1)]) hx hb dX4_earliestNotRecalled_4 rfl hl (by decide) rfl (fun ls hl => ?_)
  exact L5 p1 FU (-2 : Int32) (0 : Int32) _ _ _ hF ok Z (lv_sub hl [2, 3, 1, 0] rfl)
def X4_endClaims_L2 : Nat → Int32 → St → Option (St)
  | 0, _, _ => none
  | k + 1, x1, τ => if (τ.1 0).1 ≤ x1 then (some τ) else if (X4_stateOf τ x1) = (4 : Int32) then (if (τ.2 - (tget 12 (τ.1 0) x1 (6 : Int32))) < (X4_valueOf τ (7 : Int32)) then (X4_endClaims_L2 k ((x1 + (1 : Int32))) τ) else bnd (X4_becomeLost τ x1) fun q4 => X4_endClaims_L2 k ((x1 + (1 : Int32))) q4) else X4_endClaims_L2 k ((x1 + (1 : Int32))) τ
def X4_endClaims (τ : St) : Option (St) := X4_endClaims_L2 FU (0 : Int32) τ
def rm_X4_endClaims : Room := { frames := 4, cells := 0, slots := 0, locals := 96 }
theorem v_X4_endClaims : WdV RX4 yX4_endClaims cX4_endClaims 2 none 0 := ⟨mI_X4_endClaims, mS_X4_endClaims, mZ_RX4, mC_X4_endClaims, by decide +kernel⟩
set_option maxHeartbeats 8000000 in
set_option maxRecDepth 100000 in
theorem c_X4_endClaims (l : Launch) (D : va_G) (cI cS : ClassId) (ad : Nat → Nat) (hs : Bool) (τ : St) (ok : OK τ) (F : St) (hF : X4_endClaims τ = some F) : MV l yX4_endClaims cX4_endClaims 2 rm_X4_endClaims D cI cS [.ref (ad 0)] (cW ad cI hs τ) (cW ad cI hs) (fun u => u = F ∧ OK u) := by
  refine MV.mk RX4 rfl (by decide) (Nat.le_of_ble_eq_true rfl) ?_
  intro p e s m args below meth c A Q ls Fc hin hA Z kret hl
  obtain ⟨hx, hb, hml, hown, hts, hKN⟩ := id Fc
  replace hl : lv_has ls 2 [(0, .ref (ad 0))] := hl
  replace Z := Z.anil
  have L2 : ∀ (k : Nat) (x1 : Int32) (τ : St) (H : Heap) (locs : List Loc) (ls : Array Slot), X4_endClaims_L2  k x1 τ = some F → OK τ → Ix D A s (cW ad cI hs τ ++ []) H locs → lv_has ls 2 [(0, .ref (ad 0)), (1, .int x1)] → W p l e rm_X4_endClaims s m args below meth c H locs 0 0 Q (F0 m 2 ls []) := by
    intro k
    induction k with
    | zero => intro x1 τ H locs ls hF; rw [X4_endClaims_L2] at hF; cases hF
    | succ k ih =>
      intro x1 τ H locs ls hF ok Z hl
      rw [X4_endClaims_L2] at hF
      refine lv_iload_n hx hb dX4_endClaims_2 rfl (lv_at hl 1 rfl) ?_
      refine lv_aload_n hx hb dX4_endClaims_3 rfl (lv_at hl 0 rfl) ?_
      refine kget Fc Z inX4 0 rfl rfl 0 (by decide) mF_RX4_10 rfl rfl dX4_endClaims_4 ?_
      refine kgetN Fc Z inX2 1 rfl rfl 0 (by decide) nw_RX4_47 rfl rfl dX4_endClaims_7 ?_
      refine kr_i (As := []) Fc hA Z Lens.c0 (c_X3_size l D cI cS (ad 2) (ad 3) 20 12 (20 * 12) sh0 (τ.1 0) ok.1  (τ.1 0).1 rfl) mL_RX4_92 v_X3_size ⟨rfl, rfl⟩ ⟨Nat.le_of_ble_eq_true rfl, Nat.le_of_ble_eq_true rfl⟩ ⟨Nat.zero_le _, Nat.zero_le _⟩ 2 3 rfl rfl rfl hl (Nat.le_of_ble_eq_true rfl) dX4_endClaims_10 rfl (fun H locs Z => ?_)
      refine lv_icmp_ge (tgt := 69) hx hb dX4_endClaims_13 (by decide) (fun c1 => ?_) (fun c1 => ?_)
      · rw [if_pos c1] at hF
        exact kret τ _ _ _ _ ⟨(Option.some.inj hF), ok⟩ Z.nila dX4_endClaims_69
      · rw [if_neg c1] at hF
        refine lv_aload_n hx hb dX4_endClaims_16 rfl (lv_at hl 0 rfl) ?_
        refine lv_iload_n hx hb dX4_endClaims_17 rfl (lv_at hl 1 rfl) ?_
        refine kr_i (As := [.int x1]) Fc hA Z (Lens.tail []) (c_X4_stateOf l D cI cS ad hs τ ok x1 (X4_stateOf τ x1) rfl) mL_RX4_95 v_X4_stateOf ⟨rfl, rfl⟩ ⟨Nat.le_of_ble_eq_true rfl, Nat.le_of_ble_eq_true rfl⟩ ⟨Nat.zero_le _, Nat.zero_le _⟩ 0 4 rfl rfl rfl hl (Nat.le_of_ble_eq_true rfl) dX4_endClaims_18 rfl (fun H locs Z => ?_)
        refine lv_iconst (v := (4 : Int32)) hx hb dX4_endClaims_21 (by decide) ?_
        refine lv_icmp_eq (tgt := 28) hx hb dX4_endClaims_22 (by decide) (fun c2 => ?_) (fun c2 => ?_)
        · rw [if_pos c2] at hF
          refine lv_aload_n hx hb dX4_endClaims_28 rfl (lv_at hl 0 rfl) ?_
          refine kget Fc Z inX4 0 rfl rfl 0 (by decide) mF_RX4_10 rfl rfl dX4_endClaims_29 ?_
          refine kgetN Fc Z inX2 1 rfl rfl 5 (by decide) nw_RX4_98 rfl rfl dX4_endClaims_32 ?_
          refine lv_aload_n hx hb dX4_endClaims_35 rfl (lv_at hl 0 rfl) ?_
          refine kget Fc Z inX4 0 rfl rfl 0 (by decide) mF_RX4_10 rfl rfl dX4_endClaims_36 ?_
          refine kgetN Fc Z inX2 1 rfl rfl 0 (by decide) nw_RX4_47 rfl rfl dX4_endClaims_39 ?_
          refine lv_iload_n hx hb dX4_endClaims_42 rfl (lv_at hl 1 rfl) ?_
          refine lv_bipush (v := (6 : Int32)) hx hb dX4_endClaims_43 (by decide) ?_
          refine kr_i (As := [.int x1, .int (6 : Int32)]) Fc hA Z Lens.c0 (c_X3_get l D cI cS (ad 2) (ad 3) 20 12 (20 * 12) sh0 (τ.1 0) ok.1 x1 (6 : Int32) (tget 12 (τ.1 0) x1 (6 : Int32)) rfl) mL_RX4_88 v_X3_get ⟨rfl, rfl⟩ ⟨Nat.le_of_ble_eq_true rfl, Nat.le_of_ble_eq_true rfl⟩ ⟨Nat.zero_le _, Nat.zero_le _⟩ 2 3 rfl rfl rfl hl (Nat.le_of_ble_eq_true rfl) dX4_endClaims_45 rfl (fun H locs Z => ?_)
          refine lv_isub hx hb dX4_endClaims_48 ?_
          refine lv_aload_n hx hb dX4_endClaims_49 rfl (lv_at hl 0 rfl) ?_
          refine lv_bipush (v := (7 : Int32)) hx hb dX4_endClaims_50 (by decide) ?_
          refine kr_i (As := [.int (7 : Int32)]) Fc hA Z (Lens.tail []) (c_X4_valueOf l D cI cS ad hs τ ok (7 : Int32) (X4_valueOf τ (7 : Int32)) rfl) mL_RX4_82 v_X4_valueOf ⟨rfl, rfl⟩ ⟨Nat.le_of_ble_eq_true rfl, Nat.le_of_ble_eq_true rfl⟩ ⟨Nat.zero_le _, Nat.zero_le _⟩ 0 4 rfl rfl rfl hl (Nat.le_of_ble_eq_true rfl) dX4_endClaims_52 rfl (fun H locs Z => ?_)
          refine lv_icmp_lt (tgt := 63) hx hb dX4_endClaims_55 (by decide) (fun c3 => ?_) (fun c3 => ?_)
          · rw [if_pos c3] at hF
            refine lv_iinc (v := (x1 + (1 : Int32))) (lv' := [(1, .int (x1 + (1 : Int32))), (0, .ref (ad 0))]) hx hb dX4_endClaims_63 hl (k := 1) rfl (by rfl) (by decide) rfl (fun ls hl => ?_)
            refine lv_goto (tgt := 2) hx hb dX4_endClaims_66 (by decide) ?_
            exact ih ((x1 + (1 : Int32))) τ _ _ _ hF ok Z (lv_sub hl [1, 0] rfl)
          · rw [if_neg c3] at hF
            refine lv_aload_n hx hb dX4_endClaims_58 rfl (lv_at hl 0 rfl) ?_
            refine lv_iload_n hx hb dX4_endClaims_59 rfl (lv_at hl 1 rfl) ?_
            obtain ⟨q4, e5, hF⟩ := bnd_el hF
            refine kv_i (As := [.int x1]) (ok := OK) Fc hA Z (Lens.tail []) (c_X4_becomeLost l D cI cS ad hs τ ok x1 q4 e5.symm) mL_RX4_128 v_X4_becomeLost ⟨rfl, rfl⟩ ⟨Nat.le_of_ble_eq_true rfl, Nat.le_of_ble_eq_true rfl⟩ ⟨Nat.zero_le _, Nat.zero_le _⟩ 0 4 rfl rfl rfl hl (Nat.le_of_ble_eq_true rfl) dX4_endClaims_60 rfl (fun H locs ok1 Z => ?_)
            have ok := ok1
            refine lv_iinc (v := (x1 + (1 : Int32))) (lv' := [(1, .int (x1 + (1 : Int32))), (0, .ref (ad 0))]) hx hb dX4_endClaims_63 hl (k := 1) rfl (by rfl) (by decide) rfl (fun ls hl => ?_)
            refine lv_goto (tgt := 2) hx hb dX4_endClaims_66 (by decide) ?_
            exact ih ((x1 + (1 : Int32))) q4 _ _ _ hF ok Z (lv_sub hl [1, 0] rfl)
        · rw [if_neg c2] at hF
          refine lv_goto (tgt := 63) hx hb dX4_endClaims_25 (by decide) ?_
          refine lv_iinc (v := (x1 + (1 : Int32))) (lv' := [(1, .int (x1 + (1 : Int32))), (0, .ref (ad 0))]) hx hb dX4_endClaims_63 hl (k := 1) rfl (by rfl) (by decide) rfl (fun ls hl => ?_)
          refine lv_goto (tgt := 2) hx hb dX4_endClaims_66 (by decide) ?_
          exact ih ((x1 + (1 : Int32))) τ _ _ _ hF ok Z (lv_sub hl [1, 0] rfl)
  unfold X4_endClaims at hF
  refine lv_iconst (v := (0 : Int32)) hx hb dX4_endClaims_0 (by decide) ?_
  refine lv_istore_n (lv' := [(1, .int (0 : Int32)), (0, .ref (ad 0))]) hx hb dX4_endClaims_1 rfl hl (by decide) rfl (fun ls hl => ?_)
  exact L2  FU (0 : Int32) τ _ _ _ hF ok Z (lv_sub hl [1, 0] rfl)
def X4_expectedDay (τ : St) (p1 p2 : Int32) : Int32 := if (X4_titleOf τ p1) = p2 then (if (X4_stateOf τ p1) = (1 : Int32) then ((jmax ((tget 12 (τ.1 0) p1 (6 : Int32))) τ.2)) else if (X4_stateOf τ p1) = (2 : Int32) then (if (tget 12 (τ.1 0) p1 (5 : Int32)) = (-2 : Int32) then ((tget 12 (τ.1 0) p1 (6 : Int32))) else (-2 : Int32)) else (-2 : Int32)) else (-2 : Int32)
def rm_X4_expectedDay : Room := { frames := 2, cells := 0, slots := 0, locals := 44 }
theorem v_X4_expectedDay : WdV RX4 yX4_expectedDay cX4_expectedDay 4 (some .int) 2 := ⟨mI_X4_expectedDay, mS_X4_expectedDay, mZ_RX4, mC_X4_expectedDay, by decide +kernel⟩
set_option maxHeartbeats 8000000 in
set_option maxRecDepth 100000 in
theorem c_X4_expectedDay (l : Launch) (D : va_G) (cI cS : ClassId) (ad : Nat → Nat) (hs : Bool) (τ : St) (ok : OK τ) (p1 p2 : Int32) (F : Int32) (hF : X4_expectedDay τ p1 p2 = F) : MI l yX4_expectedDay cX4_expectedDay 4 (some .int) rm_X4_expectedDay D cI cS [.ref (ad 0), .int p1, .int p2] (cW ad cI hs τ) (cW ad cI hs) (fun r u' => r = F ∧ u' = τ) := by
  refine MI.mk RX4 rfl .int rfl (by decide) (Nat.le_of_ble_eq_true rfl) (fun _ _ _ => rfl) ?_
  intro p e s m args below meth c A Q ls Fc hin hA Z kret hl
  obtain ⟨hx, hb, hml, hown, hts, hKN⟩ := id Fc
  replace hl : lv_has ls 4 [(0, .ref (ad 0)), (1, .int p1), (2, .int p2)] := hl
  replace Z := Z.anil
  unfold X4_expectedDay at hF
  refine lv_aload_n hx hb dX4_expectedDay_0 rfl (lv_at hl 0 rfl) ?_
  refine lv_iload_n hx hb dX4_expectedDay_1 rfl (lv_at hl 1 rfl) ?_
  refine kr_i (As := [.int p1]) Fc hA Z (Lens.tail []) (c_X4_titleOf l D cI cS ad hs τ ok p1 (X4_titleOf τ p1) rfl) mL_RX4_118 v_X4_titleOf ⟨rfl, rfl⟩ ⟨Nat.le_of_ble_eq_true rfl, Nat.le_of_ble_eq_true rfl⟩ ⟨Nat.zero_le _, Nat.zero_le _⟩ 0 4 rfl rfl rfl hl (Nat.le_of_ble_eq_true rfl) dX4_expectedDay_2 rfl (fun H locs Z => ?_)
  refine lv_iload_n hx hb dX4_expectedDay_5 rfl (lv_at hl 2 rfl) ?_
  refine lv_icmp_eq (tgt := 12) hx hb dX4_expectedDay_6 (by decide) (fun c1 => ?_) (fun c1 => ?_)
  · rw [if_pos c1] at hF
    refine lv_aload_n hx hb dX4_expectedDay_12 rfl (lv_at hl 0 rfl) ?_
    refine kget Fc Z inX4 0 rfl rfl 0 (by decide) mF_RX4_10 rfl rfl dX4_expectedDay_13 ?_
    refine kgetN Fc Z inX2 1 rfl rfl 0 (by decide) nw_RX4_47 rfl rfl dX4_expectedDay_16 ?_
    refine lv_iload_n hx hb dX4_expectedDay_19 rfl (lv_at hl 1 rfl) ?_
    refine lv_bipush (v := (6 : Int32)) hx hb dX4_expectedDay_20 (by decide) ?_
    refine kr_i (As := [.int p1, .int (6 : Int32)]) Fc hA Z Lens.c0 (c_X3_get l D cI cS (ad 2) (ad 3) 20 12 (20 * 12) sh0 (τ.1 0) ok.1 p1 (6 : Int32) (tget 12 (τ.1 0) p1 (6 : Int32)) rfl) mL_RX4_88 v_X3_get ⟨rfl, rfl⟩ ⟨Nat.le_of_ble_eq_true rfl, Nat.le_of_ble_eq_true rfl⟩ ⟨Nat.zero_le _, Nat.zero_le _⟩ 2 3 rfl rfl rfl hl (Nat.le_of_ble_eq_true rfl) dX4_expectedDay_22 rfl (fun H locs Z => ?_)
    refine lv_istore_n (lv' := [(3, .int (tget 12 (τ.1 0) p1 (6 : Int32))), (0, .ref (ad 0)), (1, .int p1), (2, .int p2)]) hx hb dX4_expectedDay_25 rfl hl (by decide) rfl (fun ls hl => ?_)
    refine lv_aload_n hx hb dX4_expectedDay_26 rfl (lv_at hl 1 rfl) ?_
    refine lv_iload_n hx hb dX4_expectedDay_27 rfl (lv_at hl 2 rfl) ?_
    refine kr_i (As := [.int p1]) Fc hA Z (Lens.tail []) (c_X4_stateOf l D cI cS ad hs τ ok p1 (X4_stateOf τ p1) rfl) mL_RX4_95 v_X4_stateOf ⟨rfl, rfl⟩ ⟨Nat.le_of_ble_eq_true rfl, Nat.le_of_ble_eq_true rfl⟩ ⟨Nat.zero_le _, Nat.zero_le _⟩ 0 4 rfl rfl rfl hl (Nat.le_of_ble_eq_true rfl) dX4_expectedDay_28 rfl (fun H locs Z => ?_)
    refine lv_iconst (v := (1 : Int32)) hx hb dX4_expectedDay_31 (by decide) ?_
    refine lv_icmp_ne (tgt := 47) hx hb dX4_expectedDay_32 (by decide) (fun c2 => ?_) (fun c2 => ?_)
    · rw [if_neg c2] at hF
      refine lv_aload_n hx hb dX4_expectedDay_47 rfl (lv_at hl 1 rfl) ?_
      refine lv_iload_n hx hb dX4_expectedDay_48 rfl (lv_at hl 2 rfl) ?_
      refine kr_i (As := [.int p1]) Fc hA Z (Lens.tail []) (c_X4_stateOf l D cI cS ad hs τ ok p1 (X4_stateOf τ p1) rfl) mL_RX4_95 v_X4_stateOf ⟨rfl, rfl⟩ ⟨Nat.le_of_ble_eq_true rfl, Nat.le_of_ble_eq_true rfl⟩ ⟨Nat.zero_le _, Nat.zero_le _⟩ 0 4 rfl rfl rfl hl (Nat.le_of_ble_eq_true rfl) dX4_expectedDay_49 rfl (fun H locs Z => ?_)
      refine lv_iconst (v := (2 : Int32)) hx hb dX4_expectedDay_52 (by decide) ?_
      refine lv_icmp_ne (tgt := 77) hx hb dX4_expectedDay_53 (by decide) (fun c3 => ?_) (fun c3 => ?_)
      · rw [if_neg c3] at hF
        refine lv_bipush (v := (-2 : Int32)) hx hb dX4_expectedDay_77 (by decide) ?_
        exact kret (-2 : Int32) τ _ _ _ _ ⟨hF, rfl⟩ Z.nila dX4_expectedDay_79
      · rw [if_pos c3] at hF
        refine lv_aload_n hx hb dX4_expectedDay_56 rfl (lv_at hl 1 rfl) ?_
        refine kget Fc Z inX4 0 rfl rfl 0 (by decide) mF_RX4_10 rfl rfl dX4_expectedDay_57 ?_
        refine kgetN Fc Z inX2 1 rfl rfl 0 (by decide) nw_RX4_47 rfl rfl dX4_expectedDay_60 ?_
        refine lv_iload_n hx hb dX4_expectedDay_63 rfl (lv_at hl 2 rfl) ?_
        refine lv_iconst (v := (5 : Int32)) hx hb dX4_expectedDay_64 (by decide) ?_
        refine kr_i (As := [.int p1, .int (5 : Int32)]) Fc hA Z Lens.c0 (c_X3_get l D cI cS (ad 2) (ad 3) 20 12 (20 * 12) sh0 (τ.1 0) ok.1 p1 (5 : Int32) (tget 12 (τ.1 0) p1 (5 : Int32)) rfl) mL_RX4_88 v_X3_get ⟨rfl, rfl⟩ ⟨Nat.le_of_ble_eq_true rfl, Nat.le_of_ble_eq_true rfl⟩ ⟨Nat.zero_le _, Nat.zero_le _⟩ 2 3 rfl rfl rfl hl (Nat.le_of_ble_eq_true rfl) dX4_expectedDay_65 rfl (fun H locs Z => ?_)
        refine lv_bipush (v := (-2 : Int32)) hx hb dX4_expectedDay_68 (by decide) ?_
        refine lv_icmp_ne (tgt := 77) hx hb dX4_expectedDay_70 (by decide) (fun c4 => ?_) (fun c4 => ?_)
        · rw [if_neg c4] at hF
          refine lv_bipush (v := (-2 : Int32)) hx hb dX4_expectedDay_77 (by decide) ?_
          exact kret (-2 : Int32) τ _ _ _ _ ⟨hF, rfl⟩ Z.nila dX4_expectedDay_79
        · rw [if_pos c4] at hF
          refine lv_iload_n hx hb dX4_expectedDay_73 rfl (lv_at hl 0 rfl) ?_
          refine lv_goto (tgt := 79) hx hb dX4_expectedDay_74 (by decide) ?_
          exact kret ((tget 12 (τ.1 0) p1 (6 : Int32))) τ _ _ _ _ ⟨hF, rfl⟩ Z.nila dX4_expectedDay_79
    · rw [if_pos c2] at hF
      refine lv_iload_n hx hb dX4_expectedDay_35 rfl (lv_at hl 0 rfl) ?_
      refine lv_aload_n hx hb dX4_expectedDay_36 rfl (lv_at hl 1 rfl) ?_
      refine kget Fc Z inX4 0 rfl rfl 0 (by decide) mF_RX4_10 rfl rfl dX4_expectedDay_37 ?_
      refine kgetN Fc Z inX2 1 rfl rfl 5 (by decide) nw_RX4_98 rfl rfl dX4_expectedDay_40 ?_
      refine kmax Fc hl mL_RX4_222 (Nat.le_of_ble_eq_true rfl) (Nat.le_of_ble_eq_true rfl) ⟨Nat.zero_le _, Nat.zero_le _⟩ dX4_expectedDay_43 ?_
      exact kret ((jmax ((tget 12 (τ.1 0) p1 (6 : Int32))) τ.2)) τ _ _ _ _ ⟨hF, rfl⟩ Z.nila dX4_expectedDay_46
  · rw [if_neg c1] at hF
    refine lv_bipush (v := (-2 : Int32)) hx hb dX4_expectedDay_9 (by decide) ?_
    exact kret (-2 : Int32) τ _ _ _ _ ⟨hF, rfl⟩ Z.nila dX4_expectedDay_11
def X4_expectedBefore_L6 (τ : St) (x1 : Int32) (x2 : Int32) (x3 : Int32) : Nat → Int32 → Int32 → Option (Int32)
  | 0, _, _ => none
  | k + 1, x4, x5 => if (τ.1 0).1 ≤ x5 then (some x4) else if (X4_expectedDay τ x5 x3) = (-2 : Int32) then (X4_expectedBefore_L6 τ x1 x2 x3 k x4 ((x5 + (1 : Int32)))) else if (bi (X4_isBefore (X4_expectedDay τ x5 x3) x5 x1 x2)) = 0 then (X4_expectedBefore_L6 τ x1 x2 x3 k x4 ((x5 + (1 : Int32)))) else X4_expectedBefore_L6 τ x1 x2 x3 k ((x4 + (1 : Int32))) ((x5 + (1 : Int32)))
def X4_expectedBefore (τ : St) (p1 p2 p3 : Int32) : Option (Int32) := X4_expectedBefore_L6 τ p1 p2 p3 FU (0 : Int32) (0 : Int32)
def rm_X4_expectedBefore : Room := { frames := 3, cells := 0, slots := 0, locals := 67 }
theorem v_X4_expectedBefore : WdV RX4 yX4_expectedBefore cX4_expectedBefore 7 (some .int) 3 := ⟨mI_X4_expectedBefore, mS_X4_expectedBefore, mZ_RX4, mC_X4_expectedBefore, by decide +kernel⟩
set_option maxHeartbeats 8000000 in
set_option maxRecDepth 100000 in
theorem c_X4_expectedBefore (l : Launch) (D : va_G) (cI cS : ClassId) (ad : Nat → Nat) (hs : Bool) (τ : St) (ok : OK τ) (p1 p2 p3 : Int32) (F : Int32) (hF : X4_expectedBefore τ p1 p2 p3 = some F) : MI l yX4_expectedBefore cX4_expectedBefore 7 (some .int) rm_X4_expectedBefore D cI cS [.ref (ad 0), .int p1, .int p2, .int p3] (cW ad cI hs τ) (cW ad cI hs) (fun r u' => r = F ∧ u' = τ) := by
  refine MI.mk RX4 rfl .int rfl (by decide) (Nat.le_of_ble_eq_true rfl) (fun _ _ _ => rfl) ?_
  intro p e s m args below meth c A Q ls Fc hin hA Z kret hl
  obtain ⟨hx, hb, hml, hown, hts, hKN⟩ := id Fc
  replace hl : lv_has ls 7 [(0, .ref (ad 0)), (1, .int p1), (2, .int p2), (3, .int p3)] := hl
  replace Z := Z.anil
  have L6 : ∀ (x1 : Int32) (x2 : Int32) (x3 : Int32) (k : Nat) (x4 : Int32) (x5 : Int32) (H : Heap) (locs : List Loc) (ls : Array Slot), X4_expectedBefore_L6 τ x1 x2 x3  k x4 x5 = some F → OK τ → Ix D A s (cW ad cI hs τ ++ []) H locs → lv_has ls 7 [(0, .ref (ad 0)), (1, .int x1), (2, .int x2), (3, .int x3), (4, .int x4), (5, .int x5)] → W p l e rm_X4_expectedBefore s m args below meth c H locs 0 0 Q (F0 m 6 ls []) := by
    intro x1 x2 x3 k
    induction k with
    | zero => intro x4 x5 H locs ls hF; rw [X4_expectedBefore_L6] at hF; cases hF
    | succ k ih =>
      intro x4 x5 H locs ls hF ok Z hl
      rw [X4_expectedBefore_L6] at hF
      refine lv_iload hx hb dX4_expectedBefore_6 (lv_at hl 5 rfl) ?_
      refine lv_aload_n hx hb dX4_expectedBefore_8 rfl (lv_at hl 0 rfl) ?_
      refine kget Fc Z inX4 0 rfl rfl 0 (by decide) mF_RX4_10 rfl rfl dX4_expectedBefore_9 ?_
      refine kgetN Fc Z inX2 1 rfl rfl 0 (by decide) nw_RX4_47 rfl rfl dX4_expectedBefore_12 ?_
      refine kr_i (As := []) Fc hA Z Lens.c0 (c_X3_size l D cI cS (ad 2) (ad 3) 20 12 (20 * 12) sh0 (τ.1 0) ok.1  (τ.1 0).1 rfl) mL_RX4_92 v_X3_size ⟨rfl, rfl⟩ ⟨Nat.le_of_ble_eq_true rfl, Nat.le_of_ble_eq_true rfl⟩ ⟨Nat.zero_le _, Nat.zero_le _⟩ 2 3 rfl rfl rfl hl (Nat.le_of_ble_eq_true rfl) dX4_expectedBefore_15 rfl (fun H locs Z => ?_)
      refine lv_icmp_ge (tgt := 58) hx hb dX4_expectedBefore_18 (by decide) (fun c1 => ?_) (fun c1 => ?_)
      · rw [if_pos c1] at hF
        refine lv_iload hx hb dX4_expectedBefore_58 (lv_at hl 4 rfl) ?_
        exact kret x4 τ _ _ _ _ ⟨(Option.some.inj hF), rfl⟩ Z.nila dX4_expectedBefore_60
      · rw [if_neg c1] at hF
        refine lv_aload_n hx hb dX4_expectedBefore_21 rfl (lv_at hl 0 rfl) ?_
        refine lv_iload hx hb dX4_expectedBefore_22 (lv_at hl 5 rfl) ?_
        refine lv_iload_n hx hb dX4_expectedBefore_24 rfl (lv_at hl 3 rfl) ?_
        refine kr_i (As := [.int x5, .int x3]) Fc hA Z (Lens.tail []) (c_X4_expectedDay l D cI cS ad hs τ ok x5 x3 (X4_expectedDay τ x5 x3) rfl) mL_RX4_216 v_X4_expectedDay ⟨rfl, rfl⟩ ⟨Nat.le_of_ble_eq_true rfl, Nat.le_of_ble_eq_true rfl⟩ ⟨Nat.zero_le _, Nat.zero_le _⟩ 0 4 rfl rfl rfl hl (Nat.le_of_ble_eq_true rfl) dX4_expectedBefore_25 rfl (fun H locs Z => ?_)
        refine lv_istore (lv' := [(6, .int (X4_expectedDay τ x5 x3)), (0, .ref (ad 0)), (1, .int x1), (2, .int x2), (3, .int x3), (4, .int x4), (5, .int x5)]) hx hb dX4_expectedBefore_28 hl (by decide) rfl (fun ls hl => ?_)
        refine lv_iload hx hb dX4_expectedBefore_30 (lv_at hl 0 rfl) ?_
        refine lv_bipush (v := (-2 : Int32)) hx hb dX4_expectedBefore_32 (by decide) ?_
        refine lv_icmp_eq (tgt := 52) hx hb dX4_expectedBefore_34 (by decide) (fun c2 => ?_) (fun c2 => ?_)
        · rw [if_pos c2] at hF
          refine lv_iinc (v := (x5 + (1 : Int32))) (lv' := [(5, .int (x5 + (1 : Int32))), (6, .int (X4_expectedDay τ x5 x3)), (0, .ref (ad 0)), (1, .int x1), (2, .int x2), (3, .int x3), (4, .int x4)]) hx hb dX4_expectedBefore_52 hl (k := 6) rfl (by rfl) (by decide) rfl (fun ls hl => ?_)
          refine lv_goto (tgt := 6) hx hb dX4_expectedBefore_55 (by decide) ?_
          exact ih x4 ((x5 + (1 : Int32))) _ _ _ hF ok Z (lv_sub hl [2, 3, 4, 5, 6, 0] rfl)
        · rw [if_neg c2] at hF
          refine lv_iload hx hb dX4_expectedBefore_37 (lv_at hl 0 rfl) ?_
          refine lv_iload hx hb dX4_expectedBefore_39 (lv_at hl 6 rfl) ?_
          refine lv_iload_n hx hb dX4_expectedBefore_41 rfl (lv_at hl 2 rfl) ?_
          refine lv_iload_n hx hb dX4_expectedBefore_42 rfl (lv_at hl 3 rfl) ?_
          refine ks_i (As := [.int (X4_expectedDay τ x5 x3), .int x5, .int x1, .int x2]) Fc hA Z (c_X4_isBefore l D cI cS (X4_expectedDay τ x5 x3) x5 x1 x2 (X4_isBefore (X4_expectedDay τ x5 x3) x5 x1 x2) rfl) mL_RX4_227 v_X4_isBefore ⟨rfl, rfl⟩ ⟨Nat.le_of_ble_eq_true rfl, Nat.le_of_ble_eq_true rfl⟩ ⟨Nat.zero_le _, Nat.zero_le _⟩ rfl hl (Nat.le_of_ble_eq_true rfl) dX4_expectedBefore_43 rfl (fun H locs Z => ?_)
          refine lv_if_eq (tgt := 52) hx hb dX4_expectedBefore_46 (by decide) (fun c3 => ?_) (fun c3 => ?_)
          · rw [if_pos c3] at hF
            refine lv_iinc (v := (x5 + (1 : Int32))) (lv' := [(5, .int (x5 + (1 : Int32))), (6, .int (X4_expectedDay τ x5 x3)), (0, .ref (ad 0)), (1, .int x1), (2, .int x2), (3, .int x3), (4, .int x4)]) hx hb dX4_expectedBefore_52 hl (k := 6) rfl (by rfl) (by decide) rfl (fun ls hl => ?_)
            refine lv_goto (tgt := 6) hx hb dX4_expectedBefore_55 (by decide) ?_
            exact ih x4 ((x5 + (1 : Int32))) _ _ _ hF ok Z (lv_sub hl [2, 3, 4, 5, 6, 0] rfl)
          · rw [if_neg c3] at hF
            refine lv_iinc (v := (x4 + (1 : Int32))) (lv' := [(4, .int (x4 + (1 : Int32))), (6, .int (X4_expectedDay τ x5 x3)), (0, .ref (ad 0)), (1, .int x1), (2, .int x2), (3, .int x3), (5, .int x5)]) hx hb dX4_expectedBefore_49 hl (k := 5) rfl (by rfl) (by decide) rfl (fun ls hl => ?_)
            refine lv_iinc (v := (x5 + (1 : Int32))) (lv' := [(5, .int (x5 + (1 : Int32))), (4, .int (x4 + (1 : Int32))), (6, .int (X4_expectedDay τ x5 x3)), (0, .ref (ad 0)), (1, .int x1), (2, .int x2), (3, .int x3)]) hx hb dX4_expectedBefore_52 hl (k := 6) rfl (by rfl) (by decide) rfl (fun ls hl => ?_)
            refine lv_goto (tgt := 6) hx hb dX4_expectedBefore_55 (by decide) ?_
            exact ih ((x4 + (1 : Int32))) ((x5 + (1 : Int32))) _ _ _ hF ok Z (lv_sub hl [3, 4, 5, 6, 1, 0] rfl)
  unfold X4_expectedBefore at hF
  refine lv_iconst (v := (0 : Int32)) hx hb dX4_expectedBefore_0 (by decide) ?_
  refine lv_istore (lv' := [(4, .int (0 : Int32)), (0, .ref (ad 0)), (1, .int p1), (2, .int p2), (3, .int p3)]) hx hb dX4_expectedBefore_1 hl (by decide) rfl (fun ls hl => ?_)
  refine lv_iconst (v := (0 : Int32)) hx hb dX4_expectedBefore_3 (by decide) ?_
  refine lv_istore (lv' := [(5, .int (0 : Int32)), (4, .int (0 : Int32)), (0, .ref (ad 0)), (1, .int p1), (2, .int p2), (3, .int p3)]) hx hb dX4_expectedBefore_4 hl (by decide) rfl (fun ls hl => ?_)
  exact L6 p1 p2 p3 FU (0 : Int32) (0 : Int32) _ _ _ hF ok Z (lv_sub hl [2, 3, 4, 5, 1, 0] rfl)
