/-! THE CONSTRUCTORS -/
def tab0 : Tab := (0, fun _ => 0)
def rm_X3_init (cap cols : Nat) : Room := { frames := 1, cells := 1, slots := cap * cols, locals := 30 }
set_option maxHeartbeats 8000000 in
set_option maxRecDepth 100000 in
theorem c_X3_init (tF tL tH : Nat) (l : Launch) (D : va_G) (cI cS : ClassId) (t cap cols : Nat) (h1 : cap ≤ 100) (h2 : cols ≤ 100) : MVE tF tL tH l yX3_init cX3_init 3 (rm_X3_init cap cols) D cI cS [.ref t, .int (nI cap), .int (nI cols)] [(t, .inr (3, [.int 0, .int 0, .null, .int 0]))] (fun a : Nat => tbW t a cI cap cols (cap * cols) tab0) (fun _ => True) 1 (cap * cols) := by
  have hsm := tsm h1 h2
  refine MVE.mk RX3 rfl (by decide) (Nat.le_of_ble_eq_true rfl) ?_
  intro p e s m args below meth c A Q ls Fc hin hE hA Z kret hl
  obtain ⟨hx, hb, hml, hown, hts, hKN⟩ := id Fc
  replace hl : lv_has ls 3 [(0, .ref t), (1, .int (nI cap)), (2, .int (nI cols))] := hl
  refine lv_aload_n hx hb dX3_init_0 rfl (lv_at hl 0 rfl) ?_
  refine kobj Fc hl mL_RX3_3 (Nat.le_of_ble_eq_true rfl) (Nat.le_of_ble_eq_true rfl) dX3_init_1 ?_
  refine lv_aload_n hx hb dX3_init_4 rfl (lv_at hl 0 rfl) ?_
  refine lv_iconst (v := (0 : Int32)) hx hb dX3_init_5 (by decide) ?_
  refine kput (v := .int 0) (ty := .int) (w' := [(t, .inr (3, [.int 0, .int 0, .null, .int 0]))]) Fc Z inX3 tyX3 tyX3_ok nmX3 0 rfl rfl 3 (by decide) mF_RX3_9 rfl rfl rfl rfl rfl (Nat.le_of_ble_eq_true rfl) rfl dX3_init_6 (fun H locs Z => ?_)
  refine lv_aload_n hx hb dX3_init_9 rfl (lv_at hl 0 rfl) ?_
  refine lv_iload_n hx hb dX3_init_10 rfl (lv_at hl 1 rfl) ?_
  refine kputF (v := .int (nI cap)) (ty := .int) (w' := [(t, .inr (3, [.int (nI cap), .int 0, .null, .int 0]))]) Fc hin Z inX3 tyX3 tyX3_ok nmX3 0 rfl rfl 0 (by decide) mF_RX3_15 rfl rfl rfl rfl rfl rfl (Nat.le_of_ble_eq_true rfl) rfl dX3_init_11 (fun H locs Z => ?_)
  refine lv_aload_n hx hb dX3_init_14 rfl (lv_at hl 0 rfl) ?_
  refine lv_iload_n hx hb dX3_init_15 rfl (lv_at hl 2 rfl) ?_
  refine kputF (v := .int (nI cols)) (ty := .int) (w' := [(t, .inr (3, [.int (nI cap), .int (nI cols), .null, .int 0]))]) Fc hin Z inX3 tyX3 tyX3_ok nmX3 0 rfl rfl 1 (by decide) mF_RX3_18 rfl rfl rfl rfl rfl rfl (Nat.le_of_ble_eq_true rfl) rfl dX3_init_16 (fun H locs Z => ?_)
  refine lv_aload_n hx hb dX3_init_19 rfl (lv_at hl 0 rfl) ?_
  refine lv_iconst (v := (0 : Int32)) hx hb dX3_init_20 (by decide) ?_
  refine lv_iload_n hx hb dX3_init_21 rfl (lv_at hl 1 rfl) ?_
  refine lv_iload_n hx hb dX3_init_22 rfl (lv_at hl 2 rfl) ?_
  refine lv_imul hx hb dX3_init_23 ?_
  refine kmax Fc hl mL_RX3_21 (Nat.le_of_ble_eq_true rfl) (Nat.le_of_ble_eq_true rfl) ⟨Nat.zero_le _, Nat.zero_le _⟩ dX3_init_24 ?_
  have ej : jmax 0 (nI cap * nI cols) = nI (cap * cols) := by
    rw [pk_mul]
    unfold jmax
    by_cases h0 : cap * cols = 0
    · rw [h0]; rfl
    · rw [if_pos (show (0 : Int32) < nI (cap * cols) from by rw [← nI_0]; exact nI_lt (by omega) (by omega))]
  rw [ej]
  refine knewa (N' := cap * cols) Fc hA Z (nI_pos (by omega)) (nI_clamp (by omega)) (by omega) (Nat.le_refl _) (by show 0 + cap * cols ≤ cap * cols; omega) dX3_init_27 (fun a H Z => ?_)
  refine kputF (v := .ref a) (ty := .array .int) (w' := tbW t a cI cap cols (cap * cols) tab0) Fc hin Z inX3 tyX3 tyX3_ok nmX3 0 rfl rfl 2 (by decide) mF_RX3_27 rfl rfl rfl rfl rfl rfl (Nat.le_of_ble_eq_true rfl) rfl dX3_init_29 (fun H locs Z => ?_)
  exact kret a _ _ _ _ _ _ (Nat.le_refl _) (by omega) trivial Z dX3_init_32
def sIni : Nat → Tab
  | 0 => tab0
  | k + 1 => tput 1 (tadd 8 1 (sIni k)).2 (tadd 8 1 (sIni k)).1 0 (vF k)
def st0 : St := (fun j => if j = 4 then sIni 8 else tab0, 0)
def rm_X2_init : Room := { frames := 2, cells := 10, slots := 696, locals := 60 }
set_option maxHeartbeats 8000000 in
set_option maxRecDepth 100000 in
theorem c_X2_init (tF tL tH : Nat) (l : Launch) (D : va_G) (cI cS : ClassId) (x : Nat) : MVE tF tL tH l yX2_init cX2_init 2 rm_X2_init D cI cS [.ref x] [(x, .inr (2, [.null, .null, .null, .null, .null, .int 0]))] (fun sd : Nat → Nat => stW sd 0 cI st0) (fun sd => sd 0 = x) 10 696 := by
  refine MVE.mk RX2 rfl (by decide) (Nat.le_of_ble_eq_true rfl) ?_
  intro p e s m args below meth c A Q ls Fc hin hE hA Z kret hl
  obtain ⟨hx, hb, hml, hown, hts, hKN⟩ := id Fc
  replace hl : lv_has ls 2 [(0, .ref x)] := hl
  refine lv_aload_n hx hb dX2_init_0 rfl (lv_at hl 0 rfl) ?_
  refine kobj Fc hl mL_RX2_3 (Nat.le_of_ble_eq_true rfl) (Nat.le_of_ble_eq_true rfl) dX2_init_1 ?_
  refine lv_aload_n hx hb dX2_init_4 rfl (lv_at hl 0 rfl) ?_
  refine knew (fs := [.int 0, .int 0, .null, .int 0]) Fc hA Z inX3 tyX3 tyX3_ok mN_RX2_9 mB_RX3 mZ_RX3 (ci := 3) rfl (fun j hj => by rcases (show j = 0 ∨ j = 1 ∨ j = 2 ∨ j = 3 by omega) with rfl | rfl | rfl | rfl <;> rfl) (Nat.le_of_ble_eq_true rfl) (Nat.le_of_ble_eq_true rfl) dX2_init_5 (fun t0 H Z => ?_)
  refine lv_dup hx hb dX2_init_8 rfl ?_
  refine lv_bipush (v := nI 20) hx hb dX2_init_9 (by decide) ?_
  refine lv_bipush (v := nI 12) hx hb dX2_init_11 (by decide) ?_
  refine kci (As := [.int (nI 20), .int (nI 12)]) (wr := [(x, .inr (2, [.null, .null, .null, .null, .null, .int 0]))]) (w0 := [(t0, .inr (3, [.int 0, .int 0, .null, .int 0]))]) Fc hE hA Z (c_X3_init tF tL tH l D cI cS t0 20 12 (by decide) (by decide)) mZ_RX3 mL_RX2_11 mI_X3_init mC_X3_init rfl rfl rfl (by decide +kernel) ⟨Nat.le_of_ble_eq_true rfl, Nat.le_of_ble_eq_true rfl⟩ ⟨Nat.le_of_ble_eq_true rfl, Nat.le_of_ble_eq_true rfl⟩ rfl hl (Nat.le_of_ble_eq_true rfl) dX2_init_13 rfl (fun a0 H locs _ Z => ?_)
  refine kputF (v := .ref t0) (ty := .object "LibraryCirculation$Table") (w' := [(x, .inr (2, [.ref t0, .null, .null, .null, .null, .int 0])), (t0, .inr (3, [.int (nI 20), .int (nI 12), .ref a0, .int 0])), (a0, .inl (cI, 20 * 12, .inl (fun _ => 0)))]) Fc hin Z inX2 tyX2 tyX2_ok nmX2 0 rfl rfl 0 (by decide) mF_RX2_14 rfl rfl rfl rfl rfl rfl (Nat.le_of_ble_eq_true rfl) rfl dX2_init_16 (fun H locs Z => ?_)
  refine lv_aload_n hx hb dX2_init_19 rfl (lv_at hl 0 rfl) ?_
  refine knew (fs := [.int 0, .int 0, .null, .int 0]) Fc hA Z inX3 tyX3 tyX3_ok mN_RX2_9 mB_RX3 mZ_RX3 (ci := 3) rfl (fun j hj => by rcases (show j = 0 ∨ j = 1 ∨ j = 2 ∨ j = 3 by omega) with rfl | rfl | rfl | rfl <;> rfl) (Nat.le_of_ble_eq_true rfl) (Nat.le_of_ble_eq_true rfl) dX2_init_20 (fun t1 H Z => ?_)
  refine lv_dup hx hb dX2_init_23 rfl ?_
  refine lv_bipush (v := nI 8) hx hb dX2_init_24 (by decide) ?_
  refine lv_iconst (v := nI 4) hx hb dX2_init_26 (by decide) ?_
  refine kci (As := [.int (nI 8), .int (nI 4)]) (wr := [(x, .inr (2, [.ref t0, .null, .null, .null, .null, .int 0])), (t0, .inr (3, [.int (nI 20), .int (nI 12), .ref a0, .int 0])), (a0, .inl (cI, 20 * 12, .inl (fun _ => 0)))]) (w0 := [(t1, .inr (3, [.int 0, .int 0, .null, .int 0]))]) Fc hE hA Z (c_X3_init tF tL tH l D cI cS t1 8 4 (by decide) (by decide)) mZ_RX3 mL_RX2_11 mI_X3_init mC_X3_init rfl rfl rfl (by decide +kernel) ⟨Nat.le_of_ble_eq_true rfl, Nat.le_of_ble_eq_true rfl⟩ ⟨Nat.le_of_ble_eq_true rfl, Nat.le_of_ble_eq_true rfl⟩ rfl hl (Nat.le_of_ble_eq_true rfl) dX2_init_27 rfl (fun a1 H locs _ Z => ?_)
  refine kputF (v := .ref t1) (ty := .object "LibraryCirculation$Table") (w' := [(x, .inr (2, [.ref t0, .ref t1, .null, .null, .null, .int 0])), (t0, .inr (3, [.int (nI 20), .int (nI 12), .ref a0, .int 0])), (a0, .inl (cI, 20 * 12, .inl (fun _ => 0))), (t1, .inr (3, [.int (nI 8), .int (nI 4), .ref a1, .int 0])), (a1, .inl (cI, 8 * 4, .inl (fun _ => 0)))]) Fc hin Z inX2 tyX2 tyX2_ok nmX2 0 rfl rfl 1 (by decide) mF_RX2_20 rfl rfl rfl rfl rfl rfl (Nat.le_of_ble_eq_true rfl) rfl dX2_init_30 (fun H locs Z => ?_)
  refine lv_aload_n hx hb dX2_init_33 rfl (lv_at hl 0 rfl) ?_
  refine knew (fs := [.int 0, .int 0, .null, .int 0]) Fc hA Z inX3 tyX3 tyX3_ok mN_RX2_9 mB_RX3 mZ_RX3 (ci := 3) rfl (fun j hj => by rcases (show j = 0 ∨ j = 1 ∨ j = 2 ∨ j = 3 by omega) with rfl | rfl | rfl | rfl <;> rfl) (Nat.le_of_ble_eq_true rfl) (Nat.le_of_ble_eq_true rfl) dX2_init_34 (fun t2 H Z => ?_)
  refine lv_dup hx hb dX2_init_37 rfl ?_
  refine lv_bipush (v := nI 24) hx hb dX2_init_38 (by decide) ?_
  refine lv_iconst (v := nI 4) hx hb dX2_init_40 (by decide) ?_
  refine kci (As := [.int (nI 24), .int (nI 4)]) (wr := [(x, .inr (2, [.ref t0, .ref t1, .null, .null, .null, .int 0])), (t0, .inr (3, [.int (nI 20), .int (nI 12), .ref a0, .int 0])), (a0, .inl (cI, 20 * 12, .inl (fun _ => 0))), (t1, .inr (3, [.int (nI 8), .int (nI 4), .ref a1, .int 0])), (a1, .inl (cI, 8 * 4, .inl (fun _ => 0)))]) (w0 := [(t2, .inr (3, [.int 0, .int 0, .null, .int 0]))]) Fc hE hA Z (c_X3_init tF tL tH l D cI cS t2 24 4 (by decide) (by decide)) mZ_RX3 mL_RX2_11 mI_X3_init mC_X3_init rfl rfl rfl (by decide +kernel) ⟨Nat.le_of_ble_eq_true rfl, Nat.le_of_ble_eq_true rfl⟩ ⟨Nat.le_of_ble_eq_true rfl, Nat.le_of_ble_eq_true rfl⟩ rfl hl (Nat.le_of_ble_eq_true rfl) dX2_init_41 rfl (fun a2 H locs _ Z => ?_)
  refine kputF (v := .ref t2) (ty := .object "LibraryCirculation$Table") (w' := [(x, .inr (2, [.ref t0, .ref t1, .ref t2, .null, .null, .int 0])), (t0, .inr (3, [.int (nI 20), .int (nI 12), .ref a0, .int 0])), (a0, .inl (cI, 20 * 12, .inl (fun _ => 0))), (t1, .inr (3, [.int (nI 8), .int (nI 4), .ref a1, .int 0])), (a1, .inl (cI, 8 * 4, .inl (fun _ => 0))), (t2, .inr (3, [.int (nI 24), .int (nI 4), .ref a2, .int 0])), (a2, .inl (cI, 24 * 4, .inl (fun _ => 0)))]) Fc hin Z inX2 tyX2 tyX2_ok nmX2 0 rfl rfl 2 (by decide) mF_RX2_23 rfl rfl rfl rfl rfl rfl (Nat.le_of_ble_eq_true rfl) rfl dX2_init_44 (fun H locs Z => ?_)
  refine lv_aload_n hx hb dX2_init_47 rfl (lv_at hl 0 rfl) ?_
  refine knew (fs := [.int 0, .int 0, .null, .int 0]) Fc hA Z inX3 tyX3 tyX3_ok mN_RX2_9 mB_RX3 mZ_RX3 (ci := 3) rfl (fun j hj => by rcases (show j = 0 ∨ j = 1 ∨ j = 2 ∨ j = 3 by omega) with rfl | rfl | rfl | rfl <;> rfl) (Nat.le_of_ble_eq_true rfl) (Nat.le_of_ble_eq_true rfl) dX2_init_48 (fun t3 H Z => ?_)
  refine lv_dup hx hb dX2_init_51 rfl ?_
  refine lv_bipush (v := nI 60) hx hb dX2_init_52 (by decide) ?_
  refine lv_iconst (v := nI 5) hx hb dX2_init_54 (by decide) ?_
  refine kci (As := [.int (nI 60), .int (nI 5)]) (wr := [(x, .inr (2, [.ref t0, .ref t1, .ref t2, .null, .null, .int 0])), (t0, .inr (3, [.int (nI 20), .int (nI 12), .ref a0, .int 0])), (a0, .inl (cI, 20 * 12, .inl (fun _ => 0))), (t1, .inr (3, [.int (nI 8), .int (nI 4), .ref a1, .int 0])), (a1, .inl (cI, 8 * 4, .inl (fun _ => 0))), (t2, .inr (3, [.int (nI 24), .int (nI 4), .ref a2, .int 0])), (a2, .inl (cI, 24 * 4, .inl (fun _ => 0)))]) (w0 := [(t3, .inr (3, [.int 0, .int 0, .null, .int 0]))]) Fc hE hA Z (c_X3_init tF tL tH l D cI cS t3 60 5 (by decide) (by decide)) mZ_RX3 mL_RX2_11 mI_X3_init mC_X3_init rfl rfl rfl (by decide +kernel) ⟨Nat.le_of_ble_eq_true rfl, Nat.le_of_ble_eq_true rfl⟩ ⟨Nat.le_of_ble_eq_true rfl, Nat.le_of_ble_eq_true rfl⟩ rfl hl (Nat.le_of_ble_eq_true rfl) dX2_init_55 rfl (fun a3 H locs _ Z => ?_)
  refine kputF (v := .ref t3) (ty := .object "LibraryCirculation$Table") (w' := [(x, .inr (2, [.ref t0, .ref t1, .ref t2, .ref t3, .null, .int 0])), (t0, .inr (3, [.int (nI 20), .int (nI 12), .ref a0, .int 0])), (a0, .inl (cI, 20 * 12, .inl (fun _ => 0))), (t1, .inr (3, [.int (nI 8), .int (nI 4), .ref a1, .int 0])), (a1, .inl (cI, 8 * 4, .inl (fun _ => 0))), (t2, .inr (3, [.int (nI 24), .int (nI 4), .ref a2, .int 0])), (a2, .inl (cI, 24 * 4, .inl (fun _ => 0))), (t3, .inr (3, [.int (nI 60), .int (nI 5), .ref a3, .int 0])), (a3, .inl (cI, 60 * 5, .inl (fun _ => 0)))]) Fc hin Z inX2 tyX2 tyX2_ok nmX2 0 rfl rfl 3 (by decide) mF_RX2_26 rfl rfl rfl rfl rfl rfl (Nat.le_of_ble_eq_true rfl) rfl dX2_init_58 (fun H locs Z => ?_)
  refine lv_aload_n hx hb dX2_init_61 rfl (lv_at hl 0 rfl) ?_
  refine knew (fs := [.int 0, .int 0, .null, .int 0]) Fc hA Z inX3 tyX3 tyX3_ok mN_RX2_9 mB_RX3 mZ_RX3 (ci := 3) rfl (fun j hj => by rcases (show j = 0 ∨ j = 1 ∨ j = 2 ∨ j = 3 by omega) with rfl | rfl | rfl | rfl <;> rfl) (Nat.le_of_ble_eq_true rfl) (Nat.le_of_ble_eq_true rfl) dX2_init_62 (fun t4 H Z => ?_)
  refine lv_dup hx hb dX2_init_65 rfl ?_
  refine kgetsN Fc hE.1 Z nw_RX2_29 dX2_init_66 ?_
  refine ktlen Fc hE.1 Z dX2_init_69 ?_
  rw [show (8 : Int32) = nI 8 from rfl]
  refine lv_iconst (v := nI 1) hx hb dX2_init_70 (by decide) ?_
  refine kci (As := [.int (nI 8), .int (nI 1)]) (wr := [(x, .inr (2, [.ref t0, .ref t1, .ref t2, .ref t3, .null, .int 0])), (t0, .inr (3, [.int (nI 20), .int (nI 12), .ref a0, .int 0])), (a0, .inl (cI, 20 * 12, .inl (fun _ => 0))), (t1, .inr (3, [.int (nI 8), .int (nI 4), .ref a1, .int 0])), (a1, .inl (cI, 8 * 4, .inl (fun _ => 0))), (t2, .inr (3, [.int (nI 24), .int (nI 4), .ref a2, .int 0])), (a2, .inl (cI, 24 * 4, .inl (fun _ => 0))), (t3, .inr (3, [.int (nI 60), .int (nI 5), .ref a3, .int 0])), (a3, .inl (cI, 60 * 5, .inl (fun _ => 0)))]) (w0 := [(t4, .inr (3, [.int 0, .int 0, .null, .int 0]))]) Fc hE hA Z (c_X3_init tF tL tH l D cI cS t4 8 1 (by decide) (by decide)) mZ_RX3 mL_RX2_11 mI_X3_init mC_X3_init rfl rfl rfl (by decide +kernel) ⟨Nat.le_of_ble_eq_true rfl, Nat.le_of_ble_eq_true rfl⟩ ⟨Nat.le_of_ble_eq_true rfl, Nat.le_of_ble_eq_true rfl⟩ rfl hl (Nat.le_of_ble_eq_true rfl) dX2_init_71 rfl (fun a4 H locs _ Z => ?_)
  refine kputF (v := .ref t4) (ty := .object "LibraryCirculation$Table") (w' := [(x, .inr (2, [.ref t0, .ref t1, .ref t2, .ref t3, .ref t4, .int 0])), (t0, .inr (3, [.int (nI 20), .int (nI 12), .ref a0, .int 0])), (a0, .inl (cI, 20 * 12, .inl (fun _ => 0))), (t1, .inr (3, [.int (nI 8), .int (nI 4), .ref a1, .int 0])), (a1, .inl (cI, 8 * 4, .inl (fun _ => 0))), (t2, .inr (3, [.int (nI 24), .int (nI 4), .ref a2, .int 0])), (a2, .inl (cI, 24 * 4, .inl (fun _ => 0))), (t3, .inr (3, [.int (nI 60), .int (nI 5), .ref a3, .int 0])), (a3, .inl (cI, 60 * 5, .inl (fun _ => 0))), (t4, .inr (3, [.int (nI 8), .int (nI 1), .ref a4, .int 0])), (a4, .inl (cI, 8 * 1, .inl (fun _ => 0)))]) Fc hin Z inX2 tyX2 tyX2_ok nmX2 0 rfl rfl 4 (by decide) mF_RX2_33 rfl rfl rfl rfl rfl rfl (Nat.le_of_ble_eq_true rfl) rfl dX2_init_74 (fun H locs Z => ?_)
  refine lv_aload_n hx hb dX2_init_77 rfl (lv_at hl 0 rfl) ?_
  refine lv_iconst (v := (0 : Int32)) hx hb dX2_init_78 (by decide) ?_
  refine kput (v := .int 0) (ty := .int) (w' := [(x, .inr (2, [.ref t0, .ref t1, .ref t2, .ref t3, .ref t4, .int 0])), (t0, .inr (3, [.int (nI 20), .int (nI 12), .ref a0, .int 0])), (a0, .inl (cI, 20 * 12, .inl (fun _ => 0))), (t1, .inr (3, [.int (nI 8), .int (nI 4), .ref a1, .int 0])), (a1, .inl (cI, 8 * 4, .inl (fun _ => 0))), (t2, .inr (3, [.int (nI 24), .int (nI 4), .ref a2, .int 0])), (a2, .inl (cI, 24 * 4, .inl (fun _ => 0))), (t3, .inr (3, [.int (nI 60), .int (nI 5), .ref a3, .int 0])), (a3, .inl (cI, 60 * 5, .inl (fun _ => 0))), (t4, .inr (3, [.int (nI 8), .int (nI 1), .ref a4, .int 0])), (a4, .inl (cI, 8 * 1, .inl (fun _ => 0)))]) Fc Z inX2 tyX2 tyX2_ok nmX2 0 rfl rfl 5 (by decide) mF_RX2_36 rfl rfl rfl rfl rfl (Nat.le_of_ble_eq_true rfl) rfl dX2_init_79 (fun H locs Z => ?_)
  refine W.widen (k := 10) (n := 696) (Nat.le_of_ble_eq_true rfl) (Nat.le_of_ble_eq_true rfl) ?_
  obtain ⟨sd, esd⟩ : ∃ z : Nat → Nat, z = fun j => [x, t0, a0, t1, a1, t2, a2, t3, a3, t4, a4].getD j 0 := ⟨_, rfl⟩
  have Zn : Ix D A s (stW sd 0 cI (stT (fun _ => tab0, 0) 4 (sIni 0))) H locs := by rw [esd]; exact Z
  clear Z
  have e0 : sd 0 = x := by rw [esd]; rfl
  have e9 : sd 9 = t4 := by rw [esd]; rfl
  have e10 : sd 10 = a4 := by rw [esd]; rfl
  clear esd
  subst e0 e9 e10
  refine lv_iconst (v := (0 : Int32)) hx hb dX2_init_82 (by decide) ?_
  refine lv_istore_n (lv' := [(1, .int (nI 0)), (0, .ref (sd 0))]) hx hb dX2_init_83 rfl hl (by decide) rfl (fun ls hl => ?_)
  have loop : ∀ (k i : Nat) (H : Heap) (locs : List Loc) (ls : Array Slot), i ≤ 8 → 8 < i + k → tbOK 8 (sIni i) → Ix D A s (stW sd 0 cI (stT (fun _ => tab0, 0) 4 (sIni i))) H locs → lv_has ls 2 [(1, .int (nI i)), (0, .ref (sd 0))] → W p l e rm_X2_init s m args below meth c H locs 10 696 Q (F0 m 84 ls []) := by
    intro k
    induction k with
    | zero => intro i H locs ls h1 h2; omega
    | succ k ih =>
      intro i H locs ls h1 h2 ok Z hl
      refine lv_iload_n hx hb dX2_init_84 rfl (lv_at hl 0 rfl) ?_
      refine kgetsN Fc hE.1 Z nw_RX2_29 dX2_init_85 ?_
      refine ktlen Fc hE.1 Z dX2_init_88 ?_
      rw [show (8 : Int32) = nI 8 from rfl]
      refine lv_icmp_ge (tgt := 118) hx hb dX2_init_89 (by decide) (fun c1 => ?_) (fun c1 => ?_)
      · have e8 : i = 8 := by
          rcases Nat.lt_or_ge i 8 with z | z
          · exact absurd c1 (nI_ge z (by omega))
          · omega
        subst e8
        have es : stT (fun _ => tab0, 0) 4 (sIni 8) = st0 := by
          unfold stT st0
          congr 1
        rw [es] at Z
        exact kret sd _ _ _ _ _ _ (Nat.le_refl _) (Nat.le_refl _) rfl Z dX2_init_118
      · have hi : i < 8 := by
          rcases Nat.lt_or_ge i 8 with z | z
          · exact z
          · exact absurd (nI_le z (by omega)) c1
        refine lv_aload_n hx hb dX2_init_92 rfl (lv_at hl 1 rfl) ?_
        refine kget Fc Z inX2 0 rfl rfl 4 (by decide) mF_RX2_33 rfl rfl dX2_init_93 ?_
        refine lv_aload_n hx hb dX2_init_96 rfl (lv_at hl 1 rfl) ?_
        refine kget Fc Z inX2 0 rfl rfl 4 (by decide) mF_RX2_33 rfl rfl dX2_init_97 ?_
        have L4 : ∀ u : Tab, Lens D A s (stW sd 0 cI (stT (fun _ => tab0, 0) 4 u)) (tbW (sd 9) (sd 10) cI 8 1 (8 * 1)) u (fun v => stW sd 0 cI (stT (fun _ => tab0, 0) 4 v)) := by
          intro u
          refine ⟨[0, 1, 2, 3, 4, 5, 6, 7, 8].filterMap (fun i => (stW sd 0 cI (stT (fun _ => tab0, 0) 4 u))[i]?), fun _ _ Z => ?_, fun _ _ Z => ?_, fun v _ _ Z => ?_⟩
          · exact Ix.sub (w' := tbW (sd 9) (sd 10) cI 8 1 (8 * 1) u ++ [0, 1, 2, 3, 4, 5, 6, 7, 8].filterMap (fun i => (stW sd 0 cI (stT (fun _ => tab0, 0) 4 u))[i]?)) Z [9, 10, 0, 1, 2, 3, 4, 5, 6, 7, 8] (by decide) rfl
          · exact Ix.sub (w := tbW (sd 9) (sd 10) cI 8 1 (8 * 1) u ++ [0, 1, 2, 3, 4, 5, 6, 7, 8].filterMap (fun i => (stW sd 0 cI (stT (fun _ => tab0, 0) 4 u))[i]?)) Z [2, 3, 4, 5, 6, 7, 8, 9, 10, 0, 1] (by decide) rfl
          · exact Ix.sub (w := tbW (sd 9) (sd 10) cI 8 1 (8 * 1) v ++ [0, 1, 2, 3, 4, 5, 6, 7, 8].filterMap (fun i => (stW sd 0 cI (stT (fun _ => tab0, 0) 4 u))[i]?)) Z [2, 3, 4, 5, 6, 7, 8, 9, 10, 0, 1] (by decide) rfl
        refine km_i (As := []) (ok := tbOK 8) (q := tadd 8 1 (sIni i)) Fc hA Z (L4 (sIni i)) (c_X3_addRow l D cI cS (sd 9) (sd 10) 8 1 (8 * 1) sh4 (sIni i) ok (tadd 8 1 (sIni i)) rfl) mL_RX2_40 v_X3_addRow ⟨rfl, rfl⟩ ⟨Nat.le_of_ble_eq_true rfl, Nat.le_of_ble_eq_true rfl⟩ ⟨Nat.le_of_ble_eq_true rfl, Nat.le_of_ble_eq_true rfl⟩ 9 3 rfl rfl rfl hl (Nat.le_of_ble_eq_true rfl) dX2_init_100 rfl (fun H locs ok Z => ?_)
        refine lv_iconst (v := (0 : Int32)) hx hb dX2_init_103 (by decide) ?_
        refine kgetsN Fc hE.1 Z nw_RX2_29 dX2_init_104 ?_
        refine lv_iload_n hx hb dX2_init_107 rfl (lv_at hl 0 rfl) ?_
        refine ktald (x := vF i) Fc hE.1 Z (by unfold rdA; rw [if_neg (nI_in hi (by omega)), nI_clamp (by omega)]) dX2_init_108 ?_
        refine kv_i (As := [.int (tadd 8 1 (sIni i)).1, .int 0, .int (vF i)]) (ok := tbOK 8) Fc hA Z (L4 (tadd 8 1 (sIni i)).2) (c_X3_put l D cI cS (sd 9) (sd 10) 8 1 (8 * 1) sh4 (tadd 8 1 (sIni i)).2 ok (tadd 8 1 (sIni i)).1 0 (vF i) (sIni (i + 1)) rfl) mL_RX2_44 v_X3_put ⟨rfl, rfl⟩ ⟨Nat.le_of_ble_eq_true rfl, Nat.le_of_ble_eq_true rfl⟩ ⟨Nat.le_of_ble_eq_true rfl, Nat.le_of_ble_eq_true rfl⟩ 9 3 rfl rfl rfl hl (Nat.le_of_ble_eq_true rfl) dX2_init_109 rfl (fun H locs ok Z => ?_)
        refine lv_iinc (v := nI (i + 1)) (lv' := [(1, .int (nI (i + 1))), (0, .ref (sd 0))]) hx hb dX2_init_112 hl (k := 0) rfl (nI_1 i) (by decide) rfl (fun ls hl => ?_)
        refine lv_goto (tgt := 84) hx hb dX2_init_115 (by decide) ?_
        exact ih (i + 1) _ _ _ (by omega) (by omega) ok Z hl
  exact loop 9 0 _ _ _ (by omega) (by omega) ⟨by decide, by decide⟩ Zn hl
def xs0 : Xs := ((fun _ => 0, (0, 0)), tab0)
def xWa (tx la ct ca : Nat) (cI : ClassId) (ξ : Xs) : va_W := [(tx, .inr (0, [.ref la, .int ξ.1.2.1, .int ξ.1.2.2, .ref ct])), (la, .inl (cI, 60, .inl ξ.1.1)), (ct, .inr (3, [.int (nI 15), .int (nI 4), .ref ca, .int ξ.2.1])), (ca, .inl (cI, 15 * 4, .inl ξ.2.2))]
def rm_X0_init : Room := { frames := 2, cells := 3, slots := 124, locals := 60 }
set_option maxHeartbeats 8000000 in
set_option maxRecDepth 100000 in
theorem c_X0_init (tF tL tH : Nat) (l : Launch) (D : va_G) (cI cS : ClassId) (x : Nat) : MVE tF tL tH l yX0_init cX0_init 1 rm_X0_init D cI cS [.ref x] [(x, .inr (0, [.null, .int 0, .int 0, .null]))] (fun u : Nat × (Nat × Nat) => xWa x u.1 u.2.1 u.2.2 cI xs0) (fun _ => True) 3 124 := by
  refine MVE.mk RX0 rfl (by decide) (Nat.le_of_ble_eq_true rfl) ?_
  intro p e s m args below meth c A Q ls Fc hin hE hA Z kret hl
  obtain ⟨hx, hb, hml, hown, hts, hKN⟩ := id Fc
  replace hl : lv_has ls 1 [(0, .ref x)] := hl
  refine lv_aload_n hx hb dX0_init_0 rfl (lv_at hl 0 rfl) ?_
  refine kobj Fc hl mL_RX0_5 (Nat.le_of_ble_eq_true rfl) (Nat.le_of_ble_eq_true rfl) dX0_init_1 ?_
  refine lv_aload_n hx hb dX0_init_4 rfl (lv_at hl 0 rfl) ?_
  refine lv_bipush (v := (60 : Int32)) hx hb dX0_init_5 (by decide) ?_
  refine knewa (N' := 60) Fc hA Z (by decide) (by decide) (by decide) (Nat.le_of_ble_eq_true rfl) (Nat.le_of_ble_eq_true rfl) dX0_init_7 (fun la H Z => ?_)
  refine kputF (v := .ref la) (ty := .array .int) (w' := [(x, .inr (0, [.ref la, .int 0, .int 0, .null])), (la, .inl (cI, 60, .inl (fun _ => 0)))]) Fc hin Z inX0 tyX0 tyX0_ok nmX0 0 rfl rfl 0 (by decide) mF_RX0_11 rfl rfl rfl rfl rfl rfl (Nat.le_of_ble_eq_true rfl) rfl dX0_init_9 (fun H locs Z => ?_)
  refine lv_aload_n hx hb dX0_init_12 rfl (lv_at hl 0 rfl) ?_
  refine lv_iconst (v := (0 : Int32)) hx hb dX0_init_13 (by decide) ?_
  refine kput (v := .int 0) (ty := .int) (w' := [(x, .inr (0, [.ref la, .int 0, .int 0, .null])), (la, .inl (cI, 60, .inl (fun _ => 0)))]) Fc Z inX0 tyX0 tyX0_ok nmX0 0 rfl rfl 1 (by decide) mF_RX0_15 rfl rfl rfl rfl rfl (Nat.le_of_ble_eq_true rfl) rfl dX0_init_14 (fun H locs Z => ?_)
  refine lv_aload_n hx hb dX0_init_17 rfl (lv_at hl 0 rfl) ?_
  refine lv_iconst (v := (0 : Int32)) hx hb dX0_init_18 (by decide) ?_
  refine kput (v := .int 0) (ty := .int) (w' := [(x, .inr (0, [.ref la, .int 0, .int 0, .null])), (la, .inl (cI, 60, .inl (fun _ => 0)))]) Fc Z inX0 tyX0 tyX0_ok nmX0 0 rfl rfl 2 (by decide) mF_RX0_19 rfl rfl rfl rfl rfl (Nat.le_of_ble_eq_true rfl) rfl dX0_init_19 (fun H locs Z => ?_)
  refine lv_aload_n hx hb dX0_init_22 rfl (lv_at hl 0 rfl) ?_
  refine knew (fs := [.int 0, .int 0, .null, .int 0]) Fc hA Z inX3 tyX3 tyX3_ok mN_RX0_22 mB_RX3 mZ_RX3 (ci := 3) rfl (fun j hj => by rcases (show j = 0 ∨ j = 1 ∨ j = 2 ∨ j = 3 by omega) with rfl | rfl | rfl | rfl <;> rfl) (Nat.le_of_ble_eq_true rfl) (Nat.le_of_ble_eq_true rfl) dX0_init_23 (fun t H Z => ?_)
  refine lv_dup hx hb dX0_init_26 rfl ?_
  refine lv_bipush (v := nI 15) hx hb dX0_init_27 (by decide) ?_
  refine lv_iconst (v := nI 4) hx hb dX0_init_29 (by decide) ?_
  refine kci (As := [.int (nI 15), .int (nI 4)]) (wr := [(x, .inr (0, [.ref la, .int 0, .int 0, .null])), (la, .inl (cI, 60, .inl (fun _ => 0)))]) (w0 := [(t, .inr (3, [.int 0, .int 0, .null, .int 0]))]) Fc hE hA Z (c_X3_init tF tL tH l D cI cS t 15 4 (by decide) (by decide)) mZ_RX3 mL_RX0_24 mI_X3_init mC_X3_init rfl rfl rfl (by decide +kernel) ⟨Nat.le_of_ble_eq_true rfl, Nat.le_of_ble_eq_true rfl⟩ ⟨Nat.le_of_ble_eq_true rfl, Nat.le_of_ble_eq_true rfl⟩ rfl hl (Nat.le_of_ble_eq_true rfl) dX0_init_30 rfl (fun ca H locs _ Z => ?_)
  refine kputF (v := .ref t) (ty := .object "LibraryCirculation$Table") (w' := xWa x la t ca cI xs0) Fc hin Z inX0 tyX0 tyX0_ok nmX0 0 rfl rfl 3 (by decide) mF_RX0_27 rfl rfl rfl rfl rfl rfl (Nat.le_of_ble_eq_true rfl) rfl dX0_init_33 (fun H locs Z => ?_)
  exact kret (la, (t, ca)) _ _ _ _ _ _ (Nat.le_of_ble_eq_true rfl) (Nat.le_of_ble_eq_true rfl) trivial Z dX0_init_36
def fk (sd : Nat → Nat → Nat) (k : Nat) : Nat → Option Nat := fun j => if j < k then some (sd j 0) else none
def gk (sd : Nat → Nat → Nat) (cI : ClassId) (k : Nat) : va_W := (List.range k).flatMap (fun j => stW (sd j) 0 cI st0)
def hk (h ha : Nat) (cS : ClassId) (f : Nat → Option Nat) : va_W := [(h, .inr (1, [.ref ha, .int 0, .int 0])), (ha, .inl (cS, 8, .inr (.inr (.inr (.inr f)))))]
theorem gk_succ (sd : Nat → Nat → Nat) (cI : ClassId) (k : Nat) (u : Nat → Nat) : gk (va_up sd k u) cI (k + 1) = gk sd cI k ++ stW u 0 cI st0 := by
  unfold gk
  rw [List.range_succ, List.flatMap_append]
  congr 1
  · unfold List.flatMap
    congr 1
    apply List.map_congr_left
    intro j hj
    rw [va_up_ne _ _ (Nat.ne_of_lt (List.mem_range.mp hj))]
  · simp [va_up]
theorem fk_succ (sd : Nat → Nat → Nat) (k : Nat) (u : Nat → Nat) (x : Nat) (hx : u 0 = x) : va_up (fk sd k) k (some x) = fk (va_up sd k u) (k + 1) := by
  funext j
  by_cases h : j = k
  · subst h
    have h1 : j < j + 1 := by omega
    simp [va_up, fk, hx, h1]
  · by_cases h2 : j < k
    · have h1 : j < k + 1 := by omega
      simp [va_up, fk, h, h2, h1]
    · have h1 : ¬ j < k + 1 := by omega
      simp [va_up, fk, h, h2, h1]
def rm_X1_init : Room := { frames := 3, cells := 89, slots := 5624, locals := 90 }
set_option maxHeartbeats 8000000 in
set_option maxRecDepth 100000 in
theorem c_X1_init (tF tL tH : Nat) (l : Launch) (D : va_G) (cI cS : ClassId) (h : Nat) : MVE tF tL tH l yX1_init cX1_init 2 rm_X1_init D cI cS [.ref h] [(h, .inr (1, [.null, .int 0, .int 0]))] (fun u : Nat × (Nat → Nat → Nat) => hk h u.1 cS (fk u.2 8) ++ gk u.2 cI 8) (fun _ => True) 89 5624 := by
  refine MVE.mk RX1 rfl (by decide) (Nat.le_of_ble_eq_true rfl) ?_
  intro p e s m args below meth c A Q ls Fc hin hE hA Z kret hl
  obtain ⟨hx, hb, hml, hown, hts, hKN⟩ := id Fc
  replace hl : lv_has ls 2 [(0, .ref h)] := hl
  refine lv_aload_n hx hb dX1_init_0 rfl (lv_at hl 0 rfl) ?_
  refine kobj Fc hl mL_RX1_3 (Nat.le_of_ble_eq_true rfl) (Nat.le_of_ble_eq_true rfl) dX1_init_1 ?_
  refine lv_aload_n hx hb dX1_init_4 rfl (lv_at hl 0 rfl) ?_
  refine lv_bipush (v := (8 : Int32)) hx hb dX1_init_5 (by decide) ?_
  refine kanew (N' := 8) Fc hE hA Z mN_RX1_9 (by decide) (by decide) (by decide) (Nat.le_of_ble_eq_true rfl) (Nat.le_of_ble_eq_true rfl) dX1_init_7 (fun ha H Z => ?_)
  refine kputF (v := .ref ha) (ty := .array (.object "LibraryCirculation$State")) (w' := hk h ha cS (fun _ => none)) Fc hin Z inX1 tyX1 tyX1_ok nmX1 0 rfl rfl 0 (by decide) mF_RX1_11 rfl rfl rfl rfl rfl rfl (Nat.le_of_ble_eq_true rfl) rfl dX1_init_10 (fun H locs Z => ?_)
  refine lv_aload_n hx hb dX1_init_13 rfl (lv_at hl 0 rfl) ?_
  refine lv_iconst (v := (0 : Int32)) hx hb dX1_init_14 (by decide) ?_
  refine kput (v := .int 0) (ty := .int) (w' := hk h ha cS (fun _ => none)) Fc Z inX1 tyX1 tyX1_ok nmX1 0 rfl rfl 1 (by decide) mF_RX1_17 rfl rfl rfl rfl rfl (Nat.le_of_ble_eq_true rfl) rfl dX1_init_15 (fun H locs Z => ?_)
  refine lv_aload_n hx hb dX1_init_18 rfl (lv_at hl 0 rfl) ?_
  refine lv_iconst (v := (0 : Int32)) hx hb dX1_init_19 (by decide) ?_
  refine kput (v := .int 0) (ty := .int) (w' := hk h ha cS (fun _ => none)) Fc Z inX1 tyX1 tyX1_ok nmX1 0 rfl rfl 2 (by decide) mF_RX1_21 rfl rfl rfl rfl rfl (Nat.le_of_ble_eq_true rfl) rfl dX1_init_20 (fun H locs Z => ?_)
  refine lv_iconst (v := (0 : Int32)) hx hb dX1_init_23 (by decide) ?_
  refine lv_istore_n (lv' := [(1, .int (nI 0)), (0, .ref h)]) hx hb dX1_init_24 rfl hl (by decide) rfl (fun ls hl => ?_)
  have loop : ∀ (k i : Nat) (sd : Nat → Nat → Nat) (H : Heap) (locs : List Loc) (ls : Array Slot), i ≤ 8 → 8 < i + k → Ix D A s (hk h ha cS (fk sd i) ++ gk sd cI i) H locs → lv_has ls 2 [(1, .int (nI i)), (0, .ref h)] → W p l e rm_X1_init s m args below meth c H locs (1 + 11 * i) (8 + 702 * i) Q (F0 m 25 ls []) := by
    intro k
    induction k with
    | zero => intro i sd H locs ls h1 h2; omega
    | succ k ih =>
      intro i sd H locs ls h1 h2 Z hl
      refine lv_iload_n hx hb dX1_init_25 rfl (lv_at hl 0 rfl) ?_
      refine lv_aload_n hx hb dX1_init_26 rfl (lv_at hl 1 rfl) ?_
      refine kget Fc Z inX1 0 rfl rfl 0 (by decide) mF_RX1_11 rfl rfl dX1_init_27 ?_
      refine kalenq (x := nI 8) Fc Z 1 rfl rfl dX1_init_30 ?_
      refine lv_icmp_ge (tgt := 53) hx hb dX1_init_31 (by decide) (fun c1 => ?_) (fun c1 => ?_)
      · have e8 : i = 8 := by
          rcases Nat.lt_or_ge i 8 with z | z
          · exact absurd c1 (nI_ge z (by omega))
          · omega
        subst e8
        exact kret (ha, sd) _ _ _ _ _ _ (Nat.le_refl _) (Nat.le_refl _) trivial Z dX1_init_53
      · have hi : i < 8 := by
          rcases Nat.lt_or_ge i 8 with z | z
          · exact z
          · exact absurd (nI_le z (by omega)) c1
        refine lv_aload_n hx hb dX1_init_34 rfl (lv_at hl 1 rfl) ?_
        refine kget Fc Z inX1 0 rfl rfl 0 (by decide) mF_RX1_11 rfl rfl dX1_init_35 ?_
        refine lv_iload_n hx hb dX1_init_38 rfl (lv_at hl 0 rfl) ?_
        refine knew (fs := [.null, .null, .null, .null, .null, .int 0]) Fc hA Z inX2 tyX2 tyX2_ok mN_RX1_9 mB_RX2 mZ_RX2 (ci := 2) rfl (fun j hj => by rcases (show j = 0 ∨ j = 1 ∨ j = 2 ∨ j = 3 ∨ j = 4 ∨ j = 5 by omega) with rfl | rfl | rfl | rfl | rfl | rfl <;> rfl) (by show 1 + 11 * i + 1 ≤ 89; omega) (by show 8 + 702 * i + 6 ≤ 5624; omega) dX1_init_39 (fun q H Z => ?_)
        refine lv_dup hx hb dX1_init_42 rfl ?_
        refine kci (As := []) (wr := hk h ha cS (fk sd i) ++ gk sd cI i) (w0 := [(q, .inr (2, [.null, .null, .null, .null, .null, .int 0]))]) Fc hE hA Z (c_X2_init tF tL tH l D cI cS q) mZ_RX2 mL_RX1_24 mI_X2_init mC_X2_init rfl rfl rfl (by decide +kernel) ⟨Nat.le_of_ble_eq_true rfl, Nat.le_of_ble_eq_true rfl⟩ ⟨by show 1 + 11 * i + 1 + 10 ≤ 89; omega, by show 8 + 702 * i + 6 + 696 ≤ 5624; omega⟩ rfl hl (Nat.le_of_ble_eq_true rfl) dX1_init_43 rfl (fun u H locs hu Z => ?_)
        have hg : ∃ q0 : Nat, ((hk h ha cS (fk sd i) ++ gk sd cI i) ++ stW u 0 cI st0)[q0]? = some ((q, .inr (2, [.ref (u (0 + 1)), .ref (u (0 + 3)), .ref (u (0 + 5)), .ref (u (0 + 7)), .ref (u (0 + 9)), .int st0.2])) : Nat × va_E) := by
          refine List.getElem?_of_mem (List.mem_append_right _ ?_)
          rw [← hu]
          exact List.mem_cons_self
        obtain ⟨q0, hq0⟩ := hg
        refine kastq (w' := hk h ha cS (fk (va_up sd i u) (i + 1)) ++ gk (va_up sd i u) cI (i + 1)) Fc Z 1 q0 2 rfl hq0 rfl rfl (vp_in_nI hi (by omega)) (by rw [gk_succ, nI_clamp (by omega), fk_succ sd i u q hu, ← List.append_assoc]; rfl) dX1_init_46 (fun H locs Z => ?_)
        refine lv_iinc (v := nI (i + 1)) (lv' := [(1, .int (nI (i + 1))), (0, .ref h)]) hx hb dX1_init_47 hl (k := 0) rfl (nI_1 i) (by decide) rfl (fun ls hl => ?_)
        refine lv_goto (tgt := 25) hx hb dX1_init_50 (by decide) ?_
        refine W.widen (k := 1 + 11 * (i + 1)) (n := 8 + 702 * (i + 1)) (by omega) (by omega) ?_
        exact ih (i + 1) (va_up sd i u) _ _ _ (by omega) (by omega) Z hl
  refine W.widen (k := 1 + 11 * 0) (n := 8 + 702 * 0) (Nat.le_of_ble_eq_true rfl) (Nat.le_of_ble_eq_true rfl) ?_
  exact loop 9 0 (fun _ _ => 0) _ _ _ (by omega) (by omega) Z hl
