/-! THE TWO OBJECTS, NEW -/
theorem vp_cell_extq {cA : ClassId} {n : Nat} {f g : Nat → Option Nat} (h : ∀ j, j < n → f j = g j) : vp_cell cA (n, .inr (.inr (.inr (.inr f)))) = vp_cell cA (n, .inr (.inr (.inr (.inr g)))) := by
  rw [vp_cell_q, vp_cell_q]
  unfold arrV
  congr 1
  apply Array.ext
  · simp
  · intro i h1 h2
    simp only [Array.size_ofFn] at h1
    simp only [Array.getElem_ofFn, h i h1]
theorem Ix.arrq {D : va_G} {A : Nat → Prop} {s : State} {w w' : va_W} {H : Heap} {locs : List Loc} {a n : Nat} {cS : ClassId} {f : Nat → Option Nat} (Z : Ix D A s w H locs) (q0 : Nat) (he : w[q0]? = some (a, .inl (cS, n, .inr (.inr (.inr (.inr f)))))) (g : Nat → Option Nat) (hg : ∀ j, j < n → f j = g j) (hw : w.set q0 (a, .inl (cS, n, .inr (.inr (.inr (.inr g))))) = w') : Ix D A s w' H locs := by
  subst hw
  refine ⟨Z.1.set Z.2.1 he ?_ (fun _ _ => rfl), Z.2.1.set he, Z.2.2⟩
  have h := Z.1 q0 _ he
  show H[a]? = some (vp_cell cS (n, .inr (.inr (.inr (.inr g)))))
  rw [← vp_cell_extq hg]
  exact h
theorem stW_ext (ad ad' : Nat → Nat) (b b' : Nat) (cI : ClassId) (τ : St) (h : ∀ i, i ≤ 10 → ad (b + i) = ad' (b' + i)) : stW ad b cI τ = stW ad' b' cI τ := by
  unfold stW
  have h0 := h 0 (by omega)
  rw [Nat.add_zero, Nat.add_zero] at h0
  rw [h0, h 1 (by omega), h 2 (by omega), h 3 (by omega), h 4 (by omega), h 5 (by omega), h 6 (by omega), h 7 (by omega), h 8 (by omega), h 9 (by omega), h 10 (by omega)]
/-- where each cell of the object lies -/
def adC (x : Nat) (s1 s2 s3 : Nat → Nat) (h ha : Nat) (sd : Nat → Nat → Nat) (tx la ct ca : Nat) : Nat → Nat := fun k => if k = 0 then x else if k < 12 then s1 (k - 1) else if k < 23 then s2 (k - 12) else if k < 34 then s3 (k - 23) else if k = 34 then h else if k = 35 then ha else if k < 124 then sd ((k - 36) / 11) ((k - 36) % 11) else if k = 124 then tx else if k = 125 then la else if k = 126 then ct else ca
def fs0 : Fs := (st0, (false, (st0, (st0, ((fun _ => st0, (0, 0)), xs0)))))
theorem fW_init (x : Nat) (s1 s2 s3 : Nat → Nat) (h ha : Nat) (sd : Nat → Nat → Nat) (tx la ct ca : Nat) (cI cS : ClassId) : fW (adC x s1 s2 s3 h ha sd tx la ct ca) cI cS fs0 =
    ((((([(x, .inr (4, [.ref (s1 0), .ref (s2 0), .ref (s3 0), .int 0, .ref h, .ref tx]))] ++ stW s1 0 cI st0) ++ stW s2 0 cI st0) ++ stW s3 0 cI st0) ++ (hk h ha cS (fun j => some (adC x s1 s2 s3 h ha sd tx la ct ca (36 + 11 * j))) ++ gk sd cI 8)) ++ xWa tx la ct ca cI xs0) := by
  have e1 : stW (adC x s1 s2 s3 h ha sd tx la ct ca) 1 cI st0 = stW s1 0 cI st0 := stW_ext _ _ _ _ _ _ (fun i hi => by
    unfold adC
    rw [if_neg (by omega), if_pos (by omega)]
    congr 1
    omega)
  have e2 : stW (adC x s1 s2 s3 h ha sd tx la ct ca) 12 cI st0 = stW s2 0 cI st0 := stW_ext _ _ _ _ _ _ (fun i hi => by
    unfold adC
    rw [if_neg (by omega), if_neg (by omega), if_pos (by omega)]
    congr 1
    omega)
  have e3 : stW (adC x s1 s2 s3 h ha sd tx la ct ca) 23 cI st0 = stW s3 0 cI st0 := stW_ext _ _ _ _ _ _ (fun i hi => by
    unfold adC
    rw [if_neg (by omega), if_neg (by omega), if_neg (by omega), if_pos (by omega)]
    congr 1
    omega)
  have e4 : gsW (adC x s1 s2 s3 h ha sd tx la ct ca) cI (fun _ => st0) = gk sd cI 8 := by
    unfold gsW gk List.flatMap
    congr 1
  have e5 : fW (adC x s1 s2 s3 h ha sd tx la ct ca) cI cS fs0 = [(x, .inr (4, [.ref (s1 0), .ref (s2 0), .ref (s3 0), .int 0, .ref h, .ref tx]))] ++ (stW (adC x s1 s2 s3 h ha sd tx la ct ca) 1 cI st0 ++ (stW (adC x s1 s2 s3 h ha sd tx la ct ca) 12 cI st0 ++ (stW (adC x s1 s2 s3 h ha sd tx la ct ca) 23 cI st0 ++ ((hk h ha cS (fun j => some (adC x s1 s2 s3 h ha sd tx la ct ca (36 + 11 * j))) ++ gsW (adC x s1 s2 s3 h ha sd tx la ct ca) cI (fun _ => st0)) ++ xWa tx la ct ca cI xs0)))) := rfl
  rw [e5, e1, e2, e3, e4]
  simp only [List.append_assoc]
def rm_X4_init : Room := { frames := 4, cells := 127, slots := 7861, locals := 120 }
set_option maxHeartbeats 16000000 in
set_option maxRecDepth 100000 in
theorem c_X4_init (tF tL tH : Nat) (l : Launch) (D : va_G) (cI cS : ClassId) (x : Nat) : MVE tF tL tH l yX4_init cX4_init 1 rm_X4_init D cI cS [.ref x] [(x, .inr (4, [.null, .null, .null, .int 0, .null, .null]))] (fun ad : Nat → Nat => fW ad cI cS fs0) (fun ad => ad 0 = x) 127 7861 := by
  refine MVE.mk RX4 rfl (by decide) (Nat.le_of_ble_eq_true rfl) ?_
  intro p e s m args below meth c A Q ls Fc hin hE hA Z kret hl
  obtain ⟨hx, hb, hml, hown, hts, hKN⟩ := id Fc
  replace hl : lv_has ls 1 [(0, .ref x)] := hl
  refine lv_aload_n hx hb dX4_init_0 rfl (lv_at hl 0 rfl) ?_
  refine kobj Fc hl mL_RX4_1 (Nat.le_of_ble_eq_true rfl) (Nat.le_of_ble_eq_true rfl) dX4_init_1 ?_
  refine lv_aload_n hx hb dX4_init_4 rfl (lv_at hl 0 rfl) ?_
  refine knew (fs := [.null, .null, .null, .null, .null, .int 0]) Fc hA Z inX2 tyX2 tyX2_ok mN_RX4_7 mB_RX2 mZ_RX2 (ci := 2) rfl (fun j hj => by rcases (show j = 0 ∨ j = 1 ∨ j = 2 ∨ j = 3 ∨ j = 4 ∨ j = 5 by omega) with rfl | rfl | rfl | rfl | rfl | rfl <;> rfl) (Nat.le_of_ble_eq_true rfl) (Nat.le_of_ble_eq_true rfl) dX4_init_5 (fun q0 H Z => ?_)
  refine lv_dup hx hb dX4_init_8 rfl ?_
  refine kci (As := []) (wr := [(x, .inr (4, [.null, .null, .null, .int 0, .null, .null]))]) (w0 := [(q0, .inr (2, [.null, .null, .null, .null, .null, .int 0]))]) Fc hE hA Z (c_X2_init tF tL tH l D cI cS q0) mZ_RX2 mL_RX4_9 mI_X2_init mC_X2_init rfl rfl rfl (by decide +kernel) ⟨Nat.le_of_ble_eq_true rfl, Nat.le_of_ble_eq_true rfl⟩ ⟨Nat.le_of_ble_eq_true rfl, Nat.le_of_ble_eq_true rfl⟩ rfl hl (Nat.le_of_ble_eq_true rfl) dX4_init_9 rfl (fun s0 H locs hs0 Z => ?_)
  refine kputF (v := .ref q0) (ty := .object "LibraryCirculation$State") (w' := ([(x, .inr (4, [.ref q0, .null, .null, .int 0, .null, .null]))] ++ stW s0 0 cI st0)) Fc hin Z inX4 tyX4 tyX4_ok nmX4 0 rfl rfl 0 (by decide) mF_RX4_10 rfl rfl rfl rfl rfl rfl (Nat.le_of_ble_eq_true rfl) rfl dX4_init_12 (fun H locs Z => ?_)
  refine lv_aload_n hx hb dX4_init_15 rfl (lv_at hl 0 rfl) ?_
  refine knew (fs := [.null, .null, .null, .null, .null, .int 0]) Fc hA Z inX2 tyX2 tyX2_ok mN_RX4_7 mB_RX2 mZ_RX2 (ci := 2) rfl (fun j hj => by rcases (show j = 0 ∨ j = 1 ∨ j = 2 ∨ j = 3 ∨ j = 4 ∨ j = 5 by omega) with rfl | rfl | rfl | rfl | rfl | rfl <;> rfl) (Nat.le_of_ble_eq_true rfl) (Nat.le_of_ble_eq_true rfl) dX4_init_16 (fun q1 H Z => ?_)
  refine lv_dup hx hb dX4_init_19 rfl ?_
  refine kci (As := []) (wr := ([(x, .inr (4, [.ref q0, .null, .null, .int 0, .null, .null]))] ++ stW s0 0 cI st0)) (w0 := [(q1, .inr (2, [.null, .null, .null, .null, .null, .int 0]))]) Fc hE hA Z (c_X2_init tF tL tH l D cI cS q1) mZ_RX2 mL_RX4_9 mI_X2_init mC_X2_init rfl rfl rfl (by decide +kernel) ⟨Nat.le_of_ble_eq_true rfl, Nat.le_of_ble_eq_true rfl⟩ ⟨Nat.le_of_ble_eq_true rfl, Nat.le_of_ble_eq_true rfl⟩ rfl hl (Nat.le_of_ble_eq_true rfl) dX4_init_20 rfl (fun s1 H locs hs1 Z => ?_)
  refine kputF (v := .ref q1) (ty := .object "LibraryCirculation$State") (w' := (([(x, .inr (4, [.ref q0, .ref q1, .null, .int 0, .null, .null]))] ++ stW s0 0 cI st0) ++ stW s1 0 cI st0)) Fc hin Z inX4 tyX4 tyX4_ok nmX4 0 rfl rfl 1 (by decide) mF_RX4_16 rfl rfl rfl rfl rfl rfl (Nat.le_of_ble_eq_true rfl) rfl dX4_init_23 (fun H locs Z => ?_)
  refine lv_aload_n hx hb dX4_init_26 rfl (lv_at hl 0 rfl) ?_
  refine knew (fs := [.null, .null, .null, .null, .null, .int 0]) Fc hA Z inX2 tyX2 tyX2_ok mN_RX4_7 mB_RX2 mZ_RX2 (ci := 2) rfl (fun j hj => by rcases (show j = 0 ∨ j = 1 ∨ j = 2 ∨ j = 3 ∨ j = 4 ∨ j = 5 by omega) with rfl | rfl | rfl | rfl | rfl | rfl <;> rfl) (Nat.le_of_ble_eq_true rfl) (Nat.le_of_ble_eq_true rfl) dX4_init_27 (fun q2 H Z => ?_)
  refine lv_dup hx hb dX4_init_30 rfl ?_
  refine kci (As := []) (wr := (([(x, .inr (4, [.ref q0, .ref q1, .null, .int 0, .null, .null]))] ++ stW s0 0 cI st0) ++ stW s1 0 cI st0)) (w0 := [(q2, .inr (2, [.null, .null, .null, .null, .null, .int 0]))]) Fc hE hA Z (c_X2_init tF tL tH l D cI cS q2) mZ_RX2 mL_RX4_9 mI_X2_init mC_X2_init rfl rfl rfl (by decide +kernel) ⟨Nat.le_of_ble_eq_true rfl, Nat.le_of_ble_eq_true rfl⟩ ⟨Nat.le_of_ble_eq_true rfl, Nat.le_of_ble_eq_true rfl⟩ rfl hl (Nat.le_of_ble_eq_true rfl) dX4_init_31 rfl (fun s2 H locs hs2 Z => ?_)
  refine kputF (v := .ref q2) (ty := .object "LibraryCirculation$State") (w' := ((([(x, .inr (4, [.ref q0, .ref q1, .ref q2, .int 0, .null, .null]))] ++ stW s0 0 cI st0) ++ stW s1 0 cI st0) ++ stW s2 0 cI st0)) Fc hin Z inX4 tyX4 tyX4_ok nmX4 0 rfl rfl 2 (by decide) mF_RX4_19 rfl rfl rfl rfl rfl rfl (Nat.le_of_ble_eq_true rfl) rfl dX4_init_34 (fun H locs Z => ?_)
  refine lv_aload_n hx hb dX4_init_37 rfl (lv_at hl 0 rfl) ?_
  refine lv_iconst (v := (0 : Int32)) hx hb dX4_init_38 (by decide) ?_
  refine kput (v := .int 0) (ty := .boolean) (w' := ((([(x, .inr (4, [.ref q0, .ref q1, .ref q2, .int 0, .null, .null]))] ++ stW s0 0 cI st0) ++ stW s1 0 cI st0) ++ stW s2 0 cI st0)) Fc Z inX4 tyX4 tyX4_ok nmX4 0 rfl rfl 3 (by decide) mF_RX4_22 rfl rfl rfl (bi_nar false) (bi_fit false) (Nat.le_of_ble_eq_true rfl) rfl dX4_init_39 (fun H locs Z => ?_)
  refine lv_aload_n hx hb dX4_init_42 rfl (lv_at hl 0 rfl) ?_
  refine knew (fs := [.null, .int 0, .int 0]) Fc hA Z inX1 tyX1 tyX1_ok mN_RX4_26 mB_RX1 mZ_RX1 (ci := 1) rfl (fun j hj => by rcases (show j = 0 ∨ j = 1 ∨ j = 2 by omega) with rfl | rfl | rfl <;> rfl) (Nat.le_of_ble_eq_true rfl) (Nat.le_of_ble_eq_true rfl) dX4_init_43 (fun h H Z => ?_)
  refine lv_dup hx hb dX4_init_46 rfl ?_
  refine kci (As := []) (wr := ((([(x, .inr (4, [.ref q0, .ref q1, .ref q2, .int 0, .null, .null]))] ++ stW s0 0 cI st0) ++ stW s1 0 cI st0) ++ stW s2 0 cI st0)) (w0 := [(h, .inr (1, [.null, .int 0, .int 0]))]) Fc hE hA Z (c_X1_init tF tL tH l D cI cS h) mZ_RX1 mL_RX4_28 mI_X1_init mC_X1_init rfl rfl rfl (by decide +kernel) ⟨Nat.le_of_ble_eq_true rfl, Nat.le_of_ble_eq_true rfl⟩ ⟨Nat.le_of_ble_eq_true rfl, Nat.le_of_ble_eq_true rfl⟩ rfl hl (Nat.le_of_ble_eq_true rfl) dX4_init_47 rfl (fun u H locs _ Z => ?_)
  obtain ⟨ha, sd⟩ := u
  refine kputF (v := .ref h) (ty := .object "LibraryCirculation$History") (w' := (((([(x, .inr (4, [.ref q0, .ref q1, .ref q2, .int 0, .ref h, .null]))] ++ stW s0 0 cI st0) ++ stW s1 0 cI st0) ++ stW s2 0 cI st0) ++ (hk h ha cS (fk sd 8) ++ gk sd cI 8))) Fc hin Z inX4 tyX4 tyX4_ok nmX4 0 rfl rfl 4 (by decide) mF_RX4_29 rfl rfl rfl rfl rfl rfl (Nat.le_of_ble_eq_true rfl) rfl dX4_init_50 (fun H locs Z => ?_)
  refine lv_aload_n hx hb dX4_init_53 rfl (lv_at hl 0 rfl) ?_
  refine knew (fs := [.null, .int 0, .int 0, .null]) Fc hA Z inX0 tyX0 tyX0_ok mN_RX4_33 mB_RX0 mZ_RX0 (ci := 0) rfl (fun j hj => by rcases (show j = 0 ∨ j = 1 ∨ j = 2 ∨ j = 3 by omega) with rfl | rfl | rfl | rfl <;> rfl) (Nat.le_of_ble_eq_true rfl) (Nat.le_of_ble_eq_true rfl) dX4_init_54 (fun tx H Z => ?_)
  refine lv_dup hx hb dX4_init_57 rfl ?_
  refine kciN (host := "LibraryCirculation") (As := []) (wr := (((([(x, .inr (4, [.ref q0, .ref q1, .ref q2, .int 0, .ref h, .null]))] ++ stW s0 0 cI st0) ++ stW s1 0 cI st0) ++ stW s2 0 cI st0) ++ (hk h ha cS (fk sd 8) ++ gk sd cI 8))) (w0 := [(tx, .inr (0, [.null, .int 0, .int 0, .null]))]) Fc hE hA Z (c_X0_init tF tL tH l D cI cS tx) mZ_RX0 (List.mem_of_getElem? (i := 7) rfl) mI_X0_init mC_X0_init rfl rfl rfl (by decide +kernel) ⟨Nat.le_of_ble_eq_true rfl, Nat.le_of_ble_eq_true rfl⟩ ⟨Nat.le_of_ble_eq_true rfl, Nat.le_of_ble_eq_true rfl⟩ rfl hl (Nat.le_of_ble_eq_true rfl) dX4_init_58 rfl (fun u H locs _ Z => ?_)
  obtain ⟨la, ct, ca⟩ := u
  refine kputF (v := .ref tx) (ty := .object "LibraryCirculation$CommandText") (w' := ((((([(x, .inr (4, [.ref q0, .ref q1, .ref q2, .int 0, .ref h, .ref tx]))] ++ stW s0 0 cI st0) ++ stW s1 0 cI st0) ++ stW s2 0 cI st0) ++ (hk h ha cS (fk sd 8) ++ gk sd cI 8)) ++ xWa tx la ct ca cI xs0)) Fc hin Z inX4 tyX4 tyX4_ok nmX4 0 rfl rfl 5 (by decide) mF_RX4_36 rfl rfl rfl rfl rfl rfl (Nat.le_of_ble_eq_true rfl) rfl dX4_init_61 (fun H locs Z => ?_)
  have Z : Ix D A s (fW (adC x s0 s1 s2 h ha sd tx la ct ca) cI cS fs0) H locs := by
    rw [fW_init, hs0, hs1, hs2]
    refine Z.arrq 35 rfl (fun j => some (adC x s0 s1 s2 h ha sd tx la ct ca (36 + 11 * j))) (fun j hj => ?_) rfl
    unfold fk adC
    rw [if_pos hj, if_neg (by omega), if_neg (by omega), if_neg (by omega), if_neg (by omega), if_neg (by omega), if_neg (by omega), if_pos (by omega)]
    have a1 : (36 + 11 * j - 36) / 11 = j := by omega
    have a2 : (36 + 11 * j - 36) % 11 = 0 := by omega
    rw [a1, a2]
  exact kret (adC x s0 s1 s2 h ha sd tx la ct ca) _ _ _ _ _ _ (Nat.le_of_ble_eq_true rfl) (Nat.le_of_ble_eq_true rfl) rfl Z dX4_init_64
def rn0 : Nat → Int32 := (va_up (va_up (va_up (va_up (va_up (va_up (va_up (va_up (fun _ => 0) (5 : Int32).toNatClampNeg 14) (6 : Int32).toNatClampNeg 5) (7 : Int32).toNatClampNeg 25) (8 : Int32).toNatClampNeg 500) (9 : Int32).toNatClampNeg 1000) (10 : Int32).toNatClampNeg 7) (11 : Int32).toNatClampNeg 3000) (12 : Int32).toNatClampNeg 60)
def ms0 : Ms := ((va_up (fun _ => fun _ => 0) 0 rn0, fun _ => 0), (false, false))
def rm_X5_init : Room := { frames := 1, cells := 6, slots := 7554, locals := 40 }
set_option maxHeartbeats 16000000 in
set_option maxRecDepth 100000 in
theorem c_X5_init (tF tL tH : Nat) (l : Launch) (D : va_G) (cI cS : ClassId) (x : Nat) : MVE tF tL tH l yX5_init cX5_init 1 rm_X5_init D cI cS [.ref x] [(x, .inr (5, [.null, .null, .null, .null, .int 0, .int 0, .null, .null, .int 0, .int 0, .int 0]))] (fun am : Nat → Nat => mW am cI ms0) (fun am => am 0 = x) 6 7554 := by
  refine MVE.mk RX5 rfl (by decide) (Nat.le_of_ble_eq_true rfl) ?_
  intro p e s m args below meth c A Q ls Fc hin hE hA Z kret hl
  obtain ⟨hx, hb, hml, hown, hts, hKN⟩ := id Fc
  replace hl : lv_has ls 1 [(0, .ref x)] := hl
  refine lv_aload_n hx hb dX5_init_0 rfl (lv_at hl 0 rfl) ?_
  refine kobj Fc hl mL_RX5_5 (Nat.le_of_ble_eq_true rfl) (Nat.le_of_ble_eq_true rfl) dX5_init_1 ?_
  refine lv_aload_n hx hb dX5_init_4 rfl (lv_at hl 0 rfl) ?_
  refine lv_sipush (v := (681 : Int32)) hx hb dX5_init_5 (by decide) ?_
  refine knewa (N' := 681) Fc hA Z (by decide) (by decide) (by decide) (Nat.le_of_ble_eq_true rfl) (Nat.le_of_ble_eq_true rfl) dX5_init_8 (fun a0 H Z => ?_)
  refine kputF (v := .ref a0) (ty := .array .int) (w' := [(x, .inr (5, [.ref a0, .null, .null, .null, .int 0, .int 0, .null, .null, .int 0, .int 0, .int 0])), (a0, .inl (cI, 681, .inl (fun _ => 0)))]) Fc hin Z inX5 tyX5 tyX5_ok nmX5 0 rfl rfl 0 (by decide) mF_RX5_11 rfl rfl rfl rfl rfl rfl (Nat.le_of_ble_eq_true rfl) rfl dX5_init_10 (fun H locs Z => ?_)
  refine lv_aload_n hx hb dX5_init_13 rfl (lv_at hl 0 rfl) ?_
  refine lv_sipush (v := (681 : Int32)) hx hb dX5_init_14 (by decide) ?_
  refine knewa (N' := 681) Fc hA Z (by decide) (by decide) (by decide) (Nat.le_of_ble_eq_true rfl) (Nat.le_of_ble_eq_true rfl) dX5_init_17 (fun a1 H Z => ?_)
  refine kputF (v := .ref a1) (ty := .array .int) (w' := [(x, .inr (5, [.ref a0, .ref a1, .null, .null, .int 0, .int 0, .null, .null, .int 0, .int 0, .int 0])), (a0, .inl (cI, 681, .inl (fun _ => 0))), (a1, .inl (cI, 681, .inl (fun _ => 0)))]) Fc hin Z inX5 tyX5 tyX5_ok nmX5 0 rfl rfl 1 (by decide) mF_RX5_15 rfl rfl rfl rfl rfl rfl (Nat.le_of_ble_eq_true rfl) rfl dX5_init_19 (fun H locs Z => ?_)
  refine lv_aload_n hx hb dX5_init_22 rfl (lv_at hl 0 rfl) ?_
  refine lv_sipush (v := (681 : Int32)) hx hb dX5_init_23 (by decide) ?_
  refine knewa (N' := 681) Fc hA Z (by decide) (by decide) (by decide) (Nat.le_of_ble_eq_true rfl) (Nat.le_of_ble_eq_true rfl) dX5_init_26 (fun a2 H Z => ?_)
  refine kputF (v := .ref a2) (ty := .array .int) (w' := [(x, .inr (5, [.ref a0, .ref a1, .ref a2, .null, .int 0, .int 0, .null, .null, .int 0, .int 0, .int 0])), (a0, .inl (cI, 681, .inl (fun _ => 0))), (a1, .inl (cI, 681, .inl (fun _ => 0))), (a2, .inl (cI, 681, .inl (fun _ => 0)))]) Fc hin Z inX5 tyX5 tyX5_ok nmX5 0 rfl rfl 2 (by decide) mF_RX5_18 rfl rfl rfl rfl rfl rfl (Nat.le_of_ble_eq_true rfl) rfl dX5_init_28 (fun H locs Z => ?_)
  refine lv_aload_n hx hb dX5_init_31 rfl (lv_at hl 0 rfl) ?_
  refine lv_sipush (v := (5448 : Int32)) hx hb dX5_init_32 (by decide) ?_
  refine knewa (N' := 5448) Fc hA Z (by decide) (by decide) (by decide) (Nat.le_of_ble_eq_true rfl) (Nat.le_of_ble_eq_true rfl) dX5_init_35 (fun a3 H Z => ?_)
  refine kputF (v := .ref a3) (ty := .array .int) (w' := [(x, .inr (5, [.ref a0, .ref a1, .ref a2, .ref a3, .int 0, .int 0, .null, .null, .int 0, .int 0, .int 0])), (a0, .inl (cI, 681, .inl (fun _ => 0))), (a1, .inl (cI, 681, .inl (fun _ => 0))), (a2, .inl (cI, 681, .inl (fun _ => 0))), (a3, .inl (cI, 5448, .inl (fun _ => 0)))]) Fc hin Z inX5 tyX5 tyX5_ok nmX5 0 rfl rfl 3 (by decide) mF_RX5_21 rfl rfl rfl rfl rfl rfl (Nat.le_of_ble_eq_true rfl) rfl dX5_init_37 (fun H locs Z => ?_)
  refine lv_aload_n hx hb dX5_init_40 rfl (lv_at hl 0 rfl) ?_
  refine lv_iconst (v := (0 : Int32)) hx hb dX5_init_41 (by decide) ?_
  refine kput (v := .int 0) (ty := .int) (w' := [(x, .inr (5, [.ref a0, .ref a1, .ref a2, .ref a3, .int 0, .int 0, .null, .null, .int 0, .int 0, .int 0])), (a0, .inl (cI, 681, .inl (fun _ => 0))), (a1, .inl (cI, 681, .inl (fun _ => 0))), (a2, .inl (cI, 681, .inl (fun _ => 0))), (a3, .inl (cI, 5448, .inl (fun _ => 0)))]) Fc Z inX5 tyX5 tyX5_ok nmX5 0 rfl rfl 4 (by decide) mF_RX5_24 rfl rfl rfl rfl rfl (Nat.le_of_ble_eq_true rfl) rfl dX5_init_42 (fun H locs Z => ?_)
  refine lv_aload_n hx hb dX5_init_45 rfl (lv_at hl 0 rfl) ?_
  refine lv_iconst (v := (0 : Int32)) hx hb dX5_init_46 (by decide) ?_
  refine kput (v := .int 0) (ty := .boolean) (w' := [(x, .inr (5, [.ref a0, .ref a1, .ref a2, .ref a3, .int 0, .int 0, .null, .null, .int 0, .int 0, .int 0])), (a0, .inl (cI, 681, .inl (fun _ => 0))), (a1, .inl (cI, 681, .inl (fun _ => 0))), (a2, .inl (cI, 681, .inl (fun _ => 0))), (a3, .inl (cI, 5448, .inl (fun _ => 0)))]) Fc Z inX5 tyX5 tyX5_ok nmX5 0 rfl rfl 5 (by decide) mF_RX5_28 rfl rfl rfl (bi_nar false) (bi_fit false) (Nat.le_of_ble_eq_true rfl) rfl dX5_init_47 (fun H locs Z => ?_)
  refine lv_aload_n hx hb dX5_init_50 rfl (lv_at hl 0 rfl) ?_
  refine lv_bipush (v := (60 : Int32)) hx hb dX5_init_51 (by decide) ?_
  refine knewa (N' := 60) Fc hA Z (by decide) (by decide) (by decide) (Nat.le_of_ble_eq_true rfl) (Nat.le_of_ble_eq_true rfl) dX5_init_53 (fun a4 H Z => ?_)
  refine kputF (v := .ref a4) (ty := .array .int) (w' := [(x, .inr (5, [.ref a0, .ref a1, .ref a2, .ref a3, .int 0, .int 0, .ref a4, .null, .int 0, .int 0, .int 0])), (a0, .inl (cI, 681, .inl (fun _ => 0))), (a1, .inl (cI, 681, .inl (fun _ => 0))), (a2, .inl (cI, 681, .inl (fun _ => 0))), (a3, .inl (cI, 5448, .inl (fun _ => 0))), (a4, .inl (cI, 60, .inl (fun _ => 0)))]) Fc hin Z inX5 tyX5 tyX5_ok nmX5 0 rfl rfl 6 (by decide) mF_RX5_32 rfl rfl rfl rfl rfl rfl (Nat.le_of_ble_eq_true rfl) rfl dX5_init_55 (fun H locs Z => ?_)
  refine lv_aload_n hx hb dX5_init_58 rfl (lv_at hl 0 rfl) ?_
  refine lv_iconst (v := (3 : Int32)) hx hb dX5_init_59 (by decide) ?_
  refine knewa (N' := 3) Fc hA Z (by decide) (by decide) (by decide) (Nat.le_of_ble_eq_true rfl) (Nat.le_of_ble_eq_true rfl) dX5_init_60 (fun a5 H Z => ?_)
  refine kputF (v := .ref a5) (ty := .array .int) (w' := [(x, .inr (5, [.ref a0, .ref a1, .ref a2, .ref a3, .int 0, .int 0, .ref a4, .ref a5, .int 0, .int 0, .int 0])), (a0, .inl (cI, 681, .inl (fun _ => 0))), (a1, .inl (cI, 681, .inl (fun _ => 0))), (a2, .inl (cI, 681, .inl (fun _ => 0))), (a3, .inl (cI, 5448, .inl (fun _ => 0))), (a4, .inl (cI, 60, .inl (fun _ => 0))), (a5, .inl (cI, 3, .inl (fun _ => 0)))]) Fc hin Z inX5 tyX5 tyX5_ok nmX5 0 rfl rfl 7 (by decide) mF_RX5_35 rfl rfl rfl rfl rfl rfl (Nat.le_of_ble_eq_true rfl) rfl dX5_init_62 (fun H locs Z => ?_)
  refine lv_aload_n hx hb dX5_init_65 rfl (lv_at hl 0 rfl) ?_
  refine lv_iconst (v := (0 : Int32)) hx hb dX5_init_66 (by decide) ?_
  refine kput (v := .int 0) (ty := .int) (w' := [(x, .inr (5, [.ref a0, .ref a1, .ref a2, .ref a3, .int 0, .int 0, .ref a4, .ref a5, .int 0, .int 0, .int 0])), (a0, .inl (cI, 681, .inl (fun _ => 0))), (a1, .inl (cI, 681, .inl (fun _ => 0))), (a2, .inl (cI, 681, .inl (fun _ => 0))), (a3, .inl (cI, 5448, .inl (fun _ => 0))), (a4, .inl (cI, 60, .inl (fun _ => 0))), (a5, .inl (cI, 3, .inl (fun _ => 0)))]) Fc Z inX5 tyX5 tyX5_ok nmX5 0 rfl rfl 8 (by decide) mF_RX5_38 rfl rfl rfl rfl rfl (Nat.le_of_ble_eq_true rfl) rfl dX5_init_67 (fun H locs Z => ?_)
  refine lv_aload_n hx hb dX5_init_70 rfl (lv_at hl 0 rfl) ?_
  refine lv_iconst (v := (0 : Int32)) hx hb dX5_init_71 (by decide) ?_
  refine kput (v := .int 0) (ty := .int) (w' := [(x, .inr (5, [.ref a0, .ref a1, .ref a2, .ref a3, .int 0, .int 0, .ref a4, .ref a5, .int 0, .int 0, .int 0])), (a0, .inl (cI, 681, .inl (fun _ => 0))), (a1, .inl (cI, 681, .inl (fun _ => 0))), (a2, .inl (cI, 681, .inl (fun _ => 0))), (a3, .inl (cI, 5448, .inl (fun _ => 0))), (a4, .inl (cI, 60, .inl (fun _ => 0))), (a5, .inl (cI, 3, .inl (fun _ => 0)))]) Fc Z inX5 tyX5 tyX5_ok nmX5 0 rfl rfl 9 (by decide) mF_RX5_41 rfl rfl rfl rfl rfl (Nat.le_of_ble_eq_true rfl) rfl dX5_init_72 (fun H locs Z => ?_)
  refine lv_aload_n hx hb dX5_init_75 rfl (lv_at hl 0 rfl) ?_
  refine lv_iconst (v := (0 : Int32)) hx hb dX5_init_76 (by decide) ?_
  refine kput (v := .int 0) (ty := .boolean) (w' := [(x, .inr (5, [.ref a0, .ref a1, .ref a2, .ref a3, .int 0, .int 0, .ref a4, .ref a5, .int 0, .int 0, .int 0])), (a0, .inl (cI, 681, .inl (fun _ => 0))), (a1, .inl (cI, 681, .inl (fun _ => 0))), (a2, .inl (cI, 681, .inl (fun _ => 0))), (a3, .inl (cI, 5448, .inl (fun _ => 0))), (a4, .inl (cI, 60, .inl (fun _ => 0))), (a5, .inl (cI, 3, .inl (fun _ => 0)))]) Fc Z inX5 tyX5 tyX5_ok nmX5 0 rfl rfl 10 (by decide) mF_RX5_44 rfl rfl rfl (bi_nar false) (bi_fit false) (Nat.le_of_ble_eq_true rfl) rfl dX5_init_77 (fun H locs Z => ?_)
  refine lv_aload_n hx hb dX5_init_80 rfl (lv_at hl 0 rfl) ?_
  refine kget Fc Z inX5 0 rfl rfl 0 (by decide) mF_RX5_11 rfl rfl dX5_init_81 ?_
  refine lv_iconst (v := (5 : Int32)) hx hb dX5_init_84 (by decide) ?_
  refine lv_bipush (v := (14 : Int32)) hx hb dX5_init_85 (by decide) ?_
  refine kast (g := (va_up (fun _ => 0) (5 : Int32).toNatClampNeg 14)) (w' := [(x, .inr (5, [.ref a0, .ref a1, .ref a2, .ref a3, .int 0, .int 0, .ref a4, .ref a5, .int 0, .int 0, .int 0])), (a0, .inl (cI, 681, .inl (va_up (fun _ => 0) (5 : Int32).toNatClampNeg 14))), (a1, .inl (cI, 681, .inl (fun _ => 0))), (a2, .inl (cI, 681, .inl (fun _ => 0))), (a3, .inl (cI, 5448, .inl (fun _ => 0))), (a4, .inl (cI, 60, .inl (fun _ => 0))), (a5, .inl (cI, 3, .inl (fun _ => 0)))]) Fc Z 1 rfl (by unfold wrA; rw [if_neg (by decide)]) rfl dX5_init_87 (fun H locs Z => ?_)
  refine lv_aload_n hx hb dX5_init_88 rfl (lv_at hl 0 rfl) ?_
  refine kget Fc Z inX5 0 rfl rfl 0 (by decide) mF_RX5_11 rfl rfl dX5_init_89 ?_
  refine lv_bipush (v := (6 : Int32)) hx hb dX5_init_92 (by decide) ?_
  refine lv_iconst (v := (5 : Int32)) hx hb dX5_init_94 (by decide) ?_
  refine kast (g := (va_up (va_up (fun _ => 0) (5 : Int32).toNatClampNeg 14) (6 : Int32).toNatClampNeg 5)) (w' := [(x, .inr (5, [.ref a0, .ref a1, .ref a2, .ref a3, .int 0, .int 0, .ref a4, .ref a5, .int 0, .int 0, .int 0])), (a0, .inl (cI, 681, .inl (va_up (va_up (fun _ => 0) (5 : Int32).toNatClampNeg 14) (6 : Int32).toNatClampNeg 5))), (a1, .inl (cI, 681, .inl (fun _ => 0))), (a2, .inl (cI, 681, .inl (fun _ => 0))), (a3, .inl (cI, 5448, .inl (fun _ => 0))), (a4, .inl (cI, 60, .inl (fun _ => 0))), (a5, .inl (cI, 3, .inl (fun _ => 0)))]) Fc Z 1 rfl (by unfold wrA; rw [if_neg (by decide)]) rfl dX5_init_95 (fun H locs Z => ?_)
  refine lv_aload_n hx hb dX5_init_96 rfl (lv_at hl 0 rfl) ?_
  refine kget Fc Z inX5 0 rfl rfl 0 (by decide) mF_RX5_11 rfl rfl dX5_init_97 ?_
  refine lv_bipush (v := (7 : Int32)) hx hb dX5_init_100 (by decide) ?_
  refine lv_bipush (v := (25 : Int32)) hx hb dX5_init_102 (by decide) ?_
  refine kast (g := (va_up (va_up (va_up (fun _ => 0) (5 : Int32).toNatClampNeg 14) (6 : Int32).toNatClampNeg 5) (7 : Int32).toNatClampNeg 25)) (w' := [(x, .inr (5, [.ref a0, .ref a1, .ref a2, .ref a3, .int 0, .int 0, .ref a4, .ref a5, .int 0, .int 0, .int 0])), (a0, .inl (cI, 681, .inl (va_up (va_up (va_up (fun _ => 0) (5 : Int32).toNatClampNeg 14) (6 : Int32).toNatClampNeg 5) (7 : Int32).toNatClampNeg 25))), (a1, .inl (cI, 681, .inl (fun _ => 0))), (a2, .inl (cI, 681, .inl (fun _ => 0))), (a3, .inl (cI, 5448, .inl (fun _ => 0))), (a4, .inl (cI, 60, .inl (fun _ => 0))), (a5, .inl (cI, 3, .inl (fun _ => 0)))]) Fc Z 1 rfl (by unfold wrA; rw [if_neg (by decide)]) rfl dX5_init_104 (fun H locs Z => ?_)
  refine lv_aload_n hx hb dX5_init_105 rfl (lv_at hl 0 rfl) ?_
  refine kget Fc Z inX5 0 rfl rfl 0 (by decide) mF_RX5_11 rfl rfl dX5_init_106 ?_
  refine lv_bipush (v := (8 : Int32)) hx hb dX5_init_109 (by decide) ?_
  refine lv_sipush (v := (500 : Int32)) hx hb dX5_init_111 (by decide) ?_
  refine kast (g := (va_up (va_up (va_up (va_up (fun _ => 0) (5 : Int32).toNatClampNeg 14) (6 : Int32).toNatClampNeg 5) (7 : Int32).toNatClampNeg 25) (8 : Int32).toNatClampNeg 500)) (w' := [(x, .inr (5, [.ref a0, .ref a1, .ref a2, .ref a3, .int 0, .int 0, .ref a4, .ref a5, .int 0, .int 0, .int 0])), (a0, .inl (cI, 681, .inl (va_up (va_up (va_up (va_up (fun _ => 0) (5 : Int32).toNatClampNeg 14) (6 : Int32).toNatClampNeg 5) (7 : Int32).toNatClampNeg 25) (8 : Int32).toNatClampNeg 500))), (a1, .inl (cI, 681, .inl (fun _ => 0))), (a2, .inl (cI, 681, .inl (fun _ => 0))), (a3, .inl (cI, 5448, .inl (fun _ => 0))), (a4, .inl (cI, 60, .inl (fun _ => 0))), (a5, .inl (cI, 3, .inl (fun _ => 0)))]) Fc Z 1 rfl (by unfold wrA; rw [if_neg (by decide)]) rfl dX5_init_114 (fun H locs Z => ?_)
  refine lv_aload_n hx hb dX5_init_115 rfl (lv_at hl 0 rfl) ?_
  refine kget Fc Z inX5 0 rfl rfl 0 (by decide) mF_RX5_11 rfl rfl dX5_init_116 ?_
  refine lv_bipush (v := (9 : Int32)) hx hb dX5_init_119 (by decide) ?_
  refine lv_sipush (v := (1000 : Int32)) hx hb dX5_init_121 (by decide) ?_
  refine kast (g := (va_up (va_up (va_up (va_up (va_up (fun _ => 0) (5 : Int32).toNatClampNeg 14) (6 : Int32).toNatClampNeg 5) (7 : Int32).toNatClampNeg 25) (8 : Int32).toNatClampNeg 500) (9 : Int32).toNatClampNeg 1000)) (w' := [(x, .inr (5, [.ref a0, .ref a1, .ref a2, .ref a3, .int 0, .int 0, .ref a4, .ref a5, .int 0, .int 0, .int 0])), (a0, .inl (cI, 681, .inl (va_up (va_up (va_up (va_up (va_up (fun _ => 0) (5 : Int32).toNatClampNeg 14) (6 : Int32).toNatClampNeg 5) (7 : Int32).toNatClampNeg 25) (8 : Int32).toNatClampNeg 500) (9 : Int32).toNatClampNeg 1000))), (a1, .inl (cI, 681, .inl (fun _ => 0))), (a2, .inl (cI, 681, .inl (fun _ => 0))), (a3, .inl (cI, 5448, .inl (fun _ => 0))), (a4, .inl (cI, 60, .inl (fun _ => 0))), (a5, .inl (cI, 3, .inl (fun _ => 0)))]) Fc Z 1 rfl (by unfold wrA; rw [if_neg (by decide)]) rfl dX5_init_124 (fun H locs Z => ?_)
  refine lv_aload_n hx hb dX5_init_125 rfl (lv_at hl 0 rfl) ?_
  refine kget Fc Z inX5 0 rfl rfl 0 (by decide) mF_RX5_11 rfl rfl dX5_init_126 ?_
  refine lv_bipush (v := (10 : Int32)) hx hb dX5_init_129 (by decide) ?_
  refine lv_bipush (v := (7 : Int32)) hx hb dX5_init_131 (by decide) ?_
  refine kast (g := (va_up (va_up (va_up (va_up (va_up (va_up (fun _ => 0) (5 : Int32).toNatClampNeg 14) (6 : Int32).toNatClampNeg 5) (7 : Int32).toNatClampNeg 25) (8 : Int32).toNatClampNeg 500) (9 : Int32).toNatClampNeg 1000) (10 : Int32).toNatClampNeg 7)) (w' := [(x, .inr (5, [.ref a0, .ref a1, .ref a2, .ref a3, .int 0, .int 0, .ref a4, .ref a5, .int 0, .int 0, .int 0])), (a0, .inl (cI, 681, .inl (va_up (va_up (va_up (va_up (va_up (va_up (fun _ => 0) (5 : Int32).toNatClampNeg 14) (6 : Int32).toNatClampNeg 5) (7 : Int32).toNatClampNeg 25) (8 : Int32).toNatClampNeg 500) (9 : Int32).toNatClampNeg 1000) (10 : Int32).toNatClampNeg 7))), (a1, .inl (cI, 681, .inl (fun _ => 0))), (a2, .inl (cI, 681, .inl (fun _ => 0))), (a3, .inl (cI, 5448, .inl (fun _ => 0))), (a4, .inl (cI, 60, .inl (fun _ => 0))), (a5, .inl (cI, 3, .inl (fun _ => 0)))]) Fc Z 1 rfl (by unfold wrA; rw [if_neg (by decide)]) rfl dX5_init_133 (fun H locs Z => ?_)
  refine lv_aload_n hx hb dX5_init_134 rfl (lv_at hl 0 rfl) ?_
  refine kget Fc Z inX5 0 rfl rfl 0 (by decide) mF_RX5_11 rfl rfl dX5_init_135 ?_
  refine lv_bipush (v := (11 : Int32)) hx hb dX5_init_138 (by decide) ?_
  refine lv_sipush (v := (3000 : Int32)) hx hb dX5_init_140 (by decide) ?_
  refine kast (g := (va_up (va_up (va_up (va_up (va_up (va_up (va_up (fun _ => 0) (5 : Int32).toNatClampNeg 14) (6 : Int32).toNatClampNeg 5) (7 : Int32).toNatClampNeg 25) (8 : Int32).toNatClampNeg 500) (9 : Int32).toNatClampNeg 1000) (10 : Int32).toNatClampNeg 7) (11 : Int32).toNatClampNeg 3000)) (w' := [(x, .inr (5, [.ref a0, .ref a1, .ref a2, .ref a3, .int 0, .int 0, .ref a4, .ref a5, .int 0, .int 0, .int 0])), (a0, .inl (cI, 681, .inl (va_up (va_up (va_up (va_up (va_up (va_up (va_up (fun _ => 0) (5 : Int32).toNatClampNeg 14) (6 : Int32).toNatClampNeg 5) (7 : Int32).toNatClampNeg 25) (8 : Int32).toNatClampNeg 500) (9 : Int32).toNatClampNeg 1000) (10 : Int32).toNatClampNeg 7) (11 : Int32).toNatClampNeg 3000))), (a1, .inl (cI, 681, .inl (fun _ => 0))), (a2, .inl (cI, 681, .inl (fun _ => 0))), (a3, .inl (cI, 5448, .inl (fun _ => 0))), (a4, .inl (cI, 60, .inl (fun _ => 0))), (a5, .inl (cI, 3, .inl (fun _ => 0)))]) Fc Z 1 rfl (by unfold wrA; rw [if_neg (by decide)]) rfl dX5_init_143 (fun H locs Z => ?_)
  refine lv_aload_n hx hb dX5_init_144 rfl (lv_at hl 0 rfl) ?_
  refine kget Fc Z inX5 0 rfl rfl 0 (by decide) mF_RX5_11 rfl rfl dX5_init_145 ?_
  refine lv_bipush (v := (12 : Int32)) hx hb dX5_init_148 (by decide) ?_
  refine lv_bipush (v := (60 : Int32)) hx hb dX5_init_150 (by decide) ?_
  refine kast (g := (va_up (va_up (va_up (va_up (va_up (va_up (va_up (va_up (fun _ => 0) (5 : Int32).toNatClampNeg 14) (6 : Int32).toNatClampNeg 5) (7 : Int32).toNatClampNeg 25) (8 : Int32).toNatClampNeg 500) (9 : Int32).toNatClampNeg 1000) (10 : Int32).toNatClampNeg 7) (11 : Int32).toNatClampNeg 3000) (12 : Int32).toNatClampNeg 60)) (w' := [(x, .inr (5, [.ref a0, .ref a1, .ref a2, .ref a3, .int 0, .int 0, .ref a4, .ref a5, .int 0, .int 0, .int 0])), (a0, .inl (cI, 681, .inl (va_up (va_up (va_up (va_up (va_up (va_up (va_up (va_up (fun _ => 0) (5 : Int32).toNatClampNeg 14) (6 : Int32).toNatClampNeg 5) (7 : Int32).toNatClampNeg 25) (8 : Int32).toNatClampNeg 500) (9 : Int32).toNatClampNeg 1000) (10 : Int32).toNatClampNeg 7) (11 : Int32).toNatClampNeg 3000) (12 : Int32).toNatClampNeg 60))), (a1, .inl (cI, 681, .inl (fun _ => 0))), (a2, .inl (cI, 681, .inl (fun _ => 0))), (a3, .inl (cI, 5448, .inl (fun _ => 0))), (a4, .inl (cI, 60, .inl (fun _ => 0))), (a5, .inl (cI, 3, .inl (fun _ => 0)))]) Fc Z 1 rfl (by unfold wrA; rw [if_neg (by decide)]) rfl dX5_init_152 (fun H locs Z => ?_)
  exact kret (fun j => [x, a0, a1, a2, a3, a4, a5].getD j 0) _ _ _ _ _ _ (Nat.le_of_ble_eq_true rfl) (Nat.le_of_ble_eq_true rfl) rfl Z dX5_init_153
