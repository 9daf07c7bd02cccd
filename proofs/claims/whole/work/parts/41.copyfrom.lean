/-! ONE TABLE OVER ANOTHER, ONE STATE OVER ANOTHER -/
theorem vp_cell_ext {cA : ClassId} {n : Nat} {f g : Nat → Int32} (h : ∀ j, j < n → f j = g j) : vp_cell cA (n, .inl f) = vp_cell cA (n, .inl g) := by
  rw [vp_cell_i, vp_cell_i]
  unfold arrV
  congr 1
  apply Array.ext
  · simp
  · intro i h1 h2
    simp only [Array.size_ofFn] at h1
    simp only [Array.getElem_ofFn, h i h1]
/-- an int array's contents beyond its length don't count -/
theorem Ix.arr {D : va_G} {A : Nat → Prop} {s : State} {w w' : va_W} {H : Heap} {locs : List Loc} {a n : Nat} {cI : ClassId} {f : Nat → Int32} (Z : Ix D A s w H locs) (q0 : Nat) (he : w[q0]? = some (a, .inl (cI, n, .inl f))) (g : Nat → Int32) (hg : ∀ j, j < n → f j = g j) (hw : w.set q0 (a, .inl (cI, n, .inl g)) = w') : Ix D A s w' H locs := by
  subst hw
  refine ⟨Z.1.set Z.2.1 he ?_ (fun _ _ => rfl), Z.2.1.set he, Z.2.2⟩
  have h := Z.1 q0 _ he
  show H[a]? = some (vp_cell cI (n, .inl g))
  rw [← vp_cell_ext hg]
  exact h
theorem jmin_self (x : Int32) : jmin x x = x := by
  unfold jmin
  split <;> rfl
def rm_X3_overwriteWith : Room := { frames := 1, cells := 0, slots := 0, locals := 60 }
theorem v_X3_overwriteWith : WdV RX3 yX3_overwriteWith cX3_overwriteWith 2 none 1 := ⟨mI_X3_overwriteWith, mS_X3_overwriteWith, mZ_RX3, mC_X3_overwriteWith, by decide +kernel⟩
set_option maxHeartbeats 8000000 in
set_option maxRecDepth 100000 in
theorem c_X3_overwriteWith (l : Launch) (D : va_G) (cI cS : ClassId) (t a t2 a2 cap cols L : Nat) (hL : L < 10000) (u v : Tab) : MV l yX3_overwriteWith cX3_overwriteWith 2 rm_X3_overwriteWith D cI cS [.ref t, .ref t2] (tbW t a cI cap cols L u ++ tbW t2 a2 cI cap cols L v) (fun w : Tab => tbW t a cI cap cols L w ++ tbW t2 a2 cI cap cols L v) (fun w => w = v ∧ True) := by
  refine MV.mk RX3 rfl (by decide) (Nat.le_of_ble_eq_true rfl) ?_
  intro p e s m args below meth c A Q ls Fc hin hA Z kret hl
  obtain ⟨hx, hb, hml, hown, hts, hKN⟩ := id Fc
  replace hl : lv_has ls 2 [(0, .ref t), (1, .ref t2)] := hl
  refine lv_aload_n hx hb dX3_overwriteWith_0 rfl (lv_at hl 1 rfl) ?_
  refine kget Fc Z inX3 2 rfl rfl 2 (by decide) mF_RX3_27 rfl rfl dX3_overwriteWith_1 ?_
  refine lv_iconst (v := (0 : Int32)) hx hb dX3_overwriteWith_4 (by decide) ?_
  refine lv_aload_n hx hb dX3_overwriteWith_5 rfl (lv_at hl 0 rfl) ?_
  refine kget Fc Z inX3 0 rfl rfl 2 (by decide) mF_RX3_27 rfl rfl dX3_overwriteWith_6 ?_
  refine lv_iconst (v := (0 : Int32)) hx hb dX3_overwriteWith_9 (by decide) ?_
  refine lv_aload_n hx hb dX3_overwriteWith_10 rfl (lv_at hl 0 rfl) ?_
  refine kget Fc Z inX3 0 rfl rfl 2 (by decide) mF_RX3_27 rfl rfl dX3_overwriteWith_11 ?_
  refine kalen (x := nI L) Fc Z 1 rfl rfl dX3_overwriteWith_14 ?_
  refine lv_aload_n hx hb dX3_overwriteWith_15 rfl (lv_at hl 1 rfl) ?_
  refine kget Fc Z inX3 2 rfl rfl 2 (by decide) mF_RX3_27 rfl rfl dX3_overwriteWith_16 ?_
  refine kalen (x := nI L) Fc Z 3 rfl rfl dX3_overwriteWith_19 ?_
  refine kmin Fc hl mL_RX3_42 (Nat.le_of_ble_eq_true rfl) (Nat.le_of_ble_eq_true rfl) ⟨Nat.zero_le _, Nat.zero_le _⟩ dX3_overwriteWith_20 ?_
  rw [jmin_self]
  refine va_copyi (D := D) hx hb (hml.trans hl.1.symm) hown (hts _ mL_RX3_45) (hts _ mV_arraycopy) (hts _ mT_arraycopy) (hts _ mZ_java_lang_System) hKN.1 Z.1 Z.2.1 Z.2.2 3 1 0 0 (ty := .int) rfl rfl rfl rfl rfl (by decide) (by decide) (nI_pos (by omega)) (by rw [nI_clamp (by omega)]; show 0 + L ≤ L; omega) (by rw [nI_clamp (by omega)]; show 0 + L ≤ L; omega) (fun _ _ => rfl) (Nat.le_of_ble_eq_true rfl) (Nat.le_of_ble_eq_true rfl) dX3_overwriteWith_23 (fun H locs hP hD hS => ?_)
  have Z : Ix D A s ((tbW t a cI cap cols L u ++ tbW t2 a2 cI cap cols L v).set 1 (a, .inl (cI, L, .inl (va_cpy v.2 u.2 0 0 (nI L).toNatClampNeg)))) H locs := ⟨hP, hD, hS⟩
  have Z : Ix D A s (tbW t a cI cap cols L (u.1, v.2) ++ tbW t2 a2 cI cap cols L v) H locs := Z.arr 1 rfl v.2 (fun j hj => by rw [nI_clamp (by omega)]; unfold va_cpy; rw [if_pos ⟨Nat.zero_le _, by omega⟩, Nat.sub_zero, Nat.zero_add]) rfl
  refine lv_aload_n hx hb dX3_overwriteWith_26 rfl (lv_at hl 0 rfl) ?_
  refine lv_aload_n hx hb dX3_overwriteWith_27 rfl (lv_at hl 1 rfl) ?_
  refine kget Fc Z inX3 2 rfl rfl 3 (by decide) mF_RX3_9 rfl rfl dX3_overwriteWith_28 ?_
  refine kput (v := .int v.1) (ty := .int) (w' := tbW t a cI cap cols L v ++ tbW t2 a2 cI cap cols L v) Fc Z inX3 tyX3 tyX3_ok nmX3 0 rfl rfl 3 (by decide) mF_RX3_9 rfl rfl rfl rfl rfl (Nat.le_of_ble_eq_true rfl) rfl dX3_overwriteWith_31 (fun H locs Z => ?_)
  exact kret v _ _ _ _ ⟨rfl, trivial⟩ Z dX3_overwriteWith_34
def rm_X2_copyFrom : Room := { frames := 2, cells := 0, slots := 0, locals := 81 }
theorem v_X2_copyFrom : WdV RX2 yX2_copyFrom cX2_copyFrom 2 none 1 := ⟨mI_X2_copyFrom, mS_X2_copyFrom, mZ_RX2, mC_X2_copyFrom, by decide +kernel⟩
theorem Lens.s0 {D : va_G} {A : Nat → Prop} {s : State} {ad : Nat → Nat} {b b2 : Nat} {cI : ClassId} {τ τ2 : St} : Lens D A s (stW ad b cI τ ++ stW ad b2 cI τ2) (fun u : Tab => (tbW (ad (b + 1)) (ad (b + 2)) cI 20 12 (20 * 12) u ++ tbW (ad (b2 + 1)) (ad (b2 + 2)) cI 20 12 (20 * 12) (τ2.1 0))) (τ.1 0) (fun u => stW ad b cI (stT τ 0 u) ++ stW ad b2 cI τ2) :=
  ⟨[0, 3, 4, 5, 6, 7, 8, 9, 10, 11, 14, 15, 16, 17, 18, 19, 20, 21].filterMap (fun i => (stW ad b cI τ ++ stW ad b2 cI τ2)[i]?), fun _ _ Z => Ix.sub (w' := (tbW (ad (b + 1)) (ad (b + 2)) cI 20 12 (20 * 12) (τ.1 0) ++ tbW (ad (b2 + 1)) (ad (b2 + 2)) cI 20 12 (20 * 12) (τ2.1 0)) ++ [0, 3, 4, 5, 6, 7, 8, 9, 10, 11, 14, 15, 16, 17, 18, 19, 20, 21].filterMap (fun i => (stW ad b cI τ ++ stW ad b2 cI τ2)[i]?)) Z [1, 2, 12, 13, 0, 3, 4, 5, 6, 7, 8, 9, 10, 11, 14, 15, 16, 17, 18, 19, 20, 21] (by decide) rfl,
   fun _ _ Z => Ix.sub (w := (tbW (ad (b + 1)) (ad (b + 2)) cI 20 12 (20 * 12) (τ.1 0) ++ tbW (ad (b2 + 1)) (ad (b2 + 2)) cI 20 12 (20 * 12) (τ2.1 0)) ++ [0, 3, 4, 5, 6, 7, 8, 9, 10, 11, 14, 15, 16, 17, 18, 19, 20, 21].filterMap (fun i => (stW ad b cI τ ++ stW ad b2 cI τ2)[i]?)) Z [4, 0, 1, 5, 6, 7, 8, 9, 10, 11, 12, 13, 2, 3, 14, 15, 16, 17, 18, 19, 20, 21] (by decide) rfl,
   fun u _ _ Z => Ix.sub (w := (tbW (ad (b + 1)) (ad (b + 2)) cI 20 12 (20 * 12) u ++ tbW (ad (b2 + 1)) (ad (b2 + 2)) cI 20 12 (20 * 12) (τ2.1 0)) ++ [0, 3, 4, 5, 6, 7, 8, 9, 10, 11, 14, 15, 16, 17, 18, 19, 20, 21].filterMap (fun i => (stW ad b cI τ ++ stW ad b2 cI τ2)[i]?)) Z [4, 0, 1, 5, 6, 7, 8, 9, 10, 11, 12, 13, 2, 3, 14, 15, 16, 17, 18, 19, 20, 21] (by decide) rfl⟩
theorem Lens.s1 {D : va_G} {A : Nat → Prop} {s : State} {ad : Nat → Nat} {b b2 : Nat} {cI : ClassId} {τ τ2 : St} : Lens D A s (stW ad b cI τ ++ stW ad b2 cI τ2) (fun u : Tab => (tbW (ad (b + 3)) (ad (b + 4)) cI 8 4 (8 * 4) u ++ tbW (ad (b2 + 3)) (ad (b2 + 4)) cI 8 4 (8 * 4) (τ2.1 1))) (τ.1 1) (fun u => stW ad b cI (stT τ 1 u) ++ stW ad b2 cI τ2) :=
  ⟨[0, 1, 2, 5, 6, 7, 8, 9, 10, 11, 12, 13, 16, 17, 18, 19, 20, 21].filterMap (fun i => (stW ad b cI τ ++ stW ad b2 cI τ2)[i]?), fun _ _ Z => Ix.sub (w' := (tbW (ad (b + 3)) (ad (b + 4)) cI 8 4 (8 * 4) (τ.1 1) ++ tbW (ad (b2 + 3)) (ad (b2 + 4)) cI 8 4 (8 * 4) (τ2.1 1)) ++ [0, 1, 2, 5, 6, 7, 8, 9, 10, 11, 12, 13, 16, 17, 18, 19, 20, 21].filterMap (fun i => (stW ad b cI τ ++ stW ad b2 cI τ2)[i]?)) Z [3, 4, 14, 15, 0, 1, 2, 5, 6, 7, 8, 9, 10, 11, 12, 13, 16, 17, 18, 19, 20, 21] (by decide) rfl,
   fun _ _ Z => Ix.sub (w := (tbW (ad (b + 3)) (ad (b + 4)) cI 8 4 (8 * 4) (τ.1 1) ++ tbW (ad (b2 + 3)) (ad (b2 + 4)) cI 8 4 (8 * 4) (τ2.1 1)) ++ [0, 1, 2, 5, 6, 7, 8, 9, 10, 11, 12, 13, 16, 17, 18, 19, 20, 21].filterMap (fun i => (stW ad b cI τ ++ stW ad b2 cI τ2)[i]?)) Z [4, 5, 6, 0, 1, 7, 8, 9, 10, 11, 12, 13, 14, 15, 2, 3, 16, 17, 18, 19, 20, 21] (by decide) rfl,
   fun u _ _ Z => Ix.sub (w := (tbW (ad (b + 3)) (ad (b + 4)) cI 8 4 (8 * 4) u ++ tbW (ad (b2 + 3)) (ad (b2 + 4)) cI 8 4 (8 * 4) (τ2.1 1)) ++ [0, 1, 2, 5, 6, 7, 8, 9, 10, 11, 12, 13, 16, 17, 18, 19, 20, 21].filterMap (fun i => (stW ad b cI τ ++ stW ad b2 cI τ2)[i]?)) Z [4, 5, 6, 0, 1, 7, 8, 9, 10, 11, 12, 13, 14, 15, 2, 3, 16, 17, 18, 19, 20, 21] (by decide) rfl⟩
theorem Lens.s2 {D : va_G} {A : Nat → Prop} {s : State} {ad : Nat → Nat} {b b2 : Nat} {cI : ClassId} {τ τ2 : St} : Lens D A s (stW ad b cI τ ++ stW ad b2 cI τ2) (fun u : Tab => (tbW (ad (b + 5)) (ad (b + 6)) cI 24 4 (24 * 4) u ++ tbW (ad (b2 + 5)) (ad (b2 + 6)) cI 24 4 (24 * 4) (τ2.1 2))) (τ.1 2) (fun u => stW ad b cI (stT τ 2 u) ++ stW ad b2 cI τ2) :=
  ⟨[0, 1, 2, 3, 4, 7, 8, 9, 10, 11, 12, 13, 14, 15, 18, 19, 20, 21].filterMap (fun i => (stW ad b cI τ ++ stW ad b2 cI τ2)[i]?), fun _ _ Z => Ix.sub (w' := (tbW (ad (b + 5)) (ad (b + 6)) cI 24 4 (24 * 4) (τ.1 2) ++ tbW (ad (b2 + 5)) (ad (b2 + 6)) cI 24 4 (24 * 4) (τ2.1 2)) ++ [0, 1, 2, 3, 4, 7, 8, 9, 10, 11, 12, 13, 14, 15, 18, 19, 20, 21].filterMap (fun i => (stW ad b cI τ ++ stW ad b2 cI τ2)[i]?)) Z [5, 6, 16, 17, 0, 1, 2, 3, 4, 7, 8, 9, 10, 11, 12, 13, 14, 15, 18, 19, 20, 21] (by decide) rfl,
   fun _ _ Z => Ix.sub (w := (tbW (ad (b + 5)) (ad (b + 6)) cI 24 4 (24 * 4) (τ.1 2) ++ tbW (ad (b2 + 5)) (ad (b2 + 6)) cI 24 4 (24 * 4) (τ2.1 2)) ++ [0, 1, 2, 3, 4, 7, 8, 9, 10, 11, 12, 13, 14, 15, 18, 19, 20, 21].filterMap (fun i => (stW ad b cI τ ++ stW ad b2 cI τ2)[i]?)) Z [4, 5, 6, 7, 8, 0, 1, 9, 10, 11, 12, 13, 14, 15, 16, 17, 2, 3, 18, 19, 20, 21] (by decide) rfl,
   fun u _ _ Z => Ix.sub (w := (tbW (ad (b + 5)) (ad (b + 6)) cI 24 4 (24 * 4) u ++ tbW (ad (b2 + 5)) (ad (b2 + 6)) cI 24 4 (24 * 4) (τ2.1 2)) ++ [0, 1, 2, 3, 4, 7, 8, 9, 10, 11, 12, 13, 14, 15, 18, 19, 20, 21].filterMap (fun i => (stW ad b cI τ ++ stW ad b2 cI τ2)[i]?)) Z [4, 5, 6, 7, 8, 0, 1, 9, 10, 11, 12, 13, 14, 15, 16, 17, 2, 3, 18, 19, 20, 21] (by decide) rfl⟩
theorem Lens.s3 {D : va_G} {A : Nat → Prop} {s : State} {ad : Nat → Nat} {b b2 : Nat} {cI : ClassId} {τ τ2 : St} : Lens D A s (stW ad b cI τ ++ stW ad b2 cI τ2) (fun u : Tab => (tbW (ad (b + 7)) (ad (b + 8)) cI 60 5 (60 * 5) u ++ tbW (ad (b2 + 7)) (ad (b2 + 8)) cI 60 5 (60 * 5) (τ2.1 3))) (τ.1 3) (fun u => stW ad b cI (stT τ 3 u) ++ stW ad b2 cI τ2) :=
  ⟨[0, 1, 2, 3, 4, 5, 6, 9, 10, 11, 12, 13, 14, 15, 16, 17, 20, 21].filterMap (fun i => (stW ad b cI τ ++ stW ad b2 cI τ2)[i]?), fun _ _ Z => Ix.sub (w' := (tbW (ad (b + 7)) (ad (b + 8)) cI 60 5 (60 * 5) (τ.1 3) ++ tbW (ad (b2 + 7)) (ad (b2 + 8)) cI 60 5 (60 * 5) (τ2.1 3)) ++ [0, 1, 2, 3, 4, 5, 6, 9, 10, 11, 12, 13, 14, 15, 16, 17, 20, 21].filterMap (fun i => (stW ad b cI τ ++ stW ad b2 cI τ2)[i]?)) Z [7, 8, 18, 19, 0, 1, 2, 3, 4, 5, 6, 9, 10, 11, 12, 13, 14, 15, 16, 17, 20, 21] (by decide) rfl,
   fun _ _ Z => Ix.sub (w := (tbW (ad (b + 7)) (ad (b + 8)) cI 60 5 (60 * 5) (τ.1 3) ++ tbW (ad (b2 + 7)) (ad (b2 + 8)) cI 60 5 (60 * 5) (τ2.1 3)) ++ [0, 1, 2, 3, 4, 5, 6, 9, 10, 11, 12, 13, 14, 15, 16, 17, 20, 21].filterMap (fun i => (stW ad b cI τ ++ stW ad b2 cI τ2)[i]?)) Z [4, 5, 6, 7, 8, 9, 10, 0, 1, 11, 12, 13, 14, 15, 16, 17, 18, 19, 2, 3, 20, 21] (by decide) rfl,
   fun u _ _ Z => Ix.sub (w := (tbW (ad (b + 7)) (ad (b + 8)) cI 60 5 (60 * 5) u ++ tbW (ad (b2 + 7)) (ad (b2 + 8)) cI 60 5 (60 * 5) (τ2.1 3)) ++ [0, 1, 2, 3, 4, 5, 6, 9, 10, 11, 12, 13, 14, 15, 16, 17, 20, 21].filterMap (fun i => (stW ad b cI τ ++ stW ad b2 cI τ2)[i]?)) Z [4, 5, 6, 7, 8, 9, 10, 0, 1, 11, 12, 13, 14, 15, 16, 17, 18, 19, 2, 3, 20, 21] (by decide) rfl⟩
theorem Lens.s4 {D : va_G} {A : Nat → Prop} {s : State} {ad : Nat → Nat} {b b2 : Nat} {cI : ClassId} {τ τ2 : St} : Lens D A s (stW ad b cI τ ++ stW ad b2 cI τ2) (fun u : Tab => (tbW (ad (b + 9)) (ad (b + 10)) cI 8 1 (8 * 1) u ++ tbW (ad (b2 + 9)) (ad (b2 + 10)) cI 8 1 (8 * 1) (τ2.1 4))) (τ.1 4) (fun u => stW ad b cI (stT τ 4 u) ++ stW ad b2 cI τ2) :=
  ⟨[0, 1, 2, 3, 4, 5, 6, 7, 8, 11, 12, 13, 14, 15, 16, 17, 18, 19].filterMap (fun i => (stW ad b cI τ ++ stW ad b2 cI τ2)[i]?), fun _ _ Z => Ix.sub (w' := (tbW (ad (b + 9)) (ad (b + 10)) cI 8 1 (8 * 1) (τ.1 4) ++ tbW (ad (b2 + 9)) (ad (b2 + 10)) cI 8 1 (8 * 1) (τ2.1 4)) ++ [0, 1, 2, 3, 4, 5, 6, 7, 8, 11, 12, 13, 14, 15, 16, 17, 18, 19].filterMap (fun i => (stW ad b cI τ ++ stW ad b2 cI τ2)[i]?)) Z [9, 10, 20, 21, 0, 1, 2, 3, 4, 5, 6, 7, 8, 11, 12, 13, 14, 15, 16, 17, 18, 19] (by decide) rfl,
   fun _ _ Z => Ix.sub (w := (tbW (ad (b + 9)) (ad (b + 10)) cI 8 1 (8 * 1) (τ.1 4) ++ tbW (ad (b2 + 9)) (ad (b2 + 10)) cI 8 1 (8 * 1) (τ2.1 4)) ++ [0, 1, 2, 3, 4, 5, 6, 7, 8, 11, 12, 13, 14, 15, 16, 17, 18, 19].filterMap (fun i => (stW ad b cI τ ++ stW ad b2 cI τ2)[i]?)) Z [4, 5, 6, 7, 8, 9, 10, 11, 12, 0, 1, 13, 14, 15, 16, 17, 18, 19, 20, 21, 2, 3] (by decide) rfl,
   fun u _ _ Z => Ix.sub (w := (tbW (ad (b + 9)) (ad (b + 10)) cI 8 1 (8 * 1) u ++ tbW (ad (b2 + 9)) (ad (b2 + 10)) cI 8 1 (8 * 1) (τ2.1 4)) ++ [0, 1, 2, 3, 4, 5, 6, 7, 8, 11, 12, 13, 14, 15, 16, 17, 18, 19].filterMap (fun i => (stW ad b cI τ ++ stW ad b2 cI τ2)[i]?)) Z [4, 5, 6, 7, 8, 9, 10, 11, 12, 0, 1, 13, 14, 15, 16, 17, 18, 19, 20, 21, 2, 3] (by decide) rfl⟩
set_option maxHeartbeats 8000000 in
set_option maxRecDepth 100000 in
theorem c_X2_copyFrom (l : Launch) (D : va_G) (cI cS : ClassId) (ad : Nat → Nat) (b b2 : Nat) (τ τ2 : St) : MV l yX2_copyFrom cX2_copyFrom 2 rm_X2_copyFrom D cI cS [.ref (ad b), .ref (ad b2)] (stW ad b cI τ ++ stW ad b2 cI τ2) (fun w : St => stW ad b cI w ++ stW ad b2 cI τ2) (fun w => w = τ2 ∧ True) := by
  refine MV.mk RX2 rfl (by decide) (Nat.le_of_ble_eq_true rfl) ?_
  intro p e s m args below meth c A Q ls Fc hin hA Z kret hl
  obtain ⟨hx, hb, hml, hown, hts, hKN⟩ := id Fc
  replace hl : lv_has ls 2 [(0, .ref (ad b)), (1, .ref (ad b2))] := hl
  refine lv_aload_n hx hb dX2_copyFrom_0 rfl (lv_at hl 0 rfl) ?_
  refine kget Fc Z inX2 0 rfl rfl 0 (by decide) mF_RX2_14 rfl rfl dX2_copyFrom_1 ?_
  refine lv_aload_n hx hb dX2_copyFrom_4 rfl (lv_at hl 1 rfl) ?_
  refine kget Fc Z inX2 11 rfl rfl 0 (by decide) mF_RX2_14 rfl rfl dX2_copyFrom_5 ?_
  refine kv_i (As := [.ref (ad (b2 + 1))]) (ok := fun _ : Tab => True) Fc hA Z (Lens.s0 (τ := τ) (τ2 := τ2)) (c_X3_overwriteWith l D cI cS (ad (b + 1)) (ad (b + 2)) (ad (b2 + 1)) (ad (b2 + 2)) 20 12 (20 * 12) (by decide) (τ.1 0) (τ2.1 0)) mL_RX2_48 v_X3_overwriteWith ⟨rfl, rfl⟩ ⟨Nat.le_of_ble_eq_true rfl, Nat.le_of_ble_eq_true rfl⟩ ⟨Nat.zero_le _, Nat.zero_le _⟩ 1 3 rfl rfl rfl hl (Nat.le_of_ble_eq_true rfl) dX2_copyFrom_8 rfl (fun H locs _ Z => ?_)
  refine lv_aload_n hx hb dX2_copyFrom_11 rfl (lv_at hl 0 rfl) ?_
  refine kget Fc Z inX2 0 rfl rfl 1 (by decide) mF_RX2_20 rfl rfl dX2_copyFrom_12 ?_
  refine lv_aload_n hx hb dX2_copyFrom_15 rfl (lv_at hl 1 rfl) ?_
  refine kget Fc Z inX2 11 rfl rfl 1 (by decide) mF_RX2_20 rfl rfl dX2_copyFrom_16 ?_
  refine kv_i (As := [.ref (ad (b2 + 3))]) (ok := fun _ : Tab => True) Fc hA Z (Lens.s1 (τ := (stT τ 0 (τ2.1 0))) (τ2 := τ2)) (c_X3_overwriteWith l D cI cS (ad (b + 3)) (ad (b + 4)) (ad (b2 + 3)) (ad (b2 + 4)) 8 4 (8 * 4) (by decide) ((stT τ 0 (τ2.1 0)).1 1) (τ2.1 1)) mL_RX2_48 v_X3_overwriteWith ⟨rfl, rfl⟩ ⟨Nat.le_of_ble_eq_true rfl, Nat.le_of_ble_eq_true rfl⟩ ⟨Nat.zero_le _, Nat.zero_le _⟩ 3 3 rfl rfl rfl hl (Nat.le_of_ble_eq_true rfl) dX2_copyFrom_19 rfl (fun H locs _ Z => ?_)
  refine lv_aload_n hx hb dX2_copyFrom_22 rfl (lv_at hl 0 rfl) ?_
  refine kget Fc Z inX2 0 rfl rfl 2 (by decide) mF_RX2_23 rfl rfl dX2_copyFrom_23 ?_
  refine lv_aload_n hx hb dX2_copyFrom_26 rfl (lv_at hl 1 rfl) ?_
  refine kget Fc Z inX2 11 rfl rfl 2 (by decide) mF_RX2_23 rfl rfl dX2_copyFrom_27 ?_
  refine kv_i (As := [.ref (ad (b2 + 5))]) (ok := fun _ : Tab => True) Fc hA Z (Lens.s2 (τ := (stT (stT τ 0 (τ2.1 0)) 1 (τ2.1 1))) (τ2 := τ2)) (c_X3_overwriteWith l D cI cS (ad (b + 5)) (ad (b + 6)) (ad (b2 + 5)) (ad (b2 + 6)) 24 4 (24 * 4) (by decide) ((stT (stT τ 0 (τ2.1 0)) 1 (τ2.1 1)).1 2) (τ2.1 2)) mL_RX2_48 v_X3_overwriteWith ⟨rfl, rfl⟩ ⟨Nat.le_of_ble_eq_true rfl, Nat.le_of_ble_eq_true rfl⟩ ⟨Nat.zero_le _, Nat.zero_le _⟩ 5 3 rfl rfl rfl hl (Nat.le_of_ble_eq_true rfl) dX2_copyFrom_30 rfl (fun H locs _ Z => ?_)
  refine lv_aload_n hx hb dX2_copyFrom_33 rfl (lv_at hl 0 rfl) ?_
  refine kget Fc Z inX2 0 rfl rfl 3 (by decide) mF_RX2_26 rfl rfl dX2_copyFrom_34 ?_
  refine lv_aload_n hx hb dX2_copyFrom_37 rfl (lv_at hl 1 rfl) ?_
  refine kget Fc Z inX2 11 rfl rfl 3 (by decide) mF_RX2_26 rfl rfl dX2_copyFrom_38 ?_
  refine kv_i (As := [.ref (ad (b2 + 7))]) (ok := fun _ : Tab => True) Fc hA Z (Lens.s3 (τ := (stT (stT (stT τ 0 (τ2.1 0)) 1 (τ2.1 1)) 2 (τ2.1 2))) (τ2 := τ2)) (c_X3_overwriteWith l D cI cS (ad (b + 7)) (ad (b + 8)) (ad (b2 + 7)) (ad (b2 + 8)) 60 5 (60 * 5) (by decide) ((stT (stT (stT τ 0 (τ2.1 0)) 1 (τ2.1 1)) 2 (τ2.1 2)).1 3) (τ2.1 3)) mL_RX2_48 v_X3_overwriteWith ⟨rfl, rfl⟩ ⟨Nat.le_of_ble_eq_true rfl, Nat.le_of_ble_eq_true rfl⟩ ⟨Nat.zero_le _, Nat.zero_le _⟩ 7 3 rfl rfl rfl hl (Nat.le_of_ble_eq_true rfl) dX2_copyFrom_41 rfl (fun H locs _ Z => ?_)
  refine lv_aload_n hx hb dX2_copyFrom_44 rfl (lv_at hl 0 rfl) ?_
  refine kget Fc Z inX2 0 rfl rfl 4 (by decide) mF_RX2_33 rfl rfl dX2_copyFrom_45 ?_
  refine lv_aload_n hx hb dX2_copyFrom_48 rfl (lv_at hl 1 rfl) ?_
  refine kget Fc Z inX2 11 rfl rfl 4 (by decide) mF_RX2_33 rfl rfl dX2_copyFrom_49 ?_
  refine kv_i (As := [.ref (ad (b2 + 9))]) (ok := fun _ : Tab => True) Fc hA Z (Lens.s4 (τ := (stT (stT (stT (stT τ 0 (τ2.1 0)) 1 (τ2.1 1)) 2 (τ2.1 2)) 3 (τ2.1 3))) (τ2 := τ2)) (c_X3_overwriteWith l D cI cS (ad (b + 9)) (ad (b + 10)) (ad (b2 + 9)) (ad (b2 + 10)) 8 1 (8 * 1) (by decide) ((stT (stT (stT (stT τ 0 (τ2.1 0)) 1 (τ2.1 1)) 2 (τ2.1 2)) 3 (τ2.1 3)).1 4) (τ2.1 4)) mL_RX2_48 v_X3_overwriteWith ⟨rfl, rfl⟩ ⟨Nat.le_of_ble_eq_true rfl, Nat.le_of_ble_eq_true rfl⟩ ⟨Nat.zero_le _, Nat.zero_le _⟩ 9 3 rfl rfl rfl hl (Nat.le_of_ble_eq_true rfl) dX2_copyFrom_52 rfl (fun H locs _ Z => ?_)
  refine lv_aload_n hx hb dX2_copyFrom_55 rfl (lv_at hl 0 rfl) ?_
  refine lv_aload_n hx hb dX2_copyFrom_56 rfl (lv_at hl 1 rfl) ?_
  refine kget Fc Z inX2 11 rfl rfl 5 (by decide) mF_RX2_36 rfl rfl dX2_copyFrom_57 ?_
  refine kput (v := .int τ2.2) (ty := .int) (w' := stW ad b cI τ2 ++ stW ad b2 cI τ2) Fc Z inX2 tyX2 tyX2_ok nmX2 0 rfl rfl 5 (by decide) mF_RX2_36 rfl rfl rfl rfl rfl (Nat.le_of_ble_eq_true rfl) rfl dX2_copyFrom_60 (fun H locs Z => ?_)
  exact kret τ2 _ _ _ _ ⟨rfl, trivial⟩ Z dX2_copyFrom_63
