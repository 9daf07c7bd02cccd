/-! THE REFERENCE: its arrays, two at a time or one; copies -/
theorem bi_fit (b : Bool) : fits .boolean (.int (bi b)) = true := by cases b <;> rfl
theorem Lens.m2_0_1 {D : va_G} {A : Nat → Prop} {s : State} {am : Nat → Nat} {cI : ClassId} {ρ : Ms} : Lens D A s (mW am cI ρ) (fun g : Nat → Int32 => [(am 1, .inl (cI, 681, .inl (ρ.1.1 0))), (am 2, .inl (cI, 681, .inl g))]) (ρ.1.1 1) (fun g => mW am cI (msA ρ 1 g)) :=
  ⟨[0, 3, 4, 5, 6].filterMap (fun i => (mW am cI ρ)[i]?), fun _ _ Z => Ix.sub (w' := [(am 1, .inl (cI, 681, .inl (ρ.1.1 0))), (am 2, .inl (cI, 681, .inl (ρ.1.1 1)))] ++ [0, 3, 4, 5, 6].filterMap (fun i => (mW am cI ρ)[i]?)) Z [1, 2, 0, 3, 4, 5, 6] (by decide) rfl,
   fun _ _ Z => Ix.sub (w := [(am 1, .inl (cI, 681, .inl (ρ.1.1 0))), (am 2, .inl (cI, 681, .inl (ρ.1.1 1)))] ++ [0, 3, 4, 5, 6].filterMap (fun i => (mW am cI ρ)[i]?)) Z [2, 0, 1, 3, 4, 5, 6] (by decide) rfl,
   fun g _ _ Z => Ix.sub (w := [(am 1, .inl (cI, 681, .inl (ρ.1.1 0))), (am 2, .inl (cI, 681, .inl g))] ++ [0, 3, 4, 5, 6].filterMap (fun i => (mW am cI ρ)[i]?)) Z [2, 0, 1, 3, 4, 5, 6] (by decide) rfl⟩
theorem Lens.m2_1_3 {D : va_G} {A : Nat → Prop} {s : State} {am : Nat → Nat} {cI : ClassId} {ρ : Ms} : Lens D A s (mW am cI ρ) (fun g : Nat → Int32 => [(am 2, .inl (cI, 681, .inl (ρ.1.1 1))), (am 4, .inl (cI, 5448, .inl g))]) (ρ.1.1 3) (fun g => mW am cI (msA ρ 3 g)) :=
  ⟨[0, 1, 3, 5, 6].filterMap (fun i => (mW am cI ρ)[i]?), fun _ _ Z => Ix.sub (w' := [(am 2, .inl (cI, 681, .inl (ρ.1.1 1))), (am 4, .inl (cI, 5448, .inl (ρ.1.1 3)))] ++ [0, 1, 3, 5, 6].filterMap (fun i => (mW am cI ρ)[i]?)) Z [2, 4, 0, 1, 3, 5, 6] (by decide) rfl,
   fun _ _ Z => Ix.sub (w := [(am 2, .inl (cI, 681, .inl (ρ.1.1 1))), (am 4, .inl (cI, 5448, .inl (ρ.1.1 3)))] ++ [0, 1, 3, 5, 6].filterMap (fun i => (mW am cI ρ)[i]?)) Z [2, 3, 0, 4, 1, 5, 6] (by decide) rfl,
   fun g _ _ Z => Ix.sub (w := [(am 2, .inl (cI, 681, .inl (ρ.1.1 1))), (am 4, .inl (cI, 5448, .inl g))] ++ [0, 1, 3, 5, 6].filterMap (fun i => (mW am cI ρ)[i]?)) Z [2, 3, 0, 4, 1, 5, 6] (by decide) rfl⟩
theorem Lens.m2_1_0 {D : va_G} {A : Nat → Prop} {s : State} {am : Nat → Nat} {cI : ClassId} {ρ : Ms} : Lens D A s (mW am cI ρ) (fun g : Nat → Int32 => [(am 2, .inl (cI, 681, .inl (ρ.1.1 1))), (am 1, .inl (cI, 681, .inl g))]) (ρ.1.1 0) (fun g => mW am cI (msA ρ 0 g)) :=
  ⟨[0, 3, 4, 5, 6].filterMap (fun i => (mW am cI ρ)[i]?), fun _ _ Z => Ix.sub (w' := [(am 2, .inl (cI, 681, .inl (ρ.1.1 1))), (am 1, .inl (cI, 681, .inl (ρ.1.1 0)))] ++ [0, 3, 4, 5, 6].filterMap (fun i => (mW am cI ρ)[i]?)) Z [2, 1, 0, 3, 4, 5, 6] (by decide) rfl,
   fun _ _ Z => Ix.sub (w := [(am 2, .inl (cI, 681, .inl (ρ.1.1 1))), (am 1, .inl (cI, 681, .inl (ρ.1.1 0)))] ++ [0, 3, 4, 5, 6].filterMap (fun i => (mW am cI ρ)[i]?)) Z [2, 1, 0, 3, 4, 5, 6] (by decide) rfl,
   fun g _ _ Z => Ix.sub (w := [(am 2, .inl (cI, 681, .inl (ρ.1.1 1))), (am 1, .inl (cI, 681, .inl g))] ++ [0, 3, 4, 5, 6].filterMap (fun i => (mW am cI ρ)[i]?)) Z [2, 1, 0, 3, 4, 5, 6] (by decide) rfl⟩
theorem Lens.m2_0_2 {D : va_G} {A : Nat → Prop} {s : State} {am : Nat → Nat} {cI : ClassId} {ρ : Ms} : Lens D A s (mW am cI ρ) (fun g : Nat → Int32 => [(am 1, .inl (cI, 681, .inl (ρ.1.1 0))), (am 3, .inl (cI, 681, .inl g))]) (ρ.1.1 2) (fun g => mW am cI (msA ρ 2 g)) :=
  ⟨[0, 2, 4, 5, 6].filterMap (fun i => (mW am cI ρ)[i]?), fun _ _ Z => Ix.sub (w' := [(am 1, .inl (cI, 681, .inl (ρ.1.1 0))), (am 3, .inl (cI, 681, .inl (ρ.1.1 2)))] ++ [0, 2, 4, 5, 6].filterMap (fun i => (mW am cI ρ)[i]?)) Z [1, 3, 0, 2, 4, 5, 6] (by decide) rfl,
   fun _ _ Z => Ix.sub (w := [(am 1, .inl (cI, 681, .inl (ρ.1.1 0))), (am 3, .inl (cI, 681, .inl (ρ.1.1 2)))] ++ [0, 2, 4, 5, 6].filterMap (fun i => (mW am cI ρ)[i]?)) Z [2, 0, 3, 1, 4, 5, 6] (by decide) rfl,
   fun g _ _ Z => Ix.sub (w := [(am 1, .inl (cI, 681, .inl (ρ.1.1 0))), (am 3, .inl (cI, 681, .inl g))] ++ [0, 2, 4, 5, 6].filterMap (fun i => (mW am cI ρ)[i]?)) Z [2, 0, 3, 1, 4, 5, 6] (by decide) rfl⟩
theorem Lens.m2_2_0 {D : va_G} {A : Nat → Prop} {s : State} {am : Nat → Nat} {cI : ClassId} {ρ : Ms} : Lens D A s (mW am cI ρ) (fun g : Nat → Int32 => [(am 3, .inl (cI, 681, .inl (ρ.1.1 2))), (am 1, .inl (cI, 681, .inl g))]) (ρ.1.1 0) (fun g => mW am cI (msA ρ 0 g)) :=
  ⟨[0, 2, 4, 5, 6].filterMap (fun i => (mW am cI ρ)[i]?), fun _ _ Z => Ix.sub (w' := [(am 3, .inl (cI, 681, .inl (ρ.1.1 2))), (am 1, .inl (cI, 681, .inl (ρ.1.1 0)))] ++ [0, 2, 4, 5, 6].filterMap (fun i => (mW am cI ρ)[i]?)) Z [3, 1, 0, 2, 4, 5, 6] (by decide) rfl,
   fun _ _ Z => Ix.sub (w := [(am 3, .inl (cI, 681, .inl (ρ.1.1 2))), (am 1, .inl (cI, 681, .inl (ρ.1.1 0)))] ++ [0, 2, 4, 5, 6].filterMap (fun i => (mW am cI ρ)[i]?)) Z [2, 1, 3, 0, 4, 5, 6] (by decide) rfl,
   fun g _ _ Z => Ix.sub (w := [(am 3, .inl (cI, 681, .inl (ρ.1.1 2))), (am 1, .inl (cI, 681, .inl g))] ++ [0, 2, 4, 5, 6].filterMap (fun i => (mW am cI ρ)[i]?)) Z [2, 1, 3, 0, 4, 5, 6] (by decide) rfl⟩
theorem Lens.m2_3_0 {D : va_G} {A : Nat → Prop} {s : State} {am : Nat → Nat} {cI : ClassId} {ρ : Ms} : Lens D A s (mW am cI ρ) (fun g : Nat → Int32 => [(am 4, .inl (cI, 5448, .inl (ρ.1.1 3))), (am 1, .inl (cI, 681, .inl g))]) (ρ.1.1 0) (fun g => mW am cI (msA ρ 0 g)) :=
  ⟨[0, 2, 3, 5, 6].filterMap (fun i => (mW am cI ρ)[i]?), fun _ _ Z => Ix.sub (w' := [(am 4, .inl (cI, 5448, .inl (ρ.1.1 3))), (am 1, .inl (cI, 681, .inl (ρ.1.1 0)))] ++ [0, 2, 3, 5, 6].filterMap (fun i => (mW am cI ρ)[i]?)) Z [4, 1, 0, 2, 3, 5, 6] (by decide) rfl,
   fun _ _ Z => Ix.sub (w := [(am 4, .inl (cI, 5448, .inl (ρ.1.1 3))), (am 1, .inl (cI, 681, .inl (ρ.1.1 0)))] ++ [0, 2, 3, 5, 6].filterMap (fun i => (mW am cI ρ)[i]?)) Z [2, 1, 3, 4, 0, 5, 6] (by decide) rfl,
   fun g _ _ Z => Ix.sub (w := [(am 4, .inl (cI, 5448, .inl (ρ.1.1 3))), (am 1, .inl (cI, 681, .inl g))] ++ [0, 2, 3, 5, 6].filterMap (fun i => (mW am cI ρ)[i]?)) Z [2, 1, 3, 4, 0, 5, 6] (by decide) rfl⟩
theorem Lens.m1_3 {D : va_G} {A : Nat → Prop} {s : State} {am : Nat → Nat} {cI : ClassId} {ρ : Ms} : Lens D A s (mW am cI ρ) (fun g : Nat → Int32 => [(am 4, .inl (cI, 5448, .inl g))]) (ρ.1.1 3) (fun g => mW am cI (msA ρ 3 g)) :=
  ⟨[0, 1, 2, 3, 5, 6].filterMap (fun i => (mW am cI ρ)[i]?), fun _ _ Z => Ix.sub (w' := [(am 4, .inl (cI, 5448, .inl (ρ.1.1 3)))] ++ [0, 1, 2, 3, 5, 6].filterMap (fun i => (mW am cI ρ)[i]?)) Z [4, 0, 1, 2, 3, 5, 6] (by decide) rfl,
   fun _ _ Z => Ix.sub (w := [(am 4, .inl (cI, 5448, .inl (ρ.1.1 3)))] ++ [0, 1, 2, 3, 5, 6].filterMap (fun i => (mW am cI ρ)[i]?)) Z [1, 2, 3, 4, 0, 5, 6] (by decide) rfl,
   fun g _ _ Z => Ix.sub (w := [(am 4, .inl (cI, 5448, .inl g))] ++ [0, 1, 2, 3, 5, 6].filterMap (fun i => (mW am cI ρ)[i]?)) Z [1, 2, 3, 4, 0, 5, 6] (by decide) rfl⟩
section KSV
variable {p : Program} {l : Launch} {e : Env} {R : Room} {s : State} {m : MethodId} {args : Array Value} {below : List Frame} {meth : Method} {c : Code} {H : Heap} {locs : List Loc} {cells slots : Nat} {Q : State → Prop}
variable {lv : List (Nat × Value)} {nL : Nat} {own : String} {cc : ByteArray} {D : va_G} {cI cS : ClassId} {A : Nat → Prop} {w : va_W} {pc : Nat} {ls : Array Slot} {st rest As : List Value} {y : MethodName} {cy : ByteArray} {nY n idx : Nat} {rm : Room}
theorem ksv_i {S : Type} {wcf back : S → va_W} {u0 q : S} (F : Fx p m c nL s args own cc D cI cS) (hA : ∀ q, s.heap.size ≤ q → A q) (Z : Ix D A s w H locs) (L : Lens D A s w wcf u0 back)
    (hM : MV l y cy nY rm D cI cS As (wcf u0) wcf (fun u => u = q ∧ True)) (hl : Cond.methodLink own idx y ∈ wU) (V : WdS own y cy nY none n) (h0 : rm.cells = 0 ∧ rm.slots = 0) (hR : rm.frames + 1 ≤ R.frames ∧ 8 + (nY + 11) + rm.locals ≤ R.locals) (hce : cells ≤ R.cells ∧ slots ≤ R.slots)
    (hn : As.length = n) (hls : lv_has ls nL lv) (hrest : (rest.map fun v => v.category).sum ≤ 8) (hdg : decode cc pc = .ok (.invokestatic idx, 3)) (hst : st = As.reverse ++ rest)
    (kk : ∀ (H1 : Heap) (locs1 : List Loc), Ix D A s (back q) H1 locs1 → W p l e R s m args below meth c H1 locs1 cells slots Q (F0 m (pc + 3) ls rest)) : W p l e R s m args below meth c H locs cells slots Q (F0 m pc ls st) := by
  obtain ⟨wr, g1, g2, g3⟩ := L
  refine kcallV (As := As) F hA (g1 _ _ Z) (fun sz hsz hp => runS_of F (hM sz) PcW.blind hl V h0 hR hce hn hls.1 hrest hdg hst hp) (fun u H1 locs1 hw Z1 => ?_)
  obtain ⟨rfl, -⟩ := hw
  exact kk H1 locs1 (g3 _ _ _ Z1)
end KSV
def X5_copies2_L3 (na nb : Nat) (f : Nat → Int32) (x1 : Int32) (x3 : Int32) : Nat → Int32 → (Nat → Int32) → Option ((Nat → Int32))
  | 0, _, _ => none
  | k + 1, x4, g => if (681 : Int32) ≤ x4 then (some g) else (rdA f na (x1 + x4)).bind fun v2 => (wrA g nb (x3 + x4) v2).bind fun g4 => X5_copies2_L3 na nb f x1 x3 k ((x4 + (1 : Int32))) g4
def X5_copies2 (na nb : Nat) (f : Nat → Int32) (g : Nat → Int32) (p1 p3 : Int32) : Option ((Nat → Int32)) := X5_copies2_L3 na nb f p1 p3 FU (0 : Int32) g
def rm_X5_copies2 : Room := { frames := 0, cells := 0, slots := 0, locals := 0 }
theorem v_X5_copies : WdS RX5 yX5_copies cX5_copies 5 none 4 := ⟨mT_X5_copies, mZ_RX5, mC_X5_copies, by decide +kernel⟩
set_option maxHeartbeats 8000000 in
set_option maxRecDepth 100000 in
theorem c_X5_copies2 (l : Launch) (D : va_G) (cI cS : ClassId) (x y na nb : Nat) (f g : Nat → Int32) (p1 p3 : Int32) (F : (Nat → Int32)) (hF : X5_copies2 na nb f g p1 p3 = some F) : MV l yX5_copies cX5_copies 5 rm_X5_copies2 D cI cS [.ref x, .int p1, .ref y, .int p3] ([(x, .inl (cI, na, .inl f)), (y, .inl (cI, nb, .inl g))]) (fun g : Nat → Int32 => [(x, .inl (cI, na, .inl f)), (y, .inl (cI, nb, .inl g))]) (fun u => u = F ∧ True) := by
  refine MV.mk RX5 rfl (by decide) (Nat.le_of_ble_eq_true rfl) ?_
  intro p e s m args below meth c A Q ls Fc hin hA Z kret hl
  obtain ⟨hx, hb, hml, hown, hts, hKN⟩ := id Fc
  replace hl : lv_has ls 5 [(0, .ref x), (1, .int p1), (2, .ref y), (3, .int p3)] := hl
  have L3 : ∀ (x1 : Int32) (x3 : Int32) (k : Nat) (x4 : Int32) (g : (Nat → Int32)) (H : Heap) (locs : List Loc) (ls : Array Slot), X5_copies2_L3 na nb f x1 x3  k x4 g = some F → Ix D A s ([(x, .inl (cI, na, .inl f)), (y, .inl (cI, nb, .inl g))]) H locs → lv_has ls 5 [(0, .ref x), (1, .int x1), (2, .ref y), (3, .int x3), (4, .int x4)] → W p l e rm_X5_copies2 s m args below meth c H locs 0 0 Q (F0 m 3 ls []) := by
    intro x1 x3 k
    induction k with
    | zero => intro x4 g H locs ls hF; rw [X5_copies2_L3] at hF; cases hF
    | succ k ih =>
      intro x4 g H locs ls hF Z hl
      rw [X5_copies2_L3] at hF
      refine lv_iload hx hb dX5_copies_3 (lv_at hl 4 rfl) ?_
      refine lv_sipush (v := (681 : Int32)) hx hb dX5_copies_5 (by decide) ?_
      refine lv_icmp_ge (tgt := 29) hx hb dX5_copies_8 (by decide) (fun c1 => ?_) (fun c1 => ?_)
      · rw [if_pos c1] at hF
        exact kret g _ _ _ _ ⟨(Option.some.inj hF), trivial⟩ Z dX5_copies_29
      · rw [if_neg c1] at hF
        refine lv_aload_n hx hb dX5_copies_11 rfl (lv_at hl 2 rfl) ?_
        refine lv_iload_n hx hb dX5_copies_12 rfl (lv_at hl 3 rfl) ?_
        refine lv_iload hx hb dX5_copies_13 (lv_at hl 4 rfl) ?_
        refine lv_iadd hx hb dX5_copies_15 ?_
        refine lv_aload_n hx hb dX5_copies_16 rfl (lv_at hl 0 rfl) ?_
        refine lv_iload_n hx hb dX5_copies_17 rfl (lv_at hl 1 rfl) ?_
        refine lv_iload hx hb dX5_copies_18 (lv_at hl 4 rfl) ?_
        refine lv_iadd hx hb dX5_copies_20 ?_
        obtain ⟨v2, h3, hF⟩ := obind hF
        refine kald Fc Z 0 rfl h3 dX5_copies_21 ?_
        obtain ⟨g4, h5, hF⟩ := obind hF
        refine kast (w' := [(x, .inl (cI, na, .inl f)), (y, .inl (cI, nb, .inl g4))]) Fc Z 1 rfl h5 rfl dX5_copies_22 (fun H locs Z => ?_)
        refine lv_iinc (v := (x4 + (1 : Int32))) (lv' := [(4, .int (x4 + (1 : Int32))), (0, .ref x), (1, .int x1), (2, .ref y), (3, .int x3)]) hx hb dX5_copies_23 hl (k := 4) rfl (by rfl) (by decide) rfl (fun ls hl => ?_)
        refine lv_goto (tgt := 3) hx hb dX5_copies_26 (by decide) ?_
        exact ih ((x4 + (1 : Int32))) g4 _ _ _ hF Z (lv_sub hl [1, 2, 3, 4, 0] rfl)
  unfold X5_copies2 at hF
  refine lv_iconst (v := (0 : Int32)) hx hb dX5_copies_0 (by decide) ?_
  refine lv_istore (lv' := [(4, .int (0 : Int32)), (0, .ref x), (1, .int p1), (2, .ref y), (3, .int p3)]) hx hb dX5_copies_1 hl (by decide) rfl (fun ls hl => ?_)
  exact L3 p1 p3 FU (0 : Int32) g _ _ _ hF Z (lv_sub hl [1, 2, 3, 4, 0] rfl)
def X5_copies1_L3 (nb : Nat) (x1 : Int32) (x3 : Int32) : Nat → Int32 → (Nat → Int32) → Option ((Nat → Int32))
  | 0, _, _ => none
  | k + 1, x4, g => if (681 : Int32) ≤ x4 then (some g) else (rdA g nb (x1 + x4)).bind fun v2 => (wrA g nb (x3 + x4) v2).bind fun g4 => X5_copies1_L3 nb x1 x3 k ((x4 + (1 : Int32))) g4
def X5_copies1 (nb : Nat) (g : (Nat → Int32)) (p1 p3 : Int32) : Option ((Nat → Int32)) := X5_copies1_L3 nb p1 p3 FU (0 : Int32) g
def rm_X5_copies1 : Room := { frames := 0, cells := 0, slots := 0, locals := 0 }
set_option maxHeartbeats 8000000 in
set_option maxRecDepth 100000 in
theorem c_X5_copies1 (l : Launch) (D : va_G) (cI cS : ClassId) (y nb : Nat) (g : Nat → Int32) (p1 p3 : Int32) (F : (Nat → Int32)) (hF : X5_copies1 nb g p1 p3 = some F) : MV l yX5_copies cX5_copies 5 rm_X5_copies1 D cI cS [.ref y, .int p1, .ref y, .int p3] ([(y, .inl (cI, nb, .inl g))]) (fun g : Nat → Int32 => [(y, .inl (cI, nb, .inl g))]) (fun u => u = F ∧ True) := by
  refine MV.mk RX5 rfl (by decide) (Nat.le_of_ble_eq_true rfl) ?_
  intro p e s m args below meth c A Q ls Fc hin hA Z kret hl
  obtain ⟨hx, hb, hml, hown, hts, hKN⟩ := id Fc
  replace hl : lv_has ls 5 [(0, .ref y), (1, .int p1), (2, .ref y), (3, .int p3)] := hl
  have L3 : ∀ (x1 : Int32) (x3 : Int32) (k : Nat) (x4 : Int32) (g : (Nat → Int32)) (H : Heap) (locs : List Loc) (ls : Array Slot), X5_copies1_L3 nb x1 x3  k x4 g = some F → Ix D A s ([(y, .inl (cI, nb, .inl g))]) H locs → lv_has ls 5 [(0, .ref y), (1, .int x1), (2, .ref y), (3, .int x3), (4, .int x4)] → W p l e rm_X5_copies1 s m args below meth c H locs 0 0 Q (F0 m 3 ls []) := by
    intro x1 x3 k
    induction k with
    | zero => intro x4 g H locs ls hF; rw [X5_copies1_L3] at hF; cases hF
    | succ k ih =>
      intro x4 g H locs ls hF Z hl
      rw [X5_copies1_L3] at hF
      refine lv_iload hx hb dX5_copies_3 (lv_at hl 4 rfl) ?_
      refine lv_sipush (v := (681 : Int32)) hx hb dX5_copies_5 (by decide) ?_
      refine lv_icmp_ge (tgt := 29) hx hb dX5_copies_8 (by decide) (fun c1 => ?_) (fun c1 => ?_)
      · rw [if_pos c1] at hF
        exact kret g _ _ _ _ ⟨(Option.some.inj hF), trivial⟩ Z dX5_copies_29
      · rw [if_neg c1] at hF
        refine lv_aload_n hx hb dX5_copies_11 rfl (lv_at hl 2 rfl) ?_
        refine lv_iload_n hx hb dX5_copies_12 rfl (lv_at hl 3 rfl) ?_
        refine lv_iload hx hb dX5_copies_13 (lv_at hl 4 rfl) ?_
        refine lv_iadd hx hb dX5_copies_15 ?_
        refine lv_aload_n hx hb dX5_copies_16 rfl (lv_at hl 0 rfl) ?_
        refine lv_iload_n hx hb dX5_copies_17 rfl (lv_at hl 1 rfl) ?_
        refine lv_iload hx hb dX5_copies_18 (lv_at hl 4 rfl) ?_
        refine lv_iadd hx hb dX5_copies_20 ?_
        obtain ⟨v2, h3, hF⟩ := obind hF
        refine kald Fc Z 0 rfl h3 dX5_copies_21 ?_
        obtain ⟨g4, h5, hF⟩ := obind hF
        refine kast (w' := [(y, .inl (cI, nb, .inl g4))]) Fc Z 0 rfl h5 rfl dX5_copies_22 (fun H locs Z => ?_)
        refine lv_iinc (v := (x4 + (1 : Int32))) (lv' := [(4, .int (x4 + (1 : Int32))), (0, .ref y), (1, .int x1), (2, .ref y), (3, .int x3)]) hx hb dX5_copies_23 hl (k := 4) rfl (by rfl) (by decide) rfl (fun ls hl => ?_)
        refine lv_goto (tgt := 3) hx hb dX5_copies_26 (by decide) ?_
        exact ih ((x4 + (1 : Int32))) g4 _ _ _ hF Z (lv_sub hl [1, 2, 3, 4, 0] rfl)
  unfold X5_copies1 at hF
  refine lv_iconst (v := (0 : Int32)) hx hb dX5_copies_0 (by decide) ?_
  refine lv_istore (lv' := [(4, .int (0 : Int32)), (0, .ref y), (1, .int p1), (2, .ref y), (3, .int p3)]) hx hb dX5_copies_1 hl (by decide) rfl (fun ls hl => ?_)
  exact L3 p1 p3 FU (0 : Int32) g _ _ _ hF Z (lv_sub hl [1, 2, 3, 4, 0] rfl)
