/-! SPECIFICATIONS OF THE TABLE, lenses, the JDK's functions, switches -/
theorem Lens.c1 {D : va_G} {A : Nat → Prop} {s : State} {ad : Nat → Nat} {cI : ClassId} {hs : Bool} {τ : St} {R : va_W} : Lens D A s (cW ad cI hs τ ++ R) (tbW (ad 4) (ad 5) cI 8 4 (8 * 4)) (τ.1 1) (fun u => cW ad cI hs (stT τ 1 u) ++ R) :=
  ⟨[0, 1, 2, 3, 6, 7, 8, 9, 10, 11].filterMap (fun i => (cW ad cI hs τ)[i]?) ++ R, fun _ _ Z => Ix.subP (w' := tbW (ad 4) (ad 5) cI 8 4 (8 * 4) (τ.1 1) ++ [0, 1, 2, 3, 6, 7, 8, 9, 10, 11].filterMap (fun i => (cW ad cI hs τ)[i]?)) Z [4, 5, 0, 1, 2, 3, 6, 7, 8, 9, 10, 11] (by decide) rfl,
   fun _ _ Z => Ix.subP (w := tbW (ad 4) (ad 5) cI 8 4 (8 * 4) (τ.1 1) ++ [0, 1, 2, 3, 6, 7, 8, 9, 10, 11].filterMap (fun i => (cW ad cI hs τ)[i]?)) Z [2, 3, 4, 5, 0, 1, 6, 7, 8, 9, 10, 11] (by decide) rfl,
   fun u _ _ Z => Ix.subP (w := tbW (ad 4) (ad 5) cI 8 4 (8 * 4) u ++ [0, 1, 2, 3, 6, 7, 8, 9, 10, 11].filterMap (fun i => (cW ad cI hs τ)[i]?)) Z [2, 3, 4, 5, 0, 1, 6, 7, 8, 9, 10, 11] (by decide) rfl⟩
theorem Lens.c2 {D : va_G} {A : Nat → Prop} {s : State} {ad : Nat → Nat} {cI : ClassId} {hs : Bool} {τ : St} {R : va_W} : Lens D A s (cW ad cI hs τ ++ R) (tbW (ad 6) (ad 7) cI 24 4 (24 * 4)) (τ.1 2) (fun u => cW ad cI hs (stT τ 2 u) ++ R) :=
  ⟨[0, 1, 2, 3, 4, 5, 8, 9, 10, 11].filterMap (fun i => (cW ad cI hs τ)[i]?) ++ R, fun _ _ Z => Ix.subP (w' := tbW (ad 6) (ad 7) cI 24 4 (24 * 4) (τ.1 2) ++ [0, 1, 2, 3, 4, 5, 8, 9, 10, 11].filterMap (fun i => (cW ad cI hs τ)[i]?)) Z [6, 7, 0, 1, 2, 3, 4, 5, 8, 9, 10, 11] (by decide) rfl,
   fun _ _ Z => Ix.subP (w := tbW (ad 6) (ad 7) cI 24 4 (24 * 4) (τ.1 2) ++ [0, 1, 2, 3, 4, 5, 8, 9, 10, 11].filterMap (fun i => (cW ad cI hs τ)[i]?)) Z [2, 3, 4, 5, 6, 7, 0, 1, 8, 9, 10, 11] (by decide) rfl,
   fun u _ _ Z => Ix.subP (w := tbW (ad 6) (ad 7) cI 24 4 (24 * 4) u ++ [0, 1, 2, 3, 4, 5, 8, 9, 10, 11].filterMap (fun i => (cW ad cI hs τ)[i]?)) Z [2, 3, 4, 5, 6, 7, 0, 1, 8, 9, 10, 11] (by decide) rfl⟩
theorem Lens.c3 {D : va_G} {A : Nat → Prop} {s : State} {ad : Nat → Nat} {cI : ClassId} {hs : Bool} {τ : St} {R : va_W} : Lens D A s (cW ad cI hs τ ++ R) (tbW (ad 8) (ad 9) cI 60 5 (60 * 5)) (τ.1 3) (fun u => cW ad cI hs (stT τ 3 u) ++ R) :=
  ⟨[0, 1, 2, 3, 4, 5, 6, 7, 10, 11].filterMap (fun i => (cW ad cI hs τ)[i]?) ++ R, fun _ _ Z => Ix.subP (w' := tbW (ad 8) (ad 9) cI 60 5 (60 * 5) (τ.1 3) ++ [0, 1, 2, 3, 4, 5, 6, 7, 10, 11].filterMap (fun i => (cW ad cI hs τ)[i]?)) Z [8, 9, 0, 1, 2, 3, 4, 5, 6, 7, 10, 11] (by decide) rfl,
   fun _ _ Z => Ix.subP (w := tbW (ad 8) (ad 9) cI 60 5 (60 * 5) (τ.1 3) ++ [0, 1, 2, 3, 4, 5, 6, 7, 10, 11].filterMap (fun i => (cW ad cI hs τ)[i]?)) Z [2, 3, 4, 5, 6, 7, 8, 9, 0, 1, 10, 11] (by decide) rfl,
   fun u _ _ Z => Ix.subP (w := tbW (ad 8) (ad 9) cI 60 5 (60 * 5) u ++ [0, 1, 2, 3, 4, 5, 6, 7, 10, 11].filterMap (fun i => (cW ad cI hs τ)[i]?)) Z [2, 3, 4, 5, 6, 7, 8, 9, 0, 1, 10, 11] (by decide) rfl⟩
theorem Lens.c4 {D : va_G} {A : Nat → Prop} {s : State} {ad : Nat → Nat} {cI : ClassId} {hs : Bool} {τ : St} {R : va_W} : Lens D A s (cW ad cI hs τ ++ R) (tbW (ad 10) (ad 11) cI 8 1 (8 * 1)) (τ.1 4) (fun u => cW ad cI hs (stT τ 4 u) ++ R) :=
  ⟨[0, 1, 2, 3, 4, 5, 6, 7, 8, 9].filterMap (fun i => (cW ad cI hs τ)[i]?) ++ R, fun _ _ Z => Ix.subP (w' := tbW (ad 10) (ad 11) cI 8 1 (8 * 1) (τ.1 4) ++ [0, 1, 2, 3, 4, 5, 6, 7, 8, 9].filterMap (fun i => (cW ad cI hs τ)[i]?)) Z [10, 11, 0, 1, 2, 3, 4, 5, 6, 7, 8, 9] (by decide) rfl,
   fun _ _ Z => Ix.subP (w := tbW (ad 10) (ad 11) cI 8 1 (8 * 1) (τ.1 4) ++ [0, 1, 2, 3, 4, 5, 6, 7, 8, 9].filterMap (fun i => (cW ad cI hs τ)[i]?)) Z [2, 3, 4, 5, 6, 7, 8, 9, 10, 11, 0, 1] (by decide) rfl,
   fun u _ _ Z => Ix.subP (w := tbW (ad 10) (ad 11) cI 8 1 (8 * 1) u ++ [0, 1, 2, 3, 4, 5, 6, 7, 8, 9].filterMap (fun i => (cW ad cI hs τ)[i]?)) Z [2, 3, 4, 5, 6, 7, 8, 9, 10, 11, 0, 1] (by decide) rfl⟩
theorem Lens.x3 {D : va_G} {A : Nat → Prop} {s : State} {ad : Nat → Nat} {cI : ClassId} {ξ : Xs} : Lens D A s (xW ad cI ξ) (tbW (ad 126) (ad 127) cI 15 4 (15 * 4)) ξ.2 (fun u => xW ad cI (ξ.1, u)) :=
  ⟨[0, 1].filterMap (fun i => (xW ad cI ξ)[i]?), fun _ _ Z => Ix.sub (w' := tbW (ad 126) (ad 127) cI 15 4 (15 * 4) ξ.2 ++ [0, 1].filterMap (fun i => (xW ad cI ξ)[i]?)) Z [2, 3, 0, 1] (by decide) rfl,
   fun _ _ Z => Ix.sub (w := tbW (ad 126) (ad 127) cI 15 4 (15 * 4) ξ.2 ++ [0, 1].filterMap (fun i => (xW ad cI ξ)[i]?)) Z [2, 3, 0, 1] (by decide) rfl,
   fun u _ _ Z => Ix.sub (w := tbW (ad 126) (ad 127) cI 15 4 (15 * 4) u ++ [0, 1].filterMap (fun i => (xW ad cI ξ)[i]?)) Z [2, 3, 0, 1] (by decide) rfl⟩
theorem Ix.anil {D : va_G} {A : Nat → Prop} {s : State} {w : va_W} {H : Heap} {locs : List Loc} (Z : Ix D A s w H locs) : Ix D A s (w ++ []) H locs := by rw [List.append_nil]; exact Z
theorem Ix.nila {D : va_G} {A : Nat → Prop} {s : State} {w : va_W} {H : Heap} {locs : List Loc} (Z : Ix D A s (w ++ []) H locs) : Ix D A s w H locs := by rw [List.append_nil] at Z; exact Z
/-- what the table's methods answer and leave, where its size is in its bounds -/
def tbS (cap cols L : Nat) : Prop := L = cap * cols ∧ cap ≤ 100 ∧ cols ≤ 100
def tbOK (cap : Nat) (u : Tab) : Prop := 0 ≤ u.1 ∧ u.1 ≤ nI cap
def tat (cols : Nat) (row col : Int32) : Nat := row.toNatClampNeg * cols + col.toNatClampNeg
def tget (cols : Nat) (u : Tab) (row col : Int32) : Int32 := if row < 0 ∨ u.1 ≤ row ∨ col < 0 ∨ nI cols ≤ col then 0 else u.2 (tat cols row col)
def tput (cols : Nat) (u : Tab) (row col v : Int32) : Tab := if row < 0 ∨ u.1 ≤ row ∨ col < 0 ∨ nI cols ≤ col then u else (u.1, va_up u.2 (tat cols row col) v)
def thas (u : Tab) (row : Int32) : Bool := decide (0 ≤ row) && decide (row < u.1)
def tadd (cap cols : Nat) (u : Tab) : Int32 × Tab := if nI cap ≤ u.1 then (-3, u) else (u.1, (u.1 + 1, fun k => if u.1.toNatClampNeg * cols ≤ k ∧ k < u.1.toNatClampNeg * cols + cols then 0 else u.2 k))
def trem (cols : Nat) (u : Tab) (row : Int32) : Tab := if row < 0 ∨ u.1 ≤ row then u else (u.1 - 1, fun k => if row.toNatClampNeg * cols ≤ k ∧ k < (u.1.toNatClampNeg - 1) * cols then u.2 (k + cols) else u.2 k)
def tclr (u : Tab) : Tab := (0, u.2)
def OK (τ : St) : Prop := tbOK 20 (τ.1 0) ∧ tbOK 8 (τ.1 1) ∧ tbOK 24 (τ.1 2) ∧ tbOK 60 (τ.1 3) ∧ tbOK 8 (τ.1 4)
theorem ok_c0 {τ : St} {u : Tab} (h : OK τ) (hu : tbOK 20 u) : OK (stT τ 0 u) := ⟨hu, h.2.1, h.2.2.1, h.2.2.2.1, h.2.2.2.2⟩
theorem ok_c1 {τ : St} {u : Tab} (h : OK τ) (hu : tbOK 8 u) : OK (stT τ 1 u) := ⟨h.1, hu, h.2.2.1, h.2.2.2.1, h.2.2.2.2⟩
theorem ok_c2 {τ : St} {u : Tab} (h : OK τ) (hu : tbOK 24 u) : OK (stT τ 2 u) := ⟨h.1, h.2.1, hu, h.2.2.2.1, h.2.2.2.2⟩
theorem ok_c3 {τ : St} {u : Tab} (h : OK τ) (hu : tbOK 60 u) : OK (stT τ 3 u) := ⟨h.1, h.2.1, h.2.2.1, hu, h.2.2.2.2⟩
theorem ok_c4 {τ : St} {u : Tab} (h : OK τ) (hu : tbOK 8 u) : OK (stT τ 4 u) := ⟨h.1, h.2.1, h.2.2.1, h.2.2.2.1, hu⟩
theorem ok_D {τ : St} {d : Int32} (h : OK τ) : OK (stD τ d) := h
theorem sh0 : tbS 20 12 (20 * 12) := ⟨rfl, by decide, by decide⟩
theorem sh1 : tbS 8 4 (8 * 4) := ⟨rfl, by decide, by decide⟩
theorem sh2 : tbS 24 4 (24 * 4) := ⟨rfl, by decide, by decide⟩
theorem sh3 : tbS 60 5 (60 * 5) := ⟨rfl, by decide, by decide⟩
theorem sh4 : tbS 8 1 (8 * 1) := ⟨rfl, by decide, by decide⟩
theorem shx : tbS 15 4 (15 * 4) := ⟨rfl, by decide, by decide⟩
theorem bi_nar (b : Bool) : narrow .boolean (.int (bi b)) = .int (bi b) := by cases b <;> rfl
theorem bi_or1 (b : Bool) : bi b ||| 1 = bi true := by cases b <;> decide
theorem bi_or0 (b : Bool) : bi b ||| 0 = bi b := by cases b <;> decide
def jab (x : Int32) : Int32 := if 0 ≤ x then x else 0 - x
section KJ
variable {p : Program} {l : Launch} {e : Env} {R : Room} {s : State} {m : MethodId} {args : Array Value} {below : List Frame} {meth : Method} {c : Code} {H : Heap} {locs : List Loc} {cells slots : Nat} {Q : State → Prop}
variable {lv : List (Nat × Value)} {nL : Nat} {own : String} {cc : ByteArray} {D : va_G} {cI cS : ClassId} {A : Nat → Prop} {w : va_W} {pc : Nat} {ls : Array Slot} {rest : List Value} {idx : Nat}
theorem kmax {x y : Int32} (F : Fx p m c nL s args own cc D cI cS) (hl : lv_has ls nL lv) (hw : Cond.methodLink own idx ⟨"java/lang/Math", "max", "(II)I"⟩ ∈ wU) (hfr : 1 ≤ R.frames) (hlo : (rest.map fun v => v.category).sum + 13 ≤ R.locals) (hce : cells ≤ R.cells ∧ slots ≤ R.slots) (hdg : decode cc pc = .ok (.invokestatic idx, 3))
    (kk : W p l e R s m args below meth c H locs cells slots Q (F0 m (pc + 3) ls (.int (jmax x y) :: rest))) : W p l e R s m args below meth c H locs cells slots Q (F0 m pc ls (.int y :: .int x :: rest)) :=
  va_mmax F.1 F.2.1 (F.2.2.1.trans hl.1.symm) F.2.2.2.1 (F.2.2.2.2.1 _ hw) (F.2.2.2.2.1 _ mT_J_max_III) (F.2.2.2.2.1 _ mZ_java_lang_Math) (F.2.2.2.2.1 _ mC_J_max_III) hfr hlo hce.1 hce.2 hdg kk
theorem kmin {x y : Int32} (F : Fx p m c nL s args own cc D cI cS) (hl : lv_has ls nL lv) (hw : Cond.methodLink own idx ⟨"java/lang/Math", "min", "(II)I"⟩ ∈ wU) (hfr : 1 ≤ R.frames) (hlo : (rest.map fun v => v.category).sum + 13 ≤ R.locals) (hce : cells ≤ R.cells ∧ slots ≤ R.slots) (hdg : decode cc pc = .ok (.invokestatic idx, 3))
    (kk : W p l e R s m args below meth c H locs cells slots Q (F0 m (pc + 3) ls (.int (jmin x y) :: rest))) : W p l e R s m args below meth c H locs cells slots Q (F0 m pc ls (.int y :: .int x :: rest)) :=
  va_mmin F.1 F.2.1 (F.2.2.1.trans hl.1.symm) F.2.2.2.1 (F.2.2.2.2.1 _ hw) (F.2.2.2.2.1 _ mT_J_min_III) (F.2.2.2.2.1 _ mZ_java_lang_Math) (F.2.2.2.2.1 _ mC_J_min_III) hfr hlo hce.1 hce.2 hdg kk
theorem kabs {x : Int32} (F : Fx p m c nL s args own cc D cI cS) (hl : lv_has ls nL lv) (hw : Cond.methodLink own idx ⟨"java/lang/Math", "abs", "(I)I"⟩ ∈ wU) (hfr : 1 ≤ R.frames) (hlo : (rest.map fun v => v.category).sum + 13 ≤ R.locals) (hce : cells ≤ R.cells ∧ slots ≤ R.slots) (hdg : decode cc pc = .ok (.invokestatic idx, 3))
    (kk : W p l e R s m args below meth c H locs cells slots Q (F0 m (pc + 3) ls (.int (jab x) :: rest))) : W p l e R s m args below meth c H locs cells slots Q (F0 m pc ls (.int x :: rest)) :=
  va_mabs F.1 F.2.1 (F.2.2.1.trans hl.1.symm) F.2.2.2.1 (F.2.2.2.2.1 _ hw) (F.2.2.2.2.1 _ mT_J_abs_II) (F.2.2.2.2.1 _ mZ_java_lang_Math) (F.2.2.2.2.1 _ mC_J_abs_II) hfr hlo hce.1 hce.2 hdg kk
theorem kminL {x y : Int64} (F : Fx p m c nL s args own cc D cI cS) (hl : lv_has ls nL lv) (hw : Cond.methodLink own idx ⟨"java/lang/Math", "min", "(JJ)J"⟩ ∈ wU) (hfr : 1 ≤ R.frames) (hlo : (rest.map fun v => v.category).sum + 15 ≤ R.locals) (hce : cells ≤ R.cells ∧ slots ≤ R.slots) (hdg : decode cc pc = .ok (.invokestatic idx, 3))
    (kk : W p l e R s m args below meth c H locs cells slots Q (F0 m (pc + 3) ls (.long (jminL x y) :: rest))) : W p l e R s m args below meth c H locs cells slots Q (F0 m pc ls (.long y :: .long x :: rest)) :=
  va_mmin_long F.1 F.2.1 (F.2.2.1.trans hl.1.symm) F.2.2.2.1 (F.2.2.2.2.1 _ hw) (F.2.2.2.2.1 _ mT_J_min_JJJ) (F.2.2.2.2.1 _ mZ_java_lang_Math) (F.2.2.2.2.1 _ mC_J_min_JJJ) hfr hlo hce.1 hce.2 hdg kk
theorem kior {x y z : Int32} (hx : p.tables.exec = Jvm.exec) (hb : c.code = cc) (hz : x ||| y = z) (hdg : decode cc pc = .ok (.ior, 1)) (kk : W p l e R s m args below meth c H locs cells slots Q (F0 m (pc + 1) ls (.int z :: rest))) : W p l e R s m args below meth c H locs cells slots Q (F0 m pc ls (.int y :: .int x :: rest)) := by
  subst hz
  exact lv_ior hx hb hdg kk
/-- a switch at none of its values -/
theorem kdflt {dflt lo hi : Int} {offs : Array Int} {len : Nat} {x : Int32} {tgt : Nat} (hx : p.tables.exec = Jvm.exec) (hb : c.code = cc) (hdg : decode cc pc = .ok (.tableswitch dflt lo hi offs, len)) (vals : List Int32) (hall : ∀ j, j < (hi - lo + 1).toNat → offs[j]? = some dflt ∨ Int32.ofInt (lo + (j : Int)) ∈ vals) (hno : ∀ v ∈ vals, ¬ x = v) (ht : (pc : Int) + dflt = (tgt : Int))
    (kk : W p l e R s m args below meth c H locs cells slots Q (F0 m tgt ls rest)) : W p l e R s m args below meth c H locs cells slots Q (F0 m pc ls (.int x :: rest)) := by
  by_cases h1 : x.toInt < lo
  · exact lv_tableOut hx hb hdg (Or.inl h1) ht kk
  · by_cases h2 : hi < x.toInt
    · exact lv_tableOut hx hb hdg (Or.inr h2) ht kk
    · rcases hall (x.toInt - lo).toNat (by omega) with h3 | h3
      · exact lv_tableIn hx hb hdg h1 h2 h3 ht kk
      · refine absurd ?_ (hno _ h3)
        have e1 : lo + ((x.toInt - lo).toNat : Int) = x.toInt := by omega
        rw [e1, Int32.ofInt_toInt]
end KJ
