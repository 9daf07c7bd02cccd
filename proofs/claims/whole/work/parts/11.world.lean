/-! THE WORLDS: what the cells of the class and of the reference hold, as plain values; single instructions over a world -/
def bi (b : Bool) : Int32 := if b = true then 1 else 0
abbrev Tab : Type := Int32 × (Nat → Int32)
abbrev St : Type := (Nat → Tab) × Int32
def stT (τ : St) (i : Nat) (u : Tab) : St := (va_up τ.1 i u, τ.2)
def stD (τ : St) (d : Int32) : St := (τ.1, d)
def tbW (t a : Nat) (cI : ClassId) (cap cols L : Nat) (u : Tab) : va_W := [(t, .inr (3, [.int (nI cap), .int (nI cols), .ref a, .int u.1])), (a, .inl (cI, L, .inl u.2))]
def stW (ad : Nat → Nat) (b : Nat) (cI : ClassId) (τ : St) : va_W := [
  (ad b, .inr (2, [.ref (ad (b + 1)), .ref (ad (b + 3)), .ref (ad (b + 5)), .ref (ad (b + 7)), .ref (ad (b + 9)), .int τ.2])),
  (ad (b + 1), .inr (3, [.int (nI 20), .int (nI 12), .ref (ad (b + 2)), .int (τ.1 0).1])), (ad (b + 2), .inl (cI, 20 * 12, .inl (τ.1 0).2)),
  (ad (b + 3), .inr (3, [.int (nI 8), .int (nI 4), .ref (ad (b + 4)), .int (τ.1 1).1])), (ad (b + 4), .inl (cI, 8 * 4, .inl (τ.1 1).2)),
  (ad (b + 5), .inr (3, [.int (nI 24), .int (nI 4), .ref (ad (b + 6)), .int (τ.1 2).1])), (ad (b + 6), .inl (cI, 24 * 4, .inl (τ.1 2).2)),
  (ad (b + 7), .inr (3, [.int (nI 60), .int (nI 5), .ref (ad (b + 8)), .int (τ.1 3).1])), (ad (b + 8), .inl (cI, 60 * 5, .inl (τ.1 3).2)),
  (ad (b + 9), .inr (3, [.int (nI 8), .int (nI 1), .ref (ad (b + 10)), .int (τ.1 4).1])), (ad (b + 10), .inl (cI, 8 * 1, .inl (τ.1 4).2))]
def cW (ad : Nat → Nat) (cI : ClassId) (hs : Bool) (τ : St) : va_W :=
  (ad 0, .inr (4, [.ref (ad 1), .ref (ad 12), .ref (ad 23), .int (bi hs), .ref (ad 34), .ref (ad 124)])) :: stW ad 1 cI τ
abbrev Xs : Type := ((Nat → Int32) × (Int32 × Int32)) × Tab
def xW (ad : Nat → Nat) (cI : ClassId) (ξ : Xs) : va_W := [
  (ad 124, .inr (0, [.ref (ad 125), .int ξ.1.2.1, .int ξ.1.2.2, .ref (ad 126)])), (ad 125, .inl (cI, 60, .inl ξ.1.1)),
  (ad 126, .inr (3, [.int (nI 15), .int (nI 4), .ref (ad 127), .int ξ.2.1])), (ad 127, .inl (cI, 15 * 4, .inl ξ.2.2))]
abbrev Ms : Type := ((Nat → Nat → Int32) × (Nat → Int32)) × (Bool × Bool)
def msA (ρ : Ms) (i : Nat) (f : Nat → Int32) : Ms := ((va_up ρ.1.1 i f, ρ.1.2), ρ.2)
def msI (ρ : Ms) (j : Nat) (v : Int32) : Ms := ((ρ.1.1, va_up ρ.1.2 j v), ρ.2)
def msS (ρ : Ms) (b : Bool) : Ms := (ρ.1, (b, ρ.2.2))
def msW (ρ : Ms) (b : Bool) : Ms := (ρ.1, (ρ.2.1, b))
def mW (am : Nat → Nat) (cI : ClassId) (ρ : Ms) : va_W := [
  (am 0, .inr (5, [.ref (am 1), .ref (am 2), .ref (am 3), .ref (am 4), .int (ρ.1.2 0), .int (bi ρ.2.1), .ref (am 5), .ref (am 6), .int (ρ.1.2 1), .int (ρ.1.2 2), .int (bi ρ.2.2)])),
  (am 1, .inl (cI, 681, .inl (ρ.1.1 0))), (am 2, .inl (cI, 681, .inl (ρ.1.1 1))), (am 3, .inl (cI, 681, .inl (ρ.1.1 2))), (am 4, .inl (cI, 5448, .inl (ρ.1.1 3))), (am 5, .inl (cI, 60, .inl (ρ.1.1 4))), (am 6, .inl (cI, 3, .inl (ρ.1.1 5)))]
/-- reading and writing an int array: nothing where the index is outside -/
def rdA (f : Nat → Int32) (n : Nat) (i : Int32) : Option Int32 := if i < 0 ∨ n ≤ i.toNatClampNeg then none else some (f i.toNatClampNeg)
def wrA (f : Nat → Int32) (n : Nat) (i v : Int32) : Option (Nat → Int32) := if i < 0 ∨ n ≤ i.toNatClampNeg then none else some (va_up f i.toNatClampNeg v)
theorem rdA_el {f : Nat → Int32} {n : Nat} {i v : Int32} (h : rdA f n i = some v) : vp_in i n ∧ v = f i.toNatClampNeg := by
  unfold rdA at h
  split at h
  · cases h
  · rename_i g
    exact ⟨g, (Option.some.inj h).symm⟩
theorem wrA_el {f g : Nat → Int32} {n : Nat} {i v : Int32} (h : wrA f n i v = some g) : vp_in i n ∧ g = va_up f i.toNatClampNeg v := by
  unfold wrA at h
  split at h
  · cases h
  · rename_i g
    exact ⟨g, (Option.some.inj h).symm⟩
/-- a step of a computation that has one answer -/
def bnd {α β : Type} (x : α) (f : α → β) : β := f x
theorem bnd_el {α β : Type} {x : α} {f : α → β} {r : β} (h : bnd x f = r) : ∃ q, q = x ∧ f q = r := ⟨x, rfl, h⟩
theorem obind {α β : Type} {x : Option α} {f : α → Option β} {r : β} (h : x.bind f = some r) : ∃ q, x = some q ∧ f q = some r := by
  cases x with
  | none => cases h
  | some q => exact ⟨q, rfl, h⟩
def FU : Nat := 1000
def jmax (x y : Int32) : Int32 := if x < y then y else x
def jmin (x y : Int32) : Int32 := if y < x then y else x
def jabs (x : Int32) : Int32 := if x < 0 then 0 - x else x
def jminL (x y : Int64) : Int64 := if y < x then y else x
theorem inX0 : ∀ w ∈ u_ws RX0 TX0 4, w ∈ wU := by decide +kernel
theorem inX1 : ∀ w ∈ u_ws RX1 TX1 3, w ∈ wU := by decide +kernel
theorem inX2 : ∀ w ∈ u_ws RX2 TX2 6, w ∈ wU := by decide +kernel
theorem inX3 : ∀ w ∈ u_ws RX3 TX3 4, w ∈ wU := by decide +kernel
theorem inX4 : ∀ w ∈ u_ws RX4 TX4 6, w ∈ wU := by decide +kernel
theorem inX5 : ∀ w ∈ u_ws RX5 TX5 11, w ∈ wU := by decide +kernel
section KI
variable {p : Program} {l : Launch} {e : Env} {R : Room} {s : State} {m : MethodId} {args : Array Value} {below : List Frame} {meth : Method} {c : Code} {H : Heap} {locs : List Loc} {cells slots : Nat} {Q : State → Prop}
variable {lv : List (Nat × Value)} {nL : Nat} {own : String} {cc : ByteArray} {D : va_G} {cI cS : ClassId} {A : Nat → Prop} {w : va_W} {pc : Nat} {ls : Array Slot} {st rest As : List Value} {a b : Nat} {C ref host : String} {n idx : Nat} {T : u_T} {N ci : Nat} {fs : List Value} {v : Value}
theorem kget (F : Fx p m c nL s args own cc D cI cS) (Z : Ix D A s w H locs) (hin : ∀ x ∈ u_ws C T N, x ∈ wU) (q0 : Nat) (he : w[q0]? = some (a, .inr (ci, fs))) (hc : vwCl[ci]? = some (C, T, N)) (k : Nat) (hk : k < N) (hF : Cond.fieldLink own idx ref (T k).2.1 (T k).2.2.1 ∈ wU) (hr : (T k).1 = ref) (hv : fs[k]? = some v) (hdg : decode cc pc = .ok (.getfield idx, 3))
    (kk : W p l e R s m args below meth c H locs cells slots Q (F0 m (pc + 3) ls (v :: rest))) : W p l e R s m args below meth c H locs cells slots Q (F0 m pc ls (.ref a :: rest)) :=
  va_get (D := D) F.1 F.2.1 F.2.2.2.2.1 hin F.2.2.2.1 F.2.2.2.2.2.1 Z.1 q0 he hc k hk (F.2.2.2.2.1 _ hF) (fun x h => by rw [← hr]; exact h) hv hdg kk
theorem kgetN (F : Fx p m c nL s args own cc D cI cS) (Z : Ix D A s w H locs) (hin : ∀ x ∈ u_ws C T N, x ∈ wU) (q0 : Nat) (he : w[q0]? = some (a, .inr (ci, fs))) (hc : vwCl[ci]? = some (C, T, N)) (k : Nat) (hk : k < N) (hF : Cond.fieldLinkNest own idx ref (T k).2.1 (T k).2.2.1 host ∈ nws) (hr : (T k).1 = ref) (hv : fs[k]? = some v) (hdg : decode cc pc = .ok (.getfield idx, 3))
    (kk : W p l e R s m args below meth c H locs cells slots Q (F0 m (pc + 3) ls (v :: rest))) : W p l e R s m args below meth c H locs cells slots Q (F0 m pc ls (.ref a :: rest)) :=
  va_getN (D := D) (host := host) F.1 F.2.1 F.2.2.2.2.1 hin F.2.2.2.1 F.2.2.2.2.2.1 Z.1 q0 he hc k hk ((F.2.2.2.2.2.2 _ hF).use rfl) (fun x h => by rw [← hr]; exact h) hv hdg kk
theorem kput {w' : va_W} {ty : FieldType} (F : Fx p m c nL s args own cc D cI cS) (Z : Ix D A s w H locs) (hin : ∀ x ∈ u_ws C T N, x ∈ wU) (tys : Nat → FieldType) (hty : ∀ k, k < N → parseFieldDescriptor (T k).2.2.1 = some (tys k)) (hnm : ∀ a, a < N → ∀ b, b < N → a ≠ b → (T a).2.1 ≠ (T b).2.1) (q0 : Nat) (he : w[q0]? = some (a, .inr (ci, fs))) (hc : vwCl[ci]? = some (C, T, N)) (k : Nat) (hk : k < N) (hF : Cond.fieldLink own idx ref (T k).2.1 (T k).2.2.1 ∈ wU) (hr : (T k).1 = ref)
    (hfin : (T k).2.2.2 = false) (hd : tys k = ty) (hn : narrow ty v = v) (hfit : fits ty v = true) (hl : k < fs.length) (hw : w.set q0 (a, .inr (ci, fs.set k v)) = w') (hdg : decode cc pc = .ok (.putfield idx, 3))
    (kk : ∀ (H1 : Heap) (locs1 : List Loc), Ix D A s w' H1 locs1 → W p l e R s m args below meth c H1 locs1 cells slots Q (F0 m (pc + 3) ls rest)) : W p l e R s m args below meth c H locs cells slots Q (F0 m pc ls (v :: .ref a :: rest)) := by
  subst hw
  exact va_put (D := D) F.1 F.2.1 F.2.2.2.2.1 hin tys hty hnm F.2.2.2.1 F.2.2.2.2.2.1 Z.1 Z.2.1 Z.2.2 q0 he hc k hk (F.2.2.2.2.1 _ hF) (fun x h => by rw [← hr]; exact h) hfin (by rw [hty k hk, hd]) hn hfit hl hdg (fun H1 locs1 hP hD hS => kk H1 locs1 ⟨hP, hD, hS⟩)
theorem kputN {w' : va_W} {ty : FieldType} (F : Fx p m c nL s args own cc D cI cS) (Z : Ix D A s w H locs) (hin : ∀ x ∈ u_ws C T N, x ∈ wU) (tys : Nat → FieldType) (hty : ∀ k, k < N → parseFieldDescriptor (T k).2.2.1 = some (tys k)) (hnm : ∀ a, a < N → ∀ b, b < N → a ≠ b → (T a).2.1 ≠ (T b).2.1) (q0 : Nat) (he : w[q0]? = some (a, .inr (ci, fs))) (hc : vwCl[ci]? = some (C, T, N)) (k : Nat) (hk : k < N) (hF : Cond.fieldLinkNest own idx ref (T k).2.1 (T k).2.2.1 host ∈ nws) (hr : (T k).1 = ref)
    (hfin : (T k).2.2.2 = false) (hd : tys k = ty) (hn : narrow ty v = v) (hfit : fits ty v = true) (hl : k < fs.length) (hw : w.set q0 (a, .inr (ci, fs.set k v)) = w') (hdg : decode cc pc = .ok (.putfield idx, 3))
    (kk : ∀ (H1 : Heap) (locs1 : List Loc), Ix D A s w' H1 locs1 → W p l e R s m args below meth c H1 locs1 cells slots Q (F0 m (pc + 3) ls rest)) : W p l e R s m args below meth c H locs cells slots Q (F0 m pc ls (v :: .ref a :: rest)) := by
  subst hw
  exact va_putN (D := D) (host := host) F.1 F.2.1 F.2.2.2.2.1 hin tys hty hnm F.2.2.2.1 F.2.2.2.2.2.1 Z.1 Z.2.1 Z.2.2 q0 he hc k hk ((F.2.2.2.2.2.2 _ hF).use rfl) (fun x h => by rw [← hr]; exact h) hfin (by rw [hty k hk, hd]) hn hfit hl hdg (fun H1 locs1 hP hD hS => kk H1 locs1 ⟨hP, hD, hS⟩)
theorem kald {f : Nat → Int32} {i x : Int32} (F : Fx p m c nL s args own cc D cI cS) (Z : Ix D A s w H locs) (q0 : Nat) (he : w[q0]? = some (a, .inl (cI, n, .inl f))) (hv : rdA f n i = some x) (hdg : decode cc pc = .ok (.iaload, 1))
    (kk : W p l e R s m args below meth c H locs cells slots Q (F0 m (pc + 1) ls (.int x :: rest))) : W p l e R s m args below meth c H locs cells slots Q (F0 m pc ls (.int i :: .ref a :: rest)) := by
  obtain ⟨h1, rfl⟩ := rdA_el hv
  exact va_iald (D := D) F.1 F.2.1 F.2.2.2.2.2.1 Z.1 q0 0 he rfl h1 hdg kk
theorem kast {w' : va_W} {f g : Nat → Int32} {i x : Int32} (F : Fx p m c nL s args own cc D cI cS) (Z : Ix D A s w H locs) (q0 : Nat) (he : w[q0]? = some (a, .inl (cI, n, .inl f))) (hv : wrA f n i x = some g) (hw : w.set q0 (a, .inl (cI, n, .inl g)) = w') (hdg : decode cc pc = .ok (.iastore, 1))
    (kk : ∀ (H1 : Heap) (locs1 : List Loc), Ix D A s w' H1 locs1 → W p l e R s m args below meth c H1 locs1 cells slots Q (F0 m (pc + 1) ls rest)) : W p l e R s m args below meth c H locs cells slots Q (F0 m pc ls (.int x :: .int i :: .ref a :: rest)) := by
  obtain ⟨h1, rfl⟩ := wrA_el hv
  subst hw
  exact va_iast (D := D) F.1 F.2.1 F.2.2.2.2.2.1 Z.1 Z.2.1 Z.2.2 q0 0 he rfl h1 hdg (fun H1 locs1 hP hD hS => kk H1 locs1 ⟨hP, hD, hS⟩)
theorem kalen {f : Nat → Int32} {x : Int32} (F : Fx p m c nL s args own cc D cI cS) (Z : Ix D A s w H locs) (q0 : Nat) (he : w[q0]? = some (a, .inl (cI, n, .inl f))) (hv : nI n = x) (hdg : decode cc pc = .ok (.arraylength, 1))
    (kk : W p l e R s m args below meth c H locs cells slots Q (F0 m (pc + 1) ls (.int x :: rest))) : W p l e R s m args below meth c H locs cells slots Q (F0 m pc ls (.ref a :: rest)) :=
  va_alen (D := D) F.1 F.2.1 F.2.2.2.2.2.1 Z.1 q0 0 he rfl hv hdg kk
end KI
/-- the tables of a state, one at a time -/
theorem Lens.c0 {D : va_G} {A : Nat → Prop} {s : State} {ad : Nat → Nat} {cI : ClassId} {hs : Bool} {τ : St} {R : va_W} : Lens D A s (cW ad cI hs τ ++ R) (tbW (ad 2) (ad 3) cI 20 12 (20 * 12)) (τ.1 0) (fun u => cW ad cI hs (stT τ 0 u) ++ R) :=
  ⟨[0, 1, 4, 5, 6, 7, 8, 9, 10, 11].filterMap (fun i => (cW ad cI hs τ)[i]?) ++ R, fun _ _ Z => Ix.subP (w' := tbW (ad 2) (ad 3) cI 20 12 (20 * 12) (τ.1 0) ++ [0, 1, 4, 5, 6, 7, 8, 9, 10, 11].filterMap (fun i => (cW ad cI hs τ)[i]?)) Z [2, 3, 0, 1, 4, 5, 6, 7, 8, 9, 10, 11] (by decide) rfl,
   fun _ _ Z => Ix.subP (w := tbW (ad 2) (ad 3) cI 20 12 (20 * 12) (τ.1 0) ++ [0, 1, 4, 5, 6, 7, 8, 9, 10, 11].filterMap (fun i => (cW ad cI hs τ)[i]?)) Z [2, 3, 0, 1, 4, 5, 6, 7, 8, 9, 10, 11] (by decide) rfl,
   fun u _ _ Z => Ix.subP (w := tbW (ad 2) (ad 3) cI 20 12 (20 * 12) u ++ [0, 1, 4, 5, 6, 7, 8, 9, 10, 11].filterMap (fun i => (cW ad cI hs τ)[i]?)) Z [2, 3, 0, 1, 4, 5, 6, 7, 8, 9, 10, 11] (by decide) rfl⟩
