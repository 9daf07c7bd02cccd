/-! CONSTRUCTORS AND STATIC TABLES: contracts that also know the three static rows, and count what is made -/
def vF : Nat → Int32 := fun j => [14, 5, 25, 500, 1000, 7, 3000, 60].getD j 0
def vLo : Nat → Int32 := fun j => [1, 1, 0, 0, 1, 0, 0, 1].getD j 0
def vHi : Nat → Int32 := fun j => [60, 20, 1000, 10000, 100000, 30, 100000, 365].getD j 0
def Z1 (n : String) (t : Nat) (f : Nat → Int32) (A : Nat → Prop) (U : State) : Prop := va_Z "LibraryCirculation" n "[I" (.ref t) A U U.heap ∧ va_T .int t 8 (fun j => .int (f j)) A U U.heap
def ZS (tF tL tH : Nat) (A : Nat → Prop) (U : State) : Prop := Z1 "FIRST_VALUES" tF vF A U ∧ Z1 "LOWEST_VALUES" tL vLo A U ∧ Z1 "HIGHEST_VALUES" tH vHi A U ∧ va_AO "LibraryCirculation$State" U
theorem Z1.pass {n : String} {t : Nat} {f : Nat → Int32} {A B : Nat → Prop} {s U : State} {H : Heap} {locs : List Loc} (h : Z1 n t f A s) (hS : va_S A s.heap H locs) (hB : ∀ q, B q → A q) (hvm : s.vm.Alike U.vm) (hU : U.heap = H) : Z1 n t f B U := by
  subst hU
  exact ⟨((h.1.kept hS.2.1).narrow hB).moved hvm, ((h.2.kept hS.2.1).narrow hB).moved hvm⟩
theorem ZS.pass {tF tL tH : Nat} {A B : Nat → Prop} {s U : State} {H : Heap} {locs : List Loc} (h : ZS tF tL tH A s) (hS : va_S A s.heap H locs) (hB : ∀ q, B q → A q) (hvm : s.vm.Alike U.vm) (hU : U.heap = H) : ZS tF tL tH B U :=
  ⟨h.1.pass hS hB hvm hU, h.2.1.pass hS hB hvm hU, h.2.2.1.pass hS hB hvm hU, h.2.2.2.moved hvm⟩
theorem ZS.call {tF tL tH : Nat} {A : Nat → Prop} {U : State} (g : JFrame) (mk : MethodId) (a : Array Value) (h : ZS tF tL tH A U) : ZS tF tL tH A (U.calling g mk a) :=
  h.pass (H := U.heap) (locs := []) va_S.rf (fun _ q => q) (Vm.Alike.refl U.vm) rfl
def PcE (tF tL tH : Nat) (D : va_G) (cI cS : ClassId) (as : List Value) (w : va_W) (sz : Nat) : Array Value → State → Prop := va_Pc as (fun U => U.heap.size = sz ∧ va_P D vwCl w U.heap ∧ KN D cI cS U ∧ va_D (fun _ => True) w ∧ ZS tF tL tH (va_A w sz) U)
theorem PcE.blind {tF tL tH : Nat} {D : va_G} {cI cS : ClassId} {as : List Value} {w : va_W} {sz : Nat} : FrameBlind (PcE tF tL tH D cI cS as w sz) := fun a _ g mk q => by obtain ⟨q0, q1, qP, qK, qD, qZ⟩ := q; exact ⟨q0, q1, qP, KN.call g mk a qK, qD, ZS.call g mk a qZ⟩
def MIE {S : Type} (tF tL tH : Nat) (l : Launch) (y : MethodName) (cc : ByteArray) (nL : Nat) (ret : Option FieldType) (rm : Room) (D : va_G) (cI cS : ClassId) (as : List Value) (w0 : va_W) (wf : S → va_W) (post : Int32 → S → Prop) : Prop :=
  ∀ sz, Met l y (Cond.code y cc nL ret :: wU) rm (PcE tF tL tH D cI cS as w0 sz) (QcI post wf D w0 sz) 0 0 (va_A w0 sz)
def MVE {S : Type} (tF tL tH : Nat) (l : Launch) (y : MethodName) (cc : ByteArray) (nL : Nat) (rm : Room) (D : va_G) (cI cS : ClassId) (as : List Value) (w0 : va_W) (wf : S → va_W) (post : S → Prop) (mc ms : Nat) : Prop :=
  ∀ sz, Met l y (Cond.code y cc nL none :: wU) rm (PcE tF tL tH D cI cS as w0 sz) (QcV post wf D w0 sz) mc ms (va_A w0 sz)
set_option maxHeartbeats 4000000 in
theorem MIE.mk {S : Type} {tF tL tH : Nat} {l : Launch} {y : MethodName} {cc : ByteArray} {nL : Nat} {ret : Option FieldType} {rm : Room} {D : va_G} {cI cS : ClassId} {as : List Value} {w0 : va_W} {wf : S → va_W} {post : Int32 → S → Prop}
    (own : String) (ho : y.cls = own) (rt : FieldType) (hret : ret = some rt) (hy : plainName y.cls = true) (hnl : (lg_sl as).length ≤ nL) (hnar : ∀ r u, post r u → narrow rt (.int r) = .int r)
    (body : ∀ (p : Program) (e : Env) (s : State) (m : MethodId) (args : Array Value) (below : List Frame) (meth : Method) (c : Code) (A : Nat → Prop) (Q : State → Prop) (ls : Array Slot),
      Fx p m c nL s args own cc D cI cS → ZS tF tL tH A s → (∀ q, s.heap.size ≤ q → A q) → Ix D A s w0 s.heap [] →
      (∀ (r : Int32) (u : S) (H : Heap) (locs : List Loc) (pc : Nat) (ls : Array Slot), post r u → Ix D A s (wf u) H locs → decode cc pc = .ok (.ireturn, 1) → W p l e rm s m args below meth c H locs 0 0 Q (F0 m pc ls [.int r])) →
      lv_has ls nL (lv_args 0 as) → W p l e rm s m args below meth c s.heap [] 0 0 Q (F0 m 0 ls [])) : MIE tF tL tH l y cc nL ret rm D cI cS as w0 wf post := by
  subst ho
  intro sz
  refine Met.ofW (cc := cc) (maxL := nL) (ret := ret) hy rfl ?_
  intro p e s m args below meth c s₁ B hml hv
  obtain ⟨rfl, hsz, hP, hK, hD0, hZ⟩ := hv
  subst hsz
  have hts := atoms_spec (ws := Cond.code y cc nL ret :: wU) B.pre
  have hD := hD0.self (sz := s.heap.size)
  rw [lg_entry_eq]
  refine body p e s m as.toArray below meth c (va_A w0 s.heap.size) _ _ ⟨B.exec, B.bytes, hml, findClass_of_methodNamed B.named, fun w hw => hts w (List.mem_cons_of_mem _ hw), hK⟩ hZ (fun q h => Or.inr h) ⟨hP, hD, va_S.rf⟩ ?_ (lv_entry as hnl)
  intro r u H locs pc ls hp Z hdg
  exact W.zret B.exec B.bytes (by rw [B.returns, hret]) (hnar r u hp) (fun t ht hW => ⟨⟨r, u, rfl, hp, by rw [ht]; exact Z.1, Z.2.1⟩, Z.2.2.F ht⟩) Z.2.2.2.2 hdg B.notSynchronized
set_option maxHeartbeats 4000000 in
theorem MVE.mk {S : Type} {tF tL tH : Nat} {l : Launch} {y : MethodName} {cc : ByteArray} {nL : Nat} {rm : Room} {D : va_G} {cI cS : ClassId} {as : List Value} {w0 : va_W} {wf : S → va_W} {post : S → Prop} {mc ms : Nat}
    (own : String) (ho : y.cls = own) (hy : plainName y.cls = true) (hnl : (lg_sl as).length ≤ nL)
    (body : ∀ (p : Program) (e : Env) (s : State) (m : MethodId) (args : Array Value) (below : List Frame) (meth : Method) (c : Code) (A : Nat → Prop) (Q : State → Prop) (ls : Array Slot),
      Fx p m c nL s args own cc D cI cS → meth.name = y.name → ZS tF tL tH A s → (∀ q, s.heap.size ≤ q → A q) → Ix D A s w0 s.heap [] →
      (∀ (u : S) (H : Heap) (locs : List Loc) (cells slots : Nat) (pc : Nat) (ls : Array Slot), cells ≤ mc → slots ≤ ms → post u → Ix D A s (wf u) H locs → decode cc pc = .ok (.return_, 1) → W p l e rm s m args below meth c H locs cells slots Q (F0 m pc ls [])) →
      lv_has ls nL (lv_args 0 as) → W p l e rm s m args below meth c s.heap [] 0 0 Q (F0 m 0 ls [])) : MVE tF tL tH l y cc nL rm D cI cS as w0 wf post mc ms := by
  subst ho
  intro sz
  refine Met.ofW (cc := cc) (maxL := nL) (ret := none) hy rfl ?_
  intro p e s m args below meth c s₁ B hml hv
  obtain ⟨rfl, hsz, hP, hK, hD0, hZ⟩ := hv
  subst hsz
  have hts := atoms_spec (ws := Cond.code y cc nL none :: wU) B.pre
  have hD := hD0.self (sz := s.heap.size)
  rw [lg_entry_eq]
  refine body p e s m as.toArray below meth c (va_A w0 s.heap.size) _ _ ⟨B.exec, B.bytes, hml, findClass_of_methodNamed B.named, fun w hw => hts w (List.mem_cons_of_mem _ hw), hK⟩ (name_of_methodNamed B.named B.method).1 hZ (fun q h => Or.inr h) ⟨hP, hD, va_S.rf⟩ ?_ (lv_entry as hnl)
  intro u H locs cells slots pc ls hc hs hp Z hdg
  refine W.widen (k := mc) (n := ms) hc hs ?_
  exact W.vret B.exec B.bytes B.returns (fun t ht hW => ⟨⟨u, rfl, hp, by rw [ht]; exact Z.1, Z.2.1⟩, Z.2.2.F ht⟩) Z.2.2.2.2 hdg B.notSynchronized
section KE
variable {tF tL tH : Nat} {p : Program} {l : Launch} {e : Env} {R : Room} {s : State} {m : MethodId} {args : Array Value} {below : List Frame} {meth : Method} {c : Code} {H : Heap} {locs : List Loc} {cells slots : Nat} {Q : State → Prop}
variable {lv : List (Nat × Value)} {nL : Nat} {own : String} {cc : ByteArray} {D : va_G} {cI cS : ClassId} {A : Nat → Prop} {w : va_W} {pc : Nat} {ls : Array Slot} {st rest As : List Value} {b a : Nat} {C ref : String} {y : MethodName} {cy : ByteArray} {nY n idx mc ms : Nat} {ret : Option FieldType} {rm : Room} {T : u_T} {N ci : Nat} {fs : List Value} {v : Value}
theorem ks_iE {v : Int32} (F : Fx p m c nL s args own cc D cI cS) (hE : ZS tF tL tH A s) (hA : ∀ q, s.heap.size ≤ q → A q) (Z : Ix D A s w H locs)
    (hM : MIE tF tL tH l y cy nY ret rm D cI cS As [] (fun _ : Unit => []) (fun r _ => r = v)) (hl : Cond.methodLink own idx y ∈ wU) (V : WdS own y cy nY ret n) (h0 : rm.cells = 0 ∧ rm.slots = 0) (hR : rm.frames + 1 ≤ R.frames ∧ 8 + (nY + 11) + rm.locals ≤ R.locals) (hce : cells ≤ R.cells ∧ slots ≤ R.slots)
    (hn : As.length = n) (hls : lv_has ls nL lv) (hrest : (rest.map fun v => v.category).sum ≤ 8) (hdg : decode cc pc = .ok (.invokestatic idx, 3)) (hst : st = As.reverse ++ rest)
    (kk : ∀ (H1 : Heap) (locs1 : List Loc), Ix D A s w H1 locs1 → W p l e R s m args below meth c H1 locs1 cells slots Q (F0 m (pc + 3) ls (.int v :: rest))) : W p l e R s m args below meth c H locs cells slots Q (F0 m pc ls st) := by
  have Z0 : Ix D A s (([] : va_W) ++ w) H locs := Z
  have hFc := Z0.free hA
  refine va_calli (runS_of F (hM H.size) PcE.blind hl V h0 hR hce hn hls.1 hrest hdg hst (fun U hU hW => ⟨rfl, by rw [hU], by rw [hU]; exact Z0.fst.1, F.2.2.2.2.2.warm hW, Z0.fst.2.weaken (fun _ _ _ _ => trivial), hE.pass Z.2.2 hFc hW.alike hU⟩)) Z0.2.2 (fun q _ h => hFc q h) hFc (fun r u t H1 locs1 ht hvm hw hB hz1 hk1 hS => ?_)
  obtain ⟨hP1, hD1⟩ := hB
  subst hw
  rw [ht] at hP1
  exact kk H1 locs1 (Z0.cat hk1 hFc hP1 hD1 hS)
/-- a virtual call that knows the static rows -/
theorem km_iE {S : Type} {wcf back : S → va_W} {u0 : S} {ok : S → Prop} {q : Int32 × S} (F : Fx p m c nL s args own cc D cI cS) (hE : ZS tF tL tH A s) (hA : ∀ q, s.heap.size ≤ q → A q) (Z : Ix D A s w H locs) (L : Lens D A s w wcf u0 back)
    (hM : MIE tF tL tH l y cy nY ret rm D cI cS (.ref b :: As) (wcf u0) wcf (fun r u => r = q.1 ∧ u = q.2 ∧ ok u)) (hl : Cond.methodLink own idx y ∈ wU) (V : WdV C y cy nY ret n) (h0 : rm.cells = 0 ∧ rm.slots = 0) (hR : rm.frames + 1 ≤ R.frames ∧ 8 + (nY + 11) + rm.locals ≤ R.locals) (hce : cells ≤ R.cells ∧ slots ≤ R.slots)
    (q0 ci : Nat) {T : u_T} {N : Nat} {fs : List Value} (hc : vwCl[ci]? = some (C, T, N)) (he : w[q0]? = some (b, .inr (ci, fs))) (hn : As.length = n) (hls : lv_has ls nL lv) (hrest : (rest.map fun v => v.category).sum ≤ 8) (hdg : decode cc pc = .ok (.invokevirtual idx, 3)) (hst : st = As.reverse ++ .ref b :: rest)
    (kk : ∀ (H1 : Heap) (locs1 : List Loc), ok q.2 → Ix D A s (back q.2) H1 locs1 → W p l e R s m args below meth c H1 locs1 cells slots Q (F0 m (pc + 3) ls (.int q.1 :: rest))) : W p l e R s m args below meth c H locs cells slots Q (F0 m pc ls st) := by
  obtain ⟨wr, g1, g2, g3⟩ := L
  have Z0 := g1 _ _ Z
  have hFc := Z0.free hA
  refine va_calli (runV_of F (hM H.size) PcE.blind hl V h0 hR hce (va_recv F.2.2.2.2.2.1 Z.1 hc he) hn hls.1 hrest hdg hst (fun U hU hW => ⟨rfl, by rw [hU], by rw [hU]; exact Z0.fst.1, F.2.2.2.2.2.warm hW, Z0.fst.2.weaken (fun _ _ _ _ => trivial), hE.pass Z.2.2 hFc hW.alike hU⟩)) Z0.2.2 (fun q _ h => hFc q h) hFc (fun r u t H1 locs1 ht hvm hw hB hz1 hk1 hS => ?_)
  obtain ⟨hP1, hD1⟩ := hB
  rw [ht] at hP1
  obtain ⟨rfl, rfl, ho⟩ := hw
  exact kk H1 locs1 ho (g3 _ _ _ (Z0.cat hk1 hFc hP1 hD1 hS))
/-- a static row read -/
theorem kgets {nm : String} {t : Nat} {f : Nat → Int32} (F : Fx p m c nL s args own cc D cI cS) (hZ : Z1 nm t f A s) (Z : Ix D A s w H locs) (hw : Cond.fieldLink own idx "LibraryCirculation" nm "[I" ∈ wU) (hdg : decode cc pc = .ok (.getstatic idx, 3))
    (kk : W p l e R s m args below meth c H locs cells slots Q (F0 m (pc + 3) ls (.ref t :: rest))) : W p l e R s m args below meth c H locs cells slots Q (F0 m pc ls rest) :=
  va_gets F.1 F.2.1 hZ.1 Z.2.2 F.2.2.2.1 (F.2.2.2.2.1 _ hw) (fun _ h => h) hdg kk
theorem kgetsN {nm host : String} {t : Nat} {f : Nat → Int32} (F : Fx p m c nL s args own cc D cI cS) (hZ : Z1 nm t f A s) (Z : Ix D A s w H locs) (hw : Cond.fieldLinkNest own idx "LibraryCirculation" nm "[I" host ∈ nws) (hdg : decode cc pc = .ok (.getstatic idx, 3))
    (kk : W p l e R s m args below meth c H locs cells slots Q (F0 m (pc + 3) ls (.ref t :: rest))) : W p l e R s m args below meth c H locs cells slots Q (F0 m pc ls rest) :=
  va_getsN (host := host) F.1 F.2.1 hZ.1 Z.2.2 F.2.2.2.1 ((F.2.2.2.2.2.2 _ hw).use rfl) (fun _ h => h) hdg kk
theorem ktlen {nm : String} {t : Nat} {f : Nat → Int32} (F : Fx p m c nL s args own cc D cI cS) (hZ : Z1 nm t f A s) (Z : Ix D A s w H locs) (hdg : decode cc pc = .ok (.arraylength, 1))
    (kk : W p l e R s m args below meth c H locs cells slots Q (F0 m (pc + 1) ls (.int 8 :: rest))) : W p l e R s m args below meth c H locs cells slots Q (F0 m pc ls (.ref t :: rest)) :=
  va_tlen F.1 F.2.1 hZ.2 Z.2.2 (by decide) hdg kk
theorem ktald {nm : String} {t : Nat} {f : Nat → Int32} {i x : Int32} (F : Fx p m c nL s args own cc D cI cS) (hZ : Z1 nm t f A s) (Z : Ix D A s w H locs) (hv : rdA f 8 i = some x) (hdg : decode cc pc = .ok (.iaload, 1))
    (kk : W p l e R s m args below meth c H locs cells slots Q (F0 m (pc + 1) ls (.int x :: rest))) : W p l e R s m args below meth c H locs cells slots Q (F0 m pc ls (.int i :: .ref t :: rest)) := by
  obtain ⟨h1, rfl⟩ := rdA_el hv
  exact va_ti F.1 F.2.1 hZ.2 Z.2.2 h1 rfl hdg kk
/-- a new object, a new int array, a new array of states -/
theorem knew (F : Fx p m c nL s args own cc D cI cS) (hA : ∀ q, s.heap.size ≤ q → A q) (Z : Ix D A s w H locs) (hin : ∀ x ∈ u_ws C T N, x ∈ wU) (ty : Nat → FieldType) (hty : ∀ k, k < N → parseFieldDescriptor (T k).2.2.1 = some (ty k)) (hcl : Cond.classLink own idx C ∈ wU) (hinst : Cond.instantiable C N ∈ wU) (hini : Cond.initialized C ∈ wU) (hc : vwCl[ci]? = some (C, T, N)) (hfs : ∀ j, j < N → defaultValue (ty j) = vp_V fs j) (hcells : cells + 1 ≤ R.cells) (hslots : slots + N ≤ R.slots) (hdg : decode cc pc = .ok (.new idx, 3))
    (kk : ∀ (q : Nat) (H1 : Heap), Ix D A s (w ++ [(q, .inr (ci, fs))]) H1 locs → W p l e R s m args below meth c H1 locs (cells + 1) (slots + N) Q (F0 m (pc + 3) ls (.ref q :: rest))) : W p l e R s m args below meth c H locs cells slots Q (F0 m pc ls rest) :=
  va_new F.1 F.2.1 F.2.2.2.2.1 hin ty hty F.2.2.2.1 (F.2.2.2.2.1 _ hcl) (F.2.2.2.2.1 _ hinst) (F.2.2.2.2.1 _ hini) F.2.2.2.2.2.1 Z.1 Z.2.1 Z.2.2 hA hc hfs hcells hslots hdg (fun q H1 hP hD hS => kk q H1 ⟨hP, hD, hS⟩)
theorem knewa {i : Int32} {N' : Nat} (F : Fx p m c nL s args own cc D cI cS) (hA : ∀ q, s.heap.size ≤ q → A q) (Z : Ix D A s w H locs) (hn : ¬ i < 0) (hN : i.toNatClampNeg = N') (hbytes : N' * 4 ≤ 536870912) (hcells : cells + 1 ≤ R.cells) (hslots : slots + N' ≤ R.slots) (hdg : decode cc pc = .ok (.newarray .int, 2))
    (kk : ∀ (q : Nat) (H1 : Heap), Ix D A s (w ++ [(q, .inl (cI, N', .inl (fun _ => 0)))]) H1 locs → W p l e R s m args below meth c H1 locs (cells + 1) (slots + N') Q (F0 m (pc + 2) ls (.ref q :: rest))) : W p l e R s m args below meth c H locs cells slots Q (F0 m pc ls (.int i :: rest)) := by
  refine va_newa (D := D) (cl := vwCl) (atype := .int) (ty := .int) (a0 := (N', .inl (fun _ => 0))) F.1 F.2.1 (F.2.2.2.2.1 _ mAC) rfl F.2.2.2.2.2.1 Z.1 Z.2.1 Z.2.2 hA (fun _ => rfl) hn hN hbytes hcells hslots hdg (fun q cA H1 hK hP hD hS => ?_)
  have h1 : s.vm.findClass ("[" ++ FieldType.int.toString) = some cA := (hK.2 2 (cA, .int) rfl).2
  have h2 : s.vm.findClass ("[" ++ FieldType.int.toString) = some cI := (F.2.2.2.2.2.1.2 0 (cI, .int) rfl).2
  rw [h2] at h1
  cases h1
  exact kk q H1 ⟨hP, hD, hS⟩
theorem kanew {i : Int32} {N' : Nat} (F : Fx p m c nL s args own cc D cI cS) (hE : ZS tF tL tH A s) (hA : ∀ q, s.heap.size ≤ q → A q) (Z : Ix D A s w H locs) (hcl : Cond.classLink own idx "LibraryCirculation$State" ∈ wU) (hn : ¬ i < 0) (hN : i.toNatClampNeg = N') (hbytes : N' * 4 ≤ 536870912) (hcells : cells + 1 ≤ R.cells) (hslots : slots + N' ≤ R.slots) (hdg : decode cc pc = .ok (.anewarray idx, 3))
    (kk : ∀ (q : Nat) (H1 : Heap), Ix D A s (w ++ [(q, .inl (cS, N', .inr (.inr (.inr (.inr (fun _ => none))))))]) H1 locs → W p l e R s m args below meth c H1 locs (cells + 1) (slots + N') Q (F0 m (pc + 3) ls (.ref q :: rest))) : W p l e R s m args below meth c H locs cells slots Q (F0 m pc ls (.int i :: rest)) := by
  refine va_newq (D := D) (cl := vwCl) F.1 F.2.1 F.2.2.2.1 (F.2.2.2.2.1 _ hcl) hE.2.2.2 F.2.2.2.2.2.1 Z.1 Z.2.1 Z.2.2 hA hn hN hbytes hcells hslots hdg (fun q cA H1 hK hP hD hS => ?_)
  obtain ⟨k1, c1, -, -, -, h1⟩ := (hK.2 2 (cA, .object "LibraryCirculation$State") rfl).2
  obtain ⟨k2, c2, -, -, -, h2⟩ := (F.2.2.2.2.2.1.2 1 (cS, .object "LibraryCirculation$State") rfl).2
  rw [h2] at h1
  cases h1
  exact kk q H1 ⟨hP, hD, hS⟩
theorem kobj (F : Fx p m c nL s args own cc D cI cS) (hl : lv_has ls nL lv) (hw : Cond.methodLink own idx objectInit ∈ wU) (hfr : 1 ≤ R.frames) (hlo : (rest.map fun v => v.category).sum + 12 ≤ R.locals) (hdg : decode cc pc = .ok (.invokespecial idx, 3))
    (kk : W p l e R s m args below meth c H locs cells slots Q (F0 m (pc + 3) ls rest)) : W p l e R s m args below meth c H locs cells slots Q (F0 m pc ls (.ref a :: rest)) := by
  refine W.objInit F.1 F.2.1 F.2.2.2.1 (F.2.2.2.2.1 _ hw) (F.2.2.2.2.1 _ mI_Obj_init) (F.2.2.2.2.1 _ mC_Obj_init) rfl (by rw [F.2.2.1]; exact hl.1) rfl hdg hfr (by show 2 * 0 + _ + 12 ≤ _; omega) ?_
  exact W.eq (g2 := F0 m (pc + 3) ls rest) rfl kk
theorem kputF {w' : va_W} {ty : FieldType} (F : Fx p m c nL s args own cc D cI cS) (hm : meth.name = "<init>") (Z : Ix D A s w H locs) (hin : ∀ x ∈ u_ws C T N, x ∈ wU) (tys : Nat → FieldType) (hty : ∀ k, k < N → parseFieldDescriptor (T k).2.2.1 = some (tys k)) (hnm : ∀ a, a < N → ∀ b, b < N → a ≠ b → (T a).2.1 ≠ (T b).2.1) (q0 : Nat) (he : w[q0]? = some (a, .inr (ci, fs))) (hc : vwCl[ci]? = some (C, T, N)) (k : Nat) (hk : k < N) (hF : Cond.fieldLink own idx ref (T k).2.1 (T k).2.2.1 ∈ wU) (hr : (T k).1 = ref)
    (hfin : (T k).2.2.2 = true) (hdecl : (T k).1 = own) (hd : tys k = ty) (hn : narrow ty v = v) (hfit : fits ty v = true) (hl : k < fs.length) (hw : w.set q0 (a, .inr (ci, fs.set k v)) = w') (hdg : decode cc pc = .ok (.putfield idx, 3))
    (kk : ∀ (H1 : Heap) (locs1 : List Loc), Ix D A s w' H1 locs1 → W p l e R s m args below meth c H1 locs1 cells slots Q (F0 m (pc + 3) ls rest)) : W p l e R s m args below meth c H locs cells slots Q (F0 m pc ls (v :: .ref a :: rest)) := by
  subst hw
  exact va_putF (D := D) F.1 F.2.1 F.2.2.2.2.1 hin tys hty hnm F.2.2.2.1 F.2.2.2.2.2.1 Z.1 Z.2.1 Z.2.2 q0 he hc k hk (F.2.2.2.2.1 _ hF) (fun x h => by rw [← hr]; exact h) hfin hm hdecl (by rw [hty k hk, hd]) hn hfit hl hdg (fun H1 locs1 hP hD hS => kk H1 locs1 ⟨hP, hD, hS⟩)
/-- a constructor's call: the new cell is the world's last -/
theorem kci {S : Type} {wcf : S → va_W} {wr : va_W} {w0 : va_W} {post : S → Prop} (F : Fx p m c nL s args own cc D cI cS) (hE : ZS tF tL tH A s) (hA : ∀ q, s.heap.size ≤ q → A q) (Z : Ix D A s (wr ++ w0) H locs)
    (hM : MVE tF tL tH l y cy nY rm D cI cS (.ref b :: As) w0 wcf post mc ms) (hini : Cond.initialized y.cls ∈ wU) (hlk : Cond.methodLink own idx y ∈ wU) (hin : Cond.instanceMethod y ∈ wU) (hcode : Cond.code y cy nY none ∈ wU) (hy1 : y.name = "<init>") (h0 : rm.cells = mc) (h1 : rm.slots = ms)
    (hd : y.cls ≠ "java/lang/invoke/MethodHandle" ∧ y.cls ≠ "java/lang/invoke/VarHandle" ∧ (parseMethodDescriptor y.desc).map (fun d => d.parameters.length) = some n) (hR : rm.frames + 1 ≤ R.frames ∧ 8 + (nY + 11) + rm.locals ≤ R.locals) (hce : cells + mc ≤ R.cells ∧ slots + ms ≤ R.slots)
    (hn : As.length = n) (hls : lv_has ls nL lv) (hrest : (rest.map fun v => v.category).sum ≤ 8) (hdg : decode cc pc = .ok (.invokespecial idx, 3)) (hst : st = As.reverse ++ .ref b :: rest)
    (kk : ∀ (u : S) (H1 : Heap) (locs1 : List Loc), post u → Ix D A s (wr ++ wcf u) H1 locs1 → W p l e R s m args below meth c H1 locs1 (cells + mc) (slots + ms) Q (F0 m (pc + 3) ls rest)) : W p l e R s m args below meth c H locs cells slots Q (F0 m pc ls st) := by
  have Z0 : Ix D A s (w0 ++ wr) H locs := Z.perm List.perm_append_comm
  have hFc := Z0.free hA
  refine va_callv (va_runI (As := As) (rest := rest) ⟨F.1, F.2.1, F.2.2.1, F.2.2.2.1, F.2.2.2.2.1⟩ (hM H.size) (cwI n F.2.2.2.2.1 (gU_all hcode) rfl h0 h1 (F.2.2.2.2.1 _ hini) (F.2.2.2.2.1 _ hlk) (F.2.2.2.2.1 _ hin) hy1 hd hR) ⟨PcE.blind, fun U hU hW => ⟨rfl, by rw [hU], by rw [hU]; exact Z0.fst.1, F.2.2.2.2.2.warm hW, Z0.fst.2.weaken (fun _ _ _ _ => trivial), hE.pass Z.2.2 hFc hW.alike hU⟩⟩ rfl hn hls.1 hst (lv_room (pc := pc) (ls := ls) hrest) hdg hce) Z0.2.2 (fun q _ h => hFc q h) hFc (fun u t H1 locs1 ht hvm hw hB hz1 hk1 hS => ?_)
  obtain ⟨hP1, hD1⟩ := hB
  rw [ht] at hP1
  exact kk u H1 locs1 hw ((Z0.cat hk1 hFc hP1 hD1 hS).perm List.perm_append_comm)
theorem kciN {host : String} {S : Type} {wcf : S → va_W} {wr : va_W} {w0 : va_W} {post : S → Prop} (F : Fx p m c nL s args own cc D cI cS) (hE : ZS tF tL tH A s) (hA : ∀ q, s.heap.size ≤ q → A q) (Z : Ix D A s (wr ++ w0) H locs)
    (hM : MVE tF tL tH l y cy nY rm D cI cS (.ref b :: As) w0 wcf post mc ms) (hini : Cond.initialized y.cls ∈ wU) (hlk : Cond.methodLinkNest own idx y host ∈ nws) (hin : Cond.instanceMethod y ∈ wU) (hcode : Cond.code y cy nY none ∈ wU) (hy1 : y.name = "<init>") (h0 : rm.cells = mc) (h1 : rm.slots = ms)
    (hd : y.cls ≠ "java/lang/invoke/MethodHandle" ∧ y.cls ≠ "java/lang/invoke/VarHandle" ∧ (parseMethodDescriptor y.desc).map (fun d => d.parameters.length) = some n) (hR : rm.frames + 1 ≤ R.frames ∧ 8 + (nY + 11) + rm.locals ≤ R.locals) (hce : cells + mc ≤ R.cells ∧ slots + ms ≤ R.slots)
    (hn : As.length = n) (hls : lv_has ls nL lv) (hrest : (rest.map fun v => v.category).sum ≤ 8) (hdg : decode cc pc = .ok (.invokespecial idx, 3)) (hst : st = As.reverse ++ .ref b :: rest)
    (kk : ∀ (u : S) (H1 : Heap) (locs1 : List Loc), post u → Ix D A s (wr ++ wcf u) H1 locs1 → W p l e R s m args below meth c H1 locs1 (cells + mc) (slots + ms) Q (F0 m (pc + 3) ls rest)) : W p l e R s m args below meth c H locs cells slots Q (F0 m pc ls st) := by
  have Z0 : Ix D A s (w0 ++ wr) H locs := Z.perm List.perm_append_comm
  have hFc := Z0.free hA
  refine va_callv (va_runIN (As := As) (rest := rest) (host := host) ⟨F.1, F.2.1, F.2.2.1, F.2.2.2.1, F.2.2.2.2.1⟩ (hM H.size) ⟨va_cnB n F.2.2.2.2.1 (gU_all hcode) rfl h0 h1 (F.2.2.2.2.2.2 _ hlk) (F.2.2.2.2.1 _ hini) hd hR, hy1, F.2.2.2.2.1 _ hin⟩ ⟨PcE.blind, fun U hU hW => ⟨rfl, by rw [hU], by rw [hU]; exact Z0.fst.1, F.2.2.2.2.2.warm hW, Z0.fst.2.weaken (fun _ _ _ _ => trivial), hE.pass Z.2.2 hFc hW.alike hU⟩⟩ rfl hn hls.1 hst (lv_room (pc := pc) (ls := ls) hrest) hdg hce) Z0.2.2 (fun q _ h => hFc q h) hFc (fun u t H1 locs1 ht hvm hw hB hz1 hk1 hS => ?_)
  obtain ⟨hP1, hD1⟩ := hB
  rw [ht] at hP1
  exact kk u H1 locs1 hw ((Z0.cat hk1 hFc hP1 hD1 hS).perm List.perm_append_comm)
theorem kastq {w' : va_W} {f : Nat → Option Nat} {i : Int32} {q1 : Nat} {vs : List Value} {C : String} {T : u_T} {N : Nat} (F : Fx p m c nL s args own cc D cI cS) (Z : Ix D A s w H locs) (q0 qk ci : Nat) (ha : w[q0]? = some (a, .inl (cS, n, .inr (.inr (.inr (.inr f)))))) (hv : w[qk]? = some (q1, .inr (ci, vs))) (hc : vwCl[ci]? = some (C, T, N)) (hC : C = "LibraryCirculation$State") (hin : vp_in i n) (hw : w.set q0 (a, .inl (cS, n, .inr (.inr (.inr (.inr (va_up f i.toNatClampNeg (some q1))))))) = w') (hdg : decode cc pc = .ok (.aastore, 1))
    (kk : ∀ (H1 : Heap) (locs1 : List Loc), Ix D A s w' H1 locs1 → W p l e R s m args below meth c H1 locs1 cells slots Q (F0 m (pc + 1) ls rest)) : W p l e R s m args below meth c H locs cells slots Q (F0 m pc ls (.ref q1 :: .int i :: .ref a :: rest)) := by
  subst hw
  subst hC
  exact va_astq (D := D) F.1 F.2.1 F.2.2.2.2.2.1 Z.1 Z.2.1 Z.2.2 q0 1 qk ci ha (by rfl) hv hc hin hdg (fun H1 locs1 hP hD hS => kk H1 locs1 ⟨hP, hD, hS⟩)
end KE
