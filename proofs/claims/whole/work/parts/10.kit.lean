/-! MY OWN ROWS UNDER EVERY CONTRACT: the words, the world with its frame, contracts of three forms, calls through a part of a world -/
def nws : List Cond := [.fieldLinkNest RX2 29 "LibraryCirculation" "FIRST_VALUES" "[I" "LibraryCirculation", .fieldLinkNest RX4 47 "LibraryCirculation$State" "copies" "LLibraryCirculation$Table;" "LibraryCirculation", .fieldLinkNest RX4 69 "LibraryCirculation$State" "patrons" "LLibraryCirculation$Table;" "LibraryCirculation", .fieldLinkNest RX4 192 "LibraryCirculation$State" "holds" "LLibraryCirculation$Table;" "LibraryCirculation", .fieldLinkNest RX4 244 "LibraryCirculation$State" "ledger" "LLibraryCirculation$Table;" "LibraryCirculation", .fieldLinkNest RX4 72 "LibraryCirculation$State" "settings" "LLibraryCirculation$Table;" "LibraryCirculation", .fieldLinkNest RX4 98 "LibraryCirculation$State" "today" "I" "LibraryCirculation", .methodLinkNest RX4 35 yX0_init "LibraryCirculation"]
theorem nws_on : ∀ w ∈ nws, w.onTables = true := by
  intro w hw
  simp only [nws, List.mem_cons, List.not_mem_nil, or_false] at hw
  rcases hw with rfl | rfl | rfl | rfl | rfl | rfl | rfl | rfl <;> rfl
theorem nws_warm {s U : State} (hW : s.WarmedH U.vm) : ∀ w ∈ nws, va_Nw w s → va_Nw w U := by
  intro w hw h
  simp only [nws, List.mem_cons, List.not_mem_nil, or_false] at hw
  rcases hw with rfl | rfl | rfl | rfl | rfl | rfl | rfl | rfl
  · exact va_Nw.warmF hW h
  · exact va_Nw.warmF hW h
  · exact va_Nw.warmF hW h
  · exact va_Nw.warmF hW h
  · exact va_Nw.warmF hW h
  · exact va_Nw.warmF hW h
  · exact va_Nw.warmF hW h
  · exact va_Nw.warmM hW h
abbrev cyT (cI cS : ClassId) : List (ClassId × FieldType) := [(cI, .int), (cS, .object "LibraryCirculation$State")]
def KN (D : va_G) (cI cS : ClassId) (U : State) : Prop := va_K D vwCl (cyT cI cS) U ∧ ∀ w ∈ nws, va_Nw w U
theorem KN.warm {D : va_G} {cI cS : ClassId} {s U : State} (hW : s.WarmedH U.vm) (h : KN D cI cS s) : KN D cI cS U := ⟨va_K.moved hW.alike h.1, fun w hw => nws_warm hW w hw (h.2 w hw)⟩
theorem KN.call {D : va_G} {cI cS : ClassId} {U : State} (g : JFrame) (mk : MethodId) (a : Array Value) (h : KN D cI cS U) : KN D cI cS (U.calling g mk a) := ⟨va_K.moved (u := U) (U := U.calling g mk a) (Vm.Alike.refl U.vm) h.1, fun w hw => va_Nw.same (u := U) (U := U.calling g mk a) (nws_on w hw) rfl (h.2 w hw)⟩
/-- the world, its frame, its cells apart -/
def Ix (D : va_G) (A : Nat → Prop) (s : State) (w : va_W) (H : Heap) (locs : List Loc) : Prop := va_P D vwCl w H ∧ va_D A w ∧ va_S A s.heap H locs
def Fx (p : Program) (m : MethodId) (c : Code) (nL : Nat) (s : State) (args : Array Value) (own : String) (cc : ByteArray) (D : va_G) (cI cS : ClassId) : Prop :=
  p.tables.exec = Jvm.exec ∧ c.code = cc ∧ c.maxLocals = nL ∧ s.vm.findClass own = some m.cls ∧ (∀ w ∈ wU, w.before args s = true) ∧ KN D cI cS s
def PcW (D : va_G) (cI cS : ClassId) (as : List Value) (w : va_W) (sz : Nat) : Array Value → State → Prop := va_Pc as (fun U => U.heap.size = sz ∧ va_P D vwCl w U.heap ∧ KN D cI cS U ∧ va_D (fun _ => True) w)
def QcI {S : Type} (post : Int32 → S → Prop) (wf : S → va_W) (D : va_G) (w0 : va_W) (sz : Nat) : Array Value → State → Outcome → State → Prop := va_Qi post (fun u t => va_P D vwCl (wf u) t.heap ∧ va_D (va_A w0 sz) (wf u)) (va_A w0 sz)
def QcV {S : Type} (post : S → Prop) (wf : S → va_W) (D : va_G) (w0 : va_W) (sz : Nat) : Array Value → State → Outcome → State → Prop := va_Qv post (fun u t => va_P D vwCl (wf u) t.heap ∧ va_D (va_A w0 sz) (wf u)) (va_A w0 sz)
/-- a contract with an int (or boolean) answer; without answer -/
def MI {S : Type} (l : Launch) (y : MethodName) (cc : ByteArray) (nL : Nat) (ret : Option FieldType) (rm : Room) (D : va_G) (cI cS : ClassId) (as : List Value) (w0 : va_W) (wf : S → va_W) (post : Int32 → S → Prop) : Prop :=
  ∀ sz, Met l y (Cond.code y cc nL ret :: wU) rm (PcW D cI cS as w0 sz) (QcI post wf D w0 sz) 0 0 (va_A w0 sz)
def MV {S : Type} (l : Launch) (y : MethodName) (cc : ByteArray) (nL : Nat) (rm : Room) (D : va_G) (cI cS : ClassId) (as : List Value) (w0 : va_W) (wf : S → va_W) (post : S → Prop) : Prop :=
  ∀ sz, Met l y (Cond.code y cc nL none :: wU) rm (PcW D cI cS as w0 sz) (QcV post wf D w0 sz) 0 0 (va_A w0 sz)
set_option maxHeartbeats 4000000 in
theorem MI.mk {S : Type} {l : Launch} {y : MethodName} {cc : ByteArray} {nL : Nat} {ret : Option FieldType} {rm : Room} {D : va_G} {cI cS : ClassId} {as : List Value} {w0 : va_W} {wf : S → va_W} {post : Int32 → S → Prop}
    (own : String) (ho : y.cls = own) (rt : FieldType) (hret : ret = some rt) (hy : plainName y.cls = true) (hnl : (lg_sl as).length ≤ nL) (hnar : ∀ r u, post r u → narrow rt (.int r) = .int r)
    (body : ∀ (p : Program) (e : Env) (s : State) (m : MethodId) (args : Array Value) (below : List Frame) (meth : Method) (c : Code) (A : Nat → Prop) (Q : State → Prop) (ls : Array Slot),
      Fx p m c nL s args own cc D cI cS → meth.name = y.name → (∀ q, s.heap.size ≤ q → A q) → Ix D A s w0 s.heap [] →
      (∀ (r : Int32) (u : S) (H : Heap) (locs : List Loc) (pc : Nat) (ls : Array Slot), post r u → Ix D A s (wf u) H locs → decode cc pc = .ok (.ireturn, 1) → W p l e rm s m args below meth c H locs 0 0 Q (F0 m pc ls [.int r])) →
      lv_has ls nL (lv_args 0 as) → W p l e rm s m args below meth c s.heap [] 0 0 Q (F0 m 0 ls [])) : MI l y cc nL ret rm D cI cS as w0 wf post := by
  subst ho
  intro sz
  refine Met.ofW (cc := cc) (maxL := nL) (ret := ret) hy rfl ?_
  intro p e s m args below meth c s₁ B hml hv
  obtain ⟨rfl, hsz, hP, hK, hD0⟩ := hv
  subst hsz
  have hts := atoms_spec (ws := Cond.code y cc nL ret :: wU) B.pre
  have hD := hD0.self (sz := s.heap.size)
  rw [lg_entry_eq]
  refine body p e s m as.toArray below meth c (va_A w0 s.heap.size) _ _ ⟨B.exec, B.bytes, hml, findClass_of_methodNamed B.named, fun w hw => hts w (List.mem_cons_of_mem _ hw), hK⟩ (name_of_methodNamed B.named B.method).1 (fun q h => Or.inr h) ⟨hP, hD, va_S.rf⟩ ?_ (lv_entry as hnl)
  intro r u H locs pc ls hp Z hdg
  exact W.zret B.exec B.bytes (by rw [B.returns, hret]) (hnar r u hp) (fun t ht hW => ⟨⟨r, u, rfl, hp, by rw [ht]; exact Z.1, Z.2.1⟩, Z.2.2.F ht⟩) Z.2.2.2.2 hdg B.notSynchronized
set_option maxHeartbeats 4000000 in
theorem MV.mk {S : Type} {l : Launch} {y : MethodName} {cc : ByteArray} {nL : Nat} {rm : Room} {D : va_G} {cI cS : ClassId} {as : List Value} {w0 : va_W} {wf : S → va_W} {post : S → Prop}
    (own : String) (ho : y.cls = own) (hy : plainName y.cls = true) (hnl : (lg_sl as).length ≤ nL)
    (body : ∀ (p : Program) (e : Env) (s : State) (m : MethodId) (args : Array Value) (below : List Frame) (meth : Method) (c : Code) (A : Nat → Prop) (Q : State → Prop) (ls : Array Slot),
      Fx p m c nL s args own cc D cI cS → meth.name = y.name → (∀ q, s.heap.size ≤ q → A q) → Ix D A s w0 s.heap [] →
      (∀ (u : S) (H : Heap) (locs : List Loc) (pc : Nat) (ls : Array Slot), post u → Ix D A s (wf u) H locs → decode cc pc = .ok (.return_, 1) → W p l e rm s m args below meth c H locs 0 0 Q (F0 m pc ls [])) →
      lv_has ls nL (lv_args 0 as) → W p l e rm s m args below meth c s.heap [] 0 0 Q (F0 m 0 ls [])) : MV l y cc nL rm D cI cS as w0 wf post := by
  subst ho
  intro sz
  refine Met.ofW (cc := cc) (maxL := nL) (ret := none) hy rfl ?_
  intro p e s m args below meth c s₁ B hml hv
  obtain ⟨rfl, hsz, hP, hK, hD0⟩ := hv
  subst hsz
  have hts := atoms_spec (ws := Cond.code y cc nL none :: wU) B.pre
  have hD := hD0.self (sz := s.heap.size)
  rw [lg_entry_eq]
  refine body p e s m as.toArray below meth c (va_A w0 s.heap.size) _ _ ⟨B.exec, B.bytes, hml, findClass_of_methodNamed B.named, fun w hw => hts w (List.mem_cons_of_mem _ hw), hK⟩ (name_of_methodNamed B.named B.method).1 (fun q h => Or.inr h) ⟨hP, hD, va_S.rf⟩ ?_ (lv_entry as hnl)
  intro u H locs pc ls hp Z hdg
  exact W.vret B.exec B.bytes B.returns (fun t ht hW => ⟨⟨u, rfl, hp, by rw [ht]; exact Z.1, Z.2.1⟩, Z.2.2.F ht⟩) Z.2.2.2.2 hdg B.notSynchronized
/-- a world in another order, or a part of it, with a tail -/
theorem Ix.subP {D : va_G} {A : Nat → Prop} {s : State} {w w' R : va_W} {H : Heap} {locs : List Loc} (Z : Ix D A s (w ++ R) H locs) (is : List Nat) (hn : va_nd is = true) (hs : is.map (fun i => w[i]?) = w'.map some) : Ix D A s (w' ++ R) H locs := by
  obtain ⟨hP, hD, hS⟩ := Z
  have key : ∀ (k : Nat) (q : Nat × va_E), w'[k]? = some q → ∃ i, is[k]? = some i ∧ w[i]? = some q := by
    intro k q hk
    have h1 : (is.map (fun i => w[i]?))[k]? = some (some q) := by rw [hs, List.getElem?_map, hk]; rfl
    rw [List.getElem?_map] at h1
    cases hi : is[k]? with
    | none => rw [hi] at h1; cases h1
    | some i => rw [hi] at h1; exact ⟨i, rfl, Option.some.inj h1⟩
  have inl : ∀ (i : Nat) (q : Nat × va_E), w[i]? = some q → (w ++ R)[i]? = some q := fun i q h => by rw [List.getElem?_append_left (List.getElem?_eq_some_iff.mp h).1]; exact h
  have sp : ∀ (k : Nat) (q : Nat × va_E), (w' ++ R)[k]? = some q → (∃ i, is[k]? = some i ∧ (w ++ R)[i]? = some q ∧ i < w.length ∧ k < w'.length) ∨ (w'.length ≤ k ∧ (w ++ R)[w.length + (k - w'.length)]? = some q) := by
    intro k q hk
    by_cases hl : k < w'.length
    · rw [List.getElem?_append_left hl] at hk
      obtain ⟨i, h1, h2⟩ := key k q hk
      exact Or.inl ⟨i, h1, inl i q h2, (List.getElem?_eq_some_iff.mp h2).1, hl⟩
    · rw [List.getElem?_append_right (Nat.le_of_not_lt hl)] at hk
      refine Or.inr ⟨Nat.le_of_not_lt hl, ?_⟩
      rw [List.getElem?_append_right (Nat.le_add_right _ _), Nat.add_sub_cancel_left]
      exact hk
  refine ⟨fun k q hk => ?_, ⟨fun i j x y hi hj hxy => ?_, fun k q hk => ?_⟩, hS⟩
  · rcases sp k q hk with ⟨i, -, h2, -⟩ | ⟨-, h2⟩
    · exact hP i q h2
    · exact hP _ q h2
  · rcases sp i x hi with ⟨a, h1, h2, l1, k1⟩ | ⟨k1, h2⟩ <;> rcases sp j y hj with ⟨b, h3, h4, l2, k2⟩ | ⟨k2, h4⟩
    · have hab := hD.1 a b x y h2 h4 hxy
      subst hab
      exact va_nd_inj is hn i j a h1 h3
    · have := hD.1 _ _ x y h2 h4 hxy
      omega
    · have := hD.1 _ _ x y h2 h4 hxy
      omega
    · have := hD.1 _ _ x y h2 h4 hxy
      omega
  · rcases sp k q hk with ⟨i, -, h2, -⟩ | ⟨-, h2⟩
    · exact hD.2 i q h2
    · exact hD.2 _ q h2
theorem Ix.sub {D : va_G} {A : Nat → Prop} {s : State} {w w' : va_W} {H : Heap} {locs : List Loc} (Z : Ix D A s w H locs) (is : List Nat) (hn : va_nd is = true) (hs : is.map (fun i => w[i]?) = w'.map some) : Ix D A s w' H locs := by
  have h := Ix.subP (R := []) (w := w) (w' := w') (by rw [List.append_nil]; exact Z) is hn hs
  rwa [List.append_nil] at h
theorem Ix.cat {D : va_G} {A : Nat → Prop} {s : State} {wc wr w1 : va_W} {H H1 : Heap} {locs locs1 : List Loc} (Z : Ix D A s (wc ++ wr) H locs) (hk : ∀ q : Nat, q < H.size → ¬ va_A wc H.size q → H1[q]? = H[q]?) (hF : ∀ q, va_A wc H.size q → A q) (hP1 : va_P D vwCl w1 H1) (hD1 : va_D (va_A wc H.size) w1) (hS : va_S A s.heap H1 locs1) : Ix D A s (w1 ++ wr) H1 locs1 := by
  obtain ⟨hP, hD, -⟩ := Z
  have inr : ∀ (k : Nat) (q : Nat × va_E), wr[k]? = some q → (wc ++ wr)[wc.length + k]? = some q := fun k q h => by
    rw [List.getElem?_append_right (Nat.le_add_right _ _), Nat.add_sub_cancel_left]; exact h
  have apart : ∀ (k : Nat) (q : Nat × va_E), wr[k]? = some q → q.1 < H.size ∧ ¬ va_A wc H.size q.1 := by
    intro k q hq
    have h2 := inr k q hq
    have hl := (hP _ q h2).lt
    refine ⟨hl, fun h => ?_⟩
    rcases h with ⟨k2, e, h⟩ | h
    · have hlt := (List.getElem?_eq_some_iff.mp h).1
      have h4 : (wc ++ wr)[k2]? = some (q.1, e) := by rw [List.getElem?_append_left hlt]; exact h
      have := hD.1 _ _ q (q.1, e) h2 h4 rfl
      omega
    · omega
  have hPr : va_P D vwCl wr H1 := fun k q hq => by
    obtain ⟨g1, g2⟩ := apart k q hq
    exact (hP _ q (inr k q hq)).kept (hk q.1 g1 g2)
  have hDr : va_D A wr := ⟨fun i j x y hi hj hxy => by have := hD.1 _ _ x y (inr i x hi) (inr j y hj) hxy; omega, fun k q hq => hD.2 _ q (inr k q hq)⟩
  exact ⟨va_P.app hP1 hPr, va_D.app (hD1.weaken (fun k q _ h => hF q.1 h)) hDr (fun i j x y hx hy hxy => (apart j y hy).2 (by rw [← hxy]; exact hD1.2 i x hx)), hS⟩
/-- a part of a world that a call may change, and how the whole comes back -/
def Lens {S : Type} (D : va_G) (A : Nat → Prop) (s : State) (w : va_W) (wcf : S → va_W) (u0 : S) (back : S → va_W) : Prop := ∃ wr : va_W,
  (∀ H locs, Ix D A s w H locs → Ix D A s (wcf u0 ++ wr) H locs) ∧ (∀ H locs, Ix D A s (wcf u0 ++ wr) H locs → Ix D A s w H locs) ∧ ∀ u H locs, Ix D A s (wcf u ++ wr) H locs → Ix D A s (back u) H locs
theorem Lens.tail {S : Type} {D : va_G} {A : Nat → Prop} {s : State} {wcf : S → va_W} {u0 : S} (R : va_W) : Lens D A s (wcf u0 ++ R) wcf u0 (fun u => wcf u ++ R) := ⟨R, fun _ _ h => h, fun _ _ h => h, fun _ _ _ h => h⟩
theorem Lens.all {S : Type} {D : va_G} {A : Nat → Prop} {s : State} {wcf : S → va_W} {u0 : S} : Lens D A s (wcf u0) wcf u0 wcf := ⟨[], fun _ _ h => by rw [List.append_nil]; exact h, fun _ _ h => by rw [List.append_nil] at h; exact h, fun _ _ _ h => by rw [List.append_nil] at h; exact h⟩
theorem Lens.none {D : va_G} {A : Nat → Prop} {s : State} {w : va_W} : Lens D A s w (fun _ : Unit => ([] : va_W)) () (fun _ => w) := ⟨w, fun _ _ h => h, fun _ _ h => h, fun _ _ _ h => h⟩
/-- what a method's name brings to a call -/
def WdV (C : String) (y : MethodName) (cc : ByteArray) (nL : Nat) (ret : Option FieldType) (n : Nat) : Prop := .instanceMethod y ∈ wU ∧ .selects C y y ∈ wU ∧ .initialized C ∈ wU ∧ .code y cc nL ret ∈ wU ∧ (y.cls = C ∧ y.cls ≠ "java/lang/invoke/MethodHandle" ∧ y.cls ≠ "java/lang/invoke/VarHandle" ∧ (parseMethodDescriptor y.desc).map (fun d => d.parameters.length) = some n)
def WdS (C : String) (y : MethodName) (cc : ByteArray) (nL : Nat) (ret : Option FieldType) (n : Nat) : Prop := .static y ∈ wU ∧ .initialized C ∈ wU ∧ .code y cc nL ret ∈ wU ∧ (y.cls = C ∧ y.cls ≠ "java/lang/invoke/MethodHandle" ∧ y.cls ≠ "java/lang/invoke/VarHandle" ∧ (parseMethodDescriptor y.desc).map (fun d => d.parameters.length) = some n)
theorem gU_all {y : MethodName} {cc : ByteArray} {nL : Nat} {ret : Option FieldType} (hc : Cond.code y cc nL ret ∈ wU) : GoodIn wU (Cond.code y cc nL ret :: wU) := by
  intro w hw
  rcases List.mem_cons.mp hw with rfl | h
  · exact ⟨hc, good_of_word (wU_good hc)⟩
  · exact ⟨h, good_of_word (wU_good h)⟩
theorem gU_V {own C : String} {idx : Nat} {y : MethodName} {cc : ByteArray} {nL n : Nat} {ret : Option FieldType} (hl : Cond.methodLink own idx y ∈ wU) (V : WdV C y cc nL ret n) : GoodIn wU (wsV own idx C y (Cond.code y cc nL ret :: wU)) := by
  intro w hw
  obtain ⟨v1, v2, v3, v4, -⟩ := V
  rcases List.mem_append.mp hw with h | h
  · have : w ∈ wU := by
      simp only [List.mem_cons, List.not_mem_nil, or_false] at h
      rcases h with rfl | rfl | rfl | rfl <;> assumption
    exact ⟨this, good_of_word (wU_good this)⟩
  · exact gU_all v4 w h
theorem gU_S {own : String} {idx : Nat} {y : MethodName} {cc : ByteArray} {nL n : Nat} {ret : Option FieldType} (hl : Cond.methodLink own idx y ∈ wU) (V : WdS own y cc nL ret n) : GoodIn wU (wsS own idx y (Cond.code y cc nL ret :: wU)) := by
  intro w hw
  obtain ⟨v1, v2, v3, -⟩ := V
  rcases List.mem_append.mp hw with h | h
  · have : w ∈ wU := by
      simp only [List.mem_cons, List.not_mem_nil, or_false] at h
      rcases h with rfl | rfl | rfl <;> assumption
    exact ⟨this, good_of_word (wU_good this)⟩
  · exact gU_all v3 w h
theorem PcW.blind {D : va_G} {cI cS : ClassId} {as : List Value} {w : va_W} {sz : Nat} : FrameBlind (PcW D cI cS as w sz) := fun a _ g mk q => by obtain ⟨q0, q1, qP, qK, qD⟩ := q; exact ⟨q0, q1, qP, KN.call g mk a qK, qD⟩
section KL
variable {p : Program} {l : Launch} {e : Env} {R : Room} {s : State} {m : MethodId} {args : Array Value} {below : List Frame} {meth : Method} {c : Code} {H : Heap} {locs : List Loc} {cells slots : Nat} {Q : State → Prop}
variable {lv : List (Nat × Value)} {nL : Nat} {own : String} {cc : ByteArray} {D : va_G} {cI cS : ClassId} {A : Nat → Prop} {w : va_W} {pc : Nat} {ls : Array Slot} {st rest As : List Value} {b : Nat} {C : String} {y : MethodName} {cy : ByteArray} {nY n idx : Nat} {ret : Option FieldType} {rm : Room}
theorem Ix.fst {D : va_G} {A : Nat → Prop} {s : State} {wc wr : va_W} {H : Heap} {locs : List Loc} (Z : Ix D A s (wc ++ wr) H locs) : va_P D vwCl wc H ∧ va_D A wc := by
  have inl : ∀ (i : Nat) (q : Nat × va_E), wc[i]? = some q → (wc ++ wr)[i]? = some q := fun i q h => by rw [List.getElem?_append_left (List.getElem?_eq_some_iff.mp h).1]; exact h
  exact ⟨fun k q h => Z.1 k q (inl k q h), ⟨fun i j x y hi hj hxy => Z.2.1.1 i j x y (inl i x hi) (inl j y hj) hxy, fun k q h => Z.2.1.2 k q (inl k q h)⟩⟩
theorem Ix.free {D : va_G} {A : Nat → Prop} {s : State} {wc wr : va_W} {H : Heap} {locs : List Loc} (Z : Ix D A s (wc ++ wr) H locs) (hA : ∀ q, s.heap.size ≤ q → A q) : ∀ q, va_A wc H.size q → A q := by
  intro q h
  rcases h with ⟨k, e, h⟩ | h
  · exact Z.fst.2.2 k (q, e) h
  · exact hA q (Nat.le_trans Z.2.2.1 h)
/-- the call, any of the two forms, with an int answer -/
theorem kcallI {S : Type} {wcf : S → va_W} {wr : va_W} {u0 : S} {post : Int32 → S → Prop} (F : Fx p m c nL s args own cc D cI cS) (hA : ∀ q, s.heap.size ≤ q → A q) (Z : Ix D A s (wcf u0 ++ wr) H locs)
    (run : ∀ (sz : Nat), H.size = sz → (∀ U : State, U.heap = H → s.WarmedH U.vm → PcW D cI cS As (wcf u0) sz As.toArray U) → va_Run p l e R s m args below meth c H locs cells slots 0 0 (F0 m pc ls st) rest (QcI post wcf D (wcf u0) sz As.toArray) (va_A (wcf u0) sz))
    (kk : ∀ (r : Int32) (u : S) (H1 : Heap) (locs1 : List Loc), post r u → Ix D A s (wcf u ++ wr) H1 locs1 → W p l e R s m args below meth c H1 locs1 cells slots Q (F0 m (pc + 3) ls (.int r :: rest))) : W p l e R s m args below meth c H locs cells slots Q (F0 m pc ls st) := by
  have hFc := Z.free hA
  refine va_calli (run H.size rfl (fun U hU hW => ⟨rfl, by rw [hU], by rw [hU]; exact Z.fst.1, F.2.2.2.2.2.warm hW, Z.fst.2.weaken (fun _ _ _ _ => trivial)⟩)) Z.2.2 (fun q _ h => hFc q h) hFc (fun r u t H1 locs1 ht hvm hw hB hz1 hk1 hS => ?_)
  obtain ⟨hP1, hD1⟩ := hB
  rw [ht] at hP1
  exact kk r u H1 locs1 hw (Z.cat hk1 hFc hP1 hD1 hS)
theorem kcallV {S : Type} {wcf : S → va_W} {wr : va_W} {u0 : S} {post : S → Prop} (F : Fx p m c nL s args own cc D cI cS) (hA : ∀ q, s.heap.size ≤ q → A q) (Z : Ix D A s (wcf u0 ++ wr) H locs)
    (run : ∀ (sz : Nat), H.size = sz → (∀ U : State, U.heap = H → s.WarmedH U.vm → PcW D cI cS As (wcf u0) sz As.toArray U) → va_Run p l e R s m args below meth c H locs cells slots 0 0 (F0 m pc ls st) rest (QcV post wcf D (wcf u0) sz As.toArray) (va_A (wcf u0) sz))
    (kk : ∀ (u : S) (H1 : Heap) (locs1 : List Loc), post u → Ix D A s (wcf u ++ wr) H1 locs1 → W p l e R s m args below meth c H1 locs1 cells slots Q (F0 m (pc + 3) ls rest)) : W p l e R s m args below meth c H locs cells slots Q (F0 m pc ls st) := by
  have hFc := Z.free hA
  refine va_callv (run H.size rfl (fun U hU hW => ⟨rfl, by rw [hU], by rw [hU]; exact Z.fst.1, F.2.2.2.2.2.warm hW, Z.fst.2.weaken (fun _ _ _ _ => trivial)⟩)) Z.2.2 (fun q _ h => hFc q h) hFc (fun u t H1 locs1 ht hvm hw hB hz1 hk1 hS => ?_)
  obtain ⟨hP1, hD1⟩ := hB
  rw [ht] at hP1
  exact kk u H1 locs1 hw (Z.cat hk1 hFc hP1 hD1 hS)
theorem runV_of {post : Array Value → State → Outcome → State → Prop} {Pc : Array Value → State → Prop} {free : Addr → Prop} (F : Fx p m c nL s args own cc D cI cS) (hM : Met l y (Cond.code y cy nY ret :: wU) rm Pc post 0 0 free) (hbl : FrameBlind Pc) (hl : Cond.methodLink own idx y ∈ wU) (V : WdV C y cy nY ret n) (h0 : rm.cells = 0 ∧ rm.slots = 0)
    (hR : rm.frames + 1 ≤ R.frames ∧ 8 + (nY + 11) + rm.locals ≤ R.locals) (hce : cells ≤ R.cells ∧ slots ≤ R.slots) (hrecv : ∃ cell : Cell, H[b]? = some cell ∧ cell.vm.isStatics = false ∧ s.vm.findClass C = some cell.cls)
    (hn : As.length = n) (hls : ls.size = nL) (hrest : (rest.map fun v => v.category).sum ≤ 8) (hdg : decode cc pc = .ok (.invokevirtual idx, 3)) (hst : st = As.reverse ++ .ref b :: rest) (hp : ∀ U : State, U.heap = H → s.WarmedH U.vm → Pc (Value.ref b :: As).toArray U) : va_Run p l e R s m args below meth c H locs cells slots 0 0 (F0 m pc ls st) rest (post (Value.ref b :: As).toArray) free :=
  va_runV (As := As) (rest := rest) ⟨F.1, F.2.1, F.2.2.1, F.2.2.2.1, F.2.2.2.2.1⟩ hM (cwV n F.2.2.2.2.1 (gU_V hl V) rfl h0.1 h0.2 V.2.2.2.2 hR) ⟨hbl, hrecv, hp⟩ rfl hn hls hst (lv_room (pc := pc) (ls := ls) hrest) hdg hce
theorem runS_of {post : Array Value → State → Outcome → State → Prop} {Pc : Array Value → State → Prop} {free : Addr → Prop} (F : Fx p m c nL s args own cc D cI cS) (hM : Met l y (Cond.code y cy nY ret :: wU) rm Pc post 0 0 free) (hbl : FrameBlind Pc) (hl : Cond.methodLink own idx y ∈ wU) (V : WdS own y cy nY ret n) (h0 : rm.cells = 0 ∧ rm.slots = 0)
    (hR : rm.frames + 1 ≤ R.frames ∧ 8 + (nY + 11) + rm.locals ≤ R.locals) (hce : cells ≤ R.cells ∧ slots ≤ R.slots)
    (hn : As.length = n) (hls : ls.size = nL) (hrest : (rest.map fun v => v.category).sum ≤ 8) (hdg : decode cc pc = .ok (.invokestatic idx, 3)) (hst : st = As.reverse ++ rest) (hp : ∀ U : State, U.heap = H → s.WarmedH U.vm → Pc As.toArray U) : va_Run p l e R s m args below meth c H locs cells slots 0 0 (F0 m pc ls st) rest (post As.toArray) free :=
  va_runS (As := As) (rest := rest) ⟨F.1, F.2.1, F.2.2.1, F.2.2.2.1, F.2.2.2.2.1⟩ hM (cwS n F.2.2.2.2.1 (gU_S hl V) rfl h0.1 h0.2 V.2.2.2 hR) ⟨hbl, hp⟩ rfl hn hls hst (lv_room (pc := pc) (ls := ls) hrest) hdg hce
/-- an instance call through a lens: a reader, one that answers and changes, one that only changes -/
theorem kr_i {S : Type} {wcf back : S → va_W} {u0 : S} {v : Int32} (F : Fx p m c nL s args own cc D cI cS) (hA : ∀ q, s.heap.size ≤ q → A q) (Z : Ix D A s w H locs) (L : Lens D A s w wcf u0 back)
    (hM : MI l y cy nY ret rm D cI cS (.ref b :: As) (wcf u0) wcf (fun r u => r = v ∧ u = u0)) (hl : Cond.methodLink own idx y ∈ wU) (V : WdV C y cy nY ret n) (h0 : rm.cells = 0 ∧ rm.slots = 0) (hR : rm.frames + 1 ≤ R.frames ∧ 8 + (nY + 11) + rm.locals ≤ R.locals) (hce : cells ≤ R.cells ∧ slots ≤ R.slots)
    (q0 ci : Nat) {T : u_T} {N : Nat} {fs : List Value} (hc : vwCl[ci]? = some (C, T, N)) (he : w[q0]? = some (b, .inr (ci, fs))) (hn : As.length = n) (hls : lv_has ls nL lv) (hrest : (rest.map fun v => v.category).sum ≤ 8) (hdg : decode cc pc = .ok (.invokevirtual idx, 3)) (hst : st = As.reverse ++ .ref b :: rest)
    (kk : ∀ (H1 : Heap) (locs1 : List Loc), Ix D A s w H1 locs1 → W p l e R s m args below meth c H1 locs1 cells slots Q (F0 m (pc + 3) ls (.int v :: rest))) : W p l e R s m args below meth c H locs cells slots Q (F0 m pc ls st) := by
  obtain ⟨wr, g1, g2, g3⟩ := L
  refine kcallI (As := .ref b :: As) F hA (g1 _ _ Z) (fun sz hsz hp => runV_of F (hM sz) PcW.blind hl V h0 hR hce (va_recv F.2.2.2.2.2.1 Z.1 hc he) hn hls.1 hrest hdg hst hp) (fun r u H1 locs1 hw Z1 => ?_)
  obtain ⟨rfl, rfl⟩ := hw
  exact kk H1 locs1 (g2 _ _ Z1)
theorem km_i {S : Type} {wcf back : S → va_W} {u0 : S} {ok : S → Prop} {q : Int32 × S} (F : Fx p m c nL s args own cc D cI cS) (hA : ∀ q, s.heap.size ≤ q → A q) (Z : Ix D A s w H locs) (L : Lens D A s w wcf u0 back)
    (hM : MI l y cy nY ret rm D cI cS (.ref b :: As) (wcf u0) wcf (fun r u => r = q.1 ∧ u = q.2 ∧ ok u)) (hl : Cond.methodLink own idx y ∈ wU) (V : WdV C y cy nY ret n) (h0 : rm.cells = 0 ∧ rm.slots = 0) (hR : rm.frames + 1 ≤ R.frames ∧ 8 + (nY + 11) + rm.locals ≤ R.locals) (hce : cells ≤ R.cells ∧ slots ≤ R.slots)
    (q0 ci : Nat) {T : u_T} {N : Nat} {fs : List Value} (hc : vwCl[ci]? = some (C, T, N)) (he : w[q0]? = some (b, .inr (ci, fs))) (hn : As.length = n) (hls : lv_has ls nL lv) (hrest : (rest.map fun v => v.category).sum ≤ 8) (hdg : decode cc pc = .ok (.invokevirtual idx, 3)) (hst : st = As.reverse ++ .ref b :: rest)
    (kk : ∀ (H1 : Heap) (locs1 : List Loc), ok q.2 → Ix D A s (back q.2) H1 locs1 → W p l e R s m args below meth c H1 locs1 cells slots Q (F0 m (pc + 3) ls (.int q.1 :: rest))) : W p l e R s m args below meth c H locs cells slots Q (F0 m pc ls st) := by
  obtain ⟨wr, g1, g2, g3⟩ := L
  refine kcallI (As := .ref b :: As) F hA (g1 _ _ Z) (fun sz hsz hp => runV_of F (hM sz) PcW.blind hl V h0 hR hce (va_recv F.2.2.2.2.2.1 Z.1 hc he) hn hls.1 hrest hdg hst hp) (fun r u H1 locs1 hw Z1 => ?_)
  obtain ⟨rfl, rfl, ho⟩ := hw
  exact kk H1 locs1 ho (g3 _ _ _ Z1)
theorem kv_i {S : Type} {wcf back : S → va_W} {u0 : S} {ok : S → Prop} {q : S} (F : Fx p m c nL s args own cc D cI cS) (hA : ∀ q, s.heap.size ≤ q → A q) (Z : Ix D A s w H locs) (L : Lens D A s w wcf u0 back)
    (hM : MV l y cy nY rm D cI cS (.ref b :: As) (wcf u0) wcf (fun u => u = q ∧ ok u)) (hl : Cond.methodLink own idx y ∈ wU) (V : WdV C y cy nY none n) (h0 : rm.cells = 0 ∧ rm.slots = 0) (hR : rm.frames + 1 ≤ R.frames ∧ 8 + (nY + 11) + rm.locals ≤ R.locals) (hce : cells ≤ R.cells ∧ slots ≤ R.slots)
    (q0 ci : Nat) {T : u_T} {N : Nat} {fs : List Value} (hc : vwCl[ci]? = some (C, T, N)) (he : w[q0]? = some (b, .inr (ci, fs))) (hn : As.length = n) (hls : lv_has ls nL lv) (hrest : (rest.map fun v => v.category).sum ≤ 8) (hdg : decode cc pc = .ok (.invokevirtual idx, 3)) (hst : st = As.reverse ++ .ref b :: rest)
    (kk : ∀ (H1 : Heap) (locs1 : List Loc), ok q → Ix D A s (back q) H1 locs1 → W p l e R s m args below meth c H1 locs1 cells slots Q (F0 m (pc + 3) ls rest)) : W p l e R s m args below meth c H locs cells slots Q (F0 m pc ls st) := by
  obtain ⟨wr, g1, g2, g3⟩ := L
  refine kcallV (As := .ref b :: As) F hA (g1 _ _ Z) (fun sz hsz hp => runV_of F (hM sz) PcW.blind hl V h0 hR hce (va_recv F.2.2.2.2.2.1 Z.1 hc he) hn hls.1 hrest hdg hst hp) (fun u H1 locs1 hw Z1 => ?_)
  obtain ⟨rfl, ho⟩ := hw
  exact kk H1 locs1 ho (g3 _ _ _ Z1)
/-- a static method of one's own class that touches no cell -/
theorem ks_i {v : Int32} (F : Fx p m c nL s args own cc D cI cS) (hA : ∀ q, s.heap.size ≤ q → A q) (Z : Ix D A s w H locs)
    (hM : MI l y cy nY ret rm D cI cS As [] (fun _ : Unit => []) (fun r _ => r = v)) (hl : Cond.methodLink own idx y ∈ wU) (V : WdS own y cy nY ret n) (h0 : rm.cells = 0 ∧ rm.slots = 0) (hR : rm.frames + 1 ≤ R.frames ∧ 8 + (nY + 11) + rm.locals ≤ R.locals) (hce : cells ≤ R.cells ∧ slots ≤ R.slots)
    (hn : As.length = n) (hls : lv_has ls nL lv) (hrest : (rest.map fun v => v.category).sum ≤ 8) (hdg : decode cc pc = .ok (.invokestatic idx, 3)) (hst : st = As.reverse ++ rest)
    (kk : ∀ (H1 : Heap) (locs1 : List Loc), Ix D A s w H1 locs1 → W p l e R s m args below meth c H1 locs1 cells slots Q (F0 m (pc + 3) ls (.int v :: rest))) : W p l e R s m args below meth c H locs cells slots Q (F0 m pc ls st) := by
  refine kcallI (S := Unit) (wcf := fun _ => []) (wr := w) (u0 := ()) (As := As) F hA Z (fun sz hsz hp => runS_of F (hM sz) PcW.blind hl V h0 hR hce hn hls.1 hrest hdg hst hp) (fun r u H1 locs1 hw Z1 => ?_)
  subst hw
  exact kk H1 locs1 Z1
end KL
