/-! WORLDS IN ANOTHER ORDER; THE HISTORY -/
theorem va_D_iff {A : Nat → Prop} {w : va_W} : va_D A w ↔ (w.map Prod.fst).Nodup ∧ ∀ q ∈ w, A q.1 := by
  constructor
  · intro h
    refine ⟨?_, fun q hq => ?_⟩
    · rw [List.Nodup, List.pairwise_iff_getElem]
      intro i j hi hj hij he
      rw [List.length_map] at hi hj
      rw [List.getElem_map, List.getElem_map] at he
      have := h.1 i j w[i] w[j] (List.getElem?_eq_getElem hi) (List.getElem?_eq_getElem hj) he
      omega
    · obtain ⟨i, hi⟩ := List.getElem?_of_mem hq
      exact h.2 i q hi
  · intro ⟨h1, h2⟩
    rw [List.Nodup, List.pairwise_iff_getElem] at h1
    refine ⟨fun i j p q hi hj hpq => ?_, fun k q hk => h2 q (List.mem_of_getElem? hk)⟩
    obtain ⟨li, ei⟩ := List.getElem?_eq_some_iff.mp hi
    obtain ⟨lj, ej⟩ := List.getElem?_eq_some_iff.mp hj
    rcases Nat.lt_trichotomy i j with h | h | h
    · exact absurd (by rw [List.getElem_map, List.getElem_map, ei, ej]; exact hpq) (h1 i j (by rw [List.length_map]; exact li) (by rw [List.length_map]; exact lj) h)
    · exact h
    · exact absurd (by rw [List.getElem_map, List.getElem_map, ei, ej]; exact hpq.symm) (h1 j i (by rw [List.length_map]; exact lj) (by rw [List.length_map]; exact li) h)
theorem Ix.perm {D : va_G} {A : Nat → Prop} {s : State} {w w' : va_W} {H : Heap} {locs : List Loc} (Z : Ix D A s w H locs) (h : w.Perm w') : Ix D A s w' H locs := by
  obtain ⟨hP, hD, hS⟩ := Z
  refine ⟨fun k q hk => ?_, ?_, hS⟩
  · obtain ⟨i, hi⟩ := List.getElem?_of_mem (h.mem_iff.mpr (List.mem_of_getElem? hk))
    exact hP i q hi
  · rw [va_D_iff] at hD ⊢
    exact ⟨(h.map Prod.fst).nodup_iff.mp hD.1, fun q hq => hD.2 q (h.mem_iff.mpr hq)⟩
theorem Lens.perm {S : Type} {D : va_G} {A : Nat → Prop} {s : State} {w : va_W} {wcf back : S → va_W} {u0 : S} (wr : va_W) (h0 : w.Perm (wcf u0 ++ wr)) (h1 : ∀ u, (wcf u ++ wr).Perm (back u)) : Lens D A s w wcf u0 back :=
  ⟨wr, fun _ _ Z => Z.perm h0, fun _ _ Z => Z.perm h0.symm, fun u _ _ Z => Z.perm (h1 u)⟩
def MR {S : Type} (l : Launch) (y : MethodName) (cc : ByteArray) (nL : Nat) (ret : Option FieldType) (rm : Room) (D : va_G) (cI cS : ClassId) (as : List Value) (w0 : va_W) (wf : S → va_W) (post : Option Nat → S → Prop) : Prop :=
  ∀ sz, Met l y (Cond.code y cc nL ret :: wU) rm (PcW D cI cS as w0 sz) (va_Qq post (fun u t => va_P D vwCl (wf u) t.heap ∧ va_D (va_A w0 sz) (wf u)) (va_A w0 sz)) 0 0 (va_A w0 sz)
abbrev Hs : Type := (Nat → St) × (Int32 × Int32)
def gW (ad : Nat → Nat) (cI : ClassId) (h : Nat → St) (j : Nat) : va_W := stW ad (36 + 11 * j) cI (h j)
def hO (ad : Nat → Nat) (cS : ClassId) (nx : Int32 × Int32) : va_W := [(ad 34, .inr (1, [.ref (ad 35), .int nx.1, .int nx.2])), (ad 35, .inl (cS, 8, .inr (.inr (.inr (.inr (fun j => some (ad (36 + 11 * j))))))))]
def gsW (ad : Nat → Nat) (cI : ClassId) (h : Nat → St) : va_W := (List.range 8).flatMap (gW ad cI h)
def hW (ad : Nat → Nat) (cI cS : ClassId) (η : Hs) : va_W := hO ad cS η.2 ++ gsW ad cI η.1
def HOK (η : Hs) : Prop := ∃ k : Nat, k < 8 ∧ η.2.1 = nI k
def hpush (η : Hs) (σ : St) : Hs := (va_up η.1 η.2.1.toNatClampNeg σ, (if (8 : Int32) ≤ η.2.1 + 1 then 0 else η.2.1 + 1, jmin (η.2.2 + 1) 8))
def hprev (nx : Int32) : Int32 := if 0 < nx then nx - 1 else 7
def hpop (η : Hs) (τ : St) : Hs × St := if η.2.2 = 0 then (η, τ) else ((η.1, (hprev η.2.1, η.2.2 - 1)), η.1 (hprev η.2.1).toNatClampNeg)
theorem gs_split (ad : Nat → Nat) (cI : ClassId) (h : Nat → St) {k : Nat} (hk : k < 8) : (gsW ad cI h).Perm (gW ad cI h k ++ ((List.range 8).erase k).flatMap (gW ad cI h)) :=
  (List.perm_cons_erase (List.mem_range.mpr hk)).flatMap_right (gW ad cI h)
theorem gs_rest (ad : Nat → Nat) (cI : ClassId) (h : Nat → St) (k : Nat) (u : St) : ((List.range 8).erase k).flatMap (gW ad cI (va_up h k u)) = ((List.range 8).erase k).flatMap (gW ad cI h) := by
  have hne : ∀ j ∈ (List.range 8).erase k, j ≠ k := fun j hj => ((List.Nodup.mem_erase_iff List.nodup_range).mp hj).1
  unfold List.flatMap
  congr 1
  apply List.map_congr_left
  intro j hj
  unfold gW
  rw [va_up_ne _ _ (hne j hj)]
theorem gs_set (ad : Nat → Nat) (cI : ClassId) (h : Nat → St) {k : Nat} (hk : k < 8) (u : St) : (stW ad (36 + 11 * k) cI u ++ ((List.range 8).erase k).flatMap (gW ad cI h)).Perm (gsW ad cI (va_up h k u)) := by
  have h1 := gs_split ad cI (va_up h k u) hk
  rw [gs_rest] at h1
  have e : gW ad cI (va_up h k u) k = stW ad (36 + 11 * k) cI u := by
    unfold gW va_up
    rw [if_pos rfl]
  rw [e] at h1
  exact h1.symm
/-- a + (b + c) as b + (a + c) and as c's first -/
theorem pm3 (a b c : va_W) : (a ++ (b ++ c)).Perm (b ++ (a ++ c)) := List.perm_append_comm_assoc a b c
/-- the k-th state of the history, written over by another -/
theorem Lens.hk {D : va_G} {A : Nat → Prop} {s : State} {ad : Nat → Nat} {cI cS : ClassId} {η : Hs} {b k : Nat} (hk : k < 8) {σ : St} : Lens D A s (hW ad cI cS η ++ stW ad b cI σ) (fun u : St => stW ad (36 + 11 * k) cI u ++ stW ad b cI σ) (η.1 k) (fun u => hW ad cI cS (va_up η.1 k u, η.2) ++ stW ad b cI σ) := by
  refine Lens.perm (hO ad cS η.2 ++ ((List.range 8).erase k).flatMap (gW ad cI η.1)) ?_ (fun u => ?_)
  · have h1 := gs_split ad cI η.1 hk
    unfold hW
    rw [List.append_assoc, List.append_assoc]
    refine ((h1.append_right _).append_left _).trans ?_
    rw [List.append_assoc]
    refine (pm3 _ _ _).trans (List.Perm.append_left _ ?_)
    exact ((List.perm_append_comm).append_left _).trans (pm3 _ _ _)
  · have h1 := gs_set ad cI η.1 hk u
    unfold hW
    rw [List.append_assoc, List.append_assoc]
    refine List.Perm.trans ?_ ((h1.append_right _).append_left _)
    rw [List.append_assoc]
    refine List.Perm.trans (List.Perm.append_left _ ?_) (pm3 _ _ _)
    exact (pm3 _ _ _).trans ((List.perm_append_comm).append_left _)
/-- another state, written over by the k-th of the history -/
theorem Lens.kh {D : va_G} {A : Nat → Prop} {s : State} {ad : Nat → Nat} {cI cS : ClassId} {η : Hs} {b k : Nat} (hk : k < 8) {σ : St} : Lens D A s (hW ad cI cS η ++ stW ad b cI σ) (fun u : St => stW ad b cI u ++ stW ad (36 + 11 * k) cI (η.1 k)) σ (fun u => hW ad cI cS η ++ stW ad b cI u) := by
  have key : ∀ u : St, (hW ad cI cS η ++ stW ad b cI u).Perm ((stW ad b cI u ++ stW ad (36 + 11 * k) cI (η.1 k)) ++ (hO ad cS η.2 ++ ((List.range 8).erase k).flatMap (gW ad cI η.1))) := by
    intro u
    have h1 := gs_split ad cI η.1 hk
    unfold hW
    rw [List.append_assoc, List.append_assoc]
    refine ((h1.append_right _).append_left _).trans ?_
    rw [List.append_assoc]
    refine (pm3 _ _ _).trans ?_
    refine ((((List.perm_append_comm).append_left _).trans (pm3 _ _ _)).append_left _).trans ?_
    exact pm3 _ _ _
  exact Lens.perm _ (key σ) (fun u => (key u).symm)
section KQ
variable {p : Program} {l : Launch} {e : Env} {R : Room} {s : State} {m : MethodId} {args : Array Value} {below : List Frame} {meth : Method} {c : Code} {H : Heap} {locs : List Loc} {cells slots : Nat} {Q : State → Prop}
variable {lv : List (Nat × Value)} {nL : Nat} {own : String} {cc : ByteArray} {D : va_G} {cI cS : ClassId} {A : Nat → Prop} {w : va_W} {pc : Nat} {ls : Array Slot} {st rest As : List Value} {b : Nat} {C : String} {y : MethodName} {cy : ByteArray} {nY n idx : Nat} {ret : Option FieldType} {rm : Room}
theorem kq_i {S : Type} {wcf back : S → va_W} {u0 : S} {v : Option Nat} (F : Fx p m c nL s args own cc D cI cS) (hA : ∀ q, s.heap.size ≤ q → A q) (Z : Ix D A s w H locs) (L : Lens D A s w wcf u0 back)
    (hM : MR l y cy nY ret rm D cI cS (.ref b :: As) (wcf u0) wcf (fun r u => r = v ∧ u = u0)) (hl : Cond.methodLink own idx y ∈ wU) (V : WdV C y cy nY ret n) (h0 : rm.cells = 0 ∧ rm.slots = 0) (hR : rm.frames + 1 ≤ R.frames ∧ 8 + (nY + 11) + rm.locals ≤ R.locals) (hce : cells ≤ R.cells ∧ slots ≤ R.slots)
    (q0 ci : Nat) {T : u_T} {N : Nat} {fs : List Value} (hc : vwCl[ci]? = some (C, T, N)) (he : w[q0]? = some (b, .inr (ci, fs))) (hn : As.length = n) (hls : lv_has ls nL lv) (hrest : (rest.map fun v => v.category).sum ≤ 8) (hdg : decode cc pc = .ok (.invokevirtual idx, 3)) (hst : st = As.reverse ++ .ref b :: rest)
    (kk : ∀ (H1 : Heap) (locs1 : List Loc), Ix D A s w H1 locs1 → W p l e R s m args below meth c H1 locs1 cells slots Q (F0 m (pc + 3) ls (va_rf v :: rest))) : W p l e R s m args below meth c H locs cells slots Q (F0 m pc ls st) := by
  obtain ⟨wr, g1, g2, g3⟩ := L
  have Z0 := g1 _ _ Z
  have hFc := Z0.free hA
  refine va_callq (runV_of F (hM H.size) PcW.blind hl V h0 hR hce (va_recv F.2.2.2.2.2.1 Z.1 hc he) hn hls.1 hrest hdg hst (fun U hU hW => ⟨rfl, by rw [hU], by rw [hU]; exact Z0.fst.1, F.2.2.2.2.2.warm hW, Z0.fst.2.weaken (fun _ _ _ _ => trivial)⟩)) Z0.2.2 (fun q _ h => hFc q h) hFc (fun r u t H1 locs1 ht hvm hw hB hz1 hk1 hS => ?_)
  obtain ⟨hP1, hD1⟩ := hB
  obtain ⟨rfl, rfl⟩ := hw
  rw [ht] at hP1
  exact kk H1 locs1 (g2 _ _ (Z0.cat hk1 hFc hP1 hD1 hS))
theorem kalenq {f : Nat → Option Nat} {x : Int32} {a n : Nat} (F : Fx p m c nL s args own cc D cI cS) (Z : Ix D A s w H locs) (q0 : Nat) (he : w[q0]? = some (a, .inl (cS, n, .inr (.inr (.inr (.inr f)))))) (hv : nI n = x) (hdg : decode cc pc = .ok (.arraylength, 1))
    (kk : W p l e R s m args below meth c H locs cells slots Q (F0 m (pc + 1) ls (.int x :: rest))) : W p l e R s m args below meth c H locs cells slots Q (F0 m pc ls (.ref a :: rest)) :=
  va_alen (D := D) F.1 F.2.1 F.2.2.2.2.2.1 Z.1 q0 1 he rfl hv hdg kk
end KQ
def rm_X1_at : Room := { frames := 0, cells := 0, slots := 0, locals := 0 }
theorem v_X1_at : WdV RX1 yX1_at cX1_at 2 (some (.object "LibraryCirculation$State")) 1 := ⟨mI_X1_at, mS_X1_at, mZ_RX1, mC_X1_at, by decide +kernel⟩
set_option maxHeartbeats 8000000 in
set_option maxRecDepth 100000 in
theorem c_X1_at (l : Launch) (D : va_G) (cI cS : ClassId) (ad : Nat → Nat) (nx : Int32 × Int32) (k : Nat) (hk : k < 8) : MR l yX1_at cX1_at 2 (some (.object "LibraryCirculation$State")) rm_X1_at D cI cS [.ref (ad 34), .int (nI k)] (hO ad cS nx) (hO ad cS) (fun r u => r = some (ad (36 + 11 * k)) ∧ u = nx) := by
  intro sz
  refine Met.ofW (cc := cX1_at) (maxL := 2) (ret := (some (.object "LibraryCirculation$State"))) (by decide) rfl ?_
  intro p e s m args below meth c s₁ B hml hv
  obtain ⟨rfl, hsz, hP, hK, hD0⟩ := hv
  subst hsz
  have hts := atoms_spec (ws := Cond.code yX1_at cX1_at 2 (some (.object "LibraryCirculation$State")) :: wU) B.pre
  have hD := hD0.self (sz := s.heap.size)
  rw [lg_entry_eq]
  have Fc : Fx p m c 2 s [Value.ref (ad 34), .int (nI k)].toArray RX1 cX1_at D cI cS := ⟨B.exec, B.bytes, hml, findClass_of_methodNamed B.named, fun w hw => hts w (List.mem_cons_of_mem _ hw), hK⟩
  have Z : Ix D (va_A (hO ad cS nx) s.heap.size) s (hO ad cS nx) s.heap [] := ⟨hP, hD, va_S.rf⟩
  obtain ⟨hx, hb, hml, hown, hts, hKN⟩ := id Fc
  have hl := lv_entry ([.ref (ad 34), .int (nI k)]) (n := 2) (Nat.le_of_ble_eq_true rfl)
  generalize (lg_sl ([.ref (ad 34), .int (nI k)]) ++ List.replicate (2 - (lg_sl ([.ref (ad 34), .int (nI k)])).length) Slot.unset).toArray = ls at hl ⊢
  replace hl : lv_has ls 2 [(0, .ref (ad 34)), (1, .int (nI k))] := hl
  refine lv_iload_n hx hb dX1_at_0 rfl (lv_at hl 1 rfl) ?_
  refine lv_if_lt (tgt := 22) hx hb dX1_at_1 (by decide) (fun c1 => absurd c1 (nI_pos (by omega))) (fun _ => ?_)
  refine lv_iload_n hx hb dX1_at_4 rfl (lv_at hl 1 rfl) ?_
  refine lv_aload_n hx hb dX1_at_5 rfl (lv_at hl 0 rfl) ?_
  refine kget Fc Z inX1 0 rfl rfl 0 (by decide) mF_RX1_11 rfl rfl dX1_at_6 ?_
  refine kalenq (x := nI 8) Fc Z 1 rfl rfl dX1_at_9 ?_
  refine lv_icmp_ge (tgt := 22) hx hb dX1_at_10 (by decide) (fun c1 => absurd c1 (nI_ge hk (by omega))) (fun _ => ?_)
  refine lv_aload_n hx hb dX1_at_13 rfl (lv_at hl 0 rfl) ?_
  refine kget Fc Z inX1 0 rfl rfl 0 (by decide) mF_RX1_11 rfl rfl dX1_at_14 ?_
  refine lv_iload_n hx hb dX1_at_17 rfl (lv_at hl 1 rfl) ?_
  refine va_aldq (D := D) hx hb hKN.1 Z.1 1 1 rfl rfl (vp_in_nI hk (by omega)) dX1_at_18 ?_
  refine lv_goto (tgt := 23) hx hb dX1_at_19 (by decide) ?_
  rw [nI_clamp (by omega)]
  exact W.aret (v := va_rf (some (ad (36 + 11 * k)))) hx hb B.returns (Or.inl ⟨_, rfl⟩) (va_rf_or _) (fun t ht hW => ⟨⟨some (ad (36 + 11 * k)), nx, rfl, ⟨rfl, rfl⟩, by rw [ht]; exact Z.1, Z.2.1⟩, Z.2.2.F ht⟩) Z.2.2.2.2 dX1_at_23 B.notSynchronized
def rm_X1_size : Room := { frames := 0, cells := 0, slots := 0, locals := 0 }
theorem v_X1_size : WdV RX1 yX1_size cX1_size 1 (some .int) 0 := ⟨mI_X1_size, mS_X1_size, mZ_RX1, mC_X1_size, by decide +kernel⟩
set_option maxHeartbeats 8000000 in
theorem c_X1_size (l : Launch) (D : va_G) (cI cS : ClassId) (ad : Nat → Nat) (nx : Int32 × Int32) : MI l yX1_size cX1_size 1 (some .int) rm_X1_size D cI cS [.ref (ad 34)] (hO ad cS nx) (hO ad cS) (fun r u => r = nx.2 ∧ u = nx) := by
  refine MI.mk RX1 rfl .int rfl (by decide) (Nat.le_of_ble_eq_true rfl) (fun _ _ _ => rfl) ?_
  intro p e s m args below meth c A Q ls Fc hin hA Z kret hl
  obtain ⟨hx, hb, hml, hown, hts, hKN⟩ := id Fc
  replace hl : lv_has ls 1 [(0, .ref (ad 34))] := hl
  refine lv_aload_n hx hb dX1_size_0 rfl (lv_at hl 0 rfl) ?_
  refine kget Fc Z inX1 0 rfl rfl 2 (by decide) mF_RX1_21 rfl rfl dX1_size_1 ?_
  exact kret nx.2 nx _ _ _ _ ⟨rfl, rfl⟩ Z dX1_size_4
def rm_X1_isEmpty : Room := { frames := 0, cells := 0, slots := 0, locals := 0 }
theorem v_X1_isEmpty : WdV RX1 yX1_isEmpty cX1_isEmpty 1 (some .boolean) 0 := ⟨mI_X1_isEmpty, mS_X1_isEmpty, mZ_RX1, mC_X1_isEmpty, by decide +kernel⟩
set_option maxHeartbeats 8000000 in
theorem c_X1_isEmpty (l : Launch) (D : va_G) (cI cS : ClassId) (ad : Nat → Nat) (nx : Int32 × Int32) : MI l yX1_isEmpty cX1_isEmpty 1 (some .boolean) rm_X1_isEmpty D cI cS [.ref (ad 34)] (hO ad cS nx) (hO ad cS) (fun r u => r = bi (decide (nx.2 = 0)) ∧ u = nx) := by
  refine MI.mk RX1 rfl .boolean rfl (by decide) (Nat.le_of_ble_eq_true rfl) (fun r u h => by rw [h.1]; exact bi_nar _) ?_
  intro p e s m args below meth c A Q ls Fc hin hA Z kret hl
  obtain ⟨hx, hb, hml, hown, hts, hKN⟩ := id Fc
  replace hl : lv_has ls 1 [(0, .ref (ad 34))] := hl
  refine lv_aload_n hx hb dX1_isEmpty_0 rfl (lv_at hl 0 rfl) ?_
  refine kget Fc Z inX1 0 rfl rfl 2 (by decide) mF_RX1_21 rfl rfl dX1_isEmpty_1 ?_
  refine lv_if_ne (tgt := 11) hx hb dX1_isEmpty_4 (by decide) (fun c1 => ?_) (fun c1 => ?_)
  · refine lv_iconst (v := (0 : Int32)) hx hb dX1_isEmpty_11 (by decide) ?_
    exact kret 0 nx _ _ _ _ ⟨by rw [decide_eq_false c1]; rfl, rfl⟩ Z dX1_isEmpty_12
  · refine lv_iconst (v := (1 : Int32)) hx hb dX1_isEmpty_7 (by decide) ?_
    refine lv_goto (tgt := 12) hx hb dX1_isEmpty_8 (by decide) ?_
    exact kret 1 nx _ _ _ _ ⟨by rw [decide_eq_true c1]; rfl, rfl⟩ Z dX1_isEmpty_12
theorem Lens.ho {D : va_G} {A : Nat → Prop} {s : State} {ad : Nat → Nat} {cI cS : ClassId} {η : Hs} {R : va_W} : Lens D A s (hW ad cI cS η ++ R) (hO ad cS) η.2 (fun u => hW ad cI cS (η.1, u) ++ R) := by
  have h : ∀ u, hW ad cI cS (η.1, u) ++ R = hO ad cS u ++ (gsW ad cI η.1 ++ R) := fun u => List.append_assoc _ _ _
  refine ⟨gsW ad cI η.1 ++ R, fun H locs Z => ?_, fun H locs Z => ?_, fun u H locs Z => ?_⟩
  · rw [← h]; exact Z
  · rw [← h] at Z; exact Z
  · show Ix D A s (hW ad cI cS (η.1, u) ++ R) H locs
    rw [h]
    exact Z
def rm_X1_push : Room := { frames := 3, cells := 0, slots := 0, locals := 102 }
theorem v_X1_push : WdV RX1 yX1_push cX1_push 3 none 1 := ⟨mI_X1_push, mS_X1_push, mZ_RX1, mC_X1_push, by decide +kernel⟩
set_option maxHeartbeats 8000000 in
set_option maxRecDepth 100000 in
theorem c_X1_push (l : Launch) (D : va_G) (cI cS : ClassId) (ad : Nat → Nat) (b : Nat) (η : Hs) (ok : HOK η) (σ : St) (F : Hs) (hF : hpush η σ = F) : MV l yX1_push cX1_push 3 rm_X1_push D cI cS [.ref (ad 34), .ref (ad b)] (hW ad cI cS η ++ stW ad b cI σ) (fun u => hW ad cI cS u ++ stW ad b cI σ) (fun u => u = F ∧ HOK u) := by
  obtain ⟨k, hk, ek⟩ := ok
  refine MV.mk RX1 rfl (by decide) (Nat.le_of_ble_eq_true rfl) ?_
  intro p e s m args below meth c A Q ls Fc hin hA Z kret hl
  obtain ⟨hx, hb, hml, hown, hts, hKN⟩ := id Fc
  replace hl : lv_has ls 3 [(0, .ref (ad 34)), (1, .ref (ad b))] := hl
  refine lv_aload_n hx hb dX1_push_0 rfl (lv_at hl 0 rfl) ?_
  refine lv_aload_n hx hb dX1_push_1 rfl (lv_at hl 0 rfl) ?_
  refine kget Fc Z inX1 0 rfl rfl 1 (by decide) mF_RX1_17 rfl rfl dX1_push_2 ?_
  rw [ek]
  refine kq_i (As := [.int (nI k)]) Fc hA Z Lens.ho (c_X1_at l D cI cS ad η.2 k hk) mL_RX1_25 v_X1_at ⟨rfl, rfl⟩ ⟨Nat.le_of_ble_eq_true rfl, Nat.le_of_ble_eq_true rfl⟩ ⟨Nat.zero_le _, Nat.zero_le _⟩ 0 1 rfl rfl rfl hl (Nat.le_of_ble_eq_true rfl) dX1_push_5 rfl (fun H locs Z => ?_)
  refine lv_astore_n (x := ad (36 + 11 * k)) (lv' := [(2, .ref (ad (36 + 11 * k))), (0, .ref (ad 34)), (1, .ref (ad b))]) hx hb dX1_push_8 rfl hl (by decide) rfl (fun ls hl => ?_)
  refine lv_aload_n hx hb dX1_push_9 rfl (lv_at hl 0 rfl) ?_
  refine lv_ifnull hx hb dX1_push_10 ?_
  refine lv_aload_n hx hb dX1_push_13 rfl (lv_at hl 0 rfl) ?_
  refine lv_aload_n hx hb dX1_push_14 rfl (lv_at hl 2 rfl) ?_
  obtain ⟨η1, e1⟩ : ∃ z : Hs, z = (va_up η.1 k σ, η.2) := ⟨_, rfl⟩
  have hg : ∃ q0 : Nat, (hW ad cI cS η ++ stW ad b cI σ)[q0]? = some ((ad (36 + 11 * k), .inr (2, [.ref (ad (36 + 11 * k + 1)), .ref (ad (36 + 11 * k + 3)), .ref (ad (36 + 11 * k + 5)), .ref (ad (36 + 11 * k + 7)), .ref (ad (36 + 11 * k + 9)), .int (η.1 k).2])) : Nat × va_E) := by
    refine List.getElem?_of_mem (List.mem_append_left _ (List.mem_append_right _ ?_))
    refine (gs_split ad cI η.1 hk).mem_iff.mpr (List.mem_append_left _ ?_)
    exact List.mem_cons_self
  obtain ⟨q0, hq0⟩ := hg
  refine kv_i (As := [.ref (ad b)]) (ok := fun _ : St => True) Fc hA Z (Lens.hk hk) (c_X2_copyFrom l D cI cS ad (36 + 11 * k) b (η.1 k) σ) mL_RX1_29 v_X2_copyFrom ⟨rfl, rfl⟩ ⟨Nat.le_of_ble_eq_true rfl, Nat.le_of_ble_eq_true rfl⟩ ⟨Nat.zero_le _, Nat.zero_le _⟩ q0 2 rfl hq0 rfl hl (Nat.le_of_ble_eq_true rfl) dX1_push_15 rfl (fun H locs _ Z => ?_)
  rw [← e1] at Z
  have en : η1.2.1 = nI k := by rw [e1]; exact ek
  refine lv_aload_n hx hb dX1_push_18 rfl (lv_at hl 1 rfl) ?_
  refine lv_aload_n hx hb dX1_push_19 rfl (lv_at hl 1 rfl) ?_
  refine kget Fc Z inX1 0 rfl rfl 1 (by decide) mF_RX1_17 rfl rfl dX1_push_20 ?_
  refine lv_iconst (v := (1 : Int32)) hx hb dX1_push_23 (by decide) ?_
  refine lv_iadd hx hb dX1_push_24 ?_
  refine lv_aload_n hx hb dX1_push_25 rfl (lv_at hl 1 rfl) ?_
  refine kget Fc Z inX1 0 rfl rfl 0 (by decide) mF_RX1_11 rfl rfl dX1_push_26 ?_
  refine kalenq (x := (8 : Int32)) Fc Z 1 rfl (by decide) dX1_push_29 ?_
  have tail : ∀ (v : Int32) (H : Heap) (locs : List Loc), v = (if (8 : Int32) ≤ η.2.1 + 1 then 0 else η.2.1 + 1) → Ix D A s (hW ad cI cS η1 ++ stW ad b cI σ) H locs → W p l e rm_X1_push s m args below meth c H locs 0 0 Q (F0 m 43 ls [.int v, .ref (ad 34)]) := by
    intro v H locs hv Z
    refine kput (v := .int v) (ty := .int) (w' := hW ad cI cS (η1.1, (v, η1.2.2)) ++ stW ad b cI σ) Fc Z inX1 tyX1 tyX1_ok nmX1 0 rfl rfl 1 (by decide) mF_RX1_17 rfl rfl rfl rfl rfl (Nat.le_of_ble_eq_true rfl) rfl dX1_push_43 (fun H locs Z => ?_)
    refine lv_aload_n hx hb dX1_push_46 rfl (lv_at hl 1 rfl) ?_
    refine lv_aload_n hx hb dX1_push_47 rfl (lv_at hl 1 rfl) ?_
    refine kget Fc Z inX1 0 rfl rfl 2 (by decide) mF_RX1_21 rfl rfl dX1_push_48 ?_
    refine lv_iconst (v := (1 : Int32)) hx hb dX1_push_51 (by decide) ?_
    refine lv_iadd hx hb dX1_push_52 ?_
    refine lv_aload_n hx hb dX1_push_53 rfl (lv_at hl 1 rfl) ?_
    refine kget Fc Z inX1 0 rfl rfl 0 (by decide) mF_RX1_11 rfl rfl dX1_push_54 ?_
    refine kalenq (x := (8 : Int32)) Fc Z 1 rfl (by decide) dX1_push_57 ?_
    refine kmin Fc hl mL_RX1_33 (Nat.le_of_ble_eq_true rfl) (Nat.le_of_ble_eq_true rfl) ⟨Nat.zero_le _, Nat.zero_le _⟩ dX1_push_58 ?_
    refine kput (v := .int (jmin (η1.2.2 + 1) 8)) (ty := .int) (w' := hW ad cI cS (η1.1, (v, jmin (η1.2.2 + 1) 8)) ++ stW ad b cI σ) Fc Z inX1 tyX1 tyX1_ok nmX1 0 rfl rfl 2 (by decide) mF_RX1_21 rfl rfl rfl rfl rfl (Nat.le_of_ble_eq_true rfl) rfl dX1_push_61 (fun H locs Z => ?_)
    refine kret (η1.1, (v, jmin (η1.2.2 + 1) 8)) _ _ _ _ ⟨?_, ?_⟩ Z dX1_push_64
    · rw [← hF, hv, e1]
      unfold hpush
      rw [ek, nI_clamp (by omega)]
    · show ∃ j : Nat, j < 8 ∧ v = nI j
      rw [hv, ek, nI_1, show (8 : Int32) = nI 8 from rfl]
      by_cases h8 : k + 1 < 8
      · exact ⟨k + 1, h8, by rw [if_neg (nI_ge h8 (by omega))]⟩
      · exact ⟨0, by omega, by rw [if_pos (nI_le (by omega) (by omega))]; rfl⟩
  refine lv_icmp_ge (tgt := 42) hx hb dX1_push_30 (by decide) (fun c1 => ?_) (fun c1 => ?_)
  · refine lv_iconst (v := (0 : Int32)) hx hb dX1_push_42 (by decide) ?_
    rw [e1] at c1
    exact tail 0 _ _ (by rw [if_pos c1]) Z
  · refine lv_aload_n hx hb dX1_push_33 rfl (lv_at hl 1 rfl) ?_
    refine kget Fc Z inX1 0 rfl rfl 1 (by decide) mF_RX1_17 rfl rfl dX1_push_34 ?_
    refine lv_iconst (v := (1 : Int32)) hx hb dX1_push_37 (by decide) ?_
    refine lv_iadd hx hb dX1_push_38 ?_
    refine lv_goto (tgt := 43) hx hb dX1_push_39 (by decide) ?_
    rw [e1] at c1
    exact tail (η1.2.1 + 1) _ _ (by rw [if_neg c1, e1]) Z
def rm_X1_pop : Room := { frames := 3, cells := 0, slots := 0, locals := 102 }
theorem v_X1_pop : WdV RX1 yX1_pop cX1_pop 3 none 1 := ⟨mI_X1_pop, mS_X1_pop, mZ_RX1, mC_X1_pop, by decide +kernel⟩
set_option maxHeartbeats 8000000 in
set_option maxRecDepth 100000 in
theorem c_X1_pop (l : Launch) (D : va_G) (cI cS : ClassId) (ad : Nat → Nat) (b : Nat) (η : Hs) (ok : HOK η) (τ : St) (F : Hs × St) (hF : hpop η τ = F) : MV l yX1_pop cX1_pop 3 rm_X1_pop D cI cS [.ref (ad 34), .ref (ad b)] (hW ad cI cS η ++ stW ad b cI τ) (fun u : Hs × St => hW ad cI cS u.1 ++ stW ad b cI u.2) (fun u => u = F ∧ HOK u.1) := by
  obtain ⟨k, hk, ek⟩ := id ok
  refine MV.mk RX1 rfl (by decide) (Nat.le_of_ble_eq_true rfl) ?_
  intro p e s m args below meth c A Q ls Fc hin hA Z kret hl
  obtain ⟨hx, hb, hml, hown, hts, hKN⟩ := id Fc
  replace hl : lv_has ls 3 [(0, .ref (ad 34)), (1, .ref (ad b))] := hl
  refine lv_aload_n hx hb dX1_pop_0 rfl (lv_at hl 0 rfl) ?_
  refine kget Fc Z inX1 0 rfl rfl 2 (by decide) mF_RX1_21 rfl rfl dX1_pop_1 ?_
  unfold hpop at hF
  refine lv_if_ne (tgt := 8) hx hb dX1_pop_4 (by decide) (fun c1 => ?_) (fun c1 => ?_)
  · rw [if_neg c1] at hF
    have hpr : ∃ j : Nat, j < 8 ∧ hprev η.2.1 = nI j := by
      unfold hprev
      rw [ek]
      by_cases h0 : 0 < k
      · refine ⟨k - 1, by omega, ?_⟩
        rw [if_pos (show (0 : Int32) < nI k from by rw [← nI_0]; exact nI_lt h0 (by omega))]
        obtain ⟨j, rfl⟩ : ∃ j, k = j + 1 := ⟨k - 1, by omega⟩
        rw [nI_pred]
        rfl
      · refine ⟨7, by omega, ?_⟩
        rw [if_neg (show ¬ (0 : Int32) < nI k from by rw [← nI_0]; exact nI_nlt (by omega) (by omega))]
        rfl
    obtain ⟨j, hj, ej⟩ := hpr
    refine lv_aload_n hx hb dX1_pop_8 rfl (lv_at hl 0 rfl) ?_
    refine lv_aload_n hx hb dX1_pop_9 rfl (lv_at hl 0 rfl) ?_
    refine kget Fc Z inX1 0 rfl rfl 1 (by decide) mF_RX1_17 rfl rfl dX1_pop_10 ?_
    have tail : ∀ (v : Int32) (H : Heap) (locs : List Loc), v = hprev η.2.1 → Ix D A s (hW ad cI cS η ++ stW ad b cI τ) H locs → W p l e rm_X1_pop s m args below meth c H locs 0 0 Q (F0 m 32 ls [.int v, .ref (ad 34)]) := by
      intro v H locs hv Z
      refine kput (v := .int v) (ty := .int) (w' := hW ad cI cS (η.1, (v, η.2.2)) ++ stW ad b cI τ) Fc Z inX1 tyX1 tyX1_ok nmX1 0 rfl rfl 1 (by decide) mF_RX1_17 rfl rfl rfl rfl rfl (Nat.le_of_ble_eq_true rfl) rfl dX1_pop_32 (fun H locs Z => ?_)
      refine lv_aload_n hx hb dX1_pop_35 rfl (lv_at hl 0 rfl) ?_
      refine lv_dup hx hb dX1_pop_36 rfl ?_
      refine kget Fc Z inX1 0 rfl rfl 2 (by decide) mF_RX1_21 rfl rfl dX1_pop_37 ?_
      refine lv_iconst (v := (1 : Int32)) hx hb dX1_pop_40 (by decide) ?_
      refine lv_isub hx hb dX1_pop_41 ?_
      refine kput (v := .int (η.2.2 - 1)) (ty := .int) (w' := hW ad cI cS (η.1, (v, η.2.2 - 1)) ++ stW ad b cI τ) Fc Z inX1 tyX1 tyX1_ok nmX1 0 rfl rfl 2 (by decide) mF_RX1_21 rfl rfl rfl rfl rfl (Nat.le_of_ble_eq_true rfl) rfl dX1_pop_42 (fun H locs Z => ?_)
      obtain ⟨η1, e1⟩ : ∃ z : Hs, z = (η.1, (v, η.2.2 - 1)) := ⟨_, rfl⟩
      rw [← e1] at Z
      have en : η1.2.1 = nI j := by rw [e1, hv]; exact ej
      refine lv_aload_n hx hb dX1_pop_45 rfl (lv_at hl 0 rfl) ?_
      refine lv_aload_n hx hb dX1_pop_46 rfl (lv_at hl 0 rfl) ?_
      refine kget Fc Z inX1 0 rfl rfl 1 (by decide) mF_RX1_17 rfl rfl dX1_pop_47 ?_
      rw [en]
      refine kq_i (As := [.int (nI j)]) Fc hA Z Lens.ho (c_X1_at l D cI cS ad η1.2 j hj) mL_RX1_25 v_X1_at ⟨rfl, rfl⟩ ⟨Nat.le_of_ble_eq_true rfl, Nat.le_of_ble_eq_true rfl⟩ ⟨Nat.zero_le _, Nat.zero_le _⟩ 0 1 rfl rfl rfl hl (Nat.le_of_ble_eq_true rfl) dX1_pop_50 rfl (fun H locs Z => ?_)
      refine lv_astore_n (x := ad (36 + 11 * j)) (lv' := [(2, .ref (ad (36 + 11 * j))), (0, .ref (ad 34)), (1, .ref (ad b))]) hx hb dX1_pop_53 rfl hl (by decide) rfl (fun ls hl => ?_)
      refine lv_aload_n hx hb dX1_pop_54 rfl (lv_at hl 0 rfl) ?_
      refine lv_ifnull hx hb dX1_pop_55 ?_
      refine lv_aload_n hx hb dX1_pop_58 rfl (lv_at hl 2 rfl) ?_
      refine lv_aload_n hx hb dX1_pop_59 rfl (lv_at hl 0 rfl) ?_
      have hg : ∃ q0 : Nat, (hW ad cI cS η1 ++ stW ad b cI τ)[q0]? = some ((ad b, .inr (2, [.ref (ad (b + 1)), .ref (ad (b + 3)), .ref (ad (b + 5)), .ref (ad (b + 7)), .ref (ad (b + 9)), .int τ.2])) : Nat × va_E) :=
        List.getElem?_of_mem (List.mem_append_right _ List.mem_cons_self)
      obtain ⟨q0, hq0⟩ := hg
      refine kv_i (As := [.ref (ad (36 + 11 * j))]) (ok := fun _ : St => True) Fc hA Z (Lens.kh hj) (c_X2_copyFrom l D cI cS ad b (36 + 11 * j) τ (η1.1 j)) mL_RX1_29 v_X2_copyFrom ⟨rfl, rfl⟩ ⟨Nat.le_of_ble_eq_true rfl, Nat.le_of_ble_eq_true rfl⟩ ⟨Nat.zero_le _, Nat.zero_le _⟩ q0 2 rfl hq0 rfl hl (Nat.le_of_ble_eq_true rfl) dX1_pop_60 rfl (fun H locs _ Z => ?_)
      refine kret (η1, η1.1 j) _ _ _ _ ⟨?_, ⟨j, hj, en⟩⟩ Z dX1_pop_63
      rw [← hF, e1, hv, ej, nI_clamp (by omega)]
    refine lv_if_le (tgt := 25) hx hb dX1_pop_13 (by decide) (fun c2 => ?_) (fun c2 => ?_)
    · refine lv_aload_n hx hb dX1_pop_25 rfl (lv_at hl 0 rfl) ?_
      refine kget Fc Z inX1 0 rfl rfl 0 (by decide) mF_RX1_11 rfl rfl dX1_pop_26 ?_
      refine kalenq (x := (8 : Int32)) Fc Z 1 rfl (by decide) dX1_pop_29 ?_
      refine lv_iconst (v := (1 : Int32)) hx hb dX1_pop_30 (by decide) ?_
      refine lv_isub hx hb dX1_pop_31 ?_
      exact tail _ _ _ (by unfold hprev; rw [if_neg (Int32.not_lt.mpr c2)]; rfl) Z
    · refine lv_aload_n hx hb dX1_pop_16 rfl (lv_at hl 0 rfl) ?_
      refine kget Fc Z inX1 0 rfl rfl 1 (by decide) mF_RX1_17 rfl rfl dX1_pop_17 ?_
      refine lv_iconst (v := (1 : Int32)) hx hb dX1_pop_20 (by decide) ?_
      refine lv_isub hx hb dX1_pop_21 ?_
      refine lv_goto (tgt := 32) hx hb dX1_pop_22 (by decide) ?_
      exact tail _ _ _ (by unfold hprev; rw [if_pos (Int32.not_le.mp c2)]) Z
  · rw [if_pos c1] at hF
    exact kret (η, τ) _ _ _ _ ⟨hF, ok⟩ Z dX1_pop_7
