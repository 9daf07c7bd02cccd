/-! THE CLAIM OUT OF ONE WALK OF THE LAW'S BODY. Your part is whole_start (and what it stands on); all else here is the same for every law, but numbers. -/
def R_law : String := "LibraryCirculationLaw"
def lw_P (b : Addr) (xs : List Int32) (args : Array Value) (s : State) : Prop := args = #[.ref b] ∧ s.IntsAt b xs ∧ xs.length ≤ 2048 ∧ (Jvm.Cond.and given_1 narrow_1).before args s = true
def lw_Q (_ : Array Value) (s : State) (o : Outcome) (t : State) : Prop := o = .returned (some (.int 1)) ∧ Framed s o t [] 600000 7302250
def lw_Z (below : List Frame) (a : Array Value) (s : State) : State → Prop := fun t => ∃ o, t.status = .running ∧ Ended t below o ∧ lw_Q a s o t
/-- the law's own end, with 1 on the stack, nothing written that was there before, its room as the claim has it -/
theorem lw_ret {p : Program} {l : Launch} {e : Env} {s : State} {m : MethodId} {below : List Frame} {meth : Method} {c : Code} {b : Nat} (hx : p.tables.exec = Jvm.exec) (hb : c.code = code) (hr : meth.sig.returnType = ret) (hlocks : meth.locks = false) {pc : Nat} {H : Heap} {ls : Array Slot} (hdg : decode code pc = .ok (.ireturn, 1)) : W p l e room_1 s m #[Value.ref b] below meth c H [] 600000 7302250 (lw_Z below #[Value.ref b] s) (F0 m pc ls [.int 1]) := by
  intro T hT X
  obtain ⟨fs, hret, hrun, hended, hW, hframe⟩ := X.leave (v := some (.int 1)) (hlocks := hlocks) (fun h => by rw [hr] at h; cases h)
  have hmeth' : T.vm.method? m = some meth := X.method'
  refine ⟨T.setFrames fs, ?_, .returned (some (.int 1)), hrun, hended, rfl, ⟨_, rfl⟩, hW, hframe⟩
  jvm_step X.here [X.here.top, hx, hb, hdg, hmeth', hr, ret, narrow_b1]
  (try refine ⟨rfl, ?_⟩); (try refine ⟨rfl, ?_⟩)
  first | (intro acts; rw [hret _ acts rfl rfl rfl]) | rw [hret _ _ rfl rfl rfl]
  exact Steps.refl _
/-- what holds at the law's entry: the machine, the code, the tables' words (any of lw_tbl by 'hts w (by decide +kernel)'), the script of L ints xs at the cell b, what the Statement gives of the start (any of its parts by flat_of_before) -/
def lw_At (p : Program) (s : State) (m : MethodId) (meth : Method) (c : Code) (b L : Nat) (xs : Nat → Int32) : Prop :=
  p.tables.exec = Jvm.exec ∧ c.code = code ∧ meth.sig.returnType = ret ∧ c.maxLocals = 4 ∧ s.vm.findClass R_law = some m.cls ∧ (∀ w ∈ lw_tbl, w.before #[Value.ref b] s = true) ∧ va_X b L xs s s.heap ∧ b < s.heap.size ∧ meth.locks = false ∧ (Jvm.Cond.and given_1 narrow_1).before #[Value.ref b] s = true
theorem mLS_FIRST_VALUES : Cond.laysStatic "LibraryCirculation" "FIRST_VALUES" "[I" ∈ lw_tbl := tb1 (List.mem_of_getElem? (i := 47) (by decide +kernel))
theorem mLS_LOWEST_VALUES : Cond.laysStatic "LibraryCirculation" "LOWEST_VALUES" "[I" ∈ lw_tbl := tb2 (List.mem_of_getElem? (i := 3) (by decide +kernel))
theorem mLS_HIGHEST_VALUES : Cond.laysStatic "LibraryCirculation" "HIGHEST_VALUES" "[I" ∈ lw_tbl := tb2 (List.mem_of_getElem? (i := 5) (by decide +kernel))
set_option maxRecDepth 100000 in
theorem zF {s : State} {b : Addr} (hts : ∀ w ∈ lw_tbl, w.before #[Value.ref b] s = true) (hg : (Jvm.Cond.and given_1 narrow_1).before #[Value.ref b] s = true) : ∃ t, Z1 "FIRST_VALUES" t vF (fun q => s.heap.size ≤ q) s := by
  have hs := flat_of_before _ hg
  obtain ⟨t, ht, hT⟩ := va_Tof (args := #[Value.ref b]) (s := s) (tm := .static "LibraryCirculation" "FIRST_VALUES" "[I") (ty := .int) (N := 8) (f := fun j => .int (vF j)) (A := fun q => s.heap.size ≤ q) (by decide) (hs _ (by decide +kernel)) (va_eqt (hs (Cond.eq (.length (.static "LibraryCirculation" "FIRST_VALUES" "[I")) (.int 8)) (by decide +kernel)))
    (fun j hj => by
      rcases (show j = 0 ∨ j = 1 ∨ j = 2 ∨ j = 3 ∨ j = 4 ∨ j = 5 ∨ j = 6 ∨ j = 7 by omega) with rfl | rfl | rfl | rfl | rfl | rfl | rfl | rfl
      · exact va_eqt (hs (Cond.eq (.elem (.static "LibraryCirculation" "FIRST_VALUES" "[I") (.int 0)) (.int (vF 0))) (by decide +kernel))
      · exact va_eqt (hs (Cond.eq (.elem (.static "LibraryCirculation" "FIRST_VALUES" "[I") (.int 1)) (.int (vF 1))) (by decide +kernel))
      · exact va_eqt (hs (Cond.eq (.elem (.static "LibraryCirculation" "FIRST_VALUES" "[I") (.int 2)) (.int (vF 2))) (by decide +kernel))
      · exact va_eqt (hs (Cond.eq (.elem (.static "LibraryCirculation" "FIRST_VALUES" "[I") (.int 3)) (.int (vF 3))) (by decide +kernel))
      · exact va_eqt (hs (Cond.eq (.elem (.static "LibraryCirculation" "FIRST_VALUES" "[I") (.int 4)) (.int (vF 4))) (by decide +kernel))
      · exact va_eqt (hs (Cond.eq (.elem (.static "LibraryCirculation" "FIRST_VALUES" "[I") (.int 5)) (.int (vF 5))) (by decide +kernel))
      · exact va_eqt (hs (Cond.eq (.elem (.static "LibraryCirculation" "FIRST_VALUES" "[I") (.int 6)) (.int (vF 6))) (by decide +kernel))
      · exact va_eqt (hs (Cond.eq (.elem (.static "LibraryCirculation" "FIRST_VALUES" "[I") (.int 7)) (.int (vF 7))) (by decide +kernel))) (fun a ha => Nat.not_le.mpr ha)
  exact ⟨t, va_Zref (hts _ mLS_FIRST_VALUES) (hts _ (wU_tbl mZ_RX4)) ht (fun a ha => Nat.not_le.mpr ha), hT⟩
set_option maxRecDepth 100000 in
theorem zL {s : State} {b : Addr} (hts : ∀ w ∈ lw_tbl, w.before #[Value.ref b] s = true) (hg : (Jvm.Cond.and given_1 narrow_1).before #[Value.ref b] s = true) : ∃ t, Z1 "LOWEST_VALUES" t vLo (fun q => s.heap.size ≤ q) s := by
  have hs := flat_of_before _ hg
  obtain ⟨t, ht, hT⟩ := va_Tof (args := #[Value.ref b]) (s := s) (tm := .static "LibraryCirculation" "LOWEST_VALUES" "[I") (ty := .int) (N := 8) (f := fun j => .int (vLo j)) (A := fun q => s.heap.size ≤ q) (by decide) (hs _ (by decide +kernel)) (va_eqt (hs (Cond.eq (.length (.static "LibraryCirculation" "LOWEST_VALUES" "[I")) (.int 8)) (by decide +kernel)))
    (fun j hj => by
      rcases (show j = 0 ∨ j = 1 ∨ j = 2 ∨ j = 3 ∨ j = 4 ∨ j = 5 ∨ j = 6 ∨ j = 7 by omega) with rfl | rfl | rfl | rfl | rfl | rfl | rfl | rfl
      · exact va_eqt (hs (Cond.eq (.elem (.static "LibraryCirculation" "LOWEST_VALUES" "[I") (.int 0)) (.int (vLo 0))) (by decide +kernel))
      · exact va_eqt (hs (Cond.eq (.elem (.static "LibraryCirculation" "LOWEST_VALUES" "[I") (.int 1)) (.int (vLo 1))) (by decide +kernel))
      · exact va_eqt (hs (Cond.eq (.elem (.static "LibraryCirculation" "LOWEST_VALUES" "[I") (.int 2)) (.int (vLo 2))) (by decide +kernel))
      · exact va_eqt (hs (Cond.eq (.elem (.static "LibraryCirculation" "LOWEST_VALUES" "[I") (.int 3)) (.int (vLo 3))) (by decide +kernel))
      · exact va_eqt (hs (Cond.eq (.elem (.static "LibraryCirculation" "LOWEST_VALUES" "[I") (.int 4)) (.int (vLo 4))) (by decide +kernel))
      · exact va_eqt (hs (Cond.eq (.elem (.static "LibraryCirculation" "LOWEST_VALUES" "[I") (.int 5)) (.int (vLo 5))) (by decide +kernel))
      · exact va_eqt (hs (Cond.eq (.elem (.static "LibraryCirculation" "LOWEST_VALUES" "[I") (.int 6)) (.int (vLo 6))) (by decide +kernel))
      · exact va_eqt (hs (Cond.eq (.elem (.static "LibraryCirculation" "LOWEST_VALUES" "[I") (.int 7)) (.int (vLo 7))) (by decide +kernel))) (fun a ha => Nat.not_le.mpr ha)
  exact ⟨t, va_Zref (hts _ mLS_LOWEST_VALUES) (hts _ (wU_tbl mZ_RX4)) ht (fun a ha => Nat.not_le.mpr ha), hT⟩
set_option maxRecDepth 100000 in
theorem zH {s : State} {b : Addr} (hts : ∀ w ∈ lw_tbl, w.before #[Value.ref b] s = true) (hg : (Jvm.Cond.and given_1 narrow_1).before #[Value.ref b] s = true) : ∃ t, Z1 "HIGHEST_VALUES" t vHi (fun q => s.heap.size ≤ q) s := by
  have hs := flat_of_before _ hg
  obtain ⟨t, ht, hT⟩ := va_Tof (args := #[Value.ref b]) (s := s) (tm := .static "LibraryCirculation" "HIGHEST_VALUES" "[I") (ty := .int) (N := 8) (f := fun j => .int (vHi j)) (A := fun q => s.heap.size ≤ q) (by decide) (hs _ (by decide +kernel)) (va_eqt (hs (Cond.eq (.length (.static "LibraryCirculation" "HIGHEST_VALUES" "[I")) (.int 8)) (by decide +kernel)))
    (fun j hj => by
      rcases (show j = 0 ∨ j = 1 ∨ j = 2 ∨ j = 3 ∨ j = 4 ∨ j = 5 ∨ j = 6 ∨ j = 7 by omega) with rfl | rfl | rfl | rfl | rfl | rfl | rfl | rfl
      · exact va_eqt (hs (Cond.eq (.elem (.static "LibraryCirculation" "HIGHEST_VALUES" "[I") (.int 0)) (.int (vHi 0))) (by decide +kernel))
      · exact va_eqt (hs (Cond.eq (.elem (.static "LibraryCirculation" "HIGHEST_VALUES" "[I") (.int 1)) (.int (vHi 1))) (by decide +kernel))
      · exact va_eqt (hs (Cond.eq (.elem (.static "LibraryCirculation" "HIGHEST_VALUES" "[I") (.int 2)) (.int (vHi 2))) (by decide +kernel))
      · exact va_eqt (hs (Cond.eq (.elem (.static "LibraryCirculation" "HIGHEST_VALUES" "[I") (.int 3)) (.int (vHi 3))) (by decide +kernel))
      · exact va_eqt (hs (Cond.eq (.elem (.static "LibraryCirculation" "HIGHEST_VALUES" "[I") (.int 4)) (.int (vHi 4))) (by decide +kernel))
      · exact va_eqt (hs (Cond.eq (.elem (.static "LibraryCirculation" "HIGHEST_VALUES" "[I") (.int 5)) (.int (vHi 5))) (by decide +kernel))
      · exact va_eqt (hs (Cond.eq (.elem (.static "LibraryCirculation" "HIGHEST_VALUES" "[I") (.int 6)) (.int (vHi 6))) (by decide +kernel))
      · exact va_eqt (hs (Cond.eq (.elem (.static "LibraryCirculation" "HIGHEST_VALUES" "[I") (.int 7)) (.int (vHi 7))) (by decide +kernel))) (fun a ha => Nat.not_le.mpr ha)
  exact ⟨t, va_Zref (hts _ mLS_HIGHEST_VALUES) (hts _ (wU_tbl mZ_RX4)) ht (fun a ha => Nat.not_le.mpr ha), hT⟩
theorem law_more {L i : Nat} (hL : L ≤ 2048) (hi : i ≤ L + 4) (h : ¬ nI L - 4 < nI i) : i + 4 ≤ L := by
  rw [Int32.lt_iff_toInt_lt, show (4 : Int32) = nI 4 from rfl, pk_sub_toInt (by omega) (by omega), nI_toInt (by omega)] at h
  omega
set_option maxHeartbeats 8000000 in
set_option maxRecDepth 100000 in
theorem law_loop {p : Program} {l : Launch} {e : Env} {s : State} {m : MethodId} {below : List Frame} {meth : Method} {c : Code} {b L : Nat} {xs : Nat → Int32} {D : va_G} {cI cS : ClassId} {tF tL tH : Nat} (K0 : LwC p m c s b L xs D cI cS tF tL tH) (hr : meth.sig.returnType = ret) (hlocks : meth.locks = false) {ad am : Nat → Nat} :
    ∀ (n i : Nat) (σ : Fs) (ρ : Ms) (H : Heap) (locs : List Loc) (ls : Array Slot), i ≤ L + 4 → L < i + n → RR (1500 * i) σ ρ → Ix D (fun q => s.heap.size ≤ q) s (fW ad cI cS σ ++ mW am cI ρ) H locs → lv_has ls 4 [(0, .ref b), (1, .ref (ad 0)), (2, .ref (am 0)), (3, .int (nI i))] → W p l e room_1 s m #[Value.ref b] below meth c H locs 600000 7302250 (lw_Z below #[Value.ref b] s) (F0 m 18 ls []) := by
  obtain ⟨Fc, hE, hX, hbl, hL⟩ := id K0
  obtain ⟨hx, hb, hml, hown, hts, hKN⟩ := id Fc
  have hbA : ¬ (fun q : Nat => s.heap.size ≤ q) b := Nat.not_le.mpr hbl
  intro n
  induction n with
  | zero =>
    intro i σ ρ H locs ls h1 h2 h Z hl
    refine lv_iload_n hx hb dL_law_18 rfl (lv_at hl 3 rfl) ?_
    refine lv_aload_n hx hb dL_law_19 rfl (lv_at hl 0 rfl) ?_
    refine va_slen hx hb hX hbl hbA Z.2.2 dL_law_20 ?_
    refine lv_iconst (v := (4 : Int32)) hx hb dL_law_21 (by decide) ?_
    refine lv_isub hx hb dL_law_22 ?_
    refine lv_icmp_gt (tgt := 1300) hx hb dL_law_23 (by decide) (fun _ => ?_) (fun c1 => absurd (law_more hL h1 c1) (by omega))
    refine lv_iconst (v := (1 : Int32)) hx hb dL_law_1300 (by decide) ?_
    refine va_forget (fun q hq => Z.2.2.2.2 q hq) ?_
    exact lw_ret hx hb hr hlocks dL_law_1301
  | succ n ih =>
    intro i σ ρ H locs ls h1 h2 h Z hl
    refine lv_iload_n hx hb dL_law_18 rfl (lv_at hl 3 rfl) ?_
    refine lv_aload_n hx hb dL_law_19 rfl (lv_at hl 0 rfl) ?_
    refine va_slen hx hb hX hbl hbA Z.2.2 dL_law_20 ?_
    refine lv_iconst (v := (4 : Int32)) hx hb dL_law_21 (by decide) ?_
    refine lv_isub hx hb dL_law_22 ?_
    refine lv_icmp_gt (tgt := 1300) hx hb dL_law_23 (by decide) (fun _ => ?_) (fun c1 => ?_)
    · refine lv_iconst (v := (1 : Int32)) hx hb dL_law_1300 (by decide) ?_
      refine va_forget (fun q hq => Z.2.2.2.2 q hq) ?_
      exact lw_ret hx hb hr hlocks dL_law_1301
    · have hi := law_more hL h1 c1
      have next : ∀ (σ : Fs) (ρ : Ms) (H : Heap) (locs : List Loc), RR (1500 * i + 6000) σ ρ → Ix D (fun q => s.heap.size ≤ q) s (fW ad cI cS σ ++ mW am cI ρ) H locs → W p l e room_1 s m #[Value.ref b] below meth c H locs 600000 7302250 (lw_Z below #[Value.ref b] s) (F0 m 1294 ls []) := by
        intro σ ρ H locs h Z
        refine lv_iinc (v := nI (i + 4)) (lv' := [(3, .int (nI (i + 4))), (0, .ref b), (1, .ref (ad 0)), (2, .ref (am 0))]) hx hb dL_law_1294 hl (k := 3) rfl (nI_add i 4) (by decide) rfl (fun ls hl => ?_)
        refine lv_goto (tgt := 18) hx hb dL_law_1297 (by decide) ?_
        exact ih (i + 4) σ ρ _ _ _ (by omega) (by omega) (by rw [Nat.mul_add]; exact h) Z (lv_sub hl [1, 2, 3, 0] rfl)
      refine lv_aload_n hx hb dL_law_26 rfl (lv_at hl 0 rfl) ?_
      refine lv_iload_n hx hb dL_law_27 rfl (lv_at hl 3 rfl) ?_
      refine va_sld hx hb hX hbl hbA Z.2.2 (vp_in_nI (by omega) (by omega)) dL_law_28 ?_
      refine lv_bipush (v := (63 : Int32)) hx hb dL_law_29 (by decide) ?_
      refine lv_iand hx hb dL_law_31 ?_
      refine lv_topi (fun x ex => ?_)
      clear ex
      rcases Decidable.em (x = (0 : Int32)) with c10 | c10
      · refine lv_tableIn (off := 176) (tgt := 208) hx hb dL_law_32 (by rw [c10]; decide) (by rw [c10]; decide) (by rw [c10]; decide) (by decide) ?_
        exact law_c0 K0 hi h Z hl next
      rcases Decidable.em (x = (1 : Int32)) with c11 | c11
      · refine lv_tableIn (off := 209) (tgt := 241) hx hb dL_law_32 (by rw [c11]; decide) (by rw [c11]; decide) (by rw [c11]; decide) (by decide) ?_
        exact law_c1 K0 hi h Z hl next
      rcases Decidable.em (x = (2 : Int32)) with c12 | c12
      · refine lv_tableIn (off := 222) (tgt := 254) hx hb dL_law_32 (by rw [c12]; decide) (by rw [c12]; decide) (by rw [c12]; decide) (by decide) ?_
        exact law_c2 K0 hi h Z hl next
      rcases Decidable.em (x = (3 : Int32)) with c13 | c13
      · refine lv_tableIn (off := 255) (tgt := 287) hx hb dL_law_32 (by rw [c13]; decide) (by rw [c13]; decide) (by rw [c13]; decide) (by decide) ?_
        exact law_c3 K0 hi h Z hl next
      rcases Decidable.em (x = (4 : Int32)) with c14 | c14
      · refine lv_tableIn (off := 278) (tgt := 310) hx hb dL_law_32 (by rw [c14]; decide) (by rw [c14]; decide) (by rw [c14]; decide) (by decide) ?_
        exact law_c4 K0 hi h Z hl next
      rcases Decidable.em (x = (5 : Int32)) with c15 | c15
      · refine lv_tableIn (off := 327) (tgt := 359) hx hb dL_law_32 (by rw [c15]; decide) (by rw [c15]; decide) (by rw [c15]; decide) (by decide) ?_
        exact law_c5 K0 hi h Z hl next
      rcases Decidable.em (x = (6 : Int32)) with c16 | c16
      · refine lv_tableIn (off := 350) (tgt := 382) hx hb dL_law_32 (by rw [c16]; decide) (by rw [c16]; decide) (by rw [c16]; decide) (by decide) ?_
        exact law_c6 K0 hi h Z hl next
      rcases Decidable.em (x = (7 : Int32)) with c17 | c17
      · refine lv_tableIn (off := 383) (tgt := 415) hx hb dL_law_32 (by rw [c17]; decide) (by rw [c17]; decide) (by rw [c17]; decide) (by decide) ?_
        exact law_c7 K0 hi h Z hl next
      rcases Decidable.em (x = (8 : Int32)) with c18 | c18
      · refine lv_tableIn (off := 396) (tgt := 428) hx hb dL_law_32 (by rw [c18]; decide) (by rw [c18]; decide) (by rw [c18]; decide) (by decide) ?_
        exact law_c8 K0 hi h Z hl next
      rcases Decidable.em (x = (9 : Int32)) with c19 | c19
      · refine lv_tableIn (off := 419) (tgt := 451) hx hb dL_law_32 (by rw [c19]; decide) (by rw [c19]; decide) (by rw [c19]; decide) (by decide) ?_
        exact law_c9 K0 hi h Z hl next
      rcases Decidable.em (x = (10 : Int32)) with c20 | c20
      · refine lv_tableIn (off := 452) (tgt := 484) hx hb dL_law_32 (by rw [c20]; decide) (by rw [c20]; decide) (by rw [c20]; decide) (by decide) ?_
        exact law_c10 K0 hi h Z hl next
      rcases Decidable.em (x = (11 : Int32)) with c21 | c21
      · refine lv_tableIn (off := 485) (tgt := 517) hx hb dL_law_32 (by rw [c21]; decide) (by rw [c21]; decide) (by rw [c21]; decide) (by decide) ?_
        exact law_c11 K0 hi h Z hl next
      rcases Decidable.em (x = (12 : Int32)) with c22 | c22
      · refine lv_tableIn (off := 508) (tgt := 540) hx hb dL_law_32 (by rw [c22]; decide) (by rw [c22]; decide) (by rw [c22]; decide) (by decide) ?_
        exact law_c12 K0 hi h Z hl next
      rcases Decidable.em (x = (13 : Int32)) with c23 | c23
      · refine lv_tableIn (off := 531) (tgt := 563) hx hb dL_law_32 (by rw [c23]; decide) (by rw [c23]; decide) (by rw [c23]; decide) (by decide) ?_
        exact law_c13 K0 hi h Z hl next
      rcases Decidable.em (x = (14 : Int32)) with c24 | c24
      · refine lv_tableIn (off := 554) (tgt := 586) hx hb dL_law_32 (by rw [c24]; decide) (by rw [c24]; decide) (by rw [c24]; decide) (by decide) ?_
        exact law_c14 K0 hi h Z hl next
      rcases Decidable.em (x = (15 : Int32)) with c25 | c25
      · refine lv_tableIn (off := 597) (tgt := 629) hx hb dL_law_32 (by rw [c25]; decide) (by rw [c25]; decide) (by rw [c25]; decide) (by decide) ?_
        exact law_c15 K0 hi h Z hl next
      rcases Decidable.em (x = (16 : Int32)) with c26 | c26
      · refine lv_tableIn (off := 630) (tgt := 662) hx hb dL_law_32 (by rw [c26]; decide) (by rw [c26]; decide) (by rw [c26]; decide) (by decide) ?_
        exact law_c16 K0 hi h Z hl next
      rcases Decidable.em (x = (17 : Int32)) with c27 | c27
      · refine lv_tableIn (off := 673) (tgt := 705) hx hb dL_law_32 (by rw [c27]; decide) (by rw [c27]; decide) (by rw [c27]; decide) (by decide) ?_
        exact law_c17 K0 hi h Z hl next
      rcases Decidable.em (x = (18 : Int32)) with c28 | c28
      · refine lv_tableIn (off := 696) (tgt := 728) hx hb dL_law_32 (by rw [c28]; decide) (by rw [c28]; decide) (by rw [c28]; decide) (by decide) ?_
        exact law_c18 K0 hi h Z hl next
      rcases Decidable.em (x = (19 : Int32)) with c29 | c29
      · refine lv_tableIn (off := 719) (tgt := 751) hx hb dL_law_32 (by rw [c29]; decide) (by rw [c29]; decide) (by rw [c29]; decide) (by decide) ?_
        exact law_c19 K0 hi h Z hl next
      rcases Decidable.em (x = (20 : Int32)) with c30 | c30
      · refine lv_tableIn (off := 762) (tgt := 794) hx hb dL_law_32 (by rw [c30]; decide) (by rw [c30]; decide) (by rw [c30]; decide) (by decide) ?_
        exact law_c20 K0 hi h Z hl next
      rcases Decidable.em (x = (21 : Int32)) with c31 | c31
      · refine lv_tableIn (off := 795) (tgt := 827) hx hb dL_law_32 (by rw [c31]; decide) (by rw [c31]; decide) (by rw [c31]; decide) (by decide) ?_
        exact law_c21 K0 hi h Z hl next
      rcases Decidable.em (x = (22 : Int32)) with c32 | c32
      · refine lv_tableIn (off := 828) (tgt := 860) hx hb dL_law_32 (by rw [c32]; decide) (by rw [c32]; decide) (by rw [c32]; decide) (by decide) ?_
        exact law_c22 K0 hi h Z hl next
      rcases Decidable.em (x = (23 : Int32)) with c33 | c33
      · refine lv_tableIn (off := 841) (tgt := 873) hx hb dL_law_32 (by rw [c33]; decide) (by rw [c33]; decide) (by rw [c33]; decide) (by decide) ?_
        exact law_c23 K0 hi h Z hl next
      rcases Decidable.em (x = (24 : Int32)) with c34 | c34
      · refine lv_tableIn (off := 864) (tgt := 896) hx hb dL_law_32 (by rw [c34]; decide) (by rw [c34]; decide) (by rw [c34]; decide) (by decide) ?_
        exact law_c24 K0 hi h Z hl next
      rcases Decidable.em (x = (25 : Int32)) with c35 | c35
      · refine lv_tableIn (off := 887) (tgt := 919) hx hb dL_law_32 (by rw [c35]; decide) (by rw [c35]; decide) (by rw [c35]; decide) (by decide) ?_
        exact law_c25 K0 hi h Z hl next
      rcases Decidable.em (x = (26 : Int32)) with c36 | c36
      · refine lv_tableIn (off := 920) (tgt := 952) hx hb dL_law_32 (by rw [c36]; decide) (by rw [c36]; decide) (by rw [c36]; decide) (by decide) ?_
        exact law_c26 K0 hi h Z hl next
      rcases Decidable.em (x = (27 : Int32)) with c37 | c37
      · refine lv_tableIn (off := 953) (tgt := 985) hx hb dL_law_32 (by rw [c37]; decide) (by rw [c37]; decide) (by rw [c37]; decide) (by decide) ?_
        exact law_c27 K0 hi h Z hl next
      rcases Decidable.em (x = (28 : Int32)) with c38 | c38
      · refine lv_tableIn (off := 976) (tgt := 1008) hx hb dL_law_32 (by rw [c38]; decide) (by rw [c38]; decide) (by rw [c38]; decide) (by decide) ?_
        exact law_c28 K0 hi h Z hl next
      rcases Decidable.em (x = (29 : Int32)) with c39 | c39
      · refine lv_tableIn (off := 1009) (tgt := 1041) hx hb dL_law_32 (by rw [c39]; decide) (by rw [c39]; decide) (by rw [c39]; decide) (by decide) ?_
        exact law_c29 K0 hi h Z hl next
      rcases Decidable.em (x = (30 : Int32)) with c40 | c40
      · refine lv_tableIn (off := 1042) (tgt := 1074) hx hb dL_law_32 (by rw [c40]; decide) (by rw [c40]; decide) (by rw [c40]; decide) (by decide) ?_
        exact law_c30 K0 hi h Z hl next
      rcases Decidable.em (x = (31 : Int32)) with c41 | c41
      · refine lv_tableIn (off := 1055) (tgt := 1087) hx hb dL_law_32 (by rw [c41]; decide) (by rw [c41]; decide) (by rw [c41]; decide) (by decide) ?_
        exact law_c31 K0 hi h Z hl next
      rcases Decidable.em (x = (32 : Int32)) with c42 | c42
      · refine lv_tableIn (off := 1088) (tgt := 1120) hx hb dL_law_32 (by rw [c42]; decide) (by rw [c42]; decide) (by rw [c42]; decide) (by decide) ?_
        exact law_c32 K0 hi h Z hl next
      rcases Decidable.em (x = (33 : Int32)) with c43 | c43
      · refine lv_tableIn (off := 1121) (tgt := 1153) hx hb dL_law_32 (by rw [c43]; decide) (by rw [c43]; decide) (by rw [c43]; decide) (by decide) ?_
        exact law_c33 K0 hi h Z hl next
      rcases Decidable.em (x = (34 : Int32)) with c44 | c44
      · refine lv_tableIn (off := 1154) (tgt := 1186) hx hb dL_law_32 (by rw [c44]; decide) (by rw [c44]; decide) (by rw [c44]; decide) (by decide) ?_
        exact law_c34 K0 hi h Z hl next
      rcases Decidable.em (x = (35 : Int32)) with c45 | c45
      · refine lv_tableIn (off := 1187) (tgt := 1219) hx hb dL_law_32 (by rw [c45]; decide) (by rw [c45]; decide) (by rw [c45]; decide) (by decide) ?_
        exact law_c35 K0 hi h Z hl next
      rcases Decidable.em (x = (36 : Int32)) with c46 | c46
      · refine lv_tableIn (off := 1210) (tgt := 1242) hx hb dL_law_32 (by rw [c46]; decide) (by rw [c46]; decide) (by rw [c46]; decide) (by decide) ?_
        exact law_c36 K0 hi h Z hl next
      rcases Decidable.em (x = (37 : Int32)) with c47 | c47
      · refine lv_tableIn (off := 1223) (tgt := 1255) hx hb dL_law_32 (by rw [c47]; decide) (by rw [c47]; decide) (by rw [c47]; decide) (by decide) ?_
        exact law_c37 K0 hi h Z hl next
      rcases Decidable.em (x = (38 : Int32)) with c48 | c48
      · refine lv_tableIn (off := 1236) (tgt := 1268) hx hb dL_law_32 (by rw [c48]; decide) (by rw [c48]; decide) (by rw [c48]; decide) (by decide) ?_
        exact law_c38 K0 hi h Z hl next
      rcases Decidable.em (x = (39 : Int32)) with c49 | c49
      · refine lv_tableIn (off := 1249) (tgt := 1281) hx hb dL_law_32 (by rw [c49]; decide) (by rw [c49]; decide) (by rw [c49]; decide) (by decide) ?_
        exact law_c39 K0 hi h Z hl next
      refine kdflt (tgt := 1294) hx hb dL_law_32 [(0 : Int32), (1 : Int32), (2 : Int32), (3 : Int32), (4 : Int32), (5 : Int32), (6 : Int32), (7 : Int32), (8 : Int32), (9 : Int32), (10 : Int32), (11 : Int32), (12 : Int32), (13 : Int32), (14 : Int32), (15 : Int32), (16 : Int32), (17 : Int32), (18 : Int32), (19 : Int32), (20 : Int32), (21 : Int32), (22 : Int32), (23 : Int32), (24 : Int32), (25 : Int32), (26 : Int32), (27 : Int32), (28 : Int32), (29 : Int32), (30 : Int32), (31 : Int32), (32 : Int32), (33 : Int32), (34 : Int32), (35 : Int32), (36 : Int32), (37 : Int32), (38 : Int32), (39 : Int32)] (by decide) (by intro v hv; simp only [List.mem_cons, List.not_mem_nil, or_false] at hv; rcases hv with rfl | rfl | rfl | rfl | rfl | rfl | rfl | rfl | rfl | rfl | rfl | rfl | rfl | rfl | rfl | rfl | rfl | rfl | rfl | rfl | rfl | rfl | rfl | rfl | rfl | rfl | rfl | rfl | rfl | rfl | rfl | rfl | rfl | rfl | rfl | rfl | rfl | rfl | rfl | rfl <;> assumption) (by decide) ?_
      exact next σ ρ _ _ (h.mono (by omega)) Z
set_option maxHeartbeats 8000000 in
set_option maxRecDepth 100000 in
theorem whole_start {p : Program} {e : Env} {s : State} {m : MethodId} {below : List Frame} {meth : Method} {c : Code} (l : Launch) (hflags : l.flags = flags0) {b L : Nat} {xs : Nat → Int32} (hL : L ≤ 2048) (C0 : lw_At p s m meth c b L xs) : W p l e room_1 s m #[Value.ref b] below meth c s.heap [] 0 0 (lw_Z below #[Value.ref b] s) (entryFrame m ([Value.ref b] : List Value).toArray 4) := by
  obtain ⟨hx, hb, hr, hml, hown, hts, hX, hbl, hlocks, hgv⟩ := id C0
  have hA : ∀ q : Nat, s.heap.size ≤ q → (fun q : Nat => s.heap.size ≤ q) q := fun _ h => h
  have htsU : ∀ w ∈ wU, w.before #[Value.ref b] s = true := fun w hw => hts w (wU_tbl hw)
  obtain ⟨c0, iS0, hKn0⟩ := u_known (C := RX0) (T := TX0) (N := 4) (n := 4) htsU inX0 (htsU _ mB_RX0)
  obtain ⟨c1, iS1, hKn1⟩ := u_known (C := RX1) (T := TX1) (N := 3) (n := 3) htsU inX1 (htsU _ mB_RX1)
  obtain ⟨c2, iS2, hKn2⟩ := u_known (C := RX2) (T := TX2) (N := 6) (n := 6) htsU inX2 (htsU _ mB_RX2)
  obtain ⟨c3, iS3, hKn3⟩ := u_known (C := RX3) (T := TX3) (N := 4) (n := 4) htsU inX3 (htsU _ mB_RX3)
  obtain ⟨c4, iS4, hKn4⟩ := u_known (C := RX4) (T := TX4) (N := 6) (n := 6) htsU inX4 (htsU _ mB_RX4)
  obtain ⟨c5, iS5, hKn5⟩ := u_known (C := RX5) (T := TX5) (N := 11) (n := 11) htsU inX5 (htsU _ mB_RX5)
  obtain ⟨cI, kI, compI, fI1, fI2, fI3⟩ := Cond.arrayClass_spec (htsU _ mAC)
  obtain ⟨compS, cS, kS, fS1, fS2, fS3, fS4, fS5⟩ := Cond.arrayOver_spec (hts _ mAO)
  obtain ⟨D, hKc⟩ : ∃ (D : va_G), ∀ (k : Nat) (q : vw_C), vwCl[k]? = some q → u_Kn s q.1 q.2.1 q.2.2 (D.1 k) (D.2 k) := by
    refine ⟨(fun k => match k with | 0 => c0 | 1 => c1 | 2 => c2 | 3 => c3 | 4 => c4 | _ => c5, fun k => match k with | 0 => iS0 | 1 => iS1 | 2 => iS2 | 3 => iS3 | 4 => iS4 | _ => iS5), ?_⟩
    intro k q hq
    match k, hq with
    | 0, hq => cases hq; exact hKn0
    | 1, hq => cases hq; exact hKn1
    | 2, hq => cases hq; exact hKn2
    | 3, hq => cases hq; exact hKn3
    | 4, hq => cases hq; exact hKn4
    | 5, hq => cases hq; exact hKn5
    | k + 6, hq => simp [vwCl] at hq
  have hKN : KN D cI cS s := by
    refine ⟨⟨hKc, fun k q hq => ?_⟩, fun w hw => ?_⟩
    · match k, hq with
      | 0, hq => cases hq; exact ⟨fun N z => ⟨(fun k h => by cases h), kI, fI2, compI, fI3⟩, fI1⟩
      | 1, hq => cases hq; exact ⟨fun N z => ⟨(fun k h => by cases h), kS, fS3, compS, fS4⟩, kS, compS, fS3, fS4, fS1, fS5⟩
      | k + 2, hq => simp [cyT] at hq
    · simp only [nws, List.mem_cons, List.not_mem_nil, or_false] at hw
      rcases hw with rfl | rfl | rfl | rfl | rfl | rfl | rfl | rfl
      · exact va_Nw.of rfl (hts _ mFN_RX2_29)
      · exact va_Nw.of rfl (hts _ mFN_RX4_47)
      · exact va_Nw.of rfl (hts _ mFN_RX4_69)
      · exact va_Nw.of rfl (hts _ mFN_RX4_192)
      · exact va_Nw.of rfl (hts _ mFN_RX4_244)
      · exact va_Nw.of rfl (hts _ mFN_RX4_72)
      · exact va_Nw.of rfl (hts _ mFN_RX4_98)
      · exact va_Nw.of rfl (hts _ mLN_RX4_35)
  obtain ⟨tF, hZF⟩ := zF hts hgv
  obtain ⟨tL, hZL⟩ := zL hts hgv
  obtain ⟨tH, hZH⟩ := zH hts hgv
  have hE : ZS tF tL tH (fun q => s.heap.size ≤ q) s := ⟨hZF, hZL, hZH, hts _ mAO⟩
  have Fc : Fx p m c 4 s #[Value.ref b] RL cL_law D cI cS := ⟨hx, hb, hml, hown, htsU, hKN⟩
  have Z : Ix D (fun q => s.heap.size ≤ q) s [] s.heap [] := ⟨fun k q h => by simp at h, ⟨fun i j p q h => by simp at h, fun k q h => by simp at h⟩, va_S.rf⟩
  have hl := lv_entry ([.ref b]) (n := 4) (Nat.le_of_ble_eq_true rfl)
  rw [lg_entry_eq]
  generalize (lg_sl ([.ref b]) ++ List.replicate (4 - (lg_sl ([.ref b])).length) Slot.unset).toArray = ls at hl ⊢
  replace hl : lv_has ls 4 [(0, .ref b)] := hl
  refine knew (fs := [.null, .null, .null, .int 0, .null, .null]) Fc hA Z inX4 tyX4 tyX4_ok mN_RL_7 mB_RX4 mZ_RX4 (ci := 4) rfl (fun j hj => by rcases (show j = 0 ∨ j = 1 ∨ j = 2 ∨ j = 3 ∨ j = 4 ∨ j = 5 by omega) with rfl | rfl | rfl | rfl | rfl | rfl <;> rfl) (Nat.le_of_ble_eq_true rfl) (Nat.le_of_ble_eq_true rfl) dL_law_0 (fun x H Z => ?_)
  refine lv_dup hx hb dL_law_3 rfl ?_
  refine kci (As := []) (wr := []) (w0 := [(x, .inr (4, [.null, .null, .null, .int 0, .null, .null]))]) Fc hE hA Z (c_X4_init tF tL tH l D cI cS x) mZ_RX4 mL_RL_9 mI_X4_init mC_X4_init rfl rfl rfl (by decide +kernel) ⟨Nat.le_of_ble_eq_true rfl, Nat.le_of_ble_eq_true rfl⟩ ⟨Nat.le_of_ble_eq_true rfl, Nat.le_of_ble_eq_true rfl⟩ rfl hl (Nat.le_of_ble_eq_true rfl) dL_law_4 rfl (fun ad H locs had Z => ?_)
  refine lv_astore_n (lv' := [(1, .ref x), (0, .ref b)]) hx hb dL_law_7 rfl hl (by decide) rfl (fun ls hl => ?_)
  refine knew (fs := [.null, .null, .null, .null, .int 0, .int 0, .null, .null, .int 0, .int 0, .int 0]) Fc hA Z inX5 tyX5 tyX5_ok mN_RL_10 mB_RX5 mZ_RX5 (ci := 5) rfl (fun j hj => by rcases (show j = 0 ∨ j = 1 ∨ j = 2 ∨ j = 3 ∨ j = 4 ∨ j = 5 ∨ j = 6 ∨ j = 7 ∨ j = 8 ∨ j = 9 ∨ j = 10 by omega) with rfl | rfl | rfl | rfl | rfl | rfl | rfl | rfl | rfl | rfl | rfl <;> rfl) (Nat.le_of_ble_eq_true rfl) (Nat.le_of_ble_eq_true rfl) dL_law_8 (fun y H Z => ?_)
  refine lv_dup hx hb dL_law_11 rfl ?_
  refine kci (As := []) (wr := fW ad cI cS fs0) (w0 := [(y, .inr (5, [.null, .null, .null, .null, .int 0, .int 0, .null, .null, .int 0, .int 0, .int 0]))]) Fc hE hA Z (c_X5_init tF tL tH l D cI cS y) mZ_RX5 mL_RL_12 mI_X5_init mC_X5_init rfl rfl rfl (by decide +kernel) ⟨Nat.le_of_ble_eq_true rfl, Nat.le_of_ble_eq_true rfl⟩ ⟨Nat.le_of_ble_eq_true rfl, Nat.le_of_ble_eq_true rfl⟩ rfl hl (Nat.le_of_ble_eq_true rfl) dL_law_12 rfl (fun am H locs ham Z => ?_)
  refine lv_astore_n (lv' := [(2, .ref y), (1, .ref x), (0, .ref b)]) hx hb dL_law_15 rfl hl (by decide) rfl (fun ls hl => ?_)
  refine lv_iconst (v := nI 0) hx hb dL_law_16 (by decide) ?_
  refine lv_istore_n (lv' := [(3, .int (nI 0)), (2, .ref y), (1, .ref x), (0, .ref b)]) hx hb dL_law_17 rfl hl (by decide) rfl (fun ls hl => ?_)
  rw [← had, ← ham] at hl
  refine W.widen (k := 600000) (n := 7302250) (Nat.le_of_ble_eq_true rfl) (Nat.le_of_ble_eq_true rfl) ?_
  exact law_loop ⟨Fc, hE, hX, hbl, hL⟩ hr hlocks (L + 1) 0 fs0 ms0 _ _ _ (by omega) (by omega) sim_start Z (lv_sub hl [3, 2, 1, 0] rfl)
set_option maxHeartbeats 4000000 in
theorem lw_walk (l : Launch) (hflags : l.flags = flags0) (b : Addr) (xs : List Int32) : MetFree l x (headSpec (Jvm.Cond.code x code maxLocals ret :: tables_1) room_1) (lw_P b xs) (fun _ _ _ _ _ => True) lw_Q := by
  refine MetFree.of_bodyS (code := code) (maxLocals := maxLocals) (ret := ret) (by decide) ?_ ?_
  · intro args s m h hn
    obtain ⟨meth, c, h1, h2, h3, h4, h5, h6, -, -⟩ := Cond.code_spec hn (atoms_spec (ws := Jvm.Cond.code x code maxLocals ret :: tables_1) h _ List.mem_cons_self)
    exact ⟨meth, c, h1, h2, h3, h4, h5, h6⟩
  · intro p e s m args below meth c s₁ B hml0 hP _
    obtain ⟨rfl, hx, hbd, hgv⟩ := hP
    obtain ⟨scr, harrAt, hlist, hof, hsmall⟩ := hx
    obtain ⟨hcb, hkn, -, -⟩ := State.arrayAt?_spec harrAt
    have hown : s.vm.findClass R_law = some m.cls := findClass_of_methodNamed B.named
    have hts0 : ∀ c ∈ (Jvm.Cond.code x code maxLocals ret :: tables_1), c.before #[Value.ref b] s = true := atoms_spec (ws := Jvm.Cond.code x code maxLocals ret :: tables_1) B.pre
    have hts : ∀ w ∈ lw_tbl, w.before #[Value.ref b] s = true := k2_hts_sels lw_privs (fun w hw => hts0 w (List.mem_cons_of_mem _ hw)) lw_privs_ok
    have hml : c.maxLocals = 4 := B.maxLocals_eq (hts0 _ List.mem_cons_self)
    have X₀ : Stand p l e room_1 s m #[Value.ref b] below meth c s₁ [] 0 0 := Stand.of_body B
    have hh0 : s₁.heap = s.heap := by rw [B.state]; rfl
    have hsz : scr.slots.size = xs.length := by rw [← Array.length_toList, hlist, List.length_map]
    have hval : ∀ j : Nat, j < xs.length → scr.slots[j]? = some (.int (xs.getD j 0)) := fun j hj => by
      rw [← Array.getElem?_toList, hlist]
      simp [hj]
    have hbl : b < s.heap.size := (Array.getElem?_eq_some_iff.mp hcb).1
    have hX : va_X b xs.length (fun j => xs.getD j 0) s s.heap := ⟨scr, hcb, hof, hkn, hsz, hval⟩
    have K : W p l e room_1 s m #[Value.ref b] below meth c s₁.heap [] 0 0 (lw_Z below #[Value.ref b] s) (entryFrame m ([Value.ref b] : List Value).toArray 4) := by
      rw [hh0]
      exact whole_start l hflags hbd ⟨B.exec, B.bytes, B.returns, hml, hown, hts, hX, hbl, B.notSynchronized, hgv⟩
    obtain ⟨t, a1, o, b1, b2, b3⟩ := K s₁ rfl X₀
    exact ⟨t, o, a1, b1, b2, b3⟩
theorem lw_pre_spec {args : Array Value} {s : State} (h : (Jvm.Cond.and given_1 narrow_1).before args s = true) (hr : rest_1_c.before args s = true) : ∃ (b : Addr) (xs : List Int32), lw_P b xs args s := by
  have hs := flat_of_before _ h
  have hq := flat_of_before _ hr
  have hc : (Cond.count 1).before args s = true := hs _ (by decide +kernel)
  have harr : (Cond.arrayOf (.arg 0) .int).before args s = true := hs _ (by decide +kernel)
  have hle : (Cond.le (.length (.arg 0)) (.int 2048)).before args s = true := hs _ (by decide +kernel)
  have hlen : (Cond.isInt (.length (.arg 0))).before args s = true := hq _ (by decide +kernel)
  have hall : (Cond.all (.arg 0) (.isInt (.elem (.arg 0) (.index 0)))).before args s = true := hq _ (by decide +kernel)
  obtain ⟨b, xs, hb, hx⟩ := State.ints_of_pre rfl harr hlen hall
  have hsm : xs.length < 2 ^ 31 := hx.choose_spec.2.2.2
  have hev : (Term.length (.arg 0)).eval args s none [] s = some (.int xs.length.toInt32) := hx.length_eval hb
  have hv := Cond.le_ints hev (show (Term.int 2048).eval args s none [] s = some (.int 2048) from rfl)
  have hd : xs.length.toInt32 ≤ 2048 := by
    simpa [Cond.before, Cond.holds, hv] using hle
  have hN : xs.length ≤ 2048 := (Int32.ofNat_le_ofNat hsm (by decide)).mp (show Int32.ofNat xs.length ≤ Int32.ofNat 2048 from hd)
  exact ⟨b, xs, Cond.one_arg hc (show args[0]? = some (.ref b) from hb), hx, hN, h⟩
theorem lw_comes (l : Launch) (hflags : l.flags = flags0) : Comes l x (Jvm.Cond.code x code maxLocals ret :: tables_1) room_1 (fun tb e args s => Calls_1 tb e args s ∧ rest_1 tb e args s ∧ Pre_1 tb e args s)
    (fun _ _ args s o t => lw_Q args s o t) := by
  intro p e ha hc hk s m args below hf hfit hheap happ hpre
  obtain ⟨b, xs, hP⟩ := lw_pre_spec hpre.2.2 hpre.2.1
  obtain ⟨k, o, h1, h2, h3, hQ⟩ := lw_walk l hflags b xs p e ha hc hk s m args below hf ((Spec.applies_iff_loose hf).mp happ).1 hP trivial
  exact ⟨k, o, h1, h2, h3, hQ⟩
theorem lw_frame {s t : State} {o : Outcome} {args : Array Value} (h : Framed s o t [] 600000 7302250) :
    Framed s o t (fieldLocs frame_1_writes args s ++ arrayLocs frame_1_arrays args s ++ staticLocs frame_1_statics s) 600000 7302250 := h
theorem lw_limb (L : Cond) (hL : ∀ (args : Array Value) (s t : State), L.after args s (.returned (some (.int 1))) t = true) :
    ArmFor flags0 classFile x code maxLocals ret World_1 tables_1 room_1 Calls_1 rest_1 Pre_1
      (fun tb e a s o t => postC L tb e a s o t ∧ Framed s o t (fieldLocs frame_1_writes a s ++ arrayLocs frame_1_arrays a s ++ staticLocs frame_1_statics s) 600000 7302250) := by
  intro l hflags _ _ p e ha hc hk s m args below hf hfit hheap happ hpre
  obtain ⟨k, o, h1, h2, h3, rfl, hF⟩ := lw_comes l hflags p e ha hc hk s m args below hf hfit hheap happ hpre
  exact ⟨k, _, h1, h2, h3, hL args s _, lw_frame hF⟩
theorem i_vc : Claimed_1_1 ∧ Claimed_1_2 := ⟨lw_limb limb_1_1 (fun args s t => by simp [limb_1_1, Cond.after, Cond.holds, Cond.value]), lw_limb limb_1_2 (fun args s t => Cond.after_iff.mpr (by
  first | (rw [show limb_1_2 = Cond.eq .result (.int 1) from rfl, Cond.eq_ints (x := 1) (y := 1) rfl rfl]; simp; done) | (simp [limb_1_2, Cond.value, Term.eval]; done)))⟩

