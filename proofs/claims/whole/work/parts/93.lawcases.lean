/-! THE LAW, CASE BY CASE -/
theorem la2 (i : Nat) : nI i + 2 = nI (i + 2) := nI_add i 2
theorem la3 (i : Nat) : nI i + 3 = nI (i + 3) := nI_add i 3
section LL
variable {D : va_G} {A : Nat → Prop} {s : State} {ad am : Nat → Nat} {cI cS : ClassId} {σ : Fs} {ρ : Ms} {M : va_W}
theorem Lens.lc : Lens D A s (fW ad cI cS σ ++ M) (cW ad cI σ.2.1) σ.1 (fun τ => fW ad cI cS (τ, σ.2) ++ M) := by
  have e : ∀ τ, fW ad cI cS (τ, σ.2) ++ M = cW ad cI σ.2.1 τ ++ (rW ad cI cS σ.2 ++ M) := fun τ => List.append_assoc _ _ _
  refine ⟨rW ad cI cS σ.2 ++ M, fun H locs Z => ?_, fun H locs Z => ?_, fun u H locs Z => ?_⟩
  · rw [← e]; exact Z
  · rw [← e] at Z; exact Z
  · show Ix D A s (fW ad cI cS (u, σ.2) ++ M) H locs
    rw [e]; exact Z
theorem Lens.lm : Lens D A s (fW ad cI cS σ ++ mW am cI ρ) (mW am cI) ρ (fun u => fW ad cI cS σ ++ mW am cI u) :=
  Lens.perm (fW ad cI cS σ) List.perm_append_comm (fun u => List.perm_append_comm)
end LL
/-- what every case of the law stands on -/
def LwC (p : Program) (m : MethodId) (c : Code) (s : State) (b L : Nat) (xs : Nat → Int32) (D : va_G) (cI cS : ClassId) (tF tL tH : Nat) : Prop :=
  Fx p m c 4 s #[Value.ref b] RL cL_law D cI cS ∧ ZS tF tL tH (fun q => s.heap.size ≤ q) s ∧ va_X b L xs s s.heap ∧ b < s.heap.size ∧ L ≤ 2048
set_option maxHeartbeats 4000000 in
set_option maxRecDepth 100000 in
theorem law_c0 {p : Program} {l : Launch} {e : Env} {s : State} {m : MethodId} {below : List Frame} {meth : Method} {c : Code} {b L : Nat} {xs : Nat → Int32} {D : va_G} {cI cS : ClassId} {tF tL tH : Nat} {Q : State → Prop} (K0 : LwC p m c s b L xs D cI cS tF tL tH) {ad am : Nat → Nat} {i : Nat} (hi : i + 4 ≤ L) {σ : Fs} {ρ : Ms} (h : RR (1500 * i) σ ρ) {H : Heap} {locs : List Loc} {ls : Array Slot} (Z : Ix D (fun q => s.heap.size ≤ q) s (fW ad cI cS σ ++ mW am cI ρ) H locs) (hl : lv_has ls 4 [(0, .ref b), (1, .ref (ad 0)), (2, .ref (am 0)), (3, .int (nI i))]) (next : ∀ (σ : Fs) (ρ : Ms) (H : Heap) (locs : List Loc), RR (1500 * i + 6000) σ ρ → Ix D (fun q => s.heap.size ≤ q) s (fW ad cI cS σ ++ mW am cI ρ) H locs → W p l e room_1 s m #[Value.ref b] below meth c H locs 600000 7302250 Q (F0 m 1294 ls [])) : W p l e room_1 s m #[Value.ref b] below meth c H locs 600000 7302250 Q (F0 m 208 ls []) := by
  obtain ⟨Fc, hE, hX, hbl, hL⟩ := K0
  obtain ⟨hx, hb, hml, hown, hts, hKN⟩ := id Fc
  have hA : ∀ q : Nat, s.heap.size ≤ q → (fun q : Nat => s.heap.size ≤ q) q := fun _ h => h
  have hbA : ¬ (fun q : Nat => s.heap.size ≤ q) b := Nat.not_le.mpr hbl
  obtain ⟨r, σ', ρ', h1, h2, h3⟩ := sim_addCopy (by omega) h (xs (i + 1)) (xs (i + 2))
  refine lv_aload_n hx hb dL_law_208 rfl (lv_at hl 1 rfl) ?_
  refine lv_aload_n hx hb dL_law_209 rfl (lv_at hl 0 rfl) ?_
  refine lv_iload_n hx hb dL_law_210 rfl (lv_at hl 3 rfl) ?_
  refine lv_iconst (v := (1 : Int32)) hx hb dL_law_211 (by decide) ?_
  refine lv_iadd hx hb dL_law_212 ?_
  rw [nI_1]
  refine va_sld hx hb hX hbl hbA Z.2.2 (vp_in_nI (by omega) (by omega)) dL_law_213 ?_
  rw [nI_clamp (by omega)]
  refine lv_aload_n hx hb dL_law_214 rfl (lv_at hl 0 rfl) ?_
  refine lv_iload_n hx hb dL_law_215 rfl (lv_at hl 3 rfl) ?_
  refine lv_iconst (v := (2 : Int32)) hx hb dL_law_216 (by decide) ?_
  refine lv_iadd hx hb dL_law_217 ?_
  rw [la2]
  refine va_sld hx hb hX hbl hbA Z.2.2 (vp_in_nI (by omega) (by omega)) dL_law_218 ?_
  rw [nI_clamp (by omega)]
  refine km_i (q := (r, σ')) (As := [.int (xs (i + 1)), .int (xs (i + 2))]) (ok := OKF) Fc hA Z (Lens.tail (mW am cI ρ)) (c_X4_addCopy l D cI cS ad σ h.1 (xs (i + 1)) (xs (i + 2)) (r, σ') h1) mL_RL_13 v_X4_addCopy ⟨rfl, rfl⟩ ⟨Nat.le_of_ble_eq_true rfl, Nat.le_of_ble_eq_true rfl⟩ ⟨Nat.le_of_ble_eq_true rfl, Nat.le_of_ble_eq_true rfl⟩ 0 4 rfl rfl rfl hl (Nat.le_of_ble_eq_true rfl) dL_law_219 rfl (fun H locs ok1 Z => ?_)
  refine lv_aload_n hx hb dL_law_222 rfl (lv_at hl 2 rfl) ?_
  refine lv_aload_n hx hb dL_law_223 rfl (lv_at hl 0 rfl) ?_
  refine lv_iload_n hx hb dL_law_224 rfl (lv_at hl 3 rfl) ?_
  refine lv_iconst (v := (1 : Int32)) hx hb dL_law_225 (by decide) ?_
  refine lv_iadd hx hb dL_law_226 ?_
  rw [nI_1]
  refine va_sld hx hb hX hbl hbA Z.2.2 (vp_in_nI (by omega) (by omega)) dL_law_227 ?_
  rw [nI_clamp (by omega)]
  refine lv_aload_n hx hb dL_law_228 rfl (lv_at hl 0 rfl) ?_
  refine lv_iload_n hx hb dL_law_229 rfl (lv_at hl 3 rfl) ?_
  refine lv_iconst (v := (2 : Int32)) hx hb dL_law_230 (by decide) ?_
  refine lv_iadd hx hb dL_law_231 ?_
  rw [la2]
  refine va_sld hx hb hX hbl hbA Z.2.2 (vp_in_nI (by omega) (by omega)) dL_law_232 ?_
  rw [nI_clamp (by omega)]
  refine km_i (q := (r, ρ')) (As := [.int (xs (i + 1)), .int (xs (i + 2))]) (ok := fun _ => True) Fc hA Z Lens.lm (c_X5_addCopy l D cI cS am ρ (xs (i + 1)) (xs (i + 2)) (r, ρ') h2) mL_RL_17 v_X5_addCopy ⟨rfl, rfl⟩ ⟨Nat.le_of_ble_eq_true rfl, Nat.le_of_ble_eq_true rfl⟩ ⟨Nat.le_of_ble_eq_true rfl, Nat.le_of_ble_eq_true rfl⟩ 128 5 rfl rfl rfl hl (Nat.le_of_ble_eq_true rfl) dL_law_233 rfl (fun H locs _ Z => ?_)
  refine lv_icmp_eq (tgt := 1294) hx hb dL_law_236 (by decide) (fun _ => ?_) (fun c1 => absurd rfl c1)
  exact next σ' ρ' _ _ h3 Z
set_option maxHeartbeats 4000000 in
set_option maxRecDepth 100000 in
theorem law_c1 {p : Program} {l : Launch} {e : Env} {s : State} {m : MethodId} {below : List Frame} {meth : Method} {c : Code} {b L : Nat} {xs : Nat → Int32} {D : va_G} {cI cS : ClassId} {tF tL tH : Nat} {Q : State → Prop} (K0 : LwC p m c s b L xs D cI cS tF tL tH) {ad am : Nat → Nat} {i : Nat} (hi : i + 4 ≤ L) {σ : Fs} {ρ : Ms} (h : RR (1500 * i) σ ρ) {H : Heap} {locs : List Loc} {ls : Array Slot} (Z : Ix D (fun q => s.heap.size ≤ q) s (fW ad cI cS σ ++ mW am cI ρ) H locs) (hl : lv_has ls 4 [(0, .ref b), (1, .ref (ad 0)), (2, .ref (am 0)), (3, .int (nI i))]) (next : ∀ (σ : Fs) (ρ : Ms) (H : Heap) (locs : List Loc), RR (1500 * i + 6000) σ ρ → Ix D (fun q => s.heap.size ≤ q) s (fW ad cI cS σ ++ mW am cI ρ) H locs → W p l e room_1 s m #[Value.ref b] below meth c H locs 600000 7302250 Q (F0 m 1294 ls [])) : W p l e room_1 s m #[Value.ref b] below meth c H locs 600000 7302250 Q (F0 m 241 ls []) := by
  obtain ⟨Fc, hE, hX, hbl, hL⟩ := K0
  obtain ⟨hx, hb, hml, hown, hts, hKN⟩ := id Fc
  have hA : ∀ q : Nat, s.heap.size ≤ q → (fun q : Nat => s.heap.size ≤ q) q := fun _ h => h
  have hbA : ¬ (fun q : Nat => s.heap.size ≤ q) b := Nat.not_le.mpr hbl
  obtain ⟨r, σ', ρ', h1, h2, h3⟩ := sim_addPatron (by omega) h 
  refine lv_aload_n hx hb dL_law_241 rfl (lv_at hl 1 rfl) ?_
  refine km_i (q := (r, σ')) (As := []) (ok := OKF) Fc hA Z (Lens.tail (mW am cI ρ)) (c_X4_addPatron l D cI cS ad σ h.1  (r, σ') h1) mL_RL_18 v_X4_addPatron ⟨rfl, rfl⟩ ⟨Nat.le_of_ble_eq_true rfl, Nat.le_of_ble_eq_true rfl⟩ ⟨Nat.le_of_ble_eq_true rfl, Nat.le_of_ble_eq_true rfl⟩ 0 4 rfl rfl rfl hl (Nat.le_of_ble_eq_true rfl) dL_law_242 rfl (fun H locs ok1 Z => ?_)
  refine lv_aload_n hx hb dL_law_245 rfl (lv_at hl 2 rfl) ?_
  refine km_i (q := (r, ρ')) (As := []) (ok := fun _ => True) Fc hA Z Lens.lm (c_X5_addPatron l D cI cS am ρ  (r, ρ') h2) mL_RL_22 v_X5_addPatron ⟨rfl, rfl⟩ ⟨Nat.le_of_ble_eq_true rfl, Nat.le_of_ble_eq_true rfl⟩ ⟨Nat.le_of_ble_eq_true rfl, Nat.le_of_ble_eq_true rfl⟩ 128 5 rfl rfl rfl hl (Nat.le_of_ble_eq_true rfl) dL_law_246 rfl (fun H locs _ Z => ?_)
  refine lv_icmp_eq (tgt := 1294) hx hb dL_law_249 (by decide) (fun _ => ?_) (fun c1 => absurd rfl c1)
  exact next σ' ρ' _ _ h3 Z
set_option maxHeartbeats 4000000 in
set_option maxRecDepth 100000 in
theorem law_c2 {p : Program} {l : Launch} {e : Env} {s : State} {m : MethodId} {below : List Frame} {meth : Method} {c : Code} {b L : Nat} {xs : Nat → Int32} {D : va_G} {cI cS : ClassId} {tF tL tH : Nat} {Q : State → Prop} (K0 : LwC p m c s b L xs D cI cS tF tL tH) {ad am : Nat → Nat} {i : Nat} (hi : i + 4 ≤ L) {σ : Fs} {ρ : Ms} (h : RR (1500 * i) σ ρ) {H : Heap} {locs : List Loc} {ls : Array Slot} (Z : Ix D (fun q => s.heap.size ≤ q) s (fW ad cI cS σ ++ mW am cI ρ) H locs) (hl : lv_has ls 4 [(0, .ref b), (1, .ref (ad 0)), (2, .ref (am 0)), (3, .int (nI i))]) (next : ∀ (σ : Fs) (ρ : Ms) (H : Heap) (locs : List Loc), RR (1500 * i + 6000) σ ρ → Ix D (fun q => s.heap.size ≤ q) s (fW ad cI cS σ ++ mW am cI ρ) H locs → W p l e room_1 s m #[Value.ref b] below meth c H locs 600000 7302250 Q (F0 m 1294 ls [])) : W p l e room_1 s m #[Value.ref b] below meth c H locs 600000 7302250 Q (F0 m 254 ls []) := by
  obtain ⟨Fc, hE, hX, hbl, hL⟩ := K0
  obtain ⟨hx, hb, hml, hown, hts, hKN⟩ := id Fc
  have hA : ∀ q : Nat, s.heap.size ≤ q → (fun q : Nat => s.heap.size ≤ q) q := fun _ h => h
  have hbA : ¬ (fun q : Nat => s.heap.size ≤ q) b := Nat.not_le.mpr hbl
  obtain ⟨r, σ', ρ', h1, h2, h3⟩ := sim_set (by omega) h (xs (i + 1)) (xs (i + 2))
  refine lv_aload_n hx hb dL_law_254 rfl (lv_at hl 1 rfl) ?_
  refine lv_aload_n hx hb dL_law_255 rfl (lv_at hl 0 rfl) ?_
  refine lv_iload_n hx hb dL_law_256 rfl (lv_at hl 3 rfl) ?_
  refine lv_iconst (v := (1 : Int32)) hx hb dL_law_257 (by decide) ?_
  refine lv_iadd hx hb dL_law_258 ?_
  rw [nI_1]
  refine va_sld hx hb hX hbl hbA Z.2.2 (vp_in_nI (by omega) (by omega)) dL_law_259 ?_
  rw [nI_clamp (by omega)]
  refine lv_aload_n hx hb dL_law_260 rfl (lv_at hl 0 rfl) ?_
  refine lv_iload_n hx hb dL_law_261 rfl (lv_at hl 3 rfl) ?_
  refine lv_iconst (v := (2 : Int32)) hx hb dL_law_262 (by decide) ?_
  refine lv_iadd hx hb dL_law_263 ?_
  rw [la2]
  refine va_sld hx hb hX hbl hbA Z.2.2 (vp_in_nI (by omega) (by omega)) dL_law_264 ?_
  rw [nI_clamp (by omega)]
  refine km_iE (q := (r, σ')) (As := [.int (xs (i + 1)), .int (xs (i + 2))]) (ok := OKF) Fc hE hA Z (Lens.tail (mW am cI ρ)) (c_X4_set l D cI cS ad σ h.1 tF tL tH (xs (i + 1)) (xs (i + 2)) (r, σ') h1) mL_RL_23 v_X4_set ⟨rfl, rfl⟩ ⟨Nat.le_of_ble_eq_true rfl, Nat.le_of_ble_eq_true rfl⟩ ⟨Nat.le_of_ble_eq_true rfl, Nat.le_of_ble_eq_true rfl⟩ 0 4 rfl rfl rfl hl (Nat.le_of_ble_eq_true rfl) dL_law_265 rfl (fun H locs ok1 Z => ?_)
  refine lv_aload_n hx hb dL_law_268 rfl (lv_at hl 2 rfl) ?_
  refine lv_aload_n hx hb dL_law_269 rfl (lv_at hl 0 rfl) ?_
  refine lv_iload_n hx hb dL_law_270 rfl (lv_at hl 3 rfl) ?_
  refine lv_iconst (v := (1 : Int32)) hx hb dL_law_271 (by decide) ?_
  refine lv_iadd hx hb dL_law_272 ?_
  rw [nI_1]
  refine va_sld hx hb hX hbl hbA Z.2.2 (vp_in_nI (by omega) (by omega)) dL_law_273 ?_
  rw [nI_clamp (by omega)]
  refine lv_aload_n hx hb dL_law_274 rfl (lv_at hl 0 rfl) ?_
  refine lv_iload_n hx hb dL_law_275 rfl (lv_at hl 3 rfl) ?_
  refine lv_iconst (v := (2 : Int32)) hx hb dL_law_276 (by decide) ?_
  refine lv_iadd hx hb dL_law_277 ?_
  rw [la2]
  refine va_sld hx hb hX hbl hbA Z.2.2 (vp_in_nI (by omega) (by omega)) dL_law_278 ?_
  rw [nI_clamp (by omega)]
  refine km_i (q := (r, ρ')) (As := [.int (xs (i + 1)), .int (xs (i + 2))]) (ok := fun _ => True) Fc hA Z Lens.lm (c_X5_set l D cI cS am ρ (xs (i + 1)) (xs (i + 2)) (r, ρ') h2) mL_RL_26 v_X5_set ⟨rfl, rfl⟩ ⟨Nat.le_of_ble_eq_true rfl, Nat.le_of_ble_eq_true rfl⟩ ⟨Nat.le_of_ble_eq_true rfl, Nat.le_of_ble_eq_true rfl⟩ 128 5 rfl rfl rfl hl (Nat.le_of_ble_eq_true rfl) dL_law_279 rfl (fun H locs _ Z => ?_)
  refine lv_icmp_eq (tgt := 1294) hx hb dL_law_282 (by decide) (fun _ => ?_) (fun c1 => absurd rfl c1)
  exact next σ' ρ' _ _ h3 Z
set_option maxHeartbeats 4000000 in
set_option maxRecDepth 100000 in
theorem law_c3 {p : Program} {l : Launch} {e : Env} {s : State} {m : MethodId} {below : List Frame} {meth : Method} {c : Code} {b L : Nat} {xs : Nat → Int32} {D : va_G} {cI cS : ClassId} {tF tL tH : Nat} {Q : State → Prop} (K0 : LwC p m c s b L xs D cI cS tF tL tH) {ad am : Nat → Nat} {i : Nat} (hi : i + 4 ≤ L) {σ : Fs} {ρ : Ms} (h : RR (1500 * i) σ ρ) {H : Heap} {locs : List Loc} {ls : Array Slot} (Z : Ix D (fun q => s.heap.size ≤ q) s (fW ad cI cS σ ++ mW am cI ρ) H locs) (hl : lv_has ls 4 [(0, .ref b), (1, .ref (ad 0)), (2, .ref (am 0)), (3, .int (nI i))]) (next : ∀ (σ : Fs) (ρ : Ms) (H : Heap) (locs : List Loc), RR (1500 * i + 6000) σ ρ → Ix D (fun q => s.heap.size ≤ q) s (fW ad cI cS σ ++ mW am cI ρ) H locs → W p l e room_1 s m #[Value.ref b] below meth c H locs 600000 7302250 Q (F0 m 1294 ls [])) : W p l e room_1 s m #[Value.ref b] below meth c H locs 600000 7302250 Q (F0 m 287 ls []) := by
  obtain ⟨Fc, hE, hX, hbl, hL⟩ := K0
  obtain ⟨hx, hb, hml, hown, hts, hKN⟩ := id Fc
  have hA : ∀ q : Nat, s.heap.size ≤ q → (fun q : Nat => s.heap.size ≤ q) q := fun _ h => h
  have hbA : ¬ (fun q : Nat => s.heap.size ≤ q) b := Nat.not_le.mpr hbl
  obtain ⟨r, h1, h2⟩ := sim_setting (by omega) h (xs (i + 1))
  refine lv_aload_n hx hb dL_law_287 rfl (lv_at hl 1 rfl) ?_
  refine lv_aload_n hx hb dL_law_288 rfl (lv_at hl 0 rfl) ?_
  refine lv_iload_n hx hb dL_law_289 rfl (lv_at hl 3 rfl) ?_
  refine lv_iconst (v := (1 : Int32)) hx hb dL_law_290 (by decide) ?_
  refine lv_iadd hx hb dL_law_291 ?_
  rw [nI_1]
  refine va_sld hx hb hX hbl hbA Z.2.2 (vp_in_nI (by omega) (by omega)) dL_law_292 ?_
  rw [nI_clamp (by omega)]
  refine kr_i (As := [.int (xs (i + 1))]) Fc hA Z Lens.lc (c_X4_setting l D cI cS ad σ.2.1 σ.1 h.1.1 (xs (i + 1)) r h1) mL_RL_27 v_X4_setting ⟨rfl, rfl⟩ ⟨Nat.le_of_ble_eq_true rfl, Nat.le_of_ble_eq_true rfl⟩ ⟨Nat.le_of_ble_eq_true rfl, Nat.le_of_ble_eq_true rfl⟩ 0 4 rfl rfl rfl hl (Nat.le_of_ble_eq_true rfl) dL_law_293 rfl (fun H locs Z => ?_)
  refine lv_aload_n hx hb dL_law_296 rfl (lv_at hl 2 rfl) ?_
  refine lv_aload_n hx hb dL_law_297 rfl (lv_at hl 0 rfl) ?_
  refine lv_iload_n hx hb dL_law_298 rfl (lv_at hl 3 rfl) ?_
  refine lv_iconst (v := (1 : Int32)) hx hb dL_law_299 (by decide) ?_
  refine lv_iadd hx hb dL_law_300 ?_
  rw [nI_1]
  refine va_sld hx hb hX hbl hbA Z.2.2 (vp_in_nI (by omega) (by omega)) dL_law_301 ?_
  rw [nI_clamp (by omega)]
  refine kr_i (As := [.int (xs (i + 1))]) Fc hA Z Lens.lm (c_X5_setting l D cI cS am ρ (xs (i + 1)) r h2) mL_RL_31 v_X5_setting ⟨rfl, rfl⟩ ⟨Nat.le_of_ble_eq_true rfl, Nat.le_of_ble_eq_true rfl⟩ ⟨Nat.le_of_ble_eq_true rfl, Nat.le_of_ble_eq_true rfl⟩ 128 5 rfl rfl rfl hl (Nat.le_of_ble_eq_true rfl) dL_law_302 rfl (fun H locs Z => ?_)
  refine lv_icmp_eq (tgt := 1294) hx hb dL_law_305 (by decide) (fun _ => ?_) (fun c1 => absurd rfl c1)
  exact next σ ρ _ _ (h.mono (by omega)) Z
set_option maxHeartbeats 4000000 in
set_option maxRecDepth 100000 in
theorem law_c4 {p : Program} {l : Launch} {e : Env} {s : State} {m : MethodId} {below : List Frame} {meth : Method} {c : Code} {b L : Nat} {xs : Nat → Int32} {D : va_G} {cI cS : ClassId} {tF tL tH : Nat} {Q : State → Prop} (K0 : LwC p m c s b L xs D cI cS tF tL tH) {ad am : Nat → Nat} {i : Nat} (hi : i + 4 ≤ L) {σ : Fs} {ρ : Ms} (h : RR (1500 * i) σ ρ) {H : Heap} {locs : List Loc} {ls : Array Slot} (Z : Ix D (fun q => s.heap.size ≤ q) s (fW ad cI cS σ ++ mW am cI ρ) H locs) (hl : lv_has ls 4 [(0, .ref b), (1, .ref (ad 0)), (2, .ref (am 0)), (3, .int (nI i))]) (next : ∀ (σ : Fs) (ρ : Ms) (H : Heap) (locs : List Loc), RR (1500 * i + 6000) σ ρ → Ix D (fun q => s.heap.size ≤ q) s (fW ad cI cS σ ++ mW am cI ρ) H locs → W p l e room_1 s m #[Value.ref b] below meth c H locs 600000 7302250 Q (F0 m 1294 ls [])) : W p l e room_1 s m #[Value.ref b] below meth c H locs 600000 7302250 Q (F0 m 310 ls []) := by
  obtain ⟨Fc, hE, hX, hbl, hL⟩ := K0
  obtain ⟨hx, hb, hml, hown, hts, hKN⟩ := id Fc
  have hA : ∀ q : Nat, s.heap.size ≤ q → (fun q : Nat => s.heap.size ≤ q) q := fun _ h => h
  have hbA : ¬ (fun q : Nat => s.heap.size ≤ q) b := Nat.not_le.mpr hbl
  rcases Decidable.em (xs (i + 2) = 0) with hz | hz
  · obtain ⟨r, σ', ρ', h1, h2, h3⟩ := sim_setFloating (by omega) h (xs (i + 1)) (0 : Int32)
    refine lv_aload_n hx hb dL_law_310 rfl (lv_at hl 1 rfl) ?_
    refine lv_aload_n hx hb dL_law_311 rfl (lv_at hl 0 rfl) ?_
    refine lv_iload_n hx hb dL_law_312 rfl (lv_at hl 3 rfl) ?_
    refine lv_iconst (v := (1 : Int32)) hx hb dL_law_313 (by decide) ?_
    refine lv_iadd hx hb dL_law_314 ?_
    rw [nI_1]
    refine va_sld hx hb hX hbl hbA Z.2.2 (vp_in_nI (by omega) (by omega)) dL_law_315 ?_
    rw [nI_clamp (by omega)]
    refine lv_aload_n hx hb dL_law_316 rfl (lv_at hl 0 rfl) ?_
    refine lv_iload_n hx hb dL_law_317 rfl (lv_at hl 3 rfl) ?_
    refine lv_iconst (v := (2 : Int32)) hx hb dL_law_318 (by decide) ?_
    refine lv_iadd hx hb dL_law_319 ?_
    rw [la2]
    refine va_sld hx hb hX hbl hbA Z.2.2 (vp_in_nI (by omega) (by omega)) dL_law_320 ?_
    rw [nI_clamp (by omega)]
    refine lv_if_eq (tgt := 328) hx hb dL_law_321 (by decide) (fun _ => ?_) (fun c1 => absurd hz c1)
    refine lv_iconst (v := (0 : Int32)) hx hb dL_law_328 (by decide) ?_
    refine km_i (q := (r, σ')) (As := [.int (xs (i + 1)), .int (0 : Int32)]) (ok := OKF) Fc hA Z (Lens.tail (mW am cI ρ)) (c_X4_setFloating l D cI cS ad σ h.1 (xs (i + 1)) (0 : Int32) (r, σ') h1) mL_RL_32 v_X4_setFloating ⟨rfl, rfl⟩ ⟨Nat.le_of_ble_eq_true rfl, Nat.le_of_ble_eq_true rfl⟩ ⟨Nat.le_of_ble_eq_true rfl, Nat.le_of_ble_eq_true rfl⟩ 0 4 rfl rfl rfl hl (Nat.le_of_ble_eq_true rfl) dL_law_329 rfl (fun H locs ok1 Z => ?_)
    refine lv_aload_n hx hb dL_law_332 rfl (lv_at hl 2 rfl) ?_
    refine lv_aload_n hx hb dL_law_333 rfl (lv_at hl 0 rfl) ?_
    refine lv_iload_n hx hb dL_law_334 rfl (lv_at hl 3 rfl) ?_
    refine lv_iconst (v := (1 : Int32)) hx hb dL_law_335 (by decide) ?_
    refine lv_iadd hx hb dL_law_336 ?_
    rw [nI_1]
    refine va_sld hx hb hX hbl hbA Z.2.2 (vp_in_nI (by omega) (by omega)) dL_law_337 ?_
    rw [nI_clamp (by omega)]
    refine lv_aload_n hx hb dL_law_338 rfl (lv_at hl 0 rfl) ?_
    refine lv_iload_n hx hb dL_law_339 rfl (lv_at hl 3 rfl) ?_
    refine lv_iconst (v := (2 : Int32)) hx hb dL_law_340 (by decide) ?_
    refine lv_iadd hx hb dL_law_341 ?_
    rw [la2]
    refine va_sld hx hb hX hbl hbA Z.2.2 (vp_in_nI (by omega) (by omega)) dL_law_342 ?_
    rw [nI_clamp (by omega)]
    refine lv_if_eq (tgt := 350) hx hb dL_law_343 (by decide) (fun _ => ?_) (fun c1 => absurd hz c1)
    refine lv_iconst (v := (0 : Int32)) hx hb dL_law_350 (by decide) ?_
    refine km_i (q := (r, ρ')) (As := [.int (xs (i + 1)), .int (0 : Int32)]) (ok := fun _ => True) Fc hA Z Lens.lm (c_X5_setFloating l D cI cS am ρ (xs (i + 1)) (0 : Int32) (r, ρ') h2) mL_RL_36 v_X5_setFloating ⟨rfl, rfl⟩ ⟨Nat.le_of_ble_eq_true rfl, Nat.le_of_ble_eq_true rfl⟩ ⟨Nat.le_of_ble_eq_true rfl, Nat.le_of_ble_eq_true rfl⟩ 128 5 rfl rfl rfl hl (Nat.le_of_ble_eq_true rfl) dL_law_351 rfl (fun H locs _ Z => ?_)
    refine lv_icmp_eq (tgt := 1294) hx hb dL_law_354 (by decide) (fun _ => ?_) (fun c1 => absurd rfl c1)
    exact next σ' ρ' _ _ h3 Z
  · obtain ⟨r, σ', ρ', h1, h2, h3⟩ := sim_setFloating (by omega) h (xs (i + 1)) (1 : Int32)
    refine lv_aload_n hx hb dL_law_310 rfl (lv_at hl 1 rfl) ?_
    refine lv_aload_n hx hb dL_law_311 rfl (lv_at hl 0 rfl) ?_
    refine lv_iload_n hx hb dL_law_312 rfl (lv_at hl 3 rfl) ?_
    refine lv_iconst (v := (1 : Int32)) hx hb dL_law_313 (by decide) ?_
    refine lv_iadd hx hb dL_law_314 ?_
    rw [nI_1]
    refine va_sld hx hb hX hbl hbA Z.2.2 (vp_in_nI (by omega) (by omega)) dL_law_315 ?_
    rw [nI_clamp (by omega)]
    refine lv_aload_n hx hb dL_law_316 rfl (lv_at hl 0 rfl) ?_
    refine lv_iload_n hx hb dL_law_317 rfl (lv_at hl 3 rfl) ?_
    refine lv_iconst (v := (2 : Int32)) hx hb dL_law_318 (by decide) ?_
    refine lv_iadd hx hb dL_law_319 ?_
    rw [la2]
    refine va_sld hx hb hX hbl hbA Z.2.2 (vp_in_nI (by omega) (by omega)) dL_law_320 ?_
    rw [nI_clamp (by omega)]
    refine lv_if_eq (tgt := 328) hx hb dL_law_321 (by decide) (fun c1 => absurd c1 hz) (fun _ => ?_)
    refine lv_iconst (v := (1 : Int32)) hx hb dL_law_324 (by decide) ?_
    refine lv_goto (tgt := 329) hx hb dL_law_325 (by decide) ?_
    refine km_i (q := (r, σ')) (As := [.int (xs (i + 1)), .int (1 : Int32)]) (ok := OKF) Fc hA Z (Lens.tail (mW am cI ρ)) (c_X4_setFloating l D cI cS ad σ h.1 (xs (i + 1)) (1 : Int32) (r, σ') h1) mL_RL_32 v_X4_setFloating ⟨rfl, rfl⟩ ⟨Nat.le_of_ble_eq_true rfl, Nat.le_of_ble_eq_true rfl⟩ ⟨Nat.le_of_ble_eq_true rfl, Nat.le_of_ble_eq_true rfl⟩ 0 4 rfl rfl rfl hl (Nat.le_of_ble_eq_true rfl) dL_law_329 rfl (fun H locs ok1 Z => ?_)
    refine lv_aload_n hx hb dL_law_332 rfl (lv_at hl 2 rfl) ?_
    refine lv_aload_n hx hb dL_law_333 rfl (lv_at hl 0 rfl) ?_
    refine lv_iload_n hx hb dL_law_334 rfl (lv_at hl 3 rfl) ?_
    refine lv_iconst (v := (1 : Int32)) hx hb dL_law_335 (by decide) ?_
    refine lv_iadd hx hb dL_law_336 ?_
    rw [nI_1]
    refine va_sld hx hb hX hbl hbA Z.2.2 (vp_in_nI (by omega) (by omega)) dL_law_337 ?_
    rw [nI_clamp (by omega)]
    refine lv_aload_n hx hb dL_law_338 rfl (lv_at hl 0 rfl) ?_
    refine lv_iload_n hx hb dL_law_339 rfl (lv_at hl 3 rfl) ?_
    refine lv_iconst (v := (2 : Int32)) hx hb dL_law_340 (by decide) ?_
    refine lv_iadd hx hb dL_law_341 ?_
    rw [la2]
    refine va_sld hx hb hX hbl hbA Z.2.2 (vp_in_nI (by omega) (by omega)) dL_law_342 ?_
    rw [nI_clamp (by omega)]
    refine lv_if_eq (tgt := 350) hx hb dL_law_343 (by decide) (fun c1 => absurd c1 hz) (fun _ => ?_)
    refine lv_iconst (v := (1 : Int32)) hx hb dL_law_346 (by decide) ?_
    refine lv_goto (tgt := 351) hx hb dL_law_347 (by decide) ?_
    refine km_i (q := (r, ρ')) (As := [.int (xs (i + 1)), .int (1 : Int32)]) (ok := fun _ => True) Fc hA Z Lens.lm (c_X5_setFloating l D cI cS am ρ (xs (i + 1)) (1 : Int32) (r, ρ') h2) mL_RL_36 v_X5_setFloating ⟨rfl, rfl⟩ ⟨Nat.le_of_ble_eq_true rfl, Nat.le_of_ble_eq_true rfl⟩ ⟨Nat.le_of_ble_eq_true rfl, Nat.le_of_ble_eq_true rfl⟩ 128 5 rfl rfl rfl hl (Nat.le_of_ble_eq_true rfl) dL_law_351 rfl (fun H locs _ Z => ?_)
    refine lv_icmp_eq (tgt := 1294) hx hb dL_law_354 (by decide) (fun _ => ?_) (fun c1 => absurd rfl c1)
    exact next σ' ρ' _ _ h3 Z
set_option maxHeartbeats 4000000 in
set_option maxRecDepth 100000 in
theorem law_c5 {p : Program} {l : Launch} {e : Env} {s : State} {m : MethodId} {below : List Frame} {meth : Method} {c : Code} {b L : Nat} {xs : Nat → Int32} {D : va_G} {cI cS : ClassId} {tF tL tH : Nat} {Q : State → Prop} (K0 : LwC p m c s b L xs D cI cS tF tL tH) {ad am : Nat → Nat} {i : Nat} (hi : i + 4 ≤ L) {σ : Fs} {ρ : Ms} (h : RR (1500 * i) σ ρ) {H : Heap} {locs : List Loc} {ls : Array Slot} (Z : Ix D (fun q => s.heap.size ≤ q) s (fW ad cI cS σ ++ mW am cI ρ) H locs) (hl : lv_has ls 4 [(0, .ref b), (1, .ref (ad 0)), (2, .ref (am 0)), (3, .int (nI i))]) (next : ∀ (σ : Fs) (ρ : Ms) (H : Heap) (locs : List Loc), RR (1500 * i + 6000) σ ρ → Ix D (fun q => s.heap.size ≤ q) s (fW ad cI cS σ ++ mW am cI ρ) H locs → W p l e room_1 s m #[Value.ref b] below meth c H locs 600000 7302250 Q (F0 m 1294 ls [])) : W p l e room_1 s m #[Value.ref b] below meth c H locs 600000 7302250 Q (F0 m 359 ls []) := by
  obtain ⟨Fc, hE, hX, hbl, hL⟩ := K0
  obtain ⟨hx, hb, hml, hown, hts, hKN⟩ := id Fc
  have hA : ∀ q : Nat, s.heap.size ≤ q → (fun q : Nat => s.heap.size ≤ q) q := fun _ h => h
  have hbA : ¬ (fun q : Nat => s.heap.size ≤ q) b := Nat.not_le.mpr hbl
  obtain ⟨r, h1, h2⟩ := sim_copyCount (by omega) h (xs (i + 1))
  refine lv_aload_n hx hb dL_law_359 rfl (lv_at hl 1 rfl) ?_
  refine lv_aload_n hx hb dL_law_360 rfl (lv_at hl 0 rfl) ?_
  refine lv_iload_n hx hb dL_law_361 rfl (lv_at hl 3 rfl) ?_
  refine lv_iconst (v := (1 : Int32)) hx hb dL_law_362 (by decide) ?_
  refine lv_iadd hx hb dL_law_363 ?_
  rw [nI_1]
  refine va_sld hx hb hX hbl hbA Z.2.2 (vp_in_nI (by omega) (by omega)) dL_law_364 ?_
  rw [nI_clamp (by omega)]
  refine kr_i (As := [.int (xs (i + 1))]) Fc hA Z Lens.lc (c_X4_copyCount l D cI cS ad σ.2.1 σ.1 h.1.1 (xs (i + 1)) r h1) mL_RL_37 v_X4_copyCount ⟨rfl, rfl⟩ ⟨Nat.le_of_ble_eq_true rfl, Nat.le_of_ble_eq_true rfl⟩ ⟨Nat.le_of_ble_eq_true rfl, Nat.le_of_ble_eq_true rfl⟩ 0 4 rfl rfl rfl hl (Nat.le_of_ble_eq_true rfl) dL_law_365 rfl (fun H locs Z => ?_)
  refine lv_aload_n hx hb dL_law_368 rfl (lv_at hl 2 rfl) ?_
  refine lv_aload_n hx hb dL_law_369 rfl (lv_at hl 0 rfl) ?_
  refine lv_iload_n hx hb dL_law_370 rfl (lv_at hl 3 rfl) ?_
  refine lv_iconst (v := (1 : Int32)) hx hb dL_law_371 (by decide) ?_
  refine lv_iadd hx hb dL_law_372 ?_
  rw [nI_1]
  refine va_sld hx hb hX hbl hbA Z.2.2 (vp_in_nI (by omega) (by omega)) dL_law_373 ?_
  rw [nI_clamp (by omega)]
  refine kr_i (As := [.int (xs (i + 1))]) Fc hA Z Lens.lm (c_X5_copyCount l D cI cS am ρ (xs (i + 1)) r h2) mL_RL_40 v_X5_copyCount ⟨rfl, rfl⟩ ⟨Nat.le_of_ble_eq_true rfl, Nat.le_of_ble_eq_true rfl⟩ ⟨Nat.le_of_ble_eq_true rfl, Nat.le_of_ble_eq_true rfl⟩ 128 5 rfl rfl rfl hl (Nat.le_of_ble_eq_true rfl) dL_law_374 rfl (fun H locs Z => ?_)
  refine lv_icmp_eq (tgt := 1294) hx hb dL_law_377 (by decide) (fun _ => ?_) (fun c1 => absurd rfl c1)
  exact next σ ρ _ _ (h.mono (by omega)) Z
set_option maxHeartbeats 4000000 in
set_option maxRecDepth 100000 in
theorem law_c6 {p : Program} {l : Launch} {e : Env} {s : State} {m : MethodId} {below : List Frame} {meth : Method} {c : Code} {b L : Nat} {xs : Nat → Int32} {D : va_G} {cI cS : ClassId} {tF tL tH : Nat} {Q : State → Prop} (K0 : LwC p m c s b L xs D cI cS tF tL tH) {ad am : Nat → Nat} {i : Nat} (hi : i + 4 ≤ L) {σ : Fs} {ρ : Ms} (h : RR (1500 * i) σ ρ) {H : Heap} {locs : List Loc} {ls : Array Slot} (Z : Ix D (fun q => s.heap.size ≤ q) s (fW ad cI cS σ ++ mW am cI ρ) H locs) (hl : lv_has ls 4 [(0, .ref b), (1, .ref (ad 0)), (2, .ref (am 0)), (3, .int (nI i))]) (next : ∀ (σ : Fs) (ρ : Ms) (H : Heap) (locs : List Loc), RR (1500 * i + 6000) σ ρ → Ix D (fun q => s.heap.size ≤ q) s (fW ad cI cS σ ++ mW am cI ρ) H locs → W p l e room_1 s m #[Value.ref b] below meth c H locs 600000 7302250 Q (F0 m 1294 ls [])) : W p l e room_1 s m #[Value.ref b] below meth c H locs 600000 7302250 Q (F0 m 382 ls []) := by
  obtain ⟨Fc, hE, hX, hbl, hL⟩ := K0
  obtain ⟨hx, hb, hml, hown, hts, hKN⟩ := id Fc
  have hA : ∀ q : Nat, s.heap.size ≤ q → (fun q : Nat => s.heap.size ≤ q) q := fun _ h => h
  have hbA : ¬ (fun q : Nat => s.heap.size ≤ q) b := Nat.not_le.mpr hbl
  obtain ⟨r, h1, h2⟩ := sim_copy (by omega) h (xs (i + 1)) (xs (i + 2))
  refine lv_aload_n hx hb dL_law_382 rfl (lv_at hl 1 rfl) ?_
  refine lv_aload_n hx hb dL_law_383 rfl (lv_at hl 0 rfl) ?_
  refine lv_iload_n hx hb dL_law_384 rfl (lv_at hl 3 rfl) ?_
  refine lv_iconst (v := (1 : Int32)) hx hb dL_law_385 (by decide) ?_
  refine lv_iadd hx hb dL_law_386 ?_
  rw [nI_1]
  refine va_sld hx hb hX hbl hbA Z.2.2 (vp_in_nI (by omega) (by omega)) dL_law_387 ?_
  rw [nI_clamp (by omega)]
  refine lv_aload_n hx hb dL_law_388 rfl (lv_at hl 0 rfl) ?_
  refine lv_iload_n hx hb dL_law_389 rfl (lv_at hl 3 rfl) ?_
  refine lv_iconst (v := (2 : Int32)) hx hb dL_law_390 (by decide) ?_
  refine lv_iadd hx hb dL_law_391 ?_
  rw [la2]
  refine va_sld hx hb hX hbl hbA Z.2.2 (vp_in_nI (by omega) (by omega)) dL_law_392 ?_
  rw [nI_clamp (by omega)]
  refine kr_i (As := [.int (xs (i + 1)), .int (xs (i + 2))]) Fc hA Z Lens.lc (c_X4_copy l D cI cS ad σ.2.1 σ.1 h.1.1 (xs (i + 1)) (xs (i + 2)) r h1) mL_RL_41 v_X4_copy ⟨rfl, rfl⟩ ⟨Nat.le_of_ble_eq_true rfl, Nat.le_of_ble_eq_true rfl⟩ ⟨Nat.le_of_ble_eq_true rfl, Nat.le_of_ble_eq_true rfl⟩ 0 4 rfl rfl rfl hl (Nat.le_of_ble_eq_true rfl) dL_law_393 rfl (fun H locs Z => ?_)
  refine lv_aload_n hx hb dL_law_396 rfl (lv_at hl 2 rfl) ?_
  refine lv_aload_n hx hb dL_law_397 rfl (lv_at hl 0 rfl) ?_
  refine lv_iload_n hx hb dL_law_398 rfl (lv_at hl 3 rfl) ?_
  refine lv_iconst (v := (1 : Int32)) hx hb dL_law_399 (by decide) ?_
  refine lv_iadd hx hb dL_law_400 ?_
  rw [nI_1]
  refine va_sld hx hb hX hbl hbA Z.2.2 (vp_in_nI (by omega) (by omega)) dL_law_401 ?_
  rw [nI_clamp (by omega)]
  refine lv_aload_n hx hb dL_law_402 rfl (lv_at hl 0 rfl) ?_
  refine lv_iload_n hx hb dL_law_403 rfl (lv_at hl 3 rfl) ?_
  refine lv_iconst (v := (2 : Int32)) hx hb dL_law_404 (by decide) ?_
  refine lv_iadd hx hb dL_law_405 ?_
  rw [la2]
  refine va_sld hx hb hX hbl hbA Z.2.2 (vp_in_nI (by omega) (by omega)) dL_law_406 ?_
  rw [nI_clamp (by omega)]
  refine kr_i (As := [.int (xs (i + 1)), .int (xs (i + 2))]) Fc hA Z Lens.lm (c_X5_copy l D cI cS am ρ (xs (i + 1)) (xs (i + 2)) r h2) mL_RL_44 v_X5_copy ⟨rfl, rfl⟩ ⟨Nat.le_of_ble_eq_true rfl, Nat.le_of_ble_eq_true rfl⟩ ⟨Nat.le_of_ble_eq_true rfl, Nat.le_of_ble_eq_true rfl⟩ 128 5 rfl rfl rfl hl (Nat.le_of_ble_eq_true rfl) dL_law_407 rfl (fun H locs Z => ?_)
  refine lv_icmp_eq (tgt := 1294) hx hb dL_law_410 (by decide) (fun _ => ?_) (fun c1 => absurd rfl c1)
  exact next σ ρ _ _ (h.mono (by omega)) Z
set_option maxHeartbeats 4000000 in
set_option maxRecDepth 100000 in
theorem law_c7 {p : Program} {l : Launch} {e : Env} {s : State} {m : MethodId} {below : List Frame} {meth : Method} {c : Code} {b L : Nat} {xs : Nat → Int32} {D : va_G} {cI cS : ClassId} {tF tL tH : Nat} {Q : State → Prop} (K0 : LwC p m c s b L xs D cI cS tF tL tH) {ad am : Nat → Nat} {i : Nat} (hi : i + 4 ≤ L) {σ : Fs} {ρ : Ms} (h : RR (1500 * i) σ ρ) {H : Heap} {locs : List Loc} {ls : Array Slot} (Z : Ix D (fun q => s.heap.size ≤ q) s (fW ad cI cS σ ++ mW am cI ρ) H locs) (hl : lv_has ls 4 [(0, .ref b), (1, .ref (ad 0)), (2, .ref (am 0)), (3, .int (nI i))]) (next : ∀ (σ : Fs) (ρ : Ms) (H : Heap) (locs : List Loc), RR (1500 * i + 6000) σ ρ → Ix D (fun q => s.heap.size ≤ q) s (fW ad cI cS σ ++ mW am cI ρ) H locs → W p l e room_1 s m #[Value.ref b] below meth c H locs 600000 7302250 Q (F0 m 1294 ls [])) : W p l e room_1 s m #[Value.ref b] below meth c H locs 600000 7302250 Q (F0 m 415 ls []) := by
  obtain ⟨Fc, hE, hX, hbl, hL⟩ := K0
  obtain ⟨hx, hb, hml, hown, hts, hKN⟩ := id Fc
  have hA : ∀ q : Nat, s.heap.size ≤ q → (fun q : Nat => s.heap.size ≤ q) q := fun _ h => h
  have hbA : ¬ (fun q : Nat => s.heap.size ≤ q) b := Nat.not_le.mpr hbl
  obtain ⟨r, h1, h2⟩ := sim_day (by omega) h 
  refine lv_aload_n hx hb dL_law_415 rfl (lv_at hl 1 rfl) ?_
  refine kr_i (As := []) Fc hA Z Lens.lc (c_X4_day l D cI cS ad σ.2.1 σ.1 h.1.1  r h1) mL_RL_45 v_X4_day ⟨rfl, rfl⟩ ⟨Nat.le_of_ble_eq_true rfl, Nat.le_of_ble_eq_true rfl⟩ ⟨Nat.le_of_ble_eq_true rfl, Nat.le_of_ble_eq_true rfl⟩ 0 4 rfl rfl rfl hl (Nat.le_of_ble_eq_true rfl) dL_law_416 rfl (fun H locs Z => ?_)
  refine lv_aload_n hx hb dL_law_419 rfl (lv_at hl 2 rfl) ?_
  refine kr_i (As := []) Fc hA Z Lens.lm (c_X5_day l D cI cS am ρ  r h2) mL_RL_48 v_X5_day ⟨rfl, rfl⟩ ⟨Nat.le_of_ble_eq_true rfl, Nat.le_of_ble_eq_true rfl⟩ ⟨Nat.le_of_ble_eq_true rfl, Nat.le_of_ble_eq_true rfl⟩ 128 5 rfl rfl rfl hl (Nat.le_of_ble_eq_true rfl) dL_law_420 rfl (fun H locs Z => ?_)
  refine lv_icmp_eq (tgt := 1294) hx hb dL_law_423 (by decide) (fun _ => ?_) (fun c1 => absurd rfl c1)
  exact next σ ρ _ _ (h.mono (by omega)) Z
set_option maxHeartbeats 4000000 in
set_option maxRecDepth 100000 in
theorem law_c8 {p : Program} {l : Launch} {e : Env} {s : State} {m : MethodId} {below : List Frame} {meth : Method} {c : Code} {b L : Nat} {xs : Nat → Int32} {D : va_G} {cI cS : ClassId} {tF tL tH : Nat} {Q : State → Prop} (K0 : LwC p m c s b L xs D cI cS tF tL tH) {ad am : Nat → Nat} {i : Nat} (hi : i + 4 ≤ L) {σ : Fs} {ρ : Ms} (h : RR (1500 * i) σ ρ) {H : Heap} {locs : List Loc} {ls : Array Slot} (Z : Ix D (fun q => s.heap.size ≤ q) s (fW ad cI cS σ ++ mW am cI ρ) H locs) (hl : lv_has ls 4 [(0, .ref b), (1, .ref (ad 0)), (2, .ref (am 0)), (3, .int (nI i))]) (next : ∀ (σ : Fs) (ρ : Ms) (H : Heap) (locs : List Loc), RR (1500 * i + 6000) σ ρ → Ix D (fun q => s.heap.size ≤ q) s (fW ad cI cS σ ++ mW am cI ρ) H locs → W p l e room_1 s m #[Value.ref b] below meth c H locs 600000 7302250 Q (F0 m 1294 ls [])) : W p l e room_1 s m #[Value.ref b] below meth c H locs 600000 7302250 Q (F0 m 428 ls []) := by
  obtain ⟨Fc, hE, hX, hbl, hL⟩ := K0
  obtain ⟨hx, hb, hml, hown, hts, hKN⟩ := id Fc
  have hA : ∀ q : Nat, s.heap.size ≤ q → (fun q : Nat => s.heap.size ≤ q) q := fun _ h => h
  have hbA : ¬ (fun q : Nat => s.heap.size ≤ q) b := Nat.not_le.mpr hbl
  obtain ⟨r, σ', ρ', h1, h2, h3⟩ := sim_pass (by omega) h (xs (i + 1))
  refine lv_aload_n hx hb dL_law_428 rfl (lv_at hl 1 rfl) ?_
  refine lv_aload_n hx hb dL_law_429 rfl (lv_at hl 0 rfl) ?_
  refine lv_iload_n hx hb dL_law_430 rfl (lv_at hl 3 rfl) ?_
  refine lv_iconst (v := (1 : Int32)) hx hb dL_law_431 (by decide) ?_
  refine lv_iadd hx hb dL_law_432 ?_
  rw [nI_1]
  refine va_sld hx hb hX hbl hbA Z.2.2 (vp_in_nI (by omega) (by omega)) dL_law_433 ?_
  rw [nI_clamp (by omega)]
  refine km_i (q := (r, σ')) (As := [.int (xs (i + 1))]) (ok := OKF) Fc hA Z (Lens.tail (mW am cI ρ)) (c_X4_pass l D cI cS ad σ h.1 (xs (i + 1)) (r, σ') h1) mL_RL_49 v_X4_pass ⟨rfl, rfl⟩ ⟨Nat.le_of_ble_eq_true rfl, Nat.le_of_ble_eq_true rfl⟩ ⟨Nat.le_of_ble_eq_true rfl, Nat.le_of_ble_eq_true rfl⟩ 0 4 rfl rfl rfl hl (Nat.le_of_ble_eq_true rfl) dL_law_434 rfl (fun H locs ok1 Z => ?_)
  refine lv_aload_n hx hb dL_law_437 rfl (lv_at hl 2 rfl) ?_
  refine lv_aload_n hx hb dL_law_438 rfl (lv_at hl 0 rfl) ?_
  refine lv_iload_n hx hb dL_law_439 rfl (lv_at hl 3 rfl) ?_
  refine lv_iconst (v := (1 : Int32)) hx hb dL_law_440 (by decide) ?_
  refine lv_iadd hx hb dL_law_441 ?_
  rw [nI_1]
  refine va_sld hx hb hX hbl hbA Z.2.2 (vp_in_nI (by omega) (by omega)) dL_law_442 ?_
  rw [nI_clamp (by omega)]
  refine km_i (q := (r, ρ')) (As := [.int (xs (i + 1))]) (ok := fun _ => True) Fc hA Z Lens.lm (c_X5_pass l D cI cS am ρ (xs (i + 1)) (r, ρ') h2) mL_RL_52 v_X5_pass ⟨rfl, rfl⟩ ⟨Nat.le_of_ble_eq_true rfl, Nat.le_of_ble_eq_true rfl⟩ ⟨Nat.le_of_ble_eq_true rfl, Nat.le_of_ble_eq_true rfl⟩ 128 5 rfl rfl rfl hl (Nat.le_of_ble_eq_true rfl) dL_law_443 rfl (fun H locs _ Z => ?_)
  refine lv_icmp_eq (tgt := 1294) hx hb dL_law_446 (by decide) (fun _ => ?_) (fun c1 => absurd rfl c1)
  exact next σ' ρ' _ _ h3 Z
set_option maxHeartbeats 4000000 in
set_option maxRecDepth 100000 in
theorem law_c9 {p : Program} {l : Launch} {e : Env} {s : State} {m : MethodId} {below : List Frame} {meth : Method} {c : Code} {b L : Nat} {xs : Nat → Int32} {D : va_G} {cI cS : ClassId} {tF tL tH : Nat} {Q : State → Prop} (K0 : LwC p m c s b L xs D cI cS tF tL tH) {ad am : Nat → Nat} {i : Nat} (hi : i + 4 ≤ L) {σ : Fs} {ρ : Ms} (h : RR (1500 * i) σ ρ) {H : Heap} {locs : List Loc} {ls : Array Slot} (Z : Ix D (fun q => s.heap.size ≤ q) s (fW ad cI cS σ ++ mW am cI ρ) H locs) (hl : lv_has ls 4 [(0, .ref b), (1, .ref (ad 0)), (2, .ref (am 0)), (3, .int (nI i))]) (next : ∀ (σ : Fs) (ρ : Ms) (H : Heap) (locs : List Loc), RR (1500 * i + 6000) σ ρ → Ix D (fun q => s.heap.size ≤ q) s (fW ad cI cS σ ++ mW am cI ρ) H locs → W p l e room_1 s m #[Value.ref b] below meth c H locs 600000 7302250 Q (F0 m 1294 ls [])) : W p l e room_1 s m #[Value.ref b] below meth c H locs 600000 7302250 Q (F0 m 451 ls []) := by
  obtain ⟨Fc, hE, hX, hbl, hL⟩ := K0
  obtain ⟨hx, hb, hml, hown, hts, hKN⟩ := id Fc
  have hA : ∀ q : Nat, s.heap.size ≤ q → (fun q : Nat => s.heap.size ≤ q) q := fun _ h => h
  have hbA : ¬ (fun q : Nat => s.heap.size ≤ q) b := Nat.not_le.mpr hbl
  obtain ⟨r, σ', ρ', h1, h2, h3⟩ := sim_lend (by omega) h (xs (i + 1)) (xs (i + 2))
  refine lv_aload_n hx hb dL_law_451 rfl (lv_at hl 1 rfl) ?_
  refine lv_aload_n hx hb dL_law_452 rfl (lv_at hl 0 rfl) ?_
  refine lv_iload_n hx hb dL_law_453 rfl (lv_at hl 3 rfl) ?_
  refine lv_iconst (v := (1 : Int32)) hx hb dL_law_454 (by decide) ?_
  refine lv_iadd hx hb dL_law_455 ?_
  rw [nI_1]
  refine va_sld hx hb hX hbl hbA Z.2.2 (vp_in_nI (by omega) (by omega)) dL_law_456 ?_
  rw [nI_clamp (by omega)]
  refine lv_aload_n hx hb dL_law_457 rfl (lv_at hl 0 rfl) ?_
  refine lv_iload_n hx hb dL_law_458 rfl (lv_at hl 3 rfl) ?_
  refine lv_iconst (v := (2 : Int32)) hx hb dL_law_459 (by decide) ?_
  refine lv_iadd hx hb dL_law_460 ?_
  rw [la2]
  refine va_sld hx hb hX hbl hbA Z.2.2 (vp_in_nI (by omega) (by omega)) dL_law_461 ?_
  rw [nI_clamp (by omega)]
  refine km_i (q := (r, σ')) (As := [.int (xs (i + 1)), .int (xs (i + 2))]) (ok := OKF) Fc hA Z (Lens.tail (mW am cI ρ)) (c_X4_lend l D cI cS ad σ h.1 (xs (i + 1)) (xs (i + 2)) (r, σ') h1) mL_RL_53 v_X4_lend ⟨rfl, rfl⟩ ⟨Nat.le_of_ble_eq_true rfl, Nat.le_of_ble_eq_true rfl⟩ ⟨Nat.le_of_ble_eq_true rfl, Nat.le_of_ble_eq_true rfl⟩ 0 4 rfl rfl rfl hl (Nat.le_of_ble_eq_true rfl) dL_law_462 rfl (fun H locs ok1 Z => ?_)
  refine lv_aload_n hx hb dL_law_465 rfl (lv_at hl 2 rfl) ?_
  refine lv_aload_n hx hb dL_law_466 rfl (lv_at hl 0 rfl) ?_
  refine lv_iload_n hx hb dL_law_467 rfl (lv_at hl 3 rfl) ?_
  refine lv_iconst (v := (1 : Int32)) hx hb dL_law_468 (by decide) ?_
  refine lv_iadd hx hb dL_law_469 ?_
  rw [nI_1]
  refine va_sld hx hb hX hbl hbA Z.2.2 (vp_in_nI (by omega) (by omega)) dL_law_470 ?_
  rw [nI_clamp (by omega)]
  refine lv_aload_n hx hb dL_law_471 rfl (lv_at hl 0 rfl) ?_
  refine lv_iload_n hx hb dL_law_472 rfl (lv_at hl 3 rfl) ?_
  refine lv_iconst (v := (2 : Int32)) hx hb dL_law_473 (by decide) ?_
  refine lv_iadd hx hb dL_law_474 ?_
  rw [la2]
  refine va_sld hx hb hX hbl hbA Z.2.2 (vp_in_nI (by omega) (by omega)) dL_law_475 ?_
  rw [nI_clamp (by omega)]
  refine km_i (q := (r, ρ')) (As := [.int (xs (i + 1)), .int (xs (i + 2))]) (ok := fun _ => True) Fc hA Z Lens.lm (c_X5_lend l D cI cS am ρ (xs (i + 1)) (xs (i + 2)) (r, ρ') h2) mL_RL_56 v_X5_lend ⟨rfl, rfl⟩ ⟨Nat.le_of_ble_eq_true rfl, Nat.le_of_ble_eq_true rfl⟩ ⟨Nat.le_of_ble_eq_true rfl, Nat.le_of_ble_eq_true rfl⟩ 128 5 rfl rfl rfl hl (Nat.le_of_ble_eq_true rfl) dL_law_476 rfl (fun H locs _ Z => ?_)
  refine lv_icmp_eq (tgt := 1294) hx hb dL_law_479 (by decide) (fun _ => ?_) (fun c1 => absurd rfl c1)
  exact next σ' ρ' _ _ h3 Z
set_option maxHeartbeats 4000000 in
set_option maxRecDepth 100000 in
theorem law_c10 {p : Program} {l : Launch} {e : Env} {s : State} {m : MethodId} {below : List Frame} {meth : Method} {c : Code} {b L : Nat} {xs : Nat → Int32} {D : va_G} {cI cS : ClassId} {tF tL tH : Nat} {Q : State → Prop} (K0 : LwC p m c s b L xs D cI cS tF tL tH) {ad am : Nat → Nat} {i : Nat} (hi : i + 4 ≤ L) {σ : Fs} {ρ : Ms} (h : RR (1500 * i) σ ρ) {H : Heap} {locs : List Loc} {ls : Array Slot} (Z : Ix D (fun q => s.heap.size ≤ q) s (fW ad cI cS σ ++ mW am cI ρ) H locs) (hl : lv_has ls 4 [(0, .ref b), (1, .ref (ad 0)), (2, .ref (am 0)), (3, .int (nI i))]) (next : ∀ (σ : Fs) (ρ : Ms) (H : Heap) (locs : List Loc), RR (1500 * i + 6000) σ ρ → Ix D (fun q => s.heap.size ≤ q) s (fW ad cI cS σ ++ mW am cI ρ) H locs → W p l e room_1 s m #[Value.ref b] below meth c H locs 600000 7302250 Q (F0 m 1294 ls [])) : W p l e room_1 s m #[Value.ref b] below meth c H locs 600000 7302250 Q (F0 m 484 ls []) := by
  obtain ⟨Fc, hE, hX, hbl, hL⟩ := K0
  obtain ⟨hx, hb, hml, hown, hts, hKN⟩ := id Fc
  have hA : ∀ q : Nat, s.heap.size ≤ q → (fun q : Nat => s.heap.size ≤ q) q := fun _ h => h
  have hbA : ¬ (fun q : Nat => s.heap.size ≤ q) b := Nat.not_le.mpr hbl
  obtain ⟨r, σ', ρ', h1, h2, h3⟩ := sim_bringBack (by omega) h (xs (i + 1)) (xs (i + 2))
  refine lv_aload_n hx hb dL_law_484 rfl (lv_at hl 1 rfl) ?_
  refine lv_aload_n hx hb dL_law_485 rfl (lv_at hl 0 rfl) ?_
  refine lv_iload_n hx hb dL_law_486 rfl (lv_at hl 3 rfl) ?_
  refine lv_iconst (v := (1 : Int32)) hx hb dL_law_487 (by decide) ?_
  refine lv_iadd hx hb dL_law_488 ?_
  rw [nI_1]
  refine va_sld hx hb hX hbl hbA Z.2.2 (vp_in_nI (by omega) (by omega)) dL_law_489 ?_
  rw [nI_clamp (by omega)]
  refine lv_aload_n hx hb dL_law_490 rfl (lv_at hl 0 rfl) ?_
  refine lv_iload_n hx hb dL_law_491 rfl (lv_at hl 3 rfl) ?_
  refine lv_iconst (v := (2 : Int32)) hx hb dL_law_492 (by decide) ?_
  refine lv_iadd hx hb dL_law_493 ?_
  rw [la2]
  refine va_sld hx hb hX hbl hbA Z.2.2 (vp_in_nI (by omega) (by omega)) dL_law_494 ?_
  rw [nI_clamp (by omega)]
  refine km_i (q := (r, σ')) (As := [.int (xs (i + 1)), .int (xs (i + 2))]) (ok := OKF) Fc hA Z (Lens.tail (mW am cI ρ)) (c_X4_bringBack l D cI cS ad σ h.1 (xs (i + 1)) (xs (i + 2)) (r, σ') h1) mL_RL_57 v_X4_bringBack ⟨rfl, rfl⟩ ⟨Nat.le_of_ble_eq_true rfl, Nat.le_of_ble_eq_true rfl⟩ ⟨Nat.le_of_ble_eq_true rfl, Nat.le_of_ble_eq_true rfl⟩ 0 4 rfl rfl rfl hl (Nat.le_of_ble_eq_true rfl) dL_law_495 rfl (fun H locs ok1 Z => ?_)
  refine lv_aload_n hx hb dL_law_498 rfl (lv_at hl 2 rfl) ?_
  refine lv_aload_n hx hb dL_law_499 rfl (lv_at hl 0 rfl) ?_
  refine lv_iload_n hx hb dL_law_500 rfl (lv_at hl 3 rfl) ?_
  refine lv_iconst (v := (1 : Int32)) hx hb dL_law_501 (by decide) ?_
  refine lv_iadd hx hb dL_law_502 ?_
  rw [nI_1]
  refine va_sld hx hb hX hbl hbA Z.2.2 (vp_in_nI (by omega) (by omega)) dL_law_503 ?_
  rw [nI_clamp (by omega)]
  refine lv_aload_n hx hb dL_law_504 rfl (lv_at hl 0 rfl) ?_
  refine lv_iload_n hx hb dL_law_505 rfl (lv_at hl 3 rfl) ?_
  refine lv_iconst (v := (2 : Int32)) hx hb dL_law_506 (by decide) ?_
  refine lv_iadd hx hb dL_law_507 ?_
  rw [la2]
  refine va_sld hx hb hX hbl hbA Z.2.2 (vp_in_nI (by omega) (by omega)) dL_law_508 ?_
  rw [nI_clamp (by omega)]
  refine km_i (q := (r, ρ')) (As := [.int (xs (i + 1)), .int (xs (i + 2))]) (ok := fun _ => True) Fc hA Z Lens.lm (c_X5_bringBack l D cI cS am ρ (xs (i + 1)) (xs (i + 2)) (r, ρ') h2) mL_RL_60 v_X5_bringBack ⟨rfl, rfl⟩ ⟨Nat.le_of_ble_eq_true rfl, Nat.le_of_ble_eq_true rfl⟩ ⟨Nat.le_of_ble_eq_true rfl, Nat.le_of_ble_eq_true rfl⟩ 128 5 rfl rfl rfl hl (Nat.le_of_ble_eq_true rfl) dL_law_509 rfl (fun H locs _ Z => ?_)
  refine lv_icmp_eq (tgt := 1294) hx hb dL_law_512 (by decide) (fun _ => ?_) (fun c1 => absurd rfl c1)
  exact next σ' ρ' _ _ h3 Z
set_option maxHeartbeats 4000000 in
set_option maxRecDepth 100000 in
theorem law_c11 {p : Program} {l : Launch} {e : Env} {s : State} {m : MethodId} {below : List Frame} {meth : Method} {c : Code} {b L : Nat} {xs : Nat → Int32} {D : va_G} {cI cS : ClassId} {tF tL tH : Nat} {Q : State → Prop} (K0 : LwC p m c s b L xs D cI cS tF tL tH) {ad am : Nat → Nat} {i : Nat} (hi : i + 4 ≤ L) {σ : Fs} {ρ : Ms} (h : RR (1500 * i) σ ρ) {H : Heap} {locs : List Loc} {ls : Array Slot} (Z : Ix D (fun q => s.heap.size ≤ q) s (fW ad cI cS σ ++ mW am cI ρ) H locs) (hl : lv_has ls 4 [(0, .ref b), (1, .ref (ad 0)), (2, .ref (am 0)), (3, .int (nI i))]) (next : ∀ (σ : Fs) (ρ : Ms) (H : Heap) (locs : List Loc), RR (1500 * i + 6000) σ ρ → Ix D (fun q => s.heap.size ≤ q) s (fW ad cI cS σ ++ mW am cI ρ) H locs → W p l e room_1 s m #[Value.ref b] below meth c H locs 600000 7302250 Q (F0 m 1294 ls [])) : W p l e room_1 s m #[Value.ref b] below meth c H locs 600000 7302250 Q (F0 m 517 ls []) := by
  obtain ⟨Fc, hE, hX, hbl, hL⟩ := K0
  obtain ⟨hx, hb, hml, hown, hts, hKN⟩ := id Fc
  have hA : ∀ q : Nat, s.heap.size ≤ q → (fun q : Nat => s.heap.size ≤ q) q := fun _ h => h
  have hbA : ¬ (fun q : Nat => s.heap.size ≤ q) b := Nat.not_le.mpr hbl
  obtain ⟨r, σ', ρ', h1, h2, h3⟩ := sim_renew (by omega) h (xs (i + 1))
  refine lv_aload_n hx hb dL_law_517 rfl (lv_at hl 1 rfl) ?_
  refine lv_aload_n hx hb dL_law_518 rfl (lv_at hl 0 rfl) ?_
  refine lv_iload_n hx hb dL_law_519 rfl (lv_at hl 3 rfl) ?_
  refine lv_iconst (v := (1 : Int32)) hx hb dL_law_520 (by decide) ?_
  refine lv_iadd hx hb dL_law_521 ?_
  rw [nI_1]
  refine va_sld hx hb hX hbl hbA Z.2.2 (vp_in_nI (by omega) (by omega)) dL_law_522 ?_
  rw [nI_clamp (by omega)]
  refine km_i (q := (r, σ')) (As := [.int (xs (i + 1))]) (ok := OKF) Fc hA Z (Lens.tail (mW am cI ρ)) (c_X4_renew l D cI cS ad σ h.1 (xs (i + 1)) (r, σ') h1) mL_RL_61 v_X4_renew ⟨rfl, rfl⟩ ⟨Nat.le_of_ble_eq_true rfl, Nat.le_of_ble_eq_true rfl⟩ ⟨Nat.le_of_ble_eq_true rfl, Nat.le_of_ble_eq_true rfl⟩ 0 4 rfl rfl rfl hl (Nat.le_of_ble_eq_true rfl) dL_law_523 rfl (fun H locs ok1 Z => ?_)
  refine lv_aload_n hx hb dL_law_526 rfl (lv_at hl 2 rfl) ?_
  refine lv_aload_n hx hb dL_law_527 rfl (lv_at hl 0 rfl) ?_
  refine lv_iload_n hx hb dL_law_528 rfl (lv_at hl 3 rfl) ?_
  refine lv_iconst (v := (1 : Int32)) hx hb dL_law_529 (by decide) ?_
  refine lv_iadd hx hb dL_law_530 ?_
  rw [nI_1]
  refine va_sld hx hb hX hbl hbA Z.2.2 (vp_in_nI (by omega) (by omega)) dL_law_531 ?_
  rw [nI_clamp (by omega)]
  refine km_i (q := (r, ρ')) (As := [.int (xs (i + 1))]) (ok := fun _ => True) Fc hA Z Lens.lm (c_X5_renew l D cI cS am ρ (xs (i + 1)) (r, ρ') h2) mL_RL_64 v_X5_renew ⟨rfl, rfl⟩ ⟨Nat.le_of_ble_eq_true rfl, Nat.le_of_ble_eq_true rfl⟩ ⟨Nat.le_of_ble_eq_true rfl, Nat.le_of_ble_eq_true rfl⟩ 128 5 rfl rfl rfl hl (Nat.le_of_ble_eq_true rfl) dL_law_532 rfl (fun H locs _ Z => ?_)
  refine lv_icmp_eq (tgt := 1294) hx hb dL_law_535 (by decide) (fun _ => ?_) (fun c1 => absurd rfl c1)
  exact next σ' ρ' _ _ h3 Z
set_option maxHeartbeats 4000000 in
set_option maxRecDepth 100000 in
theorem law_c12 {p : Program} {l : Launch} {e : Env} {s : State} {m : MethodId} {below : List Frame} {meth : Method} {c : Code} {b L : Nat} {xs : Nat → Int32} {D : va_G} {cI cS : ClassId} {tF tL tH : Nat} {Q : State → Prop} (K0 : LwC p m c s b L xs D cI cS tF tL tH) {ad am : Nat → Nat} {i : Nat} (hi : i + 4 ≤ L) {σ : Fs} {ρ : Ms} (h : RR (1500 * i) σ ρ) {H : Heap} {locs : List Loc} {ls : Array Slot} (Z : Ix D (fun q => s.heap.size ≤ q) s (fW ad cI cS σ ++ mW am cI ρ) H locs) (hl : lv_has ls 4 [(0, .ref b), (1, .ref (ad 0)), (2, .ref (am 0)), (3, .int (nI i))]) (next : ∀ (σ : Fs) (ρ : Ms) (H : Heap) (locs : List Loc), RR (1500 * i + 6000) σ ρ → Ix D (fun q => s.heap.size ≤ q) s (fW ad cI cS σ ++ mW am cI ρ) H locs → W p l e room_1 s m #[Value.ref b] below meth c H locs 600000 7302250 Q (F0 m 1294 ls [])) : W p l e room_1 s m #[Value.ref b] below meth c H locs 600000 7302250 Q (F0 m 540 ls []) := by
  obtain ⟨Fc, hE, hX, hbl, hL⟩ := K0
  obtain ⟨hx, hb, hml, hown, hts, hKN⟩ := id Fc
  have hA : ∀ q : Nat, s.heap.size ≤ q → (fun q : Nat => s.heap.size ≤ q) q := fun _ h => h
  have hbA : ¬ (fun q : Nat => s.heap.size ≤ q) b := Nat.not_le.mpr hbl
  obtain ⟨r, σ', ρ', h1, h2, h3⟩ := sim_claim (by omega) h (xs (i + 1))
  refine lv_aload_n hx hb dL_law_540 rfl (lv_at hl 1 rfl) ?_
  refine lv_aload_n hx hb dL_law_541 rfl (lv_at hl 0 rfl) ?_
  refine lv_iload_n hx hb dL_law_542 rfl (lv_at hl 3 rfl) ?_
  refine lv_iconst (v := (1 : Int32)) hx hb dL_law_543 (by decide) ?_
  refine lv_iadd hx hb dL_law_544 ?_
  rw [nI_1]
  refine va_sld hx hb hX hbl hbA Z.2.2 (vp_in_nI (by omega) (by omega)) dL_law_545 ?_
  rw [nI_clamp (by omega)]
  refine km_i (q := (r, σ')) (As := [.int (xs (i + 1))]) (ok := OKF) Fc hA Z (Lens.tail (mW am cI ρ)) (c_X4_claim l D cI cS ad σ h.1 (xs (i + 1)) (r, σ') h1) mL_RL_65 v_X4_claim ⟨rfl, rfl⟩ ⟨Nat.le_of_ble_eq_true rfl, Nat.le_of_ble_eq_true rfl⟩ ⟨Nat.le_of_ble_eq_true rfl, Nat.le_of_ble_eq_true rfl⟩ 0 4 rfl rfl rfl hl (Nat.le_of_ble_eq_true rfl) dL_law_546 rfl (fun H locs ok1 Z => ?_)
  refine lv_aload_n hx hb dL_law_549 rfl (lv_at hl 2 rfl) ?_
  refine lv_aload_n hx hb dL_law_550 rfl (lv_at hl 0 rfl) ?_
  refine lv_iload_n hx hb dL_law_551 rfl (lv_at hl 3 rfl) ?_
  refine lv_iconst (v := (1 : Int32)) hx hb dL_law_552 (by decide) ?_
  refine lv_iadd hx hb dL_law_553 ?_
  rw [nI_1]
  refine va_sld hx hb hX hbl hbA Z.2.2 (vp_in_nI (by omega) (by omega)) dL_law_554 ?_
  rw [nI_clamp (by omega)]
  refine km_i (q := (r, ρ')) (As := [.int (xs (i + 1))]) (ok := fun _ => True) Fc hA Z Lens.lm (c_X5_claim l D cI cS am ρ (xs (i + 1)) (r, ρ') h2) mL_RL_68 v_X5_claim ⟨rfl, rfl⟩ ⟨Nat.le_of_ble_eq_true rfl, Nat.le_of_ble_eq_true rfl⟩ ⟨Nat.le_of_ble_eq_true rfl, Nat.le_of_ble_eq_true rfl⟩ 128 5 rfl rfl rfl hl (Nat.le_of_ble_eq_true rfl) dL_law_555 rfl (fun H locs _ Z => ?_)
  refine lv_icmp_eq (tgt := 1294) hx hb dL_law_558 (by decide) (fun _ => ?_) (fun c1 => absurd rfl c1)
  exact next σ' ρ' _ _ h3 Z
set_option maxHeartbeats 4000000 in
set_option maxRecDepth 100000 in
theorem law_c13 {p : Program} {l : Launch} {e : Env} {s : State} {m : MethodId} {below : List Frame} {meth : Method} {c : Code} {b L : Nat} {xs : Nat → Int32} {D : va_G} {cI cS : ClassId} {tF tL tH : Nat} {Q : State → Prop} (K0 : LwC p m c s b L xs D cI cS tF tL tH) {ad am : Nat → Nat} {i : Nat} (hi : i + 4 ≤ L) {σ : Fs} {ρ : Ms} (h : RR (1500 * i) σ ρ) {H : Heap} {locs : List Loc} {ls : Array Slot} (Z : Ix D (fun q => s.heap.size ≤ q) s (fW ad cI cS σ ++ mW am cI ρ) H locs) (hl : lv_has ls 4 [(0, .ref b), (1, .ref (ad 0)), (2, .ref (am 0)), (3, .int (nI i))]) (next : ∀ (σ : Fs) (ρ : Ms) (H : Heap) (locs : List Loc), RR (1500 * i + 6000) σ ρ → Ix D (fun q => s.heap.size ≤ q) s (fW ad cI cS σ ++ mW am cI ρ) H locs → W p l e room_1 s m #[Value.ref b] below meth c H locs 600000 7302250 Q (F0 m 1294 ls [])) : W p l e room_1 s m #[Value.ref b] below meth c H locs 600000 7302250 Q (F0 m 563 ls []) := by
  obtain ⟨Fc, hE, hX, hbl, hL⟩ := K0
  obtain ⟨hx, hb, hml, hown, hts, hKN⟩ := id Fc
  have hA : ∀ q : Nat, s.heap.size ≤ q → (fun q : Nat => s.heap.size ≤ q) q := fun _ h => h
  have hbA : ¬ (fun q : Nat => s.heap.size ≤ q) b := Nat.not_le.mpr hbl
  obtain ⟨r, σ', ρ', h1, h2, h3⟩ := sim_lose (by omega) h (xs (i + 1))
  refine lv_aload_n hx hb dL_law_563 rfl (lv_at hl 1 rfl) ?_
  refine lv_aload_n hx hb dL_law_564 rfl (lv_at hl 0 rfl) ?_
  refine lv_iload_n hx hb dL_law_565 rfl (lv_at hl 3 rfl) ?_
  refine lv_iconst (v := (1 : Int32)) hx hb dL_law_566 (by decide) ?_
  refine lv_iadd hx hb dL_law_567 ?_
  rw [nI_1]
  refine va_sld hx hb hX hbl hbA Z.2.2 (vp_in_nI (by omega) (by omega)) dL_law_568 ?_
  rw [nI_clamp (by omega)]
  refine km_i (q := (r, σ')) (As := [.int (xs (i + 1))]) (ok := OKF) Fc hA Z (Lens.tail (mW am cI ρ)) (c_X4_lose l D cI cS ad σ h.1 (xs (i + 1)) (r, σ') h1) mL_RL_69 v_X4_lose ⟨rfl, rfl⟩ ⟨Nat.le_of_ble_eq_true rfl, Nat.le_of_ble_eq_true rfl⟩ ⟨Nat.le_of_ble_eq_true rfl, Nat.le_of_ble_eq_true rfl⟩ 0 4 rfl rfl rfl hl (Nat.le_of_ble_eq_true rfl) dL_law_569 rfl (fun H locs ok1 Z => ?_)
  refine lv_aload_n hx hb dL_law_572 rfl (lv_at hl 2 rfl) ?_
  refine lv_aload_n hx hb dL_law_573 rfl (lv_at hl 0 rfl) ?_
  refine lv_iload_n hx hb dL_law_574 rfl (lv_at hl 3 rfl) ?_
  refine lv_iconst (v := (1 : Int32)) hx hb dL_law_575 (by decide) ?_
  refine lv_iadd hx hb dL_law_576 ?_
  rw [nI_1]
  refine va_sld hx hb hX hbl hbA Z.2.2 (vp_in_nI (by omega) (by omega)) dL_law_577 ?_
  rw [nI_clamp (by omega)]
  refine km_i (q := (r, ρ')) (As := [.int (xs (i + 1))]) (ok := fun _ => True) Fc hA Z Lens.lm (c_X5_lose l D cI cS am ρ (xs (i + 1)) (r, ρ') h2) mL_RL_72 v_X5_lose ⟨rfl, rfl⟩ ⟨Nat.le_of_ble_eq_true rfl, Nat.le_of_ble_eq_true rfl⟩ ⟨Nat.le_of_ble_eq_true rfl, Nat.le_of_ble_eq_true rfl⟩ 128 5 rfl rfl rfl hl (Nat.le_of_ble_eq_true rfl) dL_law_578 rfl (fun H locs _ Z => ?_)
  refine lv_icmp_eq (tgt := 1294) hx hb dL_law_581 (by decide) (fun _ => ?_) (fun c1 => absurd rfl c1)
  exact next σ' ρ' _ _ h3 Z
set_option maxHeartbeats 4000000 in
set_option maxRecDepth 100000 in
theorem law_c14 {p : Program} {l : Launch} {e : Env} {s : State} {m : MethodId} {below : List Frame} {meth : Method} {c : Code} {b L : Nat} {xs : Nat → Int32} {D : va_G} {cI cS : ClassId} {tF tL tH : Nat} {Q : State → Prop} (K0 : LwC p m c s b L xs D cI cS tF tL tH) {ad am : Nat → Nat} {i : Nat} (hi : i + 4 ≤ L) {σ : Fs} {ρ : Ms} (h : RR (1500 * i) σ ρ) {H : Heap} {locs : List Loc} {ls : Array Slot} (Z : Ix D (fun q => s.heap.size ≤ q) s (fW ad cI cS σ ++ mW am cI ρ) H locs) (hl : lv_has ls 4 [(0, .ref b), (1, .ref (ad 0)), (2, .ref (am 0)), (3, .int (nI i))]) (next : ∀ (σ : Fs) (ρ : Ms) (H : Heap) (locs : List Loc), RR (1500 * i + 6000) σ ρ → Ix D (fun q => s.heap.size ≤ q) s (fW ad cI cS σ ++ mW am cI ρ) H locs → W p l e room_1 s m #[Value.ref b] below meth c H locs 600000 7302250 Q (F0 m 1294 ls [])) : W p l e room_1 s m #[Value.ref b] below meth c H locs 600000 7302250 Q (F0 m 586 ls []) := by
  obtain ⟨Fc, hE, hX, hbl, hL⟩ := K0
  obtain ⟨hx, hb, hml, hown, hts, hKN⟩ := id Fc
  have hA : ∀ q : Nat, s.heap.size ≤ q → (fun q : Nat => s.heap.size ≤ q) q := fun _ h => h
  have hbA : ¬ (fun q : Nat => s.heap.size ≤ q) b := Nat.not_le.mpr hbl
  obtain ⟨r, σ', ρ', h1, h2, h3⟩ := sim_hold (by omega) h (xs (i + 1)) (xs (i + 2)) (xs (i + 3))
  refine lv_aload_n hx hb dL_law_586 rfl (lv_at hl 1 rfl) ?_
  refine lv_aload_n hx hb dL_law_587 rfl (lv_at hl 0 rfl) ?_
  refine lv_iload_n hx hb dL_law_588 rfl (lv_at hl 3 rfl) ?_
  refine lv_iconst (v := (1 : Int32)) hx hb dL_law_589 (by decide) ?_
  refine lv_iadd hx hb dL_law_590 ?_
  rw [nI_1]
  refine va_sld hx hb hX hbl hbA Z.2.2 (vp_in_nI (by omega) (by omega)) dL_law_591 ?_
  rw [nI_clamp (by omega)]
  refine lv_aload_n hx hb dL_law_592 rfl (lv_at hl 0 rfl) ?_
  refine lv_iload_n hx hb dL_law_593 rfl (lv_at hl 3 rfl) ?_
  refine lv_iconst (v := (2 : Int32)) hx hb dL_law_594 (by decide) ?_
  refine lv_iadd hx hb dL_law_595 ?_
  rw [la2]
  refine va_sld hx hb hX hbl hbA Z.2.2 (vp_in_nI (by omega) (by omega)) dL_law_596 ?_
  rw [nI_clamp (by omega)]
  refine lv_aload_n hx hb dL_law_597 rfl (lv_at hl 0 rfl) ?_
  refine lv_iload_n hx hb dL_law_598 rfl (lv_at hl 3 rfl) ?_
  refine lv_iconst (v := (3 : Int32)) hx hb dL_law_599 (by decide) ?_
  refine lv_iadd hx hb dL_law_600 ?_
  rw [la3]
  refine va_sld hx hb hX hbl hbA Z.2.2 (vp_in_nI (by omega) (by omega)) dL_law_601 ?_
  rw [nI_clamp (by omega)]
  refine km_i (q := (r, σ')) (As := [.int (xs (i + 1)), .int (xs (i + 2)), .int (xs (i + 3))]) (ok := OKF) Fc hA Z (Lens.tail (mW am cI ρ)) (c_X4_hold l D cI cS ad σ h.1 (xs (i + 1)) (xs (i + 2)) (xs (i + 3)) (r, σ') h1) mL_RL_73 v_X4_hold ⟨rfl, rfl⟩ ⟨Nat.le_of_ble_eq_true rfl, Nat.le_of_ble_eq_true rfl⟩ ⟨Nat.le_of_ble_eq_true rfl, Nat.le_of_ble_eq_true rfl⟩ 0 4 rfl rfl rfl hl (Nat.le_of_ble_eq_true rfl) dL_law_602 rfl (fun H locs ok1 Z => ?_)
  refine lv_aload_n hx hb dL_law_605 rfl (lv_at hl 2 rfl) ?_
  refine lv_aload_n hx hb dL_law_606 rfl (lv_at hl 0 rfl) ?_
  refine lv_iload_n hx hb dL_law_607 rfl (lv_at hl 3 rfl) ?_
  refine lv_iconst (v := (1 : Int32)) hx hb dL_law_608 (by decide) ?_
  refine lv_iadd hx hb dL_law_609 ?_
  rw [nI_1]
  refine va_sld hx hb hX hbl hbA Z.2.2 (vp_in_nI (by omega) (by omega)) dL_law_610 ?_
  rw [nI_clamp (by omega)]
  refine lv_aload_n hx hb dL_law_611 rfl (lv_at hl 0 rfl) ?_
  refine lv_iload_n hx hb dL_law_612 rfl (lv_at hl 3 rfl) ?_
  refine lv_iconst (v := (2 : Int32)) hx hb dL_law_613 (by decide) ?_
  refine lv_iadd hx hb dL_law_614 ?_
  rw [la2]
  refine va_sld hx hb hX hbl hbA Z.2.2 (vp_in_nI (by omega) (by omega)) dL_law_615 ?_
  rw [nI_clamp (by omega)]
  refine lv_aload_n hx hb dL_law_616 rfl (lv_at hl 0 rfl) ?_
  refine lv_iload_n hx hb dL_law_617 rfl (lv_at hl 3 rfl) ?_
  refine lv_iconst (v := (3 : Int32)) hx hb dL_law_618 (by decide) ?_
  refine lv_iadd hx hb dL_law_619 ?_
  rw [la3]
  refine va_sld hx hb hX hbl hbA Z.2.2 (vp_in_nI (by omega) (by omega)) dL_law_620 ?_
  rw [nI_clamp (by omega)]
  refine km_i (q := (r, ρ')) (As := [.int (xs (i + 1)), .int (xs (i + 2)), .int (xs (i + 3))]) (ok := fun _ => True) Fc hA Z Lens.lm (c_X5_hold_ l D cI cS am ρ (xs (i + 1)) (xs (i + 2)) (xs (i + 3)) (r, ρ') h2) mL_RL_77 v_X5_hold_ ⟨rfl, rfl⟩ ⟨Nat.le_of_ble_eq_true rfl, Nat.le_of_ble_eq_true rfl⟩ ⟨Nat.le_of_ble_eq_true rfl, Nat.le_of_ble_eq_true rfl⟩ 128 5 rfl rfl rfl hl (Nat.le_of_ble_eq_true rfl) dL_law_621 rfl (fun H locs _ Z => ?_)
  refine lv_icmp_eq (tgt := 1294) hx hb dL_law_624 (by decide) (fun _ => ?_) (fun c1 => absurd rfl c1)
  exact next σ' ρ' _ _ h3 Z
set_option maxHeartbeats 4000000 in
set_option maxRecDepth 100000 in
theorem law_c15 {p : Program} {l : Launch} {e : Env} {s : State} {m : MethodId} {below : List Frame} {meth : Method} {c : Code} {b L : Nat} {xs : Nat → Int32} {D : va_G} {cI cS : ClassId} {tF tL tH : Nat} {Q : State → Prop} (K0 : LwC p m c s b L xs D cI cS tF tL tH) {ad am : Nat → Nat} {i : Nat} (hi : i + 4 ≤ L) {σ : Fs} {ρ : Ms} (h : RR (1500 * i) σ ρ) {H : Heap} {locs : List Loc} {ls : Array Slot} (Z : Ix D (fun q => s.heap.size ≤ q) s (fW ad cI cS σ ++ mW am cI ρ) H locs) (hl : lv_has ls 4 [(0, .ref b), (1, .ref (ad 0)), (2, .ref (am 0)), (3, .int (nI i))]) (next : ∀ (σ : Fs) (ρ : Ms) (H : Heap) (locs : List Loc), RR (1500 * i + 6000) σ ρ → Ix D (fun q => s.heap.size ≤ q) s (fW ad cI cS σ ++ mW am cI ρ) H locs → W p l e room_1 s m #[Value.ref b] below meth c H locs 600000 7302250 Q (F0 m 1294 ls [])) : W p l e room_1 s m #[Value.ref b] below meth c H locs 600000 7302250 Q (F0 m 629 ls []) := by
  obtain ⟨Fc, hE, hX, hbl, hL⟩ := K0
  obtain ⟨hx, hb, hml, hown, hts, hKN⟩ := id Fc
  have hA : ∀ q : Nat, s.heap.size ≤ q → (fun q : Nat => s.heap.size ≤ q) q := fun _ h => h
  have hbA : ¬ (fun q : Nat => s.heap.size ≤ q) b := Nat.not_le.mpr hbl
  obtain ⟨r, σ', ρ', h1, h2, h3⟩ := sim_cancelHold (by omega) h (xs (i + 1)) (xs (i + 2))
  refine lv_aload_n hx hb dL_law_629 rfl (lv_at hl 1 rfl) ?_
  refine lv_aload_n hx hb dL_law_630 rfl (lv_at hl 0 rfl) ?_
  refine lv_iload_n hx hb dL_law_631 rfl (lv_at hl 3 rfl) ?_
  refine lv_iconst (v := (1 : Int32)) hx hb dL_law_632 (by decide) ?_
  refine lv_iadd hx hb dL_law_633 ?_
  rw [nI_1]
  refine va_sld hx hb hX hbl hbA Z.2.2 (vp_in_nI (by omega) (by omega)) dL_law_634 ?_
  rw [nI_clamp (by omega)]
  refine lv_aload_n hx hb dL_law_635 rfl (lv_at hl 0 rfl) ?_
  refine lv_iload_n hx hb dL_law_636 rfl (lv_at hl 3 rfl) ?_
  refine lv_iconst (v := (2 : Int32)) hx hb dL_law_637 (by decide) ?_
  refine lv_iadd hx hb dL_law_638 ?_
  rw [la2]
  refine va_sld hx hb hX hbl hbA Z.2.2 (vp_in_nI (by omega) (by omega)) dL_law_639 ?_
  rw [nI_clamp (by omega)]
  refine km_i (q := (r, σ')) (As := [.int (xs (i + 1)), .int (xs (i + 2))]) (ok := OKF) Fc hA Z (Lens.tail (mW am cI ρ)) (c_X4_cancelHold l D cI cS ad σ h.1 (xs (i + 1)) (xs (i + 2)) (r, σ') h1) mL_RL_78 v_X4_cancelHold ⟨rfl, rfl⟩ ⟨Nat.le_of_ble_eq_true rfl, Nat.le_of_ble_eq_true rfl⟩ ⟨Nat.le_of_ble_eq_true rfl, Nat.le_of_ble_eq_true rfl⟩ 0 4 rfl rfl rfl hl (Nat.le_of_ble_eq_true rfl) dL_law_640 rfl (fun H locs ok1 Z => ?_)
  refine lv_aload_n hx hb dL_law_643 rfl (lv_at hl 2 rfl) ?_
  refine lv_aload_n hx hb dL_law_644 rfl (lv_at hl 0 rfl) ?_
  refine lv_iload_n hx hb dL_law_645 rfl (lv_at hl 3 rfl) ?_
  refine lv_iconst (v := (1 : Int32)) hx hb dL_law_646 (by decide) ?_
  refine lv_iadd hx hb dL_law_647 ?_
  rw [nI_1]
  refine va_sld hx hb hX hbl hbA Z.2.2 (vp_in_nI (by omega) (by omega)) dL_law_648 ?_
  rw [nI_clamp (by omega)]
  refine lv_aload_n hx hb dL_law_649 rfl (lv_at hl 0 rfl) ?_
  refine lv_iload_n hx hb dL_law_650 rfl (lv_at hl 3 rfl) ?_
  refine lv_iconst (v := (2 : Int32)) hx hb dL_law_651 (by decide) ?_
  refine lv_iadd hx hb dL_law_652 ?_
  rw [la2]
  refine va_sld hx hb hX hbl hbA Z.2.2 (vp_in_nI (by omega) (by omega)) dL_law_653 ?_
  rw [nI_clamp (by omega)]
  refine km_i (q := (r, ρ')) (As := [.int (xs (i + 1)), .int (xs (i + 2))]) (ok := fun _ => True) Fc hA Z Lens.lm (c_X5_cancelHold l D cI cS am ρ (xs (i + 1)) (xs (i + 2)) (r, ρ') h2) mL_RL_81 v_X5_cancelHold ⟨rfl, rfl⟩ ⟨Nat.le_of_ble_eq_true rfl, Nat.le_of_ble_eq_true rfl⟩ ⟨Nat.le_of_ble_eq_true rfl, Nat.le_of_ble_eq_true rfl⟩ 128 5 rfl rfl rfl hl (Nat.le_of_ble_eq_true rfl) dL_law_654 rfl (fun H locs _ Z => ?_)
  refine lv_icmp_eq (tgt := 1294) hx hb dL_law_657 (by decide) (fun _ => ?_) (fun c1 => absurd rfl c1)
  exact next σ' ρ' _ _ h3 Z
set_option maxHeartbeats 4000000 in
set_option maxRecDepth 100000 in
theorem law_c16 {p : Program} {l : Launch} {e : Env} {s : State} {m : MethodId} {below : List Frame} {meth : Method} {c : Code} {b L : Nat} {xs : Nat → Int32} {D : va_G} {cI cS : ClassId} {tF tL tH : Nat} {Q : State → Prop} (K0 : LwC p m c s b L xs D cI cS tF tL tH) {ad am : Nat → Nat} {i : Nat} (hi : i + 4 ≤ L) {σ : Fs} {ρ : Ms} (h : RR (1500 * i) σ ρ) {H : Heap} {locs : List Loc} {ls : Array Slot} (Z : Ix D (fun q => s.heap.size ≤ q) s (fW ad cI cS σ ++ mW am cI ρ) H locs) (hl : lv_has ls 4 [(0, .ref b), (1, .ref (ad 0)), (2, .ref (am 0)), (3, .int (nI i))]) (next : ∀ (σ : Fs) (ρ : Ms) (H : Heap) (locs : List Loc), RR (1500 * i + 6000) σ ρ → Ix D (fun q => s.heap.size ≤ q) s (fW ad cI cS σ ++ mW am cI ρ) H locs → W p l e room_1 s m #[Value.ref b] below meth c H locs 600000 7302250 Q (F0 m 1294 ls [])) : W p l e room_1 s m #[Value.ref b] below meth c H locs 600000 7302250 Q (F0 m 662 ls []) := by
  obtain ⟨Fc, hE, hX, hbl, hL⟩ := K0
  obtain ⟨hx, hb, hml, hown, hts, hKN⟩ := id Fc
  have hA : ∀ q : Nat, s.heap.size ≤ q → (fun q : Nat => s.heap.size ≤ q) q := fun _ h => h
  have hbA : ¬ (fun q : Nat => s.heap.size ≤ q) b := Nat.not_le.mpr hbl
  obtain ⟨r, h1, h2⟩ := sim_reason (by omega) h (xs (i + 1)) (xs (i + 2)) (xs (i + 3))
  refine lv_aload_n hx hb dL_law_662 rfl (lv_at hl 1 rfl) ?_
  refine lv_aload_n hx hb dL_law_663 rfl (lv_at hl 0 rfl) ?_
  refine lv_iload_n hx hb dL_law_664 rfl (lv_at hl 3 rfl) ?_
  refine lv_iconst (v := (1 : Int32)) hx hb dL_law_665 (by decide) ?_
  refine lv_iadd hx hb dL_law_666 ?_
  rw [nI_1]
  refine va_sld hx hb hX hbl hbA Z.2.2 (vp_in_nI (by omega) (by omega)) dL_law_667 ?_
  rw [nI_clamp (by omega)]
  refine lv_aload_n hx hb dL_law_668 rfl (lv_at hl 0 rfl) ?_
  refine lv_iload_n hx hb dL_law_669 rfl (lv_at hl 3 rfl) ?_
  refine lv_iconst (v := (2 : Int32)) hx hb dL_law_670 (by decide) ?_
  refine lv_iadd hx hb dL_law_671 ?_
  rw [la2]
  refine va_sld hx hb hX hbl hbA Z.2.2 (vp_in_nI (by omega) (by omega)) dL_law_672 ?_
  rw [nI_clamp (by omega)]
  refine lv_aload_n hx hb dL_law_673 rfl (lv_at hl 0 rfl) ?_
  refine lv_iload_n hx hb dL_law_674 rfl (lv_at hl 3 rfl) ?_
  refine lv_iconst (v := (3 : Int32)) hx hb dL_law_675 (by decide) ?_
  refine lv_iadd hx hb dL_law_676 ?_
  rw [la3]
  refine va_sld hx hb hX hbl hbA Z.2.2 (vp_in_nI (by omega) (by omega)) dL_law_677 ?_
  rw [nI_clamp (by omega)]
  refine kr_i (As := [.int (xs (i + 1)), .int (xs (i + 2)), .int (xs (i + 3))]) Fc hA Z Lens.lc (c_X4_reason l D cI cS ad σ.2.1 σ.1 h.1.1 (xs (i + 1)) (xs (i + 2)) (xs (i + 3)) r h1) mL_RL_82 v_X4_reason ⟨rfl, rfl⟩ ⟨Nat.le_of_ble_eq_true rfl, Nat.le_of_ble_eq_true rfl⟩ ⟨Nat.le_of_ble_eq_true rfl, Nat.le_of_ble_eq_true rfl⟩ 0 4 rfl rfl rfl hl (Nat.le_of_ble_eq_true rfl) dL_law_678 rfl (fun H locs Z => ?_)
  refine lv_aload_n hx hb dL_law_681 rfl (lv_at hl 2 rfl) ?_
  refine lv_aload_n hx hb dL_law_682 rfl (lv_at hl 0 rfl) ?_
  refine lv_iload_n hx hb dL_law_683 rfl (lv_at hl 3 rfl) ?_
  refine lv_iconst (v := (1 : Int32)) hx hb dL_law_684 (by decide) ?_
  refine lv_iadd hx hb dL_law_685 ?_
  rw [nI_1]
  refine va_sld hx hb hX hbl hbA Z.2.2 (vp_in_nI (by omega) (by omega)) dL_law_686 ?_
  rw [nI_clamp (by omega)]
  refine lv_aload_n hx hb dL_law_687 rfl (lv_at hl 0 rfl) ?_
  refine lv_iload_n hx hb dL_law_688 rfl (lv_at hl 3 rfl) ?_
  refine lv_iconst (v := (2 : Int32)) hx hb dL_law_689 (by decide) ?_
  refine lv_iadd hx hb dL_law_690 ?_
  rw [la2]
  refine va_sld hx hb hX hbl hbA Z.2.2 (vp_in_nI (by omega) (by omega)) dL_law_691 ?_
  rw [nI_clamp (by omega)]
  refine lv_aload_n hx hb dL_law_692 rfl (lv_at hl 0 rfl) ?_
  refine lv_iload_n hx hb dL_law_693 rfl (lv_at hl 3 rfl) ?_
  refine lv_iconst (v := (3 : Int32)) hx hb dL_law_694 (by decide) ?_
  refine lv_iadd hx hb dL_law_695 ?_
  rw [la3]
  refine va_sld hx hb hX hbl hbA Z.2.2 (vp_in_nI (by omega) (by omega)) dL_law_696 ?_
  rw [nI_clamp (by omega)]
  refine kr_i (As := [.int (xs (i + 1)), .int (xs (i + 2)), .int (xs (i + 3))]) Fc hA Z Lens.lm (c_X5_reason l D cI cS am ρ (xs (i + 1)) (xs (i + 2)) (xs (i + 3)) r h2) mL_RL_85 v_X5_reason ⟨rfl, rfl⟩ ⟨Nat.le_of_ble_eq_true rfl, Nat.le_of_ble_eq_true rfl⟩ ⟨Nat.le_of_ble_eq_true rfl, Nat.le_of_ble_eq_true rfl⟩ 128 5 rfl rfl rfl hl (Nat.le_of_ble_eq_true rfl) dL_law_697 rfl (fun H locs Z => ?_)
  refine lv_icmp_eq (tgt := 1294) hx hb dL_law_700 (by decide) (fun _ => ?_) (fun c1 => absurd rfl c1)
  exact next σ ρ _ _ (h.mono (by omega)) Z
set_option maxHeartbeats 4000000 in
set_option maxRecDepth 100000 in
theorem law_c17 {p : Program} {l : Launch} {e : Env} {s : State} {m : MethodId} {below : List Frame} {meth : Method} {c : Code} {b L : Nat} {xs : Nat → Int32} {D : va_G} {cI cS : ClassId} {tF tL tH : Nat} {Q : State → Prop} (K0 : LwC p m c s b L xs D cI cS tF tL tH) {ad am : Nat → Nat} {i : Nat} (hi : i + 4 ≤ L) {σ : Fs} {ρ : Ms} (h : RR (1500 * i) σ ρ) {H : Heap} {locs : List Loc} {ls : Array Slot} (Z : Ix D (fun q => s.heap.size ≤ q) s (fW ad cI cS σ ++ mW am cI ρ) H locs) (hl : lv_has ls 4 [(0, .ref b), (1, .ref (ad 0)), (2, .ref (am 0)), (3, .int (nI i))]) (next : ∀ (σ : Fs) (ρ : Ms) (H : Heap) (locs : List Loc), RR (1500 * i + 6000) σ ρ → Ix D (fun q => s.heap.size ≤ q) s (fW ad cI cS σ ++ mW am cI ρ) H locs → W p l e room_1 s m #[Value.ref b] below meth c H locs 600000 7302250 Q (F0 m 1294 ls [])) : W p l e room_1 s m #[Value.ref b] below meth c H locs 600000 7302250 Q (F0 m 705 ls []) := by
  obtain ⟨Fc, hE, hX, hbl, hL⟩ := K0
  obtain ⟨hx, hb, hml, hown, hts, hKN⟩ := id Fc
  have hA : ∀ q : Nat, s.heap.size ≤ q → (fun q : Nat => s.heap.size ≤ q) q := fun _ h => h
  have hbA : ¬ (fun q : Nat => s.heap.size ≤ q) b := Nat.not_le.mpr hbl
  obtain ⟨r, h1, h2⟩ := sim_holdCount (by omega) h (xs (i + 1))
  refine lv_aload_n hx hb dL_law_705 rfl (lv_at hl 1 rfl) ?_
  refine lv_aload_n hx hb dL_law_706 rfl (lv_at hl 0 rfl) ?_
  refine lv_iload_n hx hb dL_law_707 rfl (lv_at hl 3 rfl) ?_
  refine lv_iconst (v := (1 : Int32)) hx hb dL_law_708 (by decide) ?_
  refine lv_iadd hx hb dL_law_709 ?_
  rw [nI_1]
  refine va_sld hx hb hX hbl hbA Z.2.2 (vp_in_nI (by omega) (by omega)) dL_law_710 ?_
  rw [nI_clamp (by omega)]
  refine kr_i (As := [.int (xs (i + 1))]) Fc hA Z Lens.lc (c_X4_holdCount l D cI cS ad σ.2.1 σ.1 h.1.1 (xs (i + 1)) r h1) mL_RL_86 v_X4_holdCount ⟨rfl, rfl⟩ ⟨Nat.le_of_ble_eq_true rfl, Nat.le_of_ble_eq_true rfl⟩ ⟨Nat.le_of_ble_eq_true rfl, Nat.le_of_ble_eq_true rfl⟩ 0 4 rfl rfl rfl hl (Nat.le_of_ble_eq_true rfl) dL_law_711 rfl (fun H locs Z => ?_)
  refine lv_aload_n hx hb dL_law_714 rfl (lv_at hl 2 rfl) ?_
  refine lv_aload_n hx hb dL_law_715 rfl (lv_at hl 0 rfl) ?_
  refine lv_iload_n hx hb dL_law_716 rfl (lv_at hl 3 rfl) ?_
  refine lv_iconst (v := (1 : Int32)) hx hb dL_law_717 (by decide) ?_
  refine lv_iadd hx hb dL_law_718 ?_
  rw [nI_1]
  refine va_sld hx hb hX hbl hbA Z.2.2 (vp_in_nI (by omega) (by omega)) dL_law_719 ?_
  rw [nI_clamp (by omega)]
  refine kr_i (As := [.int (xs (i + 1))]) Fc hA Z Lens.lm (c_X5_holdCount l D cI cS am ρ (xs (i + 1)) r h2) mL_RL_89 v_X5_holdCount ⟨rfl, rfl⟩ ⟨Nat.le_of_ble_eq_true rfl, Nat.le_of_ble_eq_true rfl⟩ ⟨Nat.le_of_ble_eq_true rfl, Nat.le_of_ble_eq_true rfl⟩ 128 5 rfl rfl rfl hl (Nat.le_of_ble_eq_true rfl) dL_law_720 rfl (fun H locs Z => ?_)
  refine lv_icmp_eq (tgt := 1294) hx hb dL_law_723 (by decide) (fun _ => ?_) (fun c1 => absurd rfl c1)
  exact next σ ρ _ _ (h.mono (by omega)) Z
set_option maxHeartbeats 4000000 in
set_option maxRecDepth 100000 in
theorem law_c18 {p : Program} {l : Launch} {e : Env} {s : State} {m : MethodId} {below : List Frame} {meth : Method} {c : Code} {b L : Nat} {xs : Nat → Int32} {D : va_G} {cI cS : ClassId} {tF tL tH : Nat} {Q : State → Prop} (K0 : LwC p m c s b L xs D cI cS tF tL tH) {ad am : Nat → Nat} {i : Nat} (hi : i + 4 ≤ L) {σ : Fs} {ρ : Ms} (h : RR (1500 * i) σ ρ) {H : Heap} {locs : List Loc} {ls : Array Slot} (Z : Ix D (fun q => s.heap.size ≤ q) s (fW ad cI cS σ ++ mW am cI ρ) H locs) (hl : lv_has ls 4 [(0, .ref b), (1, .ref (ad 0)), (2, .ref (am 0)), (3, .int (nI i))]) (next : ∀ (σ : Fs) (ρ : Ms) (H : Heap) (locs : List Loc), RR (1500 * i + 6000) σ ρ → Ix D (fun q => s.heap.size ≤ q) s (fW ad cI cS σ ++ mW am cI ρ) H locs → W p l e room_1 s m #[Value.ref b] below meth c H locs 600000 7302250 Q (F0 m 1294 ls [])) : W p l e room_1 s m #[Value.ref b] below meth c H locs 600000 7302250 Q (F0 m 728 ls []) := by
  obtain ⟨Fc, hE, hX, hbl, hL⟩ := K0
  obtain ⟨hx, hb, hml, hown, hts, hKN⟩ := id Fc
  have hA : ∀ q : Nat, s.heap.size ≤ q → (fun q : Nat => s.heap.size ≤ q) q := fun _ h => h
  have hbA : ¬ (fun q : Nat => s.heap.size ≤ q) b := Nat.not_le.mpr hbl
  obtain ⟨r, h1, h2⟩ := sim_waiting (by omega) h (xs (i + 1))
  refine lv_aload_n hx hb dL_law_728 rfl (lv_at hl 1 rfl) ?_
  refine lv_aload_n hx hb dL_law_729 rfl (lv_at hl 0 rfl) ?_
  refine lv_iload_n hx hb dL_law_730 rfl (lv_at hl 3 rfl) ?_
  refine lv_iconst (v := (1 : Int32)) hx hb dL_law_731 (by decide) ?_
  refine lv_iadd hx hb dL_law_732 ?_
  rw [nI_1]
  refine va_sld hx hb hX hbl hbA Z.2.2 (vp_in_nI (by omega) (by omega)) dL_law_733 ?_
  rw [nI_clamp (by omega)]
  refine kr_i (As := [.int (xs (i + 1))]) Fc hA Z Lens.lc (c_X4_waiting l D cI cS ad σ.2.1 σ.1 h.1.1 (xs (i + 1)) r h1) mL_RL_90 v_X4_waiting ⟨rfl, rfl⟩ ⟨Nat.le_of_ble_eq_true rfl, Nat.le_of_ble_eq_true rfl⟩ ⟨Nat.le_of_ble_eq_true rfl, Nat.le_of_ble_eq_true rfl⟩ 0 4 rfl rfl rfl hl (Nat.le_of_ble_eq_true rfl) dL_law_734 rfl (fun H locs Z => ?_)
  refine lv_aload_n hx hb dL_law_737 rfl (lv_at hl 2 rfl) ?_
  refine lv_aload_n hx hb dL_law_738 rfl (lv_at hl 0 rfl) ?_
  refine lv_iload_n hx hb dL_law_739 rfl (lv_at hl 3 rfl) ?_
  refine lv_iconst (v := (1 : Int32)) hx hb dL_law_740 (by decide) ?_
  refine lv_iadd hx hb dL_law_741 ?_
  rw [nI_1]
  refine va_sld hx hb hX hbl hbA Z.2.2 (vp_in_nI (by omega) (by omega)) dL_law_742 ?_
  rw [nI_clamp (by omega)]
  refine kr_i (As := [.int (xs (i + 1))]) Fc hA Z Lens.lm (c_X5_waiting l D cI cS am ρ (xs (i + 1)) r h2) mL_RL_93 v_X5_waiting ⟨rfl, rfl⟩ ⟨Nat.le_of_ble_eq_true rfl, Nat.le_of_ble_eq_true rfl⟩ ⟨Nat.le_of_ble_eq_true rfl, Nat.le_of_ble_eq_true rfl⟩ 128 5 rfl rfl rfl hl (Nat.le_of_ble_eq_true rfl) dL_law_743 rfl (fun H locs Z => ?_)
  refine lv_icmp_eq (tgt := 1294) hx hb dL_law_746 (by decide) (fun _ => ?_) (fun c1 => absurd rfl c1)
  exact next σ ρ _ _ (h.mono (by omega)) Z
set_option maxHeartbeats 4000000 in
set_option maxRecDepth 100000 in
theorem law_c19 {p : Program} {l : Launch} {e : Env} {s : State} {m : MethodId} {below : List Frame} {meth : Method} {c : Code} {b L : Nat} {xs : Nat → Int32} {D : va_G} {cI cS : ClassId} {tF tL tH : Nat} {Q : State → Prop} (K0 : LwC p m c s b L xs D cI cS tF tL tH) {ad am : Nat → Nat} {i : Nat} (hi : i + 4 ≤ L) {σ : Fs} {ρ : Ms} (h : RR (1500 * i) σ ρ) {H : Heap} {locs : List Loc} {ls : Array Slot} (Z : Ix D (fun q => s.heap.size ≤ q) s (fW ad cI cS σ ++ mW am cI ρ) H locs) (hl : lv_has ls 4 [(0, .ref b), (1, .ref (ad 0)), (2, .ref (am 0)), (3, .int (nI i))]) (next : ∀ (σ : Fs) (ρ : Ms) (H : Heap) (locs : List Loc), RR (1500 * i + 6000) σ ρ → Ix D (fun q => s.heap.size ≤ q) s (fW ad cI cS σ ++ mW am cI ρ) H locs → W p l e room_1 s m #[Value.ref b] below meth c H locs 600000 7302250 Q (F0 m 1294 ls [])) : W p l e room_1 s m #[Value.ref b] below meth c H locs 600000 7302250 Q (F0 m 751 ls []) := by
  obtain ⟨Fc, hE, hX, hbl, hL⟩ := K0
  obtain ⟨hx, hb, hml, hown, hts, hKN⟩ := id Fc
  have hA : ∀ q : Nat, s.heap.size ≤ q → (fun q : Nat => s.heap.size ≤ q) q := fun _ h => h
  have hbA : ¬ (fun q : Nat => s.heap.size ≤ q) b := Nat.not_le.mpr hbl
  obtain ⟨r, h1, h2⟩ := sim_holdAt (by omega) h (xs (i + 1)) (xs (i + 2)) (xs (i + 3))
  refine lv_aload_n hx hb dL_law_751 rfl (lv_at hl 1 rfl) ?_
  refine lv_aload_n hx hb dL_law_752 rfl (lv_at hl 0 rfl) ?_
  refine lv_iload_n hx hb dL_law_753 rfl (lv_at hl 3 rfl) ?_
  refine lv_iconst (v := (1 : Int32)) hx hb dL_law_754 (by decide) ?_
  refine lv_iadd hx hb dL_law_755 ?_
  rw [nI_1]
  refine va_sld hx hb hX hbl hbA Z.2.2 (vp_in_nI (by omega) (by omega)) dL_law_756 ?_
  rw [nI_clamp (by omega)]
  refine lv_aload_n hx hb dL_law_757 rfl (lv_at hl 0 rfl) ?_
  refine lv_iload_n hx hb dL_law_758 rfl (lv_at hl 3 rfl) ?_
  refine lv_iconst (v := (2 : Int32)) hx hb dL_law_759 (by decide) ?_
  refine lv_iadd hx hb dL_law_760 ?_
  rw [la2]
  refine va_sld hx hb hX hbl hbA Z.2.2 (vp_in_nI (by omega) (by omega)) dL_law_761 ?_
  rw [nI_clamp (by omega)]
  refine lv_aload_n hx hb dL_law_762 rfl (lv_at hl 0 rfl) ?_
  refine lv_iload_n hx hb dL_law_763 rfl (lv_at hl 3 rfl) ?_
  refine lv_iconst (v := (3 : Int32)) hx hb dL_law_764 (by decide) ?_
  refine lv_iadd hx hb dL_law_765 ?_
  rw [la3]
  refine va_sld hx hb hX hbl hbA Z.2.2 (vp_in_nI (by omega) (by omega)) dL_law_766 ?_
  rw [nI_clamp (by omega)]
  refine kr_i (As := [.int (xs (i + 1)), .int (xs (i + 2)), .int (xs (i + 3))]) Fc hA Z Lens.lc (c_X4_holdAt l D cI cS ad σ.2.1 σ.1 h.1.1 (xs (i + 1)) (xs (i + 2)) (xs (i + 3)) r h1) mL_RL_94 v_X4_holdAt ⟨rfl, rfl⟩ ⟨Nat.le_of_ble_eq_true rfl, Nat.le_of_ble_eq_true rfl⟩ ⟨Nat.le_of_ble_eq_true rfl, Nat.le_of_ble_eq_true rfl⟩ 0 4 rfl rfl rfl hl (Nat.le_of_ble_eq_true rfl) dL_law_767 rfl (fun H locs Z => ?_)
  refine lv_aload_n hx hb dL_law_770 rfl (lv_at hl 2 rfl) ?_
  refine lv_aload_n hx hb dL_law_771 rfl (lv_at hl 0 rfl) ?_
  refine lv_iload_n hx hb dL_law_772 rfl (lv_at hl 3 rfl) ?_
  refine lv_iconst (v := (1 : Int32)) hx hb dL_law_773 (by decide) ?_
  refine lv_iadd hx hb dL_law_774 ?_
  rw [nI_1]
  refine va_sld hx hb hX hbl hbA Z.2.2 (vp_in_nI (by omega) (by omega)) dL_law_775 ?_
  rw [nI_clamp (by omega)]
  refine lv_aload_n hx hb dL_law_776 rfl (lv_at hl 0 rfl) ?_
  refine lv_iload_n hx hb dL_law_777 rfl (lv_at hl 3 rfl) ?_
  refine lv_iconst (v := (2 : Int32)) hx hb dL_law_778 (by decide) ?_
  refine lv_iadd hx hb dL_law_779 ?_
  rw [la2]
  refine va_sld hx hb hX hbl hbA Z.2.2 (vp_in_nI (by omega) (by omega)) dL_law_780 ?_
  rw [nI_clamp (by omega)]
  refine lv_aload_n hx hb dL_law_781 rfl (lv_at hl 0 rfl) ?_
  refine lv_iload_n hx hb dL_law_782 rfl (lv_at hl 3 rfl) ?_
  refine lv_iconst (v := (3 : Int32)) hx hb dL_law_783 (by decide) ?_
  refine lv_iadd hx hb dL_law_784 ?_
  rw [la3]
  refine va_sld hx hb hX hbl hbA Z.2.2 (vp_in_nI (by omega) (by omega)) dL_law_785 ?_
  rw [nI_clamp (by omega)]
  refine kr_i (As := [.int (xs (i + 1)), .int (xs (i + 2)), .int (xs (i + 3))]) Fc hA Z Lens.lm (c_X5_holdAt l D cI cS am ρ (xs (i + 1)) (xs (i + 2)) (xs (i + 3)) r h2) mL_RL_97 v_X5_holdAt ⟨rfl, rfl⟩ ⟨Nat.le_of_ble_eq_true rfl, Nat.le_of_ble_eq_true rfl⟩ ⟨Nat.le_of_ble_eq_true rfl, Nat.le_of_ble_eq_true rfl⟩ 128 5 rfl rfl rfl hl (Nat.le_of_ble_eq_true rfl) dL_law_786 rfl (fun H locs Z => ?_)
  refine lv_icmp_eq (tgt := 1294) hx hb dL_law_789 (by decide) (fun _ => ?_) (fun c1 => absurd rfl c1)
  exact next σ ρ _ _ (h.mono (by omega)) Z
set_option maxHeartbeats 4000000 in
set_option maxRecDepth 100000 in
theorem law_c20 {p : Program} {l : Launch} {e : Env} {s : State} {m : MethodId} {below : List Frame} {meth : Method} {c : Code} {b L : Nat} {xs : Nat → Int32} {D : va_G} {cI cS : ClassId} {tF tL tH : Nat} {Q : State → Prop} (K0 : LwC p m c s b L xs D cI cS tF tL tH) {ad am : Nat → Nat} {i : Nat} (hi : i + 4 ≤ L) {σ : Fs} {ρ : Ms} (h : RR (1500 * i) σ ρ) {H : Heap} {locs : List Loc} {ls : Array Slot} (Z : Ix D (fun q => s.heap.size ≤ q) s (fW ad cI cS σ ++ mW am cI ρ) H locs) (hl : lv_has ls 4 [(0, .ref b), (1, .ref (ad 0)), (2, .ref (am 0)), (3, .int (nI i))]) (next : ∀ (σ : Fs) (ρ : Ms) (H : Heap) (locs : List Loc), RR (1500 * i + 6000) σ ρ → Ix D (fun q => s.heap.size ≤ q) s (fW ad cI cS σ ++ mW am cI ρ) H locs → W p l e room_1 s m #[Value.ref b] below meth c H locs 600000 7302250 Q (F0 m 1294 ls [])) : W p l e room_1 s m #[Value.ref b] below meth c H locs 600000 7302250 Q (F0 m 794 ls []) := by
  obtain ⟨Fc, hE, hX, hbl, hL⟩ := K0
  obtain ⟨hx, hb, hml, hown, hts, hKN⟩ := id Fc
  have hA : ∀ q : Nat, s.heap.size ≤ q → (fun q : Nat => s.heap.size ≤ q) q := fun _ h => h
  have hbA : ¬ (fun q : Nat => s.heap.size ≤ q) b := Nat.not_le.mpr hbl
  obtain ⟨r, h1, h2⟩ := sim_place (by omega) h (xs (i + 1)) (xs (i + 2))
  refine lv_aload_n hx hb dL_law_794 rfl (lv_at hl 1 rfl) ?_
  refine lv_aload_n hx hb dL_law_795 rfl (lv_at hl 0 rfl) ?_
  refine lv_iload_n hx hb dL_law_796 rfl (lv_at hl 3 rfl) ?_
  refine lv_iconst (v := (1 : Int32)) hx hb dL_law_797 (by decide) ?_
  refine lv_iadd hx hb dL_law_798 ?_
  rw [nI_1]
  refine va_sld hx hb hX hbl hbA Z.2.2 (vp_in_nI (by omega) (by omega)) dL_law_799 ?_
  rw [nI_clamp (by omega)]
  refine lv_aload_n hx hb dL_law_800 rfl (lv_at hl 0 rfl) ?_
  refine lv_iload_n hx hb dL_law_801 rfl (lv_at hl 3 rfl) ?_
  refine lv_iconst (v := (2 : Int32)) hx hb dL_law_802 (by decide) ?_
  refine lv_iadd hx hb dL_law_803 ?_
  rw [la2]
  refine va_sld hx hb hX hbl hbA Z.2.2 (vp_in_nI (by omega) (by omega)) dL_law_804 ?_
  rw [nI_clamp (by omega)]
  refine kr_i (As := [.int (xs (i + 1)), .int (xs (i + 2))]) Fc hA Z Lens.lc (c_X4_place l D cI cS ad σ.2.1 σ.1 h.1.1 (xs (i + 1)) (xs (i + 2)) r h1) mL_RL_98 v_X4_place ⟨rfl, rfl⟩ ⟨Nat.le_of_ble_eq_true rfl, Nat.le_of_ble_eq_true rfl⟩ ⟨Nat.le_of_ble_eq_true rfl, Nat.le_of_ble_eq_true rfl⟩ 0 4 rfl rfl rfl hl (Nat.le_of_ble_eq_true rfl) dL_law_805 rfl (fun H locs Z => ?_)
  refine lv_aload_n hx hb dL_law_808 rfl (lv_at hl 2 rfl) ?_
  refine lv_aload_n hx hb dL_law_809 rfl (lv_at hl 0 rfl) ?_
  refine lv_iload_n hx hb dL_law_810 rfl (lv_at hl 3 rfl) ?_
  refine lv_iconst (v := (1 : Int32)) hx hb dL_law_811 (by decide) ?_
  refine lv_iadd hx hb dL_law_812 ?_
  rw [nI_1]
  refine va_sld hx hb hX hbl hbA Z.2.2 (vp_in_nI (by omega) (by omega)) dL_law_813 ?_
  rw [nI_clamp (by omega)]
  refine lv_aload_n hx hb dL_law_814 rfl (lv_at hl 0 rfl) ?_
  refine lv_iload_n hx hb dL_law_815 rfl (lv_at hl 3 rfl) ?_
  refine lv_iconst (v := (2 : Int32)) hx hb dL_law_816 (by decide) ?_
  refine lv_iadd hx hb dL_law_817 ?_
  rw [la2]
  refine va_sld hx hb hX hbl hbA Z.2.2 (vp_in_nI (by omega) (by omega)) dL_law_818 ?_
  rw [nI_clamp (by omega)]
  refine kr_i (As := [.int (xs (i + 1)), .int (xs (i + 2))]) Fc hA Z Lens.lm (c_X5_place l D cI cS am ρ (xs (i + 1)) (xs (i + 2)) r h2) mL_RL_101 v_X5_place ⟨rfl, rfl⟩ ⟨Nat.le_of_ble_eq_true rfl, Nat.le_of_ble_eq_true rfl⟩ ⟨Nat.le_of_ble_eq_true rfl, Nat.le_of_ble_eq_true rfl⟩ 128 5 rfl rfl rfl hl (Nat.le_of_ble_eq_true rfl) dL_law_819 rfl (fun H locs Z => ?_)
  refine lv_icmp_eq (tgt := 1294) hx hb dL_law_822 (by decide) (fun _ => ?_) (fun c1 => absurd rfl c1)
  exact next σ ρ _ _ (h.mono (by omega)) Z
set_option maxHeartbeats 4000000 in
set_option maxRecDepth 100000 in
theorem law_c21 {p : Program} {l : Launch} {e : Env} {s : State} {m : MethodId} {below : List Frame} {meth : Method} {c : Code} {b L : Nat} {xs : Nat → Int32} {D : va_G} {cI cS : ClassId} {tF tL tH : Nat} {Q : State → Prop} (K0 : LwC p m c s b L xs D cI cS tF tL tH) {ad am : Nat → Nat} {i : Nat} (hi : i + 4 ≤ L) {σ : Fs} {ρ : Ms} (h : RR (1500 * i) σ ρ) {H : Heap} {locs : List Loc} {ls : Array Slot} (Z : Ix D (fun q => s.heap.size ≤ q) s (fW ad cI cS σ ++ mW am cI ρ) H locs) (hl : lv_has ls 4 [(0, .ref b), (1, .ref (ad 0)), (2, .ref (am 0)), (3, .int (nI i))]) (next : ∀ (σ : Fs) (ρ : Ms) (H : Heap) (locs : List Loc), RR (1500 * i + 6000) σ ρ → Ix D (fun q => s.heap.size ≤ q) s (fW ad cI cS σ ++ mW am cI ρ) H locs → W p l e room_1 s m #[Value.ref b] below meth c H locs 600000 7302250 Q (F0 m 1294 ls [])) : W p l e room_1 s m #[Value.ref b] below meth c H locs 600000 7302250 Q (F0 m 827 ls []) := by
  obtain ⟨Fc, hE, hX, hbl, hL⟩ := K0
  obtain ⟨hx, hb, hml, hown, hts, hKN⟩ := id Fc
  have hA : ∀ q : Nat, s.heap.size ≤ q → (fun q : Nat => s.heap.size ≤ q) q := fun _ h => h
  have hbA : ¬ (fun q : Nat => s.heap.size ≤ q) b := Nat.not_le.mpr hbl
  obtain ⟨r, h1, h2⟩ := sim_estimate (by omega) h (xs (i + 1)) (xs (i + 2))
  refine lv_aload_n hx hb dL_law_827 rfl (lv_at hl 1 rfl) ?_
  refine lv_aload_n hx hb dL_law_828 rfl (lv_at hl 0 rfl) ?_
  refine lv_iload_n hx hb dL_law_829 rfl (lv_at hl 3 rfl) ?_
  refine lv_iconst (v := (1 : Int32)) hx hb dL_law_830 (by decide) ?_
  refine lv_iadd hx hb dL_law_831 ?_
  rw [nI_1]
  refine va_sld hx hb hX hbl hbA Z.2.2 (vp_in_nI (by omega) (by omega)) dL_law_832 ?_
  rw [nI_clamp (by omega)]
  refine lv_aload_n hx hb dL_law_833 rfl (lv_at hl 0 rfl) ?_
  refine lv_iload_n hx hb dL_law_834 rfl (lv_at hl 3 rfl) ?_
  refine lv_iconst (v := (2 : Int32)) hx hb dL_law_835 (by decide) ?_
  refine lv_iadd hx hb dL_law_836 ?_
  rw [la2]
  refine va_sld hx hb hX hbl hbA Z.2.2 (vp_in_nI (by omega) (by omega)) dL_law_837 ?_
  rw [nI_clamp (by omega)]
  refine kr_i (As := [.int (xs (i + 1)), .int (xs (i + 2))]) Fc hA Z Lens.lc (c_X4_estimate l D cI cS ad σ.2.1 σ.1 h.1.1 (xs (i + 1)) (xs (i + 2)) r h1) mL_RL_102 v_X4_estimate ⟨rfl, rfl⟩ ⟨Nat.le_of_ble_eq_true rfl, Nat.le_of_ble_eq_true rfl⟩ ⟨Nat.le_of_ble_eq_true rfl, Nat.le_of_ble_eq_true rfl⟩ 0 4 rfl rfl rfl hl (Nat.le_of_ble_eq_true rfl) dL_law_838 rfl (fun H locs Z => ?_)
  refine lv_aload_n hx hb dL_law_841 rfl (lv_at hl 2 rfl) ?_
  refine lv_aload_n hx hb dL_law_842 rfl (lv_at hl 0 rfl) ?_
  refine lv_iload_n hx hb dL_law_843 rfl (lv_at hl 3 rfl) ?_
  refine lv_iconst (v := (1 : Int32)) hx hb dL_law_844 (by decide) ?_
  refine lv_iadd hx hb dL_law_845 ?_
  rw [nI_1]
  refine va_sld hx hb hX hbl hbA Z.2.2 (vp_in_nI (by omega) (by omega)) dL_law_846 ?_
  rw [nI_clamp (by omega)]
  refine lv_aload_n hx hb dL_law_847 rfl (lv_at hl 0 rfl) ?_
  refine lv_iload_n hx hb dL_law_848 rfl (lv_at hl 3 rfl) ?_
  refine lv_iconst (v := (2 : Int32)) hx hb dL_law_849 (by decide) ?_
  refine lv_iadd hx hb dL_law_850 ?_
  rw [la2]
  refine va_sld hx hb hX hbl hbA Z.2.2 (vp_in_nI (by omega) (by omega)) dL_law_851 ?_
  rw [nI_clamp (by omega)]
  refine kr_i (As := [.int (xs (i + 1)), .int (xs (i + 2))]) Fc hA Z Lens.lm (c_X5_estimate l D cI cS am ρ (xs (i + 1)) (xs (i + 2)) r h2) mL_RL_105 v_X5_estimate ⟨rfl, rfl⟩ ⟨Nat.le_of_ble_eq_true rfl, Nat.le_of_ble_eq_true rfl⟩ ⟨Nat.le_of_ble_eq_true rfl, Nat.le_of_ble_eq_true rfl⟩ 128 5 rfl rfl rfl hl (Nat.le_of_ble_eq_true rfl) dL_law_852 rfl (fun H locs Z => ?_)
  refine lv_icmp_eq (tgt := 1294) hx hb dL_law_855 (by decide) (fun _ => ?_) (fun c1 => absurd rfl c1)
  exact next σ ρ _ _ (h.mono (by omega)) Z
set_option maxHeartbeats 4000000 in
set_option maxRecDepth 100000 in
theorem law_c22 {p : Program} {l : Launch} {e : Env} {s : State} {m : MethodId} {below : List Frame} {meth : Method} {c : Code} {b L : Nat} {xs : Nat → Int32} {D : va_G} {cI cS : ClassId} {tF tL tH : Nat} {Q : State → Prop} (K0 : LwC p m c s b L xs D cI cS tF tL tH) {ad am : Nat → Nat} {i : Nat} (hi : i + 4 ≤ L) {σ : Fs} {ρ : Ms} (h : RR (1500 * i) σ ρ) {H : Heap} {locs : List Loc} {ls : Array Slot} (Z : Ix D (fun q => s.heap.size ≤ q) s (fW ad cI cS σ ++ mW am cI ρ) H locs) (hl : lv_has ls 4 [(0, .ref b), (1, .ref (ad 0)), (2, .ref (am 0)), (3, .int (nI i))]) (next : ∀ (σ : Fs) (ρ : Ms) (H : Heap) (locs : List Loc), RR (1500 * i + 6000) σ ρ → Ix D (fun q => s.heap.size ≤ q) s (fW ad cI cS σ ++ mW am cI ρ) H locs → W p l e room_1 s m #[Value.ref b] below meth c H locs 600000 7302250 Q (F0 m 1294 ls [])) : W p l e room_1 s m #[Value.ref b] below meth c H locs 600000 7302250 Q (F0 m 860 ls []) := by
  obtain ⟨Fc, hE, hX, hbl, hL⟩ := K0
  obtain ⟨hx, hb, hml, hown, hts, hKN⟩ := id Fc
  have hA : ∀ q : Nat, s.heap.size ≤ q → (fun q : Nat => s.heap.size ≤ q) q := fun _ h => h
  have hbA : ¬ (fun q : Nat => s.heap.size ≤ q) b := Nat.not_le.mpr hbl
  obtain ⟨r, h1, h2⟩ := sim_patronCount (by omega) h 
  refine lv_aload_n hx hb dL_law_860 rfl (lv_at hl 1 rfl) ?_
  refine kr_i (As := []) Fc hA Z Lens.lc (c_X4_patronCount l D cI cS ad σ.2.1 σ.1 h.1.1  r h1) mL_RL_106 v_X4_patronCount ⟨rfl, rfl⟩ ⟨Nat.le_of_ble_eq_true rfl, Nat.le_of_ble_eq_true rfl⟩ ⟨Nat.le_of_ble_eq_true rfl, Nat.le_of_ble_eq_true rfl⟩ 0 4 rfl rfl rfl hl (Nat.le_of_ble_eq_true rfl) dL_law_861 rfl (fun H locs Z => ?_)
  refine lv_aload_n hx hb dL_law_864 rfl (lv_at hl 2 rfl) ?_
  refine kr_i (As := []) Fc hA Z Lens.lm (c_X5_patronCount l D cI cS am ρ  r h2) mL_RL_109 v_X5_patronCount ⟨rfl, rfl⟩ ⟨Nat.le_of_ble_eq_true rfl, Nat.le_of_ble_eq_true rfl⟩ ⟨Nat.le_of_ble_eq_true rfl, Nat.le_of_ble_eq_true rfl⟩ 128 5 rfl rfl rfl hl (Nat.le_of_ble_eq_true rfl) dL_law_865 rfl (fun H locs Z => ?_)
  refine lv_icmp_eq (tgt := 1294) hx hb dL_law_868 (by decide) (fun _ => ?_) (fun c1 => absurd rfl c1)
  exact next σ ρ _ _ (h.mono (by omega)) Z
set_option maxHeartbeats 4000000 in
set_option maxRecDepth 100000 in
theorem law_c23 {p : Program} {l : Launch} {e : Env} {s : State} {m : MethodId} {below : List Frame} {meth : Method} {c : Code} {b L : Nat} {xs : Nat → Int32} {D : va_G} {cI cS : ClassId} {tF tL tH : Nat} {Q : State → Prop} (K0 : LwC p m c s b L xs D cI cS tF tL tH) {ad am : Nat → Nat} {i : Nat} (hi : i + 4 ≤ L) {σ : Fs} {ρ : Ms} (h : RR (1500 * i) σ ρ) {H : Heap} {locs : List Loc} {ls : Array Slot} (Z : Ix D (fun q => s.heap.size ≤ q) s (fW ad cI cS σ ++ mW am cI ρ) H locs) (hl : lv_has ls 4 [(0, .ref b), (1, .ref (ad 0)), (2, .ref (am 0)), (3, .int (nI i))]) (next : ∀ (σ : Fs) (ρ : Ms) (H : Heap) (locs : List Loc), RR (1500 * i + 6000) σ ρ → Ix D (fun q => s.heap.size ≤ q) s (fW ad cI cS σ ++ mW am cI ρ) H locs → W p l e room_1 s m #[Value.ref b] below meth c H locs 600000 7302250 Q (F0 m 1294 ls [])) : W p l e room_1 s m #[Value.ref b] below meth c H locs 600000 7302250 Q (F0 m 873 ls []) := by
  obtain ⟨Fc, hE, hX, hbl, hL⟩ := K0
  obtain ⟨hx, hb, hml, hown, hts, hKN⟩ := id Fc
  have hA : ∀ q : Nat, s.heap.size ≤ q → (fun q : Nat => s.heap.size ≤ q) q := fun _ h => h
  have hbA : ¬ (fun q : Nat => s.heap.size ≤ q) b := Nat.not_le.mpr hbl
  obtain ⟨r, h1, h2⟩ := sim_owes (by omega) h (xs (i + 1))
  refine lv_aload_n hx hb dL_law_873 rfl (lv_at hl 1 rfl) ?_
  refine lv_aload_n hx hb dL_law_874 rfl (lv_at hl 0 rfl) ?_
  refine lv_iload_n hx hb dL_law_875 rfl (lv_at hl 3 rfl) ?_
  refine lv_iconst (v := (1 : Int32)) hx hb dL_law_876 (by decide) ?_
  refine lv_iadd hx hb dL_law_877 ?_
  rw [nI_1]
  refine va_sld hx hb hX hbl hbA Z.2.2 (vp_in_nI (by omega) (by omega)) dL_law_878 ?_
  rw [nI_clamp (by omega)]
  refine kr_i (As := [.int (xs (i + 1))]) Fc hA Z Lens.lc (c_X4_owes l D cI cS ad σ.2.1 σ.1 h.1.1 (xs (i + 1)) r h1) mL_RL_110 v_X4_owes ⟨rfl, rfl⟩ ⟨Nat.le_of_ble_eq_true rfl, Nat.le_of_ble_eq_true rfl⟩ ⟨Nat.le_of_ble_eq_true rfl, Nat.le_of_ble_eq_true rfl⟩ 0 4 rfl rfl rfl hl (Nat.le_of_ble_eq_true rfl) dL_law_879 rfl (fun H locs Z => ?_)
  refine lv_aload_n hx hb dL_law_882 rfl (lv_at hl 2 rfl) ?_
  refine lv_aload_n hx hb dL_law_883 rfl (lv_at hl 0 rfl) ?_
  refine lv_iload_n hx hb dL_law_884 rfl (lv_at hl 3 rfl) ?_
  refine lv_iconst (v := (1 : Int32)) hx hb dL_law_885 (by decide) ?_
  refine lv_iadd hx hb dL_law_886 ?_
  rw [nI_1]
  refine va_sld hx hb hX hbl hbA Z.2.2 (vp_in_nI (by omega) (by omega)) dL_law_887 ?_
  rw [nI_clamp (by omega)]
  refine kr_i (As := [.int (xs (i + 1))]) Fc hA Z Lens.lm (c_X5_owes_ l D cI cS am ρ (xs (i + 1)) r h2) mL_RL_113 v_X5_owes_ ⟨rfl, rfl⟩ ⟨Nat.le_of_ble_eq_true rfl, Nat.le_of_ble_eq_true rfl⟩ ⟨Nat.le_of_ble_eq_true rfl, Nat.le_of_ble_eq_true rfl⟩ 128 5 rfl rfl rfl hl (Nat.le_of_ble_eq_true rfl) dL_law_888 rfl (fun H locs Z => ?_)
  refine lv_icmp_eq (tgt := 1294) hx hb dL_law_891 (by decide) (fun _ => ?_) (fun c1 => absurd rfl c1)
  exact next σ ρ _ _ (h.mono (by omega)) Z
set_option maxHeartbeats 4000000 in
set_option maxRecDepth 100000 in
theorem law_c24 {p : Program} {l : Launch} {e : Env} {s : State} {m : MethodId} {below : List Frame} {meth : Method} {c : Code} {b L : Nat} {xs : Nat → Int32} {D : va_G} {cI cS : ClassId} {tF tL tH : Nat} {Q : State → Prop} (K0 : LwC p m c s b L xs D cI cS tF tL tH) {ad am : Nat → Nat} {i : Nat} (hi : i + 4 ≤ L) {σ : Fs} {ρ : Ms} (h : RR (1500 * i) σ ρ) {H : Heap} {locs : List Loc} {ls : Array Slot} (Z : Ix D (fun q => s.heap.size ≤ q) s (fW ad cI cS σ ++ mW am cI ρ) H locs) (hl : lv_has ls 4 [(0, .ref b), (1, .ref (ad 0)), (2, .ref (am 0)), (3, .int (nI i))]) (next : ∀ (σ : Fs) (ρ : Ms) (H : Heap) (locs : List Loc), RR (1500 * i + 6000) σ ρ → Ix D (fun q => s.heap.size ≤ q) s (fW ad cI cS σ ++ mW am cI ρ) H locs → W p l e room_1 s m #[Value.ref b] below meth c H locs 600000 7302250 Q (F0 m 1294 ls [])) : W p l e room_1 s m #[Value.ref b] below meth c H locs 600000 7302250 Q (F0 m 896 ls []) := by
  obtain ⟨Fc, hE, hX, hbl, hL⟩ := K0
  obtain ⟨hx, hb, hml, hown, hts, hKN⟩ := id Fc
  have hA : ∀ q : Nat, s.heap.size ≤ q → (fun q : Nat => s.heap.size ≤ q) q := fun _ h => h
  have hbA : ¬ (fun q : Nat => s.heap.size ≤ q) b := Nat.not_le.mpr hbl
  obtain ⟨r, h1, h2⟩ := sim_accrued (by omega) h (xs (i + 1))
  refine lv_aload_n hx hb dL_law_896 rfl (lv_at hl 1 rfl) ?_
  refine lv_aload_n hx hb dL_law_897 rfl (lv_at hl 0 rfl) ?_
  refine lv_iload_n hx hb dL_law_898 rfl (lv_at hl 3 rfl) ?_
  refine lv_iconst (v := (1 : Int32)) hx hb dL_law_899 (by decide) ?_
  refine lv_iadd hx hb dL_law_900 ?_
  rw [nI_1]
  refine va_sld hx hb hX hbl hbA Z.2.2 (vp_in_nI (by omega) (by omega)) dL_law_901 ?_
  rw [nI_clamp (by omega)]
  refine kr_i (As := [.int (xs (i + 1))]) Fc hA Z Lens.lc (c_X4_accrued l D cI cS ad σ.2.1 σ.1 h.1.1 (xs (i + 1)) r h1) mL_RL_114 v_X4_accrued ⟨rfl, rfl⟩ ⟨Nat.le_of_ble_eq_true rfl, Nat.le_of_ble_eq_true rfl⟩ ⟨Nat.le_of_ble_eq_true rfl, Nat.le_of_ble_eq_true rfl⟩ 0 4 rfl rfl rfl hl (Nat.le_of_ble_eq_true rfl) dL_law_902 rfl (fun H locs Z => ?_)
  refine lv_aload_n hx hb dL_law_905 rfl (lv_at hl 2 rfl) ?_
  refine lv_aload_n hx hb dL_law_906 rfl (lv_at hl 0 rfl) ?_
  refine lv_iload_n hx hb dL_law_907 rfl (lv_at hl 3 rfl) ?_
  refine lv_iconst (v := (1 : Int32)) hx hb dL_law_908 (by decide) ?_
  refine lv_iadd hx hb dL_law_909 ?_
  rw [nI_1]
  refine va_sld hx hb hX hbl hbA Z.2.2 (vp_in_nI (by omega) (by omega)) dL_law_910 ?_
  rw [nI_clamp (by omega)]
  refine kr_i (As := [.int (xs (i + 1))]) Fc hA Z Lens.lm (c_X5_accrued l D cI cS am ρ (xs (i + 1)) r h2) mL_RL_117 v_X5_accrued ⟨rfl, rfl⟩ ⟨Nat.le_of_ble_eq_true rfl, Nat.le_of_ble_eq_true rfl⟩ ⟨Nat.le_of_ble_eq_true rfl, Nat.le_of_ble_eq_true rfl⟩ 128 5 rfl rfl rfl hl (Nat.le_of_ble_eq_true rfl) dL_law_911 rfl (fun H locs Z => ?_)
  refine lv_icmp_eq (tgt := 1294) hx hb dL_law_914 (by decide) (fun _ => ?_) (fun c1 => absurd rfl c1)
  exact next σ ρ _ _ (h.mono (by omega)) Z
set_option maxHeartbeats 4000000 in
set_option maxRecDepth 100000 in
theorem law_c25 {p : Program} {l : Launch} {e : Env} {s : State} {m : MethodId} {below : List Frame} {meth : Method} {c : Code} {b L : Nat} {xs : Nat → Int32} {D : va_G} {cI cS : ClassId} {tF tL tH : Nat} {Q : State → Prop} (K0 : LwC p m c s b L xs D cI cS tF tL tH) {ad am : Nat → Nat} {i : Nat} (hi : i + 4 ≤ L) {σ : Fs} {ρ : Ms} (h : RR (1500 * i) σ ρ) {H : Heap} {locs : List Loc} {ls : Array Slot} (Z : Ix D (fun q => s.heap.size ≤ q) s (fW ad cI cS σ ++ mW am cI ρ) H locs) (hl : lv_has ls 4 [(0, .ref b), (1, .ref (ad 0)), (2, .ref (am 0)), (3, .int (nI i))]) (next : ∀ (σ : Fs) (ρ : Ms) (H : Heap) (locs : List Loc), RR (1500 * i + 6000) σ ρ → Ix D (fun q => s.heap.size ≤ q) s (fW ad cI cS σ ++ mW am cI ρ) H locs → W p l e room_1 s m #[Value.ref b] below meth c H locs 600000 7302250 Q (F0 m 1294 ls [])) : W p l e room_1 s m #[Value.ref b] below meth c H locs 600000 7302250 Q (F0 m 919 ls []) := by
  obtain ⟨Fc, hE, hX, hbl, hL⟩ := K0
  obtain ⟨hx, hb, hml, hown, hts, hKN⟩ := id Fc
  have hA : ∀ q : Nat, s.heap.size ≤ q → (fun q : Nat => s.heap.size ≤ q) q := fun _ h => h
  have hbA : ¬ (fun q : Nat => s.heap.size ≤ q) b := Nat.not_le.mpr hbl
  obtain ⟨r, h1, h2⟩ := sim_patron (by omega) h (xs (i + 1)) (xs (i + 2))
  refine lv_aload_n hx hb dL_law_919 rfl (lv_at hl 1 rfl) ?_
  refine lv_aload_n hx hb dL_law_920 rfl (lv_at hl 0 rfl) ?_
  refine lv_iload_n hx hb dL_law_921 rfl (lv_at hl 3 rfl) ?_
  refine lv_iconst (v := (1 : Int32)) hx hb dL_law_922 (by decide) ?_
  refine lv_iadd hx hb dL_law_923 ?_
  rw [nI_1]
  refine va_sld hx hb hX hbl hbA Z.2.2 (vp_in_nI (by omega) (by omega)) dL_law_924 ?_
  rw [nI_clamp (by omega)]
  refine lv_aload_n hx hb dL_law_925 rfl (lv_at hl 0 rfl) ?_
  refine lv_iload_n hx hb dL_law_926 rfl (lv_at hl 3 rfl) ?_
  refine lv_iconst (v := (2 : Int32)) hx hb dL_law_927 (by decide) ?_
  refine lv_iadd hx hb dL_law_928 ?_
  rw [la2]
  refine va_sld hx hb hX hbl hbA Z.2.2 (vp_in_nI (by omega) (by omega)) dL_law_929 ?_
  rw [nI_clamp (by omega)]
  refine kr_i (As := [.int (xs (i + 1)), .int (xs (i + 2))]) Fc hA Z Lens.lc (c_X4_patron l D cI cS ad σ.2.1 σ.1 h.1.1 (xs (i + 1)) (xs (i + 2)) r h1) mL_RL_118 v_X4_patron ⟨rfl, rfl⟩ ⟨Nat.le_of_ble_eq_true rfl, Nat.le_of_ble_eq_true rfl⟩ ⟨Nat.le_of_ble_eq_true rfl, Nat.le_of_ble_eq_true rfl⟩ 0 4 rfl rfl rfl hl (Nat.le_of_ble_eq_true rfl) dL_law_930 rfl (fun H locs Z => ?_)
  refine lv_aload_n hx hb dL_law_933 rfl (lv_at hl 2 rfl) ?_
  refine lv_aload_n hx hb dL_law_934 rfl (lv_at hl 0 rfl) ?_
  refine lv_iload_n hx hb dL_law_935 rfl (lv_at hl 3 rfl) ?_
  refine lv_iconst (v := (1 : Int32)) hx hb dL_law_936 (by decide) ?_
  refine lv_iadd hx hb dL_law_937 ?_
  rw [nI_1]
  refine va_sld hx hb hX hbl hbA Z.2.2 (vp_in_nI (by omega) (by omega)) dL_law_938 ?_
  rw [nI_clamp (by omega)]
  refine lv_aload_n hx hb dL_law_939 rfl (lv_at hl 0 rfl) ?_
  refine lv_iload_n hx hb dL_law_940 rfl (lv_at hl 3 rfl) ?_
  refine lv_iconst (v := (2 : Int32)) hx hb dL_law_941 (by decide) ?_
  refine lv_iadd hx hb dL_law_942 ?_
  rw [la2]
  refine va_sld hx hb hX hbl hbA Z.2.2 (vp_in_nI (by omega) (by omega)) dL_law_943 ?_
  rw [nI_clamp (by omega)]
  refine kr_i (As := [.int (xs (i + 1)), .int (xs (i + 2))]) Fc hA Z Lens.lm (c_X5_patron l D cI cS am ρ (xs (i + 1)) (xs (i + 2)) r h2) mL_RL_121 v_X5_patron ⟨rfl, rfl⟩ ⟨Nat.le_of_ble_eq_true rfl, Nat.le_of_ble_eq_true rfl⟩ ⟨Nat.le_of_ble_eq_true rfl, Nat.le_of_ble_eq_true rfl⟩ 128 5 rfl rfl rfl hl (Nat.le_of_ble_eq_true rfl) dL_law_944 rfl (fun H locs Z => ?_)
  refine lv_icmp_eq (tgt := 1294) hx hb dL_law_947 (by decide) (fun _ => ?_) (fun c1 => absurd rfl c1)
  exact next σ ρ _ _ (h.mono (by omega)) Z
set_option maxHeartbeats 4000000 in
set_option maxRecDepth 100000 in
theorem law_c26 {p : Program} {l : Launch} {e : Env} {s : State} {m : MethodId} {below : List Frame} {meth : Method} {c : Code} {b L : Nat} {xs : Nat → Int32} {D : va_G} {cI cS : ClassId} {tF tL tH : Nat} {Q : State → Prop} (K0 : LwC p m c s b L xs D cI cS tF tL tH) {ad am : Nat → Nat} {i : Nat} (hi : i + 4 ≤ L) {σ : Fs} {ρ : Ms} (h : RR (1500 * i) σ ρ) {H : Heap} {locs : List Loc} {ls : Array Slot} (Z : Ix D (fun q => s.heap.size ≤ q) s (fW ad cI cS σ ++ mW am cI ρ) H locs) (hl : lv_has ls 4 [(0, .ref b), (1, .ref (ad 0)), (2, .ref (am 0)), (3, .int (nI i))]) (next : ∀ (σ : Fs) (ρ : Ms) (H : Heap) (locs : List Loc), RR (1500 * i + 6000) σ ρ → Ix D (fun q => s.heap.size ≤ q) s (fW ad cI cS σ ++ mW am cI ρ) H locs → W p l e room_1 s m #[Value.ref b] below meth c H locs 600000 7302250 Q (F0 m 1294 ls [])) : W p l e room_1 s m #[Value.ref b] below meth c H locs 600000 7302250 Q (F0 m 952 ls []) := by
  obtain ⟨Fc, hE, hX, hbl, hL⟩ := K0
  obtain ⟨hx, hb, hml, hown, hts, hKN⟩ := id Fc
  have hA : ∀ q : Nat, s.heap.size ≤ q → (fun q : Nat => s.heap.size ≤ q) q := fun _ h => h
  have hbA : ¬ (fun q : Nat => s.heap.size ≤ q) b := Nat.not_le.mpr hbl
  obtain ⟨r, h1, h2⟩ := sim_loanOf (by omega) h (xs (i + 1)) (xs (i + 2))
  refine lv_aload_n hx hb dL_law_952 rfl (lv_at hl 1 rfl) ?_
  refine lv_aload_n hx hb dL_law_953 rfl (lv_at hl 0 rfl) ?_
  refine lv_iload_n hx hb dL_law_954 rfl (lv_at hl 3 rfl) ?_
  refine lv_iconst (v := (1 : Int32)) hx hb dL_law_955 (by decide) ?_
  refine lv_iadd hx hb dL_law_956 ?_
  rw [nI_1]
  refine va_sld hx hb hX hbl hbA Z.2.2 (vp_in_nI (by omega) (by omega)) dL_law_957 ?_
  rw [nI_clamp (by omega)]
  refine lv_aload_n hx hb dL_law_958 rfl (lv_at hl 0 rfl) ?_
  refine lv_iload_n hx hb dL_law_959 rfl (lv_at hl 3 rfl) ?_
  refine lv_iconst (v := (2 : Int32)) hx hb dL_law_960 (by decide) ?_
  refine lv_iadd hx hb dL_law_961 ?_
  rw [la2]
  refine va_sld hx hb hX hbl hbA Z.2.2 (vp_in_nI (by omega) (by omega)) dL_law_962 ?_
  rw [nI_clamp (by omega)]
  refine kr_i (As := [.int (xs (i + 1)), .int (xs (i + 2))]) Fc hA Z Lens.lc (c_X4_loanOf l D cI cS ad σ.2.1 σ.1 h.1.1 (xs (i + 1)) (xs (i + 2)) r h1) mL_RL_122 v_X4_loanOf ⟨rfl, rfl⟩ ⟨Nat.le_of_ble_eq_true rfl, Nat.le_of_ble_eq_true rfl⟩ ⟨Nat.le_of_ble_eq_true rfl, Nat.le_of_ble_eq_true rfl⟩ 0 4 rfl rfl rfl hl (Nat.le_of_ble_eq_true rfl) dL_law_963 rfl (fun H locs Z => ?_)
  refine lv_aload_n hx hb dL_law_966 rfl (lv_at hl 2 rfl) ?_
  refine lv_aload_n hx hb dL_law_967 rfl (lv_at hl 0 rfl) ?_
  refine lv_iload_n hx hb dL_law_968 rfl (lv_at hl 3 rfl) ?_
  refine lv_iconst (v := (1 : Int32)) hx hb dL_law_969 (by decide) ?_
  refine lv_iadd hx hb dL_law_970 ?_
  rw [nI_1]
  refine va_sld hx hb hX hbl hbA Z.2.2 (vp_in_nI (by omega) (by omega)) dL_law_971 ?_
  rw [nI_clamp (by omega)]
  refine lv_aload_n hx hb dL_law_972 rfl (lv_at hl 0 rfl) ?_
  refine lv_iload_n hx hb dL_law_973 rfl (lv_at hl 3 rfl) ?_
  refine lv_iconst (v := (2 : Int32)) hx hb dL_law_974 (by decide) ?_
  refine lv_iadd hx hb dL_law_975 ?_
  rw [la2]
  refine va_sld hx hb hX hbl hbA Z.2.2 (vp_in_nI (by omega) (by omega)) dL_law_976 ?_
  rw [nI_clamp (by omega)]
  refine kr_i (As := [.int (xs (i + 1)), .int (xs (i + 2))]) Fc hA Z Lens.lm (c_X5_loanOf l D cI cS am ρ (xs (i + 1)) (xs (i + 2)) r h2) mL_RL_125 v_X5_loanOf ⟨rfl, rfl⟩ ⟨Nat.le_of_ble_eq_true rfl, Nat.le_of_ble_eq_true rfl⟩ ⟨Nat.le_of_ble_eq_true rfl, Nat.le_of_ble_eq_true rfl⟩ 128 5 rfl rfl rfl hl (Nat.le_of_ble_eq_true rfl) dL_law_977 rfl (fun H locs Z => ?_)
  refine lv_icmp_eq (tgt := 1294) hx hb dL_law_980 (by decide) (fun _ => ?_) (fun c1 => absurd rfl c1)
  exact next σ ρ _ _ (h.mono (by omega)) Z
set_option maxHeartbeats 4000000 in
set_option maxRecDepth 100000 in
theorem law_c27 {p : Program} {l : Launch} {e : Env} {s : State} {m : MethodId} {below : List Frame} {meth : Method} {c : Code} {b L : Nat} {xs : Nat → Int32} {D : va_G} {cI cS : ClassId} {tF tL tH : Nat} {Q : State → Prop} (K0 : LwC p m c s b L xs D cI cS tF tL tH) {ad am : Nat → Nat} {i : Nat} (hi : i + 4 ≤ L) {σ : Fs} {ρ : Ms} (h : RR (1500 * i) σ ρ) {H : Heap} {locs : List Loc} {ls : Array Slot} (Z : Ix D (fun q => s.heap.size ≤ q) s (fW ad cI cS σ ++ mW am cI ρ) H locs) (hl : lv_has ls 4 [(0, .ref b), (1, .ref (ad 0)), (2, .ref (am 0)), (3, .int (nI i))]) (next : ∀ (σ : Fs) (ρ : Ms) (H : Heap) (locs : List Loc), RR (1500 * i + 6000) σ ρ → Ix D (fun q => s.heap.size ≤ q) s (fW ad cI cS σ ++ mW am cI ρ) H locs → W p l e room_1 s m #[Value.ref b] below meth c H locs 600000 7302250 Q (F0 m 1294 ls [])) : W p l e room_1 s m #[Value.ref b] below meth c H locs 600000 7302250 Q (F0 m 985 ls []) := by
  obtain ⟨Fc, hE, hX, hbl, hL⟩ := K0
  obtain ⟨hx, hb, hml, hown, hts, hKN⟩ := id Fc
  have hA : ∀ q : Nat, s.heap.size ≤ q → (fun q : Nat => s.heap.size ≤ q) q := fun _ h => h
  have hbA : ¬ (fun q : Nat => s.heap.size ≤ q) b := Nat.not_le.mpr hbl
  obtain ⟨r, h1, h2⟩ := sim_fine (by omega) h (xs (i + 1))
  refine lv_aload_n hx hb dL_law_985 rfl (lv_at hl 1 rfl) ?_
  refine lv_aload_n hx hb dL_law_986 rfl (lv_at hl 0 rfl) ?_
  refine lv_iload_n hx hb dL_law_987 rfl (lv_at hl 3 rfl) ?_
  refine lv_iconst (v := (1 : Int32)) hx hb dL_law_988 (by decide) ?_
  refine lv_iadd hx hb dL_law_989 ?_
  rw [nI_1]
  refine va_sld hx hb hX hbl hbA Z.2.2 (vp_in_nI (by omega) (by omega)) dL_law_990 ?_
  rw [nI_clamp (by omega)]
  refine kr_i (As := [.int (xs (i + 1))]) Fc hA Z Lens.lc (c_X4_fine l D cI cS ad σ.2.1 σ.1 h.1.1 (xs (i + 1)) r h1) mL_RL_126 v_X4_fine ⟨rfl, rfl⟩ ⟨Nat.le_of_ble_eq_true rfl, Nat.le_of_ble_eq_true rfl⟩ ⟨Nat.le_of_ble_eq_true rfl, Nat.le_of_ble_eq_true rfl⟩ 0 4 rfl rfl rfl hl (Nat.le_of_ble_eq_true rfl) dL_law_991 rfl (fun H locs Z => ?_)
  refine lv_aload_n hx hb dL_law_994 rfl (lv_at hl 2 rfl) ?_
  refine lv_aload_n hx hb dL_law_995 rfl (lv_at hl 0 rfl) ?_
  refine lv_iload_n hx hb dL_law_996 rfl (lv_at hl 3 rfl) ?_
  refine lv_iconst (v := (1 : Int32)) hx hb dL_law_997 (by decide) ?_
  refine lv_iadd hx hb dL_law_998 ?_
  rw [nI_1]
  refine va_sld hx hb hX hbl hbA Z.2.2 (vp_in_nI (by omega) (by omega)) dL_law_999 ?_
  rw [nI_clamp (by omega)]
  refine kr_i (As := [.int (xs (i + 1))]) Fc hA Z Lens.lm (c_X5_fine l D cI cS am ρ (xs (i + 1)) r h2) mL_RL_129 v_X5_fine ⟨rfl, rfl⟩ ⟨Nat.le_of_ble_eq_true rfl, Nat.le_of_ble_eq_true rfl⟩ ⟨Nat.le_of_ble_eq_true rfl, Nat.le_of_ble_eq_true rfl⟩ 128 5 rfl rfl rfl hl (Nat.le_of_ble_eq_true rfl) dL_law_1000 rfl (fun H locs Z => ?_)
  refine lv_icmp_eq (tgt := 1294) hx hb dL_law_1003 (by decide) (fun _ => ?_) (fun c1 => absurd rfl c1)
  exact next σ ρ _ _ (h.mono (by omega)) Z
set_option maxHeartbeats 4000000 in
set_option maxRecDepth 100000 in
theorem law_c28 {p : Program} {l : Launch} {e : Env} {s : State} {m : MethodId} {below : List Frame} {meth : Method} {c : Code} {b L : Nat} {xs : Nat → Int32} {D : va_G} {cI cS : ClassId} {tF tL tH : Nat} {Q : State → Prop} (K0 : LwC p m c s b L xs D cI cS tF tL tH) {ad am : Nat → Nat} {i : Nat} (hi : i + 4 ≤ L) {σ : Fs} {ρ : Ms} (h : RR (1500 * i) σ ρ) {H : Heap} {locs : List Loc} {ls : Array Slot} (Z : Ix D (fun q => s.heap.size ≤ q) s (fW ad cI cS σ ++ mW am cI ρ) H locs) (hl : lv_has ls 4 [(0, .ref b), (1, .ref (ad 0)), (2, .ref (am 0)), (3, .int (nI i))]) (next : ∀ (σ : Fs) (ρ : Ms) (H : Heap) (locs : List Loc), RR (1500 * i + 6000) σ ρ → Ix D (fun q => s.heap.size ≤ q) s (fW ad cI cS σ ++ mW am cI ρ) H locs → W p l e room_1 s m #[Value.ref b] below meth c H locs 600000 7302250 Q (F0 m 1294 ls [])) : W p l e room_1 s m #[Value.ref b] below meth c H locs 600000 7302250 Q (F0 m 1008 ls []) := by
  obtain ⟨Fc, hE, hX, hbl, hL⟩ := K0
  obtain ⟨hx, hb, hml, hown, hts, hKN⟩ := id Fc
  have hA : ∀ q : Nat, s.heap.size ≤ q → (fun q : Nat => s.heap.size ≤ q) q := fun _ h => h
  have hbA : ¬ (fun q : Nat => s.heap.size ≤ q) b := Nat.not_le.mpr hbl
  obtain ⟨r, σ', ρ', h1, h2, h3⟩ := sim_pay (by omega) h (xs (i + 1)) (xs (i + 2))
  refine lv_aload_n hx hb dL_law_1008 rfl (lv_at hl 1 rfl) ?_
  refine lv_aload_n hx hb dL_law_1009 rfl (lv_at hl 0 rfl) ?_
  refine lv_iload_n hx hb dL_law_1010 rfl (lv_at hl 3 rfl) ?_
  refine lv_iconst (v := (1 : Int32)) hx hb dL_law_1011 (by decide) ?_
  refine lv_iadd hx hb dL_law_1012 ?_
  rw [nI_1]
  refine va_sld hx hb hX hbl hbA Z.2.2 (vp_in_nI (by omega) (by omega)) dL_law_1013 ?_
  rw [nI_clamp (by omega)]
  refine lv_aload_n hx hb dL_law_1014 rfl (lv_at hl 0 rfl) ?_
  refine lv_iload_n hx hb dL_law_1015 rfl (lv_at hl 3 rfl) ?_
  refine lv_iconst (v := (2 : Int32)) hx hb dL_law_1016 (by decide) ?_
  refine lv_iadd hx hb dL_law_1017 ?_
  rw [la2]
  refine va_sld hx hb hX hbl hbA Z.2.2 (vp_in_nI (by omega) (by omega)) dL_law_1018 ?_
  rw [nI_clamp (by omega)]
  refine km_i (q := (r, σ')) (As := [.int (xs (i + 1)), .int (xs (i + 2))]) (ok := OKF) Fc hA Z (Lens.tail (mW am cI ρ)) (c_X4_pay l D cI cS ad σ h.1 (xs (i + 1)) (xs (i + 2)) (r, σ') h1) mL_RL_130 v_X4_pay ⟨rfl, rfl⟩ ⟨Nat.le_of_ble_eq_true rfl, Nat.le_of_ble_eq_true rfl⟩ ⟨Nat.le_of_ble_eq_true rfl, Nat.le_of_ble_eq_true rfl⟩ 0 4 rfl rfl rfl hl (Nat.le_of_ble_eq_true rfl) dL_law_1019 rfl (fun H locs ok1 Z => ?_)
  refine lv_aload_n hx hb dL_law_1022 rfl (lv_at hl 2 rfl) ?_
  refine lv_aload_n hx hb dL_law_1023 rfl (lv_at hl 0 rfl) ?_
  refine lv_iload_n hx hb dL_law_1024 rfl (lv_at hl 3 rfl) ?_
  refine lv_iconst (v := (1 : Int32)) hx hb dL_law_1025 (by decide) ?_
  refine lv_iadd hx hb dL_law_1026 ?_
  rw [nI_1]
  refine va_sld hx hb hX hbl hbA Z.2.2 (vp_in_nI (by omega) (by omega)) dL_law_1027 ?_
  rw [nI_clamp (by omega)]
  refine lv_aload_n hx hb dL_law_1028 rfl (lv_at hl 0 rfl) ?_
  refine lv_iload_n hx hb dL_law_1029 rfl (lv_at hl 3 rfl) ?_
  refine lv_iconst (v := (2 : Int32)) hx hb dL_law_1030 (by decide) ?_
  refine lv_iadd hx hb dL_law_1031 ?_
  rw [la2]
  refine va_sld hx hb hX hbl hbA Z.2.2 (vp_in_nI (by omega) (by omega)) dL_law_1032 ?_
  rw [nI_clamp (by omega)]
  refine km_i (q := (r, ρ')) (As := [.int (xs (i + 1)), .int (xs (i + 2))]) (ok := fun _ => True) Fc hA Z Lens.lm (c_X5_pay l D cI cS am ρ (xs (i + 1)) (xs (i + 2)) (r, ρ') h2) mL_RL_133 v_X5_pay ⟨rfl, rfl⟩ ⟨Nat.le_of_ble_eq_true rfl, Nat.le_of_ble_eq_true rfl⟩ ⟨Nat.le_of_ble_eq_true rfl, Nat.le_of_ble_eq_true rfl⟩ 128 5 rfl rfl rfl hl (Nat.le_of_ble_eq_true rfl) dL_law_1033 rfl (fun H locs _ Z => ?_)
  refine lv_icmp_eq (tgt := 1294) hx hb dL_law_1036 (by decide) (fun _ => ?_) (fun c1 => absurd rfl c1)
  exact next σ' ρ' _ _ h3 Z
set_option maxHeartbeats 4000000 in
set_option maxRecDepth 100000 in
theorem law_c29 {p : Program} {l : Launch} {e : Env} {s : State} {m : MethodId} {below : List Frame} {meth : Method} {c : Code} {b L : Nat} {xs : Nat → Int32} {D : va_G} {cI cS : ClassId} {tF tL tH : Nat} {Q : State → Prop} (K0 : LwC p m c s b L xs D cI cS tF tL tH) {ad am : Nat → Nat} {i : Nat} (hi : i + 4 ≤ L) {σ : Fs} {ρ : Ms} (h : RR (1500 * i) σ ρ) {H : Heap} {locs : List Loc} {ls : Array Slot} (Z : Ix D (fun q => s.heap.size ≤ q) s (fW ad cI cS σ ++ mW am cI ρ) H locs) (hl : lv_has ls 4 [(0, .ref b), (1, .ref (ad 0)), (2, .ref (am 0)), (3, .int (nI i))]) (next : ∀ (σ : Fs) (ρ : Ms) (H : Heap) (locs : List Loc), RR (1500 * i + 6000) σ ρ → Ix D (fun q => s.heap.size ≤ q) s (fW ad cI cS σ ++ mW am cI ρ) H locs → W p l e room_1 s m #[Value.ref b] below meth c H locs 600000 7302250 Q (F0 m 1294 ls [])) : W p l e room_1 s m #[Value.ref b] below meth c H locs 600000 7302250 Q (F0 m 1041 ls []) := by
  obtain ⟨Fc, hE, hX, hbl, hL⟩ := K0
  obtain ⟨hx, hb, hml, hown, hts, hKN⟩ := id Fc
  have hA : ∀ q : Nat, s.heap.size ≤ q → (fun q : Nat => s.heap.size ≤ q) q := fun _ h => h
  have hbA : ¬ (fun q : Nat => s.heap.size ≤ q) b := Nat.not_le.mpr hbl
  obtain ⟨r, σ', ρ', h1, h2, h3⟩ := sim_waive (by omega) h (xs (i + 1)) (xs (i + 2))
  refine lv_aload_n hx hb dL_law_1041 rfl (lv_at hl 1 rfl) ?_
  refine lv_aload_n hx hb dL_law_1042 rfl (lv_at hl 0 rfl) ?_
  refine lv_iload_n hx hb dL_law_1043 rfl (lv_at hl 3 rfl) ?_
  refine lv_iconst (v := (1 : Int32)) hx hb dL_law_1044 (by decide) ?_
  refine lv_iadd hx hb dL_law_1045 ?_
  rw [nI_1]
  refine va_sld hx hb hX hbl hbA Z.2.2 (vp_in_nI (by omega) (by omega)) dL_law_1046 ?_
  rw [nI_clamp (by omega)]
  refine lv_aload_n hx hb dL_law_1047 rfl (lv_at hl 0 rfl) ?_
  refine lv_iload_n hx hb dL_law_1048 rfl (lv_at hl 3 rfl) ?_
  refine lv_iconst (v := (2 : Int32)) hx hb dL_law_1049 (by decide) ?_
  refine lv_iadd hx hb dL_law_1050 ?_
  rw [la2]
  refine va_sld hx hb hX hbl hbA Z.2.2 (vp_in_nI (by omega) (by omega)) dL_law_1051 ?_
  rw [nI_clamp (by omega)]
  refine km_i (q := (r, σ')) (As := [.int (xs (i + 1)), .int (xs (i + 2))]) (ok := OKF) Fc hA Z (Lens.tail (mW am cI ρ)) (c_X4_waive l D cI cS ad σ h.1 (xs (i + 1)) (xs (i + 2)) (r, σ') h1) mL_RL_134 v_X4_waive ⟨rfl, rfl⟩ ⟨Nat.le_of_ble_eq_true rfl, Nat.le_of_ble_eq_true rfl⟩ ⟨Nat.le_of_ble_eq_true rfl, Nat.le_of_ble_eq_true rfl⟩ 0 4 rfl rfl rfl hl (Nat.le_of_ble_eq_true rfl) dL_law_1052 rfl (fun H locs ok1 Z => ?_)
  refine lv_aload_n hx hb dL_law_1055 rfl (lv_at hl 2 rfl) ?_
  refine lv_aload_n hx hb dL_law_1056 rfl (lv_at hl 0 rfl) ?_
  refine lv_iload_n hx hb dL_law_1057 rfl (lv_at hl 3 rfl) ?_
  refine lv_iconst (v := (1 : Int32)) hx hb dL_law_1058 (by decide) ?_
  refine lv_iadd hx hb dL_law_1059 ?_
  rw [nI_1]
  refine va_sld hx hb hX hbl hbA Z.2.2 (vp_in_nI (by omega) (by omega)) dL_law_1060 ?_
  rw [nI_clamp (by omega)]
  refine lv_aload_n hx hb dL_law_1061 rfl (lv_at hl 0 rfl) ?_
  refine lv_iload_n hx hb dL_law_1062 rfl (lv_at hl 3 rfl) ?_
  refine lv_iconst (v := (2 : Int32)) hx hb dL_law_1063 (by decide) ?_
  refine lv_iadd hx hb dL_law_1064 ?_
  rw [la2]
  refine va_sld hx hb hX hbl hbA Z.2.2 (vp_in_nI (by omega) (by omega)) dL_law_1065 ?_
  rw [nI_clamp (by omega)]
  refine km_i (q := (r, ρ')) (As := [.int (xs (i + 1)), .int (xs (i + 2))]) (ok := fun _ => True) Fc hA Z Lens.lm (c_X5_waive l D cI cS am ρ (xs (i + 1)) (xs (i + 2)) (r, ρ') h2) mL_RL_137 v_X5_waive ⟨rfl, rfl⟩ ⟨Nat.le_of_ble_eq_true rfl, Nat.le_of_ble_eq_true rfl⟩ ⟨Nat.le_of_ble_eq_true rfl, Nat.le_of_ble_eq_true rfl⟩ 128 5 rfl rfl rfl hl (Nat.le_of_ble_eq_true rfl) dL_law_1066 rfl (fun H locs _ Z => ?_)
  refine lv_icmp_eq (tgt := 1294) hx hb dL_law_1069 (by decide) (fun _ => ?_) (fun c1 => absurd rfl c1)
  exact next σ' ρ' _ _ h3 Z
set_option maxHeartbeats 4000000 in
set_option maxRecDepth 100000 in
theorem law_c30 {p : Program} {l : Launch} {e : Env} {s : State} {m : MethodId} {below : List Frame} {meth : Method} {c : Code} {b L : Nat} {xs : Nat → Int32} {D : va_G} {cI cS : ClassId} {tF tL tH : Nat} {Q : State → Prop} (K0 : LwC p m c s b L xs D cI cS tF tL tH) {ad am : Nat → Nat} {i : Nat} (hi : i + 4 ≤ L) {σ : Fs} {ρ : Ms} (h : RR (1500 * i) σ ρ) {H : Heap} {locs : List Loc} {ls : Array Slot} (Z : Ix D (fun q => s.heap.size ≤ q) s (fW ad cI cS σ ++ mW am cI ρ) H locs) (hl : lv_has ls 4 [(0, .ref b), (1, .ref (ad 0)), (2, .ref (am 0)), (3, .int (nI i))]) (next : ∀ (σ : Fs) (ρ : Ms) (H : Heap) (locs : List Loc), RR (1500 * i + 6000) σ ρ → Ix D (fun q => s.heap.size ≤ q) s (fW ad cI cS σ ++ mW am cI ρ) H locs → W p l e room_1 s m #[Value.ref b] below meth c H locs 600000 7302250 Q (F0 m 1294 ls [])) : W p l e room_1 s m #[Value.ref b] below meth c H locs 600000 7302250 Q (F0 m 1074 ls []) := by
  obtain ⟨Fc, hE, hX, hbl, hL⟩ := K0
  obtain ⟨hx, hb, hml, hown, hts, hKN⟩ := id Fc
  have hA : ∀ q : Nat, s.heap.size ≤ q → (fun q : Nat => s.heap.size ≤ q) q := fun _ h => h
  have hbA : ¬ (fun q : Nat => s.heap.size ≤ q) b := Nat.not_le.mpr hbl
  obtain ⟨r, h1, h2⟩ := sim_ledgerSize (by omega) h 
  refine lv_aload_n hx hb dL_law_1074 rfl (lv_at hl 1 rfl) ?_
  refine kr_i (As := []) Fc hA Z Lens.lc (c_X4_ledgerSize l D cI cS ad σ.2.1 σ.1 h.1.1  r h1) mL_RL_138 v_X4_ledgerSize ⟨rfl, rfl⟩ ⟨Nat.le_of_ble_eq_true rfl, Nat.le_of_ble_eq_true rfl⟩ ⟨Nat.le_of_ble_eq_true rfl, Nat.le_of_ble_eq_true rfl⟩ 0 4 rfl rfl rfl hl (Nat.le_of_ble_eq_true rfl) dL_law_1075 rfl (fun H locs Z => ?_)
  refine lv_aload_n hx hb dL_law_1078 rfl (lv_at hl 2 rfl) ?_
  refine kr_i (As := []) Fc hA Z Lens.lm (c_X5_ledgerSize l D cI cS am ρ  r h2) mL_RL_141 v_X5_ledgerSize ⟨rfl, rfl⟩ ⟨Nat.le_of_ble_eq_true rfl, Nat.le_of_ble_eq_true rfl⟩ ⟨Nat.le_of_ble_eq_true rfl, Nat.le_of_ble_eq_true rfl⟩ 128 5 rfl rfl rfl hl (Nat.le_of_ble_eq_true rfl) dL_law_1079 rfl (fun H locs Z => ?_)
  refine lv_icmp_eq (tgt := 1294) hx hb dL_law_1082 (by decide) (fun _ => ?_) (fun c1 => absurd rfl c1)
  exact next σ ρ _ _ (h.mono (by omega)) Z
set_option maxHeartbeats 4000000 in
set_option maxRecDepth 100000 in
theorem law_c31 {p : Program} {l : Launch} {e : Env} {s : State} {m : MethodId} {below : List Frame} {meth : Method} {c : Code} {b L : Nat} {xs : Nat → Int32} {D : va_G} {cI cS : ClassId} {tF tL tH : Nat} {Q : State → Prop} (K0 : LwC p m c s b L xs D cI cS tF tL tH) {ad am : Nat → Nat} {i : Nat} (hi : i + 4 ≤ L) {σ : Fs} {ρ : Ms} (h : RR (1500 * i) σ ρ) {H : Heap} {locs : List Loc} {ls : Array Slot} (Z : Ix D (fun q => s.heap.size ≤ q) s (fW ad cI cS σ ++ mW am cI ρ) H locs) (hl : lv_has ls 4 [(0, .ref b), (1, .ref (ad 0)), (2, .ref (am 0)), (3, .int (nI i))]) (next : ∀ (σ : Fs) (ρ : Ms) (H : Heap) (locs : List Loc), RR (1500 * i + 6000) σ ρ → Ix D (fun q => s.heap.size ≤ q) s (fW ad cI cS σ ++ mW am cI ρ) H locs → W p l e room_1 s m #[Value.ref b] below meth c H locs 600000 7302250 Q (F0 m 1294 ls [])) : W p l e room_1 s m #[Value.ref b] below meth c H locs 600000 7302250 Q (F0 m 1087 ls []) := by
  obtain ⟨Fc, hE, hX, hbl, hL⟩ := K0
  obtain ⟨hx, hb, hml, hown, hts, hKN⟩ := id Fc
  have hA : ∀ q : Nat, s.heap.size ≤ q → (fun q : Nat => s.heap.size ≤ q) q := fun _ h => h
  have hbA : ¬ (fun q : Nat => s.heap.size ≤ q) b := Nat.not_le.mpr hbl
  obtain ⟨r, h1, h2⟩ := sim_ledger (by omega) h (xs (i + 1)) (xs (i + 2))
  refine lv_aload_n hx hb dL_law_1087 rfl (lv_at hl 1 rfl) ?_
  refine lv_aload_n hx hb dL_law_1088 rfl (lv_at hl 0 rfl) ?_
  refine lv_iload_n hx hb dL_law_1089 rfl (lv_at hl 3 rfl) ?_
  refine lv_iconst (v := (1 : Int32)) hx hb dL_law_1090 (by decide) ?_
  refine lv_iadd hx hb dL_law_1091 ?_
  rw [nI_1]
  refine va_sld hx hb hX hbl hbA Z.2.2 (vp_in_nI (by omega) (by omega)) dL_law_1092 ?_
  rw [nI_clamp (by omega)]
  refine lv_aload_n hx hb dL_law_1093 rfl (lv_at hl 0 rfl) ?_
  refine lv_iload_n hx hb dL_law_1094 rfl (lv_at hl 3 rfl) ?_
  refine lv_iconst (v := (2 : Int32)) hx hb dL_law_1095 (by decide) ?_
  refine lv_iadd hx hb dL_law_1096 ?_
  rw [la2]
  refine va_sld hx hb hX hbl hbA Z.2.2 (vp_in_nI (by omega) (by omega)) dL_law_1097 ?_
  rw [nI_clamp (by omega)]
  refine kr_i (As := [.int (xs (i + 1)), .int (xs (i + 2))]) Fc hA Z Lens.lc (c_X4_ledger l D cI cS ad σ.2.1 σ.1 h.1.1 (xs (i + 1)) (xs (i + 2)) r h1) mL_RL_142 v_X4_ledger ⟨rfl, rfl⟩ ⟨Nat.le_of_ble_eq_true rfl, Nat.le_of_ble_eq_true rfl⟩ ⟨Nat.le_of_ble_eq_true rfl, Nat.le_of_ble_eq_true rfl⟩ 0 4 rfl rfl rfl hl (Nat.le_of_ble_eq_true rfl) dL_law_1098 rfl (fun H locs Z => ?_)
  refine lv_aload_n hx hb dL_law_1101 rfl (lv_at hl 2 rfl) ?_
  refine lv_aload_n hx hb dL_law_1102 rfl (lv_at hl 0 rfl) ?_
  refine lv_iload_n hx hb dL_law_1103 rfl (lv_at hl 3 rfl) ?_
  refine lv_iconst (v := (1 : Int32)) hx hb dL_law_1104 (by decide) ?_
  refine lv_iadd hx hb dL_law_1105 ?_
  rw [nI_1]
  refine va_sld hx hb hX hbl hbA Z.2.2 (vp_in_nI (by omega) (by omega)) dL_law_1106 ?_
  rw [nI_clamp (by omega)]
  refine lv_aload_n hx hb dL_law_1107 rfl (lv_at hl 0 rfl) ?_
  refine lv_iload_n hx hb dL_law_1108 rfl (lv_at hl 3 rfl) ?_
  refine lv_iconst (v := (2 : Int32)) hx hb dL_law_1109 (by decide) ?_
  refine lv_iadd hx hb dL_law_1110 ?_
  rw [la2]
  refine va_sld hx hb hX hbl hbA Z.2.2 (vp_in_nI (by omega) (by omega)) dL_law_1111 ?_
  rw [nI_clamp (by omega)]
  refine kr_i (As := [.int (xs (i + 1)), .int (xs (i + 2))]) Fc hA Z Lens.lm (c_X5_ledger l D cI cS am ρ (xs (i + 1)) (xs (i + 2)) r h2) mL_RL_145 v_X5_ledger ⟨rfl, rfl⟩ ⟨Nat.le_of_ble_eq_true rfl, Nat.le_of_ble_eq_true rfl⟩ ⟨Nat.le_of_ble_eq_true rfl, Nat.le_of_ble_eq_true rfl⟩ 128 5 rfl rfl rfl hl (Nat.le_of_ble_eq_true rfl) dL_law_1112 rfl (fun H locs Z => ?_)
  refine lv_icmp_eq (tgt := 1294) hx hb dL_law_1115 (by decide) (fun _ => ?_) (fun c1 => absurd rfl c1)
  exact next σ ρ _ _ (h.mono (by omega)) Z
set_option maxHeartbeats 4000000 in
set_option maxRecDepth 100000 in
theorem law_c32 {p : Program} {l : Launch} {e : Env} {s : State} {m : MethodId} {below : List Frame} {meth : Method} {c : Code} {b L : Nat} {xs : Nat → Int32} {D : va_G} {cI cS : ClassId} {tF tL tH : Nat} {Q : State → Prop} (K0 : LwC p m c s b L xs D cI cS tF tL tH) {ad am : Nat → Nat} {i : Nat} (hi : i + 4 ≤ L) {σ : Fs} {ρ : Ms} (h : RR (1500 * i) σ ρ) {H : Heap} {locs : List Loc} {ls : Array Slot} (Z : Ix D (fun q => s.heap.size ≤ q) s (fW ad cI cS σ ++ mW am cI ρ) H locs) (hl : lv_has ls 4 [(0, .ref b), (1, .ref (ad 0)), (2, .ref (am 0)), (3, .int (nI i))]) (next : ∀ (σ : Fs) (ρ : Ms) (H : Heap) (locs : List Loc), RR (1500 * i + 6000) σ ρ → Ix D (fun q => s.heap.size ≤ q) s (fW ad cI cS σ ++ mW am cI ρ) H locs → W p l e room_1 s m #[Value.ref b] below meth c H locs 600000 7302250 Q (F0 m 1294 ls [])) : W p l e room_1 s m #[Value.ref b] below meth c H locs 600000 7302250 Q (F0 m 1120 ls []) := by
  obtain ⟨Fc, hE, hX, hbl, hL⟩ := K0
  obtain ⟨hx, hb, hml, hown, hts, hKN⟩ := id Fc
  have hA : ∀ q : Nat, s.heap.size ≤ q → (fun q : Nat => s.heap.size ≤ q) q := fun _ h => h
  have hbA : ¬ (fun q : Nat => s.heap.size ≤ q) b := Nat.not_le.mpr hbl
  obtain ⟨r, h1, h2⟩ := sim_ledgerSum (by omega) h (xs (i + 1)) (xs (i + 2))
  refine lv_aload_n hx hb dL_law_1120 rfl (lv_at hl 1 rfl) ?_
  refine lv_aload_n hx hb dL_law_1121 rfl (lv_at hl 0 rfl) ?_
  refine lv_iload_n hx hb dL_law_1122 rfl (lv_at hl 3 rfl) ?_
  refine lv_iconst (v := (1 : Int32)) hx hb dL_law_1123 (by decide) ?_
  refine lv_iadd hx hb dL_law_1124 ?_
  rw [nI_1]
  refine va_sld hx hb hX hbl hbA Z.2.2 (vp_in_nI (by omega) (by omega)) dL_law_1125 ?_
  rw [nI_clamp (by omega)]
  refine lv_aload_n hx hb dL_law_1126 rfl (lv_at hl 0 rfl) ?_
  refine lv_iload_n hx hb dL_law_1127 rfl (lv_at hl 3 rfl) ?_
  refine lv_iconst (v := (2 : Int32)) hx hb dL_law_1128 (by decide) ?_
  refine lv_iadd hx hb dL_law_1129 ?_
  rw [la2]
  refine va_sld hx hb hX hbl hbA Z.2.2 (vp_in_nI (by omega) (by omega)) dL_law_1130 ?_
  rw [nI_clamp (by omega)]
  refine kr_i (As := [.int (xs (i + 1)), .int (xs (i + 2))]) Fc hA Z Lens.lc (c_X4_ledgerSum l D cI cS ad σ.2.1 σ.1 h.1.1 (xs (i + 1)) (xs (i + 2)) r h1) mL_RL_146 v_X4_ledgerSum ⟨rfl, rfl⟩ ⟨Nat.le_of_ble_eq_true rfl, Nat.le_of_ble_eq_true rfl⟩ ⟨Nat.le_of_ble_eq_true rfl, Nat.le_of_ble_eq_true rfl⟩ 0 4 rfl rfl rfl hl (Nat.le_of_ble_eq_true rfl) dL_law_1131 rfl (fun H locs Z => ?_)
  refine lv_aload_n hx hb dL_law_1134 rfl (lv_at hl 2 rfl) ?_
  refine lv_aload_n hx hb dL_law_1135 rfl (lv_at hl 0 rfl) ?_
  refine lv_iload_n hx hb dL_law_1136 rfl (lv_at hl 3 rfl) ?_
  refine lv_iconst (v := (1 : Int32)) hx hb dL_law_1137 (by decide) ?_
  refine lv_iadd hx hb dL_law_1138 ?_
  rw [nI_1]
  refine va_sld hx hb hX hbl hbA Z.2.2 (vp_in_nI (by omega) (by omega)) dL_law_1139 ?_
  rw [nI_clamp (by omega)]
  refine lv_aload_n hx hb dL_law_1140 rfl (lv_at hl 0 rfl) ?_
  refine lv_iload_n hx hb dL_law_1141 rfl (lv_at hl 3 rfl) ?_
  refine lv_iconst (v := (2 : Int32)) hx hb dL_law_1142 (by decide) ?_
  refine lv_iadd hx hb dL_law_1143 ?_
  rw [la2]
  refine va_sld hx hb hX hbl hbA Z.2.2 (vp_in_nI (by omega) (by omega)) dL_law_1144 ?_
  rw [nI_clamp (by omega)]
  refine kr_i (As := [.int (xs (i + 1)), .int (xs (i + 2))]) Fc hA Z Lens.lm (c_X5_ledgerSum l D cI cS am ρ (xs (i + 1)) (xs (i + 2)) r h2) mL_RL_149 v_X5_ledgerSum ⟨rfl, rfl⟩ ⟨Nat.le_of_ble_eq_true rfl, Nat.le_of_ble_eq_true rfl⟩ ⟨Nat.le_of_ble_eq_true rfl, Nat.le_of_ble_eq_true rfl⟩ 128 5 rfl rfl rfl hl (Nat.le_of_ble_eq_true rfl) dL_law_1145 rfl (fun H locs Z => ?_)
  refine lv_icmp_eq (tgt := 1294) hx hb dL_law_1148 (by decide) (fun _ => ?_) (fun c1 => absurd rfl c1)
  exact next σ ρ _ _ (h.mono (by omega)) Z
set_option maxHeartbeats 4000000 in
set_option maxRecDepth 100000 in
theorem law_c33 {p : Program} {l : Launch} {e : Env} {s : State} {m : MethodId} {below : List Frame} {meth : Method} {c : Code} {b L : Nat} {xs : Nat → Int32} {D : va_G} {cI cS : ClassId} {tF tL tH : Nat} {Q : State → Prop} (K0 : LwC p m c s b L xs D cI cS tF tL tH) {ad am : Nat → Nat} {i : Nat} (hi : i + 4 ≤ L) {σ : Fs} {ρ : Ms} (h : RR (1500 * i) σ ρ) {H : Heap} {locs : List Loc} {ls : Array Slot} (Z : Ix D (fun q => s.heap.size ≤ q) s (fW ad cI cS σ ++ mW am cI ρ) H locs) (hl : lv_has ls 4 [(0, .ref b), (1, .ref (ad 0)), (2, .ref (am 0)), (3, .int (nI i))]) (next : ∀ (σ : Fs) (ρ : Ms) (H : Heap) (locs : List Loc), RR (1500 * i + 6000) σ ρ → Ix D (fun q => s.heap.size ≤ q) s (fW ad cI cS σ ++ mW am cI ρ) H locs → W p l e room_1 s m #[Value.ref b] below meth c H locs 600000 7302250 Q (F0 m 1294 ls [])) : W p l e room_1 s m #[Value.ref b] below meth c H locs 600000 7302250 Q (F0 m 1153 ls []) := by
  obtain ⟨Fc, hE, hX, hbl, hL⟩ := K0
  obtain ⟨hx, hb, hml, hown, hts, hKN⟩ := id Fc
  have hA : ∀ q : Nat, s.heap.size ≤ q → (fun q : Nat => s.heap.size ≤ q) q := fun _ h => h
  have hbA : ¬ (fun q : Nat => s.heap.size ≤ q) b := Nat.not_le.mpr hbl
  obtain ⟨r, h1, h2⟩ := sim_shelf (by omega) h (xs (i + 1)) (xs (i + 2))
  refine lv_aload_n hx hb dL_law_1153 rfl (lv_at hl 1 rfl) ?_
  refine lv_aload_n hx hb dL_law_1154 rfl (lv_at hl 0 rfl) ?_
  refine lv_iload_n hx hb dL_law_1155 rfl (lv_at hl 3 rfl) ?_
  refine lv_iconst (v := (1 : Int32)) hx hb dL_law_1156 (by decide) ?_
  refine lv_iadd hx hb dL_law_1157 ?_
  rw [nI_1]
  refine va_sld hx hb hX hbl hbA Z.2.2 (vp_in_nI (by omega) (by omega)) dL_law_1158 ?_
  rw [nI_clamp (by omega)]
  refine lv_aload_n hx hb dL_law_1159 rfl (lv_at hl 0 rfl) ?_
  refine lv_iload_n hx hb dL_law_1160 rfl (lv_at hl 3 rfl) ?_
  refine lv_iconst (v := (2 : Int32)) hx hb dL_law_1161 (by decide) ?_
  refine lv_iadd hx hb dL_law_1162 ?_
  rw [la2]
  refine va_sld hx hb hX hbl hbA Z.2.2 (vp_in_nI (by omega) (by omega)) dL_law_1163 ?_
  rw [nI_clamp (by omega)]
  refine kr_i (As := [.int (xs (i + 1)), .int (xs (i + 2))]) Fc hA Z Lens.lc (c_X4_shelf l D cI cS ad σ.2.1 σ.1 h.1.1 (xs (i + 1)) (xs (i + 2)) r h1) mL_RL_150 v_X4_shelf ⟨rfl, rfl⟩ ⟨Nat.le_of_ble_eq_true rfl, Nat.le_of_ble_eq_true rfl⟩ ⟨Nat.le_of_ble_eq_true rfl, Nat.le_of_ble_eq_true rfl⟩ 0 4 rfl rfl rfl hl (Nat.le_of_ble_eq_true rfl) dL_law_1164 rfl (fun H locs Z => ?_)
  refine lv_aload_n hx hb dL_law_1167 rfl (lv_at hl 2 rfl) ?_
  refine lv_aload_n hx hb dL_law_1168 rfl (lv_at hl 0 rfl) ?_
  refine lv_iload_n hx hb dL_law_1169 rfl (lv_at hl 3 rfl) ?_
  refine lv_iconst (v := (1 : Int32)) hx hb dL_law_1170 (by decide) ?_
  refine lv_iadd hx hb dL_law_1171 ?_
  rw [nI_1]
  refine va_sld hx hb hX hbl hbA Z.2.2 (vp_in_nI (by omega) (by omega)) dL_law_1172 ?_
  rw [nI_clamp (by omega)]
  refine lv_aload_n hx hb dL_law_1173 rfl (lv_at hl 0 rfl) ?_
  refine lv_iload_n hx hb dL_law_1174 rfl (lv_at hl 3 rfl) ?_
  refine lv_iconst (v := (2 : Int32)) hx hb dL_law_1175 (by decide) ?_
  refine lv_iadd hx hb dL_law_1176 ?_
  rw [la2]
  refine va_sld hx hb hX hbl hbA Z.2.2 (vp_in_nI (by omega) (by omega)) dL_law_1177 ?_
  rw [nI_clamp (by omega)]
  refine kr_i (As := [.int (xs (i + 1)), .int (xs (i + 2))]) Fc hA Z Lens.lm (c_X5_shelf l D cI cS am ρ (xs (i + 1)) (xs (i + 2)) r h2) mL_RL_153 v_X5_shelf ⟨rfl, rfl⟩ ⟨Nat.le_of_ble_eq_true rfl, Nat.le_of_ble_eq_true rfl⟩ ⟨Nat.le_of_ble_eq_true rfl, Nat.le_of_ble_eq_true rfl⟩ 128 5 rfl rfl rfl hl (Nat.le_of_ble_eq_true rfl) dL_law_1178 rfl (fun H locs Z => ?_)
  refine lv_icmp_eq (tgt := 1294) hx hb dL_law_1181 (by decide) (fun _ => ?_) (fun c1 => absurd rfl c1)
  exact next σ ρ _ _ (h.mono (by omega)) Z
set_option maxHeartbeats 4000000 in
set_option maxRecDepth 100000 in
theorem law_c34 {p : Program} {l : Launch} {e : Env} {s : State} {m : MethodId} {below : List Frame} {meth : Method} {c : Code} {b L : Nat} {xs : Nat → Int32} {D : va_G} {cI cS : ClassId} {tF tL tH : Nat} {Q : State → Prop} (K0 : LwC p m c s b L xs D cI cS tF tL tH) {ad am : Nat → Nat} {i : Nat} (hi : i + 4 ≤ L) {σ : Fs} {ρ : Ms} (h : RR (1500 * i) σ ρ) {H : Heap} {locs : List Loc} {ls : Array Slot} (Z : Ix D (fun q => s.heap.size ≤ q) s (fW ad cI cS σ ++ mW am cI ρ) H locs) (hl : lv_has ls 4 [(0, .ref b), (1, .ref (ad 0)), (2, .ref (am 0)), (3, .int (nI i))]) (next : ∀ (σ : Fs) (ρ : Ms) (H : Heap) (locs : List Loc), RR (1500 * i + 6000) σ ρ → Ix D (fun q => s.heap.size ≤ q) s (fW ad cI cS σ ++ mW am cI ρ) H locs → W p l e room_1 s m #[Value.ref b] below meth c H locs 600000 7302250 Q (F0 m 1294 ls [])) : W p l e room_1 s m #[Value.ref b] below meth c H locs 600000 7302250 Q (F0 m 1186 ls []) := by
  obtain ⟨Fc, hE, hX, hbl, hL⟩ := K0
  obtain ⟨hx, hb, hml, hown, hts, hKN⟩ := id Fc
  have hA : ∀ q : Nat, s.heap.size ≤ q → (fun q : Nat => s.heap.size ≤ q) q := fun _ h => h
  have hbA : ¬ (fun q : Nat => s.heap.size ≤ q) b := Nat.not_le.mpr hbl
  obtain ⟨r, h1, h2⟩ := sim_arriving (by omega) h (xs (i + 1)) (xs (i + 2))
  refine lv_aload_n hx hb dL_law_1186 rfl (lv_at hl 1 rfl) ?_
  refine lv_aload_n hx hb dL_law_1187 rfl (lv_at hl 0 rfl) ?_
  refine lv_iload_n hx hb dL_law_1188 rfl (lv_at hl 3 rfl) ?_
  refine lv_iconst (v := (1 : Int32)) hx hb dL_law_1189 (by decide) ?_
  refine lv_iadd hx hb dL_law_1190 ?_
  rw [nI_1]
  refine va_sld hx hb hX hbl hbA Z.2.2 (vp_in_nI (by omega) (by omega)) dL_law_1191 ?_
  rw [nI_clamp (by omega)]
  refine lv_aload_n hx hb dL_law_1192 rfl (lv_at hl 0 rfl) ?_
  refine lv_iload_n hx hb dL_law_1193 rfl (lv_at hl 3 rfl) ?_
  refine lv_iconst (v := (2 : Int32)) hx hb dL_law_1194 (by decide) ?_
  refine lv_iadd hx hb dL_law_1195 ?_
  rw [la2]
  refine va_sld hx hb hX hbl hbA Z.2.2 (vp_in_nI (by omega) (by omega)) dL_law_1196 ?_
  rw [nI_clamp (by omega)]
  refine kr_i (As := [.int (xs (i + 1)), .int (xs (i + 2))]) Fc hA Z Lens.lc (c_X4_arriving l D cI cS ad σ.2.1 σ.1 h.1.1 (xs (i + 1)) (xs (i + 2)) r h1) mL_RL_154 v_X4_arriving ⟨rfl, rfl⟩ ⟨Nat.le_of_ble_eq_true rfl, Nat.le_of_ble_eq_true rfl⟩ ⟨Nat.le_of_ble_eq_true rfl, Nat.le_of_ble_eq_true rfl⟩ 0 4 rfl rfl rfl hl (Nat.le_of_ble_eq_true rfl) dL_law_1197 rfl (fun H locs Z => ?_)
  refine lv_aload_n hx hb dL_law_1200 rfl (lv_at hl 2 rfl) ?_
  refine lv_aload_n hx hb dL_law_1201 rfl (lv_at hl 0 rfl) ?_
  refine lv_iload_n hx hb dL_law_1202 rfl (lv_at hl 3 rfl) ?_
  refine lv_iconst (v := (1 : Int32)) hx hb dL_law_1203 (by decide) ?_
  refine lv_iadd hx hb dL_law_1204 ?_
  rw [nI_1]
  refine va_sld hx hb hX hbl hbA Z.2.2 (vp_in_nI (by omega) (by omega)) dL_law_1205 ?_
  rw [nI_clamp (by omega)]
  refine lv_aload_n hx hb dL_law_1206 rfl (lv_at hl 0 rfl) ?_
  refine lv_iload_n hx hb dL_law_1207 rfl (lv_at hl 3 rfl) ?_
  refine lv_iconst (v := (2 : Int32)) hx hb dL_law_1208 (by decide) ?_
  refine lv_iadd hx hb dL_law_1209 ?_
  rw [la2]
  refine va_sld hx hb hX hbl hbA Z.2.2 (vp_in_nI (by omega) (by omega)) dL_law_1210 ?_
  rw [nI_clamp (by omega)]
  refine kr_i (As := [.int (xs (i + 1)), .int (xs (i + 2))]) Fc hA Z Lens.lm (c_X5_arriving l D cI cS am ρ (xs (i + 1)) (xs (i + 2)) r h2) mL_RL_157 v_X5_arriving ⟨rfl, rfl⟩ ⟨Nat.le_of_ble_eq_true rfl, Nat.le_of_ble_eq_true rfl⟩ ⟨Nat.le_of_ble_eq_true rfl, Nat.le_of_ble_eq_true rfl⟩ 128 5 rfl rfl rfl hl (Nat.le_of_ble_eq_true rfl) dL_law_1211 rfl (fun H locs Z => ?_)
  refine lv_icmp_eq (tgt := 1294) hx hb dL_law_1214 (by decide) (fun _ => ?_) (fun c1 => absurd rfl c1)
  exact next σ ρ _ _ (h.mono (by omega)) Z
set_option maxHeartbeats 4000000 in
set_option maxRecDepth 100000 in
theorem law_c35 {p : Program} {l : Launch} {e : Env} {s : State} {m : MethodId} {below : List Frame} {meth : Method} {c : Code} {b L : Nat} {xs : Nat → Int32} {D : va_G} {cI cS : ClassId} {tF tL tH : Nat} {Q : State → Prop} (K0 : LwC p m c s b L xs D cI cS tF tL tH) {ad am : Nat → Nat} {i : Nat} (hi : i + 4 ≤ L) {σ : Fs} {ρ : Ms} (h : RR (1500 * i) σ ρ) {H : Heap} {locs : List Loc} {ls : Array Slot} (Z : Ix D (fun q => s.heap.size ≤ q) s (fW ad cI cS σ ++ mW am cI ρ) H locs) (hl : lv_has ls 4 [(0, .ref b), (1, .ref (ad 0)), (2, .ref (am 0)), (3, .int (nI i))]) (next : ∀ (σ : Fs) (ρ : Ms) (H : Heap) (locs : List Loc), RR (1500 * i + 6000) σ ρ → Ix D (fun q => s.heap.size ≤ q) s (fW ad cI cS σ ++ mW am cI ρ) H locs → W p l e room_1 s m #[Value.ref b] below meth c H locs 600000 7302250 Q (F0 m 1294 ls [])) : W p l e room_1 s m #[Value.ref b] below meth c H locs 600000 7302250 Q (F0 m 1219 ls []) := by
  obtain ⟨Fc, hE, hX, hbl, hL⟩ := K0
  obtain ⟨hx, hb, hml, hown, hts, hKN⟩ := id Fc
  have hA : ∀ q : Nat, s.heap.size ≤ q → (fun q : Nat => s.heap.size ≤ q) q := fun _ h => h
  have hbA : ¬ (fun q : Nat => s.heap.size ≤ q) b := Nat.not_le.mpr hbl
  obtain ⟨r, σ', ρ', h1, h2, h3⟩ := sim_feed (by omega) h (xs (i + 1))
  refine lv_aload_n hx hb dL_law_1219 rfl (lv_at hl 1 rfl) ?_
  refine lv_aload_n hx hb dL_law_1220 rfl (lv_at hl 0 rfl) ?_
  refine lv_iload_n hx hb dL_law_1221 rfl (lv_at hl 3 rfl) ?_
  refine lv_iconst (v := (1 : Int32)) hx hb dL_law_1222 (by decide) ?_
  refine lv_iadd hx hb dL_law_1223 ?_
  rw [nI_1]
  refine va_sld hx hb hX hbl hbA Z.2.2 (vp_in_nI (by omega) (by omega)) dL_law_1224 ?_
  rw [nI_clamp (by omega)]
  refine km_i (q := (r, σ')) (As := [.int (xs (i + 1))]) (ok := OKF) Fc hA Z (Lens.tail (mW am cI ρ)) (c_X4_feed l D cI cS ad σ h.1 (xs (i + 1)) (r, σ') h1) mL_RL_158 v_X4_feed ⟨rfl, rfl⟩ ⟨Nat.le_of_ble_eq_true rfl, Nat.le_of_ble_eq_true rfl⟩ ⟨Nat.le_of_ble_eq_true rfl, Nat.le_of_ble_eq_true rfl⟩ 0 4 rfl rfl rfl hl (Nat.le_of_ble_eq_true rfl) dL_law_1225 rfl (fun H locs ok1 Z => ?_)
  refine lv_aload_n hx hb dL_law_1228 rfl (lv_at hl 2 rfl) ?_
  refine lv_aload_n hx hb dL_law_1229 rfl (lv_at hl 0 rfl) ?_
  refine lv_iload_n hx hb dL_law_1230 rfl (lv_at hl 3 rfl) ?_
  refine lv_iconst (v := (1 : Int32)) hx hb dL_law_1231 (by decide) ?_
  refine lv_iadd hx hb dL_law_1232 ?_
  rw [nI_1]
  refine va_sld hx hb hX hbl hbA Z.2.2 (vp_in_nI (by omega) (by omega)) dL_law_1233 ?_
  rw [nI_clamp (by omega)]
  refine km_i (q := (r, ρ')) (As := [.int (xs (i + 1))]) (ok := fun _ => True) Fc hA Z Lens.lm (c_X5_feed l D cI cS am ρ (xs (i + 1)) (r, ρ') h2) mL_RL_161 v_X5_feed ⟨rfl, rfl⟩ ⟨Nat.le_of_ble_eq_true rfl, Nat.le_of_ble_eq_true rfl⟩ ⟨Nat.le_of_ble_eq_true rfl, Nat.le_of_ble_eq_true rfl⟩ 128 5 rfl rfl rfl hl (Nat.le_of_ble_eq_true rfl) dL_law_1234 rfl (fun H locs _ Z => ?_)
  refine lv_icmp_eq (tgt := 1294) hx hb dL_law_1237 (by decide) (fun _ => ?_) (fun c1 => absurd rfl c1)
  exact next σ' ρ' _ _ h3 Z
set_option maxHeartbeats 4000000 in
set_option maxRecDepth 100000 in
theorem law_c36 {p : Program} {l : Launch} {e : Env} {s : State} {m : MethodId} {below : List Frame} {meth : Method} {c : Code} {b L : Nat} {xs : Nat → Int32} {D : va_G} {cI cS : ClassId} {tF tL tH : Nat} {Q : State → Prop} (K0 : LwC p m c s b L xs D cI cS tF tL tH) {ad am : Nat → Nat} {i : Nat} (hi : i + 4 ≤ L) {σ : Fs} {ρ : Ms} (h : RR (1500 * i) σ ρ) {H : Heap} {locs : List Loc} {ls : Array Slot} (Z : Ix D (fun q => s.heap.size ≤ q) s (fW ad cI cS σ ++ mW am cI ρ) H locs) (hl : lv_has ls 4 [(0, .ref b), (1, .ref (ad 0)), (2, .ref (am 0)), (3, .int (nI i))]) (next : ∀ (σ : Fs) (ρ : Ms) (H : Heap) (locs : List Loc), RR (1500 * i + 6000) σ ρ → Ix D (fun q => s.heap.size ≤ q) s (fW ad cI cS σ ++ mW am cI ρ) H locs → W p l e room_1 s m #[Value.ref b] below meth c H locs 600000 7302250 Q (F0 m 1294 ls [])) : W p l e room_1 s m #[Value.ref b] below meth c H locs 600000 7302250 Q (F0 m 1242 ls []) := by
  obtain ⟨Fc, hE, hX, hbl, hL⟩ := K0
  obtain ⟨hx, hb, hml, hown, hts, hKN⟩ := id Fc
  have hA : ∀ q : Nat, s.heap.size ≤ q → (fun q : Nat => s.heap.size ≤ q) q := fun _ h => h
  have hbA : ¬ (fun q : Nat => s.heap.size ≤ q) b := Nat.not_le.mpr hbl
  obtain ⟨r, σ', ρ', h1, h2, h3⟩ := sim_execute (by omega) h 
  refine lv_aload_n hx hb dL_law_1242 rfl (lv_at hl 1 rfl) ?_
  refine km_i (q := (r, σ')) (As := []) (ok := OKF) Fc hA Z (Lens.tail (mW am cI ρ)) (c_X4_execute l D cI cS ad σ h.1  (r, σ') h1) mL_RL_162 v_X4_execute ⟨rfl, rfl⟩ ⟨Nat.le_of_ble_eq_true rfl, Nat.le_of_ble_eq_true rfl⟩ ⟨Nat.le_of_ble_eq_true rfl, Nat.le_of_ble_eq_true rfl⟩ 0 4 rfl rfl rfl hl (Nat.le_of_ble_eq_true rfl) dL_law_1243 rfl (fun H locs ok1 Z => ?_)
  refine lv_aload_n hx hb dL_law_1246 rfl (lv_at hl 2 rfl) ?_
  refine km_i (q := (r, ρ')) (As := []) (ok := fun _ => True) Fc hA Z Lens.lm (c_X5_execute l D cI cS am ρ  (r, ρ') h2) mL_RL_165 v_X5_execute ⟨rfl, rfl⟩ ⟨Nat.le_of_ble_eq_true rfl, Nat.le_of_ble_eq_true rfl⟩ ⟨Nat.le_of_ble_eq_true rfl, Nat.le_of_ble_eq_true rfl⟩ 128 5 rfl rfl rfl hl (Nat.le_of_ble_eq_true rfl) dL_law_1247 rfl (fun H locs _ Z => ?_)
  refine lv_icmp_eq (tgt := 1294) hx hb dL_law_1250 (by decide) (fun _ => ?_) (fun c1 => absurd rfl c1)
  exact next σ' ρ' _ _ h3 Z
set_option maxHeartbeats 4000000 in
set_option maxRecDepth 100000 in
theorem law_c37 {p : Program} {l : Launch} {e : Env} {s : State} {m : MethodId} {below : List Frame} {meth : Method} {c : Code} {b L : Nat} {xs : Nat → Int32} {D : va_G} {cI cS : ClassId} {tF tL tH : Nat} {Q : State → Prop} (K0 : LwC p m c s b L xs D cI cS tF tL tH) {ad am : Nat → Nat} {i : Nat} (hi : i + 4 ≤ L) {σ : Fs} {ρ : Ms} (h : RR (1500 * i) σ ρ) {H : Heap} {locs : List Loc} {ls : Array Slot} (Z : Ix D (fun q => s.heap.size ≤ q) s (fW ad cI cS σ ++ mW am cI ρ) H locs) (hl : lv_has ls 4 [(0, .ref b), (1, .ref (ad 0)), (2, .ref (am 0)), (3, .int (nI i))]) (next : ∀ (σ : Fs) (ρ : Ms) (H : Heap) (locs : List Loc), RR (1500 * i + 6000) σ ρ → Ix D (fun q => s.heap.size ≤ q) s (fW ad cI cS σ ++ mW am cI ρ) H locs → W p l e room_1 s m #[Value.ref b] below meth c H locs 600000 7302250 Q (F0 m 1294 ls [])) : W p l e room_1 s m #[Value.ref b] below meth c H locs 600000 7302250 Q (F0 m 1255 ls []) := by
  obtain ⟨Fc, hE, hX, hbl, hL⟩ := K0
  obtain ⟨hx, hb, hml, hown, hts, hKN⟩ := id Fc
  have hA : ∀ q : Nat, s.heap.size ≤ q → (fun q : Nat => s.heap.size ≤ q) q := fun _ h => h
  have hbA : ¬ (fun q : Nat => s.heap.size ≤ q) b := Nat.not_le.mpr hbl
  obtain ⟨r, σ', ρ', h1, h2, h3⟩ := sim_save (by omega) h 
  refine lv_aload_n hx hb dL_law_1255 rfl (lv_at hl 1 rfl) ?_
  refine km_i (q := (r, σ')) (As := []) (ok := OKF) Fc hA Z (Lens.tail (mW am cI ρ)) (c_X4_save l D cI cS ad σ h.1  (r, σ') h1) mL_RL_166 v_X4_save ⟨rfl, rfl⟩ ⟨Nat.le_of_ble_eq_true rfl, Nat.le_of_ble_eq_true rfl⟩ ⟨Nat.le_of_ble_eq_true rfl, Nat.le_of_ble_eq_true rfl⟩ 0 4 rfl rfl rfl hl (Nat.le_of_ble_eq_true rfl) dL_law_1256 rfl (fun H locs ok1 Z => ?_)
  refine lv_aload_n hx hb dL_law_1259 rfl (lv_at hl 2 rfl) ?_
  refine km_i (q := (r, ρ')) (As := []) (ok := fun _ => True) Fc hA Z Lens.lm (c_X5_save l D cI cS am ρ  (r, ρ') h2) mL_RL_169 v_X5_save ⟨rfl, rfl⟩ ⟨Nat.le_of_ble_eq_true rfl, Nat.le_of_ble_eq_true rfl⟩ ⟨Nat.le_of_ble_eq_true rfl, Nat.le_of_ble_eq_true rfl⟩ 128 5 rfl rfl rfl hl (Nat.le_of_ble_eq_true rfl) dL_law_1260 rfl (fun H locs _ Z => ?_)
  refine lv_icmp_eq (tgt := 1294) hx hb dL_law_1263 (by decide) (fun _ => ?_) (fun c1 => absurd rfl c1)
  exact next σ' ρ' _ _ h3 Z
set_option maxHeartbeats 4000000 in
set_option maxRecDepth 100000 in
theorem law_c38 {p : Program} {l : Launch} {e : Env} {s : State} {m : MethodId} {below : List Frame} {meth : Method} {c : Code} {b L : Nat} {xs : Nat → Int32} {D : va_G} {cI cS : ClassId} {tF tL tH : Nat} {Q : State → Prop} (K0 : LwC p m c s b L xs D cI cS tF tL tH) {ad am : Nat → Nat} {i : Nat} (hi : i + 4 ≤ L) {σ : Fs} {ρ : Ms} (h : RR (1500 * i) σ ρ) {H : Heap} {locs : List Loc} {ls : Array Slot} (Z : Ix D (fun q => s.heap.size ≤ q) s (fW ad cI cS σ ++ mW am cI ρ) H locs) (hl : lv_has ls 4 [(0, .ref b), (1, .ref (ad 0)), (2, .ref (am 0)), (3, .int (nI i))]) (next : ∀ (σ : Fs) (ρ : Ms) (H : Heap) (locs : List Loc), RR (1500 * i + 6000) σ ρ → Ix D (fun q => s.heap.size ≤ q) s (fW ad cI cS σ ++ mW am cI ρ) H locs → W p l e room_1 s m #[Value.ref b] below meth c H locs 600000 7302250 Q (F0 m 1294 ls [])) : W p l e room_1 s m #[Value.ref b] below meth c H locs 600000 7302250 Q (F0 m 1268 ls []) := by
  obtain ⟨Fc, hE, hX, hbl, hL⟩ := K0
  obtain ⟨hx, hb, hml, hown, hts, hKN⟩ := id Fc
  have hA : ∀ q : Nat, s.heap.size ≤ q → (fun q : Nat => s.heap.size ≤ q) q := fun _ h => h
  have hbA : ¬ (fun q : Nat => s.heap.size ≤ q) b := Nat.not_le.mpr hbl
  obtain ⟨r, σ', ρ', h1, h2, h3⟩ := sim_restore (by omega) h 
  refine lv_aload_n hx hb dL_law_1268 rfl (lv_at hl 1 rfl) ?_
  refine km_i (q := (r, σ')) (As := []) (ok := OKF) Fc hA Z (Lens.tail (mW am cI ρ)) (c_X4_restore l D cI cS ad σ h.1  (r, σ') h1) mL_RL_170 v_X4_restore ⟨rfl, rfl⟩ ⟨Nat.le_of_ble_eq_true rfl, Nat.le_of_ble_eq_true rfl⟩ ⟨Nat.le_of_ble_eq_true rfl, Nat.le_of_ble_eq_true rfl⟩ 0 4 rfl rfl rfl hl (Nat.le_of_ble_eq_true rfl) dL_law_1269 rfl (fun H locs ok1 Z => ?_)
  refine lv_aload_n hx hb dL_law_1272 rfl (lv_at hl 2 rfl) ?_
  refine km_i (q := (r, ρ')) (As := []) (ok := fun _ => True) Fc hA Z Lens.lm (c_X5_restore l D cI cS am ρ  (r, ρ') h2) mL_RL_173 v_X5_restore ⟨rfl, rfl⟩ ⟨Nat.le_of_ble_eq_true rfl, Nat.le_of_ble_eq_true rfl⟩ ⟨Nat.le_of_ble_eq_true rfl, Nat.le_of_ble_eq_true rfl⟩ 128 5 rfl rfl rfl hl (Nat.le_of_ble_eq_true rfl) dL_law_1273 rfl (fun H locs _ Z => ?_)
  refine lv_icmp_eq (tgt := 1294) hx hb dL_law_1276 (by decide) (fun _ => ?_) (fun c1 => absurd rfl c1)
  exact next σ' ρ' _ _ h3 Z
set_option maxHeartbeats 4000000 in
set_option maxRecDepth 100000 in
theorem law_c39 {p : Program} {l : Launch} {e : Env} {s : State} {m : MethodId} {below : List Frame} {meth : Method} {c : Code} {b L : Nat} {xs : Nat → Int32} {D : va_G} {cI cS : ClassId} {tF tL tH : Nat} {Q : State → Prop} (K0 : LwC p m c s b L xs D cI cS tF tL tH) {ad am : Nat → Nat} {i : Nat} (hi : i + 4 ≤ L) {σ : Fs} {ρ : Ms} (h : RR (1500 * i) σ ρ) {H : Heap} {locs : List Loc} {ls : Array Slot} (Z : Ix D (fun q => s.heap.size ≤ q) s (fW ad cI cS σ ++ mW am cI ρ) H locs) (hl : lv_has ls 4 [(0, .ref b), (1, .ref (ad 0)), (2, .ref (am 0)), (3, .int (nI i))]) (next : ∀ (σ : Fs) (ρ : Ms) (H : Heap) (locs : List Loc), RR (1500 * i + 6000) σ ρ → Ix D (fun q => s.heap.size ≤ q) s (fW ad cI cS σ ++ mW am cI ρ) H locs → W p l e room_1 s m #[Value.ref b] below meth c H locs 600000 7302250 Q (F0 m 1294 ls [])) : W p l e room_1 s m #[Value.ref b] below meth c H locs 600000 7302250 Q (F0 m 1281 ls []) := by
  obtain ⟨Fc, hE, hX, hbl, hL⟩ := K0
  obtain ⟨hx, hb, hml, hown, hts, hKN⟩ := id Fc
  have hA : ∀ q : Nat, s.heap.size ≤ q → (fun q : Nat => s.heap.size ≤ q) q := fun _ h => h
  have hbA : ¬ (fun q : Nat => s.heap.size ≤ q) b := Nat.not_le.mpr hbl
  obtain ⟨r, σ', ρ', h1, h2, h3⟩ := sim_undo (by omega) h 
  refine lv_aload_n hx hb dL_law_1281 rfl (lv_at hl 1 rfl) ?_
  refine km_i (q := (r, σ')) (As := []) (ok := OKF) Fc hA Z (Lens.tail (mW am cI ρ)) (c_X4_undo l D cI cS ad σ h.1  (r, σ') h1) mL_RL_174 v_X4_undo ⟨rfl, rfl⟩ ⟨Nat.le_of_ble_eq_true rfl, Nat.le_of_ble_eq_true rfl⟩ ⟨Nat.le_of_ble_eq_true rfl, Nat.le_of_ble_eq_true rfl⟩ 0 4 rfl rfl rfl hl (Nat.le_of_ble_eq_true rfl) dL_law_1282 rfl (fun H locs ok1 Z => ?_)
  refine lv_aload_n hx hb dL_law_1285 rfl (lv_at hl 2 rfl) ?_
  refine km_i (q := (r, ρ')) (As := []) (ok := fun _ => True) Fc hA Z Lens.lm (c_X5_undo l D cI cS am ρ  (r, ρ') h2) mL_RL_177 v_X5_undo ⟨rfl, rfl⟩ ⟨Nat.le_of_ble_eq_true rfl, Nat.le_of_ble_eq_true rfl⟩ ⟨Nat.le_of_ble_eq_true rfl, Nat.le_of_ble_eq_true rfl⟩ 128 5 rfl rfl rfl hl (Nat.le_of_ble_eq_true rfl) dL_law_1286 rfl (fun H locs _ Z => ?_)
  refine lv_icmp_eq (tgt := 1294) hx hb dL_law_1289 (by decide) (fun _ => ?_) (fun c1 => absurd rfl c1)
  exact next σ' ρ' _ _ h3 Z
