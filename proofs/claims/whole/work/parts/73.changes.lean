/-! THE IMAGE, THE CHANGES -/
theorem lo_c2 {na nb s t : Nat} (f : Nat → Int32) (hs : s + 681 ≤ na) (ht : t + 681 ≤ nb) (hna : na < 10000) (hnb : nb < 10000) : ∀ (m i k : Nat) (g : Nat → Int32), i + m = 681 → m < k → X5_copies2_L3 na nb f (nI s) (nI t) k (nI i) g = some (fun p => if t + i ≤ p ∧ p < t + 681 then f (s + (p - t)) else g p) := by
  intro m
  induction m with
  | zero =>
    intro i k g e1 e2
    obtain ⟨k, rfl⟩ : ∃ q, k = q + 1 := ⟨k - 1, by omega⟩
    rw [X5_copies2_L3, if_pos (show (681 : Int32) ≤ nI i from nI_le (a := 681) (by omega) (by omega))]
    congr 1
    funext p
    rw [if_neg (by omega)]
  | succ m ih =>
    intro i k g e1 e2
    obtain ⟨k, rfl⟩ : ∃ q, k = q + 1 := ⟨k - 1, by omega⟩
    rw [X5_copies2_L3, if_neg (show ¬ (681 : Int32) ≤ nI i from nI_ge (b := 681) (by omega) (by omega)), nI_add, nI_add, rdN (by omega) hna, Option.bind_some, wrN (by omega) hnb, Option.bind_some, nI_1, ih (i + 1) k _ (by omega) (by omega)]
    congr 1
    funext p
    unfold va_up
    rcases Nat.lt_trichotomy p (t + i) with z | z | z
    · rw [if_neg (by omega), if_neg (by omega), if_neg (by omega)]
    · rw [if_neg (by omega), if_pos z, if_pos (by omega), z, show t + i - t = i by omega]
    · by_cases z2 : p < t + 681
      · rw [if_pos (by omega), if_pos (by omega)]
      · rw [if_neg (by omega), if_neg (by omega), if_neg (by omega)]
theorem copies2_eq {na nb s t : Nat} (f g : Nat → Int32) (hs : s + 681 ≤ na) (ht : t + 681 ≤ nb) (hna : na < 10000) (hnb : nb < 10000) : X5_copies2 na nb f g (nI s) (nI t) = some (fun p => if t ≤ p ∧ p < t + 681 then f (s + (p - t)) else g p) :=
  lo_c2 f hs ht hna hnb 681 0 FU g (by omega) (by unfold FU; omega)
theorem lo_c1 {nb s t : Nat} (hst : t + 681 ≤ s) (hs : s + 681 ≤ nb) (hnb : nb < 10000) : ∀ (m i k : Nat) (g : Nat → Int32), i + m = 681 → m < k → X5_copies1_L3 nb (nI s) (nI t) k (nI i) g = some (fun p => if t + i ≤ p ∧ p < t + 681 then g (s + (p - t)) else g p) := by
  intro m
  induction m with
  | zero =>
    intro i k g e1 e2
    obtain ⟨k, rfl⟩ : ∃ q, k = q + 1 := ⟨k - 1, by omega⟩
    rw [X5_copies1_L3, if_pos (show (681 : Int32) ≤ nI i from nI_le (a := 681) (by omega) (by omega))]
    congr 1
    funext p
    rw [if_neg (by omega)]
  | succ m ih =>
    intro i k g e1 e2
    obtain ⟨k, rfl⟩ : ∃ q, k = q + 1 := ⟨k - 1, by omega⟩
    rw [X5_copies1_L3, if_neg (show ¬ (681 : Int32) ≤ nI i from nI_ge (b := 681) (by omega) (by omega)), nI_add, nI_add, rdN (by omega) hnb, Option.bind_some, wrN (by omega) hnb, Option.bind_some, nI_1, ih (i + 1) k _ (by omega) (by omega)]
    congr 1
    funext p
    unfold va_up
    rcases Nat.lt_trichotomy p (t + i) with z | z | z
    · rw [if_neg (by omega), if_neg (by omega), if_neg (by omega)]
    · rw [if_neg (by omega), if_pos z, if_pos (by omega), z, show t + i - t = i by omega]
    · by_cases z2 : p < t + 681
      · rw [if_pos (by omega), if_neg (by omega), if_pos (by omega)]
      · rw [if_neg (by omega), if_neg (by omega), if_neg (by omega)]
theorem copies1_eq {nb s t : Nat} (g : Nat → Int32) (hst : t + 681 ≤ s) (hs : s + 681 ≤ nb) (hnb : nb < 10000) : X5_copies1 nb g (nI s) (nI t) = some (fun p => if t ≤ p ∧ p < t + 681 then g (s + (p - t)) else g p) :=
  lo_c1 hst hs hnb 681 0 FU g (by omega) (by unfold FU; omega)
/-- a copy of the state, as the reference keeps it -/
def img (f g : Nat → Int32) : Nat → Int32 := fun p => if p < 681 then f p else g p
theorem keeps_eq (ρ : Ms) : X5_keeps ρ = some (msA ρ 1 (img (ρ.1.1 0) (ρ.1.1 1))) := by
  unfold X5_keeps
  rw [show X5_copies2 681 681 (ρ.1.1 0) (ρ.1.1 1) 0 0 = _ from copies2_eq (s := 0) (t := 0) (ρ.1.1 0) (ρ.1.1 1) (by omega) (by omega) (by omega) (by omega), Option.bind_some]
  simp only [bnd]
  congr 2
  funext p
  unfold img
  by_cases z : p < 681
  · rw [if_pos z, if_pos (by omega), show 0 + (p - 0) = p by omega]
  · rw [if_neg z, if_neg (by omega)]
theorem RepM.congr {g g' : Nat → Int32} {α : As} (h : RepM g α) (e : ∀ p, p < 681 → g' p = g p) : RepM g' α := by
  intro r i k hr hi hk
  rw [e _ (by rcases (show r = 0 ∨ r = 1 ∨ r = 2 ∨ r = 3 ∨ r = 4 ∨ r = 5 by omega) with rfl | rfl | rfl | rfl | rfl | rfl <;> simp only [bs, wd, rw_] at hi hk ⊢ <;> omega)]
  exact h r i k hr hi hk
theorem Core.congr {D : Nat} {τ : St} {g g' : Nat → Int32} (h : Core D τ g) (e : ∀ p, p < 681 → g' p = g p) : Core D τ g' := by
  obtain ⟨α, d, nC, nP, nH, nL, a, b⟩ := h
  exact ⟨α, d, nC, nP, nH, nL, a.congr e, b⟩
theorem Core.ok {D : Nat} {τ : St} {g : Nat → Int32} (h : Core D τ g) : OK τ := by
  obtain ⟨α, d, nC, nP, nH, nL, -, ⟨⟨a1, a2, a3, a4, a5, -⟩, -⟩, ⟨-, ⟨-, q1, q2, q3, q4⟩, -⟩, -⟩ := h
  unfold OK tbOK
  rw [a1, a2, a3, a4, a5]
  exact ⟨⟨nI_pos' (by omega), nI_le q1 (by omega)⟩, ⟨nI_pos' (by omega), nI_le q2 (by omega)⟩, ⟨nI_pos' (by omega), nI_le q3 (by omega)⟩, ⟨nI_pos' (by omega), nI_le q4 (by omega)⟩, ⟨nI_pos' (by omega), nI_le (by omega) (by omega)⟩⟩
/-- the changes, all of them one place down from place i on -/
def shc (g : Nat → Int32) (i : Nat) : Nat → Int32 := fun p => if 681 * (i - 1) ≤ p ∧ p < 681 * 7 then g (p + 681) else g p
theorem msI_int {ρ : Ms} {v : Int32} {j i : Nat} : (msI ρ j v).1.2 i = if i = j then v else ρ.1.2 i := rfl
theorem msI_arr {ρ : Ms} {v : Int32} {j : Nat} : (msI ρ j v).1.1 = ρ.1.1 := rfl
theorem lo_made (r : Int32) : ∀ (m i k : Nat) (ρ : Ms), i + m = 8 → m < k → 1 ≤ i → X5_made_L17 r k (nI i) ρ = X5_made_L17 r 1 (nI 8) (msA ρ 3 (shc (ρ.1.1 3) i)) := by
  intro m
  induction m with
  | zero =>
    intro i k ρ e1 e2 e3
    obtain ⟨k, rfl⟩ : ∃ q, k = q + 1 := ⟨k - 1, by omega⟩
    have ei : i = 8 := by omega
    subst ei
    have e : shc (ρ.1.1 3) 8 = ρ.1.1 3 := by
      funext p
      unfold shc
      rw [if_neg (by omega)]
    rw [e, msA_self, X5_made_L17, if_pos (show (8 : Int32) ≤ nI 8 by decide), X5_made_L17, if_pos (show (8 : Int32) ≤ nI 8 by decide)]
  | succ m ih =>
    intro i k ρ e1 e2 e3
    obtain ⟨k, rfl⟩ : ∃ q, k = q + 1 := ⟨k - 1, by omega⟩
    obtain ⟨j, rfl⟩ : ∃ j, i = j + 1 := ⟨i - 1, by omega⟩
    rw [X5_made_L17, if_neg (show ¬ (8 : Int32) ≤ nI (j + 1) from nI_ge (b := 8) (by omega) (by omega)), nI_pred, show (681 : Int32) = nI 681 from rfl, pk_mul, pk_mul, copies1_eq (ρ.1.1 3) (by omega) (by omega) (by omega), Option.bind_some, nI_1]
    simp only [bnd]
    rw [ih (j + 1 + 1) k _ (by omega) (by omega) (by omega), msA_msA, msA_get, if_pos rfl]
    congr 2
    funext p
    unfold shc
    show (if 681 * (j + 1 + 1 - 1) ≤ p ∧ p < 681 * 7 then (if 681 * j ≤ p + 681 ∧ p + 681 < 681 * j + 681 then ρ.1.1 3 (681 * (j + 1) + (p + 681 - 681 * j)) else ρ.1.1 3 (p + 681)) else (if 681 * j ≤ p ∧ p < 681 * j + 681 then ρ.1.1 3 (681 * (j + 1) + (p - 681 * j)) else ρ.1.1 3 p)) = _
    by_cases z1 : 681 * (j + 1) ≤ p ∧ p < 681 * 7
    · rw [if_pos (by omega), if_neg (by omega), if_pos (by omega)]
    · rw [if_neg (by omega)]
      by_cases z2 : 681 * j ≤ p ∧ p < 681 * j + 681
      · rw [if_pos z2, if_pos (by omega), show 681 * (j + 1) + (p - 681 * j) = p + 681 by omega]
      · rw [if_neg z2, if_neg (by omega)]
/-- the reference's push -/
theorem made_sim {ρ : Ms} {m : Nat} (r : Int32) (hr : 0 ≤ r) (hm : m ≤ 8) (hi : ρ.1.2 0 = nI m) : ∃ ρ' m', X5_made ρ r = some (r, ρ') ∧ m' ≤ 8 ∧ m' = min (m + 1) 8 ∧ ρ'.1.2 0 = nI m' ∧ ρ'.2 = ρ.2 ∧ (∀ i, i ≠ 3 → ρ'.1.1 i = ρ.1.1 i) ∧ (∀ i, i ≠ 0 → ρ'.1.2 i = ρ.1.2 i) ∧
    (∀ j q, j < m' - 1 → q < 681 → ρ'.1.1 3 (681 * j + q) = ρ.1.1 3 (681 * (if m = 8 then j + 1 else j) + q)) ∧ (∀ q, q < 681 → ρ'.1.1 3 (681 * (m' - 1) + q) = ρ.1.1 1 q) := by
  unfold X5_made
  rw [if_pos hr, hi]
  by_cases h8 : m = 8
  · subst h8
    rw [if_pos (show nI 8 = 8 from rfl), show X5_made_L17 r FU 1 ρ = _ from lo_made r 7 1 FU ρ (by omega) (by unfold FU; omega) (by omega), X5_made_L17, if_pos (show (8 : Int32) ≤ nI 8 by decide)]
    have e0 : (msA ρ 3 (shc (ρ.1.1 3) 1)).1.2 0 - 1 = nI 7 := by
      rw [msA_int, hi]; rfl
    rw [e0]
    simp only [bnd]
    have e1 : (msI (msA ρ 3 (shc (ρ.1.1 3) 1)) 0 (nI 7)).1.2 0 = nI 7 := by rw [msI_int, if_pos rfl]
    have A3 : (msI (msA ρ 3 (shc (ρ.1.1 3) 1)) 0 (nI 7)).1.1 3 = shc (ρ.1.1 3) 1 := by rw [msI_arr, msA_get, if_pos rfl]
    have A1 : (msI (msA ρ 3 (shc (ρ.1.1 3) 1)) 0 (nI 7)).1.1 1 = ρ.1.1 1 := by rw [msI_arr, msA_get, if_neg (by omega)]
    rw [A1, A3]
    rw [e1, show (681 : Int32) * nI 7 = nI (681 * 7) from pk_mul 681 7, show (0 : Int32) = nI 0 from rfl, copies2_eq _ _ (by omega) (by omega) (by omega) (by omega), Option.bind_some, msA_int, e1, nI_1]
    refine ⟨_, 8, rfl, by omega, rfl, by rw [msI_int, if_pos rfl], rfl, fun i hi => ?_, fun i hi => ?_, fun j q hj hq => ?_, fun q hq => ?_⟩
    · rw [msI_arr, msA_get, if_neg hi, msI_arr, msA_get, if_neg hi]
    · rw [msI_int, if_neg hi, msA_int, msI_int, if_neg hi, msA_int]
    · rw [msI_arr, msA_get, if_pos rfl, if_pos trivial]
      show (if 681 * 7 ≤ 681 * j + q ∧ 681 * j + q < 681 * 7 + 681 then _ else shc (ρ.1.1 3) 1 (681 * j + q)) = _
      rw [if_neg (by omega)]
      unfold shc
      rw [if_pos (by omega), show 681 * j + q + 681 = 681 * (j + 1) + q by omega]
    · rw [msI_arr, msA_get, if_pos rfl]
      show (if 681 * 7 ≤ 681 * (8 - 1) + q ∧ 681 * (8 - 1) + q < 681 * 7 + 681 then ρ.1.1 1 (0 + (681 * (8 - 1) + q - 681 * 7)) else _) = _
      rw [if_pos (by omega), show 0 + (681 * (8 - 1) + q - 681 * 7) = q by omega]
  · rw [if_neg (show ¬ nI m = 8 from fun e => h8 ((nI_eq (a := m) (b := 8) (by omega) (by omega)).mp e)), show (681 : Int32) * nI m = nI (681 * m) from pk_mul 681 m, show X5_copies2 681 5448 (ρ.1.1 1) (ρ.1.1 3) 0 (nI (681 * m)) = _ from copies2_eq (s := 0) _ _ (by omega) (by omega) (by omega) (by omega), Option.bind_some]
    simp only [bnd]
    rw [msA_int, hi, nI_1]
    refine ⟨_, m + 1, rfl, by omega, by omega, by rw [msI_int, if_pos rfl], rfl, fun i hi => ?_, fun i hi => ?_, fun j q hj hq => ?_, fun q hq => ?_⟩
    · rw [msI_arr, msA_get, if_neg hi]
    · rw [msI_int, if_neg hi, msA_int]
    · rw [msI_arr, msA_get, if_pos rfl, if_neg h8]
      show (if 681 * m ≤ 681 * j + q ∧ 681 * j + q < 681 * m + 681 then _ else ρ.1.1 3 (681 * j + q)) = _
      rw [if_neg (by omega)]
    · rw [msI_arr, msA_get, if_pos rfl]
      show (if 681 * m ≤ 681 * (m + 1 - 1) + q ∧ 681 * (m + 1 - 1) + q < 681 * m + 681 then ρ.1.1 1 (0 + (681 * (m + 1 - 1) + q - 681 * m)) else _) = _
      rw [if_pos (by omega), show 0 + (681 * (m + 1 - 1) + q - 681 * m) = q by omega]
