/-! READING AND WRITING, ON BOTH SIDES -/
theorem fv_up {w k k' r r' : Nat} {f : Nat → Int32} {v : Int32} (hk : k < w) (hk' : k' < w) : fv w (va_up f (r * w + k) v) r' k' = if r' = r ∧ k' = k then v else fv w f r' k' := by
  unfold fv va_up
  by_cases h : r' = r ∧ k' = k
  · rw [if_pos h, if_pos (by rw [h.1, h.2])]
  · rw [if_neg h, if_neg]
    intro e
    apply h
    have h1 : r' = r := by
      rcases Nat.lt_trichotomy r' r with z | z | z
      · have := Nat.mul_le_mul_right w (show r' + 1 ≤ r from z)
        rw [Nat.add_mul] at this
        omega
      · exact z
      · have := Nat.mul_le_mul_right w (show r + 1 ≤ r' from z)
        rw [Nat.add_mul] at this
        omega
    subst h1
    exact ⟨rfl, by omega⟩
theorem tg {w n r k : Nat} {u : Tab} (hu : u.1 = nI n) (hn : n ≤ 100) (hw : w ≤ 12) (hr : r < n) (hk : k < w) : tget w u (nI r) (nI k) = fv w u.2 r k := by
  have e : u = (nI n, u.2) := by rw [← hu]
  rw [e]
  exact tget_in hr hk (by omega) (by omega)
theorem tp {w n r k : Nat} {u : Tab} {v : Int32} (hu : u.1 = nI n) (hn : n ≤ 100) (hw : w ≤ 12) (hr : r < n) (hk : k < w) : tput w u (nI r) (nI k) v = (nI n, va_up u.2 (r * w + k) v) := by
  have e : u = (nI n, u.2) := by rw [← hu]
  rw [e]
  exact tput_in hr hk (by omega) (by omega)
theorem tg_c {u : Tab} {n r : Nat} (hu : u.1 = nI n) (hn : n ≤ 100) (hr : r < n) : tget 12 u (nI r) 0 = fv 12 u.2 r 0 ∧ tget 12 u (nI r) 1 = fv 12 u.2 r 1 ∧ tget 12 u (nI r) 2 = fv 12 u.2 r 2 ∧ tget 12 u (nI r) 3 = fv 12 u.2 r 3 ∧ tget 12 u (nI r) 4 = fv 12 u.2 r 4 ∧ tget 12 u (nI r) 5 = fv 12 u.2 r 5 ∧ tget 12 u (nI r) 6 = fv 12 u.2 r 6 ∧ tget 12 u (nI r) 7 = fv 12 u.2 r 7 ∧ tget 12 u (nI r) 8 = fv 12 u.2 r 8 ∧ tget 12 u (nI r) 9 = fv 12 u.2 r 9 ∧ tget 12 u (nI r) 10 = fv 12 u.2 r 10 ∧ tget 12 u (nI r) 11 = fv 12 u.2 r 11 := ⟨tg (k := 0) hu hn (by omega) hr (by omega), tg (k := 1) hu hn (by omega) hr (by omega), tg (k := 2) hu hn (by omega) hr (by omega), tg (k := 3) hu hn (by omega) hr (by omega), tg (k := 4) hu hn (by omega) hr (by omega), tg (k := 5) hu hn (by omega) hr (by omega), tg (k := 6) hu hn (by omega) hr (by omega), tg (k := 7) hu hn (by omega) hr (by omega), tg (k := 8) hu hn (by omega) hr (by omega), tg (k := 9) hu hn (by omega) hr (by omega), tg (k := 10) hu hn (by omega) hr (by omega), tg (k := 11) hu hn (by omega) hr (by omega)⟩
theorem tp_c {u : Tab} {n r : Nat} {v : Int32} (hu : u.1 = nI n) (hn : n ≤ 100) (hr : r < n) : tput 12 u (nI r) 0 v = (nI n, va_up u.2 (r * 12 + 0) v) ∧ tput 12 u (nI r) 1 v = (nI n, va_up u.2 (r * 12 + 1) v) ∧ tput 12 u (nI r) 2 v = (nI n, va_up u.2 (r * 12 + 2) v) ∧ tput 12 u (nI r) 3 v = (nI n, va_up u.2 (r * 12 + 3) v) ∧ tput 12 u (nI r) 4 v = (nI n, va_up u.2 (r * 12 + 4) v) ∧ tput 12 u (nI r) 5 v = (nI n, va_up u.2 (r * 12 + 5) v) ∧ tput 12 u (nI r) 6 v = (nI n, va_up u.2 (r * 12 + 6) v) ∧ tput 12 u (nI r) 7 v = (nI n, va_up u.2 (r * 12 + 7) v) ∧ tput 12 u (nI r) 8 v = (nI n, va_up u.2 (r * 12 + 8) v) ∧ tput 12 u (nI r) 9 v = (nI n, va_up u.2 (r * 12 + 9) v) ∧ tput 12 u (nI r) 10 v = (nI n, va_up u.2 (r * 12 + 10) v) ∧ tput 12 u (nI r) 11 v = (nI n, va_up u.2 (r * 12 + 11) v) := ⟨tp (k := 0) hu hn (by omega) hr (by omega), tp (k := 1) hu hn (by omega) hr (by omega), tp (k := 2) hu hn (by omega) hr (by omega), tp (k := 3) hu hn (by omega) hr (by omega), tp (k := 4) hu hn (by omega) hr (by omega), tp (k := 5) hu hn (by omega) hr (by omega), tp (k := 6) hu hn (by omega) hr (by omega), tp (k := 7) hu hn (by omega) hr (by omega), tp (k := 8) hu hn (by omega) hr (by omega), tp (k := 9) hu hn (by omega) hr (by omega), tp (k := 10) hu hn (by omega) hr (by omega), tp (k := 11) hu hn (by omega) hr (by omega)⟩
theorem tg_p {u : Tab} {n r : Nat} (hu : u.1 = nI n) (hn : n ≤ 100) (hr : r < n) : tget 4 u (nI r) 0 = fv 4 u.2 r 0 ∧ tget 4 u (nI r) 1 = fv 4 u.2 r 1 ∧ tget 4 u (nI r) 2 = fv 4 u.2 r 2 ∧ tget 4 u (nI r) 3 = fv 4 u.2 r 3 := ⟨tg (k := 0) hu hn (by omega) hr (by omega), tg (k := 1) hu hn (by omega) hr (by omega), tg (k := 2) hu hn (by omega) hr (by omega), tg (k := 3) hu hn (by omega) hr (by omega)⟩
theorem tp_p {u : Tab} {n r : Nat} {v : Int32} (hu : u.1 = nI n) (hn : n ≤ 100) (hr : r < n) : tput 4 u (nI r) 0 v = (nI n, va_up u.2 (r * 4 + 0) v) ∧ tput 4 u (nI r) 1 v = (nI n, va_up u.2 (r * 4 + 1) v) ∧ tput 4 u (nI r) 2 v = (nI n, va_up u.2 (r * 4 + 2) v) ∧ tput 4 u (nI r) 3 v = (nI n, va_up u.2 (r * 4 + 3) v) := ⟨tp (k := 0) hu hn (by omega) hr (by omega), tp (k := 1) hu hn (by omega) hr (by omega), tp (k := 2) hu hn (by omega) hr (by omega), tp (k := 3) hu hn (by omega) hr (by omega)⟩
theorem tg_l {u : Tab} {n r : Nat} (hu : u.1 = nI n) (hn : n ≤ 100) (hr : r < n) : tget 5 u (nI r) 0 = fv 5 u.2 r 0 ∧ tget 5 u (nI r) 1 = fv 5 u.2 r 1 ∧ tget 5 u (nI r) 2 = fv 5 u.2 r 2 ∧ tget 5 u (nI r) 3 = fv 5 u.2 r 3 ∧ tget 5 u (nI r) 4 = fv 5 u.2 r 4 := ⟨tg (k := 0) hu hn (by omega) hr (by omega), tg (k := 1) hu hn (by omega) hr (by omega), tg (k := 2) hu hn (by omega) hr (by omega), tg (k := 3) hu hn (by omega) hr (by omega), tg (k := 4) hu hn (by omega) hr (by omega)⟩
theorem tp_l {u : Tab} {n r : Nat} {v : Int32} (hu : u.1 = nI n) (hn : n ≤ 100) (hr : r < n) : tput 5 u (nI r) 0 v = (nI n, va_up u.2 (r * 5 + 0) v) ∧ tput 5 u (nI r) 1 v = (nI n, va_up u.2 (r * 5 + 1) v) ∧ tput 5 u (nI r) 2 v = (nI n, va_up u.2 (r * 5 + 2) v) ∧ tput 5 u (nI r) 3 v = (nI n, va_up u.2 (r * 5 + 3) v) ∧ tput 5 u (nI r) 4 v = (nI n, va_up u.2 (r * 5 + 4) v) := ⟨tp (k := 0) hu hn (by omega) hr (by omega), tp (k := 1) hu hn (by omega) hr (by omega), tp (k := 2) hu hn (by omega) hr (by omega), tp (k := 3) hu hn (by omega) hr (by omega), tp (k := 4) hu hn (by omega) hr (by omega)⟩
theorem tg_s {u : Tab} (hu : u.1 = nI 8) : tget 1 u 0 0 = fv 1 u.2 0 0 ∧ tget 1 u 1 0 = fv 1 u.2 1 0 ∧ tget 1 u 2 0 = fv 1 u.2 2 0 ∧ tget 1 u 3 0 = fv 1 u.2 3 0 ∧ tget 1 u 4 0 = fv 1 u.2 4 0 ∧ tget 1 u 5 0 = fv 1 u.2 5 0 ∧ tget 1 u 6 0 = fv 1 u.2 6 0 ∧ tget 1 u 7 0 = fv 1 u.2 7 0 := ⟨tg (r := 0) (k := 0) hu (by omega) (by omega) (by omega) (by omega), tg (r := 1) (k := 0) hu (by omega) (by omega) (by omega) (by omega), tg (r := 2) (k := 0) hu (by omega) (by omega) (by omega) (by omega), tg (r := 3) (k := 0) hu (by omega) (by omega) (by omega) (by omega), tg (r := 4) (k := 0) hu (by omega) (by omega) (by omega) (by omega), tg (r := 5) (k := 0) hu (by omega) (by omega) (by omega) (by omega), tg (r := 6) (k := 0) hu (by omega) (by omega) (by omega) (by omega), tg (r := 7) (k := 0) hu (by omega) (by omega) (by omega) (by omega)⟩
theorem stT_get {τ : St} {i j : Nat} {u : Tab} : (stT τ i u).1 j = if j = i then u else τ.1 j := rfl
theorem stT_day {τ : St} {i : Nat} {u : Tab} : (stT τ i u).2 = τ.2 := rfl
theorem stT_stT {τ : St} {i : Nat} {u v : Tab} : stT (stT τ i u) i v = stT τ i v := by
  unfold stT
  congr 1
  funext j
  show (if j = i then v else if j = i then u else τ.1 j) = if j = i then v else τ.1 j
  by_cases h : j = i
  · rw [if_pos h, if_pos h]
  · rw [if_neg h, if_neg h, if_neg h]
/-- the reference's array, written -/
def mup (g : Nat → Int32) (r i k : Nat) (v : Int32) : Nat → Int32 := va_up g (bs r + wd r * i + k) v
theorem RepM.up {g : Nat → Int32} {α : As} {r i k : Nat} {v : Int32} (h : RepM g α) (hr : r < 6) (hi : i < rw_ r) (hk : k < wd r) : RepM (mup g r i k v) (au α r i k v) := by
  intro r' i' k' hr' hi' hk'
  unfold mup va_up au
  by_cases e : r' = r ∧ i' = i ∧ k' = k
  · rw [if_pos e, if_pos (by rw [e.1, e.2.1, e.2.2])]
  · rw [if_neg e, if_neg, h r' i' k' hr' hi' hk']
    intro z
    apply e
    rcases (show r = 0 ∨ r = 1 ∨ r = 2 ∨ r = 3 ∨ r = 4 ∨ r = 5 by omega) with rfl | rfl | rfl | rfl | rfl | rfl <;> rcases (show r' = 0 ∨ r' = 1 ∨ r' = 2 ∨ r' = 3 ∨ r' = 4 ∨ r' = 5 by omega) with rfl | rfl | rfl | rfl | rfl | rfl <;> simp only [bs, wd, rw_] at hi hk hi' hk' z ⊢ <;> omega
theorem msA_get {ρ : Ms} {i j : Nat} {g : Nat → Int32} : (msA ρ i g).1.1 j = if j = i then g else ρ.1.1 j := rfl
theorem msA_int {ρ : Ms} {i : Nat} {g : Nat → Int32} : (msA ρ i g).1.2 = ρ.1.2 := rfl
theorem msA_flag {ρ : Ms} {i : Nat} {g : Nat → Int32} : (msA ρ i g).2 = ρ.2 := rfl
theorem msA_msA {ρ : Ms} {i : Nat} {g g' : Nat → Int32} : msA (msA ρ i g) i g' = msA ρ i g' := by
  unfold msA
  congr 2
  funext j
  show (if j = i then g' else if j = i then g else ρ.1.1 j) = if j = i then g' else ρ.1.1 j
  by_cases h : j = i
  · rw [if_pos h, if_pos h]
  · rw [if_neg h, if_neg h, if_neg h]
theorem msA_self {ρ : Ms} {i : Nat} : msA ρ i (ρ.1.1 i) = ρ := by
  obtain ⟨⟨f, g⟩, q⟩ := ρ
  unfold msA
  congr 2
  funext j
  unfold va_up
  split
  · rename_i h; rw [h]
  · rfl
theorem rdN {g : Nat → Int32} {n j : Nat} (hj : j < n) (hn : n < 10000) : rdA g n (nI j) = some (g j) := by
  unfold rdA
  rw [if_neg (nI_in hj (by omega)), nI_clamp (by omega)]
theorem wrN {g : Nat → Int32} {n j : Nat} {v : Int32} (hj : j < n) (hn : n < 10000) : wrA g n (nI j) v = some (va_up g j v) := by
  unfold wrA
  rw [if_neg (nI_in hj (by omega)), nI_clamp (by omega)]
theorem rdR {g : Nat → Int32} {α : As} {r i k : Nat} (h : RepM g α) (hr : r < 6) (hi : i < rw_ r) (hk : k < wd r) : rdA g 681 (nI (bs r + wd r * i + k)) = some (α r i k) := by
  rw [rdN (by
    rcases (show r = 0 ∨ r = 1 ∨ r = 2 ∨ r = 3 ∨ r = 4 ∨ r = 5 by omega) with rfl | rfl | rfl | rfl | rfl | rfl <;> simp only [bs, wd, rw_] at hi hk ⊢ <;> omega) (by omega), h r i k hr hi hk]
theorem wrR {g : Nat → Int32} {r i k : Nat} {v : Int32} (hr : r < 6) (hi : i < rw_ r) (hk : k < wd r) : wrA g 681 (nI (bs r + wd r * i + k)) v = some (mup g r i k v) := by
  rw [wrN (by
    rcases (show r = 0 ∨ r = 1 ∨ r = 2 ∨ r = 3 ∨ r = 4 ∨ r = 5 by omega) with rfl | rfl | rfl | rfl | rfl | rfl <;> simp only [bs, wd, rw_] at hi hk ⊢ <;> omega) (by omega)]
  rfl
theorem rd_h {g : Nat → Int32} {α : As} (h : RepM g α) : rdA g 681 0 = some (α 0 0 0) ∧ rdA g 681 1 = some (α 0 0 1) ∧ rdA g 681 2 = some (α 0 0 2) ∧ rdA g 681 3 = some (α 0 0 3) ∧ rdA g 681 4 = some (α 0 0 4) ∧ rdA g 681 5 = some (α 1 0 0) ∧ rdA g 681 6 = some (α 1 0 1) ∧ rdA g 681 7 = some (α 1 0 2) ∧ rdA g 681 8 = some (α 1 0 3) ∧ rdA g 681 9 = some (α 1 0 4) ∧ rdA g 681 10 = some (α 1 0 5) ∧ rdA g 681 11 = some (α 1 0 6) ∧ rdA g 681 12 = some (α 1 0 7) := ⟨rdR (r := 0) (i := 0) (k := 0) h (by decide) (by decide) (by decide), rdR (r := 0) (i := 0) (k := 1) h (by decide) (by decide) (by decide), rdR (r := 0) (i := 0) (k := 2) h (by decide) (by decide) (by decide), rdR (r := 0) (i := 0) (k := 3) h (by decide) (by decide) (by decide), rdR (r := 0) (i := 0) (k := 4) h (by decide) (by decide) (by decide), rdR (r := 1) (i := 0) (k := 0) h (by decide) (by decide) (by decide), rdR (r := 1) (i := 0) (k := 1) h (by decide) (by decide) (by decide), rdR (r := 1) (i := 0) (k := 2) h (by decide) (by decide) (by decide), rdR (r := 1) (i := 0) (k := 3) h (by decide) (by decide) (by decide), rdR (r := 1) (i := 0) (k := 4) h (by decide) (by decide) (by decide), rdR (r := 1) (i := 0) (k := 5) h (by decide) (by decide) (by decide), rdR (r := 1) (i := 0) (k := 6) h (by decide) (by decide) (by decide), rdR (r := 1) (i := 0) (k := 7) h (by decide) (by decide) (by decide)⟩
theorem wr_h {g : Nat → Int32} {v : Int32} : wrA g 681 0 v = some (mup g 0 0 0 v) ∧ wrA g 681 1 v = some (mup g 0 0 1 v) ∧ wrA g 681 2 v = some (mup g 0 0 2 v) ∧ wrA g 681 3 v = some (mup g 0 0 3 v) ∧ wrA g 681 4 v = some (mup g 0 0 4 v) := ⟨wrR (r := 0) (i := 0) (k := 0) (by decide) (by decide) (by decide), wrR (r := 0) (i := 0) (k := 1) (by decide) (by decide) (by decide), wrR (r := 0) (i := 0) (k := 2) (by decide) (by decide) (by decide), wrR (r := 0) (i := 0) (k := 3) (by decide) (by decide) (by decide), wrR (r := 0) (i := 0) (k := 4) (by decide) (by decide) (by decide)⟩
theorem wr_s {g : Nat → Int32} {v : Int32} {j : Nat} (hj : j < 8) : wrA g 681 (5 + nI j) v = some (mup g 1 0 j v) := by
  rw [show (5 : Int32) = nI 5 from rfl, nI_add]
  exact wrR (r := 1) (i := 0) (by decide) (by decide) hj
theorem rd_s {g : Nat → Int32} {α : As} {j : Nat} (h : RepM g α) (hj : j < 8) : rdA g 681 (5 + nI j) = some (α 1 0 j) := by
  rw [show (5 : Int32) = nI 5 from rfl, nI_add]
  exact rdR (r := 1) (i := 0) h (by decide) (by decide) hj
theorem ix3 (a b i k : Nat) : nI a + nI b * nI i + nI k = nI (a + b * i + k) := by rw [pk_mul, nI_add, nI_add]
theorem ix2 (a b i : Nat) : nI a + nI b * nI i = nI (a + b * i + 0) := by rw [pk_mul, nI_add, Nat.add_zero]
theorem rd_c {ρ : Ms} {α : As} {c : Nat} (hR : RepM (ρ.1.1 0) α) (hi : c < 20) : X5_of ρ (nI c) 0 = some (α 2 c 0) ∧ X5_of ρ (nI c) 1 = some (α 2 c 1) ∧ X5_of ρ (nI c) 2 = some (α 2 c 2) ∧ X5_of ρ (nI c) 3 = some (α 2 c 3) ∧ X5_of ρ (nI c) 4 = some (α 2 c 4) ∧ X5_of ρ (nI c) 5 = some (α 2 c 5) ∧ X5_of ρ (nI c) 6 = some (α 2 c 6) ∧ X5_of ρ (nI c) 7 = some (α 2 c 7) ∧ X5_of ρ (nI c) 8 = some (α 2 c 8) ∧ X5_of ρ (nI c) 9 = some (α 2 c 9) ∧ X5_of ρ (nI c) 10 = some (α 2 c 10) ∧ X5_of ρ (nI c) 11 = some (α 2 c 11) := by
  have key : ∀ k : Nat, k < 12 → X5_of ρ (nI c) (nI k) = some (α 2 c k) := by
    intro k hk
    unfold X5_of
    rw [show (13 : Int32) = nI 13 from rfl, show (12 : Int32) = nI 12 from rfl, ix3, show rdA (ρ.1.1 0) 681 (nI (13 + 12 * c + k)) = some (α 2 c k) from rdR (r := 2) hR (by decide) hi hk]
    rfl
  exact ⟨key 0 (by omega), key 1 (by omega), key 2 (by omega), key 3 (by omega), key 4 (by omega), key 5 (by omega), key 6 (by omega), key 7 (by omega), key 8 (by omega), key 9 (by omega), key 10 (by omega), key 11 (by omega)⟩
theorem rq_c {g : Nat → Int32} {α : As} {c : Nat} (hR : RepM g α) (hi : c < 20) : rdA g 681 ((13 : Int32) + 12 * nI c) = some (α 2 c 0) ∧ rdA g 681 ((13 : Int32) + 12 * nI c + 0) = some (α 2 c 0) ∧ rdA g 681 ((13 : Int32) + 12 * nI c + 1) = some (α 2 c 1) ∧ rdA g 681 ((13 : Int32) + 12 * nI c + 2) = some (α 2 c 2) ∧ rdA g 681 ((13 : Int32) + 12 * nI c + 3) = some (α 2 c 3) ∧ rdA g 681 ((13 : Int32) + 12 * nI c + 4) = some (α 2 c 4) ∧ rdA g 681 ((13 : Int32) + 12 * nI c + 5) = some (α 2 c 5) ∧ rdA g 681 ((13 : Int32) + 12 * nI c + 6) = some (α 2 c 6) ∧ rdA g 681 ((13 : Int32) + 12 * nI c + 7) = some (α 2 c 7) ∧ rdA g 681 ((13 : Int32) + 12 * nI c + 8) = some (α 2 c 8) ∧ rdA g 681 ((13 : Int32) + 12 * nI c + 9) = some (α 2 c 9) ∧ rdA g 681 ((13 : Int32) + 12 * nI c + 10) = some (α 2 c 10) ∧ rdA g 681 ((13 : Int32) + 12 * nI c + 11) = some (α 2 c 11) := by
  have key : ∀ k : Nat, k < 12 → rdA g 681 (nI 13 + nI 12 * nI c + nI k) = some (α 2 c k) := fun k hk => by rw [ix3]; exact rdR (r := 2) hR (by decide) hi hk
  exact ⟨(by have := key 0 (by omega); rw [ix3] at this; rw [show (13 : Int32) + 12 * nI c = nI 13 + nI 12 * nI c from rfl, ix2]; exact this), key 0 (by omega), key 1 (by omega), key 2 (by omega), key 3 (by omega), key 4 (by omega), key 5 (by omega), key 6 (by omega), key 7 (by omega), key 8 (by omega), key 9 (by omega), key 10 (by omega), key 11 (by omega)⟩
theorem wr_c {g : Nat → Int32} {v : Int32} {c : Nat} (hi : c < 20) : wrA g 681 ((13 : Int32) + 12 * nI c) v = some (mup g 2 c 0 v) ∧ wrA g 681 ((13 : Int32) + 12 * nI c + 0) v = some (mup g 2 c 0 v) ∧ wrA g 681 ((13 : Int32) + 12 * nI c + 1) v = some (mup g 2 c 1 v) ∧ wrA g 681 ((13 : Int32) + 12 * nI c + 2) v = some (mup g 2 c 2 v) ∧ wrA g 681 ((13 : Int32) + 12 * nI c + 3) v = some (mup g 2 c 3 v) ∧ wrA g 681 ((13 : Int32) + 12 * nI c + 4) v = some (mup g 2 c 4 v) ∧ wrA g 681 ((13 : Int32) + 12 * nI c + 5) v = some (mup g 2 c 5 v) ∧ wrA g 681 ((13 : Int32) + 12 * nI c + 6) v = some (mup g 2 c 6 v) ∧ wrA g 681 ((13 : Int32) + 12 * nI c + 7) v = some (mup g 2 c 7 v) ∧ wrA g 681 ((13 : Int32) + 12 * nI c + 8) v = some (mup g 2 c 8 v) ∧ wrA g 681 ((13 : Int32) + 12 * nI c + 9) v = some (mup g 2 c 9 v) ∧ wrA g 681 ((13 : Int32) + 12 * nI c + 10) v = some (mup g 2 c 10 v) ∧ wrA g 681 ((13 : Int32) + 12 * nI c + 11) v = some (mup g 2 c 11 v) := by
  have key : ∀ k : Nat, k < 12 → wrA g 681 (nI 13 + nI 12 * nI c + nI k) v = some (mup g 2 c k v) := fun k hk => by rw [ix3]; exact wrR (r := 2) (by decide) hi hk
  exact ⟨(by have := key 0 (by omega); rw [ix3] at this; rw [show (13 : Int32) + 12 * nI c = nI 13 + nI 12 * nI c from rfl, ix2]; exact this), key 0 (by omega), key 1 (by omega), key 2 (by omega), key 3 (by omega), key 4 (by omega), key 5 (by omega), key 6 (by omega), key 7 (by omega), key 8 (by omega), key 9 (by omega), key 10 (by omega), key 11 (by omega)⟩
theorem rq_p {g : Nat → Int32} {α : As} {p : Nat} (hR : RepM g α) (hi : p < 8) : rdA g 681 ((253 : Int32) + 4 * nI p) = some (α 3 p 0) ∧ rdA g 681 ((253 : Int32) + 4 * nI p + 0) = some (α 3 p 0) ∧ rdA g 681 ((253 : Int32) + 4 * nI p + 1) = some (α 3 p 1) ∧ rdA g 681 ((253 : Int32) + 4 * nI p + 2) = some (α 3 p 2) ∧ rdA g 681 ((253 : Int32) + 4 * nI p + 3) = some (α 3 p 3) := by
  have key : ∀ k : Nat, k < 4 → rdA g 681 (nI 253 + nI 4 * nI p + nI k) = some (α 3 p k) := fun k hk => by rw [ix3]; exact rdR (r := 3) hR (by decide) hi hk
  exact ⟨(by have := key 0 (by omega); rw [ix3] at this; rw [show (253 : Int32) + 4 * nI p = nI 253 + nI 4 * nI p from rfl, ix2]; exact this), key 0 (by omega), key 1 (by omega), key 2 (by omega), key 3 (by omega)⟩
theorem wr_p {g : Nat → Int32} {v : Int32} {p : Nat} (hi : p < 8) : wrA g 681 ((253 : Int32) + 4 * nI p) v = some (mup g 3 p 0 v) ∧ wrA g 681 ((253 : Int32) + 4 * nI p + 0) v = some (mup g 3 p 0 v) ∧ wrA g 681 ((253 : Int32) + 4 * nI p + 1) v = some (mup g 3 p 1 v) ∧ wrA g 681 ((253 : Int32) + 4 * nI p + 2) v = some (mup g 3 p 2 v) ∧ wrA g 681 ((253 : Int32) + 4 * nI p + 3) v = some (mup g 3 p 3 v) := by
  have key : ∀ k : Nat, k < 4 → wrA g 681 (nI 253 + nI 4 * nI p + nI k) v = some (mup g 3 p k v) := fun k hk => by rw [ix3]; exact wrR (r := 3) (by decide) hi hk
  exact ⟨(by have := key 0 (by omega); rw [ix3] at this; rw [show (253 : Int32) + 4 * nI p = nI 253 + nI 4 * nI p from rfl, ix2]; exact this), key 0 (by omega), key 1 (by omega), key 2 (by omega), key 3 (by omega)⟩
theorem rd_o {ρ : Ms} {α : As} {h : Nat} (hR : RepM (ρ.1.1 0) α) (hi : h < 24) : X5_hold ρ (nI h) 0 = some (α 4 h 0) ∧ X5_hold ρ (nI h) 1 = some (α 4 h 1) ∧ X5_hold ρ (nI h) 2 = some (α 4 h 2) ∧ X5_hold ρ (nI h) 3 = some (α 4 h 3) := by
  have key : ∀ k : Nat, k < 4 → X5_hold ρ (nI h) (nI k) = some (α 4 h k) := by
    intro k hk
    unfold X5_hold
    rw [show (285 : Int32) = nI 285 from rfl, show (4 : Int32) = nI 4 from rfl, ix3, show rdA (ρ.1.1 0) 681 (nI (285 + 4 * h + k)) = some (α 4 h k) from rdR (r := 4) hR (by decide) hi hk]
    rfl
  exact ⟨key 0 (by omega), key 1 (by omega), key 2 (by omega), key 3 (by omega)⟩
theorem rq_o {g : Nat → Int32} {α : As} {h : Nat} (hR : RepM g α) (hi : h < 24) : rdA g 681 ((285 : Int32) + 4 * nI h) = some (α 4 h 0) ∧ rdA g 681 ((285 : Int32) + 4 * nI h + 0) = some (α 4 h 0) ∧ rdA g 681 ((285 : Int32) + 4 * nI h + 1) = some (α 4 h 1) ∧ rdA g 681 ((285 : Int32) + 4 * nI h + 2) = some (α 4 h 2) ∧ rdA g 681 ((285 : Int32) + 4 * nI h + 3) = some (α 4 h 3) := by
  have key : ∀ k : Nat, k < 4 → rdA g 681 (nI 285 + nI 4 * nI h + nI k) = some (α 4 h k) := fun k hk => by rw [ix3]; exact rdR (r := 4) hR (by decide) hi hk
  exact ⟨(by have := key 0 (by omega); rw [ix3] at this; rw [show (285 : Int32) + 4 * nI h = nI 285 + nI 4 * nI h from rfl, ix2]; exact this), key 0 (by omega), key 1 (by omega), key 2 (by omega), key 3 (by omega)⟩
theorem wr_o {g : Nat → Int32} {v : Int32} {h : Nat} (hi : h < 24) : wrA g 681 ((285 : Int32) + 4 * nI h) v = some (mup g 4 h 0 v) ∧ wrA g 681 ((285 : Int32) + 4 * nI h + 0) v = some (mup g 4 h 0 v) ∧ wrA g 681 ((285 : Int32) + 4 * nI h + 1) v = some (mup g 4 h 1 v) ∧ wrA g 681 ((285 : Int32) + 4 * nI h + 2) v = some (mup g 4 h 2 v) ∧ wrA g 681 ((285 : Int32) + 4 * nI h + 3) v = some (mup g 4 h 3 v) := by
  have key : ∀ k : Nat, k < 4 → wrA g 681 (nI 285 + nI 4 * nI h + nI k) v = some (mup g 4 h k v) := fun k hk => by rw [ix3]; exact wrR (r := 4) (by decide) hi hk
  exact ⟨(by have := key 0 (by omega); rw [ix3] at this; rw [show (285 : Int32) + 4 * nI h = nI 285 + nI 4 * nI h from rfl, ix2]; exact this), key 0 (by omega), key 1 (by omega), key 2 (by omega), key 3 (by omega)⟩
theorem rq_l {g : Nat → Int32} {α : As} {e : Nat} (hR : RepM g α) (hi : e < 60) : rdA g 681 ((381 : Int32) + 5 * nI e) = some (α 5 e 0) ∧ rdA g 681 ((381 : Int32) + 5 * nI e + 0) = some (α 5 e 0) ∧ rdA g 681 ((381 : Int32) + 5 * nI e + 1) = some (α 5 e 1) ∧ rdA g 681 ((381 : Int32) + 5 * nI e + 2) = some (α 5 e 2) ∧ rdA g 681 ((381 : Int32) + 5 * nI e + 3) = some (α 5 e 3) ∧ rdA g 681 ((381 : Int32) + 5 * nI e + 4) = some (α 5 e 4) := by
  have key : ∀ k : Nat, k < 5 → rdA g 681 (nI 381 + nI 5 * nI e + nI k) = some (α 5 e k) := fun k hk => by rw [ix3]; exact rdR (r := 5) hR (by decide) hi hk
  exact ⟨(by have := key 0 (by omega); rw [ix3] at this; rw [show (381 : Int32) + 5 * nI e = nI 381 + nI 5 * nI e from rfl, ix2]; exact this), key 0 (by omega), key 1 (by omega), key 2 (by omega), key 3 (by omega), key 4 (by omega)⟩
theorem wr_l {g : Nat → Int32} {v : Int32} {e : Nat} (hi : e < 60) : wrA g 681 ((381 : Int32) + 5 * nI e) v = some (mup g 5 e 0 v) ∧ wrA g 681 ((381 : Int32) + 5 * nI e + 0) v = some (mup g 5 e 0 v) ∧ wrA g 681 ((381 : Int32) + 5 * nI e + 1) v = some (mup g 5 e 1 v) ∧ wrA g 681 ((381 : Int32) + 5 * nI e + 2) v = some (mup g 5 e 2 v) ∧ wrA g 681 ((381 : Int32) + 5 * nI e + 3) v = some (mup g 5 e 3 v) ∧ wrA g 681 ((381 : Int32) + 5 * nI e + 4) v = some (mup g 5 e 4 v) := by
  have key : ∀ k : Nat, k < 5 → wrA g 681 (nI 381 + nI 5 * nI e + nI k) v = some (mup g 5 e k v) := fun k hk => by rw [ix3]; exact wrR (r := 5) (by decide) hi hk
  exact ⟨(by have := key 0 (by omega); rw [ix3] at this; rw [show (381 : Int32) + 5 * nI e = nI 381 + nI 5 * nI e from rfl, ix2]; exact this), key 0 (by omega), key 1 (by omega), key 2 (by omega), key 3 (by omega), key 4 (by omega)⟩
theorem put_c {ρ : Ms} {v : Int32} {c : Nat} (hi : c < 20) : X5_puts ρ (nI c) 0 v = some (msA ρ 0 (mup (ρ.1.1 0) 2 c 0 v)) ∧ X5_puts ρ (nI c) 1 v = some (msA ρ 0 (mup (ρ.1.1 0) 2 c 1 v)) ∧ X5_puts ρ (nI c) 2 v = some (msA ρ 0 (mup (ρ.1.1 0) 2 c 2 v)) ∧ X5_puts ρ (nI c) 3 v = some (msA ρ 0 (mup (ρ.1.1 0) 2 c 3 v)) ∧ X5_puts ρ (nI c) 4 v = some (msA ρ 0 (mup (ρ.1.1 0) 2 c 4 v)) ∧ X5_puts ρ (nI c) 5 v = some (msA ρ 0 (mup (ρ.1.1 0) 2 c 5 v)) ∧ X5_puts ρ (nI c) 6 v = some (msA ρ 0 (mup (ρ.1.1 0) 2 c 6 v)) ∧ X5_puts ρ (nI c) 7 v = some (msA ρ 0 (mup (ρ.1.1 0) 2 c 7 v)) ∧ X5_puts ρ (nI c) 8 v = some (msA ρ 0 (mup (ρ.1.1 0) 2 c 8 v)) ∧ X5_puts ρ (nI c) 9 v = some (msA ρ 0 (mup (ρ.1.1 0) 2 c 9 v)) ∧ X5_puts ρ (nI c) 10 v = some (msA ρ 0 (mup (ρ.1.1 0) 2 c 10 v)) ∧ X5_puts ρ (nI c) 11 v = some (msA ρ 0 (mup (ρ.1.1 0) 2 c 11 v)) := by
  have key : ∀ k : Nat, k < 12 → X5_puts ρ (nI c) (nI k) v = some (msA ρ 0 (mup (ρ.1.1 0) 2 c k v)) := by
    intro k hk
    unfold X5_puts bnd
    rw [show (13 : Int32) = nI 13 from rfl, show (12 : Int32) = nI 12 from rfl, ix3, show wrA (ρ.1.1 0) 681 (nI (13 + 12 * c + k)) v = some (mup (ρ.1.1 0) 2 c k v) from wrR (r := 2) (by decide) hi hk]
    rfl
  exact ⟨key 0 (by omega), key 1 (by omega), key 2 (by omega), key 3 (by omega), key 4 (by omega), key 5 (by omega), key 6 (by omega), key 7 (by omega), key 8 (by omega), key 9 (by omega), key 10 (by omega), key 11 (by omega)⟩
theorem turns_c {ρ : Ms} {s w t : Int32} {c : Nat} (hi : c < 20) : X5_turns ρ (nI c) s w t = some (msA ρ 0 (mup (mup (mup (ρ.1.1 0) 2 c 3 s) 2 c 4 w) 2 c 5 t)) := by
  unfold X5_turns
  simp only [put_c hi, Option.bind_some, msA_get, msA_msA, if_true]
/-- counting and finding -/
def cnt (p : Nat → Bool) : Nat → Nat
  | 0 => 0
  | n + 1 => cnt p n + if p n = true then 1 else 0
def smf (f : Nat → Int32) : Nat → Int32
  | 0 => 0
  | n + 1 => smf f n + f n
def ffr (p : Nat → Bool) : Nat → Nat → Int32
  | 0, _ => -2
  | k + 1, i => if p i = true then nI i else ffr p k (i + 1)
def ffi (n : Nat) (p : Nat → Bool) : Int32 := ffr p n 0
theorem cnt_le (p : Nat → Bool) (n : Nat) : cnt p n ≤ n := by
  induction n with
  | zero => exact Nat.le_refl 0
  | succ n ih =>
    unfold cnt
    split <;> omega
theorem cnt_congr {p q : Nat → Bool} {n : Nat} (h : ∀ j, j < n → p j = q j) : cnt p n = cnt q n := by
  induction n with
  | zero => rfl
  | succ n ih =>
    unfold cnt
    rw [ih (fun j hj => h j (by omega)), h n (by omega)]
theorem cnt_zero {p : Nat → Bool} {n : Nat} : cnt p n = 0 ↔ ∀ j, j < n → p j = false := by
  induction n with
  | zero => simp [cnt]
  | succ n ih =>
    unfold cnt
    constructor
    · intro h j hj
      have h1 : cnt p n = 0 := by omega
      rcases Nat.lt_or_ge j n with z | z
      · exact ih.mp h1 j z
      · have : j = n := by omega
        subst this
        cases hp : p j with
        | false => rfl
        | true => rw [hp] at h; simp at h
    · intro h
      rw [ih.mpr (fun j hj => h j (by omega)), h n (by omega)]
      rfl
theorem ffr_spec (p : Nat → Bool) : ∀ k i, (ffr p k i = -2 ∧ ∀ j, i ≤ j → j < i + k → p j = false) ∨ ∃ h, i ≤ h ∧ h < i + k ∧ ffr p k i = nI h ∧ p h = true ∧ ∀ j, i ≤ j → j < h → p j = false := by
  intro k
  induction k with
  | zero => intro i; exact Or.inl ⟨rfl, fun j h1 h2 => by omega⟩
  | succ k ih =>
    intro i
    unfold ffr
    by_cases hp : p i = true
    · rw [if_pos hp]
      exact Or.inr ⟨i, by omega, by omega, rfl, hp, fun j h1 h2 => by omega⟩
    · rw [if_neg hp]
      have hp' : p i = false := by cases h : p i <;> simp_all
      rcases ih (i + 1) with ⟨h1, h2⟩ | ⟨h, h1, h2, h3, h4, h5⟩
      · refine Or.inl ⟨h1, fun j a b => ?_⟩
        rcases Nat.lt_or_ge i j with z | z
        · exact h2 j z (by omega)
        · have : j = i := by omega
          rw [this]; exact hp'
      · refine Or.inr ⟨h, by omega, by omega, h3, h4, fun j a b => ?_⟩
        rcases Nat.lt_or_ge i j with z | z
        · exact h5 j z b
        · have : j = i := by omega
          rw [this]; exact hp'
theorem ffi_spec (n : Nat) (p : Nat → Bool) : (ffi n p = -2 ∧ ∀ j, j < n → p j = false) ∨ ∃ h, h < n ∧ ffi n p = nI h ∧ p h = true ∧ ∀ j, j < h → p j = false := by
  rcases ffr_spec p n 0 with ⟨h1, h2⟩ | ⟨h, h1, h2, h3, h4, h5⟩
  · exact Or.inl ⟨h1, fun j hj => h2 j (by omega) (by omega)⟩
  · exact Or.inr ⟨h, by omega, h3, h4, fun j hj => h5 j (by omega) hj⟩
theorem ffi_at {n h : Nat} {p : Nat → Bool} (hn : h < n) (hp : p h = true) (hf : ∀ j, j < h → p j = false) : ffi n p = nI h := by
  rcases ffi_spec n p with ⟨-, h2⟩ | ⟨h', h1, h2, h3, h4⟩
  · rw [h2 h hn] at hp; cases hp
  · rcases Nat.lt_trichotomy h h' with z | z | z
    · rw [h4 h z] at hp; cases hp
    · rw [h2, z]
    · rw [hf h' z] at h3; cases h3
theorem ffi_none {n : Nat} {p : Nat → Bool} (hf : ∀ j, j < n → p j = false) : ffi n p = -2 := by
  rcases ffi_spec n p with ⟨h1, -⟩ | ⟨h', h1, h2, h3, h4⟩
  · exact h1
  · rw [hf h' h1] at h3; cases h3
theorem nI_ne2 {n : Nat} (h : n < 1000000) : nI n ≠ -2 := by
  intro e
  have h1 := congrArg Int32.toInt e
  rw [nI_toInt (by omega)] at h1
  have h2 : ((-2 : Int32)).toInt = -2 := by decide
  rw [h2] at h1
  omega
theorem nI_inj {a b : Nat} (ha : a < 1000000) (hb : b < 1000000) : nI a = nI b ↔ a = b := nI_eq (by omega) (by omega)
theorem i_irr {x y : Int32} (h : x < y) (h' : y ≤ x) : False := absurd (Int32.lt_of_lt_of_le h h') Int32.lt_irrefl
