/-! MONEY OWED -/
/-- the row of the ledger, the heads, the patron's row -/
def lrow (P : Nat → Int32) (a b v q day : Int32) : Nat → Int32 := fun j => if j = 4 then day else if j = 3 then q else if j = 2 then v else if j = 1 then b else if j = 0 then a else P j
def prow (P : Nat → Int32) (v : Int32) : Nat → Int32 := if v ≤ 0 then (fun j => if j = 3 then P 3 + jab v else if j = 0 then P 0 + v else P j) else (fun j => if j = 2 then P 2 + jab v else if j = 0 then P 0 + v else P j)
def al (β : As) (e p : Nat) (a v q : Int32) : As := ar β 5 e (lrow (β 5 e) a (nI p) v q (β 0 0 0))
def ah (β : As) (e p : Nat) (a v q : Int32) : As := ar (al β e p a v q) 0 0 (fun j => if j = 4 then nI e + 1 else al β e p a v q 0 0 j)
def aowe (β : As) (e p : Nat) (a v q : Int32) : As := ar (ah β e p a v q) 3 p (prow (ah β e p a v q 3 p) v)
theorem ah3 (β : As) (e p : Nat) (a v q : Int32) (k : Nat) : ah β e p a v q 3 p k = β 3 p k := by
  unfold ah al
  rw [ar_reg _ _ _ _ (by omega), ar_reg _ _ _ _ (by omega)]
theorem owe_tail {ρ : Ms} {β : As} {e p : Nat} (a v q : Int32) (hM : RepM (ρ.1.1 0) β) (he : e < 60) (h4 : β 0 0 4 = nI e) (hp : p < 8) : ∃ g', ((wrA (ρ.1.1 0) 681 (((381 : Int32) + ((5 : Int32) * nI e))) a).bind fun g69 => bnd (msA ρ 0 g69) fun ρ71 => (wrA (ρ71.1.1 0) 681 ((((381 : Int32) + ((5 : Int32) * nI e)) + (1 : Int32))) (nI p)).bind fun g73 => bnd (msA ρ71 0 g73) fun ρ75 => (wrA (ρ75.1.1 0) 681 ((((381 : Int32) + ((5 : Int32) * nI e)) + (2 : Int32))) v).bind fun g77 => bnd (msA ρ75 0 g77) fun ρ79 => (wrA (ρ79.1.1 0) 681 ((((381 : Int32) + ((5 : Int32) * nI e)) + (3 : Int32))) q).bind fun g81 => bnd (msA ρ79 0 g81) fun ρ83 => (rdA (ρ83.1.1 0) 681 (0 : Int32)).bind fun v85 => (wrA (ρ83.1.1 0) 681 ((((381 : Int32) + ((5 : Int32) * nI e)) + (4 : Int32))) v85).bind fun g87 => bnd (msA ρ83 0 g87) fun ρ89 => (rdA (ρ89.1.1 0) 681 (4 : Int32)).bind fun v91 => (wrA (ρ89.1.1 0) 681 (4 : Int32) ((v91 + (1 : Int32)))).bind fun g93 => bnd (msA ρ89 0 g93) fun ρ95 => (rdA (ρ95.1.1 0) 681 (((253 : Int32) + ((4 : Int32) * (nI p))))).bind fun v97 => (wrA (ρ95.1.1 0) 681 (((253 : Int32) + ((4 : Int32) * (nI p)))) (v97 + v)).bind fun g99 => bnd (msA ρ95 0 g99) fun ρ101 => if v ≤ 0 then ((rdA (ρ101.1.1 0) 681 ((((253 : Int32) + ((4 : Int32) * (nI p))) + (3 : Int32)))).bind fun v104 => (wrA (ρ101.1.1 0) 681 ((((253 : Int32) + ((4 : Int32) * (nI p))) + (3 : Int32))) ((v104 + (jab v)))).bind fun g106 => bnd (msA ρ101 0 g106) fun ρ108 => some ρ108) else (rdA (ρ101.1.1 0) 681 ((((253 : Int32) + ((4 : Int32) * (nI p))) + (2 : Int32)))).bind fun v110 => (wrA (ρ101.1.1 0) 681 ((((253 : Int32) + ((4 : Int32) * (nI p))) + (2 : Int32))) ((v110 + (jab v)))).bind fun g112 => bnd (msA ρ101 0 g112) fun ρ114 => some ρ114) = some (msA ρ 0 g') ∧ RepM g' (aowe β e p a v q) := by
  have w0 : ∀ g z, wrA g 681 (381 + 5 * nI e) z = some (mup g 5 e 0 z) := fun g z => (wr_l he).1
  have w1 : ∀ g z, wrA g 681 (381 + 5 * nI e + 1) z = some (mup g 5 e 1 z) := fun g z => (wr_l he).2.2.1
  have w2 : ∀ g z, wrA g 681 (381 + 5 * nI e + 2) z = some (mup g 5 e 2 z) := fun g z => (wr_l he).2.2.2.1
  have w3 : ∀ g z, wrA g 681 (381 + 5 * nI e + 3) z = some (mup g 5 e 3 z) := fun g z => (wr_l he).2.2.2.2.1
  have w4 : ∀ g z, wrA g 681 (381 + 5 * nI e + 4) z = some (mup g 5 e 4 z) := fun g z => (wr_l he).2.2.2.2.2
  have w5 : ∀ g z, wrA g 681 4 z = some (mup g 0 0 4 z) := fun g z => wr_h.2.2.2.2
  have w6 : ∀ g z, wrA g 681 (253 + 4 * nI p) z = some (mup g 3 p 0 z) := fun g z => (wr_p hp).1
  have w7 : ∀ g z, wrA g 681 (253 + 4 * nI p + 2) z = some (mup g 3 p 2 z) := fun g z => (wr_p hp).2.2.2.1
  have w8 : ∀ g z, wrA g 681 (253 + 4 * nI p + 3) z = some (mup g 3 p 3 z) := fun g z => (wr_p hp).2.2.2.2
  have m4 := ((((hM.of 5 e).row (k := 0) a (by decide) he (by decide)).row (k := 1) (nI p) (by decide) he (by decide)).row (k := 2) v (by decide) he (by decide)).row (k := 3) q (by decide) he (by decide)
  have d4 := (rd_h m4).1
  rw [ar_reg _ _ _ _ (by omega)] at d4
  have m5 : RepM _ (al β e p a v q) := m4.row (k := 4) (β 0 0 0) (by decide) he (by decide)
  have d5 := (rd_h m5).2.2.2.2.1
  rw [show al β e p a v q 0 0 4 = nI e from (ar_reg _ _ _ _ (by omega)).trans h4] at d5
  have m6 : RepM _ (ah β e p a v q) := (m5.of 0 0).row (k := 4) (nI e + 1) (by decide) (by decide) (by decide)
  have d6 := (rq_p m6 hp).1
  have m7 := (m6.of 3 p).row (k := 0) (ah β e p a v q 3 p 0 + v) (by decide) hp (by decide)
  have d7 := (rq_p m7 hp).2.2.2.1
  have d8 := (rq_p m7 hp).2.2.2.2
  rw [ar_at] at d7 d8
  simp only [w0, w1, w2, w3, w4, w5, w6, w7, w8, Option.bind_some, bnd, ms_get, msA_msA, d4, d5, d6]
  unfold aowe prow
  by_cases z : v ≤ 0
  · rw [if_pos z, if_pos z, d8]
    exact ⟨_, rfl, m7.row (k := 3) _ (by decide) hp (by decide)⟩
  · rw [if_neg z, if_neg z, d7]
    exact ⟨_, rfl, m7.row (k := 2) _ (by decide) hp (by decide)⟩

def shf5 (g : Nat → Int32) (q : Nat) : Nat → Int32 := fun p => if q ≤ p ∧ p < 676 then g (p + 5) else g p
theorem lo_owe (a b v w : Int32) : ∀ (m q k : Nat) (ρ : Ms), q + m = 676 → m < k → 381 ≤ q → X5_owes_L21 a b v w k (nI q) ρ = X5_owes_L21 a b v w 1 (nI 676) (msA ρ 0 (shf5 (ρ.1.1 0) q)) := by
  intro m
  induction m with
  | zero =>
    intro q k ρ e1 e2 e3
    obtain ⟨k, rfl⟩ : ∃ q, k = q + 1 := ⟨k - 1, by omega⟩
    have e : shf5 (ρ.1.1 0) q = ρ.1.1 0 := by
      funext p
      unfold shf5
      rw [if_neg (by omega)]
    have eq : q = 676 := by omega
    subst eq
    rw [e, msA_self, X5_owes_L21, show nI 676 + 5 = nI (676 + 5) from nI_add 676 5, if_pos (show (681 : Int32) ≤ nI (676 + 5) by decide), X5_owes_L21, show nI 676 + 5 = nI (676 + 5) from nI_add 676 5, if_pos (show (681 : Int32) ≤ nI (676 + 5) by decide)]
  | succ m ih =>
    intro q k ρ e1 e2 e3
    obtain ⟨k, rfl⟩ : ∃ q, k = q + 1 := ⟨k - 1, by omega⟩
    rw [X5_owes_L21, show nI q + 5 = nI (q + 5) from nI_add q 5, if_neg (show ¬ (681 : Int32) ≤ nI (q + 5) from nI_ge (b := 681) (by omega) (by omega)), rdN (by omega) (by omega), Option.bind_some, wrN (by omega) (by omega), Option.bind_some, nI_1]
    simp only [bnd]
    rw [ih (q + 1) k _ (by omega) (by omega) (by omega), msA_msA, ms_get]
    have e : shf5 (va_up (ρ.1.1 0) q (ρ.1.1 0 (q + 5))) (q + 1) = shf5 (ρ.1.1 0) q := by
      funext p
      unfold shf5 va_up
      rcases Nat.lt_trichotomy p q with z | z | z
      · rw [if_neg (by omega), if_neg (by omega), if_neg (by omega)]
      · subst z
        rw [if_neg (by omega), if_pos rfl, if_pos (by omega)]
      · by_cases z2 : p < 676
        · rw [if_pos (by omega), if_neg (by omega), if_pos (by omega)]
        · rw [if_neg (by omega), if_neg (by omega), if_neg (by omega)]
    rw [e]
/-- the state with the oldest entry gone -/
def ash (α : As) : As := fun r i k => if r = 5 ∧ i < 59 then α 5 (i + 1) k else if r = 0 ∧ i = 0 ∧ k = 4 then nI 59 else α r i k
theorem ashR {α : As} {r : Nat} (i k : Nat) (h5 : r ≠ 5) (h0 : r ≠ 0) : ash α r i k = α r i k := by
  unfold ash
  rw [if_neg (fun q => h5 q.1), if_neg (fun q => h0 q.1)]
theorem RepM_ash {g : Nat → Int32} {α : As} (hM : RepM g α) : RepM (mup (shf5 g 381) 0 0 4 (nI 59)) (ash α) := by
  intro r i k hr hi hk
  unfold mup va_up ash
  by_cases e0 : r = 0 ∧ i = 0 ∧ k = 4
  · obtain ⟨rfl, rfl, rfl⟩ := e0
    rw [if_pos rfl, if_neg (by omega), if_pos ⟨rfl, rfl, rfl⟩]
  · rw [if_neg (by
      intro z
      apply e0
      rcases (show r = 0 ∨ r = 1 ∨ r = 2 ∨ r = 3 ∨ r = 4 ∨ r = 5 by omega) with rfl | rfl | rfl | rfl | rfl | rfl <;> simp only [bs, wd, rw_] at hi hk z ⊢ <;> omega)]
    unfold shf5
    by_cases e4 : r = 5 ∧ i < 59
    · obtain ⟨rfl, z2⟩ := e4
      rw [if_pos (show 381 ≤ bs 5 + wd 5 * i + k ∧ bs 5 + wd 5 * i + k < 676 by simp only [bs, wd, rw_] at hi hk ⊢; omega), if_pos ⟨rfl, z2⟩, show bs 5 + wd 5 * i + k + 5 = bs 5 + wd 5 * (i + 1) + k by simp only [bs, wd]; omega]
      exact hM 5 (i + 1) k (by omega) (by simp only [rw_]; omega) hk
    · rw [if_neg e4, if_neg e0, if_neg]
      · exact hM r i k hr hi hk
      · intro z
        apply e4
        rcases (show r = 0 ∨ r = 1 ∨ r = 2 ∨ r = 3 ∨ r = 4 ∨ r = 5 by omega) with rfl | rfl | rfl | rfl | rfl | rfl <;> simp only [bs, wd, rw_] at hi hk z ⊢ <;> omega
theorem owe_m {τ : St} {ρ : Ms} {α : As} {D d nC nP nH nL x p : Nat} (H : Cx τ ρ α D d nC nP nH nL x) (hp : p < nP) (a v q : Int32) (hv : v ≠ 0) : ∃ g', X5_owes ρ a (nI p) v q = some (msA ρ 0 g') ∧ RepM g' (if nL = 60 then aowe (ash α) 59 p a v q else aowe α nL p a v q) := by
  have hb := H.b
  unfold X5_owes
  rw [if_neg hv, H.r.2.2.2.2, Option.bind_some]
  by_cases h6 : nL = 60
  · rw [if_pos h6, h6, if_pos (show nI 60 = 60 from rfl)]
    rw [show X5_owes_L21 a (nI p) v q FU 381 ρ = _ from lo_owe a (nI p) v q (676 - 381) 381 FU ρ (by omega) (by unfold FU; omega) (by omega)]
    rw [X5_owes_L21, show nI 676 + 5 = nI (676 + 5) from nI_add 676 5, if_pos (show (681 : Int32) ≤ nI (676 + 5) by decide), ms_get]
    have e4 : rdA (shf5 (ρ.1.1 0) 381) 681 4 = some (nI 60) := by
      rw [show rdA (shf5 (ρ.1.1 0) 381) 681 4 = some (shf5 (ρ.1.1 0) 381 4) from rdN (j := 4) (by omega) (by omega)]
      unfold shf5
      rw [if_neg (by omega)]
      have e := H.1 0 0 4 (by omega) (by decide) (by decide)
      rw [show ρ.1.1 0 4 = α 0 0 4 from e, H.2.2.1.2.2.2.2, h6]
    rw [e4, Option.bind_some, show nI 60 - 1 = nI 59 from nI_pred 59, wr_h.2.2.2.2, Option.bind_some]
    simp only [bnd]
    rw [msA_msA]
    have hM2 := RepM_ash H.1
    have e5 : rdA ((msA ρ 0 (mup (shf5 (ρ.1.1 0) 381) 0 0 4 (nI 59))).1.1 0) 681 4 = some (nI 59) := by
      rw [ms_get, (rd_h hM2).2.2.2.2.1]
      rfl
    rw [e5, Option.bind_some]
    obtain ⟨g', t1, t2⟩ := owe_tail (ρ := msA ρ 0 (mup (shf5 (ρ.1.1 0) 381) 0 0 4 (nI 59))) (e := 59) a v q hM2 (by omega) rfl (show p < 8 by omega)
    refine ⟨g', ?_, t2⟩
    rw [msA_msA] at t1
    exact t1
  · rw [if_neg h6, if_neg (show ¬ nI nL = 60 from fun e => h6 ((nI_eq (a := nL) (b := 60) (by omega) (by omega)).mp e)), Option.bind_some]
    exact owe_tail a v q H.1 (by omega) H.2.2.1.2.2.2.2 (by omega)
/-! MONEY OWED, THE CLASS'S SIDE -/
/-- the class's new entry -/
def ledp (u : Tab) (a b v q day : Int32) : Tab := tput 5 (tput 5 (tput 5 (tput 5 (tput 5 (tadd 60 5 u).2 (tadd 60 5 u).1 0 a) (tadd 60 5 u).1 1 b) (tadd 60 5 u).1 2 v) (tadd 60 5 u).1 3 q) (tadd 60 5 u).1 4 day
theorem ledp_eq {u : Tab} {e : Nat} (a b v q day : Int32) (hu : u.1 = nI e) (he : e < 60) : ∃ f', ledp u a b v q day = (nI (e + 1), f') ∧ ∀ r k, r < e + 1 → k < 5 → fv 5 f' r k = if r = e then lrow (fun _ => 0) a b v q day k else fv 5 u.2 r k := by
  have hadd : tadd 60 5 u = (nI e, (nI (e + 1), fun k => if e * 5 ≤ k ∧ k < e * 5 + 5 then 0 else u.2 k)) := by
    unfold tadd
    rw [hu, if_neg (nI_ge he (by omega)), nI_1, nI_clamp (by omega)]
  unfold ledp
  rw [hadd]
  have st : ∀ (f : Nat → Int32) (k : Nat) (z : Int32), k < 5 → tput 5 (nI (e + 1), f) (nI e) (nI k) z = (nI (e + 1), va_up f (e * 5 + k) z) := fun f k z hk => tp (w := 5) (u := (nI (e + 1), f)) rfl (by omega) (by omega) (by omega) hk
  rw [show tput 5 (nI (e + 1), fun k => if e * 5 ≤ k ∧ k < e * 5 + 5 then 0 else u.2 k) (nI e) 0 a = _ from st _ 0 a (by omega)]
  rw [show ∀ f, tput 5 (nI (e + 1), f) (nI e) 1 b = _ from fun f => st f 1 b (by omega)]
  rw [show ∀ f, tput 5 (nI (e + 1), f) (nI e) 2 v = _ from fun f => st f 2 v (by omega)]
  rw [show ∀ f, tput 5 (nI (e + 1), f) (nI e) 3 q = _ from fun f => st f 3 q (by omega)]
  rw [show ∀ f, tput 5 (nI (e + 1), f) (nI e) 4 day = _ from fun f => st f 4 day (by omega)]
  refine ⟨_, rfl, fun r k hr hk => ?_⟩
  rw [fv_up (by omega) hk, fv_up (by omega) hk, fv_up (by omega) hk, fv_up (by omega) hk, fv_up (by omega) hk]
  unfold lrow
  by_cases z : r = e
  · subst z
    simp only [true_and, if_true]
    rcases (show k = 0 ∨ k = 1 ∨ k = 2 ∨ k = 3 ∨ k = 4 by omega) with rfl | rfl | rfl | rfl | rfl <;> rfl
  · simp only [z, false_and, if_false]
    unfold fv
    exact if_neg (by omega)
theorem trem5 {n : Nat} {f : Nat → Int32} (hn : 0 < n) (h60 : n ≤ 60) : ∃ f', trem 5 (nI n, f) 0 = (nI (n - 1), f') ∧ ∀ i k, i < n - 1 → k < 5 → fv 5 f' i k = fv 5 f (i + 1) k := by
  refine ⟨fun k => if 0 * 5 ≤ k ∧ k < (n - 1) * 5 then f (k + 5) else f k, ?_, ?_⟩
  · unfold trem
    rw [show (0 : Int32) = nI 0 from rfl, if_neg (by
      rintro (q | q)
      · exact nI_pos (by omega) q
      · exact nI_ge hn (by omega) q)]
    show (nI n - 1, _) = _
    obtain ⟨m, rfl⟩ : ∃ m, n = m + 1 := ⟨n - 1, by omega⟩
    rw [nI_pred, nI_clamp (by omega), show (nI (m + 1), f).1 = nI (m + 1) from rfl, nI_clamp (by omega)]
    rfl
  · intro i k hi hk
    unfold fv
    show (if 0 * 5 ≤ i * 5 + k ∧ i * 5 + k < (n - 1) * 5 then f (i * 5 + k + 5) else f (i * 5 + k)) = _
    rw [if_pos (by omega), show i * 5 + k + 5 = (i + 1) * 5 + k by omega]
/-- the class's patron's row -/
def patp (u : Tab) (p : Nat) (v : Int32) : Tab := if v ≤ 0 then tput 4 (tput 4 u (nI p) 0 (tget 4 u (nI p) 0 + v)) (nI p) 3 (tget 4 (tput 4 u (nI p) 0 (tget 4 u (nI p) 0 + v)) (nI p) 3 + jab v) else tput 4 (tput 4 u (nI p) 0 (tget 4 u (nI p) 0 + v)) (nI p) 2 (tget 4 (tput 4 u (nI p) 0 (tget 4 u (nI p) 0 + v)) (nI p) 2 + jab v)
theorem patp_eq {u : Tab} {n p : Nat} (v : Int32) (hu : u.1 = nI n) (hn : n ≤ 8) (hp : p < n) : (patp u p v).1 = nI n ∧ ∀ r k, r < n → k < 4 → fv 4 (patp u p v).2 r k = if r = p then prow (fun k => fv 4 u.2 p k) v k else fv 4 u.2 r k := by
  have e1 : tput 4 u (nI p) 0 (tget 4 u (nI p) 0 + v) = (nI n, va_up u.2 (p * 4 + 0) (fv 4 u.2 p 0 + v)) := by
    rw [(tp_p hu (by omega) hp).1, (tg_p hu (by omega) hp).1]
  unfold patp prow
  rw [e1]
  have e2 := tg_p (u := (nI n, va_up u.2 (p * 4 + 0) (fv 4 u.2 p 0 + v))) rfl (show n ≤ 100 by omega) hp
  have q2 : fv 4 (va_up u.2 (p * 4 + 0) (fv 4 u.2 p 0 + v)) p 2 = fv 4 u.2 p 2 := by
    rw [fv_up (by omega) (by omega), if_neg (by omega)]
  have q3 : fv 4 (va_up u.2 (p * 4 + 0) (fv 4 u.2 p 0 + v)) p 3 = fv 4 u.2 p 3 := by
    rw [fv_up (by omega) (by omega), if_neg (by omega)]
  rw [e2.2.2.1, e2.2.2.2]
  show _ ∧ _
  rw [show fv 4 (nI n, va_up u.2 (p * 4 + 0) (fv 4 u.2 p 0 + v)).2 p 2 = _ from q2, show fv 4 (nI n, va_up u.2 (p * 4 + 0) (fv 4 u.2 p 0 + v)).2 p 3 = _ from q3]
  by_cases z : v ≤ 0
  · rw [if_pos z, if_pos z, (tp_p (u := (nI n, va_up u.2 (p * 4 + 0) (fv 4 u.2 p 0 + v))) rfl (show n ≤ 100 by omega) hp).2.2.2]
    refine ⟨rfl, fun r k hr hk => ?_⟩
    show fv 4 (va_up (va_up u.2 (p * 4 + 0) (fv 4 u.2 p 0 + v)) (p * 4 + 3) (fv 4 u.2 p 3 + jab v)) r k = _
    rw [fv_up (by omega) hk, fv_up (by omega) hk]
    by_cases y : r = p
    · subst y
      simp only [true_and, if_true]
    · simp only [y, false_and, if_false]
  · rw [if_neg z, if_neg z, (tp_p (u := (nI n, va_up u.2 (p * 4 + 0) (fv 4 u.2 p 0 + v))) rfl (show n ≤ 100 by omega) hp).2.2.1]
    refine ⟨rfl, fun r k hr hk => ?_⟩
    show fv 4 (va_up (va_up u.2 (p * 4 + 0) (fv 4 u.2 p 0 + v)) (p * 4 + 2) (fv 4 u.2 p 2 + jab v)) r k = _
    rw [fv_up (by omega) hk, fv_up (by omega) hk]
    by_cases y : r = p
    · subst y
      simp only [true_and, if_true]
    · simp only [y, false_and, if_false]
theorem enter_eq {τ : St} {p : Nat} (a v q : Int32) (hv : v ≠ 0) : X4_enter τ a (nI p) v q = stT (stT τ 1 (patp (τ.1 1) p v)) 3 (if (τ.1 3).1 = 60 then ledp (trem 5 (τ.1 3) 0) a (nI p) v q τ.2 else ledp (τ.1 3) a (nI p) v q τ.2) := by
  unfold X4_enter
  rw [if_neg hv]
  simp (config := {decide := true}) only [bnd, stT_get, stT_day, stT_stT, if_true, if_false]
  unfold patp ledp
  by_cases z : v ≤ 0
  · rw [if_pos z, if_pos z]
    by_cases y : (τ.1 3).1 = 60
    · rw [if_pos y, if_pos y]
    · rw [if_neg y, if_neg y]
  · rw [if_neg z, if_neg z]
    by_cases y : (τ.1 3).1 = 60
    · rw [if_pos y, if_pos y]
    · rw [if_neg y, if_neg y]
theorem aowe_reg (β : As) (e p : Nat) (a v q : Int32) {r : Nat} (i k : Nat) (h0 : r ≠ 0) (h3 : r ≠ 3) (h5 : r ≠ 5) : aowe β e p a v q r i k = β r i k := by
  unfold aowe ah al
  rw [ar_reg _ _ _ _ h3, ar_reg _ _ _ _ h0, ar_reg _ _ _ _ h5]
theorem aowe_0 (β : As) (e p : Nat) (a v q : Int32) (k : Nat) : aowe β e p a v q 0 0 k = if k = 4 then nI e + 1 else β 0 0 k := by
  unfold aowe ah al
  rw [ar_reg _ _ _ _ (by omega), ar_at]
  by_cases z : k = 4
  · exact (if_pos z).trans (if_pos z).symm
  · refine (if_neg z).trans (Eq.trans ?_ (if_neg z).symm)
    exact ar_reg _ _ _ _ (by omega)
theorem aowe_3 (β : As) (e p : Nat) (a v q : Int32) (i k : Nat) : aowe β e p a v q 3 i k = if i = p then prow (β 3 p) v k else β 3 i k := by
  unfold aowe
  by_cases z : i = p
  · subst z
    rw [ar_at, if_pos rfl, show ah β e i a v q 3 i = β 3 i from funext (fun k => ah3 β e i a v q k)]
  · rw [ar_row _ _ _ z, if_neg z]
    unfold ah al
    rw [ar_reg _ _ _ _ (by omega), ar_reg _ _ _ _ (by omega)]
theorem aowe_5 (β : As) (e p : Nat) (a v q : Int32) (i k : Nat) : aowe β e p a v q 5 i k = if i = e then lrow (β 5 e) a (nI p) v q (β 0 0 0) k else β 5 i k := by
  unfold aowe ah
  rw [ar_reg _ _ _ _ (by omega), ar_reg _ _ _ _ (by omega)]
  unfold al
  by_cases z : i = e
  · subst z
    rw [ar_at, if_pos rfl]
  · rw [ar_row _ _ _ z, if_neg z]
theorem lrow_k {P P' : Nat → Int32} {a b v q d : Int32} {k : Nat} (hk : k < 5) : lrow P a b v q d k = lrow P' a b v q d k := by
  unfold lrow
  rcases (show k = 0 ∨ k = 1 ∨ k = 2 ∨ k = 3 ∨ k = 4 by omega) with rfl | rfl | rfl | rfl | rfl <;> rfl
/-- what stays of a state when money is owed -/
def Same (α α' : As) : Prop := ∀ r i k, r ≠ 0 → r ≠ 3 → r ≠ 5 → α' r i k = α r i k
theorem prow_c {P P' : Nat → Int32} {v : Int32} (h : ∀ k, k < 4 → P k = P' k) {k : Nat} (hk : k < 4) : prow P v k = prow P' v k := by
  unfold prow
  split
  · show (if k = 3 then _ else _) = (if k = 3 then _ else _)
    rw [h 3 (by omega), h 0 (by omega), h k hk]
  · show (if k = 2 then _ else _) = (if k = 2 then _ else _)
    rw [h 2 (by omega), h 0 (by omega), h k hk]
theorem Inv.same {α α' : As} {D d nC nP nH nL nL' x : Nat} (h : Inv α D d nC nP nH nL x) (hs : Same α α') (h0 : ∀ k, k ≠ 4 → α' 0 0 k = α 0 0 k) (h4 : α' 0 0 4 = nI nL') (hL : nL' ≤ 60) : Inv α' D d nC nP nH nL' x := by
  obtain ⟨⟨p0, p1, p2, p3, p4⟩, ⟨q0, q1, q2, q3, q4⟩, b3, b4, b5, b6, b7, b8⟩ := h
  have s1 := fun i k => hs 1 i k (by omega) (by omega) (by omega)
  have s2 := fun i k => hs 2 i k (by omega) (by omega) (by omega)
  have s4 := fun i k => hs 4 i k (by omega) (by omega) (by omega)
  refine ⟨⟨(h0 0 (by omega)).trans p0, (h0 1 (by omega)).trans p1, (h0 2 (by omega)).trans p2, (h0 3 (by omega)).trans p3, h4⟩, ⟨q0, q1, q2, q3, hL⟩, ?_, ?_, ?_, ?_, ?_, ?_⟩
  · simp only [s1]; exact b3
  · simp only [CopyI, CopyB, s2, s4]; exact b4
  · simp only [CopyB, s2]; exact b5
  · simp only [HoldI, s2, s4]; exact b6
  · simp only [s4]; exact b7
  · simp only [s4]; exact b8
theorem RepC.owe {τ : St} {α β : As} {nC nP nH nL x e p : Nat} {u : Tab} (a v q : Int32) (hR : RepC τ α nC nP nH nL x) (h8 : nP ≤ 8) (hp : p < nP) (hs : ∀ r i k, r ≠ 0 → r ≠ 5 → β r i k = α r i k) (h0 : ∀ k, k ≠ 4 → β 0 0 k = α 0 0 k) (hu : u.1 = nI e) (he : e < 60) (hl : ∀ r k, r < e → k < 5 → fv 5 u.2 r k = β 5 r k) : RepC (stT (stT τ 1 (patp (τ.1 1) p v)) 3 (ledp u a (nI p) v q τ.2)) (aowe β e p a v q) nC nP nH (e + 1) x := by
  obtain ⟨⟨a1, a2, a3, a4, a5, a6⟩, b1, b2, b3, b4, b5, b6⟩ := hR
  obtain ⟨f', f1, f2⟩ := ledp_eq a (nI p) v q τ.2 hu he
  obtain ⟨g1, g2⟩ := patp_eq v a2 h8 hp
  rw [f1]
  have g0 : ∀ i, i ≠ 1 → i ≠ 3 → (stT (stT τ 1 (patp (τ.1 1) p v)) 3 (nI (e + 1), f')).1 i = τ.1 i := fun i i1 i3 => by
    rw [stT_get, if_neg i3, stT_get, if_neg i1]
  have gp : (stT (stT τ 1 (patp (τ.1 1) p v)) 3 (nI (e + 1), f')).1 1 = patp (τ.1 1) p v := by
    rw [stT_get, if_neg (by omega), stT_get, if_pos rfl]
  have gl : (stT (stT τ 1 (patp (τ.1 1) p v)) 3 (nI (e + 1), f')).1 3 = (nI (e + 1), f') := by
    rw [stT_get, if_pos rfl]
  have gd : (stT (stT τ 1 (patp (τ.1 1) p v)) 3 (nI (e + 1), f')).2 = τ.2 := by rw [stT_day, stT_day]
  have r1 := fun i k => (aowe_reg β e p a v q (r := 1) i k (by omega) (by omega) (by omega)).trans (hs 1 i k (by omega) (by omega))
  have r2 := fun i k => (aowe_reg β e p a v q (r := 2) i k (by omega) (by omega) (by omega)).trans (hs 2 i k (by omega) (by omega))
  have r4 := fun i k => (aowe_reg β e p a v q (r := 4) i k (by omega) (by omega) (by omega)).trans (hs 4 i k (by omega) (by omega))
  have hd : τ.2 = β 0 0 0 := by rw [h0 0 (by omega)]; exact a6
  refine ⟨⟨?_, ?_, ?_, ?_, ?_, ?_⟩, ?_, ?_, ?_, ?_, ?_, ?_⟩
  · rw [g0 0 (by omega) (by omega)]; exact a1
  · rw [gp]; exact g1
  · rw [g0 2 (by omega) (by omega)]; exact a3
  · rw [gl]
  · rw [g0 4 (by omega) (by omega)]; exact a5
  · rw [gd, aowe_0, if_neg (by omega)]; exact hd
  · intro j hj
    rw [g0 4 (by omega) (by omega), r1]
    exact b1 j hj
  · intro i k hi hk
    rw [gp, g2 i k hi hk, aowe_3, hs 3 i k (by omega) (by omega)]
    by_cases z : i = p
    · rw [if_pos z, if_pos z]
      exact prow_c (fun k' hk' => (b2 p k' hp hk').trans (hs 3 p k' (by omega) (by omega)).symm) hk
    · rw [if_neg z, if_neg z]
      exact b2 i k hi hk
  · intro i k hi hk
    rw [gl, aowe_5]
    show fv 5 f' i k = _
    rw [f2 i k hi hk]
    by_cases z : i = e
    · rw [if_pos z, if_pos z, hd]
      exact lrow_k hk
    · rw [if_neg z, if_neg z]
      exact hl i k (by omega) hk
  · intro h hh
    rw [g0 2 (by omega) (by omega), r4, r4, r4, r4]
    exact b4 h hh
  · intro c hc hx
    rw [g0 0 (by omega) (by omega)]
    simp only [RepCopy, HolR, r2, r4]
    exact b5 c hc hx
  · intro hx
    rw [g0 0 (by omega) (by omega), r2, r2, r2]
    exact b6 hx
theorem owe_sim {τ : St} {ρ : Ms} {α : As} {D d nC nP nH nL x p : Nat} (H : Cx τ ρ α D d nC nP nH nL x) (hp : p < nP) (a v q : Int32) : ∃ g' α' nL', X5_owes ρ a (nI p) v q = some (msA ρ 0 g') ∧ Cx (X4_enter τ a (nI p) v q) (msA ρ 0 g') α' D d nC nP nH nL' x ∧ Same α α' ∧ (X4_enter τ a (nI p) v q).1 0 = τ.1 0 := by
  have hb := H.b
  by_cases hv : v = 0
  · subst hv
    refine ⟨ρ.1.1 0, α, nL, ?_, ?_, fun _ _ _ _ _ _ => rfl, ?_⟩
    · unfold X5_owes
      rw [if_pos rfl, msA_self]
    · unfold X4_enter
      rw [if_pos rfl, msA_self]
      exact H
    · unfold X4_enter
      rw [if_pos rfl]
  · obtain ⟨g', e1, e2⟩ := owe_m H hp a v q hv
    rw [enter_eq a v q hv]
    have hc : ∀ U, (stT (stT τ 1 (patp (τ.1 1) p v)) 3 U).1 0 = τ.1 0 := fun U => by
      rw [stT_get, if_neg (by omega), stT_get, if_neg (by omega)]
    by_cases h6 : nL = 60
    · rw [if_pos h6] at e2
      rw [if_pos (show (τ.1 3).1 = 60 by rw [H.n.2.2.2.1, h6]; rfl)]
      have a0 : ∀ k, k ≠ 4 → ash α 0 0 k = α 0 0 k := fun k hk => by
        unfold ash
        rw [if_neg (by omega), if_neg (fun q => hk q.2.2)]
      obtain ⟨f', t1, t2⟩ := trem5 (n := 60) (f := (τ.1 3).2) (by omega) (by omega)
      have et : trem 5 (τ.1 3) 0 = (nI 59, f') := by
        rw [← t1, ← h6, ← H.n.2.2.2.1]
      refine ⟨g', _, 60, e1, ⟨e2, ?_, H.2.2.same ?_ ?_ ?_ (by omega)⟩, ?_, hc _⟩
      · rw [et]
        refine H.2.1.owe (β := ash α) (e := 59) a v q (by omega) hp (fun r i k h0 h5 => ashR i k h5 h0) a0 rfl (by omega) (fun r k hr hk => ?_)
        show fv 5 f' r k = _
        rw [t2 r k (by omega) hk]
        unfold ash
        rw [if_pos ⟨rfl, hr⟩]
        exact H.2.1.2.2.2.1 (r + 1) k (by omega) hk
      · intro r i k h0 h3 h5
        rw [aowe_reg _ _ _ _ _ _ _ _ h0 h3 h5, ashR _ _ h5 h0]
      · intro k hk
        rw [aowe_0, if_neg hk, a0 k hk]
      · rw [aowe_0, if_pos rfl, nI_1]
      · intro r i k h0 h3 h5
        rw [aowe_reg _ _ _ _ _ _ _ _ h0 h3 h5, ashR _ _ h5 h0]
    · rw [if_neg h6] at e2
      rw [if_neg (show ¬ (τ.1 3).1 = 60 by rw [H.n.2.2.2.1]; exact fun e => h6 ((nI_eq (a := nL) (b := 60) (by omega) (by omega)).mp e))]
      refine ⟨g', _, nL + 1, e1, ⟨e2, ?_, H.2.2.same ?_ ?_ ?_ (by omega)⟩, ?_, hc _⟩
      · exact H.2.1.owe (β := α) a v q (by omega) hp (fun r i k h0 h5 => rfl) (fun _ _ => rfl) H.n.2.2.2.1 (by omega) (fun r k hr hk => H.2.1.2.2.2.1 r k hr hk)
      · intro r i k h0 h3 h5
        rw [aowe_reg _ _ _ _ _ _ _ _ h0 h3 h5]
      · intro k hk
        rw [aowe_0, if_neg hk]
      · rw [aowe_0, if_pos rfl, nI_1]
      · intro r i k h0 h3 h5
        rw [aowe_reg _ _ _ _ _ _ _ _ h0 h3 h5]
