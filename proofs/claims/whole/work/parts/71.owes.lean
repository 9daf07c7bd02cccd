/-! MONEY OWED -/
/-- the row of the ledger, the heads, the patron's row -/
def lrow (P : Nat → Int32) (a b v q day : Int32) : Nat → Int32 := fun j => if j = 4 then day else if j = 3 then q else if j = 2 then v else if j = 1 then b else if j = 0 then a else P j
def prow (P : Nat → Int32) (v : Int32) : Nat → Int32 := if v ≤ 0 then (fun j => if j = 3 then P 3 + jab v else if j = 0 then P 0 + v else P j) else (fun j => if j = 2 then P 2 + jab v else if j = 0 then P 0 + v else P j)
def al (β : As) (e p : Nat) (a v q : Int32) : As := ar β 5 e (lrow (β 5 e) a (nI p) v q (β 0 0 0))
def ah (β : As) (e p : Nat) (a v q : Int32) : As := ar (al β e p a v q) 0 0 (fun j => if j = 4 then nI e + 1 else al β e p a v q 0 0 j)
def aowe (β : As) (e p : Nat) (a v q : Int32) : As := ar (ah β e p a v q) 3 p (prow (ah β e p a v q 3 p) v)
theorem ah3 (β : As) (e p : Nat) (a v q : Int32) (k : Nat) : ah β e p a v q 3 p k = β 3 p k := by
  unfold ah al
  rw [ar_reg _ _ _ _ (by omega), ar_reg _ _ _ _ (by omega)]
theorem owe_tail {ρ : Ms} {β : As} {e p : Nat} (a v q : Int32) (hM : RepM (ρ.1.1 0) β) (he : e < 60) (h4 : β 0 0 4 = nI e) (hp : p < 8) : ∃ g', ((wrA (ρ.1.1 0) 681 (((381 : Int32) + ((5 : Int32) * nI e))) a).bind fun g69 => bnd (msA ρ 0 g69) fun ρ71 => (wrA (ρ71.1.1 0) 681 ((((381 : Int32) + ((5 : Int32) * nI e)) + (1 : Int32))) (nI p)).bind fun g73 => bnd (msA ρ71 0 g73) fun ρ75 => (wrA (ρ75.1.1 0) 681 ((((381 : Int32) + ((5 : Int32) * nI e)) + (2 : Int32))) v).bind fun g77 => bnd (msA ρ75 0 g77) fun ρ79 => (wrA (ρ79.1.1 0) 681 ((((381 : Int32) + ((5 : Int32) * nI e)) + (3 : Int32))) q).bind fun g81 => bnd (msA ρ79 0 g81) fun ρ83 => (rdA (ρ83.1.1 0) 681 (0 : Int32)).bind fun v85 => (wrA (ρ83.1.1 0) 681 ((((381 : Int32) + ((5 : Int32) * nI e)) + (4 : Int32))) v85).bind fun g87 => bnd (msA ρ83 0 g87) fun ρ89 => (rdA (ρ89.1.1 0) 681 (4 : Int32)).bind fun v91 => (wrA (ρ89.1.1 0) 681 (4 : Int32) ((v91 + (1 : Int32)))).bind fun g93 => bnd (msA ρ89 0 g93) fun ρ95 => (rdA (ρ95.1.1 0) 681 (((253 : Int32) + ((4 : Int32) * (nI p))))).bind fun v97 => (wrA (ρ95.1.1 0) 681 (((253 : Int32) + ((4 : Int32) * (nI p)))) (v97 + v)).bind fun g99 => bnd (msA ρ95 0 g99) fun ρ101 => if v ≤ 0 then ((rdA (ρ101.1.1 0) 681 ((((253 : Int32) + ((4 : Int32) * (nI p))) + (3 : Int32)))).bind fun v104 => (wrA (ρ101.1.1 0) 681 ((((253 : Int32) + ((4 : Int32) * (nI p))) + (3 : Int32))) ((v104 + (jab v)))).bind fun g106 => bnd (msA ρ101 0 g106) fun ρ108 => some ρ108) else (rdA (ρ101.1.1 0) 681 ((((253 : Int32) + ((4 : Int32) * (nI p))) + (2 : Int32)))).bind fun v110 => (wrA (ρ101.1.1 0) 681 ((((253 : Int32) + ((4 : Int32) * (nI p))) + (2 : Int32))) ((v110 + (jab v)))).bind fun g112 => bnd (msA ρ101 0 g112) fun ρ114 => some ρ114) = some (msA ρ 0 g') ∧ RepM g' (aowe β e p a v q) := by
  have w0 : ∀ g z, wrA g 681 (381 + 5 * nI e) z = some (mup g 5 e 0 z) := fun g z => (wr_l he).1
  have w1 : ∀ g z, wrA g 681 (381 + 5 * nI e + 1) z = some (mup g 5 e 1 z) := fun g z => (wr_l he).2.2.1
  have w2 : ∀ g z, wrA g 681 (381 + 5 * nI e + 2) z = some (mup g 5 e 2 z) := fun g z => (wr_l he).2.2.2.1
  have w3 : ∀ g z, wrA g 681 (381 + 5 * nI e + 3) z = some (mup g 5 e 3 z) := fun g z => (wr_l he).2.2.2.2.1
  have w4 : ∀ g z, wrA g 681 (381 + 5 * nI e + 4) z = some (mup g 5 e 4 z) := fun g z => (wr_l he).2.2.2.2.2
  have w5 : ∀ g z, wrA g 681 4 z = some (mup g 0 0 4 z) := fun g z => wr_h.2.2.2.2
  have w6 : ∀ g z, wrA g 681 (253 + 4 * nI p) z = some (mup g 3 p 0 z) := fun g z => (wr_p hp).1
  have w7 : ∀ g z, wrA g 681 (253 + 4 * nI p + 2) z = some (mup g 3 p 2 z) := fun g z => (wr_p hp).2.2.2.1
  have w8 : ∀ g z, wrA g 681 (253 + 4 * nI p + 3) z = some (mup g 3 p 3 z) := fun g z => (wr_p hp).2.2.2.2
  have m4 := ((((hM.of 5 e).row (k := 0) a (by decide) he (by decide)).row (k := 1) (nI p) (by decide) he (by decide)).row (k := 2) v (by decide) he (by decide)).row (k := 3) q (by decide) he (by decide)
  have d4 := (rd_h m4).1
  rw [ar_reg _ _ _ _ (by omega)] at d4
  have m5 : RepM _ (al β e p a v q) := m4.row (k := 4) (β 0 0 0) (by decide) he (by decide)
  have d5 := (rd_h m5).2.2.2.2.1
  rw [show al β e p a v q 0 0 4 = nI e from (ar_reg _ _ _ _ (by omega)).trans h4] at d5
  have m6 : RepM _ (ah β e p a v q) := (m5.of 0 0).row (k := 4) (nI e + 1) (by decide) (by decide) (by decide)
  have d6 := (rq_p m6 hp).1
  have m7 := (m6.of 3 p).row (k := 0) (ah β e p a v q 3 p 0 + v) (by decide) hp (by decide)
  have d7 := (rq_p m7 hp).2.2.2.1
  have d8 := (rq_p m7 hp).2.2.2.2
  rw [ar_at] at d7 d8
  simp only [w0, w1, w2, w3, w4, w5, w6, w7, w8, Option.bind_some, bnd, ms_get, msA_msA, d4, d5, d6]
  unfold aowe prow
  by_cases z : v ≤ 0
  · rw [if_pos z, if_pos z, d8]
    exact ⟨_, rfl, m7.row (k := 3) _ (by decide) hp (by decide)⟩
  · rw [if_neg z, if_neg z, d7]
    exact ⟨_, rfl, m7.row (k := 2) _ (by decide) hp (by decide)⟩

