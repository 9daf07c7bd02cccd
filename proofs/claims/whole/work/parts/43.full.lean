/-! THE WHOLE OBJECT: what is now, what is settled, what is saved, the history, the text -/
abbrev Fr : Type := Bool × (St × (St × (Hs × Xs)))
abbrev Fs : Type := St × Fr
def frS (φ : Fr) (u : St) : Fr := (φ.1, (u, φ.2.2))
def frV (φ : Fr) (u : St) : Fr := (φ.1, (φ.2.1, (u, φ.2.2.2)))
def frH (φ : Fr) (η : Hs) : Fr := (φ.1, (φ.2.1, (φ.2.2.1, (η, φ.2.2.2.2))))
def frX (φ : Fr) (ξ : Xs) : Fr := (φ.1, (φ.2.1, (φ.2.2.1, (φ.2.2.2.1, ξ))))
def rW (ad : Nat → Nat) (cI cS : ClassId) (φ : Fr) : va_W := stW ad 12 cI φ.2.1 ++ (stW ad 23 cI φ.2.2.1 ++ (hW ad cI cS φ.2.2.2.1 ++ xW ad cI φ.2.2.2.2))
def fW (ad : Nat → Nat) (cI cS : ClassId) (σ : Fs) : va_W := cW ad cI σ.2.1 σ.1 ++ rW ad cI cS σ.2
def OKF (σ : Fs) : Prop := OK σ.1 ∧ OK σ.2.2.1 ∧ OK σ.2.2.2.1 ∧ (∀ j, OK (σ.2.2.2.2.1.1 j)) ∧ HOK σ.2.2.2.2.1 ∧ tbOK 15 σ.2.2.2.2.2.2
theorem okf_N {σ : Fs} {τ : St} (h : OKF σ) (ht : OK τ) : OKF (τ, σ.2) := ⟨ht, h.2⟩
theorem okf_S {σ : Fs} {τ : St} (h : OKF σ) (ht : OK τ) : OKF (σ.1, frS σ.2 τ) := ⟨h.1, ht, h.2.2⟩
theorem okf_V {σ : Fs} {τ : St} (h : OKF σ) (ht : OK τ) : OKF (σ.1, frV σ.2 τ) := ⟨h.1, h.2.1, ht, h.2.2.2⟩
theorem okf_X {σ : Fs} {ξ : Xs} (h : OKF σ) (ht : tbOK 15 ξ.2) : OKF (σ.1, frX σ.2 ξ) := ⟨h.1, h.2.1, h.2.2.1, h.2.2.2.1, h.2.2.2.2.1, ht⟩
theorem okf_b {σ : Fs} {b : Bool} (h : OKF σ) : OKF (σ.1, (b, σ.2.2)) := h
theorem okf_push {σ : Fs} (h : OKF σ) (hh : HOK (hpush σ.2.2.2.2.1 σ.2.2.1)) : OKF (σ.1, frH σ.2 (hpush σ.2.2.2.2.1 σ.2.2.1)) := by
  refine ⟨h.1, h.2.1, h.2.2.1, fun j => ?_, hh, h.2.2.2.2.2⟩
  show OK (va_up σ.2.2.2.2.1.1 σ.2.2.2.2.1.2.1.toNatClampNeg σ.2.2.1 j)
  unfold va_up
  split
  · exact h.2.1
  · exact h.2.2.2.1 j
theorem okf_pop {σ : Fs} (h : OKF σ) (hh : HOK (hpop σ.2.2.2.2.1 σ.1).1) : OKF ((hpop σ.2.2.2.2.1 σ.1).2, frH σ.2 (hpop σ.2.2.2.2.1 σ.1).1) := by
  refine ⟨?_, h.2.1, h.2.2.1, fun j => ?_, hh, h.2.2.2.2.2⟩
  · unfold hpop
    split
    · exact h.1
    · exact h.2.2.2.1 _
  · show OK ((hpop σ.2.2.2.2.1 σ.1).1.1 j)
    unfold hpop
    split
    · exact h.2.2.2.1 j
    · exact h.2.2.2.1 j
def blk6 (a b c d e f : va_W) : Nat → va_W := fun j => match j with
  | 0 => a
  | 1 => b
  | 2 => c
  | 3 => d
  | 4 => e
  | _ => f
theorem perm6 (a b c d e f : va_W) (l : List Nat) (h : [0, 1, 2, 3, 4, 5].Perm l) : (a ++ (b ++ (c ++ (d ++ (e ++ f))))).Perm (l.flatMap (blk6 a b c d e f)) := by
  have h1 := h.flatMap_right (blk6 a b c d e f)
  have e1 : [0, 1, 2, 3, 4, 5].flatMap (blk6 a b c d e f) = a ++ (b ++ (c ++ (d ++ (e ++ f)))) := by
    simp [List.flatMap_cons, blk6]
  rw [e1] at h1
  exact h1
/-- the whole world as six blocks -/
theorem fW_six (ad : Nat → Nat) (cI cS : ClassId) (σ : Fs) : fW ad cI cS σ = [(ad 0, .inr (4, [.ref (ad 1), .ref (ad 12), .ref (ad 23), .int (bi σ.2.1), .ref (ad 34), .ref (ad 124)]))] ++ (stW ad 1 cI σ.1 ++ (stW ad 12 cI σ.2.2.1 ++ (stW ad 23 cI σ.2.2.2.1 ++ (hW ad cI cS σ.2.2.2.2.1 ++ xW ad cI σ.2.2.2.2.2)))) := rfl
section LF
variable {D : va_G} {A : Nat → Prop} {s : State} {ad : Nat → Nat} {cI cS : ClassId} {σ : Fs}
theorem Lens.fc : Lens D A s (fW ad cI cS σ) (cW ad cI σ.2.1) σ.1 (fun τ => fW ad cI cS (τ, σ.2)) := Lens.tail (rW ad cI cS σ.2)
theorem Lens.ft : Lens D A s (fW ad cI cS σ) (xW ad cI) σ.2.2.2.2.2 (fun ξ => fW ad cI cS (σ.1, frX σ.2 ξ)) := by
  have key : ∀ σ : Fs, (fW ad cI cS σ).Perm (xW ad cI σ.2.2.2.2.2 ++ ([(ad 0, .inr (4, [.ref (ad 1), .ref (ad 12), .ref (ad 23), .int (bi σ.2.1), .ref (ad 34), .ref (ad 124)]))] ++ (stW ad 1 cI σ.1 ++ (stW ad 12 cI σ.2.2.1 ++ (stW ad 23 cI σ.2.2.2.1 ++ hW ad cI cS σ.2.2.2.2.1))))) := by
    intro σ
    have h := perm6 [(ad 0, .inr (4, [.ref (ad 1), .ref (ad 12), .ref (ad 23), .int (bi σ.2.1), .ref (ad 34), .ref (ad 124)]))] (stW ad 1 cI σ.1) (stW ad 12 cI σ.2.2.1) (stW ad 23 cI σ.2.2.2.1) (hW ad cI cS σ.2.2.2.2.1) (xW ad cI σ.2.2.2.2.2) [5, 0, 1, 2, 3, 4] (by decide)
    rw [← fW_six] at h
    simpa [List.flatMap_cons, blk6] using h
  exact Lens.perm _ (key σ) (fun ξ => (key (σ.1, frX σ.2 ξ)).symm)
theorem Lens.fns : Lens D A s (fW ad cI cS σ) (fun u : St => stW ad 1 cI u ++ stW ad 12 cI σ.2.2.1) σ.1 (fun u => fW ad cI cS (u, σ.2)) := by
  have key : ∀ σ : Fs, (fW ad cI cS σ).Perm ((stW ad 1 cI σ.1 ++ stW ad 12 cI σ.2.2.1) ++ ([(ad 0, .inr (4, [.ref (ad 1), .ref (ad 12), .ref (ad 23), .int (bi σ.2.1), .ref (ad 34), .ref (ad 124)]))] ++ (stW ad 23 cI σ.2.2.2.1 ++ (hW ad cI cS σ.2.2.2.2.1 ++ xW ad cI σ.2.2.2.2.2)))) := by
    intro σ
    have h := perm6 [(ad 0, .inr (4, [.ref (ad 1), .ref (ad 12), .ref (ad 23), .int (bi σ.2.1), .ref (ad 34), .ref (ad 124)]))] (stW ad 1 cI σ.1) (stW ad 12 cI σ.2.2.1) (stW ad 23 cI σ.2.2.2.1) (hW ad cI cS σ.2.2.2.2.1) (xW ad cI σ.2.2.2.2.2) [1, 2, 0, 3, 4, 5] (by decide)
    rw [← fW_six] at h
    simpa [List.flatMap_cons, blk6] using h
  exact Lens.perm _ (key σ) (fun u => (key (u, σ.2)).symm)
theorem Lens.fsn : Lens D A s (fW ad cI cS σ) (fun u : St => stW ad 12 cI u ++ stW ad 1 cI σ.1) σ.2.2.1 (fun u => fW ad cI cS (σ.1, frS σ.2 u)) := by
  have key : ∀ σ : Fs, (fW ad cI cS σ).Perm ((stW ad 12 cI σ.2.2.1 ++ stW ad 1 cI σ.1) ++ ([(ad 0, .inr (4, [.ref (ad 1), .ref (ad 12), .ref (ad 23), .int (bi σ.2.1), .ref (ad 34), .ref (ad 124)]))] ++ (stW ad 23 cI σ.2.2.2.1 ++ (hW ad cI cS σ.2.2.2.2.1 ++ xW ad cI σ.2.2.2.2.2)))) := by
    intro σ
    have h := perm6 [(ad 0, .inr (4, [.ref (ad 1), .ref (ad 12), .ref (ad 23), .int (bi σ.2.1), .ref (ad 34), .ref (ad 124)]))] (stW ad 1 cI σ.1) (stW ad 12 cI σ.2.2.1) (stW ad 23 cI σ.2.2.2.1) (hW ad cI cS σ.2.2.2.2.1) (xW ad cI σ.2.2.2.2.2) [2, 1, 0, 3, 4, 5] (by decide)
    rw [← fW_six] at h
    simpa [List.flatMap_cons, blk6] using h
  exact Lens.perm _ (key σ) (fun u => (key (σ.1, frS σ.2 u)).symm)
theorem Lens.fnv : Lens D A s (fW ad cI cS σ) (fun u : St => stW ad 1 cI u ++ stW ad 23 cI σ.2.2.2.1) σ.1 (fun u => fW ad cI cS (u, σ.2)) := by
  have key : ∀ σ : Fs, (fW ad cI cS σ).Perm ((stW ad 1 cI σ.1 ++ stW ad 23 cI σ.2.2.2.1) ++ ([(ad 0, .inr (4, [.ref (ad 1), .ref (ad 12), .ref (ad 23), .int (bi σ.2.1), .ref (ad 34), .ref (ad 124)]))] ++ (stW ad 12 cI σ.2.2.1 ++ (hW ad cI cS σ.2.2.2.2.1 ++ xW ad cI σ.2.2.2.2.2)))) := by
    intro σ
    have h := perm6 [(ad 0, .inr (4, [.ref (ad 1), .ref (ad 12), .ref (ad 23), .int (bi σ.2.1), .ref (ad 34), .ref (ad 124)]))] (stW ad 1 cI σ.1) (stW ad 12 cI σ.2.2.1) (stW ad 23 cI σ.2.2.2.1) (hW ad cI cS σ.2.2.2.2.1) (xW ad cI σ.2.2.2.2.2) [1, 3, 0, 2, 4, 5] (by decide)
    rw [← fW_six] at h
    simpa [List.flatMap_cons, blk6] using h
  exact Lens.perm _ (key σ) (fun u => (key (u, σ.2)).symm)
theorem Lens.fvn : Lens D A s (fW ad cI cS σ) (fun u : St => stW ad 23 cI u ++ stW ad 1 cI σ.1) σ.2.2.2.1 (fun u => fW ad cI cS (σ.1, frV σ.2 u)) := by
  have key : ∀ σ : Fs, (fW ad cI cS σ).Perm ((stW ad 23 cI σ.2.2.2.1 ++ stW ad 1 cI σ.1) ++ ([(ad 0, .inr (4, [.ref (ad 1), .ref (ad 12), .ref (ad 23), .int (bi σ.2.1), .ref (ad 34), .ref (ad 124)]))] ++ (stW ad 12 cI σ.2.2.1 ++ (hW ad cI cS σ.2.2.2.2.1 ++ xW ad cI σ.2.2.2.2.2)))) := by
    intro σ
    have h := perm6 [(ad 0, .inr (4, [.ref (ad 1), .ref (ad 12), .ref (ad 23), .int (bi σ.2.1), .ref (ad 34), .ref (ad 124)]))] (stW ad 1 cI σ.1) (stW ad 12 cI σ.2.2.1) (stW ad 23 cI σ.2.2.2.1) (hW ad cI cS σ.2.2.2.2.1) (xW ad cI σ.2.2.2.2.2) [3, 1, 0, 2, 4, 5] (by decide)
    rw [← fW_six] at h
    simpa [List.flatMap_cons, blk6] using h
  exact Lens.perm _ (key σ) (fun u => (key (σ.1, frV σ.2 u)).symm)
theorem Lens.fps : Lens D A s (fW ad cI cS σ) (fun η : Hs => hW ad cI cS η ++ stW ad 12 cI σ.2.2.1) σ.2.2.2.2.1 (fun η => fW ad cI cS (σ.1, frH σ.2 η)) := by
  have key : ∀ σ : Fs, (fW ad cI cS σ).Perm ((hW ad cI cS σ.2.2.2.2.1 ++ stW ad 12 cI σ.2.2.1) ++ ([(ad 0, .inr (4, [.ref (ad 1), .ref (ad 12), .ref (ad 23), .int (bi σ.2.1), .ref (ad 34), .ref (ad 124)]))] ++ (stW ad 1 cI σ.1 ++ (stW ad 23 cI σ.2.2.2.1 ++ xW ad cI σ.2.2.2.2.2)))) := by
    intro σ
    have h := perm6 [(ad 0, .inr (4, [.ref (ad 1), .ref (ad 12), .ref (ad 23), .int (bi σ.2.1), .ref (ad 34), .ref (ad 124)]))] (stW ad 1 cI σ.1) (stW ad 12 cI σ.2.2.1) (stW ad 23 cI σ.2.2.2.1) (hW ad cI cS σ.2.2.2.2.1) (xW ad cI σ.2.2.2.2.2) [4, 2, 0, 1, 3, 5] (by decide)
    rw [← fW_six] at h
    simpa [List.flatMap_cons, blk6] using h
  exact Lens.perm _ (key σ) (fun η => (key (σ.1, frH σ.2 η)).symm)
theorem Lens.fpn : Lens D A s (fW ad cI cS σ) (fun q : Hs × St => hW ad cI cS q.1 ++ stW ad 1 cI q.2) (σ.2.2.2.2.1, σ.1) (fun q => fW ad cI cS (q.2, frH σ.2 q.1)) := by
  have key : ∀ σ : Fs, (fW ad cI cS σ).Perm ((hW ad cI cS σ.2.2.2.2.1 ++ stW ad 1 cI σ.1) ++ ([(ad 0, .inr (4, [.ref (ad 1), .ref (ad 12), .ref (ad 23), .int (bi σ.2.1), .ref (ad 34), .ref (ad 124)]))] ++ (stW ad 12 cI σ.2.2.1 ++ (stW ad 23 cI σ.2.2.2.1 ++ xW ad cI σ.2.2.2.2.2)))) := by
    intro σ
    have h := perm6 [(ad 0, .inr (4, [.ref (ad 1), .ref (ad 12), .ref (ad 23), .int (bi σ.2.1), .ref (ad 34), .ref (ad 124)]))] (stW ad 1 cI σ.1) (stW ad 12 cI σ.2.2.1) (stW ad 23 cI σ.2.2.2.1) (hW ad cI cS σ.2.2.2.2.1) (xW ad cI σ.2.2.2.2.2) [4, 1, 0, 2, 3, 5] (by decide)
    rw [← fW_six] at h
    simpa [List.flatMap_cons, blk6] using h
  exact Lens.perm _ (key σ) (fun q => (key (q.2, frH σ.2 q.1)).symm)
theorem Lens.fo : Lens D A s (fW ad cI cS σ) (hO ad cS) σ.2.2.2.2.1.2 (fun u => fW ad cI cS (σ.1, frH σ.2 (σ.2.2.2.2.1.1, u))) := by
  have key : ∀ σ : Fs, (fW ad cI cS σ).Perm (hO ad cS σ.2.2.2.2.1.2 ++ (gsW ad cI σ.2.2.2.2.1.1 ++ ([(ad 0, .inr (4, [.ref (ad 1), .ref (ad 12), .ref (ad 23), .int (bi σ.2.1), .ref (ad 34), .ref (ad 124)]))] ++ (stW ad 1 cI σ.1 ++ (stW ad 12 cI σ.2.2.1 ++ (stW ad 23 cI σ.2.2.2.1 ++ xW ad cI σ.2.2.2.2.2)))))) := by
    intro σ
    have h := perm6 [(ad 0, .inr (4, [.ref (ad 1), .ref (ad 12), .ref (ad 23), .int (bi σ.2.1), .ref (ad 34), .ref (ad 124)]))] (stW ad 1 cI σ.1) (stW ad 12 cI σ.2.2.1) (stW ad 23 cI σ.2.2.2.1) (hW ad cI cS σ.2.2.2.2.1) (xW ad cI σ.2.2.2.2.2) [4, 0, 1, 2, 3, 5] (by decide)
    rw [← fW_six] at h
    simpa [List.flatMap_cons, blk6, hW] using h
  exact Lens.perm _ (key σ) (fun u => (key (σ.1, frH σ.2 (σ.2.2.2.2.1.1, u))).symm)
end LF
