/-! WHAT THE LAW NEEDS -/
theorem sim_addCopy {D : Nat} (hD : D ≤ 10000000) {σ : Fs} {ρ : Ms} (h : RR D σ ρ) (a b : Int32) : ∃ r σ' ρ', X4_addCopy σ a b = some (r, σ') ∧ X5_addCopy ρ a b = some (r, ρ') ∧ RR (D + 6000) σ' ρ' := sorry
theorem sim_addPatron {D : Nat} (hD : D ≤ 10000000) {σ : Fs} {ρ : Ms} (h : RR D σ ρ) : ∃ r σ' ρ', X4_addPatron σ = (r, σ') ∧ X5_addPatron ρ = some (r, ρ') ∧ RR (D + 6000) σ' ρ' := sorry
theorem sim_set {D : Nat} (hD : D ≤ 10000000) {σ : Fs} {ρ : Ms} (h : RR D σ ρ) (a b : Int32) : ∃ r σ' ρ', X4_set σ a b = some (r, σ') ∧ X5_set ρ a b = some (r, ρ') ∧ RR (D + 6000) σ' ρ' := sorry
theorem sim_setting {D : Nat} (hD : D ≤ 10000000) {σ : Fs} {ρ : Ms} (h : RR D σ ρ) (a : Int32) : ∃ r, X4_setting σ.1 a = r ∧ X5_setting ρ a = some r := sorry
theorem sim_setFloating {D : Nat} (hD : D ≤ 10000000) {σ : Fs} {ρ : Ms} (h : RR D σ ρ) (a b : Int32) : ∃ r σ' ρ', X4_setFloating σ a b = (r, σ') ∧ X5_setFloating ρ a b = some (r, ρ') ∧ RR (D + 6000) σ' ρ' := sorry
theorem sim_copyCount {D : Nat} (hD : D ≤ 10000000) {σ : Fs} {ρ : Ms} (h : RR D σ ρ) (a : Int32) : ∃ r, X4_copyCount σ.1 a = some r ∧ X5_copyCount ρ a = some r := sorry
theorem sim_copy {D : Nat} (hD : D ≤ 10000000) {σ : Fs} {ρ : Ms} (h : RR D σ ρ) (a b : Int32) : ∃ r, X4_copy σ.1 a b = r ∧ X5_copy ρ a b = some r := sorry
theorem sim_day {D : Nat} (hD : D ≤ 10000000) {σ : Fs} {ρ : Ms} (h : RR D σ ρ) : ∃ r, X4_day σ.1 = r ∧ X5_day ρ = some r := sorry
theorem sim_pass {D : Nat} (hD : D ≤ 10000000) {σ : Fs} {ρ : Ms} (h : RR D σ ρ) (a : Int32) : ∃ r σ' ρ', X4_pass σ a = some (r, σ') ∧ X5_pass ρ a = some (r, ρ') ∧ RR (D + 6000) σ' ρ' := sorry
theorem sim_lend {D : Nat} (hD : D ≤ 10000000) {σ : Fs} {ρ : Ms} (h : RR D σ ρ) (a b : Int32) : ∃ r σ' ρ', X4_lend σ a b = some (r, σ') ∧ X5_lend ρ a b = some (r, ρ') ∧ RR (D + 6000) σ' ρ' := sorry
theorem sim_bringBack {D : Nat} (hD : D ≤ 10000000) {σ : Fs} {ρ : Ms} (h : RR D σ ρ) (a b : Int32) : ∃ r σ' ρ', X4_bringBack σ a b = some (r, σ') ∧ X5_bringBack ρ a b = some (r, ρ') ∧ RR (D + 6000) σ' ρ' := sorry
theorem sim_renew {D : Nat} (hD : D ≤ 10000000) {σ : Fs} {ρ : Ms} (h : RR D σ ρ) (a : Int32) : ∃ r σ' ρ', X4_renew σ a = some (r, σ') ∧ X5_renew ρ a = some (r, ρ') ∧ RR (D + 6000) σ' ρ' := sorry
theorem sim_claim {D : Nat} (hD : D ≤ 10000000) {σ : Fs} {ρ : Ms} (h : RR D σ ρ) (a : Int32) : ∃ r σ' ρ', X4_claim σ a = (r, σ') ∧ X5_claim ρ a = some (r, ρ') ∧ RR (D + 6000) σ' ρ' := sorry
theorem sim_lose {D : Nat} (hD : D ≤ 10000000) {σ : Fs} {ρ : Ms} (h : RR D σ ρ) (a : Int32) : ∃ r σ' ρ', X4_lose σ a = (r, σ') ∧ X5_lose ρ a = some (r, ρ') ∧ RR (D + 6000) σ' ρ' := sorry
theorem sim_hold {D : Nat} (hD : D ≤ 10000000) {σ : Fs} {ρ : Ms} (h : RR D σ ρ) (a b c : Int32) : ∃ r σ' ρ', X4_hold σ a b c = some (r, σ') ∧ X5_hold_ ρ a b c = some (r, ρ') ∧ RR (D + 6000) σ' ρ' := sorry
theorem sim_cancelHold {D : Nat} (hD : D ≤ 10000000) {σ : Fs} {ρ : Ms} (h : RR D σ ρ) (a b : Int32) : ∃ r σ' ρ', X4_cancelHold σ a b = some (r, σ') ∧ X5_cancelHold ρ a b = some (r, ρ') ∧ RR (D + 6000) σ' ρ' := sorry
theorem sim_reason {D : Nat} (hD : D ≤ 10000000) {σ : Fs} {ρ : Ms} (h : RR D σ ρ) (a b c : Int32) : ∃ r, X4_reason σ.1 a b c = some r ∧ X5_reason ρ a b c = some r := sorry
theorem sim_holdCount {D : Nat} (hD : D ≤ 10000000) {σ : Fs} {ρ : Ms} (h : RR D σ ρ) (a : Int32) : ∃ r, X4_holdCount σ.1 a = some r ∧ X5_holdCount ρ a = some r := sorry
theorem sim_waiting {D : Nat} (hD : D ≤ 10000000) {σ : Fs} {ρ : Ms} (h : RR D σ ρ) (a : Int32) : ∃ r, X4_waiting σ.1 a = some r ∧ X5_waiting ρ a = some r := sorry
theorem sim_holdAt {D : Nat} (hD : D ≤ 10000000) {σ : Fs} {ρ : Ms} (h : RR D σ ρ) (a b c : Int32) : ∃ r, X4_holdAt σ.1 a b c = some r ∧ X5_holdAt ρ a b c = some r := sorry
theorem sim_place {D : Nat} (hD : D ≤ 10000000) {σ : Fs} {ρ : Ms} (h : RR D σ ρ) (a b : Int32) : ∃ r, X4_place σ.1 a b = some r ∧ X5_place ρ a b = some r := sorry
theorem sim_estimate {D : Nat} (hD : D ≤ 10000000) {σ : Fs} {ρ : Ms} (h : RR D σ ρ) (a b : Int32) : ∃ r, X4_estimate σ.1 a b = some r ∧ X5_estimate ρ a b = some r := sorry
theorem sim_patronCount {D : Nat} (hD : D ≤ 10000000) {σ : Fs} {ρ : Ms} (h : RR D σ ρ) : ∃ r, X4_patronCount σ.1 = r ∧ X5_patronCount ρ = some r := sorry
theorem sim_owes {D : Nat} (hD : D ≤ 10000000) {σ : Fs} {ρ : Ms} (h : RR D σ ρ) (a : Int32) : ∃ r, X4_owes σ.1 a = r ∧ X5_owes_ ρ a = some r := sorry
theorem sim_accrued {D : Nat} (hD : D ≤ 10000000) {σ : Fs} {ρ : Ms} (h : RR D σ ρ) (a : Int32) : ∃ r, X4_accrued σ.1 a = some r ∧ X5_accrued ρ a = some r := sorry
theorem sim_patron {D : Nat} (hD : D ≤ 10000000) {σ : Fs} {ρ : Ms} (h : RR D σ ρ) (a b : Int32) : ∃ r, X4_patron σ.1 a b = some r ∧ X5_patron ρ a b = some r := sorry
theorem sim_loanOf {D : Nat} (hD : D ≤ 10000000) {σ : Fs} {ρ : Ms} (h : RR D σ ρ) (a b : Int32) : ∃ r, X4_loanOf σ.1 a b = some r ∧ X5_loanOf ρ a b = some r := sorry
theorem sim_fine {D : Nat} (hD : D ≤ 10000000) {σ : Fs} {ρ : Ms} (h : RR D σ ρ) (a : Int32) : ∃ r, X4_fine σ.1 a = r ∧ X5_fine ρ a = some r := sorry
theorem sim_pay {D : Nat} (hD : D ≤ 10000000) {σ : Fs} {ρ : Ms} (h : RR D σ ρ) (a b : Int32) : ∃ r σ' ρ', X4_pay σ a b = (r, σ') ∧ X5_pay ρ a b = some (r, ρ') ∧ RR (D + 6000) σ' ρ' := sorry
theorem sim_waive {D : Nat} (hD : D ≤ 10000000) {σ : Fs} {ρ : Ms} (h : RR D σ ρ) (a b : Int32) : ∃ r σ' ρ', X4_waive σ a b = (r, σ') ∧ X5_waive ρ a b = some (r, ρ') ∧ RR (D + 6000) σ' ρ' := sorry
theorem sim_ledgerSize {D : Nat} (hD : D ≤ 10000000) {σ : Fs} {ρ : Ms} (h : RR D σ ρ) : ∃ r, X4_ledgerSize σ.1 = r ∧ X5_ledgerSize ρ = some r := sorry
theorem sim_ledger {D : Nat} (hD : D ≤ 10000000) {σ : Fs} {ρ : Ms} (h : RR D σ ρ) (a b : Int32) : ∃ r, X4_ledger σ.1 a b = r ∧ X5_ledger ρ a b = some r := sorry
theorem sim_ledgerSum {D : Nat} (hD : D ≤ 10000000) {σ : Fs} {ρ : Ms} (h : RR D σ ρ) (a b : Int32) : ∃ r, X4_ledgerSum σ.1 a b = some r ∧ X5_ledgerSum ρ a b = some r := sorry
theorem sim_shelf {D : Nat} (hD : D ≤ 10000000) {σ : Fs} {ρ : Ms} (h : RR D σ ρ) (a b : Int32) : ∃ r, X4_shelf σ.1 a b = some r ∧ X5_shelf ρ a b = some r := sorry
theorem sim_arriving {D : Nat} (hD : D ≤ 10000000) {σ : Fs} {ρ : Ms} (h : RR D σ ρ) (a b : Int32) : ∃ r, X4_arriving σ.1 a b = some r ∧ X5_arriving ρ a b = some r := sorry
theorem sim_feed {D : Nat} (hD : D ≤ 10000000) {σ : Fs} {ρ : Ms} (h : RR D σ ρ) (a : Int32) : ∃ r σ' ρ', X4_feed σ a = some (r, σ') ∧ X5_feed ρ a = some (r, ρ') ∧ RR (D + 6000) σ' ρ' := sorry
theorem sim_execute {D : Nat} (hD : D ≤ 10000000) {σ : Fs} {ρ : Ms} (h : RR D σ ρ) : ∃ r σ' ρ', X4_execute σ = some (r, σ') ∧ X5_execute ρ = some (r, ρ') ∧ RR (D + 6000) σ' ρ' := sorry
theorem sim_save {D : Nat} (hD : D ≤ 10000000) {σ : Fs} {ρ : Ms} (h : RR D σ ρ) : ∃ r σ' ρ', X4_save σ = (r, σ') ∧ X5_save ρ = some (r, ρ') ∧ RR (D + 6000) σ' ρ' := sorry
theorem sim_restore {D : Nat} (hD : D ≤ 10000000) {σ : Fs} {ρ : Ms} (h : RR D σ ρ) : ∃ r σ' ρ', X4_restore σ = (r, σ') ∧ X5_restore ρ = some (r, ρ') ∧ RR (D + 6000) σ' ρ' := sorry
theorem sim_undo {D : Nat} (hD : D ≤ 10000000) {σ : Fs} {ρ : Ms} (h : RR D σ ρ) : ∃ r σ' ρ', X4_undo σ = (r, σ') ∧ X5_undo ρ = some (r, ρ') ∧ RR (D + 6000) σ' ρ' := sorry
theorem sim_start : RR (1500 * 0) fs0 ms0 := sorry
