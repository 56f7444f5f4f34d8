/-! ===== what is said of two lanes, and of one at the law's end ===== -/
/-- two lanes of which the same is to be told: both are as one and the same model -/
def Tw (S T : St) : Prop := ∃ M, Rel S M ∧ Rel T M
/-- a wrapper, or the law's act, on two such lanes: the same answer; if that is 'thrown', the second lane may as well be left out -/
def W2 (f : St → Option (Int64 × St)) : Prop := ∀ S T, Tw S T → ∃ r S' T', f S = some (r, S') ∧ f T = some (r, T') ∧ Tw S' T' ∧ (r = XX → Tw S' T)
def A2 : Prop := (∀ p1 p2, W2 (fun S => fL_told S p1 p2)) ∧ (∀ p1 p2, W2 (fun S => fL_blank S p1 p2)) ∧ (∀ p1 p2, W2 (fun S => fL_batchOf S p1 p2)) ∧ (∀ p1, W2 (fun S => fL_kits S p1)) ∧ (∀ p1 p2, W2 (fun S => fL_near S p1 p2)) ∧ (∀ p1 p2 p3, W2 (fun S => fL_ordered S p1 p2 p3)) ∧ ∀ p1 p2 p3 p4, W2 (fun S => fL_nest S p1 p2 p3 p4)
/-- of a part p, by the tool 0: n bends, f turns, the order bs, the sets ds of what is done -/
def OrP (p : Nat) (S : St) (n : Nat) (f : Int32) (bs ds : Nat → Nat) : Prop := n < 6 ∧
  (∀ S1, scrX S S1 → fX8_told S1 (nI p) 1 = some (.inr (nI (n + 1)))) ∧
  (∀ S1, scrX S S1 → ∃ S2, fX8_flips S1 (nI p) 0 = some (.inr f, S2) ∧ scrX S S2) ∧
  (f < 0 → ∀ S1, scrX S S1 → ∃ S2, fX8_ordered S1 (nI p) 0 0 = some (.inr (-1), S2) ∧ scrX S S2) ∧
  (¬ f < 0 → f < nI (n + 1) ∧ ds 0 = 0 ∧ (∀ S1, scrX S S1 → ∃ S2, fX8_ordered S1 (nI p) 0 (nI n) = some (.inr (-1), S2) ∧ scrX S S2) ∧
    ∀ k, k < n → (bs k < 5 ∧ ds k < 32 ∧ bt (ds k) (bs k) = false ∧ ds (k + 1) = ob (ds k) (bs k)) ∧
      (∀ S1, scrX S S1 → ∃ S2, fX8_ordered S1 (nI p) 0 (nI k) = some (.inr (nI (bs k)), S2) ∧ scrX S S2) ∧
      ∀ S1, scrX S S1 → ∃ S2, fX8_why S1 (nI p) 0 (nI (ds k)) (nI (bs k)) = some (.inr 0, S2) ∧ scrX S S2)
def PartP (p : Nat) (S : St) : Prop := (∃ (n : Nat) (f : Int32) (bs ds : Nat → Nat), OrP p S n f bs ds ∧ ∀ S1, scrX S S1 → ∃ S2, fX8_flipsAnew S1 (nI p) 0 = some (.inr f, S2) ∧ scrX S S2) ∧
  ∀ S1, scrX S S1 → ∃ (v5 v4 : Int32) (r : Int64), fX8_told S1 (nI p) 5 = some (.inr v5) ∧ fX8_told S1 (nI p) 4 = some (.inr v4) ∧ v5 ≤ v4 ∧ fL_kits S1 ((1 : Int32) <<< (nI p &&& 31)) = some (r, S1) ∧ ¬ r < 0
def SoP (S : St) : Prop :=
  (∀ p, p < 8 → ∀ S1, scrX S S1 → ∃ r, fL_told S1 (nI p) 0 = some (r, S1) ∧ (¬ r < 0 → ∃ r2, fL_blank S1 (nI p) 0 = some (r2, S1) ∧ (¬ r2 < 0 → PartP p S))) ∧
  (∀ b, b < 20 → ∀ S1, scrX S S1 → ∃ r, fL_batchOf S1 (nI b) 0 = some (r, S1) ∧ (r ≠ XX → r ≤ 3 ∧ ∃ v1 v3 : Int32, fX8_batchOf S1 (nI b) 1 = some (.inr v1) ∧ fX8_batchOf S1 (nI b) 3 = some (.inr v3) ∧ ¬ v1 < 0 ∧ ¬ v3 ≤ 0)) ∧
  (∃ r0 r1 r3 : Int64, (∀ S1, scrX S S1 → ∃ S2, fL_nest S1 0 900 400 0 = some (r0, S2) ∧ scrX S S2) ∧ (¬ r0 < 0 → (∀ S1, scrX S S1 → ∃ S2, fL_nest S1 0 900 400 1 = some (r1, S2) ∧ scrX S S2) ∧ (∀ S1, scrX S S1 → ∃ S2, fL_nest S1 0 900 400 3 = some (r3, S2) ∧ scrX S S2) ∧ ¬ r1 < r0 ∧ r3 < (360000 : Int64) * r0 + 1)) ∧
  ∀ S1, scrX S S1 → fL_told S1 8 0 = some (XX, S1) ∧ fL_batchOf S1 20 0 = some (XX, S1)
