def S0M : St := (fun _ _ => 0, fun _ _ => 0)
/-! ===== the two stores' relation: what the class holds, the reference holds ===== -/
theorem gi_eq {S : St} {k j : Nat} {v : Int32} : gi (si S k j v) k j = v := by
  unfold gi si
  simp [upd]
theorem gi_ne {S : St} {k j : Nat} {v : Int32} {k' j' : Nat} (h : k' ≠ k) : gi (si S k j v) k' j' = gi S k' j' := by
  unfold gi si
  simp [h]
theorem gi_nj {S : St} {k j : Nat} {v : Int32} {k' j' : Nat} (h : j' ≠ j) : gi (si S k j v) k' j' = gi S k' j' := by
  unfold gi si
  by_cases q : k' = k
  · subst q
    simp [upd, h]
  · simp [q]
theorem gi_if {S : St} {k j : Nat} {v : Int32} {k' j' : Nat} : gi (si S k j v) k' j' = if k' = k ∧ j' = j then v else gi S k' j' := by
  by_cases h : k' = k
  · by_cases q : j' = j
    · rw [if_pos ⟨h, q⟩, h, q, gi_eq]
    · rw [if_neg (fun z => q z.2), gi_nj q]
  · rw [if_neg (fun z => h z.1), gi_ne h]
theorem gi_sl {S : St} {k j : Nat} {v : Int64} {k' j' : Nat} : gi (sl S k j v) k' j' = gi S k' j' := rfl
theorem inb_nI {i n : Nat} (h : i < n) (hn : n < 2 ^ 31) : inb (nI i) n = true := by
  unfold inb
  exact decide_eq_true (nI_in h hn)
theorem nI_sub1 {n : Nat} (h : 0 < n) : nI n - 1 = nI (n - 1) := by
  obtain ⟨m, rfl⟩ : ∃ m, n = m + 1 := ⟨n - 1, by omega⟩
  exact nI_pred m
theorem nI_toIntm {n : Nat} (h : n < 2 ^ 30) : (nI n - 1).toInt = (n : Int) - 1 := by
  rw [Int32.toInt_sub, nI_toInt (by omega), show (1 : Int32).toInt = 1 from rfl]
  exact Int.bmod_eq_of_le (by omega) (by omega)
/-- a number between 0 and n - 1 -/
theorem rng {x : Int32} {n : Nat} (hn : n < 2 ^ 30) (h : (0 : Int32) ≤ x ∧ x ≤ nI n - 1) : ∃ i, i < n ∧ x = nI i := by
  obtain ⟨j, hj, rfl⟩ := nI_of (x := x) (fun q => by
    rw [Int32.lt_iff_toInt_lt] at q
    rw [Int32.le_iff_toInt_le] at h
    omega)
  refine ⟨j, ?_, rfl⟩
  have h2 := h.2
  rw [Int32.le_iff_toInt_le, nI_toInt hj, nI_toIntm hn] at h2
  omega
theorem rng' {n i : Nat} (hn : n < 2 ^ 30) (hi : i < n) : (0 : Int32) ≤ nI i ∧ nI i ≤ nI n - 1 := by
  refine ⟨nI_pos' (by omega), ?_⟩
  rw [Int32.le_iff_toInt_le, nI_toInt (by omega), nI_toIntm hn]
  omega
theorem i_nlt {a b : Int32} : ¬ a < b ↔ b ≤ a := by
  rw [Int32.lt_iff_toInt_lt, Int32.le_iff_toInt_le]
  omega
theorem i_nle {a b : Int32} : ¬ a ≤ b ↔ b < a := by
  rw [Int32.lt_iff_toInt_lt, Int32.le_iff_toInt_le]
  omega
theorem isOut_in {p a b : Int32} (h : a ≤ p ∧ p ≤ b) : fX8_isOut p a b = some 0 := by
  unfold fX8_isOut jn0; dsimp only
  rw [if_neg (i_nlt.mpr h.1), if_pos h.2]
theorem isOut_out {p a b : Int32} (h : ¬ (a ≤ p ∧ p ≤ b)) : fX8_isOut p a b = some 1 := by
  unfold fX8_isOut jn0; dsimp only
  by_cases q : p < a
  · rw [if_pos q]
  · rw [if_neg q, if_neg (fun z => h ⟨i_nlt.mp q, z⟩)]
theorem in_in {p a b : Int32} (h : a ≤ p ∧ p ≤ b) : fX9_in p a b = some 1 := by
  unfold fX9_in
  rw [if_neg (i_nlt.mpr h.1), if_neg (i_nlt.mpr h.2)]
theorem in_out {p a b : Int32} (h : ¬ (a ≤ p ∧ p ≤ b)) : fX9_in p a b = some 0 := by
  unfold fX9_in
  by_cases q : p < a
  · rw [if_pos q]
  · rw [if_neg q, if_pos (i_nle.mp (fun z => h ⟨i_nlt.mp q, z⟩))]
theorem well_0 {M : St} : fX9_goesWell M 0 = some (1, si M 0 0 0) := rfl
theorem well_n {M : St} {k : Int32} (h : ¬ k = 0) : fX9_goesWell M k = some (0, si M 0 0 k) := by
  unfold fX9_goesWell bv; dsimp only
  rw [if_neg h]
/-- counts -/
def RC (P T B F : Nat) (S M : St) : Prop := (P ≤ 8 ∧ T ≤ 4 ∧ B ≤ 20 ∧ F ≤ 6) ∧ (gi S 0 2 = nI P ∧ gi S 0 4 = nI T ∧ gi S 0 8 = nI B ∧ gi S 1 2 = nI F) ∧ (gi M 0 4 = nI P ∧ gi M 0 15 = nI T ∧ gi M 0 23 = nI B ∧ gi M 0 1 = nI F)
def isDir (x : Int32) : Prop := x = 0 ∨ x = 1
def btw (a b : Int32) (x : Int32) : Prop := a ≤ x ∧ x ≤ b
/-- faces: the class's lengths in array ls, directions in ds (of the bend ahead); the reference's from lm + o, dm + o (of the bend behind) -/
def RFa (n : Nat) (S M : St) (ls ds lm dm o : Nat) : Prop := (∀ i, i < n → gi S ls i = gi M lm (o + i) ∧ btw 10 200 (gi M lm (o + i))) ∧ ∀ i, i + 1 < n → gi S ds (i + 1) = gi M dm (o + i) ∧ isDir (gi M dm (o + i))
def RPt (p : Nat) (S M : St) : Prop := ∃ f th h : Nat, (1 ≤ f ∧ f ≤ 6 ∧ 1 ≤ th ∧ th ≤ 4 ∧ h ≤ 6) ∧ (gi S (30 + 7 * p) 2 = nI f ∧ gi M 3 p = nI f) ∧ RFa f S M (31 + 7 * p) (32 + 7 * p) 4 5 (6 * p) ∧
  (gi S (29 + 7 * p) 1 = gi M 6 p ∧ btw 10 300 (gi M 6 p)) ∧ (gi S (29 + 7 * p) 2 = nI th ∧ gi M 7 p = nI th) ∧ gi S (29 + 7 * p) 3 = gi M 8 p ∧ (gi S (29 + 7 * p) 7 = nI h ∧ gi M 9 p = nI h) ∧
  ∀ j, j < h → (gi S (33 + 7 * p) j = gi M 10 (6 * p + j) ∧ (∃ q, q < f ∧ gi M 10 (6 * p + j) = nI q)) ∧ gi S (34 + 7 * p) j = gi M 11 (6 * p + j) ∧ gi S (35 + 7 * p) j = gi M 12 (6 * p + j)
def RTl (t : Nat) (S M : St) : Prop := (gi S (85 + 2 * t) 0 = gi M 13 t ∧ gi S (85 + 2 * t) 1 = gi M 14 t ∧ gi S (85 + 2 * t) 2 = gi M 15 t ∧ gi S (85 + 2 * t) 3 = gi M 16 t ∧ gi S (85 + 2 * t) 4 = gi M 17 t) ∧
  (btw 4 60 (gi M 13 t) ∧ btw 0 30 (gi M 14 t) ∧ btw 10 200 (gi M 15 t) ∧ btw 10 200 (gi M 16 t) ∧ btw 20 600 (gi M 17 t)) ∧ ∀ i, 1 ≤ i → i ≤ 4 → gi S (86 + 2 * t) i = gi M 18 (5 * t + i) ∧ btw 0 9 (gi M 18 (5 * t + i))
/-- a tool that there is not yet: its deductions as made -/
def RT0 (t : Nat) (S : St) : Prop := ∀ i, 1 ≤ i → i ≤ 4 → gi S (86 + 2 * t) i = nI (2 * i)
def RBa (P T b : Nat) (S M : St) : Prop := ∃ p t n w : Nat, (p < P ∧ t < T ∧ n ≤ 50 ∧ w ≤ 3) ∧ (gi S (93 + b) 0 = nI p ∧ gi M 20 b = nI p) ∧ (gi S (93 + b) 1 = nI t ∧ gi M 21 b = nI t) ∧ (gi S (93 + b) 2 = nI w ∧ gi M 23 b = nI w) ∧ (gi S (93 + b) 3 = nI n ∧ gi M 22 b = nI n) ∧ gi S (93 + b) 4 = gi M 24 b ∧ (gi S (93 + b) 5 = gi M 25 b ∧ (0 : Int32) < gi M 25 b)
def sumN (q : Nat → Nat) : Nat → Nat
  | 0 => 0
  | n + 1 => sumN q n + q n
def RLo (P : Nat) (S M : St) : Prop := ∃ q : Nat → Nat, (∀ p, p < 8 → gi S 6 p = nI (q p) ∧ gi M 19 p = nI (q p)) ∧ (∀ p, P ≤ p → q p = 0) ∧ gi S 0 6 = nI (sumN q P) ∧ sumN q P ≤ 40
/-- revisions, of parts to come too -/
def RRv (S M : St) : Prop := ∀ p, p < 8 → gi S (29 + 7 * p) 3 = gi M 8 p
def RelN (P T B F : Nat) (S M : St) : Prop := RC P T B F S M ∧ RFa F S M 2 3 1 2 0 ∧ (∀ p, p < P → RPt p S M) ∧ (∀ t, t < T → RTl t S M) ∧ (∀ t, T ≤ t → t < 4 → RT0 t S) ∧ (∀ b, b < B → RBa P T b S M) ∧ RLo P S M ∧ RRv S M
def Rel (S M : St) : Prop := ∃ P T B F : Nat, RelN P T B F S M
theorem sumN_0 {q : Nat → Nat} (h : ∀ p, q p = 0) (n : Nat) : sumN q n = 0 := by
  induction n with
  | zero => rfl
  | succ n ih => rw [sumN, ih, h]
theorem rel_0 : Rel S0 S0M := by
  refine ⟨0, 0, 0, 0, ⟨by decide, ⟨?_, ?_, ?_, ?_⟩, ?_, ?_, ?_, ?_⟩, ⟨fun i h => absurd h (Nat.not_lt_zero i), fun i h => absurd h (Nat.not_lt_zero _)⟩, fun p h => absurd h (Nat.not_lt_zero p), fun p h => absurd h (Nat.not_lt_zero p), fun t _ ht i h1 h2 => ?_, fun p h => absurd h (Nat.not_lt_zero p), ⟨fun _ => 0, fun p hp => ⟨?_, rfl⟩, fun _ _ => rfl, ?_, by decide⟩, fun p hp => by
    show (if 85 ≤ 29 + 7 * p ∧ kdX (29 + 7 * p) = 25 then dd0 else fun _ => 0) 3 = 0
    rw [if_neg (by omega)]⟩ <;> try rfl
  · unfold gi S0
    have hk : 85 ≤ 86 + 2 * t ∧ kdX (86 + 2 * t) = 25 := ⟨by omega, (by decide +kernel : ∀ t, t < 4 → kdX (86 + 2 * t) = 25) t ht⟩
    show (if 85 ≤ 86 + 2 * t ∧ kdX (86 + 2 * t) = 25 then dd0 else fun _ => 0) i = _
    rw [if_pos hk]
    rcases (show i = 1 ∨ i = 2 ∨ i = 3 ∨ i = 4 by omega) with rfl | rfl | rfl | rfl <;> rfl
/-! ===== what stays, if the cells it is of stay ===== -/
def sameX (lo hi : Nat) (S S' : St) : Prop := ∀ k j, lo ≤ k → k ≤ hi → gi S' k j = gi S k j
theorem RFa.keep {n : Nat} {S M S' M' : St} {ls ds lm dm o : Nat} (h : RFa n S M ls ds lm dm o) (h1 : ∀ j, gi S' ls j = gi S ls j) (h2 : ∀ j, gi S' ds j = gi S ds j) (h3 : ∀ j, j < n → gi M' lm (o + j) = gi M lm (o + j)) (h4 : ∀ j, j < n → gi M' dm (o + j) = gi M dm (o + j)) : RFa n S' M' ls ds lm dm o :=
  ⟨fun i hi => by rw [h1, h3 i hi]; exact h.1 i hi, fun i hi => by rw [h2, h4 i (by omega)]; exact h.2 i hi⟩
theorem RPt.keep {p : Nat} {S M S' M' : St} (h : RPt p S M) (h1 : ∀ k j, 29 + 7 * p ≤ k → k ≤ 35 + 7 * p → gi S' k j = gi S k j) (h2 : ∀ k, 3 ≤ k → k ≤ 9 → k ≠ 4 → k ≠ 5 → gi M' k p = gi M k p) (h3 : ∀ k j, (k = 4 ∨ k = 5 ∨ k = 10 ∨ k = 11 ∨ k = 12) → j < 6 → gi M' k (6 * p + j) = gi M k (6 * p + j)) : RPt p S' M' := by
  obtain ⟨f, th, h, hb, ⟨a1, a2⟩, a3, ⟨a4, a5⟩, ⟨a6, a7⟩, a8, ⟨a9, a10⟩, a11⟩ := h
  refine ⟨f, th, h, hb, ⟨by rw [h1 _ _ (by omega) (by omega)]; exact a1, by rw [h2 _ (by omega) (by omega) (by omega) (by omega)]; exact a2⟩, a3.keep (fun j => h1 _ _ (by omega) (by omega)) (fun j => h1 _ _ (by omega) (by omega)) (fun j hj => h3 _ _ (by omega) (by omega)) (fun j hj => h3 _ _ (by omega) (by omega)), ⟨?_, ?_⟩, ⟨?_, ?_⟩, ?_, ⟨?_, ?_⟩, fun j hj => ?_⟩
  · rw [h1 _ _ (by omega) (by omega), h2 _ (by omega) (by omega) (by omega) (by omega)]; exact a4
  · rw [h2 _ (by omega) (by omega) (by omega) (by omega)]; exact a5
  · rw [h1 _ _ (by omega) (by omega)]; exact a6
  · rw [h2 _ (by omega) (by omega) (by omega) (by omega)]; exact a7
  · rw [h1 _ _ (by omega) (by omega), h2 _ (by omega) (by omega) (by omega) (by omega)]; exact a8
  · rw [h1 _ _ (by omega) (by omega)]; exact a9
  · rw [h2 _ (by omega) (by omega) (by omega) (by omega)]; exact a10
  · rw [h1 _ _ (by omega) (by omega), h1 _ _ (by omega) (by omega), h1 _ _ (by omega) (by omega), h3 _ _ (by omega) (by omega), h3 _ _ (by omega) (by omega), h3 _ _ (by omega) (by omega)]
    exact a11 j hj
theorem RTl.keep {t : Nat} {S M S' M' : St} (h : RTl t S M) (h1 : ∀ k j, 85 + 2 * t ≤ k → k ≤ 86 + 2 * t → gi S' k j = gi S k j) (h2 : ∀ k, 13 ≤ k → k ≤ 17 → gi M' k t = gi M k t) (h3 : ∀ j, j < 5 → gi M' 18 (5 * t + j) = gi M 18 (5 * t + j)) : RTl t S' M' := by
  obtain ⟨⟨a1, a2, a3, a4, a5⟩, ⟨b1, b2, b3, b4, b5⟩, c⟩ := h
  refine ⟨⟨?_, ?_, ?_, ?_, ?_⟩, ⟨?_, ?_, ?_, ?_, ?_⟩, fun i hi1 hi2 => ?_⟩
  iterate 5 (· rw [h1 _ _ (by omega) (by omega), h2 _ (by omega) (by omega)]; assumption)
  iterate 5 (· rw [h2 _ (by omega) (by omega)]; assumption)
  · rw [h1 _ _ (by omega) (by omega), h3 _ (by omega)]; exact c i hi1 hi2
theorem RT0.keep {t : Nat} {S S' : St} (h : RT0 t S) (h1 : ∀ j, gi S' (86 + 2 * t) j = gi S (86 + 2 * t) j) : RT0 t S' := fun i hi1 hi2 => by rw [h1]; exact h i hi1 hi2
theorem RBa.keep {P T P' T' b : Nat} {S M S' M' : St} (h : RBa P T b S M) (hP : P ≤ P') (hT : T ≤ T') (h1 : ∀ j, gi S' (93 + b) j = gi S (93 + b) j) (h2 : ∀ k, 20 ≤ k → k ≤ 25 → gi M' k b = gi M k b) : RBa P' T' b S' M' := by
  obtain ⟨p, t, n, w, ⟨b1, b2, b3, b4⟩, ⟨a1, a2⟩, ⟨a3, a4⟩, ⟨a5, a6⟩, ⟨a7, a8⟩, a9, a10⟩ := h
  refine ⟨p, t, n, w, ⟨by omega, by omega, b3, b4⟩, ⟨?_, ?_⟩, ⟨?_, ?_⟩, ⟨?_, ?_⟩, ⟨?_, ?_⟩, ?_, ?_⟩
  · rw [h1]; exact a1
  · rw [h2 _ (by omega) (by omega)]; exact a2
  · rw [h1]; exact a3
  · rw [h2 _ (by omega) (by omega)]; exact a4
  · rw [h1]; exact a5
  · rw [h2 _ (by omega) (by omega)]; exact a6
  · rw [h1]; exact a7
  · rw [h2 _ (by omega) (by omega)]; exact a8
  · rw [h1, h2 _ (by omega) (by omega)]; exact a9
  · rw [h1, h2 _ (by omega) (by omega)]; exact a10
theorem RLo.keep {P : Nat} {S M S' M' : St} (h : RLo P S M) (h1 : ∀ j, gi S' 6 j = gi S 6 j) (h2 : ∀ j, gi M' 19 j = gi M 19 j) (h3 : gi S' 0 6 = gi S 0 6) : RLo P S' M' := by
  obtain ⟨q, a, b, c, d⟩ := h
  exact ⟨q, fun p hp => by rw [h1, h2]; exact a p hp, b, by rw [h3]; exact c, d⟩
theorem sumN_next {q : Nat → Nat} {P : Nat} (h : ∀ p, P ≤ p → q p = 0) : sumN q (P + 1) = sumN q P := by
  show sumN q P + q P = _
  rw [h P (Nat.le_refl P), Nat.add_zero]
theorem RLo.next {P : Nat} {S M : St} (h : RLo P S M) : RLo (P + 1) S M := by
  obtain ⟨q, a, b, c, d⟩ := h
  exact ⟨q, a, fun p hp => b p (by omega), by rw [sumN_next b]; exact c, by rw [sumN_next b]; exact d⟩
theorem RRv.keep {S M S' M' : St} (h : RRv S M) (h1 : ∀ p, p < 8 → gi S' (29 + 7 * p) 3 = gi S (29 + 7 * p) 3) (h2 : ∀ p, p < 8 → gi M' 8 p = gi M 8 p) : RRv S' M' := fun p hp => by rw [h1 p hp, h2 p hp]; exact h p hp
theorem RC.keep {P T B F : Nat} {S M S' M' : St} (h : RC P T B F S M) (h1 : ∀ j, j = 2 ∨ j = 4 ∨ j = 8 → gi S' 0 j = gi S 0 j) (h2 : gi S' 1 2 = gi S 1 2) (h3 : ∀ j, j ≠ 0 → j < 30 → gi M' 0 j = gi M 0 j) : RC P T B F S' M' := by
  obtain ⟨a, ⟨b1, b2, b3, b4⟩, c1, c2, c3, c4⟩ := h
  refine ⟨a, ⟨?_, ?_, ?_, ?_⟩, ?_, ?_, ?_, ?_⟩
  · rw [h1 _ (by omega)]; exact b1
  · rw [h1 _ (by omega)]; exact b2
  · rw [h1 _ (by omega)]; exact b3
  · rw [h2]; exact b4
  · rw [h3 _ (by omega) (by omega)]; exact c1
  · rw [h3 _ (by omega) (by omega)]; exact c2
  · rw [h3 _ (by omega) (by omega)]; exact c3
  · rw [h3 _ (by omega) (by omega)]; exact c4
/-- scratch cells don't matter: in the class 8 to 28, in the reference its numbers 0 and 30 on and the arrays 26 on -/
def scrX (S S' : St) : Prop := ∀ k j, (k < 8 ∨ 29 ≤ k) → gi S' k j = gi S k j
def scrM (M M' : St) : Prop := ∀ k j, (k = 0 → j ≠ 0 ∧ j < 30) → k < 26 → gi M' k j = gi M k j
theorem RelN.keep {P T B F : Nat} {S M S' M' : St} (h : RelN P T B F S M) (hS : scrX S S') (hM : scrM M M') : RelN P T B F S' M' := by
  obtain ⟨h1, h2, h3, h4, h5, h6, h7, h8⟩ := h
  have hb := h1.1
  refine ⟨h1.keep (fun j _ => hS _ _ (by omega)) (hS _ _ (by omega)) (fun j h0 h9 => hM _ _ (fun _ => ⟨h0, h9⟩) (by omega)), h2.keep (fun j => hS _ _ (by omega)) (fun j => hS _ _ (by omega)) (fun j hj => hM _ _ (fun q => by omega) (by omega)) (fun j hj => hM _ _ (fun q => by omega) (by omega)),
    fun p hp => (h3 p hp).keep (fun k j a b => hS _ _ (by omega)) (fun k a b _ _ => hM _ _ (fun q => by omega) (by omega)) (fun k j a b => hM _ _ (fun q => by omega) (by omega)),
    fun t ht => (h4 t ht).keep (fun k j a b => hS _ _ (by omega)) (fun k a b => hM _ _ (fun q => by omega) (by omega)) (fun j b => hM _ _ (fun q => by omega) (by omega)),
    fun t ht h9 => (h5 t ht h9).keep (fun j => hS _ _ (by omega)), fun b hb => (h6 b hb).keep (Nat.le_refl P) (Nat.le_refl T) (fun j => hS _ _ (by omega)) (fun k a b => hM _ _ (fun q => by omega) (by omega)),
    h7.keep (fun j => hS _ _ (by omega)) (fun j => hM _ _ (fun q => by omega) (by omega)) (hS _ _ (by omega)), h8.keep (fun p hp => hS _ _ (by omega)) (fun p hp => hM _ _ (fun q => by omega) (by omega))⟩
theorem Rel.keep {S M S' M' : St} (h : Rel S M) (hS : scrX S S') (hM : scrM M M') : Rel S' M' := by
  obtain ⟨P, T, B, F, h⟩ := h
  exact ⟨P, T, B, F, h.keep hS hM⟩
theorem scrX_r {S : St} : scrX S S := fun _ _ _ => rfl
theorem scrM_r {M : St} : scrM M M := fun _ _ _ _ => rfl
theorem scrM_t {M : St} {k : Int32} : scrM M (si M 0 0 k) := fun k j h1 h2 => by
  by_cases q : k = 0
  · exact gi_nj (h1 q).1
  · exact gi_ne q
theorem scrM.tr {M M1 M2 : St} (h1 : scrM M M1) (h2 : scrM M1 M2) : scrM M M2 := fun k j a b => (h2 k j a b).trans (h1 k j a b)
theorem scrX.tr {S S1 S2 : St} (h1 : scrX S S1) (h2 : scrX S1 S2) : scrX S S2 := fun k j a => (h2 k j a).trans (h1 k j a)
theorem scrM_i {M : St} {k j : Nat} {v : Int32} (h : 26 ≤ k ∨ (k = 0 ∧ (j = 0 ∨ 30 ≤ j))) : scrM M (si M k j v) := fun k' j' h1 h2 => by
  by_cases q : k' = k
  · subst q
    rcases h with h | ⟨rfl, h⟩
    · omega
    · exact gi_nj (by have := h1 rfl; omega)
  · exact gi_ne q
theorem scrX_i {S : St} {k j : Nat} {v : Int32} (h : 8 ≤ k ∧ k < 29) : scrX S (si S k j v) := fun k' j' h1 => gi_ne (by omega)
theorem scrX_l {S : St} {k j : Nat} {v : Int64} : scrX S (sl S k j v) := fun _ _ _ => rfl
theorem Rel.thr {S M : St} {k : Int32} (h : Rel S M) : Rel S (si M 0 0 k) := h.keep scrX_r scrM_t
theorem RelN.thr {P T B F : Nat} {S M : St} {k : Int32} (h : RelN P T B F S M) : RelN P T B F S (si M 0 0 k) := h.keep scrX_r scrM_t
