/-! ===== what is so of a lane: what a call finds ===== -/
theorem partAt_in {P p : Nat} {S : St} (h1 : gi S 0 2 = nI P) (hP : P ≤ 8) (hp : p < P) : fX8_partAt S (nI p) = some (.inr (29 + 7 * p)) := by
  unfold fX8_partAt
  rw [h1, isOut_in (rng' (by omega) hp)]
  simp only [bn1_s, if_pos, inb_nI (show p < 8 by omega) (by omega), gd_t rfl, pid_nI (show p < 2 ^ 31 by omega)]
theorem notin {P p : Nat} (hP : P < 2 ^ 30) (hp : P ≤ p) (h2 : p < 2 ^ 30) : ¬ ((0 : Int32) ≤ nI p ∧ nI p ≤ nI P - 1) := fun z => by
  obtain ⟨i, hi, e⟩ := rng hP z
  have := (nI_eq (by omega) (by omega)).mp e
  omega
theorem partAt_out {P p : Nat} {S : St} (h1 : gi S 0 2 = nI P) (hP : P ≤ 8) (hp : P ≤ p) (h2 : p < 100) : fX8_partAt S (nI p) = some (.inl "java/lang/IndexOutOfBoundsException") := by
  unfold fX8_partAt
  rw [h1, isOut_out (notin (by omega) hp (by omega))]
  rfl
theorem toolAt_0 {P : Nat} {S : St} (h1 : gi S 0 4 = nI P) (hP : P ≤ 4) (hp : 0 < P) : fX8_toolAt S 0 = some (.inr (85 + 2 * 0)) := by
  unfold fX8_toolAt
  rw [h1, show (0 : Int32) = nI 0 from nI_0.symm, isOut_in (by rw [nI_0]; exact rng' (i := 0) (by omega) hp)]
  rfl
theorem toolAt_no {S : St} (h1 : gi S 0 4 = nI 0) : fX8_toolAt S 0 = some (.inl "java/lang/IndexOutOfBoundsException") := by
  unfold fX8_toolAt
  rw [h1, isOut_out (by decide)]
  rfl
theorem batchAt_in {P p : Nat} {S : St} (h1 : gi S 0 8 = nI P) (hP : P ≤ 20) (hp : p < P) : fX8_batchAt S (nI p) = some (.inr (93 + p)) := by
  unfold fX8_batchAt
  rw [h1, isOut_in (rng' (by omega) hp)]
  simp only [bn1_s, if_pos, inb_nI (show p < 20 by omega) (by omega), gd_t rfl, bid_nI (show p < 2 ^ 31 by omega)]
theorem batchAt_out {P p : Nat} {S : St} (h1 : gi S 0 8 = nI P) (hP : P ≤ 20) (hp : P ≤ p) (h2 : p < 100) : fX8_batchAt S (nI p) = some (.inl "java/lang/IndexOutOfBoundsException") := by
  unfold fX8_batchAt
  rw [h1, isOut_out (notin (by omega) hp (by omega))]
  rfl
theorem bend_in {f b k : Nat} {S : St} (h1 : 1 ≤ f) (hf : f ≤ 6) (hS : gi S k 2 = nI f) (hb : b + 1 < f) : fX8_checkBend S k (nI b) = some (.inr ()) := by
  unfold fX8_checkBend
  rw [bends_eq hS h1 hf]
  simp only [bn1_s]
  rw [isOut_in (rng' (by omega) (show b < f - 1 by omega))]
  rfl
theorem done_in {f b d k : Nat} {S : St} (h1 : 1 ≤ f) (hf : f ≤ 6) (hS : gi S k 2 = nI f) (hd : d < 2 ^ (f - 1)) (hb : b < 5) (hbt : bt d b = false) : fX8_checkDone S k (nI d) (nI b) = some (.inr ()) := by
  have h32 := bf_5 (n := f - 1) (by omega)
  unfold fX8_checkDone
  rw [bends_eq hS h1 hf]
  simp only [bn1_s]
  rw [if_pos ((ushr0 (by omega)).mpr ⟨nI_pos' (by omega), by rw [bf_3 (by omega)]; exact nI_lt hd (by omega)⟩), hasBit_N (by omega) hb, hbt]
  rfl
theorem kit_in {P p : Nat} {S : St} (h1 : gi S 0 2 = nI P) (hP : P ≤ 8) (hp : p < P) : fX8_checkKit S ((1 : Int32) <<< (nI p &&& 31)) = some (.inr ()) := by
  unfold fX8_checkKit
  rw [h1, if_neg ((by decide +kernel : ∀ p, p < 8 → ¬ ((1 : Int32) <<< (nI p &&& 31)) = 0) p (by omega)), if_pos ((by decide +kernel : ∀ P, P < 9 → ∀ p, p < P → ((((1 : Int32) <<< (nI p &&& 31)).toUInt32 >>> ((nI P).toUInt32 &&& Int32.toUInt32 31)).toInt32 = 0)) P (by omega) p hp)]
/-! ===== numbers that are not below 0, not above others ===== -/
theorem nears_le {p h : Nat} {S M : St} (hp : p < 8) (hP : RPt p S M) (hS : gi S (29 + 7 * p) 7 = nI h) (hh : gi M 9 p = nI h) (h6 : h ≤ 6) : ∀ (n k m a : Nat), k + n = h → n < m → ∃ c, c ≤ a + n ∧ lq2 (fX4_nearHoles_L4 S (29 + 7 * p)) m (nI a) (nI k) = some (nI c) := by
  intro n
  induction n with
  | zero =>
    intro k m a hk hm
    obtain ⟨m, rfl⟩ : ∃ q, m = q + 1 := ⟨m - 1, by omega⟩
    refine ⟨a, by omega, ?_⟩
    rw [lq2_1, fX4_nearHoles_L4, hS, if_pos (nI_le (by omega) (by omega))]
  | succ n ih =>
    intro k m a hk hm
    obtain ⟨m, rfl⟩ : ∃ q, m = q + 1 := ⟨m - 1, by omega⟩
    obtain ⟨v, hv, e1, e2⟩ := near_eq (j := k) hp hP hh (by omega) h6
    have hx : ∃ a', a' ≤ a + 1 ∧ nI a + (if v = 0 then 0 else 1) = nI a' := by
      rcases hv with rfl | rfl
      · exact ⟨a, by omega, by rw [if_pos rfl, Int32.add_zero]⟩
      · exact ⟨a + 1, by omega, by rw [if_neg (by decide), nI_1]⟩
    obtain ⟨a', ha, hx⟩ := hx
    obtain ⟨c, c1, c2⟩ := ih (k + 1) m a' (by omega) (by omega)
    refine ⟨c, by omega, ?_⟩
    rw [lq2_1, fX4_nearHoles_L4, hS, if_neg (nI_ge (by omega) (by omega)), e1]
    simp only [bn1_s, bn1_if, bv, nI_1, hx]
    exact c2
theorem coat_le {P T B p : Nat} {S M : St} (hP : P ≤ 8) (hB : B ≤ 20) (h1 : gi S 0 8 = nI B) (hb : ∀ b, b < B → RBa P T b S M) : ∀ (n k m a : Nat), k + n = B → n < m → a ≤ 50 * k → ∃ c, c ≤ 1000 ∧ lq2 (fX8_coatedPieces_L4 S (nI p)) m (nI a) (nI k) = some (nI c) := by
  intro n
  induction n with
  | zero =>
    intro k m a hk hm ha
    obtain ⟨m, rfl⟩ : ∃ q, m = q + 1 := ⟨m - 1, by omega⟩
    refine ⟨a, by omega, ?_⟩
    rw [lq2_1, fX8_coatedPieces_L4, h1, if_pos (nI_le (by omega) (by omega))]
  | succ n ih =>
    intro k m a hk hm ha
    obtain ⟨m, rfl⟩ : ∃ q, m = q + 1 := ⟨m - 1, by omega⟩
    obtain ⟨p', t, nn, w, ⟨x1, x2, x3, x4⟩, ⟨y1, y2⟩, ⟨y3, y4⟩, ⟨y5, y6⟩, ⟨y7, y8⟩, y9, y10⟩ := hb k (by omega)
    rw [lq2_1, fX8_coatedPieces_L4, h1, if_neg (nI_ge (show k < B by omega) (by omega)), gd_t (inb_nI (show k < 20 by omega) (by omega)), bid_nI (show k < 2 ^ 31 by omega), y1, y5, y7]
    simp only [jn0, gd_t (inb_nI (show k < 20 by omega) (by omega)), bv, nI_1]
    by_cases q1 : nI p' = nI p
    · by_cases q2 : nI w = 2
      · simp only [if_pos q1, if_pos q2, bn1_s, nI_add]
        exact ih (k + 1) m (a + nn) (by omega) (by omega) (by omega)
      · simp only [if_pos q1, if_neg q2, bn1_s, Int32.add_zero]
        exact ih (k + 1) m a (by omega) (by omega) (by omega)
    · simp only [if_neg q1, bn1_s, Int32.add_zero]
      exact ih (k + 1) m a (by omega) (by omega) (by omega)
theorem kits_le {P T B F : Nat} {S M : St} {x : Int32} (hN : RelN P T B F S M) : ∃ c, c ≤ 1000 ∧ fX8_kitsOf S x = some (nI c) := by
  obtain ⟨h1, h2, h3, h4, h5, h6, h7, h8⟩ := id hN
  obtain ⟨⟨a1, a2, a3, a4⟩, ⟨b1, b2, b3, b4⟩, c1, c2, c3, c4⟩ := h1
  have key : ∀ (n k m a : Nat), k + n = P → n < m → a ≤ 1000 → ∃ c, c ≤ 1000 ∧ lq2 (fX8_kitsOf_L6 S x) m (nI a) (nI k) = some (nI c) := by
    intro n
    induction n with
    | zero =>
      intro k m a hk hm ha
      obtain ⟨m, rfl⟩ : ∃ q, m = q + 1 := ⟨m - 1, by omega⟩
      refine ⟨a, ha, ?_⟩
      rw [lq2_1, fX8_kitsOf_L6, b1, if_pos (nI_le (by omega) (by omega))]
    | succ n ih =>
      intro k m a hk hm ha
      obtain ⟨m, rfl⟩ : ∃ q, m = q + 1 := ⟨m - 1, by omega⟩
      obtain ⟨r, r0, r1⟩ := coat_le (p := k) (S := S) (M := M) a1 a3 b3 h6 B 0 200 0 (by omega) (by omega) (by omega)
      rw [nI_0] at r1
      have r1' : fX8_coatedPieces S (nI k) = some (nI r) := by
        unfold fX8_coatedPieces
        rw [r1]; rfl
      rw [lq2_1, fX8_kitsOf_L6, b1, if_neg (nI_ge (show k < P by omega) (by omega))]
      rcases bit_X (x := x) (v := nI k) with ⟨z1, z2⟩ | ⟨z1, z2⟩
      · rw [z2]
        simp only [bn1_s, if_neg (show ¬ (1 : Int32) = 0 by decide), r1', bv, nI_1]
        by_cases q : nI r < nI a
        · rw [if_pos q]
          exact ih (k + 1) m r (by omega) (by omega) r0
        · rw [if_neg q]
          exact ih (k + 1) m a (by omega) (by omega) ha
      · rw [z2]
        simp only [bn1_s, if_true, bv, nI_1]
        exact ih (k + 1) m a (by omega) (by omega) ha
  obtain ⟨r, r0, r1⟩ := key P 0 200 1000 (by omega) (by omega) (by omega)
  rw [nI_0] at r1
  refine ⟨r, r0, ?_⟩
  unfold fX8_kitsOf
  rw [show (1000 : Int32) = nI 1000 from rfl, r1]; rfl
theorem gI_pos {n : Nat} (h : n < 2 ^ 31) : ¬ gI (nI n) < 0 := fun z => by
  rw [Int64.lt_iff_toInt_lt, gI, nI_l h, lN_toInt h, show (0 : Int64).toInt = 0 from by decide +kernel] at z
  omega
theorem XX_neg : XX < 0 := by decide +kernel
/-- the fewest turns are at most the bends that are left -/
theorem spw_n {n : Nat} {can : Nat → Nat → Bool} {dn : Nat → Nat} {w : Nat → Nat → Nat} (hn : n < 6) (hc : ∀ d i, can d i = true → bt d i = false) (hw : SPW n can dn w) : ∀ m d a, d < 2 ^ n → 2 ^ n - d ≤ m → w d a = 99 ∨ w d a + cn n d ≤ n := by
  intro m
  induction m with
  | zero => intro d a h1 h2; omega
  | succ m ih =>
    intro d a h1 h2
    rw [hw d h1 a]
    by_cases q : d = 2 ^ n - 1
    · rw [if_pos q]
      right
      have := (cf_1 hn h1).mpr q
      omega
    · rw [if_neg q]
      rcases mnf_ex (c := cst w can dn d a) n with h | ⟨i, hi, h⟩
      · exact Or.inl h
      · rw [h]
        unfold cst
        cases hh : can d i
        · exact Or.inl rfl
        · rw [if_pos rfl]
          obtain ⟨z1, z2⟩ := bf_4 hn h1 hi
          have z3 := z2 (hc d i hh)
          have z4 := cf_2 hn h1 hi (hc d i hh)
          have ht : tc dn a i ≤ 1 := by unfold tc; split <;> omega
          rcases ih (ob d i) (dn i) z1 (by omega) with y | y
          · left; omega
          · right; omega
