/-! ===== calls that ask ===== -/
theorem nI_mul (a b : Nat) : nI a * nI b = nI (a * b) := (Int32.ofNat_mul a b).symm
theorem pid_nI {p : Nat} (h : p < 2 ^ 31) : pid (nI p) = 29 + 7 * p := by unfold pid; rw [nI_clamp h]
theorem tid_nI {p : Nat} (h : p < 2 ^ 31) : tid (nI p) = 85 + 2 * p := by unfold tid; rw [nI_clamp h]
theorem bid_nI {p : Nat} (h : p < 2 ^ 31) : bid (nI p) = 93 + p := by unfold bid; rw [nI_clamp h]
theorem ix6 (p i : Nat) : (6 : Int32) * nI p + nI i = nI (6 * p + i) := by rw [show (6 : Int32) = nI 6 from rfl, nI_mul, nI_add]
theorem ix5 (p i : Nat) : (5 : Int32) * nI p + nI i = nI (5 * p + i) := by rw [show (5 : Int32) = nI 5 from rfl, nI_mul, nI_add]
theorem btw_nat {a b : Nat} {x : Int32} (h : btw (nI a) (nI b) x) (hb : b < 2 ^ 31) : a ≤ b → ∃ w, a ≤ w ∧ w ≤ b ∧ x = nI w := by
  intro hab
  obtain ⟨h1, h2⟩ := h
  rw [Int32.le_iff_toInt_le, nI_toInt (by omega)] at h1
  rw [Int32.le_iff_toInt_le, nI_toInt hb] at h2
  obtain ⟨j, hj, rfl⟩ := nI_of (x := x) (fun q => by
    rw [Int32.lt_iff_toInt_lt, show (0 : Int32).toInt = 0 from rfl] at q
    omega)
  rw [nI_toInt hj] at h1 h2
  exact ⟨j, by omega, by omega, rfl⟩
theorem btw_of {a b w : Nat} (h1 : a ≤ w) (h2 : w ≤ b) (hb : b < 2 ^ 31) : btw (nI a) (nI b) (nI w) := ⟨nI_le h1 (by omega), nI_le h2 hb⟩
abbrev IOB : String := "java/lang/IndexOutOfBoundsException"
theorem isb_0 : isb 0 = true := by decide
theorem isb_1 : isb 1 = true := by decide
theorem part_cs {P : Nat} {S M : St} (h1 : gi S 0 2 = nI P) (h2 : gi M 0 4 = nI P) (hP : P ≤ 8) (x : Int32) : (∃ p, p < P ∧ x = nI p ∧ fX8_partAt S x = some (.inr (29 + 7 * p)) ∧ fX9_isPart M x = some 1) ∨ (fX8_partAt S x = some (.inl "java/lang/IndexOutOfBoundsException") ∧ fX9_isPart M x = some 0) := by
  unfold fX8_partAt fX9_isPart
  rw [h1, h2]
  by_cases h : (0 : Int32) ≤ x ∧ x ≤ nI P - 1
  · left
    obtain ⟨p, hp, rfl⟩ := rng (by omega) h
    refine ⟨p, hp, rfl, ?_, ?_⟩
    · rw [isOut_in h]
      simp only [bn1_s, if_pos, inb_nI (show p < 8 by omega) (by omega), gd_t rfl, pid_nI (show p < 2 ^ 31 by omega)]
    · rw [in_in h]; rfl
  · right
    rw [isOut_out h, in_out h]
    exact ⟨rfl, rfl⟩
theorem tool_cs {P : Nat} {S M : St} (h1 : gi S 0 4 = nI P) (h2 : gi M 0 15 = nI P) (hP : P ≤ 4) (x : Int32) : (∃ p, p < P ∧ x = nI p ∧ fX8_toolAt S x = some (.inr (85 + 2 * p)) ∧ fX9_isTool M x = some 1) ∨ (fX8_toolAt S x = some (.inl "java/lang/IndexOutOfBoundsException") ∧ fX9_isTool M x = some 0) := by
  unfold fX8_toolAt fX9_isTool
  rw [h1, h2]
  by_cases h : (0 : Int32) ≤ x ∧ x ≤ nI P - 1
  · left
    obtain ⟨p, hp, rfl⟩ := rng (by omega) h
    refine ⟨p, hp, rfl, ?_, ?_⟩
    · rw [isOut_in h]
      simp only [bn1_s, if_pos, inb_nI (show p < 4 by omega) (by omega), gd_t rfl, tid_nI (show p < 2 ^ 31 by omega)]
    · rw [in_in h]; rfl
  · right
    rw [isOut_out h, in_out h]
    exact ⟨rfl, rfl⟩
theorem batch_cs {P : Nat} {S M : St} (h1 : gi S 0 8 = nI P) (h2 : gi M 0 23 = nI P) (hP : P ≤ 20) (x : Int32) : (∃ p, p < P ∧ x = nI p ∧ fX8_batchAt S x = some (.inr (93 + p)) ∧ fX9_isBatch M x = some 1) ∨ (fX8_batchAt S x = some (.inl "java/lang/IndexOutOfBoundsException") ∧ fX9_isBatch M x = some 0) := by
  unfold fX8_batchAt fX9_isBatch
  rw [h1, h2]
  by_cases h : (0 : Int32) ≤ x ∧ x ≤ nI P - 1
  · left
    obtain ⟨p, hp, rfl⟩ := rng (by omega) h
    refine ⟨p, hp, rfl, ?_, ?_⟩
    · rw [isOut_in h]
      simp only [bn1_s, if_pos, inb_nI (show p < 20 by omega) (by omega), gd_t rfl, bid_nI (show p < 2 ^ 31 by omega)]
    · rw [in_in h]; rfl
  · right
    rw [isOut_out h, in_out h]
    exact ⟨rfl, rfl⟩
/-- a part's flat length, on both sides -/
theorem flat_eq {p f k0 : Nat} {S M : St} (hp : p < 8) (hf : f ≤ 6) (hS : gi S (k0 + 1) 2 = nI f) (hM : gi M 3 p = nI f) (h : ∀ i, i < f → gi S (k0 + 1 + 1) i = gi M 4 (6 * p + i) ∧ btw 10 200 (gi M 4 (6 * p + i))) : ∀ (n k a m : Nat), k + n = f → n < m → ∃ r, 10 * n ≤ r ∧ r ≤ 200 * n ∧ lq2 (fX2_flatLength_L4 S (k0 + 1)) m (nI a) (nI k) = some (nI (a + r)) ∧ lq2 (fX9_blankBy_L5 (nI p) M) m (nI a) (nI k) = some (nI (a + r)) := by
  intro n
  induction n with
  | zero =>
    intro k a m hk hm
    obtain ⟨m, rfl⟩ : ∃ q, m = q + 1 := ⟨m - 1, by omega⟩
    refine ⟨0, by omega, by omega, ?_, ?_⟩
    · rw [lq2_1]
      rw [fX2_flatLength_L4, hS, if_pos (nI_le (by omega) (by omega))]
      rfl
    · rw [lq2_1]
      rw [fX9_blankBy_L5, gd_t (inb_nI hp (by omega)), nI_clamp (n := p) (by omega), hM, if_pos (nI_le (by omega) (by omega))]
      rfl
  | succ n ih =>
    intro k a m hk hm
    obtain ⟨m, rfl⟩ : ∃ q, m = q + 1 := ⟨m - 1, by omega⟩
    obtain ⟨e1, e2⟩ := h k (by omega)
    obtain ⟨w, w1, w2, w3⟩ := btw_nat (a := 10) (b := 200) e2 (by omega) (by omega)
    obtain ⟨r, r1, r2, r3, r4⟩ := ih (k + 1) (a + w) m (by omega) (by omega)
    refine ⟨w + r, by omega, by omega, ?_, ?_⟩
    · rw [lq2_1]
      rw [fX2_flatLength_L4, hS, if_neg (nI_ge (by omega) (by omega)), gd_t (inb_nI (by omega) (by omega)), nI_clamp (n := k) (by omega)]
      simp only [bv]
      rw [e1, w3, nI_add, nI_1, r3, Nat.add_assoc]
    · rw [lq2_1]
      rw [fX9_blankBy_L5, gd_t (inb_nI hp (by omega)), nI_clamp (n := p) (by omega), hM, if_neg (nI_ge (by omega) (by omega)), ix6, gd_t (inb_nI (by omega) (by omega)), nI_clamp (n := 6 * p + k) (by omega)]
      simp only [bv]
      rw [w3, nI_add, nI_1, r4, Nat.add_assoc]
theorem bends_eq {S : St} {k0 f : Nat} (hS : gi S k0 2 = nI f) (h1 : 1 ≤ f) (h2 : f ≤ 6) : fX2_bends S k0 = some (nI (f - 1)) := by
  unfold fX2_bends
  rw [hS, if_neg (nI_nle (by omega) (by omega)), nI_sub1 (by omega)]
theorem nI_subN {a b : Nat} (h : b ≤ a) : nI a - nI b = nI (a - b) := by
  have h1 : nI a = nI (a - b) + nI b := by rw [nI_add]; congr 1; omega
  rw [h1, Int32.add_sub_cancel]
/-- the length of a blank -/
theorem blank_eq {p t : Nat} {S M : St} (hp : p < 8) (ht : t < 4) (hP : RPt p S M) (hT : RTl t S M) : ∃ w, 10 ≤ w ∧ w ≤ 1200 ∧ fX4_blankBy S (29 + 7 * p) (85 + 2 * t) = some (nI w) ∧ fX9_blankBy M (nI p) (nI t) = some (nI w) := by
  obtain ⟨f, th, h, hb, ⟨a1, a2⟩, a3, ⟨a4, a5⟩, ⟨a6, a7⟩, a8, ⟨a9, a10⟩, a11⟩ := hP
  obtain ⟨r, r1, r2, r3, r4⟩ := flat_eq (k0 := 29 + 7 * p) (S := S) hp hb.2.1 (by rw [show 29 + 7 * p + 1 = 30 + 7 * p by omega]; exact a1) a2 (fun i hi => by rw [show 29 + 7 * p + 1 + 1 = 31 + 7 * p by omega]; exact a3.1 i hi) f 0 0 200 (by omega) (by omega)
  obtain ⟨e1, e2⟩ := hT.2.2 th hb.2.2.1 hb.2.2.2.1
  obtain ⟨d, d1, d2, d3⟩ := btw_nat (a := 0) (b := 9) e2 (by omega) (by omega)
  have hd : d * (f - 1) ≤ 9 * (f - 1) := Nat.mul_le_mul_right _ d2
  have hd2 : (f - 1) * d = d * (f - 1) := Nat.mul_comm _ _
  refine ⟨r - d * (f - 1), by omega, by omega, ?_, ?_⟩
  · unfold fX4_blankBy fX2_flatLength
    rw [show (0 : Int32) = nI 0 from rfl, r3, bends_eq (f := f) (by rw [show 29 + 7 * p + 1 = 30 + 7 * p by omega]; exact a1) hb.1 hb.2.1]
    simp only [bn1_s]
    rw [a6, gd_t (inb_nI (by omega) (by omega)), nI_clamp (n := th) (by omega), show 85 + 2 * t + 1 = 86 + 2 * t by omega, e1, d3, nI_mul, hd2, Nat.zero_add, nI_subN (by omega)]
  · unfold fX9_blankBy
    rw [show (0 : Int32) = nI 0 from rfl, r4]
    simp only [bn1_s]
    rw [gd_t (inb_nI hp (by omega)), nI_clamp (n := p) (by omega), a7, ix5, gd_t (inb_nI (by omega) (by omega)), gd_t (inb_nI hp (by omega)), nI_clamp (n := 5 * t + th) (by omega), d3, a2, nI_sub1 (by omega), nI_mul, Nat.zero_add, nI_subN (by omega)]
theorem ag_blank : Ag_blank Rel := by
  intro S M hR p1 p2
  have hR' := hR
  obtain ⟨P, T, B, F, hN⟩ := hR
  obtain ⟨⟨a1, a2, a3, a4⟩, ⟨b1, b2, b3, b4⟩, c1, c2, c3, c4⟩ := hN.1
  rcases part_cs b1 c1 a1 p1 with ⟨p, hp, rfl, e1, e2⟩ | ⟨e1, e2⟩
  · rcases tool_cs b2 c2 a2 p2 with ⟨t, ht, rfl, g1, g2⟩ | ⟨g1, g2⟩
    · left
      obtain ⟨k1, k2, k3, k4, -⟩ := RelN.thr (k := 0) hN
      obtain ⟨w, -, -, w1, w2⟩ := blank_eq (by omega) (by omega) (k3 p hp) (k4 t ht)
      refine ⟨nI w, S, si M 0 0 0, ?_, ?_, rfl, hR'.thr⟩
      · apply onS_of
        unfold fX8_blank
        rw [e1, g1]
        simp only [bx, w1, bn1_s]
      · unfold fX9_blank jn0
        rw [e2, g2]
        simp only [bn1_s, if_neg (show ¬ (1 : Int32) = 0 by decide), well_0, bn2_s, w2]
    · right
      refine ⟨0, S, si M 0 0 1, onS_of ?_, ?_, rfl, hR'.thr, scrM_t⟩
      · unfold fX8_blank
        rw [e1, g1]; rfl
      · unfold fX9_blank jn0
        rw [e2, g2]; rfl
  · right
    refine ⟨0, S, si M 0 0 1, onS_of ?_, ?_, rfl, hR'.thr, scrM_t⟩
    · unfold fX8_blank
      rw [e1]; rfl
    · unfold fX9_blank jn0
      rw [e2]; rfl
