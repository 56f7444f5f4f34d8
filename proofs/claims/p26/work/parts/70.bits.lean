/-! ===== bits ===== -/
theorem u_nat (x : Int32) : x.toInt = if 2 * x.toUInt32.toNat < 2 ^ 32 then (x.toUInt32.toNat : Int) else (x.toUInt32.toNat : Int) - 2 ^ 32 := by
  show x.toBitVec.toInt = _
  rw [BitVec.toInt_eq_toNat_cond]
  rfl
theorem u_lt (x : Int32) : x.toUInt32.toNat < 2 ^ 32 := x.toUInt32.toNat_lt
theorem u_zero {y : UInt32} : y.toInt32 = 0 ↔ y.toNat = 0 := by
  constructor
  · intro h
    have h2 : y.toInt32.toBitVec = (0 : Int32).toBitVec := by rw [h]
    have h3 : y.toBitVec = 0#32 := h2
    show y.toBitVec.toNat = 0
    rw [h3]; rfl
  · intro h
    have h3 : y = 0 := UInt32.toNat_inj.mp h
    rw [h3]; rfl
theorem ushr0 {x : Int32} {P : Nat} (hP : P ≤ 8) : ((x.toUInt32 >>> ((nI P).toUInt32 &&& Int32.toUInt32 31)).toInt32 = 0) ↔ (0 ≤ x ∧ x < (1 : Int32) <<< (nI P &&& 31)) := by
  rw [u_zero, Int32.le_iff_toInt_le, Int32.lt_iff_toInt_lt, UInt32.toNat_shiftRight, Nat.shiftRight_eq_div_pow]
  have e1 : ((nI P).toUInt32 &&& Int32.toUInt32 31).toNat % 32 = P := (by decide +kernel : ∀ P, P < 9 → ((nI P).toUInt32 &&& Int32.toUInt32 31).toNat % 32 = P) P (by omega)
  have e2 : ((1 : Int32) <<< (nI P &&& 31)).toInt = ((2 ^ P : Nat) : Int) := (by decide +kernel : ∀ P, P < 9 → ((1 : Int32) <<< (nI P &&& 31)).toInt = ((2 ^ P : Nat) : Int)) P (by omega)
  have e3 : 2 ^ P ≤ 256 := (by decide +kernel : ∀ P, P < 9 → 2 ^ P ≤ 256) P (by omega)
  rw [e1, e2, show (0 : Int32).toInt = 0 from rfl, u_nat x, Nat.div_eq_zero_iff]
  have h4 := u_lt x
  have h5 : 0 < 2 ^ P := Nat.two_pow_pos P
  constructor
  · rintro (h | h)
    · omega
    · rw [if_pos (by omega)]
      omega
  · intro h
    right
    by_cases q : 2 * x.toUInt32.toNat < 2 ^ 32
    · rw [if_pos q] at h
      omega
    · rw [if_neg q] at h
      omega
theorem and1 (x : Int32) : x &&& 1 = 0 ∨ x &&& 1 = 1 := by
  have h : (x &&& 1).toBitVec.toNat = x.toBitVec.toNat % 2 := by
    show (x.toBitVec &&& 1#32).toNat = _
    rw [BitVec.toNat_and]
    exact Nat.and_one_is_mod _
  rcases Nat.mod_two_eq_zero_or_one x.toBitVec.toNat with q | q
  · left
    apply Int32.toBitVec_inj.mp
    apply BitVec.eq_of_toNat_eq
    rw [h, q]; rfl
  · right
    apply Int32.toBitVec_inj.mp
    apply BitVec.eq_of_toNat_eq
    rw [h, q]; rfl
def bitAt (x v : Int32) : Prop := ¬ ((x >>> (v &&& 31)) &&& 1) = 0
theorem bit_X {x v : Int32} : (bitAt x v ∧ fX8_hasBit x v = some 1) ∨ (¬ bitAt x v ∧ fX8_hasBit x v = some 0) := by
  unfold fX8_hasBit bitAt
  by_cases h : ((x >>> (v &&& 31)) &&& 1) = 0
  · rw [if_pos h]
    exact Or.inr ⟨fun q => q h, rfl⟩
  · rw [if_neg h]
    exact Or.inl ⟨h, rfl⟩
theorem bit_1 {x v : Int32} : ((x >>> (v &&& 31)) &&& 1) = 1 ↔ bitAt x v := by
  unfold bitAt
  constructor
  · intro h
    rw [h]; decide
  · intro h
    exact (and1 _).resolve_left h
theorem kit_cs {P : Nat} {S M : St} {x : Int32} (hP : P ≤ 8) (h1 : gi S 0 2 = nI P) (h2 : gi M 0 4 = nI P) : (fX8_checkKit S x = some (.inr ()) ∧ fX9_isKit M x = some 1) ∨ (fX8_checkKit S x = some (.inl "java/lang/IllegalArgumentException") ∧ fX9_isKit M x = some 0) := by
  unfold fX8_checkKit fX9_isKit
  rw [h1, h2]
  have hu := ushr0 (x := x) hP
  by_cases q1 : x = 0
  · subst q1
    right
    exact ⟨rfl, rfl⟩
  · rw [if_neg q1]
    by_cases q2 : (x.toUInt32 >>> ((nI P).toUInt32 &&& Int32.toUInt32 31)).toInt32 = 0
    · left
      obtain ⟨h3, h4⟩ := hu.mp q2
      rw [if_pos q2]
      have q3 : ¬ x ≤ 0 := fun z => q1 (Int32.le_antisymm z h3)
      rw [if_neg q3, if_neg (i_nle.mpr h4)]
      exact ⟨rfl, rfl⟩
    · right
      rw [if_neg q2]
      refine ⟨rfl, ?_⟩
      by_cases q3 : x ≤ 0
      · rw [if_pos q3]
      · rw [if_neg q3]
        by_cases q4 : (1 : Int32) <<< (nI P &&& 31) ≤ x
        · rw [if_pos q4]
        · exact absurd (hu.mpr ⟨Int32.le_of_lt (i_nle.mp q3), i_nle.mp q4⟩) q2
/-! ===== kits ===== -/
theorem coat_eq {P T B p : Nat} {S M : St} (hp : p < 8) (hP : P ≤ 8) (hB : B ≤ 20) (h1 : gi S 0 8 = nI B) (h2 : gi M 0 23 = nI B) (hb : ∀ b, b < B → RBa P T b S M) : ∀ (n k m : Nat) (a : Int32), k + n = B → n < m → ∃ r, lq2 (fX8_coatedPieces_L4 S (nI p)) m a (nI k) = some r ∧ lq2 (fX9_kitsOf_L20 M (nI p)) m a (nI k) = some r := by
  intro n
  induction n with
  | zero =>
    intro k m a hk hm
    obtain ⟨m, rfl⟩ : ∃ q, m = q + 1 := ⟨m - 1, by omega⟩
    refine ⟨a, ?_, ?_⟩
    · rw [lq2_1, fX8_coatedPieces_L4, h1, if_pos (nI_le (by omega) (by omega))]
    · rw [lq2_1, fX9_kitsOf_L20, h2, if_pos (nI_le (by omega) (by omega))]
  | succ n ih =>
    intro k m a hk hm
    obtain ⟨m, rfl⟩ : ∃ q, m = q + 1 := ⟨m - 1, by omega⟩
    obtain ⟨p', t, nn, w, ⟨x1, x2, x3, x4⟩, ⟨y1, y2⟩, ⟨y3, y4⟩, ⟨y5, y6⟩, ⟨y7, y8⟩, y9, y10⟩ := hb k (by omega)
    rw [lq2_1, lq2_1, fX8_coatedPieces_L4, fX9_kitsOf_L20, h1, h2, if_neg (nI_ge (show k < B by omega) (by omega)), if_neg (nI_ge (show k < B by omega) (by omega)), gd_t (inb_nI (show k < 20 by omega) (by omega)), gd_t (inb_nI (show k < 20 by omega) (by omega)), bid_nI (show k < 2 ^ 31 by omega), nI_clamp (show k < 2 ^ 31 by omega), y1, y2, y5, y6, y7, y8]
    simp only [jn0, gd_t (inb_nI (show k < 20 by omega) (by omega)), bv, nI_1]
    by_cases q1 : nI p' = nI p
    · by_cases q2 : nI w = 2
      · simp only [if_pos q1, if_pos q2, bn1_s]
        exact ih (k + 1) m _ (by omega) (by omega)
      · simp only [if_pos q1, if_neg q2, bn1_s, Int32.add_zero]
        exact ih (k + 1) m _ (by omega) (by omega)
    · simp only [if_neg q1, bn1_s, Int32.add_zero]
      exact ih (k + 1) m _ (by omega) (by omega)
theorem kitsOf_eq {P T B F : Nat} {S M : St} {x : Int32} (hN : RelN P T B F S M) : ∃ r, fX8_kitsOf S x = some r ∧ fX9_kitsOf M x = some r := by
  obtain ⟨h1, h2, h3, h4, h5, h6, h7, h8⟩ := id hN
  obtain ⟨⟨a1, a2, a3, a4⟩, ⟨b1, b2, b3, b4⟩, c1, c2, c3, c4⟩ := h1
  have key : ∀ (n k m : Nat) (a : Int32), k + n = P → n < m → ∃ r, lq2 (fX8_kitsOf_L6 S x) m a (nI k) = some r ∧ lq2 (fX9_kitsOf_L6 M x) m a (nI k) = some r := by
    intro n
    induction n with
    | zero =>
      intro k m a hk hm
      obtain ⟨m, rfl⟩ : ∃ q, m = q + 1 := ⟨m - 1, by omega⟩
      refine ⟨a, ?_, ?_⟩
      · rw [lq2_1, fX8_kitsOf_L6, b1, if_pos (nI_le (by omega) (by omega))]
      · rw [lq2_1, fX9_kitsOf_L6, c1, if_pos (nI_le (by omega) (by omega))]
    | succ n ih =>
      intro k m a hk hm
      obtain ⟨m, rfl⟩ : ∃ q, m = q + 1 := ⟨m - 1, by omega⟩
      obtain ⟨r, r1, r2⟩ := coat_eq (p := k) (S := S) (M := M) (by omega) a1 a3 b3 c3 h6 B 0 200 0 (by omega) (by omega)
      rw [nI_0] at r1 r2
      rw [lq2_1, lq2_1, fX8_kitsOf_L6, fX9_kitsOf_L6, b1, c1, if_neg (nI_ge (show k < P by omega) (by omega)), if_neg (nI_ge (show k < P by omega) (by omega)), r2]
      have r1' : fX8_coatedPieces S (nI k) = some r := by
        unfold fX8_coatedPieces
        rw [r1]; rfl
      simp only [jn0, bn1_s, r1', bv, nI_1]
      rcases bit_X (x := x) (v := nI k) with ⟨z1, z2⟩ | ⟨z1, z2⟩
      · rw [z2, if_pos (bit_1.mpr z1)]
        simp only [bn1_s, if_neg (show ¬ (1 : Int32) = 0 by decide)]
        by_cases q : a ≤ r
        · rw [if_pos q, if_neg (i_nlt.mpr q)]
          exact ih (k + 1) m _ (by omega) (by omega)
        · rw [if_neg q, if_pos (i_nle.mp q)]
          exact ih (k + 1) m _ (by omega) (by omega)
      · rw [z2, if_neg (fun z => z1 (bit_1.mp z))]
        simp only [bn1_s, if_true]
        exact ih (k + 1) m _ (by omega) (by omega)
  obtain ⟨r, r1, r2⟩ := key P 0 200 1000 (by omega) (by omega)
  rw [nI_0] at r1 r2
  refine ⟨r, ?_, ?_⟩
  · unfold fX8_kitsOf
    rw [r1]; rfl
  · unfold fX9_kitsOf
    rw [r2]; rfl
theorem ag_kits : Ag_kits Rel := by
  intro S M hR p1
  have hR' := hR
  obtain ⟨P, T, B, F, hN⟩ := hR
  rcases kit_cs (x := p1) hN.1.1.1 hN.1.2.1.1 hN.1.2.2.1 with ⟨e1, e2⟩ | ⟨e1, e2⟩
  · obtain ⟨r, r1, r2⟩ := kitsOf_eq (x := p1) (RelN.thr (k := 0) hN)
    left
    refine ⟨r, S, si M 0 0 0, onS_of ?_, ?_, rfl, hR'.thr⟩
    · unfold fX8_kits
      rw [e1]
      simp only [bx, r1, bn1_s]
    · unfold fX9_kits
      rw [e2]
      simp only [bn1_s, if_neg (show ¬ (1 : Int32) = 0 by decide), well_0, bn2_s, r2]
  · right
    refine ⟨0, S, si M 0 0 1, onS_of ?_, ?_, rfl, hR'.thr, scrM_t⟩
    · unfold fX8_kits
      rw [e1]; rfl
    · unfold fX9_kits
      rw [e2]; rfl
