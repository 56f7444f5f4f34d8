/-! ===== a part gets a drawing ===== -/
theorem copy_X {k0 k1 : Nat} (h0 : k1 + 2 < k0) : ∀ (n k m : Nat) (S : St), k + n = 6 → n < m → ∃ S', lq2 (fX2_copy_L10 k0 k1) m (nI k) S = some S' ∧ (∀ k' j, (k' ≠ k0 + 1 ∧ k' ≠ k0 + 2) ∨ j < k → gi S' k' j = gi S k' j) ∧ ∀ i, k ≤ i → i < 6 → gi S' (k0 + 1) i = gi S (k1 + 1) i ∧ gi S' (k0 + 2) i = gi S (k1 + 2) i := by
  intro n
  induction n with
  | zero =>
    intro k m S hk hm
    obtain ⟨m, rfl⟩ : ∃ q, m = q + 1 := ⟨m - 1, by omega⟩
    refine ⟨S, ?_, fun _ _ _ => rfl, fun j h1 h2 => by omega⟩
    rw [lq2_1, fX2_copy_L10, if_pos (show (6 : Int32) ≤ nI k from nI_le (a := 6) (by omega) (by omega))]
  | succ n ih =>
    intro k m S hk hm
    obtain ⟨m, rfl⟩ : ∃ q, m = q + 1 := ⟨m - 1, by omega⟩
    obtain ⟨S', e1, e2, e3⟩ := ih (k + 1) m (si (si S (k0 + 1) k (gi S (k1 + 1) k)) (k0 + 2) k (gi S (k1 + 2) k)) (by omega) (by omega)
    refine ⟨S', ?_, fun k' j h => ?_, fun j h1 h2 => ?_⟩
    · rw [lq2_1, fX2_copy_L10, if_neg (show ¬ (6 : Int32) ≤ nI k from nI_ge (b := 6) (by omega) (by omega))]
      simp only [gd_t (inb_nI (show k < 6 by omega) (by omega)), nI_clamp (show k < 2 ^ 31 by omega), bv, nI_1, gi_ne (show k1 + 2 ≠ k0 + 1 by omega)]
      exact e1
    · rw [e2 k' j (by omega)]
      rcases h with h | h
      · rw [gi_ne h.2, gi_ne h.1]
      · rw [gi_nj (by omega), gi_nj (by omega)]
    · by_cases q : j = k
      · subst q
        rw [e2 _ _ (by omega), e2 _ _ (by omega), gi_eq, gi_ne (by omega), gi_eq]
        exact ⟨rfl, rfl⟩
      · obtain ⟨z1, z2⟩ := e3 j (by omega) h2
        rw [z1, z2, gi_ne (by omega), gi_ne (by omega), gi_ne (by omega), gi_ne (by omega)]
        exact ⟨rfl, rfl⟩
theorem draw_M {p F : Nat} (hp : p < 8) (hF : F ≤ 6) : ∀ (n k m : Nat) (S : St), k + n = F → n < m → gi S 0 1 = nI F → ∃ S', lq2 (fX9_draw_L13 (nI p)) m (nI k) S = some S' ∧ (∀ k' j, (k' ≠ 4 ∧ k' ≠ 5) ∨ j < 6 * p + k ∨ 6 * p + 6 ≤ j → gi S' k' j = gi S k' j) ∧ ∀ i, k ≤ i → i < F → gi S' 4 (6 * p + i) = gi S 1 i ∧ gi S' 5 (6 * p + i) = gi S 2 i := by
  intro n
  induction n with
  | zero =>
    intro k m S hk hm hS
    obtain ⟨m, rfl⟩ : ∃ q, m = q + 1 := ⟨m - 1, by omega⟩
    refine ⟨S, ?_, fun _ _ _ => rfl, fun j h1 h2 => by omega⟩
    rw [lq2_1, fX9_draw_L13, hS, if_pos (nI_le (by omega) (by omega))]
  | succ n ih =>
    intro k m S hk hm hS
    obtain ⟨m, rfl⟩ : ∃ q, m = q + 1 := ⟨m - 1, by omega⟩
    obtain ⟨S', e1, e2, e3⟩ := ih (k + 1) m (si (si S 4 (6 * p + k) (gi S 1 k)) 5 (6 * p + k) (gi S 2 k)) (by omega) (by omega) (by rw [gi_ne (by decide), gi_ne (by decide)]; exact hS)
    refine ⟨S', ?_, fun k' j h => ?_, fun j h1 h2 => ?_⟩
    · rw [lq2_1, fX9_draw_L13, hS, if_neg (nI_ge (by omega) (by omega))]
      simp only [ix6, gd_t (inb_nI (show k < 6 by omega) (by omega)), gd_t (inb_nI (show 6 * p + k < 48 by omega) (by omega)), nI_clamp (show k < 2 ^ 31 by omega), nI_clamp (show 6 * p + k < 2 ^ 31 by omega), bv, nI_1, gi_ne (show (2 : Nat) ≠ 4 by omega)]
      exact e1
    · rw [e2 k' j (by omega)]
      rcases h with h | h
      · rw [gi_ne h.2, gi_ne h.1]
      · rw [gi_nj (by omega), gi_nj (by omega)]
    · by_cases q : j = k
      · subst q
        rw [e2 _ _ (by omega), e2 _ _ (by omega), gi_eq, gi_ne (by omega), gi_eq]
        exact ⟨rfl, rfl⟩
      · obtain ⟨z1, z2⟩ := e3 j (by omega) h2
        rw [z1, z2, gi_ne (by omega), gi_ne (by omega), gi_ne (by omega), gi_ne (by omega)]
        exact ⟨rfl, rfl⟩
theorem draw_eq {p F : Nat} {S M : St} {w th : Int32} (hp : p < 8) (h1 : 1 ≤ F) (hF : F ≤ 6) (hS : gi S 1 2 = nI F) (hM : gi M 0 1 = nI F) (hP : RFa F S M 2 3 1 2 0) : ∃ S' M', fX4_draw S (29 + 7 * p) 1 w th = some S' ∧ fX9_draw M (nI p) w th = some M' ∧
    (∀ k j, (k < 29 + 7 * p ∨ 32 + 7 * p < k ∨ (k = 29 + 7 * p ∧ j = 3)) → gi S' k j = gi S k j) ∧
    (∀ k j, ¬ (k = 0 ∧ j = 1) → ¬ ((k = 3 ∨ k = 6 ∨ k = 7 ∨ k = 9) ∧ j = p) → ¬ ((k = 4 ∨ k = 5) ∧ 6 * p ≤ j ∧ j < 6 * p + 6) → gi M' k j = gi M k j) ∧ gi M' 0 1 = 0 ∧
    (gi S' (30 + 7 * p) 2 = nI F ∧ gi M' 3 p = nI F) ∧ RFa F S' M' (31 + 7 * p) (32 + 7 * p) 4 5 (6 * p) ∧ (gi S' (29 + 7 * p) 1 = w ∧ gi M' 6 p = w) ∧ (gi S' (29 + 7 * p) 2 = th ∧ gi M' 7 p = th) ∧ gi S' (29 + 7 * p) 7 = 0 ∧ gi M' 9 p = 0 := by
  obtain ⟨Sa, x1, x2, x3⟩ := copy_X (k0 := 29 + 7 * p + 1) (k1 := 1) (by omega) 6 0 200 (si S (29 + 7 * p + 1) 2 (nI F)) (by omega) (by omega)
  obtain ⟨Ma, y1, y2, y3⟩ := draw_M (F := F) hp hF F 0 200 (si M 3 p (nI F)) (by omega) (by omega) (by rw [gi_ne (by decide)]; exact hM)
  rw [nI_0] at x1 y1
  refine ⟨si (si (si Sa (29 + 7 * p) 1 w) (29 + 7 * p) 2 th) (29 + 7 * p) 7 0, si (si (si (si Ma 6 p w) 7 p th) 9 p 0) 0 1 0, ?_, ?_, fun k j h => ?_, fun k j z1 z2 z3 => ?_, gi_eq, ⟨?_, ?_⟩, ⟨fun i hi => ?_, fun i hi => ?_⟩, ⟨?_, ?_⟩, ⟨?_, ?_⟩, ?_, ?_⟩
  · unfold fX4_draw fX2_copy
    rw [hS]
    simp only [bv]
    rw [x1]
    rfl
  · unfold fX9_draw
    rw [hM]
    simp only [gd_t (inb_nI hp (by omega)), nI_clamp (show p < 2 ^ 31 by omega), bv]
    rw [y1]
    rfl
  · rw [gi_if, if_neg (by omega), gi_if, if_neg (by omega), gi_if, if_neg (by omega), x2 k j (by omega), gi_ne (by omega)]
  · rw [gi_if, if_neg z1, gi_if, if_neg (by omega), gi_if, if_neg (by omega), gi_if, if_neg (by omega), y2 k j (by omega), gi_if, if_neg (by omega)]
  · rw [gi_ne (by omega), gi_ne (by omega), gi_ne (by omega), x2 _ _ (by omega), show 30 + 7 * p = 29 + 7 * p + 1 by omega, gi_eq]
  · rw [gi_ne (by omega), gi_ne (by omega), gi_ne (by omega), gi_ne (by omega), y2 _ _ (by omega), gi_eq]
  · have a := (x3 i (by omega) (by omega)).1
    have b := (y3 i (by omega) hi).1
    have c := hP.1 i hi
    rw [Nat.zero_add] at c
    rw [gi_ne (by decide)] at b
    rw [gi_ne (by omega)] at a
    rw [gi_ne (by omega), gi_ne (by omega), gi_ne (by omega), gi_ne (by omega), gi_ne (by omega), gi_ne (by omega), gi_ne (by omega), b, show 31 + 7 * p = 29 + 7 * p + 1 + 1 by omega, a]
    exact c
  · have a := (x3 (i + 1) (by omega) (by omega)).2
    have b := (y3 i (by omega) (by omega)).2
    have c := hP.2 i hi
    rw [Nat.zero_add] at c
    rw [gi_ne (by decide)] at b
    rw [gi_ne (by omega)] at a
    rw [gi_ne (by omega), gi_ne (by omega), gi_ne (by omega), gi_ne (by omega), gi_ne (by omega), gi_ne (by omega), gi_ne (by omega), b, show 32 + 7 * p = 29 + 7 * p + 1 + 2 by omega, a]
    exact c
  · rw [gi_nj (by decide), gi_nj (by decide), gi_eq]
  · rw [gi_ne (by decide), gi_ne (by decide), gi_ne (by decide), gi_eq]
  · rw [gi_nj (by decide), gi_eq]
  · rw [gi_ne (by decide), gi_ne (by decide), gi_eq]
  · rw [gi_eq]
  · rw [gi_ne (by decide), gi_eq]
theorem sheet_in {w t : Int32} (h1 : (10 : Int32) ≤ w ∧ w ≤ 300) (h2 : (1 : Int32) ≤ t ∧ t ≤ 4) : fX8_checkSheet w t = some (.inr ()) ∧ fX9_isSheet w t = some 1 := by
  unfold fX8_checkSheet fX9_isSheet
  rw [isOut_in h1, isOut_in h2, in_in h1, in_in h2]
  exact ⟨rfl, rfl⟩
theorem sheet_out {w t : Int32} (h : ¬ (((10 : Int32) ≤ w ∧ w ≤ 300) ∧ ((1 : Int32) ≤ t ∧ t ≤ 4))) : fX8_checkSheet w t = some (.inl "java/lang/IllegalArgumentException") ∧ fX9_isSheet w t = some 0 := by
  unfold fX8_checkSheet fX9_isSheet
  by_cases h1 : (10 : Int32) ≤ w ∧ w ≤ 300
  · have h2 : ¬ ((1 : Int32) ≤ t ∧ t ≤ 4) := fun q => h ⟨h1, q⟩
    rw [isOut_in h1, isOut_out h2, in_in h1, in_out h2]
    exact ⟨rfl, rfl⟩
  · rw [isOut_out h1, in_out h1]
    exact ⟨rfl, rfl⟩
theorem nI_eq0 {n : Nat} (h : n < 2 ^ 31) : nI n = 0 ↔ n = 0 := by
  rw [← nI_0]
  exact nI_eq h (by decide)
theorem pad_cs {F : Nat} {S : St} (h : gi S 1 2 = nI F) (hF : F ≤ 6) : fX8_checkPad S = if F = 0 then some (.inl "java/lang/IllegalStateException") else some (.inr ()) := by
  unfold fX8_checkPad
  rw [h]
  by_cases q : F = 0
  · rw [if_pos q, if_pos ((nI_eq0 (by omega)).mpr q)]
  · rw [if_neg q, if_neg (fun z => q ((nI_eq0 (by omega)).mp z))]
theorem ag_part : Ag_part Rel := by
  intro S M hR p1 p2
  have hR' := hR
  obtain ⟨P, T, B, F, hN⟩ := hR
  obtain ⟨h1, h2, h3, h4, h5, h6, h7, h8⟩ := id hN
  obtain ⟨⟨a1, a2, a3, a4⟩, ⟨b1, b2, b3, b4⟩, c1, c2, c3, c4⟩ := h1
  by_cases g1 : ((10 : Int32) ≤ p1 ∧ p1 ≤ 300) ∧ ((1 : Int32) ≤ p2 ∧ p2 ≤ 4)
  rotate_left
  · obtain ⟨e1, e2⟩ := sheet_out g1
    refine Or.inr (Or.inl ⟨0, S, si M 0 0 1, ?_, ?_, rfl, hR'.thr, scrM_t⟩)
    · unfold fX8_part
      rw [e1]; rfl
    · unfold fX9_part jn0
      rw [e2]; rfl
  obtain ⟨e1, e2⟩ := sheet_in g1.1 g1.2
  by_cases g2 : F = 0
  · refine Or.inr (Or.inr ⟨0, S, si M 0 0 2, ?_, ?_, rfl, hR'.thr, scrM_t⟩)
    · unfold fX8_part
      rw [e1, pad_cs b4 a4, if_pos g2]; rfl
    · unfold fX9_part jn0
      rw [e2, c4]
      simp only [bn1_s, if_neg (show ¬ (1 : Int32) = 0 by decide), if_pos ((nI_eq0 (show F < 2 ^ 31 by omega)).mpr g2)]
      rfl
  have g2' : ¬ nI F = 0 := fun z => g2 ((nI_eq0 (by omega)).mp z)
  by_cases g3 : P < 8
  rotate_left
  · obtain rfl : P = 8 := by omega
    refine Or.inr (Or.inr ⟨0, S, si M 0 0 2, ?_, ?_, rfl, hR'.thr, scrM_t⟩)
    · unfold fX8_part
      rw [e1, pad_cs b4 a4, if_neg g2]
      simp only [bx, b1]
      rfl
    · unfold fX9_part jn0
      rw [e2, c4]
      simp only [bn1_s, if_neg (show ¬ (1 : Int32) = 0 by decide), if_neg g2', c1]
      rfl
  left
  obtain ⟨th, t1, t2, rfl⟩ := btw_nat (a := 1) (b := 4) g1.2 (by omega) (by omega)
  obtain ⟨S', M', x1, x2, x3, x4, x5, ⟨x6, x7⟩, x8, ⟨x9, x10⟩, ⟨x11, x12⟩, x13, x14⟩ := draw_eq (p := P) (S := S) (M := si M 0 0 0) (w := p1) (th := nI th) g3 (by omega) a4 b4 (by rw [gi_nj (by decide)]; exact c4) (h2.keep (fun j => rfl) (fun j => rfl) (fun j _ => gi_ne (by decide)) (fun j _ => gi_ne (by decide)))
  have hrv := h8 P g3
  have s02 : gi S' 0 2 = nI P := by rw [x3 _ _ (by omega)]; exact b1
  have m04 : gi M' 0 4 = nI P := by rw [x4 _ _ (by omega) (by omega) (by omega), gi_nj (by decide)]; exact c1
  have hx : ∀ k j, (k < 29 + 7 * P ∨ 32 + 7 * P < k ∨ (k = 29 + 7 * P ∧ j = 3)) → (k = 0 → j ≠ 2) → k ≠ 1 → gi (si (si S' 1 2 0) 0 2 (nI (P + 1))) k j = gi S k j := fun k j z1 z2 z3 => by
    rw [gi_if, if_neg (by omega), gi_ne z3, x3 k j z1]
  have hm : ∀ k j, ¬ (k = 0 ∧ (j = 1 ∨ j = 4 ∨ j = 0)) → ¬ ((k = 3 ∨ k = 6 ∨ k = 7 ∨ k = 9) ∧ j = P) → ¬ ((k = 4 ∨ k = 5) ∧ 6 * P ≤ j ∧ j < 6 * P + 6) → gi (si M' 0 4 (nI (P + 1))) k j = gi M k j := fun k j z1 z2 z3 => by
    rw [gi_if, if_neg (by omega), x4 k j (by omega) z2 z3, gi_if, if_neg (by omega)]
  refine ⟨nI P, si (si S' 1 2 0) 0 2 (nI (P + 1)), si M' 0 4 (nI (P + 1)), ?_, ?_, ?_, P + 1, T, B, 0, ?_⟩
  · unfold fX8_part
    rw [e1, pad_cs b4 a4, if_neg g2]
    simp only [bx, b1, if_pos (show nI P < 8 from nI_lt (b := 8) g3 (by decide)), gd_t (inb_nI g3 (by omega)), pid_nI (show P < 2 ^ 31 by omega), x1, bn1_s, bv, gi_ne (show (0 : Nat) ≠ 1 by decide), s02, nI_1, gi_eq, nI_sub1 (show 0 < P + 1 by omega), Nat.add_sub_cancel]
  · unfold fX9_part jn0
    rw [e2, c4]
    simp only [bn1_s, if_neg (show ¬ (1 : Int32) = 0 by decide), if_neg g2', c1, if_neg (show ¬ nI P = 8 from nI_neq (a := P) (b := 8) (by omega) (by omega) (by decide)), well_0, bn2_s, gi_nj (show (4 : Nat) ≠ 0 by decide), x2, bv, m04, nI_1, gi_eq, nI_sub1 (show 0 < P + 1 by omega), Nat.add_sub_cancel]
  · unfold fX9_thrown
    rw [gi_nj (by decide), x4 _ _ (by omega) (by omega) (by omega), gi_eq]
  · refine ⟨⟨⟨by omega, a2, a3, by omega⟩, ⟨gi_eq, ?_, ?_, ?_⟩, gi_eq, ?_, ?_, ?_⟩, ⟨fun i h => absurd h (Nat.not_lt_zero i), fun i h => absurd h (Nat.not_lt_zero _)⟩, fun p hp => ?_, fun t ht => (h4 t ht).keep (fun k j a b => hx _ _ (by omega) (by omega) (by omega)) (fun k a b => hm _ _ (by omega) (by omega) (by omega)) (fun j b => hm _ _ (by omega) (by omega) (by omega)),
      fun t' h9 ht' => (h5 t' h9 ht').keep (fun j => hx _ _ (by omega) (by omega) (by omega)), fun b hb => (h6 b hb).keep (by omega) (Nat.le_refl T) (fun j => hx _ _ (by omega) (by omega) (by omega)) (fun k a b => hm _ _ (by omega) (by omega) (by omega)), (h7.keep (fun j => hx _ _ (by omega) (by omega) (by omega)) (fun j => hm _ _ (by omega) (by omega) (by omega)) (hx _ _ (by omega) (by omega) (by omega))).next, h8.keep (fun p hp => ?_) (fun p hp => hm _ _ (by omega) (by omega) (by omega))⟩
    · rw [hx _ _ (by omega) (by omega) (by omega)]; exact b2
    · rw [hx _ _ (by omega) (by omega) (by omega)]; exact b3
    · rw [gi_ne (by decide), gi_eq]; rfl
    · rw [hm _ _ (by omega) (by omega) (by omega)]; exact c2
    · rw [hm _ _ (by omega) (by omega) (by omega)]; exact c3
    · rw [gi_nj (by decide), x5]; rfl
    · by_cases q : p = P
      · subst q
        refine ⟨F, th, 0, ⟨by omega, a4, t1, t2, by omega⟩, ⟨?_, ?_⟩, x8.keep (fun j => ?_) (fun j => ?_) (fun j _ => ?_) (fun j _ => ?_), ⟨?_, ?_⟩, ⟨?_, ?_⟩, ?_, ⟨?_, ?_⟩, fun j hj => absurd hj (Nat.not_lt_zero j)⟩
        · rw [gi_ne (by omega), gi_ne (by omega)]; exact x6
        · rw [gi_ne (by omega)]; exact x7
        · rw [gi_ne (by omega), gi_ne (by omega)]
        · rw [gi_ne (by omega), gi_ne (by omega)]
        · rw [gi_ne (by omega)]
        · rw [gi_ne (by omega)]
        · rw [gi_ne (by omega), gi_ne (by omega), gi_ne (by omega), x9, x10]
        · rw [gi_ne (by omega), x10]; exact g1.1
        · rw [gi_ne (by omega), gi_ne (by omega)]; exact x11
        · rw [gi_ne (by omega)]; exact x12
        · rw [hx _ _ (by omega) (by omega) (by omega), hm _ _ (by omega) (by omega) (by omega)]; exact hrv
        · rw [gi_ne (by omega), gi_ne (by omega), x13]; rfl
        · rw [gi_ne (by omega), x14]; rfl
      · exact (h3 p (by omega)).keep (fun k j a b => hx _ _ (by omega) (by omega) (by omega)) (fun k a b _ _ => hm _ _ (by omega) (by omega) (by omega)) (fun k j a b => hm _ _ (by omega) (by omega) (by omega))
    · by_cases q : p = P
      · subst q
        exact hx _ _ (by omega) (by omega) (by omega)
      · exact hx _ _ (by omega) (by omega) (by omega)
