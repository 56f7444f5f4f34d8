/-! ===== tools, batches, parts come ===== -/
theorem nI_lit2 (k : Nat) : (2 : Int32) * nI k = nI (2 * k) := by rw [show (2 : Int32) = nI 2 from rfl, nI_mul]
theorem tool_M {t : Nat} (ht : t < 4) : ∀ (n k m : Nat) (S : St), k + n = 5 → 1 ≤ k → n < m → gi S 0 15 = nI t → ∃ S', lq2 fX9_tool_L151 m (nI k) S = some S' ∧ (∀ k' j, k' ≠ 18 ∨ j < 5 * t + k ∨ 5 * t + 5 ≤ j → gi S' k' j = gi S k' j) ∧ ∀ i, k ≤ i → i < 5 → gi S' 18 (5 * t + i) = nI (2 * i) := by
  intro n
  induction n with
  | zero =>
    intro k m S hk h1 hm hS
    obtain ⟨m, rfl⟩ : ∃ q, m = q + 1 := ⟨m - 1, by omega⟩
    refine ⟨S, ?_, fun _ _ _ => rfl, fun j h1 h2 => by omega⟩
    rw [lq2_1, fX9_tool_L151, if_pos (show (5 : Int32) ≤ nI k from nI_le (a := 5) (by omega) (by omega))]
  | succ n ih =>
    intro k m S hk h1 hm hS
    obtain ⟨m, rfl⟩ : ∃ q, m = q + 1 := ⟨m - 1, by omega⟩
    obtain ⟨S', e1, e2, e3⟩ := ih (k + 1) m (si S 18 (5 * t + k) (nI (2 * k))) (by omega) (by omega) (by omega) (by rw [gi_ne (by decide)]; exact hS)
    refine ⟨S', ?_, fun k' j h => ?_, fun j h1 h2 => ?_⟩
    · rw [lq2_1, fX9_tool_L151, if_neg (show ¬ (5 : Int32) ≤ nI k from nI_ge (b := 5) (by omega) (by omega)), hS, ix5, gd_t (inb_nI (by omega) (by omega)), nI_clamp (n := 5 * t + k) (by omega)]
      simp only [bv, nI_1, nI_lit2]
      exact e1
    · rw [e2 k' j (by omega)]
      by_cases q : k' = 18
      · subst q
        exact gi_nj (by omega)
      · exact gi_ne q
    · by_cases q : j = k
      · subst q
        rw [e2 18 _ (by omega), gi_eq]
      · exact e3 j (by omega) h2
theorem ag_tool : Ag_tool Rel := by
  intro S M hR p1 p2 p3 p4 p5
  have hR' := hR
  obtain ⟨P, T, B, F, hN⟩ := hR
  obtain ⟨h1, h2, h3, h4, h5, h6, h7, h8⟩ := id hN
  obtain ⟨⟨a1, a2, a3, a4⟩, ⟨b1, b2, b3, b4⟩, c1, c2, c3, c4⟩ := h1
  have bad : ∀ (hX : fX8_tool S p1 p2 p3 p4 p5 = some (.inl "java/lang/IllegalArgumentException", S)) (hM : fX9_tool M p1 p2 p3 p4 p5 = some (0, si M 0 0 1)), AgX Rel M "java/lang/IllegalArgumentException" 1 (fX8_tool S p1 p2 p3 p4 p5) (fX9_tool M p1 p2 p3 p4 p5) := fun hX hM => ⟨0, S, si M 0 0 1, hX, hM, rfl, hR'.thr, scrM_t⟩
  by_cases g1 : (4 : Int32) ≤ p1 ∧ p1 ≤ 60
  rotate_left
  · refine Or.inr (Or.inl (bad ?_ ?_))
    · unfold fX8_tool
      rw [isOut_out g1]; rfl
    · unfold fX9_tool jn0
      rw [in_out g1]; rfl
  by_cases g2 : (0 : Int32) ≤ p2 ∧ p2 ≤ 30
  rotate_left
  · refine Or.inr (Or.inl (bad ?_ ?_))
    · unfold fX8_tool
      rw [isOut_in g1, isOut_out g2]; rfl
    · unfold fX9_tool jn0
      rw [in_in g1, in_out g2]; rfl
  by_cases g3 : (10 : Int32) ≤ p3 ∧ p3 ≤ 200
  rotate_left
  · refine Or.inr (Or.inl (bad ?_ ?_))
    · unfold fX8_tool
      rw [isOut_in g1, isOut_in g2, isOut_out g3]; rfl
    · unfold fX9_tool jn0
      rw [in_in g1, in_in g2, in_out g3]; rfl
  by_cases g4 : (10 : Int32) ≤ p4 ∧ p4 ≤ 200
  rotate_left
  · refine Or.inr (Or.inl (bad ?_ ?_))
    · unfold fX8_tool
      rw [isOut_in g1, isOut_in g2, isOut_in g3, isOut_out g4]; rfl
    · unfold fX9_tool jn0
      rw [in_in g1, in_in g2, in_in g3, in_out g4]; rfl
  by_cases g5 : (20 : Int32) ≤ p5 ∧ p5 ≤ 600
  rotate_left
  · refine Or.inr (Or.inl (bad ?_ ?_))
    · unfold fX8_tool
      rw [isOut_in g1, isOut_in g2, isOut_in g3, isOut_in g4, isOut_out g5]; rfl
    · unfold fX9_tool jn0
      rw [in_in g1, in_in g2, in_in g3, in_in g4, in_out g5]; rfl
  by_cases g6 : T < 4
  rotate_left
  · obtain rfl : T = 4 := by omega
    refine Or.inr (Or.inr ⟨0, S, si M 0 0 2, ?_, ?_, rfl, hR'.thr, scrM_t⟩)
    · unfold fX8_tool
      rw [isOut_in g1, isOut_in g2, isOut_in g3, isOut_in g4, isOut_in g5]
      simp only [bn1_s, b2]
      rfl
    · unfold fX9_tool jn0
      rw [in_in g1, in_in g2, in_in g3, in_in g4, in_in g5]
      simp only [bn1_s, c2]
      rfl
  left
  obtain ⟨M', y1, y2, y3⟩ := tool_M g6 4 1 200 (si (si (si (si (si (si M 0 0 0) 13 T p1) 14 T p2) 15 T p3) 16 T p4) 17 T p5) (by omega) (by omega) (by omega) (by rw [gi_ne (by decide), gi_ne (by decide), gi_ne (by decide), gi_ne (by decide), gi_ne (by decide), gi_nj (by decide)]; exact c2)
  have hy : ∀ k' j, k' ≠ 18 ∨ j < 5 * T + 1 ∨ 5 * T + 5 ≤ j → (k' < 13 ∨ 17 < k' ∨ j ≠ T) → (k' = 0 → j ≠ 0) → gi M' k' j = gi M k' j := fun k' j z1 z2 z3 => by
    rw [y2 k' j z1, gi_if, if_neg (by omega), gi_if, if_neg (by omega), gi_if, if_neg (by omega), gi_if, if_neg (by omega), gi_if, if_neg (by omega), gi_if, if_neg (by omega)]
  refine ⟨nI T, si (si (si (si (si (si S (85 + 2 * T) 0 p1) (85 + 2 * T) 1 p2) (85 + 2 * T) 2 p3) (85 + 2 * T) 3 p4) (85 + 2 * T) 4 p5) 0 4 (nI (T + 1)), si M' 0 15 (nI (T + 1)), ?_, ?_, ?_, P, T + 1, B, F, ?_⟩
  · unfold fX8_tool
    rw [isOut_in g1, isOut_in g2, isOut_in g3, isOut_in g4, isOut_in g5]
    simp only [bn1_s, b2, if_pos, if_pos (show nI T < 4 from nI_lt (b := 4) g6 (by decide)), gd_t (inb_nI g6 (by omega)), bv, tid_nI (show T < 2 ^ 31 by omega), gi_ne (show (0 : Nat) ≠ 85 + 2 * T by omega), nI_1, gi_eq, nI_sub1 (show 0 < T + 1 by omega), Nat.add_sub_cancel]
  · unfold fX9_tool jn0
    rw [in_in g1, in_in g2, in_in g3, in_in g4, in_in g5]
    simp only [bn1_s, c2, if_neg (show ¬ (1 : Int32) = 0 by decide), if_neg (show ¬ nI T = 4 from nI_neq (a := T) (b := 4) (by omega) (by omega) (by decide)), well_0, bn2_s, gi_nj (show (15 : Nat) ≠ 0 by decide), gi_ne (show (0 : Nat) ≠ 13 by decide), gi_ne (show (0 : Nat) ≠ 14 by decide), gi_ne (show (0 : Nat) ≠ 15 by decide), gi_ne (show (0 : Nat) ≠ 16 by decide), gd_t (inb_nI g6 (by omega)), bv, nI_clamp (show T < 2 ^ 31 by omega)]
    rw [show (1 : Int32) = nI 1 from rfl, y1]
    simp only [bn1_s, hy 0 15 (by omega) (by omega) (by omega), c2, nI_add, gi_eq]
    rw [show (nI 1) = (1 : Int32) from rfl, nI_sub1 (by omega), Nat.add_sub_cancel]
  · unfold fX9_thrown
    rw [gi_nj (by decide), y2 _ _ (by omega), gi_ne (by decide), gi_ne (by decide), gi_ne (by decide), gi_ne (by decide), gi_ne (by decide), gi_eq]
  · have hx : ∀ k j, k ≠ 85 + 2 * T → (k = 0 → j ≠ 4) → gi (si (si (si (si (si (si S (85 + 2 * T) 0 p1) (85 + 2 * T) 1 p2) (85 + 2 * T) 2 p3) (85 + 2 * T) 3 p4) (85 + 2 * T) 4 p5) 0 4 (nI (T + 1))) k j = gi S k j := fun k j z1 z2 => by
      rw [gi_if, if_neg (by omega), gi_ne z1, gi_ne z1, gi_ne z1, gi_ne z1, gi_ne z1]
    have hm : ∀ k j, k ≠ 18 ∨ j < 5 * T + 1 ∨ 5 * T + 5 ≤ j → (k < 13 ∨ 17 < k ∨ j ≠ T) → (k = 0 → j ≠ 0 ∧ j ≠ 15) → gi (si M' 0 15 (nI (T + 1))) k j = gi M k j := fun k j z1 z2 z3 => by
      rw [gi_if, if_neg (by omega), hy k j z1 z2 (by omega)]
    refine ⟨⟨⟨a1, by omega, a3, a4⟩, ⟨?_, gi_eq, ?_, ?_⟩, ?_, gi_eq, ?_, ?_⟩, h2.keep (fun j => hx _ _ (by omega) (by omega)) (fun j => hx _ _ (by omega) (by omega)) (fun j _ => hm _ _ (by omega) (by omega) (by omega)) (fun j _ => hm _ _ (by omega) (by omega) (by omega)), fun p hp => (h3 p hp).keep (fun k j a b => hx _ _ (by omega) (by omega)) (fun k a b _ _ => hm _ _ (by omega) (by omega) (by omega)) (fun k j a b => hm _ _ (by omega) (by omega) (by omega)), fun t ht => ?_,
      fun t' h9 ht' => (h5 t' (by omega) ht').keep (fun j => hx _ _ (by omega) (by omega)), fun b hb => (h6 b hb).keep (Nat.le_refl P) (by omega) (fun j => hx _ _ (by omega) (by omega)) (fun k a b => hm _ _ (by omega) (by omega) (by omega)), h7.keep (fun j => hx _ _ (by omega) (by omega)) (fun j => hm _ _ (by omega) (by omega) (by omega)) (hx _ _ (by omega) (by omega)), h8.keep (fun p hp => hx _ _ (by omega) (by omega)) (fun p hp => hm _ _ (by omega) (by omega) (by omega))⟩
    · rw [hx _ _ (by omega) (by omega)]; exact b1
    · rw [hx _ _ (by omega) (by omega)]; exact b3
    · rw [hx _ _ (by omega) (by omega)]; exact b4
    · rw [hm _ _ (by omega) (by omega) (by omega)]; exact c1
    · rw [hm _ _ (by omega) (by omega) (by omega)]; exact c3
    · rw [hm _ _ (by omega) (by omega) (by omega)]; exact c4
    · by_cases q : t = T
      · subst q
        have m13 : gi (si M' 0 15 (nI (t + 1))) 13 t = p1 := by rw [gi_ne (by decide), y2 _ _ (by omega), gi_ne (by decide), gi_ne (by decide), gi_ne (by decide), gi_ne (by decide), gi_eq]
        have m14 : gi (si M' 0 15 (nI (t + 1))) 14 t = p2 := by rw [gi_ne (by decide), y2 _ _ (by omega), gi_ne (by decide), gi_ne (by decide), gi_ne (by decide), gi_eq]
        have m15 : gi (si M' 0 15 (nI (t + 1))) 15 t = p3 := by rw [gi_ne (by decide), y2 _ _ (by omega), gi_ne (by decide), gi_ne (by decide), gi_eq]
        have m16 : gi (si M' 0 15 (nI (t + 1))) 16 t = p4 := by rw [gi_ne (by decide), y2 _ _ (by omega), gi_ne (by decide), gi_eq]
        have m17 : gi (si M' 0 15 (nI (t + 1))) 17 t = p5 := by rw [gi_ne (by decide), y2 _ _ (by omega), gi_eq]
        refine ⟨⟨?_, ?_, ?_, ?_, ?_⟩, ⟨?_, ?_, ?_, ?_, ?_⟩, fun i i1 i2 => ?_⟩
        · rw [m13, gi_ne (by omega), gi_nj (by decide), gi_nj (by decide), gi_nj (by decide), gi_nj (by decide), gi_eq]
        · rw [m14, gi_ne (by omega), gi_nj (by decide), gi_nj (by decide), gi_nj (by decide), gi_eq]
        · rw [m15, gi_ne (by omega), gi_nj (by decide), gi_nj (by decide), gi_eq]
        · rw [m16, gi_ne (by omega), gi_nj (by decide), gi_eq]
        · rw [m17, gi_ne (by omega), gi_eq]
        · rw [m13]; exact g1
        · rw [m14]; exact g2
        · rw [m15]; exact g3
        · rw [m16]; exact g4
        · rw [m17]; exact g5
        · rw [hx _ _ (by omega) (by omega), h5 t (Nat.le_refl t) g6 i i1 i2, gi_ne (by decide), y3 i i1 (by omega)]
          exact ⟨rfl, btw_of (a := 0) (b := 9) (by omega) (by omega) (by decide)⟩
      · exact (h4 t (by omega)).keep (fun k j a b => hx _ _ (by omega) (by omega)) (fun k a b => hm _ _ (by omega) (by omega) (by omega)) (fun j b => hm _ _ (by omega) (by omega) (by omega))
theorem ag_batch : Ag_batch Rel := by
  intro S M hR p1 p2 p3
  have hR' := hR
  obtain ⟨P, T, B, F, hN⟩ := hR
  obtain ⟨h1, h2, h3, h4, h5, h6, h7, h8⟩ := id hN
  obtain ⟨⟨a1, a2, a3, a4⟩, ⟨b1, b2, b3, b4⟩, c1, c2, c3, c4⟩ := h1
  rcases part_cs b1 c1 a1 p1 with ⟨p, hp, rfl, e1, e2⟩ | ⟨e1, e2⟩
  rotate_left
  · refine Or.inr (Or.inl ⟨0, S, si M 0 0 1, ?_, ?_, rfl, hR'.thr, scrM_t⟩)
    · unfold fX8_batch
      rw [e1]; rfl
    · unfold fX9_batch jn0
      rw [e2]; rfl
  rcases tool_cs b2 c2 a2 p2 with ⟨t, ht, rfl, f1, f2⟩ | ⟨f1, f2⟩
  rotate_left
  · refine Or.inr (Or.inl ⟨0, S, si M 0 0 1, ?_, ?_, rfl, hR'.thr, scrM_t⟩)
    · unfold fX8_batch
      rw [e1, f1]; rfl
    · unfold fX9_batch jn0
      rw [e2, f2]; rfl
  by_cases g1 : (1 : Int32) ≤ p3 ∧ p3 ≤ 50
  rotate_left
  · refine Or.inr (Or.inr (Or.inl ⟨0, S, si M 0 0 2, ?_, ?_, rfl, hR'.thr, scrM_t⟩))
    · unfold fX8_batch
      rw [e1, f1, isOut_out g1]; rfl
    · unfold fX9_batch jn0
      rw [e2, f2, in_out g1]; rfl
  by_cases g2 : B < 20
  rotate_left
  · obtain rfl : B = 20 := by omega
    refine Or.inr (Or.inr (Or.inr ⟨0, S, si M 0 0 3, ?_, ?_, rfl, hR'.thr, scrM_t⟩))
    · unfold fX8_batch
      rw [e1, f1, isOut_in g1]
      simp only [bx, bn1_s, b3]
      rfl
    · unfold fX9_batch jn0
      rw [e2, f2, in_in g1]
      simp only [bn1_s, c3]
      rfl
  obtain ⟨n, n1, n2, rfl⟩ := btw_nat (a := 1) (b := 50) g1 (by omega) (by omega)
  left
  have hrv := h8 p (by omega)
  obtain ⟨w, wlo, whi, w1, w2⟩ := blank_eq (p := p) (t := t) (S := si (si (si (si (si S (93 + B) 0 (nI p)) (93 + B) 1 (nI t)) (93 + B) 2 0) (93 + B) 3 (nI n)) (93 + B) 4 (gi S (29 + 7 * p) 3)) (M := si (si (si (si (si (si M 0 0 0) 20 B (nI p)) 21 B (nI t)) 22 B (nI n)) 23 B 0) 24 B (gi M 8 p)) (by omega) (by omega)
    ((h3 p hp).keep (fun k j a b => by rw [gi_ne (by omega), gi_ne (by omega), gi_ne (by omega), gi_ne (by omega), gi_ne (by omega)]) (fun k a b _ _ => by rw [gi_ne (by omega), gi_ne (by omega), gi_ne (by omega), gi_ne (by omega), gi_ne (by omega), gi_ne (by omega)]) (fun k j a b => by rw [gi_ne (by omega), gi_ne (by omega), gi_ne (by omega), gi_ne (by omega), gi_ne (by omega), gi_ne (by omega)]))
    ((h4 t ht).keep (fun k j a b => by rw [gi_ne (by omega), gi_ne (by omega), gi_ne (by omega), gi_ne (by omega), gi_ne (by omega)]) (fun k a b => by rw [gi_ne (by omega), gi_ne (by omega), gi_ne (by omega), gi_ne (by omega), gi_ne (by omega), gi_ne (by omega)]) (fun j b => by rw [gi_ne (by omega), gi_ne (by omega), gi_ne (by omega), gi_ne (by omega), gi_ne (by omega), gi_ne (by omega)]))
  refine ⟨nI B, si (si (si (si (si (si (si S (93 + B) 0 (nI p)) (93 + B) 1 (nI t)) (93 + B) 2 0) (93 + B) 3 (nI n)) (93 + B) 4 (gi S (29 + 7 * p) 3)) (93 + B) 5 (nI w)) 0 8 (nI (B + 1)), si (si (si (si (si (si (si (si M 0 0 0) 20 B (nI p)) 21 B (nI t)) 22 B (nI n)) 23 B 0) 24 B (gi M 8 p)) 25 B (nI w)) 0 23 (nI (B + 1)), ?_, ?_, ?_, P, T, B + 1, F, ?_⟩
  · unfold fX8_batch
    rw [e1, f1, isOut_in g1]
    simp only [bx, bn1_s, b3, if_pos, if_pos (show nI B < 20 from nI_lt (b := 20) g2 (by decide)), gd_t (inb_nI g2 (by omega)), bv, bid_nI (show B < 2 ^ 31 by omega), gi_ne (show (0 : Nat) ≠ 93 + B by omega), gi_ne (show 29 + 7 * p ≠ 93 + B by omega), w1, nI_1, gi_eq, nI_sub1 (show 0 < B + 1 by omega), Nat.add_sub_cancel]
  · unfold fX9_batch jn0
    rw [e2, f2, in_in g1]
    simp only [bn1_s, c3, if_neg (show ¬ (1 : Int32) = 0 by decide), if_neg (show ¬ nI B = 20 from nI_neq (a := B) (b := 20) (by omega) (by omega) (by decide)), well_0, bn2_s, gi_nj (show (23 : Nat) ≠ 0 by decide), gi_ne (show (0 : Nat) ≠ 20 by decide), gi_ne (show (0 : Nat) ≠ 21 by decide), gi_ne (show (0 : Nat) ≠ 22 by decide), gi_ne (show (0 : Nat) ≠ 23 by decide), gi_ne (show (0 : Nat) ≠ 24 by decide), gi_ne (show (0 : Nat) ≠ 25 by decide), gi_ne (show (8 : Nat) ≠ 20 by decide), gi_ne (show (8 : Nat) ≠ 21 by decide), gi_ne (show (8 : Nat) ≠ 22 by decide), gi_ne (show (8 : Nat) ≠ 23 by decide), gi_ne (show (8 : Nat) ≠ 0 by decide), gd_t (inb_nI g2 (by omega)), gd_t (inb_nI (show p < 8 by omega) (by omega)), bv, nI_clamp (show B < 2 ^ 31 by omega), nI_clamp (show p < 2 ^ 31 by omega), w2, nI_1, gi_eq, nI_sub1 (show 0 < B + 1 by omega), Nat.add_sub_cancel]
  · unfold fX9_thrown
    rw [gi_nj (by decide), gi_ne (by decide), gi_ne (by decide), gi_ne (by decide), gi_ne (by decide), gi_ne (by decide), gi_ne (by decide), gi_eq]
  · have hx : ∀ k j, k ≠ 93 + B → (k = 0 → j ≠ 8) → gi (si (si (si (si (si (si (si S (93 + B) 0 (nI p)) (93 + B) 1 (nI t)) (93 + B) 2 0) (93 + B) 3 (nI n)) (93 + B) 4 (gi S (29 + 7 * p) 3)) (93 + B) 5 (nI w)) 0 8 (nI (B + 1))) k j = gi S k j := fun k j z1 z2 => by
      rw [gi_if, if_neg (by omega), gi_ne z1, gi_ne z1, gi_ne z1, gi_ne z1, gi_ne z1, gi_ne z1]
    have hm : ∀ k j, (k < 20 ∨ 25 < k ∨ j ≠ B) → (k = 0 → j ≠ 0 ∧ j ≠ 23) → gi (si (si (si (si (si (si (si (si M 0 0 0) 20 B (nI p)) 21 B (nI t)) 22 B (nI n)) 23 B 0) 24 B (gi M 8 p)) 25 B (nI w)) 0 23 (nI (B + 1))) k j = gi M k j := fun k j z1 z2 => by
      rw [gi_if, if_neg (by omega), gi_if, if_neg (by omega), gi_if, if_neg (by omega), gi_if, if_neg (by omega), gi_if, if_neg (by omega), gi_if, if_neg (by omega), gi_if, if_neg (by omega), gi_if, if_neg (by omega)]
    refine ⟨⟨⟨a1, a2, by omega, a4⟩, ⟨?_, ?_, gi_eq, ?_⟩, ?_, ?_, gi_eq, ?_⟩, h2.keep (fun j => hx _ _ (by omega) (by omega)) (fun j => hx _ _ (by omega) (by omega)) (fun j _ => hm _ _ (by omega) (by omega)) (fun j _ => hm _ _ (by omega) (by omega)), fun p hp => (h3 p hp).keep (fun k j a b => hx _ _ (by omega) (by omega)) (fun k a b _ _ => hm _ _ (by omega) (by omega)) (fun k j a b => hm _ _ (by omega) (by omega)), fun t ht => (h4 t ht).keep (fun k j a b => hx _ _ (by omega) (by omega)) (fun k a b => hm _ _ (by omega) (by omega)) (fun j b => hm _ _ (by omega) (by omega)),
      fun t' h9 ht' => (h5 t' h9 ht').keep (fun j => hx _ _ (by omega) (by omega)), fun b hb => ?_, h7.keep (fun j => hx _ _ (by omega) (by omega)) (fun j => hm _ _ (by omega) (by omega)) (hx _ _ (by omega) (by omega)), h8.keep (fun p hp => hx _ _ (by omega) (by omega)) (fun p hp => hm _ _ (by omega) (by omega))⟩
    · rw [hx _ _ (by omega) (by omega)]; exact b1
    · rw [hx _ _ (by omega) (by omega)]; exact b2
    · rw [hx _ _ (by omega) (by omega)]; exact b4
    · rw [hm _ _ (by omega) (by omega)]; exact c1
    · rw [hm _ _ (by omega) (by omega)]; exact c2
    · rw [hm _ _ (by omega) (by omega)]; exact c4
    · by_cases q : b = B
      · subst q
        have n0 : ¬ 93 + b = 0 := by omega
        refine ⟨p, t, n, 0, ⟨hp, ht, n2, by omega⟩, ⟨?_, ?_⟩, ⟨?_, ?_⟩, ⟨?_, ?_⟩, ⟨?_, ?_⟩, ?_, ?_⟩
        · rw [gi_ne n0, gi_nj (by decide), gi_nj (by decide), gi_nj (by decide), gi_nj (by decide), gi_nj (by decide), gi_eq]
        · rw [gi_ne (by decide), gi_ne (by decide), gi_ne (by decide), gi_ne (by decide), gi_ne (by decide), gi_ne (by decide), gi_eq]
        · rw [gi_ne n0, gi_nj (by decide), gi_nj (by decide), gi_nj (by decide), gi_nj (by decide), gi_eq]
        · rw [gi_ne (by decide), gi_ne (by decide), gi_ne (by decide), gi_ne (by decide), gi_ne (by decide), gi_eq]
        · rw [gi_ne n0, gi_nj (by decide), gi_nj (by decide), gi_nj (by decide), gi_eq]; rfl
        · rw [gi_ne (by decide), gi_ne (by decide), gi_ne (by decide), gi_eq]; rfl
        · rw [gi_ne n0, gi_nj (by decide), gi_nj (by decide), gi_eq]
        · rw [gi_ne (by decide), gi_ne (by decide), gi_ne (by decide), gi_ne (by decide), gi_eq]
        · rw [gi_ne n0, gi_nj (by decide), gi_eq, gi_ne (by decide), gi_ne (by decide), gi_eq]
          exact hrv
        · rw [gi_ne n0, gi_eq, gi_ne (by decide), gi_eq]
          exact ⟨rfl, nI_lt (a := 0) (b := w) (by omega) (by omega)⟩
      · exact (h6 b (by omega)).keep (Nat.le_refl P) (Nat.le_refl T) (fun j => hx _ _ (by omega) (by omega)) (fun k a b => hm _ _ (by omega) (by omega))
