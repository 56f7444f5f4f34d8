/-! ===== holes ===== -/
def HB (M : St) (B : Nat) (x : Int32) (k : Nat) : Prop := ∃ b, k ≤ b ∧ b < B ∧ gi M 20 b = x ∧ ¬ gi M 23 b = 3
theorem HB.step {M : St} {B k : Nat} {x : Int32} : HB M B x k ↔ (k < B ∧ gi M 20 k = x ∧ ¬ gi M 23 k = 3) ∨ HB M B x (k + 1) := by
  constructor
  · rintro ⟨b, h1, h2, h3⟩
    by_cases q : b = k
    · subst q; exact Or.inl ⟨h2, h3⟩
    · exact Or.inr ⟨b, by omega, h2, h3⟩
  · rintro (⟨h1, h2⟩ | ⟨b, h1, h2⟩)
    · exact ⟨k, Nat.le_refl k, h1, h2⟩
    · exact ⟨b, by omega, h2⟩
theorem hasB_X {B : Nat} {S M : St} {x : Int32} (hB : B ≤ 20) (h0 : gi S 0 8 = nI B) (hb : ∀ b, b < B → gi S (93 + b) 0 = gi M 20 b ∧ gi S (93 + b) 2 = gi M 23 b) : ∀ (n k m : Nat), k + n = B → n < m → (HB M B x k ∧ lq1 (fX8_hasBatch_L2 S x) m (nI k) = some 1) ∨ (¬ HB M B x k ∧ lq1 (fX8_hasBatch_L2 S x) m (nI k) = some 0) := by
  intro n
  induction n with
  | zero =>
    intro k m hk hm
    obtain ⟨m, rfl⟩ : ∃ q, m = q + 1 := ⟨m - 1, by omega⟩
    right
    refine ⟨fun ⟨b, z1, z2, _⟩ => by omega, ?_⟩
    rw [lq1_1, fX8_hasBatch_L2, h0, if_pos (nI_le (by omega) (by omega))]
  | succ n ih =>
    intro k m hk hm
    obtain ⟨m, rfl⟩ : ∃ q, m = q + 1 := ⟨m - 1, by omega⟩
    obtain ⟨u1, u2⟩ := hb k (by omega)
    have hs := ih (k + 1) m (by omega) (by omega)
    rw [lq1_1, fX8_hasBatch_L2, h0, if_neg (nI_ge (by omega) (by omega)), gd_t (inb_nI (by omega) (by omega)), bid_nI (by omega), u1, u2, HB.step]
    simp only [jn0, bv, nI_1, gd_t (inb_nI (show k < 20 by omega) (by omega))]
    by_cases q1 : gi M 20 k = x
    · by_cases q2 : gi M 23 k = 3
      · rw [if_pos q1, if_pos q2]
        rcases hs with ⟨z1, z2⟩ | ⟨z1, z2⟩
        · exact Or.inl ⟨Or.inr z1, z2⟩
        · exact Or.inr ⟨fun z => z.elim (fun z => z.2.2 q2) z1, z2⟩
      · rw [if_pos q1, if_neg q2]
        exact Or.inl ⟨Or.inl ⟨by omega, q1, q2⟩, rfl⟩
    · rw [if_neg q1]
      rcases hs with ⟨z1, z2⟩ | ⟨z1, z2⟩
      · exact Or.inl ⟨Or.inr z1, z2⟩
      · exact Or.inr ⟨fun z => z.elim (fun z => q1 z.2.1) z1, z2⟩
theorem hasB_M {B : Nat} {M : St} {x : Int32} (hB : B ≤ 20) (h0 : gi M 0 23 = nI B) : ∀ (n k m : Nat), k + n = B → n < m → lq2 (fX9_hole_L81 M x) m 0 (nI k) = some 0 ∧ ((HB M B x k ∧ lq2 (fX9_hole_L81 M x) m 1 (nI k) = some 0) ∨ (¬ HB M B x k ∧ lq2 (fX9_hole_L81 M x) m 1 (nI k) = some 1)) := by
  intro n
  induction n with
  | zero =>
    intro k m hk hm
    obtain ⟨m, rfl⟩ : ∃ q, m = q + 1 := ⟨m - 1, by omega⟩
    refine ⟨?_, Or.inr ⟨fun ⟨b, z1, z2, _⟩ => by omega, ?_⟩⟩
    · rw [lq2_1, fX9_hole_L81, h0, if_pos (nI_le (by omega) (by omega))]
    · rw [lq2_1, fX9_hole_L81, h0, if_pos (nI_le (by omega) (by omega))]
  | succ n ih =>
    intro k m hk hm
    obtain ⟨m, rfl⟩ : ∃ q, m = q + 1 := ⟨m - 1, by omega⟩
    obtain ⟨hs0, hs⟩ := ih (k + 1) m (by omega) (by omega)
    refine ⟨?_, ?_⟩
    · rw [lq2_1, fX9_hole_L81, h0, if_neg (nI_ge (by omega) (by omega))]
      simp only [jn0, if_pos, bn1_s, bv, nI_1]
      exact hs0
    · rw [lq2_1, fX9_hole_L81, h0, if_neg (nI_ge (by omega) (by omega)), HB.step]
      simp only [jn0, if_neg (show ¬ (1 : Int32) = 0 by decide), gd_t (inb_nI (show k < 20 by omega) (by omega)), nI_clamp (show k < 2 ^ 31 by omega)]
      by_cases q1 : gi M 20 k = x
      · by_cases q2 : gi M 23 k = 3
        · rw [if_pos q1, if_pos q2]
          simp only [bn1_s, bv, nI_1]
          rcases hs with ⟨z1, z2⟩ | ⟨z1, z2⟩
          · exact Or.inl ⟨Or.inr z1, z2⟩
          · exact Or.inr ⟨fun z => z.elim (fun z => z.2.2 q2) z1, z2⟩
        · rw [if_pos q1, if_neg q2]
          simp only [bn1_s, bv, nI_1]
          exact Or.inl ⟨Or.inl ⟨by omega, q1, q2⟩, hs0⟩
      · rw [if_neg q1]
        simp only [bn1_s, bv, nI_1]
        rcases hs with ⟨z1, z2⟩ | ⟨z1, z2⟩
        · exact Or.inl ⟨Or.inr z1, z2⟩
        · exact Or.inr ⟨fun z => z.elim (fun z => q1 z.2.1) z1, z2⟩
theorem ag_hole : Ag_hole Rel := by
  intro S M hR p1 p2 p3 p4
  have hR' := hR
  obtain ⟨P, T, B, F, hN⟩ := hR
  obtain ⟨h1, h2, h3, h4, h5, h6, h7, h8⟩ := id hN
  obtain ⟨⟨a1, a2, a3, a4⟩, ⟨b1, b2, b3, b4⟩, c1, c2, c3, c4⟩ := h1
  have hX := hasB_X (S := S) (M := M) (x := p1) a3 b3 (fun b hb => by
    obtain ⟨p, t, n, w, -, ⟨x1, x2⟩, -, ⟨x3, x4⟩, -⟩ := h6 b hb
    rw [x1, x2, x3, x4]
    exact ⟨rfl, rfl⟩) B 0 200 (by omega) (by omega)
  have hM := (hasB_M (M := M) (x := p1) a3 c3 B 0 200 (by omega) (by omega)).2
  rw [nI_0] at hX hM
  obtain ⟨fr, hfr⟩ : ∃ v, lq2 (fX9_hole_L81 M p1) 200 1 0 = some v := by
    rcases hM with ⟨-, z⟩ | ⟨-, z⟩
    · exact ⟨_, z⟩
    · exact ⟨_, z⟩
  rcases part_cs b1 c1 a1 p1 with ⟨p, hp, rfl, e1, e2⟩ | ⟨e1, e2⟩
  rotate_left
  · refine Or.inr (Or.inl ⟨0, S, si M 0 0 1, ?_, ?_, rfl, hR'.thr, scrM_t⟩)
    · unfold fX8_hole
      rw [e1]; rfl
    · unfold fX9_hole jn0
      rw [e2, hfr]; rfl
  obtain ⟨f, th, h, hb, ⟨u1, u2⟩, u3, ⟨u4, u5⟩, ⟨u6, u7⟩, u8, ⟨u9, u10⟩, u11⟩ := id (h3 p hp)
  have hp8 : p < 8 := by omega
  by_cases g1 : (0 : Int32) ≤ p2 ∧ p2 ≤ nI f - 1
  rotate_left
  · refine Or.inr (Or.inl ⟨0, S, si M 0 0 1, ?_, ?_, rfl, hR'.thr, scrM_t⟩)
    · unfold fX8_hole
      rw [e1]
      simp only [bx, show 29 + 7 * p + 1 = 30 + 7 * p by omega, u1, isOut_out g1]
      rfl
    · unfold fX9_hole jn0
      rw [e2, hfr]
      simp only [bn1_s, if_neg (show ¬ (1 : Int32) = 0 by decide), gd_t (inb_nI hp8 (by omega)), nI_clamp (show p < 2 ^ 31 by omega), u2, in_out g1]
      rfl
  obtain ⟨q, hq, rfl⟩ := rng (by omega) g1
  have hlen : gi S (31 + 7 * p) q = gi M 4 (6 * p + q) := (u3.1 q hq).1
  have eS : ∀ y : Option ((String ⊕ Int32) × St), bn1 (fX8_isOut (nI q) 0 (gi S (30 + 7 * p) 2 - 1)) (fun v3 => if v3 = 0 then gd (inb (nI q) 6) y else some (.inl "java/lang/IndexOutOfBoundsException", S)) = y := fun y => by
    rw [u1, isOut_in g1]
    simp only [bn1_s, if_pos, gd_t (inb_nI (show q < 6 by omega) (by omega))]
  by_cases g2 : ((1 : Int32) ≤ p3 ∧ p3 ≤ gi M 4 (6 * p + q) - 1) ∧ ((1 : Int32) ≤ p4 ∧ p4 ≤ 20)
  rotate_left
  · refine Or.inr (Or.inr (Or.inl ⟨0, S, si M 0 0 2, ?_, ?_, rfl, hR'.thr, scrM_t⟩))
    · unfold fX8_hole
      rw [e1]
      simp only [bx, show 29 + 7 * p + 1 = 30 + 7 * p by omega, show 30 + 7 * p + 1 = 31 + 7 * p by omega, u1, isOut_in g1, bn1_s, if_pos, gd_t (inb_nI (show q < 6 by omega) (by omega)), nI_clamp (show q < 2 ^ 31 by omega), hlen]
      by_cases g3 : (1 : Int32) ≤ p3 ∧ p3 ≤ gi M 4 (6 * p + q) - 1
      · have g4 : ¬ ((1 : Int32) ≤ p4 ∧ p4 ≤ 20) := fun z => g2 ⟨g3, z⟩
        rw [isOut_in g3, isOut_out g4]; rfl
      · rw [isOut_out g3]; rfl
    · unfold fX9_hole jn0
      rw [e2, hfr]
      simp only [bn1_s, if_neg (show ¬ (1 : Int32) = 0 by decide), gd_t (inb_nI hp8 (by omega)), nI_clamp (show p < 2 ^ 31 by omega), u2, in_in g1, ix6, gd_t (inb_nI (show 6 * p + q < 48 by omega) (by omega)), nI_clamp (show 6 * p + q < 2 ^ 31 by omega)]
      by_cases g3 : (1 : Int32) ≤ p3 ∧ p3 ≤ gi M 4 (6 * p + q) - 1
      · have g4 : ¬ ((1 : Int32) ≤ p4 ∧ p4 ≤ 20) := fun z => g2 ⟨g3, z⟩
        rw [in_in g3, in_out g4]; rfl
      · rw [in_out g3]; rfl
  obtain ⟨g3, g4⟩ := g2
  by_cases g5 : h < 6
  rotate_left
  · obtain rfl : h = 6 := by omega
    refine Or.inr (Or.inr (Or.inr ⟨0, S, si M 0 0 3, ?_, ?_, rfl, hR'.thr, scrM_t⟩))
    · unfold fX8_hole
      rw [e1]
      simp only [bx, show 29 + 7 * p + 1 = 30 + 7 * p by omega, show 30 + 7 * p + 1 = 31 + 7 * p by omega, u1, isOut_in g1, bn1_s, if_pos, gd_t (inb_nI (show q < 6 by omega) (by omega)), nI_clamp (show q < 2 ^ 31 by omega), hlen, isOut_in g3, isOut_in g4, u9]
      rfl
    · unfold fX9_hole jn0
      rw [e2, hfr]
      simp only [bn1_s, if_neg (show ¬ (1 : Int32) = 0 by decide), gd_t (inb_nI hp8 (by omega)), nI_clamp (show p < 2 ^ 31 by omega), u2, in_in g1, ix6, gd_t (inb_nI (show 6 * p + q < 48 by omega) (by omega)), nI_clamp (show 6 * p + q < 2 ^ 31 by omega), in_in g3, in_in g4, u10]
      rfl
  have n6 : ¬ (6 : Int32) ≤ nI h := nI_ge (b := 6) g5 (by decide)
  have n6' : ¬ nI h = 6 := nI_neq (a := h) (b := 6) (by omega) (by omega) (by decide)
  have hfree : (lq1 (fX8_hasBatch_L2 S (nI p)) 200 0 = some 1 ∧ lq2 (fX9_hole_L81 M (nI p)) 200 1 0 = some 0) ∨ (lq1 (fX8_hasBatch_L2 S (nI p)) 200 0 = some 0 ∧ lq2 (fX9_hole_L81 M (nI p)) 200 1 0 = some 1) := by
    rcases hX with ⟨z1, z2⟩ | ⟨z1, z2⟩ <;> rcases hM with ⟨w1, w2⟩ | ⟨w1, w2⟩
    · exact Or.inl ⟨z2, w2⟩
    · exact absurd z1 w1
    · exact absurd w1 z1
    · exact Or.inr ⟨z2, w2⟩
  rcases hfree with ⟨l1, l2⟩ | ⟨l1, l2⟩
  · refine Or.inr (Or.inr (Or.inr ⟨0, S, si M 0 0 3, ?_, ?_, rfl, hR'.thr, scrM_t⟩))
    · unfold fX8_hole fX8_hasBatch
      rw [e1]
      simp only [bx, show 29 + 7 * p + 1 = 30 + 7 * p by omega, show 30 + 7 * p + 1 = 31 + 7 * p by omega, u1, isOut_in g1, bn1_s, if_pos, gd_t (inb_nI (show q < 6 by omega) (by omega)), nI_clamp (show q < 2 ^ 31 by omega), hlen, isOut_in g3, isOut_in g4, u9, if_neg n6, l1]
      rfl
    · unfold fX9_hole jn0
      rw [e2, l2]
      simp only [bn1_s, if_neg (show ¬ (1 : Int32) = 0 by decide), gd_t (inb_nI hp8 (by omega)), nI_clamp (show p < 2 ^ 31 by omega), u2, in_in g1, ix6, gd_t (inb_nI (show 6 * p + q < 48 by omega) (by omega)), nI_clamp (show 6 * p + q < 2 ^ 31 by omega), in_in g3, in_in g4, u10, if_neg n6']
      rfl
  left
  have hx : ∀ k j, (k ≠ 33 + 7 * p ∧ k ≠ 34 + 7 * p ∧ k ≠ 35 + 7 * p) ∨ j ≠ h → (k = 29 + 7 * p → j ≠ 7) → gi (si (si (si (si S (33 + 7 * p) h (nI q)) (34 + 7 * p) h p3) (35 + 7 * p) h p4) (29 + 7 * p) 7 (nI (h + 1))) k j = gi S k j := fun k j z1 z2 => by
    rw [gi_if, if_neg (by omega), gi_if, if_neg (by omega), gi_if, if_neg (by omega), gi_if, if_neg (by omega)]
  have hm : ∀ k j, (k < 10 ∨ 12 < k ∨ j ≠ 6 * p + h) → (k = 9 → j ≠ p) → (k = 0 → j ≠ 0) → gi (si (si (si (si (si M 0 0 0) 10 (6 * p + h) (nI q)) 11 (6 * p + h) p3) 12 (6 * p + h) p4) 9 p (nI (h + 1))) k j = gi M k j := fun k j z1 z2 z3 => by
    rw [gi_if, if_neg (by omega), gi_if, if_neg (by omega), gi_if, if_neg (by omega), gi_if, if_neg (by omega), gi_if, if_neg (by omega)]
  refine ⟨nI h, si (si (si (si S (33 + 7 * p) h (nI q)) (34 + 7 * p) h p3) (35 + 7 * p) h p4) (29 + 7 * p) 7 (nI (h + 1)), si (si (si (si (si M 0 0 0) 10 (6 * p + h) (nI q)) 11 (6 * p + h) p3) 12 (6 * p + h) p4) 9 p (nI (h + 1)), ?_, ?_, ?_, P, T, B, F, ?_⟩
  · unfold fX8_hole fX8_hasBatch
    rw [e1]
    simp only [bx, show 29 + 7 * p + 1 = 30 + 7 * p by omega, show 30 + 7 * p + 1 = 31 + 7 * p by omega, show 29 + 7 * p + 4 = 33 + 7 * p by omega, show 29 + 7 * p + 5 = 34 + 7 * p by omega, show 29 + 7 * p + 6 = 35 + 7 * p by omega, u1, isOut_in g1, bn1_s, if_pos, gd_t (inb_nI (show q < 6 by omega) (by omega)), nI_clamp (show q < 2 ^ 31 by omega), hlen, isOut_in g3, isOut_in g4, u9, if_neg n6, l1, gd_t (inb_nI g5 (by omega)), nI_clamp (show h < 2 ^ 31 by omega), bv, gi_ne (show 29 + 7 * p ≠ 33 + 7 * p by omega), gi_ne (show 29 + 7 * p ≠ 34 + 7 * p by omega), gi_ne (show 29 + 7 * p ≠ 35 + 7 * p by omega), nI_1, gi_eq, nI_sub1 (show 0 < h + 1 by omega), Nat.add_sub_cancel]
  · unfold fX9_hole jn0
    rw [e2, l2]
    simp only [bn1_s, if_neg (show ¬ (1 : Int32) = 0 by decide), gd_t (inb_nI hp8 (by omega)), nI_clamp (show p < 2 ^ 31 by omega), u2, in_in g1, ix6, gd_t (inb_nI (show 6 * p + q < 48 by omega) (by omega)), nI_clamp (show 6 * p + q < 2 ^ 31 by omega), in_in g3, in_in g4, u10, if_neg n6', well_0, bn2_s, gi_ne (show (9 : Nat) ≠ 0 by decide), bv, gd_t (inb_nI (show 6 * p + h < 48 by omega) (by omega)), nI_clamp (show 6 * p + h < 2 ^ 31 by omega), gi_ne (show (9 : Nat) ≠ 10 by decide), gi_ne (show (9 : Nat) ≠ 11 by decide), gi_ne (show (9 : Nat) ≠ 12 by decide), nI_1, gi_eq, nI_sub1 (show 0 < h + 1 by omega), Nat.add_sub_cancel]
  · unfold fX9_thrown
    rw [gi_ne (by decide), gi_ne (by decide), gi_ne (by decide), gi_ne (by decide), gi_eq]
  · refine ⟨hN.1.keep (fun j hj => hx _ _ (by omega) (by omega)) (hx _ _ (by omega) (by omega)) (fun j h0 _ => hm _ _ (by omega) (by omega) (by omega)), h2.keep (fun j => hx _ _ (by omega) (by omega)) (fun j => hx _ _ (by omega) (by omega)) (fun j _ => hm _ _ (by omega) (by omega) (by omega)) (fun j _ => hm _ _ (by omega) (by omega) (by omega)), fun p' hp' => ?_, fun t ht => (h4 t ht).keep (fun k j a b => hx _ _ (by omega) (by omega)) (fun k a b => hm _ _ (by omega) (by omega) (by omega)) (fun j b => hm _ _ (by omega) (by omega) (by omega)),
      fun t' h9 ht' => (h5 t' h9 ht').keep (fun j => hx _ _ (by omega) (by omega)), fun b hb => (h6 b hb).keep (Nat.le_refl P) (Nat.le_refl T) (fun j => hx _ _ (by omega) (by omega)) (fun k a b => hm _ _ (by omega) (by omega) (by omega)), h7.keep (fun j => hx _ _ (by omega) (by omega)) (fun j => hm _ _ (by omega) (by omega) (by omega)) (hx _ _ (by omega) (by omega)), h8.keep (fun p hp => hx _ _ (by omega) (by omega)) (fun p hp => hm _ _ (by omega) (by omega) (by omega))⟩
    by_cases r : p' = p
    · subst r
      refine ⟨f, th, h + 1, ⟨hb.1, hb.2.1, hb.2.2.1, hb.2.2.2.1, by omega⟩, ⟨?_, ?_⟩, u3.keep (fun j => hx _ _ (by omega) (by omega)) (fun j => hx _ _ (by omega) (by omega)) (fun j _ => hm _ _ (by omega) (by omega) (by omega)) (fun j _ => hm _ _ (by omega) (by omega) (by omega)), ⟨?_, ?_⟩, ⟨?_, ?_⟩, ?_, ⟨gi_eq, gi_eq⟩, fun j hj => ?_⟩
      · rw [hx _ _ (by omega) (by omega)]; exact u1
      · rw [hm _ _ (by omega) (by omega) (by omega)]; exact u2
      · rw [hx _ _ (by omega) (by omega), hm _ _ (by omega) (by omega) (by omega)]; exact u4
      · rw [hm _ _ (by omega) (by omega) (by omega)]; exact u5
      · rw [hx _ _ (by omega) (by omega)]; exact u6
      · rw [hm _ _ (by omega) (by omega) (by omega)]; exact u7
      · rw [hx _ _ (by omega) (by omega), hm _ _ (by omega) (by omega) (by omega)]; exact u8
      · by_cases r2 : j = h
        · subst r2
          have m10 : gi (si (si (si (si (si M 0 0 0) 10 (6 * p' + j) (nI q)) 11 (6 * p' + j) p3) 12 (6 * p' + j) p4) 9 p' (nI (j + 1))) 10 (6 * p' + j) = nI q := by rw [gi_ne (by decide), gi_ne (by decide), gi_ne (by decide), gi_eq]
          have m11 : gi (si (si (si (si (si M 0 0 0) 10 (6 * p' + j) (nI q)) 11 (6 * p' + j) p3) 12 (6 * p' + j) p4) 9 p' (nI (j + 1))) 11 (6 * p' + j) = p3 := by rw [gi_ne (by decide), gi_ne (by decide), gi_eq]
          have m12 : gi (si (si (si (si (si M 0 0 0) 10 (6 * p' + j) (nI q)) 11 (6 * p' + j) p3) 12 (6 * p' + j) p4) 9 p' (nI (j + 1))) 12 (6 * p' + j) = p4 := by rw [gi_ne (by decide), gi_eq]
          rw [m10, m11, m12]
          refine ⟨⟨?_, q, hq, rfl⟩, ?_, ?_⟩
          · rw [gi_ne (by omega), gi_ne (by omega), gi_ne (by omega), gi_eq]
          · rw [gi_ne (by omega), gi_ne (by omega), gi_eq]
          · rw [gi_ne (by omega), gi_eq]
        · rw [hx _ _ (by omega) (by omega), hx _ _ (by omega) (by omega), hx _ _ (by omega) (by omega), hm _ _ (by omega) (by omega) (by omega), hm _ _ (by omega) (by omega) (by omega), hm _ _ (by omega) (by omega) (by omega)]
          exact u11 j (by omega)
    · exact (h3 p' hp').keep (fun k j a b => hx _ _ (by omega) (by omega)) (fun k a b _ _ => hm _ _ (by omega) (by omega) (by omega)) (fun k j a b => hm _ _ (by omega) (by omega) (by omega))
