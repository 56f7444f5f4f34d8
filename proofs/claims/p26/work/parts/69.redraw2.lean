/-- whether a part's faces are the pad's, from face k on: as the class asks, as the reference asks -/
def FoC (M : St) (p F k : Nat) : Prop := ∀ i, k ≤ i → i < F → gi M 4 (6 * p + i) = gi M 1 i ∧ (1 ≤ i → gi M 5 (6 * p + (i - 1)) = gi M 2 (i - 1))
def FoR (M : St) (p F k : Nat) : Prop := ∀ i, k ≤ i → i < F → gi M 4 (6 * p + i) = gi M 1 i ∧ (i + 1 < F → gi M 5 (6 * p + i) = gi M 2 i)
theorem Fo_iff {M : St} {p F : Nat} : FoC M p F 0 ↔ FoR M p F 0 := by
  constructor
  · intro h i _ hi
    refine ⟨(h i (by omega) hi).1, fun h2 => ?_⟩
    have := (h (i + 1) (by omega) h2).2 (by omega)
    rw [Nat.add_sub_cancel] at this
    exact this
  · intro h i _ hi
    refine ⟨(h i (by omega) hi).1, fun h2 => ?_⟩
    exact (h (i - 1) (by omega) (by omega)).2 (by omega)
theorem isAs_X {S M : St} {p F : Nat} (hp : p < 8) (hF : F ≤ 6) (hS : gi S (30 + 7 * p) 2 = nI F) (hA : RFa F S M (31 + 7 * p) (32 + 7 * p) 4 5 (6 * p)) (hP : RFa F S M 2 3 1 2 0) : ∀ (n k m : Nat), k + n = F → n < m → (FoC M p F k ∧ lq1 (fX2_isAs_L15 S (30 + 7 * p) 1) m (nI k) = some 1) ∨ (¬ FoC M p F k ∧ lq1 (fX2_isAs_L15 S (30 + 7 * p) 1) m (nI k) = some 0) := by
  intro n
  induction n with
  | zero =>
    intro k m hk hm
    obtain ⟨m, rfl⟩ : ∃ q, m = q + 1 := ⟨m - 1, by omega⟩
    refine Or.inl ⟨fun i z1 z2 => by omega, ?_⟩
    rw [lq1_1, fX2_isAs_L15, hS, if_pos (nI_le (by omega) (by omega))]
  | succ n ih =>
    intro k m hk hm
    obtain ⟨m, rfl⟩ : ∃ q, m = q + 1 := ⟨m - 1, by omega⟩
    have hs := ih (k + 1) m (by omega) (by omega)
    have hst : FoC M p F k ↔ (gi M 4 (6 * p + k) = gi M 1 k ∧ (1 ≤ k → gi M 5 (6 * p + (k - 1)) = gi M 2 (k - 1))) ∧ FoC M p F (k + 1) := by
      constructor
      · exact fun h => ⟨h k (Nat.le_refl k) (by omega), fun i a b => h i (by omega) b⟩
      · rintro ⟨h1, h2⟩ i a b
        by_cases q : i = k
        · subst q; exact h1
        · exact h2 i (by omega) b
    have e1 : gi S (31 + 7 * p) k = gi M 4 (6 * p + k) := (hA.1 k (by omega)).1
    have e2 : gi S 2 k = gi M 1 k := by
      have := (hP.1 k (by omega)).1
      rw [Nat.zero_add] at this
      exact this
    rw [lq1_1, fX2_isAs_L15, hS, if_neg (nI_ge (by omega) (by omega)), hst]
    simp only [jn0, gd_t (inb_nI (show k < 6 by omega) (by omega)), nI_clamp (show k < 2 ^ 31 by omega), show 30 + 7 * p + 1 = 31 + 7 * p by omega, show 30 + 7 * p + 2 = 32 + 7 * p by omega, show 1 + 1 = 2 from rfl, show 1 + 2 = 3 from rfl, e1, e2, bv, nI_1]
    have tail : ∀ D : Prop, D → ((((gi M 4 (6 * p + k) = gi M 1 k ∧ D) ∧ FoC M p F (k + 1)) ∧ (if gi M 4 (6 * p + k) = gi M 1 k then lq1 (fX2_isAs_L15 S (30 + 7 * p) 1) m (nI (k + 1)) else some 0) = some 1) ∨ (¬ ((gi M 4 (6 * p + k) = gi M 1 k ∧ D) ∧ FoC M p F (k + 1)) ∧ (if gi M 4 (6 * p + k) = gi M 1 k then lq1 (fX2_isAs_L15 S (30 + 7 * p) 1) m (nI (k + 1)) else some 0) = some 0)) := fun D hD => by
      by_cases q1 : gi M 4 (6 * p + k) = gi M 1 k
      · rw [if_pos q1]
        rcases hs with ⟨z1, z2⟩ | ⟨z1, z2⟩
        · exact Or.inl ⟨⟨⟨q1, hD⟩, z1⟩, z2⟩
        · exact Or.inr ⟨fun z => z1 z.2, z2⟩
      · rw [if_neg q1]
        exact Or.inr ⟨fun z => q1 z.1.1, rfl⟩
    by_cases q : k = 0
    · subst q
      rw [if_pos (show nI 0 ≤ 0 by decide)]
      simp only [bn1_s, if_true]
      exact tail _ (fun z => absurd z (by omega))
    · rw [if_neg (nI_nle (by omega) (by omega))]
      have d1 : gi S (32 + 7 * p) k = gi M 5 (6 * p + (k - 1)) := by
        have := (hA.2 (k - 1) (by omega)).1
        rw [show k - 1 + 1 = k by omega] at this
        exact this
      have d2 : gi S 3 k = gi M 2 (k - 1) := by
        have := (hP.2 (k - 1) (by omega)).1
        rw [show k - 1 + 1 = k by omega, Nat.zero_add] at this
        exact this
      rw [d1, d2]
      by_cases q2 : gi M 5 (6 * p + (k - 1)) = gi M 2 (k - 1)
      · rw [if_pos q2]
        simp only [bn1_s, if_true]
        exact tail _ (fun _ => q2)
      · rw [if_neg q2]
        simp only [bn1_s, if_neg (show ¬ (1 : Int32) = 0 by decide)]
        exact Or.inr ⟨fun z => q2 (z.1.2 (by omega)), trivial⟩
theorem isSame_M {M : St} {p F : Nat} (hp : p < 8) (hF : F ≤ 6) (h0 : gi M 0 1 = nI F) : ∀ (n k m : Nat), k + n = F → n < m → lq2 (fX9_isSame_L43 M (nI p)) m 0 (nI k) = some 0 ∧ ((FoR M p F k ∧ lq2 (fX9_isSame_L43 M (nI p)) m 1 (nI k) = some 1) ∨ (¬ FoR M p F k ∧ lq2 (fX9_isSame_L43 M (nI p)) m 1 (nI k) = some 0)) := by
  intro n
  induction n with
  | zero =>
    intro k m hk hm
    obtain ⟨m, rfl⟩ : ∃ q, m = q + 1 := ⟨m - 1, by omega⟩
    refine ⟨?_, Or.inl ⟨fun i z1 z2 => by omega, ?_⟩⟩
    · rw [lq2_1, fX9_isSame_L43, h0, if_pos (nI_le (by omega) (by omega))]; rfl
    · rw [lq2_1, fX9_isSame_L43, h0, if_pos (nI_le (by omega) (by omega))]; rfl
  | succ n ih =>
    intro k m hk hm
    obtain ⟨m, rfl⟩ : ∃ q, m = q + 1 := ⟨m - 1, by omega⟩
    obtain ⟨hs0, hs⟩ := ih (k + 1) m (by omega) (by omega)
    have hst : FoR M p F k ↔ (gi M 4 (6 * p + k) = gi M 1 k ∧ (k + 1 < F → gi M 5 (6 * p + k) = gi M 2 k)) ∧ FoR M p F (k + 1) := by
      constructor
      · exact fun h => ⟨h k (Nat.le_refl k) (by omega), fun i a b => h i (by omega) b⟩
      · rintro ⟨h1, h2⟩ i a b
        by_cases q : i = k
        · subst q; exact h1
        · exact h2 i (by omega) b
    refine ⟨?_, ?_⟩
    · rw [lq2_1, fX9_isSame_L43, h0, if_neg (nI_ge (by omega) (by omega)), if_pos rfl]; rfl
    · rw [lq2_1, fX9_isSame_L43, h0, if_neg (nI_ge (by omega) (by omega)), if_neg (by decide), hst]
      simp only [jn0, ix6, gd_t (inb_nI (show k < 6 by omega) (by omega)), gd_t (inb_nI (show 6 * p + k < 48 by omega) (by omega)), nI_clamp (show k < 2 ^ 31 by omega), nI_clamp (show 6 * p + k < 2 ^ 31 by omega), bv, nI_1]
      by_cases q1 : gi M 4 (6 * p + k) = gi M 1 k
      · rw [if_pos q1]
        by_cases q2 : k + 1 = F
        · rw [if_pos (show nI (k + 1) = nI F by rw [q2])]
          simp only [bn1_s]
          rcases hs with ⟨z1, z2⟩ | ⟨z1, z2⟩
          · exact Or.inl ⟨⟨⟨q1, fun z => by omega⟩, z1⟩, z2⟩
          · exact Or.inr ⟨fun z => z1 z.2, z2⟩
        · rw [if_neg (show ¬ nI (k + 1) = nI F from nI_neq q2 (by omega) (by omega))]
          by_cases q3 : gi M 5 (6 * p + k) = gi M 2 k
          · rw [if_pos q3]
            simp only [bn1_s]
            rcases hs with ⟨z1, z2⟩ | ⟨z1, z2⟩
            · exact Or.inl ⟨⟨⟨q1, fun _ => q3⟩, z1⟩, z2⟩
            · exact Or.inr ⟨fun z => z1 z.2, z2⟩
          · rw [if_neg q3]
            simp only [bn1_s]
            exact Or.inr ⟨fun z => q3 (z.1.2 (by omega)), hs0⟩
      · rw [if_neg q1]
        simp only [bn1_s]
        exact Or.inr ⟨fun z => q1 z.1.1, hs0⟩
/-- the class's 'same fold', and the reference's 'same' -/
theorem same_eq {S M : St} {p f F : Nat} {w t pw : Int32} (hp : p < 8) (hf : f ≤ 6) (hF : F ≤ 6) (hS : gi S (30 + 7 * p) 2 = nI f) (hS1 : gi S 1 2 = nI F) (hM : gi M 3 p = nI f) (hM1 : gi M 0 1 = nI F) (hA : RFa f S M (31 + 7 * p) (32 + 7 * p) 4 5 (6 * p)) (hP : RFa F S M 2 3 1 2 0) : ∃ fo, isDir fo ∧ fX2_isAs S (29 + 7 * p + 1) 1 = some fo ∧ fX9_isSame M (nI p) w t = some (if gi M 6 p = w ∧ gi M 7 p = t then fo else 0) := by
  unfold fX2_isAs fX9_isSame
  rw [show 29 + 7 * p + 1 = 30 + 7 * p by omega, hS, hS1, gd_t (inb_nI hp (by omega)), nI_clamp (n := p) (by omega), hM, hM1]
  simp only [jn0, gd_t (inb_nI hp (by omega)), nI_clamp (show p < 2 ^ 31 by omega)]
  by_cases q : f = F
  · subst q
    rw [if_pos rfl, if_pos rfl]
    have hX := isAs_X hp hF hS hA hP f 0 200 (by omega) (by omega)
    obtain ⟨hM0, hM'⟩ := isSame_M (M := M) hp hF hM1 f 0 200 (by omega) (by omega)
    rw [nI_0] at hX hM0 hM'
    rw [← Fo_iff] at hM'
    have key : ∃ fo, isDir fo ∧ lq1 (fX2_isAs_L15 S (30 + 7 * p) 1) 200 0 = some fo ∧ lq2 (fX9_isSame_L43 M (nI p)) 200 1 0 = some fo := by
      rcases hX with ⟨z1, z2⟩ | ⟨z1, z2⟩ <;> rcases hM' with ⟨w1, w2⟩ | ⟨w1, w2⟩
      · exact ⟨1, isDir_1, z2, w2⟩
      · exact absurd z1 w1
      · exact absurd w1 z1
      · exact ⟨0, isDir_0, z2, w2⟩
    obtain ⟨fo, k1, k2, k3⟩ := key
    refine ⟨fo, k1, k2, ?_⟩
    by_cases q1 : gi M 6 p = w
    · by_cases q2 : gi M 7 p = t
      · rw [if_pos q1, if_pos q2, if_pos ⟨q1, q2⟩]
        exact k3
      · rw [if_pos q1, if_neg q2, if_neg (fun z => q2 z.2)]
        exact hM0
    · rw [if_neg q1, if_neg (fun z => q1 z.1)]
      exact hM0
  · obtain ⟨hM0, -⟩ := isSame_M (M := M) hp hF hM1 F 0 200 (by omega) (by omega)
    rw [nI_0] at hM0
    have q' : ¬ nI f = nI F := nI_neq q (by omega) (by omega)
    rw [if_neg q', if_neg q']
    refine ⟨0, isDir_0, rfl, ?_⟩
    simp only [bn1_s]
    rw [hM0]
    split <;> rfl
theorem ag_redraw : Ag_redraw Rel := by
  intro S M hR p1 p2 p3
  have hR' := hR
  obtain ⟨P, T, B, F, hN⟩ := hR
  obtain ⟨h1, h2, h3, h4, h5, h6, h7, h8⟩ := id hN
  obtain ⟨⟨a1, a2, a3, a4⟩, ⟨b1, b2, b3, b4⟩, c1, c2, c3, c4⟩ := h1
  rcases part_cs b1 c1 a1 p1 with ⟨p, hp, rfl, e1, e2⟩ | ⟨e1, e2⟩
  rotate_left
  · refine Or.inr (Or.inl ⟨0, S, si M 0 0 1, ?_, ?_, rfl, hR'.thr, scrM_t⟩)
    · unfold fX8_redraw
      rw [e1]; rfl
    · unfold fX9_redraw
      rw [e2]; rfl
  have hp8 : p < 8 := by omega
  by_cases g1 : ((10 : Int32) ≤ p2 ∧ p2 ≤ 300) ∧ ((1 : Int32) ≤ p3 ∧ p3 ≤ 4)
  rotate_left
  · obtain ⟨f1, f2⟩ := sheet_out g1
    refine Or.inr (Or.inr (Or.inl ⟨0, S, si M 0 0 2, ?_, ?_, rfl, hR'.thr, scrM_t⟩))
    · unfold fX8_redraw
      rw [e1, f1]; rfl
    · unfold fX9_redraw
      rw [e2, f2]; rfl
  obtain ⟨f1, f2⟩ := sheet_in g1.1 g1.2
  by_cases g2 : F = 0
  · refine Or.inr (Or.inr (Or.inr ⟨0, S, si M 0 0 3, ?_, ?_, rfl, hR'.thr, scrM_t⟩))
    · unfold fX8_redraw
      rw [e1, f1, pad_cs b4 a4, if_pos g2]; rfl
    · unfold fX9_redraw
      rw [e2, f2, c4]
      simp only [bn1_s, if_neg (show ¬ (1 : Int32) = 0 by decide), if_pos ((nI_eq0 (show F < 2 ^ 31 by omega)).mpr g2)]
      rfl
  have g2' : ¬ nI F = 0 := fun z => g2 ((nI_eq0 (by omega)).mp z)
  obtain ⟨th, t1, t2, rfl⟩ := btw_nat (a := 1) (b := 4) g1.2 (by omega) (by omega)
  have hN0 := RelN.thr (k := 0) hN
  obtain ⟨f, th0, h, hb, ⟨u1, u2⟩, u3, ⟨u4, u5⟩, ⟨u6, u7⟩, u8, ⟨u9, u10⟩, u11⟩ := id (hN0.2.2.1 p hp)
  have c4' : gi (si M 0 0 0) 0 1 = nI F := by rw [gi_nj (by decide)]; exact c4
  obtain ⟨fo, k1, k2, k3⟩ := same_eq (S := S) (M := si M 0 0 0) (p := p) (f := f) (F := F) (w := p2) (t := nI th) (pw := 0) hp8 hb.2.1 a4 u1 b4 u2 c4' u3 hN0.2.1
  obtain ⟨S', M', x1, x2, x3, x4, x5, ⟨x6, x7⟩, x8, ⟨x9, x10⟩, ⟨x11, x12⟩, x13, x14⟩ := draw_eq (p := p) (S := S) (M := si M 0 0 0) (w := p2) (th := nI th) hp8 (by omega) a4 b4 c4' hN0.2.1
  have hrv := h8 p hp8
  have r1 : gi S' (29 + 7 * p) 3 = gi M 8 p := by rw [x3 _ _ (by omega)]; exact hrv
  have r2 : gi M' 8 p = gi M 8 p := by rw [x4 _ _ (by omega) (by omega) (by omega), gi_ne (by decide)]
  have hx : ∀ k j, (k < 29 + 7 * p ∨ 32 + 7 * p < k) → k ≠ 1 → gi (si (si S' (29 + 7 * p) 3 (gi M 8 p + 1)) 1 2 0) k j = gi S k j := fun k j z1 z3 => by
    rw [gi_ne z3, gi_ne (by omega), x3 k j (by omega)]
  have hm : ∀ k j, ¬ (k = 0 ∧ (j = 1 ∨ j = 0)) → ¬ ((k = 3 ∨ k = 6 ∨ k = 7 ∨ k = 9 ∨ k = 8) ∧ j = p) → ¬ ((k = 4 ∨ k = 5) ∧ 6 * p ≤ j ∧ j < 6 * p + 6) → gi (si M' 8 p (gi M 8 p + 1)) k j = gi M k j := fun k j z1 z2 z3 => by
    rw [gi_if, if_neg (by omega), x4 k j (by omega) (by omega) z3, gi_if, if_neg (by omega)]
  have hN2 : RelN P T B 0 (si (si S' (29 + 7 * p) 3 (gi M 8 p + 1)) 1 2 0) (si M' 8 p (gi M 8 p + 1)) := by
    refine ⟨⟨⟨a1, a2, a3, by omega⟩, ⟨?_, ?_, ?_, ?_⟩, ?_, ?_, ?_, ?_⟩, ⟨fun i h => absurd h (Nat.not_lt_zero i), fun i h => absurd h (Nat.not_lt_zero _)⟩, fun p' hp' => ?_, fun t ht => (h4 t ht).keep (fun k j a b => hx _ _ (by omega) (by omega)) (fun k a b => hm _ _ (by omega) (by omega) (by omega)) (fun j b => hm _ _ (by omega) (by omega) (by omega)),
      fun t' h9 ht' => (h5 t' h9 ht').keep (fun j => hx _ _ (by omega) (by omega)), fun b hb => (h6 b hb).keep (Nat.le_refl P) (Nat.le_refl T) (fun j => hx _ _ (by omega) (by omega)) (fun k a b => hm _ _ (by omega) (by omega) (by omega)), h7.keep (fun j => hx _ _ (by omega) (by omega)) (fun j => hm _ _ (by omega) (by omega) (by omega)) (hx _ _ (by omega) (by omega)), fun p' hp' => ?_⟩
    · rw [hx _ _ (by omega) (by omega)]; exact b1
    · rw [hx _ _ (by omega) (by omega)]; exact b2
    · rw [hx _ _ (by omega) (by omega)]; exact b3
    · rw [gi_eq]; rfl
    · rw [hm _ _ (by omega) (by omega) (by omega)]; exact c1
    · rw [hm _ _ (by omega) (by omega) (by omega)]; exact c2
    · rw [hm _ _ (by omega) (by omega) (by omega)]; exact c3
    · rw [gi_ne (by decide), x5]; rfl
    · by_cases q : p' = p
      · subst q
        refine ⟨F, th, 0, ⟨by omega, a4, t1, t2, by omega⟩, ⟨?_, ?_⟩, x8.keep (fun j => ?_) (fun j => ?_) (fun j _ => ?_) (fun j _ => ?_), ⟨?_, ?_⟩, ⟨?_, ?_⟩, ?_, ⟨?_, ?_⟩, fun j hj => absurd hj (Nat.not_lt_zero j)⟩
        · rw [gi_ne (by omega), gi_ne (by omega)]; exact x6
        · rw [gi_ne (by omega)]; exact x7
        · rw [gi_ne (by omega), gi_ne (by omega)]
        · rw [gi_ne (by omega), gi_ne (by omega)]
        · rw [gi_ne (by omega)]
        · rw [gi_ne (by omega)]
        · rw [gi_ne (by omega), gi_nj (by omega), gi_ne (by omega), x9, x10]
        · rw [gi_ne (by omega), x10]; exact g1.1
        · rw [gi_ne (by omega), gi_nj (by omega)]; exact x11
        · rw [gi_ne (by omega)]; exact x12
        · rw [gi_ne (by omega), gi_eq, gi_eq]
        · rw [gi_ne (by omega), gi_nj (by omega), x13]; rfl
        · rw [gi_ne (by omega), x14]; rfl
      · exact (h3 p' hp').keep (fun k j a b => hx _ _ (by omega) (by omega)) (fun k a b _ _ => hm _ _ (by omega) (by omega) (by omega)) (fun k j a b => hm _ _ (by omega) (by omega) (by omega))
    · by_cases q : p' = p
      · subst q
        rw [gi_ne (by omega), gi_eq, gi_eq]
      · rw [hx _ _ (by omega) (by omega), hm _ _ (by omega) (by omega) (by omega)]
        exact h8 p' hp'
  have h00 : gi (si M' 8 p (gi M 8 p + 1)) 0 0 = 0 := by rw [gi_ne (by decide), x4 _ _ (by omega) (by omega) (by omega), gi_eq]
  have u4' : gi S (29 + 7 * p) 1 = gi (si M 0 0 0) 6 p := u4
  have fin : ∀ li, isDir li → (if li = 0 then (0 : Int32) else fo) = (if li = 0 then 0 else fo) → (∀ r S'' M'', lq3 (fX8_changeBatches_L6 (nI p) fo li) 200 0 0 (si (si S' (29 + 7 * p) 3 (gi M 8 p + 1)) 1 2 0) = some (r, S'') → lq3 (fX9_redraw_L134 (nI p) li (if li = 0 then 0 else fo)) 200 0 0 (si M' 8 p (gi M 8 p + 1)) = some (r, M'') → fX8_redraw S (nI p) p2 (nI th) = some (.inr r, S'') ∧ fX9_redraw M (nI p) p2 (nI th) = some (r, M'')) → AgV Rel (fX8_redraw S (nI p) p2 (nI th)) (fX9_redraw M (nI p) p2 (nI th)) := fun li hli _ hh => by
    obtain ⟨r, S'', M'', w1, w2, w3, w4⟩ := change_eq hp a1 a3 hli k1 B 0 200 0 _ _ (by omega) (by omega) hN2 h00
    rw [nI_0] at w1 w2
    obtain ⟨v1, v2⟩ := hh r S'' M'' w1 w2
    refine ⟨r, S'', M'', v1, v2, ?_, P, T, B, 0, w3⟩
    unfold fX9_thrown
    rw [w4]
  left
  have hX : ∀ li y, (if (gi (si M 0 0 0) 6 p = p2 ∧ th0 = th) ∧ h = 0 then (1 : Int32) else 0) = li → lq3 (fX8_changeBatches_L6 (nI p) fo li) 200 0 0 (si (si S' (29 + 7 * p) 3 (gi M 8 p + 1)) 1 2 0) = some y → fX8_redraw S (nI p) p2 (nI th) = some (.inr y.1, y.2) := fun li y hli hy => by
    subst hli
    unfold fX8_redraw fX8_changeBatches
    rw [e1, f1, pad_cs b4 a4, if_neg g2]
    simp only [bx, jn0, u9, u4', u6, k2, x1, r1, bv, bn1_s]
    have q3 : (nI h ≤ 0) ↔ h = 0 := by
      constructor
      · intro z
        by_cases w : h = 0
        · exact w
        · exact absurd z (nI_nle (by omega) (by omega))
      · rintro rfl; decide
    have q4 : (nI th0 = nI th) ↔ th0 = th := nI_eq (by omega) (by omega)
    simp only [q3, q4]
    by_cases z1 : gi (si M 0 0 0) 6 p = p2 <;> by_cases z2 : th0 = th <;> by_cases z3 : h = 0 <;> simp only [z1, z2, z3, if_true, if_false, bn1_s, and_self, and_true, true_and, and_false, false_and, if_neg (show ¬ (1 : Int32) = 0 by decide)] at hy ⊢ <;> rw [hy] <;> rfl
  have hM : ∀ li y, (if (gi (si M 0 0 0) 6 p = p2 ∧ th0 = th) ∧ h = 0 then (1 : Int32) else 0) = li → lq3 (fX9_redraw_L134 (nI p) li (if li = 0 then 0 else fo)) 200 0 0 (si M' 8 p (gi M 8 p + 1)) = some y → fX9_redraw M (nI p) p2 (nI th) = some y := fun li y hli hy => by
    subst hli
    unfold fX9_redraw
    rw [e2, f2, c4]
    simp only [bn1_s, if_neg (show ¬ (1 : Int32) = 0 by decide), if_neg g2', well_0, bn2_s, k3, jn0, gd_t (inb_nI hp8 (by omega)), nI_clamp (show p < 2 ^ 31 by omega), u7, u10, x2, r2, bv]
    have q3 : (nI h = 0) ↔ h = 0 := nI_eq0 (by omega)
    have q4 : (nI th0 = nI th) ↔ th0 = th := nI_eq (by omega) (by omega)
    simp only [q3, q4]
    by_cases z1 : gi (si M 0 0 0) 6 p = p2 <;> by_cases z2 : th0 = th <;> by_cases z3 : h = 0 <;> simp only [z1, z2, z3, if_true, if_false, bn1_s, and_self, and_true, true_and, and_false, false_and, if_neg (show ¬ (1 : Int32) = 0 by decide)] at hy ⊢ <;> first | (rw [hy]; rfl) | (rcases k1 with rfl | rfl <;> simp only [if_true, if_neg (show ¬ (1 : Int32) = 0 by decide), bn1_s] at hy ⊢ <;> rw [hy] <;> rfl)
  by_cases qq : (gi (si M 0 0 0) 6 p = p2 ∧ th0 = th) ∧ h = 0
  · exact fin 1 isDir_1 rfl (fun r S'' M'' w1 w2 => ⟨hX 1 (r, S'') (if_pos qq) w1, hM 1 (r, M'') (if_pos qq) w2⟩)
  · exact fin 0 isDir_0 rfl (fun r S'' M'' w1 w2 => ⟨hX 0 (r, S'') (if_neg qq) w1, hM 0 (r, M'') (if_neg qq) w2⟩)
