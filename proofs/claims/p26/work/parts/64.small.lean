theorem ag_trial : Ag_trial Rel := by
  intro S M hR p1 p2 p3
  have hR' := hR
  obtain ⟨P, T, B, F, hN⟩ := hR
  obtain ⟨h1, h2, h3, h4, h5, h6, h7, h8⟩ := id hN
  obtain ⟨⟨a1, a2, a3, a4⟩, ⟨b1, b2, b3, b4⟩, c1, c2, c3, c4⟩ := h1
  rcases tool_cs b2 c2 a2 p1 with ⟨t, ht, rfl, e1, e2⟩ | ⟨e1, e2⟩
  · by_cases g1 : (1 : Int32) ≤ p2 ∧ p2 ≤ 4
    · by_cases g2 : (0 : Int32) ≤ p3 ∧ p3 ≤ 9
      · obtain ⟨i, i1, i2, rfl⟩ := btw_nat (a := 1) (b := 4) g1 (by omega) (by omega)
        obtain ⟨x1, x2⟩ := (h4 t ht).2.2 i i1 i2
        left
        refine ⟨gi M 18 (5 * t + i), si S (86 + 2 * t) i p3, si (si M 0 0 0) 18 (5 * t + i) p3, ?_, ?_, ?_, P, T, B, F, ?_⟩
        · unfold fX8_trial
          rw [e1]
          simp only [bx, isOut_in g1, isOut_in g2, bn1_s, if_pos, gd_t (inb_nI (show i < 5 by omega) (by omega)), bv, nI_clamp (show i < 2 ^ 31 by omega), show 85 + 2 * t + 1 = 86 + 2 * t by omega, x1]
        · unfold fX9_trial jn0
          rw [e2]
          simp only [bn1_s, if_neg (show ¬ (1 : Int32) = 0 by decide), in_in g1, in_in g2, well_0, bn2_s, ix5, gd_t (inb_nI (show 5 * t + i < 20 by omega) (by omega)), bv, nI_clamp (show 5 * t + i < 2 ^ 31 by omega), gi_ne (show (18 : Nat) ≠ 0 by decide)]
        · unfold fX9_thrown
          rw [gi_ne (by decide), gi_eq]
        · refine ⟨hN.1.keep (fun j _ => gi_ne (by omega)) (gi_ne (by omega)) (fun j h0 _ => by rw [gi_ne (by omega), gi_nj h0]), h2.keep (fun j => gi_ne (by omega)) (fun j => gi_ne (by omega)) (fun j _ => by rw [gi_ne (by omega), gi_ne (by omega)]) (fun j _ => by rw [gi_ne (by omega), gi_ne (by omega)]),
            fun p hp => (h3 p hp).keep (fun k j a b => gi_ne (by omega)) (fun k a b _ _ => by rw [gi_ne (by omega), gi_ne (by omega)]) (fun k j a b => by rw [gi_ne (by omega), gi_ne (by omega)]), fun t' ht' => ?_,
            fun t' h9 ht' => (h5 t' h9 ht').keep (fun j => gi_ne (by omega)), fun b hb => (h6 b hb).keep (Nat.le_refl P) (Nat.le_refl T) (fun j => gi_ne (by omega)) (fun k a b => by rw [gi_ne (by omega), gi_ne (by omega)]), h7.keep (fun j => gi_ne (by omega)) (fun j => by rw [gi_ne (by omega), gi_ne (by omega)]) (gi_ne (by omega)), h8.keep (fun p hp => gi_ne (by omega)) (fun p hp => by rw [gi_ne (by omega), gi_ne (by omega)])⟩
          by_cases q : t' = t
          · subst q
            obtain ⟨⟨y1, y2, y3, y4, y5⟩, y6, y7⟩ := h4 t' ht
            refine ⟨⟨?_, ?_, ?_, ?_, ?_⟩, ?_, fun j j1 j2 => ?_⟩
            iterate 5 (· rw [gi_ne (by omega), gi_ne (by omega), gi_ne (by omega)]; assumption)
            · rw [gi_ne (by omega), gi_ne (by omega), gi_ne (by omega), gi_ne (by omega), gi_ne (by omega), gi_ne (by omega), gi_ne (by omega), gi_ne (by omega), gi_ne (by omega), gi_ne (by omega)]
              exact y6
            · by_cases r : j = i
              · subst r
                rw [gi_eq, gi_eq]
                exact ⟨rfl, g2⟩
              · rw [gi_nj r, gi_nj (by omega), gi_ne (by omega)]
                exact y7 j j1 j2
          · exact (h4 t' ht').keep (fun k j a b => gi_ne (by omega)) (fun k a b => by rw [gi_ne (by omega), gi_ne (by omega)]) (fun j b => by rw [gi_nj (by omega), gi_ne (by omega)])
      · right; right
        refine ⟨0, S, si M 0 0 2, ?_, ?_, rfl, hR'.thr, scrM_t⟩
        · unfold fX8_trial
          rw [e1]
          simp only [bx, isOut_in g1, isOut_out g2, bn1_s]
          rfl
        · unfold fX9_trial jn0
          rw [e2]
          simp only [bn1_s, if_neg (show ¬ (1 : Int32) = 0 by decide), in_in g1, in_out g2]
          rfl
    · right; right
      refine ⟨0, S, si M 0 0 2, ?_, ?_, rfl, hR'.thr, scrM_t⟩
      · unfold fX8_trial
        rw [e1]
        simp only [bx, isOut_out g1, bn1_s]
        rfl
      · unfold fX9_trial jn0
        rw [e2]
        simp only [bn1_s, if_neg (show ¬ (1 : Int32) = 0 by decide), in_out g1]
        rfl
  · right; left
    refine ⟨0, S, si M 0 0 1, ?_, ?_, rfl, hR'.thr, scrM_t⟩
    · unfold fX8_trial
      rw [e1]; rfl
    · unfold fX9_trial jn0
      rw [e2]; rfl
/-! the lot -/
theorem wanted_eq {P : Nat} {M : St} {q : Nat → Nat} (hP : P ≤ 8) (h1 : gi M 0 4 = nI P) (h2 : ∀ i, i < P → gi M 19 i = nI (q i)) : fX9_wanted M = some (nI (sumN q P)) := by
  have key : ∀ (n k m : Nat), k + n = P → n < m → lq2 (fX9_wanted_L4 M) m (nI (sumN q k)) (nI k) = some (nI (sumN q P)) := by
    intro n
    induction n with
    | zero =>
      intro k m hk hm
      obtain ⟨m, rfl⟩ : ∃ q, m = q + 1 := ⟨m - 1, by omega⟩
      obtain rfl : k = P := by omega
      rw [lq2_1, fX9_wanted_L4, h1, if_pos (nI_le (by omega) (by omega))]
    | succ n ih =>
      intro k m hk hm
      obtain ⟨m, rfl⟩ : ∃ q, m = q + 1 := ⟨m - 1, by omega⟩
      rw [lq2_1, fX9_wanted_L4, h1, if_neg (nI_ge (by omega) (by omega)), gd_t (inb_nI (show k < 8 by omega) (by omega)), nI_clamp (n := k) (by omega), h2 k (by omega)]
      simp only [bv, nI_add, nI_1]
      exact ih (k + 1) m (by omega) (by omega)
  unfold fX9_wanted
  rw [show (0 : Int32) = nI 0 from rfl]
  have := key P 0 200 (by omega) (by omega)
  rw [show sumN q 0 = 0 from rfl] at this
  rw [this]
  rfl
theorem sumN_up {q : Nat → Nat} {p w : Nat} : ∀ n, sumN (fun i => if i = p then q p + w else q i) n = sumN q n + if p < n then w else 0 := by
  intro n
  induction n with
  | zero => simp [sumN]
  | succ n ih =>
    rw [sumN, ih, sumN]
    by_cases h : n = p
    · subst h
      rw [if_neg (Nat.lt_irrefl _), if_pos rfl, if_pos (Nat.lt_succ_self _)]
      omega
    · rw [if_neg h]
      by_cases h2 : p < n
      · rw [if_pos h2, if_pos (by omega)]; omega
      · rw [if_neg h2, if_neg (by omega)]; omega
theorem ag_want : Ag_want Rel := by
  intro S M hR p1 p2
  have hR' := hR
  obtain ⟨P, T, B, F, hN⟩ := hR
  obtain ⟨h1, h2, h3, h4, h5, h6, h7, h8⟩ := id hN
  obtain ⟨⟨a1, a2, a3, a4⟩, ⟨b1, b2, b3, b4⟩, c1, c2, c3, c4⟩ := h1
  obtain ⟨q, q1, q2, q3, q4⟩ := h7
  rcases part_cs b1 c1 a1 p1 with ⟨p, hp, rfl, e1, e2⟩ | ⟨e1, e2⟩
  · by_cases g1 : (1 : Int32) ≤ p2 ∧ p2 ≤ 40
    · obtain ⟨w, w1, w2, rfl⟩ := btw_nat (a := 1) (b := 40) g1 (by omega) (by omega)
      have hwant : fX9_wanted M = some (nI (sumN q P)) := wanted_eq a1 c1 (fun i hi => (q1 i (by omega)).2)
      by_cases g2 : sumN q P + w ≤ 40
      · left
        have hs : sumN (fun i => if i = p then q p + w else q i) P = sumN q P + w := by rw [sumN_up, if_pos hp]
        have hw2 : fX9_wanted (si (si M 0 0 0) 19 p (nI (q p + w))) = some (nI (sumN q P + w)) := by
          rw [← hs]
          refine wanted_eq a1 (by rw [gi_ne (by decide), gi_nj (by decide)]; exact c1) (fun i hi => ?_)
          by_cases r : i = p
          · subst r
            rw [gi_eq, if_pos rfl]
          · rw [gi_nj r, gi_ne (by decide), if_neg r]
            exact (q1 i (by omega)).2
        refine ⟨nI (sumN q P + w), si (si S 6 p (nI (q p + w))) 0 6 (nI (sumN q P + w)), si (si M 0 0 0) 19 p (nI (q p + w)), ?_, ?_, ?_, P, T, B, F, ?_⟩
        · unfold fX8_want
          rw [e1]
          simp only [bx, isOut_in g1, bn1_s, if_pos, q3, nI_add]
          rw [if_pos (show nI (sumN q P + w) ≤ 40 from nI_le (b := 40) g2 (by decide))]
          simp only [gd_t (inb_nI (show p < 8 by omega) (by omega)), bv, nI_clamp (show p < 2 ^ 31 by omega), (q1 p (by omega)).1, nI_add, gi_ne (show (0 : Nat) ≠ 6 by decide), q3, gi_eq]
        · unfold fX9_want
          rw [e2]
          simp only [bn1_s, if_neg (show ¬ (1 : Int32) = 0 by decide), in_in g1, hwant, nI_add]
          rw [if_pos (show nI (sumN q P + w) ≤ 40 from nI_le (b := 40) g2 (by decide))]
          simp only [bn1_s, well_0, bn2_s, if_neg (show ¬ (1 : Int32) = 0 by decide), gd_t (inb_nI (show p < 8 by omega) (by omega)), bv, nI_clamp (show p < 2 ^ 31 by omega), gi_ne (show (19 : Nat) ≠ 0 by decide), (q1 p (by omega)).2, nI_add, hw2]
        · unfold fX9_thrown
          rw [gi_ne (by decide), gi_eq]
        · refine ⟨hN.1.keep (fun j hj => by rw [gi_nj (by omega), gi_ne (by omega)]) (by rw [gi_ne (by omega), gi_ne (by omega)]) (fun j h0 _ => by rw [gi_ne (by omega), gi_nj h0]), h2.keep (fun j => by rw [gi_ne (by omega), gi_ne (by omega)]) (fun j => by rw [gi_ne (by omega), gi_ne (by omega)]) (fun j _ => by rw [gi_ne (by omega), gi_ne (by omega)]) (fun j _ => by rw [gi_ne (by omega), gi_ne (by omega)]),
            fun p hp => (h3 p hp).keep (fun k j a b => by rw [gi_ne (by omega), gi_ne (by omega)]) (fun k a b _ _ => by rw [gi_ne (by omega), gi_ne (by omega)]) (fun k j a b => by rw [gi_ne (by omega), gi_ne (by omega)]), fun t ht => (h4 t ht).keep (fun k j a b => by rw [gi_ne (by omega), gi_ne (by omega)]) (fun k a b => by rw [gi_ne (by omega), gi_ne (by omega)]) (fun j b => by rw [gi_ne (by omega), gi_ne (by omega)]),
            fun t' h9 ht' => (h5 t' h9 ht').keep (fun j => by rw [gi_ne (by omega), gi_ne (by omega)]), fun b hb => (h6 b hb).keep (Nat.le_refl P) (Nat.le_refl T) (fun j => by rw [gi_ne (by omega), gi_ne (by omega)]) (fun k a b => by rw [gi_ne (by omega), gi_ne (by omega)]), ⟨fun i => if i = p then q p + w else q i, fun i hi => ?_, fun i hi => ?_, ?_, by rw [hs]; exact g2⟩, h8.keep (fun p hp => by rw [gi_ne (by omega), gi_ne (by omega)]) (fun p hp => by rw [gi_ne (by omega), gi_ne (by omega)])⟩
          · rw [gi_ne (by decide)]
            dsimp only
            by_cases r : i = p
            · subst r
              rw [gi_eq, gi_eq, if_pos rfl]
              exact ⟨rfl, rfl⟩
            · rw [gi_nj r, gi_nj r, gi_ne (by decide), if_neg r]
              exact q1 i hi
          · dsimp only
            rw [if_neg (by omega)]
            exact q2 i hi
          · rw [gi_eq, hs]
      · right; right; right
        refine ⟨0, S, si M 0 0 3, ?_, ?_, rfl, hR'.thr, scrM_t⟩
        · unfold fX8_want
          rw [e1]
          simp only [bx, isOut_in g1, bn1_s, if_pos, q3, nI_add]
          rw [if_neg (show ¬ nI (sumN q P + w) ≤ 40 from nI_ge (a := 40) (by omega) (by omega))]
        · unfold fX9_want
          rw [e2]
          simp only [bn1_s, if_neg (show ¬ (1 : Int32) = 0 by decide), in_in g1, hwant, nI_add]
          rw [if_neg (show ¬ nI (sumN q P + w) ≤ 40 from nI_ge (a := 40) (by omega) (by omega))]
          rfl
    · right; right; left
      refine ⟨0, S, si M 0 0 2, ?_, ?_, rfl, hR'.thr, scrM_t⟩
      · unfold fX8_want
        rw [e1]
        simp only [bx, isOut_out g1, bn1_s]
        rfl
      · unfold fX9_want
        rw [e2]
        simp only [bn1_s, if_neg (show ¬ (1 : Int32) = 0 by decide), in_out g1]
        rfl
  · right; left
    refine ⟨0, S, si M 0 0 1, ?_, ?_, rfl, hR'.thr, scrM_t⟩
    · unfold fX8_want
      rw [e1]; rfl
    · unfold fX9_want
      rw [e2]; rfl
theorem clear_X : ∀ (n k m : Nat) (S : St), k + n = 8 → n < m → ∃ S', lq2 fX8_clear_L7 m (nI k) S = some S' ∧ (∀ k' j, k' ≠ 6 ∨ j < k → gi S' k' j = gi S k' j) ∧ ∀ j, k ≤ j → j < 8 → gi S' 6 j = 0 := by
  intro n
  induction n with
  | zero =>
    intro k m S hk hm
    obtain ⟨m, rfl⟩ : ∃ q, m = q + 1 := ⟨m - 1, by omega⟩
    refine ⟨S, ?_, fun _ _ _ => rfl, fun j h1 h2 => by omega⟩
    rw [lq2_1, fX8_clear_L7, if_pos (show (8 : Int32) ≤ nI k from nI_le (a := 8) (by omega) (by omega))]
  | succ n ih =>
    intro k m S hk hm
    obtain ⟨m, rfl⟩ : ∃ q, m = q + 1 := ⟨m - 1, by omega⟩
    obtain ⟨S', e1, e2, e3⟩ := ih (k + 1) m (si S 6 k 0) (by omega) (by omega)
    refine ⟨S', ?_, fun k' j h => ?_, fun j h1 h2 => ?_⟩
    · rw [lq2_1, fX8_clear_L7, if_neg (show ¬ (8 : Int32) ≤ nI k from nI_ge (b := 8) (by omega) (by omega)), gd_t (inb_nI (by omega) (by omega)), nI_clamp (n := k) (by omega)]
      simp only [bv, nI_1]
      exact e1
    · rw [e2 k' j (by omega)]
      rcases h with h | h
      · exact gi_ne h
      · exact gi_nj (by omega)
    · by_cases q : j = k
      · subst q
        rw [e2 6 j (by omega), gi_eq]
      · exact e3 j (by omega) h2
theorem clear_M : ∀ (n k m : Nat) (S : St), k + n = 8 → n < m → ∃ S', lq2 fX9_clear_L12 m (nI k) S = some S' ∧ (∀ k' j, k' ≠ 19 ∨ j < k → gi S' k' j = gi S k' j) ∧ ∀ j, k ≤ j → j < 8 → gi S' 19 j = 0 := by
  intro n
  induction n with
  | zero =>
    intro k m S hk hm
    obtain ⟨m, rfl⟩ : ∃ q, m = q + 1 := ⟨m - 1, by omega⟩
    refine ⟨S, ?_, fun _ _ _ => rfl, fun j h1 h2 => by omega⟩
    rw [lq2_1, fX9_clear_L12, if_pos (show (8 : Int32) ≤ nI k from nI_le (a := 8) (by omega) (by omega))]
  | succ n ih =>
    intro k m S hk hm
    obtain ⟨m, rfl⟩ : ∃ q, m = q + 1 := ⟨m - 1, by omega⟩
    obtain ⟨S', e1, e2, e3⟩ := ih (k + 1) m (si S 19 k 0) (by omega) (by omega)
    refine ⟨S', ?_, fun k' j h => ?_, fun j h1 h2 => ?_⟩
    · rw [lq2_1, fX9_clear_L12, if_neg (show ¬ (8 : Int32) ≤ nI k from nI_ge (b := 8) (by omega) (by omega)), gd_t (inb_nI (by omega) (by omega)), nI_clamp (n := k) (by omega)]
      simp only [bv, nI_1]
      exact e1
    · rw [e2 k' j (by omega)]
      rcases h with h | h
      · exact gi_ne h
      · exact gi_nj (by omega)
    · by_cases q : j = k
      · subst q
        rw [e2 19 j (by omega), gi_eq]
      · exact e3 j (by omega) h2
theorem ag_clear : Ag_clear Rel := by
  intro S M hR
  obtain ⟨P, T, B, F, hN⟩ := hR
  obtain ⟨h1, h2, h3, h4, h5, h6, h7, h8⟩ := id hN
  obtain ⟨⟨a1, a2, a3, a4⟩, ⟨b1, b2, b3, b4⟩, c1, c2, c3, c4⟩ := h1
  obtain ⟨q, q1, q2, q3, q4⟩ := h7
  obtain ⟨S', x1, x2, x3⟩ := clear_X 8 0 200 S (by omega) (by omega)
  obtain ⟨M', y1, y2, y3⟩ := clear_M 8 0 200 (si M 0 0 0) (by omega) (by omega)
  have hw : fX9_wanted (si M 0 0 0) = some (nI (sumN q P)) := wanted_eq a1 (by rw [gi_nj (by decide)]; exact c1) (fun i hi => by rw [gi_ne (by decide)]; exact (q1 i (by omega)).2)
  rw [nI_0] at x1 y1
  refine ⟨nI (sumN q P), si S' 0 6 0, M', ?_, ?_, P, T, B, F, ?_⟩
  · unfold fX8_clear
    simp only [bv]
    rw [x1, q3]
    rfl
  · unfold fX9_clear
    simp only [bv, hw, bn1_s, y1]
  · refine ⟨hN.1.keep (fun j hj => by rw [gi_nj (by omega), x2 _ _ (by omega)]) (by rw [gi_ne (by omega), x2 _ _ (by omega)]) (fun j h0 _ => by rw [y2 _ _ (by omega), gi_nj h0]), h2.keep (fun j => by rw [gi_ne (by omega), x2 _ _ (by omega)]) (fun j => by rw [gi_ne (by omega), x2 _ _ (by omega)]) (fun j _ => by rw [y2 _ _ (by omega), gi_ne (by omega)]) (fun j _ => by rw [y2 _ _ (by omega), gi_ne (by omega)]),
      fun p hp => (h3 p hp).keep (fun k j a b => by rw [gi_ne (by omega), x2 _ _ (by omega)]) (fun k a b _ _ => by rw [y2 _ _ (by omega), gi_ne (by omega)]) (fun k j a b => by rw [y2 _ _ (by omega), gi_ne (by omega)]), fun t ht => (h4 t ht).keep (fun k j a b => by rw [gi_ne (by omega), x2 _ _ (by omega)]) (fun k a b => by rw [y2 _ _ (by omega), gi_ne (by omega)]) (fun j b => by rw [y2 _ _ (by omega), gi_ne (by omega)]),
      fun t' h9 ht' => (h5 t' h9 ht').keep (fun j => by rw [gi_ne (by omega), x2 _ _ (by omega)]), fun b hb => (h6 b hb).keep (Nat.le_refl P) (Nat.le_refl T) (fun j => by rw [gi_ne (by omega), x2 _ _ (by omega)]) (fun k a b => by rw [y2 _ _ (by omega), gi_ne (by omega)]), ⟨fun _ => 0, fun p hp => ⟨?_, ?_⟩, fun _ _ => rfl, ?_, ?_⟩, h8.keep (fun p hp => by rw [gi_ne (by omega), x2 _ _ (by omega)]) (fun p hp => by rw [y2 _ _ (by omega), gi_ne (by omega)])⟩
    · rw [gi_ne (by decide), x3 p (by omega) hp]; rfl
    · rw [y3 p (by omega) hp]; rfl
    · rw [gi_eq, sumN_0 (fun _ => rfl)]; rfl
    · rw [sumN_0 (fun _ => rfl)]; omega
