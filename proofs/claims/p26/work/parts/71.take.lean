/-! ===== pieces are taken ===== -/
theorem inner_0 {x a : Int32} {M : St} {m : Nat} : lq4 (fX9_take_L90 x) (m + 1) a 0 0 M = some (a, M) := by
  rw [lq4_1, fX9_take_L90]
  by_cases q : gi M 0 23 ≤ 0
  · rw [if_pos q]
  · rw [if_neg q, if_pos (by decide)]
theorem inner_eq {P T B F p : Nat} (hP : P ≤ 8) (hB : B ≤ 20) (hp : p < 8) : ∀ (n k m l : Nat) (e a : Int32) (S M : St), k + n = B → n < m → l ≤ 50 → RelN P T B F S M → gi M 0 0 = 0 → ∃ e' S' M', lq4 (fX8_takePieces_L8 (nI p)) m (nI l) e (nI k) S = some (e', S') ∧ lq4 (fX9_take_L90 (nI p)) m (a + e) (nI l) (nI k) M = some (a + e', M') ∧ RelN P T B F S' M' ∧ gi M' 0 0 = 0 := by
  intro n
  induction n with
  | zero =>
    intro k m l e a S M hk hm hl hN h0
    obtain ⟨m, rfl⟩ : ∃ q, m = q + 1 := ⟨m - 1, by omega⟩
    refine ⟨e, S, M, ?_, ?_, hN, h0⟩
    · rw [lq4_1, fX8_takePieces_L8, hN.1.2.1.2.2.1, if_pos (nI_le (by omega) (by omega))]
    · rw [lq4_1, fX9_take_L90, hN.1.2.2.2.2.1, if_pos (nI_le (by omega) (by omega))]
  | succ n ih =>
    intro k m l e a S M hk hm hl hN h0
    obtain ⟨m, rfl⟩ : ∃ q, m = q + 1 := ⟨m - 1, by omega⟩
    have hkB : k < B := by omega
    obtain ⟨p', t, nn, w, ⟨x1, x2, x3, x4⟩, ⟨y1, y2⟩, ⟨y3, y4⟩, ⟨y5, y6⟩, ⟨y7, y8⟩, y9, y10⟩ := id (hN.2.2.2.2.2.1 k hkB)
    have skip := ih (k + 1) m l e a S M (by omega) (by omega) hl hN h0
    rw [lq4_1, lq4_1, fX8_takePieces_L8, fX9_take_L90, hN.1.2.1.2.2.1, hN.1.2.2.2.2.1, if_neg (nI_ge (show k < B by omega) (by omega)), if_neg (nI_ge (show k < B by omega) (by omega))]
    by_cases q0 : l = 0
    · subst q0
      rw [if_pos (show nI 0 ≤ 0 by decide), if_pos (show nI 0 ≤ 0 by decide)]
      exact ⟨e, S, M, rfl, rfl, hN, h0⟩
    rw [if_neg (nI_nle (show 0 < l by omega) (by omega)), if_neg (nI_nle (show 0 < l by omega) (by omega)), gd_t (inb_nI (show k < 20 by omega) (by omega)), gd_t (inb_nI (show k < 20 by omega) (by omega)), bid_nI (show k < 2 ^ 31 by omega), nI_clamp (show k < 2 ^ 31 by omega), y1, y2, y5, y6, y7, y8]
    by_cases q1 : p' = p
    rotate_left
    · have q1' : ¬ nI p' = nI p := nI_neq q1 (by omega) (by omega)
      simp only [if_neg q1', bn3_s, bv, nI_1]
      exact skip
    have q1' : nI p' = nI p := by rw [q1]
    by_cases q2 : w = 2
    rotate_left
    · have q2' : ¬ nI w = 2 := nI_neq (a := w) (b := 2) q2 (by omega) (by decide)
      simp only [if_pos q1', if_neg q2', gd_t (inb_nI (show k < 20 by omega) (by omega)), bn3_s, bv, nI_1]
      exact skip
    have q2' : nI w = 2 := by rw [q2]; rfl
    by_cases q3 : nn = 0
    · have q3' : nI nn ≤ 0 := by rw [q3]; decide
      simp only [if_pos q1', if_pos q2', if_pos q3', gd_t (inb_nI (show k < 20 by omega) (by omega)), bn3_s, bv, nI_1]
      exact skip
    have q3' : ¬ nI nn ≤ 0 := nI_nle (by omega) (by omega)
    -- what is taken
    obtain ⟨d, d1, d2, d3, d4⟩ : ∃ d, d ≤ nn ∧ d ≤ l ∧ (if nI nn < nI l then nI nn else nI l) = nI d ∧ (if nI l ≤ nI nn then some (nI l) else some (nI nn)) = some (nI d) := by
      by_cases z : nn < l
      · exact ⟨nn, Nat.le_refl nn, by omega, if_pos (nI_lt z (by omega)), if_neg (nI_ge z (by omega))⟩
      · exact ⟨l, by omega, Nat.le_refl l, if_neg (nI_nlt (by omega) (by omega)), if_pos (nI_le (by omega) (by omega))⟩
    have hz : (nI (nn - d) = 0) ↔ nn - d = 0 := nI_eq0 (by omega)
    have e3 : ∀ v, gi (si S (93 + k) 3 v) (93 + k) 3 = v := fun v => gi_eq
    have e22 : ∀ v, gi (si M 22 k v) 22 k = v := fun v => gi_eq
    have go : ∀ c : Int32, ∃ e' S' M', lq4 (fX8_takePieces_L8 (nI p)) m (nI (l - d)) (e + c) (nI (k + 1)) (si S (93 + k) 3 (nI (nn - d))) = some (e', S') ∧ lq4 (fX9_take_L90 (nI p)) m (a + e + c) (nI (l - d)) (nI (k + 1)) (si M 22 k (nI (nn - d))) = some (a + e', M') ∧ RelN P T B F S' M' ∧ gi M' 0 0 = 0 := fun c => by
      rw [Int32.add_assoc]
      refine ih (k + 1) m (l - d) (e + c) a _ _ (by omega) (by omega) (by omega) (hN.bat hkB (fun k' j z => gi_ne z) (fun k' j z1 z2 _ => by rw [gi_if, if_neg (by omega)]) ?_) (by rw [gi_ne (by decide)]; exact h0)
      refine ⟨p', t, nn - d, w, ⟨x1, x2, by omega, x4⟩, ⟨?_, ?_⟩, ⟨?_, ?_⟩, ⟨?_, ?_⟩, ⟨gi_eq, gi_eq⟩, ?_, ?_⟩
      · rw [gi_nj (by decide)]; exact y1
      · rw [gi_ne (by decide)]; exact y2
      · rw [gi_nj (by decide)]; exact y3
      · rw [gi_ne (by decide)]; exact y4
      · rw [gi_nj (by decide)]; exact y5
      · rw [gi_ne (by decide)]; exact y6
      · rw [gi_nj (by decide), gi_ne (by decide)]; exact y9
      · rw [gi_nj (by decide), gi_ne (by decide)]; exact y10
    simp only [if_pos q1', if_pos q2', if_neg q3', gd_t (inb_nI (show k < 20 by omega) (by omega)), d3, d4, bn1_s, bv, nI_subN d1, nI_subN d2, e3, e22, bn1_if, bn3_s, nI_1]
    exact go _
theorem outer_eq {P T B F : Nat} {x : Int32} {l : Nat} (hP : P ≤ 8) (hB : B ≤ 20) (hl : l ≤ 50) : ∀ (n k m : Nat) (a : Int32) (S M : St), k + n = P → n < m → RelN P T B F S M → gi M 0 0 = 0 → ∃ r S' M', lq3 (fX8_take_L50 x (nI l)) m a (nI k) S = some (r, S') ∧ lq3 (fX9_take_L61 x (nI l)) m a (nI k) M = some (r, M') ∧ RelN P T B F S' M' ∧ gi M' 0 0 = 0 := by
  intro n
  induction n with
  | zero =>
    intro k m a S M hk hm hN h0
    obtain ⟨m, rfl⟩ : ∃ q, m = q + 1 := ⟨m - 1, by omega⟩
    refine ⟨a, S, M, ?_, ?_, hN, h0⟩
    · rw [lq3_1, fX8_take_L50, hN.1.2.1.1, if_pos (nI_le (by omega) (by omega))]
    · rw [lq3_1, fX9_take_L61, hN.1.2.2.1, if_pos (nI_le (by omega) (by omega))]
  | succ n ih =>
    intro k m a S M hk hm hN h0
    obtain ⟨m, rfl⟩ : ∃ q, m = q + 1 := ⟨m - 1, by omega⟩
    rw [lq3_1, lq3_1, fX8_take_L50, fX9_take_L61, hN.1.2.1.1, hN.1.2.2.1, if_neg (nI_ge (show k < P by omega) (by omega)), if_neg (nI_ge (show k < P by omega) (by omega))]
    rcases bit_X (x := x) (v := nI k) with ⟨z1, z2⟩ | ⟨z1, z2⟩
    · obtain ⟨e', S', M', w1, w2, w3, w4⟩ := inner_eq (p := k) hP hB (by omega) B 0 200 l 0 a S M (by omega) (by omega) hl hN h0
      rw [nI_0] at w1 w2
      rw [Int32.add_zero] at w2
      obtain ⟨r, S2, M2, v1, v2, v3, v4⟩ := ih (k + 1) m (a + e') S' M' (by omega) (by omega) w3 w4
      refine ⟨r, S2, M2, ?_, ?_, v3, v4⟩
      · rw [z2]
        unfold fX8_takePieces
        simp only [bn1_s, if_neg (show ¬ (1 : Int32) = 0 by decide), w1, bn2_s, bv, nI_1]
        exact v1
      · rw [if_pos (bit_1.mpr z1)]
        simp only [bn1_s, w2, bn2_s, bv, nI_1]
        exact v2
    · obtain ⟨r, S2, M2, v1, v2, v3, v4⟩ := ih (k + 1) m a S M (by omega) (by omega) hN h0
      refine ⟨r, S2, M2, ?_, ?_, v3, v4⟩
      · rw [z2]
        simp only [bn1_s, if_true, bn2_s, bv, nI_1]
        exact v1
      · rw [if_neg (fun z => z1 (bit_1.mp z))]
        have w2 := inner_0 (x := nI k) (a := a) (M := M) (m := 199)
        simp only [bn1_s, w2, bn2_s, bv, nI_1]
        exact v2
theorem ag_take : Ag_take Rel := by
  intro S M hR p1 p2
  have hR' := hR
  obtain ⟨P, T, B, F, hN⟩ := hR
  rcases kit_cs (x := p1) hN.1.1.1 hN.1.2.1.1 hN.1.2.2.1 with ⟨e1, e2⟩ | ⟨e1, e2⟩
  rotate_left
  · refine Or.inr (Or.inl ⟨0, S, si M 0 0 1, ?_, ?_, rfl, hR'.thr, scrM_t⟩)
    · unfold fX8_take
      rw [e1]; rfl
    · unfold fX9_take jn0
      rw [e2]; rfl
  by_cases g1 : (1 : Int32) ≤ p2 ∧ p2 ≤ 50
  rotate_left
  · refine Or.inr (Or.inl ⟨0, S, si M 0 0 1, ?_, ?_, rfl, hR'.thr, scrM_t⟩)
    · unfold fX8_take
      rw [e1, isOut_out g1]; rfl
    · unfold fX9_take jn0
      rw [e2, in_out g1]; rfl
  obtain ⟨r, r1, r2⟩ := kitsOf_eq (x := p1) hN
  by_cases g2 : p2 ≤ r
  rotate_left
  · refine Or.inr (Or.inr ⟨0, S, si M 0 0 2, ?_, ?_, rfl, hR'.thr, scrM_t⟩)
    · unfold fX8_take
      rw [e1, isOut_in g1]
      simp only [bx, bn1_s, r1, if_neg g2, if_true]
    · unfold fX9_take jn0
      rw [e2, in_in g1]
      simp only [bn1_s, r2, if_neg g2, if_neg (show ¬ (1 : Int32) = 0 by decide)]
      rfl
  obtain ⟨l, -, l2, rfl⟩ := btw_nat (a := 1) (b := 50) g1 (by omega) (by omega)
  obtain ⟨v, S', M', v1, v2, v3, v4⟩ := outer_eq (x := p1) hN.1.1.1 hN.1.1.2.2.1 l2 P 0 200 0 S (si M 0 0 0) (by omega) (by have := hN.1.1.1; omega) (RelN.thr hN) gi_eq
  rw [nI_0] at v1 v2
  left
  refine ⟨v, S', M', ?_, ?_, ?_, P, T, B, F, v3⟩
  · unfold fX8_take
    rw [e1, isOut_in g1]
    simp only [bx, bn1_s, r1, if_pos g2, if_true, v1, bn2_s]
  · unfold fX9_take jn0
    rw [e2, in_in g1]
    simp only [bn1_s, r2, if_pos g2, if_neg (show ¬ (1 : Int32) = 0 by decide), well_0, bn2_s, v2]
  · unfold fX9_thrown
    rw [v4]
