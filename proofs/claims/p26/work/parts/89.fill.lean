/-! ===== all kinds of the lot ===== -/
theorem fill_X {P t : Nat} {b wd q : Nat → Nat} {S0 : St} (hP : P ≤ 8) (hb : ∀ p, p < P → (10 ≤ b p ∧ b p ≤ 1200) ∧ 10 ≤ wd p ∧ wd p ≤ 300) (hq : ∀ p, p < P → q p ≤ 40) (hX : ∀ S1, scrX S0 S1 → NXs P t b wd q S1) : ∀ (n i m K : Nat) (s : Nat → Nat) (S : St), i + n = P → n < m → scrX S0 S → KD b wd q i K s S → ∃ (K' : Nat) (s' : Nat → Nat) (S' : St), lq2 (fX8_nest_L68 (85 + 2 * t)) m (nI i) S = some S' ∧ KD b wd q P K' s' S' ∧ (∀ k j, (k < 21 ∨ 23 < k) → (k = 20 → j ≠ 5) → gi S' k j = gi S k j) ∧ ∀ k j, gl S' k j = gl S k j := by
  intro n
  induction n with
  | zero =>
    intro i m K s S hi hm hS hK
    obtain ⟨m, rfl⟩ : ∃ q, m = q + 1 := ⟨m - 1, by omega⟩
    obtain rfl : i = P := by omega
    refine ⟨K, s, S, ?_, hK, fun _ _ _ _ => rfl, fun _ _ => rfl⟩
    rw [lq2_1, fX8_nest_L68, (hX S hS).1, if_pos (nI_le (by omega) (by omega))]
  | succ n ih =>
    intro i m K s S hi hm hS hK
    obtain ⟨m, rfl⟩ : ∃ q, m = q + 1 := ⟨m - 1, by omega⟩
    have hN := hX S hS
    obtain ⟨c1, c2, c3⟩ := hN.2 i (by omega)
    have hqi := hq i (by omega)
    rw [lq2_1, fX8_nest_L68, hN.1, if_neg (nI_ge (by omega) (by omega)), gd_t (inb_nI (show i < 8 by omega) (by omega)), nI_clamp (n := i) (by omega), c3]
    by_cases z : q i = 0
    · rw [if_pos (show nI (q i) ≤ 0 by rw [z]; decide)]
      simp only [bn1_s, bv, nI_1]
      refine ih (i + 1) m K s S (by omega) (by omega) hS ?_
      obtain ⟨k1, k2, k3, k4, k5, k6⟩ := hK
      refine ⟨by omega, k2, k3, fun k hk => ⟨by have := (k4 k hk).1; omega, (k4 k hk).2⟩, k5, fun p hp hqp => ?_⟩
      by_cases y : p = i
      · subst y; omega
      · exact k6 p (by omega) hqp
    · rw [if_neg (nI_nle (by omega) (by omega)), gd_t (inb_nI (show i < 8 by omega) (by omega)), pid_nI (by omega), c1]
      obtain ⟨s1, S1, x1, x2, x3, x4⟩ := add_X (by have := hK.1; omega) (fun p hp => hb p (by omega)) (by omega) hK
      simp only [bn1_s, gd_t (inb_nI (show i < 8 by omega) (by omega)), c2, x1, bv, nI_1]
      obtain ⟨K', s', S', w1, w2, w3, w4⟩ := ih (i + 1) m (K + 1) s1 S1 (by omega) (by omega) (hS.tr (fun k j hk => x3 k j (by omega) (by omega))) x2
      exact ⟨K', s', S', w1, w2, fun k j h1 h2 => by rw [w3 k j h1 h2, x3 k j h1 h2], fun k j => by rw [w4, x4]⟩
theorem fit_X {b wd q : Nat → Nat} {P K : Nat} {s : Nat → Nat} {S : St} {all wide : Int32} (hP : P ≤ 8) (h : KD b wd q P K s S) (h0 : gi S 20 0 = all) (h1 : gi S 20 1 = wide) : ((∀ k, k < K → nI (lgN b wd (s k)) ≤ all ∧ nI (shN b wd (s k)) ≤ wide) ∧ fX3_doAllFit S = some 1) ∨ ((∃ k, k < K ∧ ¬ (nI (lgN b wd (s k)) ≤ all ∧ nI (shN b wd (s k)) ≤ wide)) ∧ fX3_doAllFit S = some 0) := by
  have key : ∀ n k m, k + n = K → n < m → ((∀ e, k ≤ e → e < K → nI (lgN b wd (s e)) ≤ all ∧ nI (shN b wd (s e)) ≤ wide) ∧ lq1 (fX3_doAllFit_L2 S) m (nI k) = some 1) ∨ ((∃ e, e < K ∧ ¬ (nI (lgN b wd (s e)) ≤ all ∧ nI (shN b wd (s e)) ≤ wide)) ∧ lq1 (fX3_doAllFit_L2 S) m (nI k) = some 0) := by
    intro n
    induction n with
    | zero =>
      intro k m hk hm
      obtain ⟨m, rfl⟩ : ∃ q, m = q + 1 := ⟨m - 1, by omega⟩
      left
      refine ⟨fun e z1 z2 => by omega, ?_⟩
      rw [lq1_1, fX3_doAllFit_L2, h.2.1, if_pos (nI_le (by omega) (by have := h.1; omega))]
    | succ n ih =>
      intro k m hk hm
      obtain ⟨m, rfl⟩ : ∃ q, m = q + 1 := ⟨m - 1, by omega⟩
      have hk8 := h.1
      obtain ⟨c1, c2, c3⟩ := h.2.2.1 k (by omega)
      rw [lq1_1, fX3_doAllFit_L2, h.2.1, if_neg (nI_ge (by omega) (by omega)), gd_t (inb_nI (show k < 8 by omega) (by omega)), nI_clamp (n := k) (by omega), h0, h1, c1, c2]
      by_cases z1 : nI (lgN b wd (s k)) ≤ all
      · rw [if_neg (i_nlt.mpr z1), gd_t (inb_nI (show k < 8 by omega) (by omega))]
        by_cases z2 : nI (shN b wd (s k)) ≤ wide
        · rw [if_pos z2]
          simp only [bv, nI_1]
          rcases ih (k + 1) m (by omega) (by omega) with ⟨y1, y2⟩ | ⟨y1, y2⟩
          · left
            refine ⟨fun e e1 e2 => ?_, y2⟩
            by_cases w : e = k
            · subst w; exact ⟨z1, z2⟩
            · exact y1 e (by omega) e2
          · exact Or.inr ⟨y1, y2⟩
        · rw [if_neg z2]
          exact Or.inr ⟨⟨k, by omega, fun w => z2 w.2⟩, rfl⟩
      · rw [if_pos (i_nle.mp z1)]
        exact Or.inr ⟨⟨k, by omega, fun w => z1 w.1⟩, rfl⟩
  have := key K 0 200 (by omega) (by have := h.1; omega)
  rw [nI_0] at this
  unfold fX3_doAllFit
  rcases this with ⟨y1, y2⟩ | ⟨y1, y2⟩
  · exact Or.inl ⟨fun k hk => y1 k (by omega) hk, y2⟩
  · exact Or.inr ⟨y1, y2⟩
