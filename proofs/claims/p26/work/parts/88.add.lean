theorem add_X {b wd q : Nat → Nat} {i K : Nat} {s : Nat → Nat} {S : St} (hK : K < 8) (hb : ∀ p, p ≤ i → (10 ≤ b p ∧ b p ≤ 1200) ∧ 10 ≤ wd p ∧ wd p ≤ 300) (hq : 0 < q i) (h : KD b wd q i K s S) : ∃ (s' : Nat → Nat) (S' : St), fX3_addKind S (nI (b i)) (nI (wd i)) (nI (q i)) = some S' ∧ KD b wd q (i + 1) (K + 1) s' S' ∧ (∀ k j, (k < 21 ∨ 23 < k) → (k = 20 → j ≠ 5) → gi S' k j = gi S k j) ∧ ∀ k j, gl S' k j = gl S k j := by
  obtain ⟨a1, a2, a3, a4, a5, a6⟩ := h
  have hbb : ∀ x, (x = i ∨ ∃ k, k < K ∧ x = s k) → lgN b wd x ≤ 1200 ∧ shN b wd x ≤ 300 := fun x hx => by
    have hxi : x ≤ i := by
      rcases hx with rfl | ⟨k, hk, rfl⟩
      · omega
      · have := (a4 k hk).1; omega
    obtain ⟨c1, c2⟩ := hb x hxi
    unfold lgN shN
    omega
  obtain ⟨j, S1, x1, x2, x3, x4, x5, x6, x7, x8⟩ := shift_X (q := q) (p := i) (s := s) hK hbb K 200 S (Nat.le_refl K) (by omega) a3 (fun k h1 h2 => by omega) (fun k h1 h2 => by omega)
  have hbi := hb i (Nat.le_refl i)
  have emax : (if nI (b i) < nI (wd i) then nI (wd i) else nI (b i)) = nI (lgN b wd i) := by
    unfold lgN
    by_cases z : b i < wd i
    · rw [if_pos (nI_lt z (by omega)), show max (b i) (wd i) = wd i by omega]
    · rw [if_neg (nI_nlt (by omega) (by omega)), show max (b i) (wd i) = b i by omega]
  have emin : (if nI (wd i) < nI (b i) then nI (wd i) else nI (b i)) = nI (shN b wd i) := by
    unfold shN
    by_cases z : wd i < b i
    · rw [if_pos (nI_lt z (by omega)), show min (b i) (wd i) = wd i by omega]
    · rw [if_neg (nI_nlt (by omega) (by omega)), show min (b i) (wd i) = b i by omega]
  have h5 : gi S1 20 5 = nI K := by rw [x7 _ _ (by omega)]; exact a2
  refine ⟨ins s j i, si (si (si (si S1 21 j (nI (lgN b wd i))) 22 j (nI (shN b wd i))) 23 j (nI (q i))) 20 5 (nI (K + 1)), ?_, ⟨by omega, gi_eq, fun k hk => ?_, fun k hk => ?_, fun k k' hk hk' => ?_, fun p hp hqp => ?_⟩, fun k j9 h1 h2 => ?_, fun k j9 => ?_⟩
  · unfold fX3_addKind
    rw [a2, if_pos (show nI K < 8 from nI_lt (b := 8) hK (by decide)), emax, emin]
    simp only [bv]
    rw [x1]
    simp only [bn2_s, gd_t (inb_nI (show j < 8 by omega) (by omega)), nI_clamp (show j < 2 ^ 31 by omega), gi_ne (show (20 : Nat) ≠ 21 by decide), gi_ne (show (20 : Nat) ≠ 22 by decide), gi_ne (show (20 : Nat) ≠ 23 by decide), h5, nI_1]
  · unfold ins
    by_cases z1 : k < j
    · obtain ⟨v1, v2, v3⟩ := x3 k z1
      rw [if_pos z1]
      refine ⟨?_, ?_, ?_⟩
      · rw [gi_ne (by decide), gi_ne (by decide), gi_ne (by decide), gi_nj (by omega)]; exact v1
      · rw [gi_ne (by decide), gi_ne (by decide), gi_nj (by omega), gi_ne (by decide)]; exact v2
      · rw [gi_ne (by decide), gi_nj (by omega), gi_ne (by decide), gi_ne (by decide)]; exact v3
    · rw [if_neg z1]
      by_cases z2 : k = j
      · subst z2
        rw [if_pos rfl]
        refine ⟨?_, ?_, ?_⟩
        · rw [gi_ne (by decide), gi_ne (by decide), gi_ne (by decide), gi_eq]
        · rw [gi_ne (by decide), gi_ne (by decide), gi_eq]
        · rw [gi_ne (by decide), gi_eq]
      · obtain ⟨v1, v2, v3⟩ := x4 k (by omega) (by omega)
        rw [if_neg z2]
        refine ⟨?_, ?_, ?_⟩
        · rw [gi_ne (by decide), gi_ne (by decide), gi_ne (by decide), gi_nj z2]; exact v1
        · rw [gi_ne (by decide), gi_ne (by decide), gi_nj z2, gi_ne (by decide)]; exact v2
        · rw [gi_ne (by decide), gi_nj z2, gi_ne (by decide), gi_ne (by decide)]; exact v3
  · unfold ins
    by_cases z1 : k < j
    · rw [if_pos z1]
      have := a4 k (by omega)
      exact ⟨by omega, this.2⟩
    · rw [if_neg z1]
      by_cases z2 : k = j
      · rw [if_pos z2]; exact ⟨by omega, hq⟩
      · rw [if_neg z2]
        have := a4 (k - 1) (by omega)
        exact ⟨by omega, this.2⟩
  · have hlow : ∀ k, k < j → key b wd i < key b wd (s k) ∨ (key b wd (s k) = key b wd i ∧ s k < i) := fun k hk => by
      have hj := x6.resolve_left (by omega)
      have hki := (a4 k (by omega)).1
      by_cases y : k = j - 1
      · subst y; omega
      · rcases a5 k (j - 1) (by omega) (by omega) with w | w <;> omega
    have hhi : ∀ k, j ≤ k → k < K → key b wd (s k) < key b wd i := x5
    unfold ins
    by_cases z1 : k' < j
    · rw [if_pos (show k < j by omega), if_pos z1]
      exact a5 k k' hk (by omega)
    · rw [if_neg z1]
      by_cases z2 : k' = j
      · rw [if_pos z2, if_pos (show k < j by omega)]
        exact hlow k (by omega)
      · rw [if_neg z2]
        by_cases z3 : k < j
        · rw [if_pos z3]
          have h1 := hlow k z3
          have h2 := hhi (k' - 1) (by omega) (by omega)
          left; omega
        · rw [if_neg z3]
          by_cases z4 : k = j
          · rw [if_pos z4]
            left
            exact hhi (k' - 1) (by omega) (by omega)
          · rw [if_neg z4]
            exact a5 (k - 1) (k' - 1) (by omega) (by omega)
  · by_cases y : p = i
    · subst y
      refine ⟨j, by omega, ?_⟩
      unfold ins
      rw [if_neg (Nat.lt_irrefl j), if_pos rfl]
    · obtain ⟨k, hk, e⟩ := a6 p (by omega) hqp
      by_cases z : k < j
      · refine ⟨k, by omega, ?_⟩
        unfold ins
        rw [if_pos z]; exact e
      · refine ⟨k + 1, by omega, ?_⟩
        unfold ins
        rw [if_neg (by omega), if_neg (by omega), Nat.add_sub_cancel]; exact e
  · rw [gi_if, if_neg (by omega), gi_ne (by omega), gi_ne (by omega), gi_ne (by omega), x7 k j9 h1]
  · rw [gl_si, gl_si, gl_si, gl_si, x8]
