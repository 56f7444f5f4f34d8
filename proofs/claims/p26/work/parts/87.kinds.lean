/-! ===== the class's kinds ===== -/
/-- the kinds of the parts below i, sorted: s k is the part of kind k -/
def KD (b wd q : Nat → Nat) (i K : Nat) (s : Nat → Nat) (S : St) : Prop := K ≤ i ∧ gi S 20 5 = nI K ∧ (∀ k, k < K → gi S 21 k = nI (lgN b wd (s k)) ∧ gi S 22 k = nI (shN b wd (s k)) ∧ gi S 23 k = nI (q (s k))) ∧ (∀ k, k < K → s k < i ∧ 0 < q (s k)) ∧ (∀ k k', k < k' → k' < K → key b wd (s k') < key b wd (s k) ∨ (key b wd (s k) = key b wd (s k') ∧ s k < s k')) ∧ ∀ p, p < i → 0 < q p → ∃ k, k < K ∧ s k = p
def ins (s : Nat → Nat) (j p : Nat) : Nat → Nat := fun k => if k < j then s k else if k = j then p else s (k - 1)
theorem big_X {S : St} {b wd : Nat → Nat} {p p' k : Nat} (hk : k < 8) (hb : ∀ x, x = p ∨ x = p' → lgN b wd x ≤ 1200 ∧ shN b wd x ≤ 300) (h1 : gi S 21 k = nI (lgN b wd p')) (h2 : gi S 22 k = nI (shN b wd p')) : fX3_isBigger S (nI (lgN b wd p)) (nI (shN b wd p)) (nI k) = some (if key b wd p' < key b wd p then 1 else 0) := by
  obtain ⟨a1, a2⟩ := hb p (Or.inl rfl)
  obtain ⟨c1, c2⟩ := hb p' (Or.inr rfl)
  unfold fX3_isBigger jn0 key
  rw [gd_t (inb_nI hk (by omega)), nI_clamp (n := k) (by omega), h1, h2]
  simp only [gd_t (inb_nI hk (by omega))]
  by_cases z1 : lgN b wd p' < lgN b wd p
  · rw [if_pos (nI_lt z1 (by omega)), if_pos (by omega)]
  · rw [if_neg (nI_nlt (by omega) (by omega))]
    by_cases z2 : lgN b wd p = lgN b wd p'
    · rw [if_pos (by rw [z2])]
      by_cases z3 : shN b wd p ≤ shN b wd p'
      · rw [if_pos (nI_le z3 (by omega)), if_neg (by omega)]
      · rw [if_neg (nI_ge (by omega) (by omega)), if_pos (by omega)]
    · rw [if_neg (nI_neq z2 (by omega) (by omega)), if_neg (by omega)]
/-- the place of a new kind: kinds that are smaller move on -/
theorem shift_X {b wd q : Nat → Nat} {p K : Nat} {s : Nat → Nat} (hK : K < 8) (hb : ∀ x, (x = p ∨ ∃ k, k < K ∧ x = s k) → lgN b wd x ≤ 1200 ∧ shN b wd x ≤ 300) : ∀ (j m : Nat) (S : St), j ≤ K → j < m → (∀ k, k < j → gi S 21 k = nI (lgN b wd (s k)) ∧ gi S 22 k = nI (shN b wd (s k)) ∧ gi S 23 k = nI (q (s k))) → (∀ k, j < k → k ≤ K → gi S 21 k = nI (lgN b wd (s (k - 1))) ∧ gi S 22 k = nI (shN b wd (s (k - 1))) ∧ gi S 23 k = nI (q (s (k - 1)))) → (∀ k, j ≤ k → k < K → key b wd (s k) < key b wd p) → ∃ (j' : Nat) (S' : St), lq2 (fX3_addKind_L30 (nI (lgN b wd p)) (nI (shN b wd p))) m (nI j) S = some (nI j', S') ∧ j' ≤ K ∧ (∀ k, k < j' → gi S' 21 k = nI (lgN b wd (s k)) ∧ gi S' 22 k = nI (shN b wd (s k)) ∧ gi S' 23 k = nI (q (s k))) ∧ (∀ k, j' < k → k ≤ K → gi S' 21 k = nI (lgN b wd (s (k - 1))) ∧ gi S' 22 k = nI (shN b wd (s (k - 1))) ∧ gi S' 23 k = nI (q (s (k - 1)))) ∧ (∀ k, j' ≤ k → k < K → key b wd (s k) < key b wd p) ∧ (j' = 0 ∨ ¬ key b wd (s (j' - 1)) < key b wd p) ∧ (∀ k j, (k < 21 ∨ 23 < k) → gi S' k j = gi S k j) ∧ ∀ k j, gl S' k j = gl S k j := by
  intro j
  induction j with
  | zero =>
    intro m S h1 h2 h3 h4 h5
    obtain ⟨m, rfl⟩ : ∃ q, m = q + 1 := ⟨m - 1, by omega⟩
    refine ⟨0, S, ?_, by omega, h3, h4, h5, Or.inl rfl, fun _ _ _ => rfl, fun _ _ => rfl⟩
    rw [lq2_1, fX3_addKind_L30, if_pos (by decide)]
  | succ j ih =>
    intro m S h1 h2 h3 h4 h5
    obtain ⟨m, rfl⟩ : ∃ q, m = q + 1 := ⟨m - 1, by omega⟩
    obtain ⟨c1, c2, c3⟩ := h3 j (by omega)
    have hbig := big_X (S := S) (b := b) (wd := wd) (p := p) (p' := s j) (k := j) (by omega) (fun x hx => hb x (hx.elim Or.inl (fun z => Or.inr ⟨j, by omega, z⟩))) c1 c2
    rw [lq2_1, fX3_addKind_L30, if_neg (nI_nle (by omega) (by omega)), nI_pred, hbig]
    simp only [bn1_s]
    by_cases z : key b wd (s j) < key b wd p
    · rw [if_pos z, if_neg (by decide)]
      obtain ⟨j', S', w1, w2, w3, w4, w5, w6, w7, w8⟩ := ih m (si (si (si S 21 (j + 1) (nI (lgN b wd (s j)))) 22 (j + 1) (nI (shN b wd (s j)))) 23 (j + 1) (nI (q (s j)))) (by omega) (by omega) (fun k hk => by
        obtain ⟨v1, v2, v3⟩ := h3 k (by omega)
        refine ⟨?_, ?_, ?_⟩
        · rw [gi_nj (by omega), gi_nj (by omega), gi_nj (by omega)]; exact v1
        · rw [gi_nj (by omega), gi_nj (by omega), gi_nj (by omega)]; exact v2
        · rw [gi_nj (by omega), gi_nj (by omega), gi_nj (by omega)]; exact v3) (fun k hk1 hk2 => by
        by_cases y : k = j + 1
        · subst y
          rw [Nat.add_sub_cancel]
          refine ⟨?_, ?_, ?_⟩
          · rw [gi_ne (by decide), gi_ne (by decide), gi_eq]
          · rw [gi_ne (by decide), gi_eq]
          · rw [gi_eq]
        · obtain ⟨v1, v2, v3⟩ := h4 k (by omega) hk2
          refine ⟨?_, ?_, ?_⟩
          · rw [gi_nj y, gi_nj y, gi_nj y]; exact v1
          · rw [gi_nj y, gi_nj y, gi_nj y]; exact v2
          · rw [gi_nj y, gi_nj y, gi_nj y]; exact v3) (fun k hk1 hk2 => by
        by_cases y : k = j
        · subst y; exact z
        · exact h5 k (by omega) hk2)
      refine ⟨j', S', ?_, w2, w3, w4, w5, w6, fun k j9 hk => by rw [w7 k j9 hk, gi_ne (by omega), gi_ne (by omega), gi_ne (by omega)], fun k j9 => by rw [w8 k j9]; rfl⟩
      simp only [gd_t (inb_nI (show j < 8 by omega) (by omega)), gd_t (inb_nI (show j + 1 < 8 by omega) (by omega)), nI_clamp (show j < 2 ^ 31 by omega), nI_clamp (show j + 1 < 2 ^ 31 by omega), bv, gi_ne (show (22 : Nat) ≠ 21 by decide), gi_ne (show (23 : Nat) ≠ 22 by decide), gi_ne (show (23 : Nat) ≠ 21 by decide), c1, c2, c3]
      rw [show nI (j + 1) + (-1) = nI j from by rw [← Int32.sub_eq_add_neg]; exact nI_pred j]
      exact w1
    · rw [if_neg z, if_pos rfl]
      refine ⟨j + 1, S, rfl, by omega, h3, h4, h5, Or.inr (by rw [Nat.add_sub_cancel]; exact z), fun _ _ _ => rfl, fun _ _ => rfl⟩
