/-! ===== rows and sheets, on both sides ===== -/
def NS (all wide : Int32) (c : Nat) (w21 w22 : Int64) (S M : St) : Prop := ∃ R H : Nat, (R ≤ c ∧ H ≤ R) ∧ (gi S 20 10 = nI R ∧ gi M 0 40 = nI R) ∧ (gi S 20 12 = nI H ∧ gi M 0 38 = nI H) ∧ (gi S 20 0 = all ∧ gi S 20 1 = wide) ∧ (∀ i, i < R → gi S 24 i = gi M 29 i ∧ gi S 25 i = gi M 30 i ∧ gi S 26 i = gi M 31 i ∧ gi S 27 i = gi M 32 i) ∧ (∀ i, i < H → gi S 28 i = gi M 28 i) ∧ gl S 20 13 = w21 ∧ (gl S 20 14 = w22 ∧ 0 ≤ w22.toInt ∧ w22.toInt ≤ (c : Int) * 1440000)
theorem rowF_eq {S M : St} {R : Nat} {lg sh : Int32} (hR : R ≤ 40) (h1 : gi S 20 10 = nI R) (h2 : gi M 0 40 = nI R) (ha : ∀ i, i < R → gi S 24 i = gi M 29 i ∧ gi S 25 i = gi M 30 i ∧ gi S 26 i = gi M 31 i ∧ gi S 27 i = gi M 32 i) : ∀ (n k m : Nat) (v : Int32), k + n = R → n < m → (v = -1 ∨ ∃ r, r < R ∧ v = nI r) → ∃ v', (v' = -1 ∨ ∃ r, r < R ∧ v' = nI r) ∧ lq2 (fX3_rowFor_L5 S sh lg) m v (nI k) = some v' ∧ lq2 (fX9_rowFor_L6 M sh lg) m v (nI k) = some v' := by
  intro n
  induction n with
  | zero =>
    intro k m v hk hm hv
    obtain ⟨m, rfl⟩ : ∃ q, m = q + 1 := ⟨m - 1, by omega⟩
    refine ⟨v, hv, ?_, ?_⟩
    · rw [lq2_1, fX3_rowFor_L5, h1, if_pos (nI_le (by omega) (by omega))]
    · rw [lq2_1, fX9_rowFor_L6, h2, if_pos (nI_le (by omega) (by omega))]
  | succ n ih =>
    intro k m v hk hm hv
    obtain ⟨m, rfl⟩ : ∃ q, m = q + 1 := ⟨m - 1, by omega⟩
    obtain ⟨b1, b2, b3, b4⟩ := ha k (by omega)
    have hkr : k < R := by omega
    have hstep : ∀ v2, (v2 = -1 ∨ ∃ r, r < R ∧ v2 = nI r) → ∃ v', (v' = -1 ∨ ∃ r, r < R ∧ v' = nI r) ∧ lq2 (fX3_rowFor_L5 S sh lg) m v2 (nI (k + 1)) = some v' ∧ lq2 (fX9_rowFor_L6 M sh lg) m v2 (nI (k + 1)) = some v' := fun v2 h => ih (k + 1) m v2 (by omega) (by omega) h
    rw [lq2_1, lq2_1, fX3_rowFor_L5, fX9_rowFor_L6, h1, h2, if_neg (nI_ge (show k < R by omega) (by omega)), if_neg (nI_ge (show k < R by omega) (by omega)), gd_t (inb_nI (show k < 40 by omega) (by omega)), gd_t (inb_nI (show k < 40 by omega) (by omega)), nI_clamp (n := k) (by omega), b1, b2, b3]
    simp only [jn0, gd_t (inb_nI (show k < 40 by omega) (by omega)), bv, nI_1]
    have can : ∃ c, isDir c ∧ (if gi M 30 k < sh then some (0 : Int32) else if gi M 31 k < lg then some 0 else some 1) = some c := by
      by_cases q1 : gi M 30 k < sh
      · exact ⟨0, isDir_0, if_pos q1⟩
      · by_cases q2 : gi M 31 k < lg
        · exact ⟨0, isDir_0, by rw [if_neg q1, if_pos q2]⟩
        · exact ⟨1, isDir_1, by rw [if_neg q1, if_neg q2]⟩
    obtain ⟨c, c1, c2⟩ := can
    rw [c2]
    simp only [bn1_s]
    rcases c1 with rfl | rfl
    · rw [if_pos rfl, if_pos rfl]
      simp only [bn1_s]
      exact hstep v hv
    · rw [if_neg (show ¬ (1 : Int32) = 0 by decide), if_neg (show ¬ (1 : Int32) = 0 by decide)]
      by_cases q : v = -1
      · rw [if_pos q, if_pos q]
        simp only [bn1_s]
        exact hstep (nI k) (Or.inr ⟨k, hkr, rfl⟩)
      · obtain ⟨r, r1, rfl⟩ := hv.resolve_left q
        rw [if_neg q, if_neg q, gd_t (inb_nI (show r < 40 by omega) (by omega)), nI_clamp (n := r) (by omega), (ha r r1).1, gd_t (inb_nI (show r < 40 by omega) (by omega))]
        by_cases q2 : gi M 29 r ≤ gi M 29 k
        · rw [if_pos q2]
          simp only [bn1_s]
          exact hstep _ (Or.inr ⟨r, r1, rfl⟩)
        · rw [if_neg q2]
          simp only [bn1_s]
          exact hstep _ (Or.inr ⟨k, hkr, rfl⟩)
/-- the first sheet with room (H: none) -/
theorem sheet_eq {S M : St} {H : Nat} {sh : Int32} (hH : H < 40) (h1 : gi S 20 12 = nI H) (h2 : gi M 0 38 = nI H) (ha : ∀ i, i < H → gi S 28 i = gi M 28 i) : ∀ (n k m : Nat), k + n = H → n < m → ∃ s, s ≤ H ∧ lq1 (fX3_sheetFor_L2 S sh) m (nI k) = (if s = H then some (nI H, si (si S 28 H (gi S 20 1)) 20 12 (nI (H + 1))) else some (nI s, S)) ∧ lq1 (fX9_rowFor_L99 M sh) m (nI k) = some (nI s) := by
  intro n
  induction n with
  | zero =>
    intro k m hk hm
    obtain ⟨m, rfl⟩ : ∃ q, m = q + 1 := ⟨m - 1, by omega⟩
    obtain rfl : k = H := by omega
    refine ⟨k, Nat.le_refl k, ?_, ?_⟩
    · rw [lq1_1, fX3_sheetFor_L2, h1, if_pos (nI_le (by omega) (by omega)), if_pos (show nI k < 40 from nI_lt (b := 40) hH (by decide)), gd_t (inb_nI hH (by omega)), nI_clamp (n := k) (by omega), if_pos rfl]
      simp only [bv, gi_ne (show (20 : Nat) ≠ 28 by decide), h1, nI_1, gi_eq, nI_sub1 (show 0 < k + 1 by omega), Nat.add_sub_cancel]
    · rw [lq1_1, fX9_rowFor_L99, h2, if_pos (nI_le (by omega) (by omega))]
  | succ n ih =>
    intro k m hk hm
    obtain ⟨m, rfl⟩ : ∃ q, m = q + 1 := ⟨m - 1, by omega⟩
    rw [lq1_1, lq1_1, fX3_sheetFor_L2, fX9_rowFor_L99, h1, h2, if_neg (nI_ge (show k < H by omega) (by omega)), if_neg (nI_ge (show k < H by omega) (by omega)), gd_t (inb_nI (show k < 40 by omega) (by omega)), gd_t (inb_nI (show k < 40 by omega) (by omega)), nI_clamp (n := k) (by omega), ha k (by omega)]
    by_cases q : sh ≤ gi M 28 k
    · refine ⟨k, by omega, ?_, ?_⟩
      · rw [if_neg (i_nlt.mpr q), if_neg (by omega)]
      · rw [if_pos q]
    · rw [if_pos (i_nle.mp q), if_neg q]
      simp only [bv, nI_1]
      exact ih (k + 1) m (by omega) (by omega)
