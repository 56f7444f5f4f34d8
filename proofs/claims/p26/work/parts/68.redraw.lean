/-! ===== a part is drawn anew ===== -/
theorem RelN.bat {P T B F b : Nat} {S M S' M' : St} (h : RelN P T B F S M) (hb : b < B) (hx : ∀ k j, k ≠ 93 + b → gi S' k j = gi S k j) (hm : ∀ k j, (k < 20 ∨ 25 < k ∨ j ≠ b) → (k = 0 → j ≠ 0) → k < 26 → gi M' k j = gi M k j) (hB : RBa P T b S' M') : RelN P T B F S' M' := by
  obtain ⟨h1, h2, h3, h4, h5, h6, h7, h8⟩ := id h
  obtain ⟨⟨a1, a2, a3, a4⟩, -⟩ := h1
  refine ⟨h.1.keep (fun j hj => hx _ _ (by omega)) (hx _ _ (by omega)) (fun j h0 _ => hm _ _ (by omega) (by omega) (by omega)), h2.keep (fun j => hx _ _ (by omega)) (fun j => hx _ _ (by omega)) (fun j _ => hm _ _ (by omega) (by omega) (by omega)) (fun j _ => hm _ _ (by omega) (by omega) (by omega)), fun p hp => (h3 p hp).keep (fun k j a b => hx _ _ (by omega)) (fun k a b _ _ => hm _ _ (by omega) (by omega) (by omega)) (fun k j a b => hm _ _ (by omega) (by omega) (by omega)), fun t ht => (h4 t ht).keep (fun k j a b => hx _ _ (by omega)) (fun k a b => hm _ _ (by omega) (by omega) (by omega)) (fun j b => hm _ _ (by omega) (by omega) (by omega)),
    fun t' h9 ht' => (h5 t' h9 ht').keep (fun j => hx _ _ (by omega)), fun b' hb' => ?_, h7.keep (fun j => hx _ _ (by omega)) (fun j => hm _ _ (by omega) (by omega) (by omega)) (hx _ _ (by omega)), h8.keep (fun p hp => hx _ _ (by omega)) (fun p hp => hm _ _ (by omega) (by omega) (by omega))⟩
  by_cases q : b' = b
  · subst q; exact hB
  · exact (h6 b' hb').keep (Nat.le_refl P) (Nat.le_refl T) (fun j => hx _ _ (by omega)) (fun k a b => hm _ _ (by omega) (by omega) (by omega))
/-- the batches of a part, one after the other -/
theorem change_eq {P T B F p : Nat} {li fo : Int32} (hp : p < P) (hP : P ≤ 8) (hB : B ≤ 20) (hli : isDir li) (hfo : isDir fo) : ∀ (n k m : Nat) (a : Int32) (S M : St), k + n = B → n < m → RelN P T B F S M → gi M 0 0 = 0 → ∃ r S' M', lq3 (fX8_changeBatches_L6 (nI p) fo li) m a (nI k) S = some (r, S') ∧ lq3 (fX9_redraw_L134 (nI p) li (if li = 0 then 0 else fo)) m a (nI k) M = some (r, M') ∧ RelN P T B F S' M' ∧ gi M' 0 0 = 0 := by
  intro n
  induction n with
  | zero =>
    intro k m a S M hk hm hN h0
    obtain ⟨m, rfl⟩ : ∃ q, m = q + 1 := ⟨m - 1, by omega⟩
    refine ⟨a, S, M, ?_, ?_, hN, h0⟩
    · rw [lq3_1, fX8_changeBatches_L6, hN.1.2.1.2.2.1, if_pos (nI_le (by omega) (by omega))]
    · rw [lq3_1, fX9_redraw_L134, hN.1.2.2.2.2.1, if_pos (nI_le (by omega) (by omega))]
  | succ n ih =>
    intro k m a S M hk hm hN h0
    obtain ⟨m, rfl⟩ : ∃ q, m = q + 1 := ⟨m - 1, by omega⟩
    have hkB : k < B := by omega
    obtain ⟨p', t, nn, w, ⟨x1, x2, x3, x4⟩, ⟨y1, y2⟩, ⟨y3, y4⟩, ⟨y5, y6⟩, ⟨y7, y8⟩, y9, y10⟩ := id (hN.2.2.2.2.2.1 k hkB)
    have hT4 := hN.1.1.2.1
    rw [lq3_1, lq3_1, fX8_changeBatches_L6, fX9_redraw_L134, hN.1.2.1.2.2.1, hN.1.2.2.2.2.1, if_neg (nI_ge (show k < B by omega) (by omega)), if_neg (nI_ge (show k < B by omega) (by omega)), gd_t (inb_nI (show k < 20 by omega) (by omega)), gd_t (inb_nI (show k < 20 by omega) (by omega)), bid_nI (show k < 2 ^ 31 by omega), nI_clamp (show k < 2 ^ 31 by omega), y1, y2]
    have skip : ∃ r S' M', lq3 (fX8_changeBatches_L6 (nI p) fo li) m a (nI (k + 1)) S = some (r, S') ∧ lq3 (fX9_redraw_L134 (nI p) li (if li = 0 then 0 else fo)) m a (nI (k + 1)) M = some (r, M') ∧ RelN P T B F S' M' ∧ gi M' 0 0 = 0 := ih (k + 1) m a S M (by omega) (by omega) hN h0
    by_cases q1 : p' = p
    rotate_left
    · have q1' : ¬ nI p' = nI p := nI_neq q1 (by omega) (by omega)
      rw [if_neg q1', if_neg q1']
      simp only [bn2_s, bv, nI_1]
      exact skip
    subst q1
    rw [if_pos rfl, if_pos rfl, gd_t (inb_nI (show k < 20 by omega) (by omega)), y5, y6]
    by_cases q2 : w = 3
    · subst q2
      rw [if_pos (show nI 3 = 3 from rfl), if_pos (show nI 3 = 3 from rfl)]
      simp only [bn2_s, bv, nI_1]
      exact skip
    have q2' : ¬ nI w = 3 := nI_neq (a := w) (b := 3) q2 (by omega) (by decide)
    rw [if_neg q2', if_neg q2', gd_t (inb_nI (show k < 20 by omega) (by omega))]
    obtain ⟨u, -, -, u1, u2⟩ := blank_eq (p := p') (t := t) (S := S) (M := M) (by omega) (by omega) (hN.2.2.1 p' hp) (hN.2.2.2.1 t x2)
    -- whether it goes on
    have scrap : ∃ r S' M', lq3 (fX8_changeBatches_L6 (nI p') fo li) m (a + nI nn) (nI (k + 1)) (si S (93 + k) 2 3) = some (r, S') ∧ lq3 (fX9_redraw_L134 (nI p') li (if li = 0 then 0 else fo)) m (a + nI nn) (nI (k + 1)) (si (si M 24 k (gi M 24 k)) 23 k 3) = some (r, M') ∧ RelN P T B F S' M' ∧ gi M' 0 0 = 0 := by
      refine ih (k + 1) m _ _ _ (by omega) (by omega) (hN.bat hkB (fun k' j z => gi_ne z) (fun k' j z1 z2 _ => by rw [gi_if, if_neg (by omega), gi_if, if_neg (by omega)]) ?_) (by rw [gi_ne (by decide), gi_ne (by decide)]; exact h0)
      refine ⟨p', t, nn, 3, ⟨x1, x2, x3, by omega⟩, ⟨?_, ?_⟩, ⟨?_, ?_⟩, ⟨gi_eq, gi_eq⟩, ⟨?_, ?_⟩, ?_, ?_⟩
      · rw [gi_nj (by decide)]; exact y1
      · rw [gi_ne (by decide), gi_ne (by decide)]; exact y2
      · rw [gi_nj (by decide)]; exact y3
      · rw [gi_ne (by decide), gi_ne (by decide)]; exact y4
      · rw [gi_nj (by decide)]; exact y7
      · rw [gi_ne (by decide), gi_ne (by decide)]; exact y8
      · rw [gi_nj (by decide), gi_ne (by decide), gi_eq]; exact y9
      · rw [gi_nj (by decide), gi_ne (by decide), gi_ne (by decide)]; exact y10
    have goes : ∃ r S' M', lq3 (fX8_changeBatches_L6 (nI p') fo li) m a (nI (k + 1)) (si S (93 + k) 4 (gi S (29 + 7 * p') 3)) = some (r, S') ∧ lq3 (fX9_redraw_L134 (nI p') li (if li = 0 then 0 else fo)) m (a + 0) (nI (k + 1)) (si (si M 24 k (gi M 8 p')) 23 k (nI w)) = some (r, M') ∧ RelN P T B F S' M' ∧ gi M' 0 0 = 0 := by
      rw [Int32.add_zero]
      refine ih (k + 1) m _ _ _ (by omega) (by omega) (hN.bat hkB (fun k' j z => gi_ne z) (fun k' j z1 z2 _ => by rw [gi_if, if_neg (by omega), gi_if, if_neg (by omega)]) ?_) (by rw [gi_ne (by decide), gi_ne (by decide)]; exact h0)
      refine ⟨p', t, nn, w, ⟨x1, x2, x3, x4⟩, ⟨?_, ?_⟩, ⟨?_, ?_⟩, ⟨?_, gi_eq⟩, ⟨?_, ?_⟩, ?_, ?_⟩
      · rw [gi_nj (by decide)]; exact y1
      · rw [gi_ne (by decide), gi_ne (by decide)]; exact y2
      · rw [gi_nj (by decide)]; exact y3
      · rw [gi_ne (by decide), gi_ne (by decide)]; exact y4
      · rw [gi_nj (by decide)]; exact y5
      · rw [gi_nj (by decide)]; exact y7
      · rw [gi_ne (by decide), gi_ne (by decide)]; exact y8
      · rw [gi_eq, gi_ne (by decide), gi_eq]
        exact hN.2.2.2.2.2.2.2 p' (by omega)
      · rw [gi_nj (by decide), gi_ne (by decide), gi_ne (by decide)]; exact y10
    have hw0 : (nI w = 0) ↔ w = 0 := nI_eq0 (by omega)
    simp only [y3, y4, y8, y10, tid_nI (show t < 2 ^ 31 by omega), pid_nI (show p' < 2 ^ 31 by omega), gd_t (inb_nI (show p' < 8 by omega) (by omega)), gd_t (inb_nI (show t < 4 by omega) (by omega)), gd_t (inb_nI (show k < 20 by omega) (by omega)), u1, u2, bn1_s, jn0, jn1, bv, nI_clamp (show p' < 2 ^ 31 by omega), hw0]
    have e22 : ∀ v v', gi (si (si M 24 k v) 23 k v') 22 k = nI nn := fun v v' => by rw [gi_ne (by decide), gi_ne (by decide)]; exact y8
    have e23 : ∀ v, gi (si M 24 k v) 23 k = nI w := fun v => by rw [gi_ne (by decide)]; exact y6
    have e3 : ∀ v, gi (si S (93 + k) 2 v) (93 + k) 3 = nI nn := fun v => by rw [gi_nj (by decide)]; exact y7
    rcases hli with rfl | rfl
    · -- another sheet, or holes
      by_cases q3 : w = 0
      · simp only [if_pos q3, if_true, bn1_s, bn1_if, bn2_s, bv, e22, e3, nI_1]
        exact scrap
      · simp only [if_neg q3, if_true, bn1_s, bn2_s, bv, e22, e3, nI_1]
        exact scrap
    · simp only [if_neg (show ¬ (1 : Int32) = 0 by decide)] at scrap goes ⊢
      by_cases q3 : w = 0
      · by_cases q4 : gi M 25 k = nI u
        · simp only [if_pos q3, if_pos q4, bn1_s, if_neg (show ¬ (1 : Int32) = 0 by decide), bn2_s, bv, e23, nI_1]
          exact goes
        · simp only [if_pos q3, if_neg q4, bn1_s, if_true, bn2_s, bv, e22, e3, nI_1]
          exact scrap
      · rcases hfo with rfl | rfl
        · simp only [if_neg q3, bn1_s, if_true, bn2_s, bv, e22, e3, nI_1]
          exact scrap
        · simp only [if_neg q3, bn1_s, if_neg (show ¬ (1 : Int32) = 0 by decide), bn2_s, bv, e23, nI_1]
          exact goes
