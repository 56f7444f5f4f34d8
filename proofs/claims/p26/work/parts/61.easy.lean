/-! ===== calls that change little ===== -/
theorem nI_neq {a b : Nat} (h : a ≠ b) (ha : a < 2 ^ 31) (hb : b < 2 ^ 31) : ¬ nI a = nI b := fun q => h ((nI_eq ha hb).mp q)
theorem wipe_0 {S : St} : fX8_wipe S = some (gi S 1 2, si S 1 2 0) := rfl
theorem wipe_1 {M : St} : fX9_wipe M = some (gi (si M 0 0 0) 0 1, si (si M 0 0 0) 0 1 0) := rfl
theorem ag_wipe : Ag_wipe Rel := by
  intro S M hR
  obtain ⟨P, T, B, F, h1, h2, h3, h4, h5, h6, h7, h8⟩ := hR
  refine ⟨gi S 1 2, si S 1 2 0, si (si M 0 0 0) 0 1 0, wipe_0, ?_, P, T, B, 0, ?_, ⟨fun i h => absurd h (Nat.not_lt_zero i), fun i h => absurd h (Nat.not_lt_zero _)⟩, ?_, ?_, ?_, ?_, ?_, ?_⟩
  · rw [wipe_1, gi_nj (by decide), h1.2.2.2.2.2, h1.2.1.2.2.2]
  · obtain ⟨a, ⟨b1, b2, b3, b4⟩, c1, c2, c3, c4⟩ := h1
    refine ⟨⟨a.1, a.2.1, a.2.2.1, by omega⟩, ⟨?_, ?_, ?_, gi_eq⟩, ?_, ?_, ?_, gi_eq⟩
    · rw [gi_ne (by decide)]; exact b1
    · rw [gi_ne (by decide)]; exact b2
    · rw [gi_ne (by decide)]; exact b3
    · rw [gi_nj (by decide), gi_nj (by decide)]; exact c1
    · rw [gi_nj (by decide), gi_nj (by decide)]; exact c2
    · rw [gi_nj (by decide), gi_nj (by decide)]; exact c3
  · exact fun p hp => (h3 p hp).keep (fun k j a b => gi_ne (by omega)) (fun k a b _ _ => by rw [gi_ne (by omega), gi_ne (by omega)]) (fun k j a b => by rw [gi_ne (by omega), gi_ne (by omega)])
  · exact fun t ht => (h4 t ht).keep (fun k j a b => gi_ne (by omega)) (fun k a b => by rw [gi_ne (by omega), gi_ne (by omega)]) (fun j b => by rw [gi_ne (by omega), gi_ne (by omega)])
  · exact fun t ht h9 => (h5 t ht h9).keep (fun j => gi_ne (by omega))
  · exact fun b hb => (h6 b hb).keep (Nat.le_refl P) (Nat.le_refl T) (fun j => gi_ne (by omega)) (fun k a b => by rw [gi_ne (by omega), gi_ne (by omega)])
  · exact h7.keep (fun j => gi_ne (by omega)) (fun j => by rw [gi_ne (by omega), gi_ne (by omega)]) (gi_ne (by omega))
  · exact h8.keep (fun p hp => gi_ne (by omega)) (fun p hp => by rw [gi_ne (by omega), gi_ne (by omega)])
/-- a drawing that grows by a face -/
theorem RFa.grow {n : Nat} {S M S' M' : St} {x d : Int32} (h : RFa n S M 2 3 1 2 0) (hx : btw 10 200 x) (hd : isDir d) (h1 : ∀ j, j < n → gi S' 2 j = gi S 2 j) (h1' : gi S' 2 n = x) (h2 : ∀ j, j < n → gi S' 3 j = gi S 3 j) (h2' : gi S' 3 n = d) (h3 : ∀ j, j < n → gi M' 1 j = gi M 1 j) (h3' : gi M' 1 n = x) (h4 : ∀ j, j + 1 < n → gi M' 2 j = gi M 2 j) (h4' : ∀ j, j + 1 = n → gi M' 2 j = d) : RFa (n + 1) S' M' 2 3 1 2 0 := by
  refine ⟨fun i hi => ?_, fun i hi => ?_⟩
  · rw [Nat.zero_add]
    by_cases q : i < n
    · rw [h1 i q, h3 i q]
      have := h.1 i q
      rw [Nat.zero_add] at this
      exact this
    · obtain rfl : i = n := by omega
      rw [h1', h3']
      exact ⟨rfl, hx⟩
  · rw [Nat.zero_add]
    by_cases q : i + 1 < n
    · rw [h2 _ q, h4 i q]
      have := h.2 i q
      rw [Nat.zero_add] at this
      exact this
    · obtain rfl : i + 1 = n := by omega
      rw [h2', h4' i rfl]
      exact ⟨rfl, hd⟩
theorem dir_of {x : Int32} (h : (0 : Int32) ≤ x ∧ x ≤ 1) : isDir x := by
  have h1 := Int32.le_iff_toInt_le.mp h.1
  have h2 := Int32.le_iff_toInt_le.mp h.2
  rw [show (0 : Int32).toInt = 0 from rfl] at h1
  rw [show (1 : Int32).toInt = 1 from rfl] at h2
  rcases (show x.toInt = 0 ∨ x.toInt = 1 by omega) with q | q
  · exact Or.inl (Int32.toInt_inj.mp q)
  · exact Or.inr (Int32.toInt_inj.mp q)
theorem ag_face : Ag_face Rel := by
  intro S M hR p1 p2
  have hR' := hR
  obtain ⟨P, T, B, F, h1, h2, h3, h4, h5, h6, h7, h8⟩ := hR
  obtain ⟨⟨a1, a2, a3, a4⟩, ⟨b1, b2, b3, b4⟩, c1, c2, c3, c4⟩ := h1
  by_cases e1 : (10 : Int32) ≤ p1 ∧ p1 ≤ 200
  · by_cases e2 : (0 : Int32) ≤ p2 ∧ p2 ≤ 1
    · by_cases e3 : F < 6
      · left
        have hM : fX9_face M p1 p2 = some (nI (F + 1), si (if F = 0 then si (si M 0 0 0) 1 F p1 else si (si (si M 0 0 0) 1 F p1) 2 (F - 1) p2) 0 1 (nI (F + 1))) := by
          unfold fX9_face jn0
          rw [in_in e1, in_in e2]
          simp only [bn1_s, if_neg (show ¬ (1 : Int32) = 0 by decide), c4, if_neg (show ¬ nI F = 6 from nI_neq (a := F) (b := 6) (by omega) (by omega) (by decide)), well_0, bn2_s, gi_nj (show (1 : Nat) ≠ 0 by decide), inb_nI e3 (by omega), gd_t rfl, bv, nI_clamp (show F < 2 ^ 31 by omega), gi_ne (show (0 : Nat) ≠ 1 by decide)]
          by_cases e4 : F = 0
          · subst e4
            rw [if_pos (show nI 0 ≤ 0 by decide), if_pos rfl]
            simp only [bn1_s, gi_ne (show (0 : Nat) ≠ 1 by decide), gi_nj (show (1 : Nat) ≠ 0 by decide), c4, gi_eq]
            rfl
          · rw [if_neg (nI_nle (by omega) (by omega)), if_neg e4, nI_sub1 (by omega)]
            simp only [inb_nI (show F - 1 < 6 by omega) (by omega), gd_t rfl, bn1_s, nI_clamp (show F - 1 < 2 ^ 31 by omega), gi_ne (show (0 : Nat) ≠ 1 by decide), gi_ne (show (0 : Nat) ≠ 2 by decide), gi_nj (show (1 : Nat) ≠ 0 by decide), c4, gi_eq, nI_1]
        have hX : fX8_face S p1 p2 = some (.inr (nI (F + 1)), si (si (si S 2 F p1) 3 F p2) 1 2 (nI (F + 1))) := by
          unfold fX8_face
          rw [isOut_in e1, isOut_in e2]
          simp only [bn1_s, if_pos, b4, if_pos (show nI F < 6 from nI_lt (b := 6) e3 (by decide)), inb_nI e3 (by omega), gd_t rfl, bv, nI_clamp (show F < 2 ^ 31 by omega), gi_ne (show (1 : Nat) ≠ 2 by decide), gi_ne (show (1 : Nat) ≠ 3 by decide), gi_eq, nI_1]
        refine ⟨nI (F + 1), _, _, hX, hM, ?_, P, T, B, F + 1, ?_, ?_, ?_, ?_, ?_, ?_, ?_, ?_⟩
        · unfold fX9_thrown
          rw [gi_nj (by decide)]
          split
          · rw [gi_ne (by decide), gi_eq]
          · rw [gi_ne (by decide), gi_ne (by decide), gi_eq]
        · refine ⟨⟨a1, a2, a3, by omega⟩, ⟨?_, ?_, ?_, gi_eq⟩, ?_, ?_, ?_, gi_eq⟩
          · rw [gi_ne (by decide), gi_ne (by decide), gi_ne (by decide)]; exact b1
          · rw [gi_ne (by decide), gi_ne (by decide), gi_ne (by decide)]; exact b2
          · rw [gi_ne (by decide), gi_ne (by decide), gi_ne (by decide)]; exact b3
          · rw [gi_nj (by decide)]
            split <;> simp only [gi_ne (show (0 : Nat) ≠ 1 by decide), gi_ne (show (0 : Nat) ≠ 2 by decide), gi_nj (show (4 : Nat) ≠ 0 by decide)] <;> exact c1
          · rw [gi_nj (by decide)]
            split <;> simp only [gi_ne (show (0 : Nat) ≠ 1 by decide), gi_ne (show (0 : Nat) ≠ 2 by decide), gi_nj (show (15 : Nat) ≠ 0 by decide)] <;> exact c2
          · rw [gi_nj (by decide)]
            split <;> simp only [gi_ne (show (0 : Nat) ≠ 1 by decide), gi_ne (show (0 : Nat) ≠ 2 by decide), gi_nj (show (23 : Nat) ≠ 0 by decide)] <;> exact c3
        · refine h2.grow e1 (dir_of e2) (fun j hj => ?_) ?_ (fun j hj => ?_) ?_ (fun j hj => ?_) ?_ (fun j hj => ?_) (fun j hj => ?_)
          · rw [gi_ne (by decide), gi_ne (by decide), gi_nj (by omega)]
          · rw [gi_ne (by decide), gi_ne (by decide), gi_eq]
          · rw [gi_ne (by decide), gi_nj (by omega), gi_ne (by decide)]
          · rw [gi_ne (by decide), gi_eq]
          · rw [gi_ne (by decide)]
            split
            · rw [gi_nj (by omega), gi_ne (by decide)]
            · rw [gi_ne (by decide), gi_nj (by omega), gi_ne (by decide)]
          · rw [gi_ne (by decide)]
            split
            · rw [gi_eq]
            · rw [gi_ne (by decide), gi_eq]
          · rw [gi_ne (by decide), if_neg (by omega), gi_nj (by omega), gi_ne (by decide), gi_ne (by decide)]
          · rw [gi_ne (by decide), if_neg (by omega), show j = F - 1 by omega, gi_eq]
        · exact fun p hp => (h3 p hp).keep (fun k j a b => by rw [gi_ne (by omega), gi_ne (by omega), gi_ne (by omega)]) (fun k a b _ _ => by
            rw [gi_ne (by omega)]
            split <;> simp only [gi_ne (show k ≠ 0 by omega), gi_ne (show k ≠ 1 by omega), gi_ne (show k ≠ 2 by omega)]) (fun k j a b => by
            rw [gi_ne (by omega)]
            split <;> simp only [gi_ne (show k ≠ 0 by omega), gi_ne (show k ≠ 1 by omega), gi_ne (show k ≠ 2 by omega)])
        · exact fun t ht => (h4 t ht).keep (fun k j a b => by rw [gi_ne (by omega), gi_ne (by omega), gi_ne (by omega)]) (fun k a b => by
            rw [gi_ne (by omega)]
            split <;> simp only [gi_ne (show k ≠ 0 by omega), gi_ne (show k ≠ 1 by omega), gi_ne (show k ≠ 2 by omega)]) (fun j b => by
            rw [gi_ne (by omega)]
            split <;> simp only [gi_ne (show (18 : Nat) ≠ 0 by omega), gi_ne (show (18 : Nat) ≠ 1 by omega), gi_ne (show (18 : Nat) ≠ 2 by omega)])
        · exact fun t ht h9 => (h5 t ht h9).keep (fun j => by rw [gi_ne (by omega), gi_ne (by omega), gi_ne (by omega)])
        · exact fun b hb => (h6 b hb).keep (Nat.le_refl P) (Nat.le_refl T) (fun j => by rw [gi_ne (by omega), gi_ne (by omega), gi_ne (by omega)]) (fun k a b => by
            rw [gi_ne (by omega)]
            split <;> simp only [gi_ne (show k ≠ 0 by omega), gi_ne (show k ≠ 1 by omega), gi_ne (show k ≠ 2 by omega)])
        · exact h7.keep (fun j => by rw [gi_ne (by omega), gi_ne (by omega), gi_ne (by omega)]) (fun j => by
            rw [gi_ne (by omega)]
            split <;> simp only [gi_ne (show (19 : Nat) ≠ 0 by omega), gi_ne (show (19 : Nat) ≠ 1 by omega), gi_ne (show (19 : Nat) ≠ 2 by omega)]) (by rw [gi_ne (by decide), gi_ne (by decide), gi_ne (by decide)])
        · exact h8.keep (fun p hp => by rw [gi_ne (by omega), gi_ne (by omega), gi_ne (by omega)]) (fun p hp => by
            rw [gi_ne (by omega)]
            split <;> simp only [gi_ne (show (8 : Nat) ≠ 0 by omega), gi_ne (show (8 : Nat) ≠ 1 by omega), gi_ne (show (8 : Nat) ≠ 2 by omega)])
      · right; right
        obtain rfl : F = 6 := by omega
        refine ⟨0, S, si M 0 0 2, ?_, ?_, rfl, hR'.thr, scrM_t⟩
        · unfold fX8_face
          rw [isOut_in e1, isOut_in e2]
          simp only [bn1_s, b4]
          rfl
        · unfold fX9_face jn0
          rw [in_in e1, in_in e2]
          simp only [bn1_s, c4]
          rfl
    · right; left
      refine ⟨0, S, si M 0 0 1, ?_, ?_, rfl, hR'.thr, scrM_t⟩
      · unfold fX8_face
        rw [isOut_in e1, isOut_out e2]
        rfl
      · unfold fX9_face jn0
        rw [in_in e1, in_out e2]
        rfl
  · right; left
    refine ⟨0, S, si M 0 0 1, ?_, ?_, rfl, hR'.thr, scrM_t⟩
    · unfold fX8_face
      rw [isOut_out e1]
      rfl
    · unfold fX9_face jn0
      rw [in_out e1]
      rfl
