/-- the row into which a piece comes, opened if need be -/
theorem row_eq {all wide lg sh : Int32} {c : Nat} {w21 w22 : Int64} {S M : St} (hN : NS all wide c w21 w22 S M) (hc : c < 40) : ∃ (r : Nat) (S1 M1 : St), bn1 (fX3_rowFor S lg sh) (fun v1 => if v1 = (-1 : Int32) then bn2 (fX3_newRow S sh) (fun v24 S25 => some (v24, S25)) else some (v1, S)) = some (nI r, S1) ∧ fX9_rowFor M lg sh all wide = some (nI r, M1) ∧ NS all wide (c + 1) w21 w22 S1 M1 ∧ r < 40 ∧ (∃ R, gi S1 20 10 = nI R ∧ R ≤ 40 ∧ r < R) ∧ (∀ k j, (k < 20 ∨ 28 < k ∨ k = 21 ∨ k = 22 ∨ k = 23) → gi S1 k j = gi S k j) ∧ (∀ j, j ≠ 10 → j ≠ 12 → gi S1 20 j = gi S 20 j) ∧ (∀ k j, k < 28 → (k = 0 → j ≠ 38 ∧ j ≠ 40) → gi M1 k j = gi M k j) := by
  obtain ⟨R, H, ⟨r1, r2⟩, ⟨a1, a2⟩, ⟨b1, b2⟩, ⟨d1, d2⟩, hr, hs, g1, g2, g3, g4⟩ := id hN
  obtain ⟨v, hv, x1, x2⟩ := rowF_eq (lg := lg) (sh := sh) (by omega) a1 a2 hr R 0 200 (-1) (by omega) (by omega) (Or.inl rfl)
  rw [nI_0] at x1 x2
  have hX : fX3_rowFor S lg sh = some v := by
    unfold fX3_rowFor
    rw [x1]; rfl
  by_cases q : v = -1
  rotate_left
  · obtain ⟨r, hr1, rfl⟩ := hv.resolve_left q
    refine ⟨r, S, M, ?_, ?_, ⟨R, H, ⟨by omega, by omega⟩, ⟨a1, a2⟩, ⟨b1, b2⟩, ⟨d1, d2⟩, hr, hs, g1, g2, g3, by omega⟩, by omega, ⟨R, a1, by omega, hr1⟩, fun _ _ _ => rfl, fun _ _ _ => rfl, fun _ _ _ _ => rfl⟩
    · rw [hX]
      simp only [bn1_s]
      rw [if_neg q]
    · unfold fX9_rowFor
      rw [x2]
      simp only [bn1_s]
      rw [if_neg q]
  subst q
  obtain ⟨s, s1, s2, s3⟩ := sheet_eq (sh := sh) (show H < 40 by omega) b1 b2 hs H 0 200 (by omega) (by omega)
  rw [nI_0] at s2 s3
  -- the sheet, there or new
  obtain ⟨S2, M2, H2, t1, t2, t3, t4, t5, t6, t7, t8, t9, t10⟩ : ∃ (S2 M2 : St) (H2 : Nat), fX3_sheetFor S sh = some (nI s, S2) ∧ (if nI s = gi M 0 38 then gd (inb (nI s) 40) (bv (si M 28 (nI s).toNatClampNeg wide) (fun (S31 : St) => bv (si S31 0 38 ((gi S31 0 38) + (1 : Int32))) (fun (S33 : St) => some S33))) else some M) = some M2 ∧ H2 ≤ R + 1 ∧ s < H2 ∧ (gi S2 20 12 = nI H2 ∧ gi M2 0 38 = nI H2) ∧ (∀ i, i < H2 → gi S2 28 i = gi M2 28 i) ∧ (∀ k j, k ≠ 28 → (k = 20 → j ≠ 12) → gi S2 k j = gi S k j) ∧ (∀ k j, k ≠ 28 → (k = 0 → j ≠ 38) → gi M2 k j = gi M k j) ∧ gl S2 20 13 = w21 ∧ gl S2 20 14 = w22 := by
    rw [b2]
    by_cases z : s = H
    · subst z
      rw [if_pos rfl] at s2
      refine ⟨si (si S 28 s (gi S 20 1)) 20 12 (nI (s + 1)), si (si M 28 s wide) 0 38 (nI (s + 1)), s + 1, s2, ?_, by omega, by omega, ⟨gi_eq, gi_eq⟩, fun i hi => ?_, fun k j h1 h2 => ?_, fun k j h1 h2 => ?_, g1, g2⟩
      · rw [if_pos rfl, gd_t (inb_nI (by omega) (by omega)), nI_clamp (n := s) (by omega)]
        simp only [bv, gi_ne (show (0 : Nat) ≠ 28 by decide), b2, nI_1]
      · by_cases y : i = s
        · subst y
          rw [gi_ne (by decide), gi_eq, gi_ne (by decide), gi_eq, d2]
        · rw [gi_ne (by decide), gi_nj y, gi_ne (by decide), gi_nj y]
          exact hs i (by omega)
      · rw [gi_if, if_neg (by omega), gi_ne h1]
      · rw [gi_if, if_neg (by omega), gi_ne h1]
    · rw [if_neg z] at s2
      refine ⟨S, M, H, s2, ?_, by omega, by omega, ⟨b1, b2⟩, hs, fun _ _ _ _ => rfl, fun _ _ _ _ => rfl, g1, g2⟩
      rw [if_neg (nI_neq z (by omega) (by omega))]
  have ns : ¬ nI s = -1 := fun w => by
    have h2 := nI_toInt (show s < 2 ^ 31 by omega)
    rw [w, show (-1 : Int32).toInt = -1 from rfl] at h2
    omega
  have a1' : gi S2 20 10 = nI R := by rw [t7 _ _ (by omega) (by omega)]; exact a1
  have a2' : gi M2 0 40 = nI R := by rw [t8 _ _ (by omega) (by omega)]; exact a2
  have d1' : gi S2 20 0 = all := by rw [t7 _ _ (by omega) (by omega)]; exact d1
  have d2' : gi S2 20 1 = wide := by rw [t7 _ _ (by omega) (by omega)]; exact d2
  refine ⟨R, si (si (si (si (si (si S2 28 s (gi S2 28 s - sh)) 24 R (nI s)) 25 R sh) 26 R all) 27 R 0) 20 10 (nI (R + 1)), si (si (si (si (si (si M2 28 s (gi M2 28 s - sh)) 29 R (nI s)) 30 R sh) 31 R all) 32 R 0) 0 40 (nI (R + 1)), ?_, ?_, ⟨R + 1, H2, ⟨by omega, t3⟩, ⟨gi_eq, gi_eq⟩, ⟨?_, ?_⟩, ⟨?_, ?_⟩, fun i hi => ?_, fun i hi => ?_, t9, t10, g3, by omega⟩, by omega, ⟨R + 1, gi_eq, by omega, by omega⟩, fun k j hk => ?_, fun j h1 h2 => ?_, fun k j h1 h2 => ?_⟩
  · rw [hX]
    simp only [bn1_s, if_true]
    unfold fX3_newRow
    rw [t1]
    simp only [bn2_s]
    rw [if_neg ns, a1', if_pos (show nI R < 40 from nI_lt (b := 40) (by omega) (by decide))]
    simp only [gd_t (inb_nI (show s < 40 by omega) (by omega)), nI_clamp (show s < 2 ^ 31 by omega), bv, gi_ne (show (20 : Nat) ≠ 28 by decide), gi_ne (show (20 : Nat) ≠ 24 by decide), gi_ne (show (20 : Nat) ≠ 25 by decide), gi_ne (show (20 : Nat) ≠ 26 by decide), gi_ne (show (20 : Nat) ≠ 27 by decide), a1', d1', gd_t (inb_nI (show R < 40 by omega) (by omega)), nI_clamp (show R < 2 ^ 31 by omega), nI_1, gi_eq, nI_sub1 (show 0 < R + 1 by omega), Nat.add_sub_cancel, bn2_s]
  · unfold fX9_rowFor
    rw [x2]
    simp only [bn1_s, if_true]
    rw [s3]
    simp only [bn1_s]
    rw [t2]
    simp only [bn1_s, gd_t (inb_nI (show s < 40 by omega) (by omega)), nI_clamp (show s < 2 ^ 31 by omega), bv, gi_ne (show (0 : Nat) ≠ 28 by decide), gi_ne (show (0 : Nat) ≠ 29 by decide), gi_ne (show (0 : Nat) ≠ 30 by decide), gi_ne (show (0 : Nat) ≠ 31 by decide), gi_ne (show (0 : Nat) ≠ 32 by decide), a2', gd_t (inb_nI (show R < 40 by omega) (by omega)), nI_clamp (show R < 2 ^ 31 by omega), nI_1, gi_eq, nI_sub1 (show 0 < R + 1 by omega), Nat.add_sub_cancel]
  · rw [gi_nj (by decide), gi_ne (by decide), gi_ne (by decide), gi_ne (by decide), gi_ne (by decide), gi_ne (by decide)]; exact t5.1
  · rw [gi_nj (by decide), gi_ne (by decide), gi_ne (by decide), gi_ne (by decide), gi_ne (by decide), gi_ne (by decide)]; exact t5.2
  · rw [gi_nj (by decide), gi_ne (by decide), gi_ne (by decide), gi_ne (by decide), gi_ne (by decide), gi_ne (by decide)]; exact d1'
  · rw [gi_nj (by decide), gi_ne (by decide), gi_ne (by decide), gi_ne (by decide), gi_ne (by decide), gi_ne (by decide)]; exact d2'
  · by_cases y : i = R
    · subst y
      refine ⟨?_, ?_, ?_, ?_⟩
      · rw [gi_ne (by decide), gi_ne (by decide), gi_ne (by decide), gi_ne (by decide), gi_eq, gi_ne (by decide), gi_ne (by decide), gi_ne (by decide), gi_ne (by decide), gi_eq]
      · rw [gi_ne (by decide), gi_ne (by decide), gi_ne (by decide), gi_eq, gi_ne (by decide), gi_ne (by decide), gi_ne (by decide), gi_eq]
      · rw [gi_ne (by decide), gi_ne (by decide), gi_eq, gi_ne (by decide), gi_ne (by decide), gi_eq]
      · rw [gi_ne (by decide), gi_eq, gi_ne (by decide), gi_eq]
    · obtain ⟨u1, u2, u3, u4⟩ := hr i (by omega)
      refine ⟨?_, ?_, ?_, ?_⟩
      · rw [gi_ne (by decide), gi_ne (by decide), gi_ne (by decide), gi_ne (by decide), gi_nj y, gi_ne (by decide), t7 _ _ (by omega) (by omega), gi_ne (by decide), gi_ne (by decide), gi_ne (by decide), gi_ne (by decide), gi_nj y, gi_ne (by decide), t8 _ _ (by omega) (by omega)]; exact u1
      · rw [gi_ne (by decide), gi_ne (by decide), gi_ne (by decide), gi_nj y, gi_ne (by decide), gi_ne (by decide), t7 _ _ (by omega) (by omega), gi_ne (by decide), gi_ne (by decide), gi_ne (by decide), gi_nj y, gi_ne (by decide), gi_ne (by decide), t8 _ _ (by omega) (by omega)]; exact u2
      · rw [gi_ne (by decide), gi_ne (by decide), gi_nj y, gi_ne (by decide), gi_ne (by decide), gi_ne (by decide), t7 _ _ (by omega) (by omega), gi_ne (by decide), gi_ne (by decide), gi_nj y, gi_ne (by decide), gi_ne (by decide), gi_ne (by decide), t8 _ _ (by omega) (by omega)]; exact u3
      · rw [gi_ne (by decide), gi_nj y, gi_ne (by decide), gi_ne (by decide), gi_ne (by decide), gi_ne (by decide), t7 _ _ (by omega) (by omega), gi_ne (by decide), gi_nj y, gi_ne (by decide), gi_ne (by decide), gi_ne (by decide), gi_ne (by decide), t8 _ _ (by omega) (by omega)]; exact u4
  · by_cases y : i = s
    · subst y
      rw [gi_ne (by decide), gi_ne (by decide), gi_ne (by decide), gi_ne (by decide), gi_ne (by decide), gi_eq, gi_ne (by decide), gi_ne (by decide), gi_ne (by decide), gi_ne (by decide), gi_ne (by decide), gi_eq, t6 i hi]
    · rw [gi_ne (by decide), gi_ne (by decide), gi_ne (by decide), gi_ne (by decide), gi_ne (by decide), gi_nj y, gi_ne (by decide), gi_ne (by decide), gi_ne (by decide), gi_ne (by decide), gi_ne (by decide), gi_nj y]
      exact t6 i hi
  · rw [gi_if, if_neg (by omega), gi_ne (by omega), gi_ne (by omega), gi_ne (by omega), gi_ne (by omega), gi_ne (by omega), t7 _ _ (by omega) (by omega)]
  · rw [gi_nj h1, gi_ne (by decide), gi_ne (by decide), gi_ne (by decide), gi_ne (by decide), gi_ne (by decide), t7 _ _ (by omega) (fun _ => h2)]
  · rw [gi_if, if_neg (by omega), gi_ne (by omega), gi_ne (by omega), gi_ne (by omega), gi_ne (by omega), gi_ne (by omega), t8 _ _ (by omega) (by omega)]
