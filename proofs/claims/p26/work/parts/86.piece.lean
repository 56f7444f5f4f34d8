/-- one piece, laid on both sides -/
theorem gl_si {S : St} {k j k' j' : Nat} {v : Int32} : gl (si S k j v) k' j' = gl S k' j' := rfl
theorem gl_eq {S : St} {k j : Nat} {v : Int64} : gl (sl S k j v) k j = v := by
  unfold gl sl
  simp [vp_updL]
theorem gl_nj {S : St} {k j j' : Nat} {v : Int64} (h : j' ≠ j) : gl (sl S k j v) k j' = gl S k j' := by
  unfold gl sl
  simp [vp_updL, h]
theorem piece_eq {all wide : Int32} {c lg sh : Nat} {w21 w22 : Int64} {S M : St} (hN : NS all wide c w21 w22 S M) (hc : c < 40) (hl : lg ≤ 1200) (hs : sh ≤ 1200) (hs0 : 0 < sh) : ∃ (r : Nat) (S' M1 : St) (v39 : Int32), fX3_lay S (nI lg) (nI sh) = some S' ∧ fX9_rowFor M (nI lg) (nI sh) all wide = some (nI r, M1) ∧ r < 40 ∧ (if gi M1 32 r = nI sh then some (nI sh) else some (0 : Int32)) = some v39 ∧
    NS all wide (c + 1) (w21 + ((2 : Int64) * (Int32.toInt64 (nI lg + nI sh)) - Int32.toInt64 v39)) (w22 + (Int32.toInt64 (nI lg)) * (Int32.toInt64 (nI sh))) S' (si (si M1 31 r (gi M1 31 r - nI lg)) 32 r (nI sh)) ∧ (∀ k j, (k < 20 ∨ 28 < k ∨ k = 21 ∨ k = 22 ∨ k = 23) → gi S' k j = gi S k j) ∧ gi S' 20 5 = gi S 20 5 ∧ (∀ k j, k < 28 → (k = 0 → j ≠ 38 ∧ j ≠ 40) → gi M1 k j = gi M k j) := by
  have hb22 : 0 ≤ w22.toInt ∧ w22.toInt ≤ (c : Int) * 1440000 := by
    obtain ⟨_, _, -, -, -, -, -, -, -, -, u1, u2⟩ := hN
    exact ⟨u1, u2⟩
  obtain ⟨r, S1, M1, x1, x2, x3, x4, ⟨R, x5, x6, x7⟩, x8, x9, x10⟩ := row_eq (lg := nI lg) (sh := nI sh) hN hc
  obtain ⟨R', H, ⟨r1, r2⟩, ⟨a1, a2⟩, ⟨b1, b2⟩, ⟨d1, d2⟩, hr, hsh, g1, g2, -, -⟩ := x3
  obtain rfl : R' = R := (nI_eq (by omega) (by omega)).mp (a1.symm.trans x5)
  obtain ⟨u1, u2, u3, u4⟩ := hr r x7
  have nr : ¬ nI r = -1 := fun w => by
    have h2 := nI_toInt (show r < 2 ^ 31 by omega)
    rw [w, show (-1 : Int32).toInt = -1 from rfl] at h2
    omega
  have e2 : Int32.toInt64 ((2 : Int32) * (nI lg + nI sh)) = (2 : Int64) * Int32.toInt64 (nI lg + nI sh) := by
    rw [nI_add, nI_lit2, nI_l (by omega), nI_l (by omega), show (2 : Int64) = lN 2 from rfl, lN_mul]
  have hmul : lg * sh ≤ 1200 * 1200 := Nat.mul_le_mul hl hs
  have e3 : Int32.toInt64 (nI lg * nI sh) = Int32.toInt64 (nI lg) * Int32.toInt64 (nI sh) := by
    rw [nI_mul, nI_l (by omega), nI_l (by omega), nI_l (by omega), lN_mul]
  have e4 : (w22 + Int32.toInt64 (nI lg) * Int32.toInt64 (nI sh)).toInt = w22.toInt + ((lg * sh : Nat) : Int) := by
    rw [nI_l (by omega), nI_l (by omega), lN_mul, Int64.toInt_add, lN_toInt (by omega)]
    exact Int.bmod_eq_of_le (by omega) (by omega)
  have rest : ∀ (Sx : St) (wx : Int64), (∀ k j, gi Sx k j = gi S1 k j) → gl Sx 20 13 = wx → gl Sx 20 14 = w22 → NS all wide (c + 1) wx (w22 + Int32.toInt64 (nI lg) * Int32.toInt64 (nI sh)) (si (si (sl Sx 20 14 (gl Sx 20 14 + Int32.toInt64 (nI lg * nI sh))) 26 r (gi Sx 26 r - nI lg)) 27 r (nI sh)) (si (si M1 31 r (gi M1 31 r - nI lg)) 32 r (nI sh)) := fun Sx wx h1 h2 h3 => by
    refine ⟨R', H, ⟨r1, r2⟩, ⟨?_, ?_⟩, ⟨?_, ?_⟩, ⟨?_, ?_⟩, fun i hi => ?_, fun i hi => ?_, ?_, ?_⟩
    · rw [gi_ne (by decide), gi_ne (by decide), gi_sl, h1]; exact a1
    · rw [gi_ne (by decide), gi_ne (by decide)]; exact a2
    · rw [gi_ne (by decide), gi_ne (by decide), gi_sl, h1]; exact b1
    · rw [gi_ne (by decide), gi_ne (by decide)]; exact b2
    · rw [gi_ne (by decide), gi_ne (by decide), gi_sl, h1]; exact d1
    · rw [gi_ne (by decide), gi_ne (by decide), gi_sl, h1]; exact d2
    · obtain ⟨v1, v2, v3, v4⟩ := hr i hi
      refine ⟨?_, ?_, ?_, ?_⟩
      · rw [gi_ne (by decide), gi_ne (by decide), gi_sl, h1, gi_ne (by decide), gi_ne (by decide)]; exact v1
      · rw [gi_ne (by decide), gi_ne (by decide), gi_sl, h1, gi_ne (by decide), gi_ne (by decide)]; exact v2
      · by_cases y : i = r
        · subst y
          rw [gi_ne (by decide), gi_eq, gi_ne (by decide), gi_eq, h1, v3]
        · rw [gi_ne (by decide), gi_nj y, gi_sl, h1, gi_ne (by decide), gi_nj y]; exact v3
      · by_cases y : i = r
        · subst y
          rw [gi_eq, gi_eq]
        · rw [gi_nj y, gi_ne (by decide), gi_sl, h1, gi_nj y, gi_ne (by decide)]; exact v4
    · rw [gi_ne (by decide), gi_ne (by decide), gi_sl, h1, gi_ne (by decide), gi_ne (by decide)]; exact hsh i hi
    · rw [gl_si, gl_si, gl_nj (by decide)]; exact h2
    · refine ⟨by rw [gl_si, gl_si, gl_eq, h3, e3], ?_, ?_⟩
      · rw [e4]; omega
      · rw [e4]; omega
  have frX : ∀ (Sx : St), (∀ k j, gi Sx k j = gi S1 k j) → (∀ k j, (k < 20 ∨ 28 < k ∨ k = 21 ∨ k = 22 ∨ k = 23) → gi (si (si (sl Sx 20 14 (gl Sx 20 14 + Int32.toInt64 (nI lg * nI sh))) 26 r (gi Sx 26 r - nI lg)) 27 r (nI sh)) k j = gi S k j) ∧ gi (si (si (sl Sx 20 14 (gl Sx 20 14 + Int32.toInt64 (nI lg * nI sh))) 26 r (gi Sx 26 r - nI lg)) 27 r (nI sh)) 20 5 = gi S 20 5 := fun Sx h1 => by
    refine ⟨fun k j hk => ?_, ?_⟩
    · rw [gi_ne (by omega), gi_ne (by omega), gi_sl, h1, x8 k j hk]
    · rw [gi_ne (by decide), gi_ne (by decide), gi_sl, h1, x9 5 (by decide) (by decide)]
  unfold fX3_lay
  obtain ⟨vv, hv1, hv2⟩ := bn1_of x1
  rw [hv1]
  simp only [bn1_s]
  rw [hv2]
  simp only [bn2_s]
  rw [if_neg nr]
  simp only [bv, gd_t (inb_nI (show r < 40 by omega) (by omega)), nI_clamp (show r < 2 ^ 31 by omega), gi_sl, u4, e2, g1]
  by_cases q : gi M1 32 r = nI sh
  · obtain ⟨f1, f2⟩ := frX (sl (sl S1 20 13 (w21 + 2 * Int32.toInt64 (nI lg + nI sh))) 20 13 (gl (sl S1 20 13 (w21 + 2 * Int32.toInt64 (nI lg + nI sh))) 20 13 - Int32.toInt64 (nI sh))) (fun _ _ => rfl)
    refine ⟨r, _, M1, nI sh, ?_, x2, x4, if_pos q, rest (sl (sl S1 20 13 (w21 + 2 * Int32.toInt64 (nI lg + nI sh))) 20 13 (gl (sl S1 20 13 (w21 + 2 * Int32.toInt64 (nI lg + nI sh))) 20 13 - Int32.toInt64 (nI sh))) _ (fun _ _ => rfl) ?_ ?_, f1, f2, x10⟩
    · rw [if_pos q]; rfl
    · rw [gl_eq, gl_eq, Int64.sub_eq_add_neg, Int64.sub_eq_add_neg, Int64.add_assoc]
    · rw [gl_nj (by decide), gl_nj (by decide)]; exact g2
  · obtain ⟨f1, f2⟩ := frX (sl S1 20 13 (w21 + 2 * Int32.toInt64 (nI lg + nI sh))) (fun _ _ => rfl)
    refine ⟨r, _, M1, 0, ?_, x2, x4, if_neg q, rest (sl S1 20 13 (w21 + 2 * Int32.toInt64 (nI lg + nI sh))) _ (fun _ _ => rfl) ?_ ?_, f1, f2, x10⟩
    · rw [if_neg q]; rfl
    · rw [gl_eq, show Int32.toInt64 0 = 0 from rfl, Int64.sub_zero]
    · rw [gl_nj (by decide)]; exact g2
