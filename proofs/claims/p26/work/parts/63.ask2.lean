theorem isDir_0 : isDir 0 := Or.inl rfl
theorem isDir_1 : isDir 1 := Or.inr rfl
/-- a hole's nearness -/
theorem near_eq {p j h : Nat} {S M : St} (hp : p < 8) (hP : RPt p S M) (hh : gi M 9 p = nI h) (hj : j < h) (h6 : h ≤ 6) : ∃ r, isDir r ∧ fX4_isHoleNear S (29 + 7 * p) (nI j) = some r ∧ fX9_isClose M (nI p) (nI j) = some r := by
  obtain ⟨f, th, h', hb, ⟨a1, a2⟩, a3, ⟨a4, a5⟩, ⟨a6, a7⟩, a8, ⟨a9, a10⟩, a11⟩ := hP
  obtain rfl : h' = h := (nI_eq (by omega) (by omega)).mp (a10.symm.trans hh)
  obtain ⟨⟨u1, q, hq, u2⟩, u3, u4⟩ := a11 j hj
  have v1 : gi S (29 + 7 * p + 4) j = nI q := by rw [show 29 + 7 * p + 4 = 33 + 7 * p by omega, u1, u2]
  have v2 : gi S (29 + 7 * p + 5) j = gi M 11 (6 * p + j) := by rw [show 29 + 7 * p + 5 = 34 + 7 * p by omega]; exact u3
  have v3 : gi S (29 + 7 * p + 6) j = gi M 12 (6 * p + j) := by rw [show 29 + 7 * p + 6 = 35 + 7 * p by omega]; exact u4
  have v4 : gi S (29 + 7 * p + 1) 2 = nI f := by rw [show 29 + 7 * p + 1 = 30 + 7 * p by omega]; exact a1
  have v5 : gi S (29 + 7 * p + 1 + 1) q = gi M 4 (6 * p + q) := by rw [show 29 + 7 * p + 1 + 1 = 31 + 7 * p by omega]; exact (a3.1 q hq).1
  unfold fX4_isHoleNear fX9_isClose
  rw [gd_t (inb_nI (show j < 6 by omega) (by omega)), nI_clamp (n := j) (by omega), v1, v2, v3, v4, a6, ix6, gd_t (inb_nI (show 6 * p + j < 48 by omega) (by omega)), nI_clamp (n := 6 * p + j) (by omega), u2, nI_clamp (n := p) (by omega), a7, a2]
  simp only [bv, jn0, gd_t (inb_nI (show j < 6 by omega) (by omega)), gd_t (inb_nI (show 6 * p + j < 48 by omega) (by omega)), gd_t (inb_nI hp (by omega)), gd_t (inb_nI (show q < 6 by omega) (by omega)), nI_clamp (show q < 2 ^ 31 by omega), v5, ix6, gd_t (inb_nI (show 6 * p + q < 48 by omega) (by omega)), nI_clamp (show 6 * p + q < 2 ^ 31 by omega), nI_sub1 (show 0 < f by omega), nI_1]
  generalize (2 : Int32) * nI th + gi M 12 (6 * p + j) / 2 = V
  generalize gi M 11 (6 * p + j) = x
  generalize gi M 4 (6 * p + q) = ln
  have e1 : (nI q ≤ 0) ↔ q = 0 := by
    constructor
    · intro z
      by_cases w : q = 0
      · exact w
      · exact absurd z (nI_nle (by omega) (by omega))
    · rintro rfl; decide
  have e2 : (nI (f - 1) ≤ nI q) ↔ q + 1 = f := by rw [nI_leI (by omega) (by omega)]; omega
  have e3 : (nI f ≤ nI (q + 1)) ↔ q + 1 = f := by rw [nI_leI (by omega) (by omega)]; omega
  have e4 : (x < V) ↔ ¬ V ≤ x := i_nle.symm
  simp only [e1, e2, e3, e4]
  rcases Classical.propComplete (q = 0) with c1 | c1 <;> rcases Classical.propComplete (q + 1 = f) with c2 | c2 <;> rcases Classical.propComplete (V ≤ x) with c3 | c3 <;> rcases Classical.propComplete (V ≤ ln - x) with c4 | c4 <;> simp only [c1, c2, c3, c4, if_true, if_false, not_true_eq_false, not_false_eq_true, bn1_s, if_pos, if_neg (show ¬ (1 : Int32) = 0 by decide)] <;> first | exact ⟨_, isDir_0, rfl, rfl⟩ | exact ⟨_, isDir_1, rfl, rfl⟩
theorem nears_eq {p h : Nat} {S M : St} (hp : p < 8) (hP : RPt p S M) (hS : gi S (29 + 7 * p) 7 = nI h) (hh : gi M 9 p = nI h) (h6 : h ≤ 6) : ∀ (n k m : Nat) (a : Int32), k + n = h → n < m → ∃ r, lq2 (fX4_nearHoles_L4 S (29 + 7 * p)) m a (nI k) = some r ∧ lq2 (fX9_told_L43 (nI p) M) m a (nI k) = some r := by
  intro n
  induction n with
  | zero =>
    intro k m a hk hm
    obtain ⟨m, rfl⟩ : ∃ q, m = q + 1 := ⟨m - 1, by omega⟩
    refine ⟨a, ?_, ?_⟩
    · rw [lq2_1, fX4_nearHoles_L4, hS, if_pos (nI_le (by omega) (by omega))]
    · rw [lq2_1, fX9_told_L43, gd_t (inb_nI hp (by omega)), nI_clamp (n := p) (by omega), hh, if_pos (nI_le (by omega) (by omega))]
  | succ n ih =>
    intro k m a hk hm
    obtain ⟨m, rfl⟩ : ∃ q, m = q + 1 := ⟨m - 1, by omega⟩
    obtain ⟨v, -, e1, e2⟩ := near_eq (j := k) hp hP hh (by omega) h6
    obtain ⟨r, r1, r2⟩ := ih (k + 1) m (a + if v = 0 then 0 else 1) (by omega) (by omega)
    refine ⟨r, ?_, ?_⟩
    · rw [lq2_1, fX4_nearHoles_L4, hS, if_neg (nI_ge (by omega) (by omega)), e1]
      simp only [bn1_s, bn1_if, bv, nI_1]
      exact r1
    · rw [lq2_1, fX9_told_L43, gd_t (inb_nI hp (by omega)), nI_clamp (n := p) (by omega), hh, if_neg (nI_ge (by omega) (by omega)), e2]
      simp only [bn1_s, bn1_if, bv, nI_1]
      exact r2
theorem ag_isNear : Ag_isNear Rel := by
  intro S M hR p1 p2
  have hR' := hR
  obtain ⟨P, T, B, F, hN⟩ := hR
  obtain ⟨⟨a1, a2, a3, a4⟩, ⟨b1, b2, b3, b4⟩, c1, c2, c3, c4⟩ := hN.1
  rcases part_cs b1 c1 a1 p1 with ⟨p, hp, rfl, e1, e2⟩ | ⟨e1, e2⟩
  · have hp0 := hN.2.2.1 p hp
    have hp1 := (RelN.thr (k := 0) hN).2.2.1 p hp
    obtain ⟨f, th, h, hb, -, -, -, -, -, ⟨a9, a10⟩, -⟩ := hp0
    by_cases g : (0 : Int32) ≤ p2 ∧ p2 ≤ nI h - 1
    · obtain ⟨j, hj, rfl⟩ := rng (by omega) g
      obtain ⟨r, r0, r1, r2⟩ := near_eq (p := p) (j := j) (h := h) (M := si M 0 0 0) (by omega) hp1 (by rw [gi_ne (by decide)]; exact a10) hj (by omega)
      left
      refine ⟨r, S, si M 0 0 0, onS_of ?_, ?_, rfl, hR'.thr⟩
      · unfold fX8_isNear
        rw [e1]
        simp only [bx, a9, isOut_in g, bn1_s, if_pos, r1]
        rcases r0 with rfl | rfl <;> rfl
      · unfold fX9_isNear jn0
        rw [e2]
        simp only [bn1_s, if_neg (show ¬ (1 : Int32) = 0 by decide), gd_t (inb_nI (show p < 8 by omega) (by omega)), nI_clamp (show p < 2 ^ 31 by omega), a10, in_in g, well_0, bn2_s, r2]
        rcases r0 with rfl | rfl <;> rfl
    · right
      refine ⟨0, S, si M 0 0 1, onS_of ?_, ?_, rfl, hR'.thr, scrM_t⟩
      · unfold fX8_isNear
        rw [e1]
        simp only [bx, a9, isOut_out g, bn1_s]
        rfl
      · unfold fX9_isNear jn0
        rw [e2]
        simp only [bn1_s, if_neg (show ¬ (1 : Int32) = 0 by decide), gd_t (inb_nI (show p < 8 by omega) (by omega)), nI_clamp (show p < 2 ^ 31 by omega), a10, in_out g]
        rfl
  · right
    refine ⟨0, S, si M 0 0 1, onS_of ?_, ?_, rfl, hR'.thr, scrM_t⟩
    · unfold fX8_isNear
      rw [e1]; rfl
    · unfold fX9_isNear jn0
      rw [e2]; rfl
theorem ag_told : Ag_told Rel := by
  intro S M hR p1 p2
  have hR' := hR
  obtain ⟨P, T, B, F, hN⟩ := hR
  obtain ⟨⟨a1, a2, a3, a4⟩, ⟨b1, b2, b3, b4⟩, c1, c2, c3, c4⟩ := hN.1
  rcases part_cs b1 c1 a1 p1 with ⟨p, hp, rfl, e1, e2⟩ | ⟨e1, e2⟩
  · by_cases g : (0 : Int32) ≤ p2 ∧ p2 ≤ 5
    · have hp1 := (RelN.thr (k := 0) hN).2.2.1 p hp
      obtain ⟨f, th, h, hb, ⟨d1, d2⟩, d3, ⟨d4, d5⟩, ⟨d6, d7⟩, d8, ⟨d9, d10⟩, -⟩ := id hp1
      obtain ⟨r, r1, r2⟩ := nears_eq (show p < 8 by omega) hp1 d9 d10 (by omega) h 0 200 0 (by omega) (by omega)
      obtain ⟨w, -, w2, rfl⟩ := btw_nat (a := 0) (b := 5) g (by omega) (by omega)
      left
      have key : ∀ v, fX8_told S (nI p) (nI w) = some (.inr v) → fX9_told M (nI p) (nI w) = some (v, si M 0 0 0) → AgV Rel (onS S (fX8_told S (nI p) (nI w))) (fX9_told M (nI p) (nI w)) := fun v h1 h2 => ⟨v, S, si M 0 0 0, onS_of h1, h2, rfl, hR'.thr⟩
      have hX : fX8_told S (nI p) (nI w) = some (.inr (if w = 0 then gi S (29 + 7 * p) 3 else if w = 1 then nI f else if w = 2 then gi S (29 + 7 * p) 1 else if w = 3 then nI th else if w = 4 then nI h else r)) := by
        unfold fX8_told
        rw [e1]
        simp only [bx]
        rcases (show w = 0 ∨ w = 1 ∨ w = 2 ∨ w = 3 ∨ w = 4 ∨ w = 5 by omega) with rfl | rfl | rfl | rfl | rfl | rfl
        · rfl
        · rw [show 29 + 7 * p + 1 = 30 + 7 * p by omega, d1]; rfl
        · rfl
        · rw [d6]; rfl
        · rw [d9]; rfl
        · unfold fX4_nearHoles
          rw [show (0 : Int32) = nI 0 from rfl] at r1
          rw [show (0 : Int32) = nI 0 from rfl, r1]
          rfl
      have hM : fX9_told M (nI p) (nI w) = some ((if w = 0 then gi S (29 + 7 * p) 3 else if w = 1 then nI f else if w = 2 then gi S (29 + 7 * p) 1 else if w = 3 then nI th else if w = 4 then nI h else r), si M 0 0 0) := by
        unfold fX9_told
        rw [e2]
        simp only [bn1_s, if_neg (show ¬ (1 : Int32) = 0 by decide), in_in g, well_0, bn2_s, gd_t (inb_nI (show p < 8 by omega) (by omega)), nI_clamp (show p < 2 ^ 31 by omega)]
        rw [nI_0] at r2
        rw [r2]
        simp only [bn1_s]
        rw [← d8, d2, ← d4, d7, d10]
        rcases (show w = 0 ∨ w = 1 ∨ w = 2 ∨ w = 3 ∨ w = 4 ∨ w = 5 by omega) with rfl | rfl | rfl | rfl | rfl | rfl <;> rfl
      exact key _ hX hM
    · right; right
      refine ⟨0, S, si M 0 0 2, onS_of ?_, ?_, rfl, hR'.thr, scrM_t⟩
      · unfold fX8_told
        rw [e1]
        simp only [bx]
        rw [if_neg (fun q => g (by subst q; decide)), if_neg (fun q => g (by subst q; decide)), if_neg (fun q => g (by subst q; decide)), if_neg (fun q => g (by subst q; decide)), if_neg (fun q => g (by subst q; decide)), if_neg (fun q => g (by subst q; decide))]
      · unfold fX9_told
        rw [e2]
        simp only [bn1_s, if_neg (show ¬ (1 : Int32) = 0 by decide), in_out g]
        rfl
  · right; left
    refine ⟨0, S, si M 0 0 1, onS_of ?_, ?_, rfl, hR'.thr, scrM_t⟩
    · unfold fX8_told
      rw [e1]; rfl
    · unfold fX9_told
      rw [e2]; rfl
theorem ag_batchOf : Ag_batchOf Rel := by
  intro S M hR p1 p2
  have hR' := hR
  obtain ⟨P, T, B, F, hN⟩ := hR
  obtain ⟨⟨a1, a2, a3, a4⟩, ⟨b1, b2, b3, b4⟩, c1, c2, c3, c4⟩ := hN.1
  rcases batch_cs b3 c3 a3 p1 with ⟨b, hb, rfl, e1, e2⟩ | ⟨e1, e2⟩
  · by_cases g : (0 : Int32) ≤ p2 ∧ p2 ≤ 3
    · obtain ⟨p, t, n, u, ⟨x1, x2, x3, x4⟩, ⟨y1, y2⟩, ⟨y3, y4⟩, ⟨y5, y6⟩, ⟨y7, y8⟩, y9, y10⟩ := hN.2.2.2.2.2.1 b hb
      obtain ⟨w, -, w2, rfl⟩ := btw_nat (a := 0) (b := 3) g (by omega) (by omega)
      left
      refine ⟨if w = 0 then nI u else if w = 1 then nI n else if w = 2 then gi S (93 + b) 4 else gi S (93 + b) 5, S, si M 0 0 0, onS_of ?_, ?_, rfl, hR'.thr⟩
      · unfold fX8_batchOf
        rw [e1]
        simp only [bx]
        rw [y5, y7]
        rcases (show w = 0 ∨ w = 1 ∨ w = 2 ∨ w = 3 by omega) with rfl | rfl | rfl | rfl <;> rfl
      · unfold fX9_batchOf
        rw [e2]
        simp only [bn1_s, if_neg (show ¬ (1 : Int32) = 0 by decide), in_in g, well_0, bn2_s, gd_t (inb_nI (show b < 20 by omega) (by omega)), nI_clamp (show b < 2 ^ 31 by omega), gi_ne (show (23 : Nat) ≠ 0 by decide), gi_ne (show (22 : Nat) ≠ 0 by decide), gi_ne (show (24 : Nat) ≠ 0 by decide), gi_ne (show (25 : Nat) ≠ 0 by decide), y6, y8, ← y9, ← y10.1]
        rcases (show w = 0 ∨ w = 1 ∨ w = 2 ∨ w = 3 by omega) with rfl | rfl | rfl | rfl <;> rfl
    · right; right
      refine ⟨0, S, si M 0 0 2, onS_of ?_, ?_, rfl, hR'.thr, scrM_t⟩
      · unfold fX8_batchOf
        rw [e1]
        simp only [bx]
        rw [if_neg (fun q => g (by subst q; decide)), if_neg (fun q => g (by subst q; decide)), if_neg (fun q => g (by subst q; decide)), if_neg (fun q => g (by subst q; decide))]
      · unfold fX9_batchOf
        rw [e2]
        simp only [bn1_s, if_neg (show ¬ (1 : Int32) = 0 by decide), in_out g]
        rfl
  · right; left
    refine ⟨0, S, si M 0 0 1, onS_of ?_, ?_, rfl, hR'.thr, scrM_t⟩
    · unfold fX8_batchOf
      rw [e1]; rfl
    · unfold fX9_batchOf
      rw [e2]; rfl
