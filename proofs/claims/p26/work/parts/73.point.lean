/-! ===== bends, done sets; points ===== -/
theorem sub2 {f : Nat} (h : 1 ≤ f) : nI f - 2 = nI (f - 1) - 1 := by
  obtain ⟨m, rfl⟩ : ∃ m, f = m + 1 := ⟨f - 1, by omega⟩
  rw [Nat.add_sub_cancel, ← nI_1, Int32.sub_eq_add_neg, Int32.sub_eq_add_neg, Int32.add_assoc]
  rfl
theorem bend_cs {p f : Nat} {S : St} {x : Int32} (h1 : 1 ≤ f) (hf : f ≤ 6) (hS : gi S (29 + 7 * p + 1) 2 = nI f) : (∃ now, now + 1 < f ∧ x = nI now ∧ fX8_checkBend S (29 + 7 * p + 1) x = some (.inr ()) ∧ fX9_in x 0 (nI f - 2) = some 1) ∨ (fX8_checkBend S (29 + 7 * p + 1) x = some (.inl "java/lang/IndexOutOfBoundsException") ∧ fX9_in x 0 (nI f - 2) = some 0) := by
  unfold fX8_checkBend
  rw [bends_eq hS h1 hf, sub2 h1]
  simp only [bn1_s]
  by_cases h : (0 : Int32) ≤ x ∧ x ≤ nI (f - 1) - 1
  · obtain ⟨now, hn, rfl⟩ := rng (by omega) h
    left
    rw [isOut_in h, in_in h]
    exact ⟨now, by omega, rfl, rfl, rfl⟩
  · right
    rw [isOut_out h, in_out h]
    exact ⟨rfl, rfl⟩
theorem done_cs {p f : Nat} {S M : St} {d x : Int32} (hp : p < 8) (h1 : 1 ≤ f) (hf : f ≤ 6) (hS : gi S (29 + 7 * p + 1) 2 = nI f) (hM : gi M 3 p = nI f) : (fX8_checkDone S (29 + 7 * p + 1) d x = some (.inr ()) ∧ fX9_isDone M (nI p) d x = some 1 ∧ ((d >>> (x &&& 31)) &&& 1) = 0 ∧ 0 ≤ d ∧ d < (1 : Int32) <<< (nI (f - 1) &&& 31)) ∨ (fX8_checkDone S (29 + 7 * p + 1) d x = some (.inl "java/lang/IllegalArgumentException") ∧ fX9_isDone M (nI p) d x = some 0) := by
  unfold fX8_checkDone fX9_isDone
  rw [bends_eq hS h1 hf, gd_t (inb_nI hp (by omega)), nI_clamp (n := p) (by omega), hM, nI_sub1 (by omega)]
  simp only [bn1_s]
  have hu := ushr0 (x := d) (P := f - 1) (by omega)
  by_cases q : (d.toUInt32 >>> ((nI (f - 1)).toUInt32 &&& Int32.toUInt32 31)).toInt32 = 0
  · obtain ⟨z1, z2⟩ := hu.mp q
    rw [if_pos q, if_neg (i_nlt.mpr z1), if_neg (i_nle.mpr z2)]
    rcases bit_X (x := d) (v := x) with ⟨w1, w2⟩ | ⟨w1, w2⟩
    · right
      rw [w2, if_neg w1]
      exact ⟨rfl, rfl⟩
    · left
      have w3 : ((d >>> (x &&& 31)) &&& 1) = 0 := Classical.byContradiction w1
      rw [w2, if_pos w3]
      exact ⟨rfl, rfl, w3, z1, z2⟩
  · right
    rw [if_neg q]
    refine ⟨rfl, ?_⟩
    by_cases z1 : d < 0
    · rw [if_pos z1]
    · rw [if_neg z1]
      by_cases z2 : (1 : Int32) <<< (nI (f - 1) &&& 31) ≤ d
      · rw [if_pos z2]
      · exact absurd (hu.mpr ⟨i_nlt.mp z1, i_nle.mp z2⟩) q
theorem wing_M {p f now : Nat} {M : St} {r : Bool} (hp : p < 8) (h1 : 1 ≤ f) (hn : now + 1 < f) (hf : f ≤ 6) (hM : gi M 3 p = nI f) : fX9_wing M (nI p) (nI now) (if r then 1 else -1) = some (nI (wln f now r)) := by
  unfold fX9_wing wln
  cases r
  · rw [if_pos (by decide), if_neg (by decide), nI_1]
  · rw [if_neg (by decide), if_pos rfl, gd_t (inb_nI hp (by omega)), nI_clamp (n := p) (by omega), hM, nI_sub1 (by omega), nI_subN (by omega)]
theorem wing_X {f now k1 : Nat} {S : St} {r : Bool} (h1 : 1 ≤ f) (hn : now + 1 < f) (hS : gi S k1 2 = nI f) : fX2_wingFaces S k1 (nI now) (if r then 1 else 0) = some (nI (wln f now r)) := by
  unfold fX2_wingFaces wln
  cases r
  · rw [if_pos (by decide), if_neg (by decide), nI_1]
  · rw [if_neg (by decide), if_pos rfl, hS, nI_sub1 (by omega), nI_subN (by omega)]
theorem point_L {p f now pl : Nat} {L Dr : Nat → Int32} {done : Int32} {r : Bool} (hp : p < 8) (hf : f ≤ 6) (hn : now + 1 < f) (hpl : pl < wln f now r) : ∀ (n k m : Nat) (M : St), k + n = pl + 1 → n < m → DrM p f M L Dr → GM6 M (gw L Dr now done r k) → ∃ M', lq2 (fX9_point_L98 (nI pl) (if r then 1 else 0) (nI p) done (nI now)) m (nI k) M = some M' ∧ GM6 M' (gw L Dr now done r (pl + 1)) ∧ scrG M M' := by
  have hw6 : wln f now r ≤ 6 := by
    unfold wln
    split <;> omega
  intro n
  induction n with
  | zero =>
    intro k m M hk hm hD hg
    obtain ⟨m, rfl⟩ : ∃ q, m = q + 1 := ⟨m - 1, by omega⟩
    obtain rfl : k = pl + 1 := by omega
    refine ⟨M, ?_, hg, scrG_r⟩
    rw [lq2_1, fX9_point_L98, if_pos (nI_lt (by omega) (by omega))]
  | succ n ih =>
    intro k m M hk hm hD hg
    obtain ⟨m, rfl⟩ : ∃ q, m = q + 1 := ⟨m - 1, by omega⟩
    obtain ⟨M1, e1, e2, e3⟩ := go_M (r := r) hp hf hD hn (show k < wln f now r by omega) hg
    obtain ⟨M', w1, w2, w3⟩ := ih (k + 1) m M1 (by omega) (by omega) (hD.keep e3) e2
    refine ⟨M', ?_, w2, e3.tr w3⟩
    have hsd : (if (if r then (1 : Int32) else 0) = 0 then some (-1 : Int32) else some 1) = some (if r then (1 : Int32) else -1) := by cases r <;> rfl
    rw [lq2_1, fX9_point_L98, if_neg (nI_nlt (by omega) (by omega)), hsd]
    simp only [bn1_s, e1, bv, nI_1]
    exact w1
theorem RPt.dr {p f : Nat} {S M : St} (hA : RFa f S M (31 + 7 * p) (32 + 7 * p) 4 5 (6 * p)) (hM : gi M 3 p = nI f) : DrX f S (29 + 7 * p + 1) (fun i => gi M 4 (6 * p + i)) (fun i => gi M 5 (6 * p + i)) ∧ DrM p f M (fun i => gi M 4 (6 * p + i)) (fun i => gi M 5 (6 * p + i)) := by
  refine ⟨⟨fun i hi => ?_, fun i hi => ?_⟩, fun _ _ => rfl, fun _ _ => rfl, hM⟩
  · rw [show 29 + 7 * p + 1 + 1 = 31 + 7 * p by omega]; exact (hA.1 i hi).1
  · rw [show 29 + 7 * p + 1 + 2 = 32 + 7 * p by omega]; exact (hA.2 i hi).1
theorem ag_point : Ag_point Rel := by
  intro S M hR p1 p2 p3 p4 p5 p6 hb4 hb6
  have hR' := hR
  obtain ⟨P, T, B, F, hN⟩ := hR
  obtain ⟨h1, h2, h3, h4, h5, h6, h7, h8⟩ := id hN
  obtain ⟨⟨a1, a2, a3, a4⟩, ⟨b1, b2, b3, b4⟩, c1, c2, c3, c4⟩ := h1
  rcases part_cs b1 c1 a1 p1 with ⟨p, hp, rfl, e1, e2⟩ | ⟨e1, e2⟩
  rotate_left
  · refine Or.inr (Or.inl ⟨0, S, si M 0 0 1, ?_, ?_, rfl, hR'.thr, scrM_t⟩)
    · unfold fX8_point
      rw [e1]; rfl
    · unfold fX9_point jn0
      rw [e2]; rfl
  have hp8 : p < 8 := by omega
  obtain ⟨f, th, h, hb, ⟨u1, u2⟩, u3, -⟩ := id (h3 p hp)
  have u1' : gi S (29 + 7 * p + 1) 2 = nI f := by rw [show 29 + 7 * p + 1 = 30 + 7 * p by omega]; exact u1
  rcases bend_cs (x := p3) hb.1 hb.2.1 u1' with ⟨now, hn, rfl, f1, f2⟩ | ⟨f1, f2⟩
  rotate_left
  · refine Or.inr (Or.inl ⟨0, S, si M 0 0 1, ?_, ?_, rfl, hR'.thr, scrM_t⟩)
    · unfold fX8_point
      rw [e1]
      simp only [bx, f1]
    · unfold fX9_point jn0
      rw [e2]
      simp only [bn1_s, if_neg (show ¬ (1 : Int32) = 0 by decide), gd_t (inb_nI hp8 (by omega)), nI_clamp (show p < 2 ^ 31 by omega), u2, f2]
      rfl
  obtain ⟨r, rfl⟩ : ∃ r : Bool, p4 = if r then 1 else 0 := by
    rcases hb4 with rfl | rfl
    · exact ⟨false, rfl⟩
    · exact ⟨true, rfl⟩
  have hsd : (if (if r then (1 : Int32) else 0) = 0 then some (-1 : Int32) else some 1) = some (if r then (1 : Int32) else -1) := by cases r <;> rfl
  have hwX := wing_X (r := r) hb.1 hn u1'
  have hwM := wing_M (r := r) hp8 hb.1 hn hb.2.1 u2
  have hw6 : wln f now r ≤ 6 := by
    unfold wln
    split <;> omega
  by_cases g1 : (0 : Int32) ≤ p5 ∧ p5 ≤ nI (wln f now r) - 1
  rotate_left
  · refine Or.inr (Or.inl ⟨0, S, si M 0 0 1, ?_, ?_, rfl, hR'.thr, scrM_t⟩)
    · unfold fX8_point
      rw [e1]
      simp only [bx, f1, hwX, bn1_s, isOut_out g1]
      rfl
    · unfold fX9_point jn0
      rw [e2]
      simp only [bn1_s, if_neg (show ¬ (1 : Int32) = 0 by decide), gd_t (inb_nI hp8 (by omega)), nI_clamp (show p < 2 ^ 31 by omega), u2, f2, hsd, hwM, in_out g1]
      rfl
  obtain ⟨pl, hpl, rfl⟩ := rng (by omega) g1
  rcases done_cs (d := p2) (x := nI now) hp8 hb.1 hb.2.1 u1' u2 with ⟨d1, d2, d3, -, -⟩ | ⟨d1, d2⟩
  rotate_left
  · refine Or.inr (Or.inr ⟨0, S, si M 0 0 2, ?_, ?_, rfl, hR'.thr, scrM_t⟩)
    · unfold fX8_point
      rw [e1]
      simp only [bx, f1, hwX, bn1_s, isOut_in g1, if_true, d1]
    · unfold fX9_point jn0
      rw [e2]
      simp only [bn1_s, if_neg (show ¬ (1 : Int32) = 0 by decide), gd_t (inb_nI hp8 (by omega)), nI_clamp (show p < 2 ^ 31 by omega), u2, f2, hsd, hwM, in_in g1, d2]
      rfl
  obtain ⟨hDX, hDM⟩ := RPt.dr u3 u2
  obtain ⟨S', x1, ⟨x2, x3, x4⟩, x5⟩ := unroll_X (k0 := 9) (k1 := 29 + 7 * p + 1) (r := r) (by omega) hb.1 hb.2.1 hn d3 hDX u1'
  obtain ⟨M1, y1, y2, y3⟩ := start_M (M := si M 0 0 0) (L := fun i => gi M 4 (6 * p + i)) (Dr := fun i => gi M 5 (6 * p + i)) (now := now) (done := p2) (r := r)
  have hDM0 : DrM p f (si M 0 0 0) (fun i => gi M 4 (6 * p + i)) (fun i => gi M 5 (6 * p + i)) := ⟨fun i hi => gi_ne (by decide), fun i hi => gi_ne (by decide), by rw [gi_ne (by decide)]; exact u2⟩
  obtain ⟨M2, z1, z2, z3⟩ := point_L (pl := pl) hp8 hb.2.1 hn hpl (pl + 1) 0 200 M1 (by omega) (by omega) (hDM0.keep y3) y2
  rw [nI_0] at z1
  obtain ⟨w1, w2⟩ := x3 pl hpl
  left
  have hrel : Rel S' M2 := hR'.keep (fun k j hk => x5 k j (by omega)) ((scrM_t (k := 0)).tr (y3.tr z3).m)
  have ht : fX9_thrown M2 = some 0 := by
    unfold fX9_thrown
    rw [(y3.tr z3) _ _ (by omega), gi_eq]
  have hX : fX8_point S (nI p) p2 (nI now) (if r then 1 else 0) (nI pl) p6 = some (.inr (if p6 = 0 then (gw (fun i => gi M 4 (6 * p + i)) (fun i => gi M 5 (6 * p + i)) now p2 r (pl + 1)).1 else (gw (fun i => gi M 4 (6 * p + i)) (fun i => gi M 5 (6 * p + i)) now p2 r (pl + 1)).2.1), S') := by
    unfold fX8_point
    rw [e1]
    simp only [bx, f1, hwX, bn1_s, isOut_in g1, if_true, d1, x1, gd_t (inb_nI (show pl < 6 by omega) (by omega)), nI_clamp (show pl < 2 ^ 31 by omega), show (9 : Nat) + 1 = 10 from rfl, show (9 : Nat) + 2 = 11 from rfl] at w1 w2 ⊢
    by_cases q : p6 = 0
    · rw [if_pos q, if_pos q, w1]
    · rw [if_neg q, if_neg q, w2]
  have hM : fX9_point M (nI p) p2 (nI now) (if r then 1 else 0) (nI pl) p6 = some ((if p6 = 0 then (gw (fun i => gi M 4 (6 * p + i)) (fun i => gi M 5 (6 * p + i)) now p2 r (pl + 1)).1 else (gw (fun i => gi M 4 (6 * p + i)) (fun i => gi M 5 (6 * p + i)) now p2 r (pl + 1)).2.1), M2) := by
    unfold fX9_point jn0
    rw [e2]
    simp only [bn1_s, if_neg (show ¬ (1 : Int32) = 0 by decide), gd_t (inb_nI hp8 (by omega)), nI_clamp (show p < 2 ^ 31 by omega), u2, f2, hsd, hwM, in_in g1, d2, well_0, bn2_s, y1, z1]
    by_cases q : p6 = 0
    · rw [if_pos q, if_pos q, z2.1]
    · rw [if_neg q, if_neg q, z2.2.1]
  exact ⟨_, S', M2, hX, hM, ht, hrel⟩
