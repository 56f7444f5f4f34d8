/-- all that a bend's reason looks at, on both sides -/
def RZ (p t f : Nat) (L Dr : Nat → Int32) (th op pu di ta ga : Int32) (S M : St) : Prop := (p < 8 ∧ t < 4 ∧ 1 ≤ f ∧ f ≤ 6) ∧ (DrX f S (29 + 7 * p + 1) L Dr ∧ gi S (29 + 7 * p + 1) 2 = nI f ∧ gi S (29 + 7 * p) 2 = th ∧ TlX S (85 + 2 * t) op pu di ta ga) ∧ DrM p f M L Dr ∧ gi M 7 p = th ∧ TlM t M op pu di ta ga
theorem RelN.rz {P T B F p t : Nat} {S M : St} (h : RelN P T B F S M) (hp : p < P) (ht : t < T) : ∃ (f : Nat) (L Dr : Nat → Int32) (th op pu di ta ga : Int32), RZ p t f L Dr th op pu di ta ga S M ∧ (∀ i, i + 1 < f → isDir (Dr i)) := by
  obtain ⟨⟨⟨a1, a2, -, -⟩, -⟩, -, h3, h4, -⟩ := h
  obtain ⟨f, th, hh, hb, ⟨u1, u2⟩, u3, -, ⟨u6, u7⟩, -⟩ := h3 p hp
  obtain ⟨⟨t1, t2, t3, t4, t5⟩, -⟩ := h4 t ht
  obtain ⟨d1, d2⟩ := RPt.dr u3 u2
  exact ⟨f, _, _, nI th, _, _, _, _, _, ⟨⟨by omega, by omega, hb.1, hb.2.1⟩, ⟨d1, by rw [show 29 + 7 * p + 1 = 30 + 7 * p by omega]; exact u1, u6, t1, t2, t3, t4, t5⟩, d2, u7, rfl, rfl, rfl, rfl, rfl⟩, fun i hi => (u3.2 i hi).2⟩
theorem RZ.keep {p t f : Nat} {L Dr : Nat → Int32} {th op pu di ta ga : Int32} {S M S' M' : St} (h : RZ p t f L Dr th op pu di ta ga S M) (hS : scrX S S') (hM : scrM M M') : RZ p t f L Dr th op pu di ta ga S' M' := by
  obtain ⟨⟨p8, t4, f1, f6⟩, ⟨⟨d1, d2⟩, s1, s2, t1, t2, t3, t4', t5⟩, ⟨m1, m2, m3⟩, m4, c1, c2, c3, c4, c5⟩ := h
  refine ⟨⟨p8, t4, f1, f6⟩, ⟨⟨fun i hi => by rw [hS _ _ (by omega)]; exact d1 i hi, fun i hi => by rw [hS _ _ (by omega)]; exact d2 i hi⟩, by rw [hS _ _ (by omega)]; exact s1, by rw [hS _ _ (by omega)]; exact s2, by rw [hS _ _ (by omega)]; exact t1, by rw [hS _ _ (by omega)]; exact t2, by rw [hS _ _ (by omega)]; exact t3, by rw [hS _ _ (by omega)]; exact t4', by rw [hS _ _ (by omega)]; exact t5⟩,
    ⟨fun i hi => by rw [hM _ _ (by omega) (by omega)]; exact m1 i hi, fun i hi => by rw [hM _ _ (by omega) (by omega)]; exact m2 i hi, by rw [hM _ _ (by omega) (by omega)]; exact m3⟩, by rw [hM _ _ (by omega) (by omega)]; exact m4, ?_⟩
  refine ⟨?_, ?_, ?_, ?_, ?_⟩ <;> rw [hM _ _ (by omega) (by omega)] <;> assumption
theorem RZ.X {p t f now : Nat} {L Dr : Nat → Int32} {th op pu di ta ga done : Int32} {S M : St} (h : RZ p t f L Dr th op pu di ta ga S M) (hn : now + 1 < f) (hd : ((done >>> (nI now &&& 31)) &&& 1) = 0) : ∃ S', fX1_reason S (29 + 7 * p) (85 + 2 * t) done (nI now) = some (rsn L Dr f now done (op / 2 + th) pu di ta ga, S') ∧ ∀ k' j, k' < 9 ∨ 14 < k' → gi S' k' j = gi S k' j := by
  obtain ⟨⟨p8, t4, f1, f6⟩, ⟨d, s1, s2, s3⟩, -⟩ := h
  exact reason_X (by omega) (by omega) f1 f6 hn hd d s1 s2 s3
theorem RZ.M {p t f now : Nat} {L Dr : Nat → Int32} {th op pu di ta ga done : Int32} {S M : St} (h : RZ p t f L Dr th op pu di ta ga S M) (hn : now + 1 < f) : ∃ M', fX9_reason M (nI p) (nI t) done (nI now) = some (rsn L Dr f now done (op / 2 + th) pu di ta ga, M') ∧ scrG M M' := by
  obtain ⟨⟨p8, t4, f1, f6⟩, -, d, s1, s2⟩ := h
  exact reason_M p8 t4 f1 f6 hn d s1 s2
theorem ag_why : Ag_why Rel := by
  intro S M hR p1 p2 p3 p4
  have hR' := hR
  obtain ⟨P, T, B, F, hN⟩ := hR
  obtain ⟨⟨a1, a2, a3, a4⟩, ⟨b1, b2, b3, b4⟩, c1, c2, c3, c4⟩ := hN.1
  rcases part_cs b1 c1 a1 p1 with ⟨p, hp, rfl, e1, e2⟩ | ⟨e1, e2⟩
  rotate_left
  · refine Or.inr (Or.inl ⟨0, S, si M 0 0 1, ?_, ?_, rfl, hR'.thr, scrM_t⟩)
    · unfold fX8_why
      rw [e1]; rfl
    · unfold fX9_why jn0
      rw [e2]; rfl
  rcases tool_cs b2 c2 a2 p2 with ⟨t, ht, rfl, g1, g2⟩ | ⟨g1, g2⟩
  rotate_left
  · refine Or.inr (Or.inl ⟨0, S, si M 0 0 1, ?_, ?_, rfl, hR'.thr, scrM_t⟩)
    · unfold fX8_why
      rw [e1, g1]; rfl
    · unfold fX9_why jn0
      rw [e2, g2]; rfl
  obtain ⟨f, L, Dr, th, op, pu, di, ta, ga, hZ, -⟩ := hN.rz hp ht
  have hp8 := hZ.1.1
  have u1 := hZ.2.1.2.1
  have u2 := hZ.2.2.1.2.2
  rcases bend_cs (x := p4) hZ.1.2.2.1 hZ.1.2.2.2 u1 with ⟨now, hn, rfl, f1, f2⟩ | ⟨f1, f2⟩
  rotate_left
  · refine Or.inr (Or.inl ⟨0, S, si M 0 0 1, ?_, ?_, rfl, hR'.thr, scrM_t⟩)
    · unfold fX8_why
      rw [e1, g1]
      simp only [bx, f1]
    · unfold fX9_why jn0
      rw [e2, g2]
      simp only [bn1_s, if_neg (show ¬ (1 : Int32) = 0 by decide), gd_t (inb_nI hp8 (by omega)), nI_clamp (show p < 2 ^ 31 by omega), u2, f2]
      rfl
  rcases done_cs (d := p3) (x := nI now) hp8 hZ.1.2.2.1 hZ.1.2.2.2 u1 u2 with ⟨d1, d2, d3, -, -⟩ | ⟨d1, d2⟩
  rotate_left
  · refine Or.inr (Or.inr ⟨0, S, si M 0 0 2, ?_, ?_, rfl, hR'.thr, scrM_t⟩)
    · unfold fX8_why
      rw [e1, g1]
      simp only [bx, f1, d1]
    · unfold fX9_why jn0
      rw [e2, g2]
      simp only [bn1_s, if_neg (show ¬ (1 : Int32) = 0 by decide), gd_t (inb_nI hp8 (by omega)), nI_clamp (show p < 2 ^ 31 by omega), u2, f2, d2]
      rfl
  obtain ⟨S', x1, x2⟩ := hZ.X hn d3
  obtain ⟨M', y1, y2⟩ := (hZ.keep scrX_r (scrM_t (k := 0))).M (done := p3) hn
  left
  refine ⟨rsn L Dr f now p3 (op / 2 + th) pu di ta ga, S', M', ?_, ?_, ?_, hR'.keep (fun k j hk => x2 k j (by omega)) ((scrM_t (k := 0)).tr y2.m)⟩
  · unfold fX8_why
    rw [e1, g1]
    simp only [bx, f1, d1, x1, bn2_s]
  · unfold fX9_why jn0
    rw [e2, g2]
    simp only [bn1_s, if_neg (show ¬ (1 : Int32) = 0 by decide), gd_t (inb_nI hp8 (by omega)), nI_clamp (show p < 2 ^ 31 by omega), u2, f2, d2, well_0, bn2_s, y1]
  · unfold fX9_thrown
    rw [y2 _ _ (by omega), gi_eq]
