/-! ===== flips, work ===== -/
def OC (p t n : Nat) (dn : Nat → Nat) (w : Nat → Nat → Nat) (rs : Nat → Nat → Int32) (L Dr : Nat → Int32) (S M : St) : Prop := (n < 6 ∧ p < 8 ∧ t < 4) ∧ (gi S (29 + 7 * p + 1) 2 = nI (n + 1) ∧ DrX (n + 1) S (29 + 7 * p + 1) L Dr ∧ HX S (29 + 7 * p) (85 + 2 * t) n rs) ∧ (∀ i, i < n → Dr i = nI (dn i)) ∧ (∀ i, i < n → dn i < 2) ∧ SPW n (canB rs) dn w ∧ DrM p (n + 1) M L Dr ∧ HM M p t n rs
theorem RelN.oc {P T B F p t : Nat} {S M : St} (h : RelN P T B F S M) (hp : p < P) (ht : t < T) : ∃ (n : Nat) (dn : Nat → Nat) (w : Nat → Nat → Nat) (rs : Nat → Nat → Int32) (L Dr : Nat → Int32), OC p t n dn w rs L Dr S M := by
  obtain ⟨f, L, Dr, th, op, pu, di, ta, ga, hZ, hdir⟩ := h.rz hp ht
  obtain ⟨p8, t4, f1, f6⟩ := hZ.1
  obtain ⟨n, rfl⟩ : ∃ n, f = n + 1 := ⟨f - 1, by omega⟩
  have hn : n < 6 := by omega
  have hrs : ∀ d i, canB (fun d i => rsn L Dr (n + 1) i (nI d) (op / 2 + th) pu di ta ga) d i = true → bt d i = false := canB_b
  obtain ⟨w, hw⟩ := spw_ex (dn := fun i => if Dr i = 0 then 0 else 1) hn hrs
  refine ⟨n, fun i => if Dr i = 0 then 0 else 1, w, fun d i => rsn L Dr (n + 1) i (nI d) (op / 2 + th) pu di ta ga, L, Dr, ⟨hn, p8, t4⟩, ⟨hZ.2.1.2.1, hZ.2.1.1, fun S1 hS d hd i hi hb => ?_⟩, fun i hi => ?_, fun i hi => ?_, hw, hZ.2.2.1, fun M1 hM d hd i hi => ?_⟩
  · have h32 := bf_5 hn
    exact (hZ.keep hS scrM_r).X (by omega) (by rw [bf_1 (by omega) (by omega), hb]; rfl)
  · dsimp only
    rcases hdir i (by omega) with q | q
    · rw [if_pos q, q]; rfl
    · rw [if_neg (by rw [q]; decide), q]; rfl
  · dsimp only
    split <;> omega
  · exact (hZ.keep scrX_r hM).M (by omega)
theorem OC.plan {p t n : Nat} {dn : Nat → Nat} {w : Nat → Nat → Nat} {rs : Nat → Nat → Int32} {L Dr : Nat → Int32} {S M : St} (h : OC p t n dn w rs L Dr S M) : ∃ S', fX5_plan S (29 + 7 * p) (85 + 2 * t) = some S' ∧ gi S' 15 6 = enc (w 0 2) ∧ gi S' 15 5 = (if w 0 2 = 99 then 0 else nI n) ∧ (w 0 2 ≠ 99 → ∀ i, i < n → gi S' 19 i = nI (pj n (canB rs) dn w (pd n (canB rs) dn w i))) ∧ scrX S S' := by
  obtain ⟨⟨hn, -, -⟩, ⟨s1, s2, s3⟩, d1, d2, hw, -⟩ := h
  exact plan_X hn (by omega) s1 s2 s3 d1 d2 hw
theorem OC.turns {p t n : Nat} {dn : Nat → Nat} {w : Nat → Nat → Nat} {rs : Nat → Nat → Int32} {L Dr : Nat → Int32} {S M : St} (h : OC p t n dn w rs L Dr S M) : ∃ M', fX9_turns M (nI p) (nI t) = some (enc (w 0 2), M') ∧ TM n dn w M' 0 ∧ scrM M M' ∧ gi M' 0 0 = gi M 0 0 := by
  obtain ⟨⟨hn, hp, ht⟩, -, d1, d2, hw, m1, m2⟩ := h
  exact orders_M hp hn m1 m2 d1 d2 hw
theorem ag_flips : Ag_flips Rel := by
  intro S M hR p1 p2
  have hR' := hR
  obtain ⟨P, T, B, F, hN⟩ := hR
  obtain ⟨⟨a1, a2, a3, a4⟩, ⟨b1, b2, b3, b4⟩, c1, c2, c3, c4⟩ := hN.1
  rcases part_cs b1 c1 a1 p1 with ⟨p, hp, rfl, e1, e2⟩ | ⟨e1, e2⟩
  rotate_left
  · refine Or.inr ⟨0, S, si M 0 0 1, ?_, ?_, rfl, hR'.thr, scrM_t⟩
    · unfold fX8_flips
      rw [e1]; rfl
    · unfold fX9_flips jn0
      rw [e2]; rfl
  rcases tool_cs b2 c2 a2 p2 with ⟨t, ht, rfl, g1, g2⟩ | ⟨g1, g2⟩
  rotate_left
  · refine Or.inr ⟨0, S, si M 0 0 1, ?_, ?_, rfl, hR'.thr, scrM_t⟩
    · unfold fX8_flips
      rw [e1, g1]; rfl
    · unfold fX9_flips jn0
      rw [e2, g2]; rfl
  obtain ⟨n, dn, w, rs, L, Dr, hO⟩ := (RelN.thr (k := 0) hN).oc hp ht
  obtain ⟨S', x1, x2, -, -, x3⟩ := hO.plan
  obtain ⟨M', y1, -, y2, y3⟩ := hO.turns
  left
  refine ⟨enc (w 0 2), S', M', ?_, ?_, ?_, hR'.keep x3 ((scrM_t (k := 0)).tr y2)⟩
  · unfold fX8_flips
    rw [e1, g1]
    simp only [bx, x1, bn1_s, x2]
  · unfold fX9_flips jn0
    rw [e2, g2]
    simp only [bn1_s, if_neg (show ¬ (1 : Int32) = 0 by decide), well_0, bn2_s, y1]
  · unfold fX9_thrown
    rw [y3, gi_eq]
theorem ag_work : Ag_work Rel := by
  intro S M hR p1
  have hR' := hR
  obtain ⟨P, T, B, F, hN⟩ := hR
  obtain ⟨⟨a1, a2, a3, a4⟩, ⟨b1, b2, b3, b4⟩, c1, c2, c3, c4⟩ := hN.1
  rcases batch_cs b3 c3 a3 p1 with ⟨b, hb, rfl, e1, e2⟩ | ⟨e1, e2⟩
  rotate_left
  · refine Or.inr (Or.inl ⟨0, S, si M 0 0 1, ?_, ?_, rfl, hR'.thr, scrM_t⟩)
    · unfold fX8_work
      rw [e1]; rfl
    · unfold fX9_work jn1
      rw [e2]; rfl
  have hb20 : b < 20 := by omega
  obtain ⟨p, t, nn, ww, ⟨x1, x2, x3, x4⟩, ⟨y1, y2⟩, ⟨y3, y4⟩, ⟨y5, y6⟩, ⟨y7, y8⟩, y9, y10⟩ := id (hN.2.2.2.2.2.1 b hb)
  have hw0 : (nI ww = 0) ↔ ww = 0 := nI_eq0 (by omega)
  have hw1 : (nI ww = 1) ↔ ww = 1 := by rw [show (1 : Int32) = nI 1 from rfl]; exact nI_eq (by omega) (by omega)
  -- the state goes on
  have goes : ∀ (S1 M1 : St), RelN P T B F S1 M1 → gi S1 (93 + b) 2 = nI ww → gi M1 23 b = nI ww → ww ≤ 1 → Rel (si S1 (93 + b) 2 (nI (ww + 1))) (si (si M1 0 0 0) 23 b (nI (ww + 1))) := fun S1 M1 hN1 q1 q2 q3 => by
    obtain ⟨p', t', n', w', ⟨u1, u2, u3, u4⟩, ⟨v1, v2⟩, ⟨v3, v4⟩, ⟨v5, v6⟩, ⟨v7, v8⟩, v9, v10⟩ := id (hN1.2.2.2.2.2.1 b hb)
    refine ⟨P, T, B, F, hN1.bat hb (fun k' j z => gi_ne z) (fun k' j z1 z2 _ => by rw [gi_if, if_neg (by omega), gi_if, if_neg (by omega)]) ⟨p', t', n', ww + 1, ⟨u1, u2, u3, by omega⟩, ⟨?_, ?_⟩, ⟨?_, ?_⟩, ⟨gi_eq, gi_eq⟩, ⟨?_, ?_⟩, ?_, ?_⟩⟩
    · rw [gi_nj (by decide)]; exact v1
    · rw [gi_ne (by decide), gi_ne (by decide)]; exact v2
    · rw [gi_nj (by decide)]; exact v3
    · rw [gi_ne (by decide), gi_ne (by decide)]; exact v4
    · rw [gi_nj (by decide)]; exact v7
    · rw [gi_ne (by decide), gi_ne (by decide)]; exact v8
    · rw [gi_nj (by decide), gi_ne (by decide), gi_ne (by decide)]; exact v9
    · rw [gi_nj (by decide), gi_ne (by decide), gi_ne (by decide)]; exact v10
  by_cases q0 : ww = 0
  · -- CUT: has it an order?
    obtain ⟨n, dn, w, rs, L, Dr, hO⟩ := hN.oc x1 x2
    obtain ⟨S', z1, z2, -, -, z3⟩ := hO.plan
    obtain ⟨M', w1, -, w2, w3⟩ := hO.turns
    have h32 := bf_5 hO.1.1
    have hbd := spw_b90 hO.1.1 canB_b hO.2.2.2.2.1 0 2 h32.2
    have hN1 : RelN P T B F S' M' := hN.keep z3 w2
    have s2 : gi S' (93 + b) 2 = nI ww := by rw [z3 _ _ (by omega)]; exact y5
    have m2 : gi M' 23 b = nI ww := by rw [w2 _ _ (by omega) (by omega)]; exact y6
    have hord : fX8_hasOrder S (93 + b) = some (if w 0 2 = 99 then 0 else 1, S') := by
      unfold fX8_hasOrder
      rw [y1, y3, gd_t (inb_nI (by omega) (by omega)), gd_t (inb_nI (by omega) (by omega)), pid_nI (by omega), tid_nI (by omega), z1]
      simp only [bn1_s, z2]
      by_cases q : w 0 2 = 99
      · rw [if_pos ((enc_1 (by omega)).mpr q), if_pos q]
      · rw [if_neg (fun z => q ((enc_1 (by omega)).mp z)), if_neg q]
    by_cases q : w 0 2 = 99
    · refine Or.inr (Or.inr ⟨0, S', si M' 0 0 2, ?_, ?_, congrArg some gi_eq, ⟨P, T, B, F, hN1.thr⟩, w2.tr scrM_t⟩)
      · unfold fX8_work
        rw [e1]
        simp only [bx, jn0, jn1, y5, hw0, if_pos q0, hord, if_pos q, bn2_s, if_true]
      · unfold fX9_work
        rw [e2]
        simp only [bn1_s, jn1, if_neg (show ¬ (1 : Int32) = 0 by decide), gd_t (inb_nI hb20 (by omega)), nI_clamp (show b < 2 ^ 31 by omega), y6, hw0, hw1, if_pos q0, if_neg (show ¬ ww = 1 by omega), y2, y4, w1, bn2_s, (enc_1 (show w 0 2 < 1000 by omega)).mpr q, if_true]
        rfl
    · left
      have hq : ¬ enc (w 0 2) = -1 := fun z => q ((enc_1 (by omega)).mp z)
      refine ⟨nI (ww + 1), si S' (93 + b) 2 (nI (ww + 1)), si (si M' 0 0 0) 23 b (nI (ww + 1)), ?_, ?_, ?_, goes S' M' hN1 s2 m2 (by omega)⟩
      · unfold fX8_work
        rw [e1]
        simp only [bx, jn0, jn1, y5, hw0, if_pos q0, hord, if_neg q, bn2_s, if_neg (show ¬ (1 : Int32) = 0 by decide), s2, bn1_s, bv, gi_eq]
        rw [q0]; rfl
      · unfold fX9_work
        rw [e2]
        simp only [bn1_s, jn1, if_neg (show ¬ (1 : Int32) = 0 by decide), gd_t (inb_nI hb20 (by omega)), nI_clamp (show b < 2 ^ 31 by omega), y6, hw0, hw1, if_pos q0, if_neg (show ¬ ww = 1 by omega), y2, y4, w1, bn2_s, if_neg hq, well_0, gi_ne (show (23 : Nat) ≠ 0 by decide), m2, bv, nI_1, gi_eq]
      · unfold fX9_thrown
        rw [gi_ne (by decide), gi_eq]
  by_cases q1 : ww = 1
  · left
    refine ⟨nI (ww + 1), si S (93 + b) 2 (nI (ww + 1)), si (si M 0 0 0) 23 b (nI (ww + 1)), ?_, ?_, ?_, goes S M hN y5 y6 (by omega)⟩
    · unfold fX8_work
      rw [e1]
      simp only [bx, jn0, jn1, y5, hw0, hw1, if_neg q0, if_pos q1, bn1_s, bv, gi_eq]
      rw [q1]; rfl
    · unfold fX9_work
      rw [e2]
      simp only [bn1_s, jn1, if_neg (show ¬ (1 : Int32) = 0 by decide), gd_t (inb_nI hb20 (by omega)), nI_clamp (show b < 2 ^ 31 by omega), y6, hw0, hw1, if_pos q1, bn2_s, well_0, gi_ne (show (23 : Nat) ≠ 0 by decide), bv, nI_1, gi_eq]
    · unfold fX9_thrown
      rw [gi_ne (by decide), gi_eq]
  · refine Or.inr (Or.inr ⟨0, S, si M 0 0 2, ?_, ?_, rfl, hR'.thr, scrM_t⟩)
    · unfold fX8_work
      rw [e1]
      simp only [bx, jn0, jn1, y5, hw0, hw1, if_neg q0, if_neg q1]
    · unfold fX9_work
      rw [e2]
      simp only [bn1_s, jn1, if_neg (show ¬ (1 : Int32) = 0 by decide), gd_t (inb_nI hb20 (by omega)), nI_clamp (show b < 2 ^ 31 by omega), y6, hw0, hw1, if_neg q0, if_neg q1, bn2_s]
      rfl
