/-! ===== why a bend can't be bent ===== -/
def hpF (L Dr : Nat → Int32) (now : Nat) (done : Int32) (r : Bool) (pu : Int32) : Nat → Bool
  | 0 => false
  | k + 1 => hpF L Dr now done r pu k || decide (¬ (gw L Dr now done r (k + 1)).2.1 ≤ 0 ∧ ¬ (gw L Dr now done r (k + 1)).2.1 + pu ≤ (gw L Dr now done r (k + 1)).1)
def htF (L Dr : Nat → Int32) (now : Nat) (done : Int32) (r : Bool) (di ta : Int32) : Nat → Bool
  | 0 => false
  | k + 1 => htF L Dr now done r di ta k || decide (¬ -(gw L Dr now done r (k + 1)).2.1 ≤ di ∧ ¬ ta ≤ (gw L Dr now done r (k + 1)).1)
def bI (b : Bool) : Int32 := if b then 1 else 0
def grun (L Dr : Nat → Int32) (f now : Nat) (done : Int32) (r : Bool) : Int32 := (gw L Dr now done r (wln f now r)).2.2.2.2.1
def rsn (L Dr : Nat → Int32) (f now : Nat) (done X pu di ta ga : Int32) : Int32 :=
  if ¬ (X ≤ grun L Dr f now done false ∧ X ≤ grun L Dr f now done true) then 1
  else if ¬ (grun L Dr f now done false ≤ ga ∨ grun L Dr f now done true ≤ ga) then 2
  else if hpF L Dr now done false pu (wln f now false) || hpF L Dr now done true pu (wln f now true) then 3
  else if htF L Dr now done false di ta (wln f now false) || htF L Dr now done true di ta (wln f now true) then 4 else 0
theorem hpF_mono {L Dr : Nat → Int32} {now : Nat} {done : Int32} {r : Bool} {pu : Int32} {k : Nat} (h : hpF L Dr now done r pu k = true) : ∀ n, hpF L Dr now done r pu (k + n) = true := by
  intro n
  induction n with
  | zero => exact h
  | succ n ih => rw [← Nat.add_assoc, hpF, ih, Bool.true_or]
theorem htF_mono {L Dr : Nat → Int32} {now : Nat} {done : Int32} {r : Bool} {di ta : Int32} {k : Nat} (h : htF L Dr now done r di ta k = true) : ∀ n, htF L Dr now done r di ta (k + n) = true := by
  intro n
  induction n with
  | zero => exact h
  | succ n ih => rw [← Nat.add_assoc, htF, ih, Bool.true_or]
theorem wln6 {f now : Nat} {r : Bool} (hf : f ≤ 6) (hn : now + 1 < f) : wln f now r ≤ 6 := by
  unfold wln
  split <;> omega
theorem punch_X {S : St} {k0 f now : Nat} {L Dr : Nat → Int32} {done pu : Int32} {r : Bool} (hf : f ≤ 6) (hn : now + 1 < f) (hW : WgX S k0 L Dr f now done r) : fX7_hitsPunch S k0 pu = some (bI (hpF L Dr now done r pu (wln f now r))) := by
  have hw := wln6 (r := r) hf hn
  have key : ∀ n k m, k + n = wln f now r → n < m → hpF L Dr now done r pu k = false → lq1 (fX7_hitsPunch_L2 S k0 pu) m (nI k) = some (bI (hpF L Dr now done r pu (wln f now r))) := by
    intro n
    induction n with
    | zero =>
      intro k m hk hm h0
      obtain ⟨m, rfl⟩ : ∃ q, m = q + 1 := ⟨m - 1, by omega⟩
      obtain rfl : k = wln f now r := by omega
      rw [lq1_1, fX7_hitsPunch_L2, hW.1, if_pos (nI_le (by omega) (by omega)), h0]
      rfl
    | succ n ih =>
      intro k m hk hm h0
      obtain ⟨m, rfl⟩ : ∃ q, m = q + 1 := ⟨m - 1, by omega⟩
      obtain ⟨w1, w2⟩ := hW.2.1 k (by omega)
      rw [lq1_1, fX7_hitsPunch_L2, hW.1, if_neg (nI_ge (by omega) (by omega)), gd_t (inb_nI (by omega) (by omega)), nI_clamp (n := k) (by omega), w1, w2]
      simp only [jn0, bv, nI_1, gd_t (inb_nI (show k < 6 by omega) (by omega))]
      have hs : hpF L Dr now done r pu (k + 1) = decide (¬ (gw L Dr now done r (k + 1)).2.1 ≤ 0 ∧ ¬ (gw L Dr now done r (k + 1)).2.1 + pu ≤ (gw L Dr now done r (k + 1)).1) := by rw [hpF, h0, Bool.false_or]
      by_cases q1 : (gw L Dr now done r (k + 1)).2.1 ≤ 0
      · rw [if_pos q1]
        exact ih (k + 1) m (by omega) (by omega) (by rw [hs]; exact decide_eq_false (fun z => z.1 q1))
      · rw [if_neg q1]
        by_cases q2 : (gw L Dr now done r (k + 1)).2.1 + pu ≤ (gw L Dr now done r (k + 1)).1
        · rw [if_pos q2]
          exact ih (k + 1) m (by omega) (by omega) (by rw [hs]; exact decide_eq_false (fun z => z.2 q2))
        · rw [if_neg q2]
          have h1 : hpF L Dr now done r pu (k + 1) = true := by rw [hs]; exact decide_eq_true ⟨q1, q2⟩
          have h2 := hpF_mono h1 n
          rw [show k + 1 + n = wln f now r by omega] at h2
          rw [h2]
          rfl
  have := key (wln f now r) 0 200 (by omega) (by omega) rfl
  rw [nI_0] at this
  exact this
theorem table_X {S : St} {k0 f now : Nat} {L Dr : Nat → Int32} {done di ta : Int32} {r : Bool} (hf : f ≤ 6) (hn : now + 1 < f) (hW : WgX S k0 L Dr f now done r) : fX7_hitsTable S k0 di ta = some (bI (htF L Dr now done r di ta (wln f now r))) := by
  have hw := wln6 (r := r) hf hn
  have key : ∀ n k m, k + n = wln f now r → n < m → htF L Dr now done r di ta k = false → lq1 (fX7_hitsTable_L2 S k0 di ta) m (nI k) = some (bI (htF L Dr now done r di ta (wln f now r))) := by
    intro n
    induction n with
    | zero =>
      intro k m hk hm h0
      obtain ⟨m, rfl⟩ : ∃ q, m = q + 1 := ⟨m - 1, by omega⟩
      obtain rfl : k = wln f now r := by omega
      rw [lq1_1, fX7_hitsTable_L2, hW.1, if_pos (nI_le (by omega) (by omega)), h0]
      rfl
    | succ n ih =>
      intro k m hk hm h0
      obtain ⟨m, rfl⟩ : ∃ q, m = q + 1 := ⟨m - 1, by omega⟩
      obtain ⟨w1, w2⟩ := hW.2.1 k (by omega)
      rw [lq1_1, fX7_hitsTable_L2, hW.1, if_neg (nI_ge (by omega) (by omega)), gd_t (inb_nI (by omega) (by omega)), nI_clamp (n := k) (by omega), w1, w2]
      simp only [jn0, bv, nI_1, gd_t (inb_nI (show k < 6 by omega) (by omega))]
      have hs : htF L Dr now done r di ta (k + 1) = decide (¬ -(gw L Dr now done r (k + 1)).2.1 ≤ di ∧ ¬ ta ≤ (gw L Dr now done r (k + 1)).1) := by rw [htF, h0, Bool.false_or]
      by_cases q1 : -(gw L Dr now done r (k + 1)).2.1 ≤ di
      · rw [if_pos q1]
        exact ih (k + 1) m (by omega) (by omega) (by rw [hs]; exact decide_eq_false (fun z => z.1 q1))
      · rw [if_neg q1]
        by_cases q2 : ta ≤ (gw L Dr now done r (k + 1)).1
        · rw [if_pos q2]
          exact ih (k + 1) m (by omega) (by omega) (by rw [hs]; exact decide_eq_false (fun z => z.2 q2))
        · rw [if_neg q2]
          have h1 : htF L Dr now done r di ta (k + 1) = true := by rw [hs]; exact decide_eq_true ⟨q1, q2⟩
          have h2 := htF_mono h1 n
          rw [show k + 1 + n = wln f now r by omega] at h2
          rw [h2]
          rfl
  have := key (wln f now r) 0 200 (by omega) (by omega) rfl
  rw [nI_0] at this
  exact this
def TlX (S : St) (k2 : Nat) (op pu di ta ga : Int32) : Prop := gi S k2 0 = op ∧ gi S k2 1 = pu ∧ gi S k2 2 = di ∧ gi S k2 3 = ta ∧ gi S k2 4 = ga
def TlM (t : Nat) (M : St) (op pu di ta ga : Int32) : Prop := gi M 13 t = op ∧ gi M 14 t = pu ∧ gi M 15 t = di ∧ gi M 16 t = ta ∧ gi M 17 t = ga
theorem TlM.keep {t : Nat} {M M' : St} {op pu di ta ga : Int32} (h : TlM t M op pu di ta ga) (hs : scrG M M') : TlM t M' op pu di ta ga := by
  obtain ⟨a1, a2, a3, a4, a5⟩ := h
  refine ⟨?_, ?_, ?_, ?_, ?_⟩ <;> rw [hs _ _ (by omega)] <;> assumption
theorem bI_0 {b : Bool} : (bI b = 0) ↔ b = false := by cases b <;> decide
theorem reason_X {S : St} {f now k1 k2 : Nat} {L Dr : Nat → Int32} {done op pu di ta ga th : Int32} (hk1 : 15 ≤ k1) (hk2 : 15 ≤ k2) (h1 : 1 ≤ f) (hf : f ≤ 6) (hn : now + 1 < f) (hd : ((done >>> (nI now &&& 31)) &&& 1) = 0) (hD : DrX f S (k1 + 1) L Dr) (hS : gi S (k1 + 1) 2 = nI f) (hth : gi S k1 2 = th) (hT : TlX S k2 op pu di ta ga) : ∃ S', fX1_reason S k1 k2 done (nI now) = some (rsn L Dr f now done (op / 2 + th) pu di ta ga, S') ∧ ∀ k' j, k' < 9 ∨ 14 < k' → gi S' k' j = gi S k' j := by
  obtain ⟨S1, x1, x2, x3⟩ := unroll_X (k0 := 9) (k1 := k1 + 1) (r := true) (by omega) h1 hf hn hd hD hS
  obtain ⟨S2, y1, y2, y3⟩ := unroll_X (k0 := 12) (k1 := k1 + 1) (r := false) (by omega) h1 hf hn hd (L := L) (Dr := Dr) (S := S1) ⟨fun i hi => by rw [x3 _ _ (by omega)]; exact hD.1 i hi, fun i hi => by rw [x3 _ _ (by omega)]; exact hD.2 i hi⟩ (by rw [x3 _ _ (by omega)]; exact hS)
  have hR : WgX S2 9 L Dr f now done true := ⟨by rw [y3 _ _ (by omega)]; exact x2.1, fun i hi => by rw [y3 _ _ (by omega), y3 _ _ (by omega)]; exact x2.2.1 i hi, by rw [y3 _ _ (by omega)]; exact x2.2.2⟩
  have hs : ∀ k' j, k' < 9 ∨ 14 < k' → gi S2 k' j = gi S k' j := fun k' j h => by rw [y3 _ _ (by omega), x3 _ _ (by omega)]
  obtain ⟨t1, t2, t3, t4, t5⟩ := hT
  have eL : gi S2 12 3 = grun L Dr f now done false := y2.2.2
  have eR : gi S2 9 3 = grun L Dr f now done true := hR.2.2
  refine ⟨S2, ?_, hs⟩
  unfold fX1_reason rsn
  rw [show fX7_unroll S 9 (k1 + 1) done (nI now) 1 = some S1 from x1]
  simp only [bn1_s]
  rw [show fX7_unroll S1 12 (k1 + 1) done (nI now) 0 = some S2 from y1]
  simp only [bn1_s, hs k2 _ (by omega), hs k1 _ (by omega), t1, t2, t3, t4, t5, hth, punch_X hf hn hR, punch_X hf hn y2, table_X hf hn hR, table_X hf hn y2, eL, eR, bI_0]
  generalize op / 2 + th = X
  generalize grun L Dr f now done false = rl
  generalize grun L Dr f now done true = rr
  have m1 : (X ≤ if rl < rr then rl else rr) ↔ (X ≤ rl ∧ X ≤ rr) := by
    by_cases q : rl < rr
    · rw [if_pos q]
      exact ⟨fun z => ⟨z, Int32.le_trans z (Int32.le_of_lt q)⟩, fun z => z.1⟩
    · rw [if_neg q]
      exact ⟨fun z => ⟨Int32.le_trans z (i_nlt.mp q), z⟩, fun z => z.2⟩
  have m2 : ((if rl < rr then rl else rr) ≤ ga) ↔ (rl ≤ ga ∨ rr ≤ ga) := by
    by_cases q : rl < rr
    · rw [if_pos q]
      exact ⟨Or.inl, fun z => z.elim id (fun w => Int32.le_trans (Int32.le_of_lt q) w)⟩
    · rw [if_neg q]
      exact ⟨Or.inr, fun z => z.elim (fun w => Int32.le_trans (i_nlt.mp q) w) id⟩
  simp only [m1, m2]
  by_cases q1 : X ≤ rl ∧ X ≤ rr
  · rw [if_pos q1, if_neg (show ¬ ¬ (X ≤ rl ∧ X ≤ rr) from fun z => z q1)]
    by_cases q2 : rl ≤ ga ∨ rr ≤ ga
    · rw [if_pos q2, if_neg (show ¬ ¬ (rl ≤ ga ∨ rr ≤ ga) from fun z => z q2)]
      cases hpF L Dr now done false pu (wln f now false) <;> cases hpF L Dr now done true pu (wln f now true) <;> cases htF L Dr now done false di ta (wln f now false) <;> cases htF L Dr now done true di ta (wln f now true) <;> rfl
    · rw [if_neg q2, if_pos (show ¬ (rl ≤ ga ∨ rr ≤ ga) from q2)]
  · rw [if_neg q1, if_pos (show ¬ (X ≤ rl ∧ X ≤ rr) from q1)]
theorem inner_M {p t f now : Nat} {L Dr : Nat → Int32} {done op pu di ta ga : Int32} {r h0 t0 : Bool} (hp : p < 8) (ht : t < 4) (hf : f ≤ 6) (h1 : 1 ≤ f) (hn : now + 1 < f) : ∀ (n k m : Nat) (M : St), k + n = wln f now r → n < m → DrM p f M L Dr → TlM t M op pu di ta ga → GM6 M (gw L Dr now done r k) → ∃ M', lq4 (fX9_reason_L28 (nI p) (nI now) (if r then 1 else -1) done (nI t)) m (bI (h0 || hpF L Dr now done r pu k)) (bI (t0 || htF L Dr now done r di ta k)) (nI k) M = some (bI (h0 || hpF L Dr now done r pu (wln f now r)), bI (t0 || htF L Dr now done r di ta (wln f now r)), M') ∧ GM6 M' (gw L Dr now done r (wln f now r)) ∧ scrG M M' := by
  have hw := wln6 (r := r) hf hn
  intro n
  induction n with
  | zero =>
    intro k m M hk hm hD hT hg
    obtain ⟨m, rfl⟩ : ∃ q, m = q + 1 := ⟨m - 1, by omega⟩
    obtain rfl : k = wln f now r := by omega
    refine ⟨M, ?_, hg, scrG_r⟩
    rw [lq4_1, fX9_reason_L28, wing_M hp h1 hn hf hD.2.2]
    simp only [bn1_s]
    rw [if_pos (nI_le (by omega) (by omega))]
  | succ n ih =>
    intro k m M hk hm hD hT hg
    obtain ⟨m, rfl⟩ : ∃ q, m = q + 1 := ⟨m - 1, by omega⟩
    obtain ⟨M1, e1, e2, e3⟩ := go_M (r := r) hp hf hD hn (show k < wln f now r by omega) hg
    have hT1 := hT.keep e3
    obtain ⟨M', w1, w2, w3⟩ := ih (k + 1) m M1 (by omega) (by omega) (hD.keep e3) hT1 e2
    have g1 : gi M1 0 30 = (gw L Dr now done r (k + 1)).1 := e2.1
    have g2 : gi M1 0 31 = (gw L Dr now done r (k + 1)).2.1 := e2.2.1
    obtain ⟨-, c14, c15, c16, -⟩ := hT1
    refine ⟨M', ?_, w2, e3.tr w3⟩
    rw [lq4_1, fX9_reason_L28, wing_M hp h1 hn hf hD.2.2]
    simp only [bn1_s]
    rw [if_neg (nI_ge (by omega) (by omega))]
    simp only [e1, bn1_s, jn0, gd_t (inb_nI ht (by omega)), nI_clamp (show t < 2 ^ 31 by omega), g1, g2, c14, c15, c16, bv, nI_1]
    have f1 : (if bI (h0 || hpF L Dr now done r pu k) = 0 then (if (gw L Dr now done r (k + 1)).2.1 ≤ 0 then some (0 : Int32) else if (gw L Dr now done r (k + 1)).2.1 + pu ≤ (gw L Dr now done r (k + 1)).1 then some 0 else some 1) else some 1) = some (bI (h0 || hpF L Dr now done r pu (k + 1))) := by
      rw [hpF]
      cases hh : (h0 || hpF L Dr now done r pu k)
      · rw [if_pos (by decide), ← Bool.or_assoc, hh, Bool.false_or]
        by_cases q1 : (gw L Dr now done r (k + 1)).2.1 ≤ 0
        · rw [if_pos q1, decide_eq_false (fun z => z.1 q1)]; rfl
        · rw [if_neg q1]
          by_cases q2 : (gw L Dr now done r (k + 1)).2.1 + pu ≤ (gw L Dr now done r (k + 1)).1
          · rw [if_pos q2, decide_eq_false (fun z => z.2 q2)]; rfl
          · rw [if_neg q2, decide_eq_true ⟨q1, q2⟩]; rfl
      · rw [if_neg (by decide), ← Bool.or_assoc, hh, Bool.true_or]; rfl
    have f2 : (if bI (t0 || htF L Dr now done r di ta k) = 0 then (if -(gw L Dr now done r (k + 1)).2.1 ≤ di then some (0 : Int32) else if ta ≤ (gw L Dr now done r (k + 1)).1 then some 0 else some 1) else some 1) = some (bI (t0 || htF L Dr now done r di ta (k + 1))) := by
      rw [htF]
      cases hh : (t0 || htF L Dr now done r di ta k)
      · rw [if_pos (by decide), ← Bool.or_assoc, hh, Bool.false_or]
        by_cases q1 : -(gw L Dr now done r (k + 1)).2.1 ≤ di
        · rw [if_pos q1, decide_eq_false (fun z => z.1 q1)]; rfl
        · rw [if_neg q1]
          by_cases q2 : ta ≤ (gw L Dr now done r (k + 1)).1
          · rw [if_pos q2, decide_eq_false (fun z => z.2 q2)]; rfl
          · rw [if_neg q2, decide_eq_true ⟨q1, q2⟩]; rfl
      · rw [if_neg (by decide), ← Bool.or_assoc, hh, Bool.true_or]; rfl
    rw [f1]
    simp only [bn1_s]
    rw [f2]
    simp only [bn1_s]
    exact w1
theorem reason_M {M : St} {p t f now : Nat} {L Dr : Nat → Int32} {done op pu di ta ga th : Int32} (hp : p < 8) (ht : t < 4) (h1 : 1 ≤ f) (hf : f ≤ 6) (hn : now + 1 < f) (hD : DrM p f M L Dr) (hth : gi M 7 p = th) (hT : TlM t M op pu di ta ga) : ∃ M', fX9_reason M (nI p) (nI t) done (nI now) = some (rsn L Dr f now done (op / 2 + th) pu di ta ga, M') ∧ scrG M M' := by
  obtain ⟨A1, a1, a2, a3⟩ := start_M (M := M) (L := L) (Dr := Dr) (now := now) (done := done) (r := false)
  obtain ⟨A2, b1, b2, b3⟩ := inner_M (r := false) (h0 := false) (t0 := false) (op := op) (ga := ga) hp ht hf h1 hn (wln f now false) 0 200 A1 (by omega) (by have := wln6 (r := false) hf hn; omega) (hD.keep a3) (hT.keep a3) a2
  obtain ⟨B1, c1, c2, c3⟩ := start_M (M := A2) (L := L) (Dr := Dr) (now := now) (done := done) (r := true)
  obtain ⟨B2, d1, d2, d3⟩ := inner_M (r := true) (h0 := hpF L Dr now done false pu (wln f now false)) (t0 := htF L Dr now done false di ta (wln f now false)) (op := op) (ga := ga) hp ht hf h1 hn (wln f now true) 0 200 B1 (by omega) (by have := wln6 (r := true) hf hn; omega) (((hD.keep a3).keep b3).keep c3) (((hT.keep a3).keep b3).keep c3) c2
  have sA := a3.tr b3
  have sB := (sA.tr c3).tr d3
  rw [nI_0] at b1 d1
  have b1' : lq4 (fX9_reason_L28 (nI p) (nI now) (-1) done (nI t)) 200 0 0 0 A1 = some (bI (hpF L Dr now done false pu (wln f now false)), bI (htF L Dr now done false di ta (wln f now false)), A2) := by
    simp only [Bool.false_or] at b1
    exact b1
  have d1' : lq4 (fX9_reason_L28 (nI p) (nI now) 1 done (nI t)) 200 (bI (hpF L Dr now done false pu (wln f now false))) (bI (htF L Dr now done false di ta (wln f now false))) 0 B1 = some (bI (hpF L Dr now done false pu (wln f now false) || hpF L Dr now done true pu (wln f now true)), bI (htF L Dr now done false di ta (wln f now false) || htF L Dr now done true di ta (wln f now true)), B2) := by
    have z1 : hpF L Dr now done true pu 0 = false := rfl
    have z2 : htF L Dr now done true di ta 0 = false := rfl
    rw [z1, z2, Bool.or_false, Bool.or_false] at d1
    exact d1
  have eL : gi A2 0 34 = grun L Dr f now done false := b2.2.2.2.2.1
  have eR : gi B2 0 34 = grun L Dr f now done true := d2.2.2.2.2.1
  obtain ⟨tA13, -, -, -, tA17⟩ := hT.keep sA
  obtain ⟨tB13, -, -, -, tB17⟩ := hT.keep sB
  have hA7 : gi A2 7 p = th := by rw [sA _ _ (by omega)]; exact hth
  have hB7 : gi B2 7 p = th := by rw [sB _ _ (by omega)]; exact hth
  refine ⟨B2, ?_, sB⟩
  unfold fX9_reason rsn
  rw [show (200 : Nat) = 197 + 1 + 1 + 1 from rfl, lq6_1, fX9_reason_L15, if_neg (by decide), a1]
  simp only [bn1_s]
  rw [b1']
  simp only [bn3_s, jn0, if_true, gd_t (inb_nI ht (by omega)), gd_t (inb_nI hp (by omega)), nI_clamp (show t < 2 ^ 31 by omega), nI_clamp (show p < 2 ^ 31 by omega), tA13, tA17, hA7, eL, if_neg (show ¬ (1 : Int32) = 0 by decide), bv]
  generalize hXe : op / 2 + th = X at *
  generalize grun L Dr f now done false = rl at *
  generalize grun L Dr f now done true = rr at *
  have tail : ∀ s1 s2 : Int32, isDir s1 → isDir s2 → lq6 (fX9_reason_L15 (nI p) (nI now) done (nI t)) (197 + 1 + 1) s1 s2 (bI (hpF L Dr now done false pu (wln f now false))) (bI (htF L Dr now done false di ta (wln f now false))) (-1 + 2) A2 = some (if s1 = 0 then (if X ≤ rr then 0 else 1) else 1, if s2 = 0 then 0 else (if rr ≤ ga then 0 else 1), bI (hpF L Dr now done false pu (wln f now false) || hpF L Dr now done true pu (wln f now true)), bI (htF L Dr now done false di ta (wln f now false) || htF L Dr now done true di ta (wln f now true)), B2) := fun s1 s2 hs1 hs2 => by
    rw [lq6_1, fX9_reason_L15, if_neg (by decide), c1]
    simp only [bn1_s]
    rw [show (-1 + 2 : Int32) = 1 from rfl, d1']
    simp only [bn3_s, jn0, gd_t (inb_nI ht (by omega)), gd_t (inb_nI hp (by omega)), nI_clamp (show t < 2 ^ 31 by omega), nI_clamp (show p < 2 ^ 31 by omega), tB13, tB17, hB7, eR, bv, hXe]
    rcases hs1 with rfl | rfl <;> rcases hs2 with rfl | rfl <;> by_cases q1 : X ≤ rr <;> by_cases q2 : rr ≤ ga <;> simp only [if_true, if_false, if_neg (show ¬ (1 : Int32) = 0 by decide), q1, q2, bn1_s] <;> rw [lq6_1, fX9_reason_L15, if_pos (by decide)]
  by_cases q1 : X ≤ rl <;> by_cases q2 : rl ≤ ga <;> simp only [q1, q2, if_true, if_false, bn1_s] <;> rw [tail _ _ (by first | exact isDir_0 | exact isDir_1) (by first | exact isDir_0 | exact isDir_1)] <;> by_cases q3 : X ≤ rr <;> by_cases q4 : rr ≤ ga <;> simp only [q1, q2, q3, q4, if_true, if_false, bn5_s, if_neg (show ¬ (1 : Int32) = 0 by decide), and_self, and_true, true_and, and_false, false_and, or_self, or_true, true_or, or_false, false_or, not_true_eq_false, not_false_eq_true] <;> cases hpF L Dr now done false pu (wln f now false) <;> cases hpF L Dr now done true pu (wln f now true) <;> cases htF L Dr now done false di ta (wln f now false) <;> cases htF L Dr now done true di ta (wln f now true) <;> rfl
