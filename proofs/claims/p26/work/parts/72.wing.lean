/-! ===== wings: the walk along the faces of one side, as numbers ===== -/
abbrev GW : Type := Int32 × Int32 × Int32 × Int32 × Int32 × Int32
def gby (now : Nat) (r : Bool) (k : Nat) : Nat := if r then now + k else now - k
def gfc (now : Nat) (r : Bool) (k : Nat) : Nat := if r then now + k + 1 else now - k
def wln (f now : Nat) (r : Bool) : Nat := if r then f - 1 - now else now + 1
def gtn (Dr : Nat → Int32) (now : Nat) (done : Int32) (r : Bool) (k : Nat) (g : GW) : Int32 × Int32 × Int32 :=
  if k = 0 ∨ ((done >>> (nI (gby now r k) &&& 31)) &&& 1) = 0 then (g.2.2.1, g.2.2.2.1, g.2.2.2.2.2) else if Dr (gby now r k) = Dr now then (-g.2.2.2.1, g.2.2.1, 0) else (g.2.2.2.1, -g.2.2.1, 0)
def gst (L Dr : Nat → Int32) (now : Nat) (done : Int32) (r : Bool) (k : Nat) (g : GW) : GW :=
  (g.1 + (gtn Dr now done r k g).1 * L (gfc now r k), g.2.1 + (gtn Dr now done r k g).2.1 * L (gfc now r k), (gtn Dr now done r k g).1, (gtn Dr now done r k g).2.1, g.2.2.2.2.1 + (if (gtn Dr now done r k g).2.2 = 0 then 0 else L (gfc now r k)), (gtn Dr now done r k g).2.2)
def gw (L Dr : Nat → Int32) (now : Nat) (done : Int32) (r : Bool) : Nat → GW
  | 0 => (0, 0, 1, 0, 0, 1)
  | k + 1 => gst L Dr now done r k (gw L Dr now done r k)
/-- a drawing as lengths by face and directions by bend -/
def DrX (f : Nat) (S : St) (k1 : Nat) (L Dr : Nat → Int32) : Prop := (∀ i, i < f → gi S (k1 + 1) i = L i) ∧ ∀ i, i + 1 < f → gi S (k1 + 2) (i + 1) = Dr i
def DrM (p f : Nat) (M : St) (L Dr : Nat → Int32) : Prop := (∀ i, i < f → gi M 4 (6 * p + i) = L i) ∧ (∀ i, i + 1 < f → gi M 5 (6 * p + i) = Dr i) ∧ gi M 3 p = nI f
def GM6 (M : St) (g : GW) : Prop := gi M 0 30 = g.1 ∧ gi M 0 31 = g.2.1 ∧ gi M 0 32 = g.2.2.1 ∧ gi M 0 33 = g.2.2.2.1 ∧ gi M 0 34 = g.2.2.2.2.1 ∧ gi M 0 35 = g.2.2.2.2.2
theorem sideI (r : Bool) : ((if r then (1 : Int32) else -1) ≤ 0) ↔ r = false := by cases r <;> decide
theorem wln_face {f now k : Nat} {r : Bool} (hn : now + 1 < f) (hk : k < wln f now r) : gfc now r k < f ∧ gby now r k + 1 < f ∧ (r = false → k ≤ now) := by
  unfold wln at hk
  unfold gfc gby
  cases r
  · rw [if_neg (by decide)] at hk ⊢
    rw [if_neg (by decide)]
    exact ⟨by omega, by omega, fun _ => by omega⟩
  · rw [if_pos rfl] at hk ⊢
    rw [if_pos rfl]
    exact ⟨by omega, by omega, fun h => by cases h⟩
/-- the same but for the walk's own numbers -/
def scrG (M M' : St) : Prop := ∀ k j, (k = 0 → j < 30 ∨ 35 < j) → gi M' k j = gi M k j
theorem scrG_i {M : St} {j : Nat} {v : Int32} (h : 30 ≤ j ∧ j ≤ 35) : scrG M (si M 0 j v) := fun k' j' h1 => by
  by_cases q : k' = 0
  · subst q
    exact gi_nj (by have := h1 rfl; omega)
  · exact gi_ne q
theorem scrG.tr {M M1 M2 : St} (h1 : scrG M M1) (h2 : scrG M1 M2) : scrG M M2 := fun k j a => (h2 k j a).trans (h1 k j a)
theorem scrG_r {M : St} : scrG M M := fun _ _ _ => rfl
theorem scrG.m {M M' : St} (h : scrG M M') : scrM M M' := fun k j h1 _ => h k j (fun q => Or.inl (h1 q).2)
theorem DrM.keep {p f : Nat} {M M' : St} {L Dr : Nat → Int32} (h : DrM p f M L Dr) (hs : scrG M M') : DrM p f M' L Dr := ⟨fun i hi => by rw [hs _ _ (by omega)]; exact h.1 i hi, fun i hi => by rw [hs _ _ (by omega)]; exact h.2.1 i hi, by rw [hs _ _ (by omega)]; exact h.2.2⟩
theorem start_M {M : St} {L Dr : Nat → Int32} {now : Nat} {done : Int32} {r : Bool} : ∃ M', fX9_start M = some M' ∧ GM6 M' (gw L Dr now done r 0) ∧ scrG M M' := by
  refine ⟨_, rfl, ⟨?_, ?_, ?_, ?_, ?_, gi_eq⟩, ((((((scrG_i (by omega)).tr (scrG_i (by omega))).tr (scrG_i (by omega))).tr (scrG_i (by omega))).tr (scrG_i (by omega))).tr (scrG_i (by omega)))⟩
  · rw [gi_nj (by decide), gi_nj (by decide), gi_nj (by decide), gi_nj (by decide), gi_nj (by decide), gi_eq]; rfl
  · rw [gi_nj (by decide), gi_nj (by decide), gi_nj (by decide), gi_nj (by decide), gi_eq]; rfl
  · rw [gi_nj (by decide), gi_nj (by decide), gi_nj (by decide), gi_eq]; rfl
  · rw [gi_nj (by decide), gi_nj (by decide), gi_eq]; rfl
  · rw [gi_nj (by decide), gi_eq]; rfl
theorem go_M {p f now k : Nat} {M : St} {L Dr : Nat → Int32} {done : Int32} {r : Bool} {g : GW} (hp : p < 8) (hf : f ≤ 6) (hD : DrM p f M L Dr) (hn : now + 1 < f) (hk : k < wln f now r) (hg : GM6 M g) : ∃ M', fX9_go M (nI p) done (nI now) (if r then 1 else -1) (nI k) = some M' ∧ GM6 M' (gst L Dr now done r k g) ∧ scrG M M' := by
  obtain ⟨w1, w2, w3⟩ := wln_face hn hk
  have hk6 : k < 6 := by
    unfold wln at hk
    split at hk <;> omega
  obtain ⟨g1, g2, g3, g4, g5, g6⟩ := hg
  have ef : (if (if r then (1 : Int32) else -1) ≤ 0 then some (nI now - nI k) else some (nI now + 1 + nI k)) = some (nI (gfc now r k)) := by
    unfold gfc
    cases r
    · rw [if_pos (by decide), if_neg (by decide), nI_subN (w3 rfl)]
    · rw [if_neg (by decide), if_pos rfl, nI_1, nI_add, show now + 1 + k = now + k + 1 by omega]
  have eb : (if (if r then (1 : Int32) else -1) ≤ 0 then some (nI (gfc now r k)) else some (nI (gfc now r k) - 1)) = some (nI (gby now r k)) := by
    unfold gfc gby
    cases r
    · rw [if_pos (by decide), if_neg (by decide), if_neg (by decide)]
    · rw [if_neg (by decide), if_pos rfl, if_pos rfl, nI_pred]
  have hlen : gi M 4 (6 * p + gfc now r k) = L (gfc now r k) := hD.1 _ w1
  -- the turn
  have turn : ∃ M3, (if nI k ≤ 0 then some M else if ((done >>> (nI (gby now r k) &&& 31)) &&& 1) = 1 then
          gd (inb ((6 : Int32) * nI p + nI (gby now r k)) 48) (gd (inb ((6 : Int32) * nI p + nI now) 48) (
          bn1 (if gi M 5 ((6 : Int32) * nI p + nI (gby now r k)).toNatClampNeg = gi M 5 ((6 : Int32) * nI p + nI now).toNatClampNeg then some (1 : Int32) else some 0) (fun (v21 : Int32) =>
            bv (gi M 0 32) (fun (v22 : Int32) =>
            bn1 (if v21 = 0 then some (gi M 0 33) else some (-(gi M 0 33))) (fun (v24 : Int32) =>
              bv (si M 0 32 v24) (fun (S25 : St) =>
              bn1 (if v21 = 0 then some (-v22) else some v22) (fun (v27 : Int32) =>
                bv (si S25 0 33 v27) (fun (S28 : St) =>
                bv (si S28 0 35 (0 : Int32)) (fun (S30 : St) => some S30)))))))))
        else some M) = some M3 ∧ gi M3 0 30 = g.1 ∧ gi M3 0 31 = g.2.1 ∧ gi M3 0 32 = (gtn Dr now done r k g).1 ∧ gi M3 0 33 = (gtn Dr now done r k g).2.1 ∧ gi M3 0 34 = g.2.2.2.2.1 ∧ gi M3 0 35 = (gtn Dr now done r k g).2.2 ∧ scrG M M3 := by
    unfold gtn
    by_cases q0 : k = 0
    · subst q0
      rw [if_pos (show nI 0 ≤ 0 by decide), if_pos (Or.inl rfl)]
      exact ⟨M, rfl, g1, g2, g3, g4, g5, g6, scrG_r⟩
    · rw [if_neg (nI_nle (by omega) (by omega))]
      by_cases q1 : ((done >>> (nI (gby now r k) &&& 31)) &&& 1) = 0
      · rw [if_neg (by rw [q1]; decide), if_pos (Or.inr q1)]
        exact ⟨M, rfl, g1, g2, g3, g4, g5, g6, scrG_r⟩
      · rw [if_pos ((and1 _).resolve_left q1), if_neg (show ¬ (k = 0 ∨ ((done >>> (nI (gby now r k) &&& 31)) &&& 1) = 0) from fun z => z.elim q0 q1), ix6, ix6, gd_t (inb_nI (by omega) (by omega)), gd_t (inb_nI (by omega) (by omega)), nI_clamp (n := 6 * p + gby now r k) (by omega), nI_clamp (n := 6 * p + now) (by omega), hD.2.1 _ w2, hD.2.1 _ hn]
        by_cases q2 : Dr (gby now r k) = Dr now
        · rw [if_pos q2, if_pos q2]
          simp only [bn1_s, if_neg (show ¬ (1 : Int32) = 0 by decide), bv]
          refine ⟨_, rfl, ?_, ?_, ?_, ?_, ?_, gi_eq, ((scrG_i (by omega)).tr (scrG_i (by omega))).tr (scrG_i (by omega))⟩
          · rw [gi_nj (by decide), gi_nj (by decide), gi_nj (by decide)]; exact g1
          · rw [gi_nj (by decide), gi_nj (by decide), gi_nj (by decide)]; exact g2
          · rw [gi_nj (by decide), gi_nj (by decide), gi_eq, g4]
          · rw [gi_nj (by decide), gi_eq, g3]
          · rw [gi_nj (by decide), gi_nj (by decide), gi_nj (by decide)]; exact g5
        · rw [if_neg q2, if_neg q2]
          simp only [bn1_s, if_true, bv]
          refine ⟨_, rfl, ?_, ?_, ?_, ?_, ?_, gi_eq, ((scrG_i (by omega)).tr (scrG_i (by omega))).tr (scrG_i (by omega))⟩
          · rw [gi_nj (by decide), gi_nj (by decide), gi_nj (by decide)]; exact g1
          · rw [gi_nj (by decide), gi_nj (by decide), gi_nj (by decide)]; exact g2
          · rw [gi_nj (by decide), gi_nj (by decide), gi_eq, g4]
          · rw [gi_nj (by decide), gi_eq, g3]
          · rw [gi_nj (by decide), gi_nj (by decide), gi_nj (by decide)]; exact g5
  obtain ⟨M3, t0, t1, t2, t3, t4, t5, t6, t7⟩ := turn
  have hlen3 : gi M3 4 (6 * p + gfc now r k) = L (gfc now r k) := by rw [t7 _ _ (by omega)]; exact hlen
  unfold fX9_go
  rw [ef]
  simp only [bn1_s]
  rw [eb]
  simp only [bn1_s]
  rw [t0]
  simp only [bn1_s, ix6, gd_t (inb_nI (show 6 * p + gfc now r k < 48 by omega) (by omega)), nI_clamp (show 6 * p + gfc now r k < 2 ^ 31 by omega), bv, gi_ne (show (4 : Nat) ≠ 0 by decide), hlen3, t1, t3, gi_nj (show (31 : Nat) ≠ 30 by decide), gi_nj (show (33 : Nat) ≠ 30 by decide), gi_nj (show (35 : Nat) ≠ 31 by decide), gi_nj (show (35 : Nat) ≠ 30 by decide), gi_nj (show (34 : Nat) ≠ 31 by decide), gi_nj (show (34 : Nat) ≠ 30 by decide), t2, t4, t5, t6, bn1_if]
  refine ⟨_, rfl, ⟨?_, ?_, ?_, ?_, ?_, ?_⟩, ((t7.tr (scrG_i (by omega))).tr (scrG_i (by omega))).tr (scrG_i (by omega))⟩
  · rw [gi_nj (by decide), gi_nj (by decide), gi_eq]; rfl
  · rw [gi_nj (by decide), gi_eq]; rfl
  · rw [gi_nj (by decide), gi_nj (by decide), gi_nj (by decide), t3]; rfl
  · rw [gi_nj (by decide), gi_nj (by decide), gi_nj (by decide), t4]; rfl
  · rw [gi_eq]; rfl
  · rw [gi_nj (by decide), gi_nj (by decide), gi_nj (by decide), t6]; rfl
/-- the class's wing: its points and its run -/
def WgX (S : St) (k0 : Nat) (L Dr : Nat → Int32) (f now : Nat) (done : Int32) (r : Bool) : Prop := gi S k0 2 = nI (wln f now r) ∧ (∀ i, i < wln f now r → gi S (k0 + 1) i = (gw L Dr now done r (i + 1)).1 ∧ gi S (k0 + 2) i = (gw L Dr now done r (i + 1)).2.1) ∧ gi S k0 3 = (gw L Dr now done r (wln f now r)).2.2.2.2.1
theorem unroll_L {f now k0 k1 : Nat} {L Dr : Nat → Int32} {done : Int32} {r : Bool} (hk1 : k0 + 2 < k1) (hf : f ≤ 6) (hn : now + 1 < f) (hd : ((done >>> (nI now &&& 31)) &&& 1) = 0) : ∀ (n k m : Nat) (S : St), k + n = wln f now r → n < m → DrX f S k1 L Dr → gi S k0 2 = nI (wln f now r) → gi S k0 3 = (gw L Dr now done r k).2.2.2.2.1 →
    ∃ S', lq7 (fX7_unroll_L46 k0 (nI now) (if r then 1 else -1) done k1 (if r then 1 else 0)) m (gw L Dr now done r k).1 (gw L Dr now done r k).2.1 (gw L Dr now done r k).2.2.1 (gw L Dr now done r k).2.2.2.1 (gw L Dr now done r k).2.2.2.2.2 (nI k) S = some S' ∧ (∀ k' j, (k' ≠ k0 + 1 ∧ k' ≠ k0 + 2) ∨ j < k → (k' = k0 → j ≠ 3) → gi S' k' j = gi S k' j) ∧ (∀ i, k ≤ i → i < wln f now r → gi S' (k0 + 1) i = (gw L Dr now done r (i + 1)).1 ∧ gi S' (k0 + 2) i = (gw L Dr now done r (i + 1)).2.1) ∧ gi S' k0 3 = (gw L Dr now done r (wln f now r)).2.2.2.2.1 := by
  have hw6 : wln f now r ≤ 6 := by
    unfold wln
    split <;> omega
  intro n
  induction n with
  | zero =>
    intro k m S hk hm hD h2 h3
    obtain ⟨m, rfl⟩ : ∃ q, m = q + 1 := ⟨m - 1, by omega⟩
    obtain rfl : k = wln f now r := by omega
    refine ⟨S, ?_, fun _ _ _ _ => rfl, fun i z1 z2 => by omega, h3⟩
    rw [lq7_1, fX7_unroll_L46, h2, if_pos (nI_le (by omega) (by omega))]
  | succ n ih =>
    intro k m S hk hm hD h2 h3
    obtain ⟨m, rfl⟩ : ∃ q, m = q + 1 := ⟨m - 1, by omega⟩
    obtain ⟨w1, w2, w3⟩ := wln_face (r := r) hn (show k < wln f now r by omega)
    generalize hg : gw L Dr now done r k = g at h3 ⊢
    have hg1 : gw L Dr now done r (k + 1) = gst L Dr now done r k g := by rw [gw, hg]
    have ecr : nI now + (if r then (1 : Int32) else -1) * nI k = nI (gby now r k) := by
      unfold gby
      cases r
      · rw [if_neg (by decide), if_neg (by decide), Int32.neg_mul, Int32.one_mul, ← Int32.sub_eq_add_neg, nI_subN (w3 rfl)]
      · rw [if_pos rfl, if_pos rfl, Int32.one_mul, nI_add]
    have efc : (if (if r then (1 : Int32) else 0) = 0 then some (nI (gby now r k)) else some (nI (gby now r k) + 1)) = some (nI (gfc now r k)) := by
      unfold gby gfc
      cases r
      · rw [if_pos (by decide), if_neg (by decide), if_neg (by decide)]
      · rw [if_neg (by decide), if_pos rfl, if_pos rfl, nI_1]
    have hturn : ∃ s, (gtn Dr now done r k g).2.2 = s ∧ bn1 (fX8_hasBit done (nI (gby now r k))) (fun v20 => (if v20 = 0 then some (g.2.2.1, g.2.2.2.1, g.2.2.2.2.2) else
      bn1 (fX2_directionOf S k1 (nI (gby now r k))) (fun v49 => bn1 (fX2_directionOf S k1 (nI now)) (fun v50 => bn1 (if v49 = v50 then some (1 : Int32) else some (-1 : Int32)) (fun v51 => bv ((-v51) * g.2.2.2.1) (fun v52 => bv (v51 * g.2.2.1) (fun v54 => some (v52, v54, (0 : Int32))))))))) = some ((gtn Dr now done r k g).1, (gtn Dr now done r k g).2.1, s) := by
      refine ⟨_, rfl, ?_⟩
      have dB : fX2_directionOf S k1 (nI (gby now r k)) = some (Dr (gby now r k)) := by
        unfold fX2_directionOf
        rw [nI_1, gd_t (inb_nI (by omega) (by omega)), nI_clamp (by omega), hD.2 _ w2]
      have dN : fX2_directionOf S k1 (nI now) = some (Dr now) := by
        unfold fX2_directionOf
        rw [nI_1, gd_t (inb_nI (by omega) (by omega)), nI_clamp (by omega), hD.2 _ hn]
      unfold gtn
      rcases bit_X (x := done) (v := nI (gby now r k)) with ⟨z1, z2⟩ | ⟨z1, z2⟩
      · have q0 : ¬ k = 0 := fun q => by
          subst q
          apply z1
          have : gby now r 0 = now := by unfold gby; cases r <;> rfl
          rw [this]
          exact hd
        rw [z2, if_neg (fun z => z.elim q0 z1)]
        simp only [bn1_s, if_neg (show ¬ (1 : Int32) = 0 by decide), dB, dN]
        by_cases q2 : Dr (gby now r k) = Dr now
        · rw [if_pos q2, if_pos q2]
          simp only [bn1_s, bv, Int32.neg_mul, Int32.one_mul]
        · rw [if_neg q2, if_neg q2]
          simp only [bn1_s, bv, Int32.neg_mul, Int32.one_mul, Int32.neg_neg]
      · have z1' : ((done >>> (nI (gby now r k) &&& 31)) &&& 1) = 0 := Classical.byContradiction z1
        rw [z2, if_pos (Or.inr z1')]
        simp only [bn1_s, if_true]
    obtain ⟨s, s1, s2⟩ := hturn
    obtain ⟨S', e1, e2, e3, e4⟩ := ih (k + 1) m (si (si (si S (k0 + 1) k (gst L Dr now done r k g).1) (k0 + 2) k (gst L Dr now done r k g).2.1) k0 3 (gst L Dr now done r k g).2.2.2.2.1) (by omega) (by omega) ⟨fun i hi => by rw [gi_ne (by omega), gi_ne (by omega), gi_ne (by omega)]; exact hD.1 i hi, fun i hi => by rw [gi_ne (by omega), gi_ne (by omega), gi_ne (by omega)]; exact hD.2 i hi⟩ (by rw [gi_nj (by decide), gi_ne (by omega), gi_ne (by omega)]; exact h2) (by rw [gi_eq, hg1])
    rw [hg1] at e1
    refine ⟨S', ?_, fun k' j h h' => ?_, fun i h1 h9 => ?_, e4⟩
    · rw [lq7_1, fX7_unroll_L46, h2, if_neg (nI_ge (show k < wln f now r by omega) (by omega)), ecr]
      simp only [bv] at s2 ⊢
      have hx := s2
      cases hb : fX8_hasBit done (nI (gby now r k)) with
      | none => rw [hb] at hx; cases hx
      | some vb =>
        rw [hb] at hx
        simp only [bn1_s] at hx ⊢
        rw [hx]
        simp only [bn3_s]
        rw [efc]
        simp only [bn1_s, gd_t (inb_nI (show gfc now r k < 6 by omega) (by omega)), nI_clamp (show gfc now r k < 2 ^ 31 by omega), hD.1 _ w1, gd_t (inb_nI (show k < 6 by omega) (by omega)), nI_clamp (show k < 2 ^ 31 by omega), nI_1, gi_ne (show k0 ≠ k0 + 1 by omega), gi_ne (show k0 ≠ k0 + 2 by omega), h3, bn1_if, ← s1]
        exact e1
    · rw [e2 k' j (by omega) h', gi_if, if_neg (by omega)]
      rcases h with h | h
      · rw [gi_ne h.2, gi_ne h.1]
      · rw [gi_nj (by omega), gi_nj (by omega)]
    · by_cases q : i = k
      · subst q
        rw [e2 _ _ (by omega) (by omega), e2 _ _ (by omega) (by omega), gi_ne (by omega), gi_ne (by omega), gi_eq, gi_ne (by omega), gi_eq, hg1]
        exact ⟨rfl, rfl⟩
      · exact e3 i (by omega) h9
theorem unroll_X {f now k0 k1 : Nat} {L Dr : Nat → Int32} {done : Int32} {r : Bool} {S : St} (hk1 : k0 + 2 < k1) (h1 : 1 ≤ f) (hf : f ≤ 6) (hn : now + 1 < f) (hd : ((done >>> (nI now &&& 31)) &&& 1) = 0) (hD : DrX f S k1 L Dr) (hS : gi S k1 2 = nI f) : ∃ S', fX7_unroll S k0 k1 done (nI now) (if r then 1 else 0) = some S' ∧ WgX S' k0 L Dr f now done r ∧ ∀ k' j, k' ≠ k0 ∧ k' ≠ k0 + 1 ∧ k' ≠ k0 + 2 → gi S' k' j = gi S k' j := by
  have hwf : fX2_wingFaces S k1 (nI now) (if r then 1 else 0) = some (nI (wln f now r)) := by
    unfold fX2_wingFaces wln
    cases r
    · rw [if_pos (by decide), if_neg (by decide), nI_1]
    · rw [if_neg (by decide), if_pos rfl, hS, nI_sub1 (by omega), nI_subN (by omega)]
  have hsd : (if (if r then (1 : Int32) else 0) = 0 then some (-1 : Int32) else some 1) = some (if r then (1 : Int32) else -1) := by cases r <;> rfl
  obtain ⟨S', e1, e2, e3, e4⟩ := unroll_L (k0 := k0) (k1 := k1) (L := L) (Dr := Dr) (done := done) (r := r) hk1 hf hn hd (wln f now r) 0 200 (si (si S k0 2 (nI (wln f now r))) k0 3 0) (by omega) (by unfold wln; split <;> omega) ⟨fun i hi => by rw [gi_ne (by omega), gi_ne (by omega)]; exact hD.1 i hi, fun i hi => by rw [gi_ne (by omega), gi_ne (by omega)]; exact hD.2 i hi⟩ (by rw [gi_nj (by decide), gi_eq]) (by rw [gi_eq]; rfl)
  refine ⟨S', ?_, ⟨?_, fun i hi => e3 i (by omega) hi, e4⟩, fun k' j h => ?_⟩
  · unfold fX7_unroll
    rw [hwf]
    simp only [bn1_s, bv]
    rw [hsd]
    simp only [bn1_s]
    rw [nI_0] at e1
    show bn1 (lq7 _ 200 0 0 1 0 1 0 _) _ = _
    rw [show lq7 (fX7_unroll_L46 k0 (nI now) (if r then 1 else -1) done k1 (if r then 1 else 0)) 200 0 0 1 0 1 0 (si (si S k0 2 (nI (wln f now r))) k0 3 0) = some S' from e1]
    rfl
  · rw [e2 _ _ (Or.inl (by omega)) (by omega), gi_nj (by decide), gi_eq]
  · rw [e2 _ _ (Or.inl (by omega)) (by omega), gi_ne h.1, gi_ne h.1]
