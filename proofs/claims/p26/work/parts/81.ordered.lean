/-! ===== the order ===== -/
theorem mnf_min {c : Nat → Nat} : ∀ n i, i < n → mnf c n ≤ c i := by
  intro n
  induction n with
  | zero => intro i h; omega
  | succ n ih =>
    intro i h
    rw [mnf]
    by_cases q : i = n
    · subst q; omega
    · have := ih i (by omega); omega
theorem bix_low {c : Nat → Nat} : ∀ n, n < 99 → bix c n ≠ 99 → ∀ i, i < bix c n → mnf c n < c i := by
  intro n
  induction n with
  | zero => intro _ h; exact absurd rfl h
  | succ n ih =>
    intro h h2 i hi
    rw [bix] at h2 hi
    rw [mnf]
    by_cases q : c n < mnf c n
    · rw [if_pos q] at hi
      have := mnf_min (c := c) n i hi
      omega
    · rw [if_neg q] at hi h2
      have := ih (by omega) h2 i hi
      omega
theorem pick_M {M0 : St} {p t n d l : Nat} {L Dr : Nat → Int32} {dn : Nat → Nat} {w : Nat → Nat → Nat} {rs : Nat → Nat → Int32} (hp : p < 8) (hn : n < 6) (hd : d < 2 ^ n) (hl : l < 7) (hD0 : DrM p (n + 1) M0 L Dr) (hH : HM M0 p t n rs) (hdr : ∀ i, i < n → Dr i = nI (dn i)) (hd2 : ∀ i, i < n → dn i < 2) (hw : SPW n (canB rs) dn w) (h9 : w d (al n dn l) ≠ 99) (hf : d ≠ 2 ^ n - 1) : ∀ (i fu : Nat) (v : Int32) (M : St), i ≤ n → i < fu → scrM M0 M → TM n dn w M 0 → (i ≤ pj n (canB rs) dn w (d, al n dn l) → v = nI (pj n (canB rs) dn w (d, al n dn l))) → ∃ M', lq3 (fX9_ordered_L87 (nI d) (nI p) (nI t) (nI l)) fu v (nI i - 1) M = some (nI (pj n (canB rs) dn w (d, al n dn l)), M') ∧ scrG M M' := by
  have h32 := bf_5 hn
  have hS := hw d hd (al n dn l)
  rw [if_neg hf] at hS
  have hb99 : bix (cst w (canB rs) dn d (al n dn l)) n ≠ 99 := fun z => h9 (by rw [hS]; exact (bix_99 n (by omega)).mp z)
  obtain ⟨j1, j2⟩ := bix_is n (by omega) hb99
  have jl := bix_low n (by omega) hb99
  show ∀ (i fu : Nat) (v : Int32) (M : St), i ≤ n → i < fu → scrM M0 M → TM n dn w M 0 → (i ≤ bix (cst w (canB rs) dn d (al n dn l)) n → v = nI (bix (cst w (canB rs) dn d (al n dn l)) n)) → ∃ M', lq3 (fX9_ordered_L87 (nI d) (nI p) (nI t) (nI l)) fu v (nI i - 1) M = some (nI (bix (cst w (canB rs) dn d (al n dn l)) n), M') ∧ scrG M M'
  generalize hj : bix (cst w (canB rs) dn d (al n dn l)) n = j at *
  intro i
  induction i with
  | zero =>
    intro fu v M hi hfu hM hT hv
    obtain ⟨fu, rfl⟩ : ∃ q, fu = q + 1 := ⟨fu - 1, by omega⟩
    refine ⟨M, ?_, scrG_r⟩
    rw [lq3_1, fX9_ordered_L87, if_pos (by decide), hv (by omega)]
  | succ i ih =>
    intro fu v M hi hfu hM hT hv
    obtain ⟨fu, rfl⟩ : ∃ q, fu = q + 1 := ⟨fu - 1, by omega⟩
    obtain ⟨M2, e1, e2⟩ := can_M hn hd (show i < n by omega) hH hM
    have hM2 : scrM M0 M2 := hM.tr e2.m
    have hT2 : TM n dn w M2 0 := fun e h1 h2 b hb => by rw [e2 _ _ (by omega)]; exact hT e h1 h2 b hb
    have ht := turn_M (l := l) hp hn hl (show i < n by omega) (hD0.keepM hM2) hdr hd2
    obtain ⟨z1, z2⟩ := bf_4 hn hd (show i < n by omega)
    have hcur : gi M2 26 (7 * d + l) = nI (w d (al n dn l)) := hT2 d (by omega) hd l hl
    have hnx : gi M2 26 (7 * ob d i + i) = nI (w (ob d i) (dn i)) := by
      rw [hT2 (ob d i) (by omega) z1 i (by omega)]
      unfold al
      rw [if_pos (show i < n by omega)]
    have htc : tc dn (al n dn l) i ≤ 1 := by unfold tc; split <;> omega
    have hbn := spw_b90 hn canB_b hw (ob d i) (dn i) z1
    have hbd := spw_b90 hn canB_b hw d (al n dn l) hd
    have hsel : ∃ v', (jn0 (some v) (fun J41 => if bI (canB rs d i) = 0 then J41 else bn1 (fX9_turn M2 (nI p) (nI l) (nI i)) (fun (v43 : Int32) => gd (inb ((7 : Int32) * (nI d ||| ((1 : Int32) <<< (nI i &&& 31))) + nI i) 224) (gd (inb ((7 : Int32) * nI d + nI l) 224) (if v43 + gi M2 26 ((7 : Int32) * (nI d ||| ((1 : Int32) <<< (nI i &&& 31))) + nI i).toNatClampNeg = gi M2 26 ((7 : Int32) * nI d + nI l).toNatClampNeg then some (nI i) else J41))))) = some v' ∧ (i ≤ j → v' = nI j) := by
      unfold jn0
      dsimp only
      cases hc : canB rs d i
      · rw [if_pos (by decide)]
        refine ⟨v, rfl, fun h => hv ?_⟩
        by_cases q : i = j
        · exfalso
          have : cst w (canB rs) dn d (al n dn l) j = 99 := by
            unfold cst
            rw [← q, hc]; rfl
          omega
        · omega
      · rw [if_neg (by decide), ht]
        simp only [bn1_s]
        rw [bf_2 (by omega) (by omega), ix7, ix7, gd_t (inb_nI (by omega) (by omega)), gd_t (inb_nI (by omega) (by omega)), nI_clamp (n := 7 * ob d i + i) (by omega), nI_clamp (n := 7 * d + l) (by omega), hcur, hnx, nI_add]
        have hci : cst w (canB rs) dn d (al n dn l) i = min 99 (w (ob d i) (dn i) + tc dn (al n dn l) i) := by
          unfold cst
          rw [hc]; rfl
        by_cases q : tc dn (al n dn l) i + w (ob d i) (dn i) = w d (al n dn l)
        · rw [if_pos (by rw [q])]
          refine ⟨nI i, rfl, fun h => ?_⟩
          by_cases q2 : i = j
          · rw [q2]
          · have := jl i (by omega)
            omega
        · rw [if_neg (nI_neq q (by omega) (by omega))]
          refine ⟨v, rfl, fun h => hv ?_⟩
          by_cases q2 : i = j
          · exfalso
            rw [q2] at hci q
            omega
          · omega
    obtain ⟨v', s1, s2⟩ := hsel
    obtain ⟨M', w1, w2⟩ := ih fu v' M2 (by omega) (by omega) hM2 hT2 s2
    refine ⟨M', ?_, e2.tr w2⟩
    rw [lq3_1, fX9_ordered_L87, nI_pred, if_neg (nI_pos (by omega)), e1]
    simp only [bn2_s]
    rw [s1]
    simp only [bn1_s, bv]
    rw [show nI i + (-1) = nI i - 1 from (Int32.sub_eq_add_neg _ _).symm]
    exact w1
/-- the last bend of the path's first k -/
def lst (n : Nat) (can : Nat → Nat → Bool) (dn : Nat → Nat) (w : Nat → Nat → Nat) : Nat → Nat
  | 0 => 6
  | k + 1 => pj n can dn w (pd n can dn w k)
theorem path_M {M0 : St} {p t n pl : Nat} {L Dr : Nat → Int32} {dn : Nat → Nat} {w : Nat → Nat → Nat} {rs : Nat → Nat → Int32} (hp : p < 8) (hn : n < 6) (hpl : pl < n) (hD0 : DrM p (n + 1) M0 L Dr) (hH : HM M0 p t n rs) (hdr : ∀ i, i < n → Dr i = nI (dn i)) (hd2 : ∀ i, i < n → dn i < 2) (hw : SPW n (canB rs) dn w) (h0 : w 0 2 ≠ 99) : ∀ (m k fu : Nat) (M : St), k + m = pl + 1 → m < fu → scrM M0 M → TM n dn w M 0 → ∃ M', lq4 (fX9_ordered_L68 (nI pl) (nI p) (nI t)) fu (nI (pd n (canB rs) dn w k).1) (nI (lst n (canB rs) dn w k)) (nI k) M = some (nI (lst n (canB rs) dn w (pl + 1)), M') ∧ scrG M M' := by
  have h32 := bf_5 hn
  intro m
  induction m with
  | zero =>
    intro k fu M hk hf hM hT
    obtain ⟨fu, rfl⟩ : ∃ q, fu = q + 1 := ⟨fu - 1, by omega⟩
    obtain rfl : k = pl + 1 := by omega
    refine ⟨M, ?_, scrG_r⟩
    rw [lq4_1, fX9_ordered_L68, if_pos (nI_lt (by omega) (by omega))]
  | succ m ih =>
    intro k fu M hk hf hM hT
    obtain ⟨fu, rfl⟩ : ∃ q, fu = q + 1 := ⟨fu - 1, by omega⟩
    obtain ⟨z1, z2, z3, z4⟩ := pd_ok hn canB_b hd2 hw h0 k (by omega)
    have hfull : (pd n (canB rs) dn w k).1 ≠ 2 ^ n - 1 := fun z => by
      have := (cf_1 hn z1).mpr z
      omega
    have hall : lst n (canB rs) dn w k < 7 ∧ al n dn (lst n (canB rs) dn w k) = (pd n (canB rs) dn w k).2 := by
      cases k with
      | zero => exact ⟨(by decide : 6 < 7), if_neg (by show ¬ 6 < n; omega)⟩
      | succ k =>
        obtain ⟨u1, u2, u3, u4⟩ := pd_ok hn canB_b hd2 hw h0 k (by omega)
        have hfl : (pd n (canB rs) dn w k).1 ≠ 2 ^ n - 1 := fun z => by
          have := (cf_1 hn u1).mpr z
          omega
        have y1 : pj n (canB rs) dn w (pd n (canB rs) dn w k) < n := (pj_ok hn u1 hw u4 hfl).1
        refine ⟨?_, ?_⟩
        · show pj n (canB rs) dn w (pd n (canB rs) dn w k) < 7
          omega
        · show al n dn (pj n (canB rs) dn w (pd n (canB rs) dn w k)) = _
          unfold al
          rw [if_pos y1]
          rfl
    obtain ⟨l7, lal⟩ := hall
    have hpj : pj n (canB rs) dn w ((pd n (canB rs) dn w k).1, al n dn (lst n (canB rs) dn w k)) = lst n (canB rs) dn w (k + 1) := by
      rw [lal]; rfl
    have yj : pj n (canB rs) dn w (pd n (canB rs) dn w k) < n := (pj_ok hn z1 hw z4 hfull).1
    have yl : lst n (canB rs) dn w (k + 1) < n := yj
    obtain ⟨M1, x1, x2⟩ := pick_M (l := lst n (canB rs) dn w k) hp hn z1 l7 hD0 hH hdr hd2 hw (by rw [lal]; exact z4) hfull n 200 (-1) M (Nat.le_refl n) (by omega) hM hT (fun h => by rw [hpj] at h; omega)
    rw [hpj] at x1
    obtain ⟨M', w1, w2⟩ := ih (k + 1) fu M1 (by omega) (by omega) (hM.tr x2.m) (fun e h1 h2 b hb => by rw [x2 _ _ (by omega)]; exact hT e h1 h2 b hb)
    refine ⟨M', ?_, x2.tr w2⟩
    have h3 : gi M 3 p = nI (n + 1) := (hD0.keepM hM).2.2
    rw [lq4_1, fX9_ordered_L68, if_neg (nI_nlt (by omega) (by omega)), gd_t (inb_nI hp (by omega)), nI_clamp (n := p) (by omega), h3, sub2 (by omega), Nat.add_sub_cancel]
    simp only [bv]
    rw [x1]
    simp only [bn2_s, bf_2 (show (pd n (canB rs) dn w k).1 < 32 by omega) (show lst n (canB rs) dn w (k + 1) < 5 by omega), nI_1]
    exact w1
theorem ag_ordered : Ag_ordered Rel := by
  intro S M hR p1 p2 p3
  have hR' := hR
  obtain ⟨P, T, B, F, hN⟩ := hR
  obtain ⟨⟨a1, a2, a3, a4⟩, ⟨b1, b2, b3, b4⟩, c1, c2, c3, c4⟩ := hN.1
  rcases part_cs b1 c1 a1 p1 with ⟨p, hp, rfl, e1, e2⟩ | ⟨e1, e2⟩
  rotate_left
  · refine Or.inr ⟨0, S, si M 0 0 1, ?_, ?_, rfl, hR'.thr, scrM_t⟩
    · unfold fX8_ordered
      rw [e1]; rfl
    · unfold fX9_ordered jn0
      rw [e2]; rfl
  rcases tool_cs b2 c2 a2 p2 with ⟨t, ht, rfl, g1, g2⟩ | ⟨g1, g2⟩
  rotate_left
  · refine Or.inr ⟨0, S, si M 0 0 1, ?_, ?_, rfl, hR'.thr, scrM_t⟩
    · unfold fX8_ordered
      rw [e1, g1]; rfl
    · unfold fX9_ordered jn0
      rw [e2, g2]; rfl
  by_cases g3 : 0 ≤ p3
  rotate_left
  · refine Or.inr ⟨0, S, si M 0 0 1, ?_, ?_, rfl, hR'.thr, scrM_t⟩
    · unfold fX8_ordered
      rw [e1, g1]
      simp only [bx, if_neg g3]
    · unfold fX9_ordered jn0
      rw [e2, g2]
      simp only [bn1_s, if_neg (show ¬ (1 : Int32) = 0 by decide), if_pos (i_nle.mp g3)]
      rfl
  obtain ⟨n, dn, w, rs, L, Dr, hO⟩ := (RelN.thr (k := 0) hN).oc hp ht
  obtain ⟨S', x1, x2, x3, x4, x5⟩ := hO.plan
  obtain ⟨M', y1, y2, y3, y4⟩ := hO.turns
  obtain ⟨⟨hn, hp8, ht4⟩, -, d1, d2, hw, m1, m2⟩ := hO
  have h32 := bf_5 hn
  have hbd := spw_b90 hn canB_b hw 0 2 h32.2
  have h3 : gi M' 3 p = nI (n + 1) := (m1.keepM y3).2.2
  left
  have fin : ∀ v S2 M2, fX8_ordered S (nI p) (nI t) p3 = some (.inr v, S2) → fX9_ordered M (nI p) (nI t) p3 = some (v, M2) → scrX S S2 → scrM (si M 0 0 0) M2 → gi M2 0 0 = 0 → AgV Rel (fX8_ordered S (nI p) (nI t) p3) (fX9_ordered M (nI p) (nI t) p3) := fun v S2 M2 q1 q2 q3 q4 q5 => ⟨v, S2, M2, q1, q2, by unfold fX9_thrown; rw [q5], hR'.keep q3 ((scrM_t (k := 0)).tr q4)⟩
  by_cases q : w 0 2 = 99
  · refine fin (-1) S' M' ?_ ?_ x5 y3 (by rw [y4, gi_eq])
    · unfold fX8_ordered
      rw [e1, g1]
      simp only [bx, if_pos g3, x1, bn1_s, x3, if_pos q]
    · unfold fX9_ordered jn0
      rw [e2, g2]
      simp only [bn1_s, if_neg (show ¬ (1 : Int32) = 0 by decide), if_neg (i_nlt.mpr g3), well_0, bn2_s, y1, if_pos ((enc_1 (show w 0 2 < 1000 by omega)).mpr q)]
  have hq : ¬ enc (w 0 2) = -1 := fun z => q ((enc_1 (by omega)).mp z)
  by_cases g4 : nI n ≤ p3
  · refine fin (-1) S' M' ?_ ?_ x5 y3 (by rw [y4, gi_eq])
    · unfold fX8_ordered
      rw [e1, g1]
      simp only [bx, if_pos g3, x1, bn1_s, x3, if_neg q, if_pos g4]
    · unfold fX9_ordered jn0
      rw [e2, g2]
      simp only [bn1_s, if_neg (show ¬ (1 : Int32) = 0 by decide), if_neg (i_nlt.mpr g3), well_0, bn2_s, y1, if_neg hq, gd_t (inb_nI hp8 (by omega)), nI_clamp (show p < 2 ^ 31 by omega), h3, nI_pred, if_neg (i_nlt.mpr g4)]
  obtain ⟨pl, hpl, rfl⟩ := rng (x := p3) (n := n) (by omega) ⟨g3, by
    have := i_nle.mp g4
    rw [Int32.lt_iff_toInt_lt, nI_toInt (by omega)] at this
    rw [Int32.le_iff_toInt_le, nI_toIntm (by omega)]
    omega⟩
  obtain ⟨M2, z1, z2⟩ := path_M hp8 hn hpl m1 m2 d1 d2 hw q (pl + 1) 0 200 M' (by omega) (by omega) y3 y2
  refine fin (nI (lst n (canB rs) dn w (pl + 1))) S' M2 ?_ ?_ x5 (y3.tr z2.m) (by rw [z2 _ _ (by omega), y4, gi_eq])
  · unfold fX8_ordered
    rw [e1, g1]
    simp only [bx, if_pos g3, x1, bn1_s, x3, if_neg q, if_neg g4, gd_t (inb_nI (show pl < 5 by omega) (by omega)), nI_clamp (show pl < 2 ^ 31 by omega), x4 q pl hpl]
    rfl
  · unfold fX9_ordered jn0
    rw [e2, g2]
    simp only [bn1_s, if_neg (show ¬ (1 : Int32) = 0 by decide), if_neg (i_nlt.mpr g3), well_0, bn2_s, y1, if_neg hq, gd_t (inb_nI hp8 (by omega)), nI_clamp (show p < 2 ^ 31 by omega), h3, nI_pred, if_pos (i_nle.mp g4)]
    rw [show lq4 (fX9_ordered_L68 (nI pl) (nI p) (nI t)) 200 0 6 0 M' = some (nI (lst n (canB rs) dn w (pl + 1)), M2) from z1]
    rfl
