/-! ===== the class's table, and its path ===== -/
/-- all that stays while the planner's table is filled -/
def PX (n : Nat) (rs : Nat → Nat → Int32) (dn : Nat → Nat) (S : St) : Prop := gi S 15 3 = nI n ∧ (∀ i, i < n → gi S 18 i = nI (dn i)) ∧ ∀ d, d < 2 ^ n → gi S 16 d = nI (mkb (canB rs d) n)
theorem PX.keep {n : Nat} {rs : Nat → Nat → Int32} {dn : Nat → Nat} {S S' : St} (h : PX n rs dn S) (h1 : gi S' 15 3 = gi S 15 3) (h2 : ∀ j, gi S' 18 j = gi S 18 j) (h3 : ∀ j, gi S' 16 j = gi S 16 j) : PX n rs dn S' := ⟨by rw [h1]; exact h.1, fun i hi => by rw [h2]; exact h.2.1 i hi, fun d hd => by rw [h3]; exact h.2.2 d hd⟩
theorem canB_b {rs : Nat → Nat → Int32} : ∀ d i, canB rs d i = true → bt d i = false := by
  intro d i h
  unfold canB at h
  cases hb : bt d i
  · rfl
  · rw [hb] at h; cases h
theorem spw_b90 {n : Nat} {can : Nat → Nat → Bool} {dn : Nat → Nat} {w : Nat → Nat → Nat} (hn : n < 6) (hc : ∀ d i, can d i = true → bt d i = false) (hw : SPW n can dn w) : ∀ e b, e < 2 ^ n → w e b = 99 ∨ w e b < 90 := fun e b he => by
  have h32 := (bf_5 hn).1
  rcases spw_bd hn hc hw (2 ^ n - e) e b he (Nat.le_refl _) with h | h
  · exact Or.inl h
  · right; omega
theorem rest_X {S : St} {n d : Nat} (hn : n < 6) (hd : d < 2 ^ n) (h15 : gi S 15 3 = nI n) : fX5_restOfNone S (nI d) = some (enc (if d = 2 ^ n - 1 then 0 else 99)) := by
  have h5 := bf_5 hn
  unfold fX5_restOfNone
  rw [h15, bf_3 hn, nI_sub1 h5.2]
  by_cases q : d = 2 ^ n - 1
  · rw [if_pos (show nI d = nI (2 ^ n - 1) by rw [← q]), if_pos q]; rfl
  · rw [if_neg (nI_neq q (by omega) (by omega)), if_neg q]; rfl
theorem full_no {n i : Nat} {rs : Nat → Nat → Int32} (hn : n < 6) (hi : i < n) : canB rs (2 ^ n - 1) i = false := by
  unfold canB
  rw [bf_7 hn hi]
  rfl
theorem cst_full {n : Nat} {rs : Nat → Nat → Int32} {dn : Nat → Nat} {w : Nat → Nat → Nat} {a : Nat} (hn : n < 6) : ∀ i, i ≤ n → mnf (cst w (canB rs) dn (2 ^ n - 1) a) i = 99 := by
  intro i
  induction i with
  | zero => intro _; rfl
  | succ i ih =>
    intro h
    rw [mnf, ih (by omega)]
    unfold cst
    rw [full_no hn (by omega)]
    rfl
theorem tab_25 {n d : Nat} {rs : Nat → Nat → Int32} {dn : Nat → Nat} {w : Nat → Nat → Nat} (hn : n < 6) (hd : d < 2 ^ n) (hd2 : ∀ i, i < n → dn i < 2) (hw : SPW n (canB rs) dn w) : ∀ (m a fu : Nat) (S : St), a + m = 3 → m < fu → PX n rs dn S → TX n w S (d + 1) → (∀ b, b < a → gi S 17 (3 * d + b) = enc (w d b)) → ∃ S', lq2 (fX5_plan_L25 (nI d)) fu (nI a) S = some S' ∧ TX n w S' d ∧ ∀ k j, k ≠ 17 → gi S' k j = gi S k j := by
  have h32 := bf_5 hn
  intro m
  induction m with
  | zero =>
    intro a fu S ha hf hP hT hA
    obtain ⟨fu, rfl⟩ : ∃ q, fu = q + 1 := ⟨fu - 1, by omega⟩
    obtain rfl : a = 3 := by omega
    refine ⟨S, ?_, fun e h1 h2 b hb => ?_, fun _ _ _ => rfl⟩
    · rw [lq2_1, fX5_plan_L25, if_pos (show (3 : Int32) ≤ nI 3 by decide)]
    · by_cases q : e = d
      · subst q; exact hA b hb
      · exact hT e (by omega) h2 b hb
  | succ m ih =>
    intro a fu S ha hf hP hT hA
    obtain ⟨fu, rfl⟩ : ∃ q, fu = q + 1 := ⟨fu - 1, by omega⟩
    have hb := best_X hn hd (show a < 3 by omega) hd2 canB_b hP.1 hP.2.1 (hP.2.2 d hd) hT (spw_b90 hn canB_b hw)
    have hbl : bix (cst w (canB rs) dn d a) n < 1000 := by
      by_cases q : bix (cst w (canB rs) dn d a) n = 99
      · omega
      · have := (bix_is n (by omega) q).1; omega
    have hval : (if enc (bix (cst w (canB rs) dn d a) n) = -1 then bn1 (fX5_restOfNone S (nI d)) (fun v54 => some v54) else bn1 (fX5_turnsBy S (nI d) (nI a) (enc (bix (cst w (canB rs) dn d a) n))) (fun v53 => some v53)) = some (enc (w d a)) := by
      rw [hw d hd a]
      by_cases q : bix (cst w (canB rs) dn d a) n = 99
      · rw [if_pos ((enc_1 hbl).mpr q), rest_X hn hd hP.1, (bix_99 n (by omega)).mp q]
        rfl
      · rw [if_neg (fun z => q ((enc_1 hbl).mp z))]
        obtain ⟨z1, z2⟩ := bix_is n (by omega) q
        have hnf : ¬ d = 2 ^ n - 1 := fun z => q ((bix_99 n (by omega)).mpr (by rw [z]; exact cst_full hn n (Nat.le_refl n)))
        have hm : ¬ mnf (cst w (canB rs) dn d a) n = 99 := fun z => q ((bix_99 n (by omega)).mpr z)
        rw [if_neg hnf, ← z2]
        have hcan : canB rs d (bix (cst w (canB rs) dn d a) n) = true := by
          cases hh : canB rs d (bix (cst w (canB rs) dn d a) n)
          · exfalso
            apply hm
            rw [← z2]
            unfold cst at hh ⊢
            rw [hh]; rfl
          · rfl
        have e : enc (bix (cst w (canB rs) dn d a) n) = nI (bix (cst w (canB rs) dn d a) n) := if_neg q
        rw [e, turnsBy_X hn hd z1 (show a < 3 by omega) (hd2 _ z1) (hP.2.1 _ z1) (canB_b _ _ hcan) hT (spw_b90 hn canB_b hw _ _ (bf_4 hn hd z1).1)]
        generalize bix (cst w (canB rs) dn d a) n = j at hcan
        unfold cst
        rw [hcan]
        rfl
    obtain ⟨S', w1, w2, w3⟩ := ih (a + 1) fu (si S 17 (3 * d + a) (enc (w d a))) (by omega) (by omega) (hP.keep (gi_ne (by decide)) (fun j => gi_ne (by decide)) (fun j => gi_ne (by decide))) (fun e h1 h2 b hb => by rw [gi_nj (by omega)]; exact hT e h1 h2 b hb) (fun b hb => by
      by_cases q : b = a
      · subst q; exact gi_eq
      · rw [gi_nj (by omega)]; exact hA b (by omega))
    refine ⟨S', ?_, w2, fun k j hk => by rw [w3 k j hk, gi_ne hk]⟩
    rw [lq2_1, fX5_plan_L25, if_neg (show ¬ (3 : Int32) ≤ nI a from nI_ge (b := 3) (by omega) (by decide)), hb]
    simp only [bn1_s]
    rw [hval]
    simp only [bn1_s]
    rw [show (3 : Int32) = nI 3 from rfl, nI_mul, nI_add, gd_t (inb_nI (by omega) (by omega)), nI_clamp (by omega), show d * 3 + a = 3 * d + a by omega]
    simp only [bv, nI_1]
    exact w1
theorem tab_17 {n : Nat} {rs : Nat → Nat → Int32} {dn : Nat → Nat} {w : Nat → Nat → Nat} (hn : n < 6) (hd2 : ∀ i, i < n → dn i < 2) (hw : SPW n (canB rs) dn w) : ∀ (d fu : Nat) (S : St), d < 2 ^ n → d + 1 < fu → PX n rs dn S → TX n w S (d + 1) → ∃ S', lq2 fX5_plan_L17 fu (nI d) S = some S' ∧ TX n w S' 0 ∧ ∀ k j, k ≠ 17 → gi S' k j = gi S k j := by
  have h32 := bf_5 hn
  intro d
  induction d with
  | zero =>
    intro fu S hd hf hP hT
    obtain ⟨fu, rfl⟩ : ∃ q, fu = q + 1 + 1 := ⟨fu - 2, by omega⟩
    obtain ⟨S1, x1, x2, x3⟩ := tab_25 hn hd hd2 hw 3 0 200 S (by omega) (by omega) hP hT (fun b hb => by omega)
    have x1 : lq2 (fX5_plan_L25 (nI 0)) 200 0 S = some S1 := x1
    refine ⟨S1, ?_, x2, x3⟩
    rw [lq2_1, fX5_plan_L17, if_neg (by decide), x1]
    simp only [bn1_s, bv]
    rw [lq2_1, fX5_plan_L17, if_pos (by decide)]
  | succ d ih =>
    intro fu S hd hf hP hT
    obtain ⟨fu, rfl⟩ : ∃ q, fu = q + 1 := ⟨fu - 1, by omega⟩
    obtain ⟨S1, x1, x2, x3⟩ := tab_25 hn hd hd2 hw 3 0 200 S (by omega) (by omega) hP hT (fun b hb => by omega)
    obtain ⟨S', w1, w2, w3⟩ := ih fu S1 (by omega) (by omega) (hP.keep (x3 _ _ (by decide)) (fun j => x3 _ _ (by decide)) (fun j => x3 _ _ (by decide))) x2
    rw [nI_0] at x1
    refine ⟨S', ?_, w2, fun k j hk => by rw [w3 k j hk, x3 k j hk]⟩
    rw [lq2_1, fX5_plan_L17, if_neg (nI_pos (by omega)), x1]
    simp only [bn1_s, bv]
    rw [show nI (d + 1) + (-1) = nI d from by rw [← Int32.sub_eq_add_neg]; exact nI_pred d]
    exact w1
/-! the path -/
def cn : Nat → Nat → Nat
  | 0, _ => 0
  | n + 1, d => cn n d + if bt d n then 1 else 0
theorem cf_1 {n d : Nat} (hn : n < 6) (hd : d < 2 ^ n) : (cn n d = n ↔ d = 2 ^ n - 1) := (by decide +kernel : ∀ n, n < 6 → ∀ d, d < 2 ^ n → (cn n d = n ↔ d = 2 ^ n - 1)) n hn d hd
theorem cf_2 {n d i : Nat} (hn : n < 6) (hd : d < 2 ^ n) (hi : i < n) (hb : bt d i = false) : cn n (ob d i) = cn n d + 1 := (by decide +kernel : ∀ n, n < 6 → ∀ d, d < 2 ^ n → ∀ i, i < n → bt d i = false → cn n (ob d i) = cn n d + 1) n hn d hd i hi hb
theorem cf_0 {n : Nat} (hn : n < 6) : cn n 0 = 0 := (by decide +kernel : ∀ n, n < 6 → cn n 0 = 0) n hn
def pj (n : Nat) (can : Nat → Nat → Bool) (dn : Nat → Nat) (w : Nat → Nat → Nat) (s : Nat × Nat) : Nat := bix (cst w can dn s.1 s.2) n
def pd (n : Nat) (can : Nat → Nat → Bool) (dn : Nat → Nat) (w : Nat → Nat → Nat) : Nat → Nat × Nat
  | 0 => (0, 2)
  | k + 1 => (ob (pd n can dn w k).1 (pj n can dn w (pd n can dn w k)), dn (pj n can dn w (pd n can dn w k)))
theorem pj_ok {n d a : Nat} {can : Nat → Nat → Bool} {dn : Nat → Nat} {w : Nat → Nat → Nat} (hn : n < 6) (hd : d < 2 ^ n) (hw : SPW n can dn w) (h9 : w d a ≠ 99) (hf : d ≠ 2 ^ n - 1) : pj n can dn w (d, a) < n ∧ can d (pj n can dn w (d, a)) = true ∧ w (ob d (pj n can dn w (d, a))) (dn (pj n can dn w (d, a))) ≠ 99 := by
  have h := hw d hd a
  rw [if_neg hf] at h
  have hb : bix (cst w can dn d a) n ≠ 99 := fun z => h9 (by rw [h]; exact (bix_99 n (by omega)).mp z)
  obtain ⟨z1, z2⟩ := bix_is n (by omega) hb
  have hc : cst w can dn d a (bix (cst w can dn d a) n) ≠ 99 := by rw [z2, ← h]; exact h9
  unfold pj
  generalize hj : bix (cst w can dn d a) n = j at *
  have hcan : can d j = true := by
    cases hh : can d j
    · exfalso
      apply hc
      unfold cst
      rw [hh]; rfl
    · rfl
  refine ⟨z1, hcan, fun z => hc ?_⟩
  unfold cst
  rw [hcan, if_pos rfl, z]
  omega
theorem pd_ok {n : Nat} {can : Nat → Nat → Bool} {dn : Nat → Nat} {w : Nat → Nat → Nat} (hn : n < 6) (hc : ∀ d i, can d i = true → bt d i = false) (hd2 : ∀ i, i < n → dn i < 2) (hw : SPW n can dn w) (h0 : w 0 2 ≠ 99) : ∀ k, k ≤ n → (pd n can dn w k).1 < 2 ^ n ∧ (pd n can dn w k).2 < 3 ∧ cn n (pd n can dn w k).1 = k ∧ w (pd n can dn w k).1 (pd n can dn w k).2 ≠ 99 := by
  intro k
  induction k with
  | zero => intro _; exact ⟨(bf_5 hn).2, (by decide : 2 < 3), cf_0 hn, h0⟩
  | succ k ih =>
    intro hk
    obtain ⟨z1, z2, z3, z4⟩ := ih (by omega)
    have hf : (pd n can dn w k).1 ≠ 2 ^ n - 1 := fun z => by
      have := (cf_1 hn z1).mpr z
      omega
    obtain ⟨y1, y2, y3⟩ := pj_ok hn z1 hw z4 hf
    have y1' : pj n can dn w (pd n can dn w k) < n := y1
    rw [pd]
    exact ⟨(bf_4 hn z1 y1).1, by have := hd2 _ y1'; show dn (pj n can dn w (pd n can dn w k)) < 3; omega, by show cn n (ob _ _) = _; rw [cf_2 hn z1 y1 (hc _ _ y2), z3], y3⟩
theorem path_X {n : Nat} {rs : Nat → Nat → Int32} {dn : Nat → Nat} {w : Nat → Nat → Nat} (hn : n < 6) (hd2 : ∀ i, i < n → dn i < 2) (hw : SPW n (canB rs) dn w) (h0 : w 0 2 ≠ 99) : ∀ (m k fu : Nat) (S : St), k + m = n → m < fu → PX n rs dn S → TX n w S 0 → gi S 15 5 = nI n → ∃ S', lq4 fX5_plan_L129 fu (nI (pd n (canB rs) dn w k).1) (nI (pd n (canB rs) dn w k).2) (nI k) S = some S' ∧ (∀ i, k ≤ i → i < n → gi S' 19 i = nI (pj n (canB rs) dn w (pd n (canB rs) dn w i))) ∧ ∀ k' j, k' ≠ 19 ∨ j < k → gi S' k' j = gi S k' j := by
  have h32 := bf_5 hn
  intro m
  induction m with
  | zero =>
    intro k fu S hk hf hP hT h15
    obtain ⟨fu, rfl⟩ : ∃ q, fu = q + 1 := ⟨fu - 1, by omega⟩
    refine ⟨S, ?_, fun i h1 h2 => by omega, fun _ _ _ => rfl⟩
    rw [lq4_1, fX5_plan_L129, h15, if_pos (nI_le (by omega) (by omega))]
  | succ m ih =>
    intro k fu S hk hf hP hT h15
    obtain ⟨fu, rfl⟩ : ∃ q, fu = q + 1 := ⟨fu - 1, by omega⟩
    obtain ⟨z1, z2, z3, z4⟩ := pd_ok hn canB_b hd2 hw h0 k (by omega)
    have hfull : (pd n (canB rs) dn w k).1 ≠ 2 ^ n - 1 := fun z => by
      have := (cf_1 hn z1).mpr z
      omega
    obtain ⟨y1, y2, y3⟩ := pj_ok hn z1 hw z4 hfull
    have y1 : pj n (canB rs) dn w (pd n (canB rs) dn w k) < n := y1
    have hb := best_X hn z1 z2 hd2 canB_b hP.1 hP.2.1 (hP.2.2 _ z1) (fun e h1 h2 b hb => hT e (by omega) h2 b hb) (spw_b90 hn canB_b hw)
    have e : enc (bix (cst w (canB rs) dn (pd n (canB rs) dn w k).1 (pd n (canB rs) dn w k).2) n) = nI (pj n (canB rs) dn w (pd n (canB rs) dn w k)) := by
      have y1' : bix (cst w (canB rs) dn (pd n (canB rs) dn w k).1 (pd n (canB rs) dn w k).2) n < n := y1
      unfold enc
      rw [if_neg (by omega)]
      rfl
    rw [e] at hb
    obtain ⟨S', w1, w2, w3⟩ := ih (k + 1) fu (si S 19 k (nI (pj n (canB rs) dn w (pd n (canB rs) dn w k)))) (by omega) (by omega) (hP.keep (gi_ne (by decide)) (fun j => gi_ne (by decide)) (fun j => gi_ne (by decide))) (fun e h1 h2 b hb => by rw [gi_ne (by decide)]; exact hT e h1 h2 b hb) (by rw [gi_ne (by decide)]; exact h15)
    refine ⟨S', ?_, fun i h1 h2 => ?_, fun k' j h => ?_⟩
    · rw [lq4_1, fX5_plan_L129, h15, if_neg (nI_ge (by omega) (by omega)), hb]
      simp only [bn1_s]
      rw [if_neg (fun z => by
        have h2 := nI_toInt (show pj n (canB rs) dn w (pd n (canB rs) dn w k) < 2 ^ 31 by omega)
        rw [z, show (-1 : Int32).toInt = -1 from rfl] at h2
        omega), gd_t (inb_nI (show k < 5 by omega) (by omega)), nI_clamp (n := k) (by omega), bf_2 (by omega) (by omega)]
      simp only [bv, gd_t (inb_nI (show pj n (canB rs) dn w (pd n (canB rs) dn w k) < 5 by omega) (by omega)), nI_clamp (show pj n (canB rs) dn w (pd n (canB rs) dn w k) < 2 ^ 31 by omega), gi_ne (show (18 : Nat) ≠ 19 by decide), hP.2.1 _ y1, nI_1]
      exact w1
    · by_cases q : i = k
      · subst q
        rw [w3 _ _ (by omega), gi_eq]
      · exact w2 i (by omega) h2
    · rw [w3 k' j (by omega), gi_if, if_neg (by omega)]
theorem plan_X {S : St} {k1 k2 n : Nat} {L Dr : Nat → Int32} {dn : Nat → Nat} {rs : Nat → Nat → Int32} {w : Nat → Nat → Nat} (hn : n < 6) (hk1 : 29 ≤ k1) (hS : gi S (k1 + 1) 2 = nI (n + 1)) (hD : DrX (n + 1) S (k1 + 1) L Dr) (hH : HX S k1 k2 n rs) (hdr : ∀ i, i < n → Dr i = nI (dn i)) (hd2 : ∀ i, i < n → dn i < 2) (hw : SPW n (canB rs) dn w) : ∃ S', fX5_plan S k1 k2 = some S' ∧ gi S' 15 6 = enc (w 0 2) ∧ gi S' 15 5 = (if w 0 2 = 99 then 0 else nI n) ∧ (w 0 2 ≠ 99 → ∀ i, i < n → gi S' 19 i = nI (pj n (canB rs) dn w (pd n (canB rs) dn w i))) ∧ scrX S S' := by
  have h32 := bf_5 hn
  obtain ⟨S1, x1, ⟨x2, x3, x4⟩, x5⟩ := look_eq hn hk1 hS hD hH
  have hP1 : PX n rs dn S1 := ⟨x2, fun i hi => by rw [x3 i hi]; exact hdr i hi, x4⟩
  obtain ⟨S2, y1, y2, y3⟩ := tab_17 hn hd2 hw (2 ^ n - 1) 200 S1 (by omega) (by omega) hP1 (fun e h1 h2 => by omega)
  have e02 : gi S2 17 2 = enc (w 0 2) := y2 0 (by omega) (by omega) 2 (by omega)
  have hs2 : scrX S S2 := x5.tr (fun k j hk => y3 k j (by omega))
  have hbd := spw_b90 hn canB_b hw 0 2 h32.2
  by_cases q : w 0 2 = 99
  · refine ⟨si (si S2 15 6 (enc (w 0 2))) 15 5 0, ?_, by rw [gi_nj (by decide), gi_eq], by rw [gi_eq, if_pos q], fun z => absurd q z, (hs2.tr (scrX_i (by omega))).tr (scrX_i (by omega))⟩
    unfold fX5_plan
    rw [x1]
    simp only [bn1_s, bv]
    rw [x2, bf_3 hn, nI_sub1 h32.2, y1]
    simp only [bn1_s]
    rw [gd_t (by decide), show (2 : Int32).toNatClampNeg = 2 from rfl, e02, gi_eq, if_pos ((enc_1 (by omega)).mpr q)]
    simp only [bn1_s]
    rw [show (200 : Nat) = 199 + 1 from rfl, lq4_1, fX5_plan_L129, gi_eq, if_pos (by decide)]
  · have hP3 : PX n rs dn (si (si S2 15 6 (enc (w 0 2))) 15 5 (nI n)) := hP1.keep (by rw [gi_nj (by decide), gi_nj (by decide), y3 _ _ (by decide)]) (fun j => by rw [gi_ne (by decide), gi_ne (by decide), y3 _ _ (by decide)]) (fun j => by rw [gi_ne (by decide), gi_ne (by decide), y3 _ _ (by decide)])
    obtain ⟨S3, z1, z2, z3⟩ := path_X hn hd2 hw q n 0 200 (si (si S2 15 6 (enc (w 0 2))) 15 5 (nI n)) (by omega) (by omega) hP3 (fun e h1 h2 b hb => by rw [gi_ne (by decide), gi_ne (by decide)]; exact y2 e h1 h2 b hb) gi_eq
    refine ⟨S3, ?_, by rw [z3 _ _ (by omega), gi_nj (by decide), gi_eq], by rw [z3 _ _ (by omega), gi_eq, if_neg q], fun _ i hi => z2 i (by omega) hi, ((hs2.tr (scrX_i (by omega))).tr (scrX_i (by omega))).tr (fun k j hk => z3 k j (by omega))⟩
    unfold fX5_plan
    rw [x1]
    simp only [bn1_s, bv]
    rw [x2, bf_3 hn, nI_sub1 h32.2, y1]
    simp only [bn1_s]
    rw [gd_t (by decide), show (2 : Int32).toNatClampNeg = 2 from rfl, e02, gi_eq, if_neg (fun z => q ((enc_1 (by omega)).mp z)), gi_nj (by decide), y3 _ _ (by decide), x2]
    simp only [bn1_s]
    exact z1
