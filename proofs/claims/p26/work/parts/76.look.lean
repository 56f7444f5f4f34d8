/-! ===== sets of bends; what the class's planner looks up ===== -/
def bt (d i : Nat) : Bool := d.testBit i
def ob (d i : Nat) : Nat := d ||| (1 <<< i)
theorem bf_1 {d i : Nat} (hd : d < 32) (hi : i < 5) : ((nI d >>> (nI i &&& 31)) &&& 1) = bI (bt d i) := (by decide +kernel : ∀ d, d < 32 → ∀ i, i < 5 → ((nI d >>> (nI i &&& 31)) &&& 1) = bI (bt d i)) d hd i hi
theorem bf_2 {d i : Nat} (hd : d < 32) (hi : i < 5) : nI d ||| ((1 : Int32) <<< (nI i &&& 31)) = nI (ob d i) := (by decide +kernel : ∀ d, d < 32 → ∀ i, i < 5 → nI d ||| ((1 : Int32) <<< (nI i &&& 31)) = nI (ob d i)) d hd i hi
theorem bf_3 {n : Nat} (hn : n < 6) : (1 : Int32) <<< (nI n &&& 31) = nI (2 ^ n) := (by decide +kernel : ∀ n, n < 6 → (1 : Int32) <<< (nI n &&& 31) = nI (2 ^ n)) n hn
theorem bf_4 {n d i : Nat} (hn : n < 6) (hd : d < 2 ^ n) (hi : i < n) : ob d i < 2 ^ n ∧ (bt d i = false → d < ob d i) := (by decide +kernel : ∀ n, n < 6 → ∀ d, d < 2 ^ n → ∀ i, i < n → ob d i < 2 ^ n ∧ (bt d i = false → d < ob d i)) n hn d hd i hi
theorem bf_5 {n : Nat} (hn : n < 6) : 2 ^ n ≤ 32 ∧ 0 < 2 ^ n := (by decide +kernel : ∀ n, n < 6 → 2 ^ n ≤ 32 ∧ 0 < 2 ^ n) n hn
theorem bf_6 {m i j : Nat} (hm : m < 32) (hi : i < 5) (hj : j < 5) : bt (ob m i) j = (bt m j || decide (i = j)) ∧ ob m i < 32 := (by decide +kernel : ∀ m, m < 32 → ∀ i, i < 5 → ∀ j, j < 5 → bt (ob m i) j = (bt m j || decide (i = j)) ∧ ob m i < 32) m hm i hi j hj
theorem bf_7 {n i : Nat} (hn : n < 6) (hi : i < n) : bt (2 ^ n - 1) i = true := (by decide +kernel : ∀ n, n < 6 → ∀ i, i < n → bt (2 ^ n - 1) i = true) n hn i hi
theorem hasBit_N {d i : Nat} (hd : d < 32) (hi : i < 5) : fX8_hasBit (nI d) (nI i) = some (bI (bt d i)) := by
  unfold fX8_hasBit
  rw [bf_1 hd hi]
  cases bt d i <;> rfl
/-- the bits below i of what can be bent -/
def mkb (c : Nat → Bool) : Nat → Nat
  | 0 => 0
  | i + 1 => if c i then ob (mkb c i) i else mkb c i
theorem mkb_lt {c : Nat → Bool} : ∀ i, i ≤ 5 → mkb c i < 32 := by
  intro i
  induction i with
  | zero => intro _; exact (by decide : 0 < 32)
  | succ i ih =>
    intro h
    rw [mkb]
    split
    · exact (bf_6 (ih (by omega)) (show i < 5 by omega) (show 0 < 5 by omega)).2
    · exact ih (by omega)
theorem mkb_bt {c : Nat → Bool} {j : Nat} (hj : j < 5) : ∀ i, i ≤ 5 → bt (mkb c i) j = (c j && decide (j < i)) := by
  intro i
  induction i with
  | zero =>
    intro _
    rw [mkb, decide_eq_false (Nat.not_lt_zero j), Bool.and_false]
    exact (by decide +kernel : ∀ j, j < 5 → bt 0 j = false) j hj
  | succ i ih =>
    intro h
    have hi := ih (by omega)
    rw [mkb]
    by_cases q : j = i
    · subst q
      have e1 : decide (j < j) = false := decide_eq_false (Nat.lt_irrefl j)
      have e2 : decide (j < j + 1) = true := decide_eq_true (Nat.lt_succ_self j)
      rw [e1, Bool.and_false] at hi
      rw [e2, Bool.and_true]
      cases hc : c j
      · rw [if_neg (by decide), hi]
      · rw [if_pos rfl, (bf_6 (mkb_lt j (by omega)) hj hj).1, hi, decide_eq_true rfl]
        rfl
    · have e1 : decide (j < i + 1) = decide (j < i) := decide_eq_decide.mpr (by omega)
      rw [e1, ← hi]
      split
      · rw [(bf_6 (mkb_lt i (by omega)) (show i < 5 by omega) hj).1, decide_eq_false (fun z => q z.symm), Bool.or_false]
      · rfl
/-- what both planners ask of a bend -/
def canB (rs : Nat → Nat → Int32) (d i : Nat) : Bool := !bt d i && decide (rs d i = 0)
/-- the class's reasons, whatever its scratch cells hold -/
def HX (S : St) (k1 k2 n : Nat) (rs : Nat → Nat → Int32) : Prop := ∀ S1, scrX S S1 → ∀ d, d < 2 ^ n → ∀ i, i < n → bt d i = false → ∃ S2, fX1_reason S1 k1 k2 (nI d) (nI i) = some (rs d i, S2) ∧ ∀ k j, k < 9 ∨ 14 < k → gi S2 k j = gi S1 k j
theorem look_70 {S0 : St} {k1 k2 n d : Nat} {rs : Nat → Nat → Int32} (hn : n < 6) (hd : d < 2 ^ n) (hH : HX S0 k1 k2 n rs) : ∀ (m i fu : Nat) (S : St), i + m = n → m < fu → scrX S0 S → gi S 15 3 = nI n → gi S 16 d = nI (mkb (canB rs d) i) → ∃ S', lq2 (fX5_look_L70 (nI d) k1 k2) fu (nI i) S = some S' ∧ gi S' 16 d = nI (mkb (canB rs d) n) ∧ ∀ k j, (k < 9 ∨ 14 < k) → (k = 16 → j ≠ d) → gi S' k j = gi S k j := by
  have hd32 : d < 32 := by have := (bf_5 hn).1; omega
  intro m
  induction m with
  | zero =>
    intro i fu S hi hf hS h15 h16
    obtain ⟨fu, rfl⟩ : ∃ q, fu = q + 1 := ⟨fu - 1, by omega⟩
    obtain rfl : i = n := by omega
    refine ⟨S, ?_, h16, fun _ _ _ _ => rfl⟩
    rw [lq2_1, fX5_look_L70, h15, if_pos (nI_le (by omega) (by omega))]
  | succ m ih =>
    intro i fu S hi hf hS h15 h16
    obtain ⟨fu, rfl⟩ : ∃ q, fu = q + 1 := ⟨fu - 1, by omega⟩
    rw [lq2_1, fX5_look_L70, h15, if_neg (nI_ge (by omega) (by omega)), hasBit_N hd32 (by omega)]
    simp only [bn1_s]
    cases hb : bt d i
    · -- not bent yet
      obtain ⟨S2, e1, e2⟩ := hH S hS d hd i (by omega) hb
      rw [if_pos (by decide), e1]
      simp only [bn2_s]
      have hS2 : scrX S0 S2 := hS.tr (fun k j hk => e2 k j (by omega))
      by_cases q : rs d i = 0
      · have hc : canB rs d i = true := by unfold canB; rw [hb, decide_eq_true q]; rfl
        obtain ⟨S', w1, w2, w3⟩ := ih (i + 1) fu (si S2 16 d (nI (ob (mkb (canB rs d) i) i))) (by omega) (by omega) (hS2.tr (scrX_i (by omega))) (by rw [gi_ne (by decide), e2 _ _ (by omega)]; exact h15) (by rw [gi_eq, mkb, hc, if_pos rfl])
        refine ⟨S', ?_, w2, fun k j hk hj => by rw [w3 k j hk hj, gi_if, if_neg (by omega), e2 k j hk]⟩
        rw [if_pos q, gd_t (inb_nI (show d < 32 by omega) (by omega)), gd_t (inb_nI (show d < 32 by omega) (by omega)), nI_clamp (n := d) (by omega), e2 16 d (by omega), h16, bf_2 (mkb_lt i (by omega)) (by omega)]
        simp only [bv, bn1_s, nI_1]
        exact w1
      · have hc : canB rs d i = false := by unfold canB; rw [decide_eq_false q, Bool.and_false]
        obtain ⟨S', w1, w2, w3⟩ := ih (i + 1) fu S2 (by omega) (by omega) hS2 (by rw [e2 _ _ (by omega)]; exact h15) (by rw [e2 _ _ (by omega), mkb, hc, if_neg (by decide)]; exact h16)
        refine ⟨S', ?_, w2, fun k j hk hj => by rw [w3 k j hk hj, e2 k j hk]⟩
        rw [if_neg q]
        simp only [bv, bn1_s, nI_1]
        exact w1
    · have hc : canB rs d i = false := by unfold canB; rw [hb]; rfl
      obtain ⟨S', w1, w2, w3⟩ := ih (i + 1) fu S (by omega) (by omega) hS h15 (by rw [mkb, hc, if_neg (by decide)]; exact h16)
      refine ⟨S', ?_, w2, w3⟩
      rw [if_neg (by decide)]
      simp only [bv, bn1_s, nI_1]
      exact w1
theorem look_48 {S0 : St} {k1 k2 n : Nat} {rs : Nat → Nat → Int32} (hn : n < 6) (hH : HX S0 k1 k2 n rs) : ∀ (m d fu : Nat) (S : St), d + m = 2 ^ n → m < fu → scrX S0 S → gi S 15 3 = nI n → ∃ S', lq2 (fX5_look_L48 k1 k2) fu (nI d) S = some S' ∧ (∀ e, d ≤ e → e < 2 ^ n → gi S' 16 e = nI (mkb (canB rs e) n)) ∧ ∀ k j, (k < 9 ∨ 14 < k) → (k = 16 → j < d) → gi S' k j = gi S k j := by
  have h32 := (bf_5 hn).1
  intro m
  induction m with
  | zero =>
    intro d fu S hi hf hS h15
    obtain ⟨fu, rfl⟩ : ∃ q, fu = q + 1 := ⟨fu - 1, by omega⟩
    refine ⟨S, ?_, fun e h1 h2 => by omega, fun _ _ _ _ => rfl⟩
    rw [lq2_1, fX5_look_L48, h15, bf_3 hn, if_pos (nI_le (by omega) (by omega))]
  | succ m ih =>
    intro d fu S hi hf hS h15
    obtain ⟨fu, rfl⟩ : ∃ q, fu = q + 1 := ⟨fu - 1, by omega⟩
    obtain ⟨S1, x1, x2, x3⟩ := look_70 hn (show d < 2 ^ n by omega) hH n 0 200 (si S 16 d 0) (by omega) (by omega) (hS.tr (scrX_i (by omega))) (by rw [gi_ne (by decide)]; exact h15) (by rw [gi_eq]; rfl)
    rw [nI_0] at x1
    have hS1 : scrX S0 S1 := hS.tr (fun k j hk => by
      rw [x3 k j (by omega) (by omega), gi_ne (by omega)])
    obtain ⟨S', w1, w2, w3⟩ := ih (d + 1) fu S1 (by omega) (by omega) hS1 (by rw [x3 _ _ (by omega) (by omega), gi_ne (by decide)]; exact h15)
    refine ⟨S', ?_, fun e h1 h2 => ?_, fun k j hk hj => ?_⟩
    · rw [lq2_1, fX5_look_L48, h15, bf_3 hn, if_neg (nI_ge (by omega) (by omega)), gd_t (inb_nI (by omega) (by omega)), nI_clamp (n := d) (by omega)]
      simp only [bv, x1, bn1_s, nI_1]
      exact w1
    · by_cases q : e = d
      · subst q
        rw [w3 _ _ (by omega) (by omega)]
        exact x2
      · exact w2 e (by omega) h2
    · rw [w3 k j hk (by omega), x3 k j hk (by omega), gi_if, if_neg (by omega)]
theorem look_14 {k1 n : Nat} {L Dr : Nat → Int32} (hn : n < 6) (hk1 : 29 ≤ k1) : ∀ (m i fu : Nat) (S : St), i + m = n → m < fu → gi S 15 3 = nI n → DrX (n + 1) S (k1 + 1) L Dr → ∃ S', lq2 (fX5_look_L14 k1) fu (nI i) S = some S' ∧ (∀ e, i ≤ e → e < n → gi S' 18 e = Dr e) ∧ ∀ k j, k ≠ 18 ∨ j < i → gi S' k j = gi S k j := by
  intro m
  induction m with
  | zero =>
    intro i fu S hi hf h15 hD
    obtain ⟨fu, rfl⟩ : ∃ q, fu = q + 1 := ⟨fu - 1, by omega⟩
    refine ⟨S, ?_, fun e h1 h2 => by omega, fun _ _ _ => rfl⟩
    rw [lq2_1, fX5_look_L14, h15, if_pos (nI_le (by omega) (by omega))]
  | succ m ih =>
    intro i fu S hi hf h15 hD
    obtain ⟨fu, rfl⟩ : ∃ q, fu = q + 1 := ⟨fu - 1, by omega⟩
    have dB : fX2_directionOf S (k1 + 1) (nI i) = some (Dr i) := by
      unfold fX2_directionOf
      rw [nI_1, gd_t (inb_nI (by omega) (by omega)), nI_clamp (by omega), hD.2 i (by omega)]
    obtain ⟨S', w1, w2, w3⟩ := ih (i + 1) fu (si S 18 i (Dr i)) (by omega) (by omega) (by rw [gi_ne (by decide)]; exact h15) ⟨fun j hj => by rw [gi_ne (by omega)]; exact hD.1 j hj, fun j hj => by rw [gi_ne (by omega)]; exact hD.2 j hj⟩
    refine ⟨S', ?_, fun e h1 h2 => ?_, fun k j hk => ?_⟩
    · rw [lq2_1, fX5_look_L14, h15, if_neg (nI_ge (by omega) (by omega)), dB]
      simp only [bn1_s, gd_t (inb_nI (show i < 5 by omega) (by omega)), nI_clamp (show i < 2 ^ 31 by omega), bv, nI_1]
      exact w1
    · by_cases q : e = i
      · subst q
        rw [w3 _ _ (by omega), gi_eq]
      · exact w2 e (by omega) h2
    · rw [w3 k j (by omega), gi_if, if_neg (by omega)]
/-- the planner has looked -/
def LK (n : Nat) (rs : Nat → Nat → Int32) (Dr : Nat → Int32) (S : St) : Prop := gi S 15 3 = nI n ∧ (∀ i, i < n → gi S 18 i = Dr i) ∧ ∀ d, d < 2 ^ n → gi S 16 d = nI (mkb (canB rs d) n)
theorem look_eq {S : St} {k1 k2 n : Nat} {L Dr : Nat → Int32} {rs : Nat → Nat → Int32} (hn : n < 6) (hk1 : 29 ≤ k1) (hS : gi S (k1 + 1) 2 = nI (n + 1)) (hD : DrX (n + 1) S (k1 + 1) L Dr) (hH : HX S k1 k2 n rs) : ∃ S', fX5_look S k1 k2 = some S' ∧ LK n rs Dr S' ∧ scrX S S' := by
  obtain ⟨S1, x1, x2, x3⟩ := look_14 (L := L) (Dr := Dr) hn hk1 n 0 200 (si S 15 3 (nI n)) (by omega) (by omega) gi_eq ⟨fun j hj => by rw [gi_ne (by omega)]; exact hD.1 j hj, fun j hj => by rw [gi_ne (by omega)]; exact hD.2 j hj⟩
  have h1 : gi S1 15 3 = nI n := by rw [x3 _ _ (by omega), gi_eq]
  have hs1 : scrX S S1 := fun k j hk => by rw [x3 k j (by omega), gi_ne (by omega)]
  obtain ⟨S2, y1, y2, y3⟩ := look_48 hn hH (2 ^ n) 0 200 S1 (by omega) (by have := (bf_5 hn).1; omega) hs1 h1
  rw [nI_0] at x1 y1
  refine ⟨S2, ?_, ⟨by rw [y3 _ _ (by omega) (by omega)]; exact h1, fun i hi => by rw [y3 _ _ (by omega) (by omega)]; exact x2 i (by omega) hi, fun d hd => y2 d (by omega) hd⟩, hs1.tr (fun k j hk => y3 k j (by omega) (by omega))⟩
  unfold fX5_look
  rw [bends_eq hS (by omega) (by omega), Nat.add_sub_cancel]
  simp only [bn1_s, bv, x1, y1]
