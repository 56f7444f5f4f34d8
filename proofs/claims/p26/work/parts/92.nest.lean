/-! ===== nest ===== -/
theorem sumN_mem {q : Nat → Nat} {p : Nat} : ∀ n, p < n → q p ≤ sumN q n := by
  intro n
  induction n with
  | zero => intro h; omega
  | succ n ih =>
    intro h
    rw [sumN]
    by_cases y : p = n
    · subst y; omega
    · have := ih (by omega); omega
theorem least_N {p : Nat → Prop} (n : Nat) : p n → ∃ m, m ≤ n ∧ p m ∧ ∀ k, k < m → ¬ p k :=
  Nat.strongRecOn n (fun n ih h => by
    rcases Classical.em (∃ k, k < n ∧ p k) with ⟨k, k1, k2⟩ | z
    · obtain ⟨m, m1, m2, m3⟩ := ih k k1 k2
      exact ⟨m, by omega, m2, m3⟩
    · exact ⟨n, Nat.le_refl n, h, fun k hk hp => z ⟨k, hk, hp⟩⟩)
theorem zero_M : ∀ (n k m : Nat) (M : St), k + n = 8 → n < m → (∀ x, x < k → gi M 27 x = 0) → ∃ M', lq2 fX9_nest_L94 m (nI k) M = some M' ∧ (∀ x, x < 8 → gi M' 27 x = 0) ∧ ∀ k' j, k' ≠ 27 → gi M' k' j = gi M k' j := by
  intro n
  induction n with
  | zero =>
    intro k m M hk hm h
    obtain ⟨m, rfl⟩ : ∃ q, m = q + 1 := ⟨m - 1, by omega⟩
    refine ⟨M, ?_, fun x hx => h x (by omega), fun _ _ _ => rfl⟩
    rw [lq2_1, fX9_nest_L94, if_pos (show (8 : Int32) ≤ nI k from nI_le (a := 8) (by omega) (by omega))]
  | succ n ih =>
    intro k m M hk hm h
    obtain ⟨m, rfl⟩ : ∃ q, m = q + 1 := ⟨m - 1, by omega⟩
    obtain ⟨M', x1, x2, x3⟩ := ih (k + 1) m (si M 27 k 0) (by omega) (by omega) (fun x hx => by
      by_cases y : x = k
      · subst y; exact gi_eq
      · rw [gi_nj y]; exact h x (by omega))
    refine ⟨M', ?_, x2, fun k' j hk' => by rw [x3 k' j hk', gi_ne hk']⟩
    rw [lq2_1, fX9_nest_L94, if_neg (show ¬ (8 : Int32) ≤ nI k from nI_ge (b := 8) (by omega) (by omega)), gd_t (inb_nI (by omega) (by omega)), nI_clamp (n := k) (by omega)]
    simp only [bv, nI_1]
    exact x1
/-- what a nest's numbers keep: sheets, rows, the area that pieces cover -/
def VP (all wide : Int32) (V : Int32 → Int64) : Prop := V 0 = -1 ∨ ∃ (H R : Nat) (u : Int64), H ≤ R ∧ R ≤ 40 ∧ 0 ≤ u.toInt ∧ u.toInt ≤ 57600000 ∧ V 0 = Int32.toInt64 (nI H) ∧ V 1 = Int32.toInt64 (nI R) ∧ V 3 = ((Int32.toInt64 (nI H)) * (Int32.toInt64 all)) * (Int32.toInt64 wide) - u
theorem nest_eq {P T B F t : Nat} {S M : St} {all wide : Int32} (hN : RelN P T B F S M) (ht : t < T) : ∃ (V : Int32 → Int64) (S' M' : St),
    (∀ what, bn1 (fX3_start S all wide) (fun S9 => bn1 (lq2 (fX8_nest_L68 (85 + 2 * t)) 200 (0 : Int32) S9) (fun S13 => bn1 (fX3_doAllFit S13) (fun v14 => if v14 = 0 then some ((Sum.inr (-1 : Int64) : String ⊕ Int64), S13) else bn1 (fX3_layAll S13) (fun S16 => bn1 (fX3_tell S16 what) (fun w17 => some (Sum.inr w17, S16)))))) = some (Sum.inr (V what), S')) ∧
    (∀ what, bn1 (lq2 fX9_nest_L94 200 (0 : Int32) (si (si (si M 0 0 0) 0 38 0) 0 40 0)) (fun S15 => bn1 (fX9_nextPiece S15 (nI t)) (fun v20 => lq4 (fX9_nest_L128 what all wide (nI t)) 200 (0 : Int64) (0 : Int64) v20 S15)) = some (V what, M')) ∧ gi M' 0 0 = 0 ∧ scrX S S' ∧ scrM M M' ∧ VP all wide V := by
  obtain ⟨b, wd, q, hb, hsum, hX, hM⟩ := hN.nx ht
  have hP : P ≤ 8 := hN.1.1.1
  have hq40 : ∀ p, p < P → q p ≤ 40 := fun p hp => by have := sumN_mem (q := q) P hp; omega
  -- the class begins
  obtain ⟨S9, hS9, x9, i0, i1, i5, i10, i12, l13, l14⟩ : ∃ S9, fX3_start S all wide = some S9 ∧ scrX S S9 ∧ gi S9 20 0 = all ∧ gi S9 20 1 = wide ∧ gi S9 20 5 = 0 ∧ gi S9 20 10 = 0 ∧ gi S9 20 12 = 0 ∧ gl S9 20 13 = 0 ∧ gl S9 20 14 = 0 := by
    refine ⟨_, rfl, fun k j h => ?_, ?_, ?_, ?_, ?_, ?_, ?_, gl_eq⟩
    · rw [gi_sl, gi_sl, gi_ne (by omega), gi_ne (by omega), gi_ne (by omega), gi_ne (by omega), gi_ne (by omega)]
    · rw [gi_sl, gi_sl, gi_nj (by decide), gi_nj (by decide), gi_nj (by decide), gi_nj (by decide), gi_eq]
    · rw [gi_sl, gi_sl, gi_nj (by decide), gi_nj (by decide), gi_nj (by decide), gi_eq]
    · rw [gi_sl, gi_sl, gi_nj (by decide), gi_nj (by decide), gi_eq]
    · rw [gi_sl, gi_sl, gi_nj (by decide), gi_eq]
    · rw [gi_sl, gi_sl, gi_eq]
    · rw [gl_nj (by decide), gl_eq]
  have hKD0 : KD b wd q 0 0 (fun x => x) S9 := ⟨Nat.le_refl 0, by rw [i5, nI_0], fun k h => absurd h (Nat.not_lt_zero k), fun k h => absurd h (Nat.not_lt_zero k), fun k k' _ h => absurd h (Nat.not_lt_zero k'), fun p h => absurd h (Nat.not_lt_zero p)⟩
  obtain ⟨K, s, S13, f1, hK, f3, f4⟩ := fill_X hP hb hq40 hX P 0 200 0 (fun x => x) S9 (by omega) (by omega) x9 hKD0
  rw [nI_0] at f1
  have x13 : scrX S S13 := fun k j h => by rw [f3 k j (by omega) (by omega)]; exact x9 k j h
  have j0 : gi S13 20 0 = all := by rw [f3 _ _ (by omega) (by omega)]; exact i0
  have j1 : gi S13 20 1 = wide := by rw [f3 _ _ (by omega) (by omega)]; exact i1
  have hKS : KS b wd q P K s := ⟨hK.1, hK.2.2.2.1, hK.2.2.2.2.1, hK.2.2.2.2.2⟩
  have hKA : KA b wd q K s S13 := ⟨hK.2.1, hK.2.2.1⟩
  have hK8 : K ≤ 8 := by have := hK.1; omega
  have hL0 : LAP q P K s 0 0 (fun _ => 0) := ⟨fun x h => absurd h (Nat.not_lt_zero x), fun _ => rfl, fun _ _ _ => rfl, fun _ _ => Nat.zero_le _⟩
  -- the reference begins
  obtain ⟨M15, z1, z2, z3⟩ := zero_M 8 0 200 (si (si (si M 0 0 0) 0 38 0) 0 40 0) (by omega) (by omega) (fun x h => absurd h (Nat.not_lt_zero x))
  rw [nI_0] at z1
  have sM : scrM M M15 := ((scrM_t (k := 0)).tr ((scrM_i (j := 38) (v := 0) (Or.inr ⟨rfl, Or.inr (by decide)⟩)).tr (scrM_i (j := 40) (v := 0) (Or.inr ⟨rfl, Or.inr (by decide)⟩)))).tr (fun k j _ h2 => z3 k j (by omega))
  have hLM : LM P (fun _ => 0) M M15 := ⟨sM, by rw [z3 _ _ (by decide), gi_nj (by decide), gi_nj (by decide), gi_eq], fun p hp => by rw [z2 p (by omega), nI_0]⟩
  have hnx := next_M hP hb (fun p hp => ⟨hq40 p hp, Nat.zero_le 40⟩) (hM M15 sM) hLM.2.2
  have hNS : NS all wide (sumN (fun _ => 0) P) 0 0 S13 M15 := by
    rw [sumN_0 (fun _ => rfl)]
    refine ⟨0, 0, ⟨Nat.le_refl 0, Nat.le_refl 0⟩, ⟨?_, ?_⟩, ⟨?_, ?_⟩, ⟨j0, j1⟩, fun i hi => absurd hi (Nat.not_lt_zero i), fun i hi => absurd hi (Nat.not_lt_zero i), ?_, ?_⟩
    · rw [f3 _ _ (by omega) (by omega), nI_0]; exact i10
    · rw [z3 _ _ (by decide), gi_eq, nI_0]
    · rw [f3 _ _ (by omega) (by omega), nI_0]; exact i12
    · rw [z3 _ _ (by decide), gi_nj (by decide), gi_eq, nI_0]
    · rw [f4]; exact l13
    · exact ⟨by rw [f4]; exact l14, by decide, by decide⟩
  rcases fit_X hP hK j0 j1 with ⟨hfit, hd⟩ | ⟨⟨k0, hk0, hbad0⟩, hd⟩
  · -- all kinds fit
    obtain ⟨la', S', M', w1, w2, R, y1, y2, y3, y4, y5, y6, y7, y8⟩ := outer_W hP hb hsum hM hKS (Nat.le_refl K) hfit K 0 (fun _ => 0) 0 0 S13 M15 (by omega) hL0 hKA hNS hLM
    have hR : R ≤ 40 := by
      have h1 := sumN_le P y3.2.2.2
      rw [y4] at h1
      omega
    have h2 : lq2 fX3_layAll_L2 ((199 - K) + 1) (nI K) S' = some S' := by
      rw [lq2_1, fX3_layAll_L2, y5.1, if_pos (nI_le (by omega) (by omega))]
    have h1 := y1 ((199 - K) + 1)
    rw [h2, show (199 - K) + 1 + K = 200 by omega, nI_0] at h1
    have hlay : fX3_layAll S13 = some S' := by
      unfold fX3_layAll
      rw [h1]; rfl
    have h3 := fun what => y2 what ((199 - R) + 1)
    simp only [show (199 - R) + 1 + R = 200 by omega] at h3
    simp only [pick_0 hP hKS y3, show enc 99 = -1 from rfl] at h3
    obtain ⟨R', H, ⟨r1, r2⟩, ⟨a1, a2⟩, ⟨b1, b2⟩, ⟨d1, d2⟩, -, -, g1, g2, g3, g4⟩ := y6
    obtain ⟨V, hV⟩ : ∃ V : Int32 → Int64, V = fun what => if what = 0 then Int32.toInt64 (nI H) else if what = 1 then Int32.toInt64 (nI R') else if what = 2 then w1 else ((Int32.toInt64 (nI H)) * (Int32.toInt64 all)) * (Int32.toInt64 wide) - w2 := ⟨_, rfl⟩
    have hT : ∀ what, fX3_tell S' what = some (V what) ∧ lq4 (fX9_nest_L128 what all wide (nI t)) ((199 - R) + 1) w1 w2 (-1) M' = some (V what, M') := fun what => by
      rw [lq4_1, fX9_nest_L128, if_pos (show (-1 : Int32) = -1 from rfl), a2, b2, hV]
      unfold fX3_tell
      rw [a1, b1, g1, g2, d1, d2]
      dsimp only
      by_cases q0 : what = 0
      · rw [if_pos q0, if_pos q0, if_pos q0]; exact ⟨rfl, rfl⟩
      · rw [if_neg q0, if_neg q0, if_neg q0]
        by_cases q1 : what = 1
        · rw [if_pos q1, if_pos q1, if_pos q1]; exact ⟨rfl, rfl⟩
        · rw [if_neg q1, if_neg q1, if_neg q1]
          by_cases q2 : what = 2
          · rw [if_pos q2, if_pos q2, if_pos q2]; exact ⟨rfl, rfl⟩
          · rw [if_neg q2, if_neg q2, if_neg q2]; exact ⟨rfl, rfl⟩
    have hz0 : sumN (fun _ => 0) P = 0 := sumN_0 (fun _ => rfl) P
    refine ⟨V, S', M', fun what => ?_, fun what => ?_, y7.2.1, fun k j h => by rw [y8 k j (by omega)]; exact x13 k j h, y7.1, Or.inr ⟨H, R', w2, r2, by omega, g3, by omega, by rw [hV]; rfl, by rw [hV]; rfl, by rw [hV]; rfl⟩⟩
    · obtain ⟨t1, t2⟩ := hT what
      rw [hS9]
      simp only [bn1_s]
      rw [f1]
      simp only [bn1_s]
      rw [hd]
      simp only [bn1_s]
      rw [if_neg (show ¬ (1 : Int32) = 0 by decide), hlay]
      simp only [bn1_s, t1]
    · obtain ⟨t1, t2⟩ := hT what
      rw [z1]
      simp only [bn1_s]
      rw [hnx]
      simp only [bn1_s]
      rw [h3, t2]
  · -- one doesn't fit: the first of these
    obtain ⟨E, hE, hbad, hmin⟩ := least_N (p := fun e => ¬ (nI (lgN b wd (s e)) ≤ all ∧ nI (shN b wd (s e)) ≤ wide)) k0 hbad0
    have hEK : E < K := by omega
    obtain ⟨la', S', M', w1, w2, R, y1, y2, y3, y4, y5, y6, y7, y8⟩ := outer_W hP hb hsum hM hKS (show E ≤ K by omega) (fun e he => Classical.byContradiction (hmin e he)) E 0 (fun _ => 0) 0 0 S13 M15 (by omega) hL0 hKA hNS hLM
    have hR : R ≤ 40 := by
      have h1 := sumN_le P y3.2.2.2
      rw [y4] at h1
      omega
    have hse := hKS.2.1 E hEK
    have hp8 : s E < 8 := by omega
    have h3 := fun what => y2 what ((199 - R) + 1)
    simp only [show (199 - R) + 1 + R = 200 by omega] at h3
    simp only [pick_N hP hKS y3 hEK hse.2, show enc (s E) = nI (s E) from if_neg (by omega)] at h3
    obtain ⟨c1, c2⟩ := hb (s E) hse.1
    obtain ⟨m1, m2⟩ := long_M hP hse.1 c1.2 c2.2 (hM M' y7.1)
    have np : ¬ nI (s E) = -1 := fun w => by
      have h2 := nI_toInt (show s E < 2 ^ 31 by omega)
      rw [w, show (-1 : Int32).toInt = -1 from rfl] at h2
      omega
    have hT : ∀ what, lq4 (fX9_nest_L128 what all wide (nI t)) ((199 - R) + 1) w1 w2 (nI (s E)) M' = some (-1, M') := fun what => by
      rw [lq4_1, fX9_nest_L128, if_neg np, m1, m2]
      simp only [bn1_s, jn1]
      by_cases q1 : all < nI (lgN b wd (s E))
      · rw [if_pos q1]
      · rw [if_neg q1, if_neg (fun z => hbad ⟨i_nlt.mp q1, z⟩)]
    refine ⟨fun _ => -1, S13, M', fun what => ?_, fun what => ?_, y7.2.1, x13, y7.1, Or.inl rfl⟩
    · rw [hS9]
      simp only [bn1_s]
      rw [f1]
      simp only [bn1_s]
      rw [hd]
      simp only [bn1_s, if_true]
    · rw [z1]
      simp only [bn1_s]
      rw [hnx]
      simp only [bn1_s]
      rw [h3, hT]
theorem min_I {p2 p3 : Int32} : p3 ≤ (if p2 < (1500 : Int32) then p2 else (1500 : Int32)) ↔ p3 ≤ 1500 ∧ p3 ≤ p2 := by
  by_cases c : p2 < (1500 : Int32)
  · rw [if_pos c]
    rw [Int32.lt_iff_toInt_lt] at c
    simp only [Int32.le_iff_toInt_le]
    omega
  · rw [if_neg c]
    rw [Int32.lt_iff_toInt_lt] at c
    simp only [Int32.le_iff_toInt_le]
    omega
def nestG (p2 p3 p4 : Int32) : Prop := ((50 : Int32) ≤ p2 ∧ p2 ≤ 3000) ∧ ((50 : Int32) ≤ p3 ∧ p3 ≤ 1500) ∧ p3 ≤ p2 ∧ (0 : Int32) ≤ p4 ∧ p4 ≤ 3
theorem nest_M (p2 p3 p4 : Int32) : ∃ v2 v3 : Int32, fX9_in p2 50 3000 = some v2 ∧ (if v2 = 0 then some (0 : Int32) else bn1 (fX9_in p3 50 1500) (fun v71 => if v71 = 0 then some (0 : Int32) else if p2 < p3 then some (0 : Int32) else bn1 (fX9_in p4 0 3) (fun v74 => if v74 = 0 then some (0 : Int32) else some (1 : Int32)))) = some v3 ∧ ((v3 = 1 ∧ nestG p2 p3 p4) ∨ (v3 = 0 ∧ ¬ nestG p2 p3 p4)) := by
  have n1 : ¬ (1 : Int32) = 0 := by decide
  by_cases h2 : (50 : Int32) ≤ p2 ∧ p2 ≤ 3000
  rotate_left
  · exact ⟨0, 0, in_out h2, if_pos rfl, Or.inr ⟨rfl, fun z => h2 z.1⟩⟩
  by_cases h3 : (50 : Int32) ≤ p3 ∧ p3 ≤ 1500
  rotate_left
  · refine ⟨1, 0, in_in h2, ?_, Or.inr ⟨rfl, fun z => h3 z.2.1⟩⟩
    rw [if_neg n1, in_out h3]
    simp only [bn1_s, if_true]
  by_cases h4 : p2 < p3
  · refine ⟨1, 0, in_in h2, ?_, Or.inr ⟨rfl, fun z => i_nlt.mpr z.2.2.1 h4⟩⟩
    rw [if_neg n1, in_in h3]
    simp only [bn1_s]
    rw [if_neg n1, if_pos h4]
  by_cases h5 : (0 : Int32) ≤ p4 ∧ p4 ≤ 3
  rotate_left
  · refine ⟨1, 0, in_in h2, ?_, Or.inr ⟨rfl, fun z => h5 z.2.2.2⟩⟩
    rw [if_neg n1, in_in h3]
    simp only [bn1_s]
    rw [if_neg n1, if_neg h4, in_out h5]
    simp only [bn1_s, if_true]
  · refine ⟨1, 1, in_in h2, ?_, Or.inl ⟨rfl, h2, h3, i_nlt.mp h4, h5⟩⟩
    rw [if_neg n1, in_in h3]
    simp only [bn1_s]
    rw [if_neg n1, if_neg h4, in_in h5]
    simp only [bn1_s]
    rw [if_neg n1]
theorem nest_X {p2 p3 p4 : Int32} {α : Type} {y z : Option α} : (nestG p2 p3 p4 → bn1 (fX8_isOut p2 50 3000) (fun v3 => if v3 = 0 then bn1 (fX8_isOut p3 50 (if p2 < (1500 : Int32) then p2 else (1500 : Int32))) (fun v5 => if v5 = 0 then bn1 (fX8_isOut p4 0 3) (fun v7 => if v7 = 0 then y else z) else z) else z) = y) ∧ (¬ nestG p2 p3 p4 → bn1 (fX8_isOut p2 50 3000) (fun v3 => if v3 = 0 then bn1 (fX8_isOut p3 50 (if p2 < (1500 : Int32) then p2 else (1500 : Int32))) (fun v5 => if v5 = 0 then bn1 (fX8_isOut p4 0 3) (fun v7 => if v7 = 0 then y else z) else z) else z) = z) := by
  have n1 : ¬ (1 : Int32) = 0 := by decide
  refine ⟨fun h => ?_, fun h => ?_⟩
  · obtain ⟨h2, h3, h4, h5⟩ := h
    rw [isOut_in h2]
    simp only [bn1_s, if_true]
    rw [isOut_in ⟨h3.1, min_I.mpr ⟨h3.2, h4⟩⟩]
    simp only [bn1_s, if_true]
    rw [isOut_in h5]
    simp only [bn1_s, if_true]
  · by_cases h2 : (50 : Int32) ≤ p2 ∧ p2 ≤ 3000
    rotate_left
    · rw [isOut_out h2]
      simp only [bn1_s]
      rw [if_neg n1]
    rw [isOut_in h2]
    simp only [bn1_s, if_true]
    by_cases h3 : (50 : Int32) ≤ p3 ∧ p3 ≤ (if p2 < (1500 : Int32) then p2 else (1500 : Int32))
    rotate_left
    · rw [isOut_out h3]
      simp only [bn1_s]
      rw [if_neg n1]
    rw [isOut_in h3]
    simp only [bn1_s, if_true]
    have h34 := min_I.mp h3.2
    rw [isOut_out (fun h5 => h ⟨h2, ⟨h3.1, h34.1⟩, h34.2, h5⟩)]
    simp only [bn1_s]
    rw [if_neg n1]
theorem ag_nest : Ag_nest Rel := by
  intro S M hR p1 p2 p3 p4
  have hR' := hR
  obtain ⟨P, T, B, F, hN⟩ := hR
  obtain ⟨⟨a1, a2, a3, a4⟩, ⟨b1, b2, b3, b4⟩, c1, c2, c3, c4⟩ := hN.1
  have n1 : ¬ (1 : Int32) = 0 := by decide
  obtain ⟨v2, v3, k1, k2, k3⟩ := nest_M p2 p3 p4
  rcases tool_cs b2 c2 a2 p1 with ⟨t, ht, rfl, g1, g2⟩ | ⟨g1, g2⟩
  rotate_left
  · refine Or.inr (Or.inl ⟨0, S, si M 0 0 1, ?_, ?_, rfl, hR'.thr, scrM_t⟩)
    · unfold fX8_nest
      rw [g1]; rfl
    · unfold fX9_nest
      rw [g2]
      simp only [bn1_s, jn0]
      rw [k1]
      simp only [bn1_s]
      rw [k2]
      simp only [bn1_s, if_true]
      rw [well_n n1]
      simp only [bn2_s, if_true]
  rcases k3 with ⟨rfl, hG⟩ | ⟨rfl, hG⟩
  rotate_left
  · refine Or.inr (Or.inr ⟨0, S, si M 0 0 2, ?_, ?_, rfl, hR'.thr, scrM_t⟩)
    · unfold fX8_nest
      rw [g1]
      simp only [bx]
      exact nest_X.2 hG
    · unfold fX9_nest
      rw [g2]
      simp only [bn1_s, jn0]
      rw [k1]
      simp only [bn1_s]
      rw [k2]
      simp only [bn1_s, if_true, if_neg n1]
      rw [well_n (show ¬ (2 : Int32) = 0 by decide)]
      simp only [bn2_s, if_true]
  obtain ⟨V, S', M', x1, x2, x3, x4, x5, -⟩ := nest_eq (all := p2) (wide := p3) hN ht
  left
  refine ⟨V p4, S', M', ?_, ?_, ?_, hR'.keep x4 x5, x4, x5⟩
  · unfold fX8_nest
    rw [g1]
    simp only [bx]
    rw [nest_X.1 hG]
    exact x1 p4
  · unfold fX9_nest
    rw [g2]
    simp only [bn1_s, jn0]
    rw [k1]
    simp only [bn1_s]
    rw [k2]
    simp only [bn1_s, if_neg n1, well_0, bn2_s, bv]
    exact x2 p4
  · unfold fX9_thrown
    rw [x3]
