/-! ===== the fewest turns, as numbers (99: none) ===== -/
def mnf (c : Nat → Nat) : Nat → Nat
  | 0 => 99
  | i + 1 => min (mnf c i) (c i)
def bix (c : Nat → Nat) : Nat → Nat
  | 0 => 99
  | i + 1 => if c i < mnf c i then i else bix c i
def tc (dn : Nat → Nat) (a i : Nat) : Nat := if a = 2 ∨ a = dn i then 0 else 1
def cst (w : Nat → Nat → Nat) (can : Nat → Nat → Bool) (dn : Nat → Nat) (d a i : Nat) : Nat := if can d i then min 99 (w (ob d i) (dn i) + tc dn a i) else 99
def SPW (n : Nat) (can : Nat → Nat → Bool) (dn : Nat → Nat) (w : Nat → Nat → Nat) : Prop := ∀ d, d < 2 ^ n → ∀ a, w d a = if d = 2 ^ n - 1 then 0 else mnf (cst w can dn d a) n
theorem mnf_congr {c c' : Nat → Nat} : ∀ n, (∀ i, i < n → c i = c' i) → mnf c n = mnf c' n := by
  intro n
  induction n with
  | zero => intro _; rfl
  | succ n ih => intro h; rw [mnf, mnf, ih (fun i hi => h i (by omega)), h n (by omega)]
theorem mnf_le {c : Nat → Nat} : ∀ n, mnf c n ≤ 99 := by
  intro n
  induction n with
  | zero => exact Nat.le_refl _
  | succ n ih => rw [mnf]; omega
def wv (n : Nat) (can : Nat → Nat → Bool) (dn : Nat → Nat) : Nat → Nat → Nat → Nat
  | 0, _, _ => 99
  | k + 1, d, a => if d = 2 ^ n - 1 then 0 else mnf (fun i => if can d i then min 99 (wv n can dn k (ob d i) (dn i) + tc dn a i) else 99) n
theorem wv_fuel {n : Nat} {can : Nat → Nat → Bool} {dn : Nat → Nat} (hn : n < 6) (hc : ∀ d i, can d i = true → bt d i = false) : ∀ k d a k', d < 2 ^ n → 2 ^ n - d ≤ k → 2 ^ n - d ≤ k' → wv n can dn k d a = wv n can dn k' d a := by
  intro k
  induction k with
  | zero => intro d a k' h1 h2; omega
  | succ k ih =>
    intro d a k' h1 h2 h3
    obtain ⟨k', rfl⟩ : ∃ q, k' = q + 1 := ⟨k' - 1, by omega⟩
    rw [wv, wv]
    by_cases q : d = 2 ^ n - 1
    · rw [if_pos q, if_pos q]
    · rw [if_neg q, if_neg q]
      refine mnf_congr n (fun i hi => ?_)
      cases hh : can d i
      · rfl
      · obtain ⟨z1, z2⟩ := bf_4 hn h1 hi
        have z3 := z2 (hc d i hh)
        rw [if_pos rfl, if_pos rfl, ih (ob d i) (dn i) k' z1 (by omega) (by omega)]
theorem spw_ex {n : Nat} {can : Nat → Nat → Bool} {dn : Nat → Nat} (hn : n < 6) (hc : ∀ d i, can d i = true → bt d i = false) : ∃ w, SPW n can dn w := by
  refine ⟨fun d a => wv n can dn (2 ^ n - d) d a, fun d hd a => ?_⟩
  obtain ⟨k, hk⟩ : ∃ q, 2 ^ n - d = q + 1 := ⟨2 ^ n - d - 1, by omega⟩
  show wv n can dn (2 ^ n - d) d a = _
  rw [hk, wv]
  by_cases q : d = 2 ^ n - 1
  · rw [if_pos q, if_pos q]
  · rw [if_neg q, if_neg q]
    refine mnf_congr n (fun i hi => ?_)
    unfold cst
    cases hh : can d i
    · rfl
    · obtain ⟨z1, z2⟩ := bf_4 hn hd hi
      have z3 := z2 (hc d i hh)
      rw [if_pos rfl, if_pos rfl, wv_fuel hn hc k (ob d i) (dn i) (2 ^ n - ob d i) z1 (by omega) (by omega)]
theorem mnf_ex {c : Nat → Nat} : ∀ n, mnf c n = 99 ∨ ∃ i, i < n ∧ mnf c n = c i := by
  intro n
  induction n with
  | zero => exact Or.inl rfl
  | succ n ih =>
    rw [mnf]
    by_cases q : c n < mnf c n
    · exact Or.inr ⟨n, by omega, by omega⟩
    · have e : min (mnf c n) (c n) = mnf c n := by omega
      rw [e]
      exact ih.elim Or.inl (fun ⟨i, h1, h2⟩ => Or.inr ⟨i, by omega, h2⟩)
theorem spw_bd {n : Nat} {can : Nat → Nat → Bool} {dn : Nat → Nat} {w : Nat → Nat → Nat} (hn : n < 6) (hc : ∀ d i, can d i = true → bt d i = false) (hw : SPW n can dn w) : ∀ m d a, d < 2 ^ n → 2 ^ n - d ≤ m → w d a = 99 ∨ w d a + d < 2 ^ n := by
  intro m
  induction m with
  | zero => intro d a h1 h2; omega
  | succ m ih =>
    intro d a h1 h2
    rw [hw d h1 a]
    by_cases q : d = 2 ^ n - 1
    · rw [if_pos q]; right; omega
    · rw [if_neg q]
      rcases mnf_ex (c := cst w can dn d a) n with h | ⟨i, hi, h⟩
      · exact Or.inl h
      · rw [h]
        unfold cst
        cases hh : can d i
        · exact Or.inl rfl
        · rw [if_pos rfl]
          obtain ⟨z1, z2⟩ := bf_4 hn h1 hi
          have z3 := z2 (hc d i hh)
          have ht : tc dn a i ≤ 1 := by unfold tc; split <;> omega
          rcases ih (ob d i) (dn i) z1 (by omega) with y | y
          · left; omega
          · right; omega
theorem bix_99 {c : Nat → Nat} : ∀ n, n < 99 → (bix c n = 99 ↔ mnf c n = 99) := by
  intro n
  induction n with
  | zero => intro _; exact ⟨fun _ => rfl, fun _ => rfl⟩
  | succ n ih =>
    intro h
    have := ih (by omega)
    have h2 := mnf_le (c := c) n
    rw [bix, mnf]
    by_cases q : c n < mnf c n
    · rw [if_pos q]
      constructor <;> intro z <;> omega
    · rw [if_neg q, this, show min (mnf c n) (c n) = mnf c n by omega]
theorem bix_is {c : Nat → Nat} : ∀ n, n < 99 → bix c n ≠ 99 → bix c n < n ∧ c (bix c n) = mnf c n := by
  intro n
  induction n with
  | zero => intro _ h; exact absurd rfl h
  | succ n ih =>
    intro h h2
    rw [bix] at h2 ⊢
    rw [mnf]
    by_cases q : c n < mnf c n
    · rw [if_pos q]
      exact ⟨by omega, by omega⟩
    · rw [if_neg q] at h2 ⊢
      obtain ⟨z1, z2⟩ := ih (by omega) h2
      exact ⟨by omega, by omega⟩
def enc (x : Nat) : Int32 := if x = 99 then -1 else nI x
theorem enc_1 {x : Nat} (h : x < 1000) : (enc x = -1) ↔ x = 99 := by
  unfold enc
  by_cases q : x = 99
  · rw [if_pos q]; exact ⟨fun _ => q, fun _ => rfl⟩
  · rw [if_neg q]
    refine ⟨fun z => ?_, fun z => absurd z q⟩
    have h2 := nI_toInt (show x < 2 ^ 31 by omega)
    rw [z, show (-1 : Int32).toInt = -1 from rfl] at h2
    omega
/-- the class's table, from the set d on -/
def TX (n : Nat) (w : Nat → Nat → Nat) (S : St) (d : Nat) : Prop := ∀ e, d ≤ e → e < 2 ^ n → ∀ a, a < 3 → gi S 17 (3 * e + a) = enc (w e a)
theorem turn_X {S : St} {n a i : Nat} {dn : Nat → Nat} (hn : n < 6) (hi : i < n) (ha : a < 3) (hd2 : dn i < 2) (h18 : gi S 18 i = nI (dn i)) : fX5_turn S (nI a) (nI i) = some (nI (tc dn a i)) := by
  unfold fX5_turn jn0 tc
  dsimp only
  rw [gd_t (inb_nI (show i < 5 by omega) (by omega)), nI_clamp (n := i) (by omega), h18]
  by_cases q1 : a = 2
  · rw [if_pos (show nI a = 2 by rw [q1]; rfl), if_pos (Or.inl q1)]; rfl
  · rw [if_neg (show ¬ nI a = 2 from nI_neq (a := a) (b := 2) q1 (by omega) (by decide))]
    by_cases q2 : a = dn i
    · rw [if_pos (show nI a = nI (dn i) by rw [← q2]), if_pos (Or.inr q2)]; rfl
    · rw [if_neg (nI_neq q2 (by omega) (by omega)), if_neg (fun z => z.elim q1 q2)]; rfl
theorem turnsBy_X {S : St} {n d a i : Nat} {dn : Nat → Nat} {w : Nat → Nat → Nat} (hn : n < 6) (hd : d < 2 ^ n) (hi : i < n) (ha : a < 3) (hd2 : dn i < 2) (h18 : gi S 18 i = nI (dn i)) (hb : bt d i = false) (hT : TX n w S (d + 1)) (hbd : w (ob d i) (dn i) = 99 ∨ w (ob d i) (dn i) < 90) : fX5_turnsBy S (nI d) (nI a) (nI i) = some (enc (min 99 (w (ob d i) (dn i) + tc dn a i))) := by
  obtain ⟨z1, z2⟩ := bf_4 hn hd hi
  have z3 := z2 hb
  have h32 := (bf_5 hn).1
  have ht : tc dn a i ≤ 1 := by unfold tc; split <;> omega
  unfold fX5_turnsBy
  rw [gd_t (inb_nI (show i < 5 by omega) (by omega)), nI_clamp (n := i) (by omega), h18, bf_2 (by omega) (by omega), show (3 : Int32) = nI 3 from rfl, nI_mul, nI_add, gd_t (inb_nI (by omega) (by omega)), nI_clamp (by omega), show ob d i * 3 + dn i = 3 * ob d i + dn i by omega, hT (ob d i) (by omega) z1 (dn i) (by omega)]
  simp only [bv]
  rcases hbd with q | q
  · rw [q, if_pos ((enc_1 (by omega)).mpr rfl), show min 99 (99 + tc dn a i) = 99 by omega]; rfl
  · rw [if_neg (fun z => by have := (enc_1 (by omega)).mp z; omega), turn_X hn hi ha hd2 h18]
    simp only [bn1_s]
    rw [show min 99 (w (ob d i) (dn i) + tc dn a i) = w (ob d i) (dn i) + tc dn a i by omega]
    unfold enc
    rw [if_neg (by omega), if_neg (by omega), nI_add]
theorem best_X {S : St} {n d a : Nat} {dn : Nat → Nat} {w : Nat → Nat → Nat} {can : Nat → Nat → Bool} (hn : n < 6) (hd : d < 2 ^ n) (ha : a < 3) (hd2 : ∀ i, i < n → dn i < 2) (hc : ∀ d i, can d i = true → bt d i = false) (h15 : gi S 15 3 = nI n) (h18 : ∀ i, i < n → gi S 18 i = nI (dn i)) (h16 : gi S 16 d = nI (mkb (can d) n)) (hT : TX n w S (d + 1)) (hbd : ∀ e b, e < 2 ^ n → w e b = 99 ∨ w e b < 90) : fX5_bestNext S (nI d) (nI a) = some (enc (bix (cst w can dn d a) n)) := by
  have h32 := (bf_5 hn).1
  have key : ∀ m i fu, i + m = n → m < fu → lq3 (fX5_bestNext_L8 S (nI d) (nI a)) fu (enc (bix (cst w can dn d a) i)) (enc (mnf (cst w can dn d a) i)) (nI i) = some (enc (bix (cst w can dn d a) n)) := by
    intro m
    induction m with
    | zero =>
      intro i fu hi hf
      obtain ⟨fu, rfl⟩ : ∃ q, fu = q + 1 := ⟨fu - 1, by omega⟩
      obtain rfl : i = n := by omega
      rw [lq3_1, fX5_bestNext_L8, h15, if_pos (nI_le (by omega) (by omega))]
    | succ m ih =>
      intro i fu hi hf
      obtain ⟨fu, rfl⟩ : ∃ q, fu = q + 1 := ⟨fu - 1, by omega⟩
      have hrec := ih (i + 1) fu (by omega) (by omega)
      rw [lq3_1, fX5_bestNext_L8, h15, if_neg (nI_ge (by omega) (by omega)), gd_t (inb_nI (by omega) (by omega)), nI_clamp (n := d) (by omega), h16, hasBit_N (mkb_lt n (by omega)) (by omega), mkb_bt (show i < 5 by omega) n (by omega), decide_eq_true (show i < n by omega), Bool.and_true]
      simp only [bn1_s]
      have hcost : ∀ y : Option Int32, (if bI (can d i) = 0 then some (-1 : Int32) else bn1 (fX5_turnsBy S (nI d) (nI a) (nI i)) (fun v22 => some v22)) = some (enc (cst w can dn d a i)) := fun _ => by
        unfold cst
        cases hh : can d i
        · rw [if_pos (by decide), if_neg (by decide)]; rfl
        · rw [if_neg (by decide), if_pos rfl, turnsBy_X hn hd (show i < n by omega) ha (hd2 i (by omega)) (h18 i (by omega)) (hc d i hh) hT (hbd _ _ (bf_4 hn hd (show i < n by omega)).1)]
          rfl
      rw [hcost none]
      simp only [bn1_s]
      have hcl : cst w can dn d a i ≤ 99 := by unfold cst; split <;> omega
      have hml := mnf_le (c := cst w can dn d a) i
      have hb9 := bix_99 (c := cst w can dn d a) i (by omega)
      have hbl : bix (cst w can dn d a) i < 1000 := by
        by_cases q : bix (cst w can dn d a) i = 99
        · omega
        · have := (bix_is i (by omega) q).1; omega
      rw [bix, mnf] at hrec
      by_cases q1 : cst w can dn d a i = 99
      · rw [if_pos ((enc_1 (by omega)).mpr q1)]
        rw [if_neg (by omega), show min (mnf (cst w can dn d a) i) (cst w can dn d a i) = mnf (cst w can dn d a) i by omega] at hrec
        simp only [bn2_s, bv, nI_1]
        exact hrec
      · rw [if_neg (fun z => q1 ((enc_1 (by omega)).mp z))]
        simp only [jn0]
        by_cases q2 : mnf (cst w can dn d a) i = 99
        · rw [if_pos ((enc_1 hbl).mpr (hb9.mpr q2))]
          rw [if_pos (by omega), show min (mnf (cst w can dn d a) i) (cst w can dn d a i) = cst w can dn d a i by omega] at hrec
          simp only [bn2_s, bv, nI_1]
          have e : enc i = nI i := if_neg (by omega)
          rw [e] at hrec
          exact hrec
        · rw [if_neg (fun z => q2 (hb9.mp ((enc_1 hbl).mp z)))]
          have e1 : enc (mnf (cst w can dn d a) i) = nI (mnf (cst w can dn d a) i) := if_neg q2
          have e2 : enc (cst w can dn d a i) = nI (cst w can dn d a i) := if_neg q1
          rw [e1, e2]
          by_cases q3 : mnf (cst w can dn d a) i ≤ cst w can dn d a i
          · rw [if_pos (nI_le q3 (by omega))]
            rw [if_neg (by omega), show min (mnf (cst w can dn d a) i) (cst w can dn d a i) = mnf (cst w can dn d a) i by omega, e1] at hrec
            simp only [bn2_s, bv, nI_1]
            exact hrec
          · rw [if_neg (nI_ge (by omega) (by omega))]
            rw [if_pos (by omega), show min (mnf (cst w can dn d a) i) (cst w can dn d a i) = cst w can dn d a i by omega, e2] at hrec
            simp only [bn2_s, bv, nI_1]
            have e : enc i = nI i := if_neg (by omega)
            rw [e] at hrec
            exact hrec
  unfold fX5_bestNext
  have := key n 0 200 (by omega) (by omega)
  rw [nI_0] at this
  rw [show lq3 (fX5_bestNext_L8 S (nI d) (nI a)) 200 (-1) (-1) 0 = some (enc (bix (cst w can dn d a) n)) from this]
  rfl
