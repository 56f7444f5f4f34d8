/-! ===== the reference's table ===== -/
def al (n : Nat) (dn : Nat → Nat) (l : Nat) : Nat := if l < n then dn l else 2
def TM (n : Nat) (dn : Nat → Nat) (w : Nat → Nat → Nat) (M : St) (d : Nat) : Prop := ∀ e, d ≤ e → e < 2 ^ n → ∀ l, l < 7 → gi M 26 (7 * e + l) = nI (w e (al n dn l))
theorem ix7 (p i : Nat) : (7 : Int32) * nI p + nI i = nI (7 * p + i) := by rw [show (7 : Int32) = nI 7 from rfl, nI_mul, nI_add]
theorem DrM.keepM {p f : Nat} {M M' : St} {L Dr : Nat → Int32} (h : DrM p f M L Dr) (hs : scrM M M') : DrM p f M' L Dr := ⟨fun i hi => by rw [hs _ _ (by omega) (by omega)]; exact h.1 i hi, fun i hi => by rw [hs _ _ (by omega) (by omega)]; exact h.2.1 i hi, by rw [hs _ _ (by omega) (by omega)]; exact h.2.2⟩
theorem turn_M {M : St} {p n l i : Nat} {L Dr : Nat → Int32} {dn : Nat → Nat} (hp : p < 8) (hn : n < 6) (hl : l < 7) (hi : i < n) (hD : DrM p (n + 1) M L Dr) (hdr : ∀ i, i < n → Dr i = nI (dn i)) (hd2 : ∀ i, i < n → dn i < 2) : fX9_turn M (nI p) (nI l) (nI i) = some (nI (tc dn (al n dn l) i)) := by
  have hi2 := hd2 i hi
  unfold fX9_turn tc al
  rw [gd_t (inb_nI hp (by omega)), nI_clamp (n := p) (by omega), hD.2.2, nI_pred]
  by_cases q : l < n
  · have hl2 := hd2 l q
    rw [if_neg (nI_ge q (by omega)), ix6, ix6, gd_t (inb_nI (by omega) (by omega)), gd_t (inb_nI (by omega) (by omega)), nI_clamp (n := 6 * p + l) (by omega), nI_clamp (n := 6 * p + i) (by omega), hD.2.1 l (by omega), hD.2.1 i (by omega), hdr l q, hdr i hi, if_pos q]
    by_cases q2 : dn l = dn i
    · rw [if_pos (by rw [q2]), if_pos (Or.inr q2)]; rfl
    · rw [if_neg (nI_neq q2 (by omega) (by omega)), if_neg (fun z => z.elim (fun z => by omega) q2)]; rfl
  · rw [if_pos (nI_le (by omega) (by omega)), if_neg q, if_pos (Or.inl rfl)]; rfl
def iv (n : Nat) (c : Nat → Nat) (d i : Nat) : Nat := if d = 2 ^ n - 1 then 0 else mnf c i
theorem iv_le {n d i : Nat} {c : Nat → Nat} : iv n c d i ≤ 99 := by
  unfold iv
  split
  · omega
  · exact mnf_le i
theorem row_24 {n d : Nat} (hn : n < 6) (hd : d < 2 ^ n) {c : Nat → Nat → Nat} : ∀ (m l fu : Nat) (M : St), l + m = 7 → m < fu → (∀ b, b < l → gi M 26 (7 * d + b) = nI (iv n (c b) d 0)) → ∃ M', lq2 (fX9_findOrders_L24 (nI d) (nI n)) fu (nI l) M = some M' ∧ (∀ b, b < 7 → gi M' 26 (7 * d + b) = nI (iv n (c b) d 0)) ∧ ∀ k j, (k ≠ 26 ∨ j < 7 * d ∨ 7 * d + 7 ≤ j) → gi M' k j = gi M k j := by
  have h32 := bf_5 hn
  intro m
  induction m with
  | zero =>
    intro l fu M hl hf hA
    obtain ⟨fu, rfl⟩ : ∃ q, fu = q + 1 := ⟨fu - 1, by omega⟩
    obtain rfl : l = 7 := by omega
    refine ⟨M, ?_, hA, fun _ _ _ => rfl⟩
    rw [lq2_1, fX9_findOrders_L24, if_pos (show (7 : Int32) ≤ nI 7 by decide)]
  | succ m ih =>
    intro l fu M hl hf hA
    obtain ⟨fu, rfl⟩ : ∃ q, fu = q + 1 := ⟨fu - 1, by omega⟩
    obtain ⟨M', w1, w2, w3⟩ := ih (l + 1) fu (si M 26 (7 * d + l) (nI (iv n (c l) d 0))) (by omega) (by omega) (fun b hb => by
      by_cases q : b = l
      · subst q; exact gi_eq
      · rw [gi_nj (by omega)]; exact hA b (by omega))
    refine ⟨M', ?_, w2, fun k j hk => by rw [w3 k j hk, gi_if, if_neg (by omega)]⟩
    have hv : (if nI d = (1 : Int32) <<< (nI n &&& 31) - 1 then some (0 : Int32) else some 99) = some (nI (iv n (c l) d 0)) := by
      rw [bf_3 hn, nI_sub1 h32.2]
      unfold iv
      by_cases q : d = 2 ^ n - 1
      · rw [if_pos (show nI d = nI (2 ^ n - 1) by rw [← q]), if_pos q]; rfl
      · rw [if_neg (nI_neq q (by omega) (by omega)), if_neg q]; rfl
    rw [lq2_1, fX9_findOrders_L24, if_neg (show ¬ (7 : Int32) ≤ nI l from nI_ge (b := 7) (by omega) (by decide)), hv]
    simp only [bn1_s, ix7, gd_t (inb_nI (show 7 * d + l < 224 by omega) (by omega)), nI_clamp (show 7 * d + l < 2 ^ 31 by omega), bv, nI_1]
    exact w1
theorem row_108 {p n d i : Nat} {L Dr : Nat → Int32} {dn : Nat → Nat} {w : Nat → Nat → Nat} {can : Nat → Nat → Bool} (hp : p < 8) (hn : n < 6) (hd : d < 2 ^ n) (hi : i < n) (hdr : ∀ i, i < n → Dr i = nI (dn i)) (hd2 : ∀ i, i < n → dn i < 2) (hcan : can d i = true) (hb : bt d i = false) (hf : d ≠ 2 ^ n - 1) (hbd : ∀ e b, e < 2 ^ n → w e b = 99 ∨ w e b < 90) : ∀ (m l fu : Nat) (M : St), l + m = 7 → m < fu → DrM p (n + 1) M L Dr → TM n dn w M (d + 1) →
    (∀ b, b < l → gi M 26 (7 * d + b) = nI (iv n (cst w can dn d (al n dn b)) d (i + 1))) → (∀ b, l ≤ b → b < 7 → gi M 26 (7 * d + b) = nI (iv n (cst w can dn d (al n dn b)) d i)) → ∃ M', lq2 (fX9_findOrders_L108 1 (nI p) (nI i) (nI d)) fu (nI l) M = some M' ∧ (∀ b, b < 7 → gi M' 26 (7 * d + b) = nI (iv n (cst w can dn d (al n dn b)) d (i + 1))) ∧ ∀ k j, (k ≠ 26 ∨ j < 7 * d ∨ 7 * d + 7 ≤ j) → gi M' k j = gi M k j := by
  have h32 := bf_5 hn
  obtain ⟨z1, z2⟩ := bf_4 hn hd hi
  have z3 := z2 hb
  intro m
  induction m with
  | zero =>
    intro l fu M hl hf' hD hT hA hB
    obtain ⟨fu, rfl⟩ : ∃ q, fu = q + 1 := ⟨fu - 1, by omega⟩
    obtain rfl : l = 7 := by omega
    refine ⟨M, ?_, hA, fun _ _ _ => rfl⟩
    rw [lq2_1, fX9_findOrders_L108, if_pos (show (7 : Int32) ≤ nI 7 by decide)]
  | succ m ih =>
    intro l fu M hl hf' hD hT hA hB
    obtain ⟨fu, rfl⟩ : ∃ q, fu = q + 1 := ⟨fu - 1, by omega⟩
    have ht := turn_M (l := l) hp hn (by omega) hi hD hdr hd2
    have hw2 : gi M 26 (7 * ob d i + i) = nI (w (ob d i) (dn i)) := by
      have := hT (ob d i) (by omega) z1 i (by omega)
      rw [this]
      unfold al
      rw [if_pos hi]
    have hcur := hB l (Nat.le_refl l) (by omega)
    have htc : tc dn (al n dn l) i ≤ 1 := by unfold tc; split <;> omega
    have hbw := hbd (ob d i) (dn i) z1
    have hval : (if nI (iv n (cst w can dn d (al n dn l)) d i) ≤ nI (tc dn (al n dn l) i + w (ob d i) (dn i)) then gd (inb (nI (7 * d + l)) 224) (some (nI (iv n (cst w can dn d (al n dn l)) d i))) else some (nI (tc dn (al n dn l) i + w (ob d i) (dn i)))) = some (nI (iv n (cst w can dn d (al n dn l)) d (i + 1))) := by
      have hle := iv_le (n := n) (c := cst w can dn d (al n dn l)) (d := d) (i := i)
      have hst : iv n (cst w can dn d (al n dn l)) d (i + 1) = min (iv n (cst w can dn d (al n dn l)) d i) (min 99 (w (ob d i) (dn i) + tc dn (al n dn l) i)) := by
        unfold iv
        rw [if_neg hf, if_neg hf, mnf]
        unfold cst
        rw [hcan]
        rfl
      rw [hst]
      by_cases q : iv n (cst w can dn d (al n dn l)) d i ≤ tc dn (al n dn l) i + w (ob d i) (dn i)
      · rw [if_pos (nI_le q (by omega)), gd_t (inb_nI (by omega) (by omega))]
        congr 2
        omega
      · rw [if_neg (nI_ge (by omega) (by omega))]
        congr 2
        omega
    obtain ⟨M', w1, w2, w3⟩ := ih (l + 1) fu (si M 26 (7 * d + l) (nI (iv n (cst w can dn d (al n dn l)) d (i + 1)))) (by omega) (by omega) (hD.keepM (scrM_i (by omega))) (fun e h1 h2 b hb => by rw [gi_nj (by omega)]; exact hT e h1 h2 b hb) (fun b hb => by
      by_cases q : b = l
      · subst q; exact gi_eq
      · rw [gi_nj (by omega)]; exact hA b (by omega)) (fun b h1 h2 => by rw [gi_nj (by omega)]; exact hB b (by omega) h2)
    refine ⟨M', ?_, w2, fun k j hk => by rw [w3 k j hk, gi_if, if_neg (by omega)]⟩
    rw [lq2_1, fX9_findOrders_L108, if_neg (show ¬ (7 : Int32) ≤ nI l from nI_ge (b := 7) (by omega) (by decide)), if_neg (by decide), ht]
    simp only [bn1_s, bf_2 (show d < 32 by omega) (show i < 5 by omega), ix7, gd_t (inb_nI (show 7 * ob d i + i < 224 by omega) (by omega)), nI_clamp (show 7 * ob d i + i < 2 ^ 31 by omega), hw2, bv, nI_add, nI_clamp (show 7 * d + l < 2 ^ 31 by omega), hcur]
    rw [gd_t (inb_nI (show 7 * d + l < 224 by omega) (by omega)), hval]
    simp only [bn1_s, gd_t (inb_nI (show 7 * d + l < 224 by omega) (by omega)), nI_1]
    exact w1
/-- the reference's reasons, whatever its scratch cells hold -/
def HM (M : St) (p t n : Nat) (rs : Nat → Nat → Int32) : Prop := ∀ M1, scrM M M1 → ∀ d, d < 2 ^ n → ∀ i, i < n → ∃ M2, fX9_reason M1 (nI p) (nI t) (nI d) (nI i) = some (rs d i, M2) ∧ scrG M1 M2
theorem can_M {M0 M : St} {p t n d i : Nat} {rs : Nat → Nat → Int32} (hn : n < 6) (hd : d < 2 ^ n) (hi : i < n) (hH : HM M0 p t n rs) (hS : scrM M0 M) : ∃ M2, (jn1 (fun (S50 : St) => some ((0 : Int32), S50)) (fun J51 => if ((nI d >>> (nI i &&& 31)) &&& (1 : Int32)) = 0 then bn2 (fX9_reason M (nI p) (nI t) (nI d) (nI i)) (fun (v53 : Int32) (S54 : St) => if v53 = 0 then some ((1 : Int32), S54) else J51 S54) else J51 M)) = some (bI (canB rs d i), M2) ∧ scrG M M2 := by
  have h32 := bf_5 hn
  rw [bf_1 (by omega) (by omega)]
  unfold jn1
  dsimp only
  cases hb : bt d i
  · rw [if_pos (by decide)]
    obtain ⟨M2, e1, e2⟩ := hH M hS d hd i hi
    rw [e1]
    refine ⟨M2, ?_, e2⟩
    unfold canB
    rw [hb]
    simp only [bn2_s]
    by_cases q : rs d i = 0
    · rw [if_pos q, decide_eq_true q]; rfl
    · rw [if_neg q, decide_eq_false q]; rfl
  · rw [if_neg (by decide)]
    refine ⟨M, ?_, scrG_r⟩
    unfold canB
    rw [hb]
    rfl
theorem row_69 {M0 : St} {p t n d : Nat} {L Dr : Nat → Int32} {dn : Nat → Nat} {w : Nat → Nat → Nat} {rs : Nat → Nat → Int32} (hp : p < 8) (hn : n < 6) (hd : d < 2 ^ n) (hD0 : DrM p (n + 1) M0 L Dr) (hH : HM M0 p t n rs) (hdr : ∀ i, i < n → Dr i = nI (dn i)) (hd2 : ∀ i, i < n → dn i < 2) (hw : SPW n (canB rs) dn w) : ∀ (m i fu : Nat) (M : St), i + m = n → m < fu → scrM M0 M → TM n dn w M (d + 1) → (∀ b, b < 7 → gi M 26 (7 * d + b) = nI (iv n (cst w (canB rs) dn d (al n dn b)) d i)) → ∃ M', lq2 (fX9_findOrders_L69 (nI n) (nI d) (nI p) (nI t)) fu (nI i) M = some M' ∧ TM n dn w M' d ∧ scrM M M' ∧ gi M' 0 0 = gi M 0 0 := by
  have h32 := bf_5 hn
  intro m
  induction m with
  | zero =>
    intro i fu M hi hf hS hT hA
    obtain ⟨fu, rfl⟩ : ∃ q, fu = q + 1 := ⟨fu - 1, by omega⟩
    obtain rfl : i = n := by omega
    refine ⟨M, ?_, fun e h1 h2 l hl => ?_, scrM_r, rfl⟩
    · rw [lq2_1, fX9_findOrders_L69, if_pos (nI_le (by omega) (by omega))]
    · by_cases q : e = d
      · subst q
        rw [hA l hl, hw e hd]
        rfl
      · exact hT e (by omega) h2 l hl
  | succ m ih =>
    intro i fu M hi hf hS hT hA
    obtain ⟨fu, rfl⟩ : ∃ q, fu = q + 1 := ⟨fu - 1, by omega⟩
    obtain ⟨M2, e1, e2⟩ := can_M hn hd (show i < n by omega) hH hS
    have hS2 : scrM M0 M2 := hS.tr e2.m
    have hT2 : TM n dn w M2 (d + 1) := fun e h1 h2 b hb => by rw [e2 _ _ (by omega)]; exact hT e h1 h2 b hb
    have hA2 : ∀ b, b < 7 → gi M2 26 (7 * d + b) = nI (iv n (cst w (canB rs) dn d (al n dn b)) d i) := fun b hb => by rw [e2 _ _ (by omega)]; exact hA b hb
    have hrow : ∃ M3, lq2 (fX9_findOrders_L108 (bI (canB rs d i)) (nI p) (nI i) (nI d)) 200 (nI 0) M2 = some M3 ∧ (∀ b, b < 7 → gi M3 26 (7 * d + b) = nI (iv n (cst w (canB rs) dn d (al n dn b)) d (i + 1))) ∧ ∀ k j, (k ≠ 26 ∨ j < 7 * d ∨ 7 * d + 7 ≤ j) → gi M3 k j = gi M2 k j := by
      cases hc : canB rs d i
      · refine ⟨M2, ?_, fun b hb => ?_, fun _ _ _ => rfl⟩
        · rw [show (200 : Nat) = 199 + 1 from rfl, lq2_1, fX9_findOrders_L108, if_neg (by decide), if_pos (by decide)]
        · rw [hA2 b hb]
          unfold iv
          rw [mnf]
          have hcs : cst w (canB rs) dn d (al n dn b) i = 99 := by unfold cst; rw [hc]; rfl
          have hml := mnf_le (c := cst w (canB rs) dn d (al n dn b)) i
          rw [hcs, show min (mnf (cst w (canB rs) dn d (al n dn b)) i) 99 = mnf (cst w (canB rs) dn d (al n dn b)) i by omega]
      · exact row_108 hp hn hd (show i < n by omega) hdr hd2 hc (canB_b _ _ hc) (fun z => by
          rw [z, full_no hn (show i < n by omega)] at hc
          cases hc) (spw_b90 hn canB_b hw) 7 0 200 M2 (by omega) (by omega) (hD0.keepM hS2) hT2 (fun b hb => by omega) (fun b _ hb => hA2 b hb)
    obtain ⟨M3, r1, r2, r3⟩ := hrow
    have hS3 : scrM M2 M3 := fun k j h1 h2 => r3 k j (by omega)
    obtain ⟨M', w1, w2, w3, w4⟩ := ih (i + 1) fu M3 (by omega) (by omega) (hS2.tr hS3) (fun e h1 h2 b hb => by rw [r3 _ _ (by omega)]; exact hT2 e h1 h2 b hb) r2
    refine ⟨M', ?_, w2, (e2.m.tr hS3).tr w3, by rw [w4, r3 _ _ (by omega), e2 _ _ (by omega)]⟩
    rw [lq2_1, fX9_findOrders_L69, if_neg (nI_ge (by omega) (by omega)), e1]
    simp only [bn2_s]
    rw [show (0 : Int32) = nI 0 from rfl, r1]
    simp only [bn1_s, bv, nI_1]
    exact w1
theorem row_16 {M0 : St} {p t n : Nat} {L Dr : Nat → Int32} {dn : Nat → Nat} {w : Nat → Nat → Nat} {rs : Nat → Nat → Int32} (hp : p < 8) (hn : n < 6) (hD0 : DrM p (n + 1) M0 L Dr) (hH : HM M0 p t n rs) (hdr : ∀ i, i < n → Dr i = nI (dn i)) (hd2 : ∀ i, i < n → dn i < 2) (hw : SPW n (canB rs) dn w) : ∀ (d fu : Nat) (M : St), d < 2 ^ n → d + 1 < fu → scrM M0 M → TM n dn w M (d + 1) → ∃ M', lq2 (fX9_findOrders_L16 (nI n) (nI p) (nI t)) fu (nI d) M = some M' ∧ TM n dn w M' 0 ∧ scrM M M' ∧ gi M' 0 0 = gi M 0 0 := by
  have h32 := bf_5 hn
  have one : ∀ (d : Nat) (M : St), d < 2 ^ n → scrM M0 M → TM n dn w M (d + 1) → ∃ M1 M2, lq2 (fX9_findOrders_L24 (nI d) (nI n)) 200 (nI 0) M = some M1 ∧ lq2 (fX9_findOrders_L69 (nI n) (nI d) (nI p) (nI t)) 200 (nI 0) M1 = some M2 ∧ TM n dn w M2 d ∧ scrM M M2 ∧ gi M2 0 0 = gi M 0 0 := fun d M hd hS hT => by
    obtain ⟨M1, x1, x2, x3⟩ := row_24 (c := fun b => cst w (canB rs) dn d (al n dn b)) hn hd 7 0 200 M (by omega) (by omega) (fun b hb => by omega)
    have hs1 : scrM M M1 := fun k j h1 h2 => x3 k j (by omega)
    obtain ⟨M2, y1, y2, y3, y4⟩ := row_69 hp hn hd hD0 hH hdr hd2 hw n 0 200 M1 (by omega) (by omega) (hS.tr hs1) (fun e h1 h2 b hb => by rw [x3 _ _ (by omega)]; exact hT e h1 h2 b hb) x2
    exact ⟨M1, M2, x1, y1, y2, hs1.tr y3, by rw [y4, x3 _ _ (by omega)]⟩
  intro d
  induction d with
  | zero =>
    intro fu M hd hf hS hT
    obtain ⟨fu, rfl⟩ : ∃ q, fu = q + 1 + 1 := ⟨fu - 2, by omega⟩
    obtain ⟨M1, M2, x1, x2, x3, x4, x5⟩ := one 0 M hd hS hT
    refine ⟨M2, ?_, x3, x4, x5⟩
    rw [lq2_1, fX9_findOrders_L16, if_neg (by decide), show lq2 (fX9_findOrders_L24 (nI 0) (nI n)) 200 0 M = some M1 from x1]
    simp only [bn1_s]
    rw [show lq2 (fX9_findOrders_L69 (nI n) (nI 0) (nI p) (nI t)) 200 0 M1 = some M2 from x2]
    simp only [bn1_s, bv]
    rw [lq2_1, fX9_findOrders_L16, if_pos (by decide)]
  | succ d ih =>
    intro fu M hd hf hS hT
    obtain ⟨fu, rfl⟩ : ∃ q, fu = q + 1 := ⟨fu - 1, by omega⟩
    obtain ⟨M1, M2, x1, x2, x3, x4, x5⟩ := one (d + 1) M hd hS hT
    obtain ⟨M', w1, w2, w3, w4⟩ := ih fu M2 (by omega) (by omega) (hS.tr x4) x3
    refine ⟨M', ?_, w2, x4.tr w3, by rw [w4, x5]⟩
    rw [lq2_1, fX9_findOrders_L16, if_neg (nI_pos (by omega)), show lq2 (fX9_findOrders_L24 (nI (d + 1)) (nI n)) 200 0 M = some M1 from x1]
    simp only [bn1_s]
    rw [show lq2 (fX9_findOrders_L69 (nI n) (nI (d + 1)) (nI p) (nI t)) 200 0 M1 = some M2 from x2]
    simp only [bn1_s, bv]
    rw [show nI (d + 1) + (-1) = nI d from by rw [← Int32.sub_eq_add_neg]; exact nI_pred d]
    exact w1
theorem orders_M {M : St} {p t n : Nat} {L Dr : Nat → Int32} {dn : Nat → Nat} {w : Nat → Nat → Nat} {rs : Nat → Nat → Int32} (hp : p < 8) (hn : n < 6) (hD0 : DrM p (n + 1) M L Dr) (hH : HM M p t n rs) (hdr : ∀ i, i < n → Dr i = nI (dn i)) (hd2 : ∀ i, i < n → dn i < 2) (hw : SPW n (canB rs) dn w) : ∃ M', fX9_turns M (nI p) (nI t) = some (enc (w 0 2), M') ∧ TM n dn w M' 0 ∧ scrM M M' ∧ gi M' 0 0 = gi M 0 0 := by
  have h32 := bf_5 hn
  obtain ⟨M', x1, x2, x3, x4⟩ := row_16 hp hn hD0 hH hdr hd2 hw (2 ^ n - 1) 200 M (by omega) (by omega) scrM_r (fun e h1 h2 => by omega)
  refine ⟨M', ?_, x2, x3, x4⟩
  have h6 : gi M' 26 6 = nI (w 0 2) := by
    have := x2 0 (by omega) h32.2 6 (by omega)
    rw [show 7 * 0 + 6 = 6 from rfl] at this
    rw [this]
    unfold al
    rw [if_neg (by omega)]
  have hb := spw_b90 hn canB_b hw 0 2 h32.2
  unfold fX9_turns fX9_findOrders
  rw [gd_t (inb_nI hp (by omega)), nI_clamp (n := p) (by omega), hD0.2.2, nI_pred]
  simp only [bv]
  rw [bf_3 hn, nI_sub1 h32.2, x1]
  simp only [bn1_s]
  rw [gd_t (by decide), show (6 : Int32).toNatClampNeg = 6 from rfl, h6]
  unfold enc
  rcases hb with q | q
  · rw [q, if_pos (by decide), if_pos rfl]
  · rw [if_neg (show ¬ (99 : Int32) ≤ nI (w 0 2) from nI_ge (b := 99) (by omega) (by decide)), if_neg (by omega), gd_t (by decide)]
