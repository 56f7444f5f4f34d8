/-- the kinds before e are laid, k pieces of kind e, none of those behind -/
def LAP (q : Nat → Nat) (P K : Nat) (s : Nat → Nat) (e k : Nat) (la : Nat → Nat) : Prop := (∀ x, x < e → x < K → la (s x) = q (s x)) ∧ (e < K → la (s e) = k) ∧ (∀ x, e < x → x < K → la (s x) = 0) ∧ ∀ p, p < P → la p ≤ q p
/-- the kinds' arrays -/
def KA (b wd q : Nat → Nat) (K : Nat) (s : Nat → Nat) (S : St) : Prop := gi S 20 5 = nI K ∧ ∀ k, k < K → gi S 21 k = nI (lgN b wd (s k)) ∧ gi S 22 k = nI (shN b wd (s k)) ∧ gi S 23 k = nI (q (s k))
/-- sorted kinds, all of the lot -/
def KS (b wd q : Nat → Nat) (P K : Nat) (s : Nat → Nat) : Prop := K ≤ P ∧ (∀ k, k < K → s k < P ∧ 0 < q (s k)) ∧ (∀ k k', k < k' → k' < K → key b wd (s k') < key b wd (s k) ∨ (key b wd (s k) = key b wd (s k') ∧ s k < s k')) ∧ ∀ p, p < P → 0 < q p → ∃ k, k < K ∧ s k = p
theorem ks_inj {b wd q : Nat → Nat} {P K : Nat} {s : Nat → Nat} (h : KS b wd q P K s) {x y : Nat} (hx : x < K) (hy : y < K) (e : s x = s y) : x = y := by
  by_cases z : x < y
  · rcases h.2.2.1 x y z hy with w | w
    · rw [e] at w; omega
    · rw [e] at w; omega
  · by_cases z2 : y < x
    · rcases h.2.2.1 y x z2 hx with w | w
      · rw [e] at w; omega
      · rw [e] at w; omega
    · omega
theorem pick_N {b wd q la : Nat → Nat} {P K e k : Nat} {s : Nat → Nat} (hP : P ≤ 8) (hS : KS b wd q P K s) (hL : LAP q P K s e k la) (he : e < K) (hk : k < q (s e)) : nxI b wd q la P = s e := by
  have hse := hS.2.1 e he
  have hav : la (s e) < q (s e) := by rw [hL.2.1 he]; exact hk
  rcases nxI_ok (b := b) (wd := wd) (q := q) (la := la) P (by omega) with ⟨y1, y2⟩ | ⟨y1, y2, y3⟩
  · exact absurd hav (y2 _ hse.1)
  · obtain ⟨x, hx, hxe⟩ := hS.2.2.2 (nxI b wd q la P) y1 (by omega)
    have ha := y3 (s e) hse.1 hav
    rw [← hxe] at y2 ha ⊢
    by_cases z1 : x < e
    · have := hL.1 x z1 hx
      omega
    · by_cases z2 : x = e
      · rw [z2]
      · exfalso
        rcases hS.2.2.1 e x (by omega) hx with w | w <;> unfold ahd at ha <;> omega
theorem pick_0 {b wd q la : Nat → Nat} {P K k : Nat} {s : Nat → Nat} (hP : P ≤ 8) (hS : KS b wd q P K s) (hL : LAP q P K s K k la) : nxI b wd q la P = 99 := by
  rcases nxI_ok (b := b) (wd := wd) (q := q) (la := la) P (by omega) with ⟨y1, y2⟩ | ⟨y1, y2, y3⟩
  · exact y1
  · obtain ⟨x, hx, hxe⟩ := hS.2.2.2 (nxI b wd q la P) y1 (by omega)
    rw [← hxe] at y2
    have := hL.1 x hx hx
    omega
theorem lap_1 {b wd q la : Nat → Nat} {P K e k : Nat} {s : Nat → Nat} (hS : KS b wd q P K s) (hL : LAP q P K s e k la) (he : e < K) (hk : k < q (s e)) : LAP q P K s e (k + 1) (la1 la (s e)) := by
  have hke := hL.2.1 he
  refine ⟨fun x h1 h2 => ?_, fun _ => ?_, fun x h1 h2 => ?_, fun p hp => ?_⟩
  · unfold la1
    rw [if_neg (fun z => by have := ks_inj hS h2 he z; omega)]
    exact hL.1 x h1 h2
  · unfold la1
    rw [if_pos rfl, hke]
  · unfold la1
    rw [if_neg (fun z => by have := ks_inj hS h2 he z; omega)]
    exact hL.2.2.1 x h1 h2
  · unfold la1
    by_cases y : p = s e
    · subst y
      rw [if_pos rfl]; omega
    · rw [if_neg y]
      exact hL.2.2.2 p hp
theorem lap_n {q la : Nat → Nat} {P K e : Nat} {s : Nat → Nat} (hL : LAP q P K s e (q (s e)) la) : LAP q P K s (e + 1) 0 la := by
  refine ⟨fun x h1 h2 => ?_, fun h => hL.2.2.1 _ (by omega) h, fun x h1 h2 => hL.2.2.1 x (by omega) h2, hL.2.2.2⟩
  by_cases y : x = e
  · subst y; exact hL.2.1 h2
  · exact hL.1 x (by omega) h2
theorem KA.keep {b wd q : Nat → Nat} {K : Nat} {s : Nat → Nat} {S S' : St} (h : KA b wd q K s S) (h1 : ∀ k j, (k < 20 ∨ 28 < k ∨ k = 21 ∨ k = 22 ∨ k = 23) → gi S' k j = gi S k j) (h2 : gi S' 20 5 = gi S 20 5) : KA b wd q K s S' := ⟨by rw [h2]; exact h.1, fun k hk => by rw [h1 _ _ (by omega), h1 _ _ (by omega), h1 _ _ (by omega)]; exact h.2 k hk⟩
section Walk
variable {P t K : Nat} {b wd q : Nat → Nat} {s : Nat → Nat} {all wide : Int32} {M0 : St}
theorem inner_W (hP : P ≤ 8) (hb : ∀ p, p < P → (10 ≤ b p ∧ b p ≤ 1200) ∧ 10 ≤ wd p ∧ wd p ≤ 300) (hsum : sumN q P ≤ 40) (hX : ∀ M1, scrM M0 M1 → NXm P t b wd q M1) (hS : KS b wd q P K s) {e : Nat} (he : e < K) (hfit : nI (lgN b wd (s e)) ≤ all ∧ nI (shN b wd (s e)) ≤ wide) : ∀ (r k m : Nat) (la : Nat → Nat) (w21 w22 : Int64) (S M : St), k + r = q (s e) → r < m → LAP q P K s e k la → KA b wd q K s S → NS all wide (sumN la P) w21 w22 S M → LM P la M0 M → ∃ (la' : Nat → Nat) (S' M' : St) (w21' w22' : Int64), lq2 (fX3_layAll_L12 (nI e)) m (nI k) S = some S' ∧ (∀ what fu, lq4 (fX9_nest_L128 what all wide (nI t)) (fu + r) w21 w22 (enc (nxI b wd q la P)) M = lq4 (fX9_nest_L128 what all wide (nI t)) fu w21' w22' (enc (nxI b wd q la' P)) M') ∧ LAP q P K s e (q (s e)) la' ∧ sumN la' P = sumN la P + r ∧ KA b wd q K s S' ∧ NS all wide (sumN la' P) w21' w22' S' M' ∧ LM P la' M0 M' ∧ ∀ k j, (k < 20 ∨ 28 < k) → gi S' k j = gi S k j := by
  have hse := hS.2.1 e he
  have hK8 : K ≤ 8 := by have := hS.1; omega
  intro r
  induction r with
  | zero =>
    intro k m la w21 w22 S M hk hm hL hA hN hM
    obtain ⟨m, rfl⟩ : ∃ q, m = q + 1 := ⟨m - 1, by omega⟩
    have hke : k = q (s e) := by omega
    refine ⟨la, S, M, w21, w22, ?_, fun what fu => rfl, by rw [← hke]; exact hL, rfl, hA, hN, hM, fun _ _ _ => rfl⟩
    have hq40 : q (s e) ≤ 40 := by
      have h1 := sumN_lt (f := fun _ => 0) (g := q) (p := s e) P (fun _ _ => Nat.zero_le _) hse.1 hse.2
      have h2 : q (s e) ≤ sumN q P := by
        have : ∀ n, s e < n → q (s e) ≤ sumN q n := by
          intro n
          induction n with
          | zero => intro h; omega
          | succ n ih =>
            intro h
            rw [sumN]
            by_cases y : s e = n
            · rw [y]; omega
            · have := ih (by omega); omega
        exact this P hse.1
      omega
    rw [lq2_1, fX3_layAll_L12, gd_t (inb_nI (show e < 8 by omega) (by omega)), nI_clamp (n := e) (by omega), (hA.2 e he).2.2, if_pos (nI_le (by omega) (by omega))]
  | succ r ih =>
    intro k m la w21 w22 S M hk hm hL hA hN hM
    obtain ⟨m, rfl⟩ : ∃ q, m = q + 1 := ⟨m - 1, by omega⟩
    have hav : la (s e) < q (s e) := by rw [hL.2.1 he]; omega
    obtain ⟨S1, M1, v21, v22, x1, x2, x3, x4, x5, x6⟩ := step_M hP hb hsum hL.2.2.2 hX hM hse.1 hav hfit hN
    obtain ⟨la', S', M', w21', w22', y1, y2, y3, y4, y5, y6, y7, y8⟩ := ih (k + 1) m (la1 la (s e)) v21 v22 S1 M1 (by omega) (by omega) (lap_1 hS hL he (by omega)) (hA.keep x5 x6) x3 x4
    have hq40 : q (s e) ≤ 40 := by
      have : ∀ n, s e < n → q (s e) ≤ sumN q n := by
        intro n
        induction n with
        | zero => intro h; omega
        | succ n ih =>
          intro h
          rw [sumN]
          by_cases y : s e = n
          · rw [y]; omega
          · have := ih (by omega); omega
      have := this P hse.1
      omega
    refine ⟨la', S', M', w21', w22', ?_, fun what fu => ?_, y3, ?_, y5, y6, y7, fun k j hk => by rw [y8 k j hk, x5 k j (by omega)]⟩
    · obtain ⟨c1, c2, c3⟩ := hA.2 e he
      rw [lq2_1, fX3_layAll_L12, gd_t (inb_nI (show e < 8 by omega) (by omega)), nI_clamp (n := e) (by omega), c3, if_neg (nI_ge (by omega) (by omega)), gd_t (inb_nI (show e < 8 by omega) (by omega)), gd_t (inb_nI (show e < 8 by omega) (by omega)), c1, c2, x1]
      simp only [bn1_s, bv, nI_1]
      exact y1
    · have hn : nxI b wd q la P = s e := pick_N hP hS hL he (by omega)
      have en : enc (s e) = nI (s e) := if_neg (by omega)
      rw [hn, en, show fu + (r + 1) = (fu + r) + 1 by omega, x2]
      exact y2 what fu
    · rw [y4, sumN_1, if_pos hse.1]; omega
theorem outer_W (hP : P ≤ 8) (hb : ∀ p, p < P → (10 ≤ b p ∧ b p ≤ 1200) ∧ 10 ≤ wd p ∧ wd p ≤ 300) (hsum : sumN q P ≤ 40) (hX : ∀ M1, scrM M0 M1 → NXm P t b wd q M1) (hS : KS b wd q P K s) {E : Nat} (hE : E ≤ K) (hfit : ∀ e, e < E → nI (lgN b wd (s e)) ≤ all ∧ nI (shN b wd (s e)) ≤ wide) : ∀ (n e : Nat) (la : Nat → Nat) (w21 w22 : Int64) (S M : St), e + n = E → LAP q P K s e 0 la → KA b wd q K s S → NS all wide (sumN la P) w21 w22 S M → LM P la M0 M → ∃ (la' : Nat → Nat) (S' M' : St) (w21' w22' : Int64) (R : Nat), (∀ m, lq2 fX3_layAll_L2 (m + n) (nI e) S = lq2 fX3_layAll_L2 m (nI E) S') ∧ (∀ what fu, lq4 (fX9_nest_L128 what all wide (nI t)) (fu + R) w21 w22 (enc (nxI b wd q la P)) M = lq4 (fX9_nest_L128 what all wide (nI t)) fu w21' w22' (enc (nxI b wd q la' P)) M') ∧ LAP q P K s E 0 la' ∧ sumN la' P = sumN la P + R ∧ KA b wd q K s S' ∧ NS all wide (sumN la' P) w21' w22' S' M' ∧ LM P la' M0 M' ∧ ∀ k j, (k < 20 ∨ 28 < k) → gi S' k j = gi S k j := by
  have hK8 : K ≤ 8 := by have := hS.1; omega
  intro n
  induction n with
  | zero =>
    intro e la w21 w22 S M he hL hA hN hM
    obtain rfl : e = E := by omega
    exact ⟨la, S, M, w21, w22, 0, fun m => rfl, fun what fu => rfl, hL, rfl, hA, hN, hM, fun _ _ _ => rfl⟩
  | succ n ih =>
    intro e la w21 w22 S M he hL hA hN hM
    have heK : e < K := by omega
    have hse := hS.2.1 e heK
    have hq40 : q (s e) ≤ 40 := by
      have : ∀ n, s e < n → q (s e) ≤ sumN q n := by
        intro n
        induction n with
        | zero => intro h; omega
        | succ n ih =>
          intro h
          rw [sumN]
          by_cases y : s e = n
          · rw [y]; omega
          · have := ih (by omega); omega
      have := this P hse.1
      omega
    obtain ⟨la1', S1, M1, v21, v22, x1, x2, x3, x4, x5, x6, x7, x8⟩ := inner_W hP hb hsum hX hS heK (hfit e (by omega)) (q (s e)) 0 200 la w21 w22 S M (by omega) (by omega) hL hA hN hM
    obtain ⟨la', S', M', w21', w22', R, y1, y2, y3, y4, y5, y6, y7, y8⟩ := ih (e + 1) la1' v21 v22 S1 M1 (by omega) (lap_n x3) x5 x6 x7
    rw [nI_0] at x1
    refine ⟨la', S', M', w21', w22', R + q (s e), fun m => ?_, fun what fu => ?_, y3, by rw [y4, x4]; omega, y5, y6, y7, fun k j hk => by rw [y8 k j hk, x8 k j hk]⟩
    · rw [show m + (n + 1) = (m + n) + 1 by omega, lq2_1, fX3_layAll_L2, hA.1, if_neg (nI_ge (by omega) (by omega)), x1]
      simp only [bn1_s, bv, nI_1]
      exact y1 m
    · rw [show fu + (R + q (s e)) = (fu + R) + q (s e) by omega, x2]
      exact y2 what fu
end Walk
