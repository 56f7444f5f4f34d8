/-! ===== all pieces, on both sides ===== -/
theorem sumN_le {f g : Nat → Nat} : ∀ n, (∀ p, p < n → f p ≤ g p) → sumN f n ≤ sumN g n := by
  intro n
  induction n with
  | zero => intro _; exact Nat.le_refl _
  | succ n ih =>
    intro h
    have h1 := ih (fun p hp => h p (by omega))
    have h2 := h n (by omega)
    rw [sumN, sumN]; omega
theorem sumN_lt {f g : Nat → Nat} {p : Nat} : ∀ n, (∀ p, p < n → f p ≤ g p) → p < n → f p < g p → sumN f n < sumN g n := by
  intro n
  induction n with
  | zero => intro _ h; omega
  | succ n ih =>
    intro h hp hl
    rw [sumN, sumN]
    by_cases y : p = n
    · subst y
      have := sumN_le p (fun x hx => h x (by omega))
      omega
    · have h1 := ih (fun x hx => h x (by omega)) (by omega) hl
      have h2 := h n (by omega)
      omega
def la1 (la : Nat → Nat) (p : Nat) : Nat → Nat := fun x => if x = p then la p + 1 else la x
theorem sumN_1 {la : Nat → Nat} {p : Nat} : ∀ n, sumN (la1 la p) n = sumN la n + if p < n then 1 else 0 := sumN_up (q := la) (p := p) (w := 1)
/-- the reference's part of the nest: what is laid, and that the store is its own but for scratch -/
def LM (P : Nat) (la : Nat → Nat) (M0 M : St) : Prop := scrM M0 M ∧ gi M 0 0 = 0 ∧ ∀ p, p < P → gi M 27 p = nI (la p)
theorem step_M {P t p : Nat} {b wd q la : Nat → Nat} {all wide : Int32} {w21 w22 : Int64} {S M0 M : St} (hP : P ≤ 8) (hb : ∀ p, p < P → (10 ≤ b p ∧ b p ≤ 1200) ∧ 10 ≤ wd p ∧ wd p ≤ 300) (hsum : sumN q P ≤ 40) (hla : ∀ p, p < P → la p ≤ q p) (hX : ∀ M1, scrM M0 M1 → NXm P t b wd q M1) (hL : LM P la M0 M) (hp : p < P) (hav : la p < q p) (hfit : nI (lgN b wd p) ≤ all ∧ nI (shN b wd p) ≤ wide) (hN : NS all wide (sumN la P) w21 w22 S M) : ∃ (S' M' : St) (w21' w22' : Int64), fX3_lay S (nI (lgN b wd p)) (nI (shN b wd p)) = some S' ∧ (∀ what fu, lq4 (fX9_nest_L128 what all wide (nI t)) (fu + 1) w21 w22 (nI p) M = lq4 (fX9_nest_L128 what all wide (nI t)) fu w21' w22' (enc (nxI b wd q (la1 la p) P)) M') ∧ NS all wide (sumN (la1 la p) P) w21' w22' S' M' ∧ LM P (la1 la p) M0 M' ∧ (∀ k j, (k < 20 ∨ 28 < k ∨ k = 21 ∨ k = 22 ∨ k = 23) → gi S' k j = gi S k j) ∧ gi S' 20 5 = gi S 20 5 := by
  obtain ⟨l1, l2, l3⟩ := hL
  obtain ⟨c1, c2⟩ := hb p hp
  have hq40 : ∀ x, x < P → q x ≤ 40 ∧ la1 la p x ≤ 40 := fun x hx => by
    have h9 : q x ≤ sumN q P := by
      have : ∀ n, x < n → q x ≤ sumN q n := by
        intro n
        induction n with
        | zero => intro h; omega
        | succ n ih =>
          intro h
          rw [sumN]
          by_cases y : x = n
          · subst y; omega
          · have := ih (by omega); omega
      exact this P hx
    have h8 := hla x hx
    unfold la1
    split
    · rename_i y
      subst y
      omega
    · omega
  have hlt := sumN_lt P hla hp hav
  obtain ⟨m1, m2⟩ := long_M hP hp c1.2 c2.2 (hX M l1)
  have lb : lgN b wd p ≤ 1200 := by unfold lgN; omega
  have sb : shN b wd p ≤ 1200 ∧ 0 < shN b wd p := by unfold shN; omega
  obtain ⟨r, S', M1, v39, x1, x2, x3, x4, x5, x6, x7, x8⟩ := piece_eq hN (by omega) lb sb.1 sb.2
  have h27 : ∀ x, gi (si (si M1 31 r (gi M1 31 r - nI (lgN b wd p))) 32 r (nI (shN b wd p))) 27 x = gi M 27 x := fun x => by rw [gi_ne (by decide), gi_ne (by decide), x8 _ _ (by decide) (by omega)]
  have hscr : scrM M0 (si (si (si M1 31 r (gi M1 31 r - nI (lgN b wd p))) 32 r (nI (shN b wd p))) 27 p (nI (la p + 1))) := l1.tr (fun k j h1 h2 => by
    rw [gi_ne (by omega), gi_ne (by omega), gi_ne (by omega), x8 k j (by omega) (by omega)])
  have h27' : ∀ x, x < P → gi (si (si (si M1 31 r (gi M1 31 r - nI (lgN b wd p))) 32 r (nI (shN b wd p))) 27 p (nI (la p + 1))) 27 x = nI (la1 la p x) := fun x hx => by
    unfold la1
    by_cases y : x = p
    · subst y
      rw [gi_eq, if_pos rfl]
    · rw [gi_nj y, h27, l3 x hx, if_neg y]
  have hnx := next_M hP hb hq40 (hX _ hscr) h27'
  have np : ¬ nI p = -1 := fun w => by
    have h2 := nI_toInt (show p < 2 ^ 31 by omega)
    rw [w, show (-1 : Int32).toInt = -1 from rfl] at h2
    omega
  refine ⟨S', si (si (si M1 31 r (gi M1 31 r - nI (lgN b wd p))) 32 r (nI (shN b wd p))) 27 p (nI (la p + 1)), w21 + ((2 : Int64) * (Int32.toInt64 (nI (lgN b wd p) + nI (shN b wd p))) - Int32.toInt64 v39), w22 + (Int32.toInt64 (nI (lgN b wd p))) * (Int32.toInt64 (nI (shN b wd p))), x1, fun what fu => ?_, ?_, ⟨hscr, ?_, h27'⟩, x6, x7⟩
  · rw [lq4_1, fX9_nest_L128, if_neg np, m1, m2]
    simp only [bn1_s, jn1]
    rw [if_neg (i_nlt.mpr hfit.1), if_pos hfit.2, x2]
    simp only [bn2_s, gd_t (inb_nI (show r < 40 by omega) (by omega)), nI_clamp (show r < 2 ^ 31 by omega)]
    rw [x4]
    simp only [bn1_s, bv, gd_t (inb_nI (show p < 8 by omega) (by omega)), nI_clamp (show p < 2 ^ 31 by omega), h27, l3 p hp, nI_1, hnx]
  · rw [sumN_1, if_pos hp]
    obtain ⟨R, H, q1, q2, q3, q4, q5, q6, q7⟩ := x5
    exact ⟨R, H, q1, ⟨q2.1, by rw [gi_ne (by decide)]; exact q2.2⟩, ⟨q3.1, by rw [gi_ne (by decide)]; exact q3.2⟩, q4, fun i hi => by rw [gi_ne (by decide), gi_ne (by decide), gi_ne (by decide), gi_ne (by decide)]; exact q5 i hi, fun i hi => by rw [gi_ne (by decide)]; exact q6 i hi, q7⟩
  · rw [gi_ne (by decide), gi_ne (by decide), gi_ne (by decide), x8 _ _ (by decide) (by omega)]; exact l2
