/-! ===== nests: sides, and the piece that is laid next ===== -/
def lgN (b wd : Nat → Nat) (p : Nat) : Nat := max (b p) (wd p)
def shN (b wd : Nat → Nat) (p : Nat) : Nat := min (b p) (wd p)
def NXs (P t : Nat) (b wd q : Nat → Nat) (S : St) : Prop := gi S 0 2 = nI P ∧ ∀ p, p < P → fX4_blankBy S (29 + 7 * p) (85 + 2 * t) = some (nI (b p)) ∧ gi S (29 + 7 * p) 1 = nI (wd p) ∧ gi S 6 p = nI (q p)
def NXm (P t : Nat) (b wd q : Nat → Nat) (M : St) : Prop := gi M 0 4 = nI P ∧ ∀ p, p < P → fX9_blankBy M (nI p) (nI t) = some (nI (b p)) ∧ gi M 6 p = nI (wd p) ∧ gi M 19 p = nI (q p)
theorem RelN.nx {P T B F t : Nat} {S M : St} (h : RelN P T B F S M) (ht : t < T) : ∃ b wd q : Nat → Nat, (∀ p, p < P → (10 ≤ b p ∧ b p ≤ 1200) ∧ 10 ≤ wd p ∧ wd p ≤ 300) ∧ sumN q P ≤ 40 ∧ (∀ S1, scrX S S1 → NXs P t b wd q S1) ∧ ∀ M1, scrM M M1 → NXm P t b wd q M1 := by
  obtain ⟨⟨⟨a1, a2, -, -⟩, -⟩, -, h3, h4, -, -, ⟨q, q1, q2, q3, q4⟩, -⟩ := id h
  have hb : ∀ p, ∃ w, p < P → (10 ≤ w ∧ w ≤ 1200) ∧ fX4_blankBy S (29 + 7 * p) (85 + 2 * t) = some (nI w) ∧ fX9_blankBy M (nI p) (nI t) = some (nI w) := fun p => by
    by_cases hp : p < P
    · obtain ⟨w, w1, w2, w3, w4⟩ := blank_eq (by omega) (by omega) (h3 p hp) (h4 t ht)
      exact ⟨w, fun _ => ⟨⟨w1, w2⟩, w3, w4⟩⟩
    · exact ⟨0, fun z => absurd z hp⟩
  have hw : ∀ p, ∃ w, p < P → (10 ≤ w ∧ w ≤ 300) ∧ gi M 6 p = nI w := fun p => by
    by_cases hp : p < P
    · obtain ⟨f, th, hh, -, -, -, ⟨-, u5⟩, -⟩ := h3 p hp
      obtain ⟨w, w1, w2, w3⟩ := btw_nat (a := 10) (b := 300) u5 (by omega) (by omega)
      exact ⟨w, fun _ => ⟨⟨w1, w2⟩, w3⟩⟩
    · exact ⟨0, fun z => absurd z hp⟩
  obtain ⟨b, hb⟩ := Classical.axiomOfChoice hb
  obtain ⟨wd, hw⟩ := Classical.axiomOfChoice hw
  refine ⟨b, wd, q, fun p hp => ⟨(hb p hp).1, (hw p hp).1⟩, q4, fun S1 hS => ?_, fun M1 hM => ?_⟩
  · have h1 := h.keep hS scrM_r
    refine ⟨h1.1.2.1.1, fun p hp => ⟨?_, ?_, ?_⟩⟩
    · obtain ⟨w, -, -, w3, w4⟩ := blank_eq (by omega) (by omega) (h1.2.2.1 p hp) (h1.2.2.2.1 t ht)
      rw [w3, ← (hb p hp).2.2, w4]
    · obtain ⟨f, th, hh, -, -, -, ⟨u4, -⟩, -⟩ := h1.2.2.1 p hp
      rw [u4]; exact (hw p hp).2
    · rw [hS _ _ (by omega)]; exact (q1 p (by omega)).1
  · have h1 := h.keep scrX_r hM
    refine ⟨h1.1.2.2.1, fun p hp => ⟨?_, ?_, ?_⟩⟩
    · obtain ⟨w, -, -, w3, w4⟩ := blank_eq (by omega) (by omega) (h1.2.2.1 p hp) (h1.2.2.2.1 t ht)
      rw [w4, ← (hb p hp).2.1, w3]
    · rw [hM _ _ (by omega) (by omega)]; exact (hw p hp).2
    · rw [hM _ _ (by omega) (by omega)]; exact (q1 p (by omega)).2
theorem long_M {P t p : Nat} {b wd q : Nat → Nat} {M : St} (hP : P ≤ 8) (hp : p < P) (hb : b p ≤ 1200) (hw : wd p ≤ 300) (h : NXm P t b wd q M) : fX9_longer M (nI p) (nI t) = some (nI (lgN b wd p)) ∧ fX9_shorter M (nI p) (nI t) = some (nI (shN b wd p)) := by
  obtain ⟨h1, h2, h3⟩ := h.2 p hp
  unfold fX9_longer fX9_shorter lgN shN
  rw [h1]
  simp only [bn1_s, gd_t (inb_nI (show p < 8 by omega) (by omega)), nI_clamp (show p < 2 ^ 31 by omega), h2]
  by_cases z : b p ≤ wd p
  · rw [if_pos (nI_le z (by omega)), if_pos (nI_le z (by omega)), show max (b p) (wd p) = wd p by omega, show min (b p) (wd p) = b p by omega]
    exact ⟨rfl, rfl⟩
  · rw [if_neg (nI_ge (by omega) (by omega)), if_neg (nI_ge (by omega) (by omega)), show max (b p) (wd p) = b p by omega, show min (b p) (wd p) = wd p by omega]
    exact ⟨rfl, rfl⟩
/-- p is laid before p' -/
def key (b wd : Nat → Nat) (p : Nat) : Nat := lgN b wd p * 2000 + shN b wd p
def ahd (b wd : Nat → Nat) (p p' : Nat) : Prop := key b wd p' < key b wd p ∨ (key b wd p = key b wd p' ∧ p ≤ p')
/-- of the parts below i: the one that is laid next (99: none) -/
def nxI (b wd q la : Nat → Nat) : Nat → Nat
  | 0 => 99
  | i + 1 => if la i < q i ∧ (nxI b wd q la i = 99 ∨ key b wd (nxI b wd q la i) < key b wd i) then i else nxI b wd q la i
theorem nxI_ok {b wd q la : Nat → Nat} : ∀ i, i < 99 → (nxI b wd q la i = 99 ∧ ∀ p, p < i → ¬ la p < q p) ∨ (nxI b wd q la i < i ∧ la (nxI b wd q la i) < q (nxI b wd q la i) ∧ ∀ p, p < i → la p < q p → ahd b wd (nxI b wd q la i) p) := by
  intro i
  induction i with
  | zero => intro _; exact Or.inl ⟨rfl, fun p h => by omega⟩
  | succ i ih =>
    intro hi
    rw [nxI]
    by_cases z : la i < q i ∧ (nxI b wd q la i = 99 ∨ key b wd (nxI b wd q la i) < key b wd i)
    · rw [if_pos z]
      right
      refine ⟨by omega, z.1, fun p hp hl => ?_⟩
      by_cases e : p = i
      · subst e; exact Or.inr ⟨rfl, Nat.le_refl p⟩
      · rcases ih (by omega) with ⟨y1, y2⟩ | ⟨y1, y2, y3⟩
        · exact absurd hl (y2 p (by omega))
        · have y4 := y3 p (by omega) hl
          have y5 := z.2.resolve_left (by omega)
          left
          rcases y4 with y4 | y4 <;> omega
    · rw [if_neg z]
      rcases ih (by omega) with ⟨y1, y2⟩ | ⟨y1, y2, y3⟩
      · left
        refine ⟨y1, fun p hp hl => ?_⟩
        by_cases e : p = i
        · subst e; exact z ⟨hl, Or.inl y1⟩
        · exact y2 p (by omega) hl
      · right
        refine ⟨by omega, y2, fun p hp hl => ?_⟩
        by_cases e : p = i
        · subst e
          have : ¬ key b wd (nxI b wd q la p) < key b wd p := fun w => z ⟨hl, Or.inr w⟩
          by_cases w : key b wd p = key b wd (nxI b wd q la p)
          · exact Or.inr ⟨w.symm, by omega⟩
          · exact Or.inl (by omega)
        · exact y3 p (by omega) hl
theorem next_M {P t : Nat} {b wd q la : Nat → Nat} {M : St} (hP : P ≤ 8) (hb : ∀ p, p < P → (10 ≤ b p ∧ b p ≤ 1200) ∧ 10 ≤ wd p ∧ wd p ≤ 300) (hq : ∀ p, p < P → q p ≤ 40 ∧ la p ≤ 40) (h : NXm P t b wd q M) (hl : ∀ p, p < P → gi M 27 p = nI (la p)) : fX9_nextPiece M (nI t) = some (enc (nxI b wd q la P)) := by
  have main : ∀ m i fu, i + m = P → m < fu → lq2 (fX9_nextPiece_L4 M (nI t)) fu (enc (nxI b wd q la i)) (nI i) = some (enc (nxI b wd q la P)) := by
    intro m
    induction m with
    | zero =>
      intro i fu hi hf
      obtain ⟨fu, rfl⟩ : ∃ q, fu = q + 1 := ⟨fu - 1, by omega⟩
      obtain rfl : i = P := by omega
      rw [lq2_1, fX9_nextPiece_L4, h.1, if_pos (nI_le (by omega) (by omega))]
    | succ m ih =>
      intro i fu hi hf
      obtain ⟨fu, rfl⟩ : ∃ q, fu = q + 1 := ⟨fu - 1, by omega⟩
      have hrec := ih (i + 1) fu (by omega) (by omega)
      have hi8 : i < P := by omega
      obtain ⟨c1, c2⟩ := hb i hi8
      obtain ⟨l1, l2⟩ := long_M hP hi8 c1.2 c2.2 h
      have hqi := hq i hi8
      rw [nxI] at hrec
      rw [lq2_1, fX9_nextPiece_L4, h.1, if_neg (nI_ge (by omega) (by omega)), l1, l2]
      simp only [jn0, bn1_s]
      have ek : enc i = nI i := if_neg (by omega)
      have hav : (nI (q i) ≤ nI (la i)) ↔ ¬ la i < q i := by rw [nI_leI (by omega) (by omega)]; omega
      rcases nxI_ok (b := b) (wd := wd) (q := q) (la := la) i (by omega) with ⟨y1, y2⟩ | ⟨y1, y2, y3⟩
      · rw [y1] at hrec ⊢
        rw [if_pos (show enc 99 = -1 from rfl)]
        simp only [bn1_s, gd_t (inb_nI (show i < 8 by omega) (by omega)), nI_clamp (show i < 2 ^ 31 by omega), (h.2 i hi8).2.2, hl i hi8, hav, if_pos (show enc 99 = -1 from rfl)]
        by_cases z : la i < q i
        · rw [if_pos ⟨z, Or.inl rfl⟩, ek] at hrec
          rw [if_neg (fun w => w z)]
          simp only [bn1_s, bv, nI_1]
          exact hrec
        · rw [if_neg (fun w => z w.1)] at hrec
          rw [if_pos z]
          simp only [bn1_s, bv, nI_1]
          exact hrec
      · generalize hf0 : nxI b wd q la i = f at *
        have hfP : f < P := by omega
        obtain ⟨d1, d2⟩ := hb f hfP
        obtain ⟨m1, m2⟩ := long_M hP hfP d1.2 d2.2 h
        have ef : enc f = nI f := if_neg (by omega)
        have nf : ¬ enc f = -1 := fun w => by have := (enc_1 (show f < 1000 by omega)).mp w; omega
        rw [if_neg nf, ef, m1, m2]
        simp only [bn1_s]
        have lb1 : lgN b wd i ≤ 1200 := by unfold lgN; omega
        have lb2 : lgN b wd f ≤ 1200 := by unfold lgN; omega
        have sb1 : shN b wd i ≤ 300 := by unfold shN; omega
        have sb2 : shN b wd f ≤ 300 := by unfold shN; omega
        have hbig : (if nI (lgN b wd f) < nI (lgN b wd i) then some (1 : Int32) else if nI (lgN b wd i) = nI (lgN b wd f) then (if nI (shN b wd i) ≤ nI (shN b wd f) then some 0 else some 1) else some 0) = some (if key b wd f < key b wd i then 1 else 0) := by
          unfold key
          by_cases z1 : lgN b wd f < lgN b wd i
          · rw [if_pos (nI_lt z1 (by omega)), if_pos (by omega)]
          · rw [if_neg (nI_nlt (by omega) (by omega))]
            by_cases z2 : lgN b wd i = lgN b wd f
            · rw [if_pos (by rw [z2])]
              by_cases z3 : shN b wd i ≤ shN b wd f
              · rw [if_pos (nI_le z3 (by omega)), if_neg (by omega)]
              · rw [if_neg (nI_ge (by omega) (by omega)), if_pos (by omega)]
            · rw [if_neg (nI_neq z2 (by omega) (by omega)), if_neg (by omega)]
        rw [hbig]
        simp only [bn1_s, gd_t (inb_nI (show i < 8 by omega) (by omega)), nI_clamp (show i < 2 ^ 31 by omega), (h.2 i hi8).2.2, hl i hi8, hav]
        rw [ef] at nf
        by_cases z : la i < q i
        · rw [if_neg (show ¬ ¬ la i < q i from fun w => w z), if_neg nf]
          by_cases z2 : key b wd f < key b wd i
          · rw [if_pos ⟨z, Or.inr z2⟩, ek] at hrec
            rw [if_pos z2, if_neg (by decide)]
            simp only [bn1_s, bv, nI_1]
            exact hrec
          · rw [if_neg (fun w => w.2.elim (fun w => by omega) z2), ef] at hrec
            rw [if_neg z2, if_pos rfl]
            simp only [bn1_s, bv, nI_1]
            exact hrec
        · rw [if_neg (fun w => z w.1), ef] at hrec
          rw [if_pos z]
          simp only [bn1_s, bv, nI_1]
          exact hrec
  unfold fX9_nextPiece
  have := main P 0 200 (by omega) (by omega)
  rw [nI_0] at this
  rw [show lq2 (fX9_nextPiece_L4 M (nI t)) 200 (-1) 0 = some (enc (nxI b wd q la P)) from this]
  rfl
