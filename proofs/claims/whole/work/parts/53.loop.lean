/-! ===== call by call: the class and the reference agree; the loop ===== -/
def AgV {α : Type} (R : St → St → Prop) (fX : Option ((String ⊕ α) × St)) (fM : Option (α × St)) : Prop := ∃ (v : α) (S' M' : St), fX = some (.inr v, S') ∧ fM = some (v, M') ∧ fX9_thrown M' = some 0 ∧ R S' M'
def AgX {α : Type} (R : St → St → Prop) (x : String) (k : Int32) (fX : Option ((String ⊕ α) × St)) (fM : Option (α × St)) : Prop := ∃ (v : α) (S' M' : St), fX = some (.inl x, S') ∧ fM = some (v, M') ∧ fX9_thrown M' = some k ∧ R S' M'
def onS {β : Type} (S : St) (x : Option β) : Option (β × St) := x.map (fun r => (r, S))
theorem onS_some {β : Type} {S S' : St} {x : Option β} {r : β} (h : onS S x = some (r, S')) : x = some r ∧ S' = S := by
  cases x with
  | none => cases h
  | some y => cases h; exact ⟨rfl, rfl⟩
theorem onS_of {β : Type} {S : St} {x : Option β} {r : β} (h : x = some r) : onS S x = some (r, S) := by rw [h]; rfl
theorem sub7 {L : Nat} (hL : L ≤ 3584) : (nI L - 7).toInt = (L : Int) - 7 := by
  rw [Int32.toInt_sub, nI_toInt (by omega)]
  rw [show (7 : Int32).toInt = 7 from rfl]
  exact Int.bmod_eq_of_le (by omega) (by omega)
def Ag_face (R : St → St → Prop) : Prop := ∀ S M, R S M → ∀ p1 p2 : Int32, AgV R (fX8_face S p1 p2) (fX9_face M p1 p2) ∨ AgX R "java/lang/IllegalArgumentException" 1 (fX8_face S p1 p2) (fX9_face M p1 p2) ∨ AgX R "java/lang/IllegalStateException" 2 (fX8_face S p1 p2) (fX9_face M p1 p2)
def Ag_wipe (R : St → St → Prop) : Prop := ∀ S M, R S M → ∃ (v : Int32) (S' M' : St), fX8_wipe S = some (v, S') ∧ fX9_wipe M = some (v, M') ∧ R S' M'
def Ag_part (R : St → St → Prop) : Prop := ∀ S M, R S M → ∀ p1 p2 : Int32, AgV R (fX8_part S p1 p2) (fX9_part M p1 p2) ∨ AgX R "java/lang/IllegalArgumentException" 1 (fX8_part S p1 p2) (fX9_part M p1 p2) ∨ AgX R "java/lang/IllegalStateException" 2 (fX8_part S p1 p2) (fX9_part M p1 p2)
def Ag_redraw (R : St → St → Prop) : Prop := ∀ S M, R S M → ∀ p1 p2 p3 : Int32, AgV R (fX8_redraw S p1 p2 p3) (fX9_redraw M p1 p2 p3) ∨ AgX R "java/lang/IndexOutOfBoundsException" 1 (fX8_redraw S p1 p2 p3) (fX9_redraw M p1 p2 p3) ∨ AgX R "java/lang/IllegalArgumentException" 2 (fX8_redraw S p1 p2 p3) (fX9_redraw M p1 p2 p3) ∨ AgX R "java/lang/IllegalStateException" 3 (fX8_redraw S p1 p2 p3) (fX9_redraw M p1 p2 p3)
def Ag_hole (R : St → St → Prop) : Prop := ∀ S M, R S M → ∀ p1 p2 p3 p4 : Int32, AgV R (fX8_hole S p1 p2 p3 p4) (fX9_hole M p1 p2 p3 p4) ∨ AgX R "java/lang/IndexOutOfBoundsException" 1 (fX8_hole S p1 p2 p3 p4) (fX9_hole M p1 p2 p3 p4) ∨ AgX R "java/lang/IllegalArgumentException" 2 (fX8_hole S p1 p2 p3 p4) (fX9_hole M p1 p2 p3 p4) ∨ AgX R "java/lang/IllegalStateException" 3 (fX8_hole S p1 p2 p3 p4) (fX9_hole M p1 p2 p3 p4)
def Ag_isNear (R : St → St → Prop) : Prop := ∀ S M, R S M → ∀ p1 p2 : Int32, AgV R (onS S (fX8_isNear S p1 p2)) (fX9_isNear M p1 p2) ∨ AgX R "java/lang/IndexOutOfBoundsException" 1 (onS S (fX8_isNear S p1 p2)) (fX9_isNear M p1 p2)
def Ag_told (R : St → St → Prop) : Prop := ∀ S M, R S M → ∀ p1 p2 : Int32, AgV R (onS S (fX8_told S p1 p2)) (fX9_told M p1 p2) ∨ AgX R "java/lang/IndexOutOfBoundsException" 1 (onS S (fX8_told S p1 p2)) (fX9_told M p1 p2) ∨ AgX R "java/lang/IllegalArgumentException" 2 (onS S (fX8_told S p1 p2)) (fX9_told M p1 p2)
def Ag_tool (R : St → St → Prop) : Prop := ∀ S M, R S M → ∀ p1 p2 p3 p4 p5 : Int32, AgV R (fX8_tool S p1 p2 p3 p4 p5) (fX9_tool M p1 p2 p3 p4 p5) ∨ AgX R "java/lang/IllegalArgumentException" 1 (fX8_tool S p1 p2 p3 p4 p5) (fX9_tool M p1 p2 p3 p4 p5) ∨ AgX R "java/lang/IllegalStateException" 2 (fX8_tool S p1 p2 p3 p4 p5) (fX9_tool M p1 p2 p3 p4 p5)
def Ag_trial (R : St → St → Prop) : Prop := ∀ S M, R S M → ∀ p1 p2 p3 : Int32, AgV R (fX8_trial S p1 p2 p3) (fX9_trial M p1 p2 p3) ∨ AgX R "java/lang/IndexOutOfBoundsException" 1 (fX8_trial S p1 p2 p3) (fX9_trial M p1 p2 p3) ∨ AgX R "java/lang/IllegalArgumentException" 2 (fX8_trial S p1 p2 p3) (fX9_trial M p1 p2 p3)
def Ag_blank (R : St → St → Prop) : Prop := ∀ S M, R S M → ∀ p1 p2 : Int32, AgV R (onS S (fX8_blank S p1 p2)) (fX9_blank M p1 p2) ∨ AgX R "java/lang/IndexOutOfBoundsException" 1 (onS S (fX8_blank S p1 p2)) (fX9_blank M p1 p2)
def Ag_why (R : St → St → Prop) : Prop := ∀ S M, R S M → ∀ p1 p2 p3 p4 : Int32, AgV R (fX8_why S p1 p2 p3 p4) (fX9_why M p1 p2 p3 p4) ∨ AgX R "java/lang/IndexOutOfBoundsException" 1 (fX8_why S p1 p2 p3 p4) (fX9_why M p1 p2 p3 p4) ∨ AgX R "java/lang/IllegalArgumentException" 2 (fX8_why S p1 p2 p3 p4) (fX9_why M p1 p2 p3 p4)
def Ag_point (R : St → St → Prop) : Prop := ∀ S M, R S M → ∀ p1 p2 p3 p4 p5 p6 : Int32, (p4 = 0 ∨ p4 = 1) → (p6 = 0 ∨ p6 = 1) → AgV R (fX8_point S p1 p2 p3 p4 p5 p6) (fX9_point M p1 p2 p3 p4 p5 p6) ∨ AgX R "java/lang/IndexOutOfBoundsException" 1 (fX8_point S p1 p2 p3 p4 p5 p6) (fX9_point M p1 p2 p3 p4 p5 p6) ∨ AgX R "java/lang/IllegalArgumentException" 2 (fX8_point S p1 p2 p3 p4 p5 p6) (fX9_point M p1 p2 p3 p4 p5 p6)
def Ag_flips (R : St → St → Prop) : Prop := ∀ S M, R S M → ∀ p1 p2 : Int32, AgV R (fX8_flips S p1 p2) (fX9_flips M p1 p2) ∨ AgX R "java/lang/IndexOutOfBoundsException" 1 (fX8_flips S p1 p2) (fX9_flips M p1 p2)
def Ag_flipsAnew (R : St → St → Prop) : Prop := ∀ S M, R S M → ∀ p1 p2 : Int32, AgV R (fX8_flipsAnew S p1 p2) (fX9_flipsAnew M p1 p2) ∨ AgX R "java/lang/IndexOutOfBoundsException" 1 (fX8_flipsAnew S p1 p2) (fX9_flipsAnew M p1 p2)
def Ag_ordered (R : St → St → Prop) : Prop := ∀ S M, R S M → ∀ p1 p2 p3 : Int32, AgV R (fX8_ordered S p1 p2 p3) (fX9_ordered M p1 p2 p3) ∨ AgX R "java/lang/IndexOutOfBoundsException" 1 (fX8_ordered S p1 p2 p3) (fX9_ordered M p1 p2 p3)
def Ag_want (R : St → St → Prop) : Prop := ∀ S M, R S M → ∀ p1 p2 : Int32, AgV R (fX8_want S p1 p2) (fX9_want M p1 p2) ∨ AgX R "java/lang/IndexOutOfBoundsException" 1 (fX8_want S p1 p2) (fX9_want M p1 p2) ∨ AgX R "java/lang/IllegalArgumentException" 2 (fX8_want S p1 p2) (fX9_want M p1 p2) ∨ AgX R "java/lang/IllegalStateException" 3 (fX8_want S p1 p2) (fX9_want M p1 p2)
def Ag_clear (R : St → St → Prop) : Prop := ∀ S M, R S M → ∃ (v : Int32) (S' M' : St), fX8_clear S = some (v, S') ∧ fX9_clear M = some (v, M') ∧ R S' M'
def Ag_nest (R : St → St → Prop) : Prop := ∀ S M, R S M → ∀ p1 p2 p3 p4 : Int32, AgV R (fX8_nest S p1 p2 p3 p4) (fX9_nest M p1 p2 p3 p4) ∨ AgX R "java/lang/IndexOutOfBoundsException" 1 (fX8_nest S p1 p2 p3 p4) (fX9_nest M p1 p2 p3 p4) ∨ AgX R "java/lang/IllegalArgumentException" 2 (fX8_nest S p1 p2 p3 p4) (fX9_nest M p1 p2 p3 p4)
def Ag_batch (R : St → St → Prop) : Prop := ∀ S M, R S M → ∀ p1 p2 p3 : Int32, AgV R (fX8_batch S p1 p2 p3) (fX9_batch M p1 p2 p3) ∨ AgX R "java/lang/IndexOutOfBoundsException" 1 (fX8_batch S p1 p2 p3) (fX9_batch M p1 p2 p3) ∨ AgX R "java/lang/IllegalArgumentException" 2 (fX8_batch S p1 p2 p3) (fX9_batch M p1 p2 p3) ∨ AgX R "java/lang/IllegalStateException" 3 (fX8_batch S p1 p2 p3) (fX9_batch M p1 p2 p3)
def Ag_work (R : St → St → Prop) : Prop := ∀ S M, R S M → ∀ p1 : Int32, AgV R (fX8_work S p1) (fX9_work M p1) ∨ AgX R "java/lang/IndexOutOfBoundsException" 1 (fX8_work S p1) (fX9_work M p1) ∨ AgX R "java/lang/IllegalStateException" 2 (fX8_work S p1) (fX9_work M p1)
def Ag_batchOf (R : St → St → Prop) : Prop := ∀ S M, R S M → ∀ p1 p2 : Int32, AgV R (onS S (fX8_batchOf S p1 p2)) (fX9_batchOf M p1 p2) ∨ AgX R "java/lang/IndexOutOfBoundsException" 1 (onS S (fX8_batchOf S p1 p2)) (fX9_batchOf M p1 p2) ∨ AgX R "java/lang/IllegalArgumentException" 2 (onS S (fX8_batchOf S p1 p2)) (fX9_batchOf M p1 p2)
def Ag_kits (R : St → St → Prop) : Prop := ∀ S M, R S M → ∀ p1 : Int32, AgV R (onS S (fX8_kits S p1)) (fX9_kits M p1) ∨ AgX R "java/lang/IllegalArgumentException" 1 (onS S (fX8_kits S p1)) (fX9_kits M p1)
def Ag_take (R : St → St → Prop) : Prop := ∀ S M, R S M → ∀ p1 p2 : Int32, AgV R (fX8_take S p1 p2) (fX9_take M p1 p2) ∨ AgX R "java/lang/IllegalArgumentException" 1 (fX8_take S p1 p2) (fX9_take M p1 p2) ∨ AgX R "java/lang/IllegalStateException" 2 (fX8_take S p1 p2) (fX9_take M p1 p2)
theorem bb_01 (x : Int32) : bb x = 0 ∨ bb x = 1 := by
  unfold bb
  split
  · exact Or.inl rfl
  · exact Or.inr rfl
theorem law_s0 {E : ET} {a b : Nat → Nat} {ao sb L : Nat} {xs : Nat → Int32} {R : St → St → Prop} (g : Ag_face R) (X : LX E a ao b sb L xs) {i : Nat} (hi : i + 7 ≤ L) {S M : St} {f : Nat → Int64} {c s : Nat} (hc : c + 8 ≤ 600000) (hs : s + 48 ≤ 7200000) (hR : R S M)
    (kk : ∀ S' M' f', R S' M' → Zz E (LW E a ao b S' f' M') (c + 8) (s + 48) 1822 [(4, .int (nI i)), (3, .ref ao), (2, .ref (b 0)), (1, .ref (a 0)), (0, .ref sb)] []) : Zz E (LW E a ao b S f M) c s 148 [(4, .int (nI i)), (3, .ref ao), (2, .ref (b 0)), (1, .ref (a 0)), (0, .ref sb)] [] := by
  rcases g S M hR (xs (i + 1)) (xs (i + 2))  with ⟨v, S', M', h1, h2, h3, h4⟩ | ⟨v, S', M', h1, h2, h3, h4⟩ | ⟨v, S', M', h1, h2, h3, h4⟩
  · exact law_c0 X hi hc hs (mL_face_v X.1.hT h1) h2 h3 (fun _ => by simp [vp_updL]) (kk _ _ _ h4)
  · exact law_c0 X hi hc hs (mL_face_1 X.1.hT h1) h2 h3 (fun q => absurd q (by decide)) (kk _ _ _ h4)
  · exact law_c0 X hi hc hs (mL_face_2 X.1.hT h1) h2 h3 (fun q => absurd q (by decide)) (kk _ _ _ h4)
theorem law_s1 {E : ET} {a b : Nat → Nat} {ao sb L : Nat} {xs : Nat → Int32} {R : St → St → Prop} (g : Ag_wipe R) (X : LX E a ao b sb L xs) {i : Nat} (hi : i + 7 ≤ L) {S M : St} {f : Nat → Int64} {c s : Nat} (hc : c + 8 ≤ 600000) (hs : s + 48 ≤ 7200000) (hR : R S M)
    (kk : ∀ S' M' f', R S' M' → Zz E (LW E a ao b S' f' M') (c + 8) (s + 48) 1822 [(4, .int (nI i)), (3, .ref ao), (2, .ref (b 0)), (1, .ref (a 0)), (0, .ref sb)] []) : Zz E (LW E a ao b S f M) c s 216 [(4, .int (nI i)), (3, .ref ao), (2, .ref (b 0)), (1, .ref (a 0)), (0, .ref sb)] [] := by
  obtain ⟨v, S', M', h1, h2, h4⟩ := g S M hR
  exact law_c1 X hc hs h1 h2 (kk _ _ _ h4)
theorem law_s2 {E : ET} {a b : Nat → Nat} {ao sb L : Nat} {xs : Nat → Int32} {R : St → St → Prop} (g : Ag_part R) (X : LX E a ao b sb L xs) {i : Nat} (hi : i + 7 ≤ L) {S M : St} {f : Nat → Int64} {c s : Nat} (hc : c + 8 ≤ 600000) (hs : s + 48 ≤ 7200000) (hR : R S M)
    (kk : ∀ S' M' f', R S' M' → Zz E (LW E a ao b S' f' M') (c + 8) (s + 48) 1822 [(4, .int (nI i)), (3, .ref ao), (2, .ref (b 0)), (1, .ref (a 0)), (0, .ref sb)] []) : Zz E (LW E a ao b S f M) c s 229 [(4, .int (nI i)), (3, .ref ao), (2, .ref (b 0)), (1, .ref (a 0)), (0, .ref sb)] [] := by
  rcases g S M hR (xs (i + 1)) (xs (i + 2))  with ⟨v, S', M', h1, h2, h3, h4⟩ | ⟨v, S', M', h1, h2, h3, h4⟩ | ⟨v, S', M', h1, h2, h3, h4⟩
  · exact law_c2 X hi hc hs (mL_part_v X.1.hT h1) h2 h3 (fun _ => by simp [vp_updL]) (kk _ _ _ h4)
  · exact law_c2 X hi hc hs (mL_part_1 X.1.hT h1) h2 h3 (fun q => absurd q (by decide)) (kk _ _ _ h4)
  · exact law_c2 X hi hc hs (mL_part_2 X.1.hT h1) h2 h3 (fun q => absurd q (by decide)) (kk _ _ _ h4)
theorem law_s3 {E : ET} {a b : Nat → Nat} {ao sb L : Nat} {xs : Nat → Int32} {R : St → St → Prop} (g : Ag_redraw R) (X : LX E a ao b sb L xs) {i : Nat} (hi : i + 7 ≤ L) {S M : St} {f : Nat → Int64} {c s : Nat} (hc : c + 8 ≤ 600000) (hs : s + 48 ≤ 7200000) (hR : R S M)
    (kk : ∀ S' M' f', R S' M' → Zz E (LW E a ao b S' f' M') (c + 8) (s + 48) 1822 [(4, .int (nI i)), (3, .ref ao), (2, .ref (b 0)), (1, .ref (a 0)), (0, .ref sb)] []) : Zz E (LW E a ao b S f M) c s 297 [(4, .int (nI i)), (3, .ref ao), (2, .ref (b 0)), (1, .ref (a 0)), (0, .ref sb)] [] := by
  rcases g S M hR (xs (i + 1)) (xs (i + 2)) (xs (i + 3))  with ⟨v, S', M', h1, h2, h3, h4⟩ | ⟨v, S', M', h1, h2, h3, h4⟩ | ⟨v, S', M', h1, h2, h3, h4⟩ | ⟨v, S', M', h1, h2, h3, h4⟩
  · exact law_c3 X hi hc hs (mL_redraw_v X.1.hT h1) h2 h3 (fun _ => by simp [vp_updL]) (kk _ _ _ h4)
  · exact law_c3 X hi hc hs (mL_redraw_1 X.1.hT h1) h2 h3 (fun q => absurd q (by decide)) (kk _ _ _ h4)
  · exact law_c3 X hi hc hs (mL_redraw_2 X.1.hT h1) h2 h3 (fun q => absurd q (by decide)) (kk _ _ _ h4)
  · exact law_c3 X hi hc hs (mL_redraw_3 X.1.hT h1) h2 h3 (fun q => absurd q (by decide)) (kk _ _ _ h4)
theorem law_s4 {E : ET} {a b : Nat → Nat} {ao sb L : Nat} {xs : Nat → Int32} {R : St → St → Prop} (g : Ag_hole R) (X : LX E a ao b sb L xs) {i : Nat} (hi : i + 7 ≤ L) {S M : St} {f : Nat → Int64} {c s : Nat} (hc : c + 8 ≤ 600000) (hs : s + 48 ≤ 7200000) (hR : R S M)
    (kk : ∀ S' M' f', R S' M' → Zz E (LW E a ao b S' f' M') (c + 8) (s + 48) 1822 [(4, .int (nI i)), (3, .ref ao), (2, .ref (b 0)), (1, .ref (a 0)), (0, .ref sb)] []) : Zz E (LW E a ao b S f M) c s 377 [(4, .int (nI i)), (3, .ref ao), (2, .ref (b 0)), (1, .ref (a 0)), (0, .ref sb)] [] := by
  rcases g S M hR (xs (i + 1)) (xs (i + 2)) (xs (i + 3)) (xs (i + 4))  with ⟨v, S', M', h1, h2, h3, h4⟩ | ⟨v, S', M', h1, h2, h3, h4⟩ | ⟨v, S', M', h1, h2, h3, h4⟩ | ⟨v, S', M', h1, h2, h3, h4⟩
  · exact law_c4 X hi hc hs (mL_hole_v X.1.hT h1) h2 h3 (fun _ => by simp [vp_updL]) (kk _ _ _ h4)
  · exact law_c4 X hi hc hs (mL_hole_1 X.1.hT h1) h2 h3 (fun q => absurd q (by decide)) (kk _ _ _ h4)
  · exact law_c4 X hi hc hs (mL_hole_2 X.1.hT h1) h2 h3 (fun q => absurd q (by decide)) (kk _ _ _ h4)
  · exact law_c4 X hi hc hs (mL_hole_3 X.1.hT h1) h2 h3 (fun q => absurd q (by decide)) (kk _ _ _ h4)
theorem law_s5 {E : ET} {a b : Nat → Nat} {ao sb L : Nat} {xs : Nat → Int32} {R : St → St → Prop} (g : Ag_isNear R) (X : LX E a ao b sb L xs) {i : Nat} (hi : i + 7 ≤ L) {S M : St} {f : Nat → Int64} {c s : Nat} (hc : c + 8 ≤ 600000) (hs : s + 48 ≤ 7200000) (hR : R S M)
    (kk : ∀ S' M' f', R S' M' → Zz E (LW E a ao b S' f' M') (c + 8) (s + 48) 1822 [(4, .int (nI i)), (3, .ref ao), (2, .ref (b 0)), (1, .ref (a 0)), (0, .ref sb)] []) : Zz E (LW E a ao b S f M) c s 469 [(4, .int (nI i)), (3, .ref ao), (2, .ref (b 0)), (1, .ref (a 0)), (0, .ref sb)] [] := by
  rcases g S M hR (xs (i + 1)) (xs (i + 2))  with ⟨v, S', M', h1, h2, h3, h4⟩ | ⟨v, S', M', h1, h2, h3, h4⟩
  · obtain ⟨h1, rfl⟩ := onS_some h1
    exact law_c5 X hi hc hs (mL_isNear_v X.1.hT h1) h2 h3 (fun _ => by simp [vp_updL]) (kk _ _ _ h4)
  · obtain ⟨h1, rfl⟩ := onS_some h1
    exact law_c5 X hi hc hs (mL_isNear_1 X.1.hT h1) h2 h3 (fun q => absurd q (by decide)) (kk _ _ _ h4)
theorem law_s6 {E : ET} {a b : Nat → Nat} {ao sb L : Nat} {xs : Nat → Int32} {R : St → St → Prop} (g : Ag_told R) (X : LX E a ao b sb L xs) {i : Nat} (hi : i + 7 ≤ L) {S M : St} {f : Nat → Int64} {c s : Nat} (hc : c + 8 ≤ 600000) (hs : s + 48 ≤ 7200000) (hR : R S M)
    (kk : ∀ S' M' f', R S' M' → Zz E (LW E a ao b S' f' M') (c + 8) (s + 48) 1822 [(4, .int (nI i)), (3, .ref ao), (2, .ref (b 0)), (1, .ref (a 0)), (0, .ref sb)] []) : Zz E (LW E a ao b S f M) c s 544 [(4, .int (nI i)), (3, .ref ao), (2, .ref (b 0)), (1, .ref (a 0)), (0, .ref sb)] [] := by
  rcases g S M hR (xs (i + 1)) (xs (i + 2))  with ⟨v, S', M', h1, h2, h3, h4⟩ | ⟨v, S', M', h1, h2, h3, h4⟩ | ⟨v, S', M', h1, h2, h3, h4⟩
  · obtain ⟨h1, rfl⟩ := onS_some h1
    exact law_c6 X hi hc hs (mL_told_v X.1.hT h1) h2 h3 (fun _ => by simp [vp_updL]) (kk _ _ _ h4)
  · obtain ⟨h1, rfl⟩ := onS_some h1
    exact law_c6 X hi hc hs (mL_told_1 X.1.hT h1) h2 h3 (fun q => absurd q (by decide)) (kk _ _ _ h4)
  · obtain ⟨h1, rfl⟩ := onS_some h1
    exact law_c6 X hi hc hs (mL_told_2 X.1.hT h1) h2 h3 (fun q => absurd q (by decide)) (kk _ _ _ h4)
theorem law_s7 {E : ET} {a b : Nat → Nat} {ao sb L : Nat} {xs : Nat → Int32} {R : St → St → Prop} (g : Ag_tool R) (X : LX E a ao b sb L xs) {i : Nat} (hi : i + 7 ≤ L) {S M : St} {f : Nat → Int64} {c s : Nat} (hc : c + 8 ≤ 600000) (hs : s + 48 ≤ 7200000) (hR : R S M)
    (kk : ∀ S' M' f', R S' M' → Zz E (LW E a ao b S' f' M') (c + 8) (s + 48) 1822 [(4, .int (nI i)), (3, .ref ao), (2, .ref (b 0)), (1, .ref (a 0)), (0, .ref sb)] []) : Zz E (LW E a ao b S f M) c s 612 [(4, .int (nI i)), (3, .ref ao), (2, .ref (b 0)), (1, .ref (a 0)), (0, .ref sb)] [] := by
  rcases g S M hR (xs (i + 1)) (xs (i + 2)) (xs (i + 3)) (xs (i + 4)) (xs (i + 5))  with ⟨v, S', M', h1, h2, h3, h4⟩ | ⟨v, S', M', h1, h2, h3, h4⟩ | ⟨v, S', M', h1, h2, h3, h4⟩
  · exact law_c7 X hi hc hs (mL_tool_v X.1.hT h1) h2 h3 (fun _ => by simp [vp_updL]) (kk _ _ _ h4)
  · exact law_c7 X hi hc hs (mL_tool_1 X.1.hT h1) h2 h3 (fun q => absurd q (by decide)) (kk _ _ _ h4)
  · exact law_c7 X hi hc hs (mL_tool_2 X.1.hT h1) h2 h3 (fun q => absurd q (by decide)) (kk _ _ _ h4)
theorem law_s8 {E : ET} {a b : Nat → Nat} {ao sb L : Nat} {xs : Nat → Int32} {R : St → St → Prop} (g : Ag_trial R) (X : LX E a ao b sb L xs) {i : Nat} (hi : i + 7 ≤ L) {S M : St} {f : Nat → Int64} {c s : Nat} (hc : c + 8 ≤ 600000) (hs : s + 48 ≤ 7200000) (hR : R S M)
    (kk : ∀ S' M' f', R S' M' → Zz E (LW E a ao b S' f' M') (c + 8) (s + 48) 1822 [(4, .int (nI i)), (3, .ref ao), (2, .ref (b 0)), (1, .ref (a 0)), (0, .ref sb)] []) : Zz E (LW E a ao b S f M) c s 716 [(4, .int (nI i)), (3, .ref ao), (2, .ref (b 0)), (1, .ref (a 0)), (0, .ref sb)] [] := by
  rcases g S M hR (xs (i + 1)) (xs (i + 2)) (xs (i + 3))  with ⟨v, S', M', h1, h2, h3, h4⟩ | ⟨v, S', M', h1, h2, h3, h4⟩ | ⟨v, S', M', h1, h2, h3, h4⟩
  · exact law_c8 X hi hc hs (mL_trial_v X.1.hT h1) h2 h3 (fun _ => by simp [vp_updL]) (kk _ _ _ h4)
  · exact law_c8 X hi hc hs (mL_trial_1 X.1.hT h1) h2 h3 (fun q => absurd q (by decide)) (kk _ _ _ h4)
  · exact law_c8 X hi hc hs (mL_trial_2 X.1.hT h1) h2 h3 (fun q => absurd q (by decide)) (kk _ _ _ h4)
theorem law_s9 {E : ET} {a b : Nat → Nat} {ao sb L : Nat} {xs : Nat → Int32} {R : St → St → Prop} (g : Ag_blank R) (X : LX E a ao b sb L xs) {i : Nat} (hi : i + 7 ≤ L) {S M : St} {f : Nat → Int64} {c s : Nat} (hc : c + 8 ≤ 600000) (hs : s + 48 ≤ 7200000) (hR : R S M)
    (kk : ∀ S' M' f', R S' M' → Zz E (LW E a ao b S' f' M') (c + 8) (s + 48) 1822 [(4, .int (nI i)), (3, .ref ao), (2, .ref (b 0)), (1, .ref (a 0)), (0, .ref sb)] []) : Zz E (LW E a ao b S f M) c s 796 [(4, .int (nI i)), (3, .ref ao), (2, .ref (b 0)), (1, .ref (a 0)), (0, .ref sb)] [] := by
  rcases g S M hR (xs (i + 1)) (xs (i + 2))  with ⟨v, S', M', h1, h2, h3, h4⟩ | ⟨v, S', M', h1, h2, h3, h4⟩
  · obtain ⟨h1, rfl⟩ := onS_some h1
    exact law_c9 X hi hc hs (mL_blank_v X.1.hT h1) h2 h3 (fun _ => by simp [vp_updL]) (kk _ _ _ h4)
  · obtain ⟨h1, rfl⟩ := onS_some h1
    exact law_c9 X hi hc hs (mL_blank_1 X.1.hT h1) h2 h3 (fun q => absurd q (by decide)) (kk _ _ _ h4)
theorem law_s10 {E : ET} {a b : Nat → Nat} {ao sb L : Nat} {xs : Nat → Int32} {R : St → St → Prop} (g : Ag_why R) (X : LX E a ao b sb L xs) {i : Nat} (hi : i + 7 ≤ L) {S M : St} {f : Nat → Int64} {c s : Nat} (hc : c + 8 ≤ 600000) (hs : s + 48 ≤ 7200000) (hR : R S M)
    (kk : ∀ S' M' f', R S' M' → Zz E (LW E a ao b S' f' M') (c + 8) (s + 48) 1822 [(4, .int (nI i)), (3, .ref ao), (2, .ref (b 0)), (1, .ref (a 0)), (0, .ref sb)] []) : Zz E (LW E a ao b S f M) c s 864 [(4, .int (nI i)), (3, .ref ao), (2, .ref (b 0)), (1, .ref (a 0)), (0, .ref sb)] [] := by
  rcases g S M hR (xs (i + 1)) (xs (i + 2)) (xs (i + 3)) (xs (i + 4))  with ⟨v, S', M', h1, h2, h3, h4⟩ | ⟨v, S', M', h1, h2, h3, h4⟩ | ⟨v, S', M', h1, h2, h3, h4⟩
  · exact law_c10 X hi hc hs (mL_why_v X.1.hT h1) h2 h3 (fun _ => by simp [vp_updL]) (kk _ _ _ h4)
  · exact law_c10 X hi hc hs (mL_why_1 X.1.hT h1) h2 h3 (fun q => absurd q (by decide)) (kk _ _ _ h4)
  · exact law_c10 X hi hc hs (mL_why_2 X.1.hT h1) h2 h3 (fun q => absurd q (by decide)) (kk _ _ _ h4)
theorem law_s11 {E : ET} {a b : Nat → Nat} {ao sb L : Nat} {xs : Nat → Int32} {R : St → St → Prop} (g : Ag_point R) (X : LX E a ao b sb L xs) {i : Nat} (hi : i + 7 ≤ L) {S M : St} {f : Nat → Int64} {c s : Nat} (hc : c + 8 ≤ 600000) (hs : s + 48 ≤ 7200000) (hR : R S M)
    (kk : ∀ S' M' f', R S' M' → Zz E (LW E a ao b S' f' M') (c + 8) (s + 48) 1822 [(4, .int (nI i)), (3, .ref ao), (2, .ref (b 0)), (1, .ref (a 0)), (0, .ref sb)] []) : Zz E (LW E a ao b S f M) c s 956 [(4, .int (nI i)), (3, .ref ao), (2, .ref (b 0)), (1, .ref (a 0)), (0, .ref sb)] [] := by
  rcases g S M hR (xs (i + 1)) (xs (i + 2)) (xs (i + 3)) (bb (xs (i + 4))) (xs (i + 5)) (bb (xs (i + 6))) (bb_01 _) (bb_01 _) with ⟨v, S', M', h1, h2, h3, h4⟩ | ⟨v, S', M', h1, h2, h3, h4⟩ | ⟨v, S', M', h1, h2, h3, h4⟩
  · exact law_c11 X hi hc hs (mL_point_v X.1.hT h1) h2 h3 (fun _ => by simp [vp_updL]) (kk _ _ _ h4)
  · exact law_c11 X hi hc hs (mL_point_1 X.1.hT h1) h2 h3 (fun q => absurd q (by decide)) (kk _ _ _ h4)
  · exact law_c11 X hi hc hs (mL_point_2 X.1.hT h1) h2 h3 (fun q => absurd q (by decide)) (kk _ _ _ h4)
theorem law_s12 {E : ET} {a b : Nat → Nat} {ao sb L : Nat} {xs : Nat → Int32} {R : St → St → Prop} (g : Ag_flips R) (X : LX E a ao b sb L xs) {i : Nat} (hi : i + 7 ≤ L) {S M : St} {f : Nat → Int64} {c s : Nat} (hc : c + 8 ≤ 600000) (hs : s + 48 ≤ 7200000) (hR : R S M)
    (kk : ∀ S' M' f', R S' M' → Zz E (LW E a ao b S' f' M') (c + 8) (s + 48) 1822 [(4, .int (nI i)), (3, .ref ao), (2, .ref (b 0)), (1, .ref (a 0)), (0, .ref sb)] []) : Zz E (LW E a ao b S f M) c s 1106 [(4, .int (nI i)), (3, .ref ao), (2, .ref (b 0)), (1, .ref (a 0)), (0, .ref sb)] [] := by
  rcases g S M hR (xs (i + 1)) (xs (i + 2))  with ⟨v, S', M', h1, h2, h3, h4⟩ | ⟨v, S', M', h1, h2, h3, h4⟩
  · exact law_c12 X hi hc hs (mL_flips_v X.1.hT h1) h2 h3 (fun _ => by simp [vp_updL]) (kk _ _ _ h4)
  · exact law_c12 X hi hc hs (mL_flips_1 X.1.hT h1) h2 h3 (fun q => absurd q (by decide)) (kk _ _ _ h4)
theorem law_s13 {E : ET} {a b : Nat → Nat} {ao sb L : Nat} {xs : Nat → Int32} {R : St → St → Prop} (g : Ag_flipsAnew R) (X : LX E a ao b sb L xs) {i : Nat} (hi : i + 7 ≤ L) {S M : St} {f : Nat → Int64} {c s : Nat} (hc : c + 8 ≤ 600000) (hs : s + 48 ≤ 7200000) (hR : R S M)
    (kk : ∀ S' M' f', R S' M' → Zz E (LW E a ao b S' f' M') (c + 8) (s + 48) 1822 [(4, .int (nI i)), (3, .ref ao), (2, .ref (b 0)), (1, .ref (a 0)), (0, .ref sb)] []) : Zz E (LW E a ao b S f M) c s 1174 [(4, .int (nI i)), (3, .ref ao), (2, .ref (b 0)), (1, .ref (a 0)), (0, .ref sb)] [] := by
  rcases g S M hR (xs (i + 1)) (xs (i + 2))  with ⟨v, S', M', h1, h2, h3, h4⟩ | ⟨v, S', M', h1, h2, h3, h4⟩
  · exact law_c13 X hi hc hs (mL_flipsAnew_v X.1.hT h1) h2 h3 (fun _ => by simp [vp_updL]) (kk _ _ _ h4)
  · exact law_c13 X hi hc hs (mL_flipsAnew_1 X.1.hT h1) h2 h3 (fun q => absurd q (by decide)) (kk _ _ _ h4)
theorem law_s14 {E : ET} {a b : Nat → Nat} {ao sb L : Nat} {xs : Nat → Int32} {R : St → St → Prop} (g : Ag_ordered R) (X : LX E a ao b sb L xs) {i : Nat} (hi : i + 7 ≤ L) {S M : St} {f : Nat → Int64} {c s : Nat} (hc : c + 8 ≤ 600000) (hs : s + 48 ≤ 7200000) (hR : R S M)
    (kk : ∀ S' M' f', R S' M' → Zz E (LW E a ao b S' f' M') (c + 8) (s + 48) 1822 [(4, .int (nI i)), (3, .ref ao), (2, .ref (b 0)), (1, .ref (a 0)), (0, .ref sb)] []) : Zz E (LW E a ao b S f M) c s 1242 [(4, .int (nI i)), (3, .ref ao), (2, .ref (b 0)), (1, .ref (a 0)), (0, .ref sb)] [] := by
  rcases g S M hR (xs (i + 1)) (xs (i + 2)) (xs (i + 3))  with ⟨v, S', M', h1, h2, h3, h4⟩ | ⟨v, S', M', h1, h2, h3, h4⟩
  · exact law_c14 X hi hc hs (mL_ordered_v X.1.hT h1) h2 h3 (fun _ => by simp [vp_updL]) (kk _ _ _ h4)
  · exact law_c14 X hi hc hs (mL_ordered_1 X.1.hT h1) h2 h3 (fun q => absurd q (by decide)) (kk _ _ _ h4)
theorem law_s15 {E : ET} {a b : Nat → Nat} {ao sb L : Nat} {xs : Nat → Int32} {R : St → St → Prop} (g : Ag_want R) (X : LX E a ao b sb L xs) {i : Nat} (hi : i + 7 ≤ L) {S M : St} {f : Nat → Int64} {c s : Nat} (hc : c + 8 ≤ 600000) (hs : s + 48 ≤ 7200000) (hR : R S M)
    (kk : ∀ S' M' f', R S' M' → Zz E (LW E a ao b S' f' M') (c + 8) (s + 48) 1822 [(4, .int (nI i)), (3, .ref ao), (2, .ref (b 0)), (1, .ref (a 0)), (0, .ref sb)] []) : Zz E (LW E a ao b S f M) c s 1322 [(4, .int (nI i)), (3, .ref ao), (2, .ref (b 0)), (1, .ref (a 0)), (0, .ref sb)] [] := by
  rcases g S M hR (xs (i + 1)) (xs (i + 2))  with ⟨v, S', M', h1, h2, h3, h4⟩ | ⟨v, S', M', h1, h2, h3, h4⟩ | ⟨v, S', M', h1, h2, h3, h4⟩ | ⟨v, S', M', h1, h2, h3, h4⟩
  · exact law_c15 X hi hc hs (mL_want_v X.1.hT h1) h2 h3 (fun _ => by simp [vp_updL]) (kk _ _ _ h4)
  · exact law_c15 X hi hc hs (mL_want_1 X.1.hT h1) h2 h3 (fun q => absurd q (by decide)) (kk _ _ _ h4)
  · exact law_c15 X hi hc hs (mL_want_2 X.1.hT h1) h2 h3 (fun q => absurd q (by decide)) (kk _ _ _ h4)
  · exact law_c15 X hi hc hs (mL_want_3 X.1.hT h1) h2 h3 (fun q => absurd q (by decide)) (kk _ _ _ h4)
theorem law_s16 {E : ET} {a b : Nat → Nat} {ao sb L : Nat} {xs : Nat → Int32} {R : St → St → Prop} (g : Ag_clear R) (X : LX E a ao b sb L xs) {i : Nat} (hi : i + 7 ≤ L) {S M : St} {f : Nat → Int64} {c s : Nat} (hc : c + 8 ≤ 600000) (hs : s + 48 ≤ 7200000) (hR : R S M)
    (kk : ∀ S' M' f', R S' M' → Zz E (LW E a ao b S' f' M') (c + 8) (s + 48) 1822 [(4, .int (nI i)), (3, .ref ao), (2, .ref (b 0)), (1, .ref (a 0)), (0, .ref sb)] []) : Zz E (LW E a ao b S f M) c s 1390 [(4, .int (nI i)), (3, .ref ao), (2, .ref (b 0)), (1, .ref (a 0)), (0, .ref sb)] [] := by
  obtain ⟨v, S', M', h1, h2, h4⟩ := g S M hR
  exact law_c16 X hc hs h1 h2 (kk _ _ _ h4)
theorem law_s17 {E : ET} {a b : Nat → Nat} {ao sb L : Nat} {xs : Nat → Int32} {R : St → St → Prop} (g : Ag_nest R) (X : LX E a ao b sb L xs) {i : Nat} (hi : i + 7 ≤ L) {S M : St} {f : Nat → Int64} {c s : Nat} (hc : c + 8 ≤ 600000) (hs : s + 48 ≤ 7200000) (hR : R S M)
    (kk : ∀ S' M' f', R S' M' → Zz E (LW E a ao b S' f' M') (c + 8) (s + 48) 1822 [(4, .int (nI i)), (3, .ref ao), (2, .ref (b 0)), (1, .ref (a 0)), (0, .ref sb)] []) : Zz E (LW E a ao b S f M) c s 1403 [(4, .int (nI i)), (3, .ref ao), (2, .ref (b 0)), (1, .ref (a 0)), (0, .ref sb)] [] := by
  rcases g S M hR (xs (i + 1)) (xs (i + 2)) (xs (i + 3)) (xs (i + 4))  with ⟨v, S', M', h1, h2, h3, h4⟩ | ⟨v, S', M', h1, h2, h3, h4⟩ | ⟨v, S', M', h1, h2, h3, h4⟩
  · exact law_c17 X hi hc hs (mL_nest_v X.1.hT h1) h2 h3 (fun _ => by simp [vp_updL]) (kk _ _ _ h4)
  · exact law_c17 X hi hc hs (mL_nest_1 X.1.hT h1) h2 h3 (fun q => absurd q (by decide)) (kk _ _ _ h4)
  · exact law_c17 X hi hc hs (mL_nest_2 X.1.hT h1) h2 h3 (fun q => absurd q (by decide)) (kk _ _ _ h4)
theorem law_s18 {E : ET} {a b : Nat → Nat} {ao sb L : Nat} {xs : Nat → Int32} {R : St → St → Prop} (g : Ag_batch R) (X : LX E a ao b sb L xs) {i : Nat} (hi : i + 7 ≤ L) {S M : St} {f : Nat → Int64} {c s : Nat} (hc : c + 8 ≤ 600000) (hs : s + 48 ≤ 7200000) (hR : R S M)
    (kk : ∀ S' M' f', R S' M' → Zz E (LW E a ao b S' f' M') (c + 8) (s + 48) 1822 [(4, .int (nI i)), (3, .ref ao), (2, .ref (b 0)), (1, .ref (a 0)), (0, .ref sb)] []) : Zz E (LW E a ao b S f M) c s 1494 [(4, .int (nI i)), (3, .ref ao), (2, .ref (b 0)), (1, .ref (a 0)), (0, .ref sb)] [] := by
  rcases g S M hR (xs (i + 1)) (xs (i + 2)) (xs (i + 3))  with ⟨v, S', M', h1, h2, h3, h4⟩ | ⟨v, S', M', h1, h2, h3, h4⟩ | ⟨v, S', M', h1, h2, h3, h4⟩ | ⟨v, S', M', h1, h2, h3, h4⟩
  · exact law_c18 X hi hc hs (mL_batch_v X.1.hT h1) h2 h3 (fun _ => by simp [vp_updL]) (kk _ _ _ h4)
  · exact law_c18 X hi hc hs (mL_batch_1 X.1.hT h1) h2 h3 (fun q => absurd q (by decide)) (kk _ _ _ h4)
  · exact law_c18 X hi hc hs (mL_batch_2 X.1.hT h1) h2 h3 (fun q => absurd q (by decide)) (kk _ _ _ h4)
  · exact law_c18 X hi hc hs (mL_batch_3 X.1.hT h1) h2 h3 (fun q => absurd q (by decide)) (kk _ _ _ h4)
theorem law_s19 {E : ET} {a b : Nat → Nat} {ao sb L : Nat} {xs : Nat → Int32} {R : St → St → Prop} (g : Ag_work R) (X : LX E a ao b sb L xs) {i : Nat} (hi : i + 7 ≤ L) {S M : St} {f : Nat → Int64} {c s : Nat} (hc : c + 8 ≤ 600000) (hs : s + 48 ≤ 7200000) (hR : R S M)
    (kk : ∀ S' M' f', R S' M' → Zz E (LW E a ao b S' f' M') (c + 8) (s + 48) 1822 [(4, .int (nI i)), (3, .ref ao), (2, .ref (b 0)), (1, .ref (a 0)), (0, .ref sb)] []) : Zz E (LW E a ao b S f M) c s 1574 [(4, .int (nI i)), (3, .ref ao), (2, .ref (b 0)), (1, .ref (a 0)), (0, .ref sb)] [] := by
  rcases g S M hR (xs (i + 1))  with ⟨v, S', M', h1, h2, h3, h4⟩ | ⟨v, S', M', h1, h2, h3, h4⟩ | ⟨v, S', M', h1, h2, h3, h4⟩
  · exact law_c19 X hi hc hs (mL_work_v X.1.hT h1) h2 h3 (fun _ => by simp [vp_updL]) (kk _ _ _ h4)
  · exact law_c19 X hi hc hs (mL_work_1 X.1.hT h1) h2 h3 (fun q => absurd q (by decide)) (kk _ _ _ h4)
  · exact law_c19 X hi hc hs (mL_work_2 X.1.hT h1) h2 h3 (fun q => absurd q (by decide)) (kk _ _ _ h4)
theorem law_s20 {E : ET} {a b : Nat → Nat} {ao sb L : Nat} {xs : Nat → Int32} {R : St → St → Prop} (g : Ag_batchOf R) (X : LX E a ao b sb L xs) {i : Nat} (hi : i + 7 ≤ L) {S M : St} {f : Nat → Int64} {c s : Nat} (hc : c + 8 ≤ 600000) (hs : s + 48 ≤ 7200000) (hR : R S M)
    (kk : ∀ S' M' f', R S' M' → Zz E (LW E a ao b S' f' M') (c + 8) (s + 48) 1822 [(4, .int (nI i)), (3, .ref ao), (2, .ref (b 0)), (1, .ref (a 0)), (0, .ref sb)] []) : Zz E (LW E a ao b S f M) c s 1630 [(4, .int (nI i)), (3, .ref ao), (2, .ref (b 0)), (1, .ref (a 0)), (0, .ref sb)] [] := by
  rcases g S M hR (xs (i + 1)) (xs (i + 2))  with ⟨v, S', M', h1, h2, h3, h4⟩ | ⟨v, S', M', h1, h2, h3, h4⟩ | ⟨v, S', M', h1, h2, h3, h4⟩
  · obtain ⟨h1, rfl⟩ := onS_some h1
    exact law_c20 X hi hc hs (mL_batchOf_v X.1.hT h1) h2 h3 (fun _ => by simp [vp_updL]) (kk _ _ _ h4)
  · obtain ⟨h1, rfl⟩ := onS_some h1
    exact law_c20 X hi hc hs (mL_batchOf_1 X.1.hT h1) h2 h3 (fun q => absurd q (by decide)) (kk _ _ _ h4)
  · obtain ⟨h1, rfl⟩ := onS_some h1
    exact law_c20 X hi hc hs (mL_batchOf_2 X.1.hT h1) h2 h3 (fun q => absurd q (by decide)) (kk _ _ _ h4)
theorem law_s21 {E : ET} {a b : Nat → Nat} {ao sb L : Nat} {xs : Nat → Int32} {R : St → St → Prop} (g : Ag_kits R) (X : LX E a ao b sb L xs) {i : Nat} (hi : i + 7 ≤ L) {S M : St} {f : Nat → Int64} {c s : Nat} (hc : c + 8 ≤ 600000) (hs : s + 48 ≤ 7200000) (hR : R S M)
    (kk : ∀ S' M' f', R S' M' → Zz E (LW E a ao b S' f' M') (c + 8) (s + 48) 1822 [(4, .int (nI i)), (3, .ref ao), (2, .ref (b 0)), (1, .ref (a 0)), (0, .ref sb)] []) : Zz E (LW E a ao b S f M) c s 1698 [(4, .int (nI i)), (3, .ref ao), (2, .ref (b 0)), (1, .ref (a 0)), (0, .ref sb)] [] := by
  rcases g S M hR (xs (i + 1))  with ⟨v, S', M', h1, h2, h3, h4⟩ | ⟨v, S', M', h1, h2, h3, h4⟩
  · obtain ⟨h1, rfl⟩ := onS_some h1
    exact law_c21 X hi hc hs (mL_kits_v X.1.hT h1) h2 h3 (fun _ => by simp [vp_updL]) (kk _ _ _ h4)
  · obtain ⟨h1, rfl⟩ := onS_some h1
    exact law_c21 X hi hc hs (mL_kits_1 X.1.hT h1) h2 h3 (fun q => absurd q (by decide)) (kk _ _ _ h4)
theorem law_s22 {E : ET} {a b : Nat → Nat} {ao sb L : Nat} {xs : Nat → Int32} {R : St → St → Prop} (g : Ag_take R) (X : LX E a ao b sb L xs) {i : Nat} (hi : i + 7 ≤ L) {S M : St} {f : Nat → Int64} {c s : Nat} (hc : c + 8 ≤ 600000) (hs : s + 48 ≤ 7200000) (hR : R S M)
    (kk : ∀ S' M' f', R S' M' → Zz E (LW E a ao b S' f' M') (c + 8) (s + 48) 1822 [(4, .int (nI i)), (3, .ref ao), (2, .ref (b 0)), (1, .ref (a 0)), (0, .ref sb)] []) : Zz E (LW E a ao b S f M) c s 1754 [(4, .int (nI i)), (3, .ref ao), (2, .ref (b 0)), (1, .ref (a 0)), (0, .ref sb)] [] := by
  rcases g S M hR (xs (i + 1)) (xs (i + 2))  with ⟨v, S', M', h1, h2, h3, h4⟩ | ⟨v, S', M', h1, h2, h3, h4⟩ | ⟨v, S', M', h1, h2, h3, h4⟩
  · exact law_c22 X hi hc hs (mL_take_v X.1.hT h1) h2 h3 (fun _ => by simp [vp_updL]) (kk _ _ _ h4)
  · exact law_c22 X hi hc hs (mL_take_1 X.1.hT h1) h2 h3 (fun q => absurd q (by decide)) (kk _ _ _ h4)
  · exact law_c22 X hi hc hs (mL_take_2 X.1.hT h1) h2 h3 (fun q => absurd q (by decide)) (kk _ _ _ h4)
theorem law_out {E : ET} {a b : Nat → Nat} {ao sb L : Nat} {xs : Nat → Int32} (X : LX E a ao b sb L xs) (hA : ∀ q, e_A E q → (e_s E).heap.size ≤ q)
    (hend : ∀ (H : Heap) (ls : Array Slot), W (e_p E) (e_l E) (e_e E) (e_R E) (e_s E) (e_m E) (e_a E) (e_b E) (e_h E) (e_c E) H [] room_1.cells room_1.slots (e_Q E) (F0 (e_m E) 1829 ls [.int 1])) {S M : St} {f : Nat → Int64} {c s : Nat} {loc : List (Nat × Value)} (hc : c ≤ 600000) (hs : s ≤ 7200000) : Zz E (LW E a ao b S f M) c s 1828 loc [] := by
  refine v_iconst (pc := 1828) (v := (1 : Int32)) X.1 dL_law_1828 (by decide) ?_
  intro H locs ls hP hl
  refine va_forget (fun q hq => hA _ (hP.2.2.2.2.2 q hq)) ?_
  exact W.widen (Nat.le_trans hc room_c) (Nat.le_trans hs room_s) (hend H ls)
theorem law_head {E : ET} {a b : Nat → Nat} {ao sb L : Nat} {xs : Nat → Int32} (X : LX E a ao b sb L xs) (hA : ∀ q, e_A E q → (e_s E).heap.size ≤ q)
    (hend : ∀ (H : Heap) (ls : Array Slot), W (e_p E) (e_l E) (e_e E) (e_R E) (e_s E) (e_m E) (e_a E) (e_b E) (e_h E) (e_c E) H [] room_1.cells room_1.slots (e_Q E) (F0 (e_m E) 1829 ls [.int 1])) {it : Nat} {S M : St} {f : Nat → Int64} {c s : Nat} (hit : it ≤ 513) (hc : c + 8 * (513 - it) ≤ 600000) (hs : s + 48 * (513 - it) ≤ 7200000)
    (kk : 7 * it + 7 ≤ L → Zz E (LW E a ao b S f M) c s 40 [(4, .int (nI (7 * it))), (3, .ref ao), (2, .ref (b 0)), (1, .ref (a 0)), (0, .ref sb)] [.int (xs (7 * it) &&& 31)]) : Zz E (LW E a ao b S f M) c s 23 [(4, .int (nI (7 * it))), (3, .ref ao), (2, .ref (b 0)), (1, .ref (a 0)), (0, .ref sb)] [] := by
  have hL := X.2.2.2.2.2.2
  refine v_iload 0 (pc := 23) X.1 dL_law_23 rfl ?_
  refine v_aload_n 4 (pc := 25) X.1 dL_law_25 rfl rfl ?_
  refine v_slen (pc := 26) X.1 X.2.2.2 dL_law_26 ?_
  refine v_bipush (pc := 27) (v := (7 : Int32)) X.1 dL_law_27 (by decide) ?_
  refine v_isub (pc := 29) X.1 dL_law_29 ?_
  refine v_icmp_gt 1828 (pc := 30) X.1 dL_law_30 (by decide) (fun _ => law_out X hA hend (by omega) (by omega)) (fun q => ?_)
  have hi : 7 * it + 7 ≤ L := by
    rw [Int32.lt_iff_toInt_lt, sub7 hL, nI_toInt (by omega)] at q
    omega
  refine v_aload_n 4 (pc := 33) X.1 dL_law_33 rfl rfl ?_
  refine v_iload 0 (pc := 34) X.1 dL_law_34 rfl ?_
  refine v_sld (pc := 36) (n := 7 * it) X.1 X.2.2.2 (by omega) rfl dL_law_36 ?_
  refine v_bipush (pc := 37) (v := (31 : Int32)) X.1 dL_law_37 (by decide) ?_
  refine v_iand (pc := 39) X.1 dL_law_39 ?_
  exact kk hi
theorem law_exit {E : ET} {a b : Nat → Nat} {ao sb L : Nat} {xs : Nat → Int32} (X : LX E a ao b sb L xs) (hA : ∀ q, e_A E q → (e_s E).heap.size ≤ q)
    (hend : ∀ (H : Heap) (ls : Array Slot), W (e_p E) (e_l E) (e_e E) (e_R E) (e_s E) (e_m E) (e_a E) (e_b E) (e_h E) (e_c E) H [] room_1.cells room_1.slots (e_Q E) (F0 (e_m E) 1829 ls [.int 1])) {it : Nat} {S M : St} {f : Nat → Int64} {c s : Nat} (h : L < 7 * it) (hit : it ≤ 513) (hc : c + 8 * (513 - it) ≤ 600000) (hs : s + 48 * (513 - it) ≤ 7200000) : Zz E (LW E a ao b S f M) c s 23 [(4, .int (nI (7 * it))), (3, .ref ao), (2, .ref (b 0)), (1, .ref (a 0)), (0, .ref sb)] [] :=
  law_head X hA hend hit hc hs (fun q => absurd q (by omega))
set_option maxHeartbeats 2000000 in
theorem law_loop {E : ET} {a b : Nat → Nat} {ao sb L : Nat} {xs : Nat → Int32} {R : St → St → Prop} (g0 : Ag_face R) (g1 : Ag_wipe R) (g2 : Ag_part R) (g3 : Ag_redraw R) (g4 : Ag_hole R) (g5 : Ag_isNear R) (g6 : Ag_told R) (g7 : Ag_tool R) (g8 : Ag_trial R) (g9 : Ag_blank R) (g10 : Ag_why R) (g11 : Ag_point R) (g12 : Ag_flips R) (g13 : Ag_flipsAnew R) (g14 : Ag_ordered R) (g15 : Ag_want R) (g16 : Ag_clear R) (g17 : Ag_nest R) (g18 : Ag_batch R) (g19 : Ag_work R) (g20 : Ag_batchOf R) (g21 : Ag_kits R) (g22 : Ag_take R) (X : LX E a ao b sb L xs) (hA : ∀ q, e_A E q → (e_s E).heap.size ≤ q)
    (hend : ∀ (H : Heap) (ls : Array Slot), W (e_p E) (e_l E) (e_e E) (e_R E) (e_s E) (e_m E) (e_a E) (e_b E) (e_h E) (e_c E) H [] room_1.cells room_1.slots (e_Q E) (F0 (e_m E) 1829 ls [.int 1])) :
    ∀ (n it : Nat) (S M : St) (f : Nat → Int64) (c s : Nat), L + 1 ≤ 7 * it + n → it ≤ 513 → R S M → c + 8 * (513 - it) ≤ 600000 → s + 48 * (513 - it) ≤ 7200000 → Zz E (LW E a ao b S f M) c s 23 [(4, .int (nI (7 * it))), (3, .ref ao), (2, .ref (b 0)), (1, .ref (a 0)), (0, .ref sb)] [] := by
  intro n
  induction n with
  | zero =>
    intro it S M f c s h1 h2 hR hc hs
    exact law_exit X hA hend (by omega) h2 hc hs
  | succ n ih =>
    intro it S M f c s h1 h2 hR hc hs
    refine law_head X hA hend h2 hc hs (fun hi => ?_)
    have hL := X.2.2.2.2.2.2
    have hc8 : c + 8 ≤ 600000 := by omega
    have hs8 : s + 48 ≤ 7200000 := by omega
    have kk : ∀ S' M' f', R S' M' → Zz E (LW E a ao b S' f' M') (c + 8) (s + 48) 1822 [(4, .int (nI (7 * it))), (3, .ref ao), (2, .ref (b 0)), (1, .ref (a 0)), (0, .ref sb)] [] := fun S' M' f' hR' => by
      refine v_iinc 0 (pc := 1822) (v := nI (7 * (it + 1))) (loc' := [(4, .int (nI (7 * (it + 1)))), (3, .ref ao), (2, .ref (b 0)), (1, .ref (a 0)), (0, .ref sb)]) X.1 dL_law_1822 rfl (nI_add (7 * it) 7) (by decide) rfl ?_
      refine v_goto 23 (pc := 1825) X.1 dL_law_1825 (by decide) ?_
      exact ih (it + 1) S' M' f' (c + 8) (s + 48) (by omega) (by omega) hR' (by omega) (by omega)
    by_cases q0 : xs (7 * it) &&& 31 = 0
    · exact v_swi 148 (pc := 40) X.1 dL_law_40 q0 (by decide) (by decide) rfl (by decide) (law_s0 g0 X hi hc8 hs8 hR kk)
    by_cases q1 : xs (7 * it) &&& 31 = 1
    · exact v_swi 216 (pc := 40) X.1 dL_law_40 q1 (by decide) (by decide) rfl (by decide) (law_s1 g1 X hi hc8 hs8 hR kk)
    by_cases q2 : xs (7 * it) &&& 31 = 2
    · exact v_swi 229 (pc := 40) X.1 dL_law_40 q2 (by decide) (by decide) rfl (by decide) (law_s2 g2 X hi hc8 hs8 hR kk)
    by_cases q3 : xs (7 * it) &&& 31 = 3
    · exact v_swi 297 (pc := 40) X.1 dL_law_40 q3 (by decide) (by decide) rfl (by decide) (law_s3 g3 X hi hc8 hs8 hR kk)
    by_cases q4 : xs (7 * it) &&& 31 = 4
    · exact v_swi 377 (pc := 40) X.1 dL_law_40 q4 (by decide) (by decide) rfl (by decide) (law_s4 g4 X hi hc8 hs8 hR kk)
    by_cases q5 : xs (7 * it) &&& 31 = 5
    · exact v_swi 469 (pc := 40) X.1 dL_law_40 q5 (by decide) (by decide) rfl (by decide) (law_s5 g5 X hi hc8 hs8 hR kk)
    by_cases q6 : xs (7 * it) &&& 31 = 6
    · exact v_swi 544 (pc := 40) X.1 dL_law_40 q6 (by decide) (by decide) rfl (by decide) (law_s6 g6 X hi hc8 hs8 hR kk)
    by_cases q7 : xs (7 * it) &&& 31 = 7
    · exact v_swi 612 (pc := 40) X.1 dL_law_40 q7 (by decide) (by decide) rfl (by decide) (law_s7 g7 X hi hc8 hs8 hR kk)
    by_cases q8 : xs (7 * it) &&& 31 = 8
    · exact v_swi 716 (pc := 40) X.1 dL_law_40 q8 (by decide) (by decide) rfl (by decide) (law_s8 g8 X hi hc8 hs8 hR kk)
    by_cases q9 : xs (7 * it) &&& 31 = 9
    · exact v_swi 796 (pc := 40) X.1 dL_law_40 q9 (by decide) (by decide) rfl (by decide) (law_s9 g9 X hi hc8 hs8 hR kk)
    by_cases q10 : xs (7 * it) &&& 31 = 10
    · exact v_swi 864 (pc := 40) X.1 dL_law_40 q10 (by decide) (by decide) rfl (by decide) (law_s10 g10 X hi hc8 hs8 hR kk)
    by_cases q11 : xs (7 * it) &&& 31 = 11
    · exact v_swi 956 (pc := 40) X.1 dL_law_40 q11 (by decide) (by decide) rfl (by decide) (law_s11 g11 X hi hc8 hs8 hR kk)
    by_cases q12 : xs (7 * it) &&& 31 = 12
    · exact v_swi 1106 (pc := 40) X.1 dL_law_40 q12 (by decide) (by decide) rfl (by decide) (law_s12 g12 X hi hc8 hs8 hR kk)
    by_cases q13 : xs (7 * it) &&& 31 = 13
    · exact v_swi 1174 (pc := 40) X.1 dL_law_40 q13 (by decide) (by decide) rfl (by decide) (law_s13 g13 X hi hc8 hs8 hR kk)
    by_cases q14 : xs (7 * it) &&& 31 = 14
    · exact v_swi 1242 (pc := 40) X.1 dL_law_40 q14 (by decide) (by decide) rfl (by decide) (law_s14 g14 X hi hc8 hs8 hR kk)
    by_cases q15 : xs (7 * it) &&& 31 = 15
    · exact v_swi 1322 (pc := 40) X.1 dL_law_40 q15 (by decide) (by decide) rfl (by decide) (law_s15 g15 X hi hc8 hs8 hR kk)
    by_cases q16 : xs (7 * it) &&& 31 = 16
    · exact v_swi 1390 (pc := 40) X.1 dL_law_40 q16 (by decide) (by decide) rfl (by decide) (law_s16 g16 X hi hc8 hs8 hR kk)
    by_cases q17 : xs (7 * it) &&& 31 = 17
    · exact v_swi 1403 (pc := 40) X.1 dL_law_40 q17 (by decide) (by decide) rfl (by decide) (law_s17 g17 X hi hc8 hs8 hR kk)
    by_cases q18 : xs (7 * it) &&& 31 = 18
    · exact v_swi 1494 (pc := 40) X.1 dL_law_40 q18 (by decide) (by decide) rfl (by decide) (law_s18 g18 X hi hc8 hs8 hR kk)
    by_cases q19 : xs (7 * it) &&& 31 = 19
    · exact v_swi 1574 (pc := 40) X.1 dL_law_40 q19 (by decide) (by decide) rfl (by decide) (law_s19 g19 X hi hc8 hs8 hR kk)
    by_cases q20 : xs (7 * it) &&& 31 = 20
    · exact v_swi 1630 (pc := 40) X.1 dL_law_40 q20 (by decide) (by decide) rfl (by decide) (law_s20 g20 X hi hc8 hs8 hR kk)
    by_cases q21 : xs (7 * it) &&& 31 = 21
    · exact v_swi 1698 (pc := 40) X.1 dL_law_40 q21 (by decide) (by decide) rfl (by decide) (law_s21 g21 X hi hc8 hs8 hR kk)
    by_cases q22 : xs (7 * it) &&& 31 = 22
    · exact v_swi 1754 (pc := 40) X.1 dL_law_40 q22 (by decide) (by decide) rfl (by decide) (law_s22 g22 X hi hc8 hs8 hR kk)
    have e0 := i_ne q0 (n := 0) rfl
    have e1 := i_ne q1 (n := 1) rfl
    have e2 := i_ne q2 (n := 2) rfl
    have e3 := i_ne q3 (n := 3) rfl
    have e4 := i_ne q4 (n := 4) rfl
    have e5 := i_ne q5 (n := 5) rfl
    have e6 := i_ne q6 (n := 6) rfl
    have e7 := i_ne q7 (n := 7) rfl
    have e8 := i_ne q8 (n := 8) rfl
    have e9 := i_ne q9 (n := 9) rfl
    have e10 := i_ne q10 (n := 10) rfl
    have e11 := i_ne q11 (n := 11) rfl
    have e12 := i_ne q12 (n := 12) rfl
    have e13 := i_ne q13 (n := 13) rfl
    have e14 := i_ne q14 (n := 14) rfl
    have e15 := i_ne q15 (n := 15) rfl
    have e16 := i_ne q16 (n := 16) rfl
    have e17 := i_ne q17 (n := 17) rfl
    have e18 := i_ne q18 (n := 18) rfl
    have e19 := i_ne q19 (n := 19) rfl
    have e20 := i_ne q20 (n := 20) rfl
    have e21 := i_ne q21 (n := 21) rfl
    have e22 := i_ne q22 (n := 22) rfl
    exact v_swo 1822 (pc := 40) X.1 dL_law_40 (by omega) (by decide) (z_widen (c' := c + 8) (s' := s + 48) (by omega) (by omega) (kk S M f hR))
