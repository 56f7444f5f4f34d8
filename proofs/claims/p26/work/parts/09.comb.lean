/-! ===== programs as functions: a bind, a guard, a name, a join, a loop (with fuel); each with what a run of it says ===== -/
def gd {R : Type} (b : Bool) (x : Option R) : Option R := if b = true then x else none
theorem gd_of {R : Type} {b : Bool} {x : Option R} {r : R} (h : gd b x = some r) : b = true ∧ x = some r := by
  unfold gd at h
  split at h
  · exact ⟨by assumption, h⟩
  · cases h
theorem gd_t {R : Type} {b : Bool} {x : Option R} (h : b = true) : gd b x = x := if_pos h
def bv {A R : Type} (v : A) (k : A → R) : R := k v
theorem bv_of {A R : Type} {v : A} {k : A → R} {r : R} (h : bv v k = r) : ∃ x, x = v ∧ k x = r := ⟨v, rfl, h⟩
theorem if_t {c : Prop} [Decidable c] {R : Type} {x y r : R} (h : (if c then x else y) = r) (hc : c) : x = r := by rw [if_pos hc] at h; exact h
theorem if_f {c : Prop} [Decidable c] {R : Type} {x y r : R} (h : (if c then x else y) = r) (hc : ¬ c) : y = r := by rw [if_neg hc] at h; exact h
def bn1 {A1 R : Type} (x : Option (A1)) (k : A1 → Option R) : Option R := match x with
  | none => none
  | some x1 => k x1
theorem bn1_of {A1 R : Type} {x : Option (A1)} {k : A1 → Option R} {r : R} (h : bn1 x k = some r) : ∃ x1, x = some x1 ∧ k x1 = some r := by
  cases x with
  | none => cases h
  | some q => exact ⟨q, rfl, h⟩
theorem bn1_s {A1 R : Type} {k : A1 → Option R} {x1 : A1} : bn1 (some x1) k = k x1 := rfl
theorem bn1_if {c : Prop} [Decidable c] {A1 R : Type} {k : A1 → Option R} {x y : A1} : bn1 (if c then some x else some y) k = bn1 (some (if c then x else y)) k := by split <;> rfl
def bn2 {A1 A2 R : Type} (x : Option (A1 × A2)) (k : A1 → A2 → Option R) : Option R := match x with
  | none => none
  | some (x1, x2) => k x1 x2
theorem bn2_of {A1 A2 R : Type} {x : Option (A1 × A2)} {k : A1 → A2 → Option R} {r : R} (h : bn2 x k = some r) : ∃ x1 x2, x = some (x1, x2) ∧ k x1 x2 = some r := by
  cases x with
  | none => cases h
  | some q => exact ⟨q.1, q.2, rfl, h⟩
theorem bn2_s {A1 A2 R : Type} {k : A1 → A2 → Option R} {x1 : A1} {x2 : A2} : bn2 (some (x1, x2)) k = k x1 x2 := rfl
theorem bn2_if {c : Prop} [Decidable c] {A1 A2 R : Type} {k : A1 → A2 → Option R} {x y : A1 × A2} : bn2 (if c then some x else some y) k = bn2 (some (if c then x else y)) k := by split <;> rfl
def bn3 {A1 A2 A3 R : Type} (x : Option (A1 × A2 × A3)) (k : A1 → A2 → A3 → Option R) : Option R := match x with
  | none => none
  | some (x1, x2, x3) => k x1 x2 x3
theorem bn3_of {A1 A2 A3 R : Type} {x : Option (A1 × A2 × A3)} {k : A1 → A2 → A3 → Option R} {r : R} (h : bn3 x k = some r) : ∃ x1 x2 x3, x = some (x1, x2, x3) ∧ k x1 x2 x3 = some r := by
  cases x with
  | none => cases h
  | some q => exact ⟨q.1, q.2.1, q.2.2, rfl, h⟩
theorem bn3_s {A1 A2 A3 R : Type} {k : A1 → A2 → A3 → Option R} {x1 : A1} {x2 : A2} {x3 : A3} : bn3 (some (x1, x2, x3)) k = k x1 x2 x3 := rfl
theorem bn3_if {c : Prop} [Decidable c] {A1 A2 A3 R : Type} {k : A1 → A2 → A3 → Option R} {x y : A1 × A2 × A3} : bn3 (if c then some x else some y) k = bn3 (some (if c then x else y)) k := by split <;> rfl
def bn4 {A1 A2 A3 A4 R : Type} (x : Option (A1 × A2 × A3 × A4)) (k : A1 → A2 → A3 → A4 → Option R) : Option R := match x with
  | none => none
  | some (x1, x2, x3, x4) => k x1 x2 x3 x4
theorem bn4_of {A1 A2 A3 A4 R : Type} {x : Option (A1 × A2 × A3 × A4)} {k : A1 → A2 → A3 → A4 → Option R} {r : R} (h : bn4 x k = some r) : ∃ x1 x2 x3 x4, x = some (x1, x2, x3, x4) ∧ k x1 x2 x3 x4 = some r := by
  cases x with
  | none => cases h
  | some q => exact ⟨q.1, q.2.1, q.2.2.1, q.2.2.2, rfl, h⟩
theorem bn4_s {A1 A2 A3 A4 R : Type} {k : A1 → A2 → A3 → A4 → Option R} {x1 : A1} {x2 : A2} {x3 : A3} {x4 : A4} : bn4 (some (x1, x2, x3, x4)) k = k x1 x2 x3 x4 := rfl
theorem bn4_if {c : Prop} [Decidable c] {A1 A2 A3 A4 R : Type} {k : A1 → A2 → A3 → A4 → Option R} {x y : A1 × A2 × A3 × A4} : bn4 (if c then some x else some y) k = bn4 (some (if c then x else y)) k := by split <;> rfl
def bn5 {A1 A2 A3 A4 A5 R : Type} (x : Option (A1 × A2 × A3 × A4 × A5)) (k : A1 → A2 → A3 → A4 → A5 → Option R) : Option R := match x with
  | none => none
  | some (x1, x2, x3, x4, x5) => k x1 x2 x3 x4 x5
theorem bn5_of {A1 A2 A3 A4 A5 R : Type} {x : Option (A1 × A2 × A3 × A4 × A5)} {k : A1 → A2 → A3 → A4 → A5 → Option R} {r : R} (h : bn5 x k = some r) : ∃ x1 x2 x3 x4 x5, x = some (x1, x2, x3, x4, x5) ∧ k x1 x2 x3 x4 x5 = some r := by
  cases x with
  | none => cases h
  | some q => exact ⟨q.1, q.2.1, q.2.2.1, q.2.2.2.1, q.2.2.2.2, rfl, h⟩
theorem bn5_s {A1 A2 A3 A4 A5 R : Type} {k : A1 → A2 → A3 → A4 → A5 → Option R} {x1 : A1} {x2 : A2} {x3 : A3} {x4 : A4} {x5 : A5} : bn5 (some (x1, x2, x3, x4, x5)) k = k x1 x2 x3 x4 x5 := rfl
theorem bn5_if {c : Prop} [Decidable c] {A1 A2 A3 A4 A5 R : Type} {k : A1 → A2 → A3 → A4 → A5 → Option R} {x y : A1 × A2 × A3 × A4 × A5} : bn5 (if c then some x else some y) k = bn5 (some (if c then x else y)) k := by split <;> rfl
def bn6 {A1 A2 A3 A4 A5 A6 R : Type} (x : Option (A1 × A2 × A3 × A4 × A5 × A6)) (k : A1 → A2 → A3 → A4 → A5 → A6 → Option R) : Option R := match x with
  | none => none
  | some (x1, x2, x3, x4, x5, x6) => k x1 x2 x3 x4 x5 x6
theorem bn6_of {A1 A2 A3 A4 A5 A6 R : Type} {x : Option (A1 × A2 × A3 × A4 × A5 × A6)} {k : A1 → A2 → A3 → A4 → A5 → A6 → Option R} {r : R} (h : bn6 x k = some r) : ∃ x1 x2 x3 x4 x5 x6, x = some (x1, x2, x3, x4, x5, x6) ∧ k x1 x2 x3 x4 x5 x6 = some r := by
  cases x with
  | none => cases h
  | some q => exact ⟨q.1, q.2.1, q.2.2.1, q.2.2.2.1, q.2.2.2.2.1, q.2.2.2.2.2, rfl, h⟩
theorem bn6_s {A1 A2 A3 A4 A5 A6 R : Type} {k : A1 → A2 → A3 → A4 → A5 → A6 → Option R} {x1 : A1} {x2 : A2} {x3 : A3} {x4 : A4} {x5 : A5} {x6 : A6} : bn6 (some (x1, x2, x3, x4, x5, x6)) k = k x1 x2 x3 x4 x5 x6 := rfl
theorem bn6_if {c : Prop} [Decidable c] {A1 A2 A3 A4 A5 A6 R : Type} {k : A1 → A2 → A3 → A4 → A5 → A6 → Option R} {x y : A1 × A2 × A3 × A4 × A5 × A6} : bn6 (if c then some x else some y) k = bn6 (some (if c then x else y)) k := by split <;> rfl
def bn7 {A1 A2 A3 A4 A5 A6 A7 R : Type} (x : Option (A1 × A2 × A3 × A4 × A5 × A6 × A7)) (k : A1 → A2 → A3 → A4 → A5 → A6 → A7 → Option R) : Option R := match x with
  | none => none
  | some (x1, x2, x3, x4, x5, x6, x7) => k x1 x2 x3 x4 x5 x6 x7
theorem bn7_of {A1 A2 A3 A4 A5 A6 A7 R : Type} {x : Option (A1 × A2 × A3 × A4 × A5 × A6 × A7)} {k : A1 → A2 → A3 → A4 → A5 → A6 → A7 → Option R} {r : R} (h : bn7 x k = some r) : ∃ x1 x2 x3 x4 x5 x6 x7, x = some (x1, x2, x3, x4, x5, x6, x7) ∧ k x1 x2 x3 x4 x5 x6 x7 = some r := by
  cases x with
  | none => cases h
  | some q => exact ⟨q.1, q.2.1, q.2.2.1, q.2.2.2.1, q.2.2.2.2.1, q.2.2.2.2.2.1, q.2.2.2.2.2.2, rfl, h⟩
theorem bn7_s {A1 A2 A3 A4 A5 A6 A7 R : Type} {k : A1 → A2 → A3 → A4 → A5 → A6 → A7 → Option R} {x1 : A1} {x2 : A2} {x3 : A3} {x4 : A4} {x5 : A5} {x6 : A6} {x7 : A7} : bn7 (some (x1, x2, x3, x4, x5, x6, x7)) k = k x1 x2 x3 x4 x5 x6 x7 := rfl
theorem bn7_if {c : Prop} [Decidable c] {A1 A2 A3 A4 A5 A6 A7 R : Type} {k : A1 → A2 → A3 → A4 → A5 → A6 → A7 → Option R} {x y : A1 × A2 × A3 × A4 × A5 × A6 × A7} : bn7 (if c then some x else some y) k = bn7 (some (if c then x else y)) k := by split <;> rfl
def bn8 {A1 A2 A3 A4 A5 A6 A7 A8 R : Type} (x : Option (A1 × A2 × A3 × A4 × A5 × A6 × A7 × A8)) (k : A1 → A2 → A3 → A4 → A5 → A6 → A7 → A8 → Option R) : Option R := match x with
  | none => none
  | some (x1, x2, x3, x4, x5, x6, x7, x8) => k x1 x2 x3 x4 x5 x6 x7 x8
theorem bn8_of {A1 A2 A3 A4 A5 A6 A7 A8 R : Type} {x : Option (A1 × A2 × A3 × A4 × A5 × A6 × A7 × A8)} {k : A1 → A2 → A3 → A4 → A5 → A6 → A7 → A8 → Option R} {r : R} (h : bn8 x k = some r) : ∃ x1 x2 x3 x4 x5 x6 x7 x8, x = some (x1, x2, x3, x4, x5, x6, x7, x8) ∧ k x1 x2 x3 x4 x5 x6 x7 x8 = some r := by
  cases x with
  | none => cases h
  | some q => exact ⟨q.1, q.2.1, q.2.2.1, q.2.2.2.1, q.2.2.2.2.1, q.2.2.2.2.2.1, q.2.2.2.2.2.2.1, q.2.2.2.2.2.2.2, rfl, h⟩
theorem bn8_s {A1 A2 A3 A4 A5 A6 A7 A8 R : Type} {k : A1 → A2 → A3 → A4 → A5 → A6 → A7 → A8 → Option R} {x1 : A1} {x2 : A2} {x3 : A3} {x4 : A4} {x5 : A5} {x6 : A6} {x7 : A7} {x8 : A8} : bn8 (some (x1, x2, x3, x4, x5, x6, x7, x8)) k = k x1 x2 x3 x4 x5 x6 x7 x8 := rfl
theorem bn8_if {c : Prop} [Decidable c] {A1 A2 A3 A4 A5 A6 A7 A8 R : Type} {k : A1 → A2 → A3 → A4 → A5 → A6 → A7 → A8 → Option R} {x y : A1 × A2 × A3 × A4 × A5 × A6 × A7 × A8} : bn8 (if c then some x else some y) k = bn8 (some (if c then x else y)) k := by split <;> rfl
def bn9 {A1 A2 A3 A4 A5 A6 A7 A8 A9 R : Type} (x : Option (A1 × A2 × A3 × A4 × A5 × A6 × A7 × A8 × A9)) (k : A1 → A2 → A3 → A4 → A5 → A6 → A7 → A8 → A9 → Option R) : Option R := match x with
  | none => none
  | some (x1, x2, x3, x4, x5, x6, x7, x8, x9) => k x1 x2 x3 x4 x5 x6 x7 x8 x9
theorem bn9_of {A1 A2 A3 A4 A5 A6 A7 A8 A9 R : Type} {x : Option (A1 × A2 × A3 × A4 × A5 × A6 × A7 × A8 × A9)} {k : A1 → A2 → A3 → A4 → A5 → A6 → A7 → A8 → A9 → Option R} {r : R} (h : bn9 x k = some r) : ∃ x1 x2 x3 x4 x5 x6 x7 x8 x9, x = some (x1, x2, x3, x4, x5, x6, x7, x8, x9) ∧ k x1 x2 x3 x4 x5 x6 x7 x8 x9 = some r := by
  cases x with
  | none => cases h
  | some q => exact ⟨q.1, q.2.1, q.2.2.1, q.2.2.2.1, q.2.2.2.2.1, q.2.2.2.2.2.1, q.2.2.2.2.2.2.1, q.2.2.2.2.2.2.2.1, q.2.2.2.2.2.2.2.2, rfl, h⟩
theorem bn9_s {A1 A2 A3 A4 A5 A6 A7 A8 A9 R : Type} {k : A1 → A2 → A3 → A4 → A5 → A6 → A7 → A8 → A9 → Option R} {x1 : A1} {x2 : A2} {x3 : A3} {x4 : A4} {x5 : A5} {x6 : A6} {x7 : A7} {x8 : A8} {x9 : A9} : bn9 (some (x1, x2, x3, x4, x5, x6, x7, x8, x9)) k = k x1 x2 x3 x4 x5 x6 x7 x8 x9 := rfl
theorem bn9_if {c : Prop} [Decidable c] {A1 A2 A3 A4 A5 A6 A7 A8 A9 R : Type} {k : A1 → A2 → A3 → A4 → A5 → A6 → A7 → A8 → A9 → Option R} {x y : A1 × A2 × A3 × A4 × A5 × A6 × A7 × A8 × A9} : bn9 (if c then some x else some y) k = bn9 (some (if c then x else y)) k := by split <;> rfl
def bn10 {A1 A2 A3 A4 A5 A6 A7 A8 A9 A10 R : Type} (x : Option (A1 × A2 × A3 × A4 × A5 × A6 × A7 × A8 × A9 × A10)) (k : A1 → A2 → A3 → A4 → A5 → A6 → A7 → A8 → A9 → A10 → Option R) : Option R := match x with
  | none => none
  | some (x1, x2, x3, x4, x5, x6, x7, x8, x9, x10) => k x1 x2 x3 x4 x5 x6 x7 x8 x9 x10
theorem bn10_of {A1 A2 A3 A4 A5 A6 A7 A8 A9 A10 R : Type} {x : Option (A1 × A2 × A3 × A4 × A5 × A6 × A7 × A8 × A9 × A10)} {k : A1 → A2 → A3 → A4 → A5 → A6 → A7 → A8 → A9 → A10 → Option R} {r : R} (h : bn10 x k = some r) : ∃ x1 x2 x3 x4 x5 x6 x7 x8 x9 x10, x = some (x1, x2, x3, x4, x5, x6, x7, x8, x9, x10) ∧ k x1 x2 x3 x4 x5 x6 x7 x8 x9 x10 = some r := by
  cases x with
  | none => cases h
  | some q => exact ⟨q.1, q.2.1, q.2.2.1, q.2.2.2.1, q.2.2.2.2.1, q.2.2.2.2.2.1, q.2.2.2.2.2.2.1, q.2.2.2.2.2.2.2.1, q.2.2.2.2.2.2.2.2.1, q.2.2.2.2.2.2.2.2.2, rfl, h⟩
theorem bn10_s {A1 A2 A3 A4 A5 A6 A7 A8 A9 A10 R : Type} {k : A1 → A2 → A3 → A4 → A5 → A6 → A7 → A8 → A9 → A10 → Option R} {x1 : A1} {x2 : A2} {x3 : A3} {x4 : A4} {x5 : A5} {x6 : A6} {x7 : A7} {x8 : A8} {x9 : A9} {x10 : A10} : bn10 (some (x1, x2, x3, x4, x5, x6, x7, x8, x9, x10)) k = k x1 x2 x3 x4 x5 x6 x7 x8 x9 x10 := rfl
theorem bn10_if {c : Prop} [Decidable c] {A1 A2 A3 A4 A5 A6 A7 A8 A9 A10 R : Type} {k : A1 → A2 → A3 → A4 → A5 → A6 → A7 → A8 → A9 → A10 → Option R} {x y : A1 × A2 × A3 × A4 × A5 × A6 × A7 × A8 × A9 × A10} : bn10 (if c then some x else some y) k = bn10 (some (if c then x else y)) k := by split <;> rfl
theorem bn0_d : True := trivial
def jn0 {R : Type} (k : Option R) (f : (Option R) → Option R) : Option R := f k
theorem jn0_of {R : Type} {k : Option R} {f : (Option R) → Option R} {r : R} (h : jn0 k f = some r) : ∃ J : Option R, (J = k) ∧ f J = some r := ⟨k, rfl, h⟩
def jn1 {A1 R : Type} (k : A1 → Option R) (f : (A1 → Option R) → Option R) : Option R := f k
theorem jn1_of {A1 R : Type} {k : A1 → Option R} {f : (A1 → Option R) → Option R} {r : R} (h : jn1 k f = some r) : ∃ J : A1 → Option R, (∀ x1, J x1 = k x1) ∧ f J = some r := ⟨k, fun _ => rfl, h⟩
def jn2 {A1 A2 R : Type} (k : A1 → A2 → Option R) (f : (A1 → A2 → Option R) → Option R) : Option R := f k
theorem jn2_of {A1 A2 R : Type} {k : A1 → A2 → Option R} {f : (A1 → A2 → Option R) → Option R} {r : R} (h : jn2 k f = some r) : ∃ J : A1 → A2 → Option R, (∀ x1 x2, J x1 x2 = k x1 x2) ∧ f J = some r := ⟨k, fun _ _ => rfl, h⟩
def jn3 {A1 A2 A3 R : Type} (k : A1 → A2 → A3 → Option R) (f : (A1 → A2 → A3 → Option R) → Option R) : Option R := f k
theorem jn3_of {A1 A2 A3 R : Type} {k : A1 → A2 → A3 → Option R} {f : (A1 → A2 → A3 → Option R) → Option R} {r : R} (h : jn3 k f = some r) : ∃ J : A1 → A2 → A3 → Option R, (∀ x1 x2 x3, J x1 x2 x3 = k x1 x2 x3) ∧ f J = some r := ⟨k, fun _ _ _ => rfl, h⟩
def jn4 {A1 A2 A3 A4 R : Type} (k : A1 → A2 → A3 → A4 → Option R) (f : (A1 → A2 → A3 → A4 → Option R) → Option R) : Option R := f k
theorem jn4_of {A1 A2 A3 A4 R : Type} {k : A1 → A2 → A3 → A4 → Option R} {f : (A1 → A2 → A3 → A4 → Option R) → Option R} {r : R} (h : jn4 k f = some r) : ∃ J : A1 → A2 → A3 → A4 → Option R, (∀ x1 x2 x3 x4, J x1 x2 x3 x4 = k x1 x2 x3 x4) ∧ f J = some r := ⟨k, fun _ _ _ _ => rfl, h⟩
def jn5 {A1 A2 A3 A4 A5 R : Type} (k : A1 → A2 → A3 → A4 → A5 → Option R) (f : (A1 → A2 → A3 → A4 → A5 → Option R) → Option R) : Option R := f k
theorem jn5_of {A1 A2 A3 A4 A5 R : Type} {k : A1 → A2 → A3 → A4 → A5 → Option R} {f : (A1 → A2 → A3 → A4 → A5 → Option R) → Option R} {r : R} (h : jn5 k f = some r) : ∃ J : A1 → A2 → A3 → A4 → A5 → Option R, (∀ x1 x2 x3 x4 x5, J x1 x2 x3 x4 x5 = k x1 x2 x3 x4 x5) ∧ f J = some r := ⟨k, fun _ _ _ _ _ => rfl, h⟩
def jn6 {A1 A2 A3 A4 A5 A6 R : Type} (k : A1 → A2 → A3 → A4 → A5 → A6 → Option R) (f : (A1 → A2 → A3 → A4 → A5 → A6 → Option R) → Option R) : Option R := f k
theorem jn6_of {A1 A2 A3 A4 A5 A6 R : Type} {k : A1 → A2 → A3 → A4 → A5 → A6 → Option R} {f : (A1 → A2 → A3 → A4 → A5 → A6 → Option R) → Option R} {r : R} (h : jn6 k f = some r) : ∃ J : A1 → A2 → A3 → A4 → A5 → A6 → Option R, (∀ x1 x2 x3 x4 x5 x6, J x1 x2 x3 x4 x5 x6 = k x1 x2 x3 x4 x5 x6) ∧ f J = some r := ⟨k, fun _ _ _ _ _ _ => rfl, h⟩
def jn7 {A1 A2 A3 A4 A5 A6 A7 R : Type} (k : A1 → A2 → A3 → A4 → A5 → A6 → A7 → Option R) (f : (A1 → A2 → A3 → A4 → A5 → A6 → A7 → Option R) → Option R) : Option R := f k
theorem jn7_of {A1 A2 A3 A4 A5 A6 A7 R : Type} {k : A1 → A2 → A3 → A4 → A5 → A6 → A7 → Option R} {f : (A1 → A2 → A3 → A4 → A5 → A6 → A7 → Option R) → Option R} {r : R} (h : jn7 k f = some r) : ∃ J : A1 → A2 → A3 → A4 → A5 → A6 → A7 → Option R, (∀ x1 x2 x3 x4 x5 x6 x7, J x1 x2 x3 x4 x5 x6 x7 = k x1 x2 x3 x4 x5 x6 x7) ∧ f J = some r := ⟨k, fun _ _ _ _ _ _ _ => rfl, h⟩
def jn8 {A1 A2 A3 A4 A5 A6 A7 A8 R : Type} (k : A1 → A2 → A3 → A4 → A5 → A6 → A7 → A8 → Option R) (f : (A1 → A2 → A3 → A4 → A5 → A6 → A7 → A8 → Option R) → Option R) : Option R := f k
theorem jn8_of {A1 A2 A3 A4 A5 A6 A7 A8 R : Type} {k : A1 → A2 → A3 → A4 → A5 → A6 → A7 → A8 → Option R} {f : (A1 → A2 → A3 → A4 → A5 → A6 → A7 → A8 → Option R) → Option R} {r : R} (h : jn8 k f = some r) : ∃ J : A1 → A2 → A3 → A4 → A5 → A6 → A7 → A8 → Option R, (∀ x1 x2 x3 x4 x5 x6 x7 x8, J x1 x2 x3 x4 x5 x6 x7 x8 = k x1 x2 x3 x4 x5 x6 x7 x8) ∧ f J = some r := ⟨k, fun _ _ _ _ _ _ _ _ => rfl, h⟩
def jn9 {A1 A2 A3 A4 A5 A6 A7 A8 A9 R : Type} (k : A1 → A2 → A3 → A4 → A5 → A6 → A7 → A8 → A9 → Option R) (f : (A1 → A2 → A3 → A4 → A5 → A6 → A7 → A8 → A9 → Option R) → Option R) : Option R := f k
theorem jn9_of {A1 A2 A3 A4 A5 A6 A7 A8 A9 R : Type} {k : A1 → A2 → A3 → A4 → A5 → A6 → A7 → A8 → A9 → Option R} {f : (A1 → A2 → A3 → A4 → A5 → A6 → A7 → A8 → A9 → Option R) → Option R} {r : R} (h : jn9 k f = some r) : ∃ J : A1 → A2 → A3 → A4 → A5 → A6 → A7 → A8 → A9 → Option R, (∀ x1 x2 x3 x4 x5 x6 x7 x8 x9, J x1 x2 x3 x4 x5 x6 x7 x8 x9 = k x1 x2 x3 x4 x5 x6 x7 x8 x9) ∧ f J = some r := ⟨k, fun _ _ _ _ _ _ _ _ _ => rfl, h⟩
def jn10 {A1 A2 A3 A4 A5 A6 A7 A8 A9 A10 R : Type} (k : A1 → A2 → A3 → A4 → A5 → A6 → A7 → A8 → A9 → A10 → Option R) (f : (A1 → A2 → A3 → A4 → A5 → A6 → A7 → A8 → A9 → A10 → Option R) → Option R) : Option R := f k
theorem jn10_of {A1 A2 A3 A4 A5 A6 A7 A8 A9 A10 R : Type} {k : A1 → A2 → A3 → A4 → A5 → A6 → A7 → A8 → A9 → A10 → Option R} {f : (A1 → A2 → A3 → A4 → A5 → A6 → A7 → A8 → A9 → A10 → Option R) → Option R} {r : R} (h : jn10 k f = some r) : ∃ J : A1 → A2 → A3 → A4 → A5 → A6 → A7 → A8 → A9 → A10 → Option R, (∀ x1 x2 x3 x4 x5 x6 x7 x8 x9 x10, J x1 x2 x3 x4 x5 x6 x7 x8 x9 x10 = k x1 x2 x3 x4 x5 x6 x7 x8 x9 x10) ∧ f J = some r := ⟨k, fun _ _ _ _ _ _ _ _ _ _ => rfl, h⟩
def lq0 {R : Type} (body : (Option R) → Option R) : Nat → Option R
  | 0 => none
  | m + 1 => body (lq0 body m)
theorem lq0_W {R : Type} {body : (Option R) → Option R} {r : R} {P : Prop} (hs : ∀ next : Option R, (next = some r → P) → body next = some r → P) : ∀ m : Nat, lq0 body m = some r → P := by
  intro m
  induction m with
  | zero => intro h; cases h
  | succ m ih => intro h; exact hs _ ih h
theorem lq0_1 {R : Type} {body : (Option R) → Option R} {m : Nat} : lq0 body (m + 1) = body (lq0 body m) := rfl
def lq1 {A1 R : Type} (body : (A1 → Option R) → A1 → Option R) : Nat → A1 → Option R
  | 0 => fun _ => none
  | m + 1 => body (lq1 body m)
theorem lq1_W {A1 R : Type} {body : (A1 → Option R) → A1 → Option R} {r : R} {P : A1 → Prop} (hs : ∀ next : A1 → Option R, (∀ x1, next x1 = some r → P x1) → ∀ x1, body next x1 = some r → P x1) : ∀ m : Nat, ∀ x1, lq1 body m x1 = some r → P x1 := by
  intro m
  induction m with
  | zero => intro x1 h; cases h
  | succ m ih => intro x1 h; exact hs _ ih x1 h
theorem lq1_1 {A1 R : Type} {body : (A1 → Option R) → A1 → Option R} {m : Nat} : lq1 body (m + 1) = body (lq1 body m) := rfl
def lq2 {A1 A2 R : Type} (body : (A1 → A2 → Option R) → A1 → A2 → Option R) : Nat → A1 → A2 → Option R
  | 0 => fun _ _ => none
  | m + 1 => body (lq2 body m)
theorem lq2_W {A1 A2 R : Type} {body : (A1 → A2 → Option R) → A1 → A2 → Option R} {r : R} {P : A1 → A2 → Prop} (hs : ∀ next : A1 → A2 → Option R, (∀ x1 x2, next x1 x2 = some r → P x1 x2) → ∀ x1 x2, body next x1 x2 = some r → P x1 x2) : ∀ m : Nat, ∀ x1 x2, lq2 body m x1 x2 = some r → P x1 x2 := by
  intro m
  induction m with
  | zero => intro x1 x2 h; cases h
  | succ m ih => intro x1 x2 h; exact hs _ ih x1 x2 h
theorem lq2_1 {A1 A2 R : Type} {body : (A1 → A2 → Option R) → A1 → A2 → Option R} {m : Nat} : lq2 body (m + 1) = body (lq2 body m) := rfl
def lq3 {A1 A2 A3 R : Type} (body : (A1 → A2 → A3 → Option R) → A1 → A2 → A3 → Option R) : Nat → A1 → A2 → A3 → Option R
  | 0 => fun _ _ _ => none
  | m + 1 => body (lq3 body m)
theorem lq3_W {A1 A2 A3 R : Type} {body : (A1 → A2 → A3 → Option R) → A1 → A2 → A3 → Option R} {r : R} {P : A1 → A2 → A3 → Prop} (hs : ∀ next : A1 → A2 → A3 → Option R, (∀ x1 x2 x3, next x1 x2 x3 = some r → P x1 x2 x3) → ∀ x1 x2 x3, body next x1 x2 x3 = some r → P x1 x2 x3) : ∀ m : Nat, ∀ x1 x2 x3, lq3 body m x1 x2 x3 = some r → P x1 x2 x3 := by
  intro m
  induction m with
  | zero => intro x1 x2 x3 h; cases h
  | succ m ih => intro x1 x2 x3 h; exact hs _ ih x1 x2 x3 h
theorem lq3_1 {A1 A2 A3 R : Type} {body : (A1 → A2 → A3 → Option R) → A1 → A2 → A3 → Option R} {m : Nat} : lq3 body (m + 1) = body (lq3 body m) := rfl
def lq4 {A1 A2 A3 A4 R : Type} (body : (A1 → A2 → A3 → A4 → Option R) → A1 → A2 → A3 → A4 → Option R) : Nat → A1 → A2 → A3 → A4 → Option R
  | 0 => fun _ _ _ _ => none
  | m + 1 => body (lq4 body m)
theorem lq4_W {A1 A2 A3 A4 R : Type} {body : (A1 → A2 → A3 → A4 → Option R) → A1 → A2 → A3 → A4 → Option R} {r : R} {P : A1 → A2 → A3 → A4 → Prop} (hs : ∀ next : A1 → A2 → A3 → A4 → Option R, (∀ x1 x2 x3 x4, next x1 x2 x3 x4 = some r → P x1 x2 x3 x4) → ∀ x1 x2 x3 x4, body next x1 x2 x3 x4 = some r → P x1 x2 x3 x4) : ∀ m : Nat, ∀ x1 x2 x3 x4, lq4 body m x1 x2 x3 x4 = some r → P x1 x2 x3 x4 := by
  intro m
  induction m with
  | zero => intro x1 x2 x3 x4 h; cases h
  | succ m ih => intro x1 x2 x3 x4 h; exact hs _ ih x1 x2 x3 x4 h
theorem lq4_1 {A1 A2 A3 A4 R : Type} {body : (A1 → A2 → A3 → A4 → Option R) → A1 → A2 → A3 → A4 → Option R} {m : Nat} : lq4 body (m + 1) = body (lq4 body m) := rfl
def lq5 {A1 A2 A3 A4 A5 R : Type} (body : (A1 → A2 → A3 → A4 → A5 → Option R) → A1 → A2 → A3 → A4 → A5 → Option R) : Nat → A1 → A2 → A3 → A4 → A5 → Option R
  | 0 => fun _ _ _ _ _ => none
  | m + 1 => body (lq5 body m)
theorem lq5_W {A1 A2 A3 A4 A5 R : Type} {body : (A1 → A2 → A3 → A4 → A5 → Option R) → A1 → A2 → A3 → A4 → A5 → Option R} {r : R} {P : A1 → A2 → A3 → A4 → A5 → Prop} (hs : ∀ next : A1 → A2 → A3 → A4 → A5 → Option R, (∀ x1 x2 x3 x4 x5, next x1 x2 x3 x4 x5 = some r → P x1 x2 x3 x4 x5) → ∀ x1 x2 x3 x4 x5, body next x1 x2 x3 x4 x5 = some r → P x1 x2 x3 x4 x5) : ∀ m : Nat, ∀ x1 x2 x3 x4 x5, lq5 body m x1 x2 x3 x4 x5 = some r → P x1 x2 x3 x4 x5 := by
  intro m
  induction m with
  | zero => intro x1 x2 x3 x4 x5 h; cases h
  | succ m ih => intro x1 x2 x3 x4 x5 h; exact hs _ ih x1 x2 x3 x4 x5 h
theorem lq5_1 {A1 A2 A3 A4 A5 R : Type} {body : (A1 → A2 → A3 → A4 → A5 → Option R) → A1 → A2 → A3 → A4 → A5 → Option R} {m : Nat} : lq5 body (m + 1) = body (lq5 body m) := rfl
def lq6 {A1 A2 A3 A4 A5 A6 R : Type} (body : (A1 → A2 → A3 → A4 → A5 → A6 → Option R) → A1 → A2 → A3 → A4 → A5 → A6 → Option R) : Nat → A1 → A2 → A3 → A4 → A5 → A6 → Option R
  | 0 => fun _ _ _ _ _ _ => none
  | m + 1 => body (lq6 body m)
theorem lq6_W {A1 A2 A3 A4 A5 A6 R : Type} {body : (A1 → A2 → A3 → A4 → A5 → A6 → Option R) → A1 → A2 → A3 → A4 → A5 → A6 → Option R} {r : R} {P : A1 → A2 → A3 → A4 → A5 → A6 → Prop} (hs : ∀ next : A1 → A2 → A3 → A4 → A5 → A6 → Option R, (∀ x1 x2 x3 x4 x5 x6, next x1 x2 x3 x4 x5 x6 = some r → P x1 x2 x3 x4 x5 x6) → ∀ x1 x2 x3 x4 x5 x6, body next x1 x2 x3 x4 x5 x6 = some r → P x1 x2 x3 x4 x5 x6) : ∀ m : Nat, ∀ x1 x2 x3 x4 x5 x6, lq6 body m x1 x2 x3 x4 x5 x6 = some r → P x1 x2 x3 x4 x5 x6 := by
  intro m
  induction m with
  | zero => intro x1 x2 x3 x4 x5 x6 h; cases h
  | succ m ih => intro x1 x2 x3 x4 x5 x6 h; exact hs _ ih x1 x2 x3 x4 x5 x6 h
theorem lq6_1 {A1 A2 A3 A4 A5 A6 R : Type} {body : (A1 → A2 → A3 → A4 → A5 → A6 → Option R) → A1 → A2 → A3 → A4 → A5 → A6 → Option R} {m : Nat} : lq6 body (m + 1) = body (lq6 body m) := rfl
def lq7 {A1 A2 A3 A4 A5 A6 A7 R : Type} (body : (A1 → A2 → A3 → A4 → A5 → A6 → A7 → Option R) → A1 → A2 → A3 → A4 → A5 → A6 → A7 → Option R) : Nat → A1 → A2 → A3 → A4 → A5 → A6 → A7 → Option R
  | 0 => fun _ _ _ _ _ _ _ => none
  | m + 1 => body (lq7 body m)
theorem lq7_W {A1 A2 A3 A4 A5 A6 A7 R : Type} {body : (A1 → A2 → A3 → A4 → A5 → A6 → A7 → Option R) → A1 → A2 → A3 → A4 → A5 → A6 → A7 → Option R} {r : R} {P : A1 → A2 → A3 → A4 → A5 → A6 → A7 → Prop} (hs : ∀ next : A1 → A2 → A3 → A4 → A5 → A6 → A7 → Option R, (∀ x1 x2 x3 x4 x5 x6 x7, next x1 x2 x3 x4 x5 x6 x7 = some r → P x1 x2 x3 x4 x5 x6 x7) → ∀ x1 x2 x3 x4 x5 x6 x7, body next x1 x2 x3 x4 x5 x6 x7 = some r → P x1 x2 x3 x4 x5 x6 x7) : ∀ m : Nat, ∀ x1 x2 x3 x4 x5 x6 x7, lq7 body m x1 x2 x3 x4 x5 x6 x7 = some r → P x1 x2 x3 x4 x5 x6 x7 := by
  intro m
  induction m with
  | zero => intro x1 x2 x3 x4 x5 x6 x7 h; cases h
  | succ m ih => intro x1 x2 x3 x4 x5 x6 x7 h; exact hs _ ih x1 x2 x3 x4 x5 x6 x7 h
theorem lq7_1 {A1 A2 A3 A4 A5 A6 A7 R : Type} {body : (A1 → A2 → A3 → A4 → A5 → A6 → A7 → Option R) → A1 → A2 → A3 → A4 → A5 → A6 → A7 → Option R} {m : Nat} : lq7 body (m + 1) = body (lq7 body m) := rfl
def lq8 {A1 A2 A3 A4 A5 A6 A7 A8 R : Type} (body : (A1 → A2 → A3 → A4 → A5 → A6 → A7 → A8 → Option R) → A1 → A2 → A3 → A4 → A5 → A6 → A7 → A8 → Option R) : Nat → A1 → A2 → A3 → A4 → A5 → A6 → A7 → A8 → Option R
  | 0 => fun _ _ _ _ _ _ _ _ => none
  | m + 1 => body (lq8 body m)
theorem lq8_W {A1 A2 A3 A4 A5 A6 A7 A8 R : Type} {body : (A1 → A2 → A3 → A4 → A5 → A6 → A7 → A8 → Option R) → A1 → A2 → A3 → A4 → A5 → A6 → A7 → A8 → Option R} {r : R} {P : A1 → A2 → A3 → A4 → A5 → A6 → A7 → A8 → Prop} (hs : ∀ next : A1 → A2 → A3 → A4 → A5 → A6 → A7 → A8 → Option R, (∀ x1 x2 x3 x4 x5 x6 x7 x8, next x1 x2 x3 x4 x5 x6 x7 x8 = some r → P x1 x2 x3 x4 x5 x6 x7 x8) → ∀ x1 x2 x3 x4 x5 x6 x7 x8, body next x1 x2 x3 x4 x5 x6 x7 x8 = some r → P x1 x2 x3 x4 x5 x6 x7 x8) : ∀ m : Nat, ∀ x1 x2 x3 x4 x5 x6 x7 x8, lq8 body m x1 x2 x3 x4 x5 x6 x7 x8 = some r → P x1 x2 x3 x4 x5 x6 x7 x8 := by
  intro m
  induction m with
  | zero => intro x1 x2 x3 x4 x5 x6 x7 x8 h; cases h
  | succ m ih => intro x1 x2 x3 x4 x5 x6 x7 x8 h; exact hs _ ih x1 x2 x3 x4 x5 x6 x7 x8 h
theorem lq8_1 {A1 A2 A3 A4 A5 A6 A7 A8 R : Type} {body : (A1 → A2 → A3 → A4 → A5 → A6 → A7 → A8 → Option R) → A1 → A2 → A3 → A4 → A5 → A6 → A7 → A8 → Option R} {m : Nat} : lq8 body (m + 1) = body (lq8 body m) := rfl
def lq9 {A1 A2 A3 A4 A5 A6 A7 A8 A9 R : Type} (body : (A1 → A2 → A3 → A4 → A5 → A6 → A7 → A8 → A9 → Option R) → A1 → A2 → A3 → A4 → A5 → A6 → A7 → A8 → A9 → Option R) : Nat → A1 → A2 → A3 → A4 → A5 → A6 → A7 → A8 → A9 → Option R
  | 0 => fun _ _ _ _ _ _ _ _ _ => none
  | m + 1 => body (lq9 body m)
theorem lq9_W {A1 A2 A3 A4 A5 A6 A7 A8 A9 R : Type} {body : (A1 → A2 → A3 → A4 → A5 → A6 → A7 → A8 → A9 → Option R) → A1 → A2 → A3 → A4 → A5 → A6 → A7 → A8 → A9 → Option R} {r : R} {P : A1 → A2 → A3 → A4 → A5 → A6 → A7 → A8 → A9 → Prop} (hs : ∀ next : A1 → A2 → A3 → A4 → A5 → A6 → A7 → A8 → A9 → Option R, (∀ x1 x2 x3 x4 x5 x6 x7 x8 x9, next x1 x2 x3 x4 x5 x6 x7 x8 x9 = some r → P x1 x2 x3 x4 x5 x6 x7 x8 x9) → ∀ x1 x2 x3 x4 x5 x6 x7 x8 x9, body next x1 x2 x3 x4 x5 x6 x7 x8 x9 = some r → P x1 x2 x3 x4 x5 x6 x7 x8 x9) : ∀ m : Nat, ∀ x1 x2 x3 x4 x5 x6 x7 x8 x9, lq9 body m x1 x2 x3 x4 x5 x6 x7 x8 x9 = some r → P x1 x2 x3 x4 x5 x6 x7 x8 x9 := by
  intro m
  induction m with
  | zero => intro x1 x2 x3 x4 x5 x6 x7 x8 x9 h; cases h
  | succ m ih => intro x1 x2 x3 x4 x5 x6 x7 x8 x9 h; exact hs _ ih x1 x2 x3 x4 x5 x6 x7 x8 x9 h
theorem lq9_1 {A1 A2 A3 A4 A5 A6 A7 A8 A9 R : Type} {body : (A1 → A2 → A3 → A4 → A5 → A6 → A7 → A8 → A9 → Option R) → A1 → A2 → A3 → A4 → A5 → A6 → A7 → A8 → A9 → Option R} {m : Nat} : lq9 body (m + 1) = body (lq9 body m) := rfl
def lq10 {A1 A2 A3 A4 A5 A6 A7 A8 A9 A10 R : Type} (body : (A1 → A2 → A3 → A4 → A5 → A6 → A7 → A8 → A9 → A10 → Option R) → A1 → A2 → A3 → A4 → A5 → A6 → A7 → A8 → A9 → A10 → Option R) : Nat → A1 → A2 → A3 → A4 → A5 → A6 → A7 → A8 → A9 → A10 → Option R
  | 0 => fun _ _ _ _ _ _ _ _ _ _ => none
  | m + 1 => body (lq10 body m)
theorem lq10_W {A1 A2 A3 A4 A5 A6 A7 A8 A9 A10 R : Type} {body : (A1 → A2 → A3 → A4 → A5 → A6 → A7 → A8 → A9 → A10 → Option R) → A1 → A2 → A3 → A4 → A5 → A6 → A7 → A8 → A9 → A10 → Option R} {r : R} {P : A1 → A2 → A3 → A4 → A5 → A6 → A7 → A8 → A9 → A10 → Prop} (hs : ∀ next : A1 → A2 → A3 → A4 → A5 → A6 → A7 → A8 → A9 → A10 → Option R, (∀ x1 x2 x3 x4 x5 x6 x7 x8 x9 x10, next x1 x2 x3 x4 x5 x6 x7 x8 x9 x10 = some r → P x1 x2 x3 x4 x5 x6 x7 x8 x9 x10) → ∀ x1 x2 x3 x4 x5 x6 x7 x8 x9 x10, body next x1 x2 x3 x4 x5 x6 x7 x8 x9 x10 = some r → P x1 x2 x3 x4 x5 x6 x7 x8 x9 x10) : ∀ m : Nat, ∀ x1 x2 x3 x4 x5 x6 x7 x8 x9 x10, lq10 body m x1 x2 x3 x4 x5 x6 x7 x8 x9 x10 = some r → P x1 x2 x3 x4 x5 x6 x7 x8 x9 x10 := by
  intro m
  induction m with
  | zero => intro x1 x2 x3 x4 x5 x6 x7 x8 x9 x10 h; cases h
  | succ m ih => intro x1 x2 x3 x4 x5 x6 x7 x8 x9 x10 h; exact hs _ ih x1 x2 x3 x4 x5 x6 x7 x8 x9 x10 h
theorem lq10_1 {A1 A2 A3 A4 A5 A6 A7 A8 A9 A10 R : Type} {body : (A1 → A2 → A3 → A4 → A5 → A6 → A7 → A8 → A9 → A10 → Option R) → A1 → A2 → A3 → A4 → A5 → A6 → A7 → A8 → A9 → A10 → Option R} {m : Nat} : lq10 body (m + 1) = body (lq10 body m) := rfl
def bx {V R : Type} (x : Option (String ⊕ V)) (kx : String → Option R) (k : V → Option R) : Option R := match x with
  | none => none
  | some (.inl e) => kx e
  | some (.inr v) => k v
theorem bx_of {V R : Type} {x : Option (String ⊕ V)} {kx : String → Option R} {k : V → Option R} {r : R} (h : bx x kx k = some r) : (∃ e, x = some (.inl e) ∧ kx e = some r) ∨ (∃ v, x = some (.inr v) ∧ k v = some r) := by
  cases x with
  | none => cases h
  | some q =>
    cases q with
    | inl e => exact Or.inl ⟨e, rfl, h⟩
    | inr v => exact Or.inr ⟨v, rfl, h⟩
def bx2 {V S R : Type} (x : Option ((String ⊕ V) × S)) (kx : String → S → Option R) (k : V → S → Option R) : Option R := match x with
  | none => none
  | some (.inl e, s) => kx e s
  | some (.inr v, s) => k v s
theorem bx2_of {V S R : Type} {x : Option ((String ⊕ V) × S)} {kx : String → S → Option R} {k : V → S → Option R} {r : R} (h : bx2 x kx k = some r) : (∃ e s, x = some (.inl e, s) ∧ kx e s = some r) ∨ (∃ v s, x = some (.inr v, s) ∧ k v s = some r) := by
  cases x with
  | none => cases h
  | some q =>
    obtain ⟨q, s⟩ := q
    cases q with
    | inl e => exact Or.inl ⟨e, s, rfl, h⟩
    | inr v => exact Or.inr ⟨v, s, rfl, h⟩
def isb (v : Int32) : Bool := decide (v = 0 ∨ v = 1)
theorem isb_n {v : Int32} (h : isb v = true) : narrow .boolean (.int v) = .int v := by
  rcases (of_decide_eq_true h : v = 0 ∨ v = 1) with rfl | rfl <;> rfl
theorem isb_f {v : Int32} (h : isb v = true) : fits .boolean (.int v) = true := by
  rcases (of_decide_eq_true h : v = 0 ∨ v = 1) with rfl | rfl <;> rfl
def ocI : String ⊕ Int32 → String ⊕ Option Value
  | .inl x => .inl x
  | .inr v => .inr (some (.int v))
def ocL : String ⊕ Int64 → String ⊕ Option Value
  | .inl x => .inl x
  | .inr v => .inr (some (.long v))
def ocV : String ⊕ Unit → String ⊕ Option Value
  | .inl x => .inl x
  | .inr _ => .inr none
def ocR (a : Nat → Nat) : String ⊕ Nat → String ⊕ Option Value
  | .inl x => .inl x
  | .inr k => .inr (some (.ref (a k)))
theorem i_ne {x v : Int32} {n : Int} (h : ¬ x = v) (hv : v.toInt = n) : x.toInt ≠ n := fun q => h (Int32.toInt_inj.mp (q.trans hv.symm))
