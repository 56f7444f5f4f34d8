/-! ===== programs as functions: a bind, a guard, a name, a join, a loop (with fuel); each with what a run of it says ===== -/
def gd {R : Type} (b : Bool) (x : Option R) : Option R := if b = true then x else none
theorem gd_of {R : Type} {b : Bool} {x : Option R} {r : R} (h : gd b x = some r) : b = true ∧ x = some r := by
  unfold gd at h
  split at h
  · exact ⟨by assumption, h⟩
  · cases h
theorem gd_t {R : Type} {b : Bool} {x : Option R} (h : b = true) : gd b x = x := if_pos h
def bv {A R : Type} (v : A) (k : A → R) : R := k v
theorem bv_of {A R : Type} {v : A} {k : A → R} {r : R} (h : bv v k = r) : ∃ x, x = v ∧ k x = r := ⟨v, rfl, h⟩
theorem if_t {c : Prop} [Decidable c] {R : Type} {x y r : R} (h : (if c then x else y) = r) (hc : c) : x = r := by rw [if_pos hc] at h; exact h
theorem if_f {c : Prop} [Decidable c] {R : Type} {x y r : R} (h : (if c then x else y) = r) (hc : ¬ c) : y = r := by rw [if_neg hc] at h; exact h
def bn1 {A R : Type} (x : Option (A)) (k : A → Option R) : Option R := match x with
  | none => none
  | some a => k a
theorem bn1_of {A R : Type} {x : Option (A)} {k : A → Option R} {r : R} (h : bn1 x k = some r) : ∃ a, x = some a ∧ k a = some r := by
  cases x with
  | none => cases h
  | some q => exact ⟨q, rfl, h⟩
theorem bn1_s {A R : Type} {k : A → Option R} {a : A} : bn1 (some a) k = k a := rfl
theorem bn1_if {c : Prop} [Decidable c] {A R : Type} {k : A → Option R} {x y : A} : bn1 (if c then some x else some y) k = bn1 (some (if c then x else y)) k := by split <;> rfl
def bn2 {A B R : Type} (x : Option (A × B)) (k : A → B → Option R) : Option R := match x with
  | none => none
  | some (a, b) => k a b
theorem bn2_of {A B R : Type} {x : Option (A × B)} {k : A → B → Option R} {r : R} (h : bn2 x k = some r) : ∃ a b, x = some (a, b) ∧ k a b = some r := by
  cases x with
  | none => cases h
  | some q => exact ⟨q.1, q.2, rfl, h⟩
theorem bn2_s {A B R : Type} {k : A → B → Option R} {a : A} {b : B} : bn2 (some (a, b)) k = k a b := rfl
theorem bn2_if {c : Prop} [Decidable c] {A B R : Type} {k : A → B → Option R} {x y : A × B} : bn2 (if c then some x else some y) k = bn2 (some (if c then x else y)) k := by split <;> rfl
def bn3 {A B C R : Type} (x : Option (A × B × C)) (k : A → B → C → Option R) : Option R := match x with
  | none => none
  | some (a, b, c) => k a b c
theorem bn3_of {A B C R : Type} {x : Option (A × B × C)} {k : A → B → C → Option R} {r : R} (h : bn3 x k = some r) : ∃ a b c, x = some (a, b, c) ∧ k a b c = some r := by
  cases x with
  | none => cases h
  | some q => exact ⟨q.1, q.2.1, q.2.2, rfl, h⟩
theorem bn3_s {A B C R : Type} {k : A → B → C → Option R} {a : A} {b : B} {c : C} : bn3 (some (a, b, c)) k = k a b c := rfl
theorem bn3_if {c : Prop} [Decidable c] {A B C R : Type} {k : A → B → C → Option R} {x y : A × B × C} : bn3 (if c then some x else some y) k = bn3 (some (if c then x else y)) k := by split <;> rfl
def bn4 {A B C D R : Type} (x : Option (A × B × C × D)) (k : A → B → C → D → Option R) : Option R := match x with
  | none => none
  | some (a, b, c, d) => k a b c d
theorem bn4_of {A B C D R : Type} {x : Option (A × B × C × D)} {k : A → B → C → D → Option R} {r : R} (h : bn4 x k = some r) : ∃ a b c d, x = some (a, b, c, d) ∧ k a b c d = some r := by
  cases x with
  | none => cases h
  | some q => exact ⟨q.1, q.2.1, q.2.2.1, q.2.2.2, rfl, h⟩
theorem bn4_s {A B C D R : Type} {k : A → B → C → D → Option R} {a : A} {b : B} {c : C} {d : D} : bn4 (some (a, b, c, d)) k = k a b c d := rfl
theorem bn4_if {c : Prop} [Decidable c] {A B C D R : Type} {k : A → B → C → D → Option R} {x y : A × B × C × D} : bn4 (if c then some x else some y) k = bn4 (some (if c then x else y)) k := by split <;> rfl
def bn5 {A B C D F R : Type} (x : Option (A × B × C × D × F)) (k : A → B → C → D → F → Option R) : Option R := match x with
  | none => none
  | some (a, b, c, d, f) => k a b c d f
theorem bn5_of {A B C D F R : Type} {x : Option (A × B × C × D × F)} {k : A → B → C → D → F → Option R} {r : R} (h : bn5 x k = some r) : ∃ a b c d f, x = some (a, b, c, d, f) ∧ k a b c d f = some r := by
  cases x with
  | none => cases h
  | some q => exact ⟨q.1, q.2.1, q.2.2.1, q.2.2.2.1, q.2.2.2.2, rfl, h⟩
theorem bn5_s {A B C D F R : Type} {k : A → B → C → D → F → Option R} {a : A} {b : B} {c : C} {d : D} {f : F} : bn5 (some (a, b, c, d, f)) k = k a b c d f := rfl
theorem bn5_if {c : Prop} [Decidable c] {A B C D F R : Type} {k : A → B → C → D → F → Option R} {x y : A × B × C × D × F} : bn5 (if c then some x else some y) k = bn5 (some (if c then x else y)) k := by split <;> rfl
def bn6 {A B C D F G R : Type} (x : Option (A × B × C × D × F × G)) (k : A → B → C → D → F → G → Option R) : Option R := match x with
  | none => none
  | some (a, b, c, d, f, g) => k a b c d f g
theorem bn6_of {A B C D F G R : Type} {x : Option (A × B × C × D × F × G)} {k : A → B → C → D → F → G → Option R} {r : R} (h : bn6 x k = some r) : ∃ a b c d f g, x = some (a, b, c, d, f, g) ∧ k a b c d f g = some r := by
  cases x with
  | none => cases h
  | some q => exact ⟨q.1, q.2.1, q.2.2.1, q.2.2.2.1, q.2.2.2.2.1, q.2.2.2.2.2, rfl, h⟩
theorem bn6_s {A B C D F G R : Type} {k : A → B → C → D → F → G → Option R} {a : A} {b : B} {c : C} {d : D} {f : F} {g : G} : bn6 (some (a, b, c, d, f, g)) k = k a b c d f g := rfl
theorem bn6_if {c : Prop} [Decidable c] {A B C D F G R : Type} {k : A → B → C → D → F → G → Option R} {x y : A × B × C × D × F × G} : bn6 (if c then some x else some y) k = bn6 (some (if c then x else y)) k := by split <;> rfl
def bn7 {A B C D F G H R : Type} (x : Option (A × B × C × D × F × G × H)) (k : A → B → C → D → F → G → H → Option R) : Option R := match x with
  | none => none
  | some (a, b, c, d, f, g, h) => k a b c d f g h
theorem bn7_of {A B C D F G H R : Type} {x : Option (A × B × C × D × F × G × H)} {k : A → B → C → D → F → G → H → Option R} {r : R} (h : bn7 x k = some r) : ∃ a b c d f g h, x = some (a, b, c, d, f, g, h) ∧ k a b c d f g h = some r := by
  cases x with
  | none => cases h
  | some q => exact ⟨q.1, q.2.1, q.2.2.1, q.2.2.2.1, q.2.2.2.2.1, q.2.2.2.2.2.1, q.2.2.2.2.2.2, rfl, h⟩
theorem bn7_s {A B C D F G H R : Type} {k : A → B → C → D → F → G → H → Option R} {a : A} {b : B} {c : C} {d : D} {f : F} {g : G} {h : H} : bn7 (some (a, b, c, d, f, g, h)) k = k a b c d f g h := rfl
theorem bn7_if {c : Prop} [Decidable c] {A B C D F G H R : Type} {k : A → B → C → D → F → G → H → Option R} {x y : A × B × C × D × F × G × H} : bn7 (if c then some x else some y) k = bn7 (some (if c then x else y)) k := by split <;> rfl
def bn8 {A B C D F G H I R : Type} (x : Option (A × B × C × D × F × G × H × I)) (k : A → B → C → D → F → G → H → I → Option R) : Option R := match x with
  | none => none
  | some (a, b, c, d, f, g, h, i) => k a b c d f g h i
theorem bn8_of {A B C D F G H I R : Type} {x : Option (A × B × C × D × F × G × H × I)} {k : A → B → C → D → F → G → H → I → Option R} {r : R} (h : bn8 x k = some r) : ∃ a b c d f g h i, x = some (a, b, c, d, f, g, h, i) ∧ k a b c d f g h i = some r := by
  cases x with
  | none => cases h
  | some q => exact ⟨q.1, q.2.1, q.2.2.1, q.2.2.2.1, q.2.2.2.2.1, q.2.2.2.2.2.1, q.2.2.2.2.2.2.1, q.2.2.2.2.2.2.2, rfl, h⟩
theorem bn8_s {A B C D F G H I R : Type} {k : A → B → C → D → F → G → H → I → Option R} {a : A} {b : B} {c : C} {d : D} {f : F} {g : G} {h : H} {i : I} : bn8 (some (a, b, c, d, f, g, h, i)) k = k a b c d f g h i := rfl
theorem bn8_if {c : Prop} [Decidable c] {A B C D F G H I R : Type} {k : A → B → C → D → F → G → H → I → Option R} {x y : A × B × C × D × F × G × H × I} : bn8 (if c then some x else some y) k = bn8 (some (if c then x else y)) k := by split <;> rfl
def bn9 {A B C D F G H I J R : Type} (x : Option (A × B × C × D × F × G × H × I × J)) (k : A → B → C → D → F → G → H → I → J → Option R) : Option R := match x with
  | none => none
  | some (a, b, c, d, f, g, h, i, j) => k a b c d f g h i j
theorem bn9_of {A B C D F G H I J R : Type} {x : Option (A × B × C × D × F × G × H × I × J)} {k : A → B → C → D → F → G → H → I → J → Option R} {r : R} (h : bn9 x k = some r) : ∃ a b c d f g h i j, x = some (a, b, c, d, f, g, h, i, j) ∧ k a b c d f g h i j = some r := by
  cases x with
  | none => cases h
  | some q => exact ⟨q.1, q.2.1, q.2.2.1, q.2.2.2.1, q.2.2.2.2.1, q.2.2.2.2.2.1, q.2.2.2.2.2.2.1, q.2.2.2.2.2.2.2.1, q.2.2.2.2.2.2.2.2, rfl, h⟩
theorem bn9_s {A B C D F G H I J R : Type} {k : A → B → C → D → F → G → H → I → J → Option R} {a : A} {b : B} {c : C} {d : D} {f : F} {g : G} {h : H} {i : I} {j : J} : bn9 (some (a, b, c, d, f, g, h, i, j)) k = k a b c d f g h i j := rfl
theorem bn9_if {c : Prop} [Decidable c] {A B C D F G H I J R : Type} {k : A → B → C → D → F → G → H → I → J → Option R} {x y : A × B × C × D × F × G × H × I × J} : bn9 (if c then some x else some y) k = bn9 (some (if c then x else y)) k := by split <;> rfl
def bn10 {A B C D F G H I J K R : Type} (x : Option (A × B × C × D × F × G × H × I × J × K)) (k : A → B → C → D → F → G → H → I → J → K → Option R) : Option R := match x with
  | none => none
  | some (a, b, c, d, f, g, h, i, j, k) => k a b c d f g h i j k
theorem bn10_of {A B C D F G H I J K R : Type} {x : Option (A × B × C × D × F × G × H × I × J × K)} {k : A → B → C → D → F → G → H → I → J → K → Option R} {r : R} (h : bn10 x k = some r) : ∃ a b c d f g h i j k, x = some (a, b, c, d, f, g, h, i, j, k) ∧ k a b c d f g h i j k = some r := by
  cases x with
  | none => cases h
  | some q => exact ⟨q.1, q.2.1, q.2.2.1, q.2.2.2.1, q.2.2.2.2.1, q.2.2.2.2.2.1, q.2.2.2.2.2.2.1, q.2.2.2.2.2.2.2.1, q.2.2.2.2.2.2.2.2.1, q.2.2.2.2.2.2.2.2.2, rfl, h⟩
theorem bn10_s {A B C D F G H I J K R : Type} {k : A → B → C → D → F → G → H → I → J → K → Option R} {a : A} {b : B} {c : C} {d : D} {f : F} {g : G} {h : H} {i : I} {j : J} {k : K} : bn10 (some (a, b, c, d, f, g, h, i, j, k)) k = k a b c d f g h i j k := rfl
theorem bn10_if {c : Prop} [Decidable c] {A B C D F G H I J K R : Type} {k : A → B → C → D → F → G → H → I → J → K → Option R} {x y : A × B × C × D × F × G × H × I × J × K} : bn10 (if c then some x else some y) k = bn10 (some (if c then x else y)) k := by split <;> rfl
theorem bn0_d : True := trivial
def jn0 {R : Type} (k : Option R) (f : (Option R) → Option R) : Option R := f k
theorem jn0_of {R : Type} {k : Option R} {f : (Option R) → Option R} {r : R} (h : jn0 k f = some r) : ∃ J : Option R, (J = k) ∧ f J = some r := ⟨k, rfl, h⟩
def jn1 {A R : Type} (k : A → Option R) (f : (A → Option R) → Option R) : Option R := f k
theorem jn1_of {A R : Type} {k : A → Option R} {f : (A → Option R) → Option R} {r : R} (h : jn1 k f = some r) : ∃ J : A → Option R, (∀ a, J a = k a) ∧ f J = some r := ⟨k, fun _ => rfl, h⟩
def jn2 {A B R : Type} (k : A → B → Option R) (f : (A → B → Option R) → Option R) : Option R := f k
theorem jn2_of {A B R : Type} {k : A → B → Option R} {f : (A → B → Option R) → Option R} {r : R} (h : jn2 k f = some r) : ∃ J : A → B → Option R, (∀ a b, J a b = k a b) ∧ f J = some r := ⟨k, fun _ _ => rfl, h⟩
def jn3 {A B C R : Type} (k : A → B → C → Option R) (f : (A → B → C → Option R) → Option R) : Option R := f k
theorem jn3_of {A B C R : Type} {k : A → B → C → Option R} {f : (A → B → C → Option R) → Option R} {r : R} (h : jn3 k f = some r) : ∃ J : A → B → C → Option R, (∀ a b c, J a b c = k a b c) ∧ f J = some r := ⟨k, fun _ _ _ => rfl, h⟩
def jn4 {A B C D R : Type} (k : A → B → C → D → Option R) (f : (A → B → C → D → Option R) → Option R) : Option R := f k
theorem jn4_of {A B C D R : Type} {k : A → B → C → D → Option R} {f : (A → B → C → D → Option R) → Option R} {r : R} (h : jn4 k f = some r) : ∃ J : A → B → C → D → Option R, (∀ a b c d, J a b c d = k a b c d) ∧ f J = some r := ⟨k, fun _ _ _ _ => rfl, h⟩
def jn5 {A B C D F R : Type} (k : A → B → C → D → F → Option R) (f : (A → B → C → D → F → Option R) → Option R) : Option R := f k
theorem jn5_of {A B C D F R : Type} {k : A → B → C → D → F → Option R} {f : (A → B → C → D → F → Option R) → Option R} {r : R} (h : jn5 k f = some r) : ∃ J : A → B → C → D → F → Option R, (∀ a b c d f, J a b c d f = k a b c d f) ∧ f J = some r := ⟨k, fun _ _ _ _ _ => rfl, h⟩
def jn6 {A B C D F G R : Type} (k : A → B → C → D → F → G → Option R) (f : (A → B → C → D → F → G → Option R) → Option R) : Option R := f k
theorem jn6_of {A B C D F G R : Type} {k : A → B → C → D → F → G → Option R} {f : (A → B → C → D → F → G → Option R) → Option R} {r : R} (h : jn6 k f = some r) : ∃ J : A → B → C → D → F → G → Option R, (∀ a b c d f g, J a b c d f g = k a b c d f g) ∧ f J = some r := ⟨k, fun _ _ _ _ _ _ => rfl, h⟩
def jn7 {A B C D F G H R : Type} (k : A → B → C → D → F → G → H → Option R) (f : (A → B → C → D → F → G → H → Option R) → Option R) : Option R := f k
theorem jn7_of {A B C D F G H R : Type} {k : A → B → C → D → F → G → H → Option R} {f : (A → B → C → D → F → G → H → Option R) → Option R} {r : R} (h : jn7 k f = some r) : ∃ J : A → B → C → D → F → G → H → Option R, (∀ a b c d f g h, J a b c d f g h = k a b c d f g h) ∧ f J = some r := ⟨k, fun _ _ _ _ _ _ _ => rfl, h⟩
def jn8 {A B C D F G H I R : Type} (k : A → B → C → D → F → G → H → I → Option R) (f : (A → B → C → D → F → G → H → I → Option R) → Option R) : Option R := f k
theorem jn8_of {A B C D F G H I R : Type} {k : A → B → C → D → F → G → H → I → Option R} {f : (A → B → C → D → F → G → H → I → Option R) → Option R} {r : R} (h : jn8 k f = some r) : ∃ J : A → B → C → D → F → G → H → I → Option R, (∀ a b c d f g h i, J a b c d f g h i = k a b c d f g h i) ∧ f J = some r := ⟨k, fun _ _ _ _ _ _ _ _ => rfl, h⟩
def jn9 {A B C D F G H I J R : Type} (k : A → B → C → D → F → G → H → I → J → Option R) (f : (A → B → C → D → F → G → H → I → J → Option R) → Option R) : Option R := f k
theorem jn9_of {A B C D F G H I J R : Type} {k : A → B → C → D → F → G → H → I → J → Option R} {f : (A → B → C → D → F → G → H → I → J → Option R) → Option R} {r : R} (h : jn9 k f = some r) : ∃ J : A → B → C → D → F → G → H → I → J → Option R, (∀ a b c d f g h i j, J a b c d f g h i j = k a b c d f g h i j) ∧ f J = some r := ⟨k, fun _ _ _ _ _ _ _ _ _ => rfl, h⟩
def jn10 {A B C D F G H I J K R : Type} (k : A → B → C → D → F → G → H → I → J → K → Option R) (f : (A → B → C → D → F → G → H → I → J → K → Option R) → Option R) : Option R := f k
theorem jn10_of {A B C D F G H I J K R : Type} {k : A → B → C → D → F → G → H → I → J → K → Option R} {f : (A → B → C → D → F → G → H → I → J → K → Option R) → Option R} {r : R} (h : jn10 k f = some r) : ∃ J : A → B → C → D → F → G → H → I → J → K → Option R, (∀ a b c d f g h i j k, J a b c d f g h i j k = k a b c d f g h i j k) ∧ f J = some r := ⟨k, fun _ _ _ _ _ _ _ _ _ _ => rfl, h⟩
def lp0 {R : Type} (body : (Option R) → Option R) : Nat → Option R
  | 0 => none
  | m + 1 => body (lp0 body m)
theorem lp0_W {R : Type} {body : (Option R) → Option R} {r : R} {P : Prop} (hs : ∀ next : Option R, (next = some r → P) → body next = some r → P) : ∀ m : Nat, lp0 body m = some r → P := by
  intro m
  induction m with
  | zero => intro h; cases h
  | succ m ih => intro h; exact hs _ ih h
theorem lp0_1 {R : Type} {body : (Option R) → Option R} {m : Nat} : lp0 body (m + 1) = body (lp0 body m) := rfl
def lp1 {A R : Type} (body : (A → Option R) → A → Option R) : Nat → A → Option R
  | 0 => fun _ => none
  | m + 1 => body (lp1 body m)
theorem lp1_W {A R : Type} {body : (A → Option R) → A → Option R} {r : R} {P : A → Prop} (hs : ∀ next : A → Option R, (∀ a, next a = some r → P a) → ∀ a, body next a = some r → P a) : ∀ m : Nat, ∀ a, lp1 body m a = some r → P a := by
  intro m
  induction m with
  | zero => intro a h; cases h
  | succ m ih => intro a h; exact hs _ ih a h
theorem lp1_1 {A R : Type} {body : (A → Option R) → A → Option R} {m : Nat} : lp1 body (m + 1) = body (lp1 body m) := rfl
def lp2 {A B R : Type} (body : (A → B → Option R) → A → B → Option R) : Nat → A → B → Option R
  | 0 => fun _ _ => none
  | m + 1 => body (lp2 body m)
theorem lp2_W {A B R : Type} {body : (A → B → Option R) → A → B → Option R} {r : R} {P : A → B → Prop} (hs : ∀ next : A → B → Option R, (∀ a b, next a b = some r → P a b) → ∀ a b, body next a b = some r → P a b) : ∀ m : Nat, ∀ a b, lp2 body m a b = some r → P a b := by
  intro m
  induction m with
  | zero => intro a b h; cases h
  | succ m ih => intro a b h; exact hs _ ih a b h
theorem lp2_1 {A B R : Type} {body : (A → B → Option R) → A → B → Option R} {m : Nat} : lp2 body (m + 1) = body (lp2 body m) := rfl
def lp3 {A B C R : Type} (body : (A → B → C → Option R) → A → B → C → Option R) : Nat → A → B → C → Option R
  | 0 => fun _ _ _ => none
  | m + 1 => body (lp3 body m)
theorem lp3_W {A B C R : Type} {body : (A → B → C → Option R) → A → B → C → Option R} {r : R} {P : A → B → C → Prop} (hs : ∀ next : A → B → C → Option R, (∀ a b c, next a b c = some r → P a b c) → ∀ a b c, body next a b c = some r → P a b c) : ∀ m : Nat, ∀ a b c, lp3 body m a b c = some r → P a b c := by
  intro m
  induction m with
  | zero => intro a b c h; cases h
  | succ m ih => intro a b c h; exact hs _ ih a b c h
theorem lp3_1 {A B C R : Type} {body : (A → B → C → Option R) → A → B → C → Option R} {m : Nat} : lp3 body (m + 1) = body (lp3 body m) := rfl
def lp4 {A B C D R : Type} (body : (A → B → C → D → Option R) → A → B → C → D → Option R) : Nat → A → B → C → D → Option R
  | 0 => fun _ _ _ _ => none
  | m + 1 => body (lp4 body m)
theorem lp4_W {A B C D R : Type} {body : (A → B → C → D → Option R) → A → B → C → D → Option R} {r : R} {P : A → B → C → D → Prop} (hs : ∀ next : A → B → C → D → Option R, (∀ a b c d, next a b c d = some r → P a b c d) → ∀ a b c d, body next a b c d = some r → P a b c d) : ∀ m : Nat, ∀ a b c d, lp4 body m a b c d = some r → P a b c d := by
  intro m
  induction m with
  | zero => intro a b c d h; cases h
  | succ m ih => intro a b c d h; exact hs _ ih a b c d h
theorem lp4_1 {A B C D R : Type} {body : (A → B → C → D → Option R) → A → B → C → D → Option R} {m : Nat} : lp4 body (m + 1) = body (lp4 body m) := rfl
def lp5 {A B C D F R : Type} (body : (A → B → C → D → F → Option R) → A → B → C → D → F → Option R) : Nat → A → B → C → D → F → Option R
  | 0 => fun _ _ _ _ _ => none
  | m + 1 => body (lp5 body m)
theorem lp5_W {A B C D F R : Type} {body : (A → B → C → D → F → Option R) → A → B → C → D → F → Option R} {r : R} {P : A → B → C → D → F → Prop} (hs : ∀ next : A → B → C → D → F → Option R, (∀ a b c d f, next a b c d f = some r → P a b c d f) → ∀ a b c d f, body next a b c d f = some r → P a b c d f) : ∀ m : Nat, ∀ a b c d f, lp5 body m a b c d f = some r → P a b c d f := by
  intro m
  induction m with
  | zero => intro a b c d f h; cases h
  | succ m ih => intro a b c d f h; exact hs _ ih a b c d f h
theorem lp5_1 {A B C D F R : Type} {body : (A → B → C → D → F → Option R) → A → B → C → D → F → Option R} {m : Nat} : lp5 body (m + 1) = body (lp5 body m) := rfl
def lp6 {A B C D F G R : Type} (body : (A → B → C → D → F → G → Option R) → A → B → C → D → F → G → Option R) : Nat → A → B → C → D → F → G → Option R
  | 0 => fun _ _ _ _ _ _ => none
  | m + 1 => body (lp6 body m)
theorem lp6_W {A B C D F G R : Type} {body : (A → B → C → D → F → G → Option R) → A → B → C → D → F → G → Option R} {r : R} {P : A → B → C → D → F → G → Prop} (hs : ∀ next : A → B → C → D → F → G → Option R, (∀ a b c d f g, next a b c d f g = some r → P a b c d f g) → ∀ a b c d f g, body next a b c d f g = some r → P a b c d f g) : ∀ m : Nat, ∀ a b c d f g, lp6 body m a b c d f g = some r → P a b c d f g := by
  intro m
  induction m with
  | zero => intro a b c d f g h; cases h
  | succ m ih => intro a b c d f g h; exact hs _ ih a b c d f g h
theorem lp6_1 {A B C D F G R : Type} {body : (A → B → C → D → F → G → Option R) → A → B → C → D → F → G → Option R} {m : Nat} : lp6 body (m + 1) = body (lp6 body m) := rfl
def lp7 {A B C D F G H R : Type} (body : (A → B → C → D → F → G → H → Option R) → A → B → C → D → F → G → H → Option R) : Nat → A → B → C → D → F → G → H → Option R
  | 0 => fun _ _ _ _ _ _ _ => none
  | m + 1 => body (lp7 body m)
theorem lp7_W {A B C D F G H R : Type} {body : (A → B → C → D → F → G → H → Option R) → A → B → C → D → F → G → H → Option R} {r : R} {P : A → B → C → D → F → G → H → Prop} (hs : ∀ next : A → B → C → D → F → G → H → Option R, (∀ a b c d f g h, next a b c d f g h = some r → P a b c d f g h) → ∀ a b c d f g h, body next a b c d f g h = some r → P a b c d f g h) : ∀ m : Nat, ∀ a b c d f g h, lp7 body m a b c d f g h = some r → P a b c d f g h := by
  intro m
  induction m with
  | zero => intro a b c d f g h h; cases h
  | succ m ih => intro a b c d f g h h; exact hs _ ih a b c d f g h h
theorem lp7_1 {A B C D F G H R : Type} {body : (A → B → C → D → F → G → H → Option R) → A → B → C → D → F → G → H → Option R} {m : Nat} : lp7 body (m + 1) = body (lp7 body m) := rfl
def lp8 {A B C D F G H I R : Type} (body : (A → B → C → D → F → G → H → I → Option R) → A → B → C → D → F → G → H → I → Option R) : Nat → A → B → C → D → F → G → H → I → Option R
  | 0 => fun _ _ _ _ _ _ _ _ => none
  | m + 1 => body (lp8 body m)
theorem lp8_W {A B C D F G H I R : Type} {body : (A → B → C → D → F → G → H → I → Option R) → A → B → C → D → F → G → H → I → Option R} {r : R} {P : A → B → C → D → F → G → H → I → Prop} (hs : ∀ next : A → B → C → D → F → G → H → I → Option R, (∀ a b c d f g h i, next a b c d f g h i = some r → P a b c d f g h i) → ∀ a b c d f g h i, body next a b c d f g h i = some r → P a b c d f g h i) : ∀ m : Nat, ∀ a b c d f g h i, lp8 body m a b c d f g h i = some r → P a b c d f g h i := by
  intro m
  induction m with
  | zero => intro a b c d f g h i h; cases h
  | succ m ih => intro a b c d f g h i h; exact hs _ ih a b c d f g h i h
theorem lp8_1 {A B C D F G H I R : Type} {body : (A → B → C → D → F → G → H → I → Option R) → A → B → C → D → F → G → H → I → Option R} {m : Nat} : lp8 body (m + 1) = body (lp8 body m) := rfl
def lp9 {A B C D F G H I J R : Type} (body : (A → B → C → D → F → G → H → I → J → Option R) → A → B → C → D → F → G → H → I → J → Option R) : Nat → A → B → C → D → F → G → H → I → J → Option R
  | 0 => fun _ _ _ _ _ _ _ _ _ => none
  | m + 1 => body (lp9 body m)
theorem lp9_W {A B C D F G H I J R : Type} {body : (A → B → C → D → F → G → H → I → J → Option R) → A → B → C → D → F → G → H → I → J → Option R} {r : R} {P : A → B → C → D → F → G → H → I → J → Prop} (hs : ∀ next : A → B → C → D → F → G → H → I → J → Option R, (∀ a b c d f g h i j, next a b c d f g h i j = some r → P a b c d f g h i j) → ∀ a b c d f g h i j, body next a b c d f g h i j = some r → P a b c d f g h i j) : ∀ m : Nat, ∀ a b c d f g h i j, lp9 body m a b c d f g h i j = some r → P a b c d f g h i j := by
  intro m
  induction m with
  | zero => intro a b c d f g h i j h; cases h
  | succ m ih => intro a b c d f g h i j h; exact hs _ ih a b c d f g h i j h
theorem lp9_1 {A B C D F G H I J R : Type} {body : (A → B → C → D → F → G → H → I → J → Option R) → A → B → C → D → F → G → H → I → J → Option R} {m : Nat} : lp9 body (m + 1) = body (lp9 body m) := rfl
def lp10 {A B C D F G H I J K R : Type} (body : (A → B → C → D → F → G → H → I → J → K → Option R) → A → B → C → D → F → G → H → I → J → K → Option R) : Nat → A → B → C → D → F → G → H → I → J → K → Option R
  | 0 => fun _ _ _ _ _ _ _ _ _ _ => none
  | m + 1 => body (lp10 body m)
theorem lp10_W {A B C D F G H I J K R : Type} {body : (A → B → C → D → F → G → H → I → J → K → Option R) → A → B → C → D → F → G → H → I → J → K → Option R} {r : R} {P : A → B → C → D → F → G → H → I → J → K → Prop} (hs : ∀ next : A → B → C → D → F → G → H → I → J → K → Option R, (∀ a b c d f g h i j k, next a b c d f g h i j k = some r → P a b c d f g h i j k) → ∀ a b c d f g h i j k, body next a b c d f g h i j k = some r → P a b c d f g h i j k) : ∀ m : Nat, ∀ a b c d f g h i j k, lp10 body m a b c d f g h i j k = some r → P a b c d f g h i j k := by
  intro m
  induction m with
  | zero => intro a b c d f g h i j k h; cases h
  | succ m ih => intro a b c d f g h i j k h; exact hs _ ih a b c d f g h i j k h
theorem lp10_1 {A B C D F G H I J K R : Type} {body : (A → B → C → D → F → G → H → I → J → K → Option R) → A → B → C → D → F → G → H → I → J → K → Option R} {m : Nat} : lp10 body (m + 1) = body (lp10 body m) := rfl
def bx {V R : Type} (x : Option (String ⊕ V)) (kx : String → Option R) (k : V → Option R) : Option R := match x with
  | none => none
  | some (.inl e) => kx e
  | some (.inr v) => k v
theorem bx_of {V R : Type} {x : Option (String ⊕ V)} {kx : String → Option R} {k : V → Option R} {r : R} (h : bx x kx k = some r) : (∃ e, x = some (.inl e) ∧ kx e = some r) ∨ (∃ v, x = some (.inr v) ∧ k v = some r) := by
  cases x with
  | none => cases h
  | some q =>
    cases q with
    | inl e => exact Or.inl ⟨e, rfl, h⟩
    | inr v => exact Or.inr ⟨v, rfl, h⟩
def bx2 {V S R : Type} (x : Option ((String ⊕ V) × S)) (kx : String → S → Option R) (k : V → S → Option R) : Option R := match x with
  | none => none
  | some (.inl e, s) => kx e s
  | some (.inr v, s) => k v s
theorem bx2_of {V S R : Type} {x : Option ((String ⊕ V) × S)} {kx : String → S → Option R} {k : V → S → Option R} {r : R} (h : bx2 x kx k = some r) : (∃ e s, x = some (.inl e, s) ∧ kx e s = some r) ∨ (∃ v s, x = some (.inr v, s) ∧ k v s = some r) := by
  cases x with
  | none => cases h
  | some q =>
    obtain ⟨q, s⟩ := q
    cases q with
    | inl e => exact Or.inl ⟨e, s, rfl, h⟩
    | inr v => exact Or.inr ⟨v, s, rfl, h⟩
def isb (v : Int32) : Bool := decide (v = 0 ∨ v = 1)
theorem isb_n {v : Int32} (h : isb v = true) : narrow .boolean (.int v) = .int v := by
  rcases (of_decide_eq_true h : v = 0 ∨ v = 1) with rfl | rfl <;> rfl
theorem isb_f {v : Int32} (h : isb v = true) : fits .boolean (.int v) = true := by
  rcases (of_decide_eq_true h : v = 0 ∨ v = 1) with rfl | rfl <;> rfl
def ocI : String ⊕ Int32 → String ⊕ Option Value
  | .inl x => .inl x
  | .inr v => .inr (some (.int v))
def ocL : String ⊕ Int64 → String ⊕ Option Value
  | .inl x => .inl x
  | .inr v => .inr (some (.long v))
def ocV : String ⊕ Unit → String ⊕ Option Value
  | .inl x => .inl x
  | .inr _ => .inr none
def ocR (a : Nat → Nat) : String ⊕ Nat → String ⊕ Option Value
  | .inl x => .inl x
  | .inr k => .inr (some (.ref (a k)))
theorem i_ne {x v : Int32} {n : Int} (h : ¬ x = v) (hv : v.toInt = n) : x.toInt ≠ n := fun q => h (Int32.toInt_inj.mp (q.trans hv.symm))
