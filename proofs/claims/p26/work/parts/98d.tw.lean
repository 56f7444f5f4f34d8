/-! ===== two lanes as one model: wrapper by wrapper ===== -/
theorem gI_ne (v : Int32) : gI v ≠ XX := fun h => by
  have h1 := congrArg Int64.toInt h
  rw [gI, Int32.toInt_toInt64, show XX.toInt = -9000000000000000 from by decide +kernel] at h1
  have := Int32.le_toInt v
  omega
theorem gZ_ne (v : Int32) : gZ v ≠ XX := fun h => by
  unfold gZ at h
  split at h
  · exact absurd h (by decide +kernel)
  · exact absurd h (by decide +kernel)
def Oc {α : Type} (M : St) (xs : List (String × Int32)) (fX : Option ((String ⊕ α) × St)) (fM : Option (α × St)) : Prop := AgV Rel fX fM ∨ ∃ x k, (x, k) ∈ xs ∧ AgX Rel M x k fX fM
theorem oc1 {α : Type} {M : St} {x1 : String} {k1 : Int32} {fX : Option ((String ⊕ α) × St)} {fM : Option (α × St)} (h : AgV Rel fX fM ∨ AgX Rel M x1 k1 fX fM) : Oc M [(x1, k1)] fX fM := h.elim Or.inl (fun h => Or.inr ⟨_, _, List.mem_of_getElem? (i := 0) rfl, h⟩)
theorem oc2 {α : Type} {M : St} {x1 x2 : String} {k1 k2 : Int32} {fX : Option ((String ⊕ α) × St)} {fM : Option (α × St)} (h : AgV Rel fX fM ∨ AgX Rel M x1 k1 fX fM ∨ AgX Rel M x2 k2 fX fM) : Oc M [(x1, k1), (x2, k2)] fX fM := h.elim Or.inl (fun h => h.elim (fun h => Or.inr ⟨_, _, List.mem_of_getElem? (i := 0) rfl, h⟩) (fun h => Or.inr ⟨_, _, List.mem_of_getElem? (i := 1) rfl, h⟩))
theorem oc3 {α : Type} {M : St} {x1 x2 x3 : String} {k1 k2 k3 : Int32} {fX : Option ((String ⊕ α) × St)} {fM : Option (α × St)} (h : AgV Rel fX fM ∨ AgX Rel M x1 k1 fX fM ∨ AgX Rel M x2 k2 fX fM ∨ AgX Rel M x3 k3 fX fM) : Oc M [(x1, k1), (x2, k2), (x3, k3)] fX fM := h.elim Or.inl (fun h => h.elim (fun h => Or.inr ⟨_, _, List.mem_of_getElem? (i := 0) rfl, h⟩) (fun h => h.elim (fun h => Or.inr ⟨_, _, List.mem_of_getElem? (i := 1) rfl, h⟩) (fun h => Or.inr ⟨_, _, List.mem_of_getElem? (i := 2) rfl, h⟩)))
theorem wrp_x {β : Type} {xs : List String} {g : β → Int64} {e : String} {S : St} (h : e ∈ xs) : wrp xs g (some (.inl e, S)) = some (XX, S) := if_pos h
theorem w2_of {α : Type} {g : α → Int64} {T M : St} {xs : List (String × Int32)} {fS fT : Option ((String ⊕ α) × St)} {fM : Option (α × St)} (hg : ∀ v, g v ≠ XX) (hk : ∀ q ∈ xs, q.2 ≠ 0) (hT : Rel T M) (h1 : Oc M xs fS fM) (h2 : Oc M xs fT fM) : ∃ r S' T', wrp (xs.map (·.1)) g fS = some (r, S') ∧ wrp (xs.map (·.1)) g fT = some (r, T') ∧ Tw S' T' ∧ (r = XX → Tw S' T) := by
  rcases h1 with ⟨v, S', M', a1, a2, a3, a4⟩ | ⟨x, k, hx, v, S', M', a1, a2, a3, a4, a5⟩
  · rcases h2 with ⟨v2, T', M2, b1, b2, b3, b4⟩ | ⟨x2, k2, hx2, v2, T', M2, b1, b2, b3, b4, b5⟩
    · cases a2.symm.trans b2
      exact ⟨g v, S', T', by rw [a1]; rfl, by rw [b1]; rfl, ⟨M', a4, b4⟩, fun z => absurd z (hg v)⟩
    · cases a2.symm.trans b2
      exact absurd (Option.some.inj (b3.symm.trans a3)) (hk _ hx2)
  · rcases h2 with ⟨v2, T', M2, b1, b2, b3, b4⟩ | ⟨x2, k2, hx2, v2, T', M2, b1, b2, b3, b4, b5⟩
    · cases a2.symm.trans b2
      exact absurd (Option.some.inj (a3.symm.trans b3)) (hk _ hx)
    · cases a2.symm.trans b2
      exact ⟨XX, S', T', by rw [a1]; exact wrp_x (List.mem_map.mpr ⟨_, hx, rfl⟩), by rw [b1]; exact wrp_x (List.mem_map.mpr ⟨_, hx2, rfl⟩), ⟨M', a4, b4⟩, fun _ => ⟨M', a4, hT.keep scrX_r a5⟩⟩
theorem tw_face {p1 p2 : Int32} : W2 (fun S => fL_face S p1 p2) := by
  intro S T hST
  obtain ⟨M, hS, hT⟩ := hST
  exact w2_of (xs := [("java/lang/IllegalArgumentException", 1), ("java/lang/IllegalStateException", 2)]) gI_ne (by decide) hT (oc2 (ag_face S M hS p1 p2)) (oc2 (ag_face T M hT p1 p2))
theorem tw_part {p1 p2 : Int32} : W2 (fun S => fL_part S p1 p2) := by
  intro S T hST
  obtain ⟨M, hS, hT⟩ := hST
  exact w2_of (xs := [("java/lang/IllegalArgumentException", 1), ("java/lang/IllegalStateException", 2)]) gI_ne (by decide) hT (oc2 (ag_part S M hS p1 p2)) (oc2 (ag_part T M hT p1 p2))
theorem tw_redraw {p1 p2 p3 : Int32} : W2 (fun S => fL_redraw S p1 p2 p3) := by
  intro S T hST
  obtain ⟨M, hS, hT⟩ := hST
  exact w2_of (xs := [("java/lang/IndexOutOfBoundsException", 1), ("java/lang/IllegalArgumentException", 2), ("java/lang/IllegalStateException", 3)]) gI_ne (by decide) hT (oc3 (ag_redraw S M hS p1 p2 p3)) (oc3 (ag_redraw T M hT p1 p2 p3))
theorem tw_hole {p1 p2 p3 p4 : Int32} : W2 (fun S => fL_hole S p1 p2 p3 p4) := by
  intro S T hST
  obtain ⟨M, hS, hT⟩ := hST
  exact w2_of (xs := [("java/lang/IndexOutOfBoundsException", 1), ("java/lang/IllegalArgumentException", 2), ("java/lang/IllegalStateException", 3)]) gI_ne (by decide) hT (oc3 (ag_hole S M hS p1 p2 p3 p4)) (oc3 (ag_hole T M hT p1 p2 p3 p4))
theorem tw_near {p1 p2 : Int32} : W2 (fun S => fL_near S p1 p2) := by
  intro S T hST
  obtain ⟨M, hS, hT⟩ := hST
  exact w2_of (xs := [("java/lang/IndexOutOfBoundsException", 1)]) gZ_ne (by decide) hT (oc1 (ag_isNear S M hS p1 p2)) (oc1 (ag_isNear T M hT p1 p2))
theorem tw_told {p1 p2 : Int32} : W2 (fun S => fL_told S p1 p2) := by
  intro S T hST
  obtain ⟨M, hS, hT⟩ := hST
  exact w2_of (xs := [("java/lang/IndexOutOfBoundsException", 1), ("java/lang/IllegalArgumentException", 2)]) gI_ne (by decide) hT (oc2 (ag_told S M hS p1 p2)) (oc2 (ag_told T M hT p1 p2))
theorem tw_tool {p1 p2 p3 p4 p5 : Int32} : W2 (fun S => fL_tool S p1 p2 p3 p4 p5) := by
  intro S T hST
  obtain ⟨M, hS, hT⟩ := hST
  exact w2_of (xs := [("java/lang/IllegalArgumentException", 1), ("java/lang/IllegalStateException", 2)]) gI_ne (by decide) hT (oc2 (ag_tool S M hS p1 p2 p3 p4 p5)) (oc2 (ag_tool T M hT p1 p2 p3 p4 p5))
theorem tw_trial {p1 p2 p3 : Int32} : W2 (fun S => fL_trial S p1 p2 p3) := by
  intro S T hST
  obtain ⟨M, hS, hT⟩ := hST
  exact w2_of (xs := [("java/lang/IndexOutOfBoundsException", 1), ("java/lang/IllegalArgumentException", 2)]) gI_ne (by decide) hT (oc2 (ag_trial S M hS p1 p2 p3)) (oc2 (ag_trial T M hT p1 p2 p3))
theorem tw_blank {p1 p2 : Int32} : W2 (fun S => fL_blank S p1 p2) := by
  intro S T hST
  obtain ⟨M, hS, hT⟩ := hST
  exact w2_of (xs := [("java/lang/IndexOutOfBoundsException", 1)]) gI_ne (by decide) hT (oc1 (ag_blank S M hS p1 p2)) (oc1 (ag_blank T M hT p1 p2))
theorem tw_why {p1 p2 p3 p4 : Int32} : W2 (fun S => fL_why S p1 p2 p3 p4) := by
  intro S T hST
  obtain ⟨M, hS, hT⟩ := hST
  exact w2_of (xs := [("java/lang/IndexOutOfBoundsException", 1), ("java/lang/IllegalArgumentException", 2)]) gI_ne (by decide) hT (oc2 (ag_why S M hS p1 p2 p3 p4)) (oc2 (ag_why T M hT p1 p2 p3 p4))
theorem tw_point {p1 p2 p3 p4 p5 p6 : Int32} (h4 : p4 = 0 ∨ p4 = 1) (h6 : p6 = 0 ∨ p6 = 1) : W2 (fun S => fL_point S p1 p2 p3 p4 p5 p6) := by
  intro S T hST
  obtain ⟨M, hS, hT⟩ := hST
  exact w2_of (xs := [("java/lang/IndexOutOfBoundsException", 1), ("java/lang/IllegalArgumentException", 2)]) gI_ne (by decide) hT (oc2 (ag_point S M hS p1 p2 p3 p4 p5 p6 h4 h6)) (oc2 (ag_point T M hT p1 p2 p3 p4 p5 p6 h4 h6))
theorem tw_flips {p1 p2 : Int32} : W2 (fun S => fL_flips S p1 p2) := by
  intro S T hST
  obtain ⟨M, hS, hT⟩ := hST
  exact w2_of (xs := [("java/lang/IndexOutOfBoundsException", 1)]) gI_ne (by decide) hT (oc1 (ag_flips S M hS p1 p2)) (oc1 (ag_flips T M hT p1 p2))
theorem tw_ordered {p1 p2 p3 : Int32} : W2 (fun S => fL_ordered S p1 p2 p3) := by
  intro S T hST
  obtain ⟨M, hS, hT⟩ := hST
  exact w2_of (xs := [("java/lang/IndexOutOfBoundsException", 1)]) gI_ne (by decide) hT (oc1 (ag_ordered S M hS p1 p2 p3)) (oc1 (ag_ordered T M hT p1 p2 p3))
theorem tw_want {p1 p2 : Int32} : W2 (fun S => fL_want S p1 p2) := by
  intro S T hST
  obtain ⟨M, hS, hT⟩ := hST
  exact w2_of (xs := [("java/lang/IndexOutOfBoundsException", 1), ("java/lang/IllegalArgumentException", 2), ("java/lang/IllegalStateException", 3)]) gI_ne (by decide) hT (oc3 (ag_want S M hS p1 p2)) (oc3 (ag_want T M hT p1 p2))
theorem tw_batch {p1 p2 p3 : Int32} : W2 (fun S => fL_batch S p1 p2 p3) := by
  intro S T hST
  obtain ⟨M, hS, hT⟩ := hST
  exact w2_of (xs := [("java/lang/IndexOutOfBoundsException", 1), ("java/lang/IllegalArgumentException", 2), ("java/lang/IllegalStateException", 3)]) gI_ne (by decide) hT (oc3 (ag_batch S M hS p1 p2 p3)) (oc3 (ag_batch T M hT p1 p2 p3))
theorem tw_work {p1 : Int32} : W2 (fun S => fL_work S p1) := by
  intro S T hST
  obtain ⟨M, hS, hT⟩ := hST
  exact w2_of (xs := [("java/lang/IndexOutOfBoundsException", 1), ("java/lang/IllegalStateException", 2)]) gI_ne (by decide) hT (oc2 (ag_work S M hS p1)) (oc2 (ag_work T M hT p1))
theorem tw_batchOf {p1 p2 : Int32} : W2 (fun S => fL_batchOf S p1 p2) := by
  intro S T hST
  obtain ⟨M, hS, hT⟩ := hST
  exact w2_of (xs := [("java/lang/IndexOutOfBoundsException", 1), ("java/lang/IllegalArgumentException", 2)]) gI_ne (by decide) hT (oc2 (ag_batchOf S M hS p1 p2)) (oc2 (ag_batchOf T M hT p1 p2))
theorem tw_kits {p1 : Int32} : W2 (fun S => fL_kits S p1) := by
  intro S T hST
  obtain ⟨M, hS, hT⟩ := hST
  exact w2_of (xs := [("java/lang/IllegalArgumentException", 1)]) gI_ne (by decide) hT (oc1 (ag_kits S M hS p1)) (oc1 (ag_kits T M hT p1))
theorem tw_take {p1 p2 : Int32} : W2 (fun S => fL_take S p1 p2) := by
  intro S T hST
  obtain ⟨M, hS, hT⟩ := hST
  exact w2_of (xs := [("java/lang/IllegalArgumentException", 1), ("java/lang/IllegalStateException", 2)]) gI_ne (by decide) hT (oc2 (ag_take S M hS p1 p2)) (oc2 (ag_take T M hT p1 p2))
theorem tw_nest {p1 p2 p3 p4 : Int32} : W2 (fun S => fL_nest S p1 p2 p3 p4) := by
  intro S T hST
  obtain ⟨M, hS, hT⟩ := hST
  have kx : ∀ {x : String} {k : Int32}, AgX Rel M x k (fX8_nest S p1 p2 p3 p4) (fX9_nest M p1 p2 p3 p4) → x ∈ ["java/lang/IndexOutOfBoundsException", "java/lang/IllegalArgumentException"] → ∀ {x2 : String} {k2 : Int32}, AgX Rel M x2 k2 (fX8_nest T p1 p2 p3 p4) (fX9_nest M p1 p2 p3 p4) → x2 ∈ ["java/lang/IndexOutOfBoundsException", "java/lang/IllegalArgumentException"] → ∃ r S' T', fL_nest S p1 p2 p3 p4 = some (r, S') ∧ fL_nest T p1 p2 p3 p4 = some (r, T') ∧ Tw S' T' ∧ (r = XX → Tw S' T) := by
    intro x k h1 hx x2 k2 h2 hx2
    obtain ⟨v, S', M', a1, a2, a3, a4, a5⟩ := h1
    obtain ⟨v2, T', M2, b1, b2, b3, b4, b5⟩ := h2
    cases a2.symm.trans b2
    exact ⟨XX, S', T', by unfold fL_nest; rw [a1]; exact wrp_x hx, by unfold fL_nest; rw [b1]; exact wrp_x hx2, ⟨M', a4, b4⟩, fun _ => ⟨M', a4, hT.keep scrX_r a5⟩⟩
  have k0 : ∀ {x : String} {k : Int32} {S T : St}, ¬ k = 0 → AgS Rel S M (fX8_nest S p1 p2 p3 p4) (fX9_nest M p1 p2 p3 p4) → AgX Rel M x k (fX8_nest T p1 p2 p3 p4) (fX9_nest M p1 p2 p3 p4) → False := by
    intro x k S T hk h1 h2
    obtain ⟨v, S', M', a1, a2, a3, a4, a5, a6⟩ := h1
    obtain ⟨v2, T', M2, b1, b2, b3, b4, b5⟩ := h2
    cases a2.symm.trans b2
    exact hk (Option.some.inj (b3.symm.trans a3))
  have m1 : "java/lang/IndexOutOfBoundsException" ∈ ["java/lang/IndexOutOfBoundsException", "java/lang/IllegalArgumentException"] := List.mem_of_getElem? (i := 0) rfl
  have m2 : "java/lang/IllegalArgumentException" ∈ ["java/lang/IndexOutOfBoundsException", "java/lang/IllegalArgumentException"] := List.mem_of_getElem? (i := 1) rfl
  rcases ag_nest S M hS p1 p2 p3 p4 with h1 | h1 | h1
  · rcases ag_nest T M hT p1 p2 p3 p4 with h2 | h2 | h2
    · obtain ⟨v, S', M', a1, a2, a3, a4, a5, a6⟩ := h1
      obtain ⟨v2, T', M2, b1, b2, b3, b4, b5, b6⟩ := h2
      cases a2.symm.trans b2
      exact ⟨v, S', T', by show fL_nest S p1 p2 p3 p4 = _; unfold fL_nest; rw [a1]; rfl, by show fL_nest T p1 p2 p3 p4 = _; unfold fL_nest; rw [b1]; rfl, ⟨M', a4, b4⟩, fun _ => ⟨M', a4, hT.keep scrX_r a6⟩⟩
    · exact (k0 (by decide) h1 h2).elim
    · exact (k0 (by decide) h1 h2).elim
  · rcases ag_nest T M hT p1 p2 p3 p4 with h2 | h2 | h2
    · exact (k0 (by decide) h2 h1).elim
    · exact kx h1 m1 h2 m1
    · exact kx h1 m1 h2 m2
  · rcases ag_nest T M hT p1 p2 p3 p4 with h2 | h2 | h2
    · exact (k0 (by decide) h2 h1).elim
    · exact kx h1 m2 h2 m1
    · exact kx h1 m2 h2 m2
theorem tw_wipe : ∀ S T, Tw S T → ∃ v S' T', fX8_wipe S = some (v, S') ∧ fX8_wipe T = some (v, T') ∧ Tw S' T' := by
  intro S T hST
  obtain ⟨M, hS, hT⟩ := hST
  obtain ⟨v, S', M', a1, a2, a3⟩ := ag_wipe S M hS
  obtain ⟨v2, T', M2, b1, b2, b3⟩ := ag_wipe T M hT
  cases a2.symm.trans b2
  exact ⟨v, S', T', a1, b1, M', a3, b3⟩
theorem tw_clear : ∀ S T, Tw S T → ∃ v S' T', fX8_clear S = some (v, S') ∧ fX8_clear T = some (v, T') ∧ Tw S' T' := by
  intro S T hST
  obtain ⟨M, hS, hT⟩ := hST
  obtain ⟨v, S', M', a1, a2, a3⟩ := ag_clear S M hS
  obtain ⟨v2, T', M2, b1, b2, b3⟩ := ag_clear T M hT
  cases a2.symm.trans b2
  exact ⟨v, S', T', a1, b1, M', a3, b3⟩
theorem a2_tw : A2 := ⟨fun _ _ => tw_told, fun _ _ => tw_blank, fun _ _ => tw_batchOf, fun _ => tw_kits, fun _ _ => tw_near, fun _ _ _ => tw_ordered, fun _ _ _ _ => tw_nest⟩
/-! ===== act ===== -/
theorem w2_if {c : Prop} [Decidable c] {A B : St → Option (Int64 × St)} (hA : W2 A) (hB : W2 B) : W2 (fun S => if c then A S else B S) := by
  by_cases q : c
  · simp only [if_pos q]; exact hA
  · simp only [if_neg q]; exact hB
theorem w2_bn {x : Option Int32} {k : Int32 → St → Option (Int64 × St)} (hx : ∃ v, x = some v) (hk : ∀ v, x = some v → W2 (k v)) : W2 (fun S => bn1 x (fun v => k v S)) := by
  obtain ⟨v, hv⟩ := hx
  subst hv
  exact hk v rfl
theorem w2_leaf {f : St → Option (Int64 × St)} (h : W2 f) : W2 (fun S => bn2 (f S) (fun w S' => some (w, S'))) := by
  intro S T hST
  obtain ⟨r, S', T', h1, h2, h3⟩ := h S T hST
  exact ⟨r, S', T', by simp only [h1, bn2_s], by simp only [h2, bn2_s], h3⟩
theorem w2_raw {f : St → Option (Int32 × St)} (h : ∀ S T, Tw S T → ∃ v S' T', f S = some (v, S') ∧ f T = some (v, T') ∧ Tw S' T') : W2 (fun S => bn2 (f S) (fun v S' => some (Int32.toInt64 v, S'))) := by
  intro S T hST
  obtain ⟨v, S', T', h1, h2, h3⟩ := h S T hST
  exact ⟨v.toInt64, S', T', by simp only [h1, bn2_s], by simp only [h2, bn2_s], h3, fun z => absurd z (gI_ne v)⟩
theorem ex_bn {x : Option Int32} {k : Int32 → Option Int32} (hx : ∃ v, x = some v) (hk : ∀ v, ∃ z, k v = some z) : ∃ z, bn1 x k = some z := by
  obtain ⟨v, rfl⟩ := hx
  exact hk v
theorem ex_if {c : Prop} [Decidable c] {A B : Option Int32} (hA : ∃ z, A = some z) (hB : ∃ z, B = some z) : ∃ z, (if c then A else B) = some z := by
  by_cases q : c
  · rw [if_pos q]; exact hA
  · rw [if_neg q]; exact hB
theorem t01 {c : Prop} [Decidable c] {v : Int32} (h : (if c then some (0 : Int32) else some (1 : Int32)) = some v) : v = 0 ∨ v = 1 := by
  by_cases q : c
  · rw [if_pos q] at h; cases h; exact Or.inl rfl
  · rw [if_neg q] at h; cases h; exact Or.inr rfl
theorem t10 {c : Prop} [Decidable c] {v : Int32} (h : (if c then some (1 : Int32) else some (0 : Int32)) = some v) : v = 0 ∨ v = 1 := by
  by_cases q : c
  · rw [if_pos q] at h; cases h; exact Or.inr rfl
  · rw [if_neg q] at h; cases h; exact Or.inl rfl
