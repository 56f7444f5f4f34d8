def fX2_bends (S : St) (k0 : Nat) : Option (Int32) :=
  if (gi S k0 2) ≤ 0 then (
    some ((0 : Int32)))
  else (
    some (((gi S k0 2) - (1 : Int32))))
abbrev rmX2_bends : Room := { frames := 6, cells := 0, slots := 0, locals := 90 }
set_option maxRecDepth 100000 in
set_option maxHeartbeats 4000000 in
theorem mX2_bends {l : Launch} {D : va_G} {cs : Nat → ClassId} {a : Nat → Nat} (hT : l.stackTraces = false) {S : St} {k0 : Nat} {r : Int32} (hk0 : kdX k0 = 2) (hF : fX2_bends S k0 = some r) : MX l 113 GX D cs a yX2_bends cX2_bends 1 (some .int) rmX2_bends [.ref (a k0)] S (.inr (some (.int r))) S := by
  refine zm_entry [(0, .ref (a k0))] hT (by decide +kernel) (Nat.le_of_ble_eq_true rfl) rfl (fun E hEl hED hEk C hQ hr => ?_)
  subst hEl
  subst hED
  subst hEk
  unfold fX2_bends at hF
  refine z_aload_n 0 (pc := 0) C dX2_bends_0 rfl rfl ?_
  refine gfX2_18 (pc := 1) C hk0 dX2_bends_1 ?_
  refine z_if_le 16 (pc := 4) C dX2_bends_4 (by decide) (fun c1 => ?_) (fun c1 => ?_)
  · have hF := if_t hF c1
    refine z_iconst (pc := 16) (v := (0 : Int32)) C dX2_bends_16 (by decide) ?_
    exact z_iret (pc := 17) C hQ hr rfl dX2_bends_17 (by cases hF; rfl) (by cases hF; rfl) (Nat.le_of_ble_eq_true rfl) (Nat.le_of_ble_eq_true rfl)
  · have hF := if_f hF c1
    refine z_aload_n 0 (pc := 7) C dX2_bends_7 rfl rfl ?_
    refine gfX2_18 (pc := 8) C hk0 dX2_bends_8 ?_
    refine z_iconst (pc := 11) (v := (1 : Int32)) C dX2_bends_11 (by decide) ?_
    refine z_isub (pc := 12) C dX2_bends_12 ?_
    refine z_goto 17 (pc := 13) C dX2_bends_13 (by decide) ?_
    exact z_iret (pc := 17) C hQ hr rfl dX2_bends_17 (by cases hF; rfl) (by cases hF; rfl) (Nat.le_of_ble_eq_true rfl) (Nat.le_of_ble_eq_true rfl)
def fX2_copy_L10 (k0 : Nat) (k1 : Nat) (next5 : Int32 → St → Option (St)) (v3 : Int32) (S4 : St) : Option (St) :=
  if (6 : Int32) ≤ v3 then (
    some S4)
  else (
    gd (inb v3 6) (
    gd (inb v3 6) (
    bv (si S4 (k0 + 1) v3.toNatClampNeg (gi S4 (k1 + 1) v3.toNatClampNeg)) (fun (S11 : St) =>
    gd (inb v3 6) (
    gd (inb v3 6) (
    bv (si S11 (k0 + 2) v3.toNatClampNeg (gi S11 (k1 + 2) v3.toNatClampNeg)) (fun (S15 : St) =>
    bv (v3 + 1) (fun (v17 : Int32) =>
    next5 v17 S15))))))))
def fX2_copy (S : St) (k0 : Nat) (k1 : Nat) : Option (St) :=
  bv (si S k0 2 (gi S k1 2)) (fun (S1 : St) =>
  bn1 (lq2 (fX2_copy_L10 k0 k1) 200 (0 : Int32) S1) (fun (S6 : St) =>
    some S6))
abbrev rmX2_copy : Room := { frames := 6, cells := 0, slots := 0, locals := 90 }
set_option maxRecDepth 100000 in
set_option maxHeartbeats 4000000 in
theorem mX2_copy {l : Launch} {D : va_G} {cs : Nat → ClassId} {a : Nat → Nat} (hT : l.stackTraces = false) {S : St} {k0 : Nat} {k1 : Nat} {S' : St} (hk0 : kdX k0 = 2) (hk1 : kdX k1 = 2) (hF : fX2_copy S k0 k1 = some S') : MX l 113 GX D cs a yX2_copy cX2_copy 3 none rmX2_copy [.ref (a k0), .ref (a k1)] S (.inr none) S' := by
  refine zm_entry [(0, .ref (a k0)), (1, .ref (a k1))] hT (by decide +kernel) (Nat.le_of_ble_eq_true rfl) rfl (fun E hEl hED hEk C hQ hr => ?_)
  subst hEl
  subst hED
  subst hEk
  unfold fX2_copy at hF
  refine z_aload_n 0 (pc := 0) C dX2_copy_0 rfl rfl ?_
  refine z_aload_n 1 (pc := 1) C dX2_copy_1 rfl rfl ?_
  refine gfX2_18 (pc := 2) C hk1 dX2_copy_2 ?_
  refine pfX2_18 (pc := 5) C hk0 dX2_copy_5 ?_
  obtain ⟨S1, e2, hF⟩ := bv_of hF
  rw [← e2]
  refine z_iconst (pc := 8) (v := (0 : Int32)) C dX2_copy_8 (by decide) ?_
  refine z_istore_n (pc := 9) (loc' := [(2, .int (0 : Int32)), (0, .ref (a k0)), (1, .ref (a k1))]) C dX2_copy_9 rfl (by decide) rfl ?_
  refine z_sub [1, 2, 0] rfl ?_
  obtain ⟨S6', hR, hF⟩ := bn1_of hF
  have hJ7 : ∀ (S6 : St), (some S6 : Option (St)) = some S6' → Zz E (WX E a S6) 0 0 46 [] [] := by
    intro S6 hE
    have hE0 := Option.some.inj hE
    subst hE0
    exact z_vret (pc := 46) C hQ hr dX2_copy_46 (by cases hF; rfl) (by cases hF; rfl) (Nat.le_of_ble_eq_true rfl) (Nat.le_of_ble_eq_true rfl)
  have hF := hR
  clear hR
  refine lq2_W (P := fun (v3 : Int32) (S4 : St) => Zz E (WX E a S4) 0 0 10 [(0, .ref (a k0)), (1, .ref (a k1)), (2, .int v3)] []) (fun next5 hN5 v3 S4 hF => ?_) _ _ _ hF
  unfold fX2_copy_L10 at hF
  refine z_iload_n 2 (pc := 10) C dX2_copy_10 rfl rfl ?_
  refine z_bipush (pc := 11) (v := (6 : Int32)) C dX2_copy_11 (by decide) ?_
  refine z_icmp_ge 46 (pc := 13) C dX2_copy_13 (by decide) (fun c8 => ?_) (fun c8 => ?_)
  · have hF := if_t hF c8
    refine z_sub [] rfl ?_
    exact hJ7 _ hF
  · have hF := if_f hF c8
    refine z_aload_n 0 (pc := 16) C dX2_copy_16 rfl rfl ?_
    refine gfX2_9 (pc := 17) C hk0 dX2_copy_17 ?_
    refine z_iload_n 2 (pc := 20) C dX2_copy_20 rfl rfl ?_
    refine z_aload_n 1 (pc := 21) C dX2_copy_21 rfl rfl ?_
    refine gfX2_9 (pc := 22) C hk1 dX2_copy_22 ?_
    refine z_iload_n 2 (pc := 25) C dX2_copy_25 rfl rfl ?_
    obtain ⟨g9, hF⟩ := gd_of hF
    refine iaX6 (pc := 26) C (kX_2_0 hk1) g9 dX2_copy_26 ?_
    obtain ⟨g10, hF⟩ := gd_of hF
    refine saX6 (pc := 27) C (kX_2_0 hk0) g10 dX2_copy_27 ?_
    obtain ⟨S11, e12, hF⟩ := bv_of hF
    rw [← e12]
    refine z_aload_n 0 (pc := 28) C dX2_copy_28 rfl rfl ?_
    refine gfX2_15 (pc := 29) C hk0 dX2_copy_29 ?_
    refine z_iload_n 2 (pc := 32) C dX2_copy_32 rfl rfl ?_
    refine z_aload_n 1 (pc := 33) C dX2_copy_33 rfl rfl ?_
    refine gfX2_15 (pc := 34) C hk1 dX2_copy_34 ?_
    refine z_iload_n 2 (pc := 37) C dX2_copy_37 rfl rfl ?_
    obtain ⟨g13, hF⟩ := gd_of hF
    refine iaX6 (pc := 38) C (kX_2_1 hk1) g13 dX2_copy_38 ?_
    obtain ⟨g14, hF⟩ := gd_of hF
    refine saX6 (pc := 39) C (kX_2_1 hk0) g14 dX2_copy_39 ?_
    obtain ⟨S15, e16, hF⟩ := bv_of hF
    rw [← e16]
    obtain ⟨v17, e18, hF⟩ := bv_of hF
    refine z_iinc 2 (pc := 40) (v := v17) (loc' := [(2, .int v17), (0, .ref (a k0)), (1, .ref (a k1))]) C dX2_copy_40 rfl (by rw [e18]; rfl) (by decide) rfl ?_
    refine z_goto 10 (pc := 43) C dX2_copy_43 (by decide) ?_
    refine z_sub [1, 2, 0] rfl ?_
    exact hN5 _ _ hF
def fX2_directionOf (S : St) (k0 : Nat) (p1 : Int32) : Option (Int32) :=
  gd (inb (p1 + (1 : Int32)) 6) (
  some ((gi S (k0 + 2) (p1 + (1 : Int32)).toNatClampNeg)))
abbrev rmX2_directionOf : Room := { frames := 6, cells := 0, slots := 0, locals := 90 }
set_option maxRecDepth 100000 in
set_option maxHeartbeats 4000000 in
theorem mX2_directionOf {l : Launch} {D : va_G} {cs : Nat → ClassId} {a : Nat → Nat} (hT : l.stackTraces = false) {S : St} {k0 : Nat} {p1 : Int32} {r : Int32} (hk0 : kdX k0 = 2) (hF : fX2_directionOf S k0 p1 = some r) : MX l 113 GX D cs a yX2_directionOf cX2_directionOf 2 (some .int) rmX2_directionOf [.ref (a k0), .int p1] S (.inr (some (.int r))) S := by
  refine zm_entry [(0, .ref (a k0)), (1, .int p1)] hT (by decide +kernel) (Nat.le_of_ble_eq_true rfl) rfl (fun E hEl hED hEk C hQ hr => ?_)
  subst hEl
  subst hED
  subst hEk
  unfold fX2_directionOf at hF
  refine z_aload_n 0 (pc := 0) C dX2_directionOf_0 rfl rfl ?_
  refine gfX2_15 (pc := 1) C hk0 dX2_directionOf_1 ?_
  refine z_iload_n 1 (pc := 4) C dX2_directionOf_4 rfl rfl ?_
  refine z_iconst (pc := 5) (v := (1 : Int32)) C dX2_directionOf_5 (by decide) ?_
  refine z_iadd (pc := 6) C dX2_directionOf_6 ?_
  obtain ⟨g1, hF⟩ := gd_of hF
  refine iaX6 (pc := 7) C (kX_2_1 hk0) g1 dX2_directionOf_7 ?_
  exact z_iret (pc := 8) C hQ hr rfl dX2_directionOf_8 (by cases hF; rfl) (by cases hF; rfl) (Nat.le_of_ble_eq_true rfl) (Nat.le_of_ble_eq_true rfl)
def fX2_flatLength_L4 (S : St) (k0 : Nat) (next3 : Int32 → Int32 → Option (Int32)) (v1 : Int32) (v2 : Int32) : Option (Int32) :=
  if (gi S k0 2) ≤ v2 then (
    some v1)
  else (
    gd (inb v2 6) (
    bv ((v1 + (gi S (k0 + 1) v2.toNatClampNeg))) (fun (v8 : Int32) =>
    bv (v2 + 1) (fun (v10 : Int32) =>
    next3 v8 v10))))
def fX2_flatLength (S : St) (k0 : Nat) : Option (Int32) :=
  bn1 (lq2 (fX2_flatLength_L4 S k0) 200 (0 : Int32) (0 : Int32)) (fun (v4 : Int32) =>
    some (v4))
abbrev rmX2_flatLength : Room := { frames := 6, cells := 0, slots := 0, locals := 90 }
set_option maxRecDepth 100000 in
set_option maxHeartbeats 4000000 in
theorem mX2_flatLength {l : Launch} {D : va_G} {cs : Nat → ClassId} {a : Nat → Nat} (hT : l.stackTraces = false) {S : St} {k0 : Nat} {r : Int32} (hk0 : kdX k0 = 2) (hF : fX2_flatLength S k0 = some r) : MX l 113 GX D cs a yX2_flatLength cX2_flatLength 3 (some .int) rmX2_flatLength [.ref (a k0)] S (.inr (some (.int r))) S := by
  refine zm_entry [(0, .ref (a k0))] hT (by decide +kernel) (Nat.le_of_ble_eq_true rfl) rfl (fun E hEl hED hEk C hQ hr => ?_)
  subst hEl
  subst hED
  subst hEk
  unfold fX2_flatLength at hF
  refine z_iconst (pc := 0) (v := (0 : Int32)) C dX2_flatLength_0 (by decide) ?_
  refine z_istore_n (pc := 1) (loc' := [(1, .int (0 : Int32)), (0, .ref (a k0))]) C dX2_flatLength_1 rfl (by decide) rfl ?_
  refine z_iconst (pc := 2) (v := (0 : Int32)) C dX2_flatLength_2 (by decide) ?_
  refine z_istore_n (pc := 3) (loc' := [(2, .int (0 : Int32)), (1, .int (0 : Int32)), (0, .ref (a k0))]) C dX2_flatLength_3 rfl (by decide) rfl ?_
  refine z_sub [2, 1, 0] rfl ?_
  obtain ⟨v4', hR, hF⟩ := bn1_of hF
  have hJ5 : ∀ (v4 : Int32), (some v4 : Option (Int32)) = some v4' → Zz E (WX E a S) 0 0 27 [(1, .int v4)] [] := by
    intro v4 hE
    have hE0 := Option.some.inj hE
    subst hE0
    refine z_iload_n 0 (pc := 27) C dX2_flatLength_27 rfl rfl ?_
    exact z_iret (pc := 28) C hQ hr rfl dX2_flatLength_28 (by cases hF; rfl) (by cases hF; rfl) (Nat.le_of_ble_eq_true rfl) (Nat.le_of_ble_eq_true rfl)
  have hF := hR
  clear hR
  refine lq2_W (P := fun (v1 : Int32) (v2 : Int32) => Zz E (WX E a S) 0 0 4 [(0, .ref (a k0)), (1, .int v1), (2, .int v2)] []) (fun next3 hN3 v1 v2 hF => ?_) _ _ _ hF
  unfold fX2_flatLength_L4 at hF
  refine z_iload_n 2 (pc := 4) C dX2_flatLength_4 rfl rfl ?_
  refine z_aload_n 0 (pc := 5) C dX2_flatLength_5 rfl rfl ?_
  refine gfX2_18 (pc := 6) C hk0 dX2_flatLength_6 ?_
  refine z_icmp_ge 27 (pc := 9) C dX2_flatLength_9 (by decide) (fun c6 => ?_) (fun c6 => ?_)
  · have hF := if_t hF c6
    refine z_sub [1] rfl ?_
    exact hJ5 _ hF
  · have hF := if_f hF c6
    refine z_iload_n 1 (pc := 12) C dX2_flatLength_12 rfl rfl ?_
    refine z_aload_n 0 (pc := 13) C dX2_flatLength_13 rfl rfl ?_
    refine gfX2_9 (pc := 14) C hk0 dX2_flatLength_14 ?_
    refine z_iload_n 2 (pc := 17) C dX2_flatLength_17 rfl rfl ?_
    obtain ⟨g7, hF⟩ := gd_of hF
    refine iaX6 (pc := 18) C (kX_2_0 hk0) g7 dX2_flatLength_18 ?_
    refine z_iadd (pc := 19) C dX2_flatLength_19 ?_
    obtain ⟨v8, e9, hF⟩ := bv_of hF
    refine z_topi e9 ?_
    refine z_istore_n (pc := 20) (loc' := [(1, .int v8), (0, .ref (a k0)), (2, .int v2)]) C dX2_flatLength_20 rfl (by decide) rfl ?_
    obtain ⟨v10, e11, hF⟩ := bv_of hF
    refine z_iinc 2 (pc := 21) (v := v10) (loc' := [(2, .int v10), (1, .int v8), (0, .ref (a k0))]) C dX2_flatLength_21 rfl (by rw [e11]; rfl) (by decide) rfl ?_
    refine z_goto 4 (pc := 24) C dX2_flatLength_24 (by decide) ?_
    refine z_sub [2, 1, 0] rfl ?_
    exact hN3 _ _ hF
def fX2_isAs_L15 (S : St) (k0 : Nat) (k1 : Nat) (next3 : Int32 → Option (Int32)) (v2 : Int32) : Option (Int32) :=
  if (gi S k0 2) ≤ v2 then (
    some ((1 : Int32)))
  else (
    bn1 (jn0 (
      some (0 : Int32)) (fun J13 =>
      if v2 ≤ 0 then (
        J13)
      else (
        gd (inb v2 6) (
        gd (inb v2 6) (
        if (gi S (k0 + 2) v2.toNatClampNeg) = (gi S (k1 + 2) v2.toNatClampNeg) then (
          J13)
        else (
          some (1 : Int32))))))) (fun (v5 : Int32) =>
      if v5 = 0 then (
        gd (inb v2 6) (
        gd (inb v2 6) (
        if (gi S (k0 + 1) v2.toNatClampNeg) = (gi S (k1 + 1) v2.toNatClampNeg) then (
          bv (v2 + 1) (fun (v10 : Int32) =>
          next3 v10))
        else (
          some ((0 : Int32))))))
      else (
        some ((0 : Int32)))))
def fX2_isAs (S : St) (k0 : Nat) (k1 : Nat) : Option (Int32) :=
  if (gi S k0 2) = (gi S k1 2) then (
    lq1 (fX2_isAs_L15 S k0 k1) 200 (0 : Int32))
  else (
    some ((0 : Int32)))
abbrev rmX2_isAs : Room := { frames := 6, cells := 0, slots := 0, locals := 90 }
set_option maxRecDepth 100000 in
set_option maxHeartbeats 4000000 in
theorem mX2_isAs {l : Launch} {D : va_G} {cs : Nat → ClassId} {a : Nat → Nat} (hT : l.stackTraces = false) {S : St} {k0 : Nat} {k1 : Nat} {r : Int32} (hk0 : kdX k0 = 2) (hk1 : kdX k1 = 2) (hF : fX2_isAs S k0 k1 = some r) : MX l 113 GX D cs a yX2_isAs cX2_isAs 4 (some .boolean) rmX2_isAs [.ref (a k0), .ref (a k1)] S (.inr (some (.int r))) S := by
  refine zm_entry [(0, .ref (a k0)), (1, .ref (a k1))] hT (by decide +kernel) (Nat.le_of_ble_eq_true rfl) rfl (fun E hEl hED hEk C hQ hr => ?_)
  subst hEl
  subst hED
  subst hEk
  unfold fX2_isAs at hF
  refine z_aload_n 0 (pc := 0) C dX2_isAs_0 rfl rfl ?_
  refine gfX2_18 (pc := 1) C hk0 dX2_isAs_1 ?_
  refine z_aload_n 1 (pc := 4) C dX2_isAs_4 rfl rfl ?_
  refine gfX2_18 (pc := 5) C hk1 dX2_isAs_5 ?_
  refine z_icmp_eq 13 (pc := 8) C dX2_isAs_8 (by decide) (fun c1 => ?_) (fun c1 => ?_)
  · have hF := if_t hF c1
    refine z_iconst (pc := 13) (v := (0 : Int32)) C dX2_isAs_13 (by decide) ?_
    refine z_istore_n (pc := 14) (loc' := [(2, .int (0 : Int32)), (0, .ref (a k0)), (1, .ref (a k1))]) C dX2_isAs_14 rfl (by decide) rfl ?_
    refine z_sub [1, 2, 0] rfl ?_
    refine lq1_W (P := fun (v2 : Int32) => Zz E (WX E a S) 0 0 15 [(0, .ref (a k0)), (1, .ref (a k1)), (2, .int v2)] []) (fun next3 hN3 v2 hF => ?_) _ _ hF
    unfold fX2_isAs_L15 at hF
    refine z_iload_n 2 (pc := 15) C dX2_isAs_15 rfl rfl ?_
    refine z_aload_n 0 (pc := 16) C dX2_isAs_16 rfl rfl ?_
    refine gfX2_18 (pc := 17) C hk0 dX2_isAs_17 ?_
    refine z_icmp_ge 75 (pc := 20) C dX2_isAs_20 (by decide) (fun c4 => ?_) (fun c4 => ?_)
    · have hF := if_t hF c4
      refine z_iconst (pc := 75) (v := (1 : Int32)) C dX2_isAs_75 (by decide) ?_
      exact z_iret (pc := 76) C hQ hr rfl dX2_isAs_76 (by cases hF; rfl) (by cases hF; rfl) (Nat.le_of_ble_eq_true rfl) (Nat.le_of_ble_eq_true rfl)
    · have hF := if_f hF c4
      refine z_iload_n 2 (pc := 23) C dX2_isAs_23 rfl rfl ?_
      obtain ⟨v5', hR, hF⟩ := bn1_of hF
      have hJ12 : ∀ (v5 : Int32), (some v5 : Option (Int32)) = some v5' → Zz E (WX E a S) 0 0 47 [(0, .ref (a k0)), (1, .ref (a k1)), (2, .int v2)] [.int v5] := by
        intro v5 hE
        have hE0 := Option.some.inj hE
        subst hE0
        refine z_istore_n (pc := 47) (loc' := [(3, .int v5), (0, .ref (a k0)), (1, .ref (a k1)), (2, .int v2)]) C dX2_isAs_47 rfl (by decide) rfl ?_
        refine z_iload_n 0 (pc := 48) C dX2_isAs_48 rfl rfl ?_
        refine z_if_ne 67 (pc := 49) C dX2_isAs_49 (by decide) (fun c6 => ?_) (fun c6 => ?_)
        · have hF := if_f hF c6
          refine z_iconst (pc := 67) (v := (0 : Int32)) C dX2_isAs_67 (by decide) ?_
          exact z_iret (pc := 68) C hQ hr rfl dX2_isAs_68 (by cases hF; rfl) (by cases hF; rfl) (Nat.le_of_ble_eq_true rfl) (Nat.le_of_ble_eq_true rfl)
        · have hF := if_t hF c6
          refine z_aload_n 1 (pc := 52) C dX2_isAs_52 rfl rfl ?_
          refine gfX2_9 (pc := 53) C hk0 dX2_isAs_53 ?_
          refine z_iload_n 3 (pc := 56) C dX2_isAs_56 rfl rfl ?_
          obtain ⟨g7, hF⟩ := gd_of hF
          refine iaX6 (pc := 57) C (kX_2_0 hk0) g7 dX2_isAs_57 ?_
          refine z_aload_n 2 (pc := 58) C dX2_isAs_58 rfl rfl ?_
          refine gfX2_9 (pc := 59) C hk1 dX2_isAs_59 ?_
          refine z_iload_n 3 (pc := 62) C dX2_isAs_62 rfl rfl ?_
          obtain ⟨g8, hF⟩ := gd_of hF
          refine iaX6 (pc := 63) C (kX_2_0 hk1) g8 dX2_isAs_63 ?_
          refine z_icmp_eq 69 (pc := 64) C dX2_isAs_64 (by decide) (fun c9 => ?_) (fun c9 => ?_)
          · have hF := if_t hF c9
            obtain ⟨v10, e11, hF⟩ := bv_of hF
            refine z_iinc 3 (pc := 69) (v := v10) (loc' := [(2, .int v10), (3, .int v5), (0, .ref (a k0)), (1, .ref (a k1))]) C dX2_isAs_69 rfl (by rw [e11]; rfl) (by decide) rfl ?_
            refine z_goto 15 (pc := 72) C dX2_isAs_72 (by decide) ?_
            refine z_sub [2, 3, 0] rfl ?_
            exact hN3 _ hF
          · have hF := if_f hF c9
            refine z_iconst (pc := 67) (v := (0 : Int32)) C dX2_isAs_67 (by decide) ?_
            exact z_iret (pc := 68) C hQ hr rfl dX2_isAs_68 (by cases hF; rfl) (by cases hF; rfl) (Nat.le_of_ble_eq_true rfl) (Nat.le_of_ble_eq_true rfl)
      have hF := hR
      clear hR
      obtain ⟨J13, hdJ13, hF⟩ := jn0_of hF
      have hJ13 : J13 = some v5' → Zz E (WX E a S) 0 0 46 [(0, .ref (a k0)), (1, .ref (a k1)), (2, .int v2)] [] := by
        intro hF
        have hF := hdJ13.symm.trans hF
        refine z_iconst (pc := 46) (v := (0 : Int32)) C dX2_isAs_46 (by decide) ?_
        exact hJ12 _ hF
      refine z_if_le 46 (pc := 24) C dX2_isAs_24 (by decide) (fun c14 => ?_) (fun c14 => ?_)
      · have hF := if_t hF c14
        exact hJ13 hF
      · have hF := if_f hF c14
        refine z_aload_n 0 (pc := 27) C dX2_isAs_27 rfl rfl ?_
        refine gfX2_15 (pc := 28) C hk0 dX2_isAs_28 ?_
        refine z_iload_n 2 (pc := 31) C dX2_isAs_31 rfl rfl ?_
        obtain ⟨g15, hF⟩ := gd_of hF
        refine iaX6 (pc := 32) C (kX_2_1 hk0) g15 dX2_isAs_32 ?_
        refine z_aload_n 1 (pc := 33) C dX2_isAs_33 rfl rfl ?_
        refine gfX2_15 (pc := 34) C hk1 dX2_isAs_34 ?_
        refine z_iload_n 2 (pc := 37) C dX2_isAs_37 rfl rfl ?_
        obtain ⟨g16, hF⟩ := gd_of hF
        refine iaX6 (pc := 38) C (kX_2_1 hk1) g16 dX2_isAs_38 ?_
        refine z_icmp_eq 46 (pc := 39) C dX2_isAs_39 (by decide) (fun c17 => ?_) (fun c17 => ?_)
        · have hF := if_t hF c17
          exact hJ13 hF
        · have hF := if_f hF c17
          refine z_iconst (pc := 42) (v := (1 : Int32)) C dX2_isAs_42 (by decide) ?_
          refine z_goto 47 (pc := 43) C dX2_isAs_43 (by decide) ?_
          exact hJ12 _ hF
  · have hF := if_f hF c1
    refine z_iconst (pc := 11) (v := (0 : Int32)) C dX2_isAs_11 (by decide) ?_
    exact z_iret (pc := 12) C hQ hr rfl dX2_isAs_12 (by cases hF; rfl) (by cases hF; rfl) (Nat.le_of_ble_eq_true rfl) (Nat.le_of_ble_eq_true rfl)
def fX2_wingFaces (S : St) (k0 : Nat) (p1 : Int32) (p2 : Int32) : Option (Int32) :=
  if p2 = 0 then (
    some ((p1 + (1 : Int32))))
  else (
    some ((((gi S k0 2) - (1 : Int32)) - p1)))
abbrev rmX2_wingFaces : Room := { frames := 6, cells := 0, slots := 0, locals := 90 }
set_option maxRecDepth 100000 in
set_option maxHeartbeats 4000000 in
theorem mX2_wingFaces {l : Launch} {D : va_G} {cs : Nat → ClassId} {a : Nat → Nat} (hT : l.stackTraces = false) {S : St} {k0 : Nat} {p1 : Int32} {p2 : Int32} {r : Int32} (hk0 : kdX k0 = 2) (hF : fX2_wingFaces S k0 p1 p2 = some r) : MX l 113 GX D cs a yX2_wingFaces cX2_wingFaces 3 (some .int) rmX2_wingFaces [.ref (a k0), .int p1, .int p2] S (.inr (some (.int r))) S := by
  refine zm_entry [(0, .ref (a k0)), (1, .int p1), (2, .int p2)] hT (by decide +kernel) (Nat.le_of_ble_eq_true rfl) rfl (fun E hEl hED hEk C hQ hr => ?_)
  subst hEl
  subst hED
  subst hEk
  unfold fX2_wingFaces at hF
  refine z_iload_n 2 (pc := 0) C dX2_wingFaces_0 rfl rfl ?_
  refine z_if_eq 15 (pc := 1) C dX2_wingFaces_1 (by decide) (fun c1 => ?_) (fun c1 => ?_)
  · have hF := if_t hF c1
    refine z_iload_n 1 (pc := 15) C dX2_wingFaces_15 rfl rfl ?_
    refine z_iconst (pc := 16) (v := (1 : Int32)) C dX2_wingFaces_16 (by decide) ?_
    refine z_iadd (pc := 17) C dX2_wingFaces_17 ?_
    exact z_iret (pc := 18) C hQ hr rfl dX2_wingFaces_18 (by cases hF; rfl) (by cases hF; rfl) (Nat.le_of_ble_eq_true rfl) (Nat.le_of_ble_eq_true rfl)
  · have hF := if_f hF c1
    refine z_aload_n 0 (pc := 4) C dX2_wingFaces_4 rfl rfl ?_
    refine gfX2_18 (pc := 5) C hk0 dX2_wingFaces_5 ?_
    refine z_iconst (pc := 8) (v := (1 : Int32)) C dX2_wingFaces_8 (by decide) ?_
    refine z_isub (pc := 9) C dX2_wingFaces_9 ?_
    refine z_iload_n 1 (pc := 10) C dX2_wingFaces_10 rfl rfl ?_
    refine z_isub (pc := 11) C dX2_wingFaces_11 ?_
    refine z_goto 18 (pc := 12) C dX2_wingFaces_12 (by decide) ?_
    exact z_iret (pc := 18) C hQ hr rfl dX2_wingFaces_18 (by cases hF; rfl) (by cases hF; rfl) (Nat.le_of_ble_eq_true rfl) (Nat.le_of_ble_eq_true rfl)
def fX3_doAllFit_L2 (S : St) (next2 : Int32 → Option (Int32)) (v1 : Int32) : Option (Int32) :=
  if (gi S 20 5) ≤ v1 then (
    some ((1 : Int32)))
  else (
    gd (inb v1 8) (
    if (gi S 20 0) < (gi S 21 v1.toNatClampNeg) then (
      some ((0 : Int32)))
    else (
      gd (inb v1 8) (
      if (gi S 22 v1.toNatClampNeg) ≤ (gi S 20 1) then (
        bv (v1 + 1) (fun (v8 : Int32) =>
        next2 v8))
      else (
        some ((0 : Int32)))))))
def fX3_doAllFit (S : St) : Option (Int32) :=
  lq1 (fX3_doAllFit_L2 S) 200 (0 : Int32)
abbrev rmX3_doAllFit : Room := { frames := 6, cells := 0, slots := 0, locals := 90 }
set_option maxRecDepth 100000 in
set_option maxHeartbeats 4000000 in
theorem mX3_doAllFit {l : Launch} {D : va_G} {cs : Nat → ClassId} {a : Nat → Nat} (hT : l.stackTraces = false) {S : St} {r : Int32} (hF : fX3_doAllFit S = some r) : MX l 113 GX D cs a yX3_doAllFit cX3_doAllFit 2 (some .boolean) rmX3_doAllFit [.ref (a 20)] S (.inr (some (.int r))) S := by
  refine zm_entry [(0, .ref (a 20))] hT (by decide +kernel) (Nat.le_of_ble_eq_true rfl) rfl (fun E hEl hED hEk C hQ hr => ?_)
  subst hEl
  subst hED
  subst hEk
  unfold fX3_doAllFit at hF
  refine z_iconst (pc := 0) (v := (0 : Int32)) C dX3_doAllFit_0 (by decide) ?_
  refine z_istore_n (pc := 1) (loc' := [(1, .int (0 : Int32)), (0, .ref (a 20))]) C dX3_doAllFit_1 rfl (by decide) rfl ?_
  refine z_sub [1, 0] rfl ?_
  refine lq1_W (P := fun (v1 : Int32) => Zz E (WX E a S) 0 0 2 [(0, .ref (a 20)), (1, .int v1)] []) (fun next2 hN2 v1 hF => ?_) _ _ hF
  unfold fX3_doAllFit_L2 at hF
  refine z_iload_n 1 (pc := 2) C dX3_doAllFit_2 rfl rfl ?_
  refine z_aload_n 0 (pc := 3) C dX3_doAllFit_3 rfl rfl ?_
  refine gfX3_43 (pc := 4) C (rfl : kdX 20 = 3) dX3_doAllFit_4 ?_
  refine z_icmp_ge 44 (pc := 7) C dX3_doAllFit_7 (by decide) (fun c3 => ?_) (fun c3 => ?_)
  · have hF := if_t hF c3
    refine z_iconst (pc := 44) (v := (1 : Int32)) C dX3_doAllFit_44 (by decide) ?_
    exact z_iret (pc := 45) C hQ hr rfl dX3_doAllFit_45 (by cases hF; rfl) (by cases hF; rfl) (Nat.le_of_ble_eq_true rfl) (Nat.le_of_ble_eq_true rfl)
  · have hF := if_f hF c3
    refine z_aload_n 0 (pc := 10) C dX3_doAllFit_10 rfl rfl ?_
    refine gfX3_9 (pc := 11) C (rfl : kdX 20 = 3) dX3_doAllFit_11 ?_
    refine z_iload_n 1 (pc := 14) C dX3_doAllFit_14 rfl rfl ?_
    obtain ⟨g4, hF⟩ := gd_of hF
    refine iaX8 (pc := 15) C (rfl : kdX 21 = 28) g4 dX3_doAllFit_15 ?_
    refine z_aload_n 0 (pc := 16) C dX3_doAllFit_16 rfl rfl ?_
    refine gfX3_36 (pc := 17) C (rfl : kdX 20 = 3) dX3_doAllFit_17 ?_
    refine z_icmp_gt 36 (pc := 20) C dX3_doAllFit_20 (by decide) (fun c5 => ?_) (fun c5 => ?_)
    · have hF := if_t hF c5
      refine z_iconst (pc := 36) (v := (0 : Int32)) C dX3_doAllFit_36 (by decide) ?_
      exact z_iret (pc := 37) C hQ hr rfl dX3_doAllFit_37 (by cases hF; rfl) (by cases hF; rfl) (Nat.le_of_ble_eq_true rfl) (Nat.le_of_ble_eq_true rfl)
    · have hF := if_f hF c5
      refine z_aload_n 0 (pc := 23) C dX3_doAllFit_23 rfl rfl ?_
      refine gfX3_15 (pc := 24) C (rfl : kdX 20 = 3) dX3_doAllFit_24 ?_
      refine z_iload_n 1 (pc := 27) C dX3_doAllFit_27 rfl rfl ?_
      obtain ⟨g6, hF⟩ := gd_of hF
      refine iaX8 (pc := 28) C (rfl : kdX 22 = 28) g6 dX3_doAllFit_28 ?_
      refine z_aload_n 0 (pc := 29) C dX3_doAllFit_29 rfl rfl ?_
      refine gfX3_40 (pc := 30) C (rfl : kdX 20 = 3) dX3_doAllFit_30 ?_
      refine z_icmp_le 38 (pc := 33) C dX3_doAllFit_33 (by decide) (fun c7 => ?_) (fun c7 => ?_)
      · have hF := if_t hF c7
        obtain ⟨v8, e9, hF⟩ := bv_of hF
        refine z_iinc 1 (pc := 38) (v := v8) (loc' := [(1, .int v8), (0, .ref (a 20))]) C dX3_doAllFit_38 rfl (by rw [e9]; rfl) (by decide) rfl ?_
        refine z_goto 2 (pc := 41) C dX3_doAllFit_41 (by decide) ?_
        refine z_sub [1, 0] rfl ?_
        exact hN2 _ hF
      · have hF := if_f hF c7
        refine z_iconst (pc := 36) (v := (0 : Int32)) C dX3_doAllFit_36 (by decide) ?_
        exact z_iret (pc := 37) C hQ hr rfl dX3_doAllFit_37 (by cases hF; rfl) (by cases hF; rfl) (Nat.le_of_ble_eq_true rfl) (Nat.le_of_ble_eq_true rfl)
def fX3_isBigger (S : St) (p1 : Int32) (p2 : Int32) (p3 : Int32) : Option (Int32) :=
  gd (inb p3 8) (
  jn0 (
    some ((1 : Int32))) (fun J2 =>
    if (gi S 21 p3.toNatClampNeg) < p1 then (
      J2)
    else (
      gd (inb p3 8) (
      if p1 = (gi S 21 p3.toNatClampNeg) then (
        gd (inb p3 8) (
        if p2 ≤ (gi S 22 p3.toNatClampNeg) then (
          some ((0 : Int32)))
        else (
          J2)))
      else (
        some ((0 : Int32)))))))
abbrev rmX3_isBigger : Room := { frames := 6, cells := 0, slots := 0, locals := 90 }
set_option maxRecDepth 100000 in
set_option maxHeartbeats 4000000 in
theorem mX3_isBigger {l : Launch} {D : va_G} {cs : Nat → ClassId} {a : Nat → Nat} (hT : l.stackTraces = false) {S : St} {p1 : Int32} {p2 : Int32} {p3 : Int32} {r : Int32} (hF : fX3_isBigger S p1 p2 p3 = some r) : MX l 113 GX D cs a yX3_isBigger cX3_isBigger 4 (some .boolean) rmX3_isBigger [.ref (a 20), .int p1, .int p2, .int p3] S (.inr (some (.int r))) S := by
  refine zm_entry [(0, .ref (a 20)), (1, .int p1), (2, .int p2), (3, .int p3)] hT (by decide +kernel) (Nat.le_of_ble_eq_true rfl) rfl (fun E hEl hED hEk C hQ hr => ?_)
  subst hEl
  subst hED
  subst hEk
  unfold fX3_isBigger at hF
  refine z_iload_n 1 (pc := 0) C dX3_isBigger_0 rfl rfl ?_
  refine z_aload_n 0 (pc := 1) C dX3_isBigger_1 rfl rfl ?_
  refine gfX3_9 (pc := 2) C (rfl : kdX 20 = 3) dX3_isBigger_2 ?_
  refine z_iload_n 3 (pc := 5) C dX3_isBigger_5 rfl rfl ?_
  obtain ⟨g1, hF⟩ := gd_of hF
  refine iaX8 (pc := 6) C (rfl : kdX 21 = 28) g1 dX3_isBigger_6 ?_
  obtain ⟨J2, hdJ2, hF⟩ := jn0_of hF
  have hJ2 : J2 = some r → Zz E (WX E a S) 0 0 30 [] [] := by
    intro hF
    have hF := hdJ2.symm.trans hF
    refine z_iconst (pc := 30) (v := (1 : Int32)) C dX3_isBigger_30 (by decide) ?_
    refine z_goto 35 (pc := 31) C dX3_isBigger_31 (by decide) ?_
    exact z_iret (pc := 35) C hQ hr rfl dX3_isBigger_35 (by cases hF; rfl) (by cases hF; rfl) (Nat.le_of_ble_eq_true rfl) (Nat.le_of_ble_eq_true rfl)
  refine z_icmp_gt 30 (pc := 7) C dX3_isBigger_7 (by decide) (fun c3 => ?_) (fun c3 => ?_)
  · have hF := if_t hF c3
    refine z_sub [] rfl ?_
    exact hJ2 hF
  · have hF := if_f hF c3
    refine z_iload_n 1 (pc := 10) C dX3_isBigger_10 rfl rfl ?_
    refine z_aload_n 0 (pc := 11) C dX3_isBigger_11 rfl rfl ?_
    refine gfX3_9 (pc := 12) C (rfl : kdX 20 = 3) dX3_isBigger_12 ?_
    refine z_iload_n 3 (pc := 15) C dX3_isBigger_15 rfl rfl ?_
    obtain ⟨g4, hF⟩ := gd_of hF
    refine iaX8 (pc := 16) C (rfl : kdX 21 = 28) g4 dX3_isBigger_16 ?_
    refine z_icmp_ne 34 (pc := 17) C dX3_isBigger_17 (by decide) (fun c5 => ?_) (fun c5 => ?_)
    · have hF := if_f hF c5
      refine z_iconst (pc := 34) (v := (0 : Int32)) C dX3_isBigger_34 (by decide) ?_
      exact z_iret (pc := 35) C hQ hr rfl dX3_isBigger_35 (by cases hF; rfl) (by cases hF; rfl) (Nat.le_of_ble_eq_true rfl) (Nat.le_of_ble_eq_true rfl)
    · have hF := if_t hF c5
      refine z_iload_n 2 (pc := 20) C dX3_isBigger_20 rfl rfl ?_
      refine z_aload_n 0 (pc := 21) C dX3_isBigger_21 rfl rfl ?_
      refine gfX3_15 (pc := 22) C (rfl : kdX 20 = 3) dX3_isBigger_22 ?_
      refine z_iload_n 3 (pc := 25) C dX3_isBigger_25 rfl rfl ?_
      obtain ⟨g6, hF⟩ := gd_of hF
      refine iaX8 (pc := 26) C (rfl : kdX 22 = 28) g6 dX3_isBigger_26 ?_
      refine z_icmp_le 34 (pc := 27) C dX3_isBigger_27 (by decide) (fun c7 => ?_) (fun c7 => ?_)
      · have hF := if_t hF c7
        refine z_iconst (pc := 34) (v := (0 : Int32)) C dX3_isBigger_34 (by decide) ?_
        exact z_iret (pc := 35) C hQ hr rfl dX3_isBigger_35 (by cases hF; rfl) (by cases hF; rfl) (Nat.le_of_ble_eq_true rfl) (Nat.le_of_ble_eq_true rfl)
      · have hF := if_f hF c7
        refine z_sub [] rfl ?_
        exact hJ2 hF
def fX3_rowFor_L5 (S : St) (p2 : Int32) (p1 : Int32) (next3 : Int32 → Int32 → Option (Int32)) (v1 : Int32) (v2 : Int32) : Option (Int32) :=
  if (gi S 20 10) ≤ v2 then (
    some v1)
  else (
    gd (inb v2 40) (
    bn1 (jn0 (
      some (0 : Int32)) (fun J20 =>
      if (gi S 25 v2.toNatClampNeg) < p2 then (
        J20)
      else (
        gd (inb v2 40) (
        if (gi S 26 v2.toNatClampNeg) < p1 then (
          J20)
        else (
          some (1 : Int32)))))) (fun (v8 : Int32) =>
      bn1 (if v8 = 0 then (
        some v1)
      else (
        jn0 (
          some v2) (fun J14 =>
          if v1 = (-1 : Int32) then (
            J14)
          else (
            gd (inb v2 40) (
            gd (inb v1 40) (
            if (gi S 24 v1.toNatClampNeg) ≤ (gi S 24 v2.toNatClampNeg) then (
              some v1)
            else (
              J14))))))) (fun (v9 : Int32) =>
        bv (v2 + 1) (fun (v10 : Int32) =>
        next3 v9 v10)))))
def fX3_rowFor (S : St) (p1 : Int32) (p2 : Int32) : Option (Int32) :=
  bn1 (lq2 (fX3_rowFor_L5 S p2 p1) 200 (-1 : Int32) (0 : Int32)) (fun (v4 : Int32) =>
    some (v4))
abbrev rmX3_rowFor : Room := { frames := 6, cells := 0, slots := 0, locals := 90 }
set_option maxRecDepth 100000 in
set_option maxHeartbeats 4000000 in
theorem mX3_rowFor {l : Launch} {D : va_G} {cs : Nat → ClassId} {a : Nat → Nat} (hT : l.stackTraces = false) {S : St} {p1 : Int32} {p2 : Int32} {r : Int32} (hF : fX3_rowFor S p1 p2 = some r) : MX l 113 GX D cs a yX3_rowFor cX3_rowFor 6 (some .int) rmX3_rowFor [.ref (a 20), .int p1, .int p2] S (.inr (some (.int r))) S := by
  refine zm_entry [(0, .ref (a 20)), (1, .int p1), (2, .int p2)] hT (by decide +kernel) (Nat.le_of_ble_eq_true rfl) rfl (fun E hEl hED hEk C hQ hr => ?_)
  subst hEl
  subst hED
  subst hEk
  unfold fX3_rowFor at hF
  refine z_iconst (pc := 0) (v := (-1 : Int32)) C dX3_rowFor_0 (by decide) ?_
  refine z_istore_n (pc := 1) (loc' := [(3, .int (-1 : Int32)), (0, .ref (a 20)), (1, .int p1), (2, .int p2)]) C dX3_rowFor_1 rfl (by decide) rfl ?_
  refine z_iconst (pc := 2) (v := (0 : Int32)) C dX3_rowFor_2 (by decide) ?_
  refine z_istore (pc := 3) (loc' := [(4, .int (0 : Int32)), (3, .int (-1 : Int32)), (0, .ref (a 20)), (1, .int p1), (2, .int p2)]) C dX3_rowFor_3 (by decide) rfl ?_
  refine z_sub [2, 3, 4, 1, 0] rfl ?_
  obtain ⟨v4', hR, hF⟩ := bn1_of hF
  have hJ5 : ∀ (v4 : Int32), (some v4 : Option (Int32)) = some v4' → Zz E (WX E a S) 0 0 78 [(3, .int v4)] [] := by
    intro v4 hE
    have hE0 := Option.some.inj hE
    subst hE0
    refine z_iload_n 0 (pc := 78) C dX3_rowFor_78 rfl rfl ?_
    exact z_iret (pc := 79) C hQ hr rfl dX3_rowFor_79 (by cases hF; rfl) (by cases hF; rfl) (Nat.le_of_ble_eq_true rfl) (Nat.le_of_ble_eq_true rfl)
  have hF := hR
  clear hR
  refine lq2_W (P := fun (v1 : Int32) (v2 : Int32) => Zz E (WX E a S) 0 0 5 [(0, .ref (a 20)), (1, .int p1), (2, .int p2), (3, .int v1), (4, .int v2)] []) (fun next3 hN3 v1 v2 hF => ?_) _ _ _ hF
  unfold fX3_rowFor_L5 at hF
  refine z_iload 4 (pc := 5) C dX3_rowFor_5 rfl ?_
  refine z_aload_n 0 (pc := 7) C dX3_rowFor_7 rfl rfl ?_
  refine gfX3_46 (pc := 8) C (rfl : kdX 20 = 3) dX3_rowFor_8 ?_
  refine z_icmp_ge 78 (pc := 11) C dX3_rowFor_11 (by decide) (fun c6 => ?_) (fun c6 => ?_)
  · have hF := if_t hF c6
    refine z_sub [3] rfl ?_
    exact hJ5 _ hF
  · have hF := if_f hF c6
    refine z_aload_n 0 (pc := 14) C dX3_rowFor_14 rfl rfl ?_
    refine gfX3_24 (pc := 15) C (rfl : kdX 20 = 3) dX3_rowFor_15 ?_
    refine z_iload 4 (pc := 18) C dX3_rowFor_18 rfl ?_
    obtain ⟨g7, hF⟩ := gd_of hF
    refine iaX40 (pc := 20) C (rfl : kdX 25 = 60) g7 dX3_rowFor_20 ?_
    refine z_iload_n 2 (pc := 21) C dX3_rowFor_21 rfl rfl ?_
    obtain ⟨v8', hR, hF⟩ := bn1_of hF
    have hJ19 : ∀ (v8 : Int32), (some v8 : Option (Int32)) = some v8' → Zz E (WX E a S) 0 0 41 [(0, .ref (a 20)), (1, .int p1), (2, .int p2), (3, .int v1), (4, .int v2)] [.int v8] := by
      intro v8 hE
      have hE0 := Option.some.inj hE
      subst hE0
      refine z_istore (pc := 41) (loc' := [(5, .int v8), (0, .ref (a 20)), (1, .int p1), (2, .int p2), (3, .int v1), (4, .int v2)]) C dX3_rowFor_41 (by decide) rfl ?_
      refine z_iload 0 (pc := 43) C dX3_rowFor_43 rfl ?_
      obtain ⟨v9', hR, hF⟩ := bn1_of hF
      have hJ12 : ∀ (v9 : Int32), (some v9 : Option (Int32)) = some v9' → Zz E (WX E a S) 0 0 72 [(0, .ref (a 20)), (1, .int p1), (2, .int p2), (3, .int v9), (4, .int v2)] [] := by
        intro v9 hE
        have hE0 := Option.some.inj hE
        subst hE0
        obtain ⟨v10, e11, hF⟩ := bv_of hF
        refine z_iinc 4 (pc := 72) (v := v10) (loc' := [(4, .int v10), (0, .ref (a 20)), (1, .int p1), (2, .int p2), (3, .int v9)]) C dX3_rowFor_72 rfl (by rw [e11]; rfl) (by decide) rfl ?_
        refine z_goto 5 (pc := 75) C dX3_rowFor_75 (by decide) ?_
        refine z_sub [1, 2, 3, 4, 0] rfl ?_
        exact hN3 _ _ hF
      have hF := hR
      clear hR
      refine z_if_eq 72 (pc := 45) C dX3_rowFor_45 (by decide) (fun c13 => ?_) (fun c13 => ?_)
      · have hF := if_t hF c13
        refine z_sub [1, 2, 3, 4, 5] rfl ?_
        exact hJ12 _ hF
      · have hF := if_f hF c13
        refine z_iload_n 4 (pc := 48) C dX3_rowFor_48 rfl rfl ?_
        refine z_iconst (pc := 49) (v := (-1 : Int32)) C dX3_rowFor_49 (by decide) ?_
        obtain ⟨J14, hdJ14, hF⟩ := jn0_of hF
        have hJ14 : J14 = some v9' → Zz E (WX E a S) 0 0 69 [(0, .ref (a 20)), (1, .int p1), (2, .int p2), (4, .int v2)] [] := by
          intro hF
          have hF := hdJ14.symm.trans hF
          refine z_iload 3 (pc := 69) C dX3_rowFor_69 rfl ?_
          refine z_istore_n (pc := 71) (loc' := [(3, .int v2), (0, .ref (a 20)), (1, .int p1), (2, .int p2), (4, .int v2)]) C dX3_rowFor_71 rfl (by decide) rfl ?_
          refine z_sub [1, 2, 3, 0, 4] rfl ?_
          exact hJ12 _ hF
        refine z_icmp_eq 69 (pc := 50) C dX3_rowFor_50 (by decide) (fun c15 => ?_) (fun c15 => ?_)
        · have hF := if_t hF c15
          refine z_sub [1, 2, 3, 5] rfl ?_
          exact hJ14 hF
        · have hF := if_f hF c15
          refine z_aload_n 1 (pc := 53) C dX3_rowFor_53 rfl rfl ?_
          refine gfX3_21 (pc := 54) C (rfl : kdX 20 = 3) dX3_rowFor_54 ?_
          refine z_iload 5 (pc := 57) C dX3_rowFor_57 rfl ?_
          obtain ⟨g16, hF⟩ := gd_of hF
          refine iaX40 (pc := 59) C (rfl : kdX 24 = 60) g16 dX3_rowFor_59 ?_
          refine z_aload_n 1 (pc := 60) C dX3_rowFor_60 rfl rfl ?_
          refine gfX3_21 (pc := 61) C (rfl : kdX 20 = 3) dX3_rowFor_61 ?_
          refine z_iload_n 4 (pc := 64) C dX3_rowFor_64 rfl rfl ?_
          obtain ⟨g17, hF⟩ := gd_of hF
          refine iaX40 (pc := 65) C (rfl : kdX 24 = 60) g17 dX3_rowFor_65 ?_
          refine z_icmp_ge 72 (pc := 66) C dX3_rowFor_66 (by decide) (fun c18 => ?_) (fun c18 => ?_)
          · have hF := if_t hF c18
            refine z_sub [1, 2, 3, 4, 5] rfl ?_
            exact hJ12 _ hF
          · have hF := if_f hF c18
            refine z_sub [1, 2, 3, 5] rfl ?_
            exact hJ14 hF
    have hF := hR
    clear hR
    obtain ⟨J20, hdJ20, hF⟩ := jn0_of hF
    have hJ20 : J20 = some v8' → Zz E (WX E a S) 0 0 40 [(0, .ref (a 20)), (1, .int p1), (2, .int p2), (3, .int v1), (4, .int v2)] [] := by
      intro hF
      have hF := hdJ20.symm.trans hF
      refine z_iconst (pc := 40) (v := (0 : Int32)) C dX3_rowFor_40 (by decide) ?_
      exact hJ19 _ hF
    refine z_icmp_lt 40 (pc := 22) C dX3_rowFor_22 (by decide) (fun c21 => ?_) (fun c21 => ?_)
    · have hF := if_t hF c21
      exact hJ20 hF
    · have hF := if_f hF c21
      refine z_aload_n 0 (pc := 25) C dX3_rowFor_25 rfl rfl ?_
      refine gfX3_27 (pc := 26) C (rfl : kdX 20 = 3) dX3_rowFor_26 ?_
      refine z_iload 4 (pc := 29) C dX3_rowFor_29 rfl ?_
      obtain ⟨g22, hF⟩ := gd_of hF
      refine iaX40 (pc := 31) C (rfl : kdX 26 = 60) g22 dX3_rowFor_31 ?_
      refine z_iload_n 1 (pc := 32) C dX3_rowFor_32 rfl rfl ?_
      refine z_icmp_lt 40 (pc := 33) C dX3_rowFor_33 (by decide) (fun c23 => ?_) (fun c23 => ?_)
      · have hF := if_t hF c23
        exact hJ20 hF
      · have hF := if_f hF c23
        refine z_iconst (pc := 36) (v := (1 : Int32)) C dX3_rowFor_36 (by decide) ?_
        refine z_goto 41 (pc := 37) C dX3_rowFor_37 (by decide) ?_
        exact hJ19 _ hF
def fX3_sheetFor_L2 (S : St) (p1 : Int32) (next2 : Int32 → Option ((Int32 × St))) (v1 : Int32) : Option ((Int32 × St)) :=
  if (gi S 20 12) ≤ v1 then (
    if (gi S 20 12) < (40 : Int32) then (
      gd (inb (gi S 20 12) 40) (
      bv (si S 28 (gi S 20 12).toNatClampNeg (gi S 20 1)) (fun (S6 : St) =>
      bv (si S6 20 12 ((gi S6 20 12) + (1 : Int32))) (fun (S8 : St) =>
      some (((gi S8 20 12) - (1 : Int32)), S8)))))
    else (
      some ((-1 : Int32), S)))
  else (
    gd (inb v1 40) (
    if (gi S 28 v1.toNatClampNeg) < p1 then (
      bv (v1 + 1) (fun (v12 : Int32) =>
      next2 v12))
    else (
      some (v1, S))))
def fX3_sheetFor (S : St) (p1 : Int32) : Option ((Int32 × St)) :=
  lq1 (fX3_sheetFor_L2 S p1) 200 (0 : Int32)
abbrev rmX3_sheetFor : Room := { frames := 6, cells := 0, slots := 0, locals := 90 }
set_option maxRecDepth 100000 in
set_option maxHeartbeats 4000000 in
theorem mX3_sheetFor {l : Launch} {D : va_G} {cs : Nat → ClassId} {a : Nat → Nat} (hT : l.stackTraces = false) {S : St} {p1 : Int32} {r : Int32} {S' : St} (hF : fX3_sheetFor S p1 = some (r, S')) : MX l 113 GX D cs a yX3_sheetFor cX3_sheetFor 3 (some .int) rmX3_sheetFor [.ref (a 20), .int p1] S (.inr (some (.int r))) S' := by
  refine zm_entry [(0, .ref (a 20)), (1, .int p1)] hT (by decide +kernel) (Nat.le_of_ble_eq_true rfl) rfl (fun E hEl hED hEk C hQ hr => ?_)
  subst hEl
  subst hED
  subst hEk
  unfold fX3_sheetFor at hF
  refine z_iconst (pc := 0) (v := (0 : Int32)) C dX3_sheetFor_0 (by decide) ?_
  refine z_istore_n (pc := 1) (loc' := [(2, .int (0 : Int32)), (0, .ref (a 20)), (1, .int p1)]) C dX3_sheetFor_1 rfl (by decide) rfl ?_
  refine z_sub [1, 2, 0] rfl ?_
  refine lq1_W (P := fun (v1 : Int32) => Zz E (WX E a S) 0 0 2 [(0, .ref (a 20)), (1, .int p1), (2, .int v1)] []) (fun next2 hN2 v1 hF => ?_) _ _ hF
  unfold fX3_sheetFor_L2 at hF
  refine z_iload_n 2 (pc := 2) C dX3_sheetFor_2 rfl rfl ?_
  refine z_aload_n 0 (pc := 3) C dX3_sheetFor_3 rfl rfl ?_
  refine gfX3_49 (pc := 4) C (rfl : kdX 20 = 3) dX3_sheetFor_4 ?_
  refine z_icmp_ge 28 (pc := 7) C dX3_sheetFor_7 (by decide) (fun c3 => ?_) (fun c3 => ?_)
  · have hF := if_t hF c3
    refine z_aload_n 0 (pc := 28) C dX3_sheetFor_28 rfl rfl ?_
    refine gfX3_49 (pc := 29) C (rfl : kdX 20 = 3) dX3_sheetFor_29 ?_
    refine z_bipush (pc := 32) (v := (40 : Int32)) C dX3_sheetFor_32 (by decide) ?_
    refine z_icmp_lt 39 (pc := 34) C dX3_sheetFor_34 (by decide) (fun c4 => ?_) (fun c4 => ?_)
    · have hF := if_t hF c4
      refine z_aload_n 0 (pc := 39) C dX3_sheetFor_39 rfl rfl ?_
      refine gfX3_33 (pc := 40) C (rfl : kdX 20 = 3) dX3_sheetFor_40 ?_
      refine z_aload_n 0 (pc := 43) C dX3_sheetFor_43 rfl rfl ?_
      refine gfX3_49 (pc := 44) C (rfl : kdX 20 = 3) dX3_sheetFor_44 ?_
      refine z_aload_n 0 (pc := 47) C dX3_sheetFor_47 rfl rfl ?_
      refine gfX3_40 (pc := 48) C (rfl : kdX 20 = 3) dX3_sheetFor_48 ?_
      obtain ⟨g5, hF⟩ := gd_of hF
      refine saX40 (pc := 51) C (rfl : kdX 28 = 60) g5 dX3_sheetFor_51 ?_
      obtain ⟨S6, e7, hF⟩ := bv_of hF
      rw [← e7]
      refine z_aload_n 0 (pc := 52) C dX3_sheetFor_52 rfl rfl ?_
      refine z_dup (pc := 53) C dX3_sheetFor_53 rfl ?_
      refine gfX3_49 (pc := 54) C (rfl : kdX 20 = 3) dX3_sheetFor_54 ?_
      refine z_iconst (pc := 57) (v := (1 : Int32)) C dX3_sheetFor_57 (by decide) ?_
      refine z_iadd (pc := 58) C dX3_sheetFor_58 ?_
      refine pfX3_49 (pc := 59) C (rfl : kdX 20 = 3) dX3_sheetFor_59 ?_
      obtain ⟨S8, e9, hF⟩ := bv_of hF
      rw [← e9]
      refine z_aload_n 0 (pc := 62) C dX3_sheetFor_62 rfl rfl ?_
      refine gfX3_49 (pc := 63) C (rfl : kdX 20 = 3) dX3_sheetFor_63 ?_
      refine z_iconst (pc := 66) (v := (1 : Int32)) C dX3_sheetFor_66 (by decide) ?_
      refine z_isub (pc := 67) C dX3_sheetFor_67 ?_
      exact z_iret (pc := 68) C hQ hr rfl dX3_sheetFor_68 (by cases hF; rfl) (by cases hF; rfl) (Nat.le_of_ble_eq_true rfl) (Nat.le_of_ble_eq_true rfl)
    · have hF := if_f hF c4
      refine z_iconst (pc := 37) (v := (-1 : Int32)) C dX3_sheetFor_37 (by decide) ?_
      exact z_iret (pc := 38) C hQ hr rfl dX3_sheetFor_38 (by cases hF; rfl) (by cases hF; rfl) (Nat.le_of_ble_eq_true rfl) (Nat.le_of_ble_eq_true rfl)
  · have hF := if_f hF c3
    refine z_aload_n 0 (pc := 10) C dX3_sheetFor_10 rfl rfl ?_
    refine gfX3_33 (pc := 11) C (rfl : kdX 20 = 3) dX3_sheetFor_11 ?_
    refine z_iload_n 2 (pc := 14) C dX3_sheetFor_14 rfl rfl ?_
    obtain ⟨g10, hF⟩ := gd_of hF
    refine iaX40 (pc := 15) C (rfl : kdX 28 = 60) g10 dX3_sheetFor_15 ?_
    refine z_iload_n 1 (pc := 16) C dX3_sheetFor_16 rfl rfl ?_
    refine z_icmp_lt 22 (pc := 17) C dX3_sheetFor_17 (by decide) (fun c11 => ?_) (fun c11 => ?_)
    · have hF := if_t hF c11
      obtain ⟨v12, e13, hF⟩ := bv_of hF
      refine z_iinc 2 (pc := 22) (v := v12) (loc' := [(2, .int v12), (0, .ref (a 20)), (1, .int p1)]) C dX3_sheetFor_22 rfl (by rw [e13]; rfl) (by decide) rfl ?_
      refine z_goto 2 (pc := 25) C dX3_sheetFor_25 (by decide) ?_
      refine z_sub [1, 2, 0] rfl ?_
      exact hN2 _ hF
    · have hF := if_f hF c11
      refine z_iload_n 2 (pc := 20) C dX3_sheetFor_20 rfl rfl ?_
      exact z_iret (pc := 21) C hQ hr rfl dX3_sheetFor_21 (by cases hF; rfl) (by cases hF; rfl) (Nat.le_of_ble_eq_true rfl) (Nat.le_of_ble_eq_true rfl)
def fX3_start (S : St) (p1 : Int32) (p2 : Int32) : Option (St) :=
  bv (si S 20 0 p1) (fun (S1 : St) =>
  bv (si S1 20 1 p2) (fun (S3 : St) =>
  bv (si S3 20 5 (0 : Int32)) (fun (S5 : St) =>
  bv (si S5 20 10 (0 : Int32)) (fun (S7 : St) =>
  bv (si S7 20 12 (0 : Int32)) (fun (S9 : St) =>
  bv (sl S9 20 13 (0 : Int64)) (fun (S11 : St) =>
  bv (sl S11 20 14 (0 : Int64)) (fun (S13 : St) =>
  some S13)))))))
abbrev rmX3_start : Room := { frames := 6, cells := 0, slots := 0, locals := 90 }
set_option maxRecDepth 100000 in
set_option maxHeartbeats 4000000 in
theorem mX3_start {l : Launch} {D : va_G} {cs : Nat → ClassId} {a : Nat → Nat} (hT : l.stackTraces = false) {S : St} {p1 : Int32} {p2 : Int32} {S' : St} (hF : fX3_start S p1 p2 = some S') : MX l 113 GX D cs a yX3_start cX3_start 3 none rmX3_start [.ref (a 20), .int p1, .int p2] S (.inr none) S' := by
  refine zm_entry [(0, .ref (a 20)), (1, .int p1), (2, .int p2)] hT (by decide +kernel) (Nat.le_of_ble_eq_true rfl) rfl (fun E hEl hED hEk C hQ hr => ?_)
  subst hEl
  subst hED
  subst hEk
  unfold fX3_start at hF
  refine z_aload_n 0 (pc := 0) C dX3_start_0 rfl rfl ?_
  refine z_iload_n 1 (pc := 1) C dX3_start_1 rfl rfl ?_
  refine pfX3_36 (pc := 2) C (rfl : kdX 20 = 3) dX3_start_2 ?_
  obtain ⟨S1, e2, hF⟩ := bv_of hF
  rw [← e2]
  refine z_aload_n 0 (pc := 5) C dX3_start_5 rfl rfl ?_
  refine z_iload_n 2 (pc := 6) C dX3_start_6 rfl rfl ?_
  refine pfX3_40 (pc := 7) C (rfl : kdX 20 = 3) dX3_start_7 ?_
  obtain ⟨S3, e4, hF⟩ := bv_of hF
  rw [← e4]
  refine z_aload_n 0 (pc := 10) C dX3_start_10 rfl rfl ?_
  refine z_iconst (pc := 11) (v := (0 : Int32)) C dX3_start_11 (by decide) ?_
  refine pfX3_43 (pc := 12) C (rfl : kdX 20 = 3) dX3_start_12 ?_
  obtain ⟨S5, e6, hF⟩ := bv_of hF
  rw [← e6]
  refine z_aload_n 0 (pc := 15) C dX3_start_15 rfl rfl ?_
  refine z_iconst (pc := 16) (v := (0 : Int32)) C dX3_start_16 (by decide) ?_
  refine pfX3_46 (pc := 17) C (rfl : kdX 20 = 3) dX3_start_17 ?_
  obtain ⟨S7, e8, hF⟩ := bv_of hF
  rw [← e8]
  refine z_aload_n 0 (pc := 20) C dX3_start_20 rfl rfl ?_
  refine z_iconst (pc := 21) (v := (0 : Int32)) C dX3_start_21 (by decide) ?_
  refine pfX3_49 (pc := 22) C (rfl : kdX 20 = 3) dX3_start_22 ?_
  obtain ⟨S9, e10, hF⟩ := bv_of hF
  rw [← e10]
  refine z_aload_n 0 (pc := 25) C dX3_start_25 rfl rfl ?_
  refine z_lconst (pc := 26) (v := (0 : Int64)) C dX3_start_26 (by decide) ?_
  refine pfX3_52 (pc := 27) C (rfl : kdX 20 = 3) dX3_start_27 ?_
  obtain ⟨S11, e12, hF⟩ := bv_of hF
  rw [← e12]
  refine z_aload_n 0 (pc := 30) C dX3_start_30 rfl rfl ?_
  refine z_lconst (pc := 31) (v := (0 : Int64)) C dX3_start_31 (by decide) ?_
  refine pfX3_56 (pc := 32) C (rfl : kdX 20 = 3) dX3_start_32 ?_
  obtain ⟨S13, e14, hF⟩ := bv_of hF
  rw [← e14]
  exact z_vret (pc := 35) C hQ hr dX3_start_35 (by cases hF; rfl) (by cases hF; rfl) (Nat.le_of_ble_eq_true rfl) (Nat.le_of_ble_eq_true rfl)
def fX3_tell (S : St) (p1 : Int32) : Option (Int64) :=
  if p1 = (0 : Int32) then (
    some ((Int32.toInt64 (gi S 20 12))))
  else if p1 = (1 : Int32) then (
    some ((Int32.toInt64 (gi S 20 10))))
  else if p1 = (2 : Int32) then (
    some ((gl S 20 13)))
  else (
    some (((((Int32.toInt64 (gi S 20 12)) * (Int32.toInt64 (gi S 20 0))) * (Int32.toInt64 (gi S 20 1))) - (gl S 20 14))))
abbrev rmX3_tell : Room := { frames := 6, cells := 0, slots := 0, locals := 90 }
set_option maxRecDepth 100000 in
set_option maxHeartbeats 4000000 in
theorem mX3_tell {l : Launch} {D : va_G} {cs : Nat → ClassId} {a : Nat → Nat} (hT : l.stackTraces = false) {S : St} {p1 : Int32} {r : Int64} (hF : fX3_tell S p1 = some r) : MX l 113 GX D cs a yX3_tell cX3_tell 2 (some .long) rmX3_tell [.ref (a 20), .int p1] S (.inr (some (.long r))) S := by
  refine zm_entry [(0, .ref (a 20)), (1, .int p1)] hT (by decide +kernel) (Nat.le_of_ble_eq_true rfl) rfl (fun E hEl hED hEk C hQ hr => ?_)
  subst hEl
  subst hED
  subst hEk
  unfold fX3_tell at hF
  refine z_iload_n 1 (pc := 0) C dX3_tell_0 rfl rfl ?_
  by_cases c1 : p1 = (0 : Int32)
  · have hF := if_t hF c1
    refine z_swi 28 (pc := 1) (off := 27) C dX3_tell_1 c1 (by decide) (by decide) (by decide +kernel) (by decide) ?_
    refine z_aload_n 0 (pc := 28) C dX3_tell_28 rfl rfl ?_
    refine gfX3_49 (pc := 29) C (rfl : kdX 20 = 3) dX3_tell_29 ?_
    refine z_i2l (pc := 32) C dX3_tell_32 ?_
    exact z_lret (pc := 33) C hQ hr dX3_tell_33 (by cases hF; rfl) (by cases hF; rfl) (Nat.le_of_ble_eq_true rfl) (Nat.le_of_ble_eq_true rfl)
  have hF := if_f hF c1
  by_cases c2 : p1 = (1 : Int32)
  · have hF := if_t hF c2
    refine z_swi 34 (pc := 1) (off := 33) C dX3_tell_1 c2 (by decide) (by decide) (by decide +kernel) (by decide) ?_
    refine z_aload_n 0 (pc := 34) C dX3_tell_34 rfl rfl ?_
    refine gfX3_46 (pc := 35) C (rfl : kdX 20 = 3) dX3_tell_35 ?_
    refine z_i2l (pc := 38) C dX3_tell_38 ?_
    exact z_lret (pc := 39) C hQ hr dX3_tell_39 (by cases hF; rfl) (by cases hF; rfl) (Nat.le_of_ble_eq_true rfl) (Nat.le_of_ble_eq_true rfl)
  have hF := if_f hF c2
  by_cases c3 : p1 = (2 : Int32)
  · have hF := if_t hF c3
    refine z_swi 40 (pc := 1) (off := 39) C dX3_tell_1 c3 (by decide) (by decide) (by decide +kernel) (by decide) ?_
    refine z_aload_n 0 (pc := 40) C dX3_tell_40 rfl rfl ?_
    refine gfX3_52 (pc := 41) C (rfl : kdX 20 = 3) dX3_tell_41 ?_
    exact z_lret (pc := 44) C hQ hr dX3_tell_44 (by cases hF; rfl) (by cases hF; rfl) (Nat.le_of_ble_eq_true rfl) (Nat.le_of_ble_eq_true rfl)
  have hF := if_f hF c3
  refine z_swo 45 (pc := 1) C dX3_tell_1 (by have q0 := i_ne c1 (n := 0) (by decide); have q1 := i_ne c2 (n := 1) (by decide); have q2 := i_ne c3 (n := 2) (by decide); omega) (by decide) ?_
  refine z_aload_n 0 (pc := 45) C dX3_tell_45 rfl rfl ?_
  refine gfX3_49 (pc := 46) C (rfl : kdX 20 = 3) dX3_tell_46 ?_
  refine z_i2l (pc := 49) C dX3_tell_49 ?_
  refine z_aload_n 0 (pc := 50) C dX3_tell_50 rfl rfl ?_
  refine gfX3_36 (pc := 51) C (rfl : kdX 20 = 3) dX3_tell_51 ?_
  refine z_i2l (pc := 54) C dX3_tell_54 ?_
  refine z_lmul (pc := 55) C dX3_tell_55 ?_
  refine z_aload_n 0 (pc := 56) C dX3_tell_56 rfl rfl ?_
  refine gfX3_40 (pc := 57) C (rfl : kdX 20 = 3) dX3_tell_57 ?_
  refine z_i2l (pc := 60) C dX3_tell_60 ?_
  refine z_lmul (pc := 61) C dX3_tell_61 ?_
  refine z_aload_n 0 (pc := 62) C dX3_tell_62 rfl rfl ?_
  refine gfX3_56 (pc := 63) C (rfl : kdX 20 = 3) dX3_tell_63 ?_
  refine z_lsub (pc := 66) C dX3_tell_66 ?_
  exact z_lret (pc := 67) C hQ hr dX3_tell_67 (by cases hF; rfl) (by cases hF; rfl) (Nat.le_of_ble_eq_true rfl) (Nat.le_of_ble_eq_true rfl)
def fX4_isHoleNear (S : St) (k0 : Nat) (p1 : Int32) : Option (Int32) :=
  gd (inb p1 6) (
  bv ((gi S (k0 + 4) p1.toNatClampNeg)) (fun (v2 : Int32) =>
  gd (inb p1 6) (
  bv ((((2 : Int32) * (gi S k0 2)) + ((gi S (k0 + 6) p1.toNatClampNeg) / (2 : Int32)))) (fun (v5 : Int32) =>
  bn1 (jn0 (
    some (0 : Int32)) (fun J19 =>
    if v2 ≤ 0 then (
      J19)
    else (
      gd (inb p1 6) (
      if v5 ≤ (gi S (k0 + 5) p1.toNatClampNeg) then (
        J19)
      else (
        some (1 : Int32)))))) (fun (v7 : Int32) =>
    bn1 (jn0 (
      some (0 : Int32)) (fun J13 =>
      if ((gi S (k0 + 1) 2) - (1 : Int32)) ≤ v2 then (
        J13)
      else (
        gd (inb v2 6) (
        gd (inb p1 6) (
        if v5 ≤ ((gi S ((k0 + 1) + 1) v2.toNatClampNeg) - (gi S (k0 + 5) p1.toNatClampNeg)) then (
          J13)
        else (
          some (1 : Int32))))))) (fun (v8 : Int32) =>
      jn0 (
        some ((1 : Int32))) (fun J9 =>
        if v7 = 0 then (
          if v8 = 0 then (
            some ((0 : Int32)))
          else (
            J9))
        else (
          J9))))))))
abbrev rmX4_isHoleNear : Room := { frames := 6, cells := 0, slots := 0, locals := 90 }
set_option maxRecDepth 100000 in
set_option maxHeartbeats 4000000 in
theorem mX4_isHoleNear {l : Launch} {D : va_G} {cs : Nat → ClassId} {a : Nat → Nat} (hT : l.stackTraces = false) {S : St} {k0 : Nat} {p1 : Int32} {r : Int32} (hk0 : kdX k0 = 4) (hF : fX4_isHoleNear S k0 p1 = some r) : MX l 113 GX D cs a yX4_isHoleNear cX4_isHoleNear 6 (some .boolean) rmX4_isHoleNear [.ref (a k0), .int p1] S (.inr (some (.int r))) S := by
  refine zm_entry [(0, .ref (a k0)), (1, .int p1)] hT (by decide +kernel) (Nat.le_of_ble_eq_true rfl) rfl (fun E hEl hED hEk C hQ hr => ?_)
  subst hEl
  subst hED
  subst hEk
  unfold fX4_isHoleNear at hF
  refine z_aload_n 0 (pc := 0) C dX4_isHoleNear_0 rfl rfl ?_
  refine gfX4_18 (pc := 1) C hk0 dX4_isHoleNear_1 ?_
  refine z_iload_n 1 (pc := 4) C dX4_isHoleNear_4 rfl rfl ?_
  obtain ⟨g1, hF⟩ := gd_of hF
  refine iaX6 (pc := 5) C (kX_4_4 hk0) g1 dX4_isHoleNear_5 ?_
  obtain ⟨v2, e3, hF⟩ := bv_of hF
  refine z_topi e3 ?_
  refine z_istore_n (pc := 6) (loc' := [(2, .int v2), (0, .ref (a k0)), (1, .int p1)]) C dX4_isHoleNear_6 rfl (by decide) rfl ?_
  refine z_iconst (pc := 7) (v := (2 : Int32)) C dX4_isHoleNear_7 (by decide) ?_
  refine z_aload_n 1 (pc := 8) C dX4_isHoleNear_8 rfl rfl ?_
  refine gfX4_36 (pc := 9) C hk0 dX4_isHoleNear_9 ?_
  refine z_imul (pc := 12) C dX4_isHoleNear_12 ?_
  refine z_aload_n 1 (pc := 13) C dX4_isHoleNear_13 rfl rfl ?_
  refine gfX4_25 (pc := 14) C hk0 dX4_isHoleNear_14 ?_
  refine z_iload_n 2 (pc := 17) C dX4_isHoleNear_17 rfl rfl ?_
  obtain ⟨g4, hF⟩ := gd_of hF
  refine iaX6 (pc := 18) C (kX_4_6 hk0) g4 dX4_isHoleNear_18 ?_
  refine z_iconst (pc := 19) (v := (2 : Int32)) C dX4_isHoleNear_19 (by decide) ?_
  refine z_idiv (pc := 20) C dX4_isHoleNear_20 (by decide) ?_
  refine z_iadd (pc := 21) C dX4_isHoleNear_21 ?_
  obtain ⟨v5, e6, hF⟩ := bv_of hF
  refine z_topi e6 ?_
  refine z_istore_n (pc := 22) (loc' := [(3, .int v5), (2, .int v2), (0, .ref (a k0)), (1, .int p1)]) C dX4_isHoleNear_22 rfl (by decide) rfl ?_
  refine z_iload_n 1 (pc := 23) C dX4_isHoleNear_23 rfl rfl ?_
  obtain ⟨v7', hR, hF⟩ := bn1_of hF
  have hJ18 : ∀ (v7 : Int32), (some v7 : Option (Int32)) = some v7' → Zz E (WX E a S) 0 0 42 [(0, .ref (a k0)), (1, .int p1), (2, .int v2), (3, .int v5)] [.int v7] := by
    intro v7 hE
    have hE0 := Option.some.inj hE
    subst hE0
    refine z_istore (pc := 42) (loc' := [(4, .int v7), (0, .ref (a k0)), (1, .int p1), (2, .int v2), (3, .int v5)]) C dX4_isHoleNear_42 (by decide) rfl ?_
    refine z_iload_n 3 (pc := 44) C dX4_isHoleNear_44 rfl rfl ?_
    refine z_aload_n 1 (pc := 45) C dX4_isHoleNear_45 rfl rfl ?_
    refine gfX4_12 (pc := 46) C hk0 dX4_isHoleNear_46 ?_
    refine gfX4_54 (pc := 49) C (kX_4_0 hk0) dX4_isHoleNear_49 ?_
    refine z_iconst (pc := 52) (v := (1 : Int32)) C dX4_isHoleNear_52 (by decide) ?_
    refine z_isub (pc := 53) C dX4_isHoleNear_53 ?_
    obtain ⟨v8', hR, hF⟩ := bn1_of hF
    have hJ12 : ∀ (v8 : Int32), (some v8 : Option (Int32)) = some v8' → Zz E (WX E a S) 0 0 82 [(4, .int v7)] [.int v8] := by
      intro v8 hE
      have hE0 := Option.some.inj hE
      subst hE0
      refine z_istore (pc := 82) (loc' := [(5, .int v8), (4, .int v7)]) C dX4_isHoleNear_82 (by decide) rfl ?_
      refine z_iload 1 (pc := 84) C dX4_isHoleNear_84 rfl ?_
      obtain ⟨J9, hdJ9, hF⟩ := jn0_of hF
      have hJ9 : J9 = some r → Zz E (WX E a S) 0 0 94 [] [] := by
        intro hF
        have hF := hdJ9.symm.trans hF
        refine z_iconst (pc := 94) (v := (1 : Int32)) C dX4_isHoleNear_94 (by decide) ?_
        refine z_goto 99 (pc := 95) C dX4_isHoleNear_95 (by decide) ?_
        exact z_iret (pc := 99) C hQ hr rfl dX4_isHoleNear_99 (by cases hF; rfl) (by cases hF; rfl) (Nat.le_of_ble_eq_true rfl) (Nat.le_of_ble_eq_true rfl)
      refine z_if_ne 94 (pc := 86) C dX4_isHoleNear_86 (by decide) (fun c10 => ?_) (fun c10 => ?_)
      · have hF := if_f hF c10
        refine z_sub [] rfl ?_
        exact hJ9 hF
      · have hF := if_t hF c10
        refine z_iload 0 (pc := 89) C dX4_isHoleNear_89 rfl ?_
        refine z_if_eq 98 (pc := 91) C dX4_isHoleNear_91 (by decide) (fun c11 => ?_) (fun c11 => ?_)
        · have hF := if_t hF c11
          refine z_iconst (pc := 98) (v := (0 : Int32)) C dX4_isHoleNear_98 (by decide) ?_
          exact z_iret (pc := 99) C hQ hr rfl dX4_isHoleNear_99 (by cases hF; rfl) (by cases hF; rfl) (Nat.le_of_ble_eq_true rfl) (Nat.le_of_ble_eq_true rfl)
        · have hF := if_f hF c11
          refine z_sub [] rfl ?_
          exact hJ9 hF
    have hF := hR
    clear hR
    obtain ⟨J13, hdJ13, hF⟩ := jn0_of hF
    have hJ13 : J13 = some v8' → Zz E (WX E a S) 0 0 81 [(4, .int v7)] [] := by
      intro hF
      have hF := hdJ13.symm.trans hF
      refine z_iconst (pc := 81) (v := (0 : Int32)) C dX4_isHoleNear_81 (by decide) ?_
      exact hJ12 _ hF
    refine z_icmp_ge 81 (pc := 54) C dX4_isHoleNear_54 (by decide) (fun c14 => ?_) (fun c14 => ?_)
    · have hF := if_t hF c14
      refine z_sub [0] rfl ?_
      exact hJ13 hF
    · have hF := if_f hF c14
      refine z_aload_n 1 (pc := 57) C dX4_isHoleNear_57 rfl rfl ?_
      refine gfX4_12 (pc := 58) C hk0 dX4_isHoleNear_58 ?_
      refine gfX4_57 (pc := 61) C (kX_4_0 hk0) dX4_isHoleNear_61 ?_
      refine z_iload_n 3 (pc := 64) C dX4_isHoleNear_64 rfl rfl ?_
      obtain ⟨g15, hF⟩ := gd_of hF
      refine iaX6 (pc := 65) C (kX_2_0 (kX_4_0 hk0)) g15 dX4_isHoleNear_65 ?_
      refine z_aload_n 1 (pc := 66) C dX4_isHoleNear_66 rfl rfl ?_
      refine gfX4_22 (pc := 67) C hk0 dX4_isHoleNear_67 ?_
      refine z_iload_n 2 (pc := 70) C dX4_isHoleNear_70 rfl rfl ?_
      obtain ⟨g16, hF⟩ := gd_of hF
      refine iaX6 (pc := 71) C (kX_4_5 hk0) g16 dX4_isHoleNear_71 ?_
      refine z_isub (pc := 72) C dX4_isHoleNear_72 ?_
      refine z_iload_n 4 (pc := 73) C dX4_isHoleNear_73 rfl rfl ?_
      refine z_icmp_ge 81 (pc := 74) C dX4_isHoleNear_74 (by decide) (fun c17 => ?_) (fun c17 => ?_)
      · have hF := if_t hF c17
        refine z_sub [0] rfl ?_
        exact hJ13 hF
      · have hF := if_f hF c17
        refine z_iconst (pc := 77) (v := (1 : Int32)) C dX4_isHoleNear_77 (by decide) ?_
        refine z_goto 82 (pc := 78) C dX4_isHoleNear_78 (by decide) ?_
        refine z_sub [0] rfl ?_
        exact hJ12 _ hF
  have hF := hR
  clear hR
  obtain ⟨J19, hdJ19, hF⟩ := jn0_of hF
  have hJ19 : J19 = some v7' → Zz E (WX E a S) 0 0 41 [(0, .ref (a k0)), (1, .int p1), (2, .int v2), (3, .int v5)] [] := by
    intro hF
    have hF := hdJ19.symm.trans hF
    refine z_iconst (pc := 41) (v := (0 : Int32)) C dX4_isHoleNear_41 (by decide) ?_
    exact hJ18 _ hF
  refine z_if_le 41 (pc := 24) C dX4_isHoleNear_24 (by decide) (fun c20 => ?_) (fun c20 => ?_)
  · have hF := if_t hF c20
    refine z_sub [2, 3, 1, 0] rfl ?_
    exact hJ19 hF
  · have hF := if_f hF c20
    refine z_aload_n 2 (pc := 27) C dX4_isHoleNear_27 rfl rfl ?_
    refine gfX4_22 (pc := 28) C hk0 dX4_isHoleNear_28 ?_
    refine z_iload_n 3 (pc := 31) C dX4_isHoleNear_31 rfl rfl ?_
    obtain ⟨g21, hF⟩ := gd_of hF
    refine iaX6 (pc := 32) C (kX_4_5 hk0) g21 dX4_isHoleNear_32 ?_
    refine z_iload_n 0 (pc := 33) C dX4_isHoleNear_33 rfl rfl ?_
    refine z_icmp_ge 41 (pc := 34) C dX4_isHoleNear_34 (by decide) (fun c22 => ?_) (fun c22 => ?_)
    · have hF := if_t hF c22
      refine z_sub [2, 3, 1, 0] rfl ?_
      exact hJ19 hF
    · have hF := if_f hF c22
      refine z_iconst (pc := 37) (v := (1 : Int32)) C dX4_isHoleNear_37 (by decide) ?_
      refine z_goto 42 (pc := 38) C dX4_isHoleNear_38 (by decide) ?_
      refine z_sub [2, 3, 1, 0] rfl ?_
      exact hJ18 _ hF
def fX5_restOfNone (S : St) (p1 : Int32) : Option (Int32) :=
  if p1 = (((1 : Int32) <<< ((gi S 15 3) &&& 31)) - (1 : Int32)) then (
    some ((0 : Int32)))
  else (
    some ((-1 : Int32)))
abbrev rmX5_restOfNone : Room := { frames := 6, cells := 0, slots := 0, locals := 90 }
set_option maxRecDepth 100000 in
set_option maxHeartbeats 4000000 in
theorem mX5_restOfNone {l : Launch} {D : va_G} {cs : Nat → ClassId} {a : Nat → Nat} (hT : l.stackTraces = false) {S : St} {p1 : Int32} {r : Int32} (hF : fX5_restOfNone S p1 = some r) : MX l 113 GX D cs a yX5_restOfNone cX5_restOfNone 2 (some .int) rmX5_restOfNone [.ref (a 15), .int p1] S (.inr (some (.int r))) S := by
  refine zm_entry [(0, .ref (a 15)), (1, .int p1)] hT (by decide +kernel) (Nat.le_of_ble_eq_true rfl) rfl (fun E hEl hED hEk C hQ hr => ?_)
  subst hEl
  subst hED
  subst hEk
  unfold fX5_restOfNone at hF
  refine z_iload_n 1 (pc := 0) C dX5_restOfNone_0 rfl rfl ?_
  refine z_iconst (pc := 1) (v := (1 : Int32)) C dX5_restOfNone_1 (by decide) ?_
  refine z_aload_n 0 (pc := 2) C dX5_restOfNone_2 rfl rfl ?_
  refine gfX5_28 (pc := 3) C (rfl : kdX 15 = 5) dX5_restOfNone_3 ?_
  refine z_ishl (pc := 6) C dX5_restOfNone_6 ?_
  refine z_iconst (pc := 7) (v := (1 : Int32)) C dX5_restOfNone_7 (by decide) ?_
  refine z_isub (pc := 8) C dX5_restOfNone_8 ?_
  refine z_icmp_ne 16 (pc := 9) C dX5_restOfNone_9 (by decide) (fun c1 => ?_) (fun c1 => ?_)
  · have hF := if_f hF c1
    refine z_iconst (pc := 16) (v := (-1 : Int32)) C dX5_restOfNone_16 (by decide) ?_
    exact z_iret (pc := 17) C hQ hr rfl dX5_restOfNone_17 (by cases hF; rfl) (by cases hF; rfl) (Nat.le_of_ble_eq_true rfl) (Nat.le_of_ble_eq_true rfl)
  · have hF := if_t hF c1
    refine z_iconst (pc := 12) (v := (0 : Int32)) C dX5_restOfNone_12 (by decide) ?_
    refine z_goto 17 (pc := 13) C dX5_restOfNone_13 (by decide) ?_
    exact z_iret (pc := 17) C hQ hr rfl dX5_restOfNone_17 (by cases hF; rfl) (by cases hF; rfl) (Nat.le_of_ble_eq_true rfl) (Nat.le_of_ble_eq_true rfl)
def fX5_turn (S : St) (p1 : Int32) (p2 : Int32) : Option (Int32) :=
  jn0 (
    some ((0 : Int32))) (fun J1 =>
    if p1 = (2 : Int32) then (
      J1)
    else (
      gd (inb p2 5) (
      if p1 = (gi S 18 p2.toNatClampNeg) then (
        J1)
      else (
        some ((1 : Int32))))))
abbrev rmX5_turn : Room := { frames := 6, cells := 0, slots := 0, locals := 90 }
set_option maxRecDepth 100000 in
set_option maxHeartbeats 4000000 in
theorem mX5_turn {l : Launch} {D : va_G} {cs : Nat → ClassId} {a : Nat → Nat} (hT : l.stackTraces = false) {S : St} {p1 : Int32} {p2 : Int32} {r : Int32} (hF : fX5_turn S p1 p2 = some r) : MX l 113 GX D cs a yX5_turn cX5_turn 3 (some .int) rmX5_turn [.ref (a 15), .int p1, .int p2] S (.inr (some (.int r))) S := by
  refine zm_entry [(0, .ref (a 15)), (1, .int p1), (2, .int p2)] hT (by decide +kernel) (Nat.le_of_ble_eq_true rfl) rfl (fun E hEl hED hEk C hQ hr => ?_)
  subst hEl
  subst hED
  subst hEk
  unfold fX5_turn at hF
  refine z_iload_n 1 (pc := 0) C dX5_turn_0 rfl rfl ?_
  refine z_iconst (pc := 1) (v := (2 : Int32)) C dX5_turn_1 (by decide) ?_
  obtain ⟨J1, hdJ1, hF⟩ := jn0_of hF
  have hJ1 : J1 = some r → Zz E (WX E a S) 0 0 15 [] [] := by
    intro hF
    have hF := hdJ1.symm.trans hF
    refine z_iconst (pc := 15) (v := (0 : Int32)) C dX5_turn_15 (by decide) ?_
    refine z_goto 20 (pc := 16) C dX5_turn_16 (by decide) ?_
    exact z_iret (pc := 20) C hQ hr rfl dX5_turn_20 (by cases hF; rfl) (by cases hF; rfl) (Nat.le_of_ble_eq_true rfl) (Nat.le_of_ble_eq_true rfl)
  refine z_icmp_eq 15 (pc := 2) C dX5_turn_2 (by decide) (fun c2 => ?_) (fun c2 => ?_)
  · have hF := if_t hF c2
    refine z_sub [] rfl ?_
    exact hJ1 hF
  · have hF := if_f hF c2
    refine z_iload_n 1 (pc := 5) C dX5_turn_5 rfl rfl ?_
    refine z_aload_n 0 (pc := 6) C dX5_turn_6 rfl rfl ?_
    refine gfX5_18 (pc := 7) C (rfl : kdX 15 = 5) dX5_turn_7 ?_
    refine z_iload_n 2 (pc := 10) C dX5_turn_10 rfl rfl ?_
    obtain ⟨g3, hF⟩ := gd_of hF
    refine iaX5 (pc := 11) C (rfl : kdX 18 = 25) g3 dX5_turn_11 ?_
    refine z_icmp_ne 19 (pc := 12) C dX5_turn_12 (by decide) (fun c4 => ?_) (fun c4 => ?_)
    · have hF := if_f hF c4
      refine z_iconst (pc := 19) (v := (1 : Int32)) C dX5_turn_19 (by decide) ?_
      exact z_iret (pc := 20) C hQ hr rfl dX5_turn_20 (by cases hF; rfl) (by cases hF; rfl) (Nat.le_of_ble_eq_true rfl) (Nat.le_of_ble_eq_true rfl)
    · have hF := if_t hF c4
      refine z_sub [] rfl ?_
      exact hJ1 hF
def fX7_hitsPunch_L2 (S : St) (k0 : Nat) (p1 : Int32) (next2 : Int32 → Option (Int32)) (v1 : Int32) : Option (Int32) :=
  if (gi S k0 2) ≤ v1 then (
    some ((0 : Int32)))
  else (
    gd (inb v1 6) (
    jn0 (
      bv (v1 + 1) (fun (v5 : Int32) =>
      next2 v5)) (fun J7 =>
      if (gi S (k0 + 2) v1.toNatClampNeg) ≤ 0 then (
        J7)
      else (
        gd (inb v1 6) (
        gd (inb v1 6) (
        if ((gi S (k0 + 2) v1.toNatClampNeg) + p1) ≤ (gi S (k0 + 1) v1.toNatClampNeg) then (
          J7)
        else (
          some ((1 : Int32)))))))))
def fX7_hitsPunch (S : St) (k0 : Nat) (p1 : Int32) : Option (Int32) :=
  lq1 (fX7_hitsPunch_L2 S k0 p1) 200 (0 : Int32)
abbrev rmX7_hitsPunch : Room := { frames := 6, cells := 0, slots := 0, locals := 90 }
set_option maxRecDepth 100000 in
set_option maxHeartbeats 4000000 in
theorem mX7_hitsPunch {l : Launch} {D : va_G} {cs : Nat → ClassId} {a : Nat → Nat} (hT : l.stackTraces = false) {S : St} {k0 : Nat} {p1 : Int32} {r : Int32} (hk0 : kdX k0 = 7) (hF : fX7_hitsPunch S k0 p1 = some r) : MX l 113 GX D cs a yX7_hitsPunch cX7_hitsPunch 3 (some .boolean) rmX7_hitsPunch [.ref (a k0), .int p1] S (.inr (some (.int r))) S := by
  refine zm_entry [(0, .ref (a k0)), (1, .int p1)] hT (by decide +kernel) (Nat.le_of_ble_eq_true rfl) rfl (fun E hEl hED hEk C hQ hr => ?_)
  subst hEl
  subst hED
  subst hEk
  unfold fX7_hitsPunch at hF
  refine z_iconst (pc := 0) (v := (0 : Int32)) C dX7_hitsPunch_0 (by decide) ?_
  refine z_istore_n (pc := 1) (loc' := [(2, .int (0 : Int32)), (0, .ref (a k0)), (1, .int p1)]) C dX7_hitsPunch_1 rfl (by decide) rfl ?_
  refine z_sub [1, 2, 0] rfl ?_
  refine lq1_W (P := fun (v1 : Int32) => Zz E (WX E a S) 0 0 2 [(0, .ref (a k0)), (1, .int p1), (2, .int v1)] []) (fun next2 hN2 v1 hF => ?_) _ _ hF
  unfold fX7_hitsPunch_L2 at hF
  refine z_iload_n 2 (pc := 2) C dX7_hitsPunch_2 rfl rfl ?_
  refine z_aload_n 0 (pc := 3) C dX7_hitsPunch_3 rfl rfl ?_
  refine gfX7_24 (pc := 4) C hk0 dX7_hitsPunch_4 ?_
  refine z_icmp_ge 44 (pc := 7) C dX7_hitsPunch_7 (by decide) (fun c3 => ?_) (fun c3 => ?_)
  · have hF := if_t hF c3
    refine z_iconst (pc := 44) (v := (0 : Int32)) C dX7_hitsPunch_44 (by decide) ?_
    exact z_iret (pc := 45) C hQ hr rfl dX7_hitsPunch_45 (by cases hF; rfl) (by cases hF; rfl) (Nat.le_of_ble_eq_true rfl) (Nat.le_of_ble_eq_true rfl)
  · have hF := if_f hF c3
    refine z_aload_n 0 (pc := 10) C dX7_hitsPunch_10 rfl rfl ?_
    refine gfX7_15 (pc := 11) C hk0 dX7_hitsPunch_11 ?_
    refine z_iload_n 2 (pc := 14) C dX7_hitsPunch_14 rfl rfl ?_
    obtain ⟨g4, hF⟩ := gd_of hF
    refine iaX6 (pc := 15) C (kX_7_1 hk0) g4 dX7_hitsPunch_15 ?_
    obtain ⟨J7, hdJ7, hF⟩ := jn0_of hF
    have hJ7 : J7 = some r → Zz E (WX E a S) 0 0 38 [(0, .ref (a k0)), (1, .int p1), (2, .int v1)] [] := by
      intro hF
      have hF := hdJ7.symm.trans hF
      obtain ⟨v5, e6, hF⟩ := bv_of hF
      refine z_iinc 2 (pc := 38) (v := v5) (loc' := [(2, .int v5), (0, .ref (a k0)), (1, .int p1)]) C dX7_hitsPunch_38 rfl (by rw [e6]; rfl) (by decide) rfl ?_
      refine z_goto 2 (pc := 41) C dX7_hitsPunch_41 (by decide) ?_
      refine z_sub [1, 2, 0] rfl ?_
      exact hN2 _ hF
    refine z_if_le 38 (pc := 16) C dX7_hitsPunch_16 (by decide) (fun c8 => ?_) (fun c8 => ?_)
    · have hF := if_t hF c8
      exact hJ7 hF
    · have hF := if_f hF c8
      refine z_aload_n 0 (pc := 19) C dX7_hitsPunch_19 rfl rfl ?_
      refine gfX7_15 (pc := 20) C hk0 dX7_hitsPunch_20 ?_
      refine z_iload_n 2 (pc := 23) C dX7_hitsPunch_23 rfl rfl ?_
      obtain ⟨g9, hF⟩ := gd_of hF
      refine iaX6 (pc := 24) C (kX_7_1 hk0) g9 dX7_hitsPunch_24 ?_
      refine z_iload_n 1 (pc := 25) C dX7_hitsPunch_25 rfl rfl ?_
      refine z_iadd (pc := 26) C dX7_hitsPunch_26 ?_
      refine z_aload_n 0 (pc := 27) C dX7_hitsPunch_27 rfl rfl ?_
      refine gfX7_9 (pc := 28) C hk0 dX7_hitsPunch_28 ?_
      refine z_iload_n 2 (pc := 31) C dX7_hitsPunch_31 rfl rfl ?_
      obtain ⟨g10, hF⟩ := gd_of hF
      refine iaX6 (pc := 32) C (kX_7_0 hk0) g10 dX7_hitsPunch_32 ?_
      refine z_icmp_le 38 (pc := 33) C dX7_hitsPunch_33 (by decide) (fun c11 => ?_) (fun c11 => ?_)
      · have hF := if_t hF c11
        exact hJ7 hF
      · have hF := if_f hF c11
        refine z_iconst (pc := 36) (v := (1 : Int32)) C dX7_hitsPunch_36 (by decide) ?_
        exact z_iret (pc := 37) C hQ hr rfl dX7_hitsPunch_37 (by cases hF; rfl) (by cases hF; rfl) (Nat.le_of_ble_eq_true rfl) (Nat.le_of_ble_eq_true rfl)
def fX7_hitsTable_L2 (S : St) (k0 : Nat) (p1 : Int32) (p2 : Int32) (next2 : Int32 → Option (Int32)) (v1 : Int32) : Option (Int32) :=
  if (gi S k0 2) ≤ v1 then (
    some ((0 : Int32)))
  else (
    gd (inb v1 6) (
    jn0 (
      bv (v1 + 1) (fun (v5 : Int32) =>
      next2 v5)) (fun J7 =>
      if (-(gi S (k0 + 2) v1.toNatClampNeg)) ≤ p1 then (
        J7)
      else (
        gd (inb v1 6) (
        if p2 ≤ (gi S (k0 + 1) v1.toNatClampNeg) then (
          J7)
        else (
          some ((1 : Int32))))))))
def fX7_hitsTable (S : St) (k0 : Nat) (p1 : Int32) (p2 : Int32) : Option (Int32) :=
  lq1 (fX7_hitsTable_L2 S k0 p1 p2) 200 (0 : Int32)
abbrev rmX7_hitsTable : Room := { frames := 6, cells := 0, slots := 0, locals := 90 }
set_option maxRecDepth 100000 in
set_option maxHeartbeats 4000000 in
theorem mX7_hitsTable {l : Launch} {D : va_G} {cs : Nat → ClassId} {a : Nat → Nat} (hT : l.stackTraces = false) {S : St} {k0 : Nat} {p1 : Int32} {p2 : Int32} {r : Int32} (hk0 : kdX k0 = 7) (hF : fX7_hitsTable S k0 p1 p2 = some r) : MX l 113 GX D cs a yX7_hitsTable cX7_hitsTable 4 (some .boolean) rmX7_hitsTable [.ref (a k0), .int p1, .int p2] S (.inr (some (.int r))) S := by
  refine zm_entry [(0, .ref (a k0)), (1, .int p1), (2, .int p2)] hT (by decide +kernel) (Nat.le_of_ble_eq_true rfl) rfl (fun E hEl hED hEk C hQ hr => ?_)
  subst hEl
  subst hED
  subst hEk
  unfold fX7_hitsTable at hF
  refine z_iconst (pc := 0) (v := (0 : Int32)) C dX7_hitsTable_0 (by decide) ?_
  refine z_istore_n (pc := 1) (loc' := [(3, .int (0 : Int32)), (0, .ref (a k0)), (1, .int p1), (2, .int p2)]) C dX7_hitsTable_1 rfl (by decide) rfl ?_
  refine z_sub [1, 2, 3, 0] rfl ?_
  refine lq1_W (P := fun (v1 : Int32) => Zz E (WX E a S) 0 0 2 [(0, .ref (a k0)), (1, .int p1), (2, .int p2), (3, .int v1)] []) (fun next2 hN2 v1 hF => ?_) _ _ hF
  unfold fX7_hitsTable_L2 at hF
  refine z_iload_n 3 (pc := 2) C dX7_hitsTable_2 rfl rfl ?_
  refine z_aload_n 0 (pc := 3) C dX7_hitsTable_3 rfl rfl ?_
  refine gfX7_24 (pc := 4) C hk0 dX7_hitsTable_4 ?_
  refine z_icmp_ge 39 (pc := 7) C dX7_hitsTable_7 (by decide) (fun c3 => ?_) (fun c3 => ?_)
  · have hF := if_t hF c3
    refine z_iconst (pc := 39) (v := (0 : Int32)) C dX7_hitsTable_39 (by decide) ?_
    exact z_iret (pc := 40) C hQ hr rfl dX7_hitsTable_40 (by cases hF; rfl) (by cases hF; rfl) (Nat.le_of_ble_eq_true rfl) (Nat.le_of_ble_eq_true rfl)
  · have hF := if_f hF c3
    refine z_aload_n 0 (pc := 10) C dX7_hitsTable_10 rfl rfl ?_
    refine gfX7_15 (pc := 11) C hk0 dX7_hitsTable_11 ?_
    refine z_iload_n 3 (pc := 14) C dX7_hitsTable_14 rfl rfl ?_
    obtain ⟨g4, hF⟩ := gd_of hF
    refine iaX6 (pc := 15) C (kX_7_1 hk0) g4 dX7_hitsTable_15 ?_
    refine z_ineg (pc := 16) C dX7_hitsTable_16 ?_
    refine z_iload_n 1 (pc := 17) C dX7_hitsTable_17 rfl rfl ?_
    obtain ⟨J7, hdJ7, hF⟩ := jn0_of hF
    have hJ7 : J7 = some r → Zz E (WX E a S) 0 0 33 [(0, .ref (a k0)), (1, .int p1), (2, .int p2), (3, .int v1)] [] := by
      intro hF
      have hF := hdJ7.symm.trans hF
      obtain ⟨v5, e6, hF⟩ := bv_of hF
      refine z_iinc 3 (pc := 33) (v := v5) (loc' := [(3, .int v5), (0, .ref (a k0)), (1, .int p1), (2, .int p2)]) C dX7_hitsTable_33 rfl (by rw [e6]; rfl) (by decide) rfl ?_
      refine z_goto 2 (pc := 36) C dX7_hitsTable_36 (by decide) ?_
      refine z_sub [1, 2, 3, 0] rfl ?_
      exact hN2 _ hF
    refine z_icmp_le 33 (pc := 18) C dX7_hitsTable_18 (by decide) (fun c8 => ?_) (fun c8 => ?_)
    · have hF := if_t hF c8
      exact hJ7 hF
    · have hF := if_f hF c8
      refine z_aload_n 0 (pc := 21) C dX7_hitsTable_21 rfl rfl ?_
      refine gfX7_9 (pc := 22) C hk0 dX7_hitsTable_22 ?_
      refine z_iload_n 3 (pc := 25) C dX7_hitsTable_25 rfl rfl ?_
      obtain ⟨g9, hF⟩ := gd_of hF
      refine iaX6 (pc := 26) C (kX_7_0 hk0) g9 dX7_hitsTable_26 ?_
      refine z_iload_n 2 (pc := 27) C dX7_hitsTable_27 rfl rfl ?_
      refine z_icmp_ge 33 (pc := 28) C dX7_hitsTable_28 (by decide) (fun c10 => ?_) (fun c10 => ?_)
      · have hF := if_t hF c10
        exact hJ7 hF
      · have hF := if_f hF c10
        refine z_iconst (pc := 31) (v := (1 : Int32)) C dX7_hitsTable_31 (by decide) ?_
        exact z_iret (pc := 32) C hQ hr rfl dX7_hitsTable_32 (by cases hF; rfl) (by cases hF; rfl) (Nat.le_of_ble_eq_true rfl) (Nat.le_of_ble_eq_true rfl)
def fX8_clear_L7 (next5 : Int32 → St → Option (St)) (v3 : Int32) (S4 : St) : Option (St) :=
  if (8 : Int32) ≤ v3 then (
    some S4)
  else (
    gd (inb v3 8) (
    bv (si S4 6 v3.toNatClampNeg (0 : Int32)) (fun (S12 : St) =>
    bv (v3 + 1) (fun (v14 : Int32) =>
    next5 v14 S12))))
def fX8_clear (S : St) : Option ((Int32 × St)) :=
  bv ((gi S 0 6)) (fun (v1 : Int32) =>
  bn1 (lq2 (fX8_clear_L7) 200 (0 : Int32) S) (fun (S6 : St) =>
    bv (si S6 0 6 (0 : Int32)) (fun (S7 : St) =>
    some (v1, S7))))
abbrev rmX8_clear : Room := { frames := 6, cells := 0, slots := 0, locals := 90 }
set_option maxRecDepth 100000 in
set_option maxHeartbeats 4000000 in
theorem mX8_clear {l : Launch} {D : va_G} {cs : Nat → ClassId} {a : Nat → Nat} (hT : l.stackTraces = false) {S : St} {r : Int32} {S' : St} (hF : fX8_clear S = some (r, S')) : MX l 113 GX D cs a yX8_clear cX8_clear 3 (some .int) rmX8_clear [.ref (a 0)] S (.inr (some (.int r))) S' := by
  refine zm_entry [(0, .ref (a 0))] hT (by decide +kernel) (Nat.le_of_ble_eq_true rfl) rfl (fun E hEl hED hEk C hQ hr => ?_)
  subst hEl
  subst hED
  subst hEk
  unfold fX8_clear at hF
  refine z_aload_n 0 (pc := 0) C dX8_clear_0 rfl rfl ?_
  refine gfX8_253 (pc := 1) C (rfl : kdX 0 = 8) dX8_clear_1 ?_
  obtain ⟨v1, e2, hF⟩ := bv_of hF
  refine z_topi e2 ?_
  refine z_istore_n (pc := 4) (loc' := [(1, .int v1), (0, .ref (a 0))]) C dX8_clear_4 rfl (by decide) rfl ?_
  refine z_iconst (pc := 5) (v := (0 : Int32)) C dX8_clear_5 (by decide) ?_
  refine z_istore_n (pc := 6) (loc' := [(2, .int (0 : Int32)), (1, .int v1), (0, .ref (a 0))]) C dX8_clear_6 rfl (by decide) rfl ?_
  refine z_sub [2, 1, 0] rfl ?_
  obtain ⟨S6', hR, hF⟩ := bn1_of hF
  have hJ9 : ∀ (S6 : St), (some S6 : Option (St)) = some S6' → Zz E (WX E a S6) 0 0 26 [(0, .ref (a 0)), (1, .int v1)] [] := by
    intro S6 hE
    have hE0 := Option.some.inj hE
    subst hE0
    refine z_aload_n 0 (pc := 26) C dX8_clear_26 rfl rfl ?_
    refine z_iconst (pc := 27) (v := (0 : Int32)) C dX8_clear_27 (by decide) ?_
    refine pfX8_253 (pc := 28) C (rfl : kdX 0 = 8) dX8_clear_28 ?_
    obtain ⟨S7, e8, hF⟩ := bv_of hF
    rw [← e8]
    refine z_iload_n 1 (pc := 31) C dX8_clear_31 rfl rfl ?_
    exact z_iret (pc := 32) C hQ hr rfl dX8_clear_32 (by cases hF; rfl) (by cases hF; rfl) (Nat.le_of_ble_eq_true rfl) (Nat.le_of_ble_eq_true rfl)
  have hF := hR
  clear hR
  refine lq2_W (P := fun (v3 : Int32) (S4 : St) => Zz E (WX E a S4) 0 0 7 [(0, .ref (a 0)), (1, .int v1), (2, .int v3)] []) (fun next5 hN5 v3 S4 hF => ?_) _ _ _ hF
  unfold fX8_clear_L7 at hF
  refine z_iload_n 2 (pc := 7) C dX8_clear_7 rfl rfl ?_
  refine z_bipush (pc := 8) (v := (8 : Int32)) C dX8_clear_8 (by decide) ?_
  refine z_icmp_ge 26 (pc := 10) C dX8_clear_10 (by decide) (fun c10 => ?_) (fun c10 => ?_)
  · have hF := if_t hF c10
    refine z_sub [0, 1] rfl ?_
    exact hJ9 _ hF
  · have hF := if_f hF c10
    refine z_aload_n 0 (pc := 13) C dX8_clear_13 rfl rfl ?_
    refine gfX8_28 (pc := 14) C (rfl : kdX 0 = 8) dX8_clear_14 ?_
    refine z_iload_n 2 (pc := 17) C dX8_clear_17 rfl rfl ?_
    refine z_iconst (pc := 18) (v := (0 : Int32)) C dX8_clear_18 (by decide) ?_
    obtain ⟨g11, hF⟩ := gd_of hF
    refine saX8 (pc := 19) C (rfl : kdX 6 = 28) g11 dX8_clear_19 ?_
    obtain ⟨S12, e13, hF⟩ := bv_of hF
    rw [← e13]
    obtain ⟨v14, e15, hF⟩ := bv_of hF
    refine z_iinc 2 (pc := 20) (v := v14) (loc' := [(2, .int v14), (0, .ref (a 0)), (1, .int v1)]) C dX8_clear_20 rfl (by rw [e15]; rfl) (by decide) rfl ?_
    refine z_goto 7 (pc := 23) C dX8_clear_23 (by decide) ?_
    refine z_sub [1, 2, 0] rfl ?_
    exact hN5 _ _ hF
def fX8_coatedPieces_L4 (S : St) (p1 : Int32) (next3 : Int32 → Int32 → Option (Int32)) (v1 : Int32) (v2 : Int32) : Option (Int32) :=
  if (gi S 0 8) ≤ v2 then (
    some v1)
  else (
    gd (inb v2 20) (
    bn1 (if (gi S (bid v2) 0) = p1 then (
      gd (inb v2 20) (
      if (gi S (bid v2) 2) = (2 : Int32) then (
        gd (inb v2 20) (
        bv ((v1 + (gi S (bid v2) 3))) (fun (v16 : Int32) =>
        some v16)))
      else (
        some v1)))
    else (
      some v1)) (fun (v8 : Int32) =>
      bv (v2 + 1) (fun (v9 : Int32) =>
      next3 v8 v9))))
def fX8_coatedPieces (S : St) (p1 : Int32) : Option (Int32) :=
  bn1 (lq2 (fX8_coatedPieces_L4 S p1) 200 (0 : Int32) (0 : Int32)) (fun (v4 : Int32) =>
    some (v4))
abbrev rmX8_coatedPieces : Room := { frames := 6, cells := 0, slots := 0, locals := 90 }
set_option maxRecDepth 100000 in
set_option maxHeartbeats 4000000 in
theorem mX8_coatedPieces {l : Launch} {D : va_G} {cs : Nat → ClassId} {a : Nat → Nat} (hT : l.stackTraces = false) {S : St} {p1 : Int32} {r : Int32} (hF : fX8_coatedPieces S p1 = some r) : MX l 113 GX D cs a yX8_coatedPieces cX8_coatedPieces 4 (some .int) rmX8_coatedPieces [.ref (a 0), .int p1] S (.inr (some (.int r))) S := by
  refine zm_entry [(0, .ref (a 0)), (1, .int p1)] hT (by decide +kernel) (Nat.le_of_ble_eq_true rfl) rfl (fun E hEl hED hEk C hQ hr => ?_)
  subst hEl
  subst hED
  subst hEk
  unfold fX8_coatedPieces at hF
  refine z_iconst (pc := 0) (v := (0 : Int32)) C dX8_coatedPieces_0 (by decide) ?_
  refine z_istore_n (pc := 1) (loc' := [(2, .int (0 : Int32)), (0, .ref (a 0)), (1, .int p1)]) C dX8_coatedPieces_1 rfl (by decide) rfl ?_
  refine z_iconst (pc := 2) (v := (0 : Int32)) C dX8_coatedPieces_2 (by decide) ?_
  refine z_istore_n (pc := 3) (loc' := [(3, .int (0 : Int32)), (2, .int (0 : Int32)), (0, .ref (a 0)), (1, .int p1)]) C dX8_coatedPieces_3 rfl (by decide) rfl ?_
  refine z_sub [2, 3, 1, 0] rfl ?_
  obtain ⟨v4', hR, hF⟩ := bn1_of hF
  have hJ5 : ∀ (v4 : Int32), (some v4 : Option (Int32)) = some v4' → Zz E (WX E a S) 0 0 56 [(2, .int v4)] [] := by
    intro v4 hE
    have hE0 := Option.some.inj hE
    subst hE0
    refine z_iload_n 0 (pc := 56) C dX8_coatedPieces_56 rfl rfl ?_
    exact z_iret (pc := 57) C hQ hr rfl dX8_coatedPieces_57 (by cases hF; rfl) (by cases hF; rfl) (Nat.le_of_ble_eq_true rfl) (Nat.le_of_ble_eq_true rfl)
  have hF := hR
  clear hR
  refine lq2_W (P := fun (v1 : Int32) (v2 : Int32) => Zz E (WX E a S) 0 0 4 [(0, .ref (a 0)), (1, .int p1), (2, .int v1), (3, .int v2)] []) (fun next3 hN3 v1 v2 hF => ?_) _ _ _ hF
  unfold fX8_coatedPieces_L4 at hF
  refine z_iload_n 3 (pc := 4) C dX8_coatedPieces_4 rfl rfl ?_
  refine z_aload_n 0 (pc := 5) C dX8_coatedPieces_5 rfl rfl ?_
  refine gfX8_286 (pc := 6) C (rfl : kdX 0 = 8) dX8_coatedPieces_6 ?_
  refine z_icmp_ge 56 (pc := 9) C dX8_coatedPieces_9 (by decide) (fun c6 => ?_) (fun c6 => ?_)
  · have hF := if_t hF c6
    refine z_sub [2] rfl ?_
    exact hJ5 _ hF
  · have hF := if_f hF c6
    refine z_aload_n 0 (pc := 12) C dX8_coatedPieces_12 rfl rfl ?_
    refine gfX8_34 (pc := 13) C (rfl : kdX 0 = 8) dX8_coatedPieces_13 ?_
    refine z_iload_n 3 (pc := 16) C dX8_coatedPieces_16 rfl rfl ?_
    obtain ⟨g7, hF⟩ := gd_of hF
    refine aabid (pc := 17) C (rfl : kdX 7 = 13) g7 dX8_coatedPieces_17 ?_
    refine gfX8_291 (pc := 18) C (kX_bid g7) dX8_coatedPieces_18 ?_
    refine z_iload_n 1 (pc := 21) C dX8_coatedPieces_21 rfl rfl ?_
    obtain ⟨v8', hR, hF⟩ := bn1_of hF
    have hJ11 : ∀ (v8 : Int32), (some v8 : Option (Int32)) = some v8' → Zz E (WX E a S) 0 0 50 [(0, .ref (a 0)), (1, .int p1), (2, .int v8), (3, .int v2)] [] := by
      intro v8 hE
      have hE0 := Option.some.inj hE
      subst hE0
      obtain ⟨v9, e10, hF⟩ := bv_of hF
      refine z_iinc 3 (pc := 50) (v := v9) (loc' := [(3, .int v9), (0, .ref (a 0)), (1, .int p1), (2, .int v8)]) C dX8_coatedPieces_50 rfl (by rw [e10]; rfl) (by decide) rfl ?_
      refine z_goto 4 (pc := 53) C dX8_coatedPieces_53 (by decide) ?_
      refine z_sub [1, 2, 3, 0] rfl ?_
      exact hN3 _ _ hF
    have hF := hR
    clear hR
    refine z_icmp_ne 50 (pc := 22) C dX8_coatedPieces_22 (by decide) (fun c12 => ?_) (fun c12 => ?_)
    · have hF := if_f hF c12
      exact hJ11 _ hF
    · have hF := if_t hF c12
      refine z_aload_n 0 (pc := 25) C dX8_coatedPieces_25 rfl rfl ?_
      refine gfX8_34 (pc := 26) C (rfl : kdX 0 = 8) dX8_coatedPieces_26 ?_
      refine z_iload_n 3 (pc := 29) C dX8_coatedPieces_29 rfl rfl ?_
      obtain ⟨g13, hF⟩ := gd_of hF
      refine aabid (pc := 30) C (rfl : kdX 7 = 13) g13 dX8_coatedPieces_30 ?_
      refine gfX8_297 (pc := 31) C (kX_bid g13) dX8_coatedPieces_31 ?_
      refine z_iconst (pc := 34) (v := (2 : Int32)) C dX8_coatedPieces_34 (by decide) ?_
      refine z_icmp_ne 50 (pc := 35) C dX8_coatedPieces_35 (by decide) (fun c14 => ?_) (fun c14 => ?_)
      · have hF := if_f hF c14
        exact hJ11 _ hF
      · have hF := if_t hF c14
        refine z_iload_n 2 (pc := 38) C dX8_coatedPieces_38 rfl rfl ?_
        refine z_aload_n 0 (pc := 39) C dX8_coatedPieces_39 rfl rfl ?_
        refine gfX8_34 (pc := 40) C (rfl : kdX 0 = 8) dX8_coatedPieces_40 ?_
        refine z_iload_n 3 (pc := 43) C dX8_coatedPieces_43 rfl rfl ?_
        obtain ⟨g15, hF⟩ := gd_of hF
        refine aabid (pc := 44) C (rfl : kdX 7 = 13) g15 dX8_coatedPieces_44 ?_
        refine gfX8_300 (pc := 45) C (kX_bid g15) dX8_coatedPieces_45 ?_
        refine z_iadd (pc := 48) C dX8_coatedPieces_48 ?_
        obtain ⟨v16, e17, hF⟩ := bv_of hF
        refine z_topi e17 ?_
        refine z_istore_n (pc := 49) (loc' := [(2, .int v16), (0, .ref (a 0)), (1, .int p1), (3, .int v2)]) C dX8_coatedPieces_49 rfl (by decide) rfl ?_
        refine z_sub [1, 2, 0, 3] rfl ?_
        exact hJ11 _ hF
def fX8_hasBatch_L2 (S : St) (p1 : Int32) (next2 : Int32 → Option (Int32)) (v1 : Int32) : Option (Int32) :=
  if (gi S 0 8) ≤ v1 then (
    some ((0 : Int32)))
  else (
    gd (inb v1 20) (
    jn0 (
      bv (v1 + 1) (fun (v5 : Int32) =>
      next2 v5)) (fun J7 =>
      if (gi S (bid v1) 0) = p1 then (
        gd (inb v1 20) (
        if (gi S (bid v1) 2) = (3 : Int32) then (
          J7)
        else (
          some ((1 : Int32)))))
      else (
        J7))))
def fX8_hasBatch (S : St) (p1 : Int32) : Option (Int32) :=
  lq1 (fX8_hasBatch_L2 S p1) 200 (0 : Int32)
abbrev rmX8_hasBatch : Room := { frames := 6, cells := 0, slots := 0, locals := 90 }
set_option maxRecDepth 100000 in
set_option maxHeartbeats 4000000 in
theorem mX8_hasBatch {l : Launch} {D : va_G} {cs : Nat → ClassId} {a : Nat → Nat} (hT : l.stackTraces = false) {S : St} {p1 : Int32} {r : Int32} (hF : fX8_hasBatch S p1 = some r) : MX l 113 GX D cs a yX8_hasBatch cX8_hasBatch 3 (some .boolean) rmX8_hasBatch [.ref (a 0), .int p1] S (.inr (some (.int r))) S := by
  refine zm_entry [(0, .ref (a 0)), (1, .int p1)] hT (by decide +kernel) (Nat.le_of_ble_eq_true rfl) rfl (fun E hEl hED hEk C hQ hr => ?_)
  subst hEl
  subst hED
  subst hEk
  unfold fX8_hasBatch at hF
  refine z_iconst (pc := 0) (v := (0 : Int32)) C dX8_hasBatch_0 (by decide) ?_
  refine z_istore_n (pc := 1) (loc' := [(2, .int (0 : Int32)), (0, .ref (a 0)), (1, .int p1)]) C dX8_hasBatch_1 rfl (by decide) rfl ?_
  refine z_sub [1, 2, 0] rfl ?_
  refine lq1_W (P := fun (v1 : Int32) => Zz E (WX E a S) 0 0 2 [(0, .ref (a 0)), (1, .int p1), (2, .int v1)] []) (fun next2 hN2 v1 hF => ?_) _ _ hF
  unfold fX8_hasBatch_L2 at hF
  refine z_iload_n 2 (pc := 2) C dX8_hasBatch_2 rfl rfl ?_
  refine z_aload_n 0 (pc := 3) C dX8_hasBatch_3 rfl rfl ?_
  refine gfX8_286 (pc := 4) C (rfl : kdX 0 = 8) dX8_hasBatch_4 ?_
  refine z_icmp_ge 44 (pc := 7) C dX8_hasBatch_7 (by decide) (fun c3 => ?_) (fun c3 => ?_)
  · have hF := if_t hF c3
    refine z_iconst (pc := 44) (v := (0 : Int32)) C dX8_hasBatch_44 (by decide) ?_
    exact z_iret (pc := 45) C hQ hr rfl dX8_hasBatch_45 (by cases hF; rfl) (by cases hF; rfl) (Nat.le_of_ble_eq_true rfl) (Nat.le_of_ble_eq_true rfl)
  · have hF := if_f hF c3
    refine z_aload_n 0 (pc := 10) C dX8_hasBatch_10 rfl rfl ?_
    refine gfX8_34 (pc := 11) C (rfl : kdX 0 = 8) dX8_hasBatch_11 ?_
    refine z_iload_n 2 (pc := 14) C dX8_hasBatch_14 rfl rfl ?_
    obtain ⟨g4, hF⟩ := gd_of hF
    refine aabid (pc := 15) C (rfl : kdX 7 = 13) g4 dX8_hasBatch_15 ?_
    refine gfX8_291 (pc := 16) C (kX_bid g4) dX8_hasBatch_16 ?_
    refine z_iload_n 1 (pc := 19) C dX8_hasBatch_19 rfl rfl ?_
    obtain ⟨J7, hdJ7, hF⟩ := jn0_of hF
    have hJ7 : J7 = some r → Zz E (WX E a S) 0 0 38 [(0, .ref (a 0)), (1, .int p1), (2, .int v1)] [] := by
      intro hF
      have hF := hdJ7.symm.trans hF
      obtain ⟨v5, e6, hF⟩ := bv_of hF
      refine z_iinc 2 (pc := 38) (v := v5) (loc' := [(2, .int v5), (0, .ref (a 0)), (1, .int p1)]) C dX8_hasBatch_38 rfl (by rw [e6]; rfl) (by decide) rfl ?_
      refine z_goto 2 (pc := 41) C dX8_hasBatch_41 (by decide) ?_
      refine z_sub [1, 2, 0] rfl ?_
      exact hN2 _ hF
    refine z_icmp_ne 38 (pc := 20) C dX8_hasBatch_20 (by decide) (fun c8 => ?_) (fun c8 => ?_)
    · have hF := if_f hF c8
      exact hJ7 hF
    · have hF := if_t hF c8
      refine z_aload_n 0 (pc := 23) C dX8_hasBatch_23 rfl rfl ?_
      refine gfX8_34 (pc := 24) C (rfl : kdX 0 = 8) dX8_hasBatch_24 ?_
      refine z_iload_n 2 (pc := 27) C dX8_hasBatch_27 rfl rfl ?_
      obtain ⟨g9, hF⟩ := gd_of hF
      refine aabid (pc := 28) C (rfl : kdX 7 = 13) g9 dX8_hasBatch_28 ?_
      refine gfX8_297 (pc := 29) C (kX_bid g9) dX8_hasBatch_29 ?_
      refine z_iconst (pc := 32) (v := (3 : Int32)) C dX8_hasBatch_32 (by decide) ?_
      refine z_icmp_eq 38 (pc := 33) C dX8_hasBatch_33 (by decide) (fun c10 => ?_) (fun c10 => ?_)
      · have hF := if_t hF c10
        exact hJ7 hF
      · have hF := if_f hF c10
        refine z_iconst (pc := 36) (v := (1 : Int32)) C dX8_hasBatch_36 (by decide) ?_
        exact z_iret (pc := 37) C hQ hr rfl dX8_hasBatch_37 (by cases hF; rfl) (by cases hF; rfl) (Nat.le_of_ble_eq_true rfl) (Nat.le_of_ble_eq_true rfl)
def fX8_hasBit (p1 : Int32) (p2 : Int32) : Option (Int32) :=
  if ((p1 >>> (p2 &&& 31)) &&& (1 : Int32)) = 0 then (
    some ((0 : Int32)))
  else (
    some ((1 : Int32)))
abbrev rmX8_hasBit : Room := { frames := 6, cells := 0, slots := 0, locals := 90 }
set_option maxRecDepth 100000 in
set_option maxHeartbeats 4000000 in
theorem mX8_hasBit {l : Launch} {D : va_G} {cs : Nat → ClassId} {a : Nat → Nat} (hT : l.stackTraces = false) {S : St} {p1 : Int32} {p2 : Int32} {r : Int32} (hF : fX8_hasBit p1 p2 = some r) : MX l 113 GX D cs a yX8_hasBit cX8_hasBit 2 (some .boolean) rmX8_hasBit [.int p1, .int p2] S (.inr (some (.int r))) S := by
  refine zm_entry [(0, .int p1), (1, .int p2)] hT (by decide +kernel) (Nat.le_of_ble_eq_true rfl) rfl (fun E hEl hED hEk C hQ hr => ?_)
  subst hEl
  subst hED
  subst hEk
  unfold fX8_hasBit at hF
  refine z_iload_n 0 (pc := 0) C dX8_hasBit_0 rfl rfl ?_
  refine z_iload_n 1 (pc := 1) C dX8_hasBit_1 rfl rfl ?_
  refine z_ishr (pc := 2) C dX8_hasBit_2 ?_
  refine z_iconst (pc := 3) (v := (1 : Int32)) C dX8_hasBit_3 (by decide) ?_
  refine z_iand (pc := 4) C dX8_hasBit_4 ?_
  refine z_if_eq 12 (pc := 5) C dX8_hasBit_5 (by decide) (fun c1 => ?_) (fun c1 => ?_)
  · have hF := if_t hF c1
    refine z_iconst (pc := 12) (v := (0 : Int32)) C dX8_hasBit_12 (by decide) ?_
    exact z_iret (pc := 13) C hQ hr rfl dX8_hasBit_13 (by cases hF; rfl) (by cases hF; rfl) (Nat.le_of_ble_eq_true rfl) (Nat.le_of_ble_eq_true rfl)
  · have hF := if_f hF c1
    refine z_iconst (pc := 8) (v := (1 : Int32)) C dX8_hasBit_8 (by decide) ?_
    refine z_goto 13 (pc := 9) C dX8_hasBit_9 (by decide) ?_
    exact z_iret (pc := 13) C hQ hr rfl dX8_hasBit_13 (by cases hF; rfl) (by cases hF; rfl) (Nat.le_of_ble_eq_true rfl) (Nat.le_of_ble_eq_true rfl)
def fX8_isOut (p1 : Int32) (p2 : Int32) (p3 : Int32) : Option (Int32) :=
  jn0 (
    some ((1 : Int32))) (fun J1 =>
    if p1 < p2 then (
      J1)
    else (
      if p1 ≤ p3 then (
        some ((0 : Int32)))
      else (
        J1)))
abbrev rmX8_isOut : Room := { frames := 6, cells := 0, slots := 0, locals := 90 }
set_option maxRecDepth 100000 in
set_option maxHeartbeats 4000000 in
theorem mX8_isOut {l : Launch} {D : va_G} {cs : Nat → ClassId} {a : Nat → Nat} (hT : l.stackTraces = false) {S : St} {p1 : Int32} {p2 : Int32} {p3 : Int32} {r : Int32} (hF : fX8_isOut p1 p2 p3 = some r) : MX l 113 GX D cs a yX8_isOut cX8_isOut 3 (some .boolean) rmX8_isOut [.int p1, .int p2, .int p3] S (.inr (some (.int r))) S := by
  refine zm_entry [(0, .int p1), (1, .int p2), (2, .int p3)] hT (by decide +kernel) (Nat.le_of_ble_eq_true rfl) rfl (fun E hEl hED hEk C hQ hr => ?_)
  subst hEl
  subst hED
  subst hEk
  unfold fX8_isOut at hF
  refine z_iload_n 0 (pc := 0) C dX8_isOut_0 rfl rfl ?_
  refine z_iload_n 1 (pc := 1) C dX8_isOut_1 rfl rfl ?_
  obtain ⟨J1, hdJ1, hF⟩ := jn0_of hF
  have hJ1 : J1 = some r → Zz E (WX E a S) 0 0 10 [] [] := by
    intro hF
    have hF := hdJ1.symm.trans hF
    refine z_iconst (pc := 10) (v := (1 : Int32)) C dX8_isOut_10 (by decide) ?_
    refine z_goto 15 (pc := 11) C dX8_isOut_11 (by decide) ?_
    exact z_iret (pc := 15) C hQ hr rfl dX8_isOut_15 (by cases hF; rfl) (by cases hF; rfl) (Nat.le_of_ble_eq_true rfl) (Nat.le_of_ble_eq_true rfl)
  refine z_icmp_lt 10 (pc := 2) C dX8_isOut_2 (by decide) (fun c2 => ?_) (fun c2 => ?_)
  · have hF := if_t hF c2
    refine z_sub [] rfl ?_
    exact hJ1 hF
  · have hF := if_f hF c2
    refine z_iload_n 0 (pc := 5) C dX8_isOut_5 rfl rfl ?_
    refine z_iload_n 2 (pc := 6) C dX8_isOut_6 rfl rfl ?_
    refine z_icmp_le 14 (pc := 7) C dX8_isOut_7 (by decide) (fun c3 => ?_) (fun c3 => ?_)
    · have hF := if_t hF c3
      refine z_iconst (pc := 14) (v := (0 : Int32)) C dX8_isOut_14 (by decide) ?_
      exact z_iret (pc := 15) C hQ hr rfl dX8_isOut_15 (by cases hF; rfl) (by cases hF; rfl) (Nat.le_of_ble_eq_true rfl) (Nat.le_of_ble_eq_true rfl)
    · have hF := if_f hF c3
      refine z_sub [] rfl ?_
      exact hJ1 hF
def fX8_wipe (S : St) : Option ((Int32 × St)) :=
  bv ((gi S 1 2)) (fun (v1 : Int32) =>
  bv (si S 1 2 (0 : Int32)) (fun (S3 : St) =>
  some (v1, S3)))
abbrev rmX8_wipe : Room := { frames := 6, cells := 0, slots := 0, locals := 90 }
set_option maxRecDepth 100000 in
set_option maxHeartbeats 4000000 in
theorem mX8_wipe {l : Launch} {D : va_G} {cs : Nat → ClassId} {a : Nat → Nat} (hT : l.stackTraces = false) {S : St} {r : Int32} {S' : St} (hF : fX8_wipe S = some (r, S')) : MX l 113 GX D cs a yX8_wipe cX8_wipe 2 (some .int) rmX8_wipe [.ref (a 0)] S (.inr (some (.int r))) S' := by
  refine zm_entry [(0, .ref (a 0))] hT (by decide +kernel) (Nat.le_of_ble_eq_true rfl) rfl (fun E hEl hED hEk C hQ hr => ?_)
  subst hEl
  subst hED
  subst hEk
  unfold fX8_wipe at hF
  refine z_aload_n 0 (pc := 0) C dX8_wipe_0 rfl rfl ?_
  refine gfX8_12 (pc := 1) C (rfl : kdX 0 = 8) dX8_wipe_1 ?_
  refine gfX8_73 (pc := 4) C (rfl : kdX 1 = 2) dX8_wipe_4 ?_
  obtain ⟨v1, e2, hF⟩ := bv_of hF
  refine z_topi e2 ?_
  refine z_istore_n (pc := 7) (loc' := [(1, .int v1), (0, .ref (a 0))]) C dX8_wipe_7 rfl (by decide) rfl ?_
  refine z_aload_n 1 (pc := 8) C dX8_wipe_8 rfl rfl ?_
  refine gfX8_12 (pc := 9) C (rfl : kdX 0 = 8) dX8_wipe_9 ?_
  refine z_iconst (pc := 12) (v := (0 : Int32)) C dX8_wipe_12 (by decide) ?_
  refine pfX8_73 (pc := 13) C (rfl : kdX 1 = 2) dX8_wipe_13 ?_
  obtain ⟨S3, e4, hF⟩ := bv_of hF
  rw [← e4]
  refine z_iload_n 0 (pc := 16) C dX8_wipe_16 rfl rfl ?_
  exact z_iret (pc := 17) C hQ hr rfl dX8_wipe_17 (by cases hF; rfl) (by cases hF; rfl) (Nat.le_of_ble_eq_true rfl) (Nat.le_of_ble_eq_true rfl)
def fX3_addKind_L30 (v2 : Int32) (v4 : Int32) (next10 : Int32 → St → Option (Int32 × St)) (v8 : Int32) (S9 : St) : Option (Int32 × St) :=
  if v8 ≤ 0 then (
    some (v8, S9))
  else (
    bn1 (fX3_isBigger S9 v2 v4 (v8 - (1 : Int32))) (fun (v26 : Int32) =>
    if v26 = 0 then (
      some (v8, S9))
    else (
      gd (inb (v8 - (1 : Int32)) 8) (
      gd (inb v8 8) (
      bv (si S9 21 v8.toNatClampNeg (gi S9 21 (v8 - (1 : Int32)).toNatClampNeg)) (fun (S30 : St) =>
      gd (inb (v8 - (1 : Int32)) 8) (
      gd (inb v8 8) (
      bv (si S30 22 v8.toNatClampNeg (gi S30 22 (v8 - (1 : Int32)).toNatClampNeg)) (fun (S34 : St) =>
      gd (inb (v8 - (1 : Int32)) 8) (
      gd (inb v8 8) (
      bv (si S34 23 v8.toNatClampNeg (gi S34 23 (v8 - (1 : Int32)).toNatClampNeg)) (fun (S38 : St) =>
      bv (v8 + (-1)) (fun (v40 : Int32) =>
      next10 v40 S38)))))))))))))
def fX3_addKind (S : St) (p1 : Int32) (p2 : Int32) (p3 : Int32) : Option (St) :=
  if (gi S 20 5) < (8 : Int32) then (
    bv ((if p1 < p2 then p2 else p1)) (fun (v2 : Int32) =>
    bv ((if p2 < p1 then p2 else p1)) (fun (v4 : Int32) =>
    bv ((gi S 20 5)) (fun (v6 : Int32) =>
    bn2 (lq2 (fX3_addKind_L30 v2 v4) 200 v6 S) (fun (v11 : Int32) (S12 : St) =>
      gd (inb v11 8) (
      bv (si S12 21 v11.toNatClampNeg v2) (fun (S14 : St) =>
      gd (inb v11 8) (
      bv (si S14 22 v11.toNatClampNeg v4) (fun (S17 : St) =>
      gd (inb v11 8) (
      bv (si S17 23 v11.toNatClampNeg p3) (fun (S20 : St) =>
      bv (si S20 20 5 ((gi S20 20 5) + (1 : Int32))) (fun (S22 : St) =>
      some S22))))))))))))
  else (
    some S)
abbrev rmX3_addKind : Room := { frames := 7, cells := 0, slots := 0, locals := 130 }
set_option maxRecDepth 100000 in
set_option maxHeartbeats 4000000 in
theorem mX3_addKind {l : Launch} {D : va_G} {cs : Nat → ClassId} {a : Nat → Nat} (hT : l.stackTraces = false) {S : St} {p1 : Int32} {p2 : Int32} {p3 : Int32} {S' : St} (hF : fX3_addKind S p1 p2 p3 = some S') : MX l 113 GX D cs a yX3_addKind cX3_addKind 7 none rmX3_addKind [.ref (a 20), .int p1, .int p2, .int p3] S (.inr none) S' := by
  refine zm_entry [(0, .ref (a 20)), (1, .int p1), (2, .int p2), (3, .int p3)] hT (by decide +kernel) (Nat.le_of_ble_eq_true rfl) rfl (fun E hEl hED hEk C hQ hr => ?_)
  subst hEl
  subst hED
  subst hEk
  unfold fX3_addKind at hF
  refine z_aload_n 0 (pc := 0) C dX3_addKind_0 rfl rfl ?_
  refine gfX3_43 (pc := 1) C (rfl : kdX 20 = 3) dX3_addKind_1 ?_
  refine z_bipush (pc := 4) (v := (8 : Int32)) C dX3_addKind_4 (by decide) ?_
  refine z_icmp_lt 10 (pc := 6) C dX3_addKind_6 (by decide) (fun c1 => ?_) (fun c1 => ?_)
  · have hF := if_t hF c1
    refine z_iload_n 1 (pc := 10) C dX3_addKind_10 rfl rfl ?_
    refine z_iload_n 2 (pc := 11) C dX3_addKind_11 rfl rfl ?_
    refine z_mmax (pc := 12) C bw_18_15 bw_18_16 bw_13_8 bw_18_17 (Nat.le_of_ble_eq_true rfl) (Nat.le_of_ble_eq_true rfl) (Nat.le_of_ble_eq_true rfl) (Nat.le_of_ble_eq_true rfl) dX3_addKind_12 ?_
    obtain ⟨v2, e3, hF⟩ := bv_of hF
    refine z_topi e3 ?_
    refine z_istore (pc := 15) (loc' := [(4, .int v2), (0, .ref (a 20)), (1, .int p1), (2, .int p2), (3, .int p3)]) C dX3_addKind_15 (by decide) rfl ?_
    refine z_iload_n 2 (pc := 17) C dX3_addKind_17 rfl rfl ?_
    refine z_iload_n 3 (pc := 18) C dX3_addKind_18 rfl rfl ?_
    refine z_mmin (pc := 19) C bw_18_18 bw_13_7 bw_13_8 bw_13_9 (Nat.le_of_ble_eq_true rfl) (Nat.le_of_ble_eq_true rfl) (Nat.le_of_ble_eq_true rfl) (Nat.le_of_ble_eq_true rfl) dX3_addKind_19 ?_
    obtain ⟨v4, e5, hF⟩ := bv_of hF
    refine z_topi e5 ?_
    refine z_istore (pc := 22) (loc' := [(5, .int v4), (4, .int v2), (0, .ref (a 20)), (1, .int p1), (2, .int p2), (3, .int p3)]) C dX3_addKind_22 (by decide) rfl ?_
    refine z_aload_n 2 (pc := 24) C dX3_addKind_24 rfl rfl ?_
    refine gfX3_43 (pc := 25) C (rfl : kdX 20 = 3) dX3_addKind_25 ?_
    obtain ⟨v6, e7, hF⟩ := bv_of hF
    refine z_topi e7 ?_
    refine z_istore (pc := 28) (loc' := [(6, .int v6), (5, .int v4), (4, .int v2), (0, .ref (a 20)), (1, .int p1), (2, .int p2), (3, .int p3)]) C dX3_addKind_28 (by decide) rfl ?_
    refine z_sub [3, 6, 2, 1, 0] rfl ?_
    obtain ⟨v11', S12', hR, hF⟩ := bn2_of hF
    have hJ24 : ∀ (v11 : Int32) (S12 : St), (some (v11, S12) : Option (Int32 × St)) = some (v11', S12') → Zz E (WX E a S12) 0 0 104 [(0, .ref (a 20)), (3, .int p3), (4, .int v2), (5, .int v4), (6, .int v11)] [] := by
      intro v11 S12 hE
      have hE0 := Option.some.inj hE
      obtain ⟨hA0, hE1⟩ := Prod.mk.inj hE0
      subst hA0
      subst hE1
      refine z_aload_n 0 (pc := 104) C dX3_addKind_104 rfl rfl ?_
      refine gfX3_9 (pc := 105) C (rfl : kdX 20 = 3) dX3_addKind_105 ?_
      refine z_iload 4 (pc := 108) C dX3_addKind_108 rfl ?_
      refine z_iload 2 (pc := 110) C dX3_addKind_110 rfl ?_
      obtain ⟨g13, hF⟩ := gd_of hF
      refine saX8 (pc := 112) C (rfl : kdX 21 = 28) g13 dX3_addKind_112 ?_
      obtain ⟨S14, e15, hF⟩ := bv_of hF
      rw [← e15]
      refine z_aload_n 0 (pc := 113) C dX3_addKind_113 rfl rfl ?_
      refine gfX3_15 (pc := 114) C (rfl : kdX 20 = 3) dX3_addKind_114 ?_
      refine z_iload 4 (pc := 117) C dX3_addKind_117 rfl ?_
      refine z_iload 3 (pc := 119) C dX3_addKind_119 rfl ?_
      obtain ⟨g16, hF⟩ := gd_of hF
      refine saX8 (pc := 121) C (rfl : kdX 22 = 28) g16 dX3_addKind_121 ?_
      obtain ⟨S17, e18, hF⟩ := bv_of hF
      rw [← e18]
      refine z_aload_n 0 (pc := 122) C dX3_addKind_122 rfl rfl ?_
      refine gfX3_18 (pc := 123) C (rfl : kdX 20 = 3) dX3_addKind_123 ?_
      refine z_iload 4 (pc := 126) C dX3_addKind_126 rfl ?_
      refine z_iload_n 1 (pc := 128) C dX3_addKind_128 rfl rfl ?_
      obtain ⟨g19, hF⟩ := gd_of hF
      refine saX8 (pc := 129) C (rfl : kdX 23 = 28) g19 dX3_addKind_129 ?_
      obtain ⟨S20, e21, hF⟩ := bv_of hF
      rw [← e21]
      refine z_aload_n 0 (pc := 130) C dX3_addKind_130 rfl rfl ?_
      refine z_dup (pc := 131) C dX3_addKind_131 rfl ?_
      refine gfX3_43 (pc := 132) C (rfl : kdX 20 = 3) dX3_addKind_132 ?_
      refine z_iconst (pc := 135) (v := (1 : Int32)) C dX3_addKind_135 (by decide) ?_
      refine z_iadd (pc := 136) C dX3_addKind_136 ?_
      refine pfX3_43 (pc := 137) C (rfl : kdX 20 = 3) dX3_addKind_137 ?_
      obtain ⟨S22, e23, hF⟩ := bv_of hF
      rw [← e23]
      exact z_vret (pc := 140) C hQ hr dX3_addKind_140 (by cases hF; rfl) (by cases hF; rfl) (Nat.le_of_ble_eq_true rfl) (Nat.le_of_ble_eq_true rfl)
    have hF := hR
    clear hR
    refine lq2_W (P := fun (v8 : Int32) (S9 : St) => Zz E (WX E a S9) 0 0 30 [(0, .ref (a 20)), (3, .int p3), (4, .int v2), (5, .int v4), (6, .int v8)] []) (fun next10 hN10 v8 S9 hF => ?_) _ _ _ hF
    unfold fX3_addKind_L30 at hF
    refine z_iload 4 (pc := 30) C dX3_addKind_30 rfl ?_
    refine z_if_le 104 (pc := 32) C dX3_addKind_32 (by decide) (fun c25 => ?_) (fun c25 => ?_)
    · have hF := if_t hF c25
      exact hJ24 _ _ hF
    · have hF := if_f hF c25
      refine z_aload_n 0 (pc := 35) C dX3_addKind_35 rfl rfl ?_
      refine z_iload 2 (pc := 36) C dX3_addKind_36 rfl ?_
      refine z_iload 3 (pc := 38) C dX3_addKind_38 rfl ?_
      refine z_iload 4 (pc := 40) C dX3_addKind_40 rfl ?_
      refine z_iconst (pc := 42) (v := (1 : Int32)) C dX3_addKind_42 (by decide) ?_
      refine z_isub (pc := 43) C dX3_addKind_43 ?_
      obtain ⟨v26, hG, hF⟩ := bn1_of hF
      refine z_callV [.int v2, .int v4, .int (v8 - (1 : Int32))] (pc := 44) (st1 := [.int v26]) (c1 := 0) (s1 := 0) C (mX3_isBigger C.hT hG) kX3_68 (kdX_lt (rfl : kdX 20 = 3) (by decide)) (gX_3 (rfl : kdX 20 = 3)) rfl rfl rfl rfl (Nat.le_of_ble_eq_true rfl) ⟨(Nat.le_of_ble_eq_true rfl), (Nat.le_of_ble_eq_true rfl)⟩ ⟨(Nat.le_of_ble_eq_true rfl), (Nat.le_of_ble_eq_true rfl)⟩ dX3_addKind_44 rfl rfl ?_
      refine z_if_eq 104 (pc := 47) C dX3_addKind_47 (by decide) (fun c27 => ?_) (fun c27 => ?_)
      · have hF := if_t hF c27
        exact hJ24 _ _ hF
      · have hF := if_f hF c27
        refine z_aload_n 0 (pc := 50) C dX3_addKind_50 rfl rfl ?_
        refine gfX3_9 (pc := 51) C (rfl : kdX 20 = 3) dX3_addKind_51 ?_
        refine z_iload 4 (pc := 54) C dX3_addKind_54 rfl ?_
        refine z_aload_n 0 (pc := 56) C dX3_addKind_56 rfl rfl ?_
        refine gfX3_9 (pc := 57) C (rfl : kdX 20 = 3) dX3_addKind_57 ?_
        refine z_iload 4 (pc := 60) C dX3_addKind_60 rfl ?_
        refine z_iconst (pc := 62) (v := (1 : Int32)) C dX3_addKind_62 (by decide) ?_
        refine z_isub (pc := 63) C dX3_addKind_63 ?_
        obtain ⟨g28, hF⟩ := gd_of hF
        refine iaX8 (pc := 64) C (rfl : kdX 21 = 28) g28 dX3_addKind_64 ?_
        obtain ⟨g29, hF⟩ := gd_of hF
        refine saX8 (pc := 65) C (rfl : kdX 21 = 28) g29 dX3_addKind_65 ?_
        obtain ⟨S30, e31, hF⟩ := bv_of hF
        rw [← e31]
        refine z_aload_n 0 (pc := 66) C dX3_addKind_66 rfl rfl ?_
        refine gfX3_15 (pc := 67) C (rfl : kdX 20 = 3) dX3_addKind_67 ?_
        refine z_iload 4 (pc := 70) C dX3_addKind_70 rfl ?_
        refine z_aload_n 0 (pc := 72) C dX3_addKind_72 rfl rfl ?_
        refine gfX3_15 (pc := 73) C (rfl : kdX 20 = 3) dX3_addKind_73 ?_
        refine z_iload 4 (pc := 76) C dX3_addKind_76 rfl ?_
        refine z_iconst (pc := 78) (v := (1 : Int32)) C dX3_addKind_78 (by decide) ?_
        refine z_isub (pc := 79) C dX3_addKind_79 ?_
        obtain ⟨g32, hF⟩ := gd_of hF
        refine iaX8 (pc := 80) C (rfl : kdX 22 = 28) g32 dX3_addKind_80 ?_
        obtain ⟨g33, hF⟩ := gd_of hF
        refine saX8 (pc := 81) C (rfl : kdX 22 = 28) g33 dX3_addKind_81 ?_
        obtain ⟨S34, e35, hF⟩ := bv_of hF
        rw [← e35]
        refine z_aload_n 0 (pc := 82) C dX3_addKind_82 rfl rfl ?_
        refine gfX3_18 (pc := 83) C (rfl : kdX 20 = 3) dX3_addKind_83 ?_
        refine z_iload 4 (pc := 86) C dX3_addKind_86 rfl ?_
        refine z_aload_n 0 (pc := 88) C dX3_addKind_88 rfl rfl ?_
        refine gfX3_18 (pc := 89) C (rfl : kdX 20 = 3) dX3_addKind_89 ?_
        refine z_iload 4 (pc := 92) C dX3_addKind_92 rfl ?_
        refine z_iconst (pc := 94) (v := (1 : Int32)) C dX3_addKind_94 (by decide) ?_
        refine z_isub (pc := 95) C dX3_addKind_95 ?_
        obtain ⟨g36, hF⟩ := gd_of hF
        refine iaX8 (pc := 96) C (rfl : kdX 23 = 28) g36 dX3_addKind_96 ?_
        obtain ⟨g37, hF⟩ := gd_of hF
        refine saX8 (pc := 97) C (rfl : kdX 23 = 28) g37 dX3_addKind_97 ?_
        obtain ⟨S38, e39, hF⟩ := bv_of hF
        rw [← e39]
        obtain ⟨v40, e41, hF⟩ := bv_of hF
        refine z_iinc 4 (pc := 98) (v := v40) (loc' := [(6, .int v40), (0, .ref (a 20)), (3, .int p3), (4, .int v2), (5, .int v4)]) C dX3_addKind_98 rfl (by rw [e41]; rfl) (by decide) rfl ?_
        refine z_goto 30 (pc := 101) C dX3_addKind_101 (by decide) ?_
        refine z_sub [1, 2, 3, 4, 0] rfl ?_
        exact hN10 _ _ hF
  · have hF := if_f hF c1
    exact z_vret (pc := 9) C hQ hr dX3_addKind_9 (by cases hF; rfl) (by cases hF; rfl) (Nat.le_of_ble_eq_true rfl) (Nat.le_of_ble_eq_true rfl)
def fX3_newRow (S : St) (p1 : Int32) : Option ((Int32 × St)) :=
  bn2 (fX3_sheetFor S p1) (fun (v1 : Int32) (S2 : St) =>
  if v1 = (-1 : Int32) then (
    some ((-1 : Int32), S2))
  else (
    if (gi S2 20 10) < (40 : Int32) then (
      gd (inb v1 40) (
      gd (inb v1 40) (
      bv (si S2 28 v1.toNatClampNeg ((gi S2 28 v1.toNatClampNeg) - p1)) (fun (S7 : St) =>
      gd (inb (gi S7 20 10) 40) (
      bv (si S7 24 (gi S7 20 10).toNatClampNeg v1) (fun (S10 : St) =>
      gd (inb (gi S10 20 10) 40) (
      bv (si S10 25 (gi S10 20 10).toNatClampNeg p1) (fun (S13 : St) =>
      gd (inb (gi S13 20 10) 40) (
      bv (si S13 26 (gi S13 20 10).toNatClampNeg (gi S13 20 0)) (fun (S16 : St) =>
      gd (inb (gi S16 20 10) 40) (
      bv (si S16 27 (gi S16 20 10).toNatClampNeg (0 : Int32)) (fun (S19 : St) =>
      bv (si S19 20 10 ((gi S19 20 10) + (1 : Int32))) (fun (S21 : St) =>
      some (((gi S21 20 10) - (1 : Int32)), S21))))))))))))))
    else (
      some ((-1 : Int32), S2))))
abbrev rmX3_newRow : Room := { frames := 7, cells := 0, slots := 0, locals := 130 }
set_option maxRecDepth 100000 in
set_option maxHeartbeats 4000000 in
theorem mX3_newRow {l : Launch} {D : va_G} {cs : Nat → ClassId} {a : Nat → Nat} (hT : l.stackTraces = false) {S : St} {p1 : Int32} {r : Int32} {S' : St} (hF : fX3_newRow S p1 = some (r, S')) : MX l 113 GX D cs a yX3_newRow cX3_newRow 3 (some .int) rmX3_newRow [.ref (a 20), .int p1] S (.inr (some (.int r))) S' := by
  refine zm_entry [(0, .ref (a 20)), (1, .int p1)] hT (by decide +kernel) (Nat.le_of_ble_eq_true rfl) rfl (fun E hEl hED hEk C hQ hr => ?_)
  subst hEl
  subst hED
  subst hEk
  unfold fX3_newRow at hF
  refine z_aload_n 0 (pc := 0) C dX3_newRow_0 rfl rfl ?_
  refine z_iload_n 1 (pc := 1) C dX3_newRow_1 rfl rfl ?_
  obtain ⟨v1, S2, hG, hF⟩ := bn2_of hF
  refine z_callV [.int p1] (pc := 2) (st1 := [.int v1]) (c1 := 0) (s1 := 0) C (mX3_sheetFor C.hT hG) kX3_83 (kdX_lt (rfl : kdX 20 = 3) (by decide)) (gX_3 (rfl : kdX 20 = 3)) rfl rfl rfl rfl (Nat.le_of_ble_eq_true rfl) ⟨(Nat.le_of_ble_eq_true rfl), (Nat.le_of_ble_eq_true rfl)⟩ ⟨(Nat.le_of_ble_eq_true rfl), (Nat.le_of_ble_eq_true rfl)⟩ dX3_newRow_2 rfl rfl ?_
  refine z_istore_n (pc := 5) (loc' := [(2, .int v1), (0, .ref (a 20)), (1, .int p1)]) C dX3_newRow_5 rfl (by decide) rfl ?_
  refine z_iload_n 0 (pc := 6) C dX3_newRow_6 rfl rfl ?_
  refine z_iconst (pc := 7) (v := (-1 : Int32)) C dX3_newRow_7 (by decide) ?_
  refine z_icmp_eq 20 (pc := 8) C dX3_newRow_8 (by decide) (fun c3 => ?_) (fun c3 => ?_)
  · have hF := if_t hF c3
    refine z_iconst (pc := 20) (v := (-1 : Int32)) C dX3_newRow_20 (by decide) ?_
    exact z_iret (pc := 21) C hQ hr rfl dX3_newRow_21 (by cases hF; rfl) (by cases hF; rfl) (Nat.le_of_ble_eq_true rfl) (Nat.le_of_ble_eq_true rfl)
  · have hF := if_f hF c3
    refine z_aload_n 1 (pc := 11) C dX3_newRow_11 rfl rfl ?_
    refine gfX3_46 (pc := 12) C (rfl : kdX 20 = 3) dX3_newRow_12 ?_
    refine z_bipush (pc := 15) (v := (40 : Int32)) C dX3_newRow_15 (by decide) ?_
    refine z_icmp_lt 22 (pc := 17) C dX3_newRow_17 (by decide) (fun c4 => ?_) (fun c4 => ?_)
    · have hF := if_t hF c4
      refine z_aload_n 1 (pc := 22) C dX3_newRow_22 rfl rfl ?_
      refine gfX3_33 (pc := 23) C (rfl : kdX 20 = 3) dX3_newRow_23 ?_
      refine z_iload_n 0 (pc := 26) C dX3_newRow_26 rfl rfl ?_
      refine z_dup2 (pc := 27) C dX3_newRow_27 rfl rfl ?_
      obtain ⟨g5, hF⟩ := gd_of hF
      refine iaX40 (pc := 28) C (rfl : kdX 28 = 60) g5 dX3_newRow_28 ?_
      refine z_iload_n 2 (pc := 29) C dX3_newRow_29 rfl rfl ?_
      refine z_isub (pc := 30) C dX3_newRow_30 ?_
      obtain ⟨g6, hF⟩ := gd_of hF
      refine saX40 (pc := 31) C (rfl : kdX 28 = 60) g6 dX3_newRow_31 ?_
      obtain ⟨S7, e8, hF⟩ := bv_of hF
      rw [← e8]
      refine z_aload_n 1 (pc := 32) C dX3_newRow_32 rfl rfl ?_
      refine gfX3_21 (pc := 33) C (rfl : kdX 20 = 3) dX3_newRow_33 ?_
      refine z_aload_n 1 (pc := 36) C dX3_newRow_36 rfl rfl ?_
      refine gfX3_46 (pc := 37) C (rfl : kdX 20 = 3) dX3_newRow_37 ?_
      refine z_iload_n 0 (pc := 40) C dX3_newRow_40 rfl rfl ?_
      obtain ⟨g9, hF⟩ := gd_of hF
      refine saX40 (pc := 41) C (rfl : kdX 24 = 60) g9 dX3_newRow_41 ?_
      obtain ⟨S10, e11, hF⟩ := bv_of hF
      rw [← e11]
      refine z_aload_n 1 (pc := 42) C dX3_newRow_42 rfl rfl ?_
      refine gfX3_24 (pc := 43) C (rfl : kdX 20 = 3) dX3_newRow_43 ?_
      refine z_aload_n 1 (pc := 46) C dX3_newRow_46 rfl rfl ?_
      refine gfX3_46 (pc := 47) C (rfl : kdX 20 = 3) dX3_newRow_47 ?_
      refine z_iload_n 2 (pc := 50) C dX3_newRow_50 rfl rfl ?_
      obtain ⟨g12, hF⟩ := gd_of hF
      refine saX40 (pc := 51) C (rfl : kdX 25 = 60) g12 dX3_newRow_51 ?_
      obtain ⟨S13, e14, hF⟩ := bv_of hF
      rw [← e14]
      refine z_aload_n 1 (pc := 52) C dX3_newRow_52 rfl rfl ?_
      refine gfX3_27 (pc := 53) C (rfl : kdX 20 = 3) dX3_newRow_53 ?_
      refine z_aload_n 1 (pc := 56) C dX3_newRow_56 rfl rfl ?_
      refine gfX3_46 (pc := 57) C (rfl : kdX 20 = 3) dX3_newRow_57 ?_
      refine z_aload_n 1 (pc := 60) C dX3_newRow_60 rfl rfl ?_
      refine gfX3_36 (pc := 61) C (rfl : kdX 20 = 3) dX3_newRow_61 ?_
      obtain ⟨g15, hF⟩ := gd_of hF
      refine saX40 (pc := 64) C (rfl : kdX 26 = 60) g15 dX3_newRow_64 ?_
      obtain ⟨S16, e17, hF⟩ := bv_of hF
      rw [← e17]
      refine z_aload_n 1 (pc := 65) C dX3_newRow_65 rfl rfl ?_
      refine gfX3_30 (pc := 66) C (rfl : kdX 20 = 3) dX3_newRow_66 ?_
      refine z_aload_n 1 (pc := 69) C dX3_newRow_69 rfl rfl ?_
      refine gfX3_46 (pc := 70) C (rfl : kdX 20 = 3) dX3_newRow_70 ?_
      refine z_iconst (pc := 73) (v := (0 : Int32)) C dX3_newRow_73 (by decide) ?_
      obtain ⟨g18, hF⟩ := gd_of hF
      refine saX40 (pc := 74) C (rfl : kdX 27 = 60) g18 dX3_newRow_74 ?_
      obtain ⟨S19, e20, hF⟩ := bv_of hF
      rw [← e20]
      refine z_aload_n 1 (pc := 75) C dX3_newRow_75 rfl rfl ?_
      refine z_dup (pc := 76) C dX3_newRow_76 rfl ?_
      refine gfX3_46 (pc := 77) C (rfl : kdX 20 = 3) dX3_newRow_77 ?_
      refine z_iconst (pc := 80) (v := (1 : Int32)) C dX3_newRow_80 (by decide) ?_
      refine z_iadd (pc := 81) C dX3_newRow_81 ?_
      refine pfX3_46 (pc := 82) C (rfl : kdX 20 = 3) dX3_newRow_82 ?_
      obtain ⟨S21, e22, hF⟩ := bv_of hF
      rw [← e22]
      refine z_aload_n 1 (pc := 85) C dX3_newRow_85 rfl rfl ?_
      refine gfX3_46 (pc := 86) C (rfl : kdX 20 = 3) dX3_newRow_86 ?_
      refine z_iconst (pc := 89) (v := (1 : Int32)) C dX3_newRow_89 (by decide) ?_
      refine z_isub (pc := 90) C dX3_newRow_90 ?_
      exact z_iret (pc := 91) C hQ hr rfl dX3_newRow_91 (by cases hF; rfl) (by cases hF; rfl) (Nat.le_of_ble_eq_true rfl) (Nat.le_of_ble_eq_true rfl)
    · have hF := if_f hF c4
      refine z_iconst (pc := 20) (v := (-1 : Int32)) C dX3_newRow_20 (by decide) ?_
      exact z_iret (pc := 21) C hQ hr rfl dX3_newRow_21 (by cases hF; rfl) (by cases hF; rfl) (Nat.le_of_ble_eq_true rfl) (Nat.le_of_ble_eq_true rfl)
