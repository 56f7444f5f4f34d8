def fX4_blankBy (S : St) (k0 : Nat) (k1 : Nat) : Option (Int32) :=
  bn1 (fX2_flatLength S (k0 + 1)) (fun (v1 : Int32) =>
  bn1 (fX2_bends S (k0 + 1)) (fun (v2 : Int32) =>
  gd (inb (gi S k0 2) 5) (
  some ((v1 - (v2 * (gi S (k1 + 1) (gi S k0 2).toNatClampNeg)))))))
abbrev rmX4_blankBy : Room := { frames := 7, cells := 0, slots := 0, locals := 130 }
set_option maxRecDepth 100000 in
set_option maxHeartbeats 4000000 in
theorem mX4_blankBy {l : Launch} {D : va_G} {cs : Nat → ClassId} {a : Nat → Nat} (hT : l.stackTraces = false) {S : St} {k0 : Nat} {k1 : Nat} {r : Int32} (hk0 : kdX k0 = 4) (hk1 : kdX k1 = 6) (hF : fX4_blankBy S k0 k1 = some r) : MX l 113 GX D cs a yX4_blankBy cX4_blankBy 2 (some .int) rmX4_blankBy [.ref (a k0), .ref (a k1)] S (.inr (some (.int r))) S := by
  refine zm_entry [(0, .ref (a k0)), (1, .ref (a k1))] hT (by decide +kernel) (Nat.le_of_ble_eq_true rfl) rfl (fun E hEl hED hEk C hQ hr => ?_)
  subst hEl
  subst hED
  subst hEk
  unfold fX4_blankBy at hF
  refine z_aload_n 0 (pc := 0) C dX4_blankBy_0 rfl rfl ?_
  refine gfX4_12 (pc := 1) C hk0 dX4_blankBy_1 ?_
  obtain ⟨v1, hG, hF⟩ := bn1_of hF
  refine z_callV [] (pc := 4) (st1 := [.int v1]) (c1 := 0) (s1 := 0) C (mX2_flatLength C.hT (kX_4_0 hk0) hG) kX4_42 (kdX_lt (kX_4_0 hk0) (by decide)) (gX_2 (kX_4_0 hk0)) rfl rfl rfl rfl (Nat.le_of_ble_eq_true rfl) ⟨(Nat.le_of_ble_eq_true rfl), (Nat.le_of_ble_eq_true rfl)⟩ ⟨(Nat.le_of_ble_eq_true rfl), (Nat.le_of_ble_eq_true rfl)⟩ dX4_blankBy_4 rfl rfl ?_
  refine z_aload_n 0 (pc := 7) C dX4_blankBy_7 rfl rfl ?_
  refine gfX4_12 (pc := 8) C hk0 dX4_blankBy_8 ?_
  obtain ⟨v2, hG, hF⟩ := bn1_of hF
  refine z_callV [] (pc := 11) (st1 := [.int v2, .int v1]) (c1 := 0) (s1 := 0) C (mX2_bends C.hT (kX_4_0 hk0) hG) kX4_46 (kdX_lt (kX_4_0 hk0) (by decide)) (gX_2 (kX_4_0 hk0)) rfl rfl rfl rfl (Nat.le_of_ble_eq_true rfl) ⟨(Nat.le_of_ble_eq_true rfl), (Nat.le_of_ble_eq_true rfl)⟩ ⟨(Nat.le_of_ble_eq_true rfl), (Nat.le_of_ble_eq_true rfl)⟩ dX4_blankBy_11 rfl rfl ?_
  refine z_aload_n 1 (pc := 14) C dX4_blankBy_14 rfl rfl ?_
  refine gfX4_49 (pc := 15) C hk1 dX4_blankBy_15 ?_
  refine z_aload_n 0 (pc := 18) C dX4_blankBy_18 rfl rfl ?_
  refine gfX4_36 (pc := 19) C hk0 dX4_blankBy_19 ?_
  obtain ⟨g3, hF⟩ := gd_of hF
  refine iaX5 (pc := 22) C (kX_6_5 hk1) g3 dX4_blankBy_22 ?_
  refine z_imul (pc := 23) C dX4_blankBy_23 ?_
  refine z_isub (pc := 24) C dX4_blankBy_24 ?_
  exact z_iret (pc := 25) C hQ hr rfl dX4_blankBy_25 (by cases hF; rfl) (by cases hF; rfl) (Nat.le_of_ble_eq_true rfl) (Nat.le_of_ble_eq_true rfl)
def fX4_draw (S : St) (k0 : Nat) (k1 : Nat) (p2 : Int32) (p3 : Int32) : Option (St) :=
  bn1 (fX2_copy S (k0 + 1) k1) (fun (S1 : St) =>
  bv (si S1 k0 1 p2) (fun (S2 : St) =>
  bv (si S2 k0 2 p3) (fun (S4 : St) =>
  bv (si S4 k0 7 (0 : Int32)) (fun (S6 : St) =>
  some S6))))
abbrev rmX4_draw : Room := { frames := 7, cells := 0, slots := 0, locals := 130 }
set_option maxRecDepth 100000 in
set_option maxHeartbeats 4000000 in
theorem mX4_draw {l : Launch} {D : va_G} {cs : Nat → ClassId} {a : Nat → Nat} (hT : l.stackTraces = false) {S : St} {k0 : Nat} {k1 : Nat} {p2 : Int32} {p3 : Int32} {S' : St} (hk0 : kdX k0 = 4) (hk1 : kdX k1 = 2) (hF : fX4_draw S k0 k1 p2 p3 = some S') : MX l 113 GX D cs a yX4_draw cX4_draw 4 none rmX4_draw [.ref (a k0), .ref (a k1), .int p2, .int p3] S (.inr none) S' := by
  refine zm_entry [(0, .ref (a k0)), (1, .ref (a k1)), (2, .int p2), (3, .int p3)] hT (by decide +kernel) (Nat.le_of_ble_eq_true rfl) rfl (fun E hEl hED hEk C hQ hr => ?_)
  subst hEl
  subst hED
  subst hEk
  unfold fX4_draw at hF
  refine z_aload_n 0 (pc := 0) C dX4_draw_0 rfl rfl ?_
  refine gfX4_12 (pc := 1) C hk0 dX4_draw_1 ?_
  refine z_aload_n 1 (pc := 4) C dX4_draw_4 rfl rfl ?_
  obtain ⟨S1, hG, hF⟩ := bn1_of hF
  refine z_callV [.ref (a k1)] (pc := 5) (st1 := []) (c1 := 0) (s1 := 0) C (mX2_copy C.hT (kX_4_0 hk0) hk1 hG) kX4_28 (kdX_lt (kX_4_0 hk0) (by decide)) (gX_2 (kX_4_0 hk0)) rfl rfl rfl rfl (Nat.le_of_ble_eq_true rfl) ⟨(Nat.le_of_ble_eq_true rfl), (Nat.le_of_ble_eq_true rfl)⟩ ⟨(Nat.le_of_ble_eq_true rfl), (Nat.le_of_ble_eq_true rfl)⟩ dX4_draw_5 rfl rfl ?_
  refine z_aload_n 0 (pc := 8) C dX4_draw_8 rfl rfl ?_
  refine z_iload_n 2 (pc := 9) C dX4_draw_9 rfl rfl ?_
  refine pfX4_32 (pc := 10) C hk0 dX4_draw_10 ?_
  obtain ⟨S2, e3, hF⟩ := bv_of hF
  rw [← e3]
  refine z_aload_n 0 (pc := 13) C dX4_draw_13 rfl rfl ?_
  refine z_iload_n 3 (pc := 14) C dX4_draw_14 rfl rfl ?_
  refine pfX4_36 (pc := 15) C hk0 dX4_draw_15 ?_
  obtain ⟨S4, e5, hF⟩ := bv_of hF
  rw [← e5]
  refine z_aload_n 0 (pc := 18) C dX4_draw_18 rfl rfl ?_
  refine z_iconst (pc := 19) (v := (0 : Int32)) C dX4_draw_19 (by decide) ?_
  refine pfX4_39 (pc := 20) C hk0 dX4_draw_20 ?_
  obtain ⟨S6, e7, hF⟩ := bv_of hF
  rw [← e7]
  exact z_vret (pc := 23) C hQ hr dX4_draw_23 (by cases hF; rfl) (by cases hF; rfl) (Nat.le_of_ble_eq_true rfl) (Nat.le_of_ble_eq_true rfl)
def fX4_nearHoles_L4 (S : St) (k0 : Nat) (next3 : Int32 → Int32 → Option (Int32)) (v1 : Int32) (v2 : Int32) : Option (Int32) :=
  if (gi S k0 7) ≤ v2 then (
    some v1)
  else (
    bn1 (fX4_isHoleNear S k0 v2) (fun (v7 : Int32) =>
    bn1 (if v7 = 0 then (
      some (0 : Int32))
    else (
      some (1 : Int32))) (fun (v8 : Int32) =>
      bv ((v1 + v8)) (fun (v9 : Int32) =>
      bv (v2 + 1) (fun (v11 : Int32) =>
      next3 v9 v11)))))
def fX4_nearHoles (S : St) (k0 : Nat) : Option (Int32) :=
  bn1 (lq2 (fX4_nearHoles_L4 S k0) 200 (0 : Int32) (0 : Int32)) (fun (v4 : Int32) =>
    some (v4))
abbrev rmX4_nearHoles : Room := { frames := 7, cells := 0, slots := 0, locals := 130 }
set_option maxRecDepth 100000 in
set_option maxHeartbeats 4000000 in
theorem mX4_nearHoles {l : Launch} {D : va_G} {cs : Nat → ClassId} {a : Nat → Nat} (hT : l.stackTraces = false) {S : St} {k0 : Nat} {r : Int32} (hk0 : kdX k0 = 4) (hF : fX4_nearHoles S k0 = some r) : MX l 113 GX D cs a yX4_nearHoles cX4_nearHoles 3 (some .int) rmX4_nearHoles [.ref (a k0)] S (.inr (some (.int r))) S := by
  refine zm_entry [(0, .ref (a k0))] hT (by decide +kernel) (Nat.le_of_ble_eq_true rfl) rfl (fun E hEl hED hEk C hQ hr => ?_)
  subst hEl
  subst hED
  subst hEk
  unfold fX4_nearHoles at hF
  refine z_iconst (pc := 0) (v := (0 : Int32)) C dX4_nearHoles_0 (by decide) ?_
  refine z_istore_n (pc := 1) (loc' := [(1, .int (0 : Int32)), (0, .ref (a k0))]) C dX4_nearHoles_1 rfl (by decide) rfl ?_
  refine z_iconst (pc := 2) (v := (0 : Int32)) C dX4_nearHoles_2 (by decide) ?_
  refine z_istore_n (pc := 3) (loc' := [(2, .int (0 : Int32)), (1, .int (0 : Int32)), (0, .ref (a k0))]) C dX4_nearHoles_3 rfl (by decide) rfl ?_
  refine z_sub [2, 1, 0] rfl ?_
  obtain ⟨v4', hR, hF⟩ := bn1_of hF
  have hJ5 : ∀ (v4 : Int32), (some v4 : Option (Int32)) = some v4' → Zz E (WX E a S) 0 0 34 [(1, .int v4)] [] := by
    intro v4 hE
    have hE0 := Option.some.inj hE
    subst hE0
    refine z_iload_n 0 (pc := 34) C dX4_nearHoles_34 rfl rfl ?_
    exact z_iret (pc := 35) C hQ hr rfl dX4_nearHoles_35 (by cases hF; rfl) (by cases hF; rfl) (Nat.le_of_ble_eq_true rfl) (Nat.le_of_ble_eq_true rfl)
  have hF := hR
  clear hR
  refine lq2_W (P := fun (v1 : Int32) (v2 : Int32) => Zz E (WX E a S) 0 0 4 [(0, .ref (a k0)), (1, .int v1), (2, .int v2)] []) (fun next3 hN3 v1 v2 hF => ?_) _ _ _ hF
  unfold fX4_nearHoles_L4 at hF
  refine z_iload_n 2 (pc := 4) C dX4_nearHoles_4 rfl rfl ?_
  refine z_aload_n 0 (pc := 5) C dX4_nearHoles_5 rfl rfl ?_
  refine gfX4_39 (pc := 6) C hk0 dX4_nearHoles_6 ?_
  refine z_icmp_ge 34 (pc := 9) C dX4_nearHoles_9 (by decide) (fun c6 => ?_) (fun c6 => ?_)
  · have hF := if_t hF c6
    refine z_sub [1] rfl ?_
    exact hJ5 _ hF
  · have hF := if_f hF c6
    refine z_iload_n 1 (pc := 12) C dX4_nearHoles_12 rfl rfl ?_
    refine z_aload_n 0 (pc := 13) C dX4_nearHoles_13 rfl rfl ?_
    refine z_iload_n 2 (pc := 14) C dX4_nearHoles_14 rfl rfl ?_
    obtain ⟨v7, hG, hF⟩ := bn1_of hF
    refine z_callV [.int v2] (pc := 15) (st1 := [.int v7, .int v1]) (c1 := 0) (s1 := 0) C (mX4_isHoleNear C.hT hk0 hG) kX4_60 (kdX_lt hk0 (by decide)) (gX_4 hk0) rfl rfl rfl rfl (Nat.le_of_ble_eq_true rfl) ⟨(Nat.le_of_ble_eq_true rfl), (Nat.le_of_ble_eq_true rfl)⟩ ⟨(Nat.le_of_ble_eq_true rfl), (Nat.le_of_ble_eq_true rfl)⟩ dX4_nearHoles_15 rfl rfl ?_
    obtain ⟨v8', hR, hF⟩ := bn1_of hF
    have hJ13 : ∀ (v8 : Int32), (some v8 : Option (Int32)) = some v8' → Zz E (WX E a S) 0 0 26 [(0, .ref (a k0)), (2, .int v2)] [.int v8, .int v1] := by
      intro v8 hE
      have hE0 := Option.some.inj hE
      subst hE0
      refine z_iadd (pc := 26) C dX4_nearHoles_26 ?_
      obtain ⟨v9, e10, hF⟩ := bv_of hF
      refine z_topi e10 ?_
      refine z_istore_n (pc := 27) (loc' := [(1, .int v9), (0, .ref (a k0)), (2, .int v2)]) C dX4_nearHoles_27 rfl (by decide) rfl ?_
      obtain ⟨v11, e12, hF⟩ := bv_of hF
      refine z_iinc 2 (pc := 28) (v := v11) (loc' := [(2, .int v11), (1, .int v9), (0, .ref (a k0))]) C dX4_nearHoles_28 rfl (by rw [e12]; rfl) (by decide) rfl ?_
      refine z_goto 4 (pc := 31) C dX4_nearHoles_31 (by decide) ?_
      refine z_sub [2, 1, 0] rfl ?_
      exact hN3 _ _ hF
    have hF := hR
    clear hR
    refine z_if_eq 25 (pc := 18) C dX4_nearHoles_18 (by decide) (fun c14 => ?_) (fun c14 => ?_)
    · have hF := if_t hF c14
      refine z_iconst (pc := 25) (v := (0 : Int32)) C dX4_nearHoles_25 (by decide) ?_
      refine z_sub [0, 2] rfl ?_
      exact hJ13 _ hF
    · have hF := if_f hF c14
      refine z_iconst (pc := 21) (v := (1 : Int32)) C dX4_nearHoles_21 (by decide) ?_
      refine z_goto 26 (pc := 22) C dX4_nearHoles_22 (by decide) ?_
      refine z_sub [0, 2] rfl ?_
      exact hJ13 _ hF
def fX5_fewestBeyond_L16 (S : St) (p2 : Int32) (self : St → Int32 → Int32 → Int32 → Option (Int32)) (p4 : Int32) (p3 : Int32) (next4 : Int32 → Int32 → Option (Int32)) (v2 : Int32) (v3 : Int32) : Option (Int32) :=
  if (gi S 15 3) ≤ v3 then (
    some v2)
  else (
    gd (inb p2 32) (
    bn1 (fX8_hasBit (gi S 16 p2.toNatClampNeg) v3) (fun (v9 : Int32) =>
    bn1 (if v9 = 0 then (
      some v2)
    else (
      gd (inb v3 5) (
      bn1 (self S (p2 ||| ((1 : Int32) <<< (v3 &&& 31))) (gi S 18 v3.toNatClampNeg) (p4 + (1 : Int32))) (fun (v16 : Int32) =>
      if v16 = (-1 : Int32) then (
        some v2)
      else (
        jn0 (
          bn1 (fX5_turn S p3 v3) (fun (v18 : Int32) =>
          bv ((v16 + v18)) (fun (v19 : Int32) =>
          some v19))) (fun J21 =>
          if v2 = (-1 : Int32) then (
            J21)
          else (
            bn1 (fX5_turn S p3 v3) (fun (v23 : Int32) =>
            if v2 ≤ (v16 + v23) then (
              some v2)
            else (
              J21))))))))) (fun (v10 : Int32) =>
      bv (v3 + 1) (fun (v11 : Int32) =>
      next4 v10 v11)))))
def fX5_fewestBeyond_b (self : St → Int32 → Int32 → Int32 → Option (Int32)) (S : St) (p2 : Int32) (p3 : Int32) (p4 : Int32) : Option (Int32) :=
  if p4 < (gi S 15 3) then (
    bn1 (lq2 (fX5_fewestBeyond_L16 S p2 self p4 p3) 200 (-1 : Int32) (0 : Int32)) (fun (v5 : Int32) =>
      some (v5)))
  else (
    some ((0 : Int32)))
def fX5_fewestBeyond : Nat → St → Int32 → Int32 → Int32 → Option (Int32)
  | 0 => fun _ _ _ _ => none
  | n + 1 => fun S p2 p3 p4 => fX5_fewestBeyond_b (fX5_fewestBeyond n) S p2 p3 p4
abbrev rmX5_fewestBeyond (n : Nat) : Room := { frames := 7 + n, cells := 0, slots := 0, locals := 130 + 40 * n }
set_option maxRecDepth 100000 in
set_option maxHeartbeats 4000000 in
theorem mX5_fewestBeyond {l : Launch} {D : va_G} {cs : Nat → ClassId} {a : Nat → Nat} (hT : l.stackTraces = false) : ∀ (n : Nat) (S : St) (p2 : Int32) (p3 : Int32) (p4 : Int32) (r : Int32) (hF : fX5_fewestBeyond n S p2 p3 p4 = some r), MX l 113 GX D cs a yX5_fewestBeyond cX5_fewestBeyond 7 (some .int) (rmX5_fewestBeyond n) [.ref (a 15), .int p2, .int p3, .int p4] S (.inr (some (.int r))) S := by
  intro n
  induction n with
  | zero =>
    intro S p2 p3 p4 r hF
    cases hF
  | succ n ih =>
    intro S p2 p3 p4 r hF
    refine zm_entry [(0, .ref (a 15)), (1, .int p2), (2, .int p3), (3, .int p4)] hT (by decide +kernel) (Nat.le_of_ble_eq_true rfl) rfl (fun E hEl hED hEk C hQ hr => ?_)
    subst hEl
    subst hED
    subst hEk
    have hF : fX5_fewestBeyond_b (fX5_fewestBeyond n) S p2 p3 p4 = some r := hF
    unfold fX5_fewestBeyond_b at hF
    refine z_iload_n 3 (pc := 0) C dX5_fewestBeyond_0 rfl rfl ?_
    refine z_aload_n 0 (pc := 1) C dX5_fewestBeyond_1 rfl rfl ?_
    refine gfX5_28 (pc := 2) C (rfl : kdX 15 = 5) dX5_fewestBeyond_2 ?_
    refine z_icmp_lt 10 (pc := 5) C dX5_fewestBeyond_5 (by decide) (fun c1 => ?_) (fun c1 => ?_)
    · have hF := if_t hF c1
      refine z_iconst (pc := 10) (v := (-1 : Int32)) C dX5_fewestBeyond_10 (by decide) ?_
      refine z_istore (pc := 11) (loc' := [(4, .int (-1 : Int32)), (0, .ref (a 15)), (1, .int p2), (2, .int p3), (3, .int p4)]) C dX5_fewestBeyond_11 (by decide) rfl ?_
      refine z_iconst (pc := 13) (v := (0 : Int32)) C dX5_fewestBeyond_13 (by decide) ?_
      refine z_istore (pc := 14) (loc' := [(5, .int (0 : Int32)), (4, .int (-1 : Int32)), (0, .ref (a 15)), (1, .int p2), (2, .int p3), (3, .int p4)]) C dX5_fewestBeyond_14 (by decide) rfl ?_
      refine z_sub [2, 3, 4, 5, 1, 0] rfl ?_
      obtain ⟨v5', hR, hF⟩ := bn1_of hF
      have hJ6 : ∀ (v5 : Int32), (some v5 : Option (Int32)) = some v5' → Zz E (WX E a S) 0 0 109 [(4, .int v5)] [] := by
        intro v5 hE
        have hE0 := Option.some.inj hE
        subst hE0
        refine z_iload 0 (pc := 109) C dX5_fewestBeyond_109 rfl ?_
        exact z_iret (pc := 111) C hQ hr rfl dX5_fewestBeyond_111 (by cases hF; rfl) (by cases hF; rfl) (Nat.le_of_ble_eq_true rfl) (Nat.le_of_ble_eq_true rfl)
      have hF := hR
      clear hR
      refine lq2_W (P := fun (v2 : Int32) (v3 : Int32) => Zz E (WX E a S) 0 0 16 [(0, .ref (a 15)), (1, .int p2), (2, .int p3), (3, .int p4), (4, .int v2), (5, .int v3)] []) (fun next4 hN4 v2 v3 hF => ?_) _ _ _ hF
      unfold fX5_fewestBeyond_L16 at hF
      refine z_iload 5 (pc := 16) C dX5_fewestBeyond_16 rfl ?_
      refine z_aload_n 0 (pc := 18) C dX5_fewestBeyond_18 rfl rfl ?_
      refine gfX5_28 (pc := 19) C (rfl : kdX 15 = 5) dX5_fewestBeyond_19 ?_
      refine z_icmp_ge 109 (pc := 22) C dX5_fewestBeyond_22 (by decide) (fun c7 => ?_) (fun c7 => ?_)
      · have hF := if_t hF c7
        refine z_sub [4] rfl ?_
        exact hJ6 _ hF
      · have hF := if_f hF c7
        refine z_aload_n 0 (pc := 25) C dX5_fewestBeyond_25 rfl rfl ?_
        refine gfX5_9 (pc := 26) C (rfl : kdX 15 = 5) dX5_fewestBeyond_26 ?_
        refine z_iload_n 1 (pc := 29) C dX5_fewestBeyond_29 rfl rfl ?_
        obtain ⟨g8, hF⟩ := gd_of hF
        refine iaX32 (pc := 30) C (rfl : kdX 16 = 52) g8 dX5_fewestBeyond_30 ?_
        refine z_iload 5 (pc := 31) C dX5_fewestBeyond_31 rfl ?_
        obtain ⟨v9, hG, hF⟩ := bn1_of hF
        refine z_callN [.int (gi S 16 p2.toNatClampNeg), .int v3] (pc := 33) (st1 := [.int v9]) (c1 := 0) (s1 := 0) C (mX8_hasBit C.hT hG) kX5_68 rfl rfl rfl (Nat.le_of_ble_eq_true rfl) (by refine ⟨?_, ?_⟩ <;> dsimp only [rmX5_fewestBeyond, rmX8_hasBit] <;> omega) ⟨(Nat.le_of_ble_eq_true rfl), (Nat.le_of_ble_eq_true rfl)⟩ dX5_fewestBeyond_33 rfl rfl ?_
        obtain ⟨v10', hR, hF⟩ := bn1_of hF
        have hJ13 : ∀ (v10 : Int32), (some v10 : Option (Int32)) = some v10' → Zz E (WX E a S) 0 0 103 [(0, .ref (a 15)), (1, .int p2), (2, .int p3), (3, .int p4), (4, .int v10), (5, .int v3)] [] := by
          intro v10 hE
          have hE0 := Option.some.inj hE
          subst hE0
          obtain ⟨v11, e12, hF⟩ := bv_of hF
          refine z_iinc 5 (pc := 103) (v := v11) (loc' := [(5, .int v11), (0, .ref (a 15)), (1, .int p2), (2, .int p3), (3, .int p4), (4, .int v10)]) C dX5_fewestBeyond_103 rfl (by rw [e12]; rfl) (by decide) rfl ?_
          refine z_goto 16 (pc := 106) C dX5_fewestBeyond_106 (by decide) ?_
          refine z_sub [1, 2, 3, 4, 5, 0] rfl ?_
          exact hN4 _ _ hF
        have hF := hR
        clear hR
        refine z_if_ne 42 (pc := 36) C dX5_fewestBeyond_36 (by decide) (fun c14 => ?_) (fun c14 => ?_)
        · have hF := if_f hF c14
          refine z_aload_n 0 (pc := 42) C dX5_fewestBeyond_42 rfl rfl ?_
          refine z_iload_n 1 (pc := 43) C dX5_fewestBeyond_43 rfl rfl ?_
          refine z_iconst (pc := 44) (v := (1 : Int32)) C dX5_fewestBeyond_44 (by decide) ?_
          refine z_iload 5 (pc := 45) C dX5_fewestBeyond_45 rfl ?_
          refine z_ishl (pc := 47) C dX5_fewestBeyond_47 ?_
          refine z_ior (pc := 48) C dX5_fewestBeyond_48 ?_
          refine z_aload_n 0 (pc := 49) C dX5_fewestBeyond_49 rfl rfl ?_
          refine gfX5_18 (pc := 50) C (rfl : kdX 15 = 5) dX5_fewestBeyond_50 ?_
          refine z_iload 5 (pc := 53) C dX5_fewestBeyond_53 rfl ?_
          obtain ⟨g15, hF⟩ := gd_of hF
          refine iaX5 (pc := 55) C (rfl : kdX 18 = 25) g15 dX5_fewestBeyond_55 ?_
          refine z_iload_n 3 (pc := 56) C dX5_fewestBeyond_56 rfl rfl ?_
          refine z_iconst (pc := 57) (v := (1 : Int32)) C dX5_fewestBeyond_57 (by decide) ?_
          refine z_iadd (pc := 58) C dX5_fewestBeyond_58 ?_
          obtain ⟨v16, hG, hF⟩ := bn1_of hF
          refine z_callS [.ref (a 15), .int (p2 ||| ((1 : Int32) <<< (v3 &&& 31))), .int (gi S 18 v3.toNatClampNeg), .int (p4 + (1 : Int32))] (pc := 59) (st1 := [.int v16]) (c1 := 0) (s1 := 0) C (ih _ _ _ _ _ hG) kX5_50 rfl rfl rfl rfl (Nat.le_of_ble_eq_true rfl) (by refine ⟨?_, ?_⟩ <;> dsimp only [rmX5_fewestBeyond, rmX5_fewestBeyond] <;> omega) ⟨(Nat.le_of_ble_eq_true rfl), (Nat.le_of_ble_eq_true rfl)⟩ dX5_fewestBeyond_59 rfl rfl ?_
          refine z_istore (pc := 62) (loc' := [(6, .int v16), (0, .ref (a 15)), (1, .int p2), (2, .int p3), (3, .int p4), (4, .int v2), (5, .int v3)]) C dX5_fewestBeyond_62 (by decide) rfl ?_
          refine z_iload 0 (pc := 64) C dX5_fewestBeyond_64 rfl ?_
          refine z_iconst (pc := 66) (v := (-1 : Int32)) C dX5_fewestBeyond_66 (by decide) ?_
          refine z_icmp_eq 103 (pc := 67) C dX5_fewestBeyond_67 (by decide) (fun c17 => ?_) (fun c17 => ?_)
          · have hF := if_t hF c17
            refine z_sub [1, 2, 3, 4, 5, 6] rfl ?_
            exact hJ13 _ hF
          · have hF := if_f hF c17
            refine z_iload 5 (pc := 70) C dX5_fewestBeyond_70 rfl ?_
            refine z_iconst (pc := 72) (v := (-1 : Int32)) C dX5_fewestBeyond_72 (by decide) ?_
            obtain ⟨J21, hdJ21, hF⟩ := jn0_of hF
            have hJ21 : J21 = some v10' → Zz E (WX E a S) 0 0 91 [(0, .ref (a 15)), (1, .int p2), (2, .int p3), (3, .int p4), (5, .int v3), (6, .int v16)] [] := by
              intro hF
              have hF := hdJ21.symm.trans hF
              refine z_iload 5 (pc := 91) C dX5_fewestBeyond_91 rfl ?_
              refine z_aload_n 0 (pc := 93) C dX5_fewestBeyond_93 rfl rfl ?_
              refine z_iload_n 2 (pc := 94) C dX5_fewestBeyond_94 rfl rfl ?_
              refine z_iload 4 (pc := 95) C dX5_fewestBeyond_95 rfl ?_
              obtain ⟨v18, hG, hF⟩ := bn1_of hF
              refine z_callV [.int p3, .int v3] (pc := 97) (st1 := [.int v18, .int v16]) (c1 := 0) (s1 := 0) C (mX5_turn C.hT hG) kX5_78 (kdX_lt (rfl : kdX 15 = 5) (by decide)) (gX_5 (rfl : kdX 15 = 5)) rfl rfl rfl rfl (Nat.le_of_ble_eq_true rfl) (by refine ⟨?_, ?_⟩ <;> dsimp only [rmX5_fewestBeyond, rmX5_turn] <;> omega) ⟨(Nat.le_of_ble_eq_true rfl), (Nat.le_of_ble_eq_true rfl)⟩ dX5_fewestBeyond_97 rfl rfl ?_
              refine z_iadd (pc := 100) C dX5_fewestBeyond_100 ?_
              obtain ⟨v19, e20, hF⟩ := bv_of hF
              refine z_topi e20 ?_
              refine z_istore (pc := 101) (loc' := [(4, .int v19), (0, .ref (a 15)), (1, .int p2), (2, .int p3), (3, .int p4), (5, .int v3), (6, .int v16)]) C dX5_fewestBeyond_101 (by decide) rfl ?_
              refine z_sub [1, 2, 3, 4, 0, 5] rfl ?_
              exact hJ13 _ hF
            refine z_icmp_eq 91 (pc := 73) C dX5_fewestBeyond_73 (by decide) (fun c22 => ?_) (fun c22 => ?_)
            · have hF := if_t hF c22
              refine z_sub [1, 2, 3, 4, 6, 0] rfl ?_
              exact hJ21 hF
            · have hF := if_f hF c22
              refine z_iload 0 (pc := 76) C dX5_fewestBeyond_76 rfl ?_
              refine z_aload_n 1 (pc := 78) C dX5_fewestBeyond_78 rfl rfl ?_
              refine z_iload_n 3 (pc := 79) C dX5_fewestBeyond_79 rfl rfl ?_
              refine z_iload 6 (pc := 80) C dX5_fewestBeyond_80 rfl ?_
              obtain ⟨v23, hG, hF⟩ := bn1_of hF
              refine z_callV [.int p3, .int v3] (pc := 82) (st1 := [.int v23, .int v16]) (c1 := 0) (s1 := 0) C (mX5_turn C.hT hG) kX5_78 (kdX_lt (rfl : kdX 15 = 5) (by decide)) (gX_5 (rfl : kdX 15 = 5)) rfl rfl rfl rfl (Nat.le_of_ble_eq_true rfl) (by refine ⟨?_, ?_⟩ <;> dsimp only [rmX5_fewestBeyond, rmX5_turn] <;> omega) ⟨(Nat.le_of_ble_eq_true rfl), (Nat.le_of_ble_eq_true rfl)⟩ dX5_fewestBeyond_82 rfl rfl ?_
              refine z_iadd (pc := 85) C dX5_fewestBeyond_85 ?_
              refine z_iload 5 (pc := 86) C dX5_fewestBeyond_86 rfl ?_
              refine z_icmp_ge 103 (pc := 88) C dX5_fewestBeyond_88 (by decide) (fun c24 => ?_) (fun c24 => ?_)
              · have hF := if_t hF c24
                refine z_sub [1, 2, 3, 4, 5, 6] rfl ?_
                exact hJ13 _ hF
              · have hF := if_f hF c24
                refine z_sub [1, 2, 3, 4, 6, 0] rfl ?_
                exact hJ21 hF
        · have hF := if_t hF c14
          refine z_goto 103 (pc := 39) C dX5_fewestBeyond_39 (by decide) ?_
          exact hJ13 _ hF
    · have hF := if_f hF c1
      refine z_iconst (pc := 8) (v := (0 : Int32)) C dX5_fewestBeyond_8 (by decide) ?_
      exact z_iret (pc := 9) C hQ hr rfl dX5_fewestBeyond_9 (by cases hF; rfl) (by cases hF; rfl) (Nat.le_of_ble_eq_true rfl) (Nat.le_of_ble_eq_true rfl)
def fX5_turnsBy (S : St) (p1 : Int32) (p2 : Int32) (p3 : Int32) : Option (Int32) :=
  gd (inb p3 5) (
  gd (inb (((p1 ||| ((1 : Int32) <<< (p3 &&& 31))) * (3 : Int32)) + (gi S 18 p3.toNatClampNeg)) 96) (
  bv ((gi S 17 (((p1 ||| ((1 : Int32) <<< (p3 &&& 31))) * (3 : Int32)) + (gi S 18 p3.toNatClampNeg)).toNatClampNeg)) (fun (v3 : Int32) =>
  if v3 = (-1 : Int32) then (
    some ((-1 : Int32)))
  else (
    bn1 (fX5_turn S p2 p3) (fun (v6 : Int32) =>
    some ((v3 + v6)))))))
abbrev rmX5_turnsBy : Room := { frames := 7, cells := 0, slots := 0, locals := 130 }
set_option maxRecDepth 100000 in
set_option maxHeartbeats 4000000 in
theorem mX5_turnsBy {l : Launch} {D : va_G} {cs : Nat → ClassId} {a : Nat → Nat} (hT : l.stackTraces = false) {S : St} {p1 : Int32} {p2 : Int32} {p3 : Int32} {r : Int32} (hF : fX5_turnsBy S p1 p2 p3 = some r) : MX l 113 GX D cs a yX5_turnsBy cX5_turnsBy 5 (some .int) rmX5_turnsBy [.ref (a 15), .int p1, .int p2, .int p3] S (.inr (some (.int r))) S := by
  refine zm_entry [(0, .ref (a 15)), (1, .int p1), (2, .int p2), (3, .int p3)] hT (by decide +kernel) (Nat.le_of_ble_eq_true rfl) rfl (fun E hEl hED hEk C hQ hr => ?_)
  subst hEl
  subst hED
  subst hEk
  unfold fX5_turnsBy at hF
  refine z_aload_n 0 (pc := 0) C dX5_turnsBy_0 rfl rfl ?_
  refine gfX5_15 (pc := 1) C (rfl : kdX 15 = 5) dX5_turnsBy_1 ?_
  refine z_iload_n 1 (pc := 4) C dX5_turnsBy_4 rfl rfl ?_
  refine z_iconst (pc := 5) (v := (1 : Int32)) C dX5_turnsBy_5 (by decide) ?_
  refine z_iload_n 3 (pc := 6) C dX5_turnsBy_6 rfl rfl ?_
  refine z_ishl (pc := 7) C dX5_turnsBy_7 ?_
  refine z_ior (pc := 8) C dX5_turnsBy_8 ?_
  refine z_iconst (pc := 9) (v := (3 : Int32)) C dX5_turnsBy_9 (by decide) ?_
  refine z_imul (pc := 10) C dX5_turnsBy_10 ?_
  refine z_aload_n 0 (pc := 11) C dX5_turnsBy_11 rfl rfl ?_
  refine gfX5_18 (pc := 12) C (rfl : kdX 15 = 5) dX5_turnsBy_12 ?_
  refine z_iload_n 3 (pc := 15) C dX5_turnsBy_15 rfl rfl ?_
  obtain ⟨g1, hF⟩ := gd_of hF
  refine iaX5 (pc := 16) C (rfl : kdX 18 = 25) g1 dX5_turnsBy_16 ?_
  refine z_iadd (pc := 17) C dX5_turnsBy_17 ?_
  obtain ⟨g2, hF⟩ := gd_of hF
  refine iaX96 (pc := 18) C (rfl : kdX 17 = 116) g2 dX5_turnsBy_18 ?_
  obtain ⟨v3, e4, hF⟩ := bv_of hF
  refine z_topi e4 ?_
  refine z_istore (pc := 19) (loc' := [(4, .int v3), (0, .ref (a 15)), (1, .int p1), (2, .int p2), (3, .int p3)]) C dX5_turnsBy_19 (by decide) rfl ?_
  refine z_iload 0 (pc := 21) C dX5_turnsBy_21 rfl ?_
  refine z_iconst (pc := 23) (v := (-1 : Int32)) C dX5_turnsBy_23 (by decide) ?_
  refine z_icmp_ne 31 (pc := 24) C dX5_turnsBy_24 (by decide) (fun c5 => ?_) (fun c5 => ?_)
  · have hF := if_f hF c5
    refine z_iload 0 (pc := 31) C dX5_turnsBy_31 rfl ?_
    refine z_aload_n 1 (pc := 33) C dX5_turnsBy_33 rfl rfl ?_
    refine z_iload_n 3 (pc := 34) C dX5_turnsBy_34 rfl rfl ?_
    refine z_iload_n 4 (pc := 35) C dX5_turnsBy_35 rfl rfl ?_
    obtain ⟨v6, hG, hF⟩ := bn1_of hF
    refine z_callV [.int p2, .int p3] (pc := 36) (st1 := [.int v6, .int v3]) (c1 := 0) (s1 := 0) C (mX5_turn C.hT hG) kX5_78 (kdX_lt (rfl : kdX 15 = 5) (by decide)) (gX_5 (rfl : kdX 15 = 5)) rfl rfl rfl rfl (Nat.le_of_ble_eq_true rfl) ⟨(Nat.le_of_ble_eq_true rfl), (Nat.le_of_ble_eq_true rfl)⟩ ⟨(Nat.le_of_ble_eq_true rfl), (Nat.le_of_ble_eq_true rfl)⟩ dX5_turnsBy_36 rfl rfl ?_
    refine z_iadd (pc := 39) C dX5_turnsBy_39 ?_
    exact z_iret (pc := 40) C hQ hr rfl dX5_turnsBy_40 (by cases hF; rfl) (by cases hF; rfl) (Nat.le_of_ble_eq_true rfl) (Nat.le_of_ble_eq_true rfl)
  · have hF := if_t hF c5
    refine z_iconst (pc := 27) (v := (-1 : Int32)) C dX5_turnsBy_27 (by decide) ?_
    refine z_goto 40 (pc := 28) C dX5_turnsBy_28 (by decide) ?_
    exact z_iret (pc := 40) C hQ hr rfl dX5_turnsBy_40 (by cases hF; rfl) (by cases hF; rfl) (Nat.le_of_ble_eq_true rfl) (Nat.le_of_ble_eq_true rfl)
def fX7_unroll_L46 (k0 : Nat) (p3 : Int32) (v6 : Int32) (p2 : Int32) (k1 : Nat) (p4 : Int32) (next14 : Int32 → Int32 → Int32 → Int32 → Int32 → Int32 → St → Option (St)) (v7 : Int32) (v8 : Int32) (v9 : Int32) (v10 : Int32) (v11 : Int32) (v12 : Int32) (S13 : St) : Option (St) :=
  if (gi S13 k0 2) ≤ v12 then (
    some S13)
  else (
    bv ((p3 + (v6 * v12))) (fun (v18 : Int32) =>
    bn1 (fX8_hasBit p2 v18) (fun (v20 : Int32) =>
    bn3 (if v20 = 0 then (
      some (v9, v10, v11))
    else (
      bn1 (fX2_directionOf S13 k1 v18) (fun (v49 : Int32) =>
      bn1 (fX2_directionOf S13 k1 p3) (fun (v50 : Int32) =>
      bn1 (if v49 = v50 then (
        some (1 : Int32))
      else (
        some (-1 : Int32))) (fun (v51 : Int32) =>
        bv (((-v51) * v10)) (fun (v52 : Int32) =>
        bv ((v51 * v9)) (fun (v54 : Int32) =>
        some (v52, v54, (0 : Int32))))))))) (fun (v21 : Int32) (v22 : Int32) (v23 : Int32) =>
      bn1 (if p4 = 0 then (
        some v18)
      else (
        some (v18 + (1 : Int32)))) (fun (v24 : Int32) =>
        gd (inb v24 6) (
        bv ((gi S13 (k1 + 1) v24.toNatClampNeg)) (fun (v26 : Int32) =>
        bv ((v7 + (v21 * v26))) (fun (v28 : Int32) =>
        bv ((v8 + (v22 * v26))) (fun (v30 : Int32) =>
        gd (inb v12 6) (
        bv (si S13 (k0 + 1) v12.toNatClampNeg v28) (fun (S33 : St) =>
        gd (inb v12 6) (
        bv (si S33 (k0 + 2) v12.toNatClampNeg v30) (fun (S36 : St) =>
        bn1 (if v23 = 0 then (
          some (0 : Int32))
        else (
          some v26)) (fun (v38 : Int32) =>
          bv (si S36 k0 3 ((gi S36 k0 3) + v38)) (fun (S39 : St) =>
          bv (v12 + 1) (fun (v41 : Int32) =>
          next14 v28 v30 v21 v22 v23 v41 S39))))))))))))))))
def fX7_unroll (S : St) (k0 : Nat) (k1 : Nat) (p2 : Int32) (p3 : Int32) (p4 : Int32) : Option (St) :=
  bn1 (fX2_wingFaces S k1 p3 p4) (fun (v1 : Int32) =>
  bv (si S k0 2 v1) (fun (S2 : St) =>
  bv (si S2 k0 3 (0 : Int32)) (fun (S4 : St) =>
  bn1 (if p4 = 0 then (
    some (-1 : Int32))
  else (
    some (1 : Int32))) (fun (v6 : Int32) =>
    bn1 (lq7 (fX7_unroll_L46 k0 p3 v6 p2 k1 p4) 200 (0 : Int32) (0 : Int32) (1 : Int32) (0 : Int32) (1 : Int32) (0 : Int32) S4) (fun (S15 : St) =>
      some S15)))))
abbrev rmX7_unroll : Room := { frames := 7, cells := 0, slots := 0, locals := 130 }
set_option maxRecDepth 100000 in
set_option maxHeartbeats 4000000 in
theorem mX7_unroll {l : Launch} {D : va_G} {cs : Nat → ClassId} {a : Nat → Nat} (hT : l.stackTraces = false) {S : St} {k0 : Nat} {k1 : Nat} {p2 : Int32} {p3 : Int32} {p4 : Int32} {S' : St} (hk0 : kdX k0 = 7) (hk1 : kdX k1 = 2) (hF : fX7_unroll S k0 k1 p2 p3 p4 = some S') : MX l 113 GX D cs a yX7_unroll cX7_unroll 15 none rmX7_unroll [.ref (a k0), .ref (a k1), .int p2, .int p3, .int p4] S (.inr none) S' := by
  refine zm_entry [(0, .ref (a k0)), (1, .ref (a k1)), (2, .int p2), (3, .int p3), (4, .int p4)] hT (by decide +kernel) (Nat.le_of_ble_eq_true rfl) rfl (fun E hEl hED hEk C hQ hr => ?_)
  subst hEl
  subst hED
  subst hEk
  unfold fX7_unroll at hF
  refine z_aload_n 0 (pc := 0) C dX7_unroll_0 rfl rfl ?_
  refine z_aload_n 1 (pc := 1) C dX7_unroll_1 rfl rfl ?_
  refine z_iload_n 3 (pc := 2) C dX7_unroll_2 rfl rfl ?_
  refine z_iload 4 (pc := 3) C dX7_unroll_3 rfl ?_
  obtain ⟨v1, hG, hF⟩ := bn1_of hF
  refine z_callV [.int p3, .int p4] (pc := 5) (st1 := [.int v1, .ref (a k0)]) (c1 := 0) (s1 := 0) C (mX2_wingFaces C.hT hk1 hG) kX7_18 (kdX_lt hk1 (by decide)) (gX_2 hk1) rfl rfl rfl rfl (Nat.le_of_ble_eq_true rfl) ⟨(Nat.le_of_ble_eq_true rfl), (Nat.le_of_ble_eq_true rfl)⟩ ⟨(Nat.le_of_ble_eq_true rfl), (Nat.le_of_ble_eq_true rfl)⟩ dX7_unroll_5 rfl rfl ?_
  refine pfX7_24 (pc := 8) C hk0 dX7_unroll_8 ?_
  obtain ⟨S2, e3, hF⟩ := bv_of hF
  rw [← e3]
  refine z_aload_n 0 (pc := 11) C dX7_unroll_11 rfl rfl ?_
  refine z_iconst (pc := 12) (v := (0 : Int32)) C dX7_unroll_12 (by decide) ?_
  refine pfX7_28 (pc := 13) C hk0 dX7_unroll_13 ?_
  obtain ⟨S4, e5, hF⟩ := bv_of hF
  rw [← e5]
  refine z_iload 4 (pc := 16) C dX7_unroll_16 rfl ?_
  obtain ⟨v6', hR, hF⟩ := bn1_of hF
  have hJ58 : ∀ (v6 : Int32), (some v6 : Option (Int32)) = some v6' → Zz E (WX E a S4) 0 0 26 [(0, .ref (a k0)), (1, .ref (a k1)), (2, .int p2), (3, .int p3), (4, .int p4)] [.int v6] := by
    intro v6 hE
    have hE0 := Option.some.inj hE
    subst hE0
    refine z_istore (pc := 26) (loc' := [(5, .int v6), (0, .ref (a k0)), (1, .ref (a k1)), (2, .int p2), (3, .int p3), (4, .int p4)]) C dX7_unroll_26 (by decide) rfl ?_
    refine z_iconst (pc := 28) (v := (0 : Int32)) C dX7_unroll_28 (by decide) ?_
    refine z_istore (pc := 29) (loc' := [(6, .int (0 : Int32)), (5, .int v6), (0, .ref (a k0)), (1, .ref (a k1)), (2, .int p2), (3, .int p3), (4, .int p4)]) C dX7_unroll_29 (by decide) rfl ?_
    refine z_iconst (pc := 31) (v := (0 : Int32)) C dX7_unroll_31 (by decide) ?_
    refine z_istore (pc := 32) (loc' := [(7, .int (0 : Int32)), (6, .int (0 : Int32)), (5, .int v6), (0, .ref (a k0)), (1, .ref (a k1)), (2, .int p2), (3, .int p3), (4, .int p4)]) C dX7_unroll_32 (by decide) rfl ?_
    refine z_iconst (pc := 34) (v := (1 : Int32)) C dX7_unroll_34 (by decide) ?_
    refine z_istore (pc := 35) (loc' := [(8, .int (1 : Int32)), (7, .int (0 : Int32)), (6, .int (0 : Int32)), (5, .int v6), (0, .ref (a k0)), (1, .ref (a k1)), (2, .int p2), (3, .int p3), (4, .int p4)]) C dX7_unroll_35 (by decide) rfl ?_
    refine z_iconst (pc := 37) (v := (0 : Int32)) C dX7_unroll_37 (by decide) ?_
    refine z_istore (pc := 38) (loc' := [(9, .int (0 : Int32)), (8, .int (1 : Int32)), (7, .int (0 : Int32)), (6, .int (0 : Int32)), (5, .int v6), (0, .ref (a k0)), (1, .ref (a k1)), (2, .int p2), (3, .int p3), (4, .int p4)]) C dX7_unroll_38 (by decide) rfl ?_
    refine z_iconst (pc := 40) (v := (1 : Int32)) C dX7_unroll_40 (by decide) ?_
    refine z_istore (pc := 41) (loc' := [(10, .int (1 : Int32)), (9, .int (0 : Int32)), (8, .int (1 : Int32)), (7, .int (0 : Int32)), (6, .int (0 : Int32)), (5, .int v6), (0, .ref (a k0)), (1, .ref (a k1)), (2, .int p2), (3, .int p3), (4, .int p4)]) C dX7_unroll_41 (by decide) rfl ?_
    refine z_iconst (pc := 43) (v := (0 : Int32)) C dX7_unroll_43 (by decide) ?_
    refine z_istore (pc := 44) (loc' := [(11, .int (0 : Int32)), (10, .int (1 : Int32)), (9, .int (0 : Int32)), (8, .int (1 : Int32)), (7, .int (0 : Int32)), (6, .int (0 : Int32)), (5, .int v6), (0, .ref (a k0)), (1, .ref (a k1)), (2, .int p2), (3, .int p3), (4, .int p4)]) C dX7_unroll_44 (by decide) rfl ?_
    refine z_sub [7, 8, 9, 10, 11, 6, 5, 4, 3, 2, 1, 0] rfl ?_
    obtain ⟨S15', hR, hF⟩ := bn1_of hF
    have hJ16 : ∀ (S15 : St), (some S15 : Option (St)) = some S15' → Zz E (WX E a S15) 0 0 201 [] [] := by
      intro S15 hE
      have hE0 := Option.some.inj hE
      subst hE0
      exact z_vret (pc := 201) C hQ hr dX7_unroll_201 (by cases hF; rfl) (by cases hF; rfl) (Nat.le_of_ble_eq_true rfl) (Nat.le_of_ble_eq_true rfl)
    have hF := hR
    clear hR
    refine lq7_W (P := fun (v7 : Int32) (v8 : Int32) (v9 : Int32) (v10 : Int32) (v11 : Int32) (v12 : Int32) (S13 : St) => Zz E (WX E a S13) 0 0 46 [(0, .ref (a k0)), (1, .ref (a k1)), (2, .int p2), (3, .int p3), (4, .int p4), (5, .int v6), (6, .int v7), (7, .int v8), (8, .int v9), (9, .int v10), (10, .int v11), (11, .int v12)] []) (fun next14 hN14 v7 v8 v9 v10 v11 v12 S13 hF => ?_) _ _ _ _ _ _ _ _ hF
    unfold fX7_unroll_L46 at hF
    refine z_iload 11 (pc := 46) C dX7_unroll_46 rfl ?_
    refine z_aload_n 0 (pc := 48) C dX7_unroll_48 rfl rfl ?_
    refine gfX7_24 (pc := 49) C hk0 dX7_unroll_49 ?_
    refine z_icmp_ge 201 (pc := 52) C dX7_unroll_52 (by decide) (fun c17 => ?_) (fun c17 => ?_)
    · have hF := if_t hF c17
      refine z_sub [] rfl ?_
      exact hJ16 _ hF
    · have hF := if_f hF c17
      refine z_iload_n 3 (pc := 55) C dX7_unroll_55 rfl rfl ?_
      refine z_iload 5 (pc := 56) C dX7_unroll_56 rfl ?_
      refine z_iload 11 (pc := 58) C dX7_unroll_58 rfl ?_
      refine z_imul (pc := 60) C dX7_unroll_60 ?_
      refine z_iadd (pc := 61) C dX7_unroll_61 ?_
      obtain ⟨v18, e19, hF⟩ := bv_of hF
      refine z_topi e19 ?_
      refine z_istore (pc := 62) (loc' := [(12, .int v18), (0, .ref (a k0)), (1, .ref (a k1)), (2, .int p2), (3, .int p3), (4, .int p4), (5, .int v6), (6, .int v7), (7, .int v8), (8, .int v9), (9, .int v10), (10, .int v11), (11, .int v12)]) C dX7_unroll_62 (by decide) rfl ?_
      refine z_iload_n 3 (pc := 64) C dX7_unroll_64 rfl rfl ?_
      refine z_iload 0 (pc := 65) C dX7_unroll_65 rfl ?_
      obtain ⟨v20, hG, hF⟩ := bn1_of hF
      refine z_callN [.int p2, .int v18] (pc := 67) (st1 := [.int v20]) (c1 := 0) (s1 := 0) C (mX8_hasBit C.hT hG) kX7_31 rfl rfl rfl (Nat.le_of_ble_eq_true rfl) ⟨(Nat.le_of_ble_eq_true rfl), (Nat.le_of_ble_eq_true rfl)⟩ ⟨(Nat.le_of_ble_eq_true rfl), (Nat.le_of_ble_eq_true rfl)⟩ dX7_unroll_67 rfl rfl ?_
      obtain ⟨v21', v22', v23', hR, hF⟩ := bn3_of hF
      have hJ47 : ∀ (v21 : Int32) (v22 : Int32) (v23 : Int32), (some (v21, v22, v23) : Option (Int32 × Int32 × Int32)) = some (v21', v22', v23') → Zz E (WX E a S13) 0 0 116 [(0, .ref (a k0)), (1, .ref (a k1)), (2, .int p2), (3, .int p3), (4, .int p4), (5, .int v6), (6, .int v7), (7, .int v8), (8, .int v21), (9, .int v22), (10, .int v23), (11, .int v12), (12, .int v18)] [] := by
        intro v21 v22 v23 hE
        have hE0 := Option.some.inj hE
        obtain ⟨hA0, hE1⟩ := Prod.mk.inj hE0
        obtain ⟨hA1, hE2⟩ := Prod.mk.inj hE1
        subst hA0
        subst hA1
        subst hE2
        refine z_aload_n 1 (pc := 116) C dX7_unroll_116 rfl rfl ?_
        refine gfX7_39 (pc := 117) C hk1 dX7_unroll_117 ?_
        refine z_iload 4 (pc := 120) C dX7_unroll_120 rfl ?_
        obtain ⟨v24', hR, hF⟩ := bn1_of hF
        have hJ45 : ∀ (v24 : Int32), (some v24 : Option (Int32)) = some v24' → Zz E (WX E a S13) 0 0 134 [(0, .ref (a k0)), (1, .ref (a k1)), (2, .int p2), (3, .int p3), (4, .int p4), (5, .int v6), (6, .int v7), (7, .int v8), (8, .int v21), (9, .int v22), (10, .int v23), (11, .int v12)] [.int v24, .ref (a (k1 + 1))] := by
          intro v24 hE
          have hE0 := Option.some.inj hE
          subst hE0
          obtain ⟨g25, hF⟩ := gd_of hF
          refine iaX6 (pc := 134) C (kX_2_0 hk1) g25 dX7_unroll_134 ?_
          obtain ⟨v26, e27, hF⟩ := bv_of hF
          refine z_topi e27 ?_
          refine z_istore (pc := 135) (loc' := [(13, .int v26), (0, .ref (a k0)), (1, .ref (a k1)), (2, .int p2), (3, .int p3), (4, .int p4), (5, .int v6), (6, .int v7), (7, .int v8), (8, .int v21), (9, .int v22), (10, .int v23), (11, .int v12)]) C dX7_unroll_135 (by decide) rfl ?_
          refine z_iload 7 (pc := 137) C dX7_unroll_137 rfl ?_
          refine z_iload 9 (pc := 139) C dX7_unroll_139 rfl ?_
          refine z_iload 0 (pc := 141) C dX7_unroll_141 rfl ?_
          refine z_imul (pc := 143) C dX7_unroll_143 ?_
          refine z_iadd (pc := 144) C dX7_unroll_144 ?_
          obtain ⟨v28, e29, hF⟩ := bv_of hF
          refine z_topi e29 ?_
          refine z_istore (pc := 145) (loc' := [(6, .int v28), (13, .int v26), (0, .ref (a k0)), (1, .ref (a k1)), (2, .int p2), (3, .int p3), (4, .int p4), (5, .int v6), (7, .int v8), (8, .int v21), (9, .int v22), (10, .int v23), (11, .int v12)]) C dX7_unroll_145 (by decide) rfl ?_
          refine z_iload 8 (pc := 147) C dX7_unroll_147 rfl ?_
          refine z_iload 10 (pc := 149) C dX7_unroll_149 rfl ?_
          refine z_iload 1 (pc := 151) C dX7_unroll_151 rfl ?_
          refine z_imul (pc := 153) C dX7_unroll_153 ?_
          refine z_iadd (pc := 154) C dX7_unroll_154 ?_
          obtain ⟨v30, e31, hF⟩ := bv_of hF
          refine z_topi e31 ?_
          refine z_istore (pc := 155) (loc' := [(7, .int v30), (6, .int v28), (13, .int v26), (0, .ref (a k0)), (1, .ref (a k1)), (2, .int p2), (3, .int p3), (4, .int p4), (5, .int v6), (8, .int v21), (9, .int v22), (10, .int v23), (11, .int v12)]) C dX7_unroll_155 (by decide) rfl ?_
          refine z_aload_n 3 (pc := 157) C dX7_unroll_157 rfl rfl ?_
          refine gfX7_9 (pc := 158) C hk0 dX7_unroll_158 ?_
          refine z_iload 12 (pc := 161) C dX7_unroll_161 rfl ?_
          refine z_iload 1 (pc := 163) C dX7_unroll_163 rfl ?_
          obtain ⟨g32, hF⟩ := gd_of hF
          refine saX6 (pc := 165) C (kX_7_0 hk0) g32 dX7_unroll_165 ?_
          obtain ⟨S33, e34, hF⟩ := bv_of hF
          rw [← e34]
          refine z_aload_n 3 (pc := 166) C dX7_unroll_166 rfl rfl ?_
          refine gfX7_15 (pc := 167) C hk0 dX7_unroll_167 ?_
          refine z_iload 12 (pc := 170) C dX7_unroll_170 rfl ?_
          refine z_iload 0 (pc := 172) C dX7_unroll_172 rfl ?_
          obtain ⟨g35, hF⟩ := gd_of hF
          refine saX6 (pc := 174) C (kX_7_1 hk0) g35 dX7_unroll_174 ?_
          obtain ⟨S36, e37, hF⟩ := bv_of hF
          rw [← e37]
          refine z_aload_n 3 (pc := 175) C dX7_unroll_175 rfl rfl ?_
          refine z_dup (pc := 176) C dX7_unroll_176 rfl ?_
          refine gfX7_28 (pc := 177) C hk0 dX7_unroll_177 ?_
          refine z_iload 11 (pc := 180) C dX7_unroll_180 rfl ?_
          obtain ⟨v38', hR, hF⟩ := bn1_of hF
          have hJ43 : ∀ (v38 : Int32), (some v38 : Option (Int32)) = some v38' → Zz E (WX E a S36) 0 0 191 [(0, .ref (a k0)), (1, .ref (a k1)), (2, .int p2), (3, .int p3), (4, .int p4), (5, .int v6), (6, .int v28), (7, .int v30), (8, .int v21), (9, .int v22), (10, .int v23), (11, .int v12)] [.int v38, .int (gi S36 k0 3), .ref (a k0)] := by
            intro v38 hE
            have hE0 := Option.some.inj hE
            subst hE0
            refine z_iadd (pc := 191) C dX7_unroll_191 ?_
            refine pfX7_28 (pc := 192) C hk0 dX7_unroll_192 ?_
            obtain ⟨S39, e40, hF⟩ := bv_of hF
            rw [← e40]
            obtain ⟨v41, e42, hF⟩ := bv_of hF
            refine z_iinc 11 (pc := 195) (v := v41) (loc' := [(11, .int v41), (0, .ref (a k0)), (1, .ref (a k1)), (2, .int p2), (3, .int p3), (4, .int p4), (5, .int v6), (6, .int v28), (7, .int v30), (8, .int v21), (9, .int v22), (10, .int v23)]) C dX7_unroll_195 rfl (by rw [e42]; rfl) (by decide) rfl ?_
            refine z_goto 46 (pc := 198) C dX7_unroll_198 (by decide) ?_
            refine z_sub [1, 2, 3, 4, 5, 6, 7, 8, 9, 10, 11, 0] rfl ?_
            exact hN14 _ _ _ _ _ _ _ hF
          have hF := hR
          clear hR
          refine z_if_eq 190 (pc := 182) C dX7_unroll_182 (by decide) (fun c44 => ?_) (fun c44 => ?_)
          · have hF := if_t hF c44
            refine z_iconst (pc := 190) (v := (0 : Int32)) C dX7_unroll_190 (by decide) ?_
            refine z_sub [3, 4, 5, 6, 7, 8, 1, 0, 9, 10, 11, 12] rfl ?_
            exact hJ43 _ hF
          · have hF := if_f hF c44
            refine z_iload 2 (pc := 185) C dX7_unroll_185 rfl ?_
            refine z_goto 191 (pc := 187) C dX7_unroll_187 (by decide) ?_
            refine z_sub [3, 4, 5, 6, 7, 8, 1, 0, 9, 10, 11, 12] rfl ?_
            exact hJ43 _ hF
        have hF := hR
        clear hR
        refine z_if_eq 132 (pc := 122) C dX7_unroll_122 (by decide) (fun c46 => ?_) (fun c46 => ?_)
        · have hF := if_t hF c46
          refine z_iload 12 (pc := 132) C dX7_unroll_132 rfl ?_
          refine z_sub [0, 1, 2, 3, 4, 5, 6, 7, 8, 9, 10, 11] rfl ?_
          exact hJ45 _ hF
        · have hF := if_f hF c46
          refine z_iload 12 (pc := 125) C dX7_unroll_125 rfl ?_
          refine z_iconst (pc := 127) (v := (1 : Int32)) C dX7_unroll_127 (by decide) ?_
          refine z_iadd (pc := 128) C dX7_unroll_128 ?_
          refine z_goto 134 (pc := 129) C dX7_unroll_129 (by decide) ?_
          refine z_sub [0, 1, 2, 3, 4, 5, 6, 7, 8, 9, 10, 11] rfl ?_
          exact hJ45 _ hF
      have hF := hR
      clear hR
      refine z_if_eq 116 (pc := 70) C dX7_unroll_70 (by decide) (fun c48 => ?_) (fun c48 => ?_)
      · have hF := if_t hF c48
        refine z_sub [1, 2, 3, 4, 5, 6, 7, 8, 9, 10, 11, 12, 0] rfl ?_
        exact hJ47 _ _ _ hF
      · have hF := if_f hF c48
        refine z_aload_n 2 (pc := 73) C dX7_unroll_73 rfl rfl ?_
        refine z_iload 0 (pc := 74) C dX7_unroll_74 rfl ?_
        obtain ⟨v49, hG, hF⟩ := bn1_of hF
        refine z_callV [.int v18] (pc := 76) (st1 := [.int v49]) (c1 := 0) (s1 := 0) C (mX2_directionOf C.hT hk1 hG) kX7_35 (kdX_lt hk1 (by decide)) (gX_2 hk1) rfl rfl rfl rfl (Nat.le_of_ble_eq_true rfl) ⟨(Nat.le_of_ble_eq_true rfl), (Nat.le_of_ble_eq_true rfl)⟩ ⟨(Nat.le_of_ble_eq_true rfl), (Nat.le_of_ble_eq_true rfl)⟩ dX7_unroll_76 rfl rfl ?_
        refine z_aload_n 2 (pc := 79) C dX7_unroll_79 rfl rfl ?_
        refine z_iload_n 4 (pc := 80) C dX7_unroll_80 rfl rfl ?_
        obtain ⟨v50, hG, hF⟩ := bn1_of hF
        refine z_callV [.int p3] (pc := 81) (st1 := [.int v50, .int v49]) (c1 := 0) (s1 := 0) C (mX2_directionOf C.hT hk1 hG) kX7_35 (kdX_lt hk1 (by decide)) (gX_2 hk1) rfl rfl rfl rfl (Nat.le_of_ble_eq_true rfl) ⟨(Nat.le_of_ble_eq_true rfl), (Nat.le_of_ble_eq_true rfl)⟩ ⟨(Nat.le_of_ble_eq_true rfl), (Nat.le_of_ble_eq_true rfl)⟩ dX7_unroll_81 rfl rfl ?_
        obtain ⟨v51', hR, hF⟩ := bn1_of hF
        have hJ56 : ∀ (v51 : Int32), (some v51 : Option (Int32)) = some v51' → Zz E (WX E a S13) 0 0 92 [(0, .ref (a k0)), (1, .ref (a k1)), (2, .int p2), (3, .int p3), (4, .int p4), (5, .int v6), (6, .int v7), (7, .int v8), (8, .int v9), (9, .int v10), (11, .int v12), (12, .int v18)] [.int v51] := by
          intro v51 hE
          have hE0 := Option.some.inj hE
          subst hE0
          refine z_istore (pc := 92) (loc' := [(13, .int v51), (0, .ref (a k0)), (1, .ref (a k1)), (2, .int p2), (3, .int p3), (4, .int p4), (5, .int v6), (6, .int v7), (7, .int v8), (8, .int v9), (9, .int v10), (11, .int v12), (12, .int v18)]) C dX7_unroll_92 (by decide) rfl ?_
          refine z_iload 0 (pc := 94) C dX7_unroll_94 rfl ?_
          refine z_ineg (pc := 96) C dX7_unroll_96 ?_
          refine z_iload 10 (pc := 97) C dX7_unroll_97 rfl ?_
          refine z_imul (pc := 99) C dX7_unroll_99 ?_
          obtain ⟨v52, e53, hF⟩ := bv_of hF
          refine z_topi e53 ?_
          refine z_istore (pc := 100) (loc' := [(14, .int v52), (13, .int v51), (0, .ref (a k0)), (1, .ref (a k1)), (2, .int p2), (3, .int p3), (4, .int p4), (5, .int v6), (6, .int v7), (7, .int v8), (8, .int v9), (9, .int v10), (11, .int v12), (12, .int v18)]) C dX7_unroll_100 (by decide) rfl ?_
          refine z_iload 1 (pc := 102) C dX7_unroll_102 rfl ?_
          refine z_iload 10 (pc := 104) C dX7_unroll_104 rfl ?_
          refine z_imul (pc := 106) C dX7_unroll_106 ?_
          obtain ⟨v54, e55, hF⟩ := bv_of hF
          refine z_topi e55 ?_
          refine z_istore (pc := 107) (loc' := [(9, .int v54), (14, .int v52), (13, .int v51), (0, .ref (a k0)), (1, .ref (a k1)), (2, .int p2), (3, .int p3), (4, .int p4), (5, .int v6), (6, .int v7), (7, .int v8), (8, .int v9), (11, .int v12), (12, .int v18)]) C dX7_unroll_107 (by decide) rfl ?_
          refine z_iload 1 (pc := 109) C dX7_unroll_109 rfl ?_
          refine z_istore (pc := 111) (loc' := [(8, .int v52), (9, .int v54), (14, .int v52), (13, .int v51), (0, .ref (a k0)), (1, .ref (a k1)), (2, .int p2), (3, .int p3), (4, .int p4), (5, .int v6), (6, .int v7), (7, .int v8), (11, .int v12), (12, .int v18)]) C dX7_unroll_111 (by decide) rfl ?_
          refine z_iconst (pc := 113) (v := (0 : Int32)) C dX7_unroll_113 (by decide) ?_
          refine z_istore (pc := 114) (loc' := [(10, .int (0 : Int32)), (8, .int v52), (9, .int v54), (14, .int v52), (13, .int v51), (0, .ref (a k0)), (1, .ref (a k1)), (2, .int p2), (3, .int p3), (4, .int p4), (5, .int v6), (6, .int v7), (7, .int v8), (11, .int v12), (12, .int v18)]) C dX7_unroll_114 (by decide) rfl ?_
          refine z_sub [5, 6, 7, 8, 9, 10, 11, 12, 1, 2, 0, 13, 14] rfl ?_
          exact hJ47 _ _ _ hF
        have hF := hR
        clear hR
        refine z_icmp_ne 91 (pc := 84) C dX7_unroll_84 (by decide) (fun c57 => ?_) (fun c57 => ?_)
        · have hF := if_f hF c57
          refine z_iconst (pc := 91) (v := (-1 : Int32)) C dX7_unroll_91 (by decide) ?_
          refine z_sub [1, 2, 3, 4, 5, 6, 7, 8, 9, 10, 12, 0] rfl ?_
          exact hJ56 _ hF
        · have hF := if_t hF c57
          refine z_iconst (pc := 87) (v := (1 : Int32)) C dX7_unroll_87 (by decide) ?_
          refine z_goto 92 (pc := 88) C dX7_unroll_88 (by decide) ?_
          refine z_sub [1, 2, 3, 4, 5, 6, 7, 8, 9, 10, 12, 0] rfl ?_
          exact hJ56 _ hF
  have hF := hR
  clear hR
  refine z_if_eq 25 (pc := 18) C dX7_unroll_18 (by decide) (fun c59 => ?_) (fun c59 => ?_)
  · have hF := if_t hF c59
    refine z_iconst (pc := 25) (v := (-1 : Int32)) C dX7_unroll_25 (by decide) ?_
    exact hJ58 _ hF
  · have hF := if_f hF c59
    refine z_iconst (pc := 21) (v := (1 : Int32)) C dX7_unroll_21 (by decide) ?_
    refine z_goto 26 (pc := 22) C dX7_unroll_22 (by decide) ?_
    exact hJ58 _ hF
def fX8_batchAt (S : St) (p1 : Int32) : Option ((String ⊕ Nat)) :=
  bn1 (fX8_isOut p1 (0 : Int32) ((gi S 0 8) - (1 : Int32))) (fun (v1 : Int32) =>
  if v1 = 0 then (
    gd (inb p1 20) (
    some (.inr (bid p1))))
  else (
    some (.inl "java/lang/IndexOutOfBoundsException")))
abbrev rmX8_batchAt : Room := { frames := 7, cells := 1, slots := 6, locals := 130 }
set_option maxRecDepth 100000 in
set_option maxHeartbeats 4000000 in
theorem mX8_batchAt {l : Launch} {D : va_G} {cs : Nat → ClassId} {a : Nat → Nat} (hT : l.stackTraces = false) {S : St} {p1 : Int32} {r : String ⊕ Nat} (hF : fX8_batchAt S p1 = some r) : MX l 113 GX D cs a yX8_batchAt cX8_batchAt 2 (some (.object "PressbrakeLane$Batch")) rmX8_batchAt [.ref (a 0), .int p1] S (ocR a r) S := by
  refine zm_entry [(0, .ref (a 0)), (1, .int p1)] hT (by decide +kernel) (Nat.le_of_ble_eq_true rfl) rfl (fun E hEl hED hEk C hQ hr => ?_)
  subst hEl
  subst hED
  subst hEk
  unfold fX8_batchAt at hF
  refine z_iload_n 1 (pc := 0) C dX8_batchAt_0 rfl rfl ?_
  refine z_iconst (pc := 1) (v := (0 : Int32)) C dX8_batchAt_1 (by decide) ?_
  refine z_aload_n 0 (pc := 2) C dX8_batchAt_2 rfl rfl ?_
  refine gfX8_286 (pc := 3) C (rfl : kdX 0 = 8) dX8_batchAt_3 ?_
  refine z_iconst (pc := 6) (v := (1 : Int32)) C dX8_batchAt_6 (by decide) ?_
  refine z_isub (pc := 7) C dX8_batchAt_7 ?_
  obtain ⟨v1, hG, hF⟩ := bn1_of hF
  refine z_callS [.int p1, .int (0 : Int32), .int ((gi S 0 8) - (1 : Int32))] (pc := 8) (st1 := [.int v1]) (c1 := 0) (s1 := 0) C (mX8_isOut C.hT hG) kX8_62 rfl rfl rfl rfl (Nat.le_of_ble_eq_true rfl) ⟨(Nat.le_of_ble_eq_true rfl), (Nat.le_of_ble_eq_true rfl)⟩ ⟨(Nat.le_of_ble_eq_true rfl), (Nat.le_of_ble_eq_true rfl)⟩ dX8_batchAt_8 rfl rfl ?_
  refine z_if_eq 25 (pc := 11) C dX8_batchAt_11 (by decide) (fun c2 => ?_) (fun c2 => ?_)
  · have hF := if_t hF c2
    refine z_aload_n 0 (pc := 25) C dX8_batchAt_25 rfl rfl ?_
    refine gfX8_34 (pc := 26) C (rfl : kdX 0 = 8) dX8_batchAt_26 ?_
    refine z_iload_n 1 (pc := 29) C dX8_batchAt_29 rfl rfl ?_
    obtain ⟨g3, hF⟩ := gd_of hF
    refine aabid (pc := 30) C (rfl : kdX 7 = 13) g3 dX8_batchAt_30 ?_
    exact z_aret (pc := 31) C hQ hr dX8_batchAt_31 (by cases hF; rfl) (by cases hF; rfl) (Nat.le_of_ble_eq_true rfl) (Nat.le_of_ble_eq_true rfl)
  · have hF := if_f hF c2
    exact z_thrW (pc := 14) C hQ th_ind st_340 dX8_batchAt_14 dX8_batchAt_17 dX8_batchAt_18 dX8_batchAt_21 dX8_batchAt_24 (by cases hF; rfl) (by cases hF; rfl) (Nat.le_of_ble_eq_true rfl) (Nat.le_of_ble_eq_true rfl) (Nat.le_of_ble_eq_true rfl) (Nat.le_of_ble_eq_true rfl)
theorem qX8_batchAt {S : St} {p1 : Int32} {k : Nat} (h : fX8_batchAt S p1 = some (.inr k)) : kdX k = 0 := by
  unfold fX8_batchAt at h
  obtain ⟨_, -, h⟩ := bn1_of h
  split at h
  · obtain ⟨g1, h⟩ := gd_of h
    cases h
    exact kX_bid g1
  · cases h
def fX8_checkBend (S : St) (k1 : Nat) (p2 : Int32) : Option ((String ⊕ Unit)) :=
  bn1 (fX2_bends S k1) (fun (v1 : Int32) =>
  bn1 (fX8_isOut p2 (0 : Int32) (v1 - (1 : Int32))) (fun (v2 : Int32) =>
  if v2 = 0 then (
    some (.inr ()))
  else (
    some (.inl "java/lang/IndexOutOfBoundsException"))))
abbrev rmX8_checkBend : Room := { frames := 7, cells := 1, slots := 6, locals := 130 }
set_option maxRecDepth 100000 in
set_option maxHeartbeats 4000000 in
theorem mX8_checkBend {l : Launch} {D : va_G} {cs : Nat → ClassId} {a : Nat → Nat} (hT : l.stackTraces = false) {S : St} {k1 : Nat} {p2 : Int32} {r : String ⊕ Unit} (hk1 : kdX k1 = 2) (hF : fX8_checkBend S k1 p2 = some r) : MX l 113 GX D cs a yX8_checkBend cX8_checkBend 2 none rmX8_checkBend [.ref (a k1), .int p2] S (ocV r) S := by
  refine zm_entry [(0, .ref (a k1)), (1, .int p2)] hT (by decide +kernel) (Nat.le_of_ble_eq_true rfl) rfl (fun E hEl hED hEk C hQ hr => ?_)
  subst hEl
  subst hED
  subst hEk
  unfold fX8_checkBend at hF
  refine z_iload_n 1 (pc := 0) C dX8_checkBend_0 rfl rfl ?_
  refine z_iconst (pc := 1) (v := (0 : Int32)) C dX8_checkBend_1 (by decide) ?_
  refine z_aload_n 0 (pc := 2) C dX8_checkBend_2 rfl rfl ?_
  obtain ⟨v1, hG, hF⟩ := bn1_of hF
  refine z_callV [] (pc := 3) (st1 := [.int v1, .int (0 : Int32), .int p2]) (c1 := 0) (s1 := 0) C (mX2_bends C.hT hk1 hG) kX8_346 (kdX_lt hk1 (by decide)) (gX_2 hk1) rfl rfl rfl rfl (Nat.le_of_ble_eq_true rfl) ⟨(Nat.le_of_ble_eq_true rfl), (Nat.le_of_ble_eq_true rfl)⟩ ⟨(Nat.le_of_ble_eq_true rfl), (Nat.le_of_ble_eq_true rfl)⟩ dX8_checkBend_3 rfl rfl ?_
  refine z_iconst (pc := 6) (v := (1 : Int32)) C dX8_checkBend_6 (by decide) ?_
  refine z_isub (pc := 7) C dX8_checkBend_7 ?_
  obtain ⟨v2, hG, hF⟩ := bn1_of hF
  refine z_callS [.int p2, .int (0 : Int32), .int (v1 - (1 : Int32))] (pc := 8) (st1 := [.int v2]) (c1 := 0) (s1 := 0) C (mX8_isOut C.hT hG) kX8_62 rfl rfl rfl rfl (Nat.le_of_ble_eq_true rfl) ⟨(Nat.le_of_ble_eq_true rfl), (Nat.le_of_ble_eq_true rfl)⟩ ⟨(Nat.le_of_ble_eq_true rfl), (Nat.le_of_ble_eq_true rfl)⟩ dX8_checkBend_8 rfl rfl ?_
  refine z_if_eq 25 (pc := 11) C dX8_checkBend_11 (by decide) (fun c3 => ?_) (fun c3 => ?_)
  · have hF := if_t hF c3
    exact z_vret (pc := 25) C hQ hr dX8_checkBend_25 (by cases hF; rfl) (by cases hF; rfl) (Nat.le_of_ble_eq_true rfl) (Nat.le_of_ble_eq_true rfl)
  · have hF := if_f hF c3
    exact z_thrW (pc := 14) C hQ th_ind st_349 dX8_checkBend_14 dX8_checkBend_17 dX8_checkBend_18 dX8_checkBend_21 dX8_checkBend_24 (by cases hF; rfl) (by cases hF; rfl) (Nat.le_of_ble_eq_true rfl) (Nat.le_of_ble_eq_true rfl) (Nat.le_of_ble_eq_true rfl) (Nat.le_of_ble_eq_true rfl)
def fX8_checkDone (S : St) (k1 : Nat) (p2 : Int32) (p3 : Int32) : Option ((String ⊕ Unit)) :=
  bn1 (fX2_bends S k1) (fun (v1 : Int32) =>
  if ((p2.toUInt32 >>> (v1.toUInt32 &&& Int32.toUInt32 31)).toInt32) = 0 then (
    bn1 (fX8_hasBit p2 p3) (fun (v3 : Int32) =>
    if v3 = 0 then (
      some (.inr ()))
    else (
      some (.inl "java/lang/IllegalArgumentException"))))
  else (
    some (.inl "java/lang/IllegalArgumentException")))
abbrev rmX8_checkDone : Room := { frames := 7, cells := 1, slots := 6, locals := 130 }
set_option maxRecDepth 100000 in
set_option maxHeartbeats 4000000 in
theorem mX8_checkDone {l : Launch} {D : va_G} {cs : Nat → ClassId} {a : Nat → Nat} (hT : l.stackTraces = false) {S : St} {k1 : Nat} {p2 : Int32} {p3 : Int32} {r : String ⊕ Unit} (hk1 : kdX k1 = 2) (hF : fX8_checkDone S k1 p2 p3 = some r) : MX l 113 GX D cs a yX8_checkDone cX8_checkDone 3 none rmX8_checkDone [.ref (a k1), .int p2, .int p3] S (ocV r) S := by
  refine zm_entry [(0, .ref (a k1)), (1, .int p2), (2, .int p3)] hT (by decide +kernel) (Nat.le_of_ble_eq_true rfl) rfl (fun E hEl hED hEk C hQ hr => ?_)
  subst hEl
  subst hED
  subst hEk
  unfold fX8_checkDone at hF
  refine z_iload_n 1 (pc := 0) C dX8_checkDone_0 rfl rfl ?_
  refine z_aload_n 0 (pc := 1) C dX8_checkDone_1 rfl rfl ?_
  obtain ⟨v1, hG, hF⟩ := bn1_of hF
  refine z_callV [] (pc := 2) (st1 := [.int v1, .int p2]) (c1 := 0) (s1 := 0) C (mX2_bends C.hT hk1 hG) kX8_346 (kdX_lt hk1 (by decide)) (gX_2 hk1) rfl rfl rfl rfl (Nat.le_of_ble_eq_true rfl) ⟨(Nat.le_of_ble_eq_true rfl), (Nat.le_of_ble_eq_true rfl)⟩ ⟨(Nat.le_of_ble_eq_true rfl), (Nat.le_of_ble_eq_true rfl)⟩ dX8_checkDone_2 rfl rfl ?_
  refine z_iushr (pc := 5) C dX8_checkDone_5 ?_
  refine z_if_ne 17 (pc := 6) C dX8_checkDone_6 (by decide) (fun c2 => ?_) (fun c2 => ?_)
  · have hF := if_f hF c2
    exact z_thrW (pc := 17) C hQ th_arg st_351 dX8_checkDone_17 dX8_checkDone_20 dX8_checkDone_21 dX8_checkDone_24 dX8_checkDone_27 (by cases hF; rfl) (by cases hF; rfl) (Nat.le_of_ble_eq_true rfl) (Nat.le_of_ble_eq_true rfl) (Nat.le_of_ble_eq_true rfl) (Nat.le_of_ble_eq_true rfl)
  · have hF := if_t hF c2
    refine z_iload_n 1 (pc := 9) C dX8_checkDone_9 rfl rfl ?_
    refine z_iload_n 2 (pc := 10) C dX8_checkDone_10 rfl rfl ?_
    obtain ⟨v3, hG, hF⟩ := bn1_of hF
    refine z_callS [.int p2, .int p3] (pc := 11) (st1 := [.int v3]) (c1 := 0) (s1 := 0) C (mX8_hasBit C.hT hG) kX8_329 rfl rfl rfl rfl (Nat.le_of_ble_eq_true rfl) ⟨(Nat.le_of_ble_eq_true rfl), (Nat.le_of_ble_eq_true rfl)⟩ ⟨(Nat.le_of_ble_eq_true rfl), (Nat.le_of_ble_eq_true rfl)⟩ dX8_checkDone_11 rfl rfl ?_
    refine z_if_eq 28 (pc := 14) C dX8_checkDone_14 (by decide) (fun c4 => ?_) (fun c4 => ?_)
    · have hF := if_t hF c4
      exact z_vret (pc := 28) C hQ hr dX8_checkDone_28 (by cases hF; rfl) (by cases hF; rfl) (Nat.le_of_ble_eq_true rfl) (Nat.le_of_ble_eq_true rfl)
    · have hF := if_f hF c4
      exact z_thrW (pc := 17) C hQ th_arg st_351 dX8_checkDone_17 dX8_checkDone_20 dX8_checkDone_21 dX8_checkDone_24 dX8_checkDone_27 (by cases hF; rfl) (by cases hF; rfl) (Nat.le_of_ble_eq_true rfl) (Nat.le_of_ble_eq_true rfl) (Nat.le_of_ble_eq_true rfl) (Nat.le_of_ble_eq_true rfl)
def fX8_checkKit (S : St) (p1 : Int32) : Option ((String ⊕ Unit)) :=
  if p1 = 0 then (
    some (.inl "java/lang/IllegalArgumentException"))
  else (
    if ((p1.toUInt32 >>> ((gi S 0 2).toUInt32 &&& Int32.toUInt32 31)).toInt32) = 0 then (
      some (.inr ()))
    else (
      some (.inl "java/lang/IllegalArgumentException")))
abbrev rmX8_checkKit : Room := { frames := 7, cells := 1, slots := 6, locals := 130 }
set_option maxRecDepth 100000 in
set_option maxHeartbeats 4000000 in
theorem mX8_checkKit {l : Launch} {D : va_G} {cs : Nat → ClassId} {a : Nat → Nat} (hT : l.stackTraces = false) {S : St} {p1 : Int32} {r : String ⊕ Unit} (hF : fX8_checkKit S p1 = some r) : MX l 113 GX D cs a yX8_checkKit cX8_checkKit 2 none rmX8_checkKit [.ref (a 0), .int p1] S (ocV r) S := by
  refine zm_entry [(0, .ref (a 0)), (1, .int p1)] hT (by decide +kernel) (Nat.le_of_ble_eq_true rfl) rfl (fun E hEl hED hEk C hQ hr => ?_)
  subst hEl
  subst hED
  subst hEk
  unfold fX8_checkKit at hF
  refine z_iload_n 1 (pc := 0) C dX8_checkKit_0 rfl rfl ?_
  refine z_if_eq 13 (pc := 1) C dX8_checkKit_1 (by decide) (fun c1 => ?_) (fun c1 => ?_)
  · have hF := if_t hF c1
    exact z_thrW (pc := 13) C hQ th_arg st_353 dX8_checkKit_13 dX8_checkKit_16 dX8_checkKit_17 dX8_checkKit_20 dX8_checkKit_23 (by cases hF; rfl) (by cases hF; rfl) (Nat.le_of_ble_eq_true rfl) (Nat.le_of_ble_eq_true rfl) (Nat.le_of_ble_eq_true rfl) (Nat.le_of_ble_eq_true rfl)
  · have hF := if_f hF c1
    refine z_iload_n 1 (pc := 4) C dX8_checkKit_4 rfl rfl ?_
    refine z_aload_n 0 (pc := 5) C dX8_checkKit_5 rfl rfl ?_
    refine gfX8_95 (pc := 6) C (rfl : kdX 0 = 8) dX8_checkKit_6 ?_
    refine z_iushr (pc := 9) C dX8_checkKit_9 ?_
    refine z_if_eq 24 (pc := 10) C dX8_checkKit_10 (by decide) (fun c2 => ?_) (fun c2 => ?_)
    · have hF := if_t hF c2
      exact z_vret (pc := 24) C hQ hr dX8_checkKit_24 (by cases hF; rfl) (by cases hF; rfl) (Nat.le_of_ble_eq_true rfl) (Nat.le_of_ble_eq_true rfl)
    · have hF := if_f hF c2
      exact z_thrW (pc := 13) C hQ th_arg st_353 dX8_checkKit_13 dX8_checkKit_16 dX8_checkKit_17 dX8_checkKit_20 dX8_checkKit_23 (by cases hF; rfl) (by cases hF; rfl) (Nat.le_of_ble_eq_true rfl) (Nat.le_of_ble_eq_true rfl) (Nat.le_of_ble_eq_true rfl) (Nat.le_of_ble_eq_true rfl)
def fX8_checkPad (S : St) : Option ((String ⊕ Unit)) :=
  if (gi S 1 2) = 0 then (
    some (.inl "java/lang/IllegalStateException"))
  else (
    some (.inr ()))
abbrev rmX8_checkPad : Room := { frames := 7, cells := 1, slots := 6, locals := 130 }
set_option maxRecDepth 100000 in
set_option maxHeartbeats 4000000 in
theorem mX8_checkPad {l : Launch} {D : va_G} {cs : Nat → ClassId} {a : Nat → Nat} (hT : l.stackTraces = false) {S : St} {r : String ⊕ Unit} (hF : fX8_checkPad S = some r) : MX l 113 GX D cs a yX8_checkPad cX8_checkPad 1 none rmX8_checkPad [.ref (a 0)] S (ocV r) S := by
  refine zm_entry [(0, .ref (a 0))] hT (by decide +kernel) (Nat.le_of_ble_eq_true rfl) rfl (fun E hEl hED hEk C hQ hr => ?_)
  subst hEl
  subst hED
  subst hEk
  unfold fX8_checkPad at hF
  refine z_aload_n 0 (pc := 0) C dX8_checkPad_0 rfl rfl ?_
  refine gfX8_12 (pc := 1) C (rfl : kdX 0 = 8) dX8_checkPad_1 ?_
  refine gfX8_73 (pc := 4) C (rfl : kdX 1 = 2) dX8_checkPad_4 ?_
  refine z_if_ne 21 (pc := 7) C dX8_checkPad_7 (by decide) (fun c1 => ?_) (fun c1 => ?_)
  · have hF := if_f hF c1
    exact z_vret (pc := 21) C hQ hr dX8_checkPad_21 (by cases hF; rfl) (by cases hF; rfl) (Nat.le_of_ble_eq_true rfl) (Nat.le_of_ble_eq_true rfl)
  · have hF := if_t hF c1
    exact z_thrW (pc := 10) C hQ th_sta st_344 dX8_checkPad_10 dX8_checkPad_13 dX8_checkPad_14 dX8_checkPad_17 dX8_checkPad_20 (by cases hF; rfl) (by cases hF; rfl) (Nat.le_of_ble_eq_true rfl) (Nat.le_of_ble_eq_true rfl) (Nat.le_of_ble_eq_true rfl) (Nat.le_of_ble_eq_true rfl)
def fX8_checkSheet (p1 : Int32) (p2 : Int32) : Option ((String ⊕ Unit)) :=
  bn1 (fX8_isOut p1 (10 : Int32) (300 : Int32)) (fun (v1 : Int32) =>
  if v1 = 0 then (
    bn1 (fX8_isOut p2 (1 : Int32) (4 : Int32)) (fun (v3 : Int32) =>
    if v3 = 0 then (
      some (.inr ()))
    else (
      some (.inl "java/lang/IllegalArgumentException"))))
  else (
    some (.inl "java/lang/IllegalArgumentException")))
abbrev rmX8_checkSheet : Room := { frames := 7, cells := 1, slots := 6, locals := 130 }
set_option maxRecDepth 100000 in
set_option maxHeartbeats 4000000 in
theorem mX8_checkSheet {l : Launch} {D : va_G} {cs : Nat → ClassId} {a : Nat → Nat} (hT : l.stackTraces = false) {S : St} {p1 : Int32} {p2 : Int32} {r : String ⊕ Unit} (hF : fX8_checkSheet p1 p2 = some r) : MX l 113 GX D cs a yX8_checkSheet cX8_checkSheet 2 none rmX8_checkSheet [.int p1, .int p2] S (ocV r) S := by
  refine zm_entry [(0, .int p1), (1, .int p2)] hT (by decide +kernel) (Nat.le_of_ble_eq_true rfl) rfl (fun E hEl hED hEk C hQ hr => ?_)
  subst hEl
  subst hED
  subst hEk
  unfold fX8_checkSheet at hF
  refine z_iload_n 0 (pc := 0) C dX8_checkSheet_0 rfl rfl ?_
  refine z_bipush (pc := 1) (v := (10 : Int32)) C dX8_checkSheet_1 (by decide) ?_
  refine z_sipush (pc := 3) (v := (300 : Int32)) C dX8_checkSheet_3 (by decide) ?_
  obtain ⟨v1, hG, hF⟩ := bn1_of hF
  refine z_callS [.int p1, .int (10 : Int32), .int (300 : Int32)] (pc := 6) (st1 := [.int v1]) (c1 := 0) (s1 := 0) C (mX8_isOut C.hT hG) kX8_62 rfl rfl rfl rfl (Nat.le_of_ble_eq_true rfl) ⟨(Nat.le_of_ble_eq_true rfl), (Nat.le_of_ble_eq_true rfl)⟩ ⟨(Nat.le_of_ble_eq_true rfl), (Nat.le_of_ble_eq_true rfl)⟩ dX8_checkSheet_6 rfl rfl ?_
  refine z_if_ne 21 (pc := 9) C dX8_checkSheet_9 (by decide) (fun c2 => ?_) (fun c2 => ?_)
  · have hF := if_f hF c2
    exact z_thrW (pc := 21) C hQ th_arg st_342 dX8_checkSheet_21 dX8_checkSheet_24 dX8_checkSheet_25 dX8_checkSheet_28 dX8_checkSheet_31 (by cases hF; rfl) (by cases hF; rfl) (Nat.le_of_ble_eq_true rfl) (Nat.le_of_ble_eq_true rfl) (Nat.le_of_ble_eq_true rfl) (Nat.le_of_ble_eq_true rfl)
  · have hF := if_t hF c2
    refine z_iload_n 1 (pc := 12) C dX8_checkSheet_12 rfl rfl ?_
    refine z_iconst (pc := 13) (v := (1 : Int32)) C dX8_checkSheet_13 (by decide) ?_
    refine z_iconst (pc := 14) (v := (4 : Int32)) C dX8_checkSheet_14 (by decide) ?_
    obtain ⟨v3, hG, hF⟩ := bn1_of hF
    refine z_callS [.int p2, .int (1 : Int32), .int (4 : Int32)] (pc := 15) (st1 := [.int v3]) (c1 := 0) (s1 := 0) C (mX8_isOut C.hT hG) kX8_62 rfl rfl rfl rfl (Nat.le_of_ble_eq_true rfl) ⟨(Nat.le_of_ble_eq_true rfl), (Nat.le_of_ble_eq_true rfl)⟩ ⟨(Nat.le_of_ble_eq_true rfl), (Nat.le_of_ble_eq_true rfl)⟩ dX8_checkSheet_15 rfl rfl ?_
    refine z_if_eq 32 (pc := 18) C dX8_checkSheet_18 (by decide) (fun c4 => ?_) (fun c4 => ?_)
    · have hF := if_t hF c4
      exact z_vret (pc := 32) C hQ hr dX8_checkSheet_32 (by cases hF; rfl) (by cases hF; rfl) (Nat.le_of_ble_eq_true rfl) (Nat.le_of_ble_eq_true rfl)
    · have hF := if_f hF c4
      exact z_thrW (pc := 21) C hQ th_arg st_342 dX8_checkSheet_21 dX8_checkSheet_24 dX8_checkSheet_25 dX8_checkSheet_28 dX8_checkSheet_31 (by cases hF; rfl) (by cases hF; rfl) (Nat.le_of_ble_eq_true rfl) (Nat.le_of_ble_eq_true rfl) (Nat.le_of_ble_eq_true rfl) (Nat.le_of_ble_eq_true rfl)
def fX8_face (S : St) (p1 : Int32) (p2 : Int32) : Option (((String ⊕ Int32) × St)) :=
  bn1 (fX8_isOut p1 (10 : Int32) (200 : Int32)) (fun (v1 : Int32) =>
  if v1 = 0 then (
    bn1 (fX8_isOut p2 (0 : Int32) (1 : Int32)) (fun (v3 : Int32) =>
    if v3 = 0 then (
      if (gi S 1 2) < (6 : Int32) then (
        gd (inb (gi S 1 2) 6) (
        bv (si S 2 (gi S 1 2).toNatClampNeg p1) (fun (S7 : St) =>
        gd (inb (gi S7 1 2) 6) (
        bv (si S7 3 (gi S7 1 2).toNatClampNeg p2) (fun (S10 : St) =>
        bv (si S10 1 2 ((gi S10 1 2) + (1 : Int32))) (fun (S12 : St) =>
        some (.inr (gi S12 1 2), S12)))))))
      else (
        some (.inl "java/lang/IllegalStateException", S)))
    else (
      some (.inl "java/lang/IllegalArgumentException", S))))
  else (
    some (.inl "java/lang/IllegalArgumentException", S)))
abbrev rmX8_face : Room := { frames := 7, cells := 1, slots := 6, locals := 130 }
set_option maxRecDepth 100000 in
set_option maxHeartbeats 4000000 in
theorem mX8_face {l : Launch} {D : va_G} {cs : Nat → ClassId} {a : Nat → Nat} (hT : l.stackTraces = false) {S : St} {p1 : Int32} {p2 : Int32} {r : String ⊕ Int32} {S' : St} (hF : fX8_face S p1 p2 = some (r, S')) : MX l 113 GX D cs a yX8_face cX8_face 3 (some .int) rmX8_face [.ref (a 0), .int p1, .int p2] S (ocI r) S' := by
  refine zm_entry [(0, .ref (a 0)), (1, .int p1), (2, .int p2)] hT (by decide +kernel) (Nat.le_of_ble_eq_true rfl) rfl (fun E hEl hED hEk C hQ hr => ?_)
  subst hEl
  subst hED
  subst hEk
  unfold fX8_face at hF
  refine z_iload_n 1 (pc := 0) C dX8_face_0 rfl rfl ?_
  refine z_bipush (pc := 1) (v := (10 : Int32)) C dX8_face_1 (by decide) ?_
  refine z_sipush (pc := 3) (v := (200 : Int32)) C dX8_face_3 (by decide) ?_
  obtain ⟨v1, hG, hF⟩ := bn1_of hF
  refine z_callS [.int p1, .int (10 : Int32), .int (200 : Int32)] (pc := 6) (st1 := [.int v1]) (c1 := 0) (s1 := 0) C (mX8_isOut C.hT hG) kX8_62 rfl rfl rfl rfl (Nat.le_of_ble_eq_true rfl) ⟨(Nat.le_of_ble_eq_true rfl), (Nat.le_of_ble_eq_true rfl)⟩ ⟨(Nat.le_of_ble_eq_true rfl), (Nat.le_of_ble_eq_true rfl)⟩ dX8_face_6 rfl rfl ?_
  refine z_if_ne 21 (pc := 9) C dX8_face_9 (by decide) (fun c2 => ?_) (fun c2 => ?_)
  · have hF := if_f hF c2
    exact z_thr (pc := 21) C hQ th_arg st_68 dX8_face_21 dX8_face_24 dX8_face_25 dX8_face_27 dX8_face_30 (by cases hF; rfl) (by cases hF; rfl) (Nat.le_of_ble_eq_true rfl) (Nat.le_of_ble_eq_true rfl) (Nat.le_of_ble_eq_true rfl) (Nat.le_of_ble_eq_true rfl)
  · have hF := if_t hF c2
    refine z_iload_n 2 (pc := 12) C dX8_face_12 rfl rfl ?_
    refine z_iconst (pc := 13) (v := (0 : Int32)) C dX8_face_13 (by decide) ?_
    refine z_iconst (pc := 14) (v := (1 : Int32)) C dX8_face_14 (by decide) ?_
    obtain ⟨v3, hG, hF⟩ := bn1_of hF
    refine z_callS [.int p2, .int (0 : Int32), .int (1 : Int32)] (pc := 15) (st1 := [.int v3]) (c1 := 0) (s1 := 0) C (mX8_isOut C.hT hG) kX8_62 rfl rfl rfl rfl (Nat.le_of_ble_eq_true rfl) ⟨(Nat.le_of_ble_eq_true rfl), (Nat.le_of_ble_eq_true rfl)⟩ ⟨(Nat.le_of_ble_eq_true rfl), (Nat.le_of_ble_eq_true rfl)⟩ dX8_face_15 rfl rfl ?_
    refine z_if_eq 31 (pc := 18) C dX8_face_18 (by decide) (fun c4 => ?_) (fun c4 => ?_)
    · have hF := if_t hF c4
      refine z_aload_n 0 (pc := 31) C dX8_face_31 rfl rfl ?_
      refine gfX8_12 (pc := 32) C (rfl : kdX 0 = 8) dX8_face_32 ?_
      refine gfX8_73 (pc := 35) C (rfl : kdX 1 = 2) dX8_face_35 ?_
      refine z_bipush (pc := 38) (v := (6 : Int32)) C dX8_face_38 (by decide) ?_
      refine z_icmp_lt 53 (pc := 40) C dX8_face_40 (by decide) (fun c5 => ?_) (fun c5 => ?_)
      · have hF := if_t hF c5
        refine z_aload_n 0 (pc := 53) C dX8_face_53 rfl rfl ?_
        refine gfX8_12 (pc := 54) C (rfl : kdX 0 = 8) dX8_face_54 ?_
        refine gfX8_82 (pc := 57) C (rfl : kdX 1 = 2) dX8_face_57 ?_
        refine z_aload_n 0 (pc := 60) C dX8_face_60 rfl rfl ?_
        refine gfX8_12 (pc := 61) C (rfl : kdX 0 = 8) dX8_face_61 ?_
        refine gfX8_73 (pc := 64) C (rfl : kdX 1 = 2) dX8_face_64 ?_
        refine z_iload_n 1 (pc := 67) C dX8_face_67 rfl rfl ?_
        obtain ⟨g6, hF⟩ := gd_of hF
        refine saX6 (pc := 68) C (rfl : kdX 2 = 26) g6 dX8_face_68 ?_
        obtain ⟨S7, e8, hF⟩ := bv_of hF
        rw [← e8]
        refine z_aload_n 0 (pc := 69) C dX8_face_69 rfl rfl ?_
        refine gfX8_12 (pc := 70) C (rfl : kdX 0 = 8) dX8_face_70 ?_
        refine gfX8_85 (pc := 73) C (rfl : kdX 1 = 2) dX8_face_73 ?_
        refine z_aload_n 0 (pc := 76) C dX8_face_76 rfl rfl ?_
        refine gfX8_12 (pc := 77) C (rfl : kdX 0 = 8) dX8_face_77 ?_
        refine gfX8_73 (pc := 80) C (rfl : kdX 1 = 2) dX8_face_80 ?_
        refine z_iload_n 2 (pc := 83) C dX8_face_83 rfl rfl ?_
        obtain ⟨g9, hF⟩ := gd_of hF
        refine saX6 (pc := 84) C (rfl : kdX 3 = 26) g9 dX8_face_84 ?_
        obtain ⟨S10, e11, hF⟩ := bv_of hF
        rw [← e11]
        refine z_aload_n 0 (pc := 85) C dX8_face_85 rfl rfl ?_
        refine gfX8_12 (pc := 86) C (rfl : kdX 0 = 8) dX8_face_86 ?_
        refine z_dup (pc := 89) C dX8_face_89 rfl ?_
        refine gfX8_73 (pc := 90) C (rfl : kdX 1 = 2) dX8_face_90 ?_
        refine z_iconst (pc := 93) (v := (1 : Int32)) C dX8_face_93 (by decide) ?_
        refine z_iadd (pc := 94) C dX8_face_94 ?_
        refine pfX8_73 (pc := 95) C (rfl : kdX 1 = 2) dX8_face_95 ?_
        obtain ⟨S12, e13, hF⟩ := bv_of hF
        rw [← e13]
        refine z_aload_n 0 (pc := 98) C dX8_face_98 rfl rfl ?_
        refine gfX8_12 (pc := 99) C (rfl : kdX 0 = 8) dX8_face_99 ?_
        refine gfX8_73 (pc := 102) C (rfl : kdX 1 = 2) dX8_face_102 ?_
        exact z_iret (pc := 105) C hQ hr rfl dX8_face_105 (by cases hF; rfl) (by cases hF; rfl) (Nat.le_of_ble_eq_true rfl) (Nat.le_of_ble_eq_true rfl)
      · have hF := if_f hF c5
        exact z_thr (pc := 43) C hQ th_sta st_79 dX8_face_43 dX8_face_46 dX8_face_47 dX8_face_49 dX8_face_52 (by cases hF; rfl) (by cases hF; rfl) (Nat.le_of_ble_eq_true rfl) (Nat.le_of_ble_eq_true rfl) (Nat.le_of_ble_eq_true rfl) (Nat.le_of_ble_eq_true rfl)
    · have hF := if_f hF c4
      exact z_thr (pc := 21) C hQ th_arg st_68 dX8_face_21 dX8_face_24 dX8_face_25 dX8_face_27 dX8_face_30 (by cases hF; rfl) (by cases hF; rfl) (Nat.le_of_ble_eq_true rfl) (Nat.le_of_ble_eq_true rfl) (Nat.le_of_ble_eq_true rfl) (Nat.le_of_ble_eq_true rfl)
def fX8_kitsOf_L6 (S : St) (p1 : Int32) (next3 : Int32 → Int32 → Option (Int32)) (v1 : Int32) (v2 : Int32) : Option (Int32) :=
  if (gi S 0 2) ≤ v2 then (
    some v1)
  else (
    bn1 (fX8_hasBit p1 v2) (fun (v7 : Int32) =>
    bn1 (if v7 = 0 then (
      some v1)
    else (
      bn1 (fX8_coatedPieces S v2) (fun (v13 : Int32) =>
      bv ((if v13 < v1 then v13 else v1)) (fun (v14 : Int32) =>
      some v14)))) (fun (v8 : Int32) =>
      bv (v2 + 1) (fun (v9 : Int32) =>
      next3 v8 v9))))
def fX8_kitsOf (S : St) (p1 : Int32) : Option (Int32) :=
  bn1 (lq2 (fX8_kitsOf_L6 S p1) 200 (1000 : Int32) (0 : Int32)) (fun (v4 : Int32) =>
    some (v4))
abbrev rmX8_kitsOf : Room := { frames := 7, cells := 0, slots := 0, locals := 130 }
set_option maxRecDepth 100000 in
set_option maxHeartbeats 4000000 in
theorem mX8_kitsOf {l : Launch} {D : va_G} {cs : Nat → ClassId} {a : Nat → Nat} (hT : l.stackTraces = false) {S : St} {p1 : Int32} {r : Int32} (hF : fX8_kitsOf S p1 = some r) : MX l 113 GX D cs a yX8_kitsOf cX8_kitsOf 4 (some .int) rmX8_kitsOf [.ref (a 0), .int p1] S (.inr (some (.int r))) S := by
  refine zm_entry [(0, .ref (a 0)), (1, .int p1)] hT (by decide +kernel) (Nat.le_of_ble_eq_true rfl) rfl (fun E hEl hED hEk C hQ hr => ?_)
  subst hEl
  subst hED
  subst hEk
  unfold fX8_kitsOf at hF
  refine z_sipush (pc := 0) (v := (1000 : Int32)) C dX8_kitsOf_0 (by decide) ?_
  refine z_istore_n (pc := 3) (loc' := [(2, .int (1000 : Int32)), (0, .ref (a 0)), (1, .int p1)]) C dX8_kitsOf_3 rfl (by decide) rfl ?_
  refine z_iconst (pc := 4) (v := (0 : Int32)) C dX8_kitsOf_4 (by decide) ?_
  refine z_istore_n (pc := 5) (loc' := [(3, .int (0 : Int32)), (2, .int (1000 : Int32)), (0, .ref (a 0)), (1, .int p1)]) C dX8_kitsOf_5 rfl (by decide) rfl ?_
  refine z_sub [2, 3, 1, 0] rfl ?_
  obtain ⟨v4', hR, hF⟩ := bn1_of hF
  have hJ5 : ∀ (v4 : Int32), (some v4 : Option (Int32)) = some v4' → Zz E (WX E a S) 0 0 38 [(2, .int v4)] [] := by
    intro v4 hE
    have hE0 := Option.some.inj hE
    subst hE0
    refine z_iload_n 0 (pc := 38) C dX8_kitsOf_38 rfl rfl ?_
    exact z_iret (pc := 39) C hQ hr rfl dX8_kitsOf_39 (by cases hF; rfl) (by cases hF; rfl) (Nat.le_of_ble_eq_true rfl) (Nat.le_of_ble_eq_true rfl)
  have hF := hR
  clear hR
  refine lq2_W (P := fun (v1 : Int32) (v2 : Int32) => Zz E (WX E a S) 0 0 6 [(0, .ref (a 0)), (1, .int p1), (2, .int v1), (3, .int v2)] []) (fun next3 hN3 v1 v2 hF => ?_) _ _ _ hF
  unfold fX8_kitsOf_L6 at hF
  refine z_iload_n 3 (pc := 6) C dX8_kitsOf_6 rfl rfl ?_
  refine z_aload_n 0 (pc := 7) C dX8_kitsOf_7 rfl rfl ?_
  refine gfX8_95 (pc := 8) C (rfl : kdX 0 = 8) dX8_kitsOf_8 ?_
  refine z_icmp_ge 38 (pc := 11) C dX8_kitsOf_11 (by decide) (fun c6 => ?_) (fun c6 => ?_)
  · have hF := if_t hF c6
    refine z_sub [2] rfl ?_
    exact hJ5 _ hF
  · have hF := if_f hF c6
    refine z_iload_n 1 (pc := 14) C dX8_kitsOf_14 rfl rfl ?_
    refine z_iload_n 3 (pc := 15) C dX8_kitsOf_15 rfl rfl ?_
    obtain ⟨v7, hG, hF⟩ := bn1_of hF
    refine z_callS [.int p1, .int v2] (pc := 16) (st1 := [.int v7]) (c1 := 0) (s1 := 0) C (mX8_hasBit C.hT hG) kX8_329 rfl rfl rfl rfl (Nat.le_of_ble_eq_true rfl) ⟨(Nat.le_of_ble_eq_true rfl), (Nat.le_of_ble_eq_true rfl)⟩ ⟨(Nat.le_of_ble_eq_true rfl), (Nat.le_of_ble_eq_true rfl)⟩ dX8_kitsOf_16 rfl rfl ?_
    obtain ⟨v8', hR, hF⟩ := bn1_of hF
    have hJ11 : ∀ (v8 : Int32), (some v8 : Option (Int32)) = some v8' → Zz E (WX E a S) 0 0 32 [(0, .ref (a 0)), (1, .int p1), (2, .int v8), (3, .int v2)] [] := by
      intro v8 hE
      have hE0 := Option.some.inj hE
      subst hE0
      obtain ⟨v9, e10, hF⟩ := bv_of hF
      refine z_iinc 3 (pc := 32) (v := v9) (loc' := [(3, .int v9), (0, .ref (a 0)), (1, .int p1), (2, .int v8)]) C dX8_kitsOf_32 rfl (by rw [e10]; rfl) (by decide) rfl ?_
      refine z_goto 6 (pc := 35) C dX8_kitsOf_35 (by decide) ?_
      refine z_sub [1, 2, 3, 0] rfl ?_
      exact hN3 _ _ hF
    have hF := hR
    clear hR
    refine z_if_eq 32 (pc := 19) C dX8_kitsOf_19 (by decide) (fun c12 => ?_) (fun c12 => ?_)
    · have hF := if_t hF c12
      exact hJ11 _ hF
    · have hF := if_f hF c12
      refine z_iload_n 2 (pc := 22) C dX8_kitsOf_22 rfl rfl ?_
      refine z_aload_n 0 (pc := 23) C dX8_kitsOf_23 rfl rfl ?_
      refine z_iload_n 3 (pc := 24) C dX8_kitsOf_24 rfl rfl ?_
      obtain ⟨v13, hG, hF⟩ := bn1_of hF
      refine z_callV [.int v2] (pc := 25) (st1 := [.int v13, .int v1]) (c1 := 0) (s1 := 0) C (mX8_coatedPieces C.hT hG) kX8_355 (kdX_lt (rfl : kdX 0 = 8) (by decide)) (gX_8 (rfl : kdX 0 = 8)) rfl rfl rfl rfl (Nat.le_of_ble_eq_true rfl) ⟨(Nat.le_of_ble_eq_true rfl), (Nat.le_of_ble_eq_true rfl)⟩ ⟨(Nat.le_of_ble_eq_true rfl), (Nat.le_of_ble_eq_true rfl)⟩ dX8_kitsOf_25 rfl rfl ?_
      refine z_mmin (pc := 28) C bw_17_22 bw_13_7 bw_13_8 bw_13_9 (Nat.le_of_ble_eq_true rfl) (Nat.le_of_ble_eq_true rfl) (Nat.le_of_ble_eq_true rfl) (Nat.le_of_ble_eq_true rfl) dX8_kitsOf_28 ?_
      obtain ⟨v14, e15, hF⟩ := bv_of hF
      refine z_topi e15 ?_
      refine z_istore_n (pc := 31) (loc' := [(2, .int v14), (0, .ref (a 0)), (1, .int p1), (3, .int v2)]) C dX8_kitsOf_31 rfl (by decide) rfl ?_
      refine z_sub [1, 2, 0, 3] rfl ?_
      exact hJ11 _ hF
def fX8_partAt (S : St) (p1 : Int32) : Option ((String ⊕ Nat)) :=
  bn1 (fX8_isOut p1 (0 : Int32) ((gi S 0 2) - (1 : Int32))) (fun (v1 : Int32) =>
  if v1 = 0 then (
    gd (inb p1 8) (
    some (.inr (pid p1))))
  else (
    some (.inl "java/lang/IndexOutOfBoundsException")))
abbrev rmX8_partAt : Room := { frames := 7, cells := 1, slots := 6, locals := 130 }
set_option maxRecDepth 100000 in
set_option maxHeartbeats 4000000 in
theorem mX8_partAt {l : Launch} {D : va_G} {cs : Nat → ClassId} {a : Nat → Nat} (hT : l.stackTraces = false) {S : St} {p1 : Int32} {r : String ⊕ Nat} (hF : fX8_partAt S p1 = some r) : MX l 113 GX D cs a yX8_partAt cX8_partAt 2 (some (.object "PressbrakeLane$Part")) rmX8_partAt [.ref (a 0), .int p1] S (ocR a r) S := by
  refine zm_entry [(0, .ref (a 0)), (1, .int p1)] hT (by decide +kernel) (Nat.le_of_ble_eq_true rfl) rfl (fun E hEl hED hEk C hQ hr => ?_)
  subst hEl
  subst hED
  subst hEk
  unfold fX8_partAt at hF
  refine z_iload_n 1 (pc := 0) C dX8_partAt_0 rfl rfl ?_
  refine z_iconst (pc := 1) (v := (0 : Int32)) C dX8_partAt_1 (by decide) ?_
  refine z_aload_n 0 (pc := 2) C dX8_partAt_2 rfl rfl ?_
  refine gfX8_95 (pc := 3) C (rfl : kdX 0 = 8) dX8_partAt_3 ?_
  refine z_iconst (pc := 6) (v := (1 : Int32)) C dX8_partAt_6 (by decide) ?_
  refine z_isub (pc := 7) C dX8_partAt_7 ?_
  obtain ⟨v1, hG, hF⟩ := bn1_of hF
  refine z_callS [.int p1, .int (0 : Int32), .int ((gi S 0 2) - (1 : Int32))] (pc := 8) (st1 := [.int v1]) (c1 := 0) (s1 := 0) C (mX8_isOut C.hT hG) kX8_62 rfl rfl rfl rfl (Nat.le_of_ble_eq_true rfl) ⟨(Nat.le_of_ble_eq_true rfl), (Nat.le_of_ble_eq_true rfl)⟩ ⟨(Nat.le_of_ble_eq_true rfl), (Nat.le_of_ble_eq_true rfl)⟩ dX8_partAt_8 rfl rfl ?_
  refine z_if_eq 25 (pc := 11) C dX8_partAt_11 (by decide) (fun c2 => ?_) (fun c2 => ?_)
  · have hF := if_t hF c2
    refine z_aload_n 0 (pc := 25) C dX8_partAt_25 rfl rfl ?_
    refine gfX8_18 (pc := 26) C (rfl : kdX 0 = 8) dX8_partAt_26 ?_
    refine z_iload_n 1 (pc := 29) C dX8_partAt_29 rfl rfl ?_
    obtain ⟨g3, hF⟩ := gd_of hF
    refine aapid (pc := 30) C (rfl : kdX 4 = 11) g3 dX8_partAt_30 ?_
    exact z_aret (pc := 31) C hQ hr dX8_partAt_31 (by cases hF; rfl) (by cases hF; rfl) (Nat.le_of_ble_eq_true rfl) (Nat.le_of_ble_eq_true rfl)
  · have hF := if_f hF c2
    exact z_thrW (pc := 14) C hQ th_ind st_336 dX8_partAt_14 dX8_partAt_17 dX8_partAt_18 dX8_partAt_21 dX8_partAt_24 (by cases hF; rfl) (by cases hF; rfl) (Nat.le_of_ble_eq_true rfl) (Nat.le_of_ble_eq_true rfl) (Nat.le_of_ble_eq_true rfl) (Nat.le_of_ble_eq_true rfl)
theorem qX8_partAt {S : St} {p1 : Int32} {k : Nat} (h : fX8_partAt S p1 = some (.inr k)) : kdX k = 4 := by
  unfold fX8_partAt at h
  obtain ⟨_, -, h⟩ := bn1_of h
  split at h
  · obtain ⟨g1, h⟩ := gd_of h
    cases h
    exact kX_pid g1
  · cases h
def fX8_takePieces_L8 (p1 : Int32) (next5 : Int32 → Int32 → Int32 → St → Option ((Int32 × St))) (v1 : Int32) (v2 : Int32) (v3 : Int32) (S4 : St) : Option ((Int32 × St)) :=
  if (gi S4 0 8) ≤ v3 then (
    some (v2, S4))
  else (
    if v1 ≤ 0 then (
      some (v2, S4))
    else (
      gd (inb v3 20) (
      bn3 (if (gi S4 (bid v3) 0) = p1 then (
        if (gi S4 (bid v3) 2) = (2 : Int32) then (
          if (gi S4 (bid v3) 3) ≤ 0 then (
            some (v1, v2, S4))
          else (
            bv ((if (gi S4 (bid v3) 3) < v1 then (gi S4 (bid v3) 3) else v1)) (fun (v18 : Int32) =>
            bv (si S4 (bid v3) 3 ((gi S4 (bid v3) 3) - v18)) (fun (S20 : St) =>
            bv ((v1 - v18)) (fun (v22 : Int32) =>
            bn1 (if (gi S20 (bid v3) 3) = 0 then (
              some (1 : Int32))
            else (
              some (0 : Int32))) (fun (v24 : Int32) =>
              bv ((v2 + v24)) (fun (v25 : Int32) =>
              some (v22, v25, S20))))))))
        else (
          some (v1, v2, S4)))
      else (
        some (v1, v2, S4))) (fun (v9 : Int32) (v10 : Int32) (S11 : St) =>
        bv (v3 + 1) (fun (v12 : Int32) =>
        next5 v9 v10 v12 S11)))))
def fX8_takePieces (S : St) (p1 : Int32) (p2 : Int32) : Option ((Int32 × St)) :=
  lq4 (fX8_takePieces_L8 p1) 200 p2 (0 : Int32) (0 : Int32) S
abbrev rmX8_takePieces : Room := { frames := 7, cells := 0, slots := 0, locals := 130 }
set_option maxRecDepth 100000 in
set_option maxHeartbeats 4000000 in
theorem mX8_takePieces {l : Launch} {D : va_G} {cs : Nat → ClassId} {a : Nat → Nat} (hT : l.stackTraces = false) {S : St} {p1 : Int32} {p2 : Int32} {r : Int32} {S' : St} (hF : fX8_takePieces S p1 p2 = some (r, S')) : MX l 113 GX D cs a yX8_takePieces cX8_takePieces 8 (some .int) rmX8_takePieces [.ref (a 0), .int p1, .int p2] S (.inr (some (.int r))) S' := by
  refine zm_entry [(0, .ref (a 0)), (1, .int p1), (2, .int p2)] hT (by decide +kernel) (Nat.le_of_ble_eq_true rfl) rfl (fun E hEl hED hEk C hQ hr => ?_)
  subst hEl
  subst hED
  subst hEk
  unfold fX8_takePieces at hF
  refine z_iload_n 2 (pc := 0) C dX8_takePieces_0 rfl rfl ?_
  refine z_istore_n (pc := 1) (loc' := [(3, .int p2), (0, .ref (a 0)), (1, .int p1), (2, .int p2)]) C dX8_takePieces_1 rfl (by decide) rfl ?_
  refine z_iconst (pc := 2) (v := (0 : Int32)) C dX8_takePieces_2 (by decide) ?_
  refine z_istore (pc := 3) (loc' := [(4, .int (0 : Int32)), (3, .int p2), (0, .ref (a 0)), (1, .int p1), (2, .int p2)]) C dX8_takePieces_3 (by decide) rfl ?_
  refine z_iconst (pc := 5) (v := (0 : Int32)) C dX8_takePieces_5 (by decide) ?_
  refine z_istore (pc := 6) (loc' := [(5, .int (0 : Int32)), (4, .int (0 : Int32)), (3, .int p2), (0, .ref (a 0)), (1, .int p1), (2, .int p2)]) C dX8_takePieces_6 (by decide) rfl ?_
  refine z_sub [3, 4, 2, 1, 0] rfl ?_
  refine lq4_W (P := fun (v1 : Int32) (v2 : Int32) (v3 : Int32) (S4 : St) => Zz E (WX E a S4) 0 0 8 [(0, .ref (a 0)), (1, .int p1), (3, .int v1), (4, .int v2), (5, .int v3)] []) (fun next5 hN5 v1 v2 v3 S4 hF => ?_) _ _ _ _ _ hF
  unfold fX8_takePieces_L8 at hF
  refine z_iload 4 (pc := 8) C dX8_takePieces_8 rfl ?_
  refine z_aload_n 0 (pc := 10) C dX8_takePieces_10 rfl rfl ?_
  refine gfX8_286 (pc := 11) C (rfl : kdX 0 = 8) dX8_takePieces_11 ?_
  refine z_icmp_ge 108 (pc := 14) C dX8_takePieces_14 (by decide) (fun c6 => ?_) (fun c6 => ?_)
  · have hF := if_t hF c6
    refine z_iload 3 (pc := 108) C dX8_takePieces_108 rfl ?_
    exact z_iret (pc := 110) C hQ hr rfl dX8_takePieces_110 (by cases hF; rfl) (by cases hF; rfl) (Nat.le_of_ble_eq_true rfl) (Nat.le_of_ble_eq_true rfl)
  · have hF := if_f hF c6
    refine z_iload_n 2 (pc := 17) C dX8_takePieces_17 rfl rfl ?_
    refine z_if_le 108 (pc := 18) C dX8_takePieces_18 (by decide) (fun c7 => ?_) (fun c7 => ?_)
    · have hF := if_t hF c7
      refine z_iload 3 (pc := 108) C dX8_takePieces_108 rfl ?_
      exact z_iret (pc := 110) C hQ hr rfl dX8_takePieces_110 (by cases hF; rfl) (by cases hF; rfl) (Nat.le_of_ble_eq_true rfl) (Nat.le_of_ble_eq_true rfl)
    · have hF := if_f hF c7
      refine z_aload_n 0 (pc := 21) C dX8_takePieces_21 rfl rfl ?_
      refine gfX8_34 (pc := 22) C (rfl : kdX 0 = 8) dX8_takePieces_22 ?_
      refine z_iload 4 (pc := 25) C dX8_takePieces_25 rfl ?_
      obtain ⟨g8, hF⟩ := gd_of hF
      refine aabid (pc := 27) C (rfl : kdX 7 = 13) g8 dX8_takePieces_27 ?_
      refine z_astore (pc := 28) (loc' := [(6, .ref (a (bid v3))), (0, .ref (a 0)), (1, .int p1), (3, .int v1), (4, .int v2), (5, .int v3)]) C dX8_takePieces_28 (by decide) rfl ?_
      refine z_aload 0 (pc := 30) C dX8_takePieces_30 rfl ?_
      refine gfX8_291 (pc := 32) C (kX_bid g8) dX8_takePieces_32 ?_
      refine z_iload_n 2 (pc := 35) C dX8_takePieces_35 rfl rfl ?_
      obtain ⟨v9', v10', S11', hR, hF⟩ := bn3_of hF
      have hJ14 : ∀ (v9 : Int32) (v10 : Int32) (S11 : St), (some (v9, v10, S11) : Option (Int32 × Int32 × St)) = some (v9', v10', S11') → Zz E (WX E a S11) 0 0 102 [(0, .ref (a 0)), (1, .int p1), (3, .int v9), (4, .int v10), (5, .int v3)] [] := by
        intro v9 v10 S11 hE
        have hE0 := Option.some.inj hE
        obtain ⟨hA0, hE1⟩ := Prod.mk.inj hE0
        obtain ⟨hA1, hE2⟩ := Prod.mk.inj hE1
        subst hA0
        subst hA1
        subst hE2
        obtain ⟨v12, e13, hF⟩ := bv_of hF
        refine z_iinc 4 (pc := 102) (v := v12) (loc' := [(5, .int v12), (0, .ref (a 0)), (1, .int p1), (3, .int v9), (4, .int v10)]) C dX8_takePieces_102 rfl (by rw [e13]; rfl) (by decide) rfl ?_
        refine z_goto 8 (pc := 105) C dX8_takePieces_105 (by decide) ?_
        refine z_sub [1, 2, 3, 4, 0] rfl ?_
        exact hN5 _ _ _ _ hF
      have hF := hR
      clear hR
      refine z_icmp_ne 102 (pc := 36) C dX8_takePieces_36 (by decide) (fun c15 => ?_) (fun c15 => ?_)
      · have hF := if_f hF c15
        refine z_sub [1, 2, 3, 4, 5] rfl ?_
        exact hJ14 _ _ _ hF
      · have hF := if_t hF c15
        refine z_aload 0 (pc := 39) C dX8_takePieces_39 rfl ?_
        refine gfX8_297 (pc := 41) C (kX_bid g8) dX8_takePieces_41 ?_
        refine z_iconst (pc := 44) (v := (2 : Int32)) C dX8_takePieces_44 (by decide) ?_
        refine z_icmp_ne 102 (pc := 45) C dX8_takePieces_45 (by decide) (fun c16 => ?_) (fun c16 => ?_)
        · have hF := if_f hF c16
          refine z_sub [1, 2, 3, 4, 5] rfl ?_
          exact hJ14 _ _ _ hF
        · have hF := if_t hF c16
          refine z_aload 0 (pc := 48) C dX8_takePieces_48 rfl ?_
          refine gfX8_300 (pc := 50) C (kX_bid g8) dX8_takePieces_50 ?_
          refine z_if_le 102 (pc := 53) C dX8_takePieces_53 (by decide) (fun c17 => ?_) (fun c17 => ?_)
          · have hF := if_t hF c17
            refine z_sub [1, 2, 3, 4, 5] rfl ?_
            exact hJ14 _ _ _ hF
          · have hF := if_f hF c17
            refine z_iload_n 3 (pc := 56) C dX8_takePieces_56 rfl rfl ?_
            refine z_aload 0 (pc := 57) C dX8_takePieces_57 rfl ?_
            refine gfX8_300 (pc := 59) C (kX_bid g8) dX8_takePieces_59 ?_
            refine z_mmin (pc := 62) C bw_17_22 bw_13_7 bw_13_8 bw_13_9 (Nat.le_of_ble_eq_true rfl) (Nat.le_of_ble_eq_true rfl) (Nat.le_of_ble_eq_true rfl) (Nat.le_of_ble_eq_true rfl) dX8_takePieces_62 ?_
            obtain ⟨v18, e19, hF⟩ := bv_of hF
            refine z_topi e19 ?_
            refine z_istore (pc := 65) (loc' := [(7, .int v18), (6, .ref (a (bid v3))), (0, .ref (a 0)), (1, .int p1), (3, .int v1), (4, .int v2), (5, .int v3)]) C dX8_takePieces_65 (by decide) rfl ?_
            refine z_aload 1 (pc := 67) C dX8_takePieces_67 rfl ?_
            refine z_dup (pc := 69) C dX8_takePieces_69 rfl ?_
            refine gfX8_300 (pc := 70) C (kX_bid g8) dX8_takePieces_70 ?_
            refine z_iload 0 (pc := 73) C dX8_takePieces_73 rfl ?_
            refine z_isub (pc := 75) C dX8_takePieces_75 ?_
            refine pfX8_300 (pc := 76) C (kX_bid g8) dX8_takePieces_76 ?_
            obtain ⟨S20, e21, hF⟩ := bv_of hF
            rw [← e21]
            refine z_iload_n 4 (pc := 79) C dX8_takePieces_79 rfl rfl ?_
            refine z_iload 0 (pc := 80) C dX8_takePieces_80 rfl ?_
            refine z_isub (pc := 82) C dX8_takePieces_82 ?_
            obtain ⟨v22, e23, hF⟩ := bv_of hF
            refine z_topi e23 ?_
            refine z_istore_n (pc := 83) (loc' := [(3, .int v22), (7, .int v18), (6, .ref (a (bid v3))), (0, .ref (a 0)), (1, .int p1), (4, .int v2), (5, .int v3)]) C dX8_takePieces_83 rfl (by decide) rfl ?_
            refine z_iload 5 (pc := 84) C dX8_takePieces_84 rfl ?_
            refine z_aload 2 (pc := 86) C dX8_takePieces_86 rfl ?_
            refine gfX8_300 (pc := 88) C (kX_bid g8) dX8_takePieces_88 ?_
            obtain ⟨v24', hR, hF⟩ := bn1_of hF
            have hJ27 : ∀ (v24 : Int32), (some v24 : Option (Int32)) = some v24' → Zz E (WX E a S20) 0 0 99 [(0, .ref (a 0)), (1, .int p1), (3, .int v22), (5, .int v3)] [.int v24, .int v2] := by
              intro v24 hE
              have hE0 := Option.some.inj hE
              subst hE0
              refine z_iadd (pc := 99) C dX8_takePieces_99 ?_
              obtain ⟨v25, e26, hF⟩ := bv_of hF
              refine z_topi e26 ?_
              refine z_istore (pc := 100) (loc' := [(4, .int v25), (0, .ref (a 0)), (1, .int p1), (3, .int v22), (5, .int v3)]) C dX8_takePieces_100 (by decide) rfl ?_
              refine z_sub [1, 2, 3, 0, 4] rfl ?_
              exact hJ14 _ _ _ hF
            have hF := hR
            clear hR
            refine z_if_ne 98 (pc := 91) C dX8_takePieces_91 (by decide) (fun c28 => ?_) (fun c28 => ?_)
            · have hF := if_f hF c28
              refine z_iconst (pc := 98) (v := (0 : Int32)) C dX8_takePieces_98 (by decide) ?_
              refine z_sub [3, 4, 0, 6] rfl ?_
              exact hJ27 _ hF
            · have hF := if_t hF c28
              refine z_iconst (pc := 94) (v := (1 : Int32)) C dX8_takePieces_94 (by decide) ?_
              refine z_goto 99 (pc := 95) C dX8_takePieces_95 (by decide) ?_
              refine z_sub [3, 4, 0, 6] rfl ?_
              exact hJ27 _ hF
def fX8_tool (S : St) (p1 : Int32) (p2 : Int32) (p3 : Int32) (p4 : Int32) (p5 : Int32) : Option (((String ⊕ Int32) × St)) :=
  bn1 (fX8_isOut p1 (4 : Int32) (60 : Int32)) (fun (v1 : Int32) =>
  if v1 = 0 then (
    bn1 (fX8_isOut p2 (0 : Int32) (30 : Int32)) (fun (v3 : Int32) =>
    if v3 = 0 then (
      bn1 (fX8_isOut p3 (10 : Int32) (200 : Int32)) (fun (v5 : Int32) =>
      if v5 = 0 then (
        bn1 (fX8_isOut p4 (10 : Int32) (200 : Int32)) (fun (v7 : Int32) =>
        if v7 = 0 then (
          bn1 (fX8_isOut p5 (20 : Int32) (600 : Int32)) (fun (v9 : Int32) =>
          if v9 = 0 then (
            if (gi S 0 4) < (4 : Int32) then (
              gd (inb (gi S 0 4) 4) (
              bv (si S (tid (gi S 0 4)) 0 p1) (fun (S13 : St) =>
              bv (si S13 (tid (gi S 0 4)) 1 p2) (fun (S15 : St) =>
              bv (si S15 (tid (gi S 0 4)) 2 p3) (fun (S17 : St) =>
              bv (si S17 (tid (gi S 0 4)) 3 p4) (fun (S19 : St) =>
              bv (si S19 (tid (gi S 0 4)) 4 p5) (fun (S21 : St) =>
              bv (si S21 0 4 ((gi S21 0 4) + (1 : Int32))) (fun (S23 : St) =>
              some (.inr ((gi S23 0 4) - (1 : Int32)), S23)))))))))
            else (
              some (.inl "java/lang/IllegalStateException", S)))
          else (
            some (.inl "java/lang/IllegalArgumentException", S))))
        else (
          some (.inl "java/lang/IllegalArgumentException", S))))
      else (
        some (.inl "java/lang/IllegalArgumentException", S))))
    else (
      some (.inl "java/lang/IllegalArgumentException", S))))
  else (
    some (.inl "java/lang/IllegalArgumentException", S)))
abbrev rmX8_tool : Room := { frames := 7, cells := 1, slots := 6, locals := 130 }
set_option maxRecDepth 100000 in
set_option maxHeartbeats 4000000 in
theorem mX8_tool {l : Launch} {D : va_G} {cs : Nat → ClassId} {a : Nat → Nat} (hT : l.stackTraces = false) {S : St} {p1 : Int32} {p2 : Int32} {p3 : Int32} {p4 : Int32} {p5 : Int32} {r : String ⊕ Int32} {S' : St} (hF : fX8_tool S p1 p2 p3 p4 p5 = some (r, S')) : MX l 113 GX D cs a yX8_tool cX8_tool 7 (some .int) rmX8_tool [.ref (a 0), .int p1, .int p2, .int p3, .int p4, .int p5] S (ocI r) S' := by
  refine zm_entry [(0, .ref (a 0)), (1, .int p1), (2, .int p2), (3, .int p3), (4, .int p4), (5, .int p5)] hT (by decide +kernel) (Nat.le_of_ble_eq_true rfl) rfl (fun E hEl hED hEk C hQ hr => ?_)
  subst hEl
  subst hED
  subst hEk
  unfold fX8_tool at hF
  refine z_iload_n 1 (pc := 0) C dX8_tool_0 rfl rfl ?_
  refine z_iconst (pc := 1) (v := (4 : Int32)) C dX8_tool_1 (by decide) ?_
  refine z_bipush (pc := 2) (v := (60 : Int32)) C dX8_tool_2 (by decide) ?_
  obtain ⟨v1, hG, hF⟩ := bn1_of hF
  refine z_callS [.int p1, .int (4 : Int32), .int (60 : Int32)] (pc := 4) (st1 := [.int v1]) (c1 := 0) (s1 := 0) C (mX8_isOut C.hT hG) kX8_62 rfl rfl rfl rfl (Nat.le_of_ble_eq_true rfl) ⟨(Nat.le_of_ble_eq_true rfl), (Nat.le_of_ble_eq_true rfl)⟩ ⟨(Nat.le_of_ble_eq_true rfl), (Nat.le_of_ble_eq_true rfl)⟩ dX8_tool_4 rfl rfl ?_
  refine z_if_ne 58 (pc := 7) C dX8_tool_7 (by decide) (fun c2 => ?_) (fun c2 => ?_)
  · have hF := if_f hF c2
    exact z_thr (pc := 58) C hQ th_arg st_164 dX8_tool_58 dX8_tool_61 dX8_tool_62 dX8_tool_64 dX8_tool_67 (by cases hF; rfl) (by cases hF; rfl) (Nat.le_of_ble_eq_true rfl) (Nat.le_of_ble_eq_true rfl) (Nat.le_of_ble_eq_true rfl) (Nat.le_of_ble_eq_true rfl)
  · have hF := if_t hF c2
    refine z_iload_n 2 (pc := 10) C dX8_tool_10 rfl rfl ?_
    refine z_iconst (pc := 11) (v := (0 : Int32)) C dX8_tool_11 (by decide) ?_
    refine z_bipush (pc := 12) (v := (30 : Int32)) C dX8_tool_12 (by decide) ?_
    obtain ⟨v3, hG, hF⟩ := bn1_of hF
    refine z_callS [.int p2, .int (0 : Int32), .int (30 : Int32)] (pc := 14) (st1 := [.int v3]) (c1 := 0) (s1 := 0) C (mX8_isOut C.hT hG) kX8_62 rfl rfl rfl rfl (Nat.le_of_ble_eq_true rfl) ⟨(Nat.le_of_ble_eq_true rfl), (Nat.le_of_ble_eq_true rfl)⟩ ⟨(Nat.le_of_ble_eq_true rfl), (Nat.le_of_ble_eq_true rfl)⟩ dX8_tool_14 rfl rfl ?_
    refine z_if_ne 58 (pc := 17) C dX8_tool_17 (by decide) (fun c4 => ?_) (fun c4 => ?_)
    · have hF := if_f hF c4
      exact z_thr (pc := 58) C hQ th_arg st_164 dX8_tool_58 dX8_tool_61 dX8_tool_62 dX8_tool_64 dX8_tool_67 (by cases hF; rfl) (by cases hF; rfl) (Nat.le_of_ble_eq_true rfl) (Nat.le_of_ble_eq_true rfl) (Nat.le_of_ble_eq_true rfl) (Nat.le_of_ble_eq_true rfl)
    · have hF := if_t hF c4
      refine z_iload_n 3 (pc := 20) C dX8_tool_20 rfl rfl ?_
      refine z_bipush (pc := 21) (v := (10 : Int32)) C dX8_tool_21 (by decide) ?_
      refine z_sipush (pc := 23) (v := (200 : Int32)) C dX8_tool_23 (by decide) ?_
      obtain ⟨v5, hG, hF⟩ := bn1_of hF
      refine z_callS [.int p3, .int (10 : Int32), .int (200 : Int32)] (pc := 26) (st1 := [.int v5]) (c1 := 0) (s1 := 0) C (mX8_isOut C.hT hG) kX8_62 rfl rfl rfl rfl (Nat.le_of_ble_eq_true rfl) ⟨(Nat.le_of_ble_eq_true rfl), (Nat.le_of_ble_eq_true rfl)⟩ ⟨(Nat.le_of_ble_eq_true rfl), (Nat.le_of_ble_eq_true rfl)⟩ dX8_tool_26 rfl rfl ?_
      refine z_if_ne 58 (pc := 29) C dX8_tool_29 (by decide) (fun c6 => ?_) (fun c6 => ?_)
      · have hF := if_f hF c6
        exact z_thr (pc := 58) C hQ th_arg st_164 dX8_tool_58 dX8_tool_61 dX8_tool_62 dX8_tool_64 dX8_tool_67 (by cases hF; rfl) (by cases hF; rfl) (Nat.le_of_ble_eq_true rfl) (Nat.le_of_ble_eq_true rfl) (Nat.le_of_ble_eq_true rfl) (Nat.le_of_ble_eq_true rfl)
      · have hF := if_t hF c6
        refine z_iload 4 (pc := 32) C dX8_tool_32 rfl ?_
        refine z_bipush (pc := 34) (v := (10 : Int32)) C dX8_tool_34 (by decide) ?_
        refine z_sipush (pc := 36) (v := (200 : Int32)) C dX8_tool_36 (by decide) ?_
        obtain ⟨v7, hG, hF⟩ := bn1_of hF
        refine z_callS [.int p4, .int (10 : Int32), .int (200 : Int32)] (pc := 39) (st1 := [.int v7]) (c1 := 0) (s1 := 0) C (mX8_isOut C.hT hG) kX8_62 rfl rfl rfl rfl (Nat.le_of_ble_eq_true rfl) ⟨(Nat.le_of_ble_eq_true rfl), (Nat.le_of_ble_eq_true rfl)⟩ ⟨(Nat.le_of_ble_eq_true rfl), (Nat.le_of_ble_eq_true rfl)⟩ dX8_tool_39 rfl rfl ?_
        refine z_if_ne 58 (pc := 42) C dX8_tool_42 (by decide) (fun c8 => ?_) (fun c8 => ?_)
        · have hF := if_f hF c8
          exact z_thr (pc := 58) C hQ th_arg st_164 dX8_tool_58 dX8_tool_61 dX8_tool_62 dX8_tool_64 dX8_tool_67 (by cases hF; rfl) (by cases hF; rfl) (Nat.le_of_ble_eq_true rfl) (Nat.le_of_ble_eq_true rfl) (Nat.le_of_ble_eq_true rfl) (Nat.le_of_ble_eq_true rfl)
        · have hF := if_t hF c8
          refine z_iload 5 (pc := 45) C dX8_tool_45 rfl ?_
          refine z_bipush (pc := 47) (v := (20 : Int32)) C dX8_tool_47 (by decide) ?_
          refine z_sipush (pc := 49) (v := (600 : Int32)) C dX8_tool_49 (by decide) ?_
          obtain ⟨v9, hG, hF⟩ := bn1_of hF
          refine z_callS [.int p5, .int (20 : Int32), .int (600 : Int32)] (pc := 52) (st1 := [.int v9]) (c1 := 0) (s1 := 0) C (mX8_isOut C.hT hG) kX8_62 rfl rfl rfl rfl (Nat.le_of_ble_eq_true rfl) ⟨(Nat.le_of_ble_eq_true rfl), (Nat.le_of_ble_eq_true rfl)⟩ ⟨(Nat.le_of_ble_eq_true rfl), (Nat.le_of_ble_eq_true rfl)⟩ dX8_tool_52 rfl rfl ?_
          refine z_if_eq 68 (pc := 55) C dX8_tool_55 (by decide) (fun c10 => ?_) (fun c10 => ?_)
          · have hF := if_t hF c10
            refine z_aload_n 0 (pc := 68) C dX8_tool_68 rfl rfl ?_
            refine gfX8_166 (pc := 69) C (rfl : kdX 0 = 8) dX8_tool_69 ?_
            refine z_iconst (pc := 72) (v := (4 : Int32)) C dX8_tool_72 (by decide) ?_
            refine z_icmp_lt 86 (pc := 73) C dX8_tool_73 (by decide) (fun c11 => ?_) (fun c11 => ?_)
            · have hF := if_t hF c11
              refine z_aload_n 0 (pc := 86) C dX8_tool_86 rfl rfl ?_
              refine gfX8_24 (pc := 87) C (rfl : kdX 0 = 8) dX8_tool_87 ?_
              refine z_aload_n 0 (pc := 90) C dX8_tool_90 rfl rfl ?_
              refine gfX8_166 (pc := 91) C (rfl : kdX 0 = 8) dX8_tool_91 ?_
              obtain ⟨g12, hF⟩ := gd_of hF
              refine aatid (pc := 94) C (rfl : kdX 5 = 12) g12 dX8_tool_94 ?_
              refine z_astore (pc := 95) (loc' := [(6, .ref (a (tid (gi S 0 4)))), (0, .ref (a 0)), (1, .int p1), (2, .int p2), (3, .int p3), (4, .int p4), (5, .int p5)]) C dX8_tool_95 (by decide) rfl ?_
              refine z_aload 0 (pc := 97) C dX8_tool_97 rfl ?_
              refine z_iload_n 2 (pc := 99) C dX8_tool_99 rfl rfl ?_
              refine pfX8_171 (pc := 100) C (kX_tid g12) dX8_tool_100 ?_
              obtain ⟨S13, e14, hF⟩ := bv_of hF
              rw [← e14]
              refine z_aload 0 (pc := 103) C dX8_tool_103 rfl ?_
              refine z_iload_n 3 (pc := 105) C dX8_tool_105 rfl rfl ?_
              refine pfX8_174 (pc := 106) C (kX_tid g12) dX8_tool_106 ?_
              obtain ⟨S15, e16, hF⟩ := bv_of hF
              rw [← e16]
              refine z_aload 0 (pc := 109) C dX8_tool_109 rfl ?_
              refine z_iload_n 4 (pc := 111) C dX8_tool_111 rfl rfl ?_
              refine pfX8_177 (pc := 112) C (kX_tid g12) dX8_tool_112 ?_
              obtain ⟨S17, e18, hF⟩ := bv_of hF
              rw [← e18]
              refine z_aload 0 (pc := 115) C dX8_tool_115 rfl ?_
              refine z_iload 5 (pc := 117) C dX8_tool_117 rfl ?_
              refine pfX8_180 (pc := 119) C (kX_tid g12) dX8_tool_119 ?_
              obtain ⟨S19, e20, hF⟩ := bv_of hF
              rw [← e20]
              refine z_aload 0 (pc := 122) C dX8_tool_122 rfl ?_
              refine z_iload 6 (pc := 124) C dX8_tool_124 rfl ?_
              refine pfX8_183 (pc := 126) C (kX_tid g12) dX8_tool_126 ?_
              obtain ⟨S21, e22, hF⟩ := bv_of hF
              rw [← e22]
              refine z_aload_n 1 (pc := 129) C dX8_tool_129 rfl rfl ?_
              refine z_dup (pc := 130) C dX8_tool_130 rfl ?_
              refine gfX8_166 (pc := 131) C (rfl : kdX 0 = 8) dX8_tool_131 ?_
              refine z_iconst (pc := 134) (v := (1 : Int32)) C dX8_tool_134 (by decide) ?_
              refine z_iadd (pc := 135) C dX8_tool_135 ?_
              refine pfX8_166 (pc := 136) C (rfl : kdX 0 = 8) dX8_tool_136 ?_
              obtain ⟨S23, e24, hF⟩ := bv_of hF
              rw [← e24]
              refine z_aload_n 1 (pc := 139) C dX8_tool_139 rfl rfl ?_
              refine gfX8_166 (pc := 140) C (rfl : kdX 0 = 8) dX8_tool_140 ?_
              refine z_iconst (pc := 143) (v := (1 : Int32)) C dX8_tool_143 (by decide) ?_
              refine z_isub (pc := 144) C dX8_tool_144 ?_
              exact z_iret (pc := 145) C hQ hr rfl dX8_tool_145 (by cases hF; rfl) (by cases hF; rfl) (Nat.le_of_ble_eq_true rfl) (Nat.le_of_ble_eq_true rfl)
            · have hF := if_f hF c11
              exact z_thr (pc := 76) C hQ th_sta st_169 dX8_tool_76 dX8_tool_79 dX8_tool_80 dX8_tool_82 dX8_tool_85 (by cases hF; rfl) (by cases hF; rfl) (Nat.le_of_ble_eq_true rfl) (Nat.le_of_ble_eq_true rfl) (Nat.le_of_ble_eq_true rfl) (Nat.le_of_ble_eq_true rfl)
          · have hF := if_f hF c10
            exact z_thr (pc := 58) C hQ th_arg st_164 dX8_tool_58 dX8_tool_61 dX8_tool_62 dX8_tool_64 dX8_tool_67 (by cases hF; rfl) (by cases hF; rfl) (Nat.le_of_ble_eq_true rfl) (Nat.le_of_ble_eq_true rfl) (Nat.le_of_ble_eq_true rfl) (Nat.le_of_ble_eq_true rfl)
def fX8_toolAt (S : St) (p1 : Int32) : Option ((String ⊕ Nat)) :=
  bn1 (fX8_isOut p1 (0 : Int32) ((gi S 0 4) - (1 : Int32))) (fun (v1 : Int32) =>
  if v1 = 0 then (
    gd (inb p1 4) (
    some (.inr (tid p1))))
  else (
    some (.inl "java/lang/IndexOutOfBoundsException")))
abbrev rmX8_toolAt : Room := { frames := 7, cells := 1, slots := 6, locals := 130 }
set_option maxRecDepth 100000 in
set_option maxHeartbeats 4000000 in
theorem mX8_toolAt {l : Launch} {D : va_G} {cs : Nat → ClassId} {a : Nat → Nat} (hT : l.stackTraces = false) {S : St} {p1 : Int32} {r : String ⊕ Nat} (hF : fX8_toolAt S p1 = some r) : MX l 113 GX D cs a yX8_toolAt cX8_toolAt 2 (some (.object "PressbrakeLane$Tool")) rmX8_toolAt [.ref (a 0), .int p1] S (ocR a r) S := by
  refine zm_entry [(0, .ref (a 0)), (1, .int p1)] hT (by decide +kernel) (Nat.le_of_ble_eq_true rfl) rfl (fun E hEl hED hEk C hQ hr => ?_)
  subst hEl
  subst hED
  subst hEk
  unfold fX8_toolAt at hF
  refine z_iload_n 1 (pc := 0) C dX8_toolAt_0 rfl rfl ?_
  refine z_iconst (pc := 1) (v := (0 : Int32)) C dX8_toolAt_1 (by decide) ?_
  refine z_aload_n 0 (pc := 2) C dX8_toolAt_2 rfl rfl ?_
  refine gfX8_166 (pc := 3) C (rfl : kdX 0 = 8) dX8_toolAt_3 ?_
  refine z_iconst (pc := 6) (v := (1 : Int32)) C dX8_toolAt_6 (by decide) ?_
  refine z_isub (pc := 7) C dX8_toolAt_7 ?_
  obtain ⟨v1, hG, hF⟩ := bn1_of hF
  refine z_callS [.int p1, .int (0 : Int32), .int ((gi S 0 4) - (1 : Int32))] (pc := 8) (st1 := [.int v1]) (c1 := 0) (s1 := 0) C (mX8_isOut C.hT hG) kX8_62 rfl rfl rfl rfl (Nat.le_of_ble_eq_true rfl) ⟨(Nat.le_of_ble_eq_true rfl), (Nat.le_of_ble_eq_true rfl)⟩ ⟨(Nat.le_of_ble_eq_true rfl), (Nat.le_of_ble_eq_true rfl)⟩ dX8_toolAt_8 rfl rfl ?_
  refine z_if_eq 25 (pc := 11) C dX8_toolAt_11 (by decide) (fun c2 => ?_) (fun c2 => ?_)
  · have hF := if_t hF c2
    refine z_aload_n 0 (pc := 25) C dX8_toolAt_25 rfl rfl ?_
    refine gfX8_24 (pc := 26) C (rfl : kdX 0 = 8) dX8_toolAt_26 ?_
    refine z_iload_n 1 (pc := 29) C dX8_toolAt_29 rfl rfl ?_
    obtain ⟨g3, hF⟩ := gd_of hF
    refine aatid (pc := 30) C (rfl : kdX 5 = 12) g3 dX8_toolAt_30 ?_
    exact z_aret (pc := 31) C hQ hr dX8_toolAt_31 (by cases hF; rfl) (by cases hF; rfl) (Nat.le_of_ble_eq_true rfl) (Nat.le_of_ble_eq_true rfl)
  · have hF := if_f hF c2
    exact z_thrW (pc := 14) C hQ th_ind st_338 dX8_toolAt_14 dX8_toolAt_17 dX8_toolAt_18 dX8_toolAt_21 dX8_toolAt_24 (by cases hF; rfl) (by cases hF; rfl) (Nat.le_of_ble_eq_true rfl) (Nat.le_of_ble_eq_true rfl) (Nat.le_of_ble_eq_true rfl) (Nat.le_of_ble_eq_true rfl)
theorem qX8_toolAt {S : St} {p1 : Int32} {k : Nat} (h : fX8_toolAt S p1 = some (.inr k)) : kdX k = 6 := by
  unfold fX8_toolAt at h
  obtain ⟨_, -, h⟩ := bn1_of h
  split at h
  · obtain ⟨g1, h⟩ := gd_of h
    cases h
    exact kX_tid g1
  · cases h
def fX1_reason (S : St) (k1 : Nat) (k2 : Nat) (p3 : Int32) (p4 : Int32) : Option ((Int32 × St)) :=
  bn1 (fX7_unroll S 9 (k1 + 1) p3 p4 (1 : Int32)) (fun (S1 : St) =>
  bn1 (fX7_unroll S1 12 (k1 + 1) p3 p4 (0 : Int32)) (fun (S2 : St) =>
  if (((gi S2 k2 0) / (2 : Int32)) + (gi S2 k1 2)) ≤ (if (gi S2 12 3) < (gi S2 9 3) then (gi S2 12 3) else (gi S2 9 3)) then (
    if (if (gi S2 12 3) < (gi S2 9 3) then (gi S2 12 3) else (gi S2 9 3)) ≤ (gi S2 k2 4) then (
      bn1 (fX7_hitsPunch S2 9 (gi S2 k2 1)) (fun (v5 : Int32) =>
      if v5 = 0 then (
        bn1 (fX7_hitsPunch S2 12 (gi S2 k2 1)) (fun (v7 : Int32) =>
        if v7 = 0 then (
          bn1 (fX7_hitsTable S2 9 (gi S2 k2 2) (gi S2 k2 3)) (fun (v9 : Int32) =>
          if v9 = 0 then (
            bn1 (fX7_hitsTable S2 12 (gi S2 k2 2) (gi S2 k2 3)) (fun (v11 : Int32) =>
            if v11 = 0 then (
              some ((0 : Int32), S2))
            else (
              some ((4 : Int32), S2))))
          else (
            some ((4 : Int32), S2))))
        else (
          some ((3 : Int32), S2))))
      else (
        some ((3 : Int32), S2))))
    else (
      some ((2 : Int32), S2)))
  else (
    some ((1 : Int32), S2))))
abbrev rmX1_reason : Room := { frames := 8, cells := 0, slots := 0, locals := 170 }
set_option maxRecDepth 100000 in
set_option maxHeartbeats 4000000 in
theorem mX1_reason {l : Launch} {D : va_G} {cs : Nat → ClassId} {a : Nat → Nat} (hT : l.stackTraces = false) {S : St} {k1 : Nat} {k2 : Nat} {p3 : Int32} {p4 : Int32} {r : Int32} {S' : St} (hk1 : kdX k1 = 4) (hk2 : kdX k2 = 6) (hF : fX1_reason S k1 k2 p3 p4 = some (r, S')) : MX l 113 GX D cs a yX1_reason cX1_reason 5 (some .int) rmX1_reason [.ref (a 8), .ref (a k1), .ref (a k2), .int p3, .int p4] S (.inr (some (.int r))) S' := by
  refine zm_entry [(0, .ref (a 8)), (1, .ref (a k1)), (2, .ref (a k2)), (3, .int p3), (4, .int p4)] hT (by decide +kernel) (Nat.le_of_ble_eq_true rfl) rfl (fun E hEl hED hEk C hQ hr => ?_)
  subst hEl
  subst hED
  subst hEk
  unfold fX1_reason at hF
  refine z_aload_n 0 (pc := 0) C dX1_reason_0 rfl rfl ?_
  refine gfX1_12 (pc := 1) C (rfl : kdX 8 = 1) dX1_reason_1 ?_
  refine z_aload_n 1 (pc := 4) C dX1_reason_4 rfl rfl ?_
  refine gfX1_21 (pc := 5) C hk1 dX1_reason_5 ?_
  refine z_iload_n 3 (pc := 8) C dX1_reason_8 rfl rfl ?_
  refine z_iload 4 (pc := 9) C dX1_reason_9 rfl ?_
  refine z_iconst (pc := 11) (v := (1 : Int32)) C dX1_reason_11 (by decide) ?_
  obtain ⟨S1, hG, hF⟩ := bn1_of hF
  refine z_callV [.ref (a (k1 + 1)), .int p3, .int p4, .int (1 : Int32)] (pc := 12) (st1 := []) (c1 := 0) (s1 := 0) C (mX7_unroll C.hT (rfl : kdX 9 = 7) (kX_4_0 hk1) hG) kX1_27 (kdX_lt (rfl : kdX 9 = 7) (by decide)) (gX_7 (rfl : kdX 9 = 7)) rfl rfl rfl rfl (Nat.le_of_ble_eq_true rfl) ⟨(Nat.le_of_ble_eq_true rfl), (Nat.le_of_ble_eq_true rfl)⟩ ⟨(Nat.le_of_ble_eq_true rfl), (Nat.le_of_ble_eq_true rfl)⟩ dX1_reason_12 rfl rfl ?_
  refine z_aload_n 0 (pc := 15) C dX1_reason_15 rfl rfl ?_
  refine gfX1_18 (pc := 16) C (rfl : kdX 8 = 1) dX1_reason_16 ?_
  refine z_aload_n 1 (pc := 19) C dX1_reason_19 rfl rfl ?_
  refine gfX1_21 (pc := 20) C hk1 dX1_reason_20 ?_
  refine z_iload_n 3 (pc := 23) C dX1_reason_23 rfl rfl ?_
  refine z_iload 4 (pc := 24) C dX1_reason_24 rfl ?_
  refine z_iconst (pc := 26) (v := (0 : Int32)) C dX1_reason_26 (by decide) ?_
  obtain ⟨S2, hG, hF⟩ := bn1_of hF
  refine z_callV [.ref (a (k1 + 1)), .int p3, .int p4, .int (0 : Int32)] (pc := 27) (st1 := []) (c1 := 0) (s1 := 0) C (mX7_unroll C.hT (rfl : kdX 12 = 7) (kX_4_0 hk1) hG) kX1_27 (kdX_lt (rfl : kdX 12 = 7) (by decide)) (gX_7 (rfl : kdX 12 = 7)) rfl rfl rfl rfl (Nat.le_of_ble_eq_true rfl) ⟨(Nat.le_of_ble_eq_true rfl), (Nat.le_of_ble_eq_true rfl)⟩ ⟨(Nat.le_of_ble_eq_true rfl), (Nat.le_of_ble_eq_true rfl)⟩ dX1_reason_27 rfl rfl ?_
  refine z_aload_n 0 (pc := 30) C dX1_reason_30 rfl rfl ?_
  refine gfX1_12 (pc := 31) C (rfl : kdX 8 = 1) dX1_reason_31 ?_
  refine gfX1_31 (pc := 34) C (rfl : kdX 9 = 7) dX1_reason_34 ?_
  refine z_aload_n 0 (pc := 37) C dX1_reason_37 rfl rfl ?_
  refine gfX1_18 (pc := 38) C (rfl : kdX 8 = 1) dX1_reason_38 ?_
  refine gfX1_31 (pc := 41) C (rfl : kdX 12 = 7) dX1_reason_41 ?_
  refine z_mmin (pc := 44) C bw_13_6 bw_13_7 bw_13_8 bw_13_9 (Nat.le_of_ble_eq_true rfl) (Nat.le_of_ble_eq_true rfl) (Nat.le_of_ble_eq_true rfl) (Nat.le_of_ble_eq_true rfl) dX1_reason_44 ?_
  refine z_aload_n 2 (pc := 47) C dX1_reason_47 rfl rfl ?_
  refine gfX1_41 (pc := 48) C hk2 dX1_reason_48 ?_
  refine z_iconst (pc := 51) (v := (2 : Int32)) C dX1_reason_51 (by decide) ?_
  refine z_idiv (pc := 52) C dX1_reason_52 (by decide) ?_
  refine z_aload_n 1 (pc := 53) C dX1_reason_53 rfl rfl ?_
  refine gfX1_46 (pc := 54) C hk1 dX1_reason_54 ?_
  refine z_iadd (pc := 57) C dX1_reason_57 ?_
  refine z_icmp_ge 63 (pc := 58) C dX1_reason_58 (by decide) (fun c3 => ?_) (fun c3 => ?_)
  · have hF := if_t hF c3
    refine z_aload_n 0 (pc := 63) C dX1_reason_63 rfl rfl ?_
    refine gfX1_12 (pc := 64) C (rfl : kdX 8 = 1) dX1_reason_64 ?_
    refine gfX1_31 (pc := 67) C (rfl : kdX 9 = 7) dX1_reason_67 ?_
    refine z_aload_n 0 (pc := 70) C dX1_reason_70 rfl rfl ?_
    refine gfX1_18 (pc := 71) C (rfl : kdX 8 = 1) dX1_reason_71 ?_
    refine gfX1_31 (pc := 74) C (rfl : kdX 12 = 7) dX1_reason_74 ?_
    refine z_mmin (pc := 77) C bw_13_6 bw_13_7 bw_13_8 bw_13_9 (Nat.le_of_ble_eq_true rfl) (Nat.le_of_ble_eq_true rfl) (Nat.le_of_ble_eq_true rfl) (Nat.le_of_ble_eq_true rfl) dX1_reason_77 ?_
    refine z_aload_n 2 (pc := 80) C dX1_reason_80 rfl rfl ?_
    refine gfX1_49 (pc := 81) C hk2 dX1_reason_81 ?_
    refine z_icmp_le 89 (pc := 84) C dX1_reason_84 (by decide) (fun c4 => ?_) (fun c4 => ?_)
    · have hF := if_t hF c4
      refine z_aload_n 0 (pc := 89) C dX1_reason_89 rfl rfl ?_
      refine gfX1_12 (pc := 90) C (rfl : kdX 8 = 1) dX1_reason_90 ?_
      refine z_aload_n 2 (pc := 93) C dX1_reason_93 rfl rfl ?_
      refine gfX1_52 (pc := 94) C hk2 dX1_reason_94 ?_
      obtain ⟨v5, hG, hF⟩ := bn1_of hF
      refine z_callV [.int (gi S2 k2 1)] (pc := 97) (st1 := [.int v5]) (c1 := 0) (s1 := 0) C (mX7_hitsPunch C.hT (rfl : kdX 9 = 7) hG) kX1_55 (kdX_lt (rfl : kdX 9 = 7) (by decide)) (gX_7 (rfl : kdX 9 = 7)) rfl rfl rfl rfl (Nat.le_of_ble_eq_true rfl) ⟨(Nat.le_of_ble_eq_true rfl), (Nat.le_of_ble_eq_true rfl)⟩ ⟨(Nat.le_of_ble_eq_true rfl), (Nat.le_of_ble_eq_true rfl)⟩ dX1_reason_97 rfl rfl ?_
      refine z_if_ne 117 (pc := 100) C dX1_reason_100 (by decide) (fun c6 => ?_) (fun c6 => ?_)
      · have hF := if_f hF c6
        refine z_iconst (pc := 117) (v := (3 : Int32)) C dX1_reason_117 (by decide) ?_
        exact z_iret (pc := 118) C hQ hr rfl dX1_reason_118 (by cases hF; rfl) (by cases hF; rfl) (Nat.le_of_ble_eq_true rfl) (Nat.le_of_ble_eq_true rfl)
      · have hF := if_t hF c6
        refine z_aload_n 0 (pc := 103) C dX1_reason_103 rfl rfl ?_
        refine gfX1_18 (pc := 104) C (rfl : kdX 8 = 1) dX1_reason_104 ?_
        refine z_aload_n 2 (pc := 107) C dX1_reason_107 rfl rfl ?_
        refine gfX1_52 (pc := 108) C hk2 dX1_reason_108 ?_
        obtain ⟨v7, hG, hF⟩ := bn1_of hF
        refine z_callV [.int (gi S2 k2 1)] (pc := 111) (st1 := [.int v7]) (c1 := 0) (s1 := 0) C (mX7_hitsPunch C.hT (rfl : kdX 12 = 7) hG) kX1_55 (kdX_lt (rfl : kdX 12 = 7) (by decide)) (gX_7 (rfl : kdX 12 = 7)) rfl rfl rfl rfl (Nat.le_of_ble_eq_true rfl) ⟨(Nat.le_of_ble_eq_true rfl), (Nat.le_of_ble_eq_true rfl)⟩ ⟨(Nat.le_of_ble_eq_true rfl), (Nat.le_of_ble_eq_true rfl)⟩ dX1_reason_111 rfl rfl ?_
        refine z_if_eq 119 (pc := 114) C dX1_reason_114 (by decide) (fun c8 => ?_) (fun c8 => ?_)
        · have hF := if_t hF c8
          refine z_aload_n 0 (pc := 119) C dX1_reason_119 rfl rfl ?_
          refine gfX1_12 (pc := 120) C (rfl : kdX 8 = 1) dX1_reason_120 ?_
          refine z_aload_n 2 (pc := 123) C dX1_reason_123 rfl rfl ?_
          refine gfX1_59 (pc := 124) C hk2 dX1_reason_124 ?_
          refine z_aload_n 2 (pc := 127) C dX1_reason_127 rfl rfl ?_
          refine gfX1_62 (pc := 128) C hk2 dX1_reason_128 ?_
          obtain ⟨v9, hG, hF⟩ := bn1_of hF
          refine z_callV [.int (gi S2 k2 2), .int (gi S2 k2 3)] (pc := 131) (st1 := [.int v9]) (c1 := 0) (s1 := 0) C (mX7_hitsTable C.hT (rfl : kdX 9 = 7) hG) kX1_65 (kdX_lt (rfl : kdX 9 = 7) (by decide)) (gX_7 (rfl : kdX 9 = 7)) rfl rfl rfl rfl (Nat.le_of_ble_eq_true rfl) ⟨(Nat.le_of_ble_eq_true rfl), (Nat.le_of_ble_eq_true rfl)⟩ ⟨(Nat.le_of_ble_eq_true rfl), (Nat.le_of_ble_eq_true rfl)⟩ dX1_reason_131 rfl rfl ?_
          refine z_if_ne 155 (pc := 134) C dX1_reason_134 (by decide) (fun c10 => ?_) (fun c10 => ?_)
          · have hF := if_f hF c10
            refine z_iconst (pc := 155) (v := (4 : Int32)) C dX1_reason_155 (by decide) ?_
            exact z_iret (pc := 156) C hQ hr rfl dX1_reason_156 (by cases hF; rfl) (by cases hF; rfl) (Nat.le_of_ble_eq_true rfl) (Nat.le_of_ble_eq_true rfl)
          · have hF := if_t hF c10
            refine z_aload_n 0 (pc := 137) C dX1_reason_137 rfl rfl ?_
            refine gfX1_18 (pc := 138) C (rfl : kdX 8 = 1) dX1_reason_138 ?_
            refine z_aload_n 2 (pc := 141) C dX1_reason_141 rfl rfl ?_
            refine gfX1_59 (pc := 142) C hk2 dX1_reason_142 ?_
            refine z_aload_n 2 (pc := 145) C dX1_reason_145 rfl rfl ?_
            refine gfX1_62 (pc := 146) C hk2 dX1_reason_146 ?_
            obtain ⟨v11, hG, hF⟩ := bn1_of hF
            refine z_callV [.int (gi S2 k2 2), .int (gi S2 k2 3)] (pc := 149) (st1 := [.int v11]) (c1 := 0) (s1 := 0) C (mX7_hitsTable C.hT (rfl : kdX 12 = 7) hG) kX1_65 (kdX_lt (rfl : kdX 12 = 7) (by decide)) (gX_7 (rfl : kdX 12 = 7)) rfl rfl rfl rfl (Nat.le_of_ble_eq_true rfl) ⟨(Nat.le_of_ble_eq_true rfl), (Nat.le_of_ble_eq_true rfl)⟩ ⟨(Nat.le_of_ble_eq_true rfl), (Nat.le_of_ble_eq_true rfl)⟩ dX1_reason_149 rfl rfl ?_
            refine z_if_eq 157 (pc := 152) C dX1_reason_152 (by decide) (fun c12 => ?_) (fun c12 => ?_)
            · have hF := if_t hF c12
              refine z_iconst (pc := 157) (v := (0 : Int32)) C dX1_reason_157 (by decide) ?_
              exact z_iret (pc := 158) C hQ hr rfl dX1_reason_158 (by cases hF; rfl) (by cases hF; rfl) (Nat.le_of_ble_eq_true rfl) (Nat.le_of_ble_eq_true rfl)
            · have hF := if_f hF c12
              refine z_iconst (pc := 155) (v := (4 : Int32)) C dX1_reason_155 (by decide) ?_
              exact z_iret (pc := 156) C hQ hr rfl dX1_reason_156 (by cases hF; rfl) (by cases hF; rfl) (Nat.le_of_ble_eq_true rfl) (Nat.le_of_ble_eq_true rfl)
        · have hF := if_f hF c8
          refine z_iconst (pc := 117) (v := (3 : Int32)) C dX1_reason_117 (by decide) ?_
          exact z_iret (pc := 118) C hQ hr rfl dX1_reason_118 (by cases hF; rfl) (by cases hF; rfl) (Nat.le_of_ble_eq_true rfl) (Nat.le_of_ble_eq_true rfl)
    · have hF := if_f hF c4
      refine z_iconst (pc := 87) (v := (2 : Int32)) C dX1_reason_87 (by decide) ?_
      exact z_iret (pc := 88) C hQ hr rfl dX1_reason_88 (by cases hF; rfl) (by cases hF; rfl) (Nat.le_of_ble_eq_true rfl) (Nat.le_of_ble_eq_true rfl)
  · have hF := if_f hF c3
    refine z_iconst (pc := 61) (v := (1 : Int32)) C dX1_reason_61 (by decide) ?_
    exact z_iret (pc := 62) C hQ hr rfl dX1_reason_62 (by cases hF; rfl) (by cases hF; rfl) (Nat.le_of_ble_eq_true rfl) (Nat.le_of_ble_eq_true rfl)
