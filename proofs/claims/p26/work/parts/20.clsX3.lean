def fX3_lay (S : St) (p1 : Int32) (p2 : Int32) : Option (St) :=
  bn1 (fX3_rowFor S p1 p2) (fun (v1 : Int32) =>
  bn2 (if v1 = (-1 : Int32) then (
    bn2 (fX3_newRow S p2) (fun (v24 : Int32) (S25 : St) =>
    some (v24, S25)))
  else (
    some (v1, S))) (fun (v2 : Int32) (S3 : St) =>
    if v2 = (-1 : Int32) then (
      some S3)
    else (
      bv (sl S3 20 13 ((gl S3 20 13) + (Int32.toInt64 ((2 : Int32) * (p1 + p2))))) (fun (S5 : St) =>
      gd (inb v2 40) (
      bn1 (if (gi S5 27 v2.toNatClampNeg) = p2 then (
        bv (sl S5 20 13 ((gl S5 20 13) - (Int32.toInt64 p2))) (fun (S20 : St) =>
        some S20))
      else (
        some S5)) (fun (S8 : St) =>
        bv (sl S8 20 14 ((gl S8 20 14) + (Int32.toInt64 (p1 * p2)))) (fun (S9 : St) =>
        gd (inb v2 40) (
        gd (inb v2 40) (
        bv (si S9 26 v2.toNatClampNeg ((gi S9 26 v2.toNatClampNeg) - p1)) (fun (S13 : St) =>
        gd (inb v2 40) (
        bv (si S13 27 v2.toNatClampNeg p2) (fun (S16 : St) =>
        some S16))))))))))))
abbrev rmX3_lay : Room := { frames := 8, cells := 0, slots := 0, locals := 170 }
set_option maxRecDepth 100000 in
set_option maxHeartbeats 4000000 in
theorem mX3_lay {l : Launch} {D : va_G} {cs : Nat → ClassId} {a : Nat → Nat} (hT : l.stackTraces = false) {S : St} {p1 : Int32} {p2 : Int32} {S' : St} (hF : fX3_lay S p1 p2 = some S') : MX l 113 GX D cs a yX3_lay cX3_lay 4 none rmX3_lay [.ref (a 20), .int p1, .int p2] S (.inr none) S' := by
  refine zm_entry [(0, .ref (a 20)), (1, .int p1), (2, .int p2)] hT (by decide +kernel) (Nat.le_of_ble_eq_true rfl) rfl (fun E hEl hED hEk C hQ hr => ?_)
  subst hEl
  subst hED
  subst hEk
  unfold fX3_lay at hF
  refine z_aload_n 0 (pc := 0) C dX3_lay_0 rfl rfl ?_
  refine z_iload_n 1 (pc := 1) C dX3_lay_1 rfl rfl ?_
  refine z_iload_n 2 (pc := 2) C dX3_lay_2 rfl rfl ?_
  obtain ⟨v1, hG, hF⟩ := bn1_of hF
  refine z_callV [.int p1, .int p2] (pc := 3) (st1 := [.int v1]) (c1 := 0) (s1 := 0) C (mX3_rowFor C.hT hG) kX3_76 (kdX_lt (rfl : kdX 20 = 3) (by decide)) (gX_3 (rfl : kdX 20 = 3)) rfl rfl rfl rfl (Nat.le_of_ble_eq_true rfl) ⟨(Nat.le_of_ble_eq_true rfl), (Nat.le_of_ble_eq_true rfl)⟩ ⟨(Nat.le_of_ble_eq_true rfl), (Nat.le_of_ble_eq_true rfl)⟩ dX3_lay_3 rfl rfl ?_
  refine z_istore_n (pc := 6) (loc' := [(3, .int v1), (0, .ref (a 20)), (1, .int p1), (2, .int p2)]) C dX3_lay_6 rfl (by decide) rfl ?_
  refine z_iload_n 0 (pc := 7) C dX3_lay_7 rfl rfl ?_
  refine z_iconst (pc := 8) (v := (-1 : Int32)) C dX3_lay_8 (by decide) ?_
  obtain ⟨v2', S3', hR, hF⟩ := bn2_of hF
  have hJ22 : ∀ (v2 : Int32) (S3 : St), (some (v2, S3) : Option (Int32 × St)) = some (v2', S3') → Zz E (WX E a S3) 0 0 18 [(0, .ref (a 20)), (1, .int p1), (2, .int p2), (3, .int v2)] [] := by
    intro v2 S3 hE
    have hE0 := Option.some.inj hE
    obtain ⟨hA0, hE1⟩ := Prod.mk.inj hE0
    subst hA0
    subst hE1
    refine z_iload_n 3 (pc := 18) C dX3_lay_18 rfl rfl ?_
    refine z_iconst (pc := 19) (v := (-1 : Int32)) C dX3_lay_19 (by decide) ?_
    refine z_icmp_ne 24 (pc := 20) C dX3_lay_20 (by decide) (fun c4 => ?_) (fun c4 => ?_)
    · have hF := if_f hF c4
      refine z_aload_n 0 (pc := 24) C dX3_lay_24 rfl rfl ?_
      refine z_dup (pc := 25) C dX3_lay_25 rfl ?_
      refine gfX3_52 (pc := 26) C (rfl : kdX 20 = 3) dX3_lay_26 ?_
      refine z_iconst (pc := 29) (v := (2 : Int32)) C dX3_lay_29 (by decide) ?_
      refine z_iload_n 1 (pc := 30) C dX3_lay_30 rfl rfl ?_
      refine z_iload_n 2 (pc := 31) C dX3_lay_31 rfl rfl ?_
      refine z_iadd (pc := 32) C dX3_lay_32 ?_
      refine z_imul (pc := 33) C dX3_lay_33 ?_
      refine z_i2l (pc := 34) C dX3_lay_34 ?_
      refine z_ladd (pc := 35) C dX3_lay_35 ?_
      refine pfX3_52 (pc := 36) C (rfl : kdX 20 = 3) dX3_lay_36 ?_
      obtain ⟨S5, e6, hF⟩ := bv_of hF
      rw [← e6]
      refine z_aload_n 0 (pc := 39) C dX3_lay_39 rfl rfl ?_
      refine gfX3_30 (pc := 40) C (rfl : kdX 20 = 3) dX3_lay_40 ?_
      refine z_iload_n 3 (pc := 43) C dX3_lay_43 rfl rfl ?_
      obtain ⟨g7, hF⟩ := gd_of hF
      refine iaX40 (pc := 44) C (rfl : kdX 27 = 60) g7 dX3_lay_44 ?_
      refine z_iload_n 2 (pc := 45) C dX3_lay_45 rfl rfl ?_
      obtain ⟨S8', hR, hF⟩ := bn1_of hF
      have hJ18 : ∀ (S8 : St), (some S8 : Option (St)) = some S8' → Zz E (WX E a S8) 0 0 60 [(0, .ref (a 20)), (1, .int p1), (2, .int p2), (3, .int v2)] [] := by
        intro S8 hE
        have hE0 := Option.some.inj hE
        subst hE0
        refine z_aload_n 0 (pc := 60) C dX3_lay_60 rfl rfl ?_
        refine z_dup (pc := 61) C dX3_lay_61 rfl ?_
        refine gfX3_56 (pc := 62) C (rfl : kdX 20 = 3) dX3_lay_62 ?_
        refine z_iload_n 1 (pc := 65) C dX3_lay_65 rfl rfl ?_
        refine z_iload_n 2 (pc := 66) C dX3_lay_66 rfl rfl ?_
        refine z_imul (pc := 67) C dX3_lay_67 ?_
        refine z_i2l (pc := 68) C dX3_lay_68 ?_
        refine z_ladd (pc := 69) C dX3_lay_69 ?_
        refine pfX3_56 (pc := 70) C (rfl : kdX 20 = 3) dX3_lay_70 ?_
        obtain ⟨S9, e10, hF⟩ := bv_of hF
        rw [← e10]
        refine z_aload_n 0 (pc := 73) C dX3_lay_73 rfl rfl ?_
        refine gfX3_27 (pc := 74) C (rfl : kdX 20 = 3) dX3_lay_74 ?_
        refine z_iload_n 3 (pc := 77) C dX3_lay_77 rfl rfl ?_
        refine z_dup2 (pc := 78) C dX3_lay_78 rfl rfl ?_
        obtain ⟨g11, hF⟩ := gd_of hF
        refine iaX40 (pc := 79) C (rfl : kdX 26 = 60) g11 dX3_lay_79 ?_
        refine z_iload_n 1 (pc := 80) C dX3_lay_80 rfl rfl ?_
        refine z_isub (pc := 81) C dX3_lay_81 ?_
        obtain ⟨g12, hF⟩ := gd_of hF
        refine saX40 (pc := 82) C (rfl : kdX 26 = 60) g12 dX3_lay_82 ?_
        obtain ⟨S13, e14, hF⟩ := bv_of hF
        rw [← e14]
        refine z_aload_n 0 (pc := 83) C dX3_lay_83 rfl rfl ?_
        refine gfX3_30 (pc := 84) C (rfl : kdX 20 = 3) dX3_lay_84 ?_
        refine z_iload_n 3 (pc := 87) C dX3_lay_87 rfl rfl ?_
        refine z_iload_n 2 (pc := 88) C dX3_lay_88 rfl rfl ?_
        obtain ⟨g15, hF⟩ := gd_of hF
        refine saX40 (pc := 89) C (rfl : kdX 27 = 60) g15 dX3_lay_89 ?_
        obtain ⟨S16, e17, hF⟩ := bv_of hF
        rw [← e17]
        exact z_vret (pc := 90) C hQ hr dX3_lay_90 (by cases hF; rfl) (by cases hF; rfl) (Nat.le_of_ble_eq_true rfl) (Nat.le_of_ble_eq_true rfl)
      have hF := hR
      clear hR
      refine z_icmp_ne 60 (pc := 46) C dX3_lay_46 (by decide) (fun c19 => ?_) (fun c19 => ?_)
      · have hF := if_f hF c19
        exact hJ18 _ hF
      · have hF := if_t hF c19
        refine z_aload_n 0 (pc := 49) C dX3_lay_49 rfl rfl ?_
        refine z_dup (pc := 50) C dX3_lay_50 rfl ?_
        refine gfX3_52 (pc := 51) C (rfl : kdX 20 = 3) dX3_lay_51 ?_
        refine z_iload_n 2 (pc := 54) C dX3_lay_54 rfl rfl ?_
        refine z_i2l (pc := 55) C dX3_lay_55 ?_
        refine z_lsub (pc := 56) C dX3_lay_56 ?_
        refine pfX3_52 (pc := 57) C (rfl : kdX 20 = 3) dX3_lay_57 ?_
        obtain ⟨S20, e21, hF⟩ := bv_of hF
        rw [← e21]
        exact hJ18 _ hF
    · have hF := if_t hF c4
      exact z_vret (pc := 23) C hQ hr dX3_lay_23 (by cases hF; rfl) (by cases hF; rfl) (Nat.le_of_ble_eq_true rfl) (Nat.le_of_ble_eq_true rfl)
  have hF := hR
  clear hR
  refine z_icmp_ne 18 (pc := 9) C dX3_lay_9 (by decide) (fun c23 => ?_) (fun c23 => ?_)
  · have hF := if_f hF c23
    refine z_sub [1, 2, 3, 0] rfl ?_
    exact hJ22 _ _ hF
  · have hF := if_t hF c23
    refine z_aload_n 1 (pc := 12) C dX3_lay_12 rfl rfl ?_
    refine z_iload_n 3 (pc := 13) C dX3_lay_13 rfl rfl ?_
    obtain ⟨v24, S25, hG, hF⟩ := bn2_of hF
    refine z_callV [.int p2] (pc := 14) (st1 := [.int v24]) (c1 := 0) (s1 := 0) C (mX3_newRow C.hT hG) kX3_79 (kdX_lt (rfl : kdX 20 = 3) (by decide)) (gX_3 (rfl : kdX 20 = 3)) rfl rfl rfl rfl (Nat.le_of_ble_eq_true rfl) ⟨(Nat.le_of_ble_eq_true rfl), (Nat.le_of_ble_eq_true rfl)⟩ ⟨(Nat.le_of_ble_eq_true rfl), (Nat.le_of_ble_eq_true rfl)⟩ dX3_lay_14 rfl rfl ?_
    refine z_istore_n (pc := 17) (loc' := [(3, .int v24), (0, .ref (a 20)), (1, .int p1), (2, .int p2)]) C dX3_lay_17 rfl (by decide) rfl ?_
    refine z_sub [1, 2, 3, 0] rfl ?_
    exact hJ22 _ _ hF
def fX5_bestNext_L8 (S : St) (p1 : Int32) (p2 : Int32) (next4 : Int32 → Int32 → Int32 → Option (Int32)) (v1 : Int32) (v2 : Int32) (v3 : Int32) : Option (Int32) :=
  if (gi S 15 3) ≤ v3 then (
    some v1)
  else (
    gd (inb p1 32) (
    bn1 (fX8_hasBit (gi S 16 p1.toNatClampNeg) v3) (fun (v9 : Int32) =>
    bn1 (if v9 = 0 then (
      some (-1 : Int32))
    else (
      bn1 (fX5_turnsBy S p1 p2 v3) (fun (v22 : Int32) =>
      some v22))) (fun (v10 : Int32) =>
      bn2 (if v10 = (-1 : Int32) then (
        some (v1, v2))
      else (
        jn0 (
          some (v3, v10)) (fun J17 =>
          if v1 = (-1 : Int32) then (
            J17)
          else (
            if v2 ≤ v10 then (
              some (v1, v2))
            else (
              J17))))) (fun (v11 : Int32) (v12 : Int32) =>
        bv (v3 + 1) (fun (v13 : Int32) =>
        next4 v11 v12 v13))))))
def fX5_bestNext (S : St) (p1 : Int32) (p2 : Int32) : Option (Int32) :=
  bn1 (lq3 (fX5_bestNext_L8 S p1 p2) 200 (-1 : Int32) (-1 : Int32) (0 : Int32)) (fun (v5 : Int32) =>
    some (v5))
abbrev rmX5_bestNext : Room := { frames := 8, cells := 0, slots := 0, locals := 170 }
set_option maxRecDepth 100000 in
set_option maxHeartbeats 4000000 in
theorem mX5_bestNext {l : Launch} {D : va_G} {cs : Nat → ClassId} {a : Nat → Nat} (hT : l.stackTraces = false) {S : St} {p1 : Int32} {p2 : Int32} {r : Int32} (hF : fX5_bestNext S p1 p2 = some r) : MX l 113 GX D cs a yX5_bestNext cX5_bestNext 7 (some .int) rmX5_bestNext [.ref (a 15), .int p1, .int p2] S (.inr (some (.int r))) S := by
  refine zm_entry [(0, .ref (a 15)), (1, .int p1), (2, .int p2)] hT (by decide +kernel) (Nat.le_of_ble_eq_true rfl) rfl (fun E hEl hED hEk C hQ hr => ?_)
  subst hEl
  subst hED
  subst hEk
  unfold fX5_bestNext at hF
  refine z_iconst (pc := 0) (v := (-1 : Int32)) C dX5_bestNext_0 (by decide) ?_
  refine z_istore_n (pc := 1) (loc' := [(3, .int (-1 : Int32)), (0, .ref (a 15)), (1, .int p1), (2, .int p2)]) C dX5_bestNext_1 rfl (by decide) rfl ?_
  refine z_iconst (pc := 2) (v := (-1 : Int32)) C dX5_bestNext_2 (by decide) ?_
  refine z_istore (pc := 3) (loc' := [(4, .int (-1 : Int32)), (3, .int (-1 : Int32)), (0, .ref (a 15)), (1, .int p1), (2, .int p2)]) C dX5_bestNext_3 (by decide) rfl ?_
  refine z_iconst (pc := 5) (v := (0 : Int32)) C dX5_bestNext_5 (by decide) ?_
  refine z_istore (pc := 6) (loc' := [(5, .int (0 : Int32)), (4, .int (-1 : Int32)), (3, .int (-1 : Int32)), (0, .ref (a 15)), (1, .int p1), (2, .int p2)]) C dX5_bestNext_6 (by decide) rfl ?_
  refine z_sub [3, 4, 5, 2, 1, 0] rfl ?_
  obtain ⟨v5', hR, hF⟩ := bn1_of hF
  have hJ6 : ∀ (v5 : Int32), (some v5 : Option (Int32)) = some v5' → Zz E (WX E a S) 0 0 76 [(3, .int v5)] [] := by
    intro v5 hE
    have hE0 := Option.some.inj hE
    subst hE0
    refine z_iload_n 0 (pc := 76) C dX5_bestNext_76 rfl rfl ?_
    exact z_iret (pc := 77) C hQ hr rfl dX5_bestNext_77 (by cases hF; rfl) (by cases hF; rfl) (Nat.le_of_ble_eq_true rfl) (Nat.le_of_ble_eq_true rfl)
  have hF := hR
  clear hR
  refine lq3_W (P := fun (v1 : Int32) (v2 : Int32) (v3 : Int32) => Zz E (WX E a S) 0 0 8 [(0, .ref (a 15)), (1, .int p1), (2, .int p2), (3, .int v1), (4, .int v2), (5, .int v3)] []) (fun next4 hN4 v1 v2 v3 hF => ?_) _ _ _ _ hF
  unfold fX5_bestNext_L8 at hF
  refine z_iload 5 (pc := 8) C dX5_bestNext_8 rfl ?_
  refine z_aload_n 0 (pc := 10) C dX5_bestNext_10 rfl rfl ?_
  refine gfX5_28 (pc := 11) C (rfl : kdX 15 = 5) dX5_bestNext_11 ?_
  refine z_icmp_ge 76 (pc := 14) C dX5_bestNext_14 (by decide) (fun c7 => ?_) (fun c7 => ?_)
  · have hF := if_t hF c7
    refine z_sub [3] rfl ?_
    exact hJ6 _ hF
  · have hF := if_f hF c7
    refine z_aload_n 0 (pc := 17) C dX5_bestNext_17 rfl rfl ?_
    refine gfX5_9 (pc := 18) C (rfl : kdX 15 = 5) dX5_bestNext_18 ?_
    refine z_iload_n 1 (pc := 21) C dX5_bestNext_21 rfl rfl ?_
    obtain ⟨g8, hF⟩ := gd_of hF
    refine iaX32 (pc := 22) C (rfl : kdX 16 = 52) g8 dX5_bestNext_22 ?_
    refine z_iload 5 (pc := 23) C dX5_bestNext_23 rfl ?_
    obtain ⟨v9, hG, hF⟩ := bn1_of hF
    refine z_callN [.int (gi S 16 p1.toNatClampNeg), .int v3] (pc := 25) (st1 := [.int v9]) (c1 := 0) (s1 := 0) C (mX8_hasBit C.hT hG) kX5_68 rfl rfl rfl (Nat.le_of_ble_eq_true rfl) ⟨(Nat.le_of_ble_eq_true rfl), (Nat.le_of_ble_eq_true rfl)⟩ ⟨(Nat.le_of_ble_eq_true rfl), (Nat.le_of_ble_eq_true rfl)⟩ dX5_bestNext_25 rfl rfl ?_
    obtain ⟨v10', hR, hF⟩ := bn1_of hF
    have hJ20 : ∀ (v10 : Int32), (some v10 : Option (Int32)) = some v10' → Zz E (WX E a S) 0 0 43 [(0, .ref (a 15)), (1, .int p1), (2, .int p2), (3, .int v1), (4, .int v2), (5, .int v3)] [.int v10] := by
      intro v10 hE
      have hE0 := Option.some.inj hE
      subst hE0
      refine z_istore (pc := 43) (loc' := [(6, .int v10), (0, .ref (a 15)), (1, .int p1), (2, .int p2), (3, .int v1), (4, .int v2), (5, .int v3)]) C dX5_bestNext_43 (by decide) rfl ?_
      refine z_iload 0 (pc := 45) C dX5_bestNext_45 rfl ?_
      refine z_iconst (pc := 47) (v := (-1 : Int32)) C dX5_bestNext_47 (by decide) ?_
      obtain ⟨v11', v12', hR, hF⟩ := bn2_of hF
      have hJ15 : ∀ (v11 : Int32) (v12 : Int32), (some (v11, v12) : Option (Int32 × Int32)) = some (v11', v12') → Zz E (WX E a S) 0 0 70 [(0, .ref (a 15)), (1, .int p1), (2, .int p2), (3, .int v11), (4, .int v12), (5, .int v3)] [] := by
        intro v11 v12 hE
        have hE0 := Option.some.inj hE
        obtain ⟨hA0, hE1⟩ := Prod.mk.inj hE0
        subst hA0
        subst hE1
        obtain ⟨v13, e14, hF⟩ := bv_of hF
        refine z_iinc 5 (pc := 70) (v := v13) (loc' := [(5, .int v13), (0, .ref (a 15)), (1, .int p1), (2, .int p2), (3, .int v11), (4, .int v12)]) C dX5_bestNext_70 rfl (by rw [e14]; rfl) (by decide) rfl ?_
        refine z_goto 8 (pc := 73) C dX5_bestNext_73 (by decide) ?_
        refine z_sub [1, 2, 3, 4, 5, 0] rfl ?_
        exact hN4 _ _ _ hF
      have hF := hR
      clear hR
      refine z_icmp_eq 70 (pc := 48) C dX5_bestNext_48 (by decide) (fun c16 => ?_) (fun c16 => ?_)
      · have hF := if_t hF c16
        refine z_sub [1, 2, 3, 4, 5, 6] rfl ?_
        exact hJ15 _ _ hF
      · have hF := if_f hF c16
        refine z_iload_n 4 (pc := 51) C dX5_bestNext_51 rfl rfl ?_
        refine z_iconst (pc := 52) (v := (-1 : Int32)) C dX5_bestNext_52 (by decide) ?_
        obtain ⟨J17, hdJ17, hF⟩ := jn0_of hF
        have hJ17 : J17 = some (v11', v12') → Zz E (WX E a S) 0 0 63 [(0, .ref (a 15)), (1, .int p1), (2, .int p2), (5, .int v3), (6, .int v10)] [] := by
          intro hF
          have hF := hdJ17.symm.trans hF
          refine z_iload 3 (pc := 63) C dX5_bestNext_63 rfl ?_
          refine z_istore_n (pc := 65) (loc' := [(3, .int v3), (0, .ref (a 15)), (1, .int p1), (2, .int p2), (5, .int v3), (6, .int v10)]) C dX5_bestNext_65 rfl (by decide) rfl ?_
          refine z_iload 5 (pc := 66) C dX5_bestNext_66 rfl ?_
          refine z_istore (pc := 68) (loc' := [(4, .int v10), (3, .int v3), (0, .ref (a 15)), (1, .int p1), (2, .int p2), (5, .int v3), (6, .int v10)]) C dX5_bestNext_68 (by decide) rfl ?_
          refine z_sub [2, 3, 4, 1, 0, 5] rfl ?_
          exact hJ15 _ _ hF
        refine z_icmp_eq 63 (pc := 53) C dX5_bestNext_53 (by decide) (fun c18 => ?_) (fun c18 => ?_)
        · have hF := if_t hF c18
          refine z_sub [1, 2, 3, 6, 0] rfl ?_
          exact hJ17 hF
        · have hF := if_f hF c18
          refine z_iload 0 (pc := 56) C dX5_bestNext_56 rfl ?_
          refine z_iload 5 (pc := 58) C dX5_bestNext_58 rfl ?_
          refine z_icmp_ge 70 (pc := 60) C dX5_bestNext_60 (by decide) (fun c19 => ?_) (fun c19 => ?_)
          · have hF := if_t hF c19
            refine z_sub [1, 2, 3, 4, 5, 6] rfl ?_
            exact hJ15 _ _ hF
          · have hF := if_f hF c19
            refine z_sub [1, 2, 3, 6, 0] rfl ?_
            exact hJ17 hF
    have hF := hR
    clear hR
    refine z_if_eq 42 (pc := 28) C dX5_bestNext_28 (by decide) (fun c21 => ?_) (fun c21 => ?_)
    · have hF := if_t hF c21
      refine z_iconst (pc := 42) (v := (-1 : Int32)) C dX5_bestNext_42 (by decide) ?_
      exact hJ20 _ hF
    · have hF := if_f hF c21
      refine z_aload_n 0 (pc := 31) C dX5_bestNext_31 rfl rfl ?_
      refine z_iload_n 1 (pc := 32) C dX5_bestNext_32 rfl rfl ?_
      refine z_iload_n 2 (pc := 33) C dX5_bestNext_33 rfl rfl ?_
      refine z_iload 5 (pc := 34) C dX5_bestNext_34 rfl ?_
      obtain ⟨v22, hG, hF⟩ := bn1_of hF
      refine z_callV [.int p1, .int p2, .int v3] (pc := 36) (st1 := [.int v22]) (c1 := 0) (s1 := 0) C (mX5_turnsBy C.hT hG) kX5_40 (kdX_lt (rfl : kdX 15 = 5) (by decide)) (gX_5 (rfl : kdX 15 = 5)) rfl rfl rfl rfl (Nat.le_of_ble_eq_true rfl) ⟨(Nat.le_of_ble_eq_true rfl), (Nat.le_of_ble_eq_true rfl)⟩ ⟨(Nat.le_of_ble_eq_true rfl), (Nat.le_of_ble_eq_true rfl)⟩ dX5_bestNext_36 rfl rfl ?_
      refine z_goto 43 (pc := 39) C dX5_bestNext_39 (by decide) ?_
      exact hJ20 _ hF
def fX8_batch (S : St) (p1 : Int32) (p2 : Int32) (p3 : Int32) : Option (((String ⊕ Int32) × St)) :=
  bx (fX8_partAt S p1) (fun (x25 : String) => some (.inl x25, S)) (fun (k1 : Nat) =>
  bx (fX8_toolAt S p2) (fun (x24 : String) => some (.inl x24, S)) (fun (k3 : Nat) =>
  bn1 (fX8_isOut p3 (1 : Int32) (50 : Int32)) (fun (v5 : Int32) =>
  if v5 = 0 then (
    if (gi S 0 8) < (20 : Int32) then (
      gd (inb (gi S 0 8) 20) (
      bv (si S (bid (gi S 0 8)) 0 p1) (fun (S9 : St) =>
      bv (si S9 (bid (gi S 0 8)) 1 p2) (fun (S11 : St) =>
      bv (si S11 (bid (gi S 0 8)) 2 (0 : Int32)) (fun (S13 : St) =>
      bv (si S13 (bid (gi S 0 8)) 3 p3) (fun (S15 : St) =>
      bv (si S15 (bid (gi S 0 8)) 4 (gi S15 k1 3)) (fun (S17 : St) =>
      bn1 (fX4_blankBy S17 k1 k3) (fun (v19 : Int32) =>
      bv (si S17 (bid (gi S 0 8)) 5 v19) (fun (S20 : St) =>
      bv (si S20 0 8 ((gi S20 0 8) + (1 : Int32))) (fun (S22 : St) =>
      some (.inr ((gi S22 0 8) - (1 : Int32)), S22)))))))))))
    else (
      some (.inl "java/lang/IllegalStateException", S)))
  else (
    some (.inl "java/lang/IllegalArgumentException", S)))))
abbrev rmX8_batch : Room := { frames := 8, cells := 3, slots := 18, locals := 170 }
set_option maxRecDepth 100000 in
set_option maxHeartbeats 4000000 in
theorem mX8_batch {l : Launch} {D : va_G} {cs : Nat → ClassId} {a : Nat → Nat} (hT : l.stackTraces = false) {S : St} {p1 : Int32} {p2 : Int32} {p3 : Int32} {r : String ⊕ Int32} {S' : St} (hF : fX8_batch S p1 p2 p3 = some (r, S')) : MX l 113 GX D cs a yX8_batch cX8_batch 7 (some .int) rmX8_batch [.ref (a 0), .int p1, .int p2, .int p3] S (ocI r) S' := by
  refine zm_entry [(0, .ref (a 0)), (1, .int p1), (2, .int p2), (3, .int p3)] hT (by decide +kernel) (Nat.le_of_ble_eq_true rfl) rfl (fun E hEl hED hEk C hQ hr => ?_)
  subst hEl
  subst hED
  subst hEk
  unfold fX8_batch at hF
  refine z_aload_n 0 (pc := 0) C dX8_batch_0 rfl rfl ?_
  refine z_iload_n 1 (pc := 1) C dX8_batch_1 rfl rfl ?_
  rcases bx_of hF with ⟨x25, hG, hF⟩ | ⟨k1, hG, hF⟩
  · exact z_callVx [.int p1] (pc := 2) C (mX8_partAt C.hT hG) kX8_104 (kdX_lt (rfl : kdX 0 = 8) (by decide)) (gX_8 (rfl : kdX 0 = 8)) rfl rfl rfl (Nat.le_of_ble_eq_true rfl) ⟨(Nat.le_of_ble_eq_true rfl), (Nat.le_of_ble_eq_true rfl)⟩ ⟨(Nat.le_of_ble_eq_true rfl), (Nat.le_of_ble_eq_true rfl)⟩ dX8_batch_2 hQ (by cases hF; rfl) (by cases hF; rfl)
  · have hk2 := qX8_partAt hG
    refine z_callV [.int p1] (pc := 2) (st1 := [.ref (a k1)]) (c1 := 1) (s1 := 6) C (mX8_partAt C.hT hG) kX8_104 (kdX_lt (rfl : kdX 0 = 8) (by decide)) (gX_8 (rfl : kdX 0 = 8)) rfl rfl rfl rfl (Nat.le_of_ble_eq_true rfl) ⟨(Nat.le_of_ble_eq_true rfl), (Nat.le_of_ble_eq_true rfl)⟩ ⟨(Nat.le_of_ble_eq_true rfl), (Nat.le_of_ble_eq_true rfl)⟩ dX8_batch_2 rfl rfl ?_
    refine z_astore (pc := 5) (loc' := [(4, .ref (a k1)), (0, .ref (a 0)), (1, .int p1), (2, .int p2), (3, .int p3)]) C dX8_batch_5 (by decide) rfl ?_
    refine z_aload_n 1 (pc := 7) C dX8_batch_7 rfl rfl ?_
    refine z_iload_n 3 (pc := 8) C dX8_batch_8 rfl rfl ?_
    rcases bx_of hF with ⟨x24, hG, hF⟩ | ⟨k3, hG, hF⟩
    · exact z_callVx [.int p2] (pc := 9) C (mX8_toolAt C.hT hG) kX8_186 (kdX_lt (rfl : kdX 0 = 8) (by decide)) (gX_8 (rfl : kdX 0 = 8)) rfl rfl rfl (Nat.le_of_ble_eq_true rfl) ⟨(Nat.le_of_ble_eq_true rfl), (Nat.le_of_ble_eq_true rfl)⟩ ⟨(Nat.le_of_ble_eq_true rfl), (Nat.le_of_ble_eq_true rfl)⟩ dX8_batch_9 hQ (by cases hF; rfl) (by cases hF; rfl)
    · have hk4 := qX8_toolAt hG
      refine z_callV [.int p2] (pc := 9) (st1 := [.ref (a k3)]) (c1 := 2) (s1 := 12) C (mX8_toolAt C.hT hG) kX8_186 (kdX_lt (rfl : kdX 0 = 8) (by decide)) (gX_8 (rfl : kdX 0 = 8)) rfl rfl rfl rfl (Nat.le_of_ble_eq_true rfl) ⟨(Nat.le_of_ble_eq_true rfl), (Nat.le_of_ble_eq_true rfl)⟩ ⟨(Nat.le_of_ble_eq_true rfl), (Nat.le_of_ble_eq_true rfl)⟩ dX8_batch_9 rfl rfl ?_
      refine z_astore (pc := 12) (loc' := [(5, .ref (a k3)), (4, .ref (a k1)), (0, .ref (a 0)), (1, .int p1), (2, .int p2), (3, .int p3)]) C dX8_batch_12 (by decide) rfl ?_
      refine z_iload_n 5 (pc := 14) C dX8_batch_14 rfl rfl ?_
      refine z_iconst (pc := 15) (v := (1 : Int32)) C dX8_batch_15 (by decide) ?_
      refine z_bipush (pc := 16) (v := (50 : Int32)) C dX8_batch_16 (by decide) ?_
      obtain ⟨v5, hG, hF⟩ := bn1_of hF
      refine z_callS [.int p3, .int (1 : Int32), .int (50 : Int32)] (pc := 18) (st1 := [.int v5]) (c1 := 2) (s1 := 12) C (mX8_isOut C.hT hG) kX8_62 rfl rfl rfl rfl (Nat.le_of_ble_eq_true rfl) ⟨(Nat.le_of_ble_eq_true rfl), (Nat.le_of_ble_eq_true rfl)⟩ ⟨(Nat.le_of_ble_eq_true rfl), (Nat.le_of_ble_eq_true rfl)⟩ dX8_batch_18 rfl rfl ?_
      refine z_if_eq 34 (pc := 21) C dX8_batch_21 (by decide) (fun c6 => ?_) (fun c6 => ?_)
      · have hF := if_t hF c6
        refine z_aload_n 2 (pc := 34) C dX8_batch_34 rfl rfl ?_
        refine gfX8_286 (pc := 35) C (rfl : kdX 0 = 8) dX8_batch_35 ?_
        refine z_bipush (pc := 38) (v := (20 : Int32)) C dX8_batch_38 (by decide) ?_
        refine z_icmp_lt 54 (pc := 40) C dX8_batch_40 (by decide) (fun c7 => ?_) (fun c7 => ?_)
        · have hF := if_t hF c7
          refine z_aload_n 2 (pc := 54) C dX8_batch_54 rfl rfl ?_
          refine gfX8_34 (pc := 55) C (rfl : kdX 0 = 8) dX8_batch_55 ?_
          refine z_aload_n 2 (pc := 58) C dX8_batch_58 rfl rfl ?_
          refine gfX8_286 (pc := 59) C (rfl : kdX 0 = 8) dX8_batch_59 ?_
          obtain ⟨g8, hF⟩ := gd_of hF
          refine aabid (pc := 62) C (rfl : kdX 7 = 13) g8 dX8_batch_62 ?_
          refine z_astore (pc := 63) (loc' := [(6, .ref (a (bid (gi S 0 8)))), (5, .ref (a k3)), (4, .ref (a k1)), (0, .ref (a 0)), (1, .int p1), (2, .int p2), (3, .int p3)]) C dX8_batch_63 (by decide) rfl ?_
          refine z_aload 0 (pc := 65) C dX8_batch_65 rfl ?_
          refine z_iload_n 4 (pc := 67) C dX8_batch_67 rfl rfl ?_
          refine pfX8_291 (pc := 68) C (kX_bid g8) dX8_batch_68 ?_
          obtain ⟨S9, e10, hF⟩ := bv_of hF
          rw [← e10]
          refine z_aload 0 (pc := 71) C dX8_batch_71 rfl ?_
          refine z_iload_n 5 (pc := 73) C dX8_batch_73 rfl rfl ?_
          refine pfX8_294 (pc := 74) C (kX_bid g8) dX8_batch_74 ?_
          obtain ⟨S11, e12, hF⟩ := bv_of hF
          rw [← e12]
          refine z_aload 0 (pc := 77) C dX8_batch_77 rfl ?_
          refine z_iconst (pc := 79) (v := (0 : Int32)) C dX8_batch_79 (by decide) ?_
          refine pfX8_297 (pc := 80) C (kX_bid g8) dX8_batch_80 ?_
          obtain ⟨S13, e14, hF⟩ := bv_of hF
          rw [← e14]
          refine z_aload 0 (pc := 83) C dX8_batch_83 rfl ?_
          refine z_iload_n 6 (pc := 85) C dX8_batch_85 rfl rfl ?_
          refine pfX8_300 (pc := 86) C (kX_bid g8) dX8_batch_86 ?_
          obtain ⟨S15, e16, hF⟩ := bv_of hF
          rw [← e16]
          refine z_aload 0 (pc := 89) C dX8_batch_89 rfl ?_
          refine z_aload 2 (pc := 91) C dX8_batch_91 rfl ?_
          refine gfX8_124 (pc := 93) C hk2 dX8_batch_93 ?_
          refine pfX8_303 (pc := 96) C (kX_bid g8) dX8_batch_96 ?_
          obtain ⟨S17, e18, hF⟩ := bv_of hF
          rw [← e18]
          refine z_aload 0 (pc := 99) C dX8_batch_99 rfl ?_
          refine z_aload 2 (pc := 101) C dX8_batch_101 rfl ?_
          refine z_aload 1 (pc := 103) C dX8_batch_103 rfl ?_
          obtain ⟨v19, hG, hF⟩ := bn1_of hF
          refine z_callV [.ref (a k3)] (pc := 105) (st1 := [.int v19, .ref (a (bid (gi S 0 8)))]) (c1 := 2) (s1 := 12) C (mX4_blankBy C.hT hk2 hk4 hG) kX8_195 (kdX_lt hk2 (by decide)) (gX_4 hk2) rfl rfl rfl rfl (Nat.le_of_ble_eq_true rfl) ⟨(Nat.le_of_ble_eq_true rfl), (Nat.le_of_ble_eq_true rfl)⟩ ⟨(Nat.le_of_ble_eq_true rfl), (Nat.le_of_ble_eq_true rfl)⟩ dX8_batch_105 rfl rfl ?_
          refine pfX8_304 (pc := 108) C (kX_bid g8) dX8_batch_108 ?_
          obtain ⟨S20, e21, hF⟩ := bv_of hF
          rw [← e21]
          refine z_aload_n 3 (pc := 111) C dX8_batch_111 rfl rfl ?_
          refine z_dup (pc := 112) C dX8_batch_112 rfl ?_
          refine gfX8_286 (pc := 113) C (rfl : kdX 0 = 8) dX8_batch_113 ?_
          refine z_iconst (pc := 116) (v := (1 : Int32)) C dX8_batch_116 (by decide) ?_
          refine z_iadd (pc := 117) C dX8_batch_117 ?_
          refine pfX8_286 (pc := 118) C (rfl : kdX 0 = 8) dX8_batch_118 ?_
          obtain ⟨S22, e23, hF⟩ := bv_of hF
          rw [← e23]
          refine z_aload_n 3 (pc := 121) C dX8_batch_121 rfl rfl ?_
          refine gfX8_286 (pc := 122) C (rfl : kdX 0 = 8) dX8_batch_122 ?_
          refine z_iconst (pc := 125) (v := (1 : Int32)) C dX8_batch_125 (by decide) ?_
          refine z_isub (pc := 126) C dX8_batch_126 ?_
          exact z_iret (pc := 127) C hQ hr rfl dX8_batch_127 (by cases hF; rfl) (by cases hF; rfl) (Nat.le_of_ble_eq_true rfl) (Nat.le_of_ble_eq_true rfl)
        · have hF := if_f hF c7
          exact z_thrW (pc := 43) C hQ th_sta st_289 dX8_batch_43 dX8_batch_46 dX8_batch_47 dX8_batch_50 dX8_batch_53 (by cases hF; rfl) (by cases hF; rfl) (Nat.le_of_ble_eq_true rfl) (Nat.le_of_ble_eq_true rfl) (Nat.le_of_ble_eq_true rfl) (Nat.le_of_ble_eq_true rfl)
      · have hF := if_f hF c6
        exact z_thr (pc := 24) C hQ th_arg st_251 dX8_batch_24 dX8_batch_27 dX8_batch_28 dX8_batch_30 dX8_batch_33 (by cases hF; rfl) (by cases hF; rfl) (Nat.le_of_ble_eq_true rfl) (Nat.le_of_ble_eq_true rfl) (Nat.le_of_ble_eq_true rfl) (Nat.le_of_ble_eq_true rfl)
def fX8_batchOf (S : St) (p1 : Int32) (p2 : Int32) : Option ((String ⊕ Int32)) :=
  bx (fX8_batchAt S p1) (fun (x7 : String) => some (.inl x7)) (fun (k1 : Nat) =>
  if p2 = (0 : Int32) then (
    some (.inr (gi S k1 2)))
  else if p2 = (1 : Int32) then (
    some (.inr (gi S k1 3)))
  else if p2 = (2 : Int32) then (
    some (.inr (gi S k1 4)))
  else if p2 = (3 : Int32) then (
    some (.inr (gi S k1 5)))
  else (
    some (.inl "java/lang/IllegalArgumentException")))
abbrev rmX8_batchOf : Room := { frames := 8, cells := 2, slots := 12, locals := 170 }
set_option maxRecDepth 100000 in
set_option maxHeartbeats 4000000 in
theorem mX8_batchOf {l : Launch} {D : va_G} {cs : Nat → ClassId} {a : Nat → Nat} (hT : l.stackTraces = false) {S : St} {p1 : Int32} {p2 : Int32} {r : String ⊕ Int32} (hF : fX8_batchOf S p1 p2 = some r) : MX l 113 GX D cs a yX8_batchOf cX8_batchOf 4 (some .int) rmX8_batchOf [.ref (a 0), .int p1, .int p2] S (ocI r) S := by
  refine zm_entry [(0, .ref (a 0)), (1, .int p1), (2, .int p2)] hT (by decide +kernel) (Nat.le_of_ble_eq_true rfl) rfl (fun E hEl hED hEk C hQ hr => ?_)
  subst hEl
  subst hED
  subst hEk
  unfold fX8_batchOf at hF
  refine z_aload_n 0 (pc := 0) C dX8_batchOf_0 rfl rfl ?_
  refine z_iload_n 1 (pc := 1) C dX8_batchOf_1 rfl rfl ?_
  rcases bx_of hF with ⟨x7, hG, hF⟩ | ⟨k1, hG, hF⟩
  · exact z_callVx [.int p1] (pc := 2) C (mX8_batchAt C.hT hG) kX8_307 (kdX_lt (rfl : kdX 0 = 8) (by decide)) (gX_8 (rfl : kdX 0 = 8)) rfl rfl rfl (Nat.le_of_ble_eq_true rfl) ⟨(Nat.le_of_ble_eq_true rfl), (Nat.le_of_ble_eq_true rfl)⟩ ⟨(Nat.le_of_ble_eq_true rfl), (Nat.le_of_ble_eq_true rfl)⟩ dX8_batchOf_2 hQ (by cases hF; rfl) (by cases hF; rfl)
  · have hk2 := qX8_batchAt hG
    refine z_callV [.int p1] (pc := 2) (st1 := [.ref (a k1)]) (c1 := 1) (s1 := 6) C (mX8_batchAt C.hT hG) kX8_307 (kdX_lt (rfl : kdX 0 = 8) (by decide)) (gX_8 (rfl : kdX 0 = 8)) rfl rfl rfl rfl (Nat.le_of_ble_eq_true rfl) ⟨(Nat.le_of_ble_eq_true rfl), (Nat.le_of_ble_eq_true rfl)⟩ ⟨(Nat.le_of_ble_eq_true rfl), (Nat.le_of_ble_eq_true rfl)⟩ dX8_batchOf_2 rfl rfl ?_
    refine z_astore_n (pc := 5) (loc' := [(3, .ref (a k1)), (0, .ref (a 0)), (1, .int p1), (2, .int p2)]) C dX8_batchOf_5 rfl (by decide) rfl ?_
    refine z_iload_n 3 (pc := 6) C dX8_batchOf_6 rfl rfl ?_
    by_cases c3 : p2 = (0 : Int32)
    · have hF := if_t hF c3
      refine z_swi 36 (pc := 7) (off := 29) C dX8_batchOf_7 c3 (by decide) (by decide) (by decide +kernel) (by decide) ?_
      refine z_aload_n 0 (pc := 36) C dX8_batchOf_36 rfl rfl ?_
      refine gfX8_297 (pc := 37) C hk2 dX8_batchOf_37 ?_
      exact z_iret (pc := 40) C hQ hr rfl dX8_batchOf_40 (by cases hF; rfl) (by cases hF; rfl) (Nat.le_of_ble_eq_true rfl) (Nat.le_of_ble_eq_true rfl)
    have hF := if_f hF c3
    by_cases c4 : p2 = (1 : Int32)
    · have hF := if_t hF c4
      refine z_swi 41 (pc := 7) (off := 34) C dX8_batchOf_7 c4 (by decide) (by decide) (by decide +kernel) (by decide) ?_
      refine z_aload_n 0 (pc := 41) C dX8_batchOf_41 rfl rfl ?_
      refine gfX8_300 (pc := 42) C hk2 dX8_batchOf_42 ?_
      exact z_iret (pc := 45) C hQ hr rfl dX8_batchOf_45 (by cases hF; rfl) (by cases hF; rfl) (Nat.le_of_ble_eq_true rfl) (Nat.le_of_ble_eq_true rfl)
    have hF := if_f hF c4
    by_cases c5 : p2 = (2 : Int32)
    · have hF := if_t hF c5
      refine z_swi 46 (pc := 7) (off := 39) C dX8_batchOf_7 c5 (by decide) (by decide) (by decide +kernel) (by decide) ?_
      refine z_aload_n 0 (pc := 46) C dX8_batchOf_46 rfl rfl ?_
      refine gfX8_303 (pc := 47) C hk2 dX8_batchOf_47 ?_
      exact z_iret (pc := 50) C hQ hr rfl dX8_batchOf_50 (by cases hF; rfl) (by cases hF; rfl) (Nat.le_of_ble_eq_true rfl) (Nat.le_of_ble_eq_true rfl)
    have hF := if_f hF c5
    by_cases c6 : p2 = (3 : Int32)
    · have hF := if_t hF c6
      refine z_swi 51 (pc := 7) (off := 44) C dX8_batchOf_7 c6 (by decide) (by decide) (by decide +kernel) (by decide) ?_
      refine z_aload_n 0 (pc := 51) C dX8_batchOf_51 rfl rfl ?_
      refine gfX8_304 (pc := 52) C hk2 dX8_batchOf_52 ?_
      exact z_iret (pc := 55) C hQ hr rfl dX8_batchOf_55 (by cases hF; rfl) (by cases hF; rfl) (Nat.le_of_ble_eq_true rfl) (Nat.le_of_ble_eq_true rfl)
    have hF := if_f hF c6
    refine z_swo 56 (pc := 7) C dX8_batchOf_7 (by have q0 := i_ne c3 (n := 0) (by decide); have q1 := i_ne c4 (n := 1) (by decide); have q2 := i_ne c5 (n := 2) (by decide); have q3 := i_ne c6 (n := 3) (by decide); omega) (by decide) ?_
    exact z_thr (pc := 56) C hQ th_arg st_162 dX8_batchOf_56 dX8_batchOf_59 dX8_batchOf_60 dX8_batchOf_62 dX8_batchOf_65 (by cases hF; rfl) (by cases hF; rfl) (Nat.le_of_ble_eq_true rfl) (Nat.le_of_ble_eq_true rfl) (Nat.le_of_ble_eq_true rfl) (Nat.le_of_ble_eq_true rfl)
def fX8_blank (S : St) (p1 : Int32) (p2 : Int32) : Option ((String ⊕ Int32)) :=
  bx (fX8_partAt S p1) (fun (x7 : String) => some (.inl x7)) (fun (k1 : Nat) =>
  bx (fX8_toolAt S p2) (fun (x6 : String) => some (.inl x6)) (fun (k3 : Nat) =>
  bn1 (fX4_blankBy S k1 k3) (fun (v5 : Int32) =>
  some (.inr v5))))
abbrev rmX8_blank : Room := { frames := 8, cells := 2, slots := 12, locals := 170 }
set_option maxRecDepth 100000 in
set_option maxHeartbeats 4000000 in
theorem mX8_blank {l : Launch} {D : va_G} {cs : Nat → ClassId} {a : Nat → Nat} (hT : l.stackTraces = false) {S : St} {p1 : Int32} {p2 : Int32} {r : String ⊕ Int32} (hF : fX8_blank S p1 p2 = some r) : MX l 113 GX D cs a yX8_blank cX8_blank 4 (some .int) rmX8_blank [.ref (a 0), .int p1, .int p2] S (ocI r) S := by
  refine zm_entry [(0, .ref (a 0)), (1, .int p1), (2, .int p2)] hT (by decide +kernel) (Nat.le_of_ble_eq_true rfl) rfl (fun E hEl hED hEk C hQ hr => ?_)
  subst hEl
  subst hED
  subst hEk
  unfold fX8_blank at hF
  refine z_aload_n 0 (pc := 0) C dX8_blank_0 rfl rfl ?_
  refine z_iload_n 1 (pc := 1) C dX8_blank_1 rfl rfl ?_
  rcases bx_of hF with ⟨x7, hG, hF⟩ | ⟨k1, hG, hF⟩
  · exact z_callVx [.int p1] (pc := 2) C (mX8_partAt C.hT hG) kX8_104 (kdX_lt (rfl : kdX 0 = 8) (by decide)) (gX_8 (rfl : kdX 0 = 8)) rfl rfl rfl (Nat.le_of_ble_eq_true rfl) ⟨(Nat.le_of_ble_eq_true rfl), (Nat.le_of_ble_eq_true rfl)⟩ ⟨(Nat.le_of_ble_eq_true rfl), (Nat.le_of_ble_eq_true rfl)⟩ dX8_blank_2 hQ (by cases hF; rfl) (by cases hF; rfl)
  · have hk2 := qX8_partAt hG
    refine z_callV [.int p1] (pc := 2) (st1 := [.ref (a k1)]) (c1 := 1) (s1 := 6) C (mX8_partAt C.hT hG) kX8_104 (kdX_lt (rfl : kdX 0 = 8) (by decide)) (gX_8 (rfl : kdX 0 = 8)) rfl rfl rfl rfl (Nat.le_of_ble_eq_true rfl) ⟨(Nat.le_of_ble_eq_true rfl), (Nat.le_of_ble_eq_true rfl)⟩ ⟨(Nat.le_of_ble_eq_true rfl), (Nat.le_of_ble_eq_true rfl)⟩ dX8_blank_2 rfl rfl ?_
    refine z_astore_n (pc := 5) (loc' := [(3, .ref (a k1)), (0, .ref (a 0)), (1, .int p1), (2, .int p2)]) C dX8_blank_5 rfl (by decide) rfl ?_
    refine z_aload_n 0 (pc := 6) C dX8_blank_6 rfl rfl ?_
    refine z_aload_n 1 (pc := 7) C dX8_blank_7 rfl rfl ?_
    refine z_iload_n 3 (pc := 8) C dX8_blank_8 rfl rfl ?_
    rcases bx_of hF with ⟨x6, hG, hF⟩ | ⟨k3, hG, hF⟩
    · exact z_callVx [.int p2] (pc := 9) C (mX8_toolAt C.hT hG) kX8_186 (kdX_lt (rfl : kdX 0 = 8) (by decide)) (gX_8 (rfl : kdX 0 = 8)) rfl rfl rfl (Nat.le_of_ble_eq_true rfl) ⟨(Nat.le_of_ble_eq_true rfl), (Nat.le_of_ble_eq_true rfl)⟩ ⟨(Nat.le_of_ble_eq_true rfl), (Nat.le_of_ble_eq_true rfl)⟩ dX8_blank_9 hQ (by cases hF; rfl) (by cases hF; rfl)
    · have hk4 := qX8_toolAt hG
      refine z_callV [.int p2] (pc := 9) (st1 := [.ref (a k3), .ref (a k1)]) (c1 := 2) (s1 := 12) C (mX8_toolAt C.hT hG) kX8_186 (kdX_lt (rfl : kdX 0 = 8) (by decide)) (gX_8 (rfl : kdX 0 = 8)) rfl rfl rfl rfl (Nat.le_of_ble_eq_true rfl) ⟨(Nat.le_of_ble_eq_true rfl), (Nat.le_of_ble_eq_true rfl)⟩ ⟨(Nat.le_of_ble_eq_true rfl), (Nat.le_of_ble_eq_true rfl)⟩ dX8_blank_9 rfl rfl ?_
      obtain ⟨v5, hG, hF⟩ := bn1_of hF
      refine z_callV [.ref (a k3)] (pc := 12) (st1 := [.int v5]) (c1 := 2) (s1 := 12) C (mX4_blankBy C.hT hk2 hk4 hG) kX8_195 (kdX_lt hk2 (by decide)) (gX_4 hk2) rfl rfl rfl rfl (Nat.le_of_ble_eq_true rfl) ⟨(Nat.le_of_ble_eq_true rfl), (Nat.le_of_ble_eq_true rfl)⟩ ⟨(Nat.le_of_ble_eq_true rfl), (Nat.le_of_ble_eq_true rfl)⟩ dX8_blank_12 rfl rfl ?_
      exact z_iret (pc := 15) C hQ hr rfl dX8_blank_15 (by cases hF; rfl) (by cases hF; rfl) (Nat.le_of_ble_eq_true rfl) (Nat.le_of_ble_eq_true rfl)
def fX8_changeBatches_L6 (p1 : Int32) (p3 : Int32) (p2 : Int32) (next4 : Int32 → Int32 → St → Option (Int32 × St)) (v1 : Int32) (v2 : Int32) (S3 : St) : Option (Int32 × St) :=
  if (gi S3 0 8) ≤ v2 then (
    some (v1, S3))
  else (
    gd (inb v2 20) (
    bn2 (if (gi S3 (bid v2) 0) = p1 then (
      if (gi S3 (bid v2) 2) = (3 : Int32) then (
        some (v1, S3))
      else (
        bn1 (if (gi S3 (bid v2) 2) = 0 then (
          gd (inb p1 8) (
          gd (inb (gi S3 (bid v2) 1) 4) (
          bn1 (fX4_blankBy S3 (pid p1) (tid (gi S3 (bid v2) 1))) (fun (v33 : Int32) =>
          if (gi S3 (bid v2) 5) = v33 then (
            some (1 : Int32))
          else (
            some (0 : Int32))))))
        else (
          some p3)) (fun (v17 : Int32) =>
          jn1 (fun (S18 : St) =>
            bv (si S18 (bid v2) 2 (3 : Int32)) (fun (S19 : St) =>
            bv ((v1 + (gi S19 (bid v2) 3))) (fun (v21 : Int32) =>
            some (v21, S19)))) (fun J23 =>
            if p2 = 0 then (
              J23 S3)
            else (
              if v17 = 0 then (
                J23 S3)
              else (
                gd (inb p1 8) (
                bv (si S3 (bid v2) 4 (gi S3 (pid p1) 3)) (fun (S27 : St) =>
                some (v1, S27)))))))))
    else (
      some (v1, S3))) (fun (v10 : Int32) (S11 : St) =>
      bv (v2 + 1) (fun (v12 : Int32) =>
      next4 v10 v12 S11))))
def fX8_changeBatches (S : St) (p1 : Int32) (p2 : Int32) (p3 : Int32) : Option ((Int32 × St)) :=
  bn2 (lq3 (fX8_changeBatches_L6 p1 p3 p2) 200 (0 : Int32) (0 : Int32) S) (fun (v5 : Int32) (S6 : St) =>
    some (v5, S6))
abbrev rmX8_changeBatches : Room := { frames := 8, cells := 0, slots := 0, locals := 170 }
set_option maxRecDepth 100000 in
set_option maxHeartbeats 4000000 in
theorem mX8_changeBatches {l : Launch} {D : va_G} {cs : Nat → ClassId} {a : Nat → Nat} (hT : l.stackTraces = false) {S : St} {p1 : Int32} {p2 : Int32} {p3 : Int32} {r : Int32} {S' : St} (hF : fX8_changeBatches S p1 p2 p3 = some (r, S')) : MX l 113 GX D cs a yX8_changeBatches cX8_changeBatches 8 (some .int) rmX8_changeBatches [.ref (a 0), .int p1, .int p2, .int p3] S (.inr (some (.int r))) S' := by
  refine zm_entry [(0, .ref (a 0)), (1, .int p1), (2, .int p2), (3, .int p3)] hT (by decide +kernel) (Nat.le_of_ble_eq_true rfl) rfl (fun E hEl hED hEk C hQ hr => ?_)
  subst hEl
  subst hED
  subst hEk
  unfold fX8_changeBatches at hF
  refine z_iconst (pc := 0) (v := (0 : Int32)) C dX8_changeBatches_0 (by decide) ?_
  refine z_istore (pc := 1) (loc' := [(4, .int (0 : Int32)), (0, .ref (a 0)), (1, .int p1), (2, .int p2), (3, .int p3)]) C dX8_changeBatches_1 (by decide) rfl ?_
  refine z_iconst (pc := 3) (v := (0 : Int32)) C dX8_changeBatches_3 (by decide) ?_
  refine z_istore (pc := 4) (loc' := [(5, .int (0 : Int32)), (4, .int (0 : Int32)), (0, .ref (a 0)), (1, .int p1), (2, .int p2), (3, .int p3)]) C dX8_changeBatches_4 (by decide) rfl ?_
  refine z_sub [2, 3, 4, 5, 1, 0] rfl ?_
  obtain ⟨v5', S6', hR, hF⟩ := bn2_of hF
  have hJ7 : ∀ (v5 : Int32) (S6 : St), (some (v5, S6) : Option (Int32 × St)) = some (v5', S6') → Zz E (WX E a S6) 0 0 139 [(4, .int v5)] [] := by
    intro v5 S6 hE
    have hE0 := Option.some.inj hE
    obtain ⟨hA0, hE1⟩ := Prod.mk.inj hE0
    subst hA0
    subst hE1
    refine z_iload 0 (pc := 139) C dX8_changeBatches_139 rfl ?_
    exact z_iret (pc := 141) C hQ hr rfl dX8_changeBatches_141 (by cases hF; rfl) (by cases hF; rfl) (Nat.le_of_ble_eq_true rfl) (Nat.le_of_ble_eq_true rfl)
  have hF := hR
  clear hR
  refine lq3_W (P := fun (v1 : Int32) (v2 : Int32) (S3 : St) => Zz E (WX E a S3) 0 0 6 [(0, .ref (a 0)), (1, .int p1), (2, .int p2), (3, .int p3), (4, .int v1), (5, .int v2)] []) (fun next4 hN4 v1 v2 S3 hF => ?_) _ _ _ _ hF
  unfold fX8_changeBatches_L6 at hF
  refine z_iload 5 (pc := 6) C dX8_changeBatches_6 rfl ?_
  refine z_aload_n 0 (pc := 8) C dX8_changeBatches_8 rfl rfl ?_
  refine gfX8_286 (pc := 9) C (rfl : kdX 0 = 8) dX8_changeBatches_9 ?_
  refine z_icmp_ge 139 (pc := 12) C dX8_changeBatches_12 (by decide) (fun c8 => ?_) (fun c8 => ?_)
  · have hF := if_t hF c8
    refine z_sub [4] rfl ?_
    exact hJ7 _ _ hF
  · have hF := if_f hF c8
    refine z_aload_n 0 (pc := 15) C dX8_changeBatches_15 rfl rfl ?_
    refine gfX8_34 (pc := 16) C (rfl : kdX 0 = 8) dX8_changeBatches_16 ?_
    refine z_iload 5 (pc := 19) C dX8_changeBatches_19 rfl ?_
    obtain ⟨g9, hF⟩ := gd_of hF
    refine aabid (pc := 21) C (rfl : kdX 7 = 13) g9 dX8_changeBatches_21 ?_
    refine z_astore (pc := 22) (loc' := [(6, .ref (a (bid v2))), (0, .ref (a 0)), (1, .int p1), (2, .int p2), (3, .int p3), (4, .int v1), (5, .int v2)]) C dX8_changeBatches_22 (by decide) rfl ?_
    refine z_aload 0 (pc := 24) C dX8_changeBatches_24 rfl ?_
    refine gfX8_291 (pc := 26) C (kX_bid g9) dX8_changeBatches_26 ?_
    refine z_iload_n 2 (pc := 29) C dX8_changeBatches_29 rfl rfl ?_
    obtain ⟨v10', S11', hR, hF⟩ := bn2_of hF
    have hJ14 : ∀ (v10 : Int32) (S11 : St), (some (v10, S11) : Option (Int32 × St)) = some (v10', S11') → Zz E (WX E a S11) 0 0 133 [(0, .ref (a 0)), (1, .int p1), (2, .int p2), (3, .int p3), (4, .int v10), (5, .int v2)] [] := by
      intro v10 S11 hE
      have hE0 := Option.some.inj hE
      obtain ⟨hA0, hE1⟩ := Prod.mk.inj hE0
      subst hA0
      subst hE1
      obtain ⟨v12, e13, hF⟩ := bv_of hF
      refine z_iinc 5 (pc := 133) (v := v12) (loc' := [(5, .int v12), (0, .ref (a 0)), (1, .int p1), (2, .int p2), (3, .int p3), (4, .int v10)]) C dX8_changeBatches_133 rfl (by rw [e13]; rfl) (by decide) rfl ?_
      refine z_goto 6 (pc := 136) C dX8_changeBatches_136 (by decide) ?_
      refine z_sub [1, 2, 3, 4, 5, 0] rfl ?_
      exact hN4 _ _ _ hF
    have hF := hR
    clear hR
    refine z_icmp_ne 133 (pc := 30) C dX8_changeBatches_30 (by decide) (fun c15 => ?_) (fun c15 => ?_)
    · have hF := if_f hF c15
      refine z_sub [1, 2, 3, 4, 5, 6] rfl ?_
      exact hJ14 _ _ hF
    · have hF := if_t hF c15
      refine z_aload 0 (pc := 33) C dX8_changeBatches_33 rfl ?_
      refine gfX8_297 (pc := 35) C (kX_bid g9) dX8_changeBatches_35 ?_
      refine z_iconst (pc := 38) (v := (3 : Int32)) C dX8_changeBatches_38 (by decide) ?_
      refine z_icmp_ne 45 (pc := 39) C dX8_changeBatches_39 (by decide) (fun c16 => ?_) (fun c16 => ?_)
      · have hF := if_f hF c16
        refine z_aload 0 (pc := 45) C dX8_changeBatches_45 rfl ?_
        refine gfX8_297 (pc := 47) C (kX_bid g9) dX8_changeBatches_47 ?_
        obtain ⟨v17', hR, hF⟩ := bn1_of hF
        have hJ29 : ∀ (v17 : Int32), (some v17 : Option (Int32)) = some v17' → Zz E (WX E a S3) 0 0 89 [(0, .ref (a 0)), (1, .int p1), (2, .int p2), (3, .int p3), (4, .int v1), (5, .int v2), (6, .ref (a (bid v2)))] [.int v17] := by
          intro v17 hE
          have hE0 := Option.some.inj hE
          subst hE0
          refine z_istore (pc := 89) (loc' := [(7, .int v17), (0, .ref (a 0)), (1, .int p1), (2, .int p2), (3, .int p3), (4, .int v1), (5, .int v2), (6, .ref (a (bid v2)))]) C dX8_changeBatches_89 (by decide) rfl ?_
          refine z_iload_n 3 (pc := 91) C dX8_changeBatches_91 rfl rfl ?_
          obtain ⟨J23, hdJ23, hF⟩ := jn1_of hF
          have hJ23 : ∀ (S18 : St), J23 S18 = some (v10', S11') → Zz E (WX E a S18) 0 0 117 [(0, .ref (a 0)), (1, .int p1), (2, .int p2), (3, .int p3), (4, .int v1), (5, .int v2), (6, .ref (a (bid v2)))] [] := by
            intro S18 hF
            have hF := (hdJ23 _).symm.trans hF
            refine z_aload 6 (pc := 117) C dX8_changeBatches_117 rfl ?_
            refine z_iconst (pc := 119) (v := (3 : Int32)) C dX8_changeBatches_119 (by decide) ?_
            refine pfX8_297 (pc := 120) C (kX_bid g9) dX8_changeBatches_120 ?_
            obtain ⟨S19, e20, hF⟩ := bv_of hF
            rw [← e20]
            refine z_iload 4 (pc := 123) C dX8_changeBatches_123 rfl ?_
            refine z_aload 6 (pc := 125) C dX8_changeBatches_125 rfl ?_
            refine gfX8_300 (pc := 127) C (kX_bid g9) dX8_changeBatches_127 ?_
            refine z_iadd (pc := 130) C dX8_changeBatches_130 ?_
            obtain ⟨v21, e22, hF⟩ := bv_of hF
            refine z_topi e22 ?_
            refine z_istore (pc := 131) (loc' := [(4, .int v21), (0, .ref (a 0)), (1, .int p1), (2, .int p2), (3, .int p3), (5, .int v2), (6, .ref (a (bid v2)))]) C dX8_changeBatches_131 (by decide) rfl ?_
            refine z_sub [1, 2, 3, 4, 0, 5] rfl ?_
            exact hJ14 _ _ hF
          refine z_if_eq 117 (pc := 92) C dX8_changeBatches_92 (by decide) (fun c24 => ?_) (fun c24 => ?_)
          · have hF := if_t hF c24
            refine z_sub [1, 2, 3, 4, 5, 6, 7] rfl ?_
            exact hJ23 _ hF
          · have hF := if_f hF c24
            refine z_iload 0 (pc := 95) C dX8_changeBatches_95 rfl ?_
            refine z_if_eq 117 (pc := 97) C dX8_changeBatches_97 (by decide) (fun c25 => ?_) (fun c25 => ?_)
            · have hF := if_t hF c25
              refine z_sub [1, 2, 3, 4, 5, 6, 7] rfl ?_
              exact hJ23 _ hF
            · have hF := if_f hF c25
              refine z_aload 7 (pc := 100) C dX8_changeBatches_100 rfl ?_
              refine z_aload_n 1 (pc := 102) C dX8_changeBatches_102 rfl rfl ?_
              refine gfX8_18 (pc := 103) C (rfl : kdX 0 = 8) dX8_changeBatches_103 ?_
              refine z_iload_n 2 (pc := 106) C dX8_changeBatches_106 rfl rfl ?_
              obtain ⟨g26, hF⟩ := gd_of hF
              refine aapid (pc := 107) C (rfl : kdX 4 = 11) g26 dX8_changeBatches_107 ?_
              refine gfX8_124 (pc := 108) C (kX_pid g26) dX8_changeBatches_108 ?_
              refine pfX8_303 (pc := 111) C (kX_bid g9) dX8_changeBatches_111 ?_
              obtain ⟨S27, e28, hF⟩ := bv_of hF
              rw [← e28]
              refine z_goto 133 (pc := 114) C dX8_changeBatches_114 (by decide) ?_
              refine z_sub [1, 2, 3, 4, 5, 6] rfl ?_
              exact hJ14 _ _ hF
        have hF := hR
        clear hR
        refine z_if_ne 88 (pc := 50) C dX8_changeBatches_50 (by decide) (fun c30 => ?_) (fun c30 => ?_)
        · have hF := if_f hF c30
          refine z_iload_n 4 (pc := 88) C dX8_changeBatches_88 rfl rfl ?_
          refine z_sub [1, 2, 3, 4, 5, 6, 0] rfl ?_
          exact hJ29 _ hF
        · have hF := if_t hF c30
          refine z_aload 0 (pc := 53) C dX8_changeBatches_53 rfl ?_
          refine gfX8_304 (pc := 55) C (kX_bid g9) dX8_changeBatches_55 ?_
          refine z_aload_n 1 (pc := 58) C dX8_changeBatches_58 rfl rfl ?_
          refine gfX8_18 (pc := 59) C (rfl : kdX 0 = 8) dX8_changeBatches_59 ?_
          refine z_iload_n 2 (pc := 62) C dX8_changeBatches_62 rfl rfl ?_
          obtain ⟨g31, hF⟩ := gd_of hF
          refine aapid (pc := 63) C (rfl : kdX 4 = 11) g31 dX8_changeBatches_63 ?_
          refine z_aload_n 1 (pc := 64) C dX8_changeBatches_64 rfl rfl ?_
          refine gfX8_24 (pc := 65) C (rfl : kdX 0 = 8) dX8_changeBatches_65 ?_
          refine z_aload 0 (pc := 68) C dX8_changeBatches_68 rfl ?_
          refine gfX8_294 (pc := 70) C (kX_bid g9) dX8_changeBatches_70 ?_
          obtain ⟨g32, hF⟩ := gd_of hF
          refine aatid (pc := 73) C (rfl : kdX 5 = 12) g32 dX8_changeBatches_73 ?_
          obtain ⟨v33, hG, hF⟩ := bn1_of hF
          refine z_callV [.ref (a (tid (gi S3 (bid v2) 1)))] (pc := 74) (st1 := [.int v33, .int (gi S3 (bid v2) 5)]) (c1 := 0) (s1 := 0) C (mX4_blankBy C.hT (kX_pid g31) (kX_tid g32) hG) kX8_195 (kdX_lt (kX_pid g31) (by decide)) (gX_4 (kX_pid g31)) rfl rfl rfl rfl (Nat.le_of_ble_eq_true rfl) ⟨(Nat.le_of_ble_eq_true rfl), (Nat.le_of_ble_eq_true rfl)⟩ ⟨(Nat.le_of_ble_eq_true rfl), (Nat.le_of_ble_eq_true rfl)⟩ dX8_changeBatches_74 rfl rfl ?_
          refine z_icmp_ne 84 (pc := 77) C dX8_changeBatches_77 (by decide) (fun c34 => ?_) (fun c34 => ?_)
          · have hF := if_f hF c34
            refine z_iconst (pc := 84) (v := (0 : Int32)) C dX8_changeBatches_84 (by decide) ?_
            refine z_goto 89 (pc := 85) C dX8_changeBatches_85 (by decide) ?_
            refine z_sub [1, 2, 3, 4, 5, 6, 0] rfl ?_
            exact hJ29 _ hF
          · have hF := if_t hF c34
            refine z_iconst (pc := 80) (v := (1 : Int32)) C dX8_changeBatches_80 (by decide) ?_
            refine z_goto 89 (pc := 81) C dX8_changeBatches_81 (by decide) ?_
            refine z_sub [1, 2, 3, 4, 5, 6, 0] rfl ?_
            exact hJ29 _ hF
      · have hF := if_t hF c16
        refine z_goto 133 (pc := 42) C dX8_changeBatches_42 (by decide) ?_
        refine z_sub [1, 2, 3, 4, 5, 6] rfl ?_
        exact hJ14 _ _ hF
def fX8_hole (S : St) (p1 : Int32) (p2 : Int32) (p3 : Int32) (p4 : Int32) : Option (((String ⊕ Int32) × St)) :=
  bx (fX8_partAt S p1) (fun (x24 : String) => some (.inl x24, S)) (fun (k1 : Nat) =>
  bn1 (fX8_isOut p2 (0 : Int32) ((gi S (k1 + 1) 2) - (1 : Int32))) (fun (v3 : Int32) =>
  if v3 = 0 then (
    gd (inb p2 6) (
    bn1 (fX8_isOut p3 (1 : Int32) ((gi S ((k1 + 1) + 1) p2.toNatClampNeg) - (1 : Int32))) (fun (v6 : Int32) =>
    if v6 = 0 then (
      bn1 (fX8_isOut p4 (1 : Int32) (20 : Int32)) (fun (v8 : Int32) =>
      if v8 = 0 then (
        if (6 : Int32) ≤ (gi S k1 7) then (
          some (.inl "java/lang/IllegalStateException", S))
        else (
          bn1 (fX8_hasBatch S p1) (fun (v11 : Int32) =>
          if v11 = 0 then (
            gd (inb (gi S k1 7) 6) (
            bv (si S (k1 + 4) (gi S k1 7).toNatClampNeg p2) (fun (S14 : St) =>
            gd (inb (gi S14 k1 7) 6) (
            bv (si S14 (k1 + 5) (gi S14 k1 7).toNatClampNeg p3) (fun (S17 : St) =>
            gd (inb (gi S17 k1 7) 6) (
            bv (si S17 (k1 + 6) (gi S17 k1 7).toNatClampNeg p4) (fun (S20 : St) =>
            bv (si S20 k1 7 ((gi S20 k1 7) + (1 : Int32))) (fun (S22 : St) =>
            some (.inr ((gi S22 k1 7) - (1 : Int32)), S22)))))))))
          else (
            some (.inl "java/lang/IllegalStateException", S)))))
      else (
        some (.inl "java/lang/IllegalArgumentException", S))))
    else (
      some (.inl "java/lang/IllegalArgumentException", S)))))
  else (
    some (.inl "java/lang/IndexOutOfBoundsException", S))))
abbrev rmX8_hole : Room := { frames := 8, cells := 2, slots := 12, locals := 170 }
set_option maxRecDepth 100000 in
set_option maxHeartbeats 4000000 in
theorem mX8_hole {l : Launch} {D : va_G} {cs : Nat → ClassId} {a : Nat → Nat} (hT : l.stackTraces = false) {S : St} {p1 : Int32} {p2 : Int32} {p3 : Int32} {p4 : Int32} {r : String ⊕ Int32} {S' : St} (hF : fX8_hole S p1 p2 p3 p4 = some (r, S')) : MX l 113 GX D cs a yX8_hole cX8_hole 6 (some .int) rmX8_hole [.ref (a 0), .int p1, .int p2, .int p3, .int p4] S (ocI r) S' := by
  refine zm_entry [(0, .ref (a 0)), (1, .int p1), (2, .int p2), (3, .int p3), (4, .int p4)] hT (by decide +kernel) (Nat.le_of_ble_eq_true rfl) rfl (fun E hEl hED hEk C hQ hr => ?_)
  subst hEl
  subst hED
  subst hEk
  unfold fX8_hole at hF
  refine z_aload_n 0 (pc := 0) C dX8_hole_0 rfl rfl ?_
  refine z_iload_n 1 (pc := 1) C dX8_hole_1 rfl rfl ?_
  rcases bx_of hF with ⟨x24, hG, hF⟩ | ⟨k1, hG, hF⟩
  · exact z_callVx [.int p1] (pc := 2) C (mX8_partAt C.hT hG) kX8_104 (kdX_lt (rfl : kdX 0 = 8) (by decide)) (gX_8 (rfl : kdX 0 = 8)) rfl rfl rfl (Nat.le_of_ble_eq_true rfl) ⟨(Nat.le_of_ble_eq_true rfl), (Nat.le_of_ble_eq_true rfl)⟩ ⟨(Nat.le_of_ble_eq_true rfl), (Nat.le_of_ble_eq_true rfl)⟩ dX8_hole_2 hQ (by cases hF; rfl) (by cases hF; rfl)
  · have hk2 := qX8_partAt hG
    refine z_callV [.int p1] (pc := 2) (st1 := [.ref (a k1)]) (c1 := 1) (s1 := 6) C (mX8_partAt C.hT hG) kX8_104 (kdX_lt (rfl : kdX 0 = 8) (by decide)) (gX_8 (rfl : kdX 0 = 8)) rfl rfl rfl rfl (Nat.le_of_ble_eq_true rfl) ⟨(Nat.le_of_ble_eq_true rfl), (Nat.le_of_ble_eq_true rfl)⟩ ⟨(Nat.le_of_ble_eq_true rfl), (Nat.le_of_ble_eq_true rfl)⟩ dX8_hole_2 rfl rfl ?_
    refine z_astore (pc := 5) (loc' := [(5, .ref (a k1)), (0, .ref (a 0)), (1, .int p1), (2, .int p2), (3, .int p3), (4, .int p4)]) C dX8_hole_5 (by decide) rfl ?_
    refine z_iload_n 3 (pc := 7) C dX8_hole_7 rfl rfl ?_
    refine z_iconst (pc := 8) (v := (0 : Int32)) C dX8_hole_8 (by decide) ?_
    refine z_aload 0 (pc := 9) C dX8_hole_9 rfl ?_
    refine gfX8_117 (pc := 11) C hk2 dX8_hole_11 ?_
    refine gfX8_73 (pc := 14) C (kX_4_0 hk2) dX8_hole_14 ?_
    refine z_iconst (pc := 17) (v := (1 : Int32)) C dX8_hole_17 (by decide) ?_
    refine z_isub (pc := 18) C dX8_hole_18 ?_
    obtain ⟨v3, hG, hF⟩ := bn1_of hF
    refine z_callS [.int p2, .int (0 : Int32), .int ((gi S (k1 + 1) 2) - (1 : Int32))] (pc := 19) (st1 := [.int v3]) (c1 := 1) (s1 := 6) C (mX8_isOut C.hT hG) kX8_62 rfl rfl rfl rfl (Nat.le_of_ble_eq_true rfl) ⟨(Nat.le_of_ble_eq_true rfl), (Nat.le_of_ble_eq_true rfl)⟩ ⟨(Nat.le_of_ble_eq_true rfl), (Nat.le_of_ble_eq_true rfl)⟩ dX8_hole_19 rfl rfl ?_
    refine z_if_eq 35 (pc := 22) C dX8_hole_22 (by decide) (fun c4 => ?_) (fun c4 => ?_)
    · have hF := if_t hF c4
      refine z_iload_n 4 (pc := 35) C dX8_hole_35 rfl rfl ?_
      refine z_iconst (pc := 36) (v := (1 : Int32)) C dX8_hole_36 (by decide) ?_
      refine z_aload 0 (pc := 37) C dX8_hole_37 rfl ?_
      refine gfX8_117 (pc := 39) C hk2 dX8_hole_39 ?_
      refine gfX8_82 (pc := 42) C (kX_4_0 hk2) dX8_hole_42 ?_
      refine z_iload_n 3 (pc := 45) C dX8_hole_45 rfl rfl ?_
      obtain ⟨g5, hF⟩ := gd_of hF
      refine iaX6 (pc := 46) C (kX_2_0 (kX_4_0 hk2)) g5 dX8_hole_46 ?_
      refine z_iconst (pc := 47) (v := (1 : Int32)) C dX8_hole_47 (by decide) ?_
      refine z_isub (pc := 48) C dX8_hole_48 ?_
      obtain ⟨v6, hG, hF⟩ := bn1_of hF
      refine z_callS [.int p3, .int (1 : Int32), .int ((gi S ((k1 + 1) + 1) p2.toNatClampNeg) - (1 : Int32))] (pc := 49) (st1 := [.int v6]) (c1 := 1) (s1 := 6) C (mX8_isOut C.hT hG) kX8_62 rfl rfl rfl rfl (Nat.le_of_ble_eq_true rfl) ⟨(Nat.le_of_ble_eq_true rfl), (Nat.le_of_ble_eq_true rfl)⟩ ⟨(Nat.le_of_ble_eq_true rfl), (Nat.le_of_ble_eq_true rfl)⟩ dX8_hole_49 rfl rfl ?_
      refine z_if_ne 66 (pc := 52) C dX8_hole_52 (by decide) (fun c7 => ?_) (fun c7 => ?_)
      · have hF := if_f hF c7
        exact z_thr (pc := 66) C hQ th_arg st_136 dX8_hole_66 dX8_hole_69 dX8_hole_70 dX8_hole_72 dX8_hole_75 (by cases hF; rfl) (by cases hF; rfl) (Nat.le_of_ble_eq_true rfl) (Nat.le_of_ble_eq_true rfl) (Nat.le_of_ble_eq_true rfl) (Nat.le_of_ble_eq_true rfl)
      · have hF := if_t hF c7
        refine z_iload 5 (pc := 55) C dX8_hole_55 rfl ?_
        refine z_iconst (pc := 57) (v := (1 : Int32)) C dX8_hole_57 (by decide) ?_
        refine z_bipush (pc := 58) (v := (20 : Int32)) C dX8_hole_58 (by decide) ?_
        obtain ⟨v8, hG, hF⟩ := bn1_of hF
        refine z_callS [.int p4, .int (1 : Int32), .int (20 : Int32)] (pc := 60) (st1 := [.int v8]) (c1 := 1) (s1 := 6) C (mX8_isOut C.hT hG) kX8_62 rfl rfl rfl rfl (Nat.le_of_ble_eq_true rfl) ⟨(Nat.le_of_ble_eq_true rfl), (Nat.le_of_ble_eq_true rfl)⟩ ⟨(Nat.le_of_ble_eq_true rfl), (Nat.le_of_ble_eq_true rfl)⟩ dX8_hole_60 rfl rfl ?_
        refine z_if_eq 76 (pc := 63) C dX8_hole_63 (by decide) (fun c9 => ?_) (fun c9 => ?_)
        · have hF := if_t hF c9
          refine z_aload 0 (pc := 76) C dX8_hole_76 rfl ?_
          refine gfX8_108 (pc := 78) C hk2 dX8_hole_78 ?_
          refine z_bipush (pc := 81) (v := (6 : Int32)) C dX8_hole_81 (by decide) ?_
          refine z_icmp_ge 94 (pc := 83) C dX8_hole_83 (by decide) (fun c10 => ?_) (fun c10 => ?_)
          · have hF := if_t hF c10
            exact z_thr (pc := 94) C hQ th_sta st_142 dX8_hole_94 dX8_hole_97 dX8_hole_98 dX8_hole_100 dX8_hole_103 (by cases hF; rfl) (by cases hF; rfl) (Nat.le_of_ble_eq_true rfl) (Nat.le_of_ble_eq_true rfl) (Nat.le_of_ble_eq_true rfl) (Nat.le_of_ble_eq_true rfl)
          · have hF := if_f hF c10
            refine z_aload_n 1 (pc := 86) C dX8_hole_86 rfl rfl ?_
            refine z_iload_n 2 (pc := 87) C dX8_hole_87 rfl rfl ?_
            obtain ⟨v11, hG, hF⟩ := bn1_of hF
            refine z_callV [.int p1] (pc := 88) (st1 := [.int v11]) (c1 := 1) (s1 := 6) C (mX8_hasBatch C.hT hG) kX8_138 (kdX_lt (rfl : kdX 0 = 8) (by decide)) (gX_8 (rfl : kdX 0 = 8)) rfl rfl rfl rfl (Nat.le_of_ble_eq_true rfl) ⟨(Nat.le_of_ble_eq_true rfl), (Nat.le_of_ble_eq_true rfl)⟩ ⟨(Nat.le_of_ble_eq_true rfl), (Nat.le_of_ble_eq_true rfl)⟩ dX8_hole_88 rfl rfl ?_
            refine z_if_eq 104 (pc := 91) C dX8_hole_91 (by decide) (fun c12 => ?_) (fun c12 => ?_)
            · have hF := if_t hF c12
              refine z_aload 0 (pc := 104) C dX8_hole_104 rfl ?_
              refine gfX8_144 (pc := 106) C hk2 dX8_hole_106 ?_
              refine z_aload 0 (pc := 109) C dX8_hole_109 rfl ?_
              refine gfX8_108 (pc := 111) C hk2 dX8_hole_111 ?_
              refine z_iload_n 3 (pc := 114) C dX8_hole_114 rfl rfl ?_
              obtain ⟨g13, hF⟩ := gd_of hF
              refine saX6 (pc := 115) C (kX_4_4 hk2) g13 dX8_hole_115 ?_
              obtain ⟨S14, e15, hF⟩ := bv_of hF
              rw [← e15]
              refine z_aload 0 (pc := 116) C dX8_hole_116 rfl ?_
              refine gfX8_147 (pc := 118) C hk2 dX8_hole_118 ?_
              refine z_aload 0 (pc := 121) C dX8_hole_121 rfl ?_
              refine gfX8_108 (pc := 123) C hk2 dX8_hole_123 ?_
              refine z_iload_n 4 (pc := 126) C dX8_hole_126 rfl rfl ?_
              obtain ⟨g16, hF⟩ := gd_of hF
              refine saX6 (pc := 127) C (kX_4_5 hk2) g16 dX8_hole_127 ?_
              obtain ⟨S17, e18, hF⟩ := bv_of hF
              rw [← e18]
              refine z_aload 0 (pc := 128) C dX8_hole_128 rfl ?_
              refine gfX8_150 (pc := 130) C hk2 dX8_hole_130 ?_
              refine z_aload 0 (pc := 133) C dX8_hole_133 rfl ?_
              refine gfX8_108 (pc := 135) C hk2 dX8_hole_135 ?_
              refine z_iload 5 (pc := 138) C dX8_hole_138 rfl ?_
              obtain ⟨g19, hF⟩ := gd_of hF
              refine saX6 (pc := 140) C (kX_4_6 hk2) g19 dX8_hole_140 ?_
              obtain ⟨S20, e21, hF⟩ := bv_of hF
              rw [← e21]
              refine z_aload 0 (pc := 141) C dX8_hole_141 rfl ?_
              refine z_dup (pc := 143) C dX8_hole_143 rfl ?_
              refine gfX8_108 (pc := 144) C hk2 dX8_hole_144 ?_
              refine z_iconst (pc := 147) (v := (1 : Int32)) C dX8_hole_147 (by decide) ?_
              refine z_iadd (pc := 148) C dX8_hole_148 ?_
              refine pfX8_108 (pc := 149) C hk2 dX8_hole_149 ?_
              obtain ⟨S22, e23, hF⟩ := bv_of hF
              rw [← e23]
              refine z_aload 0 (pc := 152) C dX8_hole_152 rfl ?_
              refine gfX8_108 (pc := 154) C hk2 dX8_hole_154 ?_
              refine z_iconst (pc := 157) (v := (1 : Int32)) C dX8_hole_157 (by decide) ?_
              refine z_isub (pc := 158) C dX8_hole_158 ?_
              exact z_iret (pc := 159) C hQ hr rfl dX8_hole_159 (by cases hF; rfl) (by cases hF; rfl) (Nat.le_of_ble_eq_true rfl) (Nat.le_of_ble_eq_true rfl)
            · have hF := if_f hF c12
              exact z_thr (pc := 94) C hQ th_sta st_142 dX8_hole_94 dX8_hole_97 dX8_hole_98 dX8_hole_100 dX8_hole_103 (by cases hF; rfl) (by cases hF; rfl) (Nat.le_of_ble_eq_true rfl) (Nat.le_of_ble_eq_true rfl) (Nat.le_of_ble_eq_true rfl) (Nat.le_of_ble_eq_true rfl)
        · have hF := if_f hF c9
          exact z_thr (pc := 66) C hQ th_arg st_136 dX8_hole_66 dX8_hole_69 dX8_hole_70 dX8_hole_72 dX8_hole_75 (by cases hF; rfl) (by cases hF; rfl) (Nat.le_of_ble_eq_true rfl) (Nat.le_of_ble_eq_true rfl) (Nat.le_of_ble_eq_true rfl) (Nat.le_of_ble_eq_true rfl)
    · have hF := if_f hF c4
      exact z_thr (pc := 25) C hQ th_ind st_133 dX8_hole_25 dX8_hole_28 dX8_hole_29 dX8_hole_31 dX8_hole_34 (by cases hF; rfl) (by cases hF; rfl) (Nat.le_of_ble_eq_true rfl) (Nat.le_of_ble_eq_true rfl) (Nat.le_of_ble_eq_true rfl) (Nat.le_of_ble_eq_true rfl)
def fX8_isNear (S : St) (p1 : Int32) (p2 : Int32) : Option ((String ⊕ Int32)) :=
  bx (fX8_partAt S p1) (fun (x6 : String) => some (.inl x6)) (fun (k1 : Nat) =>
  bn1 (fX8_isOut p2 (0 : Int32) ((gi S k1 7) - (1 : Int32))) (fun (v3 : Int32) =>
  if v3 = 0 then (
    bn1 (fX4_isHoleNear S k1 p2) (fun (v5 : Int32) =>
    gd (isb v5) (some (.inr v5))))
  else (
    some (.inl "java/lang/IndexOutOfBoundsException"))))
abbrev rmX8_isNear : Room := { frames := 8, cells := 2, slots := 12, locals := 170 }
set_option maxRecDepth 100000 in
set_option maxHeartbeats 4000000 in
theorem mX8_isNear {l : Launch} {D : va_G} {cs : Nat → ClassId} {a : Nat → Nat} (hT : l.stackTraces = false) {S : St} {p1 : Int32} {p2 : Int32} {r : String ⊕ Int32} (hF : fX8_isNear S p1 p2 = some r) : MX l 113 GX D cs a yX8_isNear cX8_isNear 4 (some .boolean) rmX8_isNear [.ref (a 0), .int p1, .int p2] S (ocI r) S := by
  refine zm_entry [(0, .ref (a 0)), (1, .int p1), (2, .int p2)] hT (by decide +kernel) (Nat.le_of_ble_eq_true rfl) rfl (fun E hEl hED hEk C hQ hr => ?_)
  subst hEl
  subst hED
  subst hEk
  unfold fX8_isNear at hF
  refine z_aload_n 0 (pc := 0) C dX8_isNear_0 rfl rfl ?_
  refine z_iload_n 1 (pc := 1) C dX8_isNear_1 rfl rfl ?_
  rcases bx_of hF with ⟨x6, hG, hF⟩ | ⟨k1, hG, hF⟩
  · exact z_callVx [.int p1] (pc := 2) C (mX8_partAt C.hT hG) kX8_104 (kdX_lt (rfl : kdX 0 = 8) (by decide)) (gX_8 (rfl : kdX 0 = 8)) rfl rfl rfl (Nat.le_of_ble_eq_true rfl) ⟨(Nat.le_of_ble_eq_true rfl), (Nat.le_of_ble_eq_true rfl)⟩ ⟨(Nat.le_of_ble_eq_true rfl), (Nat.le_of_ble_eq_true rfl)⟩ dX8_isNear_2 hQ (by cases hF; rfl) (by cases hF; rfl)
  · have hk2 := qX8_partAt hG
    refine z_callV [.int p1] (pc := 2) (st1 := [.ref (a k1)]) (c1 := 1) (s1 := 6) C (mX8_partAt C.hT hG) kX8_104 (kdX_lt (rfl : kdX 0 = 8) (by decide)) (gX_8 (rfl : kdX 0 = 8)) rfl rfl rfl rfl (Nat.le_of_ble_eq_true rfl) ⟨(Nat.le_of_ble_eq_true rfl), (Nat.le_of_ble_eq_true rfl)⟩ ⟨(Nat.le_of_ble_eq_true rfl), (Nat.le_of_ble_eq_true rfl)⟩ dX8_isNear_2 rfl rfl ?_
    refine z_astore_n (pc := 5) (loc' := [(3, .ref (a k1)), (0, .ref (a 0)), (1, .int p1), (2, .int p2)]) C dX8_isNear_5 rfl (by decide) rfl ?_
    refine z_iload_n 3 (pc := 6) C dX8_isNear_6 rfl rfl ?_
    refine z_iconst (pc := 7) (v := (0 : Int32)) C dX8_isNear_7 (by decide) ?_
    refine z_aload_n 0 (pc := 8) C dX8_isNear_8 rfl rfl ?_
    refine gfX8_108 (pc := 9) C hk2 dX8_isNear_9 ?_
    refine z_iconst (pc := 12) (v := (1 : Int32)) C dX8_isNear_12 (by decide) ?_
    refine z_isub (pc := 13) C dX8_isNear_13 ?_
    obtain ⟨v3, hG, hF⟩ := bn1_of hF
    refine z_callS [.int p2, .int (0 : Int32), .int ((gi S k1 7) - (1 : Int32))] (pc := 14) (st1 := [.int v3]) (c1 := 1) (s1 := 6) C (mX8_isOut C.hT hG) kX8_62 rfl rfl rfl rfl (Nat.le_of_ble_eq_true rfl) ⟨(Nat.le_of_ble_eq_true rfl), (Nat.le_of_ble_eq_true rfl)⟩ ⟨(Nat.le_of_ble_eq_true rfl), (Nat.le_of_ble_eq_true rfl)⟩ dX8_isNear_14 rfl rfl ?_
    refine z_if_eq 30 (pc := 17) C dX8_isNear_17 (by decide) (fun c4 => ?_) (fun c4 => ?_)
    · have hF := if_t hF c4
      refine z_aload_n 0 (pc := 30) C dX8_isNear_30 rfl rfl ?_
      refine z_iload_n 3 (pc := 31) C dX8_isNear_31 rfl rfl ?_
      obtain ⟨v5, hG, hF⟩ := bn1_of hF
      refine z_callV [.int p2] (pc := 32) (st1 := [.int v5]) (c1 := 1) (s1 := 6) C (mX4_isHoleNear C.hT hk2 hG) kX8_155 (kdX_lt hk2 (by decide)) (gX_4 hk2) rfl rfl rfl rfl (Nat.le_of_ble_eq_true rfl) ⟨(Nat.le_of_ble_eq_true rfl), (Nat.le_of_ble_eq_true rfl)⟩ ⟨(Nat.le_of_ble_eq_true rfl), (Nat.le_of_ble_eq_true rfl)⟩ dX8_isNear_32 rfl rfl ?_
      obtain ⟨hB, hF⟩ := gd_of hF
      exact z_iret (pc := 35) C hQ hr (isb_n hB) dX8_isNear_35 (by cases hF; rfl) (by cases hF; rfl) (Nat.le_of_ble_eq_true rfl) (Nat.le_of_ble_eq_true rfl)
    · have hF := if_f hF c4
      exact z_thr (pc := 20) C hQ th_ind st_153 dX8_isNear_20 dX8_isNear_23 dX8_isNear_24 dX8_isNear_26 dX8_isNear_29 (by cases hF; rfl) (by cases hF; rfl) (Nat.le_of_ble_eq_true rfl) (Nat.le_of_ble_eq_true rfl) (Nat.le_of_ble_eq_true rfl) (Nat.le_of_ble_eq_true rfl)
def fX8_kits (S : St) (p1 : Int32) : Option ((String ⊕ Int32)) :=
  bx (fX8_checkKit S p1) (fun (x2 : String) => some (.inl x2)) (fun (_ : Unit) =>
  bn1 (fX8_kitsOf S p1) (fun (v1 : Int32) =>
  some (.inr v1)))
abbrev rmX8_kits : Room := { frames := 8, cells := 1, slots := 6, locals := 170 }
set_option maxRecDepth 100000 in
set_option maxHeartbeats 4000000 in
theorem mX8_kits {l : Launch} {D : va_G} {cs : Nat → ClassId} {a : Nat → Nat} (hT : l.stackTraces = false) {S : St} {p1 : Int32} {r : String ⊕ Int32} (hF : fX8_kits S p1 = some r) : MX l 113 GX D cs a yX8_kits cX8_kits 2 (some .int) rmX8_kits [.ref (a 0), .int p1] S (ocI r) S := by
  refine zm_entry [(0, .ref (a 0)), (1, .int p1)] hT (by decide +kernel) (Nat.le_of_ble_eq_true rfl) rfl (fun E hEl hED hEk C hQ hr => ?_)
  subst hEl
  subst hED
  subst hEk
  unfold fX8_kits at hF
  refine z_aload_n 0 (pc := 0) C dX8_kits_0 rfl rfl ?_
  refine z_iload_n 1 (pc := 1) C dX8_kits_1 rfl rfl ?_
  rcases bx_of hF with ⟨x2, hG, hF⟩ | ⟨_, hG, hF⟩
  · exact z_callVx [.int p1] (pc := 2) C (mX8_checkKit C.hT hG) kX8_319 (kdX_lt (rfl : kdX 0 = 8) (by decide)) (gX_8 (rfl : kdX 0 = 8)) rfl rfl rfl (Nat.le_of_ble_eq_true rfl) ⟨(Nat.le_of_ble_eq_true rfl), (Nat.le_of_ble_eq_true rfl)⟩ ⟨(Nat.le_of_ble_eq_true rfl), (Nat.le_of_ble_eq_true rfl)⟩ dX8_kits_2 hQ (by cases hF; rfl) (by cases hF; rfl)
  · refine z_callV [.int p1] (pc := 2) (st1 := []) (c1 := 1) (s1 := 6) C (mX8_checkKit C.hT hG) kX8_319 (kdX_lt (rfl : kdX 0 = 8) (by decide)) (gX_8 (rfl : kdX 0 = 8)) rfl rfl rfl rfl (Nat.le_of_ble_eq_true rfl) ⟨(Nat.le_of_ble_eq_true rfl), (Nat.le_of_ble_eq_true rfl)⟩ ⟨(Nat.le_of_ble_eq_true rfl), (Nat.le_of_ble_eq_true rfl)⟩ dX8_kits_2 rfl rfl ?_
    refine z_aload_n 0 (pc := 5) C dX8_kits_5 rfl rfl ?_
    refine z_iload_n 1 (pc := 6) C dX8_kits_6 rfl rfl ?_
    obtain ⟨v1, hG, hF⟩ := bn1_of hF
    refine z_callV [.int p1] (pc := 7) (st1 := [.int v1]) (c1 := 1) (s1 := 6) C (mX8_kitsOf C.hT hG) kX8_323 (kdX_lt (rfl : kdX 0 = 8) (by decide)) (gX_8 (rfl : kdX 0 = 8)) rfl rfl rfl rfl (Nat.le_of_ble_eq_true rfl) ⟨(Nat.le_of_ble_eq_true rfl), (Nat.le_of_ble_eq_true rfl)⟩ ⟨(Nat.le_of_ble_eq_true rfl), (Nat.le_of_ble_eq_true rfl)⟩ dX8_kits_7 rfl rfl ?_
    exact z_iret (pc := 10) C hQ hr rfl dX8_kits_10 (by cases hF; rfl) (by cases hF; rfl) (Nat.le_of_ble_eq_true rfl) (Nat.le_of_ble_eq_true rfl)
def fX8_part (S : St) (p1 : Int32) (p2 : Int32) : Option (((String ⊕ Int32) × St)) :=
  bx (fX8_checkSheet p1 p2) (fun (x9 : String) => some (.inl x9, S)) (fun (_ : Unit) =>
  bx (fX8_checkPad S) (fun (x8 : String) => some (.inl x8, S)) (fun (_ : Unit) =>
  if (gi S 0 2) < (8 : Int32) then (
    gd (inb (gi S 0 2) 8) (
    bn1 (fX4_draw S (pid (gi S 0 2)) 1 p1 p2) (fun (S3 : St) =>
    bv (si S3 1 2 (0 : Int32)) (fun (S4 : St) =>
    bv (si S4 0 2 ((gi S4 0 2) + (1 : Int32))) (fun (S6 : St) =>
    some (.inr ((gi S6 0 2) - (1 : Int32)), S6))))))
  else (
    some (.inl "java/lang/IllegalStateException", S))))
abbrev rmX8_part : Room := { frames := 8, cells := 3, slots := 18, locals := 170 }
set_option maxRecDepth 100000 in
set_option maxHeartbeats 4000000 in
theorem mX8_part {l : Launch} {D : va_G} {cs : Nat → ClassId} {a : Nat → Nat} (hT : l.stackTraces = false) {S : St} {p1 : Int32} {p2 : Int32} {r : String ⊕ Int32} {S' : St} (hF : fX8_part S p1 p2 = some (r, S')) : MX l 113 GX D cs a yX8_part cX8_part 3 (some .int) rmX8_part [.ref (a 0), .int p1, .int p2] S (ocI r) S' := by
  refine zm_entry [(0, .ref (a 0)), (1, .int p1), (2, .int p2)] hT (by decide +kernel) (Nat.le_of_ble_eq_true rfl) rfl (fun E hEl hED hEk C hQ hr => ?_)
  subst hEl
  subst hED
  subst hEk
  unfold fX8_part at hF
  refine z_iload_n 1 (pc := 0) C dX8_part_0 rfl rfl ?_
  refine z_iload_n 2 (pc := 1) C dX8_part_1 rfl rfl ?_
  rcases bx_of hF with ⟨x9, hG, hF⟩ | ⟨_, hG, hF⟩
  · exact z_callSx [.int p1, .int p2] (pc := 2) C (mX8_checkSheet C.hT hG) kX8_88 rfl rfl rfl (Nat.le_of_ble_eq_true rfl) ⟨(Nat.le_of_ble_eq_true rfl), (Nat.le_of_ble_eq_true rfl)⟩ ⟨(Nat.le_of_ble_eq_true rfl), (Nat.le_of_ble_eq_true rfl)⟩ dX8_part_2 hQ (by cases hF; rfl) (by cases hF; rfl)
  · refine z_callS [.int p1, .int p2] (pc := 2) (st1 := []) (c1 := 1) (s1 := 6) C (mX8_checkSheet C.hT hG) kX8_88 rfl rfl rfl rfl (Nat.le_of_ble_eq_true rfl) ⟨(Nat.le_of_ble_eq_true rfl), (Nat.le_of_ble_eq_true rfl)⟩ ⟨(Nat.le_of_ble_eq_true rfl), (Nat.le_of_ble_eq_true rfl)⟩ dX8_part_2 rfl rfl ?_
    refine z_aload_n 0 (pc := 5) C dX8_part_5 rfl rfl ?_
    rcases bx_of hF with ⟨x8, hG, hF⟩ | ⟨_, hG, hF⟩
    · exact z_callVx [] (pc := 6) C (mX8_checkPad C.hT hG) kX8_92 (kdX_lt (rfl : kdX 0 = 8) (by decide)) (gX_8 (rfl : kdX 0 = 8)) rfl rfl rfl (Nat.le_of_ble_eq_true rfl) ⟨(Nat.le_of_ble_eq_true rfl), (Nat.le_of_ble_eq_true rfl)⟩ ⟨(Nat.le_of_ble_eq_true rfl), (Nat.le_of_ble_eq_true rfl)⟩ dX8_part_6 hQ (by cases hF; rfl) (by cases hF; rfl)
    · refine z_callV [] (pc := 6) (st1 := []) (c1 := 2) (s1 := 12) C (mX8_checkPad C.hT hG) kX8_92 (kdX_lt (rfl : kdX 0 = 8) (by decide)) (gX_8 (rfl : kdX 0 = 8)) rfl rfl rfl rfl (Nat.le_of_ble_eq_true rfl) ⟨(Nat.le_of_ble_eq_true rfl), (Nat.le_of_ble_eq_true rfl)⟩ ⟨(Nat.le_of_ble_eq_true rfl), (Nat.le_of_ble_eq_true rfl)⟩ dX8_part_6 rfl rfl ?_
      refine z_aload_n 0 (pc := 9) C dX8_part_9 rfl rfl ?_
      refine gfX8_95 (pc := 10) C (rfl : kdX 0 = 8) dX8_part_10 ?_
      refine z_bipush (pc := 13) (v := (8 : Int32)) C dX8_part_13 (by decide) ?_
      refine z_icmp_lt 28 (pc := 15) C dX8_part_15 (by decide) (fun c1 => ?_) (fun c1 => ?_)
      · have hF := if_t hF c1
        refine z_aload_n 0 (pc := 28) C dX8_part_28 rfl rfl ?_
        refine gfX8_18 (pc := 29) C (rfl : kdX 0 = 8) dX8_part_29 ?_
        refine z_aload_n 0 (pc := 32) C dX8_part_32 rfl rfl ?_
        refine gfX8_95 (pc := 33) C (rfl : kdX 0 = 8) dX8_part_33 ?_
        obtain ⟨g2, hF⟩ := gd_of hF
        refine aapid (pc := 36) C (rfl : kdX 4 = 11) g2 dX8_part_36 ?_
        refine z_aload_n 0 (pc := 37) C dX8_part_37 rfl rfl ?_
        refine gfX8_12 (pc := 38) C (rfl : kdX 0 = 8) dX8_part_38 ?_
        refine z_iload_n 1 (pc := 41) C dX8_part_41 rfl rfl ?_
        refine z_iload_n 2 (pc := 42) C dX8_part_42 rfl rfl ?_
        obtain ⟨S3, hG, hF⟩ := bn1_of hF
        refine z_callV [.ref (a 1), .int p1, .int p2] (pc := 43) (st1 := []) (c1 := 2) (s1 := 12) C (mX4_draw C.hT (kX_pid g2) (rfl : kdX 1 = 2) hG) kX8_100 (kdX_lt (kX_pid g2) (by decide)) (gX_4 (kX_pid g2)) rfl rfl rfl rfl (Nat.le_of_ble_eq_true rfl) ⟨(Nat.le_of_ble_eq_true rfl), (Nat.le_of_ble_eq_true rfl)⟩ ⟨(Nat.le_of_ble_eq_true rfl), (Nat.le_of_ble_eq_true rfl)⟩ dX8_part_43 rfl rfl ?_
        refine z_aload_n 0 (pc := 46) C dX8_part_46 rfl rfl ?_
        refine gfX8_12 (pc := 47) C (rfl : kdX 0 = 8) dX8_part_47 ?_
        refine z_iconst (pc := 50) (v := (0 : Int32)) C dX8_part_50 (by decide) ?_
        refine pfX8_73 (pc := 51) C (rfl : kdX 1 = 2) dX8_part_51 ?_
        obtain ⟨S4, e5, hF⟩ := bv_of hF
        rw [← e5]
        refine z_aload_n 0 (pc := 54) C dX8_part_54 rfl rfl ?_
        refine z_dup (pc := 55) C dX8_part_55 rfl ?_
        refine gfX8_95 (pc := 56) C (rfl : kdX 0 = 8) dX8_part_56 ?_
        refine z_iconst (pc := 59) (v := (1 : Int32)) C dX8_part_59 (by decide) ?_
        refine z_iadd (pc := 60) C dX8_part_60 ?_
        refine pfX8_95 (pc := 61) C (rfl : kdX 0 = 8) dX8_part_61 ?_
        obtain ⟨S6, e7, hF⟩ := bv_of hF
        rw [← e7]
        refine z_aload_n 0 (pc := 64) C dX8_part_64 rfl rfl ?_
        refine gfX8_95 (pc := 65) C (rfl : kdX 0 = 8) dX8_part_65 ?_
        refine z_iconst (pc := 68) (v := (1 : Int32)) C dX8_part_68 (by decide) ?_
        refine z_isub (pc := 69) C dX8_part_69 ?_
        exact z_iret (pc := 70) C hQ hr rfl dX8_part_70 (by cases hF; rfl) (by cases hF; rfl) (Nat.le_of_ble_eq_true rfl) (Nat.le_of_ble_eq_true rfl)
      · have hF := if_f hF c1
        exact z_thr (pc := 18) C hQ th_sta st_98 dX8_part_18 dX8_part_21 dX8_part_22 dX8_part_24 dX8_part_27 (by cases hF; rfl) (by cases hF; rfl) (Nat.le_of_ble_eq_true rfl) (Nat.le_of_ble_eq_true rfl) (Nat.le_of_ble_eq_true rfl) (Nat.le_of_ble_eq_true rfl)
def fX8_point (S : St) (p1 : Int32) (p2 : Int32) (p3 : Int32) (p4 : Int32) (p5 : Int32) (p6 : Int32) : Option (((String ⊕ Int32) × St)) :=
  bx (fX8_partAt S p1) (fun (x12 : String) => some (.inl x12, S)) (fun (k1 : Nat) =>
  bx (fX8_checkBend S (k1 + 1) p3) (fun (x11 : String) => some (.inl x11, S)) (fun (_ : Unit) =>
  bn1 (fX2_wingFaces S (k1 + 1) p3 p4) (fun (v3 : Int32) =>
  bn1 (fX8_isOut p5 (0 : Int32) (v3 - (1 : Int32))) (fun (v4 : Int32) =>
  if v4 = 0 then (
    bx (fX8_checkDone S (k1 + 1) p2 p3) (fun (x10 : String) => some (.inl x10, S)) (fun (_ : Unit) =>
    bn1 (fX7_unroll S 9 (k1 + 1) p2 p3 p4) (fun (S6 : St) =>
    if p6 = 0 then (
      gd (inb p5 6) (
      some (.inr (gi S6 10 p5.toNatClampNeg), S6)))
    else (
      gd (inb p5 6) (
      some (.inr (gi S6 11 p5.toNatClampNeg), S6))))))
  else (
    some (.inl "java/lang/IndexOutOfBoundsException", S))))))
abbrev rmX8_point : Room := { frames := 8, cells := 3, slots := 18, locals := 170 }
set_option maxRecDepth 100000 in
set_option maxHeartbeats 4000000 in
theorem mX8_point {l : Launch} {D : va_G} {cs : Nat → ClassId} {a : Nat → Nat} (hT : l.stackTraces = false) {S : St} {p1 : Int32} {p2 : Int32} {p3 : Int32} {p4 : Int32} {p5 : Int32} {p6 : Int32} {r : String ⊕ Int32} {S' : St} (hF : fX8_point S p1 p2 p3 p4 p5 p6 = some (r, S')) : MX l 113 GX D cs a yX8_point cX8_point 9 (some .int) rmX8_point [.ref (a 0), .int p1, .int p2, .int p3, .int p4, .int p5, .int p6] S (ocI r) S' := by
  refine zm_entry [(0, .ref (a 0)), (1, .int p1), (2, .int p2), (3, .int p3), (4, .int p4), (5, .int p5), (6, .int p6)] hT (by decide +kernel) (Nat.le_of_ble_eq_true rfl) rfl (fun E hEl hED hEk C hQ hr => ?_)
  subst hEl
  subst hED
  subst hEk
  unfold fX8_point at hF
  refine z_aload_n 0 (pc := 0) C dX8_point_0 rfl rfl ?_
  refine z_iload_n 1 (pc := 1) C dX8_point_1 rfl rfl ?_
  rcases bx_of hF with ⟨x12, hG, hF⟩ | ⟨k1, hG, hF⟩
  · exact z_callVx [.int p1] (pc := 2) C (mX8_partAt C.hT hG) kX8_104 (kdX_lt (rfl : kdX 0 = 8) (by decide)) (gX_8 (rfl : kdX 0 = 8)) rfl rfl rfl (Nat.le_of_ble_eq_true rfl) ⟨(Nat.le_of_ble_eq_true rfl), (Nat.le_of_ble_eq_true rfl)⟩ ⟨(Nat.le_of_ble_eq_true rfl), (Nat.le_of_ble_eq_true rfl)⟩ dX8_point_2 hQ (by cases hF; rfl) (by cases hF; rfl)
  · have hk2 := qX8_partAt hG
    refine z_callV [.int p1] (pc := 2) (st1 := [.ref (a k1)]) (c1 := 1) (s1 := 6) C (mX8_partAt C.hT hG) kX8_104 (kdX_lt (rfl : kdX 0 = 8) (by decide)) (gX_8 (rfl : kdX 0 = 8)) rfl rfl rfl rfl (Nat.le_of_ble_eq_true rfl) ⟨(Nat.le_of_ble_eq_true rfl), (Nat.le_of_ble_eq_true rfl)⟩ ⟨(Nat.le_of_ble_eq_true rfl), (Nat.le_of_ble_eq_true rfl)⟩ dX8_point_2 rfl rfl ?_
    refine gfX8_117 (pc := 5) C hk2 dX8_point_5 ?_
    refine z_astore (pc := 8) (loc' := [(7, .ref (a (k1 + 1))), (0, .ref (a 0)), (1, .int p1), (2, .int p2), (3, .int p3), (4, .int p4), (5, .int p5), (6, .int p6)]) C dX8_point_8 (by decide) rfl ?_
    refine z_aload 0 (pc := 10) C dX8_point_10 rfl ?_
    refine z_iload_n 4 (pc := 12) C dX8_point_12 rfl rfl ?_
    rcases bx_of hF with ⟨x11, hG, hF⟩ | ⟨_, hG, hF⟩
    · exact z_callSx [.ref (a (k1 + 1)), .int p3] (pc := 13) C (mX8_checkBend C.hT (kX_4_0 hk2) hG) kX8_199 rfl rfl rfl (Nat.le_of_ble_eq_true rfl) ⟨(Nat.le_of_ble_eq_true rfl), (Nat.le_of_ble_eq_true rfl)⟩ ⟨(Nat.le_of_ble_eq_true rfl), (Nat.le_of_ble_eq_true rfl)⟩ dX8_point_13 hQ (by cases hF; rfl) (by cases hF; rfl)
    · refine z_callS [.ref (a (k1 + 1)), .int p3] (pc := 13) (st1 := []) (c1 := 2) (s1 := 12) C (mX8_checkBend C.hT (kX_4_0 hk2) hG) kX8_199 rfl rfl rfl rfl (Nat.le_of_ble_eq_true rfl) ⟨(Nat.le_of_ble_eq_true rfl), (Nat.le_of_ble_eq_true rfl)⟩ ⟨(Nat.le_of_ble_eq_true rfl), (Nat.le_of_ble_eq_true rfl)⟩ dX8_point_13 rfl rfl ?_
      refine z_iload 6 (pc := 16) C dX8_point_16 rfl ?_
      refine z_iconst (pc := 18) (v := (0 : Int32)) C dX8_point_18 (by decide) ?_
      refine z_aload 0 (pc := 19) C dX8_point_19 rfl ?_
      refine z_iload_n 4 (pc := 21) C dX8_point_21 rfl rfl ?_
      refine z_iload 5 (pc := 22) C dX8_point_22 rfl ?_
      obtain ⟨v3, hG, hF⟩ := bn1_of hF
      refine z_callV [.int p3, .int p4] (pc := 24) (st1 := [.int v3, .int (0 : Int32), .int p5]) (c1 := 2) (s1 := 12) C (mX2_wingFaces C.hT (kX_4_0 hk2) hG) kX8_210 (kdX_lt (kX_4_0 hk2) (by decide)) (gX_2 (kX_4_0 hk2)) rfl rfl rfl rfl (Nat.le_of_ble_eq_true rfl) ⟨(Nat.le_of_ble_eq_true rfl), (Nat.le_of_ble_eq_true rfl)⟩ ⟨(Nat.le_of_ble_eq_true rfl), (Nat.le_of_ble_eq_true rfl)⟩ dX8_point_24 rfl rfl ?_
      refine z_iconst (pc := 27) (v := (1 : Int32)) C dX8_point_27 (by decide) ?_
      refine z_isub (pc := 28) C dX8_point_28 ?_
      obtain ⟨v4, hG, hF⟩ := bn1_of hF
      refine z_callS [.int p5, .int (0 : Int32), .int (v3 - (1 : Int32))] (pc := 29) (st1 := [.int v4]) (c1 := 2) (s1 := 12) C (mX8_isOut C.hT hG) kX8_62 rfl rfl rfl rfl (Nat.le_of_ble_eq_true rfl) ⟨(Nat.le_of_ble_eq_true rfl), (Nat.le_of_ble_eq_true rfl)⟩ ⟨(Nat.le_of_ble_eq_true rfl), (Nat.le_of_ble_eq_true rfl)⟩ dX8_point_29 rfl rfl ?_
      refine z_if_eq 45 (pc := 32) C dX8_point_32 (by decide) (fun c5 => ?_) (fun c5 => ?_)
      · have hF := if_t hF c5
        refine z_aload 0 (pc := 45) C dX8_point_45 rfl ?_
        refine z_iload_n 3 (pc := 47) C dX8_point_47 rfl rfl ?_
        refine z_iload_n 4 (pc := 48) C dX8_point_48 rfl rfl ?_
        rcases bx_of hF with ⟨x10, hG, hF⟩ | ⟨_, hG, hF⟩
        · exact z_callSx [.ref (a (k1 + 1)), .int p2, .int p3] (pc := 49) C (mX8_checkDone C.hT (kX_4_0 hk2) hG) kX8_203 rfl rfl rfl (Nat.le_of_ble_eq_true rfl) ⟨(Nat.le_of_ble_eq_true rfl), (Nat.le_of_ble_eq_true rfl)⟩ ⟨(Nat.le_of_ble_eq_true rfl), (Nat.le_of_ble_eq_true rfl)⟩ dX8_point_49 hQ (by cases hF; rfl) (by cases hF; rfl)
        · refine z_callS [.ref (a (k1 + 1)), .int p2, .int p3] (pc := 49) (st1 := []) (c1 := 3) (s1 := 18) C (mX8_checkDone C.hT (kX_4_0 hk2) hG) kX8_203 rfl rfl rfl rfl (Nat.le_of_ble_eq_true rfl) ⟨(Nat.le_of_ble_eq_true rfl), (Nat.le_of_ble_eq_true rfl)⟩ ⟨(Nat.le_of_ble_eq_true rfl), (Nat.le_of_ble_eq_true rfl)⟩ dX8_point_49 rfl rfl ?_
          refine z_aload_n 1 (pc := 52) C dX8_point_52 rfl rfl ?_
          refine gfX8_41 (pc := 53) C (rfl : kdX 0 = 8) dX8_point_53 ?_
          refine gfX8_216 (pc := 56) C (rfl : kdX 8 = 1) dX8_point_56 ?_
          refine z_astore (pc := 59) (loc' := [(8, .ref (a 9)), (7, .ref (a (k1 + 1))), (0, .ref (a 0)), (1, .int p1), (2, .int p2), (3, .int p3), (4, .int p4), (5, .int p5), (6, .int p6)]) C dX8_point_59 (by decide) rfl ?_
          refine z_aload 0 (pc := 61) C dX8_point_61 rfl ?_
          refine z_aload 1 (pc := 63) C dX8_point_63 rfl ?_
          refine z_iload_n 4 (pc := 65) C dX8_point_65 rfl rfl ?_
          refine z_iload_n 5 (pc := 66) C dX8_point_66 rfl rfl ?_
          refine z_iload 6 (pc := 67) C dX8_point_67 rfl ?_
          obtain ⟨S6, hG, hF⟩ := bn1_of hF
          refine z_callV [.ref (a (k1 + 1)), .int p2, .int p3, .int p4] (pc := 69) (st1 := []) (c1 := 3) (s1 := 18) C (mX7_unroll C.hT (rfl : kdX 9 = 7) (kX_4_0 hk2) hG) kX8_220 (kdX_lt (rfl : kdX 9 = 7) (by decide)) (gX_7 (rfl : kdX 9 = 7)) rfl rfl rfl rfl (Nat.le_of_ble_eq_true rfl) ⟨(Nat.le_of_ble_eq_true rfl), (Nat.le_of_ble_eq_true rfl)⟩ ⟨(Nat.le_of_ble_eq_true rfl), (Nat.le_of_ble_eq_true rfl)⟩ dX8_point_69 rfl rfl ?_
          refine z_iload 8 (pc := 72) C dX8_point_72 rfl ?_
          refine z_if_eq 88 (pc := 74) C dX8_point_74 (by decide) (fun c7 => ?_) (fun c7 => ?_)
          · have hF := if_t hF c7
            refine z_aload 0 (pc := 88) C dX8_point_88 rfl ?_
            refine gfX8_229 (pc := 90) C (rfl : kdX 9 = 7) dX8_point_90 ?_
            refine z_iload 7 (pc := 93) C dX8_point_93 rfl ?_
            obtain ⟨g8, hF⟩ := gd_of hF
            refine iaX6 (pc := 95) C (rfl : kdX 10 = 26) g8 dX8_point_95 ?_
            exact z_iret (pc := 96) C hQ hr rfl dX8_point_96 (by cases hF; rfl) (by cases hF; rfl) (Nat.le_of_ble_eq_true rfl) (Nat.le_of_ble_eq_true rfl)
          · have hF := if_f hF c7
            refine z_aload 0 (pc := 77) C dX8_point_77 rfl ?_
            refine gfX8_226 (pc := 79) C (rfl : kdX 9 = 7) dX8_point_79 ?_
            refine z_iload 7 (pc := 82) C dX8_point_82 rfl ?_
            obtain ⟨g9, hF⟩ := gd_of hF
            refine iaX6 (pc := 84) C (rfl : kdX 11 = 26) g9 dX8_point_84 ?_
            refine z_goto 96 (pc := 85) C dX8_point_85 (by decide) ?_
            exact z_iret (pc := 96) C hQ hr rfl dX8_point_96 (by cases hF; rfl) (by cases hF; rfl) (Nat.le_of_ble_eq_true rfl) (Nat.le_of_ble_eq_true rfl)
      · have hF := if_f hF c5
        exact z_thr (pc := 35) C hQ th_ind st_214 dX8_point_35 dX8_point_38 dX8_point_39 dX8_point_41 dX8_point_44 (by cases hF; rfl) (by cases hF; rfl) (Nat.le_of_ble_eq_true rfl) (Nat.le_of_ble_eq_true rfl) (Nat.le_of_ble_eq_true rfl) (Nat.le_of_ble_eq_true rfl)
def fX8_take_L50 (p1 : Int32) (p2 : Int32) (next8 : Int32 → Int32 → St → Option (Int32 × St)) (v5 : Int32) (v6 : Int32) (S7 : St) : Option (Int32 × St) :=
  if (gi S7 0 2) ≤ v6 then (
    some (v5, S7))
  else (
    bn1 (fX8_hasBit p1 v6) (fun (v13 : Int32) =>
    bn2 (if v13 = 0 then (
      some (v5, S7))
    else (
      bn2 (fX8_takePieces S7 v6 p2) (fun (v20 : Int32) (S21 : St) =>
      bv ((v5 + v20)) (fun (v22 : Int32) =>
      some (v22, S21))))) (fun (v14 : Int32) (S15 : St) =>
      bv (v6 + 1) (fun (v16 : Int32) =>
      next8 v14 v16 S15))))
def fX8_take (S : St) (p1 : Int32) (p2 : Int32) : Option (((String ⊕ Int32) × St)) :=
  bx (fX8_checkKit S p1) (fun (x24 : String) => some (.inl x24, S)) (fun (_ : Unit) =>
  bn1 (fX8_isOut p2 (1 : Int32) (50 : Int32)) (fun (v1 : Int32) =>
  if v1 = 0 then (
    bn1 (fX8_kitsOf S p1) (fun (v3 : Int32) =>
    if p2 ≤ v3 then (
      bn2 (lq3 (fX8_take_L50 p1 p2) 200 (0 : Int32) (0 : Int32) S) (fun (v9 : Int32) (S10 : St) =>
        some (.inr v9, S10)))
    else (
      some (.inl "java/lang/IllegalStateException", S))))
  else (
    some (.inl "java/lang/IllegalArgumentException", S))))
abbrev rmX8_take : Room := { frames := 8, cells := 2, slots := 12, locals := 170 }
set_option maxRecDepth 100000 in
set_option maxHeartbeats 4000000 in
theorem mX8_take {l : Launch} {D : va_G} {cs : Nat → ClassId} {a : Nat → Nat} (hT : l.stackTraces = false) {S : St} {p1 : Int32} {p2 : Int32} {r : String ⊕ Int32} {S' : St} (hF : fX8_take S p1 p2 = some (r, S')) : MX l 113 GX D cs a yX8_take cX8_take 5 (some .int) rmX8_take [.ref (a 0), .int p1, .int p2] S (ocI r) S' := by
  refine zm_entry [(0, .ref (a 0)), (1, .int p1), (2, .int p2)] hT (by decide +kernel) (Nat.le_of_ble_eq_true rfl) rfl (fun E hEl hED hEk C hQ hr => ?_)
  subst hEl
  subst hED
  subst hEk
  unfold fX8_take at hF
  refine z_aload_n 0 (pc := 0) C dX8_take_0 rfl rfl ?_
  refine z_iload_n 1 (pc := 1) C dX8_take_1 rfl rfl ?_
  rcases bx_of hF with ⟨x24, hG, hF⟩ | ⟨_, hG, hF⟩
  · exact z_callVx [.int p1] (pc := 2) C (mX8_checkKit C.hT hG) kX8_319 (kdX_lt (rfl : kdX 0 = 8) (by decide)) (gX_8 (rfl : kdX 0 = 8)) rfl rfl rfl (Nat.le_of_ble_eq_true rfl) ⟨(Nat.le_of_ble_eq_true rfl), (Nat.le_of_ble_eq_true rfl)⟩ ⟨(Nat.le_of_ble_eq_true rfl), (Nat.le_of_ble_eq_true rfl)⟩ dX8_take_2 hQ (by cases hF; rfl) (by cases hF; rfl)
  · refine z_callV [.int p1] (pc := 2) (st1 := []) (c1 := 1) (s1 := 6) C (mX8_checkKit C.hT hG) kX8_319 (kdX_lt (rfl : kdX 0 = 8) (by decide)) (gX_8 (rfl : kdX 0 = 8)) rfl rfl rfl rfl (Nat.le_of_ble_eq_true rfl) ⟨(Nat.le_of_ble_eq_true rfl), (Nat.le_of_ble_eq_true rfl)⟩ ⟨(Nat.le_of_ble_eq_true rfl), (Nat.le_of_ble_eq_true rfl)⟩ dX8_take_2 rfl rfl ?_
    refine z_iload_n 2 (pc := 5) C dX8_take_5 rfl rfl ?_
    refine z_iconst (pc := 6) (v := (1 : Int32)) C dX8_take_6 (by decide) ?_
    refine z_bipush (pc := 7) (v := (50 : Int32)) C dX8_take_7 (by decide) ?_
    obtain ⟨v1, hG, hF⟩ := bn1_of hF
    refine z_callS [.int p2, .int (1 : Int32), .int (50 : Int32)] (pc := 9) (st1 := [.int v1]) (c1 := 1) (s1 := 6) C (mX8_isOut C.hT hG) kX8_62 rfl rfl rfl rfl (Nat.le_of_ble_eq_true rfl) ⟨(Nat.le_of_ble_eq_true rfl), (Nat.le_of_ble_eq_true rfl)⟩ ⟨(Nat.le_of_ble_eq_true rfl), (Nat.le_of_ble_eq_true rfl)⟩ dX8_take_9 rfl rfl ?_
    refine z_if_eq 25 (pc := 12) C dX8_take_12 (by decide) (fun c2 => ?_) (fun c2 => ?_)
    · have hF := if_t hF c2
      refine z_aload_n 0 (pc := 25) C dX8_take_25 rfl rfl ?_
      refine z_iload_n 1 (pc := 26) C dX8_take_26 rfl rfl ?_
      obtain ⟨v3, hG, hF⟩ := bn1_of hF
      refine z_callV [.int p1] (pc := 27) (st1 := [.int v3]) (c1 := 1) (s1 := 6) C (mX8_kitsOf C.hT hG) kX8_323 (kdX_lt (rfl : kdX 0 = 8) (by decide)) (gX_8 (rfl : kdX 0 = 8)) rfl rfl rfl rfl (Nat.le_of_ble_eq_true rfl) ⟨(Nat.le_of_ble_eq_true rfl), (Nat.le_of_ble_eq_true rfl)⟩ ⟨(Nat.le_of_ble_eq_true rfl), (Nat.le_of_ble_eq_true rfl)⟩ dX8_take_27 rfl rfl ?_
      refine z_iload_n 2 (pc := 30) C dX8_take_30 rfl rfl ?_
      refine z_icmp_ge 45 (pc := 31) C dX8_take_31 (by decide) (fun c4 => ?_) (fun c4 => ?_)
      · have hF := if_t hF c4
        refine z_iconst (pc := 45) (v := (0 : Int32)) C dX8_take_45 (by decide) ?_
        refine z_istore_n (pc := 46) (loc' := [(3, .int (0 : Int32)), (0, .ref (a 0)), (1, .int p1), (2, .int p2)]) C dX8_take_46 rfl (by decide) rfl ?_
        refine z_iconst (pc := 47) (v := (0 : Int32)) C dX8_take_47 (by decide) ?_
        refine z_istore (pc := 48) (loc' := [(4, .int (0 : Int32)), (3, .int (0 : Int32)), (0, .ref (a 0)), (1, .int p1), (2, .int p2)]) C dX8_take_48 (by decide) rfl ?_
        refine z_sub [2, 3, 4, 1, 0] rfl ?_
        obtain ⟨v9', S10', hR, hF⟩ := bn2_of hF
        have hJ11 : ∀ (v9 : Int32) (S10 : St), (some (v9, S10) : Option (Int32 × St)) = some (v9', S10') → Zz E (WX E a S10) 1 6 84 [(3, .int v9)] [] := by
          intro v9 S10 hE
          have hE0 := Option.some.inj hE
          obtain ⟨hA0, hE1⟩ := Prod.mk.inj hE0
          subst hA0
          subst hE1
          refine z_iload_n 0 (pc := 84) C dX8_take_84 rfl rfl ?_
          exact z_iret (pc := 85) C hQ hr rfl dX8_take_85 (by cases hF; rfl) (by cases hF; rfl) (Nat.le_of_ble_eq_true rfl) (Nat.le_of_ble_eq_true rfl)
        have hF := hR
        clear hR
        refine lq3_W (P := fun (v5 : Int32) (v6 : Int32) (S7 : St) => Zz E (WX E a S7) 1 6 50 [(0, .ref (a 0)), (1, .int p1), (2, .int p2), (3, .int v5), (4, .int v6)] []) (fun next8 hN8 v5 v6 S7 hF => ?_) _ _ _ _ hF
        unfold fX8_take_L50 at hF
        refine z_iload 4 (pc := 50) C dX8_take_50 rfl ?_
        refine z_aload_n 0 (pc := 52) C dX8_take_52 rfl rfl ?_
        refine gfX8_95 (pc := 53) C (rfl : kdX 0 = 8) dX8_take_53 ?_
        refine z_icmp_ge 84 (pc := 56) C dX8_take_56 (by decide) (fun c12 => ?_) (fun c12 => ?_)
        · have hF := if_t hF c12
          refine z_sub [3] rfl ?_
          exact hJ11 _ _ hF
        · have hF := if_f hF c12
          refine z_iload_n 1 (pc := 59) C dX8_take_59 rfl rfl ?_
          refine z_iload 4 (pc := 60) C dX8_take_60 rfl ?_
          obtain ⟨v13, hG, hF⟩ := bn1_of hF
          refine z_callS [.int p1, .int v6] (pc := 62) (st1 := [.int v13]) (c1 := 1) (s1 := 6) C (mX8_hasBit C.hT hG) kX8_329 rfl rfl rfl rfl (Nat.le_of_ble_eq_true rfl) ⟨(Nat.le_of_ble_eq_true rfl), (Nat.le_of_ble_eq_true rfl)⟩ ⟨(Nat.le_of_ble_eq_true rfl), (Nat.le_of_ble_eq_true rfl)⟩ dX8_take_62 rfl rfl ?_
          obtain ⟨v14', S15', hR, hF⟩ := bn2_of hF
          have hJ18 : ∀ (v14 : Int32) (S15 : St), (some (v14, S15) : Option (Int32 × St)) = some (v14', S15') → Zz E (WX E a S15) 1 6 78 [(0, .ref (a 0)), (1, .int p1), (2, .int p2), (3, .int v14), (4, .int v6)] [] := by
            intro v14 S15 hE
            have hE0 := Option.some.inj hE
            obtain ⟨hA0, hE1⟩ := Prod.mk.inj hE0
            subst hA0
            subst hE1
            obtain ⟨v16, e17, hF⟩ := bv_of hF
            refine z_iinc 4 (pc := 78) (v := v16) (loc' := [(4, .int v16), (0, .ref (a 0)), (1, .int p1), (2, .int p2), (3, .int v14)]) C dX8_take_78 rfl (by rw [e17]; rfl) (by decide) rfl ?_
            refine z_goto 50 (pc := 81) C dX8_take_81 (by decide) ?_
            refine z_sub [1, 2, 3, 4, 0] rfl ?_
            exact hN8 _ _ _ hF
          have hF := hR
          clear hR
          refine z_if_eq 78 (pc := 65) C dX8_take_65 (by decide) (fun c19 => ?_) (fun c19 => ?_)
          · have hF := if_t hF c19
            exact hJ18 _ _ hF
          · have hF := if_f hF c19
            refine z_iload_n 3 (pc := 68) C dX8_take_68 rfl rfl ?_
            refine z_aload_n 0 (pc := 69) C dX8_take_69 rfl rfl ?_
            refine z_iload 4 (pc := 70) C dX8_take_70 rfl ?_
            refine z_iload_n 2 (pc := 72) C dX8_take_72 rfl rfl ?_
            obtain ⟨v20, S21, hG, hF⟩ := bn2_of hF
            refine z_callV [.int v6, .int p2] (pc := 73) (st1 := [.int v20, .int v5]) (c1 := 1) (s1 := 6) C (mX8_takePieces C.hT hG) kX8_333 (kdX_lt (rfl : kdX 0 = 8) (by decide)) (gX_8 (rfl : kdX 0 = 8)) rfl rfl rfl rfl (Nat.le_of_ble_eq_true rfl) ⟨(Nat.le_of_ble_eq_true rfl), (Nat.le_of_ble_eq_true rfl)⟩ ⟨(Nat.le_of_ble_eq_true rfl), (Nat.le_of_ble_eq_true rfl)⟩ dX8_take_73 rfl rfl ?_
            refine z_iadd (pc := 76) C dX8_take_76 ?_
            obtain ⟨v22, e23, hF⟩ := bv_of hF
            refine z_topi e23 ?_
            refine z_istore_n (pc := 77) (loc' := [(3, .int v22), (0, .ref (a 0)), (1, .int p1), (2, .int p2), (4, .int v6)]) C dX8_take_77 rfl (by decide) rfl ?_
            refine z_sub [1, 2, 3, 0, 4] rfl ?_
            exact hJ18 _ _ hF
      · have hF := if_f hF c4
        exact z_thrW (pc := 34) C hQ th_sta st_327 dX8_take_34 dX8_take_37 dX8_take_38 dX8_take_41 dX8_take_44 (by cases hF; rfl) (by cases hF; rfl) (Nat.le_of_ble_eq_true rfl) (Nat.le_of_ble_eq_true rfl) (Nat.le_of_ble_eq_true rfl) (Nat.le_of_ble_eq_true rfl)
    · have hF := if_f hF c2
      exact z_thr (pc := 15) C hQ th_arg st_251 dX8_take_15 dX8_take_18 dX8_take_19 dX8_take_21 dX8_take_24 (by cases hF; rfl) (by cases hF; rfl) (Nat.le_of_ble_eq_true rfl) (Nat.le_of_ble_eq_true rfl) (Nat.le_of_ble_eq_true rfl) (Nat.le_of_ble_eq_true rfl)
def fX8_told (S : St) (p1 : Int32) (p2 : Int32) : Option ((String ⊕ Int32)) :=
  bx (fX8_partAt S p1) (fun (x10 : String) => some (.inl x10)) (fun (k1 : Nat) =>
  if p2 = (0 : Int32) then (
    some (.inr (gi S k1 3)))
  else if p2 = (1 : Int32) then (
    some (.inr (gi S (k1 + 1) 2)))
  else if p2 = (2 : Int32) then (
    some (.inr (gi S k1 1)))
  else if p2 = (3 : Int32) then (
    some (.inr (gi S k1 2)))
  else if p2 = (4 : Int32) then (
    some (.inr (gi S k1 7)))
  else if p2 = (5 : Int32) then (
    bn1 (fX4_nearHoles S k1) (fun (v9 : Int32) =>
    some (.inr v9)))
  else (
    some (.inl "java/lang/IllegalArgumentException")))
abbrev rmX8_told : Room := { frames := 8, cells := 2, slots := 12, locals := 170 }
set_option maxRecDepth 100000 in
set_option maxHeartbeats 4000000 in
theorem mX8_told {l : Launch} {D : va_G} {cs : Nat → ClassId} {a : Nat → Nat} (hT : l.stackTraces = false) {S : St} {p1 : Int32} {p2 : Int32} {r : String ⊕ Int32} (hF : fX8_told S p1 p2 = some r) : MX l 113 GX D cs a yX8_told cX8_told 4 (some .int) rmX8_told [.ref (a 0), .int p1, .int p2] S (ocI r) S := by
  refine zm_entry [(0, .ref (a 0)), (1, .int p1), (2, .int p2)] hT (by decide +kernel) (Nat.le_of_ble_eq_true rfl) rfl (fun E hEl hED hEk C hQ hr => ?_)
  subst hEl
  subst hED
  subst hEk
  unfold fX8_told at hF
  refine z_aload_n 0 (pc := 0) C dX8_told_0 rfl rfl ?_
  refine z_iload_n 1 (pc := 1) C dX8_told_1 rfl rfl ?_
  rcases bx_of hF with ⟨x10, hG, hF⟩ | ⟨k1, hG, hF⟩
  · exact z_callVx [.int p1] (pc := 2) C (mX8_partAt C.hT hG) kX8_104 (kdX_lt (rfl : kdX 0 = 8) (by decide)) (gX_8 (rfl : kdX 0 = 8)) rfl rfl rfl (Nat.le_of_ble_eq_true rfl) ⟨(Nat.le_of_ble_eq_true rfl), (Nat.le_of_ble_eq_true rfl)⟩ ⟨(Nat.le_of_ble_eq_true rfl), (Nat.le_of_ble_eq_true rfl)⟩ dX8_told_2 hQ (by cases hF; rfl) (by cases hF; rfl)
  · have hk2 := qX8_partAt hG
    refine z_callV [.int p1] (pc := 2) (st1 := [.ref (a k1)]) (c1 := 1) (s1 := 6) C (mX8_partAt C.hT hG) kX8_104 (kdX_lt (rfl : kdX 0 = 8) (by decide)) (gX_8 (rfl : kdX 0 = 8)) rfl rfl rfl rfl (Nat.le_of_ble_eq_true rfl) ⟨(Nat.le_of_ble_eq_true rfl), (Nat.le_of_ble_eq_true rfl)⟩ ⟨(Nat.le_of_ble_eq_true rfl), (Nat.le_of_ble_eq_true rfl)⟩ dX8_told_2 rfl rfl ?_
    refine z_astore_n (pc := 5) (loc' := [(3, .ref (a k1)), (0, .ref (a 0)), (1, .int p1), (2, .int p2)]) C dX8_told_5 rfl (by decide) rfl ?_
    refine z_iload_n 3 (pc := 6) C dX8_told_6 rfl rfl ?_
    by_cases c3 : p2 = (0 : Int32)
    · have hF := if_t hF c3
      refine z_swi 44 (pc := 7) (off := 37) C dX8_told_7 c3 (by decide) (by decide) (by decide +kernel) (by decide) ?_
      refine z_aload_n 0 (pc := 44) C dX8_told_44 rfl rfl ?_
      refine gfX8_124 (pc := 45) C hk2 dX8_told_45 ?_
      exact z_iret (pc := 48) C hQ hr rfl dX8_told_48 (by cases hF; rfl) (by cases hF; rfl) (Nat.le_of_ble_eq_true rfl) (Nat.le_of_ble_eq_true rfl)
    have hF := if_f hF c3
    by_cases c4 : p2 = (1 : Int32)
    · have hF := if_t hF c4
      refine z_swi 49 (pc := 7) (off := 42) C dX8_told_7 c4 (by decide) (by decide) (by decide +kernel) (by decide) ?_
      refine z_aload_n 0 (pc := 49) C dX8_told_49 rfl rfl ?_
      refine gfX8_117 (pc := 50) C hk2 dX8_told_50 ?_
      refine gfX8_73 (pc := 53) C (kX_4_0 hk2) dX8_told_53 ?_
      exact z_iret (pc := 56) C hQ hr rfl dX8_told_56 (by cases hF; rfl) (by cases hF; rfl) (Nat.le_of_ble_eq_true rfl) (Nat.le_of_ble_eq_true rfl)
    have hF := if_f hF c4
    by_cases c5 : p2 = (2 : Int32)
    · have hF := if_t hF c5
      refine z_swi 57 (pc := 7) (off := 50) C dX8_told_7 c5 (by decide) (by decide) (by decide +kernel) (by decide) ?_
      refine z_aload_n 0 (pc := 57) C dX8_told_57 rfl rfl ?_
      refine gfX8_111 (pc := 58) C hk2 dX8_told_58 ?_
      exact z_iret (pc := 61) C hQ hr rfl dX8_told_61 (by cases hF; rfl) (by cases hF; rfl) (Nat.le_of_ble_eq_true rfl) (Nat.le_of_ble_eq_true rfl)
    have hF := if_f hF c5
    by_cases c6 : p2 = (3 : Int32)
    · have hF := if_t hF c6
      refine z_swi 62 (pc := 7) (off := 55) C dX8_told_7 c6 (by decide) (by decide) (by decide +kernel) (by decide) ?_
      refine z_aload_n 0 (pc := 62) C dX8_told_62 rfl rfl ?_
      refine gfX8_114 (pc := 63) C hk2 dX8_told_63 ?_
      exact z_iret (pc := 66) C hQ hr rfl dX8_told_66 (by cases hF; rfl) (by cases hF; rfl) (Nat.le_of_ble_eq_true rfl) (Nat.le_of_ble_eq_true rfl)
    have hF := if_f hF c6
    by_cases c7 : p2 = (4 : Int32)
    · have hF := if_t hF c7
      refine z_swi 67 (pc := 7) (off := 60) C dX8_told_7 c7 (by decide) (by decide) (by decide +kernel) (by decide) ?_
      refine z_aload_n 0 (pc := 67) C dX8_told_67 rfl rfl ?_
      refine gfX8_108 (pc := 68) C hk2 dX8_told_68 ?_
      exact z_iret (pc := 71) C hQ hr rfl dX8_told_71 (by cases hF; rfl) (by cases hF; rfl) (Nat.le_of_ble_eq_true rfl) (Nat.le_of_ble_eq_true rfl)
    have hF := if_f hF c7
    by_cases c8 : p2 = (5 : Int32)
    · have hF := if_t hF c8
      refine z_swi 72 (pc := 7) (off := 65) C dX8_told_7 c8 (by decide) (by decide) (by decide +kernel) (by decide) ?_
      refine z_aload_n 0 (pc := 72) C dX8_told_72 rfl rfl ?_
      obtain ⟨v9, hG, hF⟩ := bn1_of hF
      refine z_callV [] (pc := 73) (st1 := [.int v9]) (c1 := 1) (s1 := 6) C (mX4_nearHoles C.hT hk2 hG) kX8_158 (kdX_lt hk2 (by decide)) (gX_4 hk2) rfl rfl rfl rfl (Nat.le_of_ble_eq_true rfl) ⟨(Nat.le_of_ble_eq_true rfl), (Nat.le_of_ble_eq_true rfl)⟩ ⟨(Nat.le_of_ble_eq_true rfl), (Nat.le_of_ble_eq_true rfl)⟩ dX8_told_73 rfl rfl ?_
      exact z_iret (pc := 76) C hQ hr rfl dX8_told_76 (by cases hF; rfl) (by cases hF; rfl) (Nat.le_of_ble_eq_true rfl) (Nat.le_of_ble_eq_true rfl)
    have hF := if_f hF c8
    refine z_swo 77 (pc := 7) C dX8_told_7 (by have q0 := i_ne c3 (n := 0) (by decide); have q1 := i_ne c4 (n := 1) (by decide); have q2 := i_ne c5 (n := 2) (by decide); have q3 := i_ne c6 (n := 3) (by decide); have q4 := i_ne c7 (n := 4) (by decide); have q5 := i_ne c8 (n := 5) (by decide); omega) (by decide) ?_
    exact z_thr (pc := 77) C hQ th_arg st_162 dX8_told_77 dX8_told_80 dX8_told_81 dX8_told_83 dX8_told_86 (by cases hF; rfl) (by cases hF; rfl) (Nat.le_of_ble_eq_true rfl) (Nat.le_of_ble_eq_true rfl) (Nat.le_of_ble_eq_true rfl) (Nat.le_of_ble_eq_true rfl)
def fX8_trial (S : St) (p1 : Int32) (p2 : Int32) (p3 : Int32) : Option (((String ⊕ Int32) × St)) :=
  bx (fX8_toolAt S p1) (fun (x13 : String) => some (.inl x13, S)) (fun (k1 : Nat) =>
  bn1 (fX8_isOut p2 (1 : Int32) (4 : Int32)) (fun (v3 : Int32) =>
  if v3 = 0 then (
    bn1 (fX8_isOut p3 (0 : Int32) (9 : Int32)) (fun (v5 : Int32) =>
    if v5 = 0 then (
      gd (inb p2 5) (
      bv ((gi S (k1 + 1) p2.toNatClampNeg)) (fun (v8 : Int32) =>
      gd (inb p2 5) (
      bv (si S (k1 + 1) p2.toNatClampNeg p3) (fun (S11 : St) =>
      some (.inr v8, S11))))))
    else (
      some (.inl "java/lang/IllegalArgumentException", S))))
  else (
    some (.inl "java/lang/IllegalArgumentException", S))))
abbrev rmX8_trial : Room := { frames := 8, cells := 2, slots := 12, locals := 170 }
set_option maxRecDepth 100000 in
set_option maxHeartbeats 4000000 in
theorem mX8_trial {l : Launch} {D : va_G} {cs : Nat → ClassId} {a : Nat → Nat} (hT : l.stackTraces = false) {S : St} {p1 : Int32} {p2 : Int32} {p3 : Int32} {r : String ⊕ Int32} {S' : St} (hF : fX8_trial S p1 p2 p3 = some (r, S')) : MX l 113 GX D cs a yX8_trial cX8_trial 6 (some .int) rmX8_trial [.ref (a 0), .int p1, .int p2, .int p3] S (ocI r) S' := by
  refine zm_entry [(0, .ref (a 0)), (1, .int p1), (2, .int p2), (3, .int p3)] hT (by decide +kernel) (Nat.le_of_ble_eq_true rfl) rfl (fun E hEl hED hEk C hQ hr => ?_)
  subst hEl
  subst hED
  subst hEk
  unfold fX8_trial at hF
  refine z_aload_n 0 (pc := 0) C dX8_trial_0 rfl rfl ?_
  refine z_iload_n 1 (pc := 1) C dX8_trial_1 rfl rfl ?_
  rcases bx_of hF with ⟨x13, hG, hF⟩ | ⟨k1, hG, hF⟩
  · exact z_callVx [.int p1] (pc := 2) C (mX8_toolAt C.hT hG) kX8_186 (kdX_lt (rfl : kdX 0 = 8) (by decide)) (gX_8 (rfl : kdX 0 = 8)) rfl rfl rfl (Nat.le_of_ble_eq_true rfl) ⟨(Nat.le_of_ble_eq_true rfl), (Nat.le_of_ble_eq_true rfl)⟩ ⟨(Nat.le_of_ble_eq_true rfl), (Nat.le_of_ble_eq_true rfl)⟩ dX8_trial_2 hQ (by cases hF; rfl) (by cases hF; rfl)
  · have hk2 := qX8_toolAt hG
    refine z_callV [.int p1] (pc := 2) (st1 := [.ref (a k1)]) (c1 := 1) (s1 := 6) C (mX8_toolAt C.hT hG) kX8_186 (kdX_lt (rfl : kdX 0 = 8) (by decide)) (gX_8 (rfl : kdX 0 = 8)) rfl rfl rfl rfl (Nat.le_of_ble_eq_true rfl) ⟨(Nat.le_of_ble_eq_true rfl), (Nat.le_of_ble_eq_true rfl)⟩ ⟨(Nat.le_of_ble_eq_true rfl), (Nat.le_of_ble_eq_true rfl)⟩ dX8_trial_2 rfl rfl ?_
    refine z_astore (pc := 5) (loc' := [(4, .ref (a k1)), (0, .ref (a 0)), (1, .int p1), (2, .int p2), (3, .int p3)]) C dX8_trial_5 (by decide) rfl ?_
    refine z_iload_n 3 (pc := 7) C dX8_trial_7 rfl rfl ?_
    refine z_iconst (pc := 8) (v := (1 : Int32)) C dX8_trial_8 (by decide) ?_
    refine z_iconst (pc := 9) (v := (4 : Int32)) C dX8_trial_9 (by decide) ?_
    obtain ⟨v3, hG, hF⟩ := bn1_of hF
    refine z_callS [.int p2, .int (1 : Int32), .int (4 : Int32)] (pc := 10) (st1 := [.int v3]) (c1 := 1) (s1 := 6) C (mX8_isOut C.hT hG) kX8_62 rfl rfl rfl rfl (Nat.le_of_ble_eq_true rfl) ⟨(Nat.le_of_ble_eq_true rfl), (Nat.le_of_ble_eq_true rfl)⟩ ⟨(Nat.le_of_ble_eq_true rfl), (Nat.le_of_ble_eq_true rfl)⟩ dX8_trial_10 rfl rfl ?_
    refine z_if_ne 26 (pc := 13) C dX8_trial_13 (by decide) (fun c4 => ?_) (fun c4 => ?_)
    · have hF := if_f hF c4
      exact z_thr (pc := 26) C hQ th_arg st_190 dX8_trial_26 dX8_trial_29 dX8_trial_30 dX8_trial_32 dX8_trial_35 (by cases hF; rfl) (by cases hF; rfl) (Nat.le_of_ble_eq_true rfl) (Nat.le_of_ble_eq_true rfl) (Nat.le_of_ble_eq_true rfl) (Nat.le_of_ble_eq_true rfl)
    · have hF := if_t hF c4
      refine z_iload_n 4 (pc := 16) C dX8_trial_16 rfl rfl ?_
      refine z_iconst (pc := 17) (v := (0 : Int32)) C dX8_trial_17 (by decide) ?_
      refine z_bipush (pc := 18) (v := (9 : Int32)) C dX8_trial_18 (by decide) ?_
      obtain ⟨v5, hG, hF⟩ := bn1_of hF
      refine z_callS [.int p3, .int (0 : Int32), .int (9 : Int32)] (pc := 20) (st1 := [.int v5]) (c1 := 1) (s1 := 6) C (mX8_isOut C.hT hG) kX8_62 rfl rfl rfl rfl (Nat.le_of_ble_eq_true rfl) ⟨(Nat.le_of_ble_eq_true rfl), (Nat.le_of_ble_eq_true rfl)⟩ ⟨(Nat.le_of_ble_eq_true rfl), (Nat.le_of_ble_eq_true rfl)⟩ dX8_trial_20 rfl rfl ?_
      refine z_if_eq 36 (pc := 23) C dX8_trial_23 (by decide) (fun c6 => ?_) (fun c6 => ?_)
      · have hF := if_t hF c6
        refine z_aload 0 (pc := 36) C dX8_trial_36 rfl ?_
        refine gfX8_192 (pc := 38) C hk2 dX8_trial_38 ?_
        refine z_iload_n 3 (pc := 41) C dX8_trial_41 rfl rfl ?_
        obtain ⟨g7, hF⟩ := gd_of hF
        refine iaX5 (pc := 42) C (kX_6_5 hk2) g7 dX8_trial_42 ?_
        obtain ⟨v8, e9, hF⟩ := bv_of hF
        refine z_topi e9 ?_
        refine z_istore (pc := 43) (loc' := [(5, .int v8), (4, .ref (a k1)), (0, .ref (a 0)), (1, .int p1), (2, .int p2), (3, .int p3)]) C dX8_trial_43 (by decide) rfl ?_
        refine z_aload 1 (pc := 45) C dX8_trial_45 rfl ?_
        refine gfX8_192 (pc := 47) C hk2 dX8_trial_47 ?_
        refine z_iload_n 4 (pc := 50) C dX8_trial_50 rfl rfl ?_
        refine z_iload_n 5 (pc := 51) C dX8_trial_51 rfl rfl ?_
        obtain ⟨g10, hF⟩ := gd_of hF
        refine saX5 (pc := 52) C (kX_6_5 hk2) g10 dX8_trial_52 ?_
        obtain ⟨S11, e12, hF⟩ := bv_of hF
        rw [← e12]
        refine z_iload 0 (pc := 53) C dX8_trial_53 rfl ?_
        exact z_iret (pc := 55) C hQ hr rfl dX8_trial_55 (by cases hF; rfl) (by cases hF; rfl) (Nat.le_of_ble_eq_true rfl) (Nat.le_of_ble_eq_true rfl)
      · have hF := if_f hF c6
        exact z_thr (pc := 26) C hQ th_arg st_190 dX8_trial_26 dX8_trial_29 dX8_trial_30 dX8_trial_32 dX8_trial_35 (by cases hF; rfl) (by cases hF; rfl) (Nat.le_of_ble_eq_true rfl) (Nat.le_of_ble_eq_true rfl) (Nat.le_of_ble_eq_true rfl) (Nat.le_of_ble_eq_true rfl)
def fX8_want (S : St) (p1 : Int32) (p2 : Int32) : Option (((String ⊕ Int32) × St)) :=
  bx (fX8_partAt S p1) (fun (x12 : String) => some (.inl x12, S)) (fun (k1 : Nat) =>
  bn1 (fX8_isOut p2 (1 : Int32) (40 : Int32)) (fun (v3 : Int32) =>
  if v3 = 0 then (
    if ((gi S 0 6) + p2) ≤ (40 : Int32) then (
      gd (inb p1 8) (
      gd (inb p1 8) (
      bv (si S 6 p1.toNatClampNeg ((gi S 6 p1.toNatClampNeg) + p2)) (fun (S8 : St) =>
      bv (si S8 0 6 ((gi S8 0 6) + p2)) (fun (S10 : St) =>
      some (.inr (gi S10 0 6), S10))))))
    else (
      some (.inl "java/lang/IllegalStateException", S)))
  else (
    some (.inl "java/lang/IllegalArgumentException", S))))
abbrev rmX8_want : Room := { frames := 8, cells := 2, slots := 12, locals := 170 }
set_option maxRecDepth 100000 in
set_option maxHeartbeats 4000000 in
theorem mX8_want {l : Launch} {D : va_G} {cs : Nat → ClassId} {a : Nat → Nat} (hT : l.stackTraces = false) {S : St} {p1 : Int32} {p2 : Int32} {r : String ⊕ Int32} {S' : St} (hF : fX8_want S p1 p2 = some (r, S')) : MX l 113 GX D cs a yX8_want cX8_want 3 (some .int) rmX8_want [.ref (a 0), .int p1, .int p2] S (ocI r) S' := by
  refine zm_entry [(0, .ref (a 0)), (1, .int p1), (2, .int p2)] hT (by decide +kernel) (Nat.le_of_ble_eq_true rfl) rfl (fun E hEl hED hEk C hQ hr => ?_)
  subst hEl
  subst hED
  subst hEk
  unfold fX8_want at hF
  refine z_aload_n 0 (pc := 0) C dX8_want_0 rfl rfl ?_
  refine z_iload_n 1 (pc := 1) C dX8_want_1 rfl rfl ?_
  rcases bx_of hF with ⟨x12, hG, hF⟩ | ⟨k1, hG, hF⟩
  · exact z_callVx [.int p1] (pc := 2) C (mX8_partAt C.hT hG) kX8_104 (kdX_lt (rfl : kdX 0 = 8) (by decide)) (gX_8 (rfl : kdX 0 = 8)) rfl rfl rfl (Nat.le_of_ble_eq_true rfl) ⟨(Nat.le_of_ble_eq_true rfl), (Nat.le_of_ble_eq_true rfl)⟩ ⟨(Nat.le_of_ble_eq_true rfl), (Nat.le_of_ble_eq_true rfl)⟩ dX8_want_2 hQ (by cases hF; rfl) (by cases hF; rfl)
  · have hk2 := qX8_partAt hG
    refine z_callV [.int p1] (pc := 2) (st1 := [.ref (a k1)]) (c1 := 1) (s1 := 6) C (mX8_partAt C.hT hG) kX8_104 (kdX_lt (rfl : kdX 0 = 8) (by decide)) (gX_8 (rfl : kdX 0 = 8)) rfl rfl rfl rfl (Nat.le_of_ble_eq_true rfl) ⟨(Nat.le_of_ble_eq_true rfl), (Nat.le_of_ble_eq_true rfl)⟩ ⟨(Nat.le_of_ble_eq_true rfl), (Nat.le_of_ble_eq_true rfl)⟩ dX8_want_2 rfl rfl ?_
    refine z_pop (pc := 5) C dX8_want_5 rfl ?_
    refine z_iload_n 2 (pc := 6) C dX8_want_6 rfl rfl ?_
    refine z_iconst (pc := 7) (v := (1 : Int32)) C dX8_want_7 (by decide) ?_
    refine z_bipush (pc := 8) (v := (40 : Int32)) C dX8_want_8 (by decide) ?_
    obtain ⟨v3, hG, hF⟩ := bn1_of hF
    refine z_callS [.int p2, .int (1 : Int32), .int (40 : Int32)] (pc := 10) (st1 := [.int v3]) (c1 := 1) (s1 := 6) C (mX8_isOut C.hT hG) kX8_62 rfl rfl rfl rfl (Nat.le_of_ble_eq_true rfl) ⟨(Nat.le_of_ble_eq_true rfl), (Nat.le_of_ble_eq_true rfl)⟩ ⟨(Nat.le_of_ble_eq_true rfl), (Nat.le_of_ble_eq_true rfl)⟩ dX8_want_10 rfl rfl ?_
    refine z_if_eq 26 (pc := 13) C dX8_want_13 (by decide) (fun c4 => ?_) (fun c4 => ?_)
    · have hF := if_t hF c4
      refine z_aload_n 0 (pc := 26) C dX8_want_26 rfl rfl ?_
      refine gfX8_253 (pc := 27) C (rfl : kdX 0 = 8) dX8_want_27 ?_
      refine z_iload_n 2 (pc := 30) C dX8_want_30 rfl rfl ?_
      refine z_iadd (pc := 31) C dX8_want_31 ?_
      refine z_bipush (pc := 32) (v := (40 : Int32)) C dX8_want_32 (by decide) ?_
      refine z_icmp_le 48 (pc := 34) C dX8_want_34 (by decide) (fun c5 => ?_) (fun c5 => ?_)
      · have hF := if_t hF c5
        refine z_aload_n 0 (pc := 48) C dX8_want_48 rfl rfl ?_
        refine gfX8_28 (pc := 49) C (rfl : kdX 0 = 8) dX8_want_49 ?_
        refine z_iload_n 1 (pc := 52) C dX8_want_52 rfl rfl ?_
        refine z_dup2 (pc := 53) C dX8_want_53 rfl rfl ?_
        obtain ⟨g6, hF⟩ := gd_of hF
        refine iaX8 (pc := 54) C (rfl : kdX 6 = 28) g6 dX8_want_54 ?_
        refine z_iload_n 2 (pc := 55) C dX8_want_55 rfl rfl ?_
        refine z_iadd (pc := 56) C dX8_want_56 ?_
        obtain ⟨g7, hF⟩ := gd_of hF
        refine saX8 (pc := 57) C (rfl : kdX 6 = 28) g7 dX8_want_57 ?_
        obtain ⟨S8, e9, hF⟩ := bv_of hF
        rw [← e9]
        refine z_aload_n 0 (pc := 58) C dX8_want_58 rfl rfl ?_
        refine z_dup (pc := 59) C dX8_want_59 rfl ?_
        refine gfX8_253 (pc := 60) C (rfl : kdX 0 = 8) dX8_want_60 ?_
        refine z_iload_n 2 (pc := 63) C dX8_want_63 rfl rfl ?_
        refine z_iadd (pc := 64) C dX8_want_64 ?_
        refine pfX8_253 (pc := 65) C (rfl : kdX 0 = 8) dX8_want_65 ?_
        obtain ⟨S10, e11, hF⟩ := bv_of hF
        rw [← e11]
        refine z_aload_n 0 (pc := 68) C dX8_want_68 rfl rfl ?_
        refine gfX8_253 (pc := 69) C (rfl : kdX 0 = 8) dX8_want_69 ?_
        exact z_iret (pc := 72) C hQ hr rfl dX8_want_72 (by cases hF; rfl) (by cases hF; rfl) (Nat.le_of_ble_eq_true rfl) (Nat.le_of_ble_eq_true rfl)
      · have hF := if_f hF c5
        exact z_thrW (pc := 37) C hQ th_sta st_256 dX8_want_37 dX8_want_40 dX8_want_41 dX8_want_44 dX8_want_47 (by cases hF; rfl) (by cases hF; rfl) (Nat.le_of_ble_eq_true rfl) (Nat.le_of_ble_eq_true rfl) (Nat.le_of_ble_eq_true rfl) (Nat.le_of_ble_eq_true rfl)
    · have hF := if_f hF c4
      exact z_thr (pc := 16) C hQ th_arg st_251 dX8_want_16 dX8_want_19 dX8_want_20 dX8_want_22 dX8_want_25 (by cases hF; rfl) (by cases hF; rfl) (Nat.le_of_ble_eq_true rfl) (Nat.le_of_ble_eq_true rfl) (Nat.le_of_ble_eq_true rfl) (Nat.le_of_ble_eq_true rfl)
