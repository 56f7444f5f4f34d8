def fX9_blankBy_L5 (p1 : Int32) (S : St) (next3 : Int32 → Int32 → Option (Int32)) (v1 : Int32) (v2 : Int32) : Option (Int32) :=
  gd (inb p1 8) (
  if (gi S 3 p1.toNatClampNeg) ≤ v2 then (
    some v1)
  else (
    gd (inb (((6 : Int32) * p1) + v2) 48) (
    bv ((v1 + (gi S 4 (((6 : Int32) * p1) + v2).toNatClampNeg))) (fun (v12 : Int32) =>
    bv (v2 + 1) (fun (v14 : Int32) =>
    next3 v12 v14)))))
def fX9_blankBy (S : St) (p1 : Int32) (p2 : Int32) : Option (Int32) :=
  bn1 (lq2 (fX9_blankBy_L5 p1 S) 200 (0 : Int32) (0 : Int32)) (fun (v4 : Int32) =>
    gd (inb p1 8) (
    gd (inb (((5 : Int32) * p2) + (gi S 7 p1.toNatClampNeg)) 20) (
    gd (inb p1 8) (
    some ((v4 - ((gi S 18 (((5 : Int32) * p2) + (gi S 7 p1.toNatClampNeg)).toNatClampNeg) * ((gi S 3 p1.toNatClampNeg) - (1 : Int32)))))))))
abbrev rmX9_blankBy : Room := { frames := 6, cells := 0, slots := 0, locals := 90 }
set_option maxRecDepth 100000 in
set_option maxHeartbeats 4000000 in
theorem mX9_blankBy {l : Launch} {D : va_G} {cs : Nat → ClassId} {a : Nat → Nat} (hT : l.stackTraces = false) {S : St} {p1 : Int32} {p2 : Int32} {r : Int32} (hF : fX9_blankBy S p1 p2 = some r) : MX l 33 GM D cs a yX9_blankBy cX9_blankBy 5 (some .int) rmX9_blankBy [.ref (a 0), .int p1, .int p2] S (.inr (some (.int r))) S := by
  refine zm_entry [(0, .ref (a 0)), (1, .int p1), (2, .int p2)] hT (by decide +kernel) (Nat.le_of_ble_eq_true rfl) rfl (fun E hEl hED hEk C hQ hr => ?_)
  subst hEl
  subst hED
  subst hEk
  unfold fX9_blankBy at hF
  refine z_iconst (pc := 0) (v := (0 : Int32)) C dX9_blankBy_0 (by decide) ?_
  refine z_istore_n (pc := 1) (loc' := [(3, .int (0 : Int32)), (0, .ref (a 0)), (1, .int p1), (2, .int p2)]) C dX9_blankBy_1 rfl (by decide) rfl ?_
  refine z_iconst (pc := 2) (v := (0 : Int32)) C dX9_blankBy_2 (by decide) ?_
  refine z_istore (pc := 3) (loc' := [(4, .int (0 : Int32)), (3, .int (0 : Int32)), (0, .ref (a 0)), (1, .int p1), (2, .int p2)]) C dX9_blankBy_3 (by decide) rfl ?_
  refine z_sub [2, 3, 4, 1, 0] rfl ?_
  obtain ⟨v4', hR, hF⟩ := bn1_of hF
  have hJ8 : ∀ (v4 : Int32), (some v4 : Option (Int32)) = some v4' → Zz E (WM E a S) 0 0 37 [(0, .ref (a 0)), (1, .int p1), (2, .int p2), (3, .int v4)] [] := by
    intro v4 hE
    have hE0 := Option.some.inj hE
    subst hE0
    refine z_iload_n 3 (pc := 37) C dX9_blankBy_37 rfl rfl ?_
    refine z_aload_n 0 (pc := 38) C dX9_blankBy_38 rfl rfl ?_
    refine gfX9_61 (pc := 39) C (rfl : kdM 0 = 9) dX9_blankBy_39 ?_
    refine z_iconst (pc := 42) (v := (5 : Int32)) C dX9_blankBy_42 (by decide) ?_
    refine z_iload_n 2 (pc := 43) C dX9_blankBy_43 rfl rfl ?_
    refine z_imul (pc := 44) C dX9_blankBy_44 ?_
    refine z_aload_n 0 (pc := 45) C dX9_blankBy_45 rfl rfl ?_
    refine gfX9_28 (pc := 46) C (rfl : kdM 0 = 9) dX9_blankBy_46 ?_
    refine z_iload_n 1 (pc := 49) C dX9_blankBy_49 rfl rfl ?_
    obtain ⟨g5, hF⟩ := gd_of hF
    refine iaM8 (pc := 50) C (rfl : kdM 7 = 28) g5 dX9_blankBy_50 ?_
    refine z_iadd (pc := 51) C dX9_blankBy_51 ?_
    obtain ⟨g6, hF⟩ := gd_of hF
    refine iaM20 (pc := 52) C (rfl : kdM 18 = 40) g6 dX9_blankBy_52 ?_
    refine z_aload_n 0 (pc := 53) C dX9_blankBy_53 rfl rfl ?_
    refine gfX9_16 (pc := 54) C (rfl : kdM 0 = 9) dX9_blankBy_54 ?_
    refine z_iload_n 1 (pc := 57) C dX9_blankBy_57 rfl rfl ?_
    obtain ⟨g7, hF⟩ := gd_of hF
    refine iaM8 (pc := 58) C (rfl : kdM 3 = 28) g7 dX9_blankBy_58 ?_
    refine z_iconst (pc := 59) (v := (1 : Int32)) C dX9_blankBy_59 (by decide) ?_
    refine z_isub (pc := 60) C dX9_blankBy_60 ?_
    refine z_imul (pc := 61) C dX9_blankBy_61 ?_
    refine z_isub (pc := 62) C dX9_blankBy_62 ?_
    exact z_iret (pc := 63) C hQ hr rfl dX9_blankBy_63 (by cases hF; rfl) (by cases hF; rfl) (Nat.le_of_ble_eq_true rfl) (Nat.le_of_ble_eq_true rfl)
  have hF := hR
  clear hR
  refine lq2_W (P := fun (v1 : Int32) (v2 : Int32) => Zz E (WM E a S) 0 0 5 [(0, .ref (a 0)), (1, .int p1), (2, .int p2), (3, .int v1), (4, .int v2)] []) (fun next3 hN3 v1 v2 hF => ?_) _ _ _ hF
  unfold fX9_blankBy_L5 at hF
  refine z_iload 4 (pc := 5) C dX9_blankBy_5 rfl ?_
  refine z_aload_n 0 (pc := 7) C dX9_blankBy_7 rfl rfl ?_
  refine gfX9_16 (pc := 8) C (rfl : kdM 0 = 9) dX9_blankBy_8 ?_
  refine z_iload_n 1 (pc := 11) C dX9_blankBy_11 rfl rfl ?_
  obtain ⟨g9, hF⟩ := gd_of hF
  refine iaM8 (pc := 12) C (rfl : kdM 3 = 28) g9 dX9_blankBy_12 ?_
  refine z_icmp_ge 37 (pc := 13) C dX9_blankBy_13 (by decide) (fun c10 => ?_) (fun c10 => ?_)
  · have hF := if_t hF c10
    refine z_sub [0, 1, 2, 3] rfl ?_
    exact hJ8 _ hF
  · have hF := if_f hF c10
    refine z_iload_n 3 (pc := 16) C dX9_blankBy_16 rfl rfl ?_
    refine z_aload_n 0 (pc := 17) C dX9_blankBy_17 rfl rfl ?_
    refine gfX9_19 (pc := 18) C (rfl : kdM 0 = 9) dX9_blankBy_18 ?_
    refine z_bipush (pc := 21) (v := (6 : Int32)) C dX9_blankBy_21 (by decide) ?_
    refine z_iload_n 1 (pc := 23) C dX9_blankBy_23 rfl rfl ?_
    refine z_imul (pc := 24) C dX9_blankBy_24 ?_
    refine z_iload 4 (pc := 25) C dX9_blankBy_25 rfl ?_
    refine z_iadd (pc := 27) C dX9_blankBy_27 ?_
    obtain ⟨g11, hF⟩ := gd_of hF
    refine iaM48 (pc := 28) C (rfl : kdM 4 = 68) g11 dX9_blankBy_28 ?_
    refine z_iadd (pc := 29) C dX9_blankBy_29 ?_
    obtain ⟨v12, e13, hF⟩ := bv_of hF
    refine z_topi e13 ?_
    refine z_istore_n (pc := 30) (loc' := [(3, .int v12), (0, .ref (a 0)), (1, .int p1), (2, .int p2), (4, .int v2)]) C dX9_blankBy_30 rfl (by decide) rfl ?_
    obtain ⟨v14, e15, hF⟩ := bv_of hF
    refine z_iinc 4 (pc := 31) (v := v14) (loc' := [(4, .int v14), (3, .int v12), (0, .ref (a 0)), (1, .int p1), (2, .int p2)]) C dX9_blankBy_31 rfl (by rw [e15]; rfl) (by decide) rfl ?_
    refine z_goto 5 (pc := 34) C dX9_blankBy_34 (by decide) ?_
    refine z_sub [2, 3, 4, 1, 0] rfl ?_
    exact hN3 _ _ hF
def fX9_draw_L13 (p1 : Int32) (next6 : Int32 → St → Option (St)) (v4 : Int32) (S5 : St) : Option (St) :=
  if (gi S5 0 1) ≤ v4 then (
    some S5)
  else (
    gd (inb v4 6) (
    gd (inb (((6 : Int32) * p1) + v4) 48) (
    bv (si S5 4 (((6 : Int32) * p1) + v4).toNatClampNeg (gi S5 1 v4.toNatClampNeg)) (fun (S23 : St) =>
    gd (inb v4 6) (
    gd (inb (((6 : Int32) * p1) + v4) 48) (
    bv (si S23 5 (((6 : Int32) * p1) + v4).toNatClampNeg (gi S23 2 v4.toNatClampNeg)) (fun (S27 : St) =>
    bv (v4 + 1) (fun (v29 : Int32) =>
    next6 v29 S27))))))))
def fX9_draw (S : St) (p1 : Int32) (p2 : Int32) (p3 : Int32) : Option (St) :=
  gd (inb p1 8) (
  bv (si S 3 p1.toNatClampNeg (gi S 0 1)) (fun (S2 : St) =>
  bn1 (lq2 (fX9_draw_L13 p1) 200 (0 : Int32) S2) (fun (S7 : St) =>
    gd (inb p1 8) (
    bv (si S7 6 p1.toNatClampNeg p2) (fun (S9 : St) =>
    gd (inb p1 8) (
    bv (si S9 7 p1.toNatClampNeg p3) (fun (S12 : St) =>
    gd (inb p1 8) (
    bv (si S12 9 p1.toNatClampNeg (0 : Int32)) (fun (S15 : St) =>
    bv (si S15 0 1 (0 : Int32)) (fun (S17 : St) =>
    some S17))))))))))
abbrev rmX9_draw : Room := { frames := 6, cells := 0, slots := 0, locals := 90 }
set_option maxRecDepth 100000 in
set_option maxHeartbeats 4000000 in
theorem mX9_draw {l : Launch} {D : va_G} {cs : Nat → ClassId} {a : Nat → Nat} (hT : l.stackTraces = false) {S : St} {p1 : Int32} {p2 : Int32} {p3 : Int32} {S' : St} (hF : fX9_draw S p1 p2 p3 = some S') : MX l 33 GM D cs a yX9_draw cX9_draw 5 none rmX9_draw [.ref (a 0), .int p1, .int p2, .int p3] S (.inr none) S' := by
  refine zm_entry [(0, .ref (a 0)), (1, .int p1), (2, .int p2), (3, .int p3)] hT (by decide +kernel) (Nat.le_of_ble_eq_true rfl) rfl (fun E hEl hED hEk C hQ hr => ?_)
  subst hEl
  subst hED
  subst hEk
  unfold fX9_draw at hF
  refine z_aload_n 0 (pc := 0) C dX9_draw_0 rfl rfl ?_
  refine gfX9_16 (pc := 1) C (rfl : kdM 0 = 9) dX9_draw_1 ?_
  refine z_iload_n 1 (pc := 4) C dX9_draw_4 rfl rfl ?_
  refine z_aload_n 0 (pc := 5) C dX9_draw_5 rfl rfl ?_
  refine gfX9_123 (pc := 6) C (rfl : kdM 0 = 9) dX9_draw_6 ?_
  obtain ⟨g1, hF⟩ := gd_of hF
  refine saM8 (pc := 9) C (rfl : kdM 3 = 28) g1 dX9_draw_9 ?_
  obtain ⟨S2, e3, hF⟩ := bv_of hF
  rw [← e3]
  refine z_iconst (pc := 10) (v := (0 : Int32)) C dX9_draw_10 (by decide) ?_
  refine z_istore (pc := 11) (loc' := [(4, .int (0 : Int32)), (0, .ref (a 0)), (1, .int p1), (2, .int p2), (3, .int p3)]) C dX9_draw_11 (by decide) rfl ?_
  refine z_sub [1, 2, 3, 4, 0] rfl ?_
  obtain ⟨S7', hR, hF⟩ := bn1_of hF
  have hJ19 : ∀ (S7 : St), (some S7 : Option (St)) = some S7' → Zz E (WM E a S7) 0 0 66 [(0, .ref (a 0)), (1, .int p1), (2, .int p2), (3, .int p3)] [] := by
    intro S7 hE
    have hE0 := Option.some.inj hE
    subst hE0
    refine z_aload_n 0 (pc := 66) C dX9_draw_66 rfl rfl ?_
    refine gfX9_25 (pc := 67) C (rfl : kdM 0 = 9) dX9_draw_67 ?_
    refine z_iload_n 1 (pc := 70) C dX9_draw_70 rfl rfl ?_
    refine z_iload_n 2 (pc := 71) C dX9_draw_71 rfl rfl ?_
    obtain ⟨g8, hF⟩ := gd_of hF
    refine saM8 (pc := 72) C (rfl : kdM 6 = 28) g8 dX9_draw_72 ?_
    obtain ⟨S9, e10, hF⟩ := bv_of hF
    rw [← e10]
    refine z_aload_n 0 (pc := 73) C dX9_draw_73 rfl rfl ?_
    refine gfX9_28 (pc := 74) C (rfl : kdM 0 = 9) dX9_draw_74 ?_
    refine z_iload_n 1 (pc := 77) C dX9_draw_77 rfl rfl ?_
    refine z_iload_n 3 (pc := 78) C dX9_draw_78 rfl rfl ?_
    obtain ⟨g11, hF⟩ := gd_of hF
    refine saM8 (pc := 79) C (rfl : kdM 7 = 28) g11 dX9_draw_79 ?_
    obtain ⟨S12, e13, hF⟩ := bv_of hF
    rw [← e13]
    refine z_aload_n 0 (pc := 80) C dX9_draw_80 rfl rfl ?_
    refine gfX9_34 (pc := 81) C (rfl : kdM 0 = 9) dX9_draw_81 ?_
    refine z_iload_n 1 (pc := 84) C dX9_draw_84 rfl rfl ?_
    refine z_iconst (pc := 85) (v := (0 : Int32)) C dX9_draw_85 (by decide) ?_
    obtain ⟨g14, hF⟩ := gd_of hF
    refine saM8 (pc := 86) C (rfl : kdM 9 = 28) g14 dX9_draw_86 ?_
    obtain ⟨S15, e16, hF⟩ := bv_of hF
    rw [← e16]
    refine z_aload_n 0 (pc := 87) C dX9_draw_87 rfl rfl ?_
    refine z_iconst (pc := 88) (v := (0 : Int32)) C dX9_draw_88 (by decide) ?_
    refine pfX9_123 (pc := 89) C (rfl : kdM 0 = 9) dX9_draw_89 ?_
    obtain ⟨S17, e18, hF⟩ := bv_of hF
    rw [← e18]
    exact z_vret (pc := 92) C hQ hr dX9_draw_92 (by cases hF; rfl) (by cases hF; rfl) (Nat.le_of_ble_eq_true rfl) (Nat.le_of_ble_eq_true rfl)
  have hF := hR
  clear hR
  refine lq2_W (P := fun (v4 : Int32) (S5 : St) => Zz E (WM E a S5) 0 0 13 [(0, .ref (a 0)), (1, .int p1), (2, .int p2), (3, .int p3), (4, .int v4)] []) (fun next6 hN6 v4 S5 hF => ?_) _ _ _ hF
  unfold fX9_draw_L13 at hF
  refine z_iload 4 (pc := 13) C dX9_draw_13 rfl ?_
  refine z_aload_n 0 (pc := 15) C dX9_draw_15 rfl rfl ?_
  refine gfX9_123 (pc := 16) C (rfl : kdM 0 = 9) dX9_draw_16 ?_
  refine z_icmp_ge 66 (pc := 19) C dX9_draw_19 (by decide) (fun c20 => ?_) (fun c20 => ?_)
  · have hF := if_t hF c20
    refine z_sub [0, 1, 2, 3] rfl ?_
    exact hJ19 _ hF
  · have hF := if_f hF c20
    refine z_aload_n 0 (pc := 22) C dX9_draw_22 rfl rfl ?_
    refine gfX9_19 (pc := 23) C (rfl : kdM 0 = 9) dX9_draw_23 ?_
    refine z_bipush (pc := 26) (v := (6 : Int32)) C dX9_draw_26 (by decide) ?_
    refine z_iload_n 1 (pc := 28) C dX9_draw_28 rfl rfl ?_
    refine z_imul (pc := 29) C dX9_draw_29 ?_
    refine z_iload 4 (pc := 30) C dX9_draw_30 rfl ?_
    refine z_iadd (pc := 32) C dX9_draw_32 ?_
    refine z_aload_n 0 (pc := 33) C dX9_draw_33 rfl rfl ?_
    refine gfX9_7 (pc := 34) C (rfl : kdM 0 = 9) dX9_draw_34 ?_
    refine z_iload 4 (pc := 37) C dX9_draw_37 rfl ?_
    obtain ⟨g21, hF⟩ := gd_of hF
    refine iaM6 (pc := 39) C (rfl : kdM 1 = 26) g21 dX9_draw_39 ?_
    obtain ⟨g22, hF⟩ := gd_of hF
    refine saM48 (pc := 40) C (rfl : kdM 4 = 68) g22 dX9_draw_40 ?_
    obtain ⟨S23, e24, hF⟩ := bv_of hF
    rw [← e24]
    refine z_aload_n 0 (pc := 41) C dX9_draw_41 rfl rfl ?_
    refine gfX9_22 (pc := 42) C (rfl : kdM 0 = 9) dX9_draw_42 ?_
    refine z_bipush (pc := 45) (v := (6 : Int32)) C dX9_draw_45 (by decide) ?_
    refine z_iload_n 1 (pc := 47) C dX9_draw_47 rfl rfl ?_
    refine z_imul (pc := 48) C dX9_draw_48 ?_
    refine z_iload 4 (pc := 49) C dX9_draw_49 rfl ?_
    refine z_iadd (pc := 51) C dX9_draw_51 ?_
    refine z_aload_n 0 (pc := 52) C dX9_draw_52 rfl rfl ?_
    refine gfX9_13 (pc := 53) C (rfl : kdM 0 = 9) dX9_draw_53 ?_
    refine z_iload 4 (pc := 56) C dX9_draw_56 rfl ?_
    obtain ⟨g25, hF⟩ := gd_of hF
    refine iaM6 (pc := 58) C (rfl : kdM 2 = 26) g25 dX9_draw_58 ?_
    obtain ⟨g26, hF⟩ := gd_of hF
    refine saM48 (pc := 59) C (rfl : kdM 5 = 68) g26 dX9_draw_59 ?_
    obtain ⟨S27, e28, hF⟩ := bv_of hF
    rw [← e28]
    obtain ⟨v29, e30, hF⟩ := bv_of hF
    refine z_iinc 4 (pc := 60) (v := v29) (loc' := [(4, .int v29), (0, .ref (a 0)), (1, .int p1), (2, .int p2), (3, .int p3)]) C dX9_draw_60 rfl (by rw [e30]; rfl) (by decide) rfl ?_
    refine z_goto 13 (pc := 63) C dX9_draw_63 (by decide) ?_
    refine z_sub [1, 2, 3, 4, 0] rfl ?_
    exact hN6 _ _ hF
def fX9_go (S : St) (p1 : Int32) (p2 : Int32) (p3 : Int32) (p4 : Int32) (p5 : Int32) : Option (St) :=
  bn1 (if p4 ≤ 0 then (
    some (p3 - p5))
  else (
    some ((p3 + (1 : Int32)) + p5))) (fun (v1 : Int32) =>
    bn1 (if p4 ≤ 0 then (
      some v1)
    else (
      some (v1 - (1 : Int32)))) (fun (v2 : Int32) =>
      bn1 (if p5 ≤ 0 then (
        some S)
      else (
        if ((p2 >>> (v2 &&& 31)) &&& (1 : Int32)) = (1 : Int32) then (
          gd (inb (((6 : Int32) * p1) + v2) 48) (
          gd (inb (((6 : Int32) * p1) + p3) 48) (
          bn1 (if (gi S 5 (((6 : Int32) * p1) + v2).toNatClampNeg) = (gi S 5 (((6 : Int32) * p1) + p3).toNatClampNeg) then (
            some (1 : Int32))
          else (
            some (0 : Int32))) (fun (v21 : Int32) =>
            bv ((gi S 0 32)) (fun (v22 : Int32) =>
            bn1 (if v21 = 0 then (
              some (gi S 0 33))
            else (
              some (-(gi S 0 33)))) (fun (v24 : Int32) =>
              bv (si S 0 32 v24) (fun (S25 : St) =>
              bn1 (if v21 = 0 then (
                some (-v22))
              else (
                some v22)) (fun (v27 : Int32) =>
                bv (si S25 0 33 v27) (fun (S28 : St) =>
                bv (si S28 0 35 (0 : Int32)) (fun (S30 : St) =>
                some S30))))))))))
        else (
          some S))) (fun (S3 : St) =>
        gd (inb (((6 : Int32) * p1) + v1) 48) (
        bv (si S3 0 30 ((gi S3 0 30) + ((gi S3 0 32) * (gi S3 4 (((6 : Int32) * p1) + v1).toNatClampNeg)))) (fun (S5 : St) =>
        gd (inb (((6 : Int32) * p1) + v1) 48) (
        bv (si S5 0 31 ((gi S5 0 31) + ((gi S5 0 33) * (gi S5 4 (((6 : Int32) * p1) + v1).toNatClampNeg)))) (fun (S8 : St) =>
        bn1 (if (gi S8 0 35) = 0 then (
          some (0 : Int32))
        else (
          gd (inb (((6 : Int32) * p1) + v1) 48) (
          some (gi S8 4 (((6 : Int32) * p1) + v1).toNatClampNeg)))) (fun (v10 : Int32) =>
          bv (si S8 0 34 ((gi S8 0 34) + v10)) (fun (S11 : St) =>
          some S11)))))))))
abbrev rmX9_go : Room := { frames := 6, cells := 0, slots := 0, locals := 90 }
set_option maxRecDepth 100000 in
set_option maxHeartbeats 4000000 in
theorem mX9_go {l : Launch} {D : va_G} {cs : Nat → ClassId} {a : Nat → Nat} (hT : l.stackTraces = false) {S : St} {p1 : Int32} {p2 : Int32} {p3 : Int32} {p4 : Int32} {p5 : Int32} {S' : St} (hF : fX9_go S p1 p2 p3 p4 p5 = some S') : MX l 33 GM D cs a yX9_go cX9_go 10 none rmX9_go [.ref (a 0), .int p1, .int p2, .int p3, .int p4, .int p5] S (.inr none) S' := by
  refine zm_entry [(0, .ref (a 0)), (1, .int p1), (2, .int p2), (3, .int p3), (4, .int p4), (5, .int p5)] hT (by decide +kernel) (Nat.le_of_ble_eq_true rfl) rfl (fun E hEl hED hEk C hQ hr => ?_)
  subst hEl
  subst hED
  subst hEk
  unfold fX9_go at hF
  refine z_iload 4 (pc := 0) C dX9_go_0 rfl ?_
  obtain ⟨v1', hR, hF⟩ := bn1_of hF
  have hJ40 : ∀ (v1 : Int32), (some v1 : Option (Int32)) = some v1' → Zz E (WM E a S) 0 0 18 [(0, .ref (a 0)), (1, .int p1), (2, .int p2), (3, .int p3), (4, .int p4), (5, .int p5)] [.int v1] := by
    intro v1 hE
    have hE0 := Option.some.inj hE
    subst hE0
    refine z_istore (pc := 18) (loc' := [(6, .int v1), (0, .ref (a 0)), (1, .int p1), (2, .int p2), (3, .int p3), (4, .int p4), (5, .int p5)]) C dX9_go_18 (by decide) rfl ?_
    refine z_iload 5 (pc := 20) C dX9_go_20 rfl ?_
    obtain ⟨v2', hR, hF⟩ := bn1_of hF
    have hJ38 : ∀ (v2 : Int32), (some v2 : Option (Int32)) = some v2' → Zz E (WM E a S) 0 0 34 [(0, .ref (a 0)), (1, .int p1), (2, .int p2), (3, .int p3), (5, .int p5), (6, .int v1)] [.int v2] := by
      intro v2 hE
      have hE0 := Option.some.inj hE
      subst hE0
      refine z_istore (pc := 34) (loc' := [(7, .int v2), (0, .ref (a 0)), (1, .int p1), (2, .int p2), (3, .int p3), (5, .int p5), (6, .int v1)]) C dX9_go_34 (by decide) rfl ?_
      refine z_iload 5 (pc := 36) C dX9_go_36 rfl ?_
      obtain ⟨S3', hR, hF⟩ := bn1_of hF
      have hJ16 : ∀ (S3 : St), (some S3 : Option (St)) = some S3' → Zz E (WM E a S3) 0 0 133 [(0, .ref (a 0)), (1, .int p1), (6, .int v1)] [] := by
        intro S3 hE
        have hE0 := Option.some.inj hE
        subst hE0
        refine z_aload_n 0 (pc := 133) C dX9_go_133 rfl rfl ?_
        refine z_dup (pc := 134) C dX9_go_134 rfl ?_
        refine gfX9_154 (pc := 135) C (rfl : kdM 0 = 9) dX9_go_135 ?_
        refine z_aload_n 0 (pc := 138) C dX9_go_138 rfl rfl ?_
        refine gfX9_160 (pc := 139) C (rfl : kdM 0 = 9) dX9_go_139 ?_
        refine z_aload_n 0 (pc := 142) C dX9_go_142 rfl rfl ?_
        refine gfX9_19 (pc := 143) C (rfl : kdM 0 = 9) dX9_go_143 ?_
        refine z_bipush (pc := 146) (v := (6 : Int32)) C dX9_go_146 (by decide) ?_
        refine z_iload_n 1 (pc := 148) C dX9_go_148 rfl rfl ?_
        refine z_imul (pc := 149) C dX9_go_149 ?_
        refine z_iload 2 (pc := 150) C dX9_go_150 rfl ?_
        refine z_iadd (pc := 152) C dX9_go_152 ?_
        obtain ⟨g4, hF⟩ := gd_of hF
        refine iaM48 (pc := 153) C (rfl : kdM 4 = 68) g4 dX9_go_153 ?_
        refine z_imul (pc := 154) C dX9_go_154 ?_
        refine z_iadd (pc := 155) C dX9_go_155 ?_
        refine pfX9_154 (pc := 156) C (rfl : kdM 0 = 9) dX9_go_156 ?_
        obtain ⟨S5, e6, hF⟩ := bv_of hF
        rw [← e6]
        refine z_aload_n 0 (pc := 159) C dX9_go_159 rfl rfl ?_
        refine z_dup (pc := 160) C dX9_go_160 rfl ?_
        refine gfX9_157 (pc := 161) C (rfl : kdM 0 = 9) dX9_go_161 ?_
        refine z_aload_n 0 (pc := 164) C dX9_go_164 rfl rfl ?_
        refine gfX9_163 (pc := 165) C (rfl : kdM 0 = 9) dX9_go_165 ?_
        refine z_aload_n 0 (pc := 168) C dX9_go_168 rfl rfl ?_
        refine gfX9_19 (pc := 169) C (rfl : kdM 0 = 9) dX9_go_169 ?_
        refine z_bipush (pc := 172) (v := (6 : Int32)) C dX9_go_172 (by decide) ?_
        refine z_iload_n 1 (pc := 174) C dX9_go_174 rfl rfl ?_
        refine z_imul (pc := 175) C dX9_go_175 ?_
        refine z_iload 2 (pc := 176) C dX9_go_176 rfl ?_
        refine z_iadd (pc := 178) C dX9_go_178 ?_
        obtain ⟨g7, hF⟩ := gd_of hF
        refine iaM48 (pc := 179) C (rfl : kdM 4 = 68) g7 dX9_go_179 ?_
        refine z_imul (pc := 180) C dX9_go_180 ?_
        refine z_iadd (pc := 181) C dX9_go_181 ?_
        refine pfX9_157 (pc := 182) C (rfl : kdM 0 = 9) dX9_go_182 ?_
        obtain ⟨S8, e9, hF⟩ := bv_of hF
        rw [← e9]
        refine z_aload_n 0 (pc := 185) C dX9_go_185 rfl rfl ?_
        refine z_dup (pc := 186) C dX9_go_186 rfl ?_
        refine gfX9_166 (pc := 187) C (rfl : kdM 0 = 9) dX9_go_187 ?_
        refine z_aload_n 0 (pc := 190) C dX9_go_190 rfl rfl ?_
        refine gfX9_169 (pc := 191) C (rfl : kdM 0 = 9) dX9_go_191 ?_
        obtain ⟨v10', hR, hF⟩ := bn1_of hF
        have hJ13 : ∀ (v10 : Int32), (some v10 : Option (Int32)) = some v10' → Zz E (WM E a S8) 0 0 213 [] [.int v10, .int (gi S8 0 34), .ref (a 0)] := by
          intro v10 hE
          have hE0 := Option.some.inj hE
          subst hE0
          refine z_iadd (pc := 213) C dX9_go_213 ?_
          refine pfX9_166 (pc := 214) C (rfl : kdM 0 = 9) dX9_go_214 ?_
          obtain ⟨S11, e12, hF⟩ := bv_of hF
          rw [← e12]
          exact z_vret (pc := 217) C hQ hr dX9_go_217 (by cases hF; rfl) (by cases hF; rfl) (Nat.le_of_ble_eq_true rfl) (Nat.le_of_ble_eq_true rfl)
        have hF := hR
        clear hR
        refine z_if_eq 212 (pc := 194) C dX9_go_194 (by decide) (fun c14 => ?_) (fun c14 => ?_)
        · have hF := if_t hF c14
          refine z_iconst (pc := 212) (v := (0 : Int32)) C dX9_go_212 (by decide) ?_
          refine z_sub [] rfl ?_
          exact hJ13 _ hF
        · have hF := if_f hF c14
          refine z_aload_n 0 (pc := 197) C dX9_go_197 rfl rfl ?_
          refine gfX9_19 (pc := 198) C (rfl : kdM 0 = 9) dX9_go_198 ?_
          refine z_bipush (pc := 201) (v := (6 : Int32)) C dX9_go_201 (by decide) ?_
          refine z_iload_n 1 (pc := 203) C dX9_go_203 rfl rfl ?_
          refine z_imul (pc := 204) C dX9_go_204 ?_
          refine z_iload 2 (pc := 205) C dX9_go_205 rfl ?_
          refine z_iadd (pc := 207) C dX9_go_207 ?_
          obtain ⟨g15, hF⟩ := gd_of hF
          refine iaM48 (pc := 208) C (rfl : kdM 4 = 68) g15 dX9_go_208 ?_
          refine z_goto 213 (pc := 209) C dX9_go_209 (by decide) ?_
          refine z_sub [] rfl ?_
          exact hJ13 _ hF
      have hF := hR
      clear hR
      refine z_if_le 133 (pc := 38) C dX9_go_38 (by decide) (fun c17 => ?_) (fun c17 => ?_)
      · have hF := if_t hF c17
        refine z_sub [1, 2, 6] rfl ?_
        exact hJ16 _ hF
      · have hF := if_f hF c17
        refine z_iload_n 3 (pc := 41) C dX9_go_41 rfl rfl ?_
        refine z_iload 0 (pc := 42) C dX9_go_42 rfl ?_
        refine z_ishr (pc := 44) C dX9_go_44 ?_
        refine z_iconst (pc := 45) (v := (1 : Int32)) C dX9_go_45 (by decide) ?_
        refine z_iand (pc := 46) C dX9_go_46 ?_
        refine z_iconst (pc := 47) (v := (1 : Int32)) C dX9_go_47 (by decide) ?_
        refine z_icmp_ne 133 (pc := 48) C dX9_go_48 (by decide) (fun c18 => ?_) (fun c18 => ?_)
        · have hF := if_f hF c18
          refine z_sub [1, 2, 6] rfl ?_
          exact hJ16 _ hF
        · have hF := if_t hF c18
          refine z_aload_n 1 (pc := 51) C dX9_go_51 rfl rfl ?_
          refine gfX9_22 (pc := 52) C (rfl : kdM 0 = 9) dX9_go_52 ?_
          refine z_bipush (pc := 55) (v := (6 : Int32)) C dX9_go_55 (by decide) ?_
          refine z_iload_n 2 (pc := 57) C dX9_go_57 rfl rfl ?_
          refine z_imul (pc := 58) C dX9_go_58 ?_
          refine z_iload 0 (pc := 59) C dX9_go_59 rfl ?_
          refine z_iadd (pc := 61) C dX9_go_61 ?_
          obtain ⟨g19, hF⟩ := gd_of hF
          refine iaM48 (pc := 62) C (rfl : kdM 5 = 68) g19 dX9_go_62 ?_
          refine z_aload_n 1 (pc := 63) C dX9_go_63 rfl rfl ?_
          refine gfX9_22 (pc := 64) C (rfl : kdM 0 = 9) dX9_go_64 ?_
          refine z_bipush (pc := 67) (v := (6 : Int32)) C dX9_go_67 (by decide) ?_
          refine z_iload_n 2 (pc := 69) C dX9_go_69 rfl rfl ?_
          refine z_imul (pc := 70) C dX9_go_70 ?_
          refine z_iload_n 4 (pc := 71) C dX9_go_71 rfl rfl ?_
          refine z_iadd (pc := 72) C dX9_go_72 ?_
          obtain ⟨g20, hF⟩ := gd_of hF
          refine iaM48 (pc := 73) C (rfl : kdM 5 = 68) g20 dX9_go_73 ?_
          obtain ⟨v21', hR, hF⟩ := bn1_of hF
          have hJ36 : ∀ (v21 : Int32), (some v21 : Option (Int32)) = some v21' → Zz E (WM E a S) 0 0 82 [(0, .ref (a 0)), (1, .int p1), (6, .int v1)] [.int v21] := by
            intro v21 hE
            have hE0 := Option.some.inj hE
            subst hE0
            refine z_istore (pc := 82) (loc' := [(8, .int v21), (0, .ref (a 0)), (1, .int p1), (6, .int v1)]) C dX9_go_82 (by decide) rfl ?_
            refine z_aload_n 1 (pc := 84) C dX9_go_84 rfl rfl ?_
            refine gfX9_160 (pc := 85) C (rfl : kdM 0 = 9) dX9_go_85 ?_
            obtain ⟨v22, e23, hF⟩ := bv_of hF
            refine z_topi e23 ?_
            refine z_istore (pc := 88) (loc' := [(9, .int v22), (8, .int v21), (0, .ref (a 0)), (1, .int p1), (6, .int v1)]) C dX9_go_88 (by decide) rfl ?_
            refine z_aload_n 2 (pc := 90) C dX9_go_90 rfl rfl ?_
            refine z_iload 1 (pc := 91) C dX9_go_91 rfl ?_
            obtain ⟨v24', hR, hF⟩ := bn1_of hF
            have hJ34 : ∀ (v24 : Int32), (some v24 : Option (Int32)) = some v24' → Zz E (WM E a S) 0 0 108 [(0, .ref (a 0)), (1, .int p1), (6, .int v1), (8, .int v21), (9, .int v22)] [.int v24, .ref (a 0)] := by
              intro v24 hE
              have hE0 := Option.some.inj hE
              subst hE0
              refine pfX9_160 (pc := 108) C (rfl : kdM 0 = 9) dX9_go_108 ?_
              obtain ⟨S25, e26, hF⟩ := bv_of hF
              rw [← e26]
              refine z_aload_n 0 (pc := 111) C dX9_go_111 rfl rfl ?_
              refine z_iload 3 (pc := 112) C dX9_go_112 rfl ?_
              obtain ⟨v27', hR, hF⟩ := bn1_of hF
              have hJ32 : ∀ (v27 : Int32), (some v27 : Option (Int32)) = some v27' → Zz E (WM E a S25) 0 0 125 [(0, .ref (a 0)), (1, .int p1), (6, .int v1)] [.int v27, .ref (a 0)] := by
                intro v27 hE
                have hE0 := Option.some.inj hE
                subst hE0
                refine pfX9_163 (pc := 125) C (rfl : kdM 0 = 9) dX9_go_125 ?_
                obtain ⟨S28, e29, hF⟩ := bv_of hF
                rw [← e29]
                refine z_aload_n 0 (pc := 128) C dX9_go_128 rfl rfl ?_
                refine z_iconst (pc := 129) (v := (0 : Int32)) C dX9_go_129 (by decide) ?_
                refine pfX9_169 (pc := 130) C (rfl : kdM 0 = 9) rfl rfl dX9_go_130 ?_
                obtain ⟨S30, e31, hF⟩ := bv_of hF
                rw [← e31]
                exact hJ16 _ hF
              have hF := hR
              clear hR
              refine z_if_eq 122 (pc := 114) C dX9_go_114 (by decide) (fun c33 => ?_) (fun c33 => ?_)
              · have hF := if_t hF c33
                refine z_iload 4 (pc := 122) C dX9_go_122 rfl ?_
                refine z_ineg (pc := 124) C dX9_go_124 ?_
                refine z_sub [0, 1, 2] rfl ?_
                exact hJ32 _ hF
              · have hF := if_f hF c33
                refine z_iload 4 (pc := 117) C dX9_go_117 rfl ?_
                refine z_goto 125 (pc := 119) C dX9_go_119 (by decide) ?_
                refine z_sub [0, 1, 2] rfl ?_
                exact hJ32 _ hF
            have hF := hR
            clear hR
            refine z_if_eq 104 (pc := 93) C dX9_go_93 (by decide) (fun c35 => ?_) (fun c35 => ?_)
            · have hF := if_t hF c35
              refine z_aload_n 2 (pc := 104) C dX9_go_104 rfl rfl ?_
              refine gfX9_163 (pc := 105) C (rfl : kdM 0 = 9) dX9_go_105 ?_
              refine z_sub [2, 3, 4, 1, 0] rfl ?_
              exact hJ34 _ hF
            · have hF := if_f hF c35
              refine z_aload_n 2 (pc := 96) C dX9_go_96 rfl rfl ?_
              refine gfX9_163 (pc := 97) C (rfl : kdM 0 = 9) dX9_go_97 ?_
              refine z_ineg (pc := 100) C dX9_go_100 ?_
              refine z_goto 108 (pc := 101) C dX9_go_101 (by decide) ?_
              refine z_sub [2, 3, 4, 1, 0] rfl ?_
              exact hJ34 _ hF
          have hF := hR
          clear hR
          refine z_icmp_ne 81 (pc := 74) C dX9_go_74 (by decide) (fun c37 => ?_) (fun c37 => ?_)
          · have hF := if_f hF c37
            refine z_iconst (pc := 81) (v := (0 : Int32)) C dX9_go_81 (by decide) ?_
            refine z_sub [1, 2, 6] rfl ?_
            exact hJ36 _ hF
          · have hF := if_t hF c37
            refine z_iconst (pc := 77) (v := (1 : Int32)) C dX9_go_77 (by decide) ?_
            refine z_goto 82 (pc := 78) C dX9_go_78 (by decide) ?_
            refine z_sub [1, 2, 6] rfl ?_
            exact hJ36 _ hF
    have hF := hR
    clear hR
    refine z_if_le 32 (pc := 22) C dX9_go_22 (by decide) (fun c39 => ?_) (fun c39 => ?_)
    · have hF := if_t hF c39
      refine z_iload 0 (pc := 32) C dX9_go_32 rfl ?_
      refine z_sub [1, 2, 3, 4, 6, 0] rfl ?_
      exact hJ38 _ hF
    · have hF := if_f hF c39
      refine z_iload 0 (pc := 25) C dX9_go_25 rfl ?_
      refine z_iconst (pc := 27) (v := (1 : Int32)) C dX9_go_27 (by decide) ?_
      refine z_isub (pc := 28) C dX9_go_28 ?_
      refine z_goto 34 (pc := 29) C dX9_go_29 (by decide) ?_
      refine z_sub [1, 2, 3, 4, 6, 0] rfl ?_
      exact hJ38 _ hF
  have hF := hR
  clear hR
  refine z_if_le 14 (pc := 2) C dX9_go_2 (by decide) (fun c41 => ?_) (fun c41 => ?_)
  · have hF := if_t hF c41
    refine z_iload_n 3 (pc := 14) C dX9_go_14 rfl rfl ?_
    refine z_iload 5 (pc := 15) C dX9_go_15 rfl ?_
    refine z_isub (pc := 17) C dX9_go_17 ?_
    exact hJ40 _ hF
  · have hF := if_f hF c41
    refine z_iload_n 3 (pc := 5) C dX9_go_5 rfl rfl ?_
    refine z_iconst (pc := 6) (v := (1 : Int32)) C dX9_go_6 (by decide) ?_
    refine z_iadd (pc := 7) C dX9_go_7 ?_
    refine z_iload 5 (pc := 8) C dX9_go_8 rfl ?_
    refine z_iadd (pc := 10) C dX9_go_10 ?_
    refine z_goto 18 (pc := 11) C dX9_go_11 (by decide) ?_
    exact hJ40 _ hF
def fX9_goesWell (S : St) (p1 : Int32) : Option ((Int32 × St)) :=
  bv (si S 0 0 p1) (fun (S1 : St) =>
  if p1 = 0 then (
    some ((1 : Int32), S1))
  else (
    some ((0 : Int32), S1)))
abbrev rmX9_goesWell : Room := { frames := 6, cells := 0, slots := 0, locals := 90 }
set_option maxRecDepth 100000 in
set_option maxHeartbeats 4000000 in
theorem mX9_goesWell {l : Launch} {D : va_G} {cs : Nat → ClassId} {a : Nat → Nat} (hT : l.stackTraces = false) {S : St} {p1 : Int32} {r : Int32} {S' : St} (hF : fX9_goesWell S p1 = some (r, S')) : MX l 33 GM D cs a yX9_goesWell cX9_goesWell 2 (some .boolean) rmX9_goesWell [.ref (a 0), .int p1] S (.inr (some (.int r))) S' := by
  refine zm_entry [(0, .ref (a 0)), (1, .int p1)] hT (by decide +kernel) (Nat.le_of_ble_eq_true rfl) rfl (fun E hEl hED hEk C hQ hr => ?_)
  subst hEl
  subst hED
  subst hEk
  unfold fX9_goesWell at hF
  refine z_aload_n 0 (pc := 0) C dX9_goesWell_0 rfl rfl ?_
  refine z_iload_n 1 (pc := 1) C dX9_goesWell_1 rfl rfl ?_
  refine pfX9_106 (pc := 2) C (rfl : kdM 0 = 9) dX9_goesWell_2 ?_
  obtain ⟨S1, e2, hF⟩ := bv_of hF
  rw [← e2]
  refine z_iload_n 1 (pc := 5) C dX9_goesWell_5 rfl rfl ?_
  refine z_if_ne 13 (pc := 6) C dX9_goesWell_6 (by decide) (fun c3 => ?_) (fun c3 => ?_)
  · have hF := if_f hF c3
    refine z_iconst (pc := 13) (v := (0 : Int32)) C dX9_goesWell_13 (by decide) ?_
    exact z_iret (pc := 14) C hQ hr rfl dX9_goesWell_14 (by cases hF; rfl) (by cases hF; rfl) (Nat.le_of_ble_eq_true rfl) (Nat.le_of_ble_eq_true rfl)
  · have hF := if_t hF c3
    refine z_iconst (pc := 9) (v := (1 : Int32)) C dX9_goesWell_9 (by decide) ?_
    refine z_goto 14 (pc := 10) C dX9_goesWell_10 (by decide) ?_
    exact z_iret (pc := 14) C hQ hr rfl dX9_goesWell_14 (by cases hF; rfl) (by cases hF; rfl) (Nat.le_of_ble_eq_true rfl) (Nat.le_of_ble_eq_true rfl)
def fX9_in (p1 : Int32) (p2 : Int32) (p3 : Int32) : Option (Int32) :=
  if p1 < p2 then (
    some ((0 : Int32)))
  else (
    if p3 < p1 then (
      some ((0 : Int32)))
    else (
      some ((1 : Int32))))
abbrev rmX9_in : Room := { frames := 6, cells := 0, slots := 0, locals := 90 }
set_option maxRecDepth 100000 in
set_option maxHeartbeats 4000000 in
theorem mX9_in {l : Launch} {D : va_G} {cs : Nat → ClassId} {a : Nat → Nat} (hT : l.stackTraces = false) {S : St} {p1 : Int32} {p2 : Int32} {p3 : Int32} {r : Int32} (hF : fX9_in p1 p2 p3 = some r) : MX l 33 GM D cs a yX9_in cX9_in 3 (some .boolean) rmX9_in [.int p1, .int p2, .int p3] S (.inr (some (.int r))) S := by
  refine zm_entry [(0, .int p1), (1, .int p2), (2, .int p3)] hT (by decide +kernel) (Nat.le_of_ble_eq_true rfl) rfl (fun E hEl hED hEk C hQ hr => ?_)
  subst hEl
  subst hED
  subst hEk
  unfold fX9_in at hF
  refine z_iload_n 0 (pc := 0) C dX9_in_0 rfl rfl ?_
  refine z_iload_n 1 (pc := 1) C dX9_in_1 rfl rfl ?_
  refine z_icmp_lt 14 (pc := 2) C dX9_in_2 (by decide) (fun c1 => ?_) (fun c1 => ?_)
  · have hF := if_t hF c1
    refine z_iconst (pc := 14) (v := (0 : Int32)) C dX9_in_14 (by decide) ?_
    exact z_iret (pc := 15) C hQ hr rfl dX9_in_15 (by cases hF; rfl) (by cases hF; rfl) (Nat.le_of_ble_eq_true rfl) (Nat.le_of_ble_eq_true rfl)
  · have hF := if_f hF c1
    refine z_iload_n 0 (pc := 5) C dX9_in_5 rfl rfl ?_
    refine z_iload_n 2 (pc := 6) C dX9_in_6 rfl rfl ?_
    refine z_icmp_gt 14 (pc := 7) C dX9_in_7 (by decide) (fun c2 => ?_) (fun c2 => ?_)
    · have hF := if_t hF c2
      refine z_iconst (pc := 14) (v := (0 : Int32)) C dX9_in_14 (by decide) ?_
      exact z_iret (pc := 15) C hQ hr rfl dX9_in_15 (by cases hF; rfl) (by cases hF; rfl) (Nat.le_of_ble_eq_true rfl) (Nat.le_of_ble_eq_true rfl)
    · have hF := if_f hF c2
      refine z_iconst (pc := 10) (v := (1 : Int32)) C dX9_in_10 (by decide) ?_
      refine z_goto 15 (pc := 11) C dX9_in_11 (by decide) ?_
      exact z_iret (pc := 15) C hQ hr rfl dX9_in_15 (by cases hF; rfl) (by cases hF; rfl) (Nat.le_of_ble_eq_true rfl) (Nat.le_of_ble_eq_true rfl)
def fX9_isClose (S : St) (p1 : Int32) (p2 : Int32) : Option (Int32) :=
  gd (inb (((6 : Int32) * p1) + p2) 48) (
  bv ((gi S 10 (((6 : Int32) * p1) + p2).toNatClampNeg)) (fun (v2 : Int32) =>
  gd (inb (((6 : Int32) * p1) + p2) 48) (
  bv ((gi S 11 (((6 : Int32) * p1) + p2).toNatClampNeg)) (fun (v5 : Int32) =>
  gd (inb p1 8) (
  gd (inb (((6 : Int32) * p1) + p2) 48) (
  bv ((((2 : Int32) * (gi S 7 p1.toNatClampNeg)) + ((gi S 12 (((6 : Int32) * p1) + p2).toNatClampNeg) / (2 : Int32)))) (fun (v9 : Int32) =>
  jn0 (
    some ((1 : Int32))) (fun J11 =>
    jn0 (
      gd (inb p1 8) (
      if (gi S 3 p1.toNatClampNeg) ≤ (v2 + (1 : Int32)) then (
        some ((0 : Int32)))
      else (
        gd (inb (((6 : Int32) * p1) + v2) 48) (
        if v9 ≤ ((gi S 4 (((6 : Int32) * p1) + v2).toNatClampNeg) - v5) then (
          some ((0 : Int32)))
        else (
          J11))))) (fun J16 =>
      if v2 ≤ 0 then (
        J16)
      else (
        if v5 < v9 then (
          J11)
        else (
          J16)))))))))))
abbrev rmX9_isClose : Room := { frames := 6, cells := 0, slots := 0, locals := 90 }
set_option maxRecDepth 100000 in
set_option maxHeartbeats 4000000 in
theorem mX9_isClose {l : Launch} {D : va_G} {cs : Nat → ClassId} {a : Nat → Nat} (hT : l.stackTraces = false) {S : St} {p1 : Int32} {p2 : Int32} {r : Int32} (hF : fX9_isClose S p1 p2 = some r) : MX l 33 GM D cs a yX9_isClose cX9_isClose 6 (some .boolean) rmX9_isClose [.ref (a 0), .int p1, .int p2] S (.inr (some (.int r))) S := by
  refine zm_entry [(0, .ref (a 0)), (1, .int p1), (2, .int p2)] hT (by decide +kernel) (Nat.le_of_ble_eq_true rfl) rfl (fun E hEl hED hEk C hQ hr => ?_)
  subst hEl
  subst hED
  subst hEk
  unfold fX9_isClose at hF
  refine z_aload_n 0 (pc := 0) C dX9_isClose_0 rfl rfl ?_
  refine gfX9_37 (pc := 1) C (rfl : kdM 0 = 9) dX9_isClose_1 ?_
  refine z_bipush (pc := 4) (v := (6 : Int32)) C dX9_isClose_4 (by decide) ?_
  refine z_iload_n 1 (pc := 6) C dX9_isClose_6 rfl rfl ?_
  refine z_imul (pc := 7) C dX9_isClose_7 ?_
  refine z_iload_n 2 (pc := 8) C dX9_isClose_8 rfl rfl ?_
  refine z_iadd (pc := 9) C dX9_isClose_9 ?_
  obtain ⟨g1, hF⟩ := gd_of hF
  refine iaM48 (pc := 10) C (rfl : kdM 10 = 68) g1 dX9_isClose_10 ?_
  obtain ⟨v2, e3, hF⟩ := bv_of hF
  refine z_topi e3 ?_
  refine z_istore_n (pc := 11) (loc' := [(3, .int v2), (0, .ref (a 0)), (1, .int p1), (2, .int p2)]) C dX9_isClose_11 rfl (by decide) rfl ?_
  refine z_aload_n 1 (pc := 12) C dX9_isClose_12 rfl rfl ?_
  refine gfX9_40 (pc := 13) C (rfl : kdM 0 = 9) dX9_isClose_13 ?_
  refine z_bipush (pc := 16) (v := (6 : Int32)) C dX9_isClose_16 (by decide) ?_
  refine z_iload_n 2 (pc := 18) C dX9_isClose_18 rfl rfl ?_
  refine z_imul (pc := 19) C dX9_isClose_19 ?_
  refine z_iload_n 3 (pc := 20) C dX9_isClose_20 rfl rfl ?_
  refine z_iadd (pc := 21) C dX9_isClose_21 ?_
  obtain ⟨g4, hF⟩ := gd_of hF
  refine iaM48 (pc := 22) C (rfl : kdM 11 = 68) g4 dX9_isClose_22 ?_
  obtain ⟨v5, e6, hF⟩ := bv_of hF
  refine z_topi e6 ?_
  refine z_istore (pc := 23) (loc' := [(4, .int v5), (3, .int v2), (0, .ref (a 0)), (1, .int p1), (2, .int p2)]) C dX9_isClose_23 (by decide) rfl ?_
  refine z_iconst (pc := 25) (v := (2 : Int32)) C dX9_isClose_25 (by decide) ?_
  refine z_aload_n 2 (pc := 26) C dX9_isClose_26 rfl rfl ?_
  refine gfX9_28 (pc := 27) C (rfl : kdM 0 = 9) dX9_isClose_27 ?_
  refine z_iload_n 3 (pc := 30) C dX9_isClose_30 rfl rfl ?_
  obtain ⟨g7, hF⟩ := gd_of hF
  refine iaM8 (pc := 31) C (rfl : kdM 7 = 28) g7 dX9_isClose_31 ?_
  refine z_imul (pc := 32) C dX9_isClose_32 ?_
  refine z_aload_n 2 (pc := 33) C dX9_isClose_33 rfl rfl ?_
  refine gfX9_43 (pc := 34) C (rfl : kdM 0 = 9) dX9_isClose_34 ?_
  refine z_bipush (pc := 37) (v := (6 : Int32)) C dX9_isClose_37 (by decide) ?_
  refine z_iload_n 3 (pc := 39) C dX9_isClose_39 rfl rfl ?_
  refine z_imul (pc := 40) C dX9_isClose_40 ?_
  refine z_iload_n 4 (pc := 41) C dX9_isClose_41 rfl rfl ?_
  refine z_iadd (pc := 42) C dX9_isClose_42 ?_
  obtain ⟨g8, hF⟩ := gd_of hF
  refine iaM48 (pc := 43) C (rfl : kdM 12 = 68) g8 dX9_isClose_43 ?_
  refine z_iconst (pc := 44) (v := (2 : Int32)) C dX9_isClose_44 (by decide) ?_
  refine z_idiv (pc := 45) C dX9_isClose_45 (by decide) ?_
  refine z_iadd (pc := 46) C dX9_isClose_46 ?_
  obtain ⟨v9, e10, hF⟩ := bv_of hF
  refine z_topi e10 ?_
  refine z_istore (pc := 47) (loc' := [(5, .int v9), (4, .int v5), (3, .int v2), (0, .ref (a 0)), (1, .int p1), (2, .int p2)]) C dX9_isClose_47 (by decide) rfl ?_
  refine z_iload_n 2 (pc := 49) C dX9_isClose_49 rfl rfl ?_
  obtain ⟨J11, hdJ11, hF⟩ := jn0_of hF
  have hJ11 : J11 = some r → Zz E (WM E a S) 0 0 91 [] [] := by
    intro hF
    have hF := hdJ11.symm.trans hF
    refine z_iconst (pc := 91) (v := (1 : Int32)) C dX9_isClose_91 (by decide) ?_
    refine z_goto 96 (pc := 92) C dX9_isClose_92 (by decide) ?_
    exact z_iret (pc := 96) C hQ hr rfl dX9_isClose_96 (by cases hF; rfl) (by cases hF; rfl) (Nat.le_of_ble_eq_true rfl) (Nat.le_of_ble_eq_true rfl)
  obtain ⟨J16, hdJ16, hF⟩ := jn0_of hF
  have hJ16 : J16 = some r → Zz E (WM E a S) 0 0 60 [(0, .ref (a 0)), (1, .int p1), (3, .int v2), (4, .int v5), (5, .int v9)] [] := by
    intro hF
    have hF := hdJ16.symm.trans hF
    refine z_iload_n 2 (pc := 60) C dX9_isClose_60 rfl rfl ?_
    refine z_iconst (pc := 61) (v := (1 : Int32)) C dX9_isClose_61 (by decide) ?_
    refine z_iadd (pc := 62) C dX9_isClose_62 ?_
    refine z_aload_n 0 (pc := 63) C dX9_isClose_63 rfl rfl ?_
    refine gfX9_16 (pc := 64) C (rfl : kdM 0 = 9) dX9_isClose_64 ?_
    refine z_iload_n 1 (pc := 67) C dX9_isClose_67 rfl rfl ?_
    obtain ⟨g12, hF⟩ := gd_of hF
    refine iaM8 (pc := 68) C (rfl : kdM 3 = 28) g12 dX9_isClose_68 ?_
    refine z_icmp_ge 95 (pc := 69) C dX9_isClose_69 (by decide) (fun c13 => ?_) (fun c13 => ?_)
    · have hF := if_t hF c13
      refine z_iconst (pc := 95) (v := (0 : Int32)) C dX9_isClose_95 (by decide) ?_
      exact z_iret (pc := 96) C hQ hr rfl dX9_isClose_96 (by cases hF; rfl) (by cases hF; rfl) (Nat.le_of_ble_eq_true rfl) (Nat.le_of_ble_eq_true rfl)
    · have hF := if_f hF c13
      refine z_aload_n 0 (pc := 72) C dX9_isClose_72 rfl rfl ?_
      refine gfX9_19 (pc := 73) C (rfl : kdM 0 = 9) dX9_isClose_73 ?_
      refine z_bipush (pc := 76) (v := (6 : Int32)) C dX9_isClose_76 (by decide) ?_
      refine z_iload_n 1 (pc := 78) C dX9_isClose_78 rfl rfl ?_
      refine z_imul (pc := 79) C dX9_isClose_79 ?_
      refine z_iload_n 2 (pc := 80) C dX9_isClose_80 rfl rfl ?_
      refine z_iadd (pc := 81) C dX9_isClose_81 ?_
      obtain ⟨g14, hF⟩ := gd_of hF
      refine iaM48 (pc := 82) C (rfl : kdM 4 = 68) g14 dX9_isClose_82 ?_
      refine z_iload 3 (pc := 83) C dX9_isClose_83 rfl ?_
      refine z_isub (pc := 85) C dX9_isClose_85 ?_
      refine z_iload 4 (pc := 86) C dX9_isClose_86 rfl ?_
      refine z_icmp_ge 95 (pc := 88) C dX9_isClose_88 (by decide) (fun c15 => ?_) (fun c15 => ?_)
      · have hF := if_t hF c15
        refine z_iconst (pc := 95) (v := (0 : Int32)) C dX9_isClose_95 (by decide) ?_
        exact z_iret (pc := 96) C hQ hr rfl dX9_isClose_96 (by cases hF; rfl) (by cases hF; rfl) (Nat.le_of_ble_eq_true rfl) (Nat.le_of_ble_eq_true rfl)
      · have hF := if_f hF c15
        refine z_sub [] rfl ?_
        exact hJ11 hF
  refine z_if_le 60 (pc := 50) C dX9_isClose_50 (by decide) (fun c17 => ?_) (fun c17 => ?_)
  · have hF := if_t hF c17
    refine z_sub [3, 4, 2, 1, 0] rfl ?_
    exact hJ16 hF
  · have hF := if_f hF c17
    refine z_iload 1 (pc := 53) C dX9_isClose_53 rfl ?_
    refine z_iload 0 (pc := 55) C dX9_isClose_55 rfl ?_
    refine z_icmp_lt 91 (pc := 57) C dX9_isClose_57 (by decide) (fun c18 => ?_) (fun c18 => ?_)
    · have hF := if_t hF c18
      refine z_sub [] rfl ?_
      exact hJ11 hF
    · have hF := if_f hF c18
      refine z_sub [3, 4, 2, 1, 0] rfl ?_
      exact hJ16 hF
def fX9_isDone (S : St) (p1 : Int32) (p2 : Int32) (p3 : Int32) : Option (Int32) :=
  if p2 < 0 then (
    some ((0 : Int32)))
  else (
    gd (inb p1 8) (
    if ((1 : Int32) <<< (((gi S 3 p1.toNatClampNeg) - (1 : Int32)) &&& 31)) ≤ p2 then (
      some ((0 : Int32)))
    else (
      if ((p2 >>> (p3 &&& 31)) &&& (1 : Int32)) = 0 then (
        some ((1 : Int32)))
      else (
        some ((0 : Int32))))))
abbrev rmX9_isDone : Room := { frames := 6, cells := 0, slots := 0, locals := 90 }
set_option maxRecDepth 100000 in
set_option maxHeartbeats 4000000 in
theorem mX9_isDone {l : Launch} {D : va_G} {cs : Nat → ClassId} {a : Nat → Nat} (hT : l.stackTraces = false) {S : St} {p1 : Int32} {p2 : Int32} {p3 : Int32} {r : Int32} (hF : fX9_isDone S p1 p2 p3 = some r) : MX l 33 GM D cs a yX9_isDone cX9_isDone 4 (some .boolean) rmX9_isDone [.ref (a 0), .int p1, .int p2, .int p3] S (.inr (some (.int r))) S := by
  refine zm_entry [(0, .ref (a 0)), (1, .int p1), (2, .int p2), (3, .int p3)] hT (by decide +kernel) (Nat.le_of_ble_eq_true rfl) rfl (fun E hEl hED hEk C hQ hr => ?_)
  subst hEl
  subst hED
  subst hEk
  unfold fX9_isDone at hF
  refine z_iload_n 2 (pc := 0) C dX9_isDone_0 rfl rfl ?_
  refine z_if_lt 30 (pc := 1) C dX9_isDone_1 (by decide) (fun c1 => ?_) (fun c1 => ?_)
  · have hF := if_t hF c1
    refine z_iconst (pc := 30) (v := (0 : Int32)) C dX9_isDone_30 (by decide) ?_
    exact z_iret (pc := 31) C hQ hr rfl dX9_isDone_31 (by cases hF; rfl) (by cases hF; rfl) (Nat.le_of_ble_eq_true rfl) (Nat.le_of_ble_eq_true rfl)
  · have hF := if_f hF c1
    refine z_iload_n 2 (pc := 4) C dX9_isDone_4 rfl rfl ?_
    refine z_iconst (pc := 5) (v := (1 : Int32)) C dX9_isDone_5 (by decide) ?_
    refine z_aload_n 0 (pc := 6) C dX9_isDone_6 rfl rfl ?_
    refine gfX9_16 (pc := 7) C (rfl : kdM 0 = 9) dX9_isDone_7 ?_
    refine z_iload_n 1 (pc := 10) C dX9_isDone_10 rfl rfl ?_
    obtain ⟨g2, hF⟩ := gd_of hF
    refine iaM8 (pc := 11) C (rfl : kdM 3 = 28) g2 dX9_isDone_11 ?_
    refine z_iconst (pc := 12) (v := (1 : Int32)) C dX9_isDone_12 (by decide) ?_
    refine z_isub (pc := 13) C dX9_isDone_13 ?_
    refine z_ishl (pc := 14) C dX9_isDone_14 ?_
    refine z_icmp_ge 30 (pc := 15) C dX9_isDone_15 (by decide) (fun c3 => ?_) (fun c3 => ?_)
    · have hF := if_t hF c3
      refine z_iconst (pc := 30) (v := (0 : Int32)) C dX9_isDone_30 (by decide) ?_
      exact z_iret (pc := 31) C hQ hr rfl dX9_isDone_31 (by cases hF; rfl) (by cases hF; rfl) (Nat.le_of_ble_eq_true rfl) (Nat.le_of_ble_eq_true rfl)
    · have hF := if_f hF c3
      refine z_iload_n 2 (pc := 18) C dX9_isDone_18 rfl rfl ?_
      refine z_iload_n 3 (pc := 19) C dX9_isDone_19 rfl rfl ?_
      refine z_ishr (pc := 20) C dX9_isDone_20 ?_
      refine z_iconst (pc := 21) (v := (1 : Int32)) C dX9_isDone_21 (by decide) ?_
      refine z_iand (pc := 22) C dX9_isDone_22 ?_
      refine z_if_ne 30 (pc := 23) C dX9_isDone_23 (by decide) (fun c4 => ?_) (fun c4 => ?_)
      · have hF := if_f hF c4
        refine z_iconst (pc := 30) (v := (0 : Int32)) C dX9_isDone_30 (by decide) ?_
        exact z_iret (pc := 31) C hQ hr rfl dX9_isDone_31 (by cases hF; rfl) (by cases hF; rfl) (Nat.le_of_ble_eq_true rfl) (Nat.le_of_ble_eq_true rfl)
      · have hF := if_t hF c4
        refine z_iconst (pc := 26) (v := (1 : Int32)) C dX9_isDone_26 (by decide) ?_
        refine z_goto 31 (pc := 27) C dX9_isDone_27 (by decide) ?_
        exact z_iret (pc := 31) C hQ hr rfl dX9_isDone_31 (by cases hF; rfl) (by cases hF; rfl) (Nat.le_of_ble_eq_true rfl) (Nat.le_of_ble_eq_true rfl)
def fX9_isKit (S : St) (p1 : Int32) : Option (Int32) :=
  if p1 ≤ 0 then (
    some ((0 : Int32)))
  else (
    if ((1 : Int32) <<< ((gi S 0 4) &&& 31)) ≤ p1 then (
      some ((0 : Int32)))
    else (
      some ((1 : Int32))))
abbrev rmX9_isKit : Room := { frames := 6, cells := 0, slots := 0, locals := 90 }
set_option maxRecDepth 100000 in
set_option maxHeartbeats 4000000 in
theorem mX9_isKit {l : Launch} {D : va_G} {cs : Nat → ClassId} {a : Nat → Nat} (hT : l.stackTraces = false) {S : St} {p1 : Int32} {r : Int32} (hF : fX9_isKit S p1 = some r) : MX l 33 GM D cs a yX9_isKit cX9_isKit 2 (some .boolean) rmX9_isKit [.ref (a 0), .int p1] S (.inr (some (.int r))) S := by
  refine zm_entry [(0, .ref (a 0)), (1, .int p1)] hT (by decide +kernel) (Nat.le_of_ble_eq_true rfl) rfl (fun E hEl hED hEk C hQ hr => ?_)
  subst hEl
  subst hED
  subst hEk
  unfold fX9_isKit at hF
  refine z_iload_n 1 (pc := 0) C dX9_isKit_0 rfl rfl ?_
  refine z_if_le 18 (pc := 1) C dX9_isKit_1 (by decide) (fun c1 => ?_) (fun c1 => ?_)
  · have hF := if_t hF c1
    refine z_iconst (pc := 18) (v := (0 : Int32)) C dX9_isKit_18 (by decide) ?_
    exact z_iret (pc := 19) C hQ hr rfl dX9_isKit_19 (by cases hF; rfl) (by cases hF; rfl) (Nat.le_of_ble_eq_true rfl) (Nat.le_of_ble_eq_true rfl)
  · have hF := if_f hF c1
    refine z_iload_n 1 (pc := 4) C dX9_isKit_4 rfl rfl ?_
    refine z_iconst (pc := 5) (v := (1 : Int32)) C dX9_isKit_5 (by decide) ?_
    refine z_aload_n 0 (pc := 6) C dX9_isKit_6 rfl rfl ?_
    refine gfX9_110 (pc := 7) C (rfl : kdM 0 = 9) dX9_isKit_7 ?_
    refine z_ishl (pc := 10) C dX9_isKit_10 ?_
    refine z_icmp_ge 18 (pc := 11) C dX9_isKit_11 (by decide) (fun c2 => ?_) (fun c2 => ?_)
    · have hF := if_t hF c2
      refine z_iconst (pc := 18) (v := (0 : Int32)) C dX9_isKit_18 (by decide) ?_
      exact z_iret (pc := 19) C hQ hr rfl dX9_isKit_19 (by cases hF; rfl) (by cases hF; rfl) (Nat.le_of_ble_eq_true rfl) (Nat.le_of_ble_eq_true rfl)
    · have hF := if_f hF c2
      refine z_iconst (pc := 14) (v := (1 : Int32)) C dX9_isKit_14 (by decide) ?_
      refine z_goto 19 (pc := 15) C dX9_isKit_15 (by decide) ?_
      exact z_iret (pc := 19) C hQ hr rfl dX9_isKit_19 (by cases hF; rfl) (by cases hF; rfl) (Nat.le_of_ble_eq_true rfl) (Nat.le_of_ble_eq_true rfl)
def fX9_isSame_L43 (S : St) (p1 : Int32) (next5 : Int32 → Int32 → Option (Int32)) (v3 : Int32) (v4 : Int32) : Option (Int32) :=
  if (gi S 0 1) ≤ v4 then (
    gd (isb v3) (some (v3)))
  else (
    if v3 = 0 then (
      gd (isb v3) (some (v3)))
    else (
      gd (inb (((6 : Int32) * p1) + v4) 48) (
      gd (inb v4 6) (
      bn1 (jn0 (
        some (0 : Int32)) (fun J14 =>
        if (gi S 4 (((6 : Int32) * p1) + v4).toNatClampNeg) = (gi S 1 v4.toNatClampNeg) then (
          jn0 (
            some (1 : Int32)) (fun J16 =>
            if (v4 + (1 : Int32)) = (gi S 0 1) then (
              J16)
            else (
              gd (inb (((6 : Int32) * p1) + v4) 48) (
              gd (inb v4 6) (
              if (gi S 5 (((6 : Int32) * p1) + v4).toNatClampNeg) = (gi S 2 v4.toNatClampNeg) then (
                J16)
              else (
                J14))))))
        else (
          J14))) (fun (v10 : Int32) =>
        bv (v4 + 1) (fun (v11 : Int32) =>
        next5 v10 v11))))))
def fX9_isSame (S : St) (p1 : Int32) (p2 : Int32) (p3 : Int32) : Option (Int32) :=
  gd (inb p1 8) (
  bn1 (jn0 (
    some (0 : Int32)) (fun J22 =>
    if (gi S 3 p1.toNatClampNeg) = (gi S 0 1) then (
      gd (inb p1 8) (
      if (gi S 6 p1.toNatClampNeg) = p2 then (
        gd (inb p1 8) (
        if (gi S 7 p1.toNatClampNeg) = p3 then (
          some (1 : Int32))
        else (
          J22)))
      else (
        J22)))
    else (
      J22))) (fun (v2 : Int32) =>
    lq2 (fX9_isSame_L43 S p1) 200 v2 (0 : Int32)))
abbrev rmX9_isSame : Room := { frames := 6, cells := 0, slots := 0, locals := 90 }
set_option maxRecDepth 100000 in
set_option maxHeartbeats 4000000 in
theorem mX9_isSame {l : Launch} {D : va_G} {cs : Nat → ClassId} {a : Nat → Nat} (hT : l.stackTraces = false) {S : St} {p1 : Int32} {p2 : Int32} {p3 : Int32} {r : Int32} (hF : fX9_isSame S p1 p2 p3 = some r) : MX l 33 GM D cs a yX9_isSame cX9_isSame 6 (some .boolean) rmX9_isSame [.ref (a 0), .int p1, .int p2, .int p3] S (.inr (some (.int r))) S := by
  refine zm_entry [(0, .ref (a 0)), (1, .int p1), (2, .int p2), (3, .int p3)] hT (by decide +kernel) (Nat.le_of_ble_eq_true rfl) rfl (fun E hEl hED hEk C hQ hr => ?_)
  subst hEl
  subst hED
  subst hEk
  unfold fX9_isSame at hF
  refine z_aload_n 0 (pc := 0) C dX9_isSame_0 rfl rfl ?_
  refine gfX9_16 (pc := 1) C (rfl : kdM 0 = 9) dX9_isSame_1 ?_
  refine z_iload_n 1 (pc := 4) C dX9_isSame_4 rfl rfl ?_
  obtain ⟨g1, hF⟩ := gd_of hF
  refine iaM8 (pc := 5) C (rfl : kdM 3 = 28) g1 dX9_isSame_5 ?_
  refine z_aload_n 0 (pc := 6) C dX9_isSame_6 rfl rfl ?_
  refine gfX9_123 (pc := 7) C (rfl : kdM 0 = 9) dX9_isSame_7 ?_
  obtain ⟨v2', hR, hF⟩ := bn1_of hF
  have hJ21 : ∀ (v2 : Int32), (some v2 : Option (Int32)) = some v2' → Zz E (WM E a S) 0 0 38 [(0, .ref (a 0)), (1, .int p1)] [.int v2] := by
    intro v2 hE
    have hE0 := Option.some.inj hE
    subst hE0
    refine z_istore (pc := 38) (loc' := [(4, .int v2), (0, .ref (a 0)), (1, .int p1)]) C dX9_isSame_38 (by decide) rfl ?_
    refine z_iconst (pc := 40) (v := (0 : Int32)) C dX9_isSame_40 (by decide) ?_
    refine z_istore (pc := 41) (loc' := [(5, .int (0 : Int32)), (4, .int v2), (0, .ref (a 0)), (1, .int p1)]) C dX9_isSame_41 (by decide) rfl ?_
    refine z_sub [2, 3, 1, 0] rfl ?_
    refine lq2_W (P := fun (v3 : Int32) (v4 : Int32) => Zz E (WM E a S) 0 0 43 [(0, .ref (a 0)), (1, .int p1), (4, .int v3), (5, .int v4)] []) (fun next5 hN5 v3 v4 hF => ?_) _ _ _ hF
    unfold fX9_isSame_L43 at hF
    refine z_iload 3 (pc := 43) C dX9_isSame_43 rfl ?_
    refine z_aload_n 0 (pc := 45) C dX9_isSame_45 rfl rfl ?_
    refine gfX9_123 (pc := 46) C (rfl : kdM 0 = 9) dX9_isSame_46 ?_
    refine z_icmp_ge 125 (pc := 49) C dX9_isSame_49 (by decide) (fun c6 => ?_) (fun c6 => ?_)
    · have hF := if_t hF c6
      refine z_iload 2 (pc := 125) C dX9_isSame_125 rfl ?_
      obtain ⟨hB, hF⟩ := gd_of hF
      exact z_iret (pc := 127) C hQ hr (isb_n hB) dX9_isSame_127 (by cases hF; rfl) (by cases hF; rfl) (Nat.le_of_ble_eq_true rfl) (Nat.le_of_ble_eq_true rfl)
    · have hF := if_f hF c6
      refine z_iload 2 (pc := 52) C dX9_isSame_52 rfl ?_
      refine z_if_eq 125 (pc := 54) C dX9_isSame_54 (by decide) (fun c7 => ?_) (fun c7 => ?_)
      · have hF := if_t hF c7
        refine z_iload 2 (pc := 125) C dX9_isSame_125 rfl ?_
        obtain ⟨hB, hF⟩ := gd_of hF
        exact z_iret (pc := 127) C hQ hr (isb_n hB) dX9_isSame_127 (by cases hF; rfl) (by cases hF; rfl) (Nat.le_of_ble_eq_true rfl) (Nat.le_of_ble_eq_true rfl)
      · have hF := if_f hF c7
        refine z_aload_n 0 (pc := 57) C dX9_isSame_57 rfl rfl ?_
        refine gfX9_19 (pc := 58) C (rfl : kdM 0 = 9) dX9_isSame_58 ?_
        refine z_bipush (pc := 61) (v := (6 : Int32)) C dX9_isSame_61 (by decide) ?_
        refine z_iload_n 1 (pc := 63) C dX9_isSame_63 rfl rfl ?_
        refine z_imul (pc := 64) C dX9_isSame_64 ?_
        refine z_iload 3 (pc := 65) C dX9_isSame_65 rfl ?_
        refine z_iadd (pc := 67) C dX9_isSame_67 ?_
        obtain ⟨g8, hF⟩ := gd_of hF
        refine iaM48 (pc := 68) C (rfl : kdM 4 = 68) g8 dX9_isSame_68 ?_
        refine z_aload_n 0 (pc := 69) C dX9_isSame_69 rfl rfl ?_
        refine gfX9_7 (pc := 70) C (rfl : kdM 0 = 9) dX9_isSame_70 ?_
        refine z_iload 3 (pc := 73) C dX9_isSame_73 rfl ?_
        obtain ⟨g9, hF⟩ := gd_of hF
        refine iaM6 (pc := 75) C (rfl : kdM 1 = 26) g9 dX9_isSame_75 ?_
        obtain ⟨v10', hR, hF⟩ := bn1_of hF
        have hJ13 : ∀ (v10 : Int32), (some v10 : Option (Int32)) = some v10' → Zz E (WM E a S) 0 0 117 [(0, .ref (a 0)), (1, .int p1), (5, .int v4)] [.int v10] := by
          intro v10 hE
          have hE0 := Option.some.inj hE
          subst hE0
          refine z_istore (pc := 117) (loc' := [(4, .int v10), (0, .ref (a 0)), (1, .int p1), (5, .int v4)]) C dX9_isSame_117 (by decide) rfl ?_
          obtain ⟨v11, e12, hF⟩ := bv_of hF
          refine z_iinc 3 (pc := 119) (v := v11) (loc' := [(5, .int v11), (4, .int v10), (0, .ref (a 0)), (1, .int p1)]) C dX9_isSame_119 rfl (by rw [e12]; rfl) (by decide) rfl ?_
          refine z_goto 43 (pc := 122) C dX9_isSame_122 (by decide) ?_
          refine z_sub [2, 3, 1, 0] rfl ?_
          exact hN5 _ _ hF
        have hF := hR
        clear hR
        obtain ⟨J14, hdJ14, hF⟩ := jn0_of hF
        have hJ14 : J14 = some v10' → Zz E (WM E a S) 0 0 116 [(0, .ref (a 0)), (1, .int p1), (5, .int v4)] [] := by
          intro hF
          have hF := hdJ14.symm.trans hF
          refine z_iconst (pc := 116) (v := (0 : Int32)) C dX9_isSame_116 (by decide) ?_
          exact hJ13 _ hF
        refine z_icmp_ne 116 (pc := 76) C dX9_isSame_76 (by decide) (fun c15 => ?_) (fun c15 => ?_)
        · have hF := if_f hF c15
          refine z_sub [0, 1, 3] rfl ?_
          exact hJ14 hF
        · have hF := if_t hF c15
          refine z_iload 3 (pc := 79) C dX9_isSame_79 rfl ?_
          refine z_iconst (pc := 81) (v := (1 : Int32)) C dX9_isSame_81 (by decide) ?_
          refine z_iadd (pc := 82) C dX9_isSame_82 ?_
          refine z_aload_n 0 (pc := 83) C dX9_isSame_83 rfl rfl ?_
          refine gfX9_123 (pc := 84) C (rfl : kdM 0 = 9) dX9_isSame_84 ?_
          obtain ⟨J16, hdJ16, hF⟩ := jn0_of hF
          have hJ16 : J16 = some v10' → Zz E (WM E a S) 0 0 112 [(0, .ref (a 0)), (1, .int p1), (5, .int v4)] [] := by
            intro hF
            have hF := hdJ16.symm.trans hF
            refine z_iconst (pc := 112) (v := (1 : Int32)) C dX9_isSame_112 (by decide) ?_
            refine z_goto 117 (pc := 113) C dX9_isSame_113 (by decide) ?_
            exact hJ13 _ hF
          refine z_icmp_eq 112 (pc := 87) C dX9_isSame_87 (by decide) (fun c17 => ?_) (fun c17 => ?_)
          · have hF := if_t hF c17
            refine z_sub [0, 1, 3] rfl ?_
            exact hJ16 hF
          · have hF := if_f hF c17
            refine z_aload_n 0 (pc := 90) C dX9_isSame_90 rfl rfl ?_
            refine gfX9_22 (pc := 91) C (rfl : kdM 0 = 9) dX9_isSame_91 ?_
            refine z_bipush (pc := 94) (v := (6 : Int32)) C dX9_isSame_94 (by decide) ?_
            refine z_iload_n 1 (pc := 96) C dX9_isSame_96 rfl rfl ?_
            refine z_imul (pc := 97) C dX9_isSame_97 ?_
            refine z_iload 3 (pc := 98) C dX9_isSame_98 rfl ?_
            refine z_iadd (pc := 100) C dX9_isSame_100 ?_
            obtain ⟨g18, hF⟩ := gd_of hF
            refine iaM48 (pc := 101) C (rfl : kdM 5 = 68) g18 dX9_isSame_101 ?_
            refine z_aload_n 0 (pc := 102) C dX9_isSame_102 rfl rfl ?_
            refine gfX9_13 (pc := 103) C (rfl : kdM 0 = 9) dX9_isSame_103 ?_
            refine z_iload 3 (pc := 106) C dX9_isSame_106 rfl ?_
            obtain ⟨g19, hF⟩ := gd_of hF
            refine iaM6 (pc := 108) C (rfl : kdM 2 = 26) g19 dX9_isSame_108 ?_
            refine z_icmp_ne 116 (pc := 109) C dX9_isSame_109 (by decide) (fun c20 => ?_) (fun c20 => ?_)
            · have hF := if_f hF c20
              refine z_sub [0, 1, 3] rfl ?_
              exact hJ14 hF
            · have hF := if_t hF c20
              refine z_sub [0, 1, 3] rfl ?_
              exact hJ16 hF
  have hF := hR
  clear hR
  obtain ⟨J22, hdJ22, hF⟩ := jn0_of hF
  have hJ22 : J22 = some v2' → Zz E (WM E a S) 0 0 37 [(0, .ref (a 0)), (1, .int p1)] [] := by
    intro hF
    have hF := hdJ22.symm.trans hF
    refine z_iconst (pc := 37) (v := (0 : Int32)) C dX9_isSame_37 (by decide) ?_
    exact hJ21 _ hF
  refine z_icmp_ne 37 (pc := 10) C dX9_isSame_10 (by decide) (fun c23 => ?_) (fun c23 => ?_)
  · have hF := if_f hF c23
    refine z_sub [0, 1] rfl ?_
    exact hJ22 hF
  · have hF := if_t hF c23
    refine z_aload_n 0 (pc := 13) C dX9_isSame_13 rfl rfl ?_
    refine gfX9_25 (pc := 14) C (rfl : kdM 0 = 9) dX9_isSame_14 ?_
    refine z_iload_n 1 (pc := 17) C dX9_isSame_17 rfl rfl ?_
    obtain ⟨g24, hF⟩ := gd_of hF
    refine iaM8 (pc := 18) C (rfl : kdM 6 = 28) g24 dX9_isSame_18 ?_
    refine z_iload_n 2 (pc := 19) C dX9_isSame_19 rfl rfl ?_
    refine z_icmp_ne 37 (pc := 20) C dX9_isSame_20 (by decide) (fun c25 => ?_) (fun c25 => ?_)
    · have hF := if_f hF c25
      refine z_sub [0, 1] rfl ?_
      exact hJ22 hF
    · have hF := if_t hF c25
      refine z_aload_n 0 (pc := 23) C dX9_isSame_23 rfl rfl ?_
      refine gfX9_28 (pc := 24) C (rfl : kdM 0 = 9) dX9_isSame_24 ?_
      refine z_iload_n 1 (pc := 27) C dX9_isSame_27 rfl rfl ?_
      obtain ⟨g26, hF⟩ := gd_of hF
      refine iaM8 (pc := 28) C (rfl : kdM 7 = 28) g26 dX9_isSame_28 ?_
      refine z_iload_n 3 (pc := 29) C dX9_isSame_29 rfl rfl ?_
      refine z_icmp_ne 37 (pc := 30) C dX9_isSame_30 (by decide) (fun c27 => ?_) (fun c27 => ?_)
      · have hF := if_f hF c27
        refine z_sub [0, 1] rfl ?_
        exact hJ22 hF
      · have hF := if_t hF c27
        refine z_iconst (pc := 33) (v := (1 : Int32)) C dX9_isSame_33 (by decide) ?_
        refine z_goto 38 (pc := 34) C dX9_isSame_34 (by decide) ?_
        refine z_sub [0, 1] rfl ?_
        exact hJ21 _ hF
def fX9_kitsOf_L20 (S : St) (v2 : Int32) (next9 : Int32 → Int32 → Option (Int32)) (v7 : Int32) (v8 : Int32) : Option (Int32) :=
  if (gi S 0 23) ≤ v8 then (
    some v7)
  else (
    gd (inb v8 20) (
    bn1 (jn0 (
      some (0 : Int32)) (fun J27 =>
      if (gi S 20 v8.toNatClampNeg) = v2 then (
        gd (inb v8 20) (
        if (gi S 23 v8.toNatClampNeg) = (2 : Int32) then (
          gd (inb v8 20) (
          some (gi S 22 v8.toNatClampNeg)))
        else (
          J27)))
      else (
        J27))) (fun (v21 : Int32) =>
      bv ((v7 + v21)) (fun (v22 : Int32) =>
      bv (v8 + 1) (fun (v24 : Int32) =>
      next9 v22 v24)))))
def fX9_kitsOf_L6 (S : St) (p1 : Int32) (next3 : Int32 → Int32 → Option (Int32)) (v1 : Int32) (v2 : Int32) : Option (Int32) :=
  if (gi S 0 4) ≤ v2 then (
    some v1)
  else (
    bn1 (lq2 (fX9_kitsOf_L20 S v2) 200 (0 : Int32) (0 : Int32)) (fun (v10 : Int32) =>
      bn1 (jn0 (
        some v1) (fun J15 =>
        if ((p1 >>> (v2 &&& 31)) &&& (1 : Int32)) = (1 : Int32) then (
          if v1 ≤ v10 then (
            J15)
          else (
            some v10))
        else (
          J15))) (fun (v11 : Int32) =>
        bv (v2 + 1) (fun (v12 : Int32) =>
        next3 v11 v12))))
def fX9_kitsOf (S : St) (p1 : Int32) : Option (Int32) :=
  bn1 (lq2 (fX9_kitsOf_L6 S p1) 200 (1000 : Int32) (0 : Int32)) (fun (v4 : Int32) =>
    some (v4))
abbrev rmX9_kitsOf : Room := { frames := 6, cells := 0, slots := 0, locals := 90 }
set_option maxRecDepth 100000 in
set_option maxHeartbeats 4000000 in
theorem mX9_kitsOf {l : Launch} {D : va_G} {cs : Nat → ClassId} {a : Nat → Nat} (hT : l.stackTraces = false) {S : St} {p1 : Int32} {r : Int32} (hF : fX9_kitsOf S p1 = some r) : MX l 33 GM D cs a yX9_kitsOf cX9_kitsOf 6 (some .int) rmX9_kitsOf [.ref (a 0), .int p1] S (.inr (some (.int r))) S := by
  refine zm_entry [(0, .ref (a 0)), (1, .int p1)] hT (by decide +kernel) (Nat.le_of_ble_eq_true rfl) rfl (fun E hEl hED hEk C hQ hr => ?_)
  subst hEl
  subst hED
  subst hEk
  unfold fX9_kitsOf at hF
  refine z_sipush (pc := 0) (v := (1000 : Int32)) C dX9_kitsOf_0 (by decide) ?_
  refine z_istore_n (pc := 3) (loc' := [(2, .int (1000 : Int32)), (0, .ref (a 0)), (1, .int p1)]) C dX9_kitsOf_3 rfl (by decide) rfl ?_
  refine z_iconst (pc := 4) (v := (0 : Int32)) C dX9_kitsOf_4 (by decide) ?_
  refine z_istore_n (pc := 5) (loc' := [(3, .int (0 : Int32)), (2, .int (1000 : Int32)), (0, .ref (a 0)), (1, .int p1)]) C dX9_kitsOf_5 rfl (by decide) rfl ?_
  refine z_sub [2, 3, 1, 0] rfl ?_
  obtain ⟨v4', hR, hF⟩ := bn1_of hF
  have hJ5 : ∀ (v4 : Int32), (some v4 : Option (Int32)) = some v4' → Zz E (WM E a S) 0 0 101 [(2, .int v4)] [] := by
    intro v4 hE
    have hE0 := Option.some.inj hE
    subst hE0
    refine z_iload_n 0 (pc := 101) C dX9_kitsOf_101 rfl rfl ?_
    exact z_iret (pc := 102) C hQ hr rfl dX9_kitsOf_102 (by cases hF; rfl) (by cases hF; rfl) (Nat.le_of_ble_eq_true rfl) (Nat.le_of_ble_eq_true rfl)
  have hF := hR
  clear hR
  refine lq2_W (P := fun (v1 : Int32) (v2 : Int32) => Zz E (WM E a S) 0 0 6 [(0, .ref (a 0)), (1, .int p1), (2, .int v1), (3, .int v2)] []) (fun next3 hN3 v1 v2 hF => ?_) _ _ _ hF
  unfold fX9_kitsOf_L6 at hF
  refine z_iload_n 3 (pc := 6) C dX9_kitsOf_6 rfl rfl ?_
  refine z_aload_n 0 (pc := 7) C dX9_kitsOf_7 rfl rfl ?_
  refine gfX9_110 (pc := 8) C (rfl : kdM 0 = 9) dX9_kitsOf_8 ?_
  refine z_icmp_ge 101 (pc := 11) C dX9_kitsOf_11 (by decide) (fun c6 => ?_) (fun c6 => ?_)
  · have hF := if_t hF c6
    refine z_sub [2] rfl ?_
    exact hJ5 _ hF
  · have hF := if_f hF c6
    refine z_iconst (pc := 14) (v := (0 : Int32)) C dX9_kitsOf_14 (by decide) ?_
    refine z_istore (pc := 15) (loc' := [(4, .int (0 : Int32)), (0, .ref (a 0)), (1, .int p1), (2, .int v1), (3, .int v2)]) C dX9_kitsOf_15 (by decide) rfl ?_
    refine z_iconst (pc := 17) (v := (0 : Int32)) C dX9_kitsOf_17 (by decide) ?_
    refine z_istore (pc := 18) (loc' := [(5, .int (0 : Int32)), (4, .int (0 : Int32)), (0, .ref (a 0)), (1, .int p1), (2, .int v1), (3, .int v2)]) C dX9_kitsOf_18 (by decide) rfl ?_
    refine z_sub [2, 3, 4, 5, 1, 0] rfl ?_
    obtain ⟨v10', hR, hF⟩ := bn1_of hF
    have hJ18 : ∀ (v10 : Int32), (some v10 : Option (Int32)) = some v10' → Zz E (WM E a S) 0 0 73 [(0, .ref (a 0)), (1, .int p1), (2, .int v1), (3, .int v2), (4, .int v10)] [] := by
      intro v10 hE
      have hE0 := Option.some.inj hE
      subst hE0
      refine z_iload_n 1 (pc := 73) C dX9_kitsOf_73 rfl rfl ?_
      refine z_iload_n 3 (pc := 74) C dX9_kitsOf_74 rfl rfl ?_
      refine z_ishr (pc := 75) C dX9_kitsOf_75 ?_
      refine z_iconst (pc := 76) (v := (1 : Int32)) C dX9_kitsOf_76 (by decide) ?_
      refine z_iand (pc := 77) C dX9_kitsOf_77 ?_
      refine z_iconst (pc := 78) (v := (1 : Int32)) C dX9_kitsOf_78 (by decide) ?_
      obtain ⟨v11', hR, hF⟩ := bn1_of hF
      have hJ14 : ∀ (v11 : Int32), (some v11 : Option (Int32)) = some v11' → Zz E (WM E a S) 0 0 94 [(0, .ref (a 0)), (1, .int p1), (3, .int v2)] [.int v11] := by
        intro v11 hE
        have hE0 := Option.some.inj hE
        subst hE0
        refine z_istore_n (pc := 94) (loc' := [(2, .int v11), (0, .ref (a 0)), (1, .int p1), (3, .int v2)]) C dX9_kitsOf_94 rfl (by decide) rfl ?_
        obtain ⟨v12, e13, hF⟩ := bv_of hF
        refine z_iinc 3 (pc := 95) (v := v12) (loc' := [(3, .int v12), (2, .int v11), (0, .ref (a 0)), (1, .int p1)]) C dX9_kitsOf_95 rfl (by rw [e13]; rfl) (by decide) rfl ?_
        refine z_goto 6 (pc := 98) C dX9_kitsOf_98 (by decide) ?_
        refine z_sub [2, 3, 1, 0] rfl ?_
        exact hN3 _ _ hF
      have hF := hR
      clear hR
      obtain ⟨J15, hdJ15, hF⟩ := jn0_of hF
      have hJ15 : J15 = some v11' → Zz E (WM E a S) 0 0 93 [(0, .ref (a 0)), (1, .int p1), (2, .int v1), (3, .int v2)] [] := by
        intro hF
        have hF := hdJ15.symm.trans hF
        refine z_iload_n 2 (pc := 93) C dX9_kitsOf_93 rfl rfl ?_
        refine z_sub [0, 1, 3] rfl ?_
        exact hJ14 _ hF
      refine z_icmp_ne 93 (pc := 79) C dX9_kitsOf_79 (by decide) (fun c16 => ?_) (fun c16 => ?_)
      · have hF := if_f hF c16
        refine z_sub [0, 1, 2, 3] rfl ?_
        exact hJ15 hF
      · have hF := if_t hF c16
        refine z_iload 4 (pc := 82) C dX9_kitsOf_82 rfl ?_
        refine z_iload_n 2 (pc := 84) C dX9_kitsOf_84 rfl rfl ?_
        refine z_icmp_ge 93 (pc := 85) C dX9_kitsOf_85 (by decide) (fun c17 => ?_) (fun c17 => ?_)
        · have hF := if_t hF c17
          refine z_sub [0, 1, 2, 3] rfl ?_
          exact hJ15 hF
        · have hF := if_f hF c17
          refine z_iload 4 (pc := 88) C dX9_kitsOf_88 rfl ?_
          refine z_goto 94 (pc := 90) C dX9_kitsOf_90 (by decide) ?_
          refine z_sub [0, 1, 3] rfl ?_
          exact hJ14 _ hF
    have hF := hR
    clear hR
    refine lq2_W (P := fun (v7 : Int32) (v8 : Int32) => Zz E (WM E a S) 0 0 20 [(0, .ref (a 0)), (1, .int p1), (2, .int v1), (3, .int v2), (4, .int v7), (5, .int v8)] []) (fun next9 hN9 v7 v8 hF => ?_) _ _ _ hF
    unfold fX9_kitsOf_L20 at hF
    refine z_iload 5 (pc := 20) C dX9_kitsOf_20 rfl ?_
    refine z_aload_n 0 (pc := 22) C dX9_kitsOf_22 rfl rfl ?_
    refine gfX9_120 (pc := 23) C (rfl : kdM 0 = 9) dX9_kitsOf_23 ?_
    refine z_icmp_ge 73 (pc := 26) C dX9_kitsOf_26 (by decide) (fun c19 => ?_) (fun c19 => ?_)
    · have hF := if_t hF c19
      refine z_sub [0, 1, 2, 3, 4] rfl ?_
      exact hJ18 _ hF
    · have hF := if_f hF c19
      refine z_iload 4 (pc := 29) C dX9_kitsOf_29 rfl ?_
      refine z_aload_n 0 (pc := 31) C dX9_kitsOf_31 rfl rfl ?_
      refine gfX9_67 (pc := 32) C (rfl : kdM 0 = 9) dX9_kitsOf_32 ?_
      refine z_iload 5 (pc := 35) C dX9_kitsOf_35 rfl ?_
      obtain ⟨g20, hF⟩ := gd_of hF
      refine iaM20 (pc := 37) C (rfl : kdM 20 = 40) g20 dX9_kitsOf_37 ?_
      refine z_iload_n 3 (pc := 38) C dX9_kitsOf_38 rfl rfl ?_
      obtain ⟨v21', hR, hF⟩ := bn1_of hF
      have hJ26 : ∀ (v21 : Int32), (some v21 : Option (Int32)) = some v21' → Zz E (WM E a S) 0 0 64 [(0, .ref (a 0)), (1, .int p1), (2, .int v1), (3, .int v2), (5, .int v8)] [.int v21, .int v7] := by
        intro v21 hE
        have hE0 := Option.some.inj hE
        subst hE0
        refine z_iadd (pc := 64) C dX9_kitsOf_64 ?_
        obtain ⟨v22, e23, hF⟩ := bv_of hF
        refine z_topi e23 ?_
        refine z_istore (pc := 65) (loc' := [(4, .int v22), (0, .ref (a 0)), (1, .int p1), (2, .int v1), (3, .int v2), (5, .int v8)]) C dX9_kitsOf_65 (by decide) rfl ?_
        obtain ⟨v24, e25, hF⟩ := bv_of hF
        refine z_iinc 5 (pc := 67) (v := v24) (loc' := [(5, .int v24), (4, .int v22), (0, .ref (a 0)), (1, .int p1), (2, .int v1), (3, .int v2)]) C dX9_kitsOf_67 rfl (by rw [e25]; rfl) (by decide) rfl ?_
        refine z_goto 20 (pc := 70) C dX9_kitsOf_70 (by decide) ?_
        refine z_sub [2, 3, 4, 5, 1, 0] rfl ?_
        exact hN9 _ _ hF
      have hF := hR
      clear hR
      obtain ⟨J27, hdJ27, hF⟩ := jn0_of hF
      have hJ27 : J27 = some v21' → Zz E (WM E a S) 0 0 63 [(0, .ref (a 0)), (1, .int p1), (2, .int v1), (3, .int v2), (5, .int v8)] [.int v7] := by
        intro hF
        have hF := hdJ27.symm.trans hF
        refine z_iconst (pc := 63) (v := (0 : Int32)) C dX9_kitsOf_63 (by decide) ?_
        exact hJ26 _ hF
      refine z_icmp_ne 63 (pc := 39) C dX9_kitsOf_39 (by decide) (fun c28 => ?_) (fun c28 => ?_)
      · have hF := if_f hF c28
        refine z_sub [0, 1, 2, 3, 5] rfl ?_
        exact hJ27 hF
      · have hF := if_t hF c28
        refine z_aload_n 0 (pc := 42) C dX9_kitsOf_42 rfl rfl ?_
        refine gfX9_76 (pc := 43) C (rfl : kdM 0 = 9) dX9_kitsOf_43 ?_
        refine z_iload 5 (pc := 46) C dX9_kitsOf_46 rfl ?_
        obtain ⟨g29, hF⟩ := gd_of hF
        refine iaM20 (pc := 48) C (rfl : kdM 23 = 40) g29 dX9_kitsOf_48 ?_
        refine z_iconst (pc := 49) (v := (2 : Int32)) C dX9_kitsOf_49 (by decide) ?_
        refine z_icmp_ne 63 (pc := 50) C dX9_kitsOf_50 (by decide) (fun c30 => ?_) (fun c30 => ?_)
        · have hF := if_f hF c30
          refine z_sub [0, 1, 2, 3, 5] rfl ?_
          exact hJ27 hF
        · have hF := if_t hF c30
          refine z_aload_n 0 (pc := 53) C dX9_kitsOf_53 rfl rfl ?_
          refine gfX9_73 (pc := 54) C (rfl : kdM 0 = 9) dX9_kitsOf_54 ?_
          refine z_iload 5 (pc := 57) C dX9_kitsOf_57 rfl ?_
          obtain ⟨g31, hF⟩ := gd_of hF
          refine iaM20 (pc := 59) C (rfl : kdM 22 = 40) g31 dX9_kitsOf_59 ?_
          refine z_goto 64 (pc := 60) C dX9_kitsOf_60 (by decide) ?_
          refine z_sub [0, 1, 2, 3, 5] rfl ?_
          exact hJ26 _ hF
def fX9_rowFor_L99 (S : St) (p2 : Int32) (next7 : Int32 → Option (Int32)) (v6 : Int32) : Option (Int32) :=
  if (gi S 0 38) ≤ v6 then (
    some v6)
  else (
    gd (inb v6 40) (
    if p2 ≤ (gi S 28 v6.toNatClampNeg) then (
      some v6)
    else (
      bv (v6 + 1) (fun (v39 : Int32) =>
      next7 v39))))
def fX9_rowFor_L6 (S : St) (p2 : Int32) (p1 : Int32) (next3 : Int32 → Int32 → Option (Int32)) (v1 : Int32) (v2 : Int32) : Option (Int32) :=
  if (gi S 0 40) ≤ v2 then (
    some v1)
  else (
    gd (inb v2 40) (
    bn1 (jn0 (
      some (0 : Int32)) (fun J57 =>
      if (gi S 30 v2.toNatClampNeg) < p2 then (
        J57)
      else (
        gd (inb v2 40) (
        if (gi S 31 v2.toNatClampNeg) < p1 then (
          J57)
        else (
          some (1 : Int32)))))) (fun (v44 : Int32) =>
      bn1 (jn0 (
        some v1) (fun J49 =>
        if v44 = 0 then (
          J49)
        else (
          jn0 (
            some v2) (fun J51 =>
            if v1 = (-1 : Int32) then (
              J51)
            else (
              gd (inb v2 40) (
              gd (inb v1 40) (
              if (gi S 29 v1.toNatClampNeg) ≤ (gi S 29 v2.toNatClampNeg) then (
                J49)
              else (
                J51)))))))) (fun (v45 : Int32) =>
        bv (v2 + 1) (fun (v46 : Int32) =>
        next3 v45 v46)))))
def fX9_rowFor (S : St) (p1 : Int32) (p2 : Int32) (p3 : Int32) (p4 : Int32) : Option ((Int32 × St)) :=
  bn1 (lq2 (fX9_rowFor_L6 S p2 p1) 200 (-1 : Int32) (0 : Int32)) (fun (v4 : Int32) =>
    if v4 = (-1 : Int32) then (
      bn1 (lq1 (fX9_rowFor_L99 S p2) 200 (0 : Int32)) (fun (v8 : Int32) =>
        bn1 (if v8 = (gi S 0 38) then (
          gd (inb v8 40) (
          bv (si S 28 v8.toNatClampNeg p4) (fun (S31 : St) =>
          bv (si S31 0 38 ((gi S31 0 38) + (1 : Int32))) (fun (S33 : St) =>
          some S33))))
        else (
          some S)) (fun (S9 : St) =>
          gd (inb v8 40) (
          gd (inb v8 40) (
          bv (si S9 28 v8.toNatClampNeg ((gi S9 28 v8.toNatClampNeg) - p2)) (fun (S12 : St) =>
          gd (inb (gi S12 0 40) 40) (
          bv (si S12 29 (gi S12 0 40).toNatClampNeg v8) (fun (S15 : St) =>
          gd (inb (gi S15 0 40) 40) (
          bv (si S15 30 (gi S15 0 40).toNatClampNeg p2) (fun (S18 : St) =>
          gd (inb (gi S18 0 40) 40) (
          bv (si S18 31 (gi S18 0 40).toNatClampNeg p3) (fun (S21 : St) =>
          gd (inb (gi S21 0 40) 40) (
          bv (si S21 32 (gi S21 0 40).toNatClampNeg (0 : Int32)) (fun (S24 : St) =>
          bv (si S24 0 40 ((gi S24 0 40) + (1 : Int32))) (fun (S26 : St) =>
          some (((gi S26 0 40) - (1 : Int32)), S26))))))))))))))))
    else (
      some (v4, S)))
abbrev rmX9_rowFor : Room := { frames := 6, cells := 0, slots := 0, locals := 90 }
set_option maxRecDepth 100000 in
set_option maxHeartbeats 4000000 in
theorem mX9_rowFor {l : Launch} {D : va_G} {cs : Nat → ClassId} {a : Nat → Nat} (hT : l.stackTraces = false) {S : St} {p1 : Int32} {p2 : Int32} {p3 : Int32} {p4 : Int32} {r : Int32} {S' : St} (hF : fX9_rowFor S p1 p2 p3 p4 = some (r, S')) : MX l 33 GM D cs a yX9_rowFor cX9_rowFor 8 (some .int) rmX9_rowFor [.ref (a 0), .int p1, .int p2, .int p3, .int p4] S (.inr (some (.int r))) S' := by
  refine zm_entry [(0, .ref (a 0)), (1, .int p1), (2, .int p2), (3, .int p3), (4, .int p4)] hT (by decide +kernel) (Nat.le_of_ble_eq_true rfl) rfl (fun E hEl hED hEk C hQ hr => ?_)
  subst hEl
  subst hED
  subst hEk
  unfold fX9_rowFor at hF
  refine z_iconst (pc := 0) (v := (-1 : Int32)) C dX9_rowFor_0 (by decide) ?_
  refine z_istore (pc := 1) (loc' := [(5, .int (-1 : Int32)), (0, .ref (a 0)), (1, .int p1), (2, .int p2), (3, .int p3), (4, .int p4)]) C dX9_rowFor_1 (by decide) rfl ?_
  refine z_iconst (pc := 3) (v := (0 : Int32)) C dX9_rowFor_3 (by decide) ?_
  refine z_istore (pc := 4) (loc' := [(6, .int (0 : Int32)), (5, .int (-1 : Int32)), (0, .ref (a 0)), (1, .int p1), (2, .int p2), (3, .int p3), (4, .int p4)]) C dX9_rowFor_4 (by decide) rfl ?_
  refine z_sub [2, 3, 4, 5, 6, 1, 0] rfl ?_
  obtain ⟨v4', hR, hF⟩ := bn1_of hF
  have hJ41 : ∀ (v4 : Int32), (some v4 : Option (Int32)) = some v4' → Zz E (WM E a S) 0 0 87 [(0, .ref (a 0)), (2, .int p2), (3, .int p3), (4, .int p4), (5, .int v4)] [] := by
    intro v4 hE
    have hE0 := Option.some.inj hE
    subst hE0
    refine z_iload 4 (pc := 87) C dX9_rowFor_87 rfl ?_
    refine z_iconst (pc := 89) (v := (-1 : Int32)) C dX9_rowFor_89 (by decide) ?_
    refine z_icmp_eq 96 (pc := 90) C dX9_rowFor_90 (by decide) (fun c5 => ?_) (fun c5 => ?_)
    · have hF := if_t hF c5
      refine z_iconst (pc := 96) (v := (0 : Int32)) C dX9_rowFor_96 (by decide) ?_
      refine z_istore (pc := 97) (loc' := [(6, .int (0 : Int32)), (0, .ref (a 0)), (2, .int p2), (3, .int p3), (4, .int p4), (5, .int v4)]) C dX9_rowFor_97 (by decide) rfl ?_
      refine z_sub [1, 2, 3, 4, 0] rfl ?_
      obtain ⟨v8', hR, hF⟩ := bn1_of hF
      have hJ35 : ∀ (v8 : Int32), (some v8 : Option (Int32)) = some v8' → Zz E (WM E a S) 0 0 125 [(0, .ref (a 0)), (2, .int p2), (3, .int p3), (4, .int p4), (6, .int v8)] [] := by
        intro v8 hE
        have hE0 := Option.some.inj hE
        subst hE0
        refine z_iload 4 (pc := 125) C dX9_rowFor_125 rfl ?_
        refine z_aload_n 0 (pc := 127) C dX9_rowFor_127 rfl rfl ?_
        refine gfX9_214 (pc := 128) C (rfl : kdM 0 = 9) dX9_rowFor_128 ?_
        obtain ⟨S9', hR, hF⟩ := bn1_of hF
        have hJ28 : ∀ (S9 : St), (some S9 : Option (St)) = some S9' → Zz E (WM E a S9) 0 0 153 [(0, .ref (a 0)), (2, .int p2), (3, .int p3), (6, .int v8)] [] := by
          intro S9 hE
          have hE0 := Option.some.inj hE
          subst hE0
          refine z_aload_n 0 (pc := 153) C dX9_rowFor_153 rfl rfl ?_
          refine gfX9_91 (pc := 154) C (rfl : kdM 0 = 9) dX9_rowFor_154 ?_
          refine z_iload 3 (pc := 157) C dX9_rowFor_157 rfl ?_
          refine z_dup2 (pc := 159) C dX9_rowFor_159 rfl rfl ?_
          obtain ⟨g10, hF⟩ := gd_of hF
          refine iaM40 (pc := 160) C (rfl : kdM 28 = 60) g10 dX9_rowFor_160 ?_
          refine z_iload_n 1 (pc := 161) C dX9_rowFor_161 rfl rfl ?_
          refine z_isub (pc := 162) C dX9_rowFor_162 ?_
          obtain ⟨g11, hF⟩ := gd_of hF
          refine saM40 (pc := 163) C (rfl : kdM 28 = 60) g11 dX9_rowFor_163 ?_
          obtain ⟨S12, e13, hF⟩ := bv_of hF
          rw [← e13]
          refine z_aload_n 0 (pc := 164) C dX9_rowFor_164 rfl rfl ?_
          refine gfX9_94 (pc := 165) C (rfl : kdM 0 = 9) dX9_rowFor_165 ?_
          refine z_aload_n 0 (pc := 168) C dX9_rowFor_168 rfl rfl ?_
          refine gfX9_211 (pc := 169) C (rfl : kdM 0 = 9) dX9_rowFor_169 ?_
          refine z_iload 3 (pc := 172) C dX9_rowFor_172 rfl ?_
          obtain ⟨g14, hF⟩ := gd_of hF
          refine saM40 (pc := 174) C (rfl : kdM 29 = 60) g14 dX9_rowFor_174 ?_
          obtain ⟨S15, e16, hF⟩ := bv_of hF
          rw [← e16]
          refine z_aload_n 0 (pc := 175) C dX9_rowFor_175 rfl rfl ?_
          refine gfX9_97 (pc := 176) C (rfl : kdM 0 = 9) dX9_rowFor_176 ?_
          refine z_aload_n 0 (pc := 179) C dX9_rowFor_179 rfl rfl ?_
          refine gfX9_211 (pc := 180) C (rfl : kdM 0 = 9) dX9_rowFor_180 ?_
          refine z_iload_n 1 (pc := 183) C dX9_rowFor_183 rfl rfl ?_
          obtain ⟨g17, hF⟩ := gd_of hF
          refine saM40 (pc := 184) C (rfl : kdM 30 = 60) g17 dX9_rowFor_184 ?_
          obtain ⟨S18, e19, hF⟩ := bv_of hF
          rw [← e19]
          refine z_aload_n 0 (pc := 185) C dX9_rowFor_185 rfl rfl ?_
          refine gfX9_100 (pc := 186) C (rfl : kdM 0 = 9) dX9_rowFor_186 ?_
          refine z_aload_n 0 (pc := 189) C dX9_rowFor_189 rfl rfl ?_
          refine gfX9_211 (pc := 190) C (rfl : kdM 0 = 9) dX9_rowFor_190 ?_
          refine z_iload_n 2 (pc := 193) C dX9_rowFor_193 rfl rfl ?_
          obtain ⟨g20, hF⟩ := gd_of hF
          refine saM40 (pc := 194) C (rfl : kdM 31 = 60) g20 dX9_rowFor_194 ?_
          obtain ⟨S21, e22, hF⟩ := bv_of hF
          rw [← e22]
          refine z_aload_n 0 (pc := 195) C dX9_rowFor_195 rfl rfl ?_
          refine gfX9_103 (pc := 196) C (rfl : kdM 0 = 9) dX9_rowFor_196 ?_
          refine z_aload_n 0 (pc := 199) C dX9_rowFor_199 rfl rfl ?_
          refine gfX9_211 (pc := 200) C (rfl : kdM 0 = 9) dX9_rowFor_200 ?_
          refine z_iconst (pc := 203) (v := (0 : Int32)) C dX9_rowFor_203 (by decide) ?_
          obtain ⟨g23, hF⟩ := gd_of hF
          refine saM40 (pc := 204) C (rfl : kdM 32 = 60) g23 dX9_rowFor_204 ?_
          obtain ⟨S24, e25, hF⟩ := bv_of hF
          rw [← e25]
          refine z_aload_n 0 (pc := 205) C dX9_rowFor_205 rfl rfl ?_
          refine z_dup (pc := 206) C dX9_rowFor_206 rfl ?_
          refine gfX9_211 (pc := 207) C (rfl : kdM 0 = 9) dX9_rowFor_207 ?_
          refine z_iconst (pc := 210) (v := (1 : Int32)) C dX9_rowFor_210 (by decide) ?_
          refine z_iadd (pc := 211) C dX9_rowFor_211 ?_
          refine pfX9_211 (pc := 212) C (rfl : kdM 0 = 9) dX9_rowFor_212 ?_
          obtain ⟨S26, e27, hF⟩ := bv_of hF
          rw [← e27]
          refine z_aload_n 0 (pc := 215) C dX9_rowFor_215 rfl rfl ?_
          refine gfX9_211 (pc := 216) C (rfl : kdM 0 = 9) dX9_rowFor_216 ?_
          refine z_iconst (pc := 219) (v := (1 : Int32)) C dX9_rowFor_219 (by decide) ?_
          refine z_isub (pc := 220) C dX9_rowFor_220 ?_
          exact z_iret (pc := 221) C hQ hr rfl dX9_rowFor_221 (by cases hF; rfl) (by cases hF; rfl) (Nat.le_of_ble_eq_true rfl) (Nat.le_of_ble_eq_true rfl)
        have hF := hR
        clear hR
        refine z_icmp_ne 153 (pc := 131) C dX9_rowFor_131 (by decide) (fun c29 => ?_) (fun c29 => ?_)
        · have hF := if_f hF c29
          refine z_sub [0, 1, 2, 4] rfl ?_
          exact hJ28 _ hF
        · have hF := if_t hF c29
          refine z_aload_n 0 (pc := 134) C dX9_rowFor_134 rfl rfl ?_
          refine gfX9_91 (pc := 135) C (rfl : kdM 0 = 9) dX9_rowFor_135 ?_
          refine z_iload 4 (pc := 138) C dX9_rowFor_138 rfl ?_
          refine z_iload 3 (pc := 140) C dX9_rowFor_140 rfl ?_
          obtain ⟨g30, hF⟩ := gd_of hF
          refine saM40 (pc := 142) C (rfl : kdM 28 = 60) g30 dX9_rowFor_142 ?_
          obtain ⟨S31, e32, hF⟩ := bv_of hF
          rw [← e32]
          refine z_aload_n 0 (pc := 143) C dX9_rowFor_143 rfl rfl ?_
          refine z_dup (pc := 144) C dX9_rowFor_144 rfl ?_
          refine gfX9_214 (pc := 145) C (rfl : kdM 0 = 9) dX9_rowFor_145 ?_
          refine z_iconst (pc := 148) (v := (1 : Int32)) C dX9_rowFor_148 (by decide) ?_
          refine z_iadd (pc := 149) C dX9_rowFor_149 ?_
          refine pfX9_214 (pc := 150) C (rfl : kdM 0 = 9) dX9_rowFor_150 ?_
          obtain ⟨S33, e34, hF⟩ := bv_of hF
          rw [← e34]
          refine z_sub [0, 1, 2, 4] rfl ?_
          exact hJ28 _ hF
      have hF := hR
      clear hR
      refine lq1_W (P := fun (v6 : Int32) => Zz E (WM E a S) 0 0 99 [(0, .ref (a 0)), (2, .int p2), (3, .int p3), (4, .int p4), (6, .int v6)] []) (fun next7 hN7 v6 hF => ?_) _ _ hF
      unfold fX9_rowFor_L99 at hF
      refine z_iload 4 (pc := 99) C dX9_rowFor_99 rfl ?_
      refine z_aload_n 0 (pc := 101) C dX9_rowFor_101 rfl rfl ?_
      refine gfX9_214 (pc := 102) C (rfl : kdM 0 = 9) dX9_rowFor_102 ?_
      refine z_icmp_ge 125 (pc := 105) C dX9_rowFor_105 (by decide) (fun c36 => ?_) (fun c36 => ?_)
      · have hF := if_t hF c36
        exact hJ35 _ hF
      · have hF := if_f hF c36
        refine z_aload_n 0 (pc := 108) C dX9_rowFor_108 rfl rfl ?_
        refine gfX9_91 (pc := 109) C (rfl : kdM 0 = 9) dX9_rowFor_109 ?_
        refine z_iload 4 (pc := 112) C dX9_rowFor_112 rfl ?_
        obtain ⟨g37, hF⟩ := gd_of hF
        refine iaM40 (pc := 114) C (rfl : kdM 28 = 60) g37 dX9_rowFor_114 ?_
        refine z_iload_n 1 (pc := 115) C dX9_rowFor_115 rfl rfl ?_
        refine z_icmp_ge 125 (pc := 116) C dX9_rowFor_116 (by decide) (fun c38 => ?_) (fun c38 => ?_)
        · have hF := if_t hF c38
          exact hJ35 _ hF
        · have hF := if_f hF c38
          obtain ⟨v39, e40, hF⟩ := bv_of hF
          refine z_iinc 4 (pc := 119) (v := v39) (loc' := [(6, .int v39), (0, .ref (a 0)), (2, .int p2), (3, .int p3), (4, .int p4)]) C dX9_rowFor_119 rfl (by rw [e40]; rfl) (by decide) rfl ?_
          refine z_goto 99 (pc := 122) C dX9_rowFor_122 (by decide) ?_
          refine z_sub [1, 2, 3, 4, 0] rfl ?_
          exact hN7 _ hF
    · have hF := if_f hF c5
      refine z_iload 4 (pc := 93) C dX9_rowFor_93 rfl ?_
      exact z_iret (pc := 95) C hQ hr rfl dX9_rowFor_95 (by cases hF; rfl) (by cases hF; rfl) (Nat.le_of_ble_eq_true rfl) (Nat.le_of_ble_eq_true rfl)
  have hF := hR
  clear hR
  refine lq2_W (P := fun (v1 : Int32) (v2 : Int32) => Zz E (WM E a S) 0 0 6 [(0, .ref (a 0)), (1, .int p1), (2, .int p2), (3, .int p3), (4, .int p4), (5, .int v1), (6, .int v2)] []) (fun next3 hN3 v1 v2 hF => ?_) _ _ _ hF
  unfold fX9_rowFor_L6 at hF
  refine z_iload 6 (pc := 6) C dX9_rowFor_6 rfl ?_
  refine z_aload_n 0 (pc := 8) C dX9_rowFor_8 rfl rfl ?_
  refine gfX9_211 (pc := 9) C (rfl : kdM 0 = 9) dX9_rowFor_9 ?_
  refine z_icmp_ge 87 (pc := 12) C dX9_rowFor_12 (by decide) (fun c42 => ?_) (fun c42 => ?_)
  · have hF := if_t hF c42
    refine z_sub [0, 2, 3, 4, 5] rfl ?_
    exact hJ41 _ hF
  · have hF := if_f hF c42
    refine z_aload_n 0 (pc := 15) C dX9_rowFor_15 rfl rfl ?_
    refine gfX9_97 (pc := 16) C (rfl : kdM 0 = 9) dX9_rowFor_16 ?_
    refine z_iload 6 (pc := 19) C dX9_rowFor_19 rfl ?_
    obtain ⟨g43, hF⟩ := gd_of hF
    refine iaM40 (pc := 21) C (rfl : kdM 30 = 60) g43 dX9_rowFor_21 ?_
    refine z_iload_n 2 (pc := 22) C dX9_rowFor_22 rfl rfl ?_
    obtain ⟨v44', hR, hF⟩ := bn1_of hF
    have hJ56 : ∀ (v44 : Int32), (some v44 : Option (Int32)) = some v44' → Zz E (WM E a S) 0 0 42 [(0, .ref (a 0)), (1, .int p1), (2, .int p2), (3, .int p3), (4, .int p4), (5, .int v1), (6, .int v2)] [.int v44] := by
      intro v44 hE
      have hE0 := Option.some.inj hE
      subst hE0
      refine z_istore (pc := 42) (loc' := [(7, .int v44), (0, .ref (a 0)), (1, .int p1), (2, .int p2), (3, .int p3), (4, .int p4), (5, .int v1), (6, .int v2)]) C dX9_rowFor_42 (by decide) rfl ?_
      refine z_iload 0 (pc := 44) C dX9_rowFor_44 rfl ?_
      obtain ⟨v45', hR, hF⟩ := bn1_of hF
      have hJ48 : ∀ (v45 : Int32), (some v45 : Option (Int32)) = some v45' → Zz E (WM E a S) 0 0 79 [(0, .ref (a 0)), (1, .int p1), (2, .int p2), (3, .int p3), (4, .int p4), (6, .int v2)] [.int v45] := by
        intro v45 hE
        have hE0 := Option.some.inj hE
        subst hE0
        refine z_istore (pc := 79) (loc' := [(5, .int v45), (0, .ref (a 0)), (1, .int p1), (2, .int p2), (3, .int p3), (4, .int p4), (6, .int v2)]) C dX9_rowFor_79 (by decide) rfl ?_
        obtain ⟨v46, e47, hF⟩ := bv_of hF
        refine z_iinc 6 (pc := 81) (v := v46) (loc' := [(6, .int v46), (5, .int v45), (0, .ref (a 0)), (1, .int p1), (2, .int p2), (3, .int p3), (4, .int p4)]) C dX9_rowFor_81 rfl (by rw [e47]; rfl) (by decide) rfl ?_
        refine z_goto 6 (pc := 84) C dX9_rowFor_84 (by decide) ?_
        refine z_sub [2, 3, 4, 5, 6, 1, 0] rfl ?_
        exact hN3 _ _ hF
      have hF := hR
      clear hR
      obtain ⟨J49, hdJ49, hF⟩ := jn0_of hF
      have hJ49 : J49 = some v45' → Zz E (WM E a S) 0 0 77 [(0, .ref (a 0)), (1, .int p1), (2, .int p2), (3, .int p3), (4, .int p4), (5, .int v1), (6, .int v2)] [] := by
        intro hF
        have hF := hdJ49.symm.trans hF
        refine z_iload 5 (pc := 77) C dX9_rowFor_77 rfl ?_
        refine z_sub [0, 1, 2, 3, 4, 6] rfl ?_
        exact hJ48 _ hF
      refine z_if_eq 77 (pc := 46) C dX9_rowFor_46 (by decide) (fun c50 => ?_) (fun c50 => ?_)
      · have hF := if_t hF c50
        refine z_sub [1, 2, 3, 4, 5, 6, 7] rfl ?_
        exact hJ49 hF
      · have hF := if_f hF c50
        refine z_iload 6 (pc := 49) C dX9_rowFor_49 rfl ?_
        refine z_iconst (pc := 51) (v := (-1 : Int32)) C dX9_rowFor_51 (by decide) ?_
        obtain ⟨J51, hdJ51, hF⟩ := jn0_of hF
        have hJ51 : J51 = some v45' → Zz E (WM E a S) 0 0 72 [(0, .ref (a 0)), (1, .int p1), (2, .int p2), (3, .int p3), (4, .int p4), (6, .int v2)] [] := by
          intro hF
          have hF := hdJ51.symm.trans hF
          refine z_iload 5 (pc := 72) C dX9_rowFor_72 rfl ?_
          refine z_goto 79 (pc := 74) C dX9_rowFor_74 (by decide) ?_
          exact hJ48 _ hF
        refine z_icmp_eq 72 (pc := 52) C dX9_rowFor_52 (by decide) (fun c52 => ?_) (fun c52 => ?_)
        · have hF := if_t hF c52
          refine z_sub [1, 2, 3, 4, 5, 7] rfl ?_
          exact hJ51 hF
        · have hF := if_f hF c52
          refine z_aload_n 1 (pc := 55) C dX9_rowFor_55 rfl rfl ?_
          refine gfX9_94 (pc := 56) C (rfl : kdM 0 = 9) dX9_rowFor_56 ?_
          refine z_iload 7 (pc := 59) C dX9_rowFor_59 rfl ?_
          obtain ⟨g53, hF⟩ := gd_of hF
          refine iaM40 (pc := 61) C (rfl : kdM 29 = 60) g53 dX9_rowFor_61 ?_
          refine z_aload_n 1 (pc := 62) C dX9_rowFor_62 rfl rfl ?_
          refine gfX9_94 (pc := 63) C (rfl : kdM 0 = 9) dX9_rowFor_63 ?_
          refine z_iload 6 (pc := 66) C dX9_rowFor_66 rfl ?_
          obtain ⟨g54, hF⟩ := gd_of hF
          refine iaM40 (pc := 68) C (rfl : kdM 29 = 60) g54 dX9_rowFor_68 ?_
          refine z_icmp_ge 77 (pc := 69) C dX9_rowFor_69 (by decide) (fun c55 => ?_) (fun c55 => ?_)
          · have hF := if_t hF c55
            refine z_sub [1, 2, 3, 4, 5, 6, 7] rfl ?_
            exact hJ49 hF
          · have hF := if_f hF c55
            refine z_sub [1, 2, 3, 4, 5, 7] rfl ?_
            exact hJ51 hF
    have hF := hR
    clear hR
    obtain ⟨J57, hdJ57, hF⟩ := jn0_of hF
    have hJ57 : J57 = some v44' → Zz E (WM E a S) 0 0 41 [(0, .ref (a 0)), (1, .int p1), (2, .int p2), (3, .int p3), (4, .int p4), (5, .int v1), (6, .int v2)] [] := by
      intro hF
      have hF := hdJ57.symm.trans hF
      refine z_iconst (pc := 41) (v := (0 : Int32)) C dX9_rowFor_41 (by decide) ?_
      exact hJ56 _ hF
    refine z_icmp_lt 41 (pc := 23) C dX9_rowFor_23 (by decide) (fun c58 => ?_) (fun c58 => ?_)
    · have hF := if_t hF c58
      exact hJ57 hF
    · have hF := if_f hF c58
      refine z_aload_n 0 (pc := 26) C dX9_rowFor_26 rfl rfl ?_
      refine gfX9_100 (pc := 27) C (rfl : kdM 0 = 9) dX9_rowFor_27 ?_
      refine z_iload 6 (pc := 30) C dX9_rowFor_30 rfl ?_
      obtain ⟨g59, hF⟩ := gd_of hF
      refine iaM40 (pc := 32) C (rfl : kdM 31 = 60) g59 dX9_rowFor_32 ?_
      refine z_iload_n 1 (pc := 33) C dX9_rowFor_33 rfl rfl ?_
      refine z_icmp_lt 41 (pc := 34) C dX9_rowFor_34 (by decide) (fun c60 => ?_) (fun c60 => ?_)
      · have hF := if_t hF c60
        exact hJ57 hF
      · have hF := if_f hF c60
        refine z_iconst (pc := 37) (v := (1 : Int32)) C dX9_rowFor_37 (by decide) ?_
        refine z_goto 42 (pc := 38) C dX9_rowFor_38 (by decide) ?_
        exact hJ56 _ hF
def fX9_start (S : St) : Option (St) :=
  bv (si S 0 30 (0 : Int32)) (fun (S1 : St) =>
  bv (si S1 0 31 (0 : Int32)) (fun (S3 : St) =>
  bv (si S3 0 32 (1 : Int32)) (fun (S5 : St) =>
  bv (si S5 0 33 (0 : Int32)) (fun (S7 : St) =>
  bv (si S7 0 34 (0 : Int32)) (fun (S9 : St) =>
  bv (si S9 0 35 (1 : Int32)) (fun (S11 : St) =>
  some S11))))))
abbrev rmX9_start : Room := { frames := 6, cells := 0, slots := 0, locals := 90 }
set_option maxRecDepth 100000 in
set_option maxHeartbeats 4000000 in
theorem mX9_start {l : Launch} {D : va_G} {cs : Nat → ClassId} {a : Nat → Nat} (hT : l.stackTraces = false) {S : St} {S' : St} (hF : fX9_start S = some S') : MX l 33 GM D cs a yX9_start cX9_start 1 none rmX9_start [.ref (a 0)] S (.inr none) S' := by
  refine zm_entry [(0, .ref (a 0))] hT (by decide +kernel) (Nat.le_of_ble_eq_true rfl) rfl (fun E hEl hED hEk C hQ hr => ?_)
  subst hEl
  subst hED
  subst hEk
  unfold fX9_start at hF
  refine z_aload_n 0 (pc := 0) C dX9_start_0 rfl rfl ?_
  refine z_iconst (pc := 1) (v := (0 : Int32)) C dX9_start_1 (by decide) ?_
  refine pfX9_154 (pc := 2) C (rfl : kdM 0 = 9) dX9_start_2 ?_
  obtain ⟨S1, e2, hF⟩ := bv_of hF
  rw [← e2]
  refine z_aload_n 0 (pc := 5) C dX9_start_5 rfl rfl ?_
  refine z_iconst (pc := 6) (v := (0 : Int32)) C dX9_start_6 (by decide) ?_
  refine pfX9_157 (pc := 7) C (rfl : kdM 0 = 9) dX9_start_7 ?_
  obtain ⟨S3, e4, hF⟩ := bv_of hF
  rw [← e4]
  refine z_aload_n 0 (pc := 10) C dX9_start_10 rfl rfl ?_
  refine z_iconst (pc := 11) (v := (1 : Int32)) C dX9_start_11 (by decide) ?_
  refine pfX9_160 (pc := 12) C (rfl : kdM 0 = 9) dX9_start_12 ?_
  obtain ⟨S5, e6, hF⟩ := bv_of hF
  rw [← e6]
  refine z_aload_n 0 (pc := 15) C dX9_start_15 rfl rfl ?_
  refine z_iconst (pc := 16) (v := (0 : Int32)) C dX9_start_16 (by decide) ?_
  refine pfX9_163 (pc := 17) C (rfl : kdM 0 = 9) dX9_start_17 ?_
  obtain ⟨S7, e8, hF⟩ := bv_of hF
  rw [← e8]
  refine z_aload_n 0 (pc := 20) C dX9_start_20 rfl rfl ?_
  refine z_iconst (pc := 21) (v := (0 : Int32)) C dX9_start_21 (by decide) ?_
  refine pfX9_166 (pc := 22) C (rfl : kdM 0 = 9) dX9_start_22 ?_
  obtain ⟨S9, e10, hF⟩ := bv_of hF
  rw [← e10]
  refine z_aload_n 0 (pc := 25) C dX9_start_25 rfl rfl ?_
  refine z_iconst (pc := 26) (v := (1 : Int32)) C dX9_start_26 (by decide) ?_
  refine pfX9_169 (pc := 27) C (rfl : kdM 0 = 9) rfl rfl dX9_start_27 ?_
  obtain ⟨S11, e12, hF⟩ := bv_of hF
  rw [← e12]
  exact z_vret (pc := 30) C hQ hr dX9_start_30 (by cases hF; rfl) (by cases hF; rfl) (Nat.le_of_ble_eq_true rfl) (Nat.le_of_ble_eq_true rfl)
def fX9_thrown (S : St) : Option (Int32) :=
  some ((gi S 0 0))
abbrev rmX9_thrown : Room := { frames := 6, cells := 0, slots := 0, locals := 90 }
set_option maxRecDepth 100000 in
set_option maxHeartbeats 4000000 in
theorem mX9_thrown {l : Launch} {D : va_G} {cs : Nat → ClassId} {a : Nat → Nat} (hT : l.stackTraces = false) {S : St} {r : Int32} (hF : fX9_thrown S = some r) : MX l 33 GM D cs a yX9_thrown cX9_thrown 1 (some .int) rmX9_thrown [.ref (a 0)] S (.inr (some (.int r))) S := by
  refine zm_entry [(0, .ref (a 0))] hT (by decide +kernel) (Nat.le_of_ble_eq_true rfl) rfl (fun E hEl hED hEk C hQ hr => ?_)
  subst hEl
  subst hED
  subst hEk
  unfold fX9_thrown at hF
  refine z_aload_n 0 (pc := 0) C dX9_thrown_0 rfl rfl ?_
  refine gfX9_106 (pc := 1) C (rfl : kdM 0 = 9) dX9_thrown_1 ?_
  exact z_iret (pc := 4) C hQ hr rfl dX9_thrown_4 (by cases hF; rfl) (by cases hF; rfl) (Nat.le_of_ble_eq_true rfl) (Nat.le_of_ble_eq_true rfl)
def fX9_turn (S : St) (p1 : Int32) (p2 : Int32) (p3 : Int32) : Option (Int32) :=
  gd (inb p1 8) (
  if ((gi S 3 p1.toNatClampNeg) - (1 : Int32)) ≤ p2 then (
    some ((0 : Int32)))
  else (
    gd (inb (((6 : Int32) * p1) + p2) 48) (
    gd (inb (((6 : Int32) * p1) + p3) 48) (
    if (gi S 5 (((6 : Int32) * p1) + p2).toNatClampNeg) = (gi S 5 (((6 : Int32) * p1) + p3).toNatClampNeg) then (
      some ((0 : Int32)))
    else (
      some ((1 : Int32)))))))
abbrev rmX9_turn : Room := { frames := 6, cells := 0, slots := 0, locals := 90 }
set_option maxRecDepth 100000 in
set_option maxHeartbeats 4000000 in
theorem mX9_turn {l : Launch} {D : va_G} {cs : Nat → ClassId} {a : Nat → Nat} (hT : l.stackTraces = false) {S : St} {p1 : Int32} {p2 : Int32} {p3 : Int32} {r : Int32} (hF : fX9_turn S p1 p2 p3 = some r) : MX l 33 GM D cs a yX9_turn cX9_turn 4 (some .int) rmX9_turn [.ref (a 0), .int p1, .int p2, .int p3] S (.inr (some (.int r))) S := by
  refine zm_entry [(0, .ref (a 0)), (1, .int p1), (2, .int p2), (3, .int p3)] hT (by decide +kernel) (Nat.le_of_ble_eq_true rfl) rfl (fun E hEl hED hEk C hQ hr => ?_)
  subst hEl
  subst hED
  subst hEk
  unfold fX9_turn at hF
  refine z_iload_n 2 (pc := 0) C dX9_turn_0 rfl rfl ?_
  refine z_aload_n 0 (pc := 1) C dX9_turn_1 rfl rfl ?_
  refine gfX9_16 (pc := 2) C (rfl : kdM 0 = 9) dX9_turn_2 ?_
  refine z_iload_n 1 (pc := 5) C dX9_turn_5 rfl rfl ?_
  obtain ⟨g1, hF⟩ := gd_of hF
  refine iaM8 (pc := 6) C (rfl : kdM 3 = 28) g1 dX9_turn_6 ?_
  refine z_iconst (pc := 7) (v := (1 : Int32)) C dX9_turn_7 (by decide) ?_
  refine z_isub (pc := 8) C dX9_turn_8 ?_
  refine z_icmp_ge 41 (pc := 9) C dX9_turn_9 (by decide) (fun c2 => ?_) (fun c2 => ?_)
  · have hF := if_t hF c2
    refine z_iconst (pc := 41) (v := (0 : Int32)) C dX9_turn_41 (by decide) ?_
    exact z_iret (pc := 42) C hQ hr rfl dX9_turn_42 (by cases hF; rfl) (by cases hF; rfl) (Nat.le_of_ble_eq_true rfl) (Nat.le_of_ble_eq_true rfl)
  · have hF := if_f hF c2
    refine z_aload_n 0 (pc := 12) C dX9_turn_12 rfl rfl ?_
    refine gfX9_22 (pc := 13) C (rfl : kdM 0 = 9) dX9_turn_13 ?_
    refine z_bipush (pc := 16) (v := (6 : Int32)) C dX9_turn_16 (by decide) ?_
    refine z_iload_n 1 (pc := 18) C dX9_turn_18 rfl rfl ?_
    refine z_imul (pc := 19) C dX9_turn_19 ?_
    refine z_iload_n 2 (pc := 20) C dX9_turn_20 rfl rfl ?_
    refine z_iadd (pc := 21) C dX9_turn_21 ?_
    obtain ⟨g3, hF⟩ := gd_of hF
    refine iaM48 (pc := 22) C (rfl : kdM 5 = 68) g3 dX9_turn_22 ?_
    refine z_aload_n 0 (pc := 23) C dX9_turn_23 rfl rfl ?_
    refine gfX9_22 (pc := 24) C (rfl : kdM 0 = 9) dX9_turn_24 ?_
    refine z_bipush (pc := 27) (v := (6 : Int32)) C dX9_turn_27 (by decide) ?_
    refine z_iload_n 1 (pc := 29) C dX9_turn_29 rfl rfl ?_
    refine z_imul (pc := 30) C dX9_turn_30 ?_
    refine z_iload_n 3 (pc := 31) C dX9_turn_31 rfl rfl ?_
    refine z_iadd (pc := 32) C dX9_turn_32 ?_
    obtain ⟨g4, hF⟩ := gd_of hF
    refine iaM48 (pc := 33) C (rfl : kdM 5 = 68) g4 dX9_turn_33 ?_
    refine z_icmp_eq 41 (pc := 34) C dX9_turn_34 (by decide) (fun c5 => ?_) (fun c5 => ?_)
    · have hF := if_t hF c5
      refine z_iconst (pc := 41) (v := (0 : Int32)) C dX9_turn_41 (by decide) ?_
      exact z_iret (pc := 42) C hQ hr rfl dX9_turn_42 (by cases hF; rfl) (by cases hF; rfl) (Nat.le_of_ble_eq_true rfl) (Nat.le_of_ble_eq_true rfl)
    · have hF := if_f hF c5
      refine z_iconst (pc := 37) (v := (1 : Int32)) C dX9_turn_37 (by decide) ?_
      refine z_goto 42 (pc := 38) C dX9_turn_38 (by decide) ?_
      exact z_iret (pc := 42) C hQ hr rfl dX9_turn_42 (by cases hF; rfl) (by cases hF; rfl) (Nat.le_of_ble_eq_true rfl) (Nat.le_of_ble_eq_true rfl)
def fX9_wanted_L4 (S : St) (next3 : Int32 → Int32 → Option (Int32)) (v1 : Int32) (v2 : Int32) : Option (Int32) :=
  if (gi S 0 4) ≤ v2 then (
    some v1)
  else (
    gd (inb v2 8) (
    bv ((v1 + (gi S 19 v2.toNatClampNeg))) (fun (v8 : Int32) =>
    bv (v2 + 1) (fun (v10 : Int32) =>
    next3 v8 v10))))
def fX9_wanted (S : St) : Option (Int32) :=
  bn1 (lq2 (fX9_wanted_L4 S) 200 (0 : Int32) (0 : Int32)) (fun (v4 : Int32) =>
    some (v4))
abbrev rmX9_wanted : Room := { frames := 6, cells := 0, slots := 0, locals := 90 }
set_option maxRecDepth 100000 in
set_option maxHeartbeats 4000000 in
theorem mX9_wanted {l : Launch} {D : va_G} {cs : Nat → ClassId} {a : Nat → Nat} (hT : l.stackTraces = false) {S : St} {r : Int32} (hF : fX9_wanted S = some r) : MX l 33 GM D cs a yX9_wanted cX9_wanted 3 (some .int) rmX9_wanted [.ref (a 0)] S (.inr (some (.int r))) S := by
  refine zm_entry [(0, .ref (a 0))] hT (by decide +kernel) (Nat.le_of_ble_eq_true rfl) rfl (fun E hEl hED hEk C hQ hr => ?_)
  subst hEl
  subst hED
  subst hEk
  unfold fX9_wanted at hF
  refine z_iconst (pc := 0) (v := (0 : Int32)) C dX9_wanted_0 (by decide) ?_
  refine z_istore_n (pc := 1) (loc' := [(1, .int (0 : Int32)), (0, .ref (a 0))]) C dX9_wanted_1 rfl (by decide) rfl ?_
  refine z_iconst (pc := 2) (v := (0 : Int32)) C dX9_wanted_2 (by decide) ?_
  refine z_istore_n (pc := 3) (loc' := [(2, .int (0 : Int32)), (1, .int (0 : Int32)), (0, .ref (a 0))]) C dX9_wanted_3 rfl (by decide) rfl ?_
  refine z_sub [2, 1, 0] rfl ?_
  obtain ⟨v4', hR, hF⟩ := bn1_of hF
  have hJ5 : ∀ (v4 : Int32), (some v4 : Option (Int32)) = some v4' → Zz E (WM E a S) 0 0 27 [(1, .int v4)] [] := by
    intro v4 hE
    have hE0 := Option.some.inj hE
    subst hE0
    refine z_iload_n 0 (pc := 27) C dX9_wanted_27 rfl rfl ?_
    exact z_iret (pc := 28) C hQ hr rfl dX9_wanted_28 (by cases hF; rfl) (by cases hF; rfl) (Nat.le_of_ble_eq_true rfl) (Nat.le_of_ble_eq_true rfl)
  have hF := hR
  clear hR
  refine lq2_W (P := fun (v1 : Int32) (v2 : Int32) => Zz E (WM E a S) 0 0 4 [(0, .ref (a 0)), (1, .int v1), (2, .int v2)] []) (fun next3 hN3 v1 v2 hF => ?_) _ _ _ hF
  unfold fX9_wanted_L4 at hF
  refine z_iload_n 2 (pc := 4) C dX9_wanted_4 rfl rfl ?_
  refine z_aload_n 0 (pc := 5) C dX9_wanted_5 rfl rfl ?_
  refine gfX9_110 (pc := 6) C (rfl : kdM 0 = 9) dX9_wanted_6 ?_
  refine z_icmp_ge 27 (pc := 9) C dX9_wanted_9 (by decide) (fun c6 => ?_) (fun c6 => ?_)
  · have hF := if_t hF c6
    refine z_sub [1] rfl ?_
    exact hJ5 _ hF
  · have hF := if_f hF c6
    refine z_iload_n 1 (pc := 12) C dX9_wanted_12 rfl rfl ?_
    refine z_aload_n 0 (pc := 13) C dX9_wanted_13 rfl rfl ?_
    refine gfX9_64 (pc := 14) C (rfl : kdM 0 = 9) dX9_wanted_14 ?_
    refine z_iload_n 2 (pc := 17) C dX9_wanted_17 rfl rfl ?_
    obtain ⟨g7, hF⟩ := gd_of hF
    refine iaM8 (pc := 18) C (rfl : kdM 19 = 28) g7 dX9_wanted_18 ?_
    refine z_iadd (pc := 19) C dX9_wanted_19 ?_
    obtain ⟨v8, e9, hF⟩ := bv_of hF
    refine z_topi e9 ?_
    refine z_istore_n (pc := 20) (loc' := [(1, .int v8), (0, .ref (a 0)), (2, .int v2)]) C dX9_wanted_20 rfl (by decide) rfl ?_
    obtain ⟨v10, e11, hF⟩ := bv_of hF
    refine z_iinc 2 (pc := 21) (v := v10) (loc' := [(2, .int v10), (1, .int v8), (0, .ref (a 0))]) C dX9_wanted_21 rfl (by rw [e11]; rfl) (by decide) rfl ?_
    refine z_goto 4 (pc := 24) C dX9_wanted_24 (by decide) ?_
    refine z_sub [2, 1, 0] rfl ?_
    exact hN3 _ _ hF
def fX9_wing (S : St) (p1 : Int32) (p2 : Int32) (p3 : Int32) : Option (Int32) :=
  if p3 ≤ 0 then (
    some ((p2 + (1 : Int32))))
  else (
    gd (inb p1 8) (
    some ((((gi S 3 p1.toNatClampNeg) - (1 : Int32)) - p2))))
abbrev rmX9_wing : Room := { frames := 6, cells := 0, slots := 0, locals := 90 }
set_option maxRecDepth 100000 in
set_option maxHeartbeats 4000000 in
theorem mX9_wing {l : Launch} {D : va_G} {cs : Nat → ClassId} {a : Nat → Nat} (hT : l.stackTraces = false) {S : St} {p1 : Int32} {p2 : Int32} {p3 : Int32} {r : Int32} (hF : fX9_wing S p1 p2 p3 = some r) : MX l 33 GM D cs a yX9_wing cX9_wing 4 (some .int) rmX9_wing [.ref (a 0), .int p1, .int p2, .int p3] S (.inr (some (.int r))) S := by
  refine zm_entry [(0, .ref (a 0)), (1, .int p1), (2, .int p2), (3, .int p3)] hT (by decide +kernel) (Nat.le_of_ble_eq_true rfl) rfl (fun E hEl hED hEk C hQ hr => ?_)
  subst hEl
  subst hED
  subst hEk
  unfold fX9_wing at hF
  refine z_iload_n 3 (pc := 0) C dX9_wing_0 rfl rfl ?_
  refine z_if_le 17 (pc := 1) C dX9_wing_1 (by decide) (fun c1 => ?_) (fun c1 => ?_)
  · have hF := if_t hF c1
    refine z_iload_n 2 (pc := 17) C dX9_wing_17 rfl rfl ?_
    refine z_iconst (pc := 18) (v := (1 : Int32)) C dX9_wing_18 (by decide) ?_
    refine z_iadd (pc := 19) C dX9_wing_19 ?_
    exact z_iret (pc := 20) C hQ hr rfl dX9_wing_20 (by cases hF; rfl) (by cases hF; rfl) (Nat.le_of_ble_eq_true rfl) (Nat.le_of_ble_eq_true rfl)
  · have hF := if_f hF c1
    refine z_aload_n 0 (pc := 4) C dX9_wing_4 rfl rfl ?_
    refine gfX9_16 (pc := 5) C (rfl : kdM 0 = 9) dX9_wing_5 ?_
    refine z_iload_n 1 (pc := 8) C dX9_wing_8 rfl rfl ?_
    obtain ⟨g2, hF⟩ := gd_of hF
    refine iaM8 (pc := 9) C (rfl : kdM 3 = 28) g2 dX9_wing_9 ?_
    refine z_iconst (pc := 10) (v := (1 : Int32)) C dX9_wing_10 (by decide) ?_
    refine z_isub (pc := 11) C dX9_wing_11 ?_
    refine z_iload_n 2 (pc := 12) C dX9_wing_12 rfl rfl ?_
    refine z_isub (pc := 13) C dX9_wing_13 ?_
    refine z_goto 20 (pc := 14) C dX9_wing_14 (by decide) ?_
    exact z_iret (pc := 20) C hQ hr rfl dX9_wing_20 (by cases hF; rfl) (by cases hF; rfl) (Nat.le_of_ble_eq_true rfl) (Nat.le_of_ble_eq_true rfl)
def fX9_wipe (S : St) : Option ((Int32 × St)) :=
  bv (si S 0 0 (0 : Int32)) (fun (S1 : St) =>
  bv ((gi S1 0 1)) (fun (v3 : Int32) =>
  bv (si S1 0 1 (0 : Int32)) (fun (S5 : St) =>
  some (v3, S5))))
abbrev rmX9_wipe : Room := { frames := 6, cells := 0, slots := 0, locals := 90 }
set_option maxRecDepth 100000 in
set_option maxHeartbeats 4000000 in
theorem mX9_wipe {l : Launch} {D : va_G} {cs : Nat → ClassId} {a : Nat → Nat} (hT : l.stackTraces = false) {S : St} {r : Int32} {S' : St} (hF : fX9_wipe S = some (r, S')) : MX l 33 GM D cs a yX9_wipe cX9_wipe 2 (some .int) rmX9_wipe [.ref (a 0)] S (.inr (some (.int r))) S' := by
  refine zm_entry [(0, .ref (a 0))] hT (by decide +kernel) (Nat.le_of_ble_eq_true rfl) rfl (fun E hEl hED hEk C hQ hr => ?_)
  subst hEl
  subst hED
  subst hEk
  unfold fX9_wipe at hF
  refine z_aload_n 0 (pc := 0) C dX9_wipe_0 rfl rfl ?_
  refine z_iconst (pc := 1) (v := (0 : Int32)) C dX9_wipe_1 (by decide) ?_
  refine pfX9_106 (pc := 2) C (rfl : kdM 0 = 9) dX9_wipe_2 ?_
  obtain ⟨S1, e2, hF⟩ := bv_of hF
  rw [← e2]
  refine z_aload_n 0 (pc := 5) C dX9_wipe_5 rfl rfl ?_
  refine gfX9_123 (pc := 6) C (rfl : kdM 0 = 9) dX9_wipe_6 ?_
  obtain ⟨v3, e4, hF⟩ := bv_of hF
  refine z_topi e4 ?_
  refine z_istore_n (pc := 9) (loc' := [(1, .int v3), (0, .ref (a 0))]) C dX9_wipe_9 rfl (by decide) rfl ?_
  refine z_aload_n 1 (pc := 10) C dX9_wipe_10 rfl rfl ?_
  refine z_iconst (pc := 11) (v := (0 : Int32)) C dX9_wipe_11 (by decide) ?_
  refine pfX9_123 (pc := 12) C (rfl : kdM 0 = 9) dX9_wipe_12 ?_
  obtain ⟨S5, e6, hF⟩ := bv_of hF
  rw [← e6]
  refine z_iload_n 0 (pc := 15) C dX9_wipe_15 rfl rfl ?_
  exact z_iret (pc := 16) C hQ hr rfl dX9_wipe_16 (by cases hF; rfl) (by cases hF; rfl) (Nat.le_of_ble_eq_true rfl) (Nat.le_of_ble_eq_true rfl)
def fX9_clear_L12 (next6 : Int32 → St → Option (St)) (v4 : Int32) (S5 : St) : Option (St) :=
  if (8 : Int32) ≤ v4 then (
    some S5)
  else (
    gd (inb v4 8) (
    bv (si S5 19 v4.toNatClampNeg (0 : Int32)) (fun (S11 : St) =>
    bv (v4 + 1) (fun (v13 : Int32) =>
    next6 v13 S11))))
def fX9_clear (S : St) : Option ((Int32 × St)) :=
  bv (si S 0 0 (0 : Int32)) (fun (S1 : St) =>
  bn1 (fX9_wanted S1) (fun (v3 : Int32) =>
  bn1 (lq2 (fX9_clear_L12) 200 (0 : Int32) S1) (fun (S7 : St) =>
    some (v3, S7))))
abbrev rmX9_clear : Room := { frames := 7, cells := 0, slots := 0, locals := 130 }
set_option maxRecDepth 100000 in
set_option maxHeartbeats 4000000 in
theorem mX9_clear {l : Launch} {D : va_G} {cs : Nat → ClassId} {a : Nat → Nat} (hT : l.stackTraces = false) {S : St} {r : Int32} {S' : St} (hF : fX9_clear S = some (r, S')) : MX l 33 GM D cs a yX9_clear cX9_clear 3 (some .int) rmX9_clear [.ref (a 0)] S (.inr (some (.int r))) S' := by
  refine zm_entry [(0, .ref (a 0))] hT (by decide +kernel) (Nat.le_of_ble_eq_true rfl) rfl (fun E hEl hED hEk C hQ hr => ?_)
  subst hEl
  subst hED
  subst hEk
  unfold fX9_clear at hF
  refine z_aload_n 0 (pc := 0) C dX9_clear_0 rfl rfl ?_
  refine z_iconst (pc := 1) (v := (0 : Int32)) C dX9_clear_1 (by decide) ?_
  refine pfX9_106 (pc := 2) C (rfl : kdM 0 = 9) dX9_clear_2 ?_
  obtain ⟨S1, e2, hF⟩ := bv_of hF
  rw [← e2]
  refine z_aload_n 0 (pc := 5) C dX9_clear_5 rfl rfl ?_
  obtain ⟨v3, hG, hF⟩ := bn1_of hF
  refine z_callV [] (pc := 6) (st1 := [.int v3]) (c1 := 0) (s1 := 0) C (mX9_wanted C.hT hG) kX9_201 (kdM_lt (rfl : kdM 0 = 9) (by decide)) (gM_9 (rfl : kdM 0 = 9)) rfl rfl rfl rfl (Nat.le_of_ble_eq_true rfl) ⟨(Nat.le_of_ble_eq_true rfl), (Nat.le_of_ble_eq_true rfl)⟩ ⟨(Nat.le_of_ble_eq_true rfl), (Nat.le_of_ble_eq_true rfl)⟩ dX9_clear_6 rfl rfl ?_
  refine z_istore_n (pc := 9) (loc' := [(1, .int v3), (0, .ref (a 0))]) C dX9_clear_9 rfl (by decide) rfl ?_
  refine z_iconst (pc := 10) (v := (0 : Int32)) C dX9_clear_10 (by decide) ?_
  refine z_istore_n (pc := 11) (loc' := [(2, .int (0 : Int32)), (1, .int v3), (0, .ref (a 0))]) C dX9_clear_11 rfl (by decide) rfl ?_
  refine z_sub [2, 1, 0] rfl ?_
  obtain ⟨S7', hR, hF⟩ := bn1_of hF
  have hJ8 : ∀ (S7 : St), (some S7 : Option (St)) = some S7' → Zz E (WM E a S7) 0 0 31 [(1, .int v3)] [] := by
    intro S7 hE
    have hE0 := Option.some.inj hE
    subst hE0
    refine z_iload_n 0 (pc := 31) C dX9_clear_31 rfl rfl ?_
    exact z_iret (pc := 32) C hQ hr rfl dX9_clear_32 (by cases hF; rfl) (by cases hF; rfl) (Nat.le_of_ble_eq_true rfl) (Nat.le_of_ble_eq_true rfl)
  have hF := hR
  clear hR
  refine lq2_W (P := fun (v4 : Int32) (S5 : St) => Zz E (WM E a S5) 0 0 12 [(0, .ref (a 0)), (1, .int v3), (2, .int v4)] []) (fun next6 hN6 v4 S5 hF => ?_) _ _ _ hF
  unfold fX9_clear_L12 at hF
  refine z_iload_n 2 (pc := 12) C dX9_clear_12 rfl rfl ?_
  refine z_bipush (pc := 13) (v := (8 : Int32)) C dX9_clear_13 (by decide) ?_
  refine z_icmp_ge 31 (pc := 15) C dX9_clear_15 (by decide) (fun c9 => ?_) (fun c9 => ?_)
  · have hF := if_t hF c9
    refine z_sub [1] rfl ?_
    exact hJ8 _ hF
  · have hF := if_f hF c9
    refine z_aload_n 0 (pc := 18) C dX9_clear_18 rfl rfl ?_
    refine gfX9_64 (pc := 19) C (rfl : kdM 0 = 9) dX9_clear_19 ?_
    refine z_iload_n 2 (pc := 22) C dX9_clear_22 rfl rfl ?_
    refine z_iconst (pc := 23) (v := (0 : Int32)) C dX9_clear_23 (by decide) ?_
    obtain ⟨g10, hF⟩ := gd_of hF
    refine saM8 (pc := 24) C (rfl : kdM 19 = 28) g10 dX9_clear_24 ?_
    obtain ⟨S11, e12, hF⟩ := bv_of hF
    rw [← e12]
    obtain ⟨v13, e14, hF⟩ := bv_of hF
    refine z_iinc 2 (pc := 25) (v := v13) (loc' := [(2, .int v13), (0, .ref (a 0)), (1, .int v3)]) C dX9_clear_25 rfl (by rw [e14]; rfl) (by decide) rfl ?_
    refine z_goto 12 (pc := 28) C dX9_clear_28 (by decide) ?_
    refine z_sub [1, 2, 0] rfl ?_
    exact hN6 _ _ hF
def fX9_face (S : St) (p1 : Int32) (p2 : Int32) : Option ((Int32 × St)) :=
  bn1 (fX9_in p1 (10 : Int32) (200 : Int32)) (fun (v1 : Int32) =>
  bn1 (jn0 (
    some (0 : Int32)) (fun J22 =>
    if v1 = 0 then (
      J22)
    else (
      bn1 (fX9_in p2 (0 : Int32) (1 : Int32)) (fun (v24 : Int32) =>
      if v24 = 0 then (
        J22)
      else (
        some (1 : Int32)))))) (fun (v2 : Int32) =>
    bn1 (if v2 = 0 then (
      some (1 : Int32))
    else (
      if (gi S 0 1) = (6 : Int32) then (
        some (2 : Int32))
      else (
        some (0 : Int32)))) (fun (v3 : Int32) =>
      bn2 (fX9_goesWell S v3) (fun (v4 : Int32) (S5 : St) =>
      if v4 = 0 then (
        some ((0 : Int32), S5))
      else (
        gd (inb (gi S5 0 1) 6) (
        bv (si S5 1 (gi S5 0 1).toNatClampNeg p1) (fun (S8 : St) =>
        bn1 (if (gi S8 0 1) ≤ 0 then (
          some S8)
        else (
          gd (inb ((gi S8 0 1) - (1 : Int32)) 6) (
          bv (si S8 2 ((gi S8 0 1) - (1 : Int32)).toNatClampNeg p2) (fun (S16 : St) =>
          some S16)))) (fun (S10 : St) =>
          bv (si S10 0 1 ((gi S10 0 1) + (1 : Int32))) (fun (S11 : St) =>
          some ((gi S11 0 1), S11))))))))))
abbrev rmX9_face : Room := { frames := 7, cells := 0, slots := 0, locals := 130 }
set_option maxRecDepth 100000 in
set_option maxHeartbeats 4000000 in
theorem mX9_face {l : Launch} {D : va_G} {cs : Nat → ClassId} {a : Nat → Nat} (hT : l.stackTraces = false) {S : St} {p1 : Int32} {p2 : Int32} {r : Int32} {S' : St} (hF : fX9_face S p1 p2 = some (r, S')) : MX l 33 GM D cs a yX9_face cX9_face 4 (some .int) rmX9_face [.ref (a 0), .int p1, .int p2] S (.inr (some (.int r))) S' := by
  refine zm_entry [(0, .ref (a 0)), (1, .int p1), (2, .int p2)] hT (by decide +kernel) (Nat.le_of_ble_eq_true rfl) rfl (fun E hEl hED hEk C hQ hr => ?_)
  subst hEl
  subst hED
  subst hEk
  unfold fX9_face at hF
  refine z_iload_n 1 (pc := 0) C dX9_face_0 rfl rfl ?_
  refine z_bipush (pc := 1) (v := (10 : Int32)) C dX9_face_1 (by decide) ?_
  refine z_sipush (pc := 3) (v := (200 : Int32)) C dX9_face_3 (by decide) ?_
  obtain ⟨v1, hG, hF⟩ := bn1_of hF
  refine z_callS [.int p1, .int (10 : Int32), .int (200 : Int32)] (pc := 6) (st1 := [.int v1]) (c1 := 0) (s1 := 0) C (mX9_in C.hT hG) kX9_113 rfl rfl rfl rfl (Nat.le_of_ble_eq_true rfl) ⟨(Nat.le_of_ble_eq_true rfl), (Nat.le_of_ble_eq_true rfl)⟩ ⟨(Nat.le_of_ble_eq_true rfl), (Nat.le_of_ble_eq_true rfl)⟩ dX9_face_6 rfl rfl ?_
  obtain ⟨v2', hR, hF⟩ := bn1_of hF
  have hJ21 : ∀ (v2 : Int32), (some v2 : Option (Int32)) = some v2' → Zz E (WM E a S) 0 0 26 [(0, .ref (a 0)), (1, .int p1), (2, .int p2)] [.int v2] := by
    intro v2 hE
    have hE0 := Option.some.inj hE
    subst hE0
    refine z_istore_n (pc := 26) (loc' := [(3, .int v2), (0, .ref (a 0)), (1, .int p1), (2, .int p2)]) C dX9_face_26 rfl (by decide) rfl ?_
    refine z_aload_n 1 (pc := 27) C dX9_face_27 rfl rfl ?_
    refine z_iload_n 0 (pc := 28) C dX9_face_28 rfl rfl ?_
    obtain ⟨v3', hR, hF⟩ := bn1_of hF
    have hJ18 : ∀ (v3 : Int32), (some v3 : Option (Int32)) = some v3' → Zz E (WM E a S) 0 0 50 [(0, .ref (a 0)), (1, .int p1), (2, .int p2)] [.int v3, .ref (a 0)] := by
      intro v3 hE
      have hE0 := Option.some.inj hE
      subst hE0
      obtain ⟨v4, S5, hG, hF⟩ := bn2_of hF
      refine z_callV [.int v3] (pc := 50) (st1 := [.int v4]) (c1 := 0) (s1 := 0) C (mX9_goesWell C.hT hG) kX9_126 (kdM_lt (rfl : kdM 0 = 9) (by decide)) (gM_9 (rfl : kdM 0 = 9)) rfl rfl rfl rfl (Nat.le_of_ble_eq_true rfl) ⟨(Nat.le_of_ble_eq_true rfl), (Nat.le_of_ble_eq_true rfl)⟩ ⟨(Nat.le_of_ble_eq_true rfl), (Nat.le_of_ble_eq_true rfl)⟩ dX9_face_50 rfl rfl ?_
      refine z_if_ne 58 (pc := 53) C dX9_face_53 (by decide) (fun c6 => ?_) (fun c6 => ?_)
      · have hF := if_f hF c6
        refine z_aload_n 0 (pc := 58) C dX9_face_58 rfl rfl ?_
        refine gfX9_7 (pc := 59) C (rfl : kdM 0 = 9) dX9_face_59 ?_
        refine z_aload_n 0 (pc := 62) C dX9_face_62 rfl rfl ?_
        refine gfX9_123 (pc := 63) C (rfl : kdM 0 = 9) dX9_face_63 ?_
        refine z_iload_n 1 (pc := 66) C dX9_face_66 rfl rfl ?_
        obtain ⟨g7, hF⟩ := gd_of hF
        refine saM6 (pc := 67) C (rfl : kdM 1 = 26) g7 dX9_face_67 ?_
        obtain ⟨S8, e9, hF⟩ := bv_of hF
        rw [← e9]
        refine z_aload_n 0 (pc := 68) C dX9_face_68 rfl rfl ?_
        refine gfX9_123 (pc := 69) C (rfl : kdM 0 = 9) dX9_face_69 ?_
        obtain ⟨S10', hR, hF⟩ := bn1_of hF
        have hJ13 : ∀ (S10 : St), (some S10 : Option (St)) = some S10' → Zz E (WM E a S10) 0 0 87 [(0, .ref (a 0))] [] := by
          intro S10 hE
          have hE0 := Option.some.inj hE
          subst hE0
          refine z_aload_n 0 (pc := 87) C dX9_face_87 rfl rfl ?_
          refine z_dup (pc := 88) C dX9_face_88 rfl ?_
          refine gfX9_123 (pc := 89) C (rfl : kdM 0 = 9) dX9_face_89 ?_
          refine z_iconst (pc := 92) (v := (1 : Int32)) C dX9_face_92 (by decide) ?_
          refine z_iadd (pc := 93) C dX9_face_93 ?_
          refine pfX9_123 (pc := 94) C (rfl : kdM 0 = 9) dX9_face_94 ?_
          obtain ⟨S11, e12, hF⟩ := bv_of hF
          rw [← e12]
          refine z_aload_n 0 (pc := 97) C dX9_face_97 rfl rfl ?_
          refine gfX9_123 (pc := 98) C (rfl : kdM 0 = 9) dX9_face_98 ?_
          exact z_iret (pc := 101) C hQ hr rfl dX9_face_101 (by cases hF; rfl) (by cases hF; rfl) (Nat.le_of_ble_eq_true rfl) (Nat.le_of_ble_eq_true rfl)
        have hF := hR
        clear hR
        refine z_if_le 87 (pc := 72) C dX9_face_72 (by decide) (fun c14 => ?_) (fun c14 => ?_)
        · have hF := if_t hF c14
          refine z_sub [0] rfl ?_
          exact hJ13 _ hF
        · have hF := if_f hF c14
          refine z_aload_n 0 (pc := 75) C dX9_face_75 rfl rfl ?_
          refine gfX9_13 (pc := 76) C (rfl : kdM 0 = 9) dX9_face_76 ?_
          refine z_aload_n 0 (pc := 79) C dX9_face_79 rfl rfl ?_
          refine gfX9_123 (pc := 80) C (rfl : kdM 0 = 9) dX9_face_80 ?_
          refine z_iconst (pc := 83) (v := (1 : Int32)) C dX9_face_83 (by decide) ?_
          refine z_isub (pc := 84) C dX9_face_84 ?_
          refine z_iload_n 2 (pc := 85) C dX9_face_85 rfl rfl ?_
          obtain ⟨g15, hF⟩ := gd_of hF
          refine saM6 (pc := 86) C (rfl : kdM 2 = 26) g15 dX9_face_86 ?_
          obtain ⟨S16, e17, hF⟩ := bv_of hF
          rw [← e17]
          refine z_sub [0] rfl ?_
          exact hJ13 _ hF
      · have hF := if_t hF c6
        refine z_iconst (pc := 56) (v := (0 : Int32)) C dX9_face_56 (by decide) ?_
        exact z_iret (pc := 57) C hQ hr rfl dX9_face_57 (by cases hF; rfl) (by cases hF; rfl) (Nat.le_of_ble_eq_true rfl) (Nat.le_of_ble_eq_true rfl)
    have hF := hR
    clear hR
    refine z_if_ne 36 (pc := 29) C dX9_face_29 (by decide) (fun c19 => ?_) (fun c19 => ?_)
    · have hF := if_f hF c19
      refine z_aload_n 1 (pc := 36) C dX9_face_36 rfl rfl ?_
      refine gfX9_123 (pc := 37) C (rfl : kdM 0 = 9) dX9_face_37 ?_
      refine z_bipush (pc := 40) (v := (6 : Int32)) C dX9_face_40 (by decide) ?_
      refine z_icmp_ne 49 (pc := 42) C dX9_face_42 (by decide) (fun c20 => ?_) (fun c20 => ?_)
      · have hF := if_f hF c20
        refine z_iconst (pc := 49) (v := (0 : Int32)) C dX9_face_49 (by decide) ?_
        refine z_sub [1, 2, 3] rfl ?_
        exact hJ18 _ hF
      · have hF := if_t hF c20
        refine z_iconst (pc := 45) (v := (2 : Int32)) C dX9_face_45 (by decide) ?_
        refine z_goto 50 (pc := 46) C dX9_face_46 (by decide) ?_
        refine z_sub [1, 2, 3] rfl ?_
        exact hJ18 _ hF
    · have hF := if_t hF c19
      refine z_iconst (pc := 32) (v := (1 : Int32)) C dX9_face_32 (by decide) ?_
      refine z_goto 50 (pc := 33) C dX9_face_33 (by decide) ?_
      refine z_sub [1, 2, 3] rfl ?_
      exact hJ18 _ hF
  have hF := hR
  clear hR
  obtain ⟨J22, hdJ22, hF⟩ := jn0_of hF
  have hJ22 : J22 = some v2' → Zz E (WM E a S) 0 0 25 [(0, .ref (a 0)), (1, .int p1), (2, .int p2)] [] := by
    intro hF
    have hF := hdJ22.symm.trans hF
    refine z_iconst (pc := 25) (v := (0 : Int32)) C dX9_face_25 (by decide) ?_
    exact hJ21 _ hF
  refine z_if_eq 25 (pc := 9) C dX9_face_9 (by decide) (fun c23 => ?_) (fun c23 => ?_)
  · have hF := if_t hF c23
    exact hJ22 hF
  · have hF := if_f hF c23
    refine z_iload_n 2 (pc := 12) C dX9_face_12 rfl rfl ?_
    refine z_iconst (pc := 13) (v := (0 : Int32)) C dX9_face_13 (by decide) ?_
    refine z_iconst (pc := 14) (v := (1 : Int32)) C dX9_face_14 (by decide) ?_
    obtain ⟨v24, hG, hF⟩ := bn1_of hF
    refine z_callS [.int p2, .int (0 : Int32), .int (1 : Int32)] (pc := 15) (st1 := [.int v24]) (c1 := 0) (s1 := 0) C (mX9_in C.hT hG) kX9_113 rfl rfl rfl rfl (Nat.le_of_ble_eq_true rfl) ⟨(Nat.le_of_ble_eq_true rfl), (Nat.le_of_ble_eq_true rfl)⟩ ⟨(Nat.le_of_ble_eq_true rfl), (Nat.le_of_ble_eq_true rfl)⟩ dX9_face_15 rfl rfl ?_
    refine z_if_eq 25 (pc := 18) C dX9_face_18 (by decide) (fun c25 => ?_) (fun c25 => ?_)
    · have hF := if_t hF c25
      exact hJ22 hF
    · have hF := if_f hF c25
      refine z_iconst (pc := 21) (v := (1 : Int32)) C dX9_face_21 (by decide) ?_
      refine z_goto 26 (pc := 22) C dX9_face_22 (by decide) ?_
      exact hJ21 _ hF
