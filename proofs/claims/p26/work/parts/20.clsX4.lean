def fX3_layAll_L12 (v1 : Int32) (next9 : Int32 → St → Option (St)) (v7 : Int32) (S8 : St) : Option (St) :=
  gd (inb v1 8) (
  if (gi S8 23 v1.toNatClampNeg) ≤ v7 then (
    some S8)
  else (
    gd (inb v1 8) (
    gd (inb v1 8) (
    bn1 (fX3_lay S8 (gi S8 21 v1.toNatClampNeg) (gi S8 22 v1.toNatClampNeg)) (fun (S18 : St) =>
    bv (v7 + 1) (fun (v19 : Int32) =>
    next9 v19 S18))))))
def fX3_layAll_L2 (next3 : Int32 → St → Option (St)) (v1 : Int32) (S2 : St) : Option (St) :=
  if (gi S2 20 5) ≤ v1 then (
    some S2)
  else (
    bn1 (lq2 (fX3_layAll_L12 v1) 200 (0 : Int32) S2) (fun (S10 : St) =>
      bv (v1 + 1) (fun (v11 : Int32) =>
      next3 v11 S10)))
def fX3_layAll (S : St) : Option (St) :=
  bn1 (lq2 (fX3_layAll_L2) 200 (0 : Int32) S) (fun (S4 : St) =>
    some S4)
abbrev rmX3_layAll : Room := { frames := 9, cells := 0, slots := 0, locals := 210 }
set_option maxRecDepth 100000 in
set_option maxHeartbeats 4000000 in
theorem mX3_layAll {l : Launch} {D : va_G} {cs : Nat → ClassId} {a : Nat → Nat} (hT : l.stackTraces = false) {S : St} {S' : St} (hF : fX3_layAll S = some S') : MX l 113 GX D cs a yX3_layAll cX3_layAll 3 none rmX3_layAll [.ref (a 20)] S (.inr none) S' := by
  refine zm_entry [(0, .ref (a 20))] hT (by decide +kernel) (Nat.le_of_ble_eq_true rfl) rfl (fun E hEl hED hEk C hQ hr => ?_)
  subst hEl
  subst hED
  subst hEk
  unfold fX3_layAll at hF
  refine z_iconst (pc := 0) (v := (0 : Int32)) C dX3_layAll_0 (by decide) ?_
  refine z_istore_n (pc := 1) (loc' := [(1, .int (0 : Int32)), (0, .ref (a 20))]) C dX3_layAll_1 rfl (by decide) rfl ?_
  refine z_sub [1, 0] rfl ?_
  obtain ⟨S4', hR, hF⟩ := bn1_of hF
  have hJ5 : ∀ (S4 : St), (some S4 : Option (St)) = some S4' → Zz E (WX E a S4) 0 0 50 [] [] := by
    intro S4 hE
    have hE0 := Option.some.inj hE
    subst hE0
    exact z_vret (pc := 50) C hQ hr dX3_layAll_50 (by cases hF; rfl) (by cases hF; rfl) (Nat.le_of_ble_eq_true rfl) (Nat.le_of_ble_eq_true rfl)
  have hF := hR
  clear hR
  refine lq2_W (P := fun (v1 : Int32) (S2 : St) => Zz E (WX E a S2) 0 0 2 [(0, .ref (a 20)), (1, .int v1)] []) (fun next3 hN3 v1 S2 hF => ?_) _ _ _ hF
  unfold fX3_layAll_L2 at hF
  refine z_iload_n 1 (pc := 2) C dX3_layAll_2 rfl rfl ?_
  refine z_aload_n 0 (pc := 3) C dX3_layAll_3 rfl rfl ?_
  refine gfX3_43 (pc := 4) C (rfl : kdX 20 = 3) dX3_layAll_4 ?_
  refine z_icmp_ge 50 (pc := 7) C dX3_layAll_7 (by decide) (fun c6 => ?_) (fun c6 => ?_)
  · have hF := if_t hF c6
    refine z_sub [] rfl ?_
    exact hJ5 _ hF
  · have hF := if_f hF c6
    refine z_iconst (pc := 10) (v := (0 : Int32)) C dX3_layAll_10 (by decide) ?_
    refine z_istore_n (pc := 11) (loc' := [(2, .int (0 : Int32)), (0, .ref (a 20)), (1, .int v1)]) C dX3_layAll_11 rfl (by decide) rfl ?_
    refine z_sub [1, 2, 0] rfl ?_
    obtain ⟨S10', hR, hF⟩ := bn1_of hF
    have hJ13 : ∀ (S10 : St), (some S10 : Option (St)) = some S10' → Zz E (WX E a S10) 0 0 44 [(0, .ref (a 20)), (1, .int v1)] [] := by
      intro S10 hE
      have hE0 := Option.some.inj hE
      subst hE0
      obtain ⟨v11, e12, hF⟩ := bv_of hF
      refine z_iinc 1 (pc := 44) (v := v11) (loc' := [(1, .int v11), (0, .ref (a 20))]) C dX3_layAll_44 rfl (by rw [e12]; rfl) (by decide) rfl ?_
      refine z_goto 2 (pc := 47) C dX3_layAll_47 (by decide) ?_
      refine z_sub [1, 0] rfl ?_
      exact hN3 _ _ hF
    have hF := hR
    clear hR
    refine lq2_W (P := fun (v7 : Int32) (S8 : St) => Zz E (WX E a S8) 0 0 12 [(0, .ref (a 20)), (1, .int v1), (2, .int v7)] []) (fun next9 hN9 v7 S8 hF => ?_) _ _ _ hF
    unfold fX3_layAll_L12 at hF
    refine z_iload_n 2 (pc := 12) C dX3_layAll_12 rfl rfl ?_
    refine z_aload_n 0 (pc := 13) C dX3_layAll_13 rfl rfl ?_
    refine gfX3_18 (pc := 14) C (rfl : kdX 20 = 3) dX3_layAll_14 ?_
    refine z_iload_n 1 (pc := 17) C dX3_layAll_17 rfl rfl ?_
    obtain ⟨g14, hF⟩ := gd_of hF
    refine iaX8 (pc := 18) C (rfl : kdX 23 = 28) g14 dX3_layAll_18 ?_
    refine z_icmp_ge 44 (pc := 19) C dX3_layAll_19 (by decide) (fun c15 => ?_) (fun c15 => ?_)
    · have hF := if_t hF c15
      refine z_sub [0, 1] rfl ?_
      exact hJ13 _ hF
    · have hF := if_f hF c15
      refine z_aload_n 0 (pc := 22) C dX3_layAll_22 rfl rfl ?_
      refine z_aload_n 0 (pc := 23) C dX3_layAll_23 rfl rfl ?_
      refine gfX3_9 (pc := 24) C (rfl : kdX 20 = 3) dX3_layAll_24 ?_
      refine z_iload_n 1 (pc := 27) C dX3_layAll_27 rfl rfl ?_
      obtain ⟨g16, hF⟩ := gd_of hF
      refine iaX8 (pc := 28) C (rfl : kdX 21 = 28) g16 dX3_layAll_28 ?_
      refine z_aload_n 0 (pc := 29) C dX3_layAll_29 rfl rfl ?_
      refine gfX3_15 (pc := 30) C (rfl : kdX 20 = 3) dX3_layAll_30 ?_
      refine z_iload_n 1 (pc := 33) C dX3_layAll_33 rfl rfl ?_
      obtain ⟨g17, hF⟩ := gd_of hF
      refine iaX8 (pc := 34) C (rfl : kdX 22 = 28) g17 dX3_layAll_34 ?_
      obtain ⟨S18, hG, hF⟩ := bn1_of hF
      refine z_callV [.int (gi S8 21 v1.toNatClampNeg), .int (gi S8 22 v1.toNatClampNeg)] (pc := 35) (st1 := []) (c1 := 0) (s1 := 0) C (mX3_lay C.hT hG) kX3_72 (kdX_lt (rfl : kdX 20 = 3) (by decide)) (gX_3 (rfl : kdX 20 = 3)) rfl rfl rfl rfl (Nat.le_of_ble_eq_true rfl) ⟨(Nat.le_of_ble_eq_true rfl), (Nat.le_of_ble_eq_true rfl)⟩ ⟨(Nat.le_of_ble_eq_true rfl), (Nat.le_of_ble_eq_true rfl)⟩ dX3_layAll_35 rfl rfl ?_
      obtain ⟨v19, e20, hF⟩ := bv_of hF
      refine z_iinc 2 (pc := 38) (v := v19) (loc' := [(2, .int v19), (0, .ref (a 20)), (1, .int v1)]) C dX3_layAll_38 rfl (by rw [e20]; rfl) (by decide) rfl ?_
      refine z_goto 12 (pc := 41) C dX3_layAll_41 (by decide) ?_
      refine z_sub [1, 2, 0] rfl ?_
      exact hN9 _ _ hF
def fX5_look_L70 (v8 : Int32) (k1 : Nat) (k2 : Nat) (next19 : Int32 → St → Option (St)) (v17 : Int32) (S18 : St) : Option (St) :=
  if (gi S18 15 3) ≤ v17 then (
    some S18)
  else (
    bn1 (fX8_hasBit v8 v17) (fun (v25 : Int32) =>
    bn1 (if v25 = 0 then (
      bn2 (fX1_reason S18 k1 k2 v8 v17) (fun (v31 : Int32) (S32 : St) =>
      if v31 = 0 then (
        gd (inb v8 32) (
        gd (inb v8 32) (
        bv (si S32 16 v8.toNatClampNeg ((gi S32 16 v8.toNatClampNeg) ||| ((1 : Int32) <<< (v17 &&& 31)))) (fun (S36 : St) =>
        some S36))))
      else (
        some S32)))
    else (
      some S18)) (fun (S26 : St) =>
      bv (v17 + 1) (fun (v27 : Int32) =>
      next19 v27 S26))))
def fX5_look_L48 (k1 : Nat) (k2 : Nat) (next10 : Int32 → St → Option (St)) (v8 : Int32) (S9 : St) : Option (St) :=
  if ((1 : Int32) <<< ((gi S9 15 3) &&& 31)) ≤ v8 then (
    some S9)
  else (
    gd (inb v8 32) (
    bv (si S9 16 v8.toNatClampNeg (0 : Int32)) (fun (S15 : St) =>
    bn1 (lq2 (fX5_look_L70 v8 k1 k2) 200 (0 : Int32) S15) (fun (S20 : St) =>
      bv (v8 + 1) (fun (v21 : Int32) =>
      next10 v21 S20)))))
def fX5_look_L14 (k1 : Nat) (next6 : Int32 → St → Option (St)) (v4 : Int32) (S5 : St) : Option (St) :=
  if (gi S5 15 3) ≤ v4 then (
    some S5)
  else (
    bn1 (fX2_directionOf S5 (k1 + 1) v4) (fun (v40 : Int32) =>
    gd (inb v4 5) (
    bv (si S5 18 v4.toNatClampNeg v40) (fun (S42 : St) =>
    bv (v4 + 1) (fun (v44 : Int32) =>
    next6 v44 S42)))))
def fX5_look (S : St) (k1 : Nat) (k2 : Nat) : Option (St) :=
  bn1 (fX2_bends S (k1 + 1)) (fun (v1 : Int32) =>
  bv (si S 15 3 v1) (fun (S2 : St) =>
  bn1 (lq2 (fX5_look_L14 k1) 200 (0 : Int32) S2) (fun (S7 : St) =>
    bn1 (lq2 (fX5_look_L48 k1 k2) 200 (0 : Int32) S7) (fun (S11 : St) =>
      some S11))))
abbrev rmX5_look : Room := { frames := 9, cells := 0, slots := 0, locals := 210 }
set_option maxRecDepth 100000 in
set_option maxHeartbeats 4000000 in
theorem mX5_look {l : Launch} {D : va_G} {cs : Nat → ClassId} {a : Nat → Nat} (hT : l.stackTraces = false) {S : St} {k1 : Nat} {k2 : Nat} {S' : St} (hk1 : kdX k1 = 4) (hk2 : kdX k2 = 6) (hF : fX5_look S k1 k2 = some S') : MX l 113 GX D cs a yX5_look cX5_look 6 none rmX5_look [.ref (a 15), .ref (a k1), .ref (a k2), .ref (a 8)] S (.inr none) S' := by
  refine zm_entry [(0, .ref (a 15)), (1, .ref (a k1)), (2, .ref (a k2)), (3, .ref (a 8))] hT (by decide +kernel) (Nat.le_of_ble_eq_true rfl) rfl (fun E hEl hED hEk C hQ hr => ?_)
  subst hEl
  subst hED
  subst hEk
  unfold fX5_look at hF
  refine z_aload_n 0 (pc := 0) C dX5_look_0 rfl rfl ?_
  refine z_aload_n 1 (pc := 1) C dX5_look_1 rfl rfl ?_
  refine gfX5_54 (pc := 2) C hk1 dX5_look_2 ?_
  obtain ⟨v1, hG, hF⟩ := bn1_of hF
  refine z_callV [] (pc := 5) (st1 := [.int v1, .ref (a 15)]) (c1 := 0) (s1 := 0) C (mX2_bends C.hT (kX_4_0 hk1) hG) kX5_60 (kdX_lt (kX_4_0 hk1) (by decide)) (gX_2 (kX_4_0 hk1)) rfl rfl rfl rfl (Nat.le_of_ble_eq_true rfl) ⟨(Nat.le_of_ble_eq_true rfl), (Nat.le_of_ble_eq_true rfl)⟩ ⟨(Nat.le_of_ble_eq_true rfl), (Nat.le_of_ble_eq_true rfl)⟩ dX5_look_5 rfl rfl ?_
  refine pfX5_28 (pc := 8) C (rfl : kdX 15 = 5) dX5_look_8 ?_
  obtain ⟨S2, e3, hF⟩ := bv_of hF
  rw [← e3]
  refine z_iconst (pc := 11) (v := (0 : Int32)) C dX5_look_11 (by decide) ?_
  refine z_istore (pc := 12) (loc' := [(4, .int (0 : Int32)), (0, .ref (a 15)), (1, .ref (a k1)), (2, .ref (a k2)), (3, .ref (a 8))]) C dX5_look_12 (by decide) rfl ?_
  refine z_sub [1, 2, 3, 4, 0] rfl ?_
  obtain ⟨S7', hR, hF⟩ := bn1_of hF
  have hJ38 : ∀ (S7 : St), (some S7 : Option (St)) = some S7' → Zz E (WX E a S7) 0 0 45 [(0, .ref (a 15)), (1, .ref (a k1)), (2, .ref (a k2)), (3, .ref (a 8))] [] := by
    intro S7 hE
    have hE0 := Option.some.inj hE
    subst hE0
    refine z_iconst (pc := 45) (v := (0 : Int32)) C dX5_look_45 (by decide) ?_
    refine z_istore (pc := 46) (loc' := [(4, .int (0 : Int32)), (0, .ref (a 15)), (1, .ref (a k1)), (2, .ref (a k2)), (3, .ref (a 8))]) C dX5_look_46 (by decide) rfl ?_
    refine z_sub [1, 2, 3, 4, 0] rfl ?_
    obtain ⟨S11', hR, hF⟩ := bn1_of hF
    have hJ12 : ∀ (S11 : St), (some S11 : Option (St)) = some S11' → Zz E (WX E a S11) 0 0 128 [] [] := by
      intro S11 hE
      have hE0 := Option.some.inj hE
      subst hE0
      exact z_vret (pc := 128) C hQ hr dX5_look_128 (by cases hF; rfl) (by cases hF; rfl) (Nat.le_of_ble_eq_true rfl) (Nat.le_of_ble_eq_true rfl)
    have hF := hR
    clear hR
    refine lq2_W (P := fun (v8 : Int32) (S9 : St) => Zz E (WX E a S9) 0 0 48 [(0, .ref (a 15)), (1, .ref (a k1)), (2, .ref (a k2)), (3, .ref (a 8)), (4, .int v8)] []) (fun next10 hN10 v8 S9 hF => ?_) _ _ _ hF
    unfold fX5_look_L48 at hF
    refine z_iload 4 (pc := 48) C dX5_look_48 rfl ?_
    refine z_iconst (pc := 50) (v := (1 : Int32)) C dX5_look_50 (by decide) ?_
    refine z_aload_n 0 (pc := 51) C dX5_look_51 rfl rfl ?_
    refine gfX5_28 (pc := 52) C (rfl : kdX 15 = 5) dX5_look_52 ?_
    refine z_ishl (pc := 55) C dX5_look_55 ?_
    refine z_icmp_ge 128 (pc := 56) C dX5_look_56 (by decide) (fun c13 => ?_) (fun c13 => ?_)
    · have hF := if_t hF c13
      refine z_sub [] rfl ?_
      exact hJ12 _ hF
    · have hF := if_f hF c13
      refine z_aload_n 0 (pc := 59) C dX5_look_59 rfl rfl ?_
      refine gfX5_9 (pc := 60) C (rfl : kdX 15 = 5) dX5_look_60 ?_
      refine z_iload 4 (pc := 63) C dX5_look_63 rfl ?_
      refine z_iconst (pc := 65) (v := (0 : Int32)) C dX5_look_65 (by decide) ?_
      obtain ⟨g14, hF⟩ := gd_of hF
      refine saX32 (pc := 66) C (rfl : kdX 16 = 52) g14 dX5_look_66 ?_
      obtain ⟨S15, e16, hF⟩ := bv_of hF
      rw [← e16]
      refine z_iconst (pc := 67) (v := (0 : Int32)) C dX5_look_67 (by decide) ?_
      refine z_istore (pc := 68) (loc' := [(5, .int (0 : Int32)), (0, .ref (a 15)), (1, .ref (a k1)), (2, .ref (a k2)), (3, .ref (a 8)), (4, .int v8)]) C dX5_look_68 (by decide) rfl ?_
      refine z_sub [1, 2, 3, 4, 5, 0] rfl ?_
      obtain ⟨S20', hR, hF⟩ := bn1_of hF
      have hJ23 : ∀ (S20 : St), (some S20 : Option (St)) = some S20' → Zz E (WX E a S20) 0 0 122 [(0, .ref (a 15)), (1, .ref (a k1)), (2, .ref (a k2)), (3, .ref (a 8)), (4, .int v8)] [] := by
        intro S20 hE
        have hE0 := Option.some.inj hE
        subst hE0
        obtain ⟨v21, e22, hF⟩ := bv_of hF
        refine z_iinc 4 (pc := 122) (v := v21) (loc' := [(4, .int v21), (0, .ref (a 15)), (1, .ref (a k1)), (2, .ref (a k2)), (3, .ref (a 8))]) C dX5_look_122 rfl (by rw [e22]; rfl) (by decide) rfl ?_
        refine z_goto 48 (pc := 125) C dX5_look_125 (by decide) ?_
        refine z_sub [1, 2, 3, 4, 0] rfl ?_
        exact hN10 _ _ hF
      have hF := hR
      clear hR
      refine lq2_W (P := fun (v17 : Int32) (S18 : St) => Zz E (WX E a S18) 0 0 70 [(0, .ref (a 15)), (1, .ref (a k1)), (2, .ref (a k2)), (3, .ref (a 8)), (4, .int v8), (5, .int v17)] []) (fun next19 hN19 v17 S18 hF => ?_) _ _ _ hF
      unfold fX5_look_L70 at hF
      refine z_iload 5 (pc := 70) C dX5_look_70 rfl ?_
      refine z_aload_n 0 (pc := 72) C dX5_look_72 rfl rfl ?_
      refine gfX5_28 (pc := 73) C (rfl : kdX 15 = 5) dX5_look_73 ?_
      refine z_icmp_ge 122 (pc := 76) C dX5_look_76 (by decide) (fun c24 => ?_) (fun c24 => ?_)
      · have hF := if_t hF c24
        refine z_sub [0, 1, 2, 3, 4] rfl ?_
        exact hJ23 _ hF
      · have hF := if_f hF c24
        refine z_iload 4 (pc := 79) C dX5_look_79 rfl ?_
        refine z_iload 5 (pc := 81) C dX5_look_81 rfl ?_
        obtain ⟨v25, hG, hF⟩ := bn1_of hF
        refine z_callN [.int v8, .int v17] (pc := 83) (st1 := [.int v25]) (c1 := 0) (s1 := 0) C (mX8_hasBit C.hT hG) kX5_68 rfl rfl rfl (Nat.le_of_ble_eq_true rfl) ⟨(Nat.le_of_ble_eq_true rfl), (Nat.le_of_ble_eq_true rfl)⟩ ⟨(Nat.le_of_ble_eq_true rfl), (Nat.le_of_ble_eq_true rfl)⟩ dX5_look_83 rfl rfl ?_
        obtain ⟨S26', hR, hF⟩ := bn1_of hF
        have hJ29 : ∀ (S26 : St), (some S26 : Option (St)) = some S26' → Zz E (WX E a S26) 0 0 116 [(0, .ref (a 15)), (1, .ref (a k1)), (2, .ref (a k2)), (3, .ref (a 8)), (4, .int v8), (5, .int v17)] [] := by
          intro S26 hE
          have hE0 := Option.some.inj hE
          subst hE0
          obtain ⟨v27, e28, hF⟩ := bv_of hF
          refine z_iinc 5 (pc := 116) (v := v27) (loc' := [(5, .int v27), (0, .ref (a 15)), (1, .ref (a k1)), (2, .ref (a k2)), (3, .ref (a 8)), (4, .int v8)]) C dX5_look_116 rfl (by rw [e28]; rfl) (by decide) rfl ?_
          refine z_goto 70 (pc := 119) C dX5_look_119 (by decide) ?_
          refine z_sub [1, 2, 3, 4, 5, 0] rfl ?_
          exact hN19 _ _ hF
        have hF := hR
        clear hR
        refine z_if_ne 116 (pc := 86) C dX5_look_86 (by decide) (fun c30 => ?_) (fun c30 => ?_)
        · have hF := if_f hF c30
          exact hJ29 _ hF
        · have hF := if_t hF c30
          refine z_aload_n 3 (pc := 89) C dX5_look_89 rfl rfl ?_
          refine z_aload_n 1 (pc := 90) C dX5_look_90 rfl rfl ?_
          refine z_aload_n 2 (pc := 91) C dX5_look_91 rfl rfl ?_
          refine z_iload 4 (pc := 92) C dX5_look_92 rfl ?_
          refine z_iload 5 (pc := 94) C dX5_look_94 rfl ?_
          obtain ⟨v31, S32, hG, hF⟩ := bn2_of hF
          refine z_callV [.ref (a k1), .ref (a k2), .int v8, .int v17] (pc := 96) (st1 := [.int v31]) (c1 := 0) (s1 := 0) C (mX1_reason C.hT hk1 hk2 hG) kX5_72 (kdX_lt (rfl : kdX 8 = 1) (by decide)) (gX_1 (rfl : kdX 8 = 1)) rfl rfl rfl rfl (Nat.le_of_ble_eq_true rfl) ⟨(Nat.le_of_ble_eq_true rfl), (Nat.le_of_ble_eq_true rfl)⟩ ⟨(Nat.le_of_ble_eq_true rfl), (Nat.le_of_ble_eq_true rfl)⟩ dX5_look_96 rfl rfl ?_
          refine z_if_ne 116 (pc := 99) C dX5_look_99 (by decide) (fun c33 => ?_) (fun c33 => ?_)
          · have hF := if_f hF c33
            exact hJ29 _ hF
          · have hF := if_t hF c33
            refine z_aload_n 0 (pc := 102) C dX5_look_102 rfl rfl ?_
            refine gfX5_9 (pc := 103) C (rfl : kdX 15 = 5) dX5_look_103 ?_
            refine z_iload 4 (pc := 106) C dX5_look_106 rfl ?_
            refine z_dup2 (pc := 108) C dX5_look_108 rfl rfl ?_
            obtain ⟨g34, hF⟩ := gd_of hF
            refine iaX32 (pc := 109) C (rfl : kdX 16 = 52) g34 dX5_look_109 ?_
            refine z_iconst (pc := 110) (v := (1 : Int32)) C dX5_look_110 (by decide) ?_
            refine z_iload 5 (pc := 111) C dX5_look_111 rfl ?_
            refine z_ishl (pc := 113) C dX5_look_113 ?_
            refine z_ior (pc := 114) C dX5_look_114 ?_
            obtain ⟨g35, hF⟩ := gd_of hF
            refine saX32 (pc := 115) C (rfl : kdX 16 = 52) g35 dX5_look_115 ?_
            obtain ⟨S36, e37, hF⟩ := bv_of hF
            rw [← e37]
            exact hJ29 _ hF
  have hF := hR
  clear hR
  refine lq2_W (P := fun (v4 : Int32) (S5 : St) => Zz E (WX E a S5) 0 0 14 [(0, .ref (a 15)), (1, .ref (a k1)), (2, .ref (a k2)), (3, .ref (a 8)), (4, .int v4)] []) (fun next6 hN6 v4 S5 hF => ?_) _ _ _ hF
  unfold fX5_look_L14 at hF
  refine z_iload 4 (pc := 14) C dX5_look_14 rfl ?_
  refine z_aload_n 0 (pc := 16) C dX5_look_16 rfl rfl ?_
  refine gfX5_28 (pc := 17) C (rfl : kdX 15 = 5) dX5_look_17 ?_
  refine z_icmp_ge 45 (pc := 20) C dX5_look_20 (by decide) (fun c39 => ?_) (fun c39 => ?_)
  · have hF := if_t hF c39
    refine z_sub [0, 1, 2, 3] rfl ?_
    exact hJ38 _ hF
  · have hF := if_f hF c39
    refine z_aload_n 0 (pc := 23) C dX5_look_23 rfl rfl ?_
    refine gfX5_18 (pc := 24) C (rfl : kdX 15 = 5) dX5_look_24 ?_
    refine z_iload 4 (pc := 27) C dX5_look_27 rfl ?_
    refine z_aload_n 1 (pc := 29) C dX5_look_29 rfl rfl ?_
    refine gfX5_54 (pc := 30) C hk1 dX5_look_30 ?_
    refine z_iload 4 (pc := 33) C dX5_look_33 rfl ?_
    obtain ⟨v40, hG, hF⟩ := bn1_of hF
    refine z_callV [.int v4] (pc := 35) (st1 := [.int v40, .int v4, .ref (a 18)]) (c1 := 0) (s1 := 0) C (mX2_directionOf C.hT (kX_4_0 hk1) hG) kX5_65 (kdX_lt (kX_4_0 hk1) (by decide)) (gX_2 (kX_4_0 hk1)) rfl rfl rfl rfl (Nat.le_of_ble_eq_true rfl) ⟨(Nat.le_of_ble_eq_true rfl), (Nat.le_of_ble_eq_true rfl)⟩ ⟨(Nat.le_of_ble_eq_true rfl), (Nat.le_of_ble_eq_true rfl)⟩ dX5_look_35 rfl rfl ?_
    obtain ⟨g41, hF⟩ := gd_of hF
    refine saX5 (pc := 38) C (rfl : kdX 18 = 25) g41 dX5_look_38 ?_
    obtain ⟨S42, e43, hF⟩ := bv_of hF
    rw [← e43]
    obtain ⟨v44, e45, hF⟩ := bv_of hF
    refine z_iinc 4 (pc := 39) (v := v44) (loc' := [(4, .int v44), (0, .ref (a 15)), (1, .ref (a k1)), (2, .ref (a k2)), (3, .ref (a 8))]) C dX5_look_39 rfl (by rw [e45]; rfl) (by decide) rfl ?_
    refine z_goto 14 (pc := 42) C dX5_look_42 (by decide) ?_
    refine z_sub [1, 2, 3, 4, 0] rfl ?_
    exact hN6 _ _ hF
def fX8_redraw (S : St) (p1 : Int32) (p2 : Int32) (p3 : Int32) : Option (((String ⊕ Int32) × St)) :=
  bx (fX8_partAt S p1) (fun (x26 : String) => some (.inl x26, S)) (fun (k1 : Nat) =>
  bx (fX8_checkSheet p2 p3) (fun (x25 : String) => some (.inl x25, S)) (fun (_ : Unit) =>
  bx (fX8_checkPad S) (fun (x24 : String) => some (.inl x24, S)) (fun (_ : Unit) =>
  bn1 (if (gi S k1 7) ≤ 0 then (
    some (0 : Int32))
  else (
    some (1 : Int32))) (fun (v3 : Int32) =>
    bn1 (jn0 (
      some (0 : Int32)) (fun J19 =>
      if (gi S k1 1) = p2 then (
        if (gi S k1 2) = p3 then (
          some (1 : Int32))
        else (
          J19))
      else (
        J19))) (fun (v4 : Int32) =>
      bn1 (fX2_isAs S (k1 + 1) 1) (fun (v5 : Int32) =>
      bn1 (fX4_draw S k1 1 p2 p3) (fun (S6 : St) =>
      bv (si S6 k1 3 ((gi S6 k1 3) + (1 : Int32))) (fun (S7 : St) =>
      bv (si S7 1 2 (0 : Int32)) (fun (S9 : St) =>
      bn1 (jn0 (
        some (0 : Int32)) (fun J15 =>
        if v4 = 0 then (
          J15)
        else (
          if v3 = 0 then (
            some (1 : Int32))
          else (
            J15)))) (fun (v11 : Int32) =>
        bn2 (fX8_changeBatches S9 p1 v11 v5) (fun (v12 : Int32) (S13 : St) =>
        some (.inr v12, S13))))))))))))
abbrev rmX8_redraw : Room := { frames := 9, cells := 3, slots := 18, locals := 210 }
set_option maxRecDepth 100000 in
set_option maxHeartbeats 4000000 in
theorem mX8_redraw {l : Launch} {D : va_G} {cs : Nat → ClassId} {a : Nat → Nat} (hT : l.stackTraces = false) {S : St} {p1 : Int32} {p2 : Int32} {p3 : Int32} {r : String ⊕ Int32} {S' : St} (hF : fX8_redraw S p1 p2 p3 = some (r, S')) : MX l 113 GX D cs a yX8_redraw cX8_redraw 8 (some .int) rmX8_redraw [.ref (a 0), .int p1, .int p2, .int p3] S (ocI r) S' := by
  refine zm_entry [(0, .ref (a 0)), (1, .int p1), (2, .int p2), (3, .int p3)] hT (by decide +kernel) (Nat.le_of_ble_eq_true rfl) rfl (fun E hEl hED hEk C hQ hr => ?_)
  subst hEl
  subst hED
  subst hEk
  unfold fX8_redraw at hF
  refine z_aload_n 0 (pc := 0) C dX8_redraw_0 rfl rfl ?_
  refine z_iload_n 1 (pc := 1) C dX8_redraw_1 rfl rfl ?_
  rcases bx_of hF with ⟨x26, hG, hF⟩ | ⟨k1, hG, hF⟩
  · exact z_callVx [.int p1] (pc := 2) C (mX8_partAt C.hT hG) kX8_104 (kdX_lt (rfl : kdX 0 = 8) (by decide)) (gX_8 (rfl : kdX 0 = 8)) rfl rfl rfl (Nat.le_of_ble_eq_true rfl) ⟨(Nat.le_of_ble_eq_true rfl), (Nat.le_of_ble_eq_true rfl)⟩ ⟨(Nat.le_of_ble_eq_true rfl), (Nat.le_of_ble_eq_true rfl)⟩ dX8_redraw_2 hQ (by cases hF; rfl) (by cases hF; rfl)
  · have hk2 := qX8_partAt hG
    refine z_callV [.int p1] (pc := 2) (st1 := [.ref (a k1)]) (c1 := 1) (s1 := 6) C (mX8_partAt C.hT hG) kX8_104 (kdX_lt (rfl : kdX 0 = 8) (by decide)) (gX_8 (rfl : kdX 0 = 8)) rfl rfl rfl rfl (Nat.le_of_ble_eq_true rfl) ⟨(Nat.le_of_ble_eq_true rfl), (Nat.le_of_ble_eq_true rfl)⟩ ⟨(Nat.le_of_ble_eq_true rfl), (Nat.le_of_ble_eq_true rfl)⟩ dX8_redraw_2 rfl rfl ?_
    refine z_astore (pc := 5) (loc' := [(4, .ref (a k1)), (0, .ref (a 0)), (1, .int p1), (2, .int p2), (3, .int p3)]) C dX8_redraw_5 (by decide) rfl ?_
    refine z_iload_n 3 (pc := 7) C dX8_redraw_7 rfl rfl ?_
    refine z_iload_n 4 (pc := 8) C dX8_redraw_8 rfl rfl ?_
    rcases bx_of hF with ⟨x25, hG, hF⟩ | ⟨_, hG, hF⟩
    · exact z_callSx [.int p2, .int p3] (pc := 9) C (mX8_checkSheet C.hT hG) kX8_88 rfl rfl rfl (Nat.le_of_ble_eq_true rfl) ⟨(Nat.le_of_ble_eq_true rfl), (Nat.le_of_ble_eq_true rfl)⟩ ⟨(Nat.le_of_ble_eq_true rfl), (Nat.le_of_ble_eq_true rfl)⟩ dX8_redraw_9 hQ (by cases hF; rfl) (by cases hF; rfl)
    · refine z_callS [.int p2, .int p3] (pc := 9) (st1 := []) (c1 := 2) (s1 := 12) C (mX8_checkSheet C.hT hG) kX8_88 rfl rfl rfl rfl (Nat.le_of_ble_eq_true rfl) ⟨(Nat.le_of_ble_eq_true rfl), (Nat.le_of_ble_eq_true rfl)⟩ ⟨(Nat.le_of_ble_eq_true rfl), (Nat.le_of_ble_eq_true rfl)⟩ dX8_redraw_9 rfl rfl ?_
      refine z_aload_n 1 (pc := 12) C dX8_redraw_12 rfl rfl ?_
      rcases bx_of hF with ⟨x24, hG, hF⟩ | ⟨_, hG, hF⟩
      · exact z_callVx [] (pc := 13) C (mX8_checkPad C.hT hG) kX8_92 (kdX_lt (rfl : kdX 0 = 8) (by decide)) (gX_8 (rfl : kdX 0 = 8)) rfl rfl rfl (Nat.le_of_ble_eq_true rfl) ⟨(Nat.le_of_ble_eq_true rfl), (Nat.le_of_ble_eq_true rfl)⟩ ⟨(Nat.le_of_ble_eq_true rfl), (Nat.le_of_ble_eq_true rfl)⟩ dX8_redraw_13 hQ (by cases hF; rfl) (by cases hF; rfl)
      · refine z_callV [] (pc := 13) (st1 := []) (c1 := 3) (s1 := 18) C (mX8_checkPad C.hT hG) kX8_92 (kdX_lt (rfl : kdX 0 = 8) (by decide)) (gX_8 (rfl : kdX 0 = 8)) rfl rfl rfl rfl (Nat.le_of_ble_eq_true rfl) ⟨(Nat.le_of_ble_eq_true rfl), (Nat.le_of_ble_eq_true rfl)⟩ ⟨(Nat.le_of_ble_eq_true rfl), (Nat.le_of_ble_eq_true rfl)⟩ dX8_redraw_13 rfl rfl ?_
        refine z_aload 0 (pc := 16) C dX8_redraw_16 rfl ?_
        refine gfX8_108 (pc := 18) C hk2 dX8_redraw_18 ?_
        obtain ⟨v3', hR, hF⟩ := bn1_of hF
        have hJ22 : ∀ (v3 : Int32), (some v3 : Option (Int32)) = some v3' → Zz E (WX E a S) 3 18 29 [(0, .ref (a 0)), (1, .int p1), (2, .int p2), (3, .int p3), (4, .ref (a k1))] [.int v3] := by
          intro v3 hE
          have hE0 := Option.some.inj hE
          subst hE0
          refine z_istore (pc := 29) (loc' := [(5, .int v3), (0, .ref (a 0)), (1, .int p1), (2, .int p2), (3, .int p3), (4, .ref (a k1))]) C dX8_redraw_29 (by decide) rfl ?_
          refine z_aload 5 (pc := 31) C dX8_redraw_31 rfl ?_
          refine gfX8_111 (pc := 33) C hk2 dX8_redraw_33 ?_
          refine z_iload_n 3 (pc := 36) C dX8_redraw_36 rfl rfl ?_
          obtain ⟨v4', hR, hF⟩ := bn1_of hF
          have hJ18 : ∀ (v4 : Int32), (some v4 : Option (Int32)) = some v4' → Zz E (WX E a S) 3 18 54 [(0, .ref (a 0)), (1, .int p1), (2, .int p2), (3, .int p3), (4, .ref (a k1)), (5, .int v3)] [.int v4] := by
            intro v4 hE
            have hE0 := Option.some.inj hE
            subst hE0
            refine z_istore (pc := 54) (loc' := [(6, .int v4), (0, .ref (a 0)), (1, .int p1), (2, .int p2), (3, .int p3), (4, .ref (a k1)), (5, .int v3)]) C dX8_redraw_54 (by decide) rfl ?_
            refine z_aload 5 (pc := 56) C dX8_redraw_56 rfl ?_
            refine gfX8_117 (pc := 58) C hk2 dX8_redraw_58 ?_
            refine z_aload_n 1 (pc := 61) C dX8_redraw_61 rfl rfl ?_
            refine gfX8_12 (pc := 62) C (rfl : kdX 0 = 8) dX8_redraw_62 ?_
            obtain ⟨v5, hG, hF⟩ := bn1_of hF
            refine z_callV [.ref (a 1)] (pc := 65) (st1 := [.int v5]) (c1 := 3) (s1 := 18) C (mX2_isAs C.hT (kX_4_0 hk2) (rfl : kdX 1 = 2) hG) kX8_120 (kdX_lt (kX_4_0 hk2) (by decide)) (gX_2 (kX_4_0 hk2)) rfl rfl rfl rfl (Nat.le_of_ble_eq_true rfl) ⟨(Nat.le_of_ble_eq_true rfl), (Nat.le_of_ble_eq_true rfl)⟩ ⟨(Nat.le_of_ble_eq_true rfl), (Nat.le_of_ble_eq_true rfl)⟩ dX8_redraw_65 rfl rfl ?_
            refine z_istore (pc := 68) (loc' := [(7, .int v5), (6, .int v4), (0, .ref (a 0)), (1, .int p1), (2, .int p2), (3, .int p3), (4, .ref (a k1)), (5, .int v3)]) C dX8_redraw_68 (by decide) rfl ?_
            refine z_aload 6 (pc := 70) C dX8_redraw_70 rfl ?_
            refine z_aload_n 2 (pc := 72) C dX8_redraw_72 rfl rfl ?_
            refine gfX8_12 (pc := 73) C (rfl : kdX 0 = 8) dX8_redraw_73 ?_
            refine z_iload_n 4 (pc := 76) C dX8_redraw_76 rfl rfl ?_
            refine z_iload_n 5 (pc := 77) C dX8_redraw_77 rfl rfl ?_
            obtain ⟨S6, hG, hF⟩ := bn1_of hF
            refine z_callV [.ref (a 1), .int p2, .int p3] (pc := 78) (st1 := []) (c1 := 3) (s1 := 18) C (mX4_draw C.hT hk2 (rfl : kdX 1 = 2) hG) kX8_100 (kdX_lt hk2 (by decide)) (gX_4 hk2) rfl rfl rfl rfl (Nat.le_of_ble_eq_true rfl) ⟨(Nat.le_of_ble_eq_true rfl), (Nat.le_of_ble_eq_true rfl)⟩ ⟨(Nat.le_of_ble_eq_true rfl), (Nat.le_of_ble_eq_true rfl)⟩ dX8_redraw_78 rfl rfl ?_
            refine z_aload 6 (pc := 81) C dX8_redraw_81 rfl ?_
            refine z_dup (pc := 83) C dX8_redraw_83 rfl ?_
            refine gfX8_124 (pc := 84) C hk2 dX8_redraw_84 ?_
            refine z_iconst (pc := 87) (v := (1 : Int32)) C dX8_redraw_87 (by decide) ?_
            refine z_iadd (pc := 88) C dX8_redraw_88 ?_
            refine pfX8_124 (pc := 89) C hk2 dX8_redraw_89 ?_
            obtain ⟨S7, e8, hF⟩ := bv_of hF
            rw [← e8]
            refine z_aload_n 2 (pc := 92) C dX8_redraw_92 rfl rfl ?_
            refine gfX8_12 (pc := 93) C (rfl : kdX 0 = 8) dX8_redraw_93 ?_
            refine z_iconst (pc := 96) (v := (0 : Int32)) C dX8_redraw_96 (by decide) ?_
            refine pfX8_73 (pc := 97) C (rfl : kdX 1 = 2) dX8_redraw_97 ?_
            obtain ⟨S9, e10, hF⟩ := bv_of hF
            rw [← e10]
            refine z_aload_n 2 (pc := 100) C dX8_redraw_100 rfl rfl ?_
            refine z_iload_n 3 (pc := 101) C dX8_redraw_101 rfl rfl ?_
            refine z_iload 1 (pc := 102) C dX8_redraw_102 rfl ?_
            obtain ⟨v11', hR, hF⟩ := bn1_of hF
            have hJ14 : ∀ (v11 : Int32), (some v11 : Option (Int32)) = some v11' → Zz E (WX E a S9) 3 18 117 [(7, .int v5)] [.int v11, .int p1, .ref (a 0)] := by
              intro v11 hE
              have hE0 := Option.some.inj hE
              subst hE0
              refine z_iload 0 (pc := 117) C dX8_redraw_117 rfl ?_
              obtain ⟨v12, S13, hG, hF⟩ := bn2_of hF
              refine z_callV [.int p1, .int v11, .int v5] (pc := 119) (st1 := [.int v12]) (c1 := 3) (s1 := 18) C (mX8_changeBatches C.hT hG) kX8_127 (kdX_lt (rfl : kdX 0 = 8) (by decide)) (gX_8 (rfl : kdX 0 = 8)) rfl rfl rfl rfl (Nat.le_of_ble_eq_true rfl) ⟨(Nat.le_of_ble_eq_true rfl), (Nat.le_of_ble_eq_true rfl)⟩ ⟨(Nat.le_of_ble_eq_true rfl), (Nat.le_of_ble_eq_true rfl)⟩ dX8_redraw_119 rfl rfl ?_
              exact z_iret (pc := 122) C hQ hr rfl dX8_redraw_122 (by cases hF; rfl) (by cases hF; rfl) (Nat.le_of_ble_eq_true rfl) (Nat.le_of_ble_eq_true rfl)
            have hF := hR
            clear hR
            obtain ⟨J15, hdJ15, hF⟩ := jn0_of hF
            have hJ15 : J15 = some v11' → Zz E (WX E a S9) 3 18 116 [(7, .int v5)] [.int p1, .ref (a 0)] := by
              intro hF
              have hF := hdJ15.symm.trans hF
              refine z_iconst (pc := 116) (v := (0 : Int32)) C dX8_redraw_116 (by decide) ?_
              exact hJ14 _ hF
            refine z_if_eq 116 (pc := 104) C dX8_redraw_104 (by decide) (fun c16 => ?_) (fun c16 => ?_)
            · have hF := if_t hF c16
              refine z_sub [0] rfl ?_
              exact hJ15 hF
            · have hF := if_f hF c16
              refine z_iload 7 (pc := 107) C dX8_redraw_107 rfl ?_
              refine z_if_ne 116 (pc := 109) C dX8_redraw_109 (by decide) (fun c17 => ?_) (fun c17 => ?_)
              · have hF := if_f hF c17
                refine z_sub [0] rfl ?_
                exact hJ15 hF
              · have hF := if_t hF c17
                refine z_iconst (pc := 112) (v := (1 : Int32)) C dX8_redraw_112 (by decide) ?_
                refine z_goto 117 (pc := 113) C dX8_redraw_113 (by decide) ?_
                refine z_sub [0] rfl ?_
                exact hJ14 _ hF
          have hF := hR
          clear hR
          obtain ⟨J19, hdJ19, hF⟩ := jn0_of hF
          have hJ19 : J19 = some v4' → Zz E (WX E a S) 3 18 53 [(0, .ref (a 0)), (1, .int p1), (2, .int p2), (3, .int p3), (4, .ref (a k1)), (5, .int v3)] [] := by
            intro hF
            have hF := hdJ19.symm.trans hF
            refine z_iconst (pc := 53) (v := (0 : Int32)) C dX8_redraw_53 (by decide) ?_
            exact hJ18 _ hF
          refine z_icmp_ne 53 (pc := 37) C dX8_redraw_37 (by decide) (fun c20 => ?_) (fun c20 => ?_)
          · have hF := if_f hF c20
            refine z_sub [1, 2, 3, 4, 5, 0] rfl ?_
            exact hJ19 hF
          · have hF := if_t hF c20
            refine z_aload 5 (pc := 40) C dX8_redraw_40 rfl ?_
            refine gfX8_114 (pc := 42) C hk2 dX8_redraw_42 ?_
            refine z_iload_n 4 (pc := 45) C dX8_redraw_45 rfl rfl ?_
            refine z_icmp_ne 53 (pc := 46) C dX8_redraw_46 (by decide) (fun c21 => ?_) (fun c21 => ?_)
            · have hF := if_f hF c21
              refine z_sub [1, 2, 3, 4, 5, 0] rfl ?_
              exact hJ19 hF
            · have hF := if_t hF c21
              refine z_iconst (pc := 49) (v := (1 : Int32)) C dX8_redraw_49 (by decide) ?_
              refine z_goto 54 (pc := 50) C dX8_redraw_50 (by decide) ?_
              refine z_sub [1, 2, 3, 4, 5, 0] rfl ?_
              exact hJ18 _ hF
        have hF := hR
        clear hR
        refine z_if_le 28 (pc := 21) C dX8_redraw_21 (by decide) (fun c23 => ?_) (fun c23 => ?_)
        · have hF := if_t hF c23
          refine z_iconst (pc := 28) (v := (0 : Int32)) C dX8_redraw_28 (by decide) ?_
          refine z_sub [1, 2, 3, 4, 0] rfl ?_
          exact hJ22 _ hF
        · have hF := if_f hF c23
          refine z_iconst (pc := 24) (v := (1 : Int32)) C dX8_redraw_24 (by decide) ?_
          refine z_goto 29 (pc := 25) C dX8_redraw_25 (by decide) ?_
          refine z_sub [1, 2, 3, 4, 0] rfl ?_
          exact hJ22 _ hF
def fX8_why (S : St) (p1 : Int32) (p2 : Int32) (p3 : Int32) (p4 : Int32) : Option (((String ⊕ Int32) × St)) :=
  bx (fX8_partAt S p1) (fun (x10 : String) => some (.inl x10, S)) (fun (k1 : Nat) =>
  bx (fX8_toolAt S p2) (fun (x9 : String) => some (.inl x9, S)) (fun (k3 : Nat) =>
  bx (fX8_checkBend S (k1 + 1) p4) (fun (x8 : String) => some (.inl x8, S)) (fun (_ : Unit) =>
  bx (fX8_checkDone S (k1 + 1) p3 p4) (fun (x7 : String) => some (.inl x7, S)) (fun (_ : Unit) =>
  bn2 (fX1_reason S k1 k3 p3 p4) (fun (v5 : Int32) (S6 : St) =>
  some (.inr v5, S6))))))
abbrev rmX8_why : Room := { frames := 9, cells := 4, slots := 24, locals := 210 }
set_option maxRecDepth 100000 in
set_option maxHeartbeats 4000000 in
theorem mX8_why {l : Launch} {D : va_G} {cs : Nat → ClassId} {a : Nat → Nat} (hT : l.stackTraces = false) {S : St} {p1 : Int32} {p2 : Int32} {p3 : Int32} {p4 : Int32} {r : String ⊕ Int32} {S' : St} (hF : fX8_why S p1 p2 p3 p4 = some (r, S')) : MX l 113 GX D cs a yX8_why cX8_why 7 (some .int) rmX8_why [.ref (a 0), .int p1, .int p2, .int p3, .int p4] S (ocI r) S' := by
  refine zm_entry [(0, .ref (a 0)), (1, .int p1), (2, .int p2), (3, .int p3), (4, .int p4)] hT (by decide +kernel) (Nat.le_of_ble_eq_true rfl) rfl (fun E hEl hED hEk C hQ hr => ?_)
  subst hEl
  subst hED
  subst hEk
  unfold fX8_why at hF
  refine z_aload_n 0 (pc := 0) C dX8_why_0 rfl rfl ?_
  refine z_iload_n 1 (pc := 1) C dX8_why_1 rfl rfl ?_
  rcases bx_of hF with ⟨x10, hG, hF⟩ | ⟨k1, hG, hF⟩
  · exact z_callVx [.int p1] (pc := 2) C (mX8_partAt C.hT hG) kX8_104 (kdX_lt (rfl : kdX 0 = 8) (by decide)) (gX_8 (rfl : kdX 0 = 8)) rfl rfl rfl (Nat.le_of_ble_eq_true rfl) ⟨(Nat.le_of_ble_eq_true rfl), (Nat.le_of_ble_eq_true rfl)⟩ ⟨(Nat.le_of_ble_eq_true rfl), (Nat.le_of_ble_eq_true rfl)⟩ dX8_why_2 hQ (by cases hF; rfl) (by cases hF; rfl)
  · have hk2 := qX8_partAt hG
    refine z_callV [.int p1] (pc := 2) (st1 := [.ref (a k1)]) (c1 := 1) (s1 := 6) C (mX8_partAt C.hT hG) kX8_104 (kdX_lt (rfl : kdX 0 = 8) (by decide)) (gX_8 (rfl : kdX 0 = 8)) rfl rfl rfl rfl (Nat.le_of_ble_eq_true rfl) ⟨(Nat.le_of_ble_eq_true rfl), (Nat.le_of_ble_eq_true rfl)⟩ ⟨(Nat.le_of_ble_eq_true rfl), (Nat.le_of_ble_eq_true rfl)⟩ dX8_why_2 rfl rfl ?_
    refine z_astore (pc := 5) (loc' := [(5, .ref (a k1)), (0, .ref (a 0)), (1, .int p1), (2, .int p2), (3, .int p3), (4, .int p4)]) C dX8_why_5 (by decide) rfl ?_
    refine z_aload_n 1 (pc := 7) C dX8_why_7 rfl rfl ?_
    refine z_iload_n 3 (pc := 8) C dX8_why_8 rfl rfl ?_
    rcases bx_of hF with ⟨x9, hG, hF⟩ | ⟨k3, hG, hF⟩
    · exact z_callVx [.int p2] (pc := 9) C (mX8_toolAt C.hT hG) kX8_186 (kdX_lt (rfl : kdX 0 = 8) (by decide)) (gX_8 (rfl : kdX 0 = 8)) rfl rfl rfl (Nat.le_of_ble_eq_true rfl) ⟨(Nat.le_of_ble_eq_true rfl), (Nat.le_of_ble_eq_true rfl)⟩ ⟨(Nat.le_of_ble_eq_true rfl), (Nat.le_of_ble_eq_true rfl)⟩ dX8_why_9 hQ (by cases hF; rfl) (by cases hF; rfl)
    · have hk4 := qX8_toolAt hG
      refine z_callV [.int p2] (pc := 9) (st1 := [.ref (a k3)]) (c1 := 2) (s1 := 12) C (mX8_toolAt C.hT hG) kX8_186 (kdX_lt (rfl : kdX 0 = 8) (by decide)) (gX_8 (rfl : kdX 0 = 8)) rfl rfl rfl rfl (Nat.le_of_ble_eq_true rfl) ⟨(Nat.le_of_ble_eq_true rfl), (Nat.le_of_ble_eq_true rfl)⟩ ⟨(Nat.le_of_ble_eq_true rfl), (Nat.le_of_ble_eq_true rfl)⟩ dX8_why_9 rfl rfl ?_
      refine z_astore (pc := 12) (loc' := [(6, .ref (a k3)), (5, .ref (a k1)), (0, .ref (a 0)), (1, .int p1), (2, .int p2), (3, .int p3), (4, .int p4)]) C dX8_why_12 (by decide) rfl ?_
      refine z_aload 1 (pc := 14) C dX8_why_14 rfl ?_
      refine gfX8_117 (pc := 16) C hk2 dX8_why_16 ?_
      refine z_iload 6 (pc := 19) C dX8_why_19 rfl ?_
      rcases bx_of hF with ⟨x8, hG, hF⟩ | ⟨_, hG, hF⟩
      · exact z_callSx [.ref (a (k1 + 1)), .int p4] (pc := 21) C (mX8_checkBend C.hT (kX_4_0 hk2) hG) kX8_199 rfl rfl rfl (Nat.le_of_ble_eq_true rfl) ⟨(Nat.le_of_ble_eq_true rfl), (Nat.le_of_ble_eq_true rfl)⟩ ⟨(Nat.le_of_ble_eq_true rfl), (Nat.le_of_ble_eq_true rfl)⟩ dX8_why_21 hQ (by cases hF; rfl) (by cases hF; rfl)
      · refine z_callS [.ref (a (k1 + 1)), .int p4] (pc := 21) (st1 := []) (c1 := 3) (s1 := 18) C (mX8_checkBend C.hT (kX_4_0 hk2) hG) kX8_199 rfl rfl rfl rfl (Nat.le_of_ble_eq_true rfl) ⟨(Nat.le_of_ble_eq_true rfl), (Nat.le_of_ble_eq_true rfl)⟩ ⟨(Nat.le_of_ble_eq_true rfl), (Nat.le_of_ble_eq_true rfl)⟩ dX8_why_21 rfl rfl ?_
        refine z_aload 1 (pc := 24) C dX8_why_24 rfl ?_
        refine gfX8_117 (pc := 26) C hk2 dX8_why_26 ?_
        refine z_iload_n 5 (pc := 29) C dX8_why_29 rfl rfl ?_
        refine z_iload 6 (pc := 30) C dX8_why_30 rfl ?_
        rcases bx_of hF with ⟨x7, hG, hF⟩ | ⟨_, hG, hF⟩
        · exact z_callSx [.ref (a (k1 + 1)), .int p3, .int p4] (pc := 32) C (mX8_checkDone C.hT (kX_4_0 hk2) hG) kX8_203 rfl rfl rfl (Nat.le_of_ble_eq_true rfl) ⟨(Nat.le_of_ble_eq_true rfl), (Nat.le_of_ble_eq_true rfl)⟩ ⟨(Nat.le_of_ble_eq_true rfl), (Nat.le_of_ble_eq_true rfl)⟩ dX8_why_32 hQ (by cases hF; rfl) (by cases hF; rfl)
        · refine z_callS [.ref (a (k1 + 1)), .int p3, .int p4] (pc := 32) (st1 := []) (c1 := 4) (s1 := 24) C (mX8_checkDone C.hT (kX_4_0 hk2) hG) kX8_203 rfl rfl rfl rfl (Nat.le_of_ble_eq_true rfl) ⟨(Nat.le_of_ble_eq_true rfl), (Nat.le_of_ble_eq_true rfl)⟩ ⟨(Nat.le_of_ble_eq_true rfl), (Nat.le_of_ble_eq_true rfl)⟩ dX8_why_32 rfl rfl ?_
          refine z_aload_n 2 (pc := 35) C dX8_why_35 rfl rfl ?_
          refine gfX8_41 (pc := 36) C (rfl : kdX 0 = 8) dX8_why_36 ?_
          refine z_aload 1 (pc := 39) C dX8_why_39 rfl ?_
          refine z_aload 0 (pc := 41) C dX8_why_41 rfl ?_
          refine z_iload_n 5 (pc := 43) C dX8_why_43 rfl rfl ?_
          refine z_iload 6 (pc := 44) C dX8_why_44 rfl ?_
          obtain ⟨v5, S6, hG, hF⟩ := bn2_of hF
          refine z_callV [.ref (a k1), .ref (a k3), .int p3, .int p4] (pc := 46) (st1 := [.int v5]) (c1 := 4) (s1 := 24) C (mX1_reason C.hT hk2 hk4 hG) kX8_206 (kdX_lt (rfl : kdX 8 = 1) (by decide)) (gX_1 (rfl : kdX 8 = 1)) rfl rfl rfl rfl (Nat.le_of_ble_eq_true rfl) ⟨(Nat.le_of_ble_eq_true rfl), (Nat.le_of_ble_eq_true rfl)⟩ ⟨(Nat.le_of_ble_eq_true rfl), (Nat.le_of_ble_eq_true rfl)⟩ dX8_why_46 rfl rfl ?_
          exact z_iret (pc := 49) C hQ hr rfl dX8_why_49 (by cases hF; rfl) (by cases hF; rfl) (Nat.le_of_ble_eq_true rfl) (Nat.le_of_ble_eq_true rfl)
def fX5_plan_L129 (next18 : Int32 → Int32 → Int32 → St → Option (St)) (v14 : Int32) (v15 : Int32) (v16 : Int32) (S17 : St) : Option (St) :=
  if (gi S17 15 5) ≤ v16 then (
    some S17)
  else (
    bn1 (fX5_bestNext S17 v14 v15) (fun (v20 : Int32) =>
    if v20 = (-1 : Int32) then (
      some S17)
    else (
      gd (inb v16 5) (
      bv (si S17 19 v16.toNatClampNeg v20) (fun (S23 : St) =>
      bv ((v14 ||| ((1 : Int32) <<< (v20 &&& 31)))) (fun (v25 : Int32) =>
      gd (inb v20 5) (
      bv ((gi S23 18 v20.toNatClampNeg)) (fun (v28 : Int32) =>
      bv (v16 + 1) (fun (v30 : Int32) =>
      next18 v25 v28 v30 S23)))))))))
def fX5_plan_L25 (v4 : Int32) (next38 : Int32 → St → Option (St)) (v36 : Int32) (S37 : St) : Option (St) :=
  if (3 : Int32) ≤ v36 then (
    some S37)
  else (
    bn1 (fX5_bestNext S37 v4 v36) (fun (v44 : Int32) =>
    bn1 (if v44 = (-1 : Int32) then (
      bn1 (fX5_restOfNone S37 v4) (fun (v54 : Int32) =>
      some v54))
    else (
      bn1 (fX5_turnsBy S37 v4 v36 v44) (fun (v53 : Int32) =>
      some v53))) (fun (v45 : Int32) =>
      gd (inb ((v4 * (3 : Int32)) + v36) 96) (
      bv (si S37 17 ((v4 * (3 : Int32)) + v36).toNatClampNeg v45) (fun (S47 : St) =>
      bv (v36 + 1) (fun (v49 : Int32) =>
      next38 v49 S47))))))
def fX5_plan_L17 (next6 : Int32 → St → Option (St)) (v4 : Int32) (S5 : St) : Option (St) :=
  if v4 < 0 then (
    some S5)
  else (
    bn1 (lq2 (fX5_plan_L25 v4) 200 (0 : Int32) S5) (fun (S39 : St) =>
      bv (v4 + (-1)) (fun (v40 : Int32) =>
      next6 v40 S39)))
def fX5_plan (S : St) (k1 : Nat) (k2 : Nat) : Option (St) :=
  bn1 (fX5_look S k1 k2) (fun (S1 : St) =>
  bv ((((1 : Int32) <<< ((gi S1 15 3) &&& 31)) - (1 : Int32))) (fun (v2 : Int32) =>
  bn1 (lq2 (fX5_plan_L17) 200 v2 S1) (fun (S7 : St) =>
    gd (inb (2 : Int32) 96) (
    bv (si S7 15 6 (gi S7 17 (2 : Int32).toNatClampNeg)) (fun (S9 : St) =>
    bn1 (if (gi S9 15 6) = (-1 : Int32) then (
      some (0 : Int32))
    else (
      some (gi S9 15 3))) (fun (v11 : Int32) =>
      bv (si S9 15 5 v11) (fun (S12 : St) =>
      lq4 (fX5_plan_L129) 200 (0 : Int32) (2 : Int32) (0 : Int32) S12)))))))
abbrev rmX5_plan : Room := { frames := 10, cells := 0, slots := 0, locals := 250 }
set_option maxRecDepth 100000 in
set_option maxHeartbeats 4000000 in
theorem mX5_plan {l : Launch} {D : va_G} {cs : Nat → ClassId} {a : Nat → Nat} (hT : l.stackTraces = false) {S : St} {k1 : Nat} {k2 : Nat} {S' : St} (hk1 : kdX k1 = 4) (hk2 : kdX k2 = 6) (hF : fX5_plan S k1 k2 = some S') : MX l 113 GX D cs a yX5_plan cX5_plan 8 none rmX5_plan [.ref (a 15), .ref (a k1), .ref (a k2), .ref (a 8)] S (.inr none) S' := by
  refine zm_entry [(0, .ref (a 15)), (1, .ref (a k1)), (2, .ref (a k2)), (3, .ref (a 8))] hT (by decide +kernel) (Nat.le_of_ble_eq_true rfl) rfl (fun E hEl hED hEk C hQ hr => ?_)
  subst hEl
  subst hED
  subst hEk
  unfold fX5_plan at hF
  refine z_aload_n 0 (pc := 0) C dX5_plan_0 rfl rfl ?_
  refine z_aload_n 1 (pc := 1) C dX5_plan_1 rfl rfl ?_
  refine z_aload_n 2 (pc := 2) C dX5_plan_2 rfl rfl ?_
  refine z_aload_n 3 (pc := 3) C dX5_plan_3 rfl rfl ?_
  obtain ⟨S1, hG, hF⟩ := bn1_of hF
  refine z_callV [.ref (a k1), .ref (a k2), .ref (a 8)] (pc := 4) (st1 := []) (c1 := 0) (s1 := 0) C (mX5_look C.hT hk1 hk2 hG) kX5_24 (kdX_lt (rfl : kdX 15 = 5) (by decide)) (gX_5 (rfl : kdX 15 = 5)) rfl rfl rfl rfl (Nat.le_of_ble_eq_true rfl) ⟨(Nat.le_of_ble_eq_true rfl), (Nat.le_of_ble_eq_true rfl)⟩ ⟨(Nat.le_of_ble_eq_true rfl), (Nat.le_of_ble_eq_true rfl)⟩ dX5_plan_4 rfl rfl ?_
  refine z_iconst (pc := 7) (v := (1 : Int32)) C dX5_plan_7 (by decide) ?_
  refine z_aload_n 0 (pc := 8) C dX5_plan_8 rfl rfl ?_
  refine gfX5_28 (pc := 9) C (rfl : kdX 15 = 5) dX5_plan_9 ?_
  refine z_ishl (pc := 12) C dX5_plan_12 ?_
  refine z_iconst (pc := 13) (v := (1 : Int32)) C dX5_plan_13 (by decide) ?_
  refine z_isub (pc := 14) C dX5_plan_14 ?_
  obtain ⟨v2, e3, hF⟩ := bv_of hF
  refine z_topi e3 ?_
  refine z_istore (pc := 15) (loc' := [(4, .int v2), (0, .ref (a 15)), (1, .ref (a k1)), (2, .ref (a k2)), (3, .ref (a 8))]) C dX5_plan_15 (by decide) rfl ?_
  refine z_sub [1, 0] rfl ?_
  obtain ⟨S7', hR, hF⟩ := bn1_of hF
  have hJ34 : ∀ (S7 : St), (some S7 : Option (St)) = some S7' → Zz E (WX E a S7) 0 0 90 [(0, .ref (a 15))] [] := by
    intro S7 hE
    have hE0 := Option.some.inj hE
    subst hE0
    refine z_aload_n 0 (pc := 90) C dX5_plan_90 rfl rfl ?_
    refine z_aload_n 0 (pc := 91) C dX5_plan_91 rfl rfl ?_
    refine gfX5_15 (pc := 92) C (rfl : kdX 15 = 5) dX5_plan_92 ?_
    refine z_iconst (pc := 95) (v := (2 : Int32)) C dX5_plan_95 (by decide) ?_
    obtain ⟨g8, hF⟩ := gd_of hF
    refine iaX96 (pc := 96) C (rfl : kdX 17 = 116) g8 dX5_plan_96 ?_
    refine pfX5_44 (pc := 97) C (rfl : kdX 15 = 5) dX5_plan_97 ?_
    obtain ⟨S9, e10, hF⟩ := bv_of hF
    rw [← e10]
    refine z_aload_n 0 (pc := 100) C dX5_plan_100 rfl rfl ?_
    refine z_aload_n 0 (pc := 101) C dX5_plan_101 rfl rfl ?_
    refine gfX5_44 (pc := 102) C (rfl : kdX 15 = 5) dX5_plan_102 ?_
    refine z_iconst (pc := 105) (v := (-1 : Int32)) C dX5_plan_105 (by decide) ?_
    obtain ⟨v11', hR, hF⟩ := bn1_of hF
    have hJ32 : ∀ (v11 : Int32), (some v11 : Option (Int32)) = some v11' → Zz E (WX E a S9) 0 0 117 [(0, .ref (a 15))] [.int v11, .ref (a 15)] := by
      intro v11 hE
      have hE0 := Option.some.inj hE
      subst hE0
      refine pfX5_47 (pc := 117) C (rfl : kdX 15 = 5) dX5_plan_117 ?_
      obtain ⟨S12, e13, hF⟩ := bv_of hF
      rw [← e13]
      refine z_iconst (pc := 120) (v := (0 : Int32)) C dX5_plan_120 (by decide) ?_
      refine z_istore (pc := 121) (loc' := [(4, .int (0 : Int32)), (0, .ref (a 15))]) C dX5_plan_121 (by decide) rfl ?_
      refine z_iconst (pc := 123) (v := (2 : Int32)) C dX5_plan_123 (by decide) ?_
      refine z_istore (pc := 124) (loc' := [(5, .int (2 : Int32)), (4, .int (0 : Int32)), (0, .ref (a 15))]) C dX5_plan_124 (by decide) rfl ?_
      refine z_iconst (pc := 126) (v := (0 : Int32)) C dX5_plan_126 (by decide) ?_
      refine z_istore (pc := 127) (loc' := [(6, .int (0 : Int32)), (5, .int (2 : Int32)), (4, .int (0 : Int32)), (0, .ref (a 15))]) C dX5_plan_127 (by decide) rfl ?_
      refine z_sub [3, 2, 1, 0] rfl ?_
      refine lq4_W (P := fun (v14 : Int32) (v15 : Int32) (v16 : Int32) (S17 : St) => Zz E (WX E a S17) 0 0 129 [(0, .ref (a 15)), (4, .int v14), (5, .int v15), (6, .int v16)] []) (fun next18 hN18 v14 v15 v16 S17 hF => ?_) _ _ _ _ _ hF
      unfold fX5_plan_L129 at hF
      refine z_iload 3 (pc := 129) C dX5_plan_129 rfl ?_
      refine z_aload_n 0 (pc := 131) C dX5_plan_131 rfl rfl ?_
      refine gfX5_47 (pc := 132) C (rfl : kdX 15 = 5) dX5_plan_132 ?_
      refine z_icmp_ge 188 (pc := 135) C dX5_plan_135 (by decide) (fun c19 => ?_) (fun c19 => ?_)
      · have hF := if_t hF c19
        exact z_vret (pc := 188) C hQ hr dX5_plan_188 (by cases hF; rfl) (by cases hF; rfl) (Nat.le_of_ble_eq_true rfl) (Nat.le_of_ble_eq_true rfl)
      · have hF := if_f hF c19
        refine z_aload_n 0 (pc := 138) C dX5_plan_138 rfl rfl ?_
        refine z_iload 1 (pc := 139) C dX5_plan_139 rfl ?_
        refine z_iload 2 (pc := 141) C dX5_plan_141 rfl ?_
        obtain ⟨v20, hG, hF⟩ := bn1_of hF
        refine z_callV [.int v14, .int v15] (pc := 143) (st1 := [.int v20]) (c1 := 0) (s1 := 0) C (mX5_bestNext C.hT hG) kX5_32 (kdX_lt (rfl : kdX 15 = 5) (by decide)) (gX_5 (rfl : kdX 15 = 5)) rfl rfl rfl rfl (Nat.le_of_ble_eq_true rfl) ⟨(Nat.le_of_ble_eq_true rfl), (Nat.le_of_ble_eq_true rfl)⟩ ⟨(Nat.le_of_ble_eq_true rfl), (Nat.le_of_ble_eq_true rfl)⟩ dX5_plan_143 rfl rfl ?_
        refine z_istore (pc := 146) (loc' := [(7, .int v20), (0, .ref (a 15)), (4, .int v14), (5, .int v15), (6, .int v16)]) C dX5_plan_146 (by decide) rfl ?_
        refine z_iload 0 (pc := 148) C dX5_plan_148 rfl ?_
        refine z_iconst (pc := 150) (v := (-1 : Int32)) C dX5_plan_150 (by decide) ?_
        refine z_icmp_ne 155 (pc := 151) C dX5_plan_151 (by decide) (fun c21 => ?_) (fun c21 => ?_)
        · have hF := if_f hF c21
          refine z_aload_n 1 (pc := 155) C dX5_plan_155 rfl rfl ?_
          refine gfX5_21 (pc := 156) C (rfl : kdX 15 = 5) dX5_plan_156 ?_
          refine z_iload 4 (pc := 159) C dX5_plan_159 rfl ?_
          refine z_iload 0 (pc := 161) C dX5_plan_161 rfl ?_
          obtain ⟨g22, hF⟩ := gd_of hF
          refine saX5 (pc := 163) C (rfl : kdX 19 = 25) g22 dX5_plan_163 ?_
          obtain ⟨S23, e24, hF⟩ := bv_of hF
          rw [← e24]
          refine z_iload 2 (pc := 164) C dX5_plan_164 rfl ?_
          refine z_iconst (pc := 166) (v := (1 : Int32)) C dX5_plan_166 (by decide) ?_
          refine z_iload 0 (pc := 167) C dX5_plan_167 rfl ?_
          refine z_ishl (pc := 169) C dX5_plan_169 ?_
          refine z_ior (pc := 170) C dX5_plan_170 ?_
          obtain ⟨v25, e26, hF⟩ := bv_of hF
          refine z_topi e26 ?_
          refine z_istore (pc := 171) (loc' := [(4, .int v25), (7, .int v20), (0, .ref (a 15)), (5, .int v15), (6, .int v16)]) C dX5_plan_171 (by decide) rfl ?_
          refine z_aload_n 2 (pc := 173) C dX5_plan_173 rfl rfl ?_
          refine gfX5_18 (pc := 174) C (rfl : kdX 15 = 5) dX5_plan_174 ?_
          refine z_iload 1 (pc := 177) C dX5_plan_177 rfl ?_
          obtain ⟨g27, hF⟩ := gd_of hF
          refine iaX5 (pc := 179) C (rfl : kdX 18 = 25) g27 dX5_plan_179 ?_
          obtain ⟨v28, e29, hF⟩ := bv_of hF
          refine z_topi e29 ?_
          refine z_istore (pc := 180) (loc' := [(5, .int v28), (4, .int v25), (7, .int v20), (0, .ref (a 15)), (6, .int v16)]) C dX5_plan_180 (by decide) rfl ?_
          obtain ⟨v30, e31, hF⟩ := bv_of hF
          refine z_iinc 4 (pc := 182) (v := v30) (loc' := [(6, .int v30), (5, .int v28), (4, .int v25), (7, .int v20), (0, .ref (a 15))]) C dX5_plan_182 rfl (by rw [e31]; rfl) (by decide) rfl ?_
          refine z_goto 129 (pc := 185) C dX5_plan_185 (by decide) ?_
          refine z_sub [4, 2, 1, 0] rfl ?_
          exact hN18 _ _ _ _ hF
        · have hF := if_t hF c21
          exact z_vret (pc := 154) C hQ hr dX5_plan_154 (by cases hF; rfl) (by cases hF; rfl) (Nat.le_of_ble_eq_true rfl) (Nat.le_of_ble_eq_true rfl)
    have hF := hR
    clear hR
    refine z_icmp_ne 113 (pc := 106) C dX5_plan_106 (by decide) (fun c33 => ?_) (fun c33 => ?_)
    · have hF := if_f hF c33
      refine z_aload_n 0 (pc := 113) C dX5_plan_113 rfl rfl ?_
      refine gfX5_28 (pc := 114) C (rfl : kdX 15 = 5) dX5_plan_114 ?_
      exact hJ32 _ hF
    · have hF := if_t hF c33
      refine z_iconst (pc := 109) (v := (0 : Int32)) C dX5_plan_109 (by decide) ?_
      refine z_goto 117 (pc := 110) C dX5_plan_110 (by decide) ?_
      exact hJ32 _ hF
  have hF := hR
  clear hR
  refine lq2_W (P := fun (v4 : Int32) (S5 : St) => Zz E (WX E a S5) 0 0 17 [(0, .ref (a 15)), (4, .int v4)] []) (fun next6 hN6 v4 S5 hF => ?_) _ _ _ hF
  unfold fX5_plan_L17 at hF
  refine z_iload 1 (pc := 17) C dX5_plan_17 rfl ?_
  refine z_if_lt 90 (pc := 19) C dX5_plan_19 (by decide) (fun c35 => ?_) (fun c35 => ?_)
  · have hF := if_t hF c35
    refine z_sub [0] rfl ?_
    exact hJ34 _ hF
  · have hF := if_f hF c35
    refine z_iconst (pc := 22) (v := (0 : Int32)) C dX5_plan_22 (by decide) ?_
    refine z_istore (pc := 23) (loc' := [(5, .int (0 : Int32)), (0, .ref (a 15)), (4, .int v4)]) C dX5_plan_23 (by decide) rfl ?_
    refine z_sub [1, 2, 0] rfl ?_
    obtain ⟨S39', hR, hF⟩ := bn1_of hF
    have hJ42 : ∀ (S39 : St), (some S39 : Option (St)) = some S39' → Zz E (WX E a S39) 0 0 84 [(0, .ref (a 15)), (4, .int v4)] [] := by
      intro S39 hE
      have hE0 := Option.some.inj hE
      subst hE0
      obtain ⟨v40, e41, hF⟩ := bv_of hF
      refine z_iinc 1 (pc := 84) (v := v40) (loc' := [(4, .int v40), (0, .ref (a 15))]) C dX5_plan_84 rfl (by rw [e41]; rfl) (by decide) rfl ?_
      refine z_goto 17 (pc := 87) C dX5_plan_87 (by decide) ?_
      refine z_sub [1, 0] rfl ?_
      exact hN6 _ _ hF
    have hF := hR
    clear hR
    refine lq2_W (P := fun (v36 : Int32) (S37 : St) => Zz E (WX E a S37) 0 0 25 [(0, .ref (a 15)), (4, .int v4), (5, .int v36)] []) (fun next38 hN38 v36 S37 hF => ?_) _ _ _ hF
    unfold fX5_plan_L25 at hF
    refine z_iload 2 (pc := 25) C dX5_plan_25 rfl ?_
    refine z_iconst (pc := 27) (v := (3 : Int32)) C dX5_plan_27 (by decide) ?_
    refine z_icmp_ge 84 (pc := 28) C dX5_plan_28 (by decide) (fun c43 => ?_) (fun c43 => ?_)
    · have hF := if_t hF c43
      refine z_sub [0, 1] rfl ?_
      exact hJ42 _ hF
    · have hF := if_f hF c43
      refine z_aload_n 0 (pc := 31) C dX5_plan_31 rfl rfl ?_
      refine z_iload 1 (pc := 32) C dX5_plan_32 rfl ?_
      refine z_iload 2 (pc := 34) C dX5_plan_34 rfl ?_
      obtain ⟨v44, hG, hF⟩ := bn1_of hF
      refine z_callV [.int v4, .int v36] (pc := 36) (st1 := [.int v44]) (c1 := 0) (s1 := 0) C (mX5_bestNext C.hT hG) kX5_32 (kdX_lt (rfl : kdX 15 = 5) (by decide)) (gX_5 (rfl : kdX 15 = 5)) rfl rfl rfl rfl (Nat.le_of_ble_eq_true rfl) ⟨(Nat.le_of_ble_eq_true rfl), (Nat.le_of_ble_eq_true rfl)⟩ ⟨(Nat.le_of_ble_eq_true rfl), (Nat.le_of_ble_eq_true rfl)⟩ dX5_plan_36 rfl rfl ?_
      refine z_istore (pc := 39) (loc' := [(6, .int v44), (0, .ref (a 15)), (4, .int v4), (5, .int v36)]) C dX5_plan_39 (by decide) rfl ?_
      refine z_aload_n 1 (pc := 41) C dX5_plan_41 rfl rfl ?_
      refine gfX5_15 (pc := 42) C (rfl : kdX 15 = 5) dX5_plan_42 ?_
      refine z_iload 2 (pc := 45) C dX5_plan_45 rfl ?_
      refine z_iconst (pc := 47) (v := (3 : Int32)) C dX5_plan_47 (by decide) ?_
      refine z_imul (pc := 48) C dX5_plan_48 ?_
      refine z_iload 3 (pc := 49) C dX5_plan_49 rfl ?_
      refine z_iadd (pc := 51) C dX5_plan_51 ?_
      refine z_iload 0 (pc := 52) C dX5_plan_52 rfl ?_
      refine z_iconst (pc := 54) (v := (-1 : Int32)) C dX5_plan_54 (by decide) ?_
      obtain ⟨v45', hR, hF⟩ := bn1_of hF
      have hJ51 : ∀ (v45 : Int32), (some v45 : Option (Int32)) = some v45' → Zz E (WX E a S37) 0 0 77 [(0, .ref (a 15)), (4, .int v4), (5, .int v36)] [.int v45, .int ((v4 * (3 : Int32)) + v36), .ref (a 17)] := by
        intro v45 hE
        have hE0 := Option.some.inj hE
        subst hE0
        obtain ⟨g46, hF⟩ := gd_of hF
        refine saX96 (pc := 77) C (rfl : kdX 17 = 116) g46 dX5_plan_77 ?_
        obtain ⟨S47, e48, hF⟩ := bv_of hF
        rw [← e48]
        obtain ⟨v49, e50, hF⟩ := bv_of hF
        refine z_iinc 2 (pc := 78) (v := v49) (loc' := [(5, .int v49), (0, .ref (a 15)), (4, .int v4)]) C dX5_plan_78 rfl (by rw [e50]; rfl) (by decide) rfl ?_
        refine z_goto 25 (pc := 81) C dX5_plan_81 (by decide) ?_
        refine z_sub [1, 2, 0] rfl ?_
        exact hN38 _ _ hF
      have hF := hR
      clear hR
      refine z_icmp_ne 67 (pc := 55) C dX5_plan_55 (by decide) (fun c52 => ?_) (fun c52 => ?_)
      · have hF := if_f hF c52
        refine z_aload_n 1 (pc := 67) C dX5_plan_67 rfl rfl ?_
        refine z_iload 2 (pc := 68) C dX5_plan_68 rfl ?_
        refine z_iload 3 (pc := 70) C dX5_plan_70 rfl ?_
        refine z_iload 0 (pc := 72) C dX5_plan_72 rfl ?_
        obtain ⟨v53, hG, hF⟩ := bn1_of hF
        refine z_callV [.int v4, .int v36, .int v44] (pc := 74) (st1 := [.int v53, .int ((v4 * (3 : Int32)) + v36), .ref (a 17)]) (c1 := 0) (s1 := 0) C (mX5_turnsBy C.hT hG) kX5_40 (kdX_lt (rfl : kdX 15 = 5) (by decide)) (gX_5 (rfl : kdX 15 = 5)) rfl rfl rfl rfl (Nat.le_of_ble_eq_true rfl) ⟨(Nat.le_of_ble_eq_true rfl), (Nat.le_of_ble_eq_true rfl)⟩ ⟨(Nat.le_of_ble_eq_true rfl), (Nat.le_of_ble_eq_true rfl)⟩ dX5_plan_74 rfl rfl ?_
        refine z_sub [1, 2, 3] rfl ?_
        exact hJ51 _ hF
      · have hF := if_t hF c52
        refine z_aload_n 1 (pc := 58) C dX5_plan_58 rfl rfl ?_
        refine z_iload 2 (pc := 59) C dX5_plan_59 rfl ?_
        obtain ⟨v54, hG, hF⟩ := bn1_of hF
        refine z_callV [.int v4] (pc := 61) (st1 := [.int v54, .int ((v4 * (3 : Int32)) + v36), .ref (a 17)]) (c1 := 0) (s1 := 0) C (mX5_restOfNone C.hT hG) kX5_36 (kdX_lt (rfl : kdX 15 = 5) (by decide)) (gX_5 (rfl : kdX 15 = 5)) rfl rfl rfl rfl (Nat.le_of_ble_eq_true rfl) ⟨(Nat.le_of_ble_eq_true rfl), (Nat.le_of_ble_eq_true rfl)⟩ ⟨(Nat.le_of_ble_eq_true rfl), (Nat.le_of_ble_eq_true rfl)⟩ dX5_plan_61 rfl rfl ?_
        refine z_goto 77 (pc := 64) C dX5_plan_64 (by decide) ?_
        refine z_sub [1, 2, 3] rfl ?_
        exact hJ51 _ hF
def fX8_nest_L68 (k1 : Nat) (next12 : Int32 → St → Option (St)) (v10 : Int32) (S11 : St) : Option (St) :=
  if (gi S11 0 2) ≤ v10 then (
    some S11)
  else (
    gd (inb v10 8) (
    bn1 (if (gi S11 6 v10.toNatClampNeg) ≤ 0 then (
      some S11)
    else (
      gd (inb v10 8) (
      bn1 (fX4_blankBy S11 (pid v10) k1) (fun (v27 : Int32) =>
      gd (inb v10 8) (
      gd (inb v10 8) (
      bn1 (fX3_addKind S11 v27 (gi S11 (pid v10) 1) (gi S11 6 v10.toNatClampNeg)) (fun (S30 : St) =>
      some S30))))))) (fun (S21 : St) =>
      bv (v10 + 1) (fun (v22 : Int32) =>
      next12 v22 S21))))
def fX8_nest (S : St) (p1 : Int32) (p2 : Int32) (p3 : Int32) (p4 : Int32) : Option (((String ⊕ Int64) × St)) :=
  bx (fX8_toolAt S p1) (fun (x31 : String) => some (.inl x31, S)) (fun (k1 : Nat) =>
  bn1 (fX8_isOut p2 (50 : Int32) (3000 : Int32)) (fun (v3 : Int32) =>
  if v3 = 0 then (
    bn1 (fX8_isOut p3 (50 : Int32) (if p2 < (1500 : Int32) then p2 else (1500 : Int32))) (fun (v5 : Int32) =>
    if v5 = 0 then (
      bn1 (fX8_isOut p4 (0 : Int32) (3 : Int32)) (fun (v7 : Int32) =>
      if v7 = 0 then (
        bn1 (fX3_start S p2 p3) (fun (S9 : St) =>
        bn1 (lq2 (fX8_nest_L68 k1) 200 (0 : Int32) S9) (fun (S13 : St) =>
          bn1 (fX3_doAllFit S13) (fun (v14 : Int32) =>
          if v14 = 0 then (
            some (.inr (-1 : Int64), S13))
          else (
            bn1 (fX3_layAll S13) (fun (S16 : St) =>
            bn1 (fX3_tell S16 p4) (fun (w17 : Int64) =>
            some (.inr w17, S16))))))))
      else (
        some (.inl "java/lang/IllegalArgumentException", S))))
    else (
      some (.inl "java/lang/IllegalArgumentException", S))))
  else (
    some (.inl "java/lang/IllegalArgumentException", S))))
abbrev rmX8_nest : Room := { frames := 10, cells := 2, slots := 12, locals := 250 }
set_option maxRecDepth 100000 in
set_option maxHeartbeats 4000000 in
theorem mX8_nest {l : Launch} {D : va_G} {cs : Nat → ClassId} {a : Nat → Nat} (hT : l.stackTraces = false) {S : St} {p1 : Int32} {p2 : Int32} {p3 : Int32} {p4 : Int32} {r : String ⊕ Int64} {S' : St} (hF : fX8_nest S p1 p2 p3 p4 = some (r, S')) : MX l 113 GX D cs a yX8_nest cX8_nest 7 (some .long) rmX8_nest [.ref (a 0), .int p1, .int p2, .int p3, .int p4] S (ocL r) S' := by
  refine zm_entry [(0, .ref (a 0)), (1, .int p1), (2, .int p2), (3, .int p3), (4, .int p4)] hT (by decide +kernel) (Nat.le_of_ble_eq_true rfl) rfl (fun E hEl hED hEk C hQ hr => ?_)
  subst hEl
  subst hED
  subst hEk
  unfold fX8_nest at hF
  refine z_aload_n 0 (pc := 0) C dX8_nest_0 rfl rfl ?_
  refine z_iload_n 1 (pc := 1) C dX8_nest_1 rfl rfl ?_
  rcases bx_of hF with ⟨x31, hG, hF⟩ | ⟨k1, hG, hF⟩
  · exact z_callVx [.int p1] (pc := 2) C (mX8_toolAt C.hT hG) kX8_186 (kdX_lt (rfl : kdX 0 = 8) (by decide)) (gX_8 (rfl : kdX 0 = 8)) rfl rfl rfl (Nat.le_of_ble_eq_true rfl) ⟨(Nat.le_of_ble_eq_true rfl), (Nat.le_of_ble_eq_true rfl)⟩ ⟨(Nat.le_of_ble_eq_true rfl), (Nat.le_of_ble_eq_true rfl)⟩ dX8_nest_2 hQ (by cases hF; rfl) (by cases hF; rfl)
  · have hk2 := qX8_toolAt hG
    refine z_callV [.int p1] (pc := 2) (st1 := [.ref (a k1)]) (c1 := 1) (s1 := 6) C (mX8_toolAt C.hT hG) kX8_186 (kdX_lt (rfl : kdX 0 = 8) (by decide)) (gX_8 (rfl : kdX 0 = 8)) rfl rfl rfl rfl (Nat.le_of_ble_eq_true rfl) ⟨(Nat.le_of_ble_eq_true rfl), (Nat.le_of_ble_eq_true rfl)⟩ ⟨(Nat.le_of_ble_eq_true rfl), (Nat.le_of_ble_eq_true rfl)⟩ dX8_nest_2 rfl rfl ?_
    refine z_astore (pc := 5) (loc' := [(5, .ref (a k1)), (0, .ref (a 0)), (1, .int p1), (2, .int p2), (3, .int p3), (4, .int p4)]) C dX8_nest_5 (by decide) rfl ?_
    refine z_iload_n 3 (pc := 7) C dX8_nest_7 rfl rfl ?_
    refine z_bipush (pc := 8) (v := (50 : Int32)) C dX8_nest_8 (by decide) ?_
    refine z_sipush (pc := 10) (v := (3000 : Int32)) C dX8_nest_10 (by decide) ?_
    obtain ⟨v3, hG, hF⟩ := bn1_of hF
    refine z_callS [.int p2, .int (50 : Int32), .int (3000 : Int32)] (pc := 13) (st1 := [.int v3]) (c1 := 1) (s1 := 6) C (mX8_isOut C.hT hG) kX8_62 rfl rfl rfl rfl (Nat.le_of_ble_eq_true rfl) ⟨(Nat.le_of_ble_eq_true rfl), (Nat.le_of_ble_eq_true rfl)⟩ ⟨(Nat.le_of_ble_eq_true rfl), (Nat.le_of_ble_eq_true rfl)⟩ dX8_nest_13 rfl rfl ?_
    refine z_if_ne 45 (pc := 16) C dX8_nest_16 (by decide) (fun c4 => ?_) (fun c4 => ?_)
    · have hF := if_f hF c4
      exact z_thrW (pc := 45) C hQ th_arg st_264 dX8_nest_45 dX8_nest_48 dX8_nest_49 dX8_nest_52 dX8_nest_55 (by cases hF; rfl) (by cases hF; rfl) (Nat.le_of_ble_eq_true rfl) (Nat.le_of_ble_eq_true rfl) (Nat.le_of_ble_eq_true rfl) (Nat.le_of_ble_eq_true rfl)
    · have hF := if_t hF c4
      refine z_iload_n 4 (pc := 19) C dX8_nest_19 rfl rfl ?_
      refine z_bipush (pc := 20) (v := (50 : Int32)) C dX8_nest_20 (by decide) ?_
      refine z_sipush (pc := 22) (v := (1500 : Int32)) C dX8_nest_22 (by decide) ?_
      refine z_iload_n 3 (pc := 25) C dX8_nest_25 rfl rfl ?_
      refine z_mmin (pc := 26) C bw_17_22 bw_13_7 bw_13_8 bw_13_9 (Nat.le_of_ble_eq_true rfl) (Nat.le_of_ble_eq_true rfl) (Nat.le_of_ble_eq_true rfl) (Nat.le_of_ble_eq_true rfl) dX8_nest_26 ?_
      obtain ⟨v5, hG, hF⟩ := bn1_of hF
      refine z_callS [.int p3, .int (50 : Int32), .int (if p2 < (1500 : Int32) then p2 else (1500 : Int32))] (pc := 29) (st1 := [.int v5]) (c1 := 1) (s1 := 6) C (mX8_isOut C.hT hG) kX8_62 rfl rfl rfl rfl (Nat.le_of_ble_eq_true rfl) ⟨(Nat.le_of_ble_eq_true rfl), (Nat.le_of_ble_eq_true rfl)⟩ ⟨(Nat.le_of_ble_eq_true rfl), (Nat.le_of_ble_eq_true rfl)⟩ dX8_nest_29 rfl rfl ?_
      refine z_if_ne 45 (pc := 32) C dX8_nest_32 (by decide) (fun c6 => ?_) (fun c6 => ?_)
      · have hF := if_f hF c6
        exact z_thrW (pc := 45) C hQ th_arg st_264 dX8_nest_45 dX8_nest_48 dX8_nest_49 dX8_nest_52 dX8_nest_55 (by cases hF; rfl) (by cases hF; rfl) (Nat.le_of_ble_eq_true rfl) (Nat.le_of_ble_eq_true rfl) (Nat.le_of_ble_eq_true rfl) (Nat.le_of_ble_eq_true rfl)
      · have hF := if_t hF c6
        refine z_iload 5 (pc := 35) C dX8_nest_35 rfl ?_
        refine z_iconst (pc := 37) (v := (0 : Int32)) C dX8_nest_37 (by decide) ?_
        refine z_iconst (pc := 38) (v := (3 : Int32)) C dX8_nest_38 (by decide) ?_
        obtain ⟨v7, hG, hF⟩ := bn1_of hF
        refine z_callS [.int p4, .int (0 : Int32), .int (3 : Int32)] (pc := 39) (st1 := [.int v7]) (c1 := 1) (s1 := 6) C (mX8_isOut C.hT hG) kX8_62 rfl rfl rfl rfl (Nat.le_of_ble_eq_true rfl) ⟨(Nat.le_of_ble_eq_true rfl), (Nat.le_of_ble_eq_true rfl)⟩ ⟨(Nat.le_of_ble_eq_true rfl), (Nat.le_of_ble_eq_true rfl)⟩ dX8_nest_39 rfl rfl ?_
        refine z_if_eq 56 (pc := 42) C dX8_nest_42 (by decide) (fun c8 => ?_) (fun c8 => ?_)
        · have hF := if_t hF c8
          refine z_aload_n 1 (pc := 56) C dX8_nest_56 rfl rfl ?_
          refine gfX8_55 (pc := 57) C (rfl : kdX 0 = 8) dX8_nest_57 ?_
          refine z_iload_n 3 (pc := 60) C dX8_nest_60 rfl rfl ?_
          refine z_iload_n 4 (pc := 61) C dX8_nest_61 rfl rfl ?_
          obtain ⟨S9, hG, hF⟩ := bn1_of hF
          refine z_callV [.int p2, .int p3] (pc := 62) (st1 := []) (c1 := 1) (s1 := 6) C (mX3_start C.hT hG) kX8_266 (kdX_lt (rfl : kdX 20 = 3) (by decide)) (gX_3 (rfl : kdX 20 = 3)) rfl rfl rfl rfl (Nat.le_of_ble_eq_true rfl) ⟨(Nat.le_of_ble_eq_true rfl), (Nat.le_of_ble_eq_true rfl)⟩ ⟨(Nat.le_of_ble_eq_true rfl), (Nat.le_of_ble_eq_true rfl)⟩ dX8_nest_62 rfl rfl ?_
          refine z_iconst (pc := 65) (v := (0 : Int32)) C dX8_nest_65 (by decide) ?_
          refine z_istore (pc := 66) (loc' := [(6, .int (0 : Int32)), (5, .ref (a k1)), (0, .ref (a 0)), (1, .int p1), (2, .int p2), (3, .int p3), (4, .int p4)]) C dX8_nest_66 (by decide) rfl ?_
          refine z_sub [2, 6, 1, 0] rfl ?_
          obtain ⟨S13', hR, hF⟩ := bn1_of hF
          have hJ18 : ∀ (S13 : St), (some S13 : Option (St)) = some S13' → Zz E (WX E a S13) 1 6 129 [(0, .ref (a 0)), (4, .int p4)] [] := by
            intro S13 hE
            have hE0 := Option.some.inj hE
            subst hE0
            refine z_aload_n 0 (pc := 129) C dX8_nest_129 rfl rfl ?_
            refine gfX8_55 (pc := 130) C (rfl : kdX 0 = 8) dX8_nest_130 ?_
            obtain ⟨v14, hG, hF⟩ := bn1_of hF
            refine z_callV [] (pc := 133) (st1 := [.int v14]) (c1 := 1) (s1 := 6) C (mX3_doAllFit C.hT hG) kX8_273 (kdX_lt (rfl : kdX 20 = 3) (by decide)) (gX_3 (rfl : kdX 20 = 3)) rfl rfl rfl rfl (Nat.le_of_ble_eq_true rfl) ⟨(Nat.le_of_ble_eq_true rfl), (Nat.le_of_ble_eq_true rfl)⟩ ⟨(Nat.le_of_ble_eq_true rfl), (Nat.le_of_ble_eq_true rfl)⟩ dX8_nest_133 rfl rfl ?_
            refine z_if_ne 143 (pc := 136) C dX8_nest_136 (by decide) (fun c15 => ?_) (fun c15 => ?_)
            · have hF := if_f hF c15
              refine z_aload_n 0 (pc := 143) C dX8_nest_143 rfl rfl ?_
              refine gfX8_55 (pc := 144) C (rfl : kdX 0 = 8) dX8_nest_144 ?_
              obtain ⟨S16, hG, hF⟩ := bn1_of hF
              refine z_callV [] (pc := 147) (st1 := []) (c1 := 1) (s1 := 6) C (mX3_layAll C.hT hG) kX8_279 (kdX_lt (rfl : kdX 20 = 3) (by decide)) (gX_3 (rfl : kdX 20 = 3)) rfl rfl rfl rfl (Nat.le_of_ble_eq_true rfl) ⟨(Nat.le_of_ble_eq_true rfl), (Nat.le_of_ble_eq_true rfl)⟩ ⟨(Nat.le_of_ble_eq_true rfl), (Nat.le_of_ble_eq_true rfl)⟩ dX8_nest_147 rfl rfl ?_
              refine z_aload_n 0 (pc := 150) C dX8_nest_150 rfl rfl ?_
              refine gfX8_55 (pc := 151) C (rfl : kdX 0 = 8) dX8_nest_151 ?_
              refine z_iload 1 (pc := 154) C dX8_nest_154 rfl ?_
              obtain ⟨w17, hG, hF⟩ := bn1_of hF
              refine z_callV [.int p4] (pc := 156) (st1 := [.long w17]) (c1 := 1) (s1 := 6) C (mX3_tell C.hT hG) kX8_282 (kdX_lt (rfl : kdX 20 = 3) (by decide)) (gX_3 (rfl : kdX 20 = 3)) rfl rfl rfl rfl (Nat.le_of_ble_eq_true rfl) ⟨(Nat.le_of_ble_eq_true rfl), (Nat.le_of_ble_eq_true rfl)⟩ ⟨(Nat.le_of_ble_eq_true rfl), (Nat.le_of_ble_eq_true rfl)⟩ dX8_nest_156 rfl rfl ?_
              exact z_lret (pc := 159) C hQ hr dX8_nest_159 (by cases hF; rfl) (by cases hF; rfl) (Nat.le_of_ble_eq_true rfl) (Nat.le_of_ble_eq_true rfl)
            · have hF := if_t hF c15
              refine z_ldc2 (pc := 139) (v := (-1 : Int64)) C bw_17_23 dX8_nest_139 ?_
              exact z_lret (pc := 142) C hQ hr dX8_nest_142 (by cases hF; rfl) (by cases hF; rfl) (Nat.le_of_ble_eq_true rfl) (Nat.le_of_ble_eq_true rfl)
          have hF := hR
          clear hR
          refine lq2_W (P := fun (v10 : Int32) (S11 : St) => Zz E (WX E a S11) 1 6 68 [(0, .ref (a 0)), (4, .int p4), (5, .ref (a k1)), (6, .int v10)] []) (fun next12 hN12 v10 S11 hF => ?_) _ _ _ hF
          unfold fX8_nest_L68 at hF
          refine z_iload 3 (pc := 68) C dX8_nest_68 rfl ?_
          refine z_aload_n 0 (pc := 70) C dX8_nest_70 rfl rfl ?_
          refine gfX8_95 (pc := 71) C (rfl : kdX 0 = 8) dX8_nest_71 ?_
          refine z_icmp_ge 129 (pc := 74) C dX8_nest_74 (by decide) (fun c19 => ?_) (fun c19 => ?_)
          · have hF := if_t hF c19
            refine z_sub [0, 1] rfl ?_
            exact hJ18 _ hF
          · have hF := if_f hF c19
            refine z_aload_n 0 (pc := 77) C dX8_nest_77 rfl rfl ?_
            refine gfX8_28 (pc := 78) C (rfl : kdX 0 = 8) dX8_nest_78 ?_
            refine z_iload 3 (pc := 81) C dX8_nest_81 rfl ?_
            obtain ⟨g20, hF⟩ := gd_of hF
            refine iaX8 (pc := 83) C (rfl : kdX 6 = 28) g20 dX8_nest_83 ?_
            obtain ⟨S21', hR, hF⟩ := bn1_of hF
            have hJ24 : ∀ (S21 : St), (some S21 : Option (St)) = some S21' → Zz E (WX E a S21) 1 6 123 [(0, .ref (a 0)), (4, .int p4), (5, .ref (a k1)), (6, .int v10)] [] := by
              intro S21 hE
              have hE0 := Option.some.inj hE
              subst hE0
              obtain ⟨v22, e23, hF⟩ := bv_of hF
              refine z_iinc 3 (pc := 123) (v := v22) (loc' := [(6, .int v22), (0, .ref (a 0)), (4, .int p4), (5, .ref (a k1))]) C dX8_nest_123 rfl (by rw [e23]; rfl) (by decide) rfl ?_
              refine z_goto 68 (pc := 126) C dX8_nest_126 (by decide) ?_
              refine z_sub [1, 2, 3, 0] rfl ?_
              exact hN12 _ _ hF
            have hF := hR
            clear hR
            refine z_if_le 123 (pc := 84) C dX8_nest_84 (by decide) (fun c25 => ?_) (fun c25 => ?_)
            · have hF := if_t hF c25
              exact hJ24 _ hF
            · have hF := if_f hF c25
              refine z_aload_n 0 (pc := 87) C dX8_nest_87 rfl rfl ?_
              refine gfX8_55 (pc := 88) C (rfl : kdX 0 = 8) dX8_nest_88 ?_
              refine z_aload_n 0 (pc := 91) C dX8_nest_91 rfl rfl ?_
              refine gfX8_18 (pc := 92) C (rfl : kdX 0 = 8) dX8_nest_92 ?_
              refine z_iload 3 (pc := 95) C dX8_nest_95 rfl ?_
              obtain ⟨g26, hF⟩ := gd_of hF
              refine aapid (pc := 97) C (rfl : kdX 4 = 11) g26 dX8_nest_97 ?_
              refine z_aload 2 (pc := 98) C dX8_nest_98 rfl ?_
              obtain ⟨v27, hG, hF⟩ := bn1_of hF
              refine z_callV [.ref (a k1)] (pc := 100) (st1 := [.int v27, .ref (a 20)]) (c1 := 1) (s1 := 6) C (mX4_blankBy C.hT (kX_pid g26) hk2 hG) kX8_195 (kdX_lt (kX_pid g26) (by decide)) (gX_4 (kX_pid g26)) rfl rfl rfl rfl (Nat.le_of_ble_eq_true rfl) ⟨(Nat.le_of_ble_eq_true rfl), (Nat.le_of_ble_eq_true rfl)⟩ ⟨(Nat.le_of_ble_eq_true rfl), (Nat.le_of_ble_eq_true rfl)⟩ dX8_nest_100 rfl rfl ?_
              refine z_aload_n 0 (pc := 103) C dX8_nest_103 rfl rfl ?_
              refine gfX8_18 (pc := 104) C (rfl : kdX 0 = 8) dX8_nest_104 ?_
              refine z_iload 3 (pc := 107) C dX8_nest_107 rfl ?_
              obtain ⟨g28, hF⟩ := gd_of hF
              refine aapid (pc := 109) C (rfl : kdX 4 = 11) g28 dX8_nest_109 ?_
              refine gfX8_111 (pc := 110) C (kX_pid g28) dX8_nest_110 ?_
              refine z_aload_n 0 (pc := 113) C dX8_nest_113 rfl rfl ?_
              refine gfX8_28 (pc := 114) C (rfl : kdX 0 = 8) dX8_nest_114 ?_
              refine z_iload 3 (pc := 117) C dX8_nest_117 rfl ?_
              obtain ⟨g29, hF⟩ := gd_of hF
              refine iaX8 (pc := 119) C (rfl : kdX 6 = 28) g29 dX8_nest_119 ?_
              obtain ⟨S30, hG, hF⟩ := bn1_of hF
              refine z_callV [.int v27, .int (gi S11 (pid v10) 1), .int (gi S11 6 v10.toNatClampNeg)] (pc := 120) (st1 := []) (c1 := 1) (s1 := 6) C (mX3_addKind C.hT hG) kX8_269 (kdX_lt (rfl : kdX 20 = 3) (by decide)) (gX_3 (rfl : kdX 20 = 3)) rfl rfl rfl rfl (Nat.le_of_ble_eq_true rfl) ⟨(Nat.le_of_ble_eq_true rfl), (Nat.le_of_ble_eq_true rfl)⟩ ⟨(Nat.le_of_ble_eq_true rfl), (Nat.le_of_ble_eq_true rfl)⟩ dX8_nest_120 rfl rfl ?_
              exact hJ24 _ hF
        · have hF := if_f hF c8
          exact z_thrW (pc := 45) C hQ th_arg st_264 dX8_nest_45 dX8_nest_48 dX8_nest_49 dX8_nest_52 dX8_nest_55 (by cases hF; rfl) (by cases hF; rfl) (Nat.le_of_ble_eq_true rfl) (Nat.le_of_ble_eq_true rfl) (Nat.le_of_ble_eq_true rfl) (Nat.le_of_ble_eq_true rfl)
def fX8_flips (S : St) (p1 : Int32) (p2 : Int32) : Option (((String ⊕ Int32) × St)) :=
  bx (fX8_partAt S p1) (fun (x7 : String) => some (.inl x7, S)) (fun (k1 : Nat) =>
  bx (fX8_toolAt S p2) (fun (x6 : String) => some (.inl x6, S)) (fun (k3 : Nat) =>
  bn1 (fX5_plan S k1 k3) (fun (S5 : St) =>
  some (.inr (gi S5 15 6), S5))))
abbrev rmX8_flips : Room := { frames := 11, cells := 2, slots := 12, locals := 290 }
set_option maxRecDepth 100000 in
set_option maxHeartbeats 4000000 in
theorem mX8_flips {l : Launch} {D : va_G} {cs : Nat → ClassId} {a : Nat → Nat} (hT : l.stackTraces = false) {S : St} {p1 : Int32} {p2 : Int32} {r : String ⊕ Int32} {S' : St} (hF : fX8_flips S p1 p2 = some (r, S')) : MX l 113 GX D cs a yX8_flips cX8_flips 4 (some .int) rmX8_flips [.ref (a 0), .int p1, .int p2] S (ocI r) S' := by
  refine zm_entry [(0, .ref (a 0)), (1, .int p1), (2, .int p2)] hT (by decide +kernel) (Nat.le_of_ble_eq_true rfl) rfl (fun E hEl hED hEk C hQ hr => ?_)
  subst hEl
  subst hED
  subst hEk
  unfold fX8_flips at hF
  refine z_aload_n 0 (pc := 0) C dX8_flips_0 rfl rfl ?_
  refine z_iload_n 1 (pc := 1) C dX8_flips_1 rfl rfl ?_
  rcases bx_of hF with ⟨x7, hG, hF⟩ | ⟨k1, hG, hF⟩
  · exact z_callVx [.int p1] (pc := 2) C (mX8_partAt C.hT hG) kX8_104 (kdX_lt (rfl : kdX 0 = 8) (by decide)) (gX_8 (rfl : kdX 0 = 8)) rfl rfl rfl (Nat.le_of_ble_eq_true rfl) ⟨(Nat.le_of_ble_eq_true rfl), (Nat.le_of_ble_eq_true rfl)⟩ ⟨(Nat.le_of_ble_eq_true rfl), (Nat.le_of_ble_eq_true rfl)⟩ dX8_flips_2 hQ (by cases hF; rfl) (by cases hF; rfl)
  · have hk2 := qX8_partAt hG
    refine z_callV [.int p1] (pc := 2) (st1 := [.ref (a k1)]) (c1 := 1) (s1 := 6) C (mX8_partAt C.hT hG) kX8_104 (kdX_lt (rfl : kdX 0 = 8) (by decide)) (gX_8 (rfl : kdX 0 = 8)) rfl rfl rfl rfl (Nat.le_of_ble_eq_true rfl) ⟨(Nat.le_of_ble_eq_true rfl), (Nat.le_of_ble_eq_true rfl)⟩ ⟨(Nat.le_of_ble_eq_true rfl), (Nat.le_of_ble_eq_true rfl)⟩ dX8_flips_2 rfl rfl ?_
    refine z_astore_n (pc := 5) (loc' := [(3, .ref (a k1)), (0, .ref (a 0)), (1, .int p1), (2, .int p2)]) C dX8_flips_5 rfl (by decide) rfl ?_
    refine z_aload_n 1 (pc := 6) C dX8_flips_6 rfl rfl ?_
    refine gfX8_48 (pc := 7) C (rfl : kdX 0 = 8) dX8_flips_7 ?_
    refine z_aload_n 0 (pc := 10) C dX8_flips_10 rfl rfl ?_
    refine z_aload_n 1 (pc := 11) C dX8_flips_11 rfl rfl ?_
    refine z_iload_n 3 (pc := 12) C dX8_flips_12 rfl rfl ?_
    rcases bx_of hF with ⟨x6, hG, hF⟩ | ⟨k3, hG, hF⟩
    · exact z_callVx [.int p2] (pc := 13) C (mX8_toolAt C.hT hG) kX8_186 (kdX_lt (rfl : kdX 0 = 8) (by decide)) (gX_8 (rfl : kdX 0 = 8)) rfl rfl rfl (Nat.le_of_ble_eq_true rfl) ⟨(Nat.le_of_ble_eq_true rfl), (Nat.le_of_ble_eq_true rfl)⟩ ⟨(Nat.le_of_ble_eq_true rfl), (Nat.le_of_ble_eq_true rfl)⟩ dX8_flips_13 hQ (by cases hF; rfl) (by cases hF; rfl)
    · have hk4 := qX8_toolAt hG
      refine z_callV [.int p2] (pc := 13) (st1 := [.ref (a k3), .ref (a k1), .ref (a 15)]) (c1 := 2) (s1 := 12) C (mX8_toolAt C.hT hG) kX8_186 (kdX_lt (rfl : kdX 0 = 8) (by decide)) (gX_8 (rfl : kdX 0 = 8)) rfl rfl rfl rfl (Nat.le_of_ble_eq_true rfl) ⟨(Nat.le_of_ble_eq_true rfl), (Nat.le_of_ble_eq_true rfl)⟩ ⟨(Nat.le_of_ble_eq_true rfl), (Nat.le_of_ble_eq_true rfl)⟩ dX8_flips_13 rfl rfl ?_
      refine z_aload_n 1 (pc := 16) C dX8_flips_16 rfl rfl ?_
      refine gfX8_41 (pc := 17) C (rfl : kdX 0 = 8) dX8_flips_17 ?_
      obtain ⟨S5, hG, hF⟩ := bn1_of hF
      refine z_callV [.ref (a k1), .ref (a k3), .ref (a 8)] (pc := 20) (st1 := []) (c1 := 2) (s1 := 12) C (mX5_plan C.hT hk2 hk4 hG) kX8_232 (kdX_lt (rfl : kdX 15 = 5) (by decide)) (gX_5 (rfl : kdX 15 = 5)) rfl rfl rfl rfl (Nat.le_of_ble_eq_true rfl) ⟨(Nat.le_of_ble_eq_true rfl), (Nat.le_of_ble_eq_true rfl)⟩ ⟨(Nat.le_of_ble_eq_true rfl), (Nat.le_of_ble_eq_true rfl)⟩ dX8_flips_20 rfl rfl ?_
      refine z_aload_n 1 (pc := 23) C dX8_flips_23 rfl rfl ?_
      refine gfX8_48 (pc := 24) C (rfl : kdX 0 = 8) dX8_flips_24 ?_
      refine gfX8_236 (pc := 27) C (rfl : kdX 15 = 5) dX8_flips_27 ?_
      exact z_iret (pc := 30) C hQ hr rfl dX8_flips_30 (by cases hF; rfl) (by cases hF; rfl) (Nat.le_of_ble_eq_true rfl) (Nat.le_of_ble_eq_true rfl)
def fX8_hasOrder (S : St) (k1 : Nat) : Option ((Int32 × St)) :=
  gd (inb (gi S k1 0) 8) (
  gd (inb (gi S k1 1) 4) (
  bn1 (fX5_plan S (pid (gi S k1 0)) (tid (gi S k1 1))) (fun (S3 : St) =>
  if (gi S3 15 6) = (-1 : Int32) then (
    some ((0 : Int32), S3))
  else (
    some ((1 : Int32), S3)))))
abbrev rmX8_hasOrder : Room := { frames := 11, cells := 0, slots := 0, locals := 290 }
set_option maxRecDepth 100000 in
set_option maxHeartbeats 4000000 in
theorem mX8_hasOrder {l : Launch} {D : va_G} {cs : Nat → ClassId} {a : Nat → Nat} (hT : l.stackTraces = false) {S : St} {k1 : Nat} {r : Int32} {S' : St} (hk1 : kdX k1 = 0) (hF : fX8_hasOrder S k1 = some (r, S')) : MX l 113 GX D cs a yX8_hasOrder cX8_hasOrder 2 (some .boolean) rmX8_hasOrder [.ref (a 0), .ref (a k1)] S (.inr (some (.int r))) S' := by
  refine zm_entry [(0, .ref (a 0)), (1, .ref (a k1))] hT (by decide +kernel) (Nat.le_of_ble_eq_true rfl) rfl (fun E hEl hED hEk C hQ hr => ?_)
  subst hEl
  subst hED
  subst hEk
  unfold fX8_hasOrder at hF
  refine z_aload_n 0 (pc := 0) C dX8_hasOrder_0 rfl rfl ?_
  refine gfX8_48 (pc := 1) C (rfl : kdX 0 = 8) dX8_hasOrder_1 ?_
  refine z_aload_n 0 (pc := 4) C dX8_hasOrder_4 rfl rfl ?_
  refine gfX8_18 (pc := 5) C (rfl : kdX 0 = 8) dX8_hasOrder_5 ?_
  refine z_aload_n 1 (pc := 8) C dX8_hasOrder_8 rfl rfl ?_
  refine gfX8_291 (pc := 9) C hk1 dX8_hasOrder_9 ?_
  obtain ⟨g1, hF⟩ := gd_of hF
  refine aapid (pc := 12) C (rfl : kdX 4 = 11) g1 dX8_hasOrder_12 ?_
  refine z_aload_n 0 (pc := 13) C dX8_hasOrder_13 rfl rfl ?_
  refine gfX8_24 (pc := 14) C (rfl : kdX 0 = 8) dX8_hasOrder_14 ?_
  refine z_aload_n 1 (pc := 17) C dX8_hasOrder_17 rfl rfl ?_
  refine gfX8_294 (pc := 18) C hk1 dX8_hasOrder_18 ?_
  obtain ⟨g2, hF⟩ := gd_of hF
  refine aatid (pc := 21) C (rfl : kdX 5 = 12) g2 dX8_hasOrder_21 ?_
  refine z_aload_n 0 (pc := 22) C dX8_hasOrder_22 rfl rfl ?_
  refine gfX8_41 (pc := 23) C (rfl : kdX 0 = 8) dX8_hasOrder_23 ?_
  obtain ⟨S3, hG, hF⟩ := bn1_of hF
  refine z_callV [.ref (a (pid (gi S k1 0))), .ref (a (tid (gi S k1 1))), .ref (a 8)] (pc := 26) (st1 := []) (c1 := 0) (s1 := 0) C (mX5_plan C.hT (kX_pid g1) (kX_tid g2) hG) kX8_232 (kdX_lt (rfl : kdX 15 = 5) (by decide)) (gX_5 (rfl : kdX 15 = 5)) rfl rfl rfl rfl (Nat.le_of_ble_eq_true rfl) ⟨(Nat.le_of_ble_eq_true rfl), (Nat.le_of_ble_eq_true rfl)⟩ ⟨(Nat.le_of_ble_eq_true rfl), (Nat.le_of_ble_eq_true rfl)⟩ dX8_hasOrder_26 rfl rfl ?_
  refine z_aload_n 0 (pc := 29) C dX8_hasOrder_29 rfl rfl ?_
  refine gfX8_48 (pc := 30) C (rfl : kdX 0 = 8) dX8_hasOrder_30 ?_
  refine gfX8_236 (pc := 33) C (rfl : kdX 15 = 5) dX8_hasOrder_33 ?_
  refine z_iconst (pc := 36) (v := (-1 : Int32)) C dX8_hasOrder_36 (by decide) ?_
  refine z_icmp_eq 44 (pc := 37) C dX8_hasOrder_37 (by decide) (fun c4 => ?_) (fun c4 => ?_)
  · have hF := if_t hF c4
    refine z_iconst (pc := 44) (v := (0 : Int32)) C dX8_hasOrder_44 (by decide) ?_
    exact z_iret (pc := 45) C hQ hr rfl dX8_hasOrder_45 (by cases hF; rfl) (by cases hF; rfl) (Nat.le_of_ble_eq_true rfl) (Nat.le_of_ble_eq_true rfl)
  · have hF := if_f hF c4
    refine z_iconst (pc := 40) (v := (1 : Int32)) C dX8_hasOrder_40 (by decide) ?_
    refine z_goto 45 (pc := 41) C dX8_hasOrder_41 (by decide) ?_
    exact z_iret (pc := 45) C hQ hr rfl dX8_hasOrder_45 (by cases hF; rfl) (by cases hF; rfl) (Nat.le_of_ble_eq_true rfl) (Nat.le_of_ble_eq_true rfl)
def fX8_ordered (S : St) (p1 : Int32) (p2 : Int32) (p3 : Int32) : Option (((String ⊕ Int32) × St)) :=
  bx (fX8_partAt S p1) (fun (x10 : String) => some (.inl x10, S)) (fun (k1 : Nat) =>
  bx (fX8_toolAt S p2) (fun (x9 : String) => some (.inl x9, S)) (fun (k3 : Nat) =>
  if 0 ≤ p3 then (
    bn1 (fX5_plan S k1 k3) (fun (S6 : St) =>
    if (gi S6 15 5) ≤ p3 then (
      some (.inr (-1 : Int32), S6))
    else (
      gd (inb p3 5) (
      some (.inr (gi S6 19 p3.toNatClampNeg), S6)))))
  else (
    some (.inl "java/lang/IndexOutOfBoundsException", S))))
abbrev rmX8_ordered : Room := { frames := 11, cells := 3, slots := 18, locals := 290 }
set_option maxRecDepth 100000 in
set_option maxHeartbeats 4000000 in
theorem mX8_ordered {l : Launch} {D : va_G} {cs : Nat → ClassId} {a : Nat → Nat} (hT : l.stackTraces = false) {S : St} {p1 : Int32} {p2 : Int32} {p3 : Int32} {r : String ⊕ Int32} {S' : St} (hF : fX8_ordered S p1 p2 p3 = some (r, S')) : MX l 113 GX D cs a yX8_ordered cX8_ordered 6 (some .int) rmX8_ordered [.ref (a 0), .int p1, .int p2, .int p3] S (ocI r) S' := by
  refine zm_entry [(0, .ref (a 0)), (1, .int p1), (2, .int p2), (3, .int p3)] hT (by decide +kernel) (Nat.le_of_ble_eq_true rfl) rfl (fun E hEl hED hEk C hQ hr => ?_)
  subst hEl
  subst hED
  subst hEk
  unfold fX8_ordered at hF
  refine z_aload_n 0 (pc := 0) C dX8_ordered_0 rfl rfl ?_
  refine z_iload_n 1 (pc := 1) C dX8_ordered_1 rfl rfl ?_
  rcases bx_of hF with ⟨x10, hG, hF⟩ | ⟨k1, hG, hF⟩
  · exact z_callVx [.int p1] (pc := 2) C (mX8_partAt C.hT hG) kX8_104 (kdX_lt (rfl : kdX 0 = 8) (by decide)) (gX_8 (rfl : kdX 0 = 8)) rfl rfl rfl (Nat.le_of_ble_eq_true rfl) ⟨(Nat.le_of_ble_eq_true rfl), (Nat.le_of_ble_eq_true rfl)⟩ ⟨(Nat.le_of_ble_eq_true rfl), (Nat.le_of_ble_eq_true rfl)⟩ dX8_ordered_2 hQ (by cases hF; rfl) (by cases hF; rfl)
  · have hk2 := qX8_partAt hG
    refine z_callV [.int p1] (pc := 2) (st1 := [.ref (a k1)]) (c1 := 1) (s1 := 6) C (mX8_partAt C.hT hG) kX8_104 (kdX_lt (rfl : kdX 0 = 8) (by decide)) (gX_8 (rfl : kdX 0 = 8)) rfl rfl rfl rfl (Nat.le_of_ble_eq_true rfl) ⟨(Nat.le_of_ble_eq_true rfl), (Nat.le_of_ble_eq_true rfl)⟩ ⟨(Nat.le_of_ble_eq_true rfl), (Nat.le_of_ble_eq_true rfl)⟩ dX8_ordered_2 rfl rfl ?_
    refine z_astore (pc := 5) (loc' := [(4, .ref (a k1)), (0, .ref (a 0)), (1, .int p1), (2, .int p2), (3, .int p3)]) C dX8_ordered_5 (by decide) rfl ?_
    refine z_aload_n 1 (pc := 7) C dX8_ordered_7 rfl rfl ?_
    refine z_iload_n 3 (pc := 8) C dX8_ordered_8 rfl rfl ?_
    rcases bx_of hF with ⟨x9, hG, hF⟩ | ⟨k3, hG, hF⟩
    · exact z_callVx [.int p2] (pc := 9) C (mX8_toolAt C.hT hG) kX8_186 (kdX_lt (rfl : kdX 0 = 8) (by decide)) (gX_8 (rfl : kdX 0 = 8)) rfl rfl rfl (Nat.le_of_ble_eq_true rfl) ⟨(Nat.le_of_ble_eq_true rfl), (Nat.le_of_ble_eq_true rfl)⟩ ⟨(Nat.le_of_ble_eq_true rfl), (Nat.le_of_ble_eq_true rfl)⟩ dX8_ordered_9 hQ (by cases hF; rfl) (by cases hF; rfl)
    · have hk4 := qX8_toolAt hG
      refine z_callV [.int p2] (pc := 9) (st1 := [.ref (a k3)]) (c1 := 2) (s1 := 12) C (mX8_toolAt C.hT hG) kX8_186 (kdX_lt (rfl : kdX 0 = 8) (by decide)) (gX_8 (rfl : kdX 0 = 8)) rfl rfl rfl rfl (Nat.le_of_ble_eq_true rfl) ⟨(Nat.le_of_ble_eq_true rfl), (Nat.le_of_ble_eq_true rfl)⟩ ⟨(Nat.le_of_ble_eq_true rfl), (Nat.le_of_ble_eq_true rfl)⟩ dX8_ordered_9 rfl rfl ?_
      refine z_astore (pc := 12) (loc' := [(5, .ref (a k3)), (4, .ref (a k1)), (0, .ref (a 0)), (1, .int p1), (2, .int p2), (3, .int p3)]) C dX8_ordered_12 (by decide) rfl ?_
      refine z_iload_n 5 (pc := 14) C dX8_ordered_14 rfl rfl ?_
      refine z_if_ge 28 (pc := 15) C dX8_ordered_15 (by decide) (fun c5 => ?_) (fun c5 => ?_)
      · have hF := if_t hF c5
        refine z_aload_n 2 (pc := 28) C dX8_ordered_28 rfl rfl ?_
        refine gfX8_48 (pc := 29) C (rfl : kdX 0 = 8) dX8_ordered_29 ?_
        refine z_aload 1 (pc := 32) C dX8_ordered_32 rfl ?_
        refine z_aload 0 (pc := 34) C dX8_ordered_34 rfl ?_
        refine z_aload_n 2 (pc := 36) C dX8_ordered_36 rfl rfl ?_
        refine gfX8_41 (pc := 37) C (rfl : kdX 0 = 8) dX8_ordered_37 ?_
        obtain ⟨S6, hG, hF⟩ := bn1_of hF
        refine z_callV [.ref (a k1), .ref (a k3), .ref (a 8)] (pc := 40) (st1 := []) (c1 := 2) (s1 := 12) C (mX5_plan C.hT hk2 hk4 hG) kX8_232 (kdX_lt (rfl : kdX 15 = 5) (by decide)) (gX_5 (rfl : kdX 15 = 5)) rfl rfl rfl rfl (Nat.le_of_ble_eq_true rfl) ⟨(Nat.le_of_ble_eq_true rfl), (Nat.le_of_ble_eq_true rfl)⟩ ⟨(Nat.le_of_ble_eq_true rfl), (Nat.le_of_ble_eq_true rfl)⟩ dX8_ordered_40 rfl rfl ?_
        refine z_iload_n 5 (pc := 43) C dX8_ordered_43 rfl rfl ?_
        refine z_aload_n 2 (pc := 44) C dX8_ordered_44 rfl rfl ?_
        refine gfX8_48 (pc := 45) C (rfl : kdX 0 = 8) dX8_ordered_45 ?_
        refine gfX8_245 (pc := 48) C (rfl : kdX 15 = 5) dX8_ordered_48 ?_
        refine z_icmp_ge 66 (pc := 51) C dX8_ordered_51 (by decide) (fun c7 => ?_) (fun c7 => ?_)
        · have hF := if_t hF c7
          refine z_iconst (pc := 66) (v := (-1 : Int32)) C dX8_ordered_66 (by decide) ?_
          exact z_iret (pc := 67) C hQ hr rfl dX8_ordered_67 (by cases hF; rfl) (by cases hF; rfl) (Nat.le_of_ble_eq_true rfl) (Nat.le_of_ble_eq_true rfl)
        · have hF := if_f hF c7
          refine z_aload_n 2 (pc := 54) C dX8_ordered_54 rfl rfl ?_
          refine gfX8_48 (pc := 55) C (rfl : kdX 0 = 8) dX8_ordered_55 ?_
          refine gfX8_248 (pc := 58) C (rfl : kdX 15 = 5) dX8_ordered_58 ?_
          refine z_iload_n 5 (pc := 61) C dX8_ordered_61 rfl rfl ?_
          obtain ⟨g8, hF⟩ := gd_of hF
          refine iaX5 (pc := 62) C (rfl : kdX 19 = 25) g8 dX8_ordered_62 ?_
          refine z_goto 67 (pc := 63) C dX8_ordered_63 (by decide) ?_
          exact z_iret (pc := 67) C hQ hr rfl dX8_ordered_67 (by cases hF; rfl) (by cases hF; rfl) (Nat.le_of_ble_eq_true rfl) (Nat.le_of_ble_eq_true rfl)
      · have hF := if_f hF c5
        exact z_thr (pc := 18) C hQ th_ind st_243 dX8_ordered_18 dX8_ordered_21 dX8_ordered_22 dX8_ordered_24 dX8_ordered_27 (by cases hF; rfl) (by cases hF; rfl) (Nat.le_of_ble_eq_true rfl) (Nat.le_of_ble_eq_true rfl) (Nat.le_of_ble_eq_true rfl) (Nat.le_of_ble_eq_true rfl)
def fX8_work (S : St) (p1 : Int32) : Option (((String ⊕ Int32) × St)) :=
  bx (fX8_batchAt S p1) (fun (x17 : String) => some (.inl x17, S)) (fun (k1 : Nat) =>
  jn0 (
    jn1 (fun (S3 : St) =>
      bn1 (if (gi S3 k1 2) = 0 then (
        some (1 : Int32))
      else (
        some (2 : Int32))) (fun (v4 : Int32) =>
        bv (si S3 k1 2 v4) (fun (S5 : St) =>
        some (.inr (gi S5 k1 2), S5)))) (fun J9 =>
      if (gi S k1 2) = 0 then (
        bn2 (fX8_hasOrder S k1) (fun (v11 : Int32) (S12 : St) =>
        if v11 = 0 then (
          some (.inl "java/lang/IllegalStateException", S12))
        else (
          J9 S12)))
      else (
        J9 S))) (fun J14 =>
    if (gi S k1 2) = 0 then (
      J14)
    else (
      if (gi S k1 2) = (1 : Int32) then (
        J14)
      else (
        some (.inl "java/lang/IllegalStateException", S)))))
abbrev rmX8_work : Room := { frames := 12, cells := 2, slots := 12, locals := 330 }
set_option maxRecDepth 100000 in
set_option maxHeartbeats 4000000 in
theorem mX8_work {l : Launch} {D : va_G} {cs : Nat → ClassId} {a : Nat → Nat} (hT : l.stackTraces = false) {S : St} {p1 : Int32} {r : String ⊕ Int32} {S' : St} (hF : fX8_work S p1 = some (r, S')) : MX l 113 GX D cs a yX8_work cX8_work 3 (some .int) rmX8_work [.ref (a 0), .int p1] S (ocI r) S' := by
  refine zm_entry [(0, .ref (a 0)), (1, .int p1)] hT (by decide +kernel) (Nat.le_of_ble_eq_true rfl) rfl (fun E hEl hED hEk C hQ hr => ?_)
  subst hEl
  subst hED
  subst hEk
  unfold fX8_work at hF
  refine z_aload_n 0 (pc := 0) C dX8_work_0 rfl rfl ?_
  refine z_iload_n 1 (pc := 1) C dX8_work_1 rfl rfl ?_
  rcases bx_of hF with ⟨x17, hG, hF⟩ | ⟨k1, hG, hF⟩
  · exact z_callVx [.int p1] (pc := 2) C (mX8_batchAt C.hT hG) kX8_307 (kdX_lt (rfl : kdX 0 = 8) (by decide)) (gX_8 (rfl : kdX 0 = 8)) rfl rfl rfl (Nat.le_of_ble_eq_true rfl) ⟨(Nat.le_of_ble_eq_true rfl), (Nat.le_of_ble_eq_true rfl)⟩ ⟨(Nat.le_of_ble_eq_true rfl), (Nat.le_of_ble_eq_true rfl)⟩ dX8_work_2 hQ (by cases hF; rfl) (by cases hF; rfl)
  · have hk2 := qX8_batchAt hG
    refine z_callV [.int p1] (pc := 2) (st1 := [.ref (a k1)]) (c1 := 1) (s1 := 6) C (mX8_batchAt C.hT hG) kX8_307 (kdX_lt (rfl : kdX 0 = 8) (by decide)) (gX_8 (rfl : kdX 0 = 8)) rfl rfl rfl rfl (Nat.le_of_ble_eq_true rfl) ⟨(Nat.le_of_ble_eq_true rfl), (Nat.le_of_ble_eq_true rfl)⟩ ⟨(Nat.le_of_ble_eq_true rfl), (Nat.le_of_ble_eq_true rfl)⟩ dX8_work_2 rfl rfl ?_
    refine z_astore_n (pc := 5) (loc' := [(2, .ref (a k1)), (0, .ref (a 0)), (1, .int p1)]) C dX8_work_5 rfl (by decide) rfl ?_
    refine z_aload_n 0 (pc := 6) C dX8_work_6 rfl rfl ?_
    refine gfX8_297 (pc := 7) C hk2 dX8_work_7 ?_
    obtain ⟨J14, hdJ14, hF⟩ := jn0_of hF
    have hJ14 : J14 = some (r, S') → Zz E (WX E a S) 1 6 32 [(0, .ref (a 0)), (2, .ref (a k1))] [] := by
      intro hF
      have hF := hdJ14.symm.trans hF
      refine z_aload_n 1 (pc := 32) C dX8_work_32 rfl rfl ?_
      refine gfX8_297 (pc := 33) C hk2 dX8_work_33 ?_
      obtain ⟨J9, hdJ9, hF⟩ := jn1_of hF
      have hJ9 : ∀ (S3 : St), J9 S3 = some (r, S') → Zz E (WX E a S3) 1 6 58 [(2, .ref (a k1))] [] := by
        intro S3 hF
        have hF := (hdJ9 _).symm.trans hF
        refine z_aload_n 0 (pc := 58) C dX8_work_58 rfl rfl ?_
        refine z_aload_n 0 (pc := 59) C dX8_work_59 rfl rfl ?_
        refine gfX8_297 (pc := 60) C hk2 dX8_work_60 ?_
        obtain ⟨v4', hR, hF⟩ := bn1_of hF
        have hJ7 : ∀ (v4 : Int32), (some v4 : Option (Int32)) = some v4' → Zz E (WX E a S3) 1 6 71 [(2, .ref (a k1))] [.int v4, .ref (a k1)] := by
          intro v4 hE
          have hE0 := Option.some.inj hE
          subst hE0
          refine pfX8_297 (pc := 71) C hk2 dX8_work_71 ?_
          obtain ⟨S5, e6, hF⟩ := bv_of hF
          rw [← e6]
          refine z_aload_n 0 (pc := 74) C dX8_work_74 rfl rfl ?_
          refine gfX8_297 (pc := 75) C hk2 dX8_work_75 ?_
          exact z_iret (pc := 78) C hQ hr rfl dX8_work_78 (by cases hF; rfl) (by cases hF; rfl) (Nat.le_of_ble_eq_true rfl) (Nat.le_of_ble_eq_true rfl)
        have hF := hR
        clear hR
        refine z_if_ne 70 (pc := 63) C dX8_work_63 (by decide) (fun c8 => ?_) (fun c8 => ?_)
        · have hF := if_f hF c8
          refine z_iconst (pc := 70) (v := (2 : Int32)) C dX8_work_70 (by decide) ?_
          exact hJ7 _ hF
        · have hF := if_t hF c8
          refine z_iconst (pc := 66) (v := (1 : Int32)) C dX8_work_66 (by decide) ?_
          refine z_goto 71 (pc := 67) C dX8_work_67 (by decide) ?_
          exact hJ7 _ hF
      refine z_if_ne 58 (pc := 36) C dX8_work_36 (by decide) (fun c10 => ?_) (fun c10 => ?_)
      · have hF := if_f hF c10
        refine z_sub [1] rfl ?_
        exact hJ9 _ hF
      · have hF := if_t hF c10
        refine z_aload_n 0 (pc := 39) C dX8_work_39 rfl rfl ?_
        refine z_aload_n 1 (pc := 40) C dX8_work_40 rfl rfl ?_
        obtain ⟨v11, S12, hG, hF⟩ := bn2_of hF
        refine z_callV [.ref (a k1)] (pc := 41) (st1 := [.int v11]) (c1 := 1) (s1 := 6) C (mX8_hasOrder C.hT hk2 hG) kX8_313 (kdX_lt (rfl : kdX 0 = 8) (by decide)) (gX_8 (rfl : kdX 0 = 8)) rfl rfl rfl rfl (Nat.le_of_ble_eq_true rfl) ⟨(Nat.le_of_ble_eq_true rfl), (Nat.le_of_ble_eq_true rfl)⟩ ⟨(Nat.le_of_ble_eq_true rfl), (Nat.le_of_ble_eq_true rfl)⟩ dX8_work_41 rfl rfl ?_
        refine z_if_ne 58 (pc := 44) C dX8_work_44 (by decide) (fun c13 => ?_) (fun c13 => ?_)
        · have hF := if_f hF c13
          refine z_sub [1] rfl ?_
          exact hJ9 _ hF
        · have hF := if_t hF c13
          exact z_thrW (pc := 47) C hQ th_sta st_317 dX8_work_47 dX8_work_50 dX8_work_51 dX8_work_54 dX8_work_57 (by cases hF; rfl) (by cases hF; rfl) (Nat.le_of_ble_eq_true rfl) (Nat.le_of_ble_eq_true rfl) (Nat.le_of_ble_eq_true rfl) (Nat.le_of_ble_eq_true rfl)
    refine z_if_eq 32 (pc := 10) C dX8_work_10 (by decide) (fun c15 => ?_) (fun c15 => ?_)
    · have hF := if_t hF c15
      refine z_sub [1, 0] rfl ?_
      exact hJ14 hF
    · have hF := if_f hF c15
      refine z_aload_n 0 (pc := 13) C dX8_work_13 rfl rfl ?_
      refine gfX8_297 (pc := 14) C hk2 dX8_work_14 ?_
      refine z_iconst (pc := 17) (v := (1 : Int32)) C dX8_work_17 (by decide) ?_
      refine z_icmp_eq 32 (pc := 18) C dX8_work_18 (by decide) (fun c16 => ?_) (fun c16 => ?_)
      · have hF := if_t hF c16
        refine z_sub [1, 0] rfl ?_
        exact hJ14 hF
      · have hF := if_f hF c16
        exact z_thrW (pc := 21) C hQ th_sta st_311 dX8_work_21 dX8_work_24 dX8_work_25 dX8_work_28 dX8_work_31 (by cases hF; rfl) (by cases hF; rfl) (Nat.le_of_ble_eq_true rfl) (Nat.le_of_ble_eq_true rfl) (Nat.le_of_ble_eq_true rfl) (Nat.le_of_ble_eq_true rfl)
def fX5_fewestOfAll (S : St) (k1 : Nat) (k2 : Nat) : Option ((Int32 × St)) :=
  bn1 (fX5_look S k1 k2) (fun (S1 : St) =>
  bn1 (fX5_fewestBeyond 8 S1 (0 : Int32) (2 : Int32) (0 : Int32)) (fun (v2 : Int32) =>
  some (v2, S1)))
abbrev rmX5_fewestOfAll : Room := { frames := 16, cells := 0, slots := 0, locals := 490 }
set_option maxRecDepth 100000 in
set_option maxHeartbeats 4000000 in
theorem mX5_fewestOfAll {l : Launch} {D : va_G} {cs : Nat → ClassId} {a : Nat → Nat} (hT : l.stackTraces = false) {S : St} {k1 : Nat} {k2 : Nat} {r : Int32} {S' : St} (hk1 : kdX k1 = 4) (hk2 : kdX k2 = 6) (hF : fX5_fewestOfAll S k1 k2 = some (r, S')) : MX l 113 GX D cs a yX5_fewestOfAll cX5_fewestOfAll 4 (some .int) rmX5_fewestOfAll [.ref (a 15), .ref (a k1), .ref (a k2), .ref (a 8)] S (.inr (some (.int r))) S' := by
  refine zm_entry [(0, .ref (a 15)), (1, .ref (a k1)), (2, .ref (a k2)), (3, .ref (a 8))] hT (by decide +kernel) (Nat.le_of_ble_eq_true rfl) rfl (fun E hEl hED hEk C hQ hr => ?_)
  subst hEl
  subst hED
  subst hEk
  unfold fX5_fewestOfAll at hF
  refine z_aload_n 0 (pc := 0) C dX5_fewestOfAll_0 rfl rfl ?_
  refine z_aload_n 1 (pc := 1) C dX5_fewestOfAll_1 rfl rfl ?_
  refine z_aload_n 2 (pc := 2) C dX5_fewestOfAll_2 rfl rfl ?_
  refine z_aload_n 3 (pc := 3) C dX5_fewestOfAll_3 rfl rfl ?_
  obtain ⟨S1, hG, hF⟩ := bn1_of hF
  refine z_callV [.ref (a k1), .ref (a k2), .ref (a 8)] (pc := 4) (st1 := []) (c1 := 0) (s1 := 0) C (mX5_look C.hT hk1 hk2 hG) kX5_24 (kdX_lt (rfl : kdX 15 = 5) (by decide)) (gX_5 (rfl : kdX 15 = 5)) rfl rfl rfl rfl (Nat.le_of_ble_eq_true rfl) ⟨(Nat.le_of_ble_eq_true rfl), (Nat.le_of_ble_eq_true rfl)⟩ ⟨(Nat.le_of_ble_eq_true rfl), (Nat.le_of_ble_eq_true rfl)⟩ dX5_fewestOfAll_4 rfl rfl ?_
  refine z_aload_n 0 (pc := 7) C dX5_fewestOfAll_7 rfl rfl ?_
  refine z_iconst (pc := 8) (v := (0 : Int32)) C dX5_fewestOfAll_8 (by decide) ?_
  refine z_iconst (pc := 9) (v := (2 : Int32)) C dX5_fewestOfAll_9 (by decide) ?_
  refine z_iconst (pc := 10) (v := (0 : Int32)) C dX5_fewestOfAll_10 (by decide) ?_
  obtain ⟨v2, hG, hF⟩ := bn1_of hF
  refine z_callS [.ref (a 15), .int (0 : Int32), .int (2 : Int32), .int (0 : Int32)] (pc := 11) (st1 := [.int v2]) (c1 := 0) (s1 := 0) C (mX5_fewestBeyond C.hT 8 _ _ _ _ _ hG) kX5_50 rfl rfl rfl rfl (Nat.le_of_ble_eq_true rfl) ⟨(Nat.le_of_ble_eq_true rfl), (Nat.le_of_ble_eq_true rfl)⟩ ⟨(Nat.le_of_ble_eq_true rfl), (Nat.le_of_ble_eq_true rfl)⟩ dX5_fewestOfAll_11 rfl rfl ?_
  exact z_iret (pc := 14) C hQ hr rfl dX5_fewestOfAll_14 (by cases hF; rfl) (by cases hF; rfl) (Nat.le_of_ble_eq_true rfl) (Nat.le_of_ble_eq_true rfl)
def fX8_flipsAnew (S : St) (p1 : Int32) (p2 : Int32) : Option (((String ⊕ Int32) × St)) :=
  bx (fX8_partAt S p1) (fun (x8 : String) => some (.inl x8, S)) (fun (k1 : Nat) =>
  bx (fX8_toolAt S p2) (fun (x7 : String) => some (.inl x7, S)) (fun (k3 : Nat) =>
  bn2 (fX5_fewestOfAll S k1 k3) (fun (v5 : Int32) (S6 : St) =>
  some (.inr v5, S6))))
abbrev rmX8_flipsAnew : Room := { frames := 17, cells := 2, slots := 12, locals := 530 }
set_option maxRecDepth 100000 in
set_option maxHeartbeats 4000000 in
theorem mX8_flipsAnew {l : Launch} {D : va_G} {cs : Nat → ClassId} {a : Nat → Nat} (hT : l.stackTraces = false) {S : St} {p1 : Int32} {p2 : Int32} {r : String ⊕ Int32} {S' : St} (hF : fX8_flipsAnew S p1 p2 = some (r, S')) : MX l 113 GX D cs a yX8_flipsAnew cX8_flipsAnew 4 (some .int) rmX8_flipsAnew [.ref (a 0), .int p1, .int p2] S (ocI r) S' := by
  refine zm_entry [(0, .ref (a 0)), (1, .int p1), (2, .int p2)] hT (by decide +kernel) (Nat.le_of_ble_eq_true rfl) rfl (fun E hEl hED hEk C hQ hr => ?_)
  subst hEl
  subst hED
  subst hEk
  unfold fX8_flipsAnew at hF
  refine z_aload_n 0 (pc := 0) C dX8_flipsAnew_0 rfl rfl ?_
  refine z_iload_n 1 (pc := 1) C dX8_flipsAnew_1 rfl rfl ?_
  rcases bx_of hF with ⟨x8, hG, hF⟩ | ⟨k1, hG, hF⟩
  · exact z_callVx [.int p1] (pc := 2) C (mX8_partAt C.hT hG) kX8_104 (kdX_lt (rfl : kdX 0 = 8) (by decide)) (gX_8 (rfl : kdX 0 = 8)) rfl rfl rfl (Nat.le_of_ble_eq_true rfl) ⟨(Nat.le_of_ble_eq_true rfl), (Nat.le_of_ble_eq_true rfl)⟩ ⟨(Nat.le_of_ble_eq_true rfl), (Nat.le_of_ble_eq_true rfl)⟩ dX8_flipsAnew_2 hQ (by cases hF; rfl) (by cases hF; rfl)
  · have hk2 := qX8_partAt hG
    refine z_callV [.int p1] (pc := 2) (st1 := [.ref (a k1)]) (c1 := 1) (s1 := 6) C (mX8_partAt C.hT hG) kX8_104 (kdX_lt (rfl : kdX 0 = 8) (by decide)) (gX_8 (rfl : kdX 0 = 8)) rfl rfl rfl rfl (Nat.le_of_ble_eq_true rfl) ⟨(Nat.le_of_ble_eq_true rfl), (Nat.le_of_ble_eq_true rfl)⟩ ⟨(Nat.le_of_ble_eq_true rfl), (Nat.le_of_ble_eq_true rfl)⟩ dX8_flipsAnew_2 rfl rfl ?_
    refine z_astore_n (pc := 5) (loc' := [(3, .ref (a k1)), (0, .ref (a 0)), (1, .int p1), (2, .int p2)]) C dX8_flipsAnew_5 rfl (by decide) rfl ?_
    refine z_aload_n 1 (pc := 6) C dX8_flipsAnew_6 rfl rfl ?_
    refine gfX8_48 (pc := 7) C (rfl : kdX 0 = 8) dX8_flipsAnew_7 ?_
    refine z_aload_n 0 (pc := 10) C dX8_flipsAnew_10 rfl rfl ?_
    refine z_aload_n 1 (pc := 11) C dX8_flipsAnew_11 rfl rfl ?_
    refine z_iload_n 3 (pc := 12) C dX8_flipsAnew_12 rfl rfl ?_
    rcases bx_of hF with ⟨x7, hG, hF⟩ | ⟨k3, hG, hF⟩
    · exact z_callVx [.int p2] (pc := 13) C (mX8_toolAt C.hT hG) kX8_186 (kdX_lt (rfl : kdX 0 = 8) (by decide)) (gX_8 (rfl : kdX 0 = 8)) rfl rfl rfl (Nat.le_of_ble_eq_true rfl) ⟨(Nat.le_of_ble_eq_true rfl), (Nat.le_of_ble_eq_true rfl)⟩ ⟨(Nat.le_of_ble_eq_true rfl), (Nat.le_of_ble_eq_true rfl)⟩ dX8_flipsAnew_13 hQ (by cases hF; rfl) (by cases hF; rfl)
    · have hk4 := qX8_toolAt hG
      refine z_callV [.int p2] (pc := 13) (st1 := [.ref (a k3), .ref (a k1), .ref (a 15)]) (c1 := 2) (s1 := 12) C (mX8_toolAt C.hT hG) kX8_186 (kdX_lt (rfl : kdX 0 = 8) (by decide)) (gX_8 (rfl : kdX 0 = 8)) rfl rfl rfl rfl (Nat.le_of_ble_eq_true rfl) ⟨(Nat.le_of_ble_eq_true rfl), (Nat.le_of_ble_eq_true rfl)⟩ ⟨(Nat.le_of_ble_eq_true rfl), (Nat.le_of_ble_eq_true rfl)⟩ dX8_flipsAnew_13 rfl rfl ?_
      refine z_aload_n 1 (pc := 16) C dX8_flipsAnew_16 rfl rfl ?_
      refine gfX8_41 (pc := 17) C (rfl : kdX 0 = 8) dX8_flipsAnew_17 ?_
      obtain ⟨v5, S6, hG, hF⟩ := bn2_of hF
      refine z_callV [.ref (a k1), .ref (a k3), .ref (a 8)] (pc := 20) (st1 := [.int v5]) (c1 := 2) (s1 := 12) C (mX5_fewestOfAll C.hT hk2 hk4 hG) kX8_239 (kdX_lt (rfl : kdX 15 = 5) (by decide)) (gX_5 (rfl : kdX 15 = 5)) rfl rfl rfl rfl (Nat.le_of_ble_eq_true rfl) ⟨(Nat.le_of_ble_eq_true rfl), (Nat.le_of_ble_eq_true rfl)⟩ ⟨(Nat.le_of_ble_eq_true rfl), (Nat.le_of_ble_eq_true rfl)⟩ dX8_flipsAnew_20 rfl rfl ?_
      exact z_iret (pc := 23) C hQ hr rfl dX8_flipsAnew_23 (by cases hF; rfl) (by cases hF; rfl) (Nat.le_of_ble_eq_true rfl) (Nat.le_of_ble_eq_true rfl)
