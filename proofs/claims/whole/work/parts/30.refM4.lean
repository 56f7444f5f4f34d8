def fX9_want (S : St) (p1 : Int32) (p2 : Int32) : Option ((Int32 × St)) :=
  bn1 (fX9_isPart S p1) (fun (v1 : Int32) =>
  bn1 (if v1 = 0 then (
    some (1 : Int32))
  else (
    bn1 (fX9_in p2 (1 : Int32) (40 : Int32)) (fun (v13 : Int32) =>
    if v13 = 0 then (
      some (2 : Int32))
    else (
      bn1 (fX9_wanted S) (fun (v15 : Int32) =>
      if (v15 + p2) ≤ (40 : Int32) then (
        some (0 : Int32))
      else (
        some (3 : Int32))))))) (fun (v2 : Int32) =>
    bn2 (fX9_goesWell S v2) (fun (v3 : Int32) (S4 : St) =>
    if v3 = 0 then (
      some ((0 : Int32), S4))
    else (
      gd (inb p1 8) (
      gd (inb p1 8) (
      bv (si S4 19 p1.toNatClampNeg ((gi S4 19 p1.toNatClampNeg) + p2)) (fun (S8 : St) =>
      bn1 (fX9_wanted S8) (fun (v10 : Int32) =>
      some (v10, S8)))))))))
abbrev rmX9_want : Room := { frames := 8, cells := 0, slots := 0, locals := 170 }
set_option maxRecDepth 100000 in
set_option maxHeartbeats 4000000 in
theorem mX9_want {l : Launch} {D : va_G} {cs : Nat → ClassId} {a : Nat → Nat} (hT : l.stackTraces = false) {S : St} {p1 : Int32} {p2 : Int32} {r : Int32} {S' : St} (hF : fX9_want S p1 p2 = some (r, S')) : MX l 33 GM D cs a yX9_want cX9_want 4 (some .int) rmX9_want [.ref (a 0), .int p1, .int p2] S (.inr (some (.int r))) S' := by
  refine zm_entry [(0, .ref (a 0)), (1, .int p1), (2, .int p2)] hT (by decide +kernel) (Nat.le_of_ble_eq_true rfl) rfl (fun E hEl hED hEk C hQ hr => ?_)
  subst hEl
  subst hED
  subst hEk
  unfold fX9_want at hF
  refine z_aload_n 0 (pc := 0) C dX9_want_0 rfl rfl ?_
  refine z_iload_n 1 (pc := 1) C dX9_want_1 rfl rfl ?_
  obtain ⟨v1, hG, hF⟩ := bn1_of hF
  refine z_callV [.int p1] (pc := 2) (st1 := [.int v1]) (c1 := 0) (s1 := 0) C (mX9_isPart C.hT hG) kX9_138 (kdM_lt (rfl : kdM 0 = 9) (by decide)) (gM_9 (rfl : kdM 0 = 9)) rfl rfl rfl rfl (Nat.le_of_ble_eq_true rfl) ⟨(Nat.le_of_ble_eq_true rfl), (Nat.le_of_ble_eq_true rfl)⟩ ⟨(Nat.le_of_ble_eq_true rfl), (Nat.le_of_ble_eq_true rfl)⟩ dX9_want_2 rfl rfl ?_
  refine z_istore_n (pc := 5) (loc' := [(3, .int v1), (0, .ref (a 0)), (1, .int p1), (2, .int p2)]) C dX9_want_5 rfl (by decide) rfl ?_
  refine z_aload_n 1 (pc := 6) C dX9_want_6 rfl rfl ?_
  refine z_iload_n 0 (pc := 7) C dX9_want_7 rfl rfl ?_
  obtain ⟨v2', hR, hF⟩ := bn1_of hF
  have hJ11 : ∀ (v2 : Int32), (some v2 : Option (Int32)) = some v2' → Zz E (WM E a S) 0 0 45 [(0, .ref (a 0)), (1, .int p1), (2, .int p2)] [.int v2, .ref (a 0)] := by
    intro v2 hE
    have hE0 := Option.some.inj hE
    subst hE0
    obtain ⟨v3, S4, hG, hF⟩ := bn2_of hF
    refine z_callV [.int v2] (pc := 45) (st1 := [.int v3]) (c1 := 0) (s1 := 0) C (mX9_goesWell C.hT hG) kX9_126 (kdM_lt (rfl : kdM 0 = 9) (by decide)) (gM_9 (rfl : kdM 0 = 9)) rfl rfl rfl rfl (Nat.le_of_ble_eq_true rfl) ⟨(Nat.le_of_ble_eq_true rfl), (Nat.le_of_ble_eq_true rfl)⟩ ⟨(Nat.le_of_ble_eq_true rfl), (Nat.le_of_ble_eq_true rfl)⟩ dX9_want_45 rfl rfl ?_
    refine z_if_ne 53 (pc := 48) C dX9_want_48 (by decide) (fun c5 => ?_) (fun c5 => ?_)
    · have hF := if_f hF c5
      refine z_aload_n 0 (pc := 53) C dX9_want_53 rfl rfl ?_
      refine gfX9_64 (pc := 54) C (rfl : kdM 0 = 9) dX9_want_54 ?_
      refine z_iload_n 1 (pc := 57) C dX9_want_57 rfl rfl ?_
      refine z_dup2 (pc := 58) C dX9_want_58 rfl rfl ?_
      obtain ⟨g6, hF⟩ := gd_of hF
      refine iaM8 (pc := 59) C (rfl : kdM 19 = 28) g6 dX9_want_59 ?_
      refine z_iload_n 2 (pc := 60) C dX9_want_60 rfl rfl ?_
      refine z_iadd (pc := 61) C dX9_want_61 ?_
      obtain ⟨g7, hF⟩ := gd_of hF
      refine saM8 (pc := 62) C (rfl : kdM 19 = 28) g7 dX9_want_62 ?_
      obtain ⟨S8, e9, hF⟩ := bv_of hF
      rw [← e9]
      refine z_aload_n 0 (pc := 63) C dX9_want_63 rfl rfl ?_
      obtain ⟨v10, hG, hF⟩ := bn1_of hF
      refine z_callV [] (pc := 64) (st1 := [.int v10]) (c1 := 0) (s1 := 0) C (mX9_wanted C.hT hG) kX9_201 (kdM_lt (rfl : kdM 0 = 9) (by decide)) (gM_9 (rfl : kdM 0 = 9)) rfl rfl rfl rfl (Nat.le_of_ble_eq_true rfl) ⟨(Nat.le_of_ble_eq_true rfl), (Nat.le_of_ble_eq_true rfl)⟩ ⟨(Nat.le_of_ble_eq_true rfl), (Nat.le_of_ble_eq_true rfl)⟩ dX9_want_64 rfl rfl ?_
      exact z_iret (pc := 67) C hQ hr rfl dX9_want_67 (by cases hF; rfl) (by cases hF; rfl) (Nat.le_of_ble_eq_true rfl) (Nat.le_of_ble_eq_true rfl)
    · have hF := if_t hF c5
      refine z_iconst (pc := 51) (v := (0 : Int32)) C dX9_want_51 (by decide) ?_
      exact z_iret (pc := 52) C hQ hr rfl dX9_want_52 (by cases hF; rfl) (by cases hF; rfl) (Nat.le_of_ble_eq_true rfl) (Nat.le_of_ble_eq_true rfl)
  have hF := hR
  clear hR
  refine z_if_ne 15 (pc := 8) C dX9_want_8 (by decide) (fun c12 => ?_) (fun c12 => ?_)
  · have hF := if_f hF c12
    refine z_iload_n 3 (pc := 15) C dX9_want_15 rfl rfl ?_
    refine z_iconst (pc := 16) (v := (1 : Int32)) C dX9_want_16 (by decide) ?_
    refine z_bipush (pc := 17) (v := (40 : Int32)) C dX9_want_17 (by decide) ?_
    obtain ⟨v13, hG, hF⟩ := bn1_of hF
    refine z_callS [.int p2, .int (1 : Int32), .int (40 : Int32)] (pc := 19) (st1 := [.int v13, .ref (a 0)]) (c1 := 0) (s1 := 0) C (mX9_in C.hT hG) kX9_113 rfl rfl rfl rfl (Nat.le_of_ble_eq_true rfl) ⟨(Nat.le_of_ble_eq_true rfl), (Nat.le_of_ble_eq_true rfl)⟩ ⟨(Nat.le_of_ble_eq_true rfl), (Nat.le_of_ble_eq_true rfl)⟩ dX9_want_19 rfl rfl ?_
    refine z_if_ne 29 (pc := 22) C dX9_want_22 (by decide) (fun c14 => ?_) (fun c14 => ?_)
    · have hF := if_f hF c14
      refine z_aload_n 1 (pc := 29) C dX9_want_29 rfl rfl ?_
      obtain ⟨v15, hG, hF⟩ := bn1_of hF
      refine z_callV [] (pc := 30) (st1 := [.int v15, .ref (a 0)]) (c1 := 0) (s1 := 0) C (mX9_wanted C.hT hG) kX9_201 (kdM_lt (rfl : kdM 0 = 9) (by decide)) (gM_9 (rfl : kdM 0 = 9)) rfl rfl rfl rfl (Nat.le_of_ble_eq_true rfl) ⟨(Nat.le_of_ble_eq_true rfl), (Nat.le_of_ble_eq_true rfl)⟩ ⟨(Nat.le_of_ble_eq_true rfl), (Nat.le_of_ble_eq_true rfl)⟩ dX9_want_30 rfl rfl ?_
      refine z_iload_n 3 (pc := 33) C dX9_want_33 rfl rfl ?_
      refine z_iadd (pc := 34) C dX9_want_34 ?_
      refine z_bipush (pc := 35) (v := (40 : Int32)) C dX9_want_35 (by decide) ?_
      refine z_icmp_le 44 (pc := 37) C dX9_want_37 (by decide) (fun c16 => ?_) (fun c16 => ?_)
      · have hF := if_t hF c16
        refine z_iconst (pc := 44) (v := (0 : Int32)) C dX9_want_44 (by decide) ?_
        refine z_sub [1, 2, 3] rfl ?_
        exact hJ11 _ hF
      · have hF := if_f hF c16
        refine z_iconst (pc := 40) (v := (3 : Int32)) C dX9_want_40 (by decide) ?_
        refine z_goto 45 (pc := 41) C dX9_want_41 (by decide) ?_
        refine z_sub [1, 2, 3] rfl ?_
        exact hJ11 _ hF
    · have hF := if_t hF c14
      refine z_iconst (pc := 25) (v := (2 : Int32)) C dX9_want_25 (by decide) ?_
      refine z_goto 45 (pc := 26) C dX9_want_26 (by decide) ?_
      refine z_sub [1, 2, 3] rfl ?_
      exact hJ11 _ hF
  · have hF := if_t hF c12
    refine z_iconst (pc := 11) (v := (1 : Int32)) C dX9_want_11 (by decide) ?_
    refine z_goto 45 (pc := 12) C dX9_want_12 (by decide) ?_
    refine z_sub [1, 2, 3] rfl ?_
    exact hJ11 _ hF
def fX9_why (S : St) (p1 : Int32) (p2 : Int32) (p3 : Int32) (p4 : Int32) : Option ((Int32 × St)) :=
  bn1 (fX9_isPart S p1) (fun (v1 : Int32) =>
  bn1 (jn0 (
    some (0 : Int32)) (fun J14 =>
    if v1 = 0 then (
      J14)
    else (
      bn1 (fX9_isTool S p2) (fun (v16 : Int32) =>
      if v16 = 0 then (
        J14)
      else (
        gd (inb p1 8) (
        bn1 (fX9_in p4 (0 : Int32) ((gi S 3 p1.toNatClampNeg) - (2 : Int32))) (fun (v19 : Int32) =>
        if v19 = 0 then (
          J14)
        else (
          some (1 : Int32))))))))) (fun (v2 : Int32) =>
    bn1 (if v2 = 0 then (
      some (1 : Int32))
    else (
      bn1 (fX9_isDone S p1 p3 p4) (fun (v11 : Int32) =>
      if v11 = 0 then (
        some (2 : Int32))
      else (
        some (0 : Int32))))) (fun (v3 : Int32) =>
      bn2 (fX9_goesWell S v3) (fun (v4 : Int32) (S5 : St) =>
      if v4 = 0 then (
        some ((0 : Int32), S5))
      else (
        bn2 (fX9_reason S5 p1 p2 p3 p4) (fun (v7 : Int32) (S8 : St) =>
        some (v7, S8)))))))
abbrev rmX9_why : Room := { frames := 8, cells := 0, slots := 0, locals := 170 }
set_option maxRecDepth 100000 in
set_option maxHeartbeats 4000000 in
theorem mX9_why {l : Launch} {D : va_G} {cs : Nat → ClassId} {a : Nat → Nat} (hT : l.stackTraces = false) {S : St} {p1 : Int32} {p2 : Int32} {p3 : Int32} {p4 : Int32} {r : Int32} {S' : St} (hF : fX9_why S p1 p2 p3 p4 = some (r, S')) : MX l 33 GM D cs a yX9_why cX9_why 6 (some .int) rmX9_why [.ref (a 0), .int p1, .int p2, .int p3, .int p4] S (.inr (some (.int r))) S' := by
  refine zm_entry [(0, .ref (a 0)), (1, .int p1), (2, .int p2), (3, .int p3), (4, .int p4)] hT (by decide +kernel) (Nat.le_of_ble_eq_true rfl) rfl (fun E hEl hED hEk C hQ hr => ?_)
  subst hEl
  subst hED
  subst hEk
  unfold fX9_why at hF
  refine z_aload_n 0 (pc := 0) C dX9_why_0 rfl rfl ?_
  refine z_iload_n 1 (pc := 1) C dX9_why_1 rfl rfl ?_
  obtain ⟨v1, hG, hF⟩ := bn1_of hF
  refine z_callV [.int p1] (pc := 2) (st1 := [.int v1]) (c1 := 0) (s1 := 0) C (mX9_isPart C.hT hG) kX9_138 (kdM_lt (rfl : kdM 0 = 9) (by decide)) (gM_9 (rfl : kdM 0 = 9)) rfl rfl rfl rfl (Nat.le_of_ble_eq_true rfl) ⟨(Nat.le_of_ble_eq_true rfl), (Nat.le_of_ble_eq_true rfl)⟩ ⟨(Nat.le_of_ble_eq_true rfl), (Nat.le_of_ble_eq_true rfl)⟩ dX9_why_2 rfl rfl ?_
  obtain ⟨v2', hR, hF⟩ := bn1_of hF
  have hJ13 : ∀ (v2 : Int32), (some v2 : Option (Int32)) = some v2' → Zz E (WM E a S) 0 0 38 [(0, .ref (a 0)), (1, .int p1), (2, .int p2), (3, .int p3), (4, .int p4)] [.int v2] := by
    intro v2 hE
    have hE0 := Option.some.inj hE
    subst hE0
    refine z_istore (pc := 38) (loc' := [(5, .int v2), (0, .ref (a 0)), (1, .int p1), (2, .int p2), (3, .int p3), (4, .int p4)]) C dX9_why_38 (by decide) rfl ?_
    refine z_aload_n 1 (pc := 40) C dX9_why_40 rfl rfl ?_
    refine z_iload 0 (pc := 41) C dX9_why_41 rfl ?_
    obtain ⟨v3', hR, hF⟩ := bn1_of hF
    have hJ9 : ∀ (v3 : Int32), (some v3 : Option (Int32)) = some v3' → Zz E (WM E a S) 0 0 66 [(0, .ref (a 0)), (1, .int p1), (2, .int p2), (3, .int p3), (4, .int p4)] [.int v3, .ref (a 0)] := by
      intro v3 hE
      have hE0 := Option.some.inj hE
      subst hE0
      obtain ⟨v4, S5, hG, hF⟩ := bn2_of hF
      refine z_callV [.int v3] (pc := 66) (st1 := [.int v4]) (c1 := 0) (s1 := 0) C (mX9_goesWell C.hT hG) kX9_126 (kdM_lt (rfl : kdM 0 = 9) (by decide)) (gM_9 (rfl : kdM 0 = 9)) rfl rfl rfl rfl (Nat.le_of_ble_eq_true rfl) ⟨(Nat.le_of_ble_eq_true rfl), (Nat.le_of_ble_eq_true rfl)⟩ ⟨(Nat.le_of_ble_eq_true rfl), (Nat.le_of_ble_eq_true rfl)⟩ dX9_why_66 rfl rfl ?_
      refine z_if_eq 84 (pc := 69) C dX9_why_69 (by decide) (fun c6 => ?_) (fun c6 => ?_)
      · have hF := if_t hF c6
        refine z_iconst (pc := 84) (v := (0 : Int32)) C dX9_why_84 (by decide) ?_
        exact z_iret (pc := 85) C hQ hr rfl dX9_why_85 (by cases hF; rfl) (by cases hF; rfl) (Nat.le_of_ble_eq_true rfl) (Nat.le_of_ble_eq_true rfl)
      · have hF := if_f hF c6
        refine z_aload_n 0 (pc := 72) C dX9_why_72 rfl rfl ?_
        refine z_iload_n 1 (pc := 73) C dX9_why_73 rfl rfl ?_
        refine z_iload_n 2 (pc := 74) C dX9_why_74 rfl rfl ?_
        refine z_iload_n 3 (pc := 75) C dX9_why_75 rfl rfl ?_
        refine z_iload 4 (pc := 76) C dX9_why_76 rfl ?_
        obtain ⟨v7, S8, hG, hF⟩ := bn2_of hF
        refine z_callV [.int p1, .int p2, .int p3, .int p4] (pc := 78) (st1 := [.int v7]) (c1 := 0) (s1 := 0) C (mX9_reason C.hT hG) kX9_187 (kdM_lt (rfl : kdM 0 = 9) (by decide)) (gM_9 (rfl : kdM 0 = 9)) rfl rfl rfl rfl (Nat.le_of_ble_eq_true rfl) ⟨(Nat.le_of_ble_eq_true rfl), (Nat.le_of_ble_eq_true rfl)⟩ ⟨(Nat.le_of_ble_eq_true rfl), (Nat.le_of_ble_eq_true rfl)⟩ dX9_why_78 rfl rfl ?_
        refine z_goto 85 (pc := 81) C dX9_why_81 (by decide) ?_
        exact z_iret (pc := 85) C hQ hr rfl dX9_why_85 (by cases hF; rfl) (by cases hF; rfl) (Nat.le_of_ble_eq_true rfl) (Nat.le_of_ble_eq_true rfl)
    have hF := hR
    clear hR
    refine z_if_ne 50 (pc := 43) C dX9_why_43 (by decide) (fun c10 => ?_) (fun c10 => ?_)
    · have hF := if_f hF c10
      refine z_aload_n 1 (pc := 50) C dX9_why_50 rfl rfl ?_
      refine z_iload_n 2 (pc := 51) C dX9_why_51 rfl rfl ?_
      refine z_iload_n 4 (pc := 52) C dX9_why_52 rfl rfl ?_
      refine z_iload 5 (pc := 53) C dX9_why_53 rfl ?_
      obtain ⟨v11, hG, hF⟩ := bn1_of hF
      refine z_callV [.int p1, .int p3, .int p4] (pc := 55) (st1 := [.int v11, .ref (a 0)]) (c1 := 0) (s1 := 0) C (mX9_isDone C.hT hG) kX9_184 (kdM_lt (rfl : kdM 0 = 9) (by decide)) (gM_9 (rfl : kdM 0 = 9)) rfl rfl rfl rfl (Nat.le_of_ble_eq_true rfl) ⟨(Nat.le_of_ble_eq_true rfl), (Nat.le_of_ble_eq_true rfl)⟩ ⟨(Nat.le_of_ble_eq_true rfl), (Nat.le_of_ble_eq_true rfl)⟩ dX9_why_55 rfl rfl ?_
      refine z_if_eq 65 (pc := 58) C dX9_why_58 (by decide) (fun c12 => ?_) (fun c12 => ?_)
      · have hF := if_t hF c12
        refine z_iconst (pc := 65) (v := (2 : Int32)) C dX9_why_65 (by decide) ?_
        refine z_sub [1, 2, 3, 4, 5] rfl ?_
        exact hJ9 _ hF
      · have hF := if_f hF c12
        refine z_iconst (pc := 61) (v := (0 : Int32)) C dX9_why_61 (by decide) ?_
        refine z_goto 66 (pc := 62) C dX9_why_62 (by decide) ?_
        refine z_sub [1, 2, 3, 4, 5] rfl ?_
        exact hJ9 _ hF
    · have hF := if_t hF c10
      refine z_iconst (pc := 46) (v := (1 : Int32)) C dX9_why_46 (by decide) ?_
      refine z_goto 66 (pc := 47) C dX9_why_47 (by decide) ?_
      refine z_sub [1, 2, 3, 4, 5] rfl ?_
      exact hJ9 _ hF
  have hF := hR
  clear hR
  obtain ⟨J14, hdJ14, hF⟩ := jn0_of hF
  have hJ14 : J14 = some v2' → Zz E (WM E a S) 0 0 37 [(0, .ref (a 0)), (1, .int p1), (2, .int p2), (3, .int p3), (4, .int p4)] [] := by
    intro hF
    have hF := hdJ14.symm.trans hF
    refine z_iconst (pc := 37) (v := (0 : Int32)) C dX9_why_37 (by decide) ?_
    exact hJ13 _ hF
  refine z_if_eq 37 (pc := 5) C dX9_why_5 (by decide) (fun c15 => ?_) (fun c15 => ?_)
  · have hF := if_t hF c15
    exact hJ14 hF
  · have hF := if_f hF c15
    refine z_aload_n 0 (pc := 8) C dX9_why_8 rfl rfl ?_
    refine z_iload_n 2 (pc := 9) C dX9_why_9 rfl rfl ?_
    obtain ⟨v16, hG, hF⟩ := bn1_of hF
    refine z_callV [.int p2] (pc := 10) (st1 := [.int v16]) (c1 := 0) (s1 := 0) C (mX9_isTool C.hT hG) kX9_151 (kdM_lt (rfl : kdM 0 = 9) (by decide)) (gM_9 (rfl : kdM 0 = 9)) rfl rfl rfl rfl (Nat.le_of_ble_eq_true rfl) ⟨(Nat.le_of_ble_eq_true rfl), (Nat.le_of_ble_eq_true rfl)⟩ ⟨(Nat.le_of_ble_eq_true rfl), (Nat.le_of_ble_eq_true rfl)⟩ dX9_why_10 rfl rfl ?_
    refine z_if_eq 37 (pc := 13) C dX9_why_13 (by decide) (fun c17 => ?_) (fun c17 => ?_)
    · have hF := if_t hF c17
      exact hJ14 hF
    · have hF := if_f hF c17
      refine z_iload 4 (pc := 16) C dX9_why_16 rfl ?_
      refine z_iconst (pc := 18) (v := (0 : Int32)) C dX9_why_18 (by decide) ?_
      refine z_aload_n 0 (pc := 19) C dX9_why_19 rfl rfl ?_
      refine gfX9_16 (pc := 20) C (rfl : kdM 0 = 9) dX9_why_20 ?_
      refine z_iload_n 1 (pc := 23) C dX9_why_23 rfl rfl ?_
      obtain ⟨g18, hF⟩ := gd_of hF
      refine iaM8 (pc := 24) C (rfl : kdM 3 = 28) g18 dX9_why_24 ?_
      refine z_iconst (pc := 25) (v := (2 : Int32)) C dX9_why_25 (by decide) ?_
      refine z_isub (pc := 26) C dX9_why_26 ?_
      obtain ⟨v19, hG, hF⟩ := bn1_of hF
      refine z_callS [.int p4, .int (0 : Int32), .int ((gi S 3 p1.toNatClampNeg) - (2 : Int32))] (pc := 27) (st1 := [.int v19]) (c1 := 0) (s1 := 0) C (mX9_in C.hT hG) kX9_113 rfl rfl rfl rfl (Nat.le_of_ble_eq_true rfl) ⟨(Nat.le_of_ble_eq_true rfl), (Nat.le_of_ble_eq_true rfl)⟩ ⟨(Nat.le_of_ble_eq_true rfl), (Nat.le_of_ble_eq_true rfl)⟩ dX9_why_27 rfl rfl ?_
      refine z_if_eq 37 (pc := 30) C dX9_why_30 (by decide) (fun c20 => ?_) (fun c20 => ?_)
      · have hF := if_t hF c20
        exact hJ14 hF
      · have hF := if_f hF c20
        refine z_iconst (pc := 33) (v := (1 : Int32)) C dX9_why_33 (by decide) ?_
        refine z_goto 38 (pc := 34) C dX9_why_34 (by decide) ?_
        exact hJ13 _ hF
def fX9_nest_L128 (p4 : Int32) (p2 : Int32) (p3 : Int32) (p1 : Int32) (next25 : Int64 → Int64 → Int32 → St → Option ((Int64 × St))) (w21 : Int64) (w22 : Int64) (v23 : Int32) (S24 : St) : Option ((Int64 × St)) :=
  if v23 = (-1 : Int32) then (
    if p4 = 0 then (
      some ((Int32.toInt64 (gi S24 0 38)), S24))
    else (
      if p4 = (1 : Int32) then (
        some ((Int32.toInt64 (gi S24 0 40)), S24))
      else (
        if p4 = (2 : Int32) then (
          some (w21, S24))
        else (
          some (((((Int32.toInt64 (gi S24 0 38)) * (Int32.toInt64 p2)) * (Int32.toInt64 p3)) - w22), S24)))))
  else (
    bn1 (fX9_longer S24 v23 p1) (fun (v30 : Int32) =>
    bn1 (fX9_shorter S24 v23 p1) (fun (v31 : Int32) =>
    jn1 (fun (S32 : St) =>
      some ((-1 : Int64), S32)) (fun J33 =>
      if p2 < v30 then (
        J33 S24)
      else (
        if v31 ≤ p3 then (
          bn2 (fX9_rowFor S24 v30 v31 p2 p3) (fun (v36 : Int32) (S37 : St) =>
          gd (inb v36 40) (
          bn1 (if (gi S37 32 v36.toNatClampNeg) = v31 then (
            some v31)
          else (
            some (0 : Int32))) (fun (v39 : Int32) =>
            bv ((w21 + (((2 : Int64) * (Int32.toInt64 (v30 + v31))) - (Int32.toInt64 v39)))) (fun (w40 : Int64) =>
            bv ((w22 + ((Int32.toInt64 v30) * (Int32.toInt64 v31)))) (fun (w42 : Int64) =>
            gd (inb v36 40) (
            gd (inb v36 40) (
            bv (si S37 31 v36.toNatClampNeg ((gi S37 31 v36.toNatClampNeg) - v30)) (fun (S46 : St) =>
            gd (inb v36 40) (
            bv (si S46 32 v36.toNatClampNeg v31) (fun (S49 : St) =>
            gd (inb v23 8) (
            gd (inb v23 8) (
            bv (si S49 27 v23.toNatClampNeg ((gi S49 27 v23.toNatClampNeg) + (1 : Int32))) (fun (S53 : St) =>
            bn1 (fX9_nextPiece S53 p1) (fun (v55 : Int32) =>
            next25 w40 w42 v55 S53)))))))))))))))
        else (
          J33 S24))))))
def fX9_nest_L94 (next14 : Int32 → St → Option (St)) (v12 : Int32) (S13 : St) : Option (St) :=
  if (8 : Int32) ≤ v12 then (
    some S13)
  else (
    gd (inb v12 8) (
    bv (si S13 27 v12.toNatClampNeg (0 : Int32)) (fun (S61 : St) =>
    bv (v12 + 1) (fun (v63 : Int32) =>
    next14 v63 S61))))
def fX9_nest (S : St) (p1 : Int32) (p2 : Int32) (p3 : Int32) (p4 : Int32) : Option ((Int64 × St)) :=
  bn1 (fX9_isTool S p1) (fun (v1 : Int32) =>
  bn1 (fX9_in p2 (50 : Int32) (3000 : Int32)) (fun (v2 : Int32) =>
  bn1 (jn0 (
    some (0 : Int32)) (fun J69 =>
    if v2 = 0 then (
      J69)
    else (
      bn1 (fX9_in p3 (50 : Int32) (1500 : Int32)) (fun (v71 : Int32) =>
      if v71 = 0 then (
        J69)
      else (
        if p2 < p3 then (
          J69)
        else (
          bn1 (fX9_in p4 (0 : Int32) (3 : Int32)) (fun (v74 : Int32) =>
          if v74 = 0 then (
            J69)
          else (
            some (1 : Int32))))))))) (fun (v3 : Int32) =>
    bn1 (if v1 = 0 then (
      some (1 : Int32))
    else (
      if v3 = 0 then (
        some (2 : Int32))
      else (
        some (0 : Int32)))) (fun (v4 : Int32) =>
      bn2 (fX9_goesWell S v4) (fun (v5 : Int32) (S6 : St) =>
      if v5 = 0 then (
        some ((0 : Int64), S6))
      else (
        bv (si S6 0 38 (0 : Int32)) (fun (S8 : St) =>
        bv (si S8 0 40 (0 : Int32)) (fun (S10 : St) =>
        bn1 (lq2 (fX9_nest_L94) 200 (0 : Int32) S10) (fun (S15 : St) =>
          bv ((0 : Int64)) (fun (w16 : Int64) =>
          bv ((0 : Int64)) (fun (w18 : Int64) =>
          bn1 (fX9_nextPiece S15 p1) (fun (v20 : Int32) =>
          lq4 (fX9_nest_L128 p4 p2 p3 p1) 200 w16 w18 v20 S15))))))))))))
abbrev rmX9_nest : Room := { frames := 9, cells := 0, slots := 0, locals := 210 }
set_option maxRecDepth 100000 in
set_option maxHeartbeats 4000000 in
theorem mX9_nest {l : Launch} {D : va_G} {cs : Nat → ClassId} {a : Nat → Nat} (hT : l.stackTraces = false) {S : St} {p1 : Int32} {p2 : Int32} {p3 : Int32} {p4 : Int32} {r : Int64} {S' : St} (hF : fX9_nest S p1 p2 p3 p4 = some (r, S')) : MX l 33 GM D cs a yX9_nest cX9_nest 15 (some .long) rmX9_nest [.ref (a 0), .int p1, .int p2, .int p3, .int p4] S (.inr (some (.long r))) S' := by
  refine zm_entry [(0, .ref (a 0)), (1, .int p1), (2, .int p2), (3, .int p3), (4, .int p4)] hT (by decide +kernel) (Nat.le_of_ble_eq_true rfl) rfl (fun E hEl hED hEk C hQ hr => ?_)
  subst hEl
  subst hED
  subst hEk
  unfold fX9_nest at hF
  refine z_aload_n 0 (pc := 0) C dX9_nest_0 rfl rfl ?_
  refine z_iload_n 1 (pc := 1) C dX9_nest_1 rfl rfl ?_
  obtain ⟨v1, hG, hF⟩ := bn1_of hF
  refine z_callV [.int p1] (pc := 2) (st1 := [.int v1]) (c1 := 0) (s1 := 0) C (mX9_isTool C.hT hG) kX9_151 (kdM_lt (rfl : kdM 0 = 9) (by decide)) (gM_9 (rfl : kdM 0 = 9)) rfl rfl rfl rfl (Nat.le_of_ble_eq_true rfl) ⟨(Nat.le_of_ble_eq_true rfl), (Nat.le_of_ble_eq_true rfl)⟩ ⟨(Nat.le_of_ble_eq_true rfl), (Nat.le_of_ble_eq_true rfl)⟩ dX9_nest_2 rfl rfl ?_
  refine z_istore (pc := 5) (loc' := [(5, .int v1), (0, .ref (a 0)), (1, .int p1), (2, .int p2), (3, .int p3), (4, .int p4)]) C dX9_nest_5 (by decide) rfl ?_
  refine z_iload_n 3 (pc := 7) C dX9_nest_7 rfl rfl ?_
  refine z_bipush (pc := 8) (v := (50 : Int32)) C dX9_nest_8 (by decide) ?_
  refine z_sipush (pc := 10) (v := (3000 : Int32)) C dX9_nest_10 (by decide) ?_
  obtain ⟨v2, hG, hF⟩ := bn1_of hF
  refine z_callS [.int p2, .int (50 : Int32), .int (3000 : Int32)] (pc := 13) (st1 := [.int v2]) (c1 := 0) (s1 := 0) C (mX9_in C.hT hG) kX9_113 rfl rfl rfl rfl (Nat.le_of_ble_eq_true rfl) ⟨(Nat.le_of_ble_eq_true rfl), (Nat.le_of_ble_eq_true rfl)⟩ ⟨(Nat.le_of_ble_eq_true rfl), (Nat.le_of_ble_eq_true rfl)⟩ dX9_nest_13 rfl rfl ?_
  obtain ⟨v3', hR, hF⟩ := bn1_of hF
  have hJ68 : ∀ (v3 : Int32), (some v3 : Option (Int32)) = some v3' → Zz E (WM E a S) 0 0 51 [(0, .ref (a 0)), (1, .int p1), (2, .int p2), (3, .int p3), (4, .int p4), (5, .int v1)] [.int v3] := by
    intro v3 hE
    have hE0 := Option.some.inj hE
    subst hE0
    refine z_istore (pc := 51) (loc' := [(6, .int v3), (0, .ref (a 0)), (1, .int p1), (2, .int p2), (3, .int p3), (4, .int p4), (5, .int v1)]) C dX9_nest_51 (by decide) rfl ?_
    refine z_aload_n 1 (pc := 53) C dX9_nest_53 rfl rfl ?_
    refine z_iload 6 (pc := 54) C dX9_nest_54 rfl ?_
    obtain ⟨v4', hR, hF⟩ := bn1_of hF
    have hJ65 : ∀ (v4 : Int32), (some v4 : Option (Int32)) = some v4' → Zz E (WM E a S) 0 0 73 [(0, .ref (a 0)), (1, .int p1), (2, .int p2), (3, .int p3), (4, .int p4)] [.int v4, .ref (a 0)] := by
      intro v4 hE
      have hE0 := Option.some.inj hE
      subst hE0
      obtain ⟨v5, S6, hG, hF⟩ := bn2_of hF
      refine z_callV [.int v4] (pc := 73) (st1 := [.int v5]) (c1 := 0) (s1 := 0) C (mX9_goesWell C.hT hG) kX9_126 (kdM_lt (rfl : kdM 0 = 9) (by decide)) (gM_9 (rfl : kdM 0 = 9)) rfl rfl rfl rfl (Nat.le_of_ble_eq_true rfl) ⟨(Nat.le_of_ble_eq_true rfl), (Nat.le_of_ble_eq_true rfl)⟩ ⟨(Nat.le_of_ble_eq_true rfl), (Nat.le_of_ble_eq_true rfl)⟩ dX9_nest_73 rfl rfl ?_
      refine z_if_ne 81 (pc := 76) C dX9_nest_76 (by decide) (fun c7 => ?_) (fun c7 => ?_)
      · have hF := if_f hF c7
        refine z_aload_n 0 (pc := 81) C dX9_nest_81 rfl rfl ?_
        refine z_iconst (pc := 82) (v := (0 : Int32)) C dX9_nest_82 (by decide) ?_
        refine pfX9_214 (pc := 83) C (rfl : kdM 0 = 9) dX9_nest_83 ?_
        obtain ⟨S8, e9, hF⟩ := bv_of hF
        rw [← e9]
        refine z_aload_n 0 (pc := 86) C dX9_nest_86 rfl rfl ?_
        refine z_iconst (pc := 87) (v := (0 : Int32)) C dX9_nest_87 (by decide) ?_
        refine pfX9_211 (pc := 88) C (rfl : kdM 0 = 9) dX9_nest_88 ?_
        obtain ⟨S10, e11, hF⟩ := bv_of hF
        rw [← e11]
        refine z_iconst (pc := 91) (v := (0 : Int32)) C dX9_nest_91 (by decide) ?_
        refine z_istore (pc := 92) (loc' := [(7, .int (0 : Int32)), (0, .ref (a 0)), (1, .int p1), (2, .int p2), (3, .int p3), (4, .int p4)]) C dX9_nest_92 (by decide) rfl ?_
        refine z_sub [1, 2, 3, 4, 5, 0] rfl ?_
        obtain ⟨S15', hR, hF⟩ := bn1_of hF
        have hJ58 : ∀ (S15 : St), (some S15 : Option (St)) = some S15' → Zz E (WM E a S15) 0 0 115 [(0, .ref (a 0)), (1, .int p1), (2, .int p2), (3, .int p3), (4, .int p4)] [] := by
          intro S15 hE
          have hE0 := Option.some.inj hE
          subst hE0
          refine z_lconst (pc := 115) (v := (0 : Int64)) C dX9_nest_115 (by decide) ?_
          obtain ⟨w16, e17, hF⟩ := bv_of hF
          refine z_topl e17 ?_
          refine z_lstore (pc := 116) (loc' := [(7, .long w16), (0, .ref (a 0)), (1, .int p1), (2, .int p2), (3, .int p3), (4, .int p4)]) C dX9_nest_116 (by decide) rfl ?_
          refine z_lconst (pc := 118) (v := (0 : Int64)) C dX9_nest_118 (by decide) ?_
          obtain ⟨w18, e19, hF⟩ := bv_of hF
          refine z_topl e19 ?_
          refine z_lstore (pc := 119) (loc' := [(9, .long w18), (7, .long w16), (0, .ref (a 0)), (1, .int p1), (2, .int p2), (3, .int p3), (4, .int p4)]) C dX9_nest_119 (by decide) rfl ?_
          refine z_aload_n 2 (pc := 121) C dX9_nest_121 rfl rfl ?_
          refine z_iload_n 3 (pc := 122) C dX9_nest_122 rfl rfl ?_
          obtain ⟨v20, hG, hF⟩ := bn1_of hF
          refine z_callV [.int p1] (pc := 123) (st1 := [.int v20]) (c1 := 0) (s1 := 0) C (mX9_nextPiece C.hT hG) kX9_217 (kdM_lt (rfl : kdM 0 = 9) (by decide)) (gM_9 (rfl : kdM 0 = 9)) rfl rfl rfl rfl (Nat.le_of_ble_eq_true rfl) ⟨(Nat.le_of_ble_eq_true rfl), (Nat.le_of_ble_eq_true rfl)⟩ ⟨(Nat.le_of_ble_eq_true rfl), (Nat.le_of_ble_eq_true rfl)⟩ dX9_nest_123 rfl rfl ?_
          refine z_istore (pc := 126) (loc' := [(11, .int v20), (9, .long w18), (7, .long w16), (0, .ref (a 0)), (1, .int p1), (2, .int p2), (3, .int p3), (4, .int p4)]) C dX9_nest_126 (by decide) rfl ?_
          refine z_sub [3, 4, 5, 6, 7, 2, 1, 0] rfl ?_
          refine lq4_W (P := fun (w21 : Int64) (w22 : Int64) (v23 : Int32) (S24 : St) => Zz E (WM E a S24) 0 0 128 [(0, .ref (a 0)), (1, .int p1), (2, .int p2), (3, .int p3), (4, .int p4), (7, .long w21), (9, .long w22), (11, .int v23)] []) (fun next25 hN25 w21 w22 v23 S24 hF => ?_) _ _ _ _ _ hF
          unfold fX9_nest_L128 at hF
          refine z_iload 7 (pc := 128) C dX9_nest_128 rfl ?_
          refine z_iconst (pc := 130) (v := (-1 : Int32)) C dX9_nest_130 (by decide) ?_
          refine z_icmp_eq 269 (pc := 131) C dX9_nest_131 (by decide) (fun c26 => ?_) (fun c26 => ?_)
          · have hF := if_t hF c26
            refine z_iload 4 (pc := 269) C dX9_nest_269 rfl ?_
            refine z_if_ne 282 (pc := 271) C dX9_nest_271 (by decide) (fun c27 => ?_) (fun c27 => ?_)
            · have hF := if_f hF c27
              refine z_iload 4 (pc := 282) C dX9_nest_282 rfl ?_
              refine z_iconst (pc := 284) (v := (1 : Int32)) C dX9_nest_284 (by decide) ?_
              refine z_icmp_ne 296 (pc := 285) C dX9_nest_285 (by decide) (fun c28 => ?_) (fun c28 => ?_)
              · have hF := if_f hF c28
                refine z_iload 4 (pc := 296) C dX9_nest_296 rfl ?_
                refine z_iconst (pc := 298) (v := (2 : Int32)) C dX9_nest_298 (by decide) ?_
                refine z_icmp_ne 307 (pc := 299) C dX9_nest_299 (by decide) (fun c29 => ?_) (fun c29 => ?_)
                · have hF := if_f hF c29
                  refine z_aload_n 0 (pc := 307) C dX9_nest_307 rfl rfl ?_
                  refine gfX9_214 (pc := 308) C (rfl : kdM 0 = 9) dX9_nest_308 ?_
                  refine z_i2l (pc := 311) C dX9_nest_311 ?_
                  refine z_iload_n 2 (pc := 312) C dX9_nest_312 rfl rfl ?_
                  refine z_i2l (pc := 313) C dX9_nest_313 ?_
                  refine z_lmul (pc := 314) C dX9_nest_314 ?_
                  refine z_iload_n 3 (pc := 315) C dX9_nest_315 rfl rfl ?_
                  refine z_i2l (pc := 316) C dX9_nest_316 ?_
                  refine z_lmul (pc := 317) C dX9_nest_317 ?_
                  refine z_lload 6 (pc := 318) C dX9_nest_318 rfl ?_
                  refine z_lsub (pc := 320) C dX9_nest_320 ?_
                  exact z_lret (pc := 321) C hQ hr dX9_nest_321 (by cases hF; rfl) (by cases hF; rfl) (Nat.le_of_ble_eq_true rfl) (Nat.le_of_ble_eq_true rfl)
                · have hF := if_t hF c29
                  refine z_lload 5 (pc := 302) C dX9_nest_302 rfl ?_
                  refine z_goto 321 (pc := 304) C dX9_nest_304 (by decide) ?_
                  exact z_lret (pc := 321) C hQ hr dX9_nest_321 (by cases hF; rfl) (by cases hF; rfl) (Nat.le_of_ble_eq_true rfl) (Nat.le_of_ble_eq_true rfl)
              · have hF := if_t hF c28
                refine z_aload_n 0 (pc := 288) C dX9_nest_288 rfl rfl ?_
                refine gfX9_211 (pc := 289) C (rfl : kdM 0 = 9) dX9_nest_289 ?_
                refine z_i2l (pc := 292) C dX9_nest_292 ?_
                refine z_goto 321 (pc := 293) C dX9_nest_293 (by decide) ?_
                exact z_lret (pc := 321) C hQ hr dX9_nest_321 (by cases hF; rfl) (by cases hF; rfl) (Nat.le_of_ble_eq_true rfl) (Nat.le_of_ble_eq_true rfl)
            · have hF := if_t hF c27
              refine z_aload_n 0 (pc := 274) C dX9_nest_274 rfl rfl ?_
              refine gfX9_214 (pc := 275) C (rfl : kdM 0 = 9) dX9_nest_275 ?_
              refine z_i2l (pc := 278) C dX9_nest_278 ?_
              refine z_goto 321 (pc := 279) C dX9_nest_279 (by decide) ?_
              exact z_lret (pc := 321) C hQ hr dX9_nest_321 (by cases hF; rfl) (by cases hF; rfl) (Nat.le_of_ble_eq_true rfl) (Nat.le_of_ble_eq_true rfl)
          · have hF := if_f hF c26
            refine z_aload_n 0 (pc := 134) C dX9_nest_134 rfl rfl ?_
            refine z_iload 7 (pc := 135) C dX9_nest_135 rfl ?_
            refine z_iload_n 1 (pc := 137) C dX9_nest_137 rfl rfl ?_
            obtain ⟨v30, hG, hF⟩ := bn1_of hF
            refine z_callV [.int v23, .int p1] (pc := 138) (st1 := [.int v30]) (c1 := 0) (s1 := 0) C (mX9_longer C.hT hG) kX9_205 (kdM_lt (rfl : kdM 0 = 9) (by decide)) (gM_9 (rfl : kdM 0 = 9)) rfl rfl rfl rfl (Nat.le_of_ble_eq_true rfl) ⟨(Nat.le_of_ble_eq_true rfl), (Nat.le_of_ble_eq_true rfl)⟩ ⟨(Nat.le_of_ble_eq_true rfl), (Nat.le_of_ble_eq_true rfl)⟩ dX9_nest_138 rfl rfl ?_
            refine z_istore (pc := 141) (loc' := [(12, .int v30), (0, .ref (a 0)), (1, .int p1), (2, .int p2), (3, .int p3), (4, .int p4), (7, .long w21), (9, .long w22), (11, .int v23)]) C dX9_nest_141 (by decide) rfl ?_
            refine z_aload_n 1 (pc := 143) C dX9_nest_143 rfl rfl ?_
            refine z_iload 8 (pc := 144) C dX9_nest_144 rfl ?_
            refine z_iload_n 2 (pc := 146) C dX9_nest_146 rfl rfl ?_
            obtain ⟨v31, hG, hF⟩ := bn1_of hF
            refine z_callV [.int v23, .int p1] (pc := 147) (st1 := [.int v31]) (c1 := 0) (s1 := 0) C (mX9_shorter C.hT hG) kX9_208 (kdM_lt (rfl : kdM 0 = 9) (by decide)) (gM_9 (rfl : kdM 0 = 9)) rfl rfl rfl rfl (Nat.le_of_ble_eq_true rfl) ⟨(Nat.le_of_ble_eq_true rfl), (Nat.le_of_ble_eq_true rfl)⟩ ⟨(Nat.le_of_ble_eq_true rfl), (Nat.le_of_ble_eq_true rfl)⟩ dX9_nest_147 rfl rfl ?_
            refine z_istore (pc := 150) (loc' := [(13, .int v31), (12, .int v30), (0, .ref (a 0)), (1, .int p1), (2, .int p2), (3, .int p3), (4, .int p4), (7, .long w21), (9, .long w22), (11, .int v23)]) C dX9_nest_150 (by decide) rfl ?_
            refine z_iload 1 (pc := 152) C dX9_nest_152 rfl ?_
            refine z_iload_n 4 (pc := 154) C dX9_nest_154 rfl rfl ?_
            obtain ⟨J33, hdJ33, hF⟩ := jn1_of hF
            have hJ33 : ∀ (S32 : St), J33 S32 = some (r, S') → Zz E (WM E a S32) 0 0 164 [] [] := by
              intro S32 hF
              have hF := (hdJ33 _).symm.trans hF
              refine z_ldc2 (pc := 164) (v := (-1 : Int64)) C bw_28_13 dX9_nest_164 ?_
              exact z_lret (pc := 167) C hQ hr dX9_nest_167 (by cases hF; rfl) (by cases hF; rfl) (Nat.le_of_ble_eq_true rfl) (Nat.le_of_ble_eq_true rfl)
            refine z_icmp_gt 164 (pc := 155) C dX9_nest_155 (by decide) (fun c34 => ?_) (fun c34 => ?_)
            · have hF := if_t hF c34
              refine z_sub [] rfl ?_
              exact hJ33 _ hF
            · have hF := if_f hF c34
              refine z_iload 0 (pc := 158) C dX9_nest_158 rfl ?_
              refine z_iload_n 5 (pc := 160) C dX9_nest_160 rfl rfl ?_
              refine z_icmp_le 168 (pc := 161) C dX9_nest_161 (by decide) (fun c35 => ?_) (fun c35 => ?_)
              · have hF := if_t hF c35
                refine z_aload_n 2 (pc := 168) C dX9_nest_168 rfl rfl ?_
                refine z_iload 1 (pc := 169) C dX9_nest_169 rfl ?_
                refine z_iload 0 (pc := 171) C dX9_nest_171 rfl ?_
                refine z_iload_n 4 (pc := 173) C dX9_nest_173 rfl rfl ?_
                refine z_iload_n 5 (pc := 174) C dX9_nest_174 rfl rfl ?_
                obtain ⟨v36, S37, hG, hF⟩ := bn2_of hF
                refine z_callV [.int v30, .int v31, .int p2, .int p3] (pc := 175) (st1 := [.int v36]) (c1 := 0) (s1 := 0) C (mX9_rowFor C.hT hG) kX9_223 (kdM_lt (rfl : kdM 0 = 9) (by decide)) (gM_9 (rfl : kdM 0 = 9)) rfl rfl rfl rfl (Nat.le_of_ble_eq_true rfl) ⟨(Nat.le_of_ble_eq_true rfl), (Nat.le_of_ble_eq_true rfl)⟩ ⟨(Nat.le_of_ble_eq_true rfl), (Nat.le_of_ble_eq_true rfl)⟩ dX9_nest_175 rfl rfl ?_
                refine z_istore (pc := 178) (loc' := [(14, .int v36), (13, .int v31), (12, .int v30), (0, .ref (a 0)), (1, .int p1), (2, .int p2), (3, .int p3), (4, .int p4), (7, .long w21), (9, .long w22), (11, .int v23)]) C dX9_nest_178 (by decide) rfl ?_
                refine z_lload 8 (pc := 180) C dX9_nest_180 rfl ?_
                refine z_ldc2 (pc := 182) (v := (2 : Int64)) C bw_28_14 dX9_nest_182 ?_
                refine z_iload 2 (pc := 185) C dX9_nest_185 rfl ?_
                refine z_iload 1 (pc := 187) C dX9_nest_187 rfl ?_
                refine z_iadd (pc := 189) C dX9_nest_189 ?_
                refine z_i2l (pc := 190) C dX9_nest_190 ?_
                refine z_lmul (pc := 191) C dX9_nest_191 ?_
                refine z_aload_n 3 (pc := 192) C dX9_nest_192 rfl rfl ?_
                refine gfX9_103 (pc := 193) C (rfl : kdM 0 = 9) dX9_nest_193 ?_
                refine z_iload 0 (pc := 196) C dX9_nest_196 rfl ?_
                obtain ⟨g38, hF⟩ := gd_of hF
                refine iaM40 (pc := 198) C (rfl : kdM 32 = 60) g38 dX9_nest_198 ?_
                refine z_iload 1 (pc := 199) C dX9_nest_199 rfl ?_
                obtain ⟨v39', hR, hF⟩ := bn1_of hF
                have hJ56 : ∀ (v39 : Int32), (some v39 : Option (Int32)) = some v39' → Zz E (WM E a S37) 0 0 210 [(0, .ref (a 0)), (1, .int p1), (2, .int p2), (3, .int p3), (4, .int p4), (9, .long w22), (11, .int v23), (12, .int v30), (13, .int v31), (14, .int v36)] [.int v39, .long ((2 : Int64) * (Int32.toInt64 (v30 + v31))), .long w21] := by
                  intro v39 hE
                  have hE0 := Option.some.inj hE
                  subst hE0
                  refine z_i2l (pc := 210) C dX9_nest_210 ?_
                  refine z_lsub (pc := 211) C dX9_nest_211 ?_
                  refine z_ladd (pc := 212) C dX9_nest_212 ?_
                  obtain ⟨w40, e41, hF⟩ := bv_of hF
                  refine z_topl e41 ?_
                  refine z_lstore (pc := 213) (loc' := [(7, .long w40), (0, .ref (a 0)), (1, .int p1), (2, .int p2), (3, .int p3), (4, .int p4), (9, .long w22), (11, .int v23), (12, .int v30), (13, .int v31), (14, .int v36)]) C dX9_nest_213 (by decide) rfl ?_
                  refine z_lload 6 (pc := 215) C dX9_nest_215 rfl ?_
                  refine z_iload 8 (pc := 217) C dX9_nest_217 rfl ?_
                  refine z_i2l (pc := 219) C dX9_nest_219 ?_
                  refine z_iload 9 (pc := 220) C dX9_nest_220 rfl ?_
                  refine z_i2l (pc := 222) C dX9_nest_222 ?_
                  refine z_lmul (pc := 223) C dX9_nest_223 ?_
                  refine z_ladd (pc := 224) C dX9_nest_224 ?_
                  obtain ⟨w42, e43, hF⟩ := bv_of hF
                  refine z_topl e43 ?_
                  refine z_lstore (pc := 225) (loc' := [(9, .long w42), (7, .long w40), (0, .ref (a 0)), (1, .int p1), (2, .int p2), (3, .int p3), (4, .int p4), (11, .int v23), (12, .int v30), (13, .int v31), (14, .int v36)]) C dX9_nest_225 (by decide) rfl ?_
                  refine z_aload_n 2 (pc := 227) C dX9_nest_227 rfl rfl ?_
                  refine gfX9_100 (pc := 228) C (rfl : kdM 0 = 9) dX9_nest_228 ?_
                  refine z_iload 10 (pc := 231) C dX9_nest_231 rfl ?_
                  refine z_dup2 (pc := 233) C dX9_nest_233 rfl rfl ?_
                  obtain ⟨g44, hF⟩ := gd_of hF
                  refine iaM40 (pc := 234) C (rfl : kdM 31 = 60) g44 dX9_nest_234 ?_
                  refine z_iload 8 (pc := 235) C dX9_nest_235 rfl ?_
                  refine z_isub (pc := 237) C dX9_nest_237 ?_
                  obtain ⟨g45, hF⟩ := gd_of hF
                  refine saM40 (pc := 238) C (rfl : kdM 31 = 60) g45 dX9_nest_238 ?_
                  obtain ⟨S46, e47, hF⟩ := bv_of hF
                  rw [← e47]
                  refine z_aload_n 2 (pc := 239) C dX9_nest_239 rfl rfl ?_
                  refine gfX9_103 (pc := 240) C (rfl : kdM 0 = 9) dX9_nest_240 ?_
                  refine z_iload 10 (pc := 243) C dX9_nest_243 rfl ?_
                  refine z_iload 9 (pc := 245) C dX9_nest_245 rfl ?_
                  obtain ⟨g48, hF⟩ := gd_of hF
                  refine saM40 (pc := 247) C (rfl : kdM 32 = 60) g48 dX9_nest_247 ?_
                  obtain ⟨S49, e50, hF⟩ := bv_of hF
                  rw [← e50]
                  refine z_aload_n 2 (pc := 248) C dX9_nest_248 rfl rfl ?_
                  refine gfX9_88 (pc := 249) C (rfl : kdM 0 = 9) dX9_nest_249 ?_
                  refine z_iload 7 (pc := 252) C dX9_nest_252 rfl ?_
                  refine z_dup2 (pc := 254) C dX9_nest_254 rfl rfl ?_
                  obtain ⟨g51, hF⟩ := gd_of hF
                  refine iaM8 (pc := 255) C (rfl : kdM 27 = 28) g51 dX9_nest_255 ?_
                  refine z_iconst (pc := 256) (v := (1 : Int32)) C dX9_nest_256 (by decide) ?_
                  refine z_iadd (pc := 257) C dX9_nest_257 ?_
                  obtain ⟨g52, hF⟩ := gd_of hF
                  refine saM8 (pc := 258) C (rfl : kdM 27 = 28) g52 dX9_nest_258 ?_
                  obtain ⟨S53, e54, hF⟩ := bv_of hF
                  rw [← e54]
                  refine z_aload_n 2 (pc := 259) C dX9_nest_259 rfl rfl ?_
                  refine z_iload_n 3 (pc := 260) C dX9_nest_260 rfl rfl ?_
                  obtain ⟨v55, hG, hF⟩ := bn1_of hF
                  refine z_callV [.int p1] (pc := 261) (st1 := [.int v55]) (c1 := 0) (s1 := 0) C (mX9_nextPiece C.hT hG) kX9_217 (kdM_lt (rfl : kdM 0 = 9) (by decide)) (gM_9 (rfl : kdM 0 = 9)) rfl rfl rfl rfl (Nat.le_of_ble_eq_true rfl) ⟨(Nat.le_of_ble_eq_true rfl), (Nat.le_of_ble_eq_true rfl)⟩ ⟨(Nat.le_of_ble_eq_true rfl), (Nat.le_of_ble_eq_true rfl)⟩ dX9_nest_261 rfl rfl ?_
                  refine z_istore (pc := 264) (loc' := [(11, .int v55), (9, .long w42), (7, .long w40), (0, .ref (a 0)), (1, .int p1), (2, .int p2), (3, .int p3), (4, .int p4), (12, .int v30), (13, .int v31), (14, .int v36)]) C dX9_nest_264 (by decide) rfl ?_
                  refine z_goto 128 (pc := 266) C dX9_nest_266 (by decide) ?_
                  refine z_sub [3, 4, 5, 6, 7, 2, 1, 0] rfl ?_
                  exact hN25 _ _ _ _ hF
                have hF := hR
                clear hR
                refine z_icmp_ne 209 (pc := 201) C dX9_nest_201 (by decide) (fun c57 => ?_) (fun c57 => ?_)
                · have hF := if_f hF c57
                  refine z_iconst (pc := 209) (v := (0 : Int32)) C dX9_nest_209 (by decide) ?_
                  refine z_sub [3, 4, 5, 6, 7, 9, 10, 2, 1, 0] rfl ?_
                  exact hJ56 _ hF
                · have hF := if_t hF c57
                  refine z_iload 1 (pc := 204) C dX9_nest_204 rfl ?_
                  refine z_goto 210 (pc := 206) C dX9_nest_206 (by decide) ?_
                  refine z_sub [3, 4, 5, 6, 7, 9, 10, 2, 1, 0] rfl ?_
                  exact hJ56 _ hF
              · have hF := if_f hF c35
                refine z_sub [] rfl ?_
                exact hJ33 _ hF
        have hF := hR
        clear hR
        refine lq2_W (P := fun (v12 : Int32) (S13 : St) => Zz E (WM E a S13) 0 0 94 [(0, .ref (a 0)), (1, .int p1), (2, .int p2), (3, .int p3), (4, .int p4), (7, .int v12)] []) (fun next14 hN14 v12 S13 hF => ?_) _ _ _ hF
        unfold fX9_nest_L94 at hF
        refine z_iload 5 (pc := 94) C dX9_nest_94 rfl ?_
        refine z_bipush (pc := 96) (v := (8 : Int32)) C dX9_nest_96 (by decide) ?_
        refine z_icmp_ge 115 (pc := 98) C dX9_nest_98 (by decide) (fun c59 => ?_) (fun c59 => ?_)
        · have hF := if_t hF c59
          refine z_sub [0, 1, 2, 3, 4] rfl ?_
          exact hJ58 _ hF
        · have hF := if_f hF c59
          refine z_aload_n 0 (pc := 101) C dX9_nest_101 rfl rfl ?_
          refine gfX9_88 (pc := 102) C (rfl : kdM 0 = 9) dX9_nest_102 ?_
          refine z_iload 5 (pc := 105) C dX9_nest_105 rfl ?_
          refine z_iconst (pc := 107) (v := (0 : Int32)) C dX9_nest_107 (by decide) ?_
          obtain ⟨g60, hF⟩ := gd_of hF
          refine saM8 (pc := 108) C (rfl : kdM 27 = 28) g60 dX9_nest_108 ?_
          obtain ⟨S61, e62, hF⟩ := bv_of hF
          rw [← e62]
          obtain ⟨v63, e64, hF⟩ := bv_of hF
          refine z_iinc 5 (pc := 109) (v := v63) (loc' := [(7, .int v63), (0, .ref (a 0)), (1, .int p1), (2, .int p2), (3, .int p3), (4, .int p4)]) C dX9_nest_109 rfl (by rw [e64]; rfl) (by decide) rfl ?_
          refine z_goto 94 (pc := 112) C dX9_nest_112 (by decide) ?_
          refine z_sub [1, 2, 3, 4, 5, 0] rfl ?_
          exact hN14 _ _ hF
      · have hF := if_t hF c7
        refine z_lconst (pc := 79) (v := (0 : Int64)) C dX9_nest_79 (by decide) ?_
        exact z_lret (pc := 80) C hQ hr dX9_nest_80 (by cases hF; rfl) (by cases hF; rfl) (Nat.le_of_ble_eq_true rfl) (Nat.le_of_ble_eq_true rfl)
    have hF := hR
    clear hR
    refine z_if_ne 63 (pc := 56) C dX9_nest_56 (by decide) (fun c66 => ?_) (fun c66 => ?_)
    · have hF := if_f hF c66
      refine z_iload 0 (pc := 63) C dX9_nest_63 rfl ?_
      refine z_if_eq 72 (pc := 65) C dX9_nest_65 (by decide) (fun c67 => ?_) (fun c67 => ?_)
      · have hF := if_t hF c67
        refine z_iconst (pc := 72) (v := (2 : Int32)) C dX9_nest_72 (by decide) ?_
        refine z_sub [1, 2, 3, 4, 5] rfl ?_
        exact hJ65 _ hF
      · have hF := if_f hF c67
        refine z_iconst (pc := 68) (v := (0 : Int32)) C dX9_nest_68 (by decide) ?_
        refine z_goto 73 (pc := 69) C dX9_nest_69 (by decide) ?_
        refine z_sub [1, 2, 3, 4, 5] rfl ?_
        exact hJ65 _ hF
    · have hF := if_t hF c66
      refine z_iconst (pc := 59) (v := (1 : Int32)) C dX9_nest_59 (by decide) ?_
      refine z_goto 73 (pc := 60) C dX9_nest_60 (by decide) ?_
      refine z_sub [1, 2, 3, 4, 5] rfl ?_
      exact hJ65 _ hF
  have hF := hR
  clear hR
  obtain ⟨J69, hdJ69, hF⟩ := jn0_of hF
  have hJ69 : J69 = some v3' → Zz E (WM E a S) 0 0 50 [(0, .ref (a 0)), (1, .int p1), (2, .int p2), (3, .int p3), (4, .int p4), (5, .int v1)] [] := by
    intro hF
    have hF := hdJ69.symm.trans hF
    refine z_iconst (pc := 50) (v := (0 : Int32)) C dX9_nest_50 (by decide) ?_
    exact hJ68 _ hF
  refine z_if_eq 50 (pc := 16) C dX9_nest_16 (by decide) (fun c70 => ?_) (fun c70 => ?_)
  · have hF := if_t hF c70
    refine z_sub [1, 2, 3, 4, 5, 0] rfl ?_
    exact hJ69 hF
  · have hF := if_f hF c70
    refine z_iload_n 4 (pc := 19) C dX9_nest_19 rfl rfl ?_
    refine z_bipush (pc := 20) (v := (50 : Int32)) C dX9_nest_20 (by decide) ?_
    refine z_sipush (pc := 22) (v := (1500 : Int32)) C dX9_nest_22 (by decide) ?_
    obtain ⟨v71, hG, hF⟩ := bn1_of hF
    refine z_callS [.int p3, .int (50 : Int32), .int (1500 : Int32)] (pc := 25) (st1 := [.int v71]) (c1 := 0) (s1 := 0) C (mX9_in C.hT hG) kX9_113 rfl rfl rfl rfl (Nat.le_of_ble_eq_true rfl) ⟨(Nat.le_of_ble_eq_true rfl), (Nat.le_of_ble_eq_true rfl)⟩ ⟨(Nat.le_of_ble_eq_true rfl), (Nat.le_of_ble_eq_true rfl)⟩ dX9_nest_25 rfl rfl ?_
    refine z_if_eq 50 (pc := 28) C dX9_nest_28 (by decide) (fun c72 => ?_) (fun c72 => ?_)
    · have hF := if_t hF c72
      refine z_sub [1, 2, 3, 4, 5, 0] rfl ?_
      exact hJ69 hF
    · have hF := if_f hF c72
      refine z_iload_n 4 (pc := 31) C dX9_nest_31 rfl rfl ?_
      refine z_iload_n 3 (pc := 32) C dX9_nest_32 rfl rfl ?_
      refine z_icmp_gt 50 (pc := 33) C dX9_nest_33 (by decide) (fun c73 => ?_) (fun c73 => ?_)
      · have hF := if_t hF c73
        refine z_sub [1, 2, 3, 4, 5, 0] rfl ?_
        exact hJ69 hF
      · have hF := if_f hF c73
        refine z_iload 5 (pc := 36) C dX9_nest_36 rfl ?_
        refine z_iconst (pc := 38) (v := (0 : Int32)) C dX9_nest_38 (by decide) ?_
        refine z_iconst (pc := 39) (v := (3 : Int32)) C dX9_nest_39 (by decide) ?_
        obtain ⟨v74, hG, hF⟩ := bn1_of hF
        refine z_callS [.int p4, .int (0 : Int32), .int (3 : Int32)] (pc := 40) (st1 := [.int v74]) (c1 := 0) (s1 := 0) C (mX9_in C.hT hG) kX9_113 rfl rfl rfl rfl (Nat.le_of_ble_eq_true rfl) ⟨(Nat.le_of_ble_eq_true rfl), (Nat.le_of_ble_eq_true rfl)⟩ ⟨(Nat.le_of_ble_eq_true rfl), (Nat.le_of_ble_eq_true rfl)⟩ dX9_nest_40 rfl rfl ?_
        refine z_if_eq 50 (pc := 43) C dX9_nest_43 (by decide) (fun c75 => ?_) (fun c75 => ?_)
        · have hF := if_t hF c75
          refine z_sub [1, 2, 3, 4, 5, 0] rfl ?_
          exact hJ69 hF
        · have hF := if_f hF c75
          refine z_iconst (pc := 46) (v := (1 : Int32)) C dX9_nest_46 (by decide) ?_
          refine z_goto 51 (pc := 47) C dX9_nest_47 (by decide) ?_
          refine z_sub [1, 2, 3, 4, 5, 0] rfl ?_
          exact hJ68 _ hF
def fX9_turns (S : St) (p1 : Int32) (p2 : Int32) : Option ((Int32 × St)) :=
  bn1 (fX9_findOrders S p1 p2) (fun (S1 : St) =>
  gd (inb (6 : Int32) 224) (
  if (99 : Int32) ≤ (gi S1 26 (6 : Int32).toNatClampNeg) then (
    some ((-1 : Int32), S1))
  else (
    gd (inb (6 : Int32) 224) (
    some ((gi S1 26 (6 : Int32).toNatClampNeg), S1)))))
abbrev rmX9_turns : Room := { frames := 9, cells := 0, slots := 0, locals := 210 }
set_option maxRecDepth 100000 in
set_option maxHeartbeats 4000000 in
theorem mX9_turns {l : Launch} {D : va_G} {cs : Nat → ClassId} {a : Nat → Nat} (hT : l.stackTraces = false) {S : St} {p1 : Int32} {p2 : Int32} {r : Int32} {S' : St} (hF : fX9_turns S p1 p2 = some (r, S')) : MX l 33 GM D cs a yX9_turns cX9_turns 3 (some .int) rmX9_turns [.ref (a 0), .int p1, .int p2] S (.inr (some (.int r))) S' := by
  refine zm_entry [(0, .ref (a 0)), (1, .int p1), (2, .int p2)] hT (by decide +kernel) (Nat.le_of_ble_eq_true rfl) rfl (fun E hEl hED hEk C hQ hr => ?_)
  subst hEl
  subst hED
  subst hEk
  unfold fX9_turns at hF
  refine z_aload_n 0 (pc := 0) C dX9_turns_0 rfl rfl ?_
  refine z_iload_n 1 (pc := 1) C dX9_turns_1 rfl rfl ?_
  refine z_iload_n 2 (pc := 2) C dX9_turns_2 rfl rfl ?_
  obtain ⟨S1, hG, hF⟩ := bn1_of hF
  refine z_callV [.int p1, .int p2] (pc := 3) (st1 := []) (c1 := 0) (s1 := 0) C (mX9_findOrders C.hT hG) kX9_194 (kdM_lt (rfl : kdM 0 = 9) (by decide)) (gM_9 (rfl : kdM 0 = 9)) rfl rfl rfl rfl (Nat.le_of_ble_eq_true rfl) ⟨(Nat.le_of_ble_eq_true rfl), (Nat.le_of_ble_eq_true rfl)⟩ ⟨(Nat.le_of_ble_eq_true rfl), (Nat.le_of_ble_eq_true rfl)⟩ dX9_turns_3 rfl rfl ?_
  refine z_aload_n 0 (pc := 6) C dX9_turns_6 rfl rfl ?_
  refine gfX9_85 (pc := 7) C (rfl : kdM 0 = 9) dX9_turns_7 ?_
  refine z_bipush (pc := 10) (v := (6 : Int32)) C dX9_turns_10 (by decide) ?_
  obtain ⟨g2, hF⟩ := gd_of hF
  refine iaM224 (pc := 12) C (rfl : kdM 26 = 244) g2 dX9_turns_12 ?_
  refine z_bipush (pc := 13) (v := (99 : Int32)) C dX9_turns_13 (by decide) ?_
  refine z_icmp_ge 28 (pc := 15) C dX9_turns_15 (by decide) (fun c3 => ?_) (fun c3 => ?_)
  · have hF := if_t hF c3
    refine z_iconst (pc := 28) (v := (-1 : Int32)) C dX9_turns_28 (by decide) ?_
    exact z_iret (pc := 29) C hQ hr rfl dX9_turns_29 (by cases hF; rfl) (by cases hF; rfl) (Nat.le_of_ble_eq_true rfl) (Nat.le_of_ble_eq_true rfl)
  · have hF := if_f hF c3
    refine z_aload_n 0 (pc := 18) C dX9_turns_18 rfl rfl ?_
    refine gfX9_85 (pc := 19) C (rfl : kdM 0 = 9) dX9_turns_19 ?_
    refine z_bipush (pc := 22) (v := (6 : Int32)) C dX9_turns_22 (by decide) ?_
    obtain ⟨g4, hF⟩ := gd_of hF
    refine iaM224 (pc := 24) C (rfl : kdM 26 = 244) g4 dX9_turns_24 ?_
    refine z_goto 29 (pc := 25) C dX9_turns_25 (by decide) ?_
    exact z_iret (pc := 29) C hQ hr rfl dX9_turns_29 (by cases hF; rfl) (by cases hF; rfl) (Nat.le_of_ble_eq_true rfl) (Nat.le_of_ble_eq_true rfl)
def fX9_flips (S : St) (p1 : Int32) (p2 : Int32) : Option ((Int32 × St)) :=
  bn1 (fX9_isPart S p1) (fun (v1 : Int32) =>
  bn1 (jn0 (
    some (1 : Int32)) (fun J9 =>
    if v1 = 0 then (
      J9)
    else (
      bn1 (fX9_isTool S p2) (fun (v11 : Int32) =>
      if v11 = 0 then (
        J9)
      else (
        some (0 : Int32)))))) (fun (v2 : Int32) =>
    bn2 (fX9_goesWell S v2) (fun (v3 : Int32) (S4 : St) =>
    if v3 = 0 then (
      some ((0 : Int32), S4))
    else (
      bn2 (fX9_turns S4 p1 p2) (fun (v6 : Int32) (S7 : St) =>
      some (v6, S7))))))
abbrev rmX9_flips : Room := { frames := 10, cells := 0, slots := 0, locals := 250 }
set_option maxRecDepth 100000 in
set_option maxHeartbeats 4000000 in
theorem mX9_flips {l : Launch} {D : va_G} {cs : Nat → ClassId} {a : Nat → Nat} (hT : l.stackTraces = false) {S : St} {p1 : Int32} {p2 : Int32} {r : Int32} {S' : St} (hF : fX9_flips S p1 p2 = some (r, S')) : MX l 33 GM D cs a yX9_flips cX9_flips 3 (some .int) rmX9_flips [.ref (a 0), .int p1, .int p2] S (.inr (some (.int r))) S' := by
  refine zm_entry [(0, .ref (a 0)), (1, .int p1), (2, .int p2)] hT (by decide +kernel) (Nat.le_of_ble_eq_true rfl) rfl (fun E hEl hED hEk C hQ hr => ?_)
  subst hEl
  subst hED
  subst hEk
  unfold fX9_flips at hF
  refine z_aload_n 0 (pc := 0) C dX9_flips_0 rfl rfl ?_
  refine z_aload_n 0 (pc := 1) C dX9_flips_1 rfl rfl ?_
  refine z_iload_n 1 (pc := 2) C dX9_flips_2 rfl rfl ?_
  obtain ⟨v1, hG, hF⟩ := bn1_of hF
  refine z_callV [.int p1] (pc := 3) (st1 := [.int v1, .ref (a 0)]) (c1 := 0) (s1 := 0) C (mX9_isPart C.hT hG) kX9_138 (kdM_lt (rfl : kdM 0 = 9) (by decide)) (gM_9 (rfl : kdM 0 = 9)) rfl rfl rfl rfl (Nat.le_of_ble_eq_true rfl) ⟨(Nat.le_of_ble_eq_true rfl), (Nat.le_of_ble_eq_true rfl)⟩ ⟨(Nat.le_of_ble_eq_true rfl), (Nat.le_of_ble_eq_true rfl)⟩ dX9_flips_3 rfl rfl ?_
  obtain ⟨v2', hR, hF⟩ := bn1_of hF
  have hJ8 : ∀ (v2 : Int32), (some v2 : Option (Int32)) = some v2' → Zz E (WM E a S) 0 0 22 [(0, .ref (a 0)), (1, .int p1), (2, .int p2)] [.int v2, .ref (a 0)] := by
    intro v2 hE
    have hE0 := Option.some.inj hE
    subst hE0
    obtain ⟨v3, S4, hG, hF⟩ := bn2_of hF
    refine z_callV [.int v2] (pc := 22) (st1 := [.int v3]) (c1 := 0) (s1 := 0) C (mX9_goesWell C.hT hG) kX9_126 (kdM_lt (rfl : kdM 0 = 9) (by decide)) (gM_9 (rfl : kdM 0 = 9)) rfl rfl rfl rfl (Nat.le_of_ble_eq_true rfl) ⟨(Nat.le_of_ble_eq_true rfl), (Nat.le_of_ble_eq_true rfl)⟩ ⟨(Nat.le_of_ble_eq_true rfl), (Nat.le_of_ble_eq_true rfl)⟩ dX9_flips_22 rfl rfl ?_
    refine z_if_eq 37 (pc := 25) C dX9_flips_25 (by decide) (fun c5 => ?_) (fun c5 => ?_)
    · have hF := if_t hF c5
      refine z_iconst (pc := 37) (v := (0 : Int32)) C dX9_flips_37 (by decide) ?_
      exact z_iret (pc := 38) C hQ hr rfl dX9_flips_38 (by cases hF; rfl) (by cases hF; rfl) (Nat.le_of_ble_eq_true rfl) (Nat.le_of_ble_eq_true rfl)
    · have hF := if_f hF c5
      refine z_aload_n 0 (pc := 28) C dX9_flips_28 rfl rfl ?_
      refine z_iload_n 1 (pc := 29) C dX9_flips_29 rfl rfl ?_
      refine z_iload_n 2 (pc := 30) C dX9_flips_30 rfl rfl ?_
      obtain ⟨v6, S7, hG, hF⟩ := bn2_of hF
      refine z_callV [.int p1, .int p2] (pc := 31) (st1 := [.int v6]) (c1 := 0) (s1 := 0) C (mX9_turns C.hT hG) kX9_198 (kdM_lt (rfl : kdM 0 = 9) (by decide)) (gM_9 (rfl : kdM 0 = 9)) rfl rfl rfl rfl (Nat.le_of_ble_eq_true rfl) ⟨(Nat.le_of_ble_eq_true rfl), (Nat.le_of_ble_eq_true rfl)⟩ ⟨(Nat.le_of_ble_eq_true rfl), (Nat.le_of_ble_eq_true rfl)⟩ dX9_flips_31 rfl rfl ?_
      refine z_goto 38 (pc := 34) C dX9_flips_34 (by decide) ?_
      exact z_iret (pc := 38) C hQ hr rfl dX9_flips_38 (by cases hF; rfl) (by cases hF; rfl) (Nat.le_of_ble_eq_true rfl) (Nat.le_of_ble_eq_true rfl)
  have hF := hR
  clear hR
  obtain ⟨J9, hdJ9, hF⟩ := jn0_of hF
  have hJ9 : J9 = some v2' → Zz E (WM E a S) 0 0 21 [(0, .ref (a 0)), (1, .int p1), (2, .int p2)] [.ref (a 0)] := by
    intro hF
    have hF := hdJ9.symm.trans hF
    refine z_iconst (pc := 21) (v := (1 : Int32)) C dX9_flips_21 (by decide) ?_
    exact hJ8 _ hF
  refine z_if_eq 21 (pc := 6) C dX9_flips_6 (by decide) (fun c10 => ?_) (fun c10 => ?_)
  · have hF := if_t hF c10
    exact hJ9 hF
  · have hF := if_f hF c10
    refine z_aload_n 0 (pc := 9) C dX9_flips_9 rfl rfl ?_
    refine z_iload_n 2 (pc := 10) C dX9_flips_10 rfl rfl ?_
    obtain ⟨v11, hG, hF⟩ := bn1_of hF
    refine z_callV [.int p2] (pc := 11) (st1 := [.int v11, .ref (a 0)]) (c1 := 0) (s1 := 0) C (mX9_isTool C.hT hG) kX9_151 (kdM_lt (rfl : kdM 0 = 9) (by decide)) (gM_9 (rfl : kdM 0 = 9)) rfl rfl rfl rfl (Nat.le_of_ble_eq_true rfl) ⟨(Nat.le_of_ble_eq_true rfl), (Nat.le_of_ble_eq_true rfl)⟩ ⟨(Nat.le_of_ble_eq_true rfl), (Nat.le_of_ble_eq_true rfl)⟩ dX9_flips_11 rfl rfl ?_
    refine z_if_eq 21 (pc := 14) C dX9_flips_14 (by decide) (fun c12 => ?_) (fun c12 => ?_)
    · have hF := if_t hF c12
      exact hJ9 hF
    · have hF := if_f hF c12
      refine z_iconst (pc := 17) (v := (0 : Int32)) C dX9_flips_17 (by decide) ?_
      refine z_goto 22 (pc := 18) C dX9_flips_18 (by decide) ?_
      exact hJ8 _ hF
def fX9_flipsAnew (S : St) (p1 : Int32) (p2 : Int32) : Option ((Int32 × St)) :=
  bn1 (fX9_isPart S p1) (fun (v1 : Int32) =>
  bn1 (jn0 (
    some (1 : Int32)) (fun J9 =>
    if v1 = 0 then (
      J9)
    else (
      bn1 (fX9_isTool S p2) (fun (v11 : Int32) =>
      if v11 = 0 then (
        J9)
      else (
        some (0 : Int32)))))) (fun (v2 : Int32) =>
    bn2 (fX9_goesWell S v2) (fun (v3 : Int32) (S4 : St) =>
    if v3 = 0 then (
      some ((0 : Int32), S4))
    else (
      bn2 (fX9_turns S4 p1 p2) (fun (v6 : Int32) (S7 : St) =>
      some (v6, S7))))))
abbrev rmX9_flipsAnew : Room := { frames := 10, cells := 0, slots := 0, locals := 250 }
set_option maxRecDepth 100000 in
set_option maxHeartbeats 4000000 in
theorem mX9_flipsAnew {l : Launch} {D : va_G} {cs : Nat → ClassId} {a : Nat → Nat} (hT : l.stackTraces = false) {S : St} {p1 : Int32} {p2 : Int32} {r : Int32} {S' : St} (hF : fX9_flipsAnew S p1 p2 = some (r, S')) : MX l 33 GM D cs a yX9_flipsAnew cX9_flipsAnew 3 (some .int) rmX9_flipsAnew [.ref (a 0), .int p1, .int p2] S (.inr (some (.int r))) S' := by
  refine zm_entry [(0, .ref (a 0)), (1, .int p1), (2, .int p2)] hT (by decide +kernel) (Nat.le_of_ble_eq_true rfl) rfl (fun E hEl hED hEk C hQ hr => ?_)
  subst hEl
  subst hED
  subst hEk
  unfold fX9_flipsAnew at hF
  refine z_aload_n 0 (pc := 0) C dX9_flipsAnew_0 rfl rfl ?_
  refine z_aload_n 0 (pc := 1) C dX9_flipsAnew_1 rfl rfl ?_
  refine z_iload_n 1 (pc := 2) C dX9_flipsAnew_2 rfl rfl ?_
  obtain ⟨v1, hG, hF⟩ := bn1_of hF
  refine z_callV [.int p1] (pc := 3) (st1 := [.int v1, .ref (a 0)]) (c1 := 0) (s1 := 0) C (mX9_isPart C.hT hG) kX9_138 (kdM_lt (rfl : kdM 0 = 9) (by decide)) (gM_9 (rfl : kdM 0 = 9)) rfl rfl rfl rfl (Nat.le_of_ble_eq_true rfl) ⟨(Nat.le_of_ble_eq_true rfl), (Nat.le_of_ble_eq_true rfl)⟩ ⟨(Nat.le_of_ble_eq_true rfl), (Nat.le_of_ble_eq_true rfl)⟩ dX9_flipsAnew_3 rfl rfl ?_
  obtain ⟨v2', hR, hF⟩ := bn1_of hF
  have hJ8 : ∀ (v2 : Int32), (some v2 : Option (Int32)) = some v2' → Zz E (WM E a S) 0 0 22 [(0, .ref (a 0)), (1, .int p1), (2, .int p2)] [.int v2, .ref (a 0)] := by
    intro v2 hE
    have hE0 := Option.some.inj hE
    subst hE0
    obtain ⟨v3, S4, hG, hF⟩ := bn2_of hF
    refine z_callV [.int v2] (pc := 22) (st1 := [.int v3]) (c1 := 0) (s1 := 0) C (mX9_goesWell C.hT hG) kX9_126 (kdM_lt (rfl : kdM 0 = 9) (by decide)) (gM_9 (rfl : kdM 0 = 9)) rfl rfl rfl rfl (Nat.le_of_ble_eq_true rfl) ⟨(Nat.le_of_ble_eq_true rfl), (Nat.le_of_ble_eq_true rfl)⟩ ⟨(Nat.le_of_ble_eq_true rfl), (Nat.le_of_ble_eq_true rfl)⟩ dX9_flipsAnew_22 rfl rfl ?_
    refine z_if_eq 37 (pc := 25) C dX9_flipsAnew_25 (by decide) (fun c5 => ?_) (fun c5 => ?_)
    · have hF := if_t hF c5
      refine z_iconst (pc := 37) (v := (0 : Int32)) C dX9_flipsAnew_37 (by decide) ?_
      exact z_iret (pc := 38) C hQ hr rfl dX9_flipsAnew_38 (by cases hF; rfl) (by cases hF; rfl) (Nat.le_of_ble_eq_true rfl) (Nat.le_of_ble_eq_true rfl)
    · have hF := if_f hF c5
      refine z_aload_n 0 (pc := 28) C dX9_flipsAnew_28 rfl rfl ?_
      refine z_iload_n 1 (pc := 29) C dX9_flipsAnew_29 rfl rfl ?_
      refine z_iload_n 2 (pc := 30) C dX9_flipsAnew_30 rfl rfl ?_
      obtain ⟨v6, S7, hG, hF⟩ := bn2_of hF
      refine z_callV [.int p1, .int p2] (pc := 31) (st1 := [.int v6]) (c1 := 0) (s1 := 0) C (mX9_turns C.hT hG) kX9_198 (kdM_lt (rfl : kdM 0 = 9) (by decide)) (gM_9 (rfl : kdM 0 = 9)) rfl rfl rfl rfl (Nat.le_of_ble_eq_true rfl) ⟨(Nat.le_of_ble_eq_true rfl), (Nat.le_of_ble_eq_true rfl)⟩ ⟨(Nat.le_of_ble_eq_true rfl), (Nat.le_of_ble_eq_true rfl)⟩ dX9_flipsAnew_31 rfl rfl ?_
      refine z_goto 38 (pc := 34) C dX9_flipsAnew_34 (by decide) ?_
      exact z_iret (pc := 38) C hQ hr rfl dX9_flipsAnew_38 (by cases hF; rfl) (by cases hF; rfl) (Nat.le_of_ble_eq_true rfl) (Nat.le_of_ble_eq_true rfl)
  have hF := hR
  clear hR
  obtain ⟨J9, hdJ9, hF⟩ := jn0_of hF
  have hJ9 : J9 = some v2' → Zz E (WM E a S) 0 0 21 [(0, .ref (a 0)), (1, .int p1), (2, .int p2)] [.ref (a 0)] := by
    intro hF
    have hF := hdJ9.symm.trans hF
    refine z_iconst (pc := 21) (v := (1 : Int32)) C dX9_flipsAnew_21 (by decide) ?_
    exact hJ8 _ hF
  refine z_if_eq 21 (pc := 6) C dX9_flipsAnew_6 (by decide) (fun c10 => ?_) (fun c10 => ?_)
  · have hF := if_t hF c10
    exact hJ9 hF
  · have hF := if_f hF c10
    refine z_aload_n 0 (pc := 9) C dX9_flipsAnew_9 rfl rfl ?_
    refine z_iload_n 2 (pc := 10) C dX9_flipsAnew_10 rfl rfl ?_
    obtain ⟨v11, hG, hF⟩ := bn1_of hF
    refine z_callV [.int p2] (pc := 11) (st1 := [.int v11, .ref (a 0)]) (c1 := 0) (s1 := 0) C (mX9_isTool C.hT hG) kX9_151 (kdM_lt (rfl : kdM 0 = 9) (by decide)) (gM_9 (rfl : kdM 0 = 9)) rfl rfl rfl rfl (Nat.le_of_ble_eq_true rfl) ⟨(Nat.le_of_ble_eq_true rfl), (Nat.le_of_ble_eq_true rfl)⟩ ⟨(Nat.le_of_ble_eq_true rfl), (Nat.le_of_ble_eq_true rfl)⟩ dX9_flipsAnew_11 rfl rfl ?_
    refine z_if_eq 21 (pc := 14) C dX9_flipsAnew_14 (by decide) (fun c12 => ?_) (fun c12 => ?_)
    · have hF := if_t hF c12
      exact hJ9 hF
    · have hF := if_f hF c12
      refine z_iconst (pc := 17) (v := (0 : Int32)) C dX9_flipsAnew_17 (by decide) ?_
      refine z_goto 22 (pc := 18) C dX9_flipsAnew_18 (by decide) ?_
      exact hJ8 _ hF
def fX9_ordered_L87 (v11 : Int32) (p1 : Int32) (p2 : Int32) (v12 : Int32) (next26 : Int32 → Int32 → St → Option (Int32 × St)) (v23 : Int32) (v24 : Int32) (S25 : St) : Option (Int32 × St) :=
  if v24 < 0 then (
    some (v23, S25))
  else (
    bn2 (jn1 (fun (S48 : St) =>
      some ((0 : Int32), S48)) (fun J49 =>
      if ((v11 >>> (v24 &&& 31)) &&& (1 : Int32)) = 0 then (
        bn2 (fX9_reason S25 p1 p2 v11 v24) (fun (v51 : Int32) (S52 : St) =>
        if v51 = 0 then (
          some ((1 : Int32), S52))
        else (
          J49 S52)))
      else (
        J49 S25))) (fun (v35 : Int32) (S36 : St) =>
      bn1 (jn0 (
        some v23) (fun J41 =>
        if v35 = 0 then (
          J41)
        else (
          bn1 (fX9_turn S36 p1 v12 v24) (fun (v43 : Int32) =>
          gd (inb (((7 : Int32) * (v11 ||| ((1 : Int32) <<< (v24 &&& 31)))) + v24) 224) (
          gd (inb (((7 : Int32) * v11) + v12) 224) (
          if (v43 + (gi S36 26 (((7 : Int32) * (v11 ||| ((1 : Int32) <<< (v24 &&& 31)))) + v24).toNatClampNeg)) = (gi S36 26 (((7 : Int32) * v11) + v12).toNatClampNeg) then (
            some v24)
          else (
            J41))))))) (fun (v37 : Int32) =>
        bv (v24 + (-1)) (fun (v38 : Int32) =>
        next26 v37 v38 S36))))
def fX9_ordered_L68 (p3 : Int32) (p1 : Int32) (p2 : Int32) (next15 : Int32 → Int32 → Int32 → St → Option (Int32 × St)) (v11 : Int32) (v12 : Int32) (v13 : Int32) (S14 : St) : Option (Int32 × St) :=
  if p3 < v13 then (
    some (v12, S14))
  else (
    gd (inb p1 8) (
    bv (((gi S14 3 p1.toNatClampNeg) - (2 : Int32))) (fun (v21 : Int32) =>
    bn2 (lq3 (fX9_ordered_L87 v11 p1 p2 v12) 200 (-1 : Int32) v21 S14) (fun (v27 : Int32) (S28 : St) =>
      bv ((v11 ||| ((1 : Int32) <<< (v27 &&& 31)))) (fun (v29 : Int32) =>
      bv (v13 + 1) (fun (v31 : Int32) =>
      next15 v29 v27 v31 S28))))))
def fX9_ordered (S : St) (p1 : Int32) (p2 : Int32) (p3 : Int32) : Option ((Int32 × St)) :=
  bn1 (fX9_isPart S p1) (fun (v1 : Int32) =>
  bn1 (jn0 (
    some (1 : Int32)) (fun J55 =>
    if v1 = 0 then (
      J55)
    else (
      bn1 (fX9_isTool S p2) (fun (v57 : Int32) =>
      if v57 = 0 then (
        J55)
      else (
        if p3 < 0 then (
          J55)
        else (
          some (0 : Int32))))))) (fun (v2 : Int32) =>
    bn2 (fX9_goesWell S v2) (fun (v3 : Int32) (S4 : St) =>
    if v3 = 0 then (
      some ((0 : Int32), S4))
    else (
      bn2 (fX9_turns S4 p1 p2) (fun (v6 : Int32) (S7 : St) =>
      if v6 = (-1 : Int32) then (
        some ((-1 : Int32), S7))
      else (
        gd (inb p1 8) (
        if p3 < ((gi S7 3 p1.toNatClampNeg) - (1 : Int32)) then (
          bn2 (lq4 (fX9_ordered_L68 p3 p1 p2) 200 (0 : Int32) (6 : Int32) (0 : Int32) S7) (fun (v16 : Int32) (S17 : St) =>
            some (v16, S17)))
        else (
          some ((-1 : Int32), S7)))))))))
abbrev rmX9_ordered : Room := { frames := 10, cells := 0, slots := 0, locals := 250 }
set_option maxRecDepth 100000 in
set_option maxHeartbeats 4000000 in
theorem mX9_ordered {l : Launch} {D : va_G} {cs : Nat → ClassId} {a : Nat → Nat} (hT : l.stackTraces = false) {S : St} {p1 : Int32} {p2 : Int32} {p3 : Int32} {r : Int32} {S' : St} (hF : fX9_ordered S p1 p2 p3 = some (r, S')) : MX l 33 GM D cs a yX9_ordered cX9_ordered 10 (some .int) rmX9_ordered [.ref (a 0), .int p1, .int p2, .int p3] S (.inr (some (.int r))) S' := by
  refine zm_entry [(0, .ref (a 0)), (1, .int p1), (2, .int p2), (3, .int p3)] hT (by decide +kernel) (Nat.le_of_ble_eq_true rfl) rfl (fun E hEl hED hEk C hQ hr => ?_)
  subst hEl
  subst hED
  subst hEk
  unfold fX9_ordered at hF
  refine z_aload_n 0 (pc := 0) C dX9_ordered_0 rfl rfl ?_
  refine z_aload_n 0 (pc := 1) C dX9_ordered_1 rfl rfl ?_
  refine z_iload_n 1 (pc := 2) C dX9_ordered_2 rfl rfl ?_
  obtain ⟨v1, hG, hF⟩ := bn1_of hF
  refine z_callV [.int p1] (pc := 3) (st1 := [.int v1, .ref (a 0)]) (c1 := 0) (s1 := 0) C (mX9_isPart C.hT hG) kX9_138 (kdM_lt (rfl : kdM 0 = 9) (by decide)) (gM_9 (rfl : kdM 0 = 9)) rfl rfl rfl rfl (Nat.le_of_ble_eq_true rfl) ⟨(Nat.le_of_ble_eq_true rfl), (Nat.le_of_ble_eq_true rfl)⟩ ⟨(Nat.le_of_ble_eq_true rfl), (Nat.le_of_ble_eq_true rfl)⟩ dX9_ordered_3 rfl rfl ?_
  obtain ⟨v2', hR, hF⟩ := bn1_of hF
  have hJ54 : ∀ (v2 : Int32), (some v2 : Option (Int32)) = some v2' → Zz E (WM E a S) 0 0 26 [(0, .ref (a 0)), (1, .int p1), (2, .int p2), (3, .int p3)] [.int v2, .ref (a 0)] := by
    intro v2 hE
    have hE0 := Option.some.inj hE
    subst hE0
    obtain ⟨v3, S4, hG, hF⟩ := bn2_of hF
    refine z_callV [.int v2] (pc := 26) (st1 := [.int v3]) (c1 := 0) (s1 := 0) C (mX9_goesWell C.hT hG) kX9_126 (kdM_lt (rfl : kdM 0 = 9) (by decide)) (gM_9 (rfl : kdM 0 = 9)) rfl rfl rfl rfl (Nat.le_of_ble_eq_true rfl) ⟨(Nat.le_of_ble_eq_true rfl), (Nat.le_of_ble_eq_true rfl)⟩ ⟨(Nat.le_of_ble_eq_true rfl), (Nat.le_of_ble_eq_true rfl)⟩ dX9_ordered_26 rfl rfl ?_
    refine z_if_ne 34 (pc := 29) C dX9_ordered_29 (by decide) (fun c5 => ?_) (fun c5 => ?_)
    · have hF := if_f hF c5
      refine z_aload_n 0 (pc := 34) C dX9_ordered_34 rfl rfl ?_
      refine z_iload_n 1 (pc := 35) C dX9_ordered_35 rfl rfl ?_
      refine z_iload_n 2 (pc := 36) C dX9_ordered_36 rfl rfl ?_
      obtain ⟨v6, S7, hG, hF⟩ := bn2_of hF
      refine z_callV [.int p1, .int p2] (pc := 37) (st1 := [.int v6]) (c1 := 0) (s1 := 0) C (mX9_turns C.hT hG) kX9_198 (kdM_lt (rfl : kdM 0 = 9) (by decide)) (gM_9 (rfl : kdM 0 = 9)) rfl rfl rfl rfl (Nat.le_of_ble_eq_true rfl) ⟨(Nat.le_of_ble_eq_true rfl), (Nat.le_of_ble_eq_true rfl)⟩ ⟨(Nat.le_of_ble_eq_true rfl), (Nat.le_of_ble_eq_true rfl)⟩ dX9_ordered_37 rfl rfl ?_
      refine z_iconst (pc := 40) (v := (-1 : Int32)) C dX9_ordered_40 (by decide) ?_
      refine z_icmp_eq 56 (pc := 41) C dX9_ordered_41 (by decide) (fun c8 => ?_) (fun c8 => ?_)
      · have hF := if_t hF c8
        refine z_iconst (pc := 56) (v := (-1 : Int32)) C dX9_ordered_56 (by decide) ?_
        exact z_iret (pc := 57) C hQ hr rfl dX9_ordered_57 (by cases hF; rfl) (by cases hF; rfl) (Nat.le_of_ble_eq_true rfl) (Nat.le_of_ble_eq_true rfl)
      · have hF := if_f hF c8
        refine z_iload_n 3 (pc := 44) C dX9_ordered_44 rfl rfl ?_
        refine z_aload_n 0 (pc := 45) C dX9_ordered_45 rfl rfl ?_
        refine gfX9_16 (pc := 46) C (rfl : kdM 0 = 9) dX9_ordered_46 ?_
        refine z_iload_n 1 (pc := 49) C dX9_ordered_49 rfl rfl ?_
        obtain ⟨g9, hF⟩ := gd_of hF
        refine iaM8 (pc := 50) C (rfl : kdM 3 = 28) g9 dX9_ordered_50 ?_
        refine z_iconst (pc := 51) (v := (1 : Int32)) C dX9_ordered_51 (by decide) ?_
        refine z_isub (pc := 52) C dX9_ordered_52 ?_
        refine z_icmp_lt 58 (pc := 53) C dX9_ordered_53 (by decide) (fun c10 => ?_) (fun c10 => ?_)
        · have hF := if_t hF c10
          refine z_iconst (pc := 58) (v := (0 : Int32)) C dX9_ordered_58 (by decide) ?_
          refine z_istore (pc := 59) (loc' := [(4, .int (0 : Int32)), (0, .ref (a 0)), (1, .int p1), (2, .int p2), (3, .int p3)]) C dX9_ordered_59 (by decide) rfl ?_
          refine z_bipush (pc := 61) (v := (6 : Int32)) C dX9_ordered_61 (by decide) ?_
          refine z_istore (pc := 63) (loc' := [(5, .int (6 : Int32)), (4, .int (0 : Int32)), (0, .ref (a 0)), (1, .int p1), (2, .int p2), (3, .int p3)]) C dX9_ordered_63 (by decide) rfl ?_
          refine z_iconst (pc := 65) (v := (0 : Int32)) C dX9_ordered_65 (by decide) ?_
          refine z_istore (pc := 66) (loc' := [(6, .int (0 : Int32)), (5, .int (6 : Int32)), (4, .int (0 : Int32)), (0, .ref (a 0)), (1, .int p1), (2, .int p2), (3, .int p3)]) C dX9_ordered_66 (by decide) rfl ?_
          refine z_sub [3, 4, 5, 6, 2, 1, 0] rfl ?_
          obtain ⟨v16', S17', hR, hF⟩ := bn2_of hF
          have hJ18 : ∀ (v16 : Int32) (S17 : St), (some (v16, S17) : Option (Int32 × St)) = some (v16', S17') → Zz E (WM E a S17) 0 0 205 [(5, .int v16)] [] := by
            intro v16 S17 hE
            have hE0 := Option.some.inj hE
            obtain ⟨hA0, hE1⟩ := Prod.mk.inj hE0
            subst hA0
            subst hE1
            refine z_iload 0 (pc := 205) C dX9_ordered_205 rfl ?_
            exact z_iret (pc := 207) C hQ hr rfl dX9_ordered_207 (by cases hF; rfl) (by cases hF; rfl) (Nat.le_of_ble_eq_true rfl) (Nat.le_of_ble_eq_true rfl)
          have hF := hR
          clear hR
          refine lq4_W (P := fun (v11 : Int32) (v12 : Int32) (v13 : Int32) (S14 : St) => Zz E (WM E a S14) 0 0 68 [(0, .ref (a 0)), (1, .int p1), (2, .int p2), (3, .int p3), (4, .int v11), (5, .int v12), (6, .int v13)] []) (fun next15 hN15 v11 v12 v13 S14 hF => ?_) _ _ _ _ _ hF
          unfold fX9_ordered_L68 at hF
          refine z_iload 6 (pc := 68) C dX9_ordered_68 rfl ?_
          refine z_iload_n 3 (pc := 70) C dX9_ordered_70 rfl rfl ?_
          refine z_icmp_gt 205 (pc := 71) C dX9_ordered_71 (by decide) (fun c19 => ?_) (fun c19 => ?_)
          · have hF := if_t hF c19
            refine z_sub [5] rfl ?_
            exact hJ18 _ _ hF
          · have hF := if_f hF c19
            refine z_iconst (pc := 74) (v := (-1 : Int32)) C dX9_ordered_74 (by decide) ?_
            refine z_istore (pc := 75) (loc' := [(7, .int (-1 : Int32)), (0, .ref (a 0)), (1, .int p1), (2, .int p2), (3, .int p3), (4, .int v11), (5, .int v12), (6, .int v13)]) C dX9_ordered_75 (by decide) rfl ?_
            refine z_aload_n 1 (pc := 77) C dX9_ordered_77 rfl rfl ?_
            refine gfX9_16 (pc := 78) C (rfl : kdM 0 = 9) dX9_ordered_78 ?_
            refine z_iload_n 2 (pc := 81) C dX9_ordered_81 rfl rfl ?_
            obtain ⟨g20, hF⟩ := gd_of hF
            refine iaM8 (pc := 82) C (rfl : kdM 3 = 28) g20 dX9_ordered_82 ?_
            refine z_iconst (pc := 83) (v := (2 : Int32)) C dX9_ordered_83 (by decide) ?_
            refine z_isub (pc := 84) C dX9_ordered_84 ?_
            obtain ⟨v21, e22, hF⟩ := bv_of hF
            refine z_topi e22 ?_
            refine z_istore (pc := 85) (loc' := [(8, .int v21), (7, .int (-1 : Int32)), (0, .ref (a 0)), (1, .int p1), (2, .int p2), (3, .int p3), (4, .int v11), (5, .int v12), (6, .int v13)]) C dX9_ordered_85 (by decide) rfl ?_
            refine z_sub [2, 3, 4, 5, 6, 7, 8, 1, 0] rfl ?_
            obtain ⟨v27', S28', hR, hF⟩ := bn2_of hF
            have hJ33 : ∀ (v27 : Int32) (S28 : St), (some (v27, S28) : Option (Int32 × St)) = some (v27', S28') → Zz E (WM E a S28) 0 0 186 [(0, .ref (a 0)), (1, .int p1), (2, .int p2), (3, .int p3), (4, .int v11), (6, .int v13), (7, .int v27)] [] := by
              intro v27 S28 hE
              have hE0 := Option.some.inj hE
              obtain ⟨hA0, hE1⟩ := Prod.mk.inj hE0
              subst hA0
              subst hE1
              refine z_iload 4 (pc := 186) C dX9_ordered_186 rfl ?_
              refine z_iconst (pc := 188) (v := (1 : Int32)) C dX9_ordered_188 (by decide) ?_
              refine z_iload 6 (pc := 189) C dX9_ordered_189 rfl ?_
              refine z_ishl (pc := 191) C dX9_ordered_191 ?_
              refine z_ior (pc := 192) C dX9_ordered_192 ?_
              obtain ⟨v29, e30, hF⟩ := bv_of hF
              refine z_topi e30 ?_
              refine z_istore (pc := 193) (loc' := [(4, .int v29), (0, .ref (a 0)), (1, .int p1), (2, .int p2), (3, .int p3), (6, .int v13), (7, .int v27)]) C dX9_ordered_193 (by decide) rfl ?_
              refine z_iload 6 (pc := 195) C dX9_ordered_195 rfl ?_
              refine z_istore (pc := 197) (loc' := [(5, .int v27), (4, .int v29), (0, .ref (a 0)), (1, .int p1), (2, .int p2), (3, .int p3), (6, .int v13), (7, .int v27)]) C dX9_ordered_197 (by decide) rfl ?_
              obtain ⟨v31, e32, hF⟩ := bv_of hF
              refine z_iinc 6 (pc := 199) (v := v31) (loc' := [(6, .int v31), (5, .int v27), (4, .int v29), (0, .ref (a 0)), (1, .int p1), (2, .int p2), (3, .int p3), (7, .int v27)]) C dX9_ordered_199 rfl (by rw [e32]; rfl) (by decide) rfl ?_
              refine z_goto 68 (pc := 202) C dX9_ordered_202 (by decide) ?_
              refine z_sub [3, 4, 5, 6, 2, 1, 0] rfl ?_
              exact hN15 _ _ _ _ hF
            have hF := hR
            clear hR
            refine lq3_W (P := fun (v23 : Int32) (v24 : Int32) (S25 : St) => Zz E (WM E a S25) 0 0 87 [(0, .ref (a 0)), (1, .int p1), (2, .int p2), (3, .int p3), (4, .int v11), (5, .int v12), (6, .int v13), (7, .int v23), (8, .int v24)] []) (fun next26 hN26 v23 v24 S25 hF => ?_) _ _ _ _ hF
            unfold fX9_ordered_L87 at hF
            refine z_iload 8 (pc := 87) C dX9_ordered_87 rfl ?_
            refine z_if_lt 186 (pc := 89) C dX9_ordered_89 (by decide) (fun c34 => ?_) (fun c34 => ?_)
            · have hF := if_t hF c34
              refine z_sub [0, 1, 2, 3, 4, 6, 7] rfl ?_
              exact hJ33 _ _ hF
            · have hF := if_f hF c34
              refine z_iload 4 (pc := 92) C dX9_ordered_92 rfl ?_
              refine z_iload 8 (pc := 94) C dX9_ordered_94 rfl ?_
              refine z_ishr (pc := 96) C dX9_ordered_96 ?_
              refine z_iconst (pc := 97) (v := (1 : Int32)) C dX9_ordered_97 (by decide) ?_
              refine z_iand (pc := 98) C dX9_ordered_98 ?_
              obtain ⟨v35', S36', hR, hF⟩ := bn2_of hF
              have hJ47 : ∀ (v35 : Int32) (S36 : St), (some (v35, S36) : Option (Int32 × St)) = some (v35', S36') → Zz E (WM E a S36) 0 0 120 [(0, .ref (a 0)), (1, .int p1), (2, .int p2), (3, .int p3), (4, .int v11), (5, .int v12), (6, .int v13), (7, .int v23), (8, .int v24)] [.int v35] := by
                intro v35 S36 hE
                have hE0 := Option.some.inj hE
                obtain ⟨hA0, hE1⟩ := Prod.mk.inj hE0
                subst hA0
                subst hE1
                refine z_istore (pc := 120) (loc' := [(9, .int v35), (0, .ref (a 0)), (1, .int p1), (2, .int p2), (3, .int p3), (4, .int v11), (5, .int v12), (6, .int v13), (7, .int v23), (8, .int v24)]) C dX9_ordered_120 (by decide) rfl ?_
                refine z_iload 0 (pc := 122) C dX9_ordered_122 rfl ?_
                obtain ⟨v37', hR, hF⟩ := bn1_of hF
                have hJ40 : ∀ (v37 : Int32), (some v37 : Option (Int32)) = some v37' → Zz E (WM E a S36) 0 0 178 [(0, .ref (a 0)), (1, .int p1), (2, .int p2), (3, .int p3), (4, .int v11), (5, .int v12), (6, .int v13), (8, .int v24)] [.int v37] := by
                  intro v37 hE
                  have hE0 := Option.some.inj hE
                  subst hE0
                  refine z_istore (pc := 178) (loc' := [(7, .int v37), (0, .ref (a 0)), (1, .int p1), (2, .int p2), (3, .int p3), (4, .int v11), (5, .int v12), (6, .int v13), (8, .int v24)]) C dX9_ordered_178 (by decide) rfl ?_
                  obtain ⟨v38, e39, hF⟩ := bv_of hF
                  refine z_iinc 8 (pc := 180) (v := v38) (loc' := [(8, .int v38), (7, .int v37), (0, .ref (a 0)), (1, .int p1), (2, .int p2), (3, .int p3), (4, .int v11), (5, .int v12), (6, .int v13)]) C dX9_ordered_180 rfl (by rw [e39]; rfl) (by decide) rfl ?_
                  refine z_goto 87 (pc := 183) C dX9_ordered_183 (by decide) ?_
                  refine z_sub [2, 3, 4, 5, 6, 7, 8, 1, 0] rfl ?_
                  exact hN26 _ _ _ hF
                have hF := hR
                clear hR
                obtain ⟨J41, hdJ41, hF⟩ := jn0_of hF
                have hJ41 : J41 = some v37' → Zz E (WM E a S36) 0 0 176 [(0, .ref (a 0)), (1, .int p1), (2, .int p2), (3, .int p3), (4, .int v11), (5, .int v12), (6, .int v13), (7, .int v23), (8, .int v24)] [] := by
                  intro hF
                  have hF := hdJ41.symm.trans hF
                  refine z_iload 7 (pc := 176) C dX9_ordered_176 rfl ?_
                  refine z_sub [0, 1, 2, 3, 4, 5, 6, 8] rfl ?_
                  exact hJ40 _ hF
                refine z_if_eq 176 (pc := 124) C dX9_ordered_124 (by decide) (fun c42 => ?_) (fun c42 => ?_)
                · have hF := if_t hF c42
                  refine z_sub [1, 2, 3, 4, 5, 6, 7, 8, 9] rfl ?_
                  exact hJ41 hF
                · have hF := if_f hF c42
                  refine z_aload_n 1 (pc := 127) C dX9_ordered_127 rfl rfl ?_
                  refine z_iload_n 2 (pc := 128) C dX9_ordered_128 rfl rfl ?_
                  refine z_iload 6 (pc := 129) C dX9_ordered_129 rfl ?_
                  refine z_iload 9 (pc := 131) C dX9_ordered_131 rfl ?_
                  obtain ⟨v43, hG, hF⟩ := bn1_of hF
                  refine z_callV [.int p1, .int v12, .int v24] (pc := 133) (st1 := [.int v43]) (c1 := 0) (s1 := 0) C (mX9_turn C.hT hG) kX9_191 (kdM_lt (rfl : kdM 0 = 9) (by decide)) (gM_9 (rfl : kdM 0 = 9)) rfl rfl rfl rfl (Nat.le_of_ble_eq_true rfl) ⟨(Nat.le_of_ble_eq_true rfl), (Nat.le_of_ble_eq_true rfl)⟩ ⟨(Nat.le_of_ble_eq_true rfl), (Nat.le_of_ble_eq_true rfl)⟩ dX9_ordered_133 rfl rfl ?_
                  refine z_aload_n 1 (pc := 136) C dX9_ordered_136 rfl rfl ?_
                  refine gfX9_85 (pc := 137) C (rfl : kdM 0 = 9) dX9_ordered_137 ?_
                  refine z_bipush (pc := 140) (v := (7 : Int32)) C dX9_ordered_140 (by decide) ?_
                  refine z_iload 5 (pc := 142) C dX9_ordered_142 rfl ?_
                  refine z_iconst (pc := 144) (v := (1 : Int32)) C dX9_ordered_144 (by decide) ?_
                  refine z_iload 9 (pc := 145) C dX9_ordered_145 rfl ?_
                  refine z_ishl (pc := 147) C dX9_ordered_147 ?_
                  refine z_ior (pc := 148) C dX9_ordered_148 ?_
                  refine z_imul (pc := 149) C dX9_ordered_149 ?_
                  refine z_iload 9 (pc := 150) C dX9_ordered_150 rfl ?_
                  refine z_iadd (pc := 152) C dX9_ordered_152 ?_
                  obtain ⟨g44, hF⟩ := gd_of hF
                  refine iaM224 (pc := 153) C (rfl : kdM 26 = 244) g44 dX9_ordered_153 ?_
                  refine z_iadd (pc := 154) C dX9_ordered_154 ?_
                  refine z_aload_n 1 (pc := 155) C dX9_ordered_155 rfl rfl ?_
                  refine gfX9_85 (pc := 156) C (rfl : kdM 0 = 9) dX9_ordered_156 ?_
                  refine z_bipush (pc := 159) (v := (7 : Int32)) C dX9_ordered_159 (by decide) ?_
                  refine z_iload 5 (pc := 161) C dX9_ordered_161 rfl ?_
                  refine z_imul (pc := 163) C dX9_ordered_163 ?_
                  refine z_iload 6 (pc := 164) C dX9_ordered_164 rfl ?_
                  refine z_iadd (pc := 166) C dX9_ordered_166 ?_
                  obtain ⟨g45, hF⟩ := gd_of hF
                  refine iaM224 (pc := 167) C (rfl : kdM 26 = 244) g45 dX9_ordered_167 ?_
                  refine z_icmp_ne 176 (pc := 168) C dX9_ordered_168 (by decide) (fun c46 => ?_) (fun c46 => ?_)
                  · have hF := if_f hF c46
                    refine z_sub [1, 2, 3, 4, 5, 6, 7, 8, 9] rfl ?_
                    exact hJ41 hF
                  · have hF := if_t hF c46
                    refine z_iload 9 (pc := 171) C dX9_ordered_171 rfl ?_
                    refine z_goto 178 (pc := 173) C dX9_ordered_173 (by decide) ?_
                    refine z_sub [1, 2, 3, 4, 5, 6, 7, 9] rfl ?_
                    exact hJ40 _ hF
              have hF := hR
              clear hR
              obtain ⟨J49, hdJ49, hF⟩ := jn1_of hF
              have hJ49 : ∀ (S48 : St), J49 S48 = some (v35', S36') → Zz E (WM E a S48) 0 0 119 [(0, .ref (a 0)), (1, .int p1), (2, .int p2), (3, .int p3), (4, .int v11), (5, .int v12), (6, .int v13), (7, .int v23), (8, .int v24)] [] := by
                intro S48 hF
                have hF := (hdJ49 _).symm.trans hF
                refine z_iconst (pc := 119) (v := (0 : Int32)) C dX9_ordered_119 (by decide) ?_
                exact hJ47 _ _ hF
              refine z_if_ne 119 (pc := 99) C dX9_ordered_99 (by decide) (fun c50 => ?_) (fun c50 => ?_)
              · have hF := if_f hF c50
                exact hJ49 _ hF
              · have hF := if_t hF c50
                refine z_aload_n 0 (pc := 102) C dX9_ordered_102 rfl rfl ?_
                refine z_iload_n 1 (pc := 103) C dX9_ordered_103 rfl rfl ?_
                refine z_iload_n 2 (pc := 104) C dX9_ordered_104 rfl rfl ?_
                refine z_iload 4 (pc := 105) C dX9_ordered_105 rfl ?_
                refine z_iload 8 (pc := 107) C dX9_ordered_107 rfl ?_
                obtain ⟨v51, S52, hG, hF⟩ := bn2_of hF
                refine z_callV [.int p1, .int p2, .int v11, .int v24] (pc := 109) (st1 := [.int v51]) (c1 := 0) (s1 := 0) C (mX9_reason C.hT hG) kX9_187 (kdM_lt (rfl : kdM 0 = 9) (by decide)) (gM_9 (rfl : kdM 0 = 9)) rfl rfl rfl rfl (Nat.le_of_ble_eq_true rfl) ⟨(Nat.le_of_ble_eq_true rfl), (Nat.le_of_ble_eq_true rfl)⟩ ⟨(Nat.le_of_ble_eq_true rfl), (Nat.le_of_ble_eq_true rfl)⟩ dX9_ordered_109 rfl rfl ?_
                refine z_if_ne 119 (pc := 112) C dX9_ordered_112 (by decide) (fun c53 => ?_) (fun c53 => ?_)
                · have hF := if_f hF c53
                  exact hJ49 _ hF
                · have hF := if_t hF c53
                  refine z_iconst (pc := 115) (v := (1 : Int32)) C dX9_ordered_115 (by decide) ?_
                  refine z_goto 120 (pc := 116) C dX9_ordered_116 (by decide) ?_
                  exact hJ47 _ _ hF
        · have hF := if_f hF c10
          refine z_iconst (pc := 56) (v := (-1 : Int32)) C dX9_ordered_56 (by decide) ?_
          exact z_iret (pc := 57) C hQ hr rfl dX9_ordered_57 (by cases hF; rfl) (by cases hF; rfl) (Nat.le_of_ble_eq_true rfl) (Nat.le_of_ble_eq_true rfl)
    · have hF := if_t hF c5
      refine z_iconst (pc := 32) (v := (0 : Int32)) C dX9_ordered_32 (by decide) ?_
      exact z_iret (pc := 33) C hQ hr rfl dX9_ordered_33 (by cases hF; rfl) (by cases hF; rfl) (Nat.le_of_ble_eq_true rfl) (Nat.le_of_ble_eq_true rfl)
  have hF := hR
  clear hR
  obtain ⟨J55, hdJ55, hF⟩ := jn0_of hF
  have hJ55 : J55 = some v2' → Zz E (WM E a S) 0 0 25 [(0, .ref (a 0)), (1, .int p1), (2, .int p2), (3, .int p3)] [.ref (a 0)] := by
    intro hF
    have hF := hdJ55.symm.trans hF
    refine z_iconst (pc := 25) (v := (1 : Int32)) C dX9_ordered_25 (by decide) ?_
    exact hJ54 _ hF
  refine z_if_eq 25 (pc := 6) C dX9_ordered_6 (by decide) (fun c56 => ?_) (fun c56 => ?_)
  · have hF := if_t hF c56
    exact hJ55 hF
  · have hF := if_f hF c56
    refine z_aload_n 0 (pc := 9) C dX9_ordered_9 rfl rfl ?_
    refine z_iload_n 2 (pc := 10) C dX9_ordered_10 rfl rfl ?_
    obtain ⟨v57, hG, hF⟩ := bn1_of hF
    refine z_callV [.int p2] (pc := 11) (st1 := [.int v57, .ref (a 0)]) (c1 := 0) (s1 := 0) C (mX9_isTool C.hT hG) kX9_151 (kdM_lt (rfl : kdM 0 = 9) (by decide)) (gM_9 (rfl : kdM 0 = 9)) rfl rfl rfl rfl (Nat.le_of_ble_eq_true rfl) ⟨(Nat.le_of_ble_eq_true rfl), (Nat.le_of_ble_eq_true rfl)⟩ ⟨(Nat.le_of_ble_eq_true rfl), (Nat.le_of_ble_eq_true rfl)⟩ dX9_ordered_11 rfl rfl ?_
    refine z_if_eq 25 (pc := 14) C dX9_ordered_14 (by decide) (fun c58 => ?_) (fun c58 => ?_)
    · have hF := if_t hF c58
      exact hJ55 hF
    · have hF := if_f hF c58
      refine z_iload_n 3 (pc := 17) C dX9_ordered_17 rfl rfl ?_
      refine z_if_lt 25 (pc := 18) C dX9_ordered_18 (by decide) (fun c59 => ?_) (fun c59 => ?_)
      · have hF := if_t hF c59
        exact hJ55 hF
      · have hF := if_f hF c59
        refine z_iconst (pc := 21) (v := (0 : Int32)) C dX9_ordered_21 (by decide) ?_
        refine z_goto 26 (pc := 22) C dX9_ordered_22 (by decide) ?_
        exact hJ54 _ hF
def fX9_work (S : St) (p1 : Int32) : Option ((Int32 × St)) :=
  bn1 (fX9_isBatch S p1) (fun (v1 : Int32) =>
  bn2 (jn1 (fun (S17 : St) =>
    some ((0 : Int32), S17)) (fun J18 =>
    if v1 = 0 then (
      J18 S)
    else (
      gd (inb p1 20) (
      jn1 (fun (S21 : St) =>
        some ((1 : Int32), S21)) (fun J22 =>
        if (gi S 23 p1.toNatClampNeg) = (1 : Int32) then (
          J22 S)
        else (
          gd (inb p1 20) (
          if (gi S 23 p1.toNatClampNeg) = 0 then (
            gd (inb p1 20) (
            gd (inb p1 20) (
            bn2 (fX9_turns S (gi S 20 p1.toNatClampNeg) (gi S 21 p1.toNatClampNeg)) (fun (v28 : Int32) (S29 : St) =>
            if v28 = (-1 : Int32) then (
              J18 S29)
            else (
              J22 S29)))))
          else (
            J18 S)))))))) (fun (v2 : Int32) (S3 : St) =>
    bn1 (if v1 = 0 then (
      some (1 : Int32))
    else (
      if v2 = 0 then (
        some (2 : Int32))
      else (
        some (0 : Int32)))) (fun (v4 : Int32) =>
      bn2 (fX9_goesWell S3 v4) (fun (v5 : Int32) (S6 : St) =>
      if v5 = 0 then (
        some ((0 : Int32), S6))
      else (
        gd (inb p1 20) (
        gd (inb p1 20) (
        bv (si S6 23 p1.toNatClampNeg ((gi S6 23 p1.toNatClampNeg) + (1 : Int32))) (fun (S10 : St) =>
        gd (inb p1 20) (
        some ((gi S10 23 p1.toNatClampNeg), S10))))))))))
abbrev rmX9_work : Room := { frames := 10, cells := 0, slots := 0, locals := 250 }
set_option maxRecDepth 100000 in
set_option maxHeartbeats 4000000 in
theorem mX9_work {l : Launch} {D : va_G} {cs : Nat → ClassId} {a : Nat → Nat} (hT : l.stackTraces = false) {S : St} {p1 : Int32} {r : Int32} {S' : St} (hF : fX9_work S p1 = some (r, S')) : MX l 33 GM D cs a yX9_work cX9_work 4 (some .int) rmX9_work [.ref (a 0), .int p1] S (.inr (some (.int r))) S' := by
  refine zm_entry [(0, .ref (a 0)), (1, .int p1)] hT (by decide +kernel) (Nat.le_of_ble_eq_true rfl) rfl (fun E hEl hED hEk C hQ hr => ?_)
  subst hEl
  subst hED
  subst hEk
  unfold fX9_work at hF
  refine z_aload_n 0 (pc := 0) C dX9_work_0 rfl rfl ?_
  refine z_iload_n 1 (pc := 1) C dX9_work_1 rfl rfl ?_
  obtain ⟨v1, hG, hF⟩ := bn1_of hF
  refine z_callV [.int p1] (pc := 2) (st1 := [.int v1]) (c1 := 0) (s1 := 0) C (mX9_isBatch C.hT hG) kX9_228 (kdM_lt (rfl : kdM 0 = 9) (by decide)) (gM_9 (rfl : kdM 0 = 9)) rfl rfl rfl rfl (Nat.le_of_ble_eq_true rfl) ⟨(Nat.le_of_ble_eq_true rfl), (Nat.le_of_ble_eq_true rfl)⟩ ⟨(Nat.le_of_ble_eq_true rfl), (Nat.le_of_ble_eq_true rfl)⟩ dX9_work_2 rfl rfl ?_
  refine z_istore_n (pc := 5) (loc' := [(2, .int v1), (0, .ref (a 0)), (1, .int p1)]) C dX9_work_5 rfl (by decide) rfl ?_
  refine z_iload_n 0 (pc := 6) C dX9_work_6 rfl rfl ?_
  obtain ⟨v2', S3', hR, hF⟩ := bn2_of hF
  have hJ16 : ∀ (v2 : Int32) (S3 : St), (some (v2, S3) : Option (Int32 × St)) = some (v2', S3') → Zz E (WM E a S3) 0 0 54 [(0, .ref (a 0)), (1, .int p1), (2, .int v1)] [.int v2] := by
    intro v2 S3 hE
    have hE0 := Option.some.inj hE
    obtain ⟨hA0, hE1⟩ := Prod.mk.inj hE0
    subst hA0
    subst hE1
    refine z_istore_n (pc := 54) (loc' := [(3, .int v2), (0, .ref (a 0)), (1, .int p1), (2, .int v1)]) C dX9_work_54 rfl (by decide) rfl ?_
    refine z_aload_n 1 (pc := 55) C dX9_work_55 rfl rfl ?_
    refine z_iload_n 3 (pc := 56) C dX9_work_56 rfl rfl ?_
    obtain ⟨v4', hR, hF⟩ := bn1_of hF
    have hJ13 : ∀ (v4 : Int32), (some v4 : Option (Int32)) = some v4' → Zz E (WM E a S3) 0 0 73 [(0, .ref (a 0)), (1, .int p1)] [.int v4, .ref (a 0)] := by
      intro v4 hE
      have hE0 := Option.some.inj hE
      subst hE0
      obtain ⟨v5, S6, hG, hF⟩ := bn2_of hF
      refine z_callV [.int v4] (pc := 73) (st1 := [.int v5]) (c1 := 0) (s1 := 0) C (mX9_goesWell C.hT hG) kX9_126 (kdM_lt (rfl : kdM 0 = 9) (by decide)) (gM_9 (rfl : kdM 0 = 9)) rfl rfl rfl rfl (Nat.le_of_ble_eq_true rfl) ⟨(Nat.le_of_ble_eq_true rfl), (Nat.le_of_ble_eq_true rfl)⟩ ⟨(Nat.le_of_ble_eq_true rfl), (Nat.le_of_ble_eq_true rfl)⟩ dX9_work_73 rfl rfl ?_
      refine z_if_ne 81 (pc := 76) C dX9_work_76 (by decide) (fun c7 => ?_) (fun c7 => ?_)
      · have hF := if_f hF c7
        refine z_aload_n 0 (pc := 81) C dX9_work_81 rfl rfl ?_
        refine gfX9_76 (pc := 82) C (rfl : kdM 0 = 9) dX9_work_82 ?_
        refine z_iload_n 1 (pc := 85) C dX9_work_85 rfl rfl ?_
        refine z_dup2 (pc := 86) C dX9_work_86 rfl rfl ?_
        obtain ⟨g8, hF⟩ := gd_of hF
        refine iaM20 (pc := 87) C (rfl : kdM 23 = 40) g8 dX9_work_87 ?_
        refine z_iconst (pc := 88) (v := (1 : Int32)) C dX9_work_88 (by decide) ?_
        refine z_iadd (pc := 89) C dX9_work_89 ?_
        obtain ⟨g9, hF⟩ := gd_of hF
        refine saM20 (pc := 90) C (rfl : kdM 23 = 40) g9 dX9_work_90 ?_
        obtain ⟨S10, e11, hF⟩ := bv_of hF
        rw [← e11]
        refine z_aload_n 0 (pc := 91) C dX9_work_91 rfl rfl ?_
        refine gfX9_76 (pc := 92) C (rfl : kdM 0 = 9) dX9_work_92 ?_
        refine z_iload_n 1 (pc := 95) C dX9_work_95 rfl rfl ?_
        obtain ⟨g12, hF⟩ := gd_of hF
        refine iaM20 (pc := 96) C (rfl : kdM 23 = 40) g12 dX9_work_96 ?_
        exact z_iret (pc := 97) C hQ hr rfl dX9_work_97 (by cases hF; rfl) (by cases hF; rfl) (Nat.le_of_ble_eq_true rfl) (Nat.le_of_ble_eq_true rfl)
      · have hF := if_t hF c7
        refine z_iconst (pc := 79) (v := (0 : Int32)) C dX9_work_79 (by decide) ?_
        exact z_iret (pc := 80) C hQ hr rfl dX9_work_80 (by cases hF; rfl) (by cases hF; rfl) (Nat.le_of_ble_eq_true rfl) (Nat.le_of_ble_eq_true rfl)
    have hF := hR
    clear hR
    refine z_if_ne 64 (pc := 57) C dX9_work_57 (by decide) (fun c14 => ?_) (fun c14 => ?_)
    · have hF := if_f hF c14
      refine z_iload_n 0 (pc := 64) C dX9_work_64 rfl rfl ?_
      refine z_if_eq 72 (pc := 65) C dX9_work_65 (by decide) (fun c15 => ?_) (fun c15 => ?_)
      · have hF := if_t hF c15
        refine z_iconst (pc := 72) (v := (2 : Int32)) C dX9_work_72 (by decide) ?_
        refine z_sub [1, 2] rfl ?_
        exact hJ13 _ hF
      · have hF := if_f hF c15
        refine z_iconst (pc := 68) (v := (0 : Int32)) C dX9_work_68 (by decide) ?_
        refine z_goto 73 (pc := 69) C dX9_work_69 (by decide) ?_
        refine z_sub [1, 2] rfl ?_
        exact hJ13 _ hF
    · have hF := if_t hF c14
      refine z_iconst (pc := 60) (v := (1 : Int32)) C dX9_work_60 (by decide) ?_
      refine z_goto 73 (pc := 61) C dX9_work_61 (by decide) ?_
      refine z_sub [1, 2] rfl ?_
      exact hJ13 _ hF
  have hF := hR
  clear hR
  obtain ⟨J18, hdJ18, hF⟩ := jn1_of hF
  have hJ18 : ∀ (S17 : St), J18 S17 = some (v2', S3') → Zz E (WM E a S17) 0 0 53 [(0, .ref (a 0)), (1, .int p1), (2, .int v1)] [] := by
    intro S17 hF
    have hF := (hdJ18 _).symm.trans hF
    refine z_iconst (pc := 53) (v := (0 : Int32)) C dX9_work_53 (by decide) ?_
    exact hJ16 _ _ hF
  refine z_if_eq 53 (pc := 7) C dX9_work_7 (by decide) (fun c19 => ?_) (fun c19 => ?_)
  · have hF := if_t hF c19
    refine z_sub [1, 2, 0] rfl ?_
    exact hJ18 _ hF
  · have hF := if_f hF c19
    refine z_aload_n 1 (pc := 10) C dX9_work_10 rfl rfl ?_
    refine gfX9_76 (pc := 11) C (rfl : kdM 0 = 9) dX9_work_11 ?_
    refine z_iload_n 2 (pc := 14) C dX9_work_14 rfl rfl ?_
    obtain ⟨g20, hF⟩ := gd_of hF
    refine iaM20 (pc := 15) C (rfl : kdM 23 = 40) g20 dX9_work_15 ?_
    refine z_iconst (pc := 16) (v := (1 : Int32)) C dX9_work_16 (by decide) ?_
    obtain ⟨J22, hdJ22, hF⟩ := jn1_of hF
    have hJ22 : ∀ (S21 : St), J22 S21 = some (v2', S3') → Zz E (WM E a S21) 0 0 49 [(0, .ref (a 0)), (1, .int p1), (2, .int v1)] [] := by
      intro S21 hF
      have hF := (hdJ22 _).symm.trans hF
      refine z_iconst (pc := 49) (v := (1 : Int32)) C dX9_work_49 (by decide) ?_
      refine z_goto 54 (pc := 50) C dX9_work_50 (by decide) ?_
      exact hJ16 _ _ hF
    refine z_icmp_eq 49 (pc := 17) C dX9_work_17 (by decide) (fun c23 => ?_) (fun c23 => ?_)
    · have hF := if_t hF c23
      refine z_sub [1, 2, 0] rfl ?_
      exact hJ22 _ hF
    · have hF := if_f hF c23
      refine z_aload_n 1 (pc := 20) C dX9_work_20 rfl rfl ?_
      refine gfX9_76 (pc := 21) C (rfl : kdM 0 = 9) dX9_work_21 ?_
      refine z_iload_n 2 (pc := 24) C dX9_work_24 rfl rfl ?_
      obtain ⟨g24, hF⟩ := gd_of hF
      refine iaM20 (pc := 25) C (rfl : kdM 23 = 40) g24 dX9_work_25 ?_
      refine z_if_ne 53 (pc := 26) C dX9_work_26 (by decide) (fun c25 => ?_) (fun c25 => ?_)
      · have hF := if_f hF c25
        refine z_sub [1, 2, 0] rfl ?_
        exact hJ18 _ hF
      · have hF := if_t hF c25
        refine z_aload_n 1 (pc := 29) C dX9_work_29 rfl rfl ?_
        refine z_aload_n 1 (pc := 30) C dX9_work_30 rfl rfl ?_
        refine gfX9_67 (pc := 31) C (rfl : kdM 0 = 9) dX9_work_31 ?_
        refine z_iload_n 2 (pc := 34) C dX9_work_34 rfl rfl ?_
        obtain ⟨g26, hF⟩ := gd_of hF
        refine iaM20 (pc := 35) C (rfl : kdM 20 = 40) g26 dX9_work_35 ?_
        refine z_aload_n 1 (pc := 36) C dX9_work_36 rfl rfl ?_
        refine gfX9_70 (pc := 37) C (rfl : kdM 0 = 9) dX9_work_37 ?_
        refine z_iload_n 2 (pc := 40) C dX9_work_40 rfl rfl ?_
        obtain ⟨g27, hF⟩ := gd_of hF
        refine iaM20 (pc := 41) C (rfl : kdM 21 = 40) g27 dX9_work_41 ?_
        obtain ⟨v28, S29, hG, hF⟩ := bn2_of hF
        refine z_callV [.int (gi S 20 p1.toNatClampNeg), .int (gi S 21 p1.toNatClampNeg)] (pc := 42) (st1 := [.int v28]) (c1 := 0) (s1 := 0) C (mX9_turns C.hT hG) kX9_198 (kdM_lt (rfl : kdM 0 = 9) (by decide)) (gM_9 (rfl : kdM 0 = 9)) rfl rfl rfl rfl (Nat.le_of_ble_eq_true rfl) ⟨(Nat.le_of_ble_eq_true rfl), (Nat.le_of_ble_eq_true rfl)⟩ ⟨(Nat.le_of_ble_eq_true rfl), (Nat.le_of_ble_eq_true rfl)⟩ dX9_work_42 rfl rfl ?_
        refine z_iconst (pc := 45) (v := (-1 : Int32)) C dX9_work_45 (by decide) ?_
        refine z_icmp_eq 53 (pc := 46) C dX9_work_46 (by decide) (fun c30 => ?_) (fun c30 => ?_)
        · have hF := if_t hF c30
          refine z_sub [1, 2, 0] rfl ?_
          exact hJ18 _ hF
        · have hF := if_f hF c30
          refine z_sub [1, 2, 0] rfl ?_
          exact hJ22 _ hF
