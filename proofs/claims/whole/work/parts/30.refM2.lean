def fX9_isBatch (S : St) (p1 : Int32) : Option (Int32) :=
  bn1 (fX9_in p1 (0 : Int32) ((gi S 0 23) - (1 : Int32))) (fun (v1 : Int32) =>
  gd (isb v1) (some (v1)))
abbrev rmX9_isBatch : Room := { frames := 7, cells := 0, slots := 0, locals := 130 }
set_option maxRecDepth 100000 in
set_option maxHeartbeats 4000000 in
theorem mX9_isBatch {l : Launch} {D : va_G} {cs : Nat → ClassId} {a : Nat → Nat} (hT : l.stackTraces = false) {S : St} {p1 : Int32} {r : Int32} (hF : fX9_isBatch S p1 = some r) : MX l 33 GM D cs a yX9_isBatch cX9_isBatch 2 (some .boolean) rmX9_isBatch [.ref (a 0), .int p1] S (.inr (some (.int r))) S := by
  refine zm_entry [(0, .ref (a 0)), (1, .int p1)] hT (by decide +kernel) (Nat.le_of_ble_eq_true rfl) rfl (fun E hEl hED hEk C hQ hr => ?_)
  subst hEl
  subst hED
  subst hEk
  unfold fX9_isBatch at hF
  refine z_iload_n 1 (pc := 0) C dX9_isBatch_0 rfl rfl ?_
  refine z_iconst (pc := 1) (v := (0 : Int32)) C dX9_isBatch_1 (by decide) ?_
  refine z_aload_n 0 (pc := 2) C dX9_isBatch_2 rfl rfl ?_
  refine gfX9_120 (pc := 3) C (rfl : kdM 0 = 9) dX9_isBatch_3 ?_
  refine z_iconst (pc := 6) (v := (1 : Int32)) C dX9_isBatch_6 (by decide) ?_
  refine z_isub (pc := 7) C dX9_isBatch_7 ?_
  obtain ⟨v1, hG, hF⟩ := bn1_of hF
  refine z_callS [.int p1, .int (0 : Int32), .int ((gi S 0 23) - (1 : Int32))] (pc := 8) (st1 := [.int v1]) (c1 := 0) (s1 := 0) C (mX9_in C.hT hG) kX9_113 rfl rfl rfl rfl (Nat.le_of_ble_eq_true rfl) ⟨(Nat.le_of_ble_eq_true rfl), (Nat.le_of_ble_eq_true rfl)⟩ ⟨(Nat.le_of_ble_eq_true rfl), (Nat.le_of_ble_eq_true rfl)⟩ dX9_isBatch_8 rfl rfl ?_
  obtain ⟨hB, hF⟩ := gd_of hF
  exact z_iret (pc := 11) C hQ hr (isb_n hB) dX9_isBatch_11 (by cases hF; rfl) (by cases hF; rfl) (Nat.le_of_ble_eq_true rfl) (Nat.le_of_ble_eq_true rfl)
def fX9_isPart (S : St) (p1 : Int32) : Option (Int32) :=
  bn1 (fX9_in p1 (0 : Int32) ((gi S 0 4) - (1 : Int32))) (fun (v1 : Int32) =>
  gd (isb v1) (some (v1)))
abbrev rmX9_isPart : Room := { frames := 7, cells := 0, slots := 0, locals := 130 }
set_option maxRecDepth 100000 in
set_option maxHeartbeats 4000000 in
theorem mX9_isPart {l : Launch} {D : va_G} {cs : Nat → ClassId} {a : Nat → Nat} (hT : l.stackTraces = false) {S : St} {p1 : Int32} {r : Int32} (hF : fX9_isPart S p1 = some r) : MX l 33 GM D cs a yX9_isPart cX9_isPart 2 (some .boolean) rmX9_isPart [.ref (a 0), .int p1] S (.inr (some (.int r))) S := by
  refine zm_entry [(0, .ref (a 0)), (1, .int p1)] hT (by decide +kernel) (Nat.le_of_ble_eq_true rfl) rfl (fun E hEl hED hEk C hQ hr => ?_)
  subst hEl
  subst hED
  subst hEk
  unfold fX9_isPart at hF
  refine z_iload_n 1 (pc := 0) C dX9_isPart_0 rfl rfl ?_
  refine z_iconst (pc := 1) (v := (0 : Int32)) C dX9_isPart_1 (by decide) ?_
  refine z_aload_n 0 (pc := 2) C dX9_isPart_2 rfl rfl ?_
  refine gfX9_110 (pc := 3) C (rfl : kdM 0 = 9) dX9_isPart_3 ?_
  refine z_iconst (pc := 6) (v := (1 : Int32)) C dX9_isPart_6 (by decide) ?_
  refine z_isub (pc := 7) C dX9_isPart_7 ?_
  obtain ⟨v1, hG, hF⟩ := bn1_of hF
  refine z_callS [.int p1, .int (0 : Int32), .int ((gi S 0 4) - (1 : Int32))] (pc := 8) (st1 := [.int v1]) (c1 := 0) (s1 := 0) C (mX9_in C.hT hG) kX9_113 rfl rfl rfl rfl (Nat.le_of_ble_eq_true rfl) ⟨(Nat.le_of_ble_eq_true rfl), (Nat.le_of_ble_eq_true rfl)⟩ ⟨(Nat.le_of_ble_eq_true rfl), (Nat.le_of_ble_eq_true rfl)⟩ dX9_isPart_8 rfl rfl ?_
  obtain ⟨hB, hF⟩ := gd_of hF
  exact z_iret (pc := 11) C hQ hr (isb_n hB) dX9_isPart_11 (by cases hF; rfl) (by cases hF; rfl) (Nat.le_of_ble_eq_true rfl) (Nat.le_of_ble_eq_true rfl)
def fX9_isSheet (p1 : Int32) (p2 : Int32) : Option (Int32) :=
  bn1 (fX9_in p1 (10 : Int32) (300 : Int32)) (fun (v1 : Int32) =>
  if v1 = 0 then (
    some ((0 : Int32)))
  else (
    bn1 (fX9_in p2 (1 : Int32) (4 : Int32)) (fun (v3 : Int32) =>
    if v3 = 0 then (
      some ((0 : Int32)))
    else (
      some ((1 : Int32))))))
abbrev rmX9_isSheet : Room := { frames := 7, cells := 0, slots := 0, locals := 130 }
set_option maxRecDepth 100000 in
set_option maxHeartbeats 4000000 in
theorem mX9_isSheet {l : Launch} {D : va_G} {cs : Nat → ClassId} {a : Nat → Nat} (hT : l.stackTraces = false) {S : St} {p1 : Int32} {p2 : Int32} {r : Int32} (hF : fX9_isSheet p1 p2 = some r) : MX l 33 GM D cs a yX9_isSheet cX9_isSheet 2 (some .boolean) rmX9_isSheet [.int p1, .int p2] S (.inr (some (.int r))) S := by
  refine zm_entry [(0, .int p1), (1, .int p2)] hT (by decide +kernel) (Nat.le_of_ble_eq_true rfl) rfl (fun E hEl hED hEk C hQ hr => ?_)
  subst hEl
  subst hED
  subst hEk
  unfold fX9_isSheet at hF
  refine z_iload_n 0 (pc := 0) C dX9_isSheet_0 rfl rfl ?_
  refine z_bipush (pc := 1) (v := (10 : Int32)) C dX9_isSheet_1 (by decide) ?_
  refine z_sipush (pc := 3) (v := (300 : Int32)) C dX9_isSheet_3 (by decide) ?_
  obtain ⟨v1, hG, hF⟩ := bn1_of hF
  refine z_callS [.int p1, .int (10 : Int32), .int (300 : Int32)] (pc := 6) (st1 := [.int v1]) (c1 := 0) (s1 := 0) C (mX9_in C.hT hG) kX9_113 rfl rfl rfl rfl (Nat.le_of_ble_eq_true rfl) ⟨(Nat.le_of_ble_eq_true rfl), (Nat.le_of_ble_eq_true rfl)⟩ ⟨(Nat.le_of_ble_eq_true rfl), (Nat.le_of_ble_eq_true rfl)⟩ dX9_isSheet_6 rfl rfl ?_
  refine z_if_eq 25 (pc := 9) C dX9_isSheet_9 (by decide) (fun c2 => ?_) (fun c2 => ?_)
  · have hF := if_t hF c2
    refine z_iconst (pc := 25) (v := (0 : Int32)) C dX9_isSheet_25 (by decide) ?_
    exact z_iret (pc := 26) C hQ hr rfl dX9_isSheet_26 (by cases hF; rfl) (by cases hF; rfl) (Nat.le_of_ble_eq_true rfl) (Nat.le_of_ble_eq_true rfl)
  · have hF := if_f hF c2
    refine z_iload_n 1 (pc := 12) C dX9_isSheet_12 rfl rfl ?_
    refine z_iconst (pc := 13) (v := (1 : Int32)) C dX9_isSheet_13 (by decide) ?_
    refine z_iconst (pc := 14) (v := (4 : Int32)) C dX9_isSheet_14 (by decide) ?_
    obtain ⟨v3, hG, hF⟩ := bn1_of hF
    refine z_callS [.int p2, .int (1 : Int32), .int (4 : Int32)] (pc := 15) (st1 := [.int v3]) (c1 := 0) (s1 := 0) C (mX9_in C.hT hG) kX9_113 rfl rfl rfl rfl (Nat.le_of_ble_eq_true rfl) ⟨(Nat.le_of_ble_eq_true rfl), (Nat.le_of_ble_eq_true rfl)⟩ ⟨(Nat.le_of_ble_eq_true rfl), (Nat.le_of_ble_eq_true rfl)⟩ dX9_isSheet_15 rfl rfl ?_
    refine z_if_eq 25 (pc := 18) C dX9_isSheet_18 (by decide) (fun c4 => ?_) (fun c4 => ?_)
    · have hF := if_t hF c4
      refine z_iconst (pc := 25) (v := (0 : Int32)) C dX9_isSheet_25 (by decide) ?_
      exact z_iret (pc := 26) C hQ hr rfl dX9_isSheet_26 (by cases hF; rfl) (by cases hF; rfl) (Nat.le_of_ble_eq_true rfl) (Nat.le_of_ble_eq_true rfl)
    · have hF := if_f hF c4
      refine z_iconst (pc := 21) (v := (1 : Int32)) C dX9_isSheet_21 (by decide) ?_
      refine z_goto 26 (pc := 22) C dX9_isSheet_22 (by decide) ?_
      exact z_iret (pc := 26) C hQ hr rfl dX9_isSheet_26 (by cases hF; rfl) (by cases hF; rfl) (Nat.le_of_ble_eq_true rfl) (Nat.le_of_ble_eq_true rfl)
def fX9_isTool (S : St) (p1 : Int32) : Option (Int32) :=
  bn1 (fX9_in p1 (0 : Int32) ((gi S 0 15) - (1 : Int32))) (fun (v1 : Int32) =>
  gd (isb v1) (some (v1)))
abbrev rmX9_isTool : Room := { frames := 7, cells := 0, slots := 0, locals := 130 }
set_option maxRecDepth 100000 in
set_option maxHeartbeats 4000000 in
theorem mX9_isTool {l : Launch} {D : va_G} {cs : Nat → ClassId} {a : Nat → Nat} (hT : l.stackTraces = false) {S : St} {p1 : Int32} {r : Int32} (hF : fX9_isTool S p1 = some r) : MX l 33 GM D cs a yX9_isTool cX9_isTool 2 (some .boolean) rmX9_isTool [.ref (a 0), .int p1] S (.inr (some (.int r))) S := by
  refine zm_entry [(0, .ref (a 0)), (1, .int p1)] hT (by decide +kernel) (Nat.le_of_ble_eq_true rfl) rfl (fun E hEl hED hEk C hQ hr => ?_)
  subst hEl
  subst hED
  subst hEk
  unfold fX9_isTool at hF
  refine z_iload_n 1 (pc := 0) C dX9_isTool_0 rfl rfl ?_
  refine z_iconst (pc := 1) (v := (0 : Int32)) C dX9_isTool_1 (by decide) ?_
  refine z_aload_n 0 (pc := 2) C dX9_isTool_2 rfl rfl ?_
  refine gfX9_117 (pc := 3) C (rfl : kdM 0 = 9) dX9_isTool_3 ?_
  refine z_iconst (pc := 6) (v := (1 : Int32)) C dX9_isTool_6 (by decide) ?_
  refine z_isub (pc := 7) C dX9_isTool_7 ?_
  obtain ⟨v1, hG, hF⟩ := bn1_of hF
  refine z_callS [.int p1, .int (0 : Int32), .int ((gi S 0 15) - (1 : Int32))] (pc := 8) (st1 := [.int v1]) (c1 := 0) (s1 := 0) C (mX9_in C.hT hG) kX9_113 rfl rfl rfl rfl (Nat.le_of_ble_eq_true rfl) ⟨(Nat.le_of_ble_eq_true rfl), (Nat.le_of_ble_eq_true rfl)⟩ ⟨(Nat.le_of_ble_eq_true rfl), (Nat.le_of_ble_eq_true rfl)⟩ dX9_isTool_8 rfl rfl ?_
  obtain ⟨hB, hF⟩ := gd_of hF
  exact z_iret (pc := 11) C hQ hr (isb_n hB) dX9_isTool_11 (by cases hF; rfl) (by cases hF; rfl) (Nat.le_of_ble_eq_true rfl) (Nat.le_of_ble_eq_true rfl)
def fX9_kits (S : St) (p1 : Int32) : Option ((Int32 × St)) :=
  bn1 (fX9_isKit S p1) (fun (v1 : Int32) =>
  bn1 (if v1 = 0 then (
    some (1 : Int32))
  else (
    some (0 : Int32))) (fun (v2 : Int32) =>
    bn2 (fX9_goesWell S v2) (fun (v3 : Int32) (S4 : St) =>
    if v3 = 0 then (
      some ((0 : Int32), S4))
    else (
      bn1 (fX9_kitsOf S4 p1) (fun (v6 : Int32) =>
      some (v6, S4))))))
abbrev rmX9_kits : Room := { frames := 7, cells := 0, slots := 0, locals := 130 }
set_option maxRecDepth 100000 in
set_option maxHeartbeats 4000000 in
theorem mX9_kits {l : Launch} {D : va_G} {cs : Nat → ClassId} {a : Nat → Nat} (hT : l.stackTraces = false) {S : St} {p1 : Int32} {r : Int32} {S' : St} (hF : fX9_kits S p1 = some (r, S')) : MX l 33 GM D cs a yX9_kits cX9_kits 2 (some .int) rmX9_kits [.ref (a 0), .int p1] S (.inr (some (.int r))) S' := by
  refine zm_entry [(0, .ref (a 0)), (1, .int p1)] hT (by decide +kernel) (Nat.le_of_ble_eq_true rfl) rfl (fun E hEl hED hEk C hQ hr => ?_)
  subst hEl
  subst hED
  subst hEk
  unfold fX9_kits at hF
  refine z_aload_n 0 (pc := 0) C dX9_kits_0 rfl rfl ?_
  refine z_aload_n 0 (pc := 1) C dX9_kits_1 rfl rfl ?_
  refine z_iload_n 1 (pc := 2) C dX9_kits_2 rfl rfl ?_
  obtain ⟨v1, hG, hF⟩ := bn1_of hF
  refine z_callV [.int p1] (pc := 3) (st1 := [.int v1, .ref (a 0)]) (c1 := 0) (s1 := 0) C (mX9_isKit C.hT hG) kX9_231 (kdM_lt (rfl : kdM 0 = 9) (by decide)) (gM_9 (rfl : kdM 0 = 9)) rfl rfl rfl rfl (Nat.le_of_ble_eq_true rfl) ⟨(Nat.le_of_ble_eq_true rfl), (Nat.le_of_ble_eq_true rfl)⟩ ⟨(Nat.le_of_ble_eq_true rfl), (Nat.le_of_ble_eq_true rfl)⟩ dX9_kits_3 rfl rfl ?_
  obtain ⟨v2', hR, hF⟩ := bn1_of hF
  have hJ7 : ∀ (v2 : Int32), (some v2 : Option (Int32)) = some v2' → Zz E (WM E a S) 0 0 14 [(0, .ref (a 0)), (1, .int p1)] [.int v2, .ref (a 0)] := by
    intro v2 hE
    have hE0 := Option.some.inj hE
    subst hE0
    obtain ⟨v3, S4, hG, hF⟩ := bn2_of hF
    refine z_callV [.int v2] (pc := 14) (st1 := [.int v3]) (c1 := 0) (s1 := 0) C (mX9_goesWell C.hT hG) kX9_126 (kdM_lt (rfl : kdM 0 = 9) (by decide)) (gM_9 (rfl : kdM 0 = 9)) rfl rfl rfl rfl (Nat.le_of_ble_eq_true rfl) ⟨(Nat.le_of_ble_eq_true rfl), (Nat.le_of_ble_eq_true rfl)⟩ ⟨(Nat.le_of_ble_eq_true rfl), (Nat.le_of_ble_eq_true rfl)⟩ dX9_kits_14 rfl rfl ?_
    refine z_if_eq 28 (pc := 17) C dX9_kits_17 (by decide) (fun c5 => ?_) (fun c5 => ?_)
    · have hF := if_t hF c5
      refine z_iconst (pc := 28) (v := (0 : Int32)) C dX9_kits_28 (by decide) ?_
      exact z_iret (pc := 29) C hQ hr rfl dX9_kits_29 (by cases hF; rfl) (by cases hF; rfl) (Nat.le_of_ble_eq_true rfl) (Nat.le_of_ble_eq_true rfl)
    · have hF := if_f hF c5
      refine z_aload_n 0 (pc := 20) C dX9_kits_20 rfl rfl ?_
      refine z_iload_n 1 (pc := 21) C dX9_kits_21 rfl rfl ?_
      obtain ⟨v6, hG, hF⟩ := bn1_of hF
      refine z_callV [.int p1] (pc := 22) (st1 := [.int v6]) (c1 := 0) (s1 := 0) C (mX9_kitsOf C.hT hG) kX9_234 (kdM_lt (rfl : kdM 0 = 9) (by decide)) (gM_9 (rfl : kdM 0 = 9)) rfl rfl rfl rfl (Nat.le_of_ble_eq_true rfl) ⟨(Nat.le_of_ble_eq_true rfl), (Nat.le_of_ble_eq_true rfl)⟩ ⟨(Nat.le_of_ble_eq_true rfl), (Nat.le_of_ble_eq_true rfl)⟩ dX9_kits_22 rfl rfl ?_
      refine z_goto 29 (pc := 25) C dX9_kits_25 (by decide) ?_
      exact z_iret (pc := 29) C hQ hr rfl dX9_kits_29 (by cases hF; rfl) (by cases hF; rfl) (Nat.le_of_ble_eq_true rfl) (Nat.le_of_ble_eq_true rfl)
  have hF := hR
  clear hR
  refine z_if_eq 13 (pc := 6) C dX9_kits_6 (by decide) (fun c8 => ?_) (fun c8 => ?_)
  · have hF := if_t hF c8
    refine z_iconst (pc := 13) (v := (1 : Int32)) C dX9_kits_13 (by decide) ?_
    exact hJ7 _ hF
  · have hF := if_f hF c8
    refine z_iconst (pc := 9) (v := (0 : Int32)) C dX9_kits_9 (by decide) ?_
    refine z_goto 14 (pc := 10) C dX9_kits_10 (by decide) ?_
    exact hJ7 _ hF
def fX9_longer (S : St) (p1 : Int32) (p2 : Int32) : Option (Int32) :=
  bn1 (fX9_blankBy S p1 p2) (fun (v1 : Int32) =>
  gd (inb p1 8) (
  if v1 ≤ (gi S 6 p1.toNatClampNeg) then (
    gd (inb p1 8) (
    some ((gi S 6 p1.toNatClampNeg))))
  else (
    bn1 (fX9_blankBy S p1 p2) (fun (v5 : Int32) =>
    some (v5)))))
abbrev rmX9_longer : Room := { frames := 7, cells := 0, slots := 0, locals := 130 }
set_option maxRecDepth 100000 in
set_option maxHeartbeats 4000000 in
theorem mX9_longer {l : Launch} {D : va_G} {cs : Nat → ClassId} {a : Nat → Nat} (hT : l.stackTraces = false) {S : St} {p1 : Int32} {p2 : Int32} {r : Int32} (hF : fX9_longer S p1 p2 = some r) : MX l 33 GM D cs a yX9_longer cX9_longer 3 (some .int) rmX9_longer [.ref (a 0), .int p1, .int p2] S (.inr (some (.int r))) S := by
  refine zm_entry [(0, .ref (a 0)), (1, .int p1), (2, .int p2)] hT (by decide +kernel) (Nat.le_of_ble_eq_true rfl) rfl (fun E hEl hED hEk C hQ hr => ?_)
  subst hEl
  subst hED
  subst hEk
  unfold fX9_longer at hF
  refine z_aload_n 0 (pc := 0) C dX9_longer_0 rfl rfl ?_
  refine z_iload_n 1 (pc := 1) C dX9_longer_1 rfl rfl ?_
  refine z_iload_n 2 (pc := 2) C dX9_longer_2 rfl rfl ?_
  obtain ⟨v1, hG, hF⟩ := bn1_of hF
  refine z_callV [.int p1, .int p2] (pc := 3) (st1 := [.int v1]) (c1 := 0) (s1 := 0) C (mX9_blankBy C.hT hG) kX9_144 (kdM_lt (rfl : kdM 0 = 9) (by decide)) (gM_9 (rfl : kdM 0 = 9)) rfl rfl rfl rfl (Nat.le_of_ble_eq_true rfl) ⟨(Nat.le_of_ble_eq_true rfl), (Nat.le_of_ble_eq_true rfl)⟩ ⟨(Nat.le_of_ble_eq_true rfl), (Nat.le_of_ble_eq_true rfl)⟩ dX9_longer_3 rfl rfl ?_
  refine z_aload_n 0 (pc := 6) C dX9_longer_6 rfl rfl ?_
  refine gfX9_25 (pc := 7) C (rfl : kdM 0 = 9) dX9_longer_7 ?_
  refine z_iload_n 1 (pc := 10) C dX9_longer_10 rfl rfl ?_
  obtain ⟨g2, hF⟩ := gd_of hF
  refine iaM8 (pc := 11) C (rfl : kdM 6 = 28) g2 dX9_longer_11 ?_
  refine z_icmp_le 24 (pc := 12) C dX9_longer_12 (by decide) (fun c3 => ?_) (fun c3 => ?_)
  · have hF := if_t hF c3
    refine z_aload_n 0 (pc := 24) C dX9_longer_24 rfl rfl ?_
    refine gfX9_25 (pc := 25) C (rfl : kdM 0 = 9) dX9_longer_25 ?_
    refine z_iload_n 1 (pc := 28) C dX9_longer_28 rfl rfl ?_
    obtain ⟨g4, hF⟩ := gd_of hF
    refine iaM8 (pc := 29) C (rfl : kdM 6 = 28) g4 dX9_longer_29 ?_
    exact z_iret (pc := 30) C hQ hr rfl dX9_longer_30 (by cases hF; rfl) (by cases hF; rfl) (Nat.le_of_ble_eq_true rfl) (Nat.le_of_ble_eq_true rfl)
  · have hF := if_f hF c3
    refine z_aload_n 0 (pc := 15) C dX9_longer_15 rfl rfl ?_
    refine z_iload_n 1 (pc := 16) C dX9_longer_16 rfl rfl ?_
    refine z_iload_n 2 (pc := 17) C dX9_longer_17 rfl rfl ?_
    obtain ⟨v5, hG, hF⟩ := bn1_of hF
    refine z_callV [.int p1, .int p2] (pc := 18) (st1 := [.int v5]) (c1 := 0) (s1 := 0) C (mX9_blankBy C.hT hG) kX9_144 (kdM_lt (rfl : kdM 0 = 9) (by decide)) (gM_9 (rfl : kdM 0 = 9)) rfl rfl rfl rfl (Nat.le_of_ble_eq_true rfl) ⟨(Nat.le_of_ble_eq_true rfl), (Nat.le_of_ble_eq_true rfl)⟩ ⟨(Nat.le_of_ble_eq_true rfl), (Nat.le_of_ble_eq_true rfl)⟩ dX9_longer_18 rfl rfl ?_
    refine z_goto 30 (pc := 21) C dX9_longer_21 (by decide) ?_
    exact z_iret (pc := 30) C hQ hr rfl dX9_longer_30 (by cases hF; rfl) (by cases hF; rfl) (Nat.le_of_ble_eq_true rfl) (Nat.le_of_ble_eq_true rfl)
def fX9_reason_L28 (p1 : Int32) (p4 : Int32) (v5 : Int32) (p3 : Int32) (p2 : Int32) (next24 : Int32 → Int32 → Int32 → St → Option (Int32 × Int32 × St)) (v20 : Int32) (v21 : Int32) (v22 : Int32) (S23 : St) : Option (Int32 × Int32 × St) :=
  bn1 (fX9_wing S23 p1 p4 v5) (fun (v44 : Int32) =>
  if v44 ≤ v22 then (
    some (v20, v21, S23))
  else (
    bn1 (fX9_go S23 p1 p3 p4 v5 v22) (fun (S46 : St) =>
    bn1 (jn0 (
      some (1 : Int32)) (fun J60 =>
      if v20 = 0 then (
        jn0 (
          some (0 : Int32)) (fun J62 =>
          if (gi S46 0 31) ≤ 0 then (
            J62)
          else (
            gd (inb p2 4) (
            if ((gi S46 0 31) + (gi S46 14 p2.toNatClampNeg)) ≤ (gi S46 0 30) then (
              J62)
            else (
              J60)))))
      else (
        J60))) (fun (v47 : Int32) =>
      bn1 (jn0 (
        some (1 : Int32)) (fun J52 =>
        if v21 = 0 then (
          gd (inb p2 4) (
          jn0 (
            some (0 : Int32)) (fun J55 =>
            if (-(gi S46 0 31)) ≤ (gi S46 15 p2.toNatClampNeg) then (
              J55)
            else (
              gd (inb p2 4) (
              if (gi S46 16 p2.toNatClampNeg) ≤ (gi S46 0 30) then (
                J55)
              else (
                J52))))))
        else (
          J52))) (fun (v48 : Int32) =>
        bv (v22 + 1) (fun (v49 : Int32) =>
        next24 v47 v48 v49 S46))))))
def fX9_reason_L15 (p1 : Int32) (p4 : Int32) (p3 : Int32) (p2 : Int32) (next7 : Int32 → Int32 → Int32 → Int32 → Int32 → St → Option (Int32 × Int32 × Int32 × Int32 × St)) (v1 : Int32) (v2 : Int32) (v3 : Int32) (v4 : Int32) (v5 : Int32) (S6 : St) : Option (Int32 × Int32 × Int32 × Int32 × St) :=
  if (2 : Int32) ≤ v5 then (
    some (v1, v2, v3, v4, S6))
  else (
    bn1 (fX9_start S6) (fun (S19 : St) =>
    bn3 (lq4 (fX9_reason_L28 p1 p4 v5 p3 p2) 200 v3 v4 (0 : Int32) S19) (fun (v25 : Int32) (v26 : Int32) (S27 : St) =>
      bn1 (jn0 (
        some (1 : Int32)) (fun J38 =>
        if v1 = 0 then (
          gd (inb p2 4) (
          gd (inb p1 8) (
          if (((gi S27 13 p2.toNatClampNeg) / (2 : Int32)) + (gi S27 7 p1.toNatClampNeg)) ≤ (gi S27 0 34) then (
            some (0 : Int32))
          else (
            J38))))
        else (
          J38))) (fun (v28 : Int32) =>
        bn1 (jn0 (
          some (0 : Int32)) (fun J33 =>
          if v2 = 0 then (
            J33)
          else (
            gd (inb p2 4) (
            if (gi S27 0 34) ≤ (gi S27 17 p2.toNatClampNeg) then (
              J33)
            else (
              some (1 : Int32)))))) (fun (v29 : Int32) =>
          bv (v5 + 2) (fun (v30 : Int32) =>
          next7 v28 v29 v25 v26 v30 S27))))))
def fX9_reason (S : St) (p1 : Int32) (p2 : Int32) (p3 : Int32) (p4 : Int32) : Option ((Int32 × St)) :=
  bn5 (lq6 (fX9_reason_L15 p1 p4 p3 p2) 200 (0 : Int32) (1 : Int32) (0 : Int32) (0 : Int32) (-1 : Int32) S) (fun (v8 : Int32) (v9 : Int32) (v10 : Int32) (v11 : Int32) (S12 : St) =>
    if v8 = 0 then (
      if v9 = 0 then (
        if v10 = 0 then (
          if v11 = 0 then (
            some ((0 : Int32), S12))
          else (
            some ((4 : Int32), S12)))
        else (
          some ((3 : Int32), S12)))
      else (
        some ((2 : Int32), S12)))
    else (
      some ((1 : Int32), S12)))
abbrev rmX9_reason : Room := { frames := 7, cells := 0, slots := 0, locals := 130 }
set_option maxRecDepth 100000 in
set_option maxHeartbeats 4000000 in
theorem mX9_reason {l : Launch} {D : va_G} {cs : Nat → ClassId} {a : Nat → Nat} (hT : l.stackTraces = false) {S : St} {p1 : Int32} {p2 : Int32} {p3 : Int32} {p4 : Int32} {r : Int32} {S' : St} (hF : fX9_reason S p1 p2 p3 p4 = some (r, S')) : MX l 33 GM D cs a yX9_reason cX9_reason 11 (some .int) rmX9_reason [.ref (a 0), .int p1, .int p2, .int p3, .int p4] S (.inr (some (.int r))) S' := by
  refine zm_entry [(0, .ref (a 0)), (1, .int p1), (2, .int p2), (3, .int p3), (4, .int p4)] hT (by decide +kernel) (Nat.le_of_ble_eq_true rfl) rfl (fun E hEl hED hEk C hQ hr => ?_)
  subst hEl
  subst hED
  subst hEk
  unfold fX9_reason at hF
  refine z_iconst (pc := 0) (v := (0 : Int32)) C dX9_reason_0 (by decide) ?_
  refine z_istore (pc := 1) (loc' := [(5, .int (0 : Int32)), (0, .ref (a 0)), (1, .int p1), (2, .int p2), (3, .int p3), (4, .int p4)]) C dX9_reason_1 (by decide) rfl ?_
  refine z_iconst (pc := 3) (v := (1 : Int32)) C dX9_reason_3 (by decide) ?_
  refine z_istore (pc := 4) (loc' := [(6, .int (1 : Int32)), (5, .int (0 : Int32)), (0, .ref (a 0)), (1, .int p1), (2, .int p2), (3, .int p3), (4, .int p4)]) C dX9_reason_4 (by decide) rfl ?_
  refine z_iconst (pc := 6) (v := (0 : Int32)) C dX9_reason_6 (by decide) ?_
  refine z_istore (pc := 7) (loc' := [(7, .int (0 : Int32)), (6, .int (1 : Int32)), (5, .int (0 : Int32)), (0, .ref (a 0)), (1, .int p1), (2, .int p2), (3, .int p3), (4, .int p4)]) C dX9_reason_7 (by decide) rfl ?_
  refine z_iconst (pc := 9) (v := (0 : Int32)) C dX9_reason_9 (by decide) ?_
  refine z_istore (pc := 10) (loc' := [(8, .int (0 : Int32)), (7, .int (0 : Int32)), (6, .int (1 : Int32)), (5, .int (0 : Int32)), (0, .ref (a 0)), (1, .int p1), (2, .int p2), (3, .int p3), (4, .int p4)]) C dX9_reason_10 (by decide) rfl ?_
  refine z_iconst (pc := 12) (v := (-1 : Int32)) C dX9_reason_12 (by decide) ?_
  refine z_istore (pc := 13) (loc' := [(9, .int (-1 : Int32)), (8, .int (0 : Int32)), (7, .int (0 : Int32)), (6, .int (1 : Int32)), (5, .int (0 : Int32)), (0, .ref (a 0)), (1, .int p1), (2, .int p2), (3, .int p3), (4, .int p4)]) C dX9_reason_13 (by decide) rfl ?_
  refine z_sub [5, 6, 7, 8, 9, 4, 3, 2, 1, 0] rfl ?_
  obtain ⟨v8', v9', v10', v11', S12', hR, hF⟩ := bn5_of hF
  have hJ17 : ∀ (v8 : Int32) (v9 : Int32) (v10 : Int32) (v11 : Int32) (S12 : St), (some (v8, v9, v10, v11, S12) : Option (Int32 × Int32 × Int32 × Int32 × St)) = some (v8', v9', v10', v11', S12') → Zz E (WM E a S12) 0 0 201 [(5, .int v8), (6, .int v9), (7, .int v10), (8, .int v11)] [] := by
    intro v8 v9 v10 v11 S12 hE
    have hE0 := Option.some.inj hE
    obtain ⟨hA0, hE1⟩ := Prod.mk.inj hE0
    obtain ⟨hA1, hE2⟩ := Prod.mk.inj hE1
    obtain ⟨hA2, hE3⟩ := Prod.mk.inj hE2
    obtain ⟨hA3, hE4⟩ := Prod.mk.inj hE3
    subst hA0
    subst hA1
    subst hA2
    subst hA3
    subst hE4
    refine z_iload 0 (pc := 201) C dX9_reason_201 rfl ?_
    refine z_if_eq 210 (pc := 203) C dX9_reason_203 (by decide) (fun c13 => ?_) (fun c13 => ?_)
    · have hF := if_t hF c13
      refine z_iload 1 (pc := 210) C dX9_reason_210 rfl ?_
      refine z_if_eq 219 (pc := 212) C dX9_reason_212 (by decide) (fun c14 => ?_) (fun c14 => ?_)
      · have hF := if_t hF c14
        refine z_iload 2 (pc := 219) C dX9_reason_219 rfl ?_
        refine z_if_eq 228 (pc := 221) C dX9_reason_221 (by decide) (fun c15 => ?_) (fun c15 => ?_)
        · have hF := if_t hF c15
          refine z_iload 3 (pc := 228) C dX9_reason_228 rfl ?_
          refine z_if_eq 237 (pc := 230) C dX9_reason_230 (by decide) (fun c16 => ?_) (fun c16 => ?_)
          · have hF := if_t hF c16
            refine z_iconst (pc := 237) (v := (0 : Int32)) C dX9_reason_237 (by decide) ?_
            exact z_iret (pc := 238) C hQ hr rfl dX9_reason_238 (by cases hF; rfl) (by cases hF; rfl) (Nat.le_of_ble_eq_true rfl) (Nat.le_of_ble_eq_true rfl)
          · have hF := if_f hF c16
            refine z_iconst (pc := 233) (v := (4 : Int32)) C dX9_reason_233 (by decide) ?_
            refine z_goto 238 (pc := 234) C dX9_reason_234 (by decide) ?_
            exact z_iret (pc := 238) C hQ hr rfl dX9_reason_238 (by cases hF; rfl) (by cases hF; rfl) (Nat.le_of_ble_eq_true rfl) (Nat.le_of_ble_eq_true rfl)
        · have hF := if_f hF c15
          refine z_iconst (pc := 224) (v := (3 : Int32)) C dX9_reason_224 (by decide) ?_
          refine z_goto 238 (pc := 225) C dX9_reason_225 (by decide) ?_
          exact z_iret (pc := 238) C hQ hr rfl dX9_reason_238 (by cases hF; rfl) (by cases hF; rfl) (Nat.le_of_ble_eq_true rfl) (Nat.le_of_ble_eq_true rfl)
      · have hF := if_f hF c14
        refine z_iconst (pc := 215) (v := (2 : Int32)) C dX9_reason_215 (by decide) ?_
        refine z_goto 238 (pc := 216) C dX9_reason_216 (by decide) ?_
        exact z_iret (pc := 238) C hQ hr rfl dX9_reason_238 (by cases hF; rfl) (by cases hF; rfl) (Nat.le_of_ble_eq_true rfl) (Nat.le_of_ble_eq_true rfl)
    · have hF := if_f hF c13
      refine z_iconst (pc := 206) (v := (1 : Int32)) C dX9_reason_206 (by decide) ?_
      refine z_goto 238 (pc := 207) C dX9_reason_207 (by decide) ?_
      exact z_iret (pc := 238) C hQ hr rfl dX9_reason_238 (by cases hF; rfl) (by cases hF; rfl) (Nat.le_of_ble_eq_true rfl) (Nat.le_of_ble_eq_true rfl)
  have hF := hR
  clear hR
  refine lq6_W (P := fun (v1 : Int32) (v2 : Int32) (v3 : Int32) (v4 : Int32) (v5 : Int32) (S6 : St) => Zz E (WM E a S6) 0 0 15 [(0, .ref (a 0)), (1, .int p1), (2, .int p2), (3, .int p3), (4, .int p4), (5, .int v1), (6, .int v2), (7, .int v3), (8, .int v4), (9, .int v5)] []) (fun next7 hN7 v1 v2 v3 v4 v5 S6 hF => ?_) _ _ _ _ _ _ _ hF
  unfold fX9_reason_L15 at hF
  refine z_iload 9 (pc := 15) C dX9_reason_15 rfl ?_
  refine z_iconst (pc := 17) (v := (2 : Int32)) C dX9_reason_17 (by decide) ?_
  refine z_icmp_ge 201 (pc := 18) C dX9_reason_18 (by decide) (fun c18 => ?_) (fun c18 => ?_)
  · have hF := if_t hF c18
    refine z_sub [5, 6, 7, 8] rfl ?_
    exact hJ17 _ _ _ _ _ hF
  · have hF := if_f hF c18
    refine z_aload_n 0 (pc := 21) C dX9_reason_21 rfl rfl ?_
    obtain ⟨S19, hG, hF⟩ := bn1_of hF
    refine z_callV [] (pc := 22) (st1 := []) (c1 := 0) (s1 := 0) C (mX9_start C.hT hG) kX9_173 (kdM_lt (rfl : kdM 0 = 9) (by decide)) (gM_9 (rfl : kdM 0 = 9)) rfl rfl rfl rfl (Nat.le_of_ble_eq_true rfl) ⟨(Nat.le_of_ble_eq_true rfl), (Nat.le_of_ble_eq_true rfl)⟩ ⟨(Nat.le_of_ble_eq_true rfl), (Nat.le_of_ble_eq_true rfl)⟩ dX9_reason_22 rfl rfl ?_
    refine z_iconst (pc := 25) (v := (0 : Int32)) C dX9_reason_25 (by decide) ?_
    refine z_istore (pc := 26) (loc' := [(10, .int (0 : Int32)), (0, .ref (a 0)), (1, .int p1), (2, .int p2), (3, .int p3), (4, .int p4), (5, .int v1), (6, .int v2), (7, .int v3), (8, .int v4), (9, .int v5)]) C dX9_reason_26 (by decide) rfl ?_
    refine z_sub [1, 2, 3, 4, 5, 6, 7, 8, 9, 10, 0] rfl ?_
    obtain ⟨v25', v26', S27', hR, hF⟩ := bn3_of hF
    have hJ43 : ∀ (v25 : Int32) (v26 : Int32) (S27 : St), (some (v25, v26, S27) : Option (Int32 × Int32 × St)) = some (v25', v26', S27') → Zz E (WM E a S27) 0 0 136 [(0, .ref (a 0)), (1, .int p1), (2, .int p2), (3, .int p3), (4, .int p4), (5, .int v1), (6, .int v2), (7, .int v25), (8, .int v26), (9, .int v5)] [] := by
      intro v25 v26 S27 hE
      have hE0 := Option.some.inj hE
      obtain ⟨hA0, hE1⟩ := Prod.mk.inj hE0
      obtain ⟨hA1, hE2⟩ := Prod.mk.inj hE1
      subst hA0
      subst hA1
      subst hE2
      refine z_iload 5 (pc := 136) C dX9_reason_136 rfl ?_
      obtain ⟨v28', hR, hF⟩ := bn1_of hF
      have hJ37 : ∀ (v28 : Int32), (some v28 : Option (Int32)) = some v28' → Zz E (WM E a S27) 0 0 168 [(0, .ref (a 0)), (1, .int p1), (2, .int p2), (3, .int p3), (4, .int p4), (6, .int v2), (7, .int v25), (8, .int v26), (9, .int v5)] [.int v28] := by
        intro v28 hE
        have hE0 := Option.some.inj hE
        subst hE0
        refine z_istore (pc := 168) (loc' := [(5, .int v28), (0, .ref (a 0)), (1, .int p1), (2, .int p2), (3, .int p3), (4, .int p4), (6, .int v2), (7, .int v25), (8, .int v26), (9, .int v5)]) C dX9_reason_168 (by decide) rfl ?_
        refine z_iload 6 (pc := 170) C dX9_reason_170 rfl ?_
        obtain ⟨v29', hR, hF⟩ := bn1_of hF
        have hJ32 : ∀ (v29 : Int32), (some v29 : Option (Int32)) = some v29' → Zz E (WM E a S27) 0 0 193 [(0, .ref (a 0)), (1, .int p1), (2, .int p2), (3, .int p3), (4, .int p4), (5, .int v28), (7, .int v25), (8, .int v26), (9, .int v5)] [.int v29] := by
          intro v29 hE
          have hE0 := Option.some.inj hE
          subst hE0
          refine z_istore (pc := 193) (loc' := [(6, .int v29), (0, .ref (a 0)), (1, .int p1), (2, .int p2), (3, .int p3), (4, .int p4), (5, .int v28), (7, .int v25), (8, .int v26), (9, .int v5)]) C dX9_reason_193 (by decide) rfl ?_
          obtain ⟨v30, e31, hF⟩ := bv_of hF
          refine z_iinc 9 (pc := 195) (v := v30) (loc' := [(9, .int v30), (6, .int v29), (0, .ref (a 0)), (1, .int p1), (2, .int p2), (3, .int p3), (4, .int p4), (5, .int v28), (7, .int v25), (8, .int v26)]) C dX9_reason_195 rfl (by rw [e31]; rfl) (by decide) rfl ?_
          refine z_goto 15 (pc := 198) C dX9_reason_198 (by decide) ?_
          refine z_sub [2, 3, 4, 5, 6, 7, 1, 8, 9, 0] rfl ?_
          exact hN7 _ _ _ _ _ _ hF
        have hF := hR
        clear hR
        obtain ⟨J33, hdJ33, hF⟩ := jn0_of hF
        have hJ33 : J33 = some v29' → Zz E (WM E a S27) 0 0 192 [(0, .ref (a 0)), (1, .int p1), (2, .int p2), (3, .int p3), (4, .int p4), (5, .int v28), (7, .int v25), (8, .int v26), (9, .int v5)] [] := by
          intro hF
          have hF := hdJ33.symm.trans hF
          refine z_iconst (pc := 192) (v := (0 : Int32)) C dX9_reason_192 (by decide) ?_
          exact hJ32 _ hF
        refine z_if_eq 192 (pc := 172) C dX9_reason_172 (by decide) (fun c34 => ?_) (fun c34 => ?_)
        · have hF := if_t hF c34
          refine z_sub [1, 2, 3, 4, 5, 0, 7, 8, 9] rfl ?_
          exact hJ33 hF
        · have hF := if_f hF c34
          refine z_aload_n 1 (pc := 175) C dX9_reason_175 rfl rfl ?_
          refine gfX9_166 (pc := 176) C (rfl : kdM 0 = 9) dX9_reason_176 ?_
          refine z_aload_n 1 (pc := 179) C dX9_reason_179 rfl rfl ?_
          refine gfX9_58 (pc := 180) C (rfl : kdM 0 = 9) dX9_reason_180 ?_
          refine z_iload_n 3 (pc := 183) C dX9_reason_183 rfl rfl ?_
          obtain ⟨g35, hF⟩ := gd_of hF
          refine iaM4 (pc := 184) C (rfl : kdM 17 = 24) g35 dX9_reason_184 ?_
          refine z_icmp_le 192 (pc := 185) C dX9_reason_185 (by decide) (fun c36 => ?_) (fun c36 => ?_)
          · have hF := if_t hF c36
            refine z_sub [1, 2, 3, 4, 5, 0, 7, 8, 9] rfl ?_
            exact hJ33 hF
          · have hF := if_f hF c36
            refine z_iconst (pc := 188) (v := (1 : Int32)) C dX9_reason_188 (by decide) ?_
            refine z_goto 193 (pc := 189) C dX9_reason_189 (by decide) ?_
            refine z_sub [1, 2, 3, 4, 5, 0, 7, 8, 9] rfl ?_
            exact hJ32 _ hF
      have hF := hR
      clear hR
      obtain ⟨J38, hdJ38, hF⟩ := jn0_of hF
      have hJ38 : J38 = some v28' → Zz E (WM E a S27) 0 0 163 [(0, .ref (a 0)), (1, .int p1), (2, .int p2), (3, .int p3), (4, .int p4), (6, .int v2), (7, .int v25), (8, .int v26), (9, .int v5)] [] := by
        intro hF
        have hF := hdJ38.symm.trans hF
        refine z_iconst (pc := 163) (v := (1 : Int32)) C dX9_reason_163 (by decide) ?_
        refine z_goto 168 (pc := 164) C dX9_reason_164 (by decide) ?_
        exact hJ37 _ hF
      refine z_if_ne 163 (pc := 138) C dX9_reason_138 (by decide) (fun c39 => ?_) (fun c39 => ?_)
      · have hF := if_f hF c39
        refine z_sub [0, 1, 2, 3, 4, 6, 7, 8, 9] rfl ?_
        exact hJ38 hF
      · have hF := if_t hF c39
        refine z_aload_n 0 (pc := 141) C dX9_reason_141 rfl rfl ?_
        refine gfX9_166 (pc := 142) C (rfl : kdM 0 = 9) dX9_reason_142 ?_
        refine z_aload_n 0 (pc := 145) C dX9_reason_145 rfl rfl ?_
        refine gfX9_46 (pc := 146) C (rfl : kdM 0 = 9) dX9_reason_146 ?_
        refine z_iload_n 2 (pc := 149) C dX9_reason_149 rfl rfl ?_
        obtain ⟨g40, hF⟩ := gd_of hF
        refine iaM4 (pc := 150) C (rfl : kdM 13 = 24) g40 dX9_reason_150 ?_
        refine z_iconst (pc := 151) (v := (2 : Int32)) C dX9_reason_151 (by decide) ?_
        refine z_idiv (pc := 152) C dX9_reason_152 (by decide) ?_
        refine z_aload_n 0 (pc := 153) C dX9_reason_153 rfl rfl ?_
        refine gfX9_28 (pc := 154) C (rfl : kdM 0 = 9) dX9_reason_154 ?_
        refine z_iload_n 1 (pc := 157) C dX9_reason_157 rfl rfl ?_
        obtain ⟨g41, hF⟩ := gd_of hF
        refine iaM8 (pc := 158) C (rfl : kdM 7 = 28) g41 dX9_reason_158 ?_
        refine z_iadd (pc := 159) C dX9_reason_159 ?_
        refine z_icmp_ge 167 (pc := 160) C dX9_reason_160 (by decide) (fun c42 => ?_) (fun c42 => ?_)
        · have hF := if_t hF c42
          refine z_iconst (pc := 167) (v := (0 : Int32)) C dX9_reason_167 (by decide) ?_
          refine z_sub [0, 1, 2, 3, 4, 6, 7, 8, 9] rfl ?_
          exact hJ37 _ hF
        · have hF := if_f hF c42
          refine z_sub [0, 1, 2, 3, 4, 6, 7, 8, 9] rfl ?_
          exact hJ38 hF
    have hF := hR
    clear hR
    refine lq4_W (P := fun (v20 : Int32) (v21 : Int32) (v22 : Int32) (S23 : St) => Zz E (WM E a S23) 0 0 28 [(0, .ref (a 0)), (1, .int p1), (2, .int p2), (3, .int p3), (4, .int p4), (5, .int v1), (6, .int v2), (7, .int v20), (8, .int v21), (9, .int v5), (10, .int v22)] []) (fun next24 hN24 v20 v21 v22 S23 hF => ?_) _ _ _ _ _ hF
    unfold fX9_reason_L28 at hF
    refine z_iload 10 (pc := 28) C dX9_reason_28 rfl ?_
    refine z_aload_n 0 (pc := 30) C dX9_reason_30 rfl rfl ?_
    refine z_iload_n 1 (pc := 31) C dX9_reason_31 rfl rfl ?_
    refine z_iload 4 (pc := 32) C dX9_reason_32 rfl ?_
    refine z_iload 9 (pc := 34) C dX9_reason_34 rfl ?_
    obtain ⟨v44, hG, hF⟩ := bn1_of hF
    refine z_callV [.int p1, .int p4, .int v5] (pc := 36) (st1 := [.int v44, .int v22]) (c1 := 0) (s1 := 0) C (mX9_wing C.hT hG) kX9_176 (kdM_lt (rfl : kdM 0 = 9) (by decide)) (gM_9 (rfl : kdM 0 = 9)) rfl rfl rfl rfl (Nat.le_of_ble_eq_true rfl) ⟨(Nat.le_of_ble_eq_true rfl), (Nat.le_of_ble_eq_true rfl)⟩ ⟨(Nat.le_of_ble_eq_true rfl), (Nat.le_of_ble_eq_true rfl)⟩ dX9_reason_36 rfl rfl ?_
    refine z_icmp_ge 136 (pc := 39) C dX9_reason_39 (by decide) (fun c45 => ?_) (fun c45 => ?_)
    · have hF := if_t hF c45
      refine z_sub [0, 1, 2, 3, 4, 5, 6, 7, 8, 9] rfl ?_
      exact hJ43 _ _ _ hF
    · have hF := if_f hF c45
      refine z_aload_n 0 (pc := 42) C dX9_reason_42 rfl rfl ?_
      refine z_iload_n 1 (pc := 43) C dX9_reason_43 rfl rfl ?_
      refine z_iload_n 3 (pc := 44) C dX9_reason_44 rfl rfl ?_
      refine z_iload 4 (pc := 45) C dX9_reason_45 rfl ?_
      refine z_iload 9 (pc := 47) C dX9_reason_47 rfl ?_
      refine z_iload 10 (pc := 49) C dX9_reason_49 rfl ?_
      obtain ⟨S46, hG, hF⟩ := bn1_of hF
      refine z_callV [.int p1, .int p3, .int p4, .int v5, .int v22] (pc := 51) (st1 := []) (c1 := 0) (s1 := 0) C (mX9_go C.hT hG) kX9_180 (kdM_lt (rfl : kdM 0 = 9) (by decide)) (gM_9 (rfl : kdM 0 = 9)) rfl rfl rfl rfl (Nat.le_of_ble_eq_true rfl) ⟨(Nat.le_of_ble_eq_true rfl), (Nat.le_of_ble_eq_true rfl)⟩ ⟨(Nat.le_of_ble_eq_true rfl), (Nat.le_of_ble_eq_true rfl)⟩ dX9_reason_51 rfl rfl ?_
      refine z_iload 7 (pc := 54) C dX9_reason_54 rfl ?_
      obtain ⟨v47', hR, hF⟩ := bn1_of hF
      have hJ59 : ∀ (v47 : Int32), (some v47 : Option (Int32)) = some v47' → Zz E (WM E a S46) 0 0 89 [(0, .ref (a 0)), (1, .int p1), (2, .int p2), (3, .int p3), (4, .int p4), (5, .int v1), (6, .int v2), (8, .int v21), (9, .int v5), (10, .int v22)] [.int v47] := by
        intro v47 hE
        have hE0 := Option.some.inj hE
        subst hE0
        refine z_istore (pc := 89) (loc' := [(7, .int v47), (0, .ref (a 0)), (1, .int p1), (2, .int p2), (3, .int p3), (4, .int p4), (5, .int v1), (6, .int v2), (8, .int v21), (9, .int v5), (10, .int v22)]) C dX9_reason_89 (by decide) rfl ?_
        refine z_iload 8 (pc := 91) C dX9_reason_91 rfl ?_
        obtain ⟨v48', hR, hF⟩ := bn1_of hF
        have hJ51 : ∀ (v48 : Int32), (some v48 : Option (Int32)) = some v48' → Zz E (WM E a S46) 0 0 128 [(0, .ref (a 0)), (1, .int p1), (2, .int p2), (3, .int p3), (4, .int p4), (5, .int v1), (6, .int v2), (7, .int v47), (9, .int v5), (10, .int v22)] [.int v48] := by
          intro v48 hE
          have hE0 := Option.some.inj hE
          subst hE0
          refine z_istore (pc := 128) (loc' := [(8, .int v48), (0, .ref (a 0)), (1, .int p1), (2, .int p2), (3, .int p3), (4, .int p4), (5, .int v1), (6, .int v2), (7, .int v47), (9, .int v5), (10, .int v22)]) C dX9_reason_128 (by decide) rfl ?_
          obtain ⟨v49, e50, hF⟩ := bv_of hF
          refine z_iinc 10 (pc := 130) (v := v49) (loc' := [(10, .int v49), (8, .int v48), (0, .ref (a 0)), (1, .int p1), (2, .int p2), (3, .int p3), (4, .int p4), (5, .int v1), (6, .int v2), (7, .int v47), (9, .int v5)]) C dX9_reason_130 rfl (by rw [e50]; rfl) (by decide) rfl ?_
          refine z_goto 28 (pc := 133) C dX9_reason_133 (by decide) ?_
          refine z_sub [2, 3, 4, 5, 6, 7, 8, 9, 1, 10, 0] rfl ?_
          exact hN24 _ _ _ _ hF
        have hF := hR
        clear hR
        obtain ⟨J52, hdJ52, hF⟩ := jn0_of hF
        have hJ52 : J52 = some v48' → Zz E (WM E a S46) 0 0 123 [(0, .ref (a 0)), (1, .int p1), (2, .int p2), (3, .int p3), (4, .int p4), (5, .int v1), (6, .int v2), (7, .int v47), (9, .int v5), (10, .int v22)] [] := by
          intro hF
          have hF := hdJ52.symm.trans hF
          refine z_iconst (pc := 123) (v := (1 : Int32)) C dX9_reason_123 (by decide) ?_
          refine z_goto 128 (pc := 124) C dX9_reason_124 (by decide) ?_
          exact hJ51 _ hF
        refine z_if_ne 123 (pc := 93) C dX9_reason_93 (by decide) (fun c53 => ?_) (fun c53 => ?_)
        · have hF := if_f hF c53
          refine z_sub [1, 2, 3, 4, 5, 6, 7, 0, 9, 10] rfl ?_
          exact hJ52 hF
        · have hF := if_t hF c53
          refine z_aload_n 1 (pc := 96) C dX9_reason_96 rfl rfl ?_
          refine gfX9_157 (pc := 97) C (rfl : kdM 0 = 9) dX9_reason_97 ?_
          refine z_ineg (pc := 100) C dX9_reason_100 ?_
          refine z_aload_n 1 (pc := 101) C dX9_reason_101 rfl rfl ?_
          refine gfX9_52 (pc := 102) C (rfl : kdM 0 = 9) dX9_reason_102 ?_
          refine z_iload_n 3 (pc := 105) C dX9_reason_105 rfl rfl ?_
          obtain ⟨g54, hF⟩ := gd_of hF
          refine iaM4 (pc := 106) C (rfl : kdM 15 = 24) g54 dX9_reason_106 ?_
          obtain ⟨J55, hdJ55, hF⟩ := jn0_of hF
          have hJ55 : J55 = some v48' → Zz E (WM E a S46) 0 0 127 [(0, .ref (a 0)), (1, .int p1), (2, .int p2), (3, .int p3), (4, .int p4), (5, .int v1), (6, .int v2), (7, .int v47), (9, .int v5), (10, .int v22)] [] := by
            intro hF
            have hF := hdJ55.symm.trans hF
            refine z_iconst (pc := 127) (v := (0 : Int32)) C dX9_reason_127 (by decide) ?_
            exact hJ51 _ hF
          refine z_icmp_le 127 (pc := 107) C dX9_reason_107 (by decide) (fun c56 => ?_) (fun c56 => ?_)
          · have hF := if_t hF c56
            refine z_sub [1, 2, 3, 4, 5, 6, 7, 0, 9, 10] rfl ?_
            exact hJ55 hF
          · have hF := if_f hF c56
            refine z_aload_n 1 (pc := 110) C dX9_reason_110 rfl rfl ?_
            refine gfX9_154 (pc := 111) C (rfl : kdM 0 = 9) dX9_reason_111 ?_
            refine z_aload_n 1 (pc := 114) C dX9_reason_114 rfl rfl ?_
            refine gfX9_55 (pc := 115) C (rfl : kdM 0 = 9) dX9_reason_115 ?_
            refine z_iload_n 3 (pc := 118) C dX9_reason_118 rfl rfl ?_
            obtain ⟨g57, hF⟩ := gd_of hF
            refine iaM4 (pc := 119) C (rfl : kdM 16 = 24) g57 dX9_reason_119 ?_
            refine z_icmp_ge 127 (pc := 120) C dX9_reason_120 (by decide) (fun c58 => ?_) (fun c58 => ?_)
            · have hF := if_t hF c58
              refine z_sub [1, 2, 3, 4, 5, 6, 7, 0, 9, 10] rfl ?_
              exact hJ55 hF
            · have hF := if_f hF c58
              refine z_sub [1, 2, 3, 4, 5, 6, 7, 0, 9, 10] rfl ?_
              exact hJ52 hF
      have hF := hR
      clear hR
      obtain ⟨J60, hdJ60, hF⟩ := jn0_of hF
      have hJ60 : J60 = some v47' → Zz E (WM E a S46) 0 0 84 [(0, .ref (a 0)), (1, .int p1), (2, .int p2), (3, .int p3), (4, .int p4), (5, .int v1), (6, .int v2), (8, .int v21), (9, .int v5), (10, .int v22)] [] := by
        intro hF
        have hF := hdJ60.symm.trans hF
        refine z_iconst (pc := 84) (v := (1 : Int32)) C dX9_reason_84 (by decide) ?_
        refine z_goto 89 (pc := 85) C dX9_reason_85 (by decide) ?_
        exact hJ59 _ hF
      refine z_if_ne 84 (pc := 56) C dX9_reason_56 (by decide) (fun c61 => ?_) (fun c61 => ?_)
      · have hF := if_f hF c61
        refine z_sub [0, 1, 2, 3, 4, 5, 6, 8, 9, 10] rfl ?_
        exact hJ60 hF
      · have hF := if_t hF c61
        refine z_aload_n 0 (pc := 59) C dX9_reason_59 rfl rfl ?_
        refine gfX9_157 (pc := 60) C (rfl : kdM 0 = 9) dX9_reason_60 ?_
        obtain ⟨J62, hdJ62, hF⟩ := jn0_of hF
        have hJ62 : J62 = some v47' → Zz E (WM E a S46) 0 0 88 [(0, .ref (a 0)), (1, .int p1), (2, .int p2), (3, .int p3), (4, .int p4), (5, .int v1), (6, .int v2), (8, .int v21), (9, .int v5), (10, .int v22)] [] := by
          intro hF
          have hF := hdJ62.symm.trans hF
          refine z_iconst (pc := 88) (v := (0 : Int32)) C dX9_reason_88 (by decide) ?_
          exact hJ59 _ hF
        refine z_if_le 88 (pc := 63) C dX9_reason_63 (by decide) (fun c63 => ?_) (fun c63 => ?_)
        · have hF := if_t hF c63
          refine z_sub [0, 1, 2, 3, 4, 5, 6, 8, 9, 10] rfl ?_
          exact hJ62 hF
        · have hF := if_f hF c63
          refine z_aload_n 0 (pc := 66) C dX9_reason_66 rfl rfl ?_
          refine gfX9_157 (pc := 67) C (rfl : kdM 0 = 9) dX9_reason_67 ?_
          refine z_aload_n 0 (pc := 70) C dX9_reason_70 rfl rfl ?_
          refine gfX9_49 (pc := 71) C (rfl : kdM 0 = 9) dX9_reason_71 ?_
          refine z_iload_n 2 (pc := 74) C dX9_reason_74 rfl rfl ?_
          obtain ⟨g64, hF⟩ := gd_of hF
          refine iaM4 (pc := 75) C (rfl : kdM 14 = 24) g64 dX9_reason_75 ?_
          refine z_iadd (pc := 76) C dX9_reason_76 ?_
          refine z_aload_n 0 (pc := 77) C dX9_reason_77 rfl rfl ?_
          refine gfX9_154 (pc := 78) C (rfl : kdM 0 = 9) dX9_reason_78 ?_
          refine z_icmp_le 88 (pc := 81) C dX9_reason_81 (by decide) (fun c65 => ?_) (fun c65 => ?_)
          · have hF := if_t hF c65
            refine z_sub [0, 1, 2, 3, 4, 5, 6, 8, 9, 10] rfl ?_
            exact hJ62 hF
          · have hF := if_f hF c65
            refine z_sub [0, 1, 2, 3, 4, 5, 6, 8, 9, 10] rfl ?_
            exact hJ60 hF
def fX9_shorter (S : St) (p1 : Int32) (p2 : Int32) : Option (Int32) :=
  bn1 (fX9_blankBy S p1 p2) (fun (v1 : Int32) =>
  gd (inb p1 8) (
  if v1 ≤ (gi S 6 p1.toNatClampNeg) then (
    bn1 (fX9_blankBy S p1 p2) (fun (v4 : Int32) =>
    some (v4)))
  else (
    gd (inb p1 8) (
    some ((gi S 6 p1.toNatClampNeg))))))
abbrev rmX9_shorter : Room := { frames := 7, cells := 0, slots := 0, locals := 130 }
set_option maxRecDepth 100000 in
set_option maxHeartbeats 4000000 in
theorem mX9_shorter {l : Launch} {D : va_G} {cs : Nat → ClassId} {a : Nat → Nat} (hT : l.stackTraces = false) {S : St} {p1 : Int32} {p2 : Int32} {r : Int32} (hF : fX9_shorter S p1 p2 = some r) : MX l 33 GM D cs a yX9_shorter cX9_shorter 3 (some .int) rmX9_shorter [.ref (a 0), .int p1, .int p2] S (.inr (some (.int r))) S := by
  refine zm_entry [(0, .ref (a 0)), (1, .int p1), (2, .int p2)] hT (by decide +kernel) (Nat.le_of_ble_eq_true rfl) rfl (fun E hEl hED hEk C hQ hr => ?_)
  subst hEl
  subst hED
  subst hEk
  unfold fX9_shorter at hF
  refine z_aload_n 0 (pc := 0) C dX9_shorter_0 rfl rfl ?_
  refine z_iload_n 1 (pc := 1) C dX9_shorter_1 rfl rfl ?_
  refine z_iload_n 2 (pc := 2) C dX9_shorter_2 rfl rfl ?_
  obtain ⟨v1, hG, hF⟩ := bn1_of hF
  refine z_callV [.int p1, .int p2] (pc := 3) (st1 := [.int v1]) (c1 := 0) (s1 := 0) C (mX9_blankBy C.hT hG) kX9_144 (kdM_lt (rfl : kdM 0 = 9) (by decide)) (gM_9 (rfl : kdM 0 = 9)) rfl rfl rfl rfl (Nat.le_of_ble_eq_true rfl) ⟨(Nat.le_of_ble_eq_true rfl), (Nat.le_of_ble_eq_true rfl)⟩ ⟨(Nat.le_of_ble_eq_true rfl), (Nat.le_of_ble_eq_true rfl)⟩ dX9_shorter_3 rfl rfl ?_
  refine z_aload_n 0 (pc := 6) C dX9_shorter_6 rfl rfl ?_
  refine gfX9_25 (pc := 7) C (rfl : kdM 0 = 9) dX9_shorter_7 ?_
  refine z_iload_n 1 (pc := 10) C dX9_shorter_10 rfl rfl ?_
  obtain ⟨g2, hF⟩ := gd_of hF
  refine iaM8 (pc := 11) C (rfl : kdM 6 = 28) g2 dX9_shorter_11 ?_
  refine z_icmp_le 24 (pc := 12) C dX9_shorter_12 (by decide) (fun c3 => ?_) (fun c3 => ?_)
  · have hF := if_t hF c3
    refine z_aload_n 0 (pc := 24) C dX9_shorter_24 rfl rfl ?_
    refine z_iload_n 1 (pc := 25) C dX9_shorter_25 rfl rfl ?_
    refine z_iload_n 2 (pc := 26) C dX9_shorter_26 rfl rfl ?_
    obtain ⟨v4, hG, hF⟩ := bn1_of hF
    refine z_callV [.int p1, .int p2] (pc := 27) (st1 := [.int v4]) (c1 := 0) (s1 := 0) C (mX9_blankBy C.hT hG) kX9_144 (kdM_lt (rfl : kdM 0 = 9) (by decide)) (gM_9 (rfl : kdM 0 = 9)) rfl rfl rfl rfl (Nat.le_of_ble_eq_true rfl) ⟨(Nat.le_of_ble_eq_true rfl), (Nat.le_of_ble_eq_true rfl)⟩ ⟨(Nat.le_of_ble_eq_true rfl), (Nat.le_of_ble_eq_true rfl)⟩ dX9_shorter_27 rfl rfl ?_
    exact z_iret (pc := 30) C hQ hr rfl dX9_shorter_30 (by cases hF; rfl) (by cases hF; rfl) (Nat.le_of_ble_eq_true rfl) (Nat.le_of_ble_eq_true rfl)
  · have hF := if_f hF c3
    refine z_aload_n 0 (pc := 15) C dX9_shorter_15 rfl rfl ?_
    refine gfX9_25 (pc := 16) C (rfl : kdM 0 = 9) dX9_shorter_16 ?_
    refine z_iload_n 1 (pc := 19) C dX9_shorter_19 rfl rfl ?_
    obtain ⟨g5, hF⟩ := gd_of hF
    refine iaM8 (pc := 20) C (rfl : kdM 6 = 28) g5 dX9_shorter_20 ?_
    refine z_goto 30 (pc := 21) C dX9_shorter_21 (by decide) ?_
    exact z_iret (pc := 30) C hQ hr rfl dX9_shorter_30 (by cases hF; rfl) (by cases hF; rfl) (Nat.le_of_ble_eq_true rfl) (Nat.le_of_ble_eq_true rfl)
def fX9_take_L90 (v8 : Int32) (next20 : Int32 → Int32 → Int32 → St → Option (Int32 × St)) (v16 : Int32) (v17 : Int32) (v18 : Int32) (S19 : St) : Option (Int32 × St) :=
  if (gi S19 0 23) ≤ v18 then (
    some (v16, S19))
  else (
    if v17 ≤ 0 then (
      some (v16, S19))
    else (
      gd (inb v18 20) (
      bn3 (if (gi S19 20 v18.toNatClampNeg) = v8 then (
        gd (inb v18 20) (
        if (gi S19 23 v18.toNatClampNeg) = (2 : Int32) then (
          gd (inb v18 20) (
          if (gi S19 22 v18.toNatClampNeg) ≤ 0 then (
            some (v16, v17, S19))
          else (
            gd (inb v18 20) (
            bn1 (if v17 ≤ (gi S19 22 v18.toNatClampNeg) then (
              some v17)
            else (
              gd (inb v18 20) (
              some (gi S19 22 v18.toNatClampNeg)))) (fun (v41 : Int32) =>
              gd (inb v18 20) (
              gd (inb v18 20) (
              bv (si S19 22 v18.toNatClampNeg ((gi S19 22 v18.toNatClampNeg) - v41)) (fun (S44 : St) =>
              bv ((v17 - v41)) (fun (v46 : Int32) =>
              gd (inb v18 20) (
              bn1 (if (gi S44 22 v18.toNatClampNeg) = 0 then (
                some (1 : Int32))
              else (
                some (0 : Int32))) (fun (v49 : Int32) =>
                bv ((v16 + v49)) (fun (v50 : Int32) =>
                some (v50, v46, S44)))))))))))))
        else (
          some (v16, v17, S19))))
      else (
        some (v16, v17, S19))) (fun (v29 : Int32) (v30 : Int32) (S31 : St) =>
        bv (v18 + 1) (fun (v32 : Int32) =>
        next20 v29 v30 v32 S31)))))
def fX9_take_L61 (p1 : Int32) (p2 : Int32) (next10 : Int32 → Int32 → St → Option (Int32 × St)) (v7 : Int32) (v8 : Int32) (S9 : St) : Option (Int32 × St) :=
  if (gi S9 0 4) ≤ v8 then (
    some (v7, S9))
  else (
    bn1 (if ((p1 >>> (v8 &&& 31)) &&& (1 : Int32)) = (1 : Int32) then (
      some p2)
    else (
      some (0 : Int32))) (fun (v15 : Int32) =>
      bn2 (lq4 (fX9_take_L90 v8) 200 v7 v15 (0 : Int32) S9) (fun (v21 : Int32) (S22 : St) =>
        bv (v8 + 1) (fun (v23 : Int32) =>
        next10 v21 v23 S22))))
def fX9_take (S : St) (p1 : Int32) (p2 : Int32) : Option ((Int32 × St)) :=
  bn1 (fX9_isKit S p1) (fun (v1 : Int32) =>
  bn1 (jn0 (
    some (0 : Int32)) (fun J64 =>
    if v1 = 0 then (
      J64)
    else (
      bn1 (fX9_in p2 (1 : Int32) (50 : Int32)) (fun (v66 : Int32) =>
      if v66 = 0 then (
        J64)
      else (
        some (1 : Int32)))))) (fun (v2 : Int32) =>
    bn1 (if v2 = 0 then (
      some (1 : Int32))
    else (
      bn1 (fX9_kitsOf S p1) (fun (v61 : Int32) =>
      if p2 ≤ v61 then (
        some (0 : Int32))
      else (
        some (2 : Int32))))) (fun (v3 : Int32) =>
      bn2 (fX9_goesWell S v3) (fun (v4 : Int32) (S5 : St) =>
      if v4 = 0 then (
        some ((0 : Int32), S5))
      else (
        bn2 (lq3 (fX9_take_L61 p1 p2) 200 (0 : Int32) (0 : Int32) S5) (fun (v11 : Int32) (S12 : St) =>
          some (v11, S12)))))))
abbrev rmX9_take : Room := { frames := 7, cells := 0, slots := 0, locals := 130 }
set_option maxRecDepth 100000 in
set_option maxHeartbeats 4000000 in
theorem mX9_take {l : Launch} {D : va_G} {cs : Nat → ClassId} {a : Nat → Nat} (hT : l.stackTraces = false) {S : St} {p1 : Int32} {p2 : Int32} {r : Int32} {S' : St} (hF : fX9_take S p1 p2 = some (r, S')) : MX l 33 GM D cs a yX9_take cX9_take 9 (some .int) rmX9_take [.ref (a 0), .int p1, .int p2] S (.inr (some (.int r))) S' := by
  refine zm_entry [(0, .ref (a 0)), (1, .int p1), (2, .int p2)] hT (by decide +kernel) (Nat.le_of_ble_eq_true rfl) rfl (fun E hEl hED hEk C hQ hr => ?_)
  subst hEl
  subst hED
  subst hEk
  unfold fX9_take at hF
  refine z_aload_n 0 (pc := 0) C dX9_take_0 rfl rfl ?_
  refine z_iload_n 1 (pc := 1) C dX9_take_1 rfl rfl ?_
  obtain ⟨v1, hG, hF⟩ := bn1_of hF
  refine z_callV [.int p1] (pc := 2) (st1 := [.int v1]) (c1 := 0) (s1 := 0) C (mX9_isKit C.hT hG) kX9_231 (kdM_lt (rfl : kdM 0 = 9) (by decide)) (gM_9 (rfl : kdM 0 = 9)) rfl rfl rfl rfl (Nat.le_of_ble_eq_true rfl) ⟨(Nat.le_of_ble_eq_true rfl), (Nat.le_of_ble_eq_true rfl)⟩ ⟨(Nat.le_of_ble_eq_true rfl), (Nat.le_of_ble_eq_true rfl)⟩ dX9_take_2 rfl rfl ?_
  obtain ⟨v2', hR, hF⟩ := bn1_of hF
  have hJ63 : ∀ (v2 : Int32), (some v2 : Option (Int32)) = some v2' → Zz E (WM E a S) 0 0 23 [(0, .ref (a 0)), (1, .int p1), (2, .int p2)] [.int v2] := by
    intro v2 hE
    have hE0 := Option.some.inj hE
    subst hE0
    refine z_istore_n (pc := 23) (loc' := [(3, .int v2), (0, .ref (a 0)), (1, .int p1), (2, .int p2)]) C dX9_take_23 rfl (by decide) rfl ?_
    refine z_aload_n 1 (pc := 24) C dX9_take_24 rfl rfl ?_
    refine z_iload_n 0 (pc := 25) C dX9_take_25 rfl rfl ?_
    obtain ⟨v3', hR, hF⟩ := bn1_of hF
    have hJ59 : ∀ (v3 : Int32), (some v3 : Option (Int32)) = some v3' → Zz E (WM E a S) 0 0 47 [(0, .ref (a 0)), (1, .int p1), (2, .int p2)] [.int v3, .ref (a 0)] := by
      intro v3 hE
      have hE0 := Option.some.inj hE
      subst hE0
      obtain ⟨v4, S5, hG, hF⟩ := bn2_of hF
      refine z_callV [.int v3] (pc := 47) (st1 := [.int v4]) (c1 := 0) (s1 := 0) C (mX9_goesWell C.hT hG) kX9_126 (kdM_lt (rfl : kdM 0 = 9) (by decide)) (gM_9 (rfl : kdM 0 = 9)) rfl rfl rfl rfl (Nat.le_of_ble_eq_true rfl) ⟨(Nat.le_of_ble_eq_true rfl), (Nat.le_of_ble_eq_true rfl)⟩ ⟨(Nat.le_of_ble_eq_true rfl), (Nat.le_of_ble_eq_true rfl)⟩ dX9_take_47 rfl rfl ?_
      refine z_if_ne 55 (pc := 50) C dX9_take_50 (by decide) (fun c6 => ?_) (fun c6 => ?_)
      · have hF := if_f hF c6
        refine z_iconst (pc := 55) (v := (0 : Int32)) C dX9_take_55 (by decide) ?_
        refine z_istore (pc := 56) (loc' := [(4, .int (0 : Int32)), (0, .ref (a 0)), (1, .int p1), (2, .int p2)]) C dX9_take_56 (by decide) rfl ?_
        refine z_iconst (pc := 58) (v := (0 : Int32)) C dX9_take_58 (by decide) ?_
        refine z_istore (pc := 59) (loc' := [(5, .int (0 : Int32)), (4, .int (0 : Int32)), (0, .ref (a 0)), (1, .int p1), (2, .int p2)]) C dX9_take_59 (by decide) rfl ?_
        refine z_sub [2, 3, 4, 1, 0] rfl ?_
        obtain ⟨v11', S12', hR, hF⟩ := bn2_of hF
        have hJ13 : ∀ (v11 : Int32) (S12 : St), (some (v11, S12) : Option (Int32 × St)) = some (v11', S12') → Zz E (WM E a S12) 0 0 214 [(4, .int v11)] [] := by
          intro v11 S12 hE
          have hE0 := Option.some.inj hE
          obtain ⟨hA0, hE1⟩ := Prod.mk.inj hE0
          subst hA0
          subst hE1
          refine z_iload 0 (pc := 214) C dX9_take_214 rfl ?_
          exact z_iret (pc := 216) C hQ hr rfl dX9_take_216 (by cases hF; rfl) (by cases hF; rfl) (Nat.le_of_ble_eq_true rfl) (Nat.le_of_ble_eq_true rfl)
        have hF := hR
        clear hR
        refine lq3_W (P := fun (v7 : Int32) (v8 : Int32) (S9 : St) => Zz E (WM E a S9) 0 0 61 [(0, .ref (a 0)), (1, .int p1), (2, .int p2), (4, .int v7), (5, .int v8)] []) (fun next10 hN10 v7 v8 S9 hF => ?_) _ _ _ _ hF
        unfold fX9_take_L61 at hF
        refine z_iload 4 (pc := 61) C dX9_take_61 rfl ?_
        refine z_aload_n 0 (pc := 63) C dX9_take_63 rfl rfl ?_
        refine gfX9_110 (pc := 64) C (rfl : kdM 0 = 9) dX9_take_64 ?_
        refine z_icmp_ge 214 (pc := 67) C dX9_take_67 (by decide) (fun c14 => ?_) (fun c14 => ?_)
        · have hF := if_t hF c14
          refine z_sub [3] rfl ?_
          exact hJ13 _ _ hF
        · have hF := if_f hF c14
          refine z_iload_n 1 (pc := 70) C dX9_take_70 rfl rfl ?_
          refine z_iload 4 (pc := 71) C dX9_take_71 rfl ?_
          refine z_ishr (pc := 73) C dX9_take_73 ?_
          refine z_iconst (pc := 74) (v := (1 : Int32)) C dX9_take_74 (by decide) ?_
          refine z_iand (pc := 75) C dX9_take_75 ?_
          refine z_iconst (pc := 76) (v := (1 : Int32)) C dX9_take_76 (by decide) ?_
          obtain ⟨v15', hR, hF⟩ := bn1_of hF
          have hJ57 : ∀ (v15 : Int32), (some v15 : Option (Int32)) = some v15' → Zz E (WM E a S9) 0 0 85 [(0, .ref (a 0)), (1, .int p1), (2, .int p2), (4, .int v7), (5, .int v8)] [.int v15] := by
            intro v15 hE
            have hE0 := Option.some.inj hE
            subst hE0
            refine z_istore (pc := 85) (loc' := [(6, .int v15), (0, .ref (a 0)), (1, .int p1), (2, .int p2), (4, .int v7), (5, .int v8)]) C dX9_take_85 (by decide) rfl ?_
            refine z_iconst (pc := 87) (v := (0 : Int32)) C dX9_take_87 (by decide) ?_
            refine z_istore (pc := 88) (loc' := [(7, .int (0 : Int32)), (6, .int v15), (0, .ref (a 0)), (1, .int p1), (2, .int p2), (4, .int v7), (5, .int v8)]) C dX9_take_88 (by decide) rfl ?_
            refine z_sub [2, 3, 4, 5, 6, 1, 0] rfl ?_
            obtain ⟨v21', S22', hR, hF⟩ := bn2_of hF
            have hJ25 : ∀ (v21 : Int32) (S22 : St), (some (v21, S22) : Option (Int32 × St)) = some (v21', S22') → Zz E (WM E a S22) 0 0 208 [(0, .ref (a 0)), (1, .int p1), (2, .int p2), (4, .int v21), (5, .int v8)] [] := by
              intro v21 S22 hE
              have hE0 := Option.some.inj hE
              obtain ⟨hA0, hE1⟩ := Prod.mk.inj hE0
              subst hA0
              subst hE1
              obtain ⟨v23, e24, hF⟩ := bv_of hF
              refine z_iinc 4 (pc := 208) (v := v23) (loc' := [(5, .int v23), (0, .ref (a 0)), (1, .int p1), (2, .int p2), (4, .int v21)]) C dX9_take_208 rfl (by rw [e24]; rfl) (by decide) rfl ?_
              refine z_goto 61 (pc := 211) C dX9_take_211 (by decide) ?_
              refine z_sub [1, 2, 3, 4, 0] rfl ?_
              exact hN10 _ _ _ hF
            have hF := hR
            clear hR
            refine lq4_W (P := fun (v16 : Int32) (v17 : Int32) (v18 : Int32) (S19 : St) => Zz E (WM E a S19) 0 0 90 [(0, .ref (a 0)), (1, .int p1), (2, .int p2), (4, .int v16), (5, .int v8), (6, .int v17), (7, .int v18)] []) (fun next20 hN20 v16 v17 v18 S19 hF => ?_) _ _ _ _ _ hF
            unfold fX9_take_L90 at hF
            refine z_iload 6 (pc := 90) C dX9_take_90 rfl ?_
            refine z_aload_n 0 (pc := 92) C dX9_take_92 rfl rfl ?_
            refine gfX9_120 (pc := 93) C (rfl : kdM 0 = 9) dX9_take_93 ?_
            refine z_icmp_ge 208 (pc := 96) C dX9_take_96 (by decide) (fun c26 => ?_) (fun c26 => ?_)
            · have hF := if_t hF c26
              refine z_sub [0, 1, 2, 3, 4] rfl ?_
              exact hJ25 _ _ hF
            · have hF := if_f hF c26
              refine z_iload 5 (pc := 99) C dX9_take_99 rfl ?_
              refine z_if_le 208 (pc := 101) C dX9_take_101 (by decide) (fun c27 => ?_) (fun c27 => ?_)
              · have hF := if_t hF c27
                refine z_sub [0, 1, 2, 3, 4] rfl ?_
                exact hJ25 _ _ hF
              · have hF := if_f hF c27
                refine z_aload_n 0 (pc := 104) C dX9_take_104 rfl rfl ?_
                refine gfX9_67 (pc := 105) C (rfl : kdM 0 = 9) dX9_take_105 ?_
                refine z_iload 6 (pc := 108) C dX9_take_108 rfl ?_
                obtain ⟨g28, hF⟩ := gd_of hF
                refine iaM20 (pc := 110) C (rfl : kdM 20 = 40) g28 dX9_take_110 ?_
                refine z_iload 4 (pc := 111) C dX9_take_111 rfl ?_
                obtain ⟨v29', v30', S31', hR, hF⟩ := bn3_of hF
                have hJ34 : ∀ (v29 : Int32) (v30 : Int32) (S31 : St), (some (v29, v30, S31) : Option (Int32 × Int32 × St)) = some (v29', v30', S31') → Zz E (WM E a S31) 0 0 202 [(0, .ref (a 0)), (1, .int p1), (2, .int p2), (4, .int v29), (5, .int v8), (6, .int v30), (7, .int v18)] [] := by
                  intro v29 v30 S31 hE
                  have hE0 := Option.some.inj hE
                  obtain ⟨hA0, hE1⟩ := Prod.mk.inj hE0
                  obtain ⟨hA1, hE2⟩ := Prod.mk.inj hE1
                  subst hA0
                  subst hA1
                  subst hE2
                  obtain ⟨v32, e33, hF⟩ := bv_of hF
                  refine z_iinc 6 (pc := 202) (v := v32) (loc' := [(7, .int v32), (0, .ref (a 0)), (1, .int p1), (2, .int p2), (4, .int v29), (5, .int v8), (6, .int v30)]) C dX9_take_202 rfl (by rw [e33]; rfl) (by decide) rfl ?_
                  refine z_goto 90 (pc := 205) C dX9_take_205 (by decide) ?_
                  refine z_sub [1, 2, 3, 4, 5, 6, 0] rfl ?_
                  exact hN20 _ _ _ _ hF
                have hF := hR
                clear hR
                refine z_icmp_ne 202 (pc := 113) C dX9_take_113 (by decide) (fun c35 => ?_) (fun c35 => ?_)
                · have hF := if_f hF c35
                  exact hJ34 _ _ _ hF
                · have hF := if_t hF c35
                  refine z_aload_n 0 (pc := 116) C dX9_take_116 rfl rfl ?_
                  refine gfX9_76 (pc := 117) C (rfl : kdM 0 = 9) dX9_take_117 ?_
                  refine z_iload 6 (pc := 120) C dX9_take_120 rfl ?_
                  obtain ⟨g36, hF⟩ := gd_of hF
                  refine iaM20 (pc := 122) C (rfl : kdM 23 = 40) g36 dX9_take_122 ?_
                  refine z_iconst (pc := 123) (v := (2 : Int32)) C dX9_take_123 (by decide) ?_
                  refine z_icmp_ne 202 (pc := 124) C dX9_take_124 (by decide) (fun c37 => ?_) (fun c37 => ?_)
                  · have hF := if_f hF c37
                    exact hJ34 _ _ _ hF
                  · have hF := if_t hF c37
                    refine z_aload_n 0 (pc := 127) C dX9_take_127 rfl rfl ?_
                    refine gfX9_73 (pc := 128) C (rfl : kdM 0 = 9) dX9_take_128 ?_
                    refine z_iload 6 (pc := 131) C dX9_take_131 rfl ?_
                    obtain ⟨g38, hF⟩ := gd_of hF
                    refine iaM20 (pc := 133) C (rfl : kdM 22 = 40) g38 dX9_take_133 ?_
                    refine z_if_le 202 (pc := 134) C dX9_take_134 (by decide) (fun c39 => ?_) (fun c39 => ?_)
                    · have hF := if_t hF c39
                      exact hJ34 _ _ _ hF
                    · have hF := if_f hF c39
                      refine z_aload_n 0 (pc := 137) C dX9_take_137 rfl rfl ?_
                      refine gfX9_73 (pc := 138) C (rfl : kdM 0 = 9) dX9_take_138 ?_
                      refine z_iload 6 (pc := 141) C dX9_take_141 rfl ?_
                      obtain ⟨g40, hF⟩ := gd_of hF
                      refine iaM20 (pc := 143) C (rfl : kdM 22 = 40) g40 dX9_take_143 ?_
                      refine z_iload 5 (pc := 144) C dX9_take_144 rfl ?_
                      obtain ⟨v41', hR, hF⟩ := bn1_of hF
                      have hJ54 : ∀ (v41 : Int32), (some v41 : Option (Int32)) = some v41' → Zz E (WM E a S19) 0 0 161 [(0, .ref (a 0)), (1, .int p1), (2, .int p2), (4, .int v16), (5, .int v8), (6, .int v17), (7, .int v18)] [.int v41] := by
                        intro v41 hE
                        have hE0 := Option.some.inj hE
                        subst hE0
                        refine z_istore (pc := 161) (loc' := [(8, .int v41), (0, .ref (a 0)), (1, .int p1), (2, .int p2), (4, .int v16), (5, .int v8), (6, .int v17), (7, .int v18)]) C dX9_take_161 (by decide) rfl ?_
                        refine z_aload_n 1 (pc := 163) C dX9_take_163 rfl rfl ?_
                        refine gfX9_73 (pc := 164) C (rfl : kdM 0 = 9) dX9_take_164 ?_
                        refine z_iload 7 (pc := 167) C dX9_take_167 rfl ?_
                        refine z_dup2 (pc := 169) C dX9_take_169 rfl rfl ?_
                        obtain ⟨g42, hF⟩ := gd_of hF
                        refine iaM20 (pc := 170) C (rfl : kdM 22 = 40) g42 dX9_take_170 ?_
                        refine z_iload 0 (pc := 171) C dX9_take_171 rfl ?_
                        refine z_isub (pc := 173) C dX9_take_173 ?_
                        obtain ⟨g43, hF⟩ := gd_of hF
                        refine saM20 (pc := 174) C (rfl : kdM 22 = 40) g43 dX9_take_174 ?_
                        obtain ⟨S44, e45, hF⟩ := bv_of hF
                        rw [← e45]
                        refine z_iload 6 (pc := 175) C dX9_take_175 rfl ?_
                        refine z_iload 0 (pc := 177) C dX9_take_177 rfl ?_
                        refine z_isub (pc := 179) C dX9_take_179 ?_
                        obtain ⟨v46, e47, hF⟩ := bv_of hF
                        refine z_topi e47 ?_
                        refine z_istore (pc := 180) (loc' := [(6, .int v46), (8, .int v41), (0, .ref (a 0)), (1, .int p1), (2, .int p2), (4, .int v16), (5, .int v8), (7, .int v18)]) C dX9_take_180 (by decide) rfl ?_
                        refine z_iload 5 (pc := 182) C dX9_take_182 rfl ?_
                        refine z_aload_n 2 (pc := 184) C dX9_take_184 rfl rfl ?_
                        refine gfX9_73 (pc := 185) C (rfl : kdM 0 = 9) dX9_take_185 ?_
                        refine z_iload 7 (pc := 188) C dX9_take_188 rfl ?_
                        obtain ⟨g48, hF⟩ := gd_of hF
                        refine iaM20 (pc := 190) C (rfl : kdM 22 = 40) g48 dX9_take_190 ?_
                        obtain ⟨v49', hR, hF⟩ := bn1_of hF
                        have hJ52 : ∀ (v49 : Int32), (some v49 : Option (Int32)) = some v49' → Zz E (WM E a S44) 0 0 199 [(0, .ref (a 0)), (1, .int p1), (2, .int p2), (5, .int v8), (6, .int v46), (7, .int v18)] [.int v49, .int v16] := by
                          intro v49 hE
                          have hE0 := Option.some.inj hE
                          subst hE0
                          refine z_iadd (pc := 199) C dX9_take_199 ?_
                          obtain ⟨v50, e51, hF⟩ := bv_of hF
                          refine z_topi e51 ?_
                          refine z_istore (pc := 200) (loc' := [(4, .int v50), (0, .ref (a 0)), (1, .int p1), (2, .int p2), (5, .int v8), (6, .int v46), (7, .int v18)]) C dX9_take_200 (by decide) rfl ?_
                          refine z_sub [1, 2, 3, 0, 4, 5, 6] rfl ?_
                          exact hJ34 _ _ _ hF
                        have hF := hR
                        clear hR
                        refine z_if_ne 198 (pc := 191) C dX9_take_191 (by decide) (fun c53 => ?_) (fun c53 => ?_)
                        · have hF := if_f hF c53
                          refine z_iconst (pc := 198) (v := (0 : Int32)) C dX9_take_198 (by decide) ?_
                          refine z_sub [2, 3, 4, 6, 0, 7] rfl ?_
                          exact hJ52 _ hF
                        · have hF := if_t hF c53
                          refine z_iconst (pc := 194) (v := (1 : Int32)) C dX9_take_194 (by decide) ?_
                          refine z_goto 199 (pc := 195) C dX9_take_195 (by decide) ?_
                          refine z_sub [2, 3, 4, 6, 0, 7] rfl ?_
                          exact hJ52 _ hF
                      have hF := hR
                      clear hR
                      refine z_icmp_ge 159 (pc := 146) C dX9_take_146 (by decide) (fun c55 => ?_) (fun c55 => ?_)
                      · have hF := if_t hF c55
                        refine z_iload 5 (pc := 159) C dX9_take_159 rfl ?_
                        exact hJ54 _ hF
                      · have hF := if_f hF c55
                        refine z_aload_n 0 (pc := 149) C dX9_take_149 rfl rfl ?_
                        refine gfX9_73 (pc := 150) C (rfl : kdM 0 = 9) dX9_take_150 ?_
                        refine z_iload 6 (pc := 153) C dX9_take_153 rfl ?_
                        obtain ⟨g56, hF⟩ := gd_of hF
                        refine iaM20 (pc := 155) C (rfl : kdM 22 = 40) g56 dX9_take_155 ?_
                        refine z_goto 161 (pc := 156) C dX9_take_156 (by decide) ?_
                        exact hJ54 _ hF
          have hF := hR
          clear hR
          refine z_icmp_ne 84 (pc := 77) C dX9_take_77 (by decide) (fun c58 => ?_) (fun c58 => ?_)
          · have hF := if_f hF c58
            refine z_iconst (pc := 84) (v := (0 : Int32)) C dX9_take_84 (by decide) ?_
            exact hJ57 _ hF
          · have hF := if_t hF c58
            refine z_iload_n 2 (pc := 80) C dX9_take_80 rfl rfl ?_
            refine z_goto 85 (pc := 81) C dX9_take_81 (by decide) ?_
            exact hJ57 _ hF
      · have hF := if_t hF c6
        refine z_iconst (pc := 53) (v := (0 : Int32)) C dX9_take_53 (by decide) ?_
        exact z_iret (pc := 54) C hQ hr rfl dX9_take_54 (by cases hF; rfl) (by cases hF; rfl) (Nat.le_of_ble_eq_true rfl) (Nat.le_of_ble_eq_true rfl)
    have hF := hR
    clear hR
    refine z_if_ne 33 (pc := 26) C dX9_take_26 (by decide) (fun c60 => ?_) (fun c60 => ?_)
    · have hF := if_f hF c60
      refine z_aload_n 1 (pc := 33) C dX9_take_33 rfl rfl ?_
      refine z_iload_n 2 (pc := 34) C dX9_take_34 rfl rfl ?_
      obtain ⟨v61, hG, hF⟩ := bn1_of hF
      refine z_callV [.int p1] (pc := 35) (st1 := [.int v61, .ref (a 0)]) (c1 := 0) (s1 := 0) C (mX9_kitsOf C.hT hG) kX9_234 (kdM_lt (rfl : kdM 0 = 9) (by decide)) (gM_9 (rfl : kdM 0 = 9)) rfl rfl rfl rfl (Nat.le_of_ble_eq_true rfl) ⟨(Nat.le_of_ble_eq_true rfl), (Nat.le_of_ble_eq_true rfl)⟩ ⟨(Nat.le_of_ble_eq_true rfl), (Nat.le_of_ble_eq_true rfl)⟩ dX9_take_35 rfl rfl ?_
      refine z_iload_n 3 (pc := 38) C dX9_take_38 rfl rfl ?_
      refine z_icmp_ge 46 (pc := 39) C dX9_take_39 (by decide) (fun c62 => ?_) (fun c62 => ?_)
      · have hF := if_t hF c62
        refine z_iconst (pc := 46) (v := (0 : Int32)) C dX9_take_46 (by decide) ?_
        refine z_sub [1, 2, 3] rfl ?_
        exact hJ59 _ hF
      · have hF := if_f hF c62
        refine z_iconst (pc := 42) (v := (2 : Int32)) C dX9_take_42 (by decide) ?_
        refine z_goto 47 (pc := 43) C dX9_take_43 (by decide) ?_
        refine z_sub [1, 2, 3] rfl ?_
        exact hJ59 _ hF
    · have hF := if_t hF c60
      refine z_iconst (pc := 29) (v := (1 : Int32)) C dX9_take_29 (by decide) ?_
      refine z_goto 47 (pc := 30) C dX9_take_30 (by decide) ?_
      refine z_sub [1, 2, 3] rfl ?_
      exact hJ59 _ hF
  have hF := hR
  clear hR
  obtain ⟨J64, hdJ64, hF⟩ := jn0_of hF
  have hJ64 : J64 = some v2' → Zz E (WM E a S) 0 0 22 [(0, .ref (a 0)), (1, .int p1), (2, .int p2)] [] := by
    intro hF
    have hF := hdJ64.symm.trans hF
    refine z_iconst (pc := 22) (v := (0 : Int32)) C dX9_take_22 (by decide) ?_
    exact hJ63 _ hF
  refine z_if_eq 22 (pc := 5) C dX9_take_5 (by decide) (fun c65 => ?_) (fun c65 => ?_)
  · have hF := if_t hF c65
    exact hJ64 hF
  · have hF := if_f hF c65
    refine z_iload_n 2 (pc := 8) C dX9_take_8 rfl rfl ?_
    refine z_iconst (pc := 9) (v := (1 : Int32)) C dX9_take_9 (by decide) ?_
    refine z_bipush (pc := 10) (v := (50 : Int32)) C dX9_take_10 (by decide) ?_
    obtain ⟨v66, hG, hF⟩ := bn1_of hF
    refine z_callS [.int p2, .int (1 : Int32), .int (50 : Int32)] (pc := 12) (st1 := [.int v66]) (c1 := 0) (s1 := 0) C (mX9_in C.hT hG) kX9_113 rfl rfl rfl rfl (Nat.le_of_ble_eq_true rfl) ⟨(Nat.le_of_ble_eq_true rfl), (Nat.le_of_ble_eq_true rfl)⟩ ⟨(Nat.le_of_ble_eq_true rfl), (Nat.le_of_ble_eq_true rfl)⟩ dX9_take_12 rfl rfl ?_
    refine z_if_eq 22 (pc := 15) C dX9_take_15 (by decide) (fun c67 => ?_) (fun c67 => ?_)
    · have hF := if_t hF c67
      exact hJ64 hF
    · have hF := if_f hF c67
      refine z_iconst (pc := 18) (v := (1 : Int32)) C dX9_take_18 (by decide) ?_
      refine z_goto 23 (pc := 19) C dX9_take_19 (by decide) ?_
      exact hJ63 _ hF
def fX9_tool_L151 (next24 : Int32 → St → Option (St)) (v22 : Int32) (S23 : St) : Option (St) :=
  if (5 : Int32) ≤ v22 then (
    some S23)
  else (
    gd (inb (((5 : Int32) * (gi S23 0 15)) + v22) 20) (
    bv (si S23 18 (((5 : Int32) * (gi S23 0 15)) + v22).toNatClampNeg ((2 : Int32) * v22)) (fun (S31 : St) =>
    bv (v22 + 1) (fun (v33 : Int32) =>
    next24 v33 S31))))
def fX9_tool (S : St) (p1 : Int32) (p2 : Int32) (p3 : Int32) (p4 : Int32) (p5 : Int32) : Option ((Int32 × St)) :=
  bn1 (fX9_in p1 (4 : Int32) (60 : Int32)) (fun (v1 : Int32) =>
  bn1 (jn0 (
    some (0 : Int32)) (fun J39 =>
    if v1 = 0 then (
      J39)
    else (
      bn1 (fX9_in p2 (0 : Int32) (30 : Int32)) (fun (v41 : Int32) =>
      if v41 = 0 then (
        J39)
      else (
        bn1 (fX9_in p3 (10 : Int32) (200 : Int32)) (fun (v43 : Int32) =>
        if v43 = 0 then (
          J39)
        else (
          bn1 (fX9_in p4 (10 : Int32) (200 : Int32)) (fun (v45 : Int32) =>
          if v45 = 0 then (
            J39)
          else (
            bn1 (fX9_in p5 (20 : Int32) (600 : Int32)) (fun (v47 : Int32) =>
            if v47 = 0 then (
              J39)
            else (
              some (1 : Int32)))))))))))) (fun (v2 : Int32) =>
    bn1 (if v2 = 0 then (
      some (1 : Int32))
    else (
      if (gi S 0 15) = (4 : Int32) then (
        some (2 : Int32))
      else (
        some (0 : Int32)))) (fun (v3 : Int32) =>
      bn2 (fX9_goesWell S v3) (fun (v4 : Int32) (S5 : St) =>
      if v4 = 0 then (
        some ((0 : Int32), S5))
      else (
        gd (inb (gi S5 0 15) 4) (
        bv (si S5 13 (gi S5 0 15).toNatClampNeg p1) (fun (S8 : St) =>
        gd (inb (gi S8 0 15) 4) (
        bv (si S8 14 (gi S8 0 15).toNatClampNeg p2) (fun (S11 : St) =>
        gd (inb (gi S11 0 15) 4) (
        bv (si S11 15 (gi S11 0 15).toNatClampNeg p3) (fun (S14 : St) =>
        gd (inb (gi S14 0 15) 4) (
        bv (si S14 16 (gi S14 0 15).toNatClampNeg p4) (fun (S17 : St) =>
        gd (inb (gi S17 0 15) 4) (
        bv (si S17 17 (gi S17 0 15).toNatClampNeg p5) (fun (S20 : St) =>
        bn1 (lq2 (fX9_tool_L151) 200 (1 : Int32) S20) (fun (S25 : St) =>
          bv (si S25 0 15 ((gi S25 0 15) + (1 : Int32))) (fun (S26 : St) =>
          some (((gi S26 0 15) - (1 : Int32)), S26))))))))))))))))))
abbrev rmX9_tool : Room := { frames := 7, cells := 0, slots := 0, locals := 130 }
set_option maxRecDepth 100000 in
set_option maxHeartbeats 4000000 in
theorem mX9_tool {l : Launch} {D : va_G} {cs : Nat → ClassId} {a : Nat → Nat} (hT : l.stackTraces = false) {S : St} {p1 : Int32} {p2 : Int32} {p3 : Int32} {p4 : Int32} {p5 : Int32} {r : Int32} {S' : St} (hF : fX9_tool S p1 p2 p3 p4 p5 = some (r, S')) : MX l 33 GM D cs a yX9_tool cX9_tool 8 (some .int) rmX9_tool [.ref (a 0), .int p1, .int p2, .int p3, .int p4, .int p5] S (.inr (some (.int r))) S' := by
  refine zm_entry [(0, .ref (a 0)), (1, .int p1), (2, .int p2), (3, .int p3), (4, .int p4), (5, .int p5)] hT (by decide +kernel) (Nat.le_of_ble_eq_true rfl) rfl (fun E hEl hED hEk C hQ hr => ?_)
  subst hEl
  subst hED
  subst hEk
  unfold fX9_tool at hF
  refine z_iload_n 1 (pc := 0) C dX9_tool_0 rfl rfl ?_
  refine z_iconst (pc := 1) (v := (4 : Int32)) C dX9_tool_1 (by decide) ?_
  refine z_bipush (pc := 2) (v := (60 : Int32)) C dX9_tool_2 (by decide) ?_
  obtain ⟨v1, hG, hF⟩ := bn1_of hF
  refine z_callS [.int p1, .int (4 : Int32), .int (60 : Int32)] (pc := 4) (st1 := [.int v1]) (c1 := 0) (s1 := 0) C (mX9_in C.hT hG) kX9_113 rfl rfl rfl rfl (Nat.le_of_ble_eq_true rfl) ⟨(Nat.le_of_ble_eq_true rfl), (Nat.le_of_ble_eq_true rfl)⟩ ⟨(Nat.le_of_ble_eq_true rfl), (Nat.le_of_ble_eq_true rfl)⟩ dX9_tool_4 rfl rfl ?_
  obtain ⟨v2', hR, hF⟩ := bn1_of hF
  have hJ38 : ∀ (v2 : Int32), (some v2 : Option (Int32)) = some v2' → Zz E (WM E a S) 0 0 63 [(0, .ref (a 0)), (1, .int p1), (2, .int p2), (3, .int p3), (4, .int p4), (5, .int p5)] [.int v2] := by
    intro v2 hE
    have hE0 := Option.some.inj hE
    subst hE0
    refine z_istore (pc := 63) (loc' := [(6, .int v2), (0, .ref (a 0)), (1, .int p1), (2, .int p2), (3, .int p3), (4, .int p4), (5, .int p5)]) C dX9_tool_63 (by decide) rfl ?_
    refine z_aload_n 1 (pc := 65) C dX9_tool_65 rfl rfl ?_
    refine z_iload 0 (pc := 66) C dX9_tool_66 rfl ?_
    obtain ⟨v3', hR, hF⟩ := bn1_of hF
    have hJ35 : ∀ (v3 : Int32), (some v3 : Option (Int32)) = some v3' → Zz E (WM E a S) 0 0 88 [(0, .ref (a 0)), (1, .int p1), (2, .int p2), (3, .int p3), (4, .int p4), (5, .int p5)] [.int v3, .ref (a 0)] := by
      intro v3 hE
      have hE0 := Option.some.inj hE
      subst hE0
      obtain ⟨v4, S5, hG, hF⟩ := bn2_of hF
      refine z_callV [.int v3] (pc := 88) (st1 := [.int v4]) (c1 := 0) (s1 := 0) C (mX9_goesWell C.hT hG) kX9_126 (kdM_lt (rfl : kdM 0 = 9) (by decide)) (gM_9 (rfl : kdM 0 = 9)) rfl rfl rfl rfl (Nat.le_of_ble_eq_true rfl) ⟨(Nat.le_of_ble_eq_true rfl), (Nat.le_of_ble_eq_true rfl)⟩ ⟨(Nat.le_of_ble_eq_true rfl), (Nat.le_of_ble_eq_true rfl)⟩ dX9_tool_88 rfl rfl ?_
      refine z_if_ne 96 (pc := 91) C dX9_tool_91 (by decide) (fun c6 => ?_) (fun c6 => ?_)
      · have hF := if_f hF c6
        refine z_aload_n 0 (pc := 96) C dX9_tool_96 rfl rfl ?_
        refine gfX9_46 (pc := 97) C (rfl : kdM 0 = 9) dX9_tool_97 ?_
        refine z_aload_n 0 (pc := 100) C dX9_tool_100 rfl rfl ?_
        refine gfX9_117 (pc := 101) C (rfl : kdM 0 = 9) dX9_tool_101 ?_
        refine z_iload_n 1 (pc := 104) C dX9_tool_104 rfl rfl ?_
        obtain ⟨g7, hF⟩ := gd_of hF
        refine saM4 (pc := 105) C (rfl : kdM 13 = 24) g7 dX9_tool_105 ?_
        obtain ⟨S8, e9, hF⟩ := bv_of hF
        rw [← e9]
        refine z_aload_n 0 (pc := 106) C dX9_tool_106 rfl rfl ?_
        refine gfX9_49 (pc := 107) C (rfl : kdM 0 = 9) dX9_tool_107 ?_
        refine z_aload_n 0 (pc := 110) C dX9_tool_110 rfl rfl ?_
        refine gfX9_117 (pc := 111) C (rfl : kdM 0 = 9) dX9_tool_111 ?_
        refine z_iload_n 2 (pc := 114) C dX9_tool_114 rfl rfl ?_
        obtain ⟨g10, hF⟩ := gd_of hF
        refine saM4 (pc := 115) C (rfl : kdM 14 = 24) g10 dX9_tool_115 ?_
        obtain ⟨S11, e12, hF⟩ := bv_of hF
        rw [← e12]
        refine z_aload_n 0 (pc := 116) C dX9_tool_116 rfl rfl ?_
        refine gfX9_52 (pc := 117) C (rfl : kdM 0 = 9) dX9_tool_117 ?_
        refine z_aload_n 0 (pc := 120) C dX9_tool_120 rfl rfl ?_
        refine gfX9_117 (pc := 121) C (rfl : kdM 0 = 9) dX9_tool_121 ?_
        refine z_iload_n 3 (pc := 124) C dX9_tool_124 rfl rfl ?_
        obtain ⟨g13, hF⟩ := gd_of hF
        refine saM4 (pc := 125) C (rfl : kdM 15 = 24) g13 dX9_tool_125 ?_
        obtain ⟨S14, e15, hF⟩ := bv_of hF
        rw [← e15]
        refine z_aload_n 0 (pc := 126) C dX9_tool_126 rfl rfl ?_
        refine gfX9_55 (pc := 127) C (rfl : kdM 0 = 9) dX9_tool_127 ?_
        refine z_aload_n 0 (pc := 130) C dX9_tool_130 rfl rfl ?_
        refine gfX9_117 (pc := 131) C (rfl : kdM 0 = 9) dX9_tool_131 ?_
        refine z_iload 4 (pc := 134) C dX9_tool_134 rfl ?_
        obtain ⟨g16, hF⟩ := gd_of hF
        refine saM4 (pc := 136) C (rfl : kdM 16 = 24) g16 dX9_tool_136 ?_
        obtain ⟨S17, e18, hF⟩ := bv_of hF
        rw [← e18]
        refine z_aload_n 0 (pc := 137) C dX9_tool_137 rfl rfl ?_
        refine gfX9_58 (pc := 138) C (rfl : kdM 0 = 9) dX9_tool_138 ?_
        refine z_aload_n 0 (pc := 141) C dX9_tool_141 rfl rfl ?_
        refine gfX9_117 (pc := 142) C (rfl : kdM 0 = 9) dX9_tool_142 ?_
        refine z_iload 5 (pc := 145) C dX9_tool_145 rfl ?_
        obtain ⟨g19, hF⟩ := gd_of hF
        refine saM4 (pc := 147) C (rfl : kdM 17 = 24) g19 dX9_tool_147 ?_
        obtain ⟨S20, e21, hF⟩ := bv_of hF
        rw [← e21]
        refine z_iconst (pc := 148) (v := (1 : Int32)) C dX9_tool_148 (by decide) ?_
        refine z_istore (pc := 149) (loc' := [(7, .int (1 : Int32)), (0, .ref (a 0)), (1, .int p1), (2, .int p2), (3, .int p3), (4, .int p4), (5, .int p5)]) C dX9_tool_149 (by decide) rfl ?_
        refine z_sub [1, 0] rfl ?_
        obtain ⟨S25', hR, hF⟩ := bn1_of hF
        have hJ28 : ∀ (S25 : St), (some S25 : Option (St)) = some S25' → Zz E (WM E a S25) 0 0 181 [(0, .ref (a 0))] [] := by
          intro S25 hE
          have hE0 := Option.some.inj hE
          subst hE0
          refine z_aload_n 0 (pc := 181) C dX9_tool_181 rfl rfl ?_
          refine z_dup (pc := 182) C dX9_tool_182 rfl ?_
          refine gfX9_117 (pc := 183) C (rfl : kdM 0 = 9) dX9_tool_183 ?_
          refine z_iconst (pc := 186) (v := (1 : Int32)) C dX9_tool_186 (by decide) ?_
          refine z_iadd (pc := 187) C dX9_tool_187 ?_
          refine pfX9_117 (pc := 188) C (rfl : kdM 0 = 9) dX9_tool_188 ?_
          obtain ⟨S26, e27, hF⟩ := bv_of hF
          rw [← e27]
          refine z_aload_n 0 (pc := 191) C dX9_tool_191 rfl rfl ?_
          refine gfX9_117 (pc := 192) C (rfl : kdM 0 = 9) dX9_tool_192 ?_
          refine z_iconst (pc := 195) (v := (1 : Int32)) C dX9_tool_195 (by decide) ?_
          refine z_isub (pc := 196) C dX9_tool_196 ?_
          exact z_iret (pc := 197) C hQ hr rfl dX9_tool_197 (by cases hF; rfl) (by cases hF; rfl) (Nat.le_of_ble_eq_true rfl) (Nat.le_of_ble_eq_true rfl)
        have hF := hR
        clear hR
        refine lq2_W (P := fun (v22 : Int32) (S23 : St) => Zz E (WM E a S23) 0 0 151 [(0, .ref (a 0)), (7, .int v22)] []) (fun next24 hN24 v22 S23 hF => ?_) _ _ _ hF
        unfold fX9_tool_L151 at hF
        refine z_iload 1 (pc := 151) C dX9_tool_151 rfl ?_
        refine z_iconst (pc := 153) (v := (5 : Int32)) C dX9_tool_153 (by decide) ?_
        refine z_icmp_ge 181 (pc := 154) C dX9_tool_154 (by decide) (fun c29 => ?_) (fun c29 => ?_)
        · have hF := if_t hF c29
          refine z_sub [0] rfl ?_
          exact hJ28 _ hF
        · have hF := if_f hF c29
          refine z_aload_n 0 (pc := 157) C dX9_tool_157 rfl rfl ?_
          refine gfX9_61 (pc := 158) C (rfl : kdM 0 = 9) dX9_tool_158 ?_
          refine z_iconst (pc := 161) (v := (5 : Int32)) C dX9_tool_161 (by decide) ?_
          refine z_aload_n 0 (pc := 162) C dX9_tool_162 rfl rfl ?_
          refine gfX9_117 (pc := 163) C (rfl : kdM 0 = 9) dX9_tool_163 ?_
          refine z_imul (pc := 166) C dX9_tool_166 ?_
          refine z_iload 1 (pc := 167) C dX9_tool_167 rfl ?_
          refine z_iadd (pc := 169) C dX9_tool_169 ?_
          refine z_iconst (pc := 170) (v := (2 : Int32)) C dX9_tool_170 (by decide) ?_
          refine z_iload 1 (pc := 171) C dX9_tool_171 rfl ?_
          refine z_imul (pc := 173) C dX9_tool_173 ?_
          obtain ⟨g30, hF⟩ := gd_of hF
          refine saM20 (pc := 174) C (rfl : kdM 18 = 40) g30 dX9_tool_174 ?_
          obtain ⟨S31, e32, hF⟩ := bv_of hF
          rw [← e32]
          obtain ⟨v33, e34, hF⟩ := bv_of hF
          refine z_iinc 1 (pc := 175) (v := v33) (loc' := [(7, .int v33), (0, .ref (a 0))]) C dX9_tool_175 rfl (by rw [e34]; rfl) (by decide) rfl ?_
          refine z_goto 151 (pc := 178) C dX9_tool_178 (by decide) ?_
          refine z_sub [1, 0] rfl ?_
          exact hN24 _ _ hF
      · have hF := if_t hF c6
        refine z_iconst (pc := 94) (v := (0 : Int32)) C dX9_tool_94 (by decide) ?_
        exact z_iret (pc := 95) C hQ hr rfl dX9_tool_95 (by cases hF; rfl) (by cases hF; rfl) (Nat.le_of_ble_eq_true rfl) (Nat.le_of_ble_eq_true rfl)
    have hF := hR
    clear hR
    refine z_if_ne 75 (pc := 68) C dX9_tool_68 (by decide) (fun c36 => ?_) (fun c36 => ?_)
    · have hF := if_f hF c36
      refine z_aload_n 1 (pc := 75) C dX9_tool_75 rfl rfl ?_
      refine gfX9_117 (pc := 76) C (rfl : kdM 0 = 9) dX9_tool_76 ?_
      refine z_iconst (pc := 79) (v := (4 : Int32)) C dX9_tool_79 (by decide) ?_
      refine z_icmp_ne 87 (pc := 80) C dX9_tool_80 (by decide) (fun c37 => ?_) (fun c37 => ?_)
      · have hF := if_f hF c37
        refine z_iconst (pc := 87) (v := (0 : Int32)) C dX9_tool_87 (by decide) ?_
        refine z_sub [1, 2, 3, 4, 5, 6] rfl ?_
        exact hJ35 _ hF
      · have hF := if_t hF c37
        refine z_iconst (pc := 83) (v := (2 : Int32)) C dX9_tool_83 (by decide) ?_
        refine z_goto 88 (pc := 84) C dX9_tool_84 (by decide) ?_
        refine z_sub [1, 2, 3, 4, 5, 6] rfl ?_
        exact hJ35 _ hF
    · have hF := if_t hF c36
      refine z_iconst (pc := 71) (v := (1 : Int32)) C dX9_tool_71 (by decide) ?_
      refine z_goto 88 (pc := 72) C dX9_tool_72 (by decide) ?_
      refine z_sub [1, 2, 3, 4, 5, 6] rfl ?_
      exact hJ35 _ hF
  have hF := hR
  clear hR
  obtain ⟨J39, hdJ39, hF⟩ := jn0_of hF
  have hJ39 : J39 = some v2' → Zz E (WM E a S) 0 0 62 [(0, .ref (a 0)), (1, .int p1), (2, .int p2), (3, .int p3), (4, .int p4), (5, .int p5)] [] := by
    intro hF
    have hF := hdJ39.symm.trans hF
    refine z_iconst (pc := 62) (v := (0 : Int32)) C dX9_tool_62 (by decide) ?_
    exact hJ38 _ hF
  refine z_if_eq 62 (pc := 7) C dX9_tool_7 (by decide) (fun c40 => ?_) (fun c40 => ?_)
  · have hF := if_t hF c40
    exact hJ39 hF
  · have hF := if_f hF c40
    refine z_iload_n 2 (pc := 10) C dX9_tool_10 rfl rfl ?_
    refine z_iconst (pc := 11) (v := (0 : Int32)) C dX9_tool_11 (by decide) ?_
    refine z_bipush (pc := 12) (v := (30 : Int32)) C dX9_tool_12 (by decide) ?_
    obtain ⟨v41, hG, hF⟩ := bn1_of hF
    refine z_callS [.int p2, .int (0 : Int32), .int (30 : Int32)] (pc := 14) (st1 := [.int v41]) (c1 := 0) (s1 := 0) C (mX9_in C.hT hG) kX9_113 rfl rfl rfl rfl (Nat.le_of_ble_eq_true rfl) ⟨(Nat.le_of_ble_eq_true rfl), (Nat.le_of_ble_eq_true rfl)⟩ ⟨(Nat.le_of_ble_eq_true rfl), (Nat.le_of_ble_eq_true rfl)⟩ dX9_tool_14 rfl rfl ?_
    refine z_if_eq 62 (pc := 17) C dX9_tool_17 (by decide) (fun c42 => ?_) (fun c42 => ?_)
    · have hF := if_t hF c42
      exact hJ39 hF
    · have hF := if_f hF c42
      refine z_iload_n 3 (pc := 20) C dX9_tool_20 rfl rfl ?_
      refine z_bipush (pc := 21) (v := (10 : Int32)) C dX9_tool_21 (by decide) ?_
      refine z_sipush (pc := 23) (v := (200 : Int32)) C dX9_tool_23 (by decide) ?_
      obtain ⟨v43, hG, hF⟩ := bn1_of hF
      refine z_callS [.int p3, .int (10 : Int32), .int (200 : Int32)] (pc := 26) (st1 := [.int v43]) (c1 := 0) (s1 := 0) C (mX9_in C.hT hG) kX9_113 rfl rfl rfl rfl (Nat.le_of_ble_eq_true rfl) ⟨(Nat.le_of_ble_eq_true rfl), (Nat.le_of_ble_eq_true rfl)⟩ ⟨(Nat.le_of_ble_eq_true rfl), (Nat.le_of_ble_eq_true rfl)⟩ dX9_tool_26 rfl rfl ?_
      refine z_if_eq 62 (pc := 29) C dX9_tool_29 (by decide) (fun c44 => ?_) (fun c44 => ?_)
      · have hF := if_t hF c44
        exact hJ39 hF
      · have hF := if_f hF c44
        refine z_iload 4 (pc := 32) C dX9_tool_32 rfl ?_
        refine z_bipush (pc := 34) (v := (10 : Int32)) C dX9_tool_34 (by decide) ?_
        refine z_sipush (pc := 36) (v := (200 : Int32)) C dX9_tool_36 (by decide) ?_
        obtain ⟨v45, hG, hF⟩ := bn1_of hF
        refine z_callS [.int p4, .int (10 : Int32), .int (200 : Int32)] (pc := 39) (st1 := [.int v45]) (c1 := 0) (s1 := 0) C (mX9_in C.hT hG) kX9_113 rfl rfl rfl rfl (Nat.le_of_ble_eq_true rfl) ⟨(Nat.le_of_ble_eq_true rfl), (Nat.le_of_ble_eq_true rfl)⟩ ⟨(Nat.le_of_ble_eq_true rfl), (Nat.le_of_ble_eq_true rfl)⟩ dX9_tool_39 rfl rfl ?_
        refine z_if_eq 62 (pc := 42) C dX9_tool_42 (by decide) (fun c46 => ?_) (fun c46 => ?_)
        · have hF := if_t hF c46
          exact hJ39 hF
        · have hF := if_f hF c46
          refine z_iload 5 (pc := 45) C dX9_tool_45 rfl ?_
          refine z_bipush (pc := 47) (v := (20 : Int32)) C dX9_tool_47 (by decide) ?_
          refine z_sipush (pc := 49) (v := (600 : Int32)) C dX9_tool_49 (by decide) ?_
          obtain ⟨v47, hG, hF⟩ := bn1_of hF
          refine z_callS [.int p5, .int (20 : Int32), .int (600 : Int32)] (pc := 52) (st1 := [.int v47]) (c1 := 0) (s1 := 0) C (mX9_in C.hT hG) kX9_113 rfl rfl rfl rfl (Nat.le_of_ble_eq_true rfl) ⟨(Nat.le_of_ble_eq_true rfl), (Nat.le_of_ble_eq_true rfl)⟩ ⟨(Nat.le_of_ble_eq_true rfl), (Nat.le_of_ble_eq_true rfl)⟩ dX9_tool_52 rfl rfl ?_
          refine z_if_eq 62 (pc := 55) C dX9_tool_55 (by decide) (fun c48 => ?_) (fun c48 => ?_)
          · have hF := if_t hF c48
            exact hJ39 hF
          · have hF := if_f hF c48
            refine z_iconst (pc := 58) (v := (1 : Int32)) C dX9_tool_58 (by decide) ?_
            refine z_goto 63 (pc := 59) C dX9_tool_59 (by decide) ?_
            exact hJ38 _ hF
def fX9_batch (S : St) (p1 : Int32) (p2 : Int32) (p3 : Int32) : Option ((Int32 × St)) :=
  bn1 (fX9_isPart S p1) (fun (v1 : Int32) =>
  bn1 (jn0 (
    some (0 : Int32)) (fun J35 =>
    if v1 = 0 then (
      J35)
    else (
      bn1 (fX9_isTool S p2) (fun (v37 : Int32) =>
      if v37 = 0 then (
        J35)
      else (
        some (1 : Int32)))))) (fun (v2 : Int32) =>
    bn1 (if v2 = 0 then (
      some (1 : Int32))
    else (
      bn1 (fX9_in p3 (1 : Int32) (50 : Int32)) (fun (v31 : Int32) =>
      if v31 = 0 then (
        some (2 : Int32))
      else (
        if (gi S 0 23) = (20 : Int32) then (
          some (3 : Int32))
        else (
          some (0 : Int32)))))) (fun (v3 : Int32) =>
      bn2 (fX9_goesWell S v3) (fun (v4 : Int32) (S5 : St) =>
      if v4 = 0 then (
        some ((0 : Int32), S5))
      else (
        gd (inb (gi S5 0 23) 20) (
        bv (si S5 20 (gi S5 0 23).toNatClampNeg p1) (fun (S8 : St) =>
        gd (inb (gi S8 0 23) 20) (
        bv (si S8 21 (gi S8 0 23).toNatClampNeg p2) (fun (S11 : St) =>
        gd (inb (gi S11 0 23) 20) (
        bv (si S11 22 (gi S11 0 23).toNatClampNeg p3) (fun (S14 : St) =>
        gd (inb (gi S14 0 23) 20) (
        bv (si S14 23 (gi S14 0 23).toNatClampNeg (0 : Int32)) (fun (S17 : St) =>
        gd (inb p1 8) (
        gd (inb (gi S17 0 23) 20) (
        bv (si S17 24 (gi S17 0 23).toNatClampNeg (gi S17 8 p1.toNatClampNeg)) (fun (S21 : St) =>
        bn1 (fX9_blankBy S21 p1 p2) (fun (v23 : Int32) =>
        gd (inb (gi S21 0 23) 20) (
        bv (si S21 25 (gi S21 0 23).toNatClampNeg v23) (fun (S25 : St) =>
        bv (si S25 0 23 ((gi S25 0 23) + (1 : Int32))) (fun (S27 : St) =>
        some (((gi S27 0 23) - (1 : Int32)), S27)))))))))))))))))))))
abbrev rmX9_batch : Room := { frames := 8, cells := 0, slots := 0, locals := 170 }
set_option maxRecDepth 100000 in
set_option maxHeartbeats 4000000 in
theorem mX9_batch {l : Launch} {D : va_G} {cs : Nat → ClassId} {a : Nat → Nat} (hT : l.stackTraces = false) {S : St} {p1 : Int32} {p2 : Int32} {p3 : Int32} {r : Int32} {S' : St} (hF : fX9_batch S p1 p2 p3 = some (r, S')) : MX l 33 GM D cs a yX9_batch cX9_batch 5 (some .int) rmX9_batch [.ref (a 0), .int p1, .int p2, .int p3] S (.inr (some (.int r))) S' := by
  refine zm_entry [(0, .ref (a 0)), (1, .int p1), (2, .int p2), (3, .int p3)] hT (by decide +kernel) (Nat.le_of_ble_eq_true rfl) rfl (fun E hEl hED hEk C hQ hr => ?_)
  subst hEl
  subst hED
  subst hEk
  unfold fX9_batch at hF
  refine z_aload_n 0 (pc := 0) C dX9_batch_0 rfl rfl ?_
  refine z_iload_n 1 (pc := 1) C dX9_batch_1 rfl rfl ?_
  obtain ⟨v1, hG, hF⟩ := bn1_of hF
  refine z_callV [.int p1] (pc := 2) (st1 := [.int v1]) (c1 := 0) (s1 := 0) C (mX9_isPart C.hT hG) kX9_138 (kdM_lt (rfl : kdM 0 = 9) (by decide)) (gM_9 (rfl : kdM 0 = 9)) rfl rfl rfl rfl (Nat.le_of_ble_eq_true rfl) ⟨(Nat.le_of_ble_eq_true rfl), (Nat.le_of_ble_eq_true rfl)⟩ ⟨(Nat.le_of_ble_eq_true rfl), (Nat.le_of_ble_eq_true rfl)⟩ dX9_batch_2 rfl rfl ?_
  obtain ⟨v2', hR, hF⟩ := bn1_of hF
  have hJ34 : ∀ (v2 : Int32), (some v2 : Option (Int32)) = some v2' → Zz E (WM E a S) 0 0 21 [(0, .ref (a 0)), (1, .int p1), (2, .int p2), (3, .int p3)] [.int v2] := by
    intro v2 hE
    have hE0 := Option.some.inj hE
    subst hE0
    refine z_istore (pc := 21) (loc' := [(4, .int v2), (0, .ref (a 0)), (1, .int p1), (2, .int p2), (3, .int p3)]) C dX9_batch_21 (by decide) rfl ?_
    refine z_aload_n 1 (pc := 23) C dX9_batch_23 rfl rfl ?_
    refine z_iload 0 (pc := 24) C dX9_batch_24 rfl ?_
    obtain ⟨v3', hR, hF⟩ := bn1_of hF
    have hJ29 : ∀ (v3 : Int32), (some v3 : Option (Int32)) = some v3' → Zz E (WM E a S) 0 0 61 [(0, .ref (a 0)), (1, .int p1), (2, .int p2), (3, .int p3)] [.int v3, .ref (a 0)] := by
      intro v3 hE
      have hE0 := Option.some.inj hE
      subst hE0
      obtain ⟨v4, S5, hG, hF⟩ := bn2_of hF
      refine z_callV [.int v3] (pc := 61) (st1 := [.int v4]) (c1 := 0) (s1 := 0) C (mX9_goesWell C.hT hG) kX9_126 (kdM_lt (rfl : kdM 0 = 9) (by decide)) (gM_9 (rfl : kdM 0 = 9)) rfl rfl rfl rfl (Nat.le_of_ble_eq_true rfl) ⟨(Nat.le_of_ble_eq_true rfl), (Nat.le_of_ble_eq_true rfl)⟩ ⟨(Nat.le_of_ble_eq_true rfl), (Nat.le_of_ble_eq_true rfl)⟩ dX9_batch_61 rfl rfl ?_
      refine z_if_ne 69 (pc := 64) C dX9_batch_64 (by decide) (fun c6 => ?_) (fun c6 => ?_)
      · have hF := if_f hF c6
        refine z_aload_n 0 (pc := 69) C dX9_batch_69 rfl rfl ?_
        refine gfX9_67 (pc := 70) C (rfl : kdM 0 = 9) dX9_batch_70 ?_
        refine z_aload_n 0 (pc := 73) C dX9_batch_73 rfl rfl ?_
        refine gfX9_120 (pc := 74) C (rfl : kdM 0 = 9) dX9_batch_74 ?_
        refine z_iload_n 1 (pc := 77) C dX9_batch_77 rfl rfl ?_
        obtain ⟨g7, hF⟩ := gd_of hF
        refine saM20 (pc := 78) C (rfl : kdM 20 = 40) g7 dX9_batch_78 ?_
        obtain ⟨S8, e9, hF⟩ := bv_of hF
        rw [← e9]
        refine z_aload_n 0 (pc := 79) C dX9_batch_79 rfl rfl ?_
        refine gfX9_70 (pc := 80) C (rfl : kdM 0 = 9) dX9_batch_80 ?_
        refine z_aload_n 0 (pc := 83) C dX9_batch_83 rfl rfl ?_
        refine gfX9_120 (pc := 84) C (rfl : kdM 0 = 9) dX9_batch_84 ?_
        refine z_iload_n 2 (pc := 87) C dX9_batch_87 rfl rfl ?_
        obtain ⟨g10, hF⟩ := gd_of hF
        refine saM20 (pc := 88) C (rfl : kdM 21 = 40) g10 dX9_batch_88 ?_
        obtain ⟨S11, e12, hF⟩ := bv_of hF
        rw [← e12]
        refine z_aload_n 0 (pc := 89) C dX9_batch_89 rfl rfl ?_
        refine gfX9_73 (pc := 90) C (rfl : kdM 0 = 9) dX9_batch_90 ?_
        refine z_aload_n 0 (pc := 93) C dX9_batch_93 rfl rfl ?_
        refine gfX9_120 (pc := 94) C (rfl : kdM 0 = 9) dX9_batch_94 ?_
        refine z_iload_n 3 (pc := 97) C dX9_batch_97 rfl rfl ?_
        obtain ⟨g13, hF⟩ := gd_of hF
        refine saM20 (pc := 98) C (rfl : kdM 22 = 40) g13 dX9_batch_98 ?_
        obtain ⟨S14, e15, hF⟩ := bv_of hF
        rw [← e15]
        refine z_aload_n 0 (pc := 99) C dX9_batch_99 rfl rfl ?_
        refine gfX9_76 (pc := 100) C (rfl : kdM 0 = 9) dX9_batch_100 ?_
        refine z_aload_n 0 (pc := 103) C dX9_batch_103 rfl rfl ?_
        refine gfX9_120 (pc := 104) C (rfl : kdM 0 = 9) dX9_batch_104 ?_
        refine z_iconst (pc := 107) (v := (0 : Int32)) C dX9_batch_107 (by decide) ?_
        obtain ⟨g16, hF⟩ := gd_of hF
        refine saM20 (pc := 108) C (rfl : kdM 23 = 40) g16 dX9_batch_108 ?_
        obtain ⟨S17, e18, hF⟩ := bv_of hF
        rw [← e18]
        refine z_aload_n 0 (pc := 109) C dX9_batch_109 rfl rfl ?_
        refine gfX9_79 (pc := 110) C (rfl : kdM 0 = 9) dX9_batch_110 ?_
        refine z_aload_n 0 (pc := 113) C dX9_batch_113 rfl rfl ?_
        refine gfX9_120 (pc := 114) C (rfl : kdM 0 = 9) dX9_batch_114 ?_
        refine z_aload_n 0 (pc := 117) C dX9_batch_117 rfl rfl ?_
        refine gfX9_31 (pc := 118) C (rfl : kdM 0 = 9) dX9_batch_118 ?_
        refine z_iload_n 1 (pc := 121) C dX9_batch_121 rfl rfl ?_
        obtain ⟨g19, hF⟩ := gd_of hF
        refine iaM8 (pc := 122) C (rfl : kdM 8 = 28) g19 dX9_batch_122 ?_
        obtain ⟨g20, hF⟩ := gd_of hF
        refine saM20 (pc := 123) C (rfl : kdM 24 = 40) g20 dX9_batch_123 ?_
        obtain ⟨S21, e22, hF⟩ := bv_of hF
        rw [← e22]
        refine z_aload_n 0 (pc := 124) C dX9_batch_124 rfl rfl ?_
        refine gfX9_82 (pc := 125) C (rfl : kdM 0 = 9) dX9_batch_125 ?_
        refine z_aload_n 0 (pc := 128) C dX9_batch_128 rfl rfl ?_
        refine gfX9_120 (pc := 129) C (rfl : kdM 0 = 9) dX9_batch_129 ?_
        refine z_aload_n 0 (pc := 132) C dX9_batch_132 rfl rfl ?_
        refine z_iload_n 1 (pc := 133) C dX9_batch_133 rfl rfl ?_
        refine z_iload_n 2 (pc := 134) C dX9_batch_134 rfl rfl ?_
        obtain ⟨v23, hG, hF⟩ := bn1_of hF
        refine z_callV [.int p1, .int p2] (pc := 135) (st1 := [.int v23, .int (gi S21 0 23), .ref (a 25)]) (c1 := 0) (s1 := 0) C (mX9_blankBy C.hT hG) kX9_144 (kdM_lt (rfl : kdM 0 = 9) (by decide)) (gM_9 (rfl : kdM 0 = 9)) rfl rfl rfl rfl (Nat.le_of_ble_eq_true rfl) ⟨(Nat.le_of_ble_eq_true rfl), (Nat.le_of_ble_eq_true rfl)⟩ ⟨(Nat.le_of_ble_eq_true rfl), (Nat.le_of_ble_eq_true rfl)⟩ dX9_batch_135 rfl rfl ?_
        obtain ⟨g24, hF⟩ := gd_of hF
        refine saM20 (pc := 138) C (rfl : kdM 25 = 40) g24 dX9_batch_138 ?_
        obtain ⟨S25, e26, hF⟩ := bv_of hF
        rw [← e26]
        refine z_aload_n 0 (pc := 139) C dX9_batch_139 rfl rfl ?_
        refine z_dup (pc := 140) C dX9_batch_140 rfl ?_
        refine gfX9_120 (pc := 141) C (rfl : kdM 0 = 9) dX9_batch_141 ?_
        refine z_iconst (pc := 144) (v := (1 : Int32)) C dX9_batch_144 (by decide) ?_
        refine z_iadd (pc := 145) C dX9_batch_145 ?_
        refine pfX9_120 (pc := 146) C (rfl : kdM 0 = 9) dX9_batch_146 ?_
        obtain ⟨S27, e28, hF⟩ := bv_of hF
        rw [← e28]
        refine z_aload_n 0 (pc := 149) C dX9_batch_149 rfl rfl ?_
        refine gfX9_120 (pc := 150) C (rfl : kdM 0 = 9) dX9_batch_150 ?_
        refine z_iconst (pc := 153) (v := (1 : Int32)) C dX9_batch_153 (by decide) ?_
        refine z_isub (pc := 154) C dX9_batch_154 ?_
        exact z_iret (pc := 155) C hQ hr rfl dX9_batch_155 (by cases hF; rfl) (by cases hF; rfl) (Nat.le_of_ble_eq_true rfl) (Nat.le_of_ble_eq_true rfl)
      · have hF := if_t hF c6
        refine z_iconst (pc := 67) (v := (0 : Int32)) C dX9_batch_67 (by decide) ?_
        exact z_iret (pc := 68) C hQ hr rfl dX9_batch_68 (by cases hF; rfl) (by cases hF; rfl) (Nat.le_of_ble_eq_true rfl) (Nat.le_of_ble_eq_true rfl)
    have hF := hR
    clear hR
    refine z_if_ne 33 (pc := 26) C dX9_batch_26 (by decide) (fun c30 => ?_) (fun c30 => ?_)
    · have hF := if_f hF c30
      refine z_iload_n 4 (pc := 33) C dX9_batch_33 rfl rfl ?_
      refine z_iconst (pc := 34) (v := (1 : Int32)) C dX9_batch_34 (by decide) ?_
      refine z_bipush (pc := 35) (v := (50 : Int32)) C dX9_batch_35 (by decide) ?_
      obtain ⟨v31, hG, hF⟩ := bn1_of hF
      refine z_callS [.int p3, .int (1 : Int32), .int (50 : Int32)] (pc := 37) (st1 := [.int v31, .ref (a 0)]) (c1 := 0) (s1 := 0) C (mX9_in C.hT hG) kX9_113 rfl rfl rfl rfl (Nat.le_of_ble_eq_true rfl) ⟨(Nat.le_of_ble_eq_true rfl), (Nat.le_of_ble_eq_true rfl)⟩ ⟨(Nat.le_of_ble_eq_true rfl), (Nat.le_of_ble_eq_true rfl)⟩ dX9_batch_37 rfl rfl ?_
      refine z_if_ne 47 (pc := 40) C dX9_batch_40 (by decide) (fun c32 => ?_) (fun c32 => ?_)
      · have hF := if_f hF c32
        refine z_aload_n 1 (pc := 47) C dX9_batch_47 rfl rfl ?_
        refine gfX9_120 (pc := 48) C (rfl : kdM 0 = 9) dX9_batch_48 ?_
        refine z_bipush (pc := 51) (v := (20 : Int32)) C dX9_batch_51 (by decide) ?_
        refine z_icmp_ne 60 (pc := 53) C dX9_batch_53 (by decide) (fun c33 => ?_) (fun c33 => ?_)
        · have hF := if_f hF c33
          refine z_iconst (pc := 60) (v := (0 : Int32)) C dX9_batch_60 (by decide) ?_
          refine z_sub [1, 2, 3, 4] rfl ?_
          exact hJ29 _ hF
        · have hF := if_t hF c33
          refine z_iconst (pc := 56) (v := (3 : Int32)) C dX9_batch_56 (by decide) ?_
          refine z_goto 61 (pc := 57) C dX9_batch_57 (by decide) ?_
          refine z_sub [1, 2, 3, 4] rfl ?_
          exact hJ29 _ hF
      · have hF := if_t hF c32
        refine z_iconst (pc := 43) (v := (2 : Int32)) C dX9_batch_43 (by decide) ?_
        refine z_goto 61 (pc := 44) C dX9_batch_44 (by decide) ?_
        refine z_sub [1, 2, 3, 4] rfl ?_
        exact hJ29 _ hF
    · have hF := if_t hF c30
      refine z_iconst (pc := 29) (v := (1 : Int32)) C dX9_batch_29 (by decide) ?_
      refine z_goto 61 (pc := 30) C dX9_batch_30 (by decide) ?_
      refine z_sub [1, 2, 3, 4] rfl ?_
      exact hJ29 _ hF
  have hF := hR
  clear hR
  obtain ⟨J35, hdJ35, hF⟩ := jn0_of hF
  have hJ35 : J35 = some v2' → Zz E (WM E a S) 0 0 20 [(0, .ref (a 0)), (1, .int p1), (2, .int p2), (3, .int p3)] [] := by
    intro hF
    have hF := hdJ35.symm.trans hF
    refine z_iconst (pc := 20) (v := (0 : Int32)) C dX9_batch_20 (by decide) ?_
    exact hJ34 _ hF
  refine z_if_eq 20 (pc := 5) C dX9_batch_5 (by decide) (fun c36 => ?_) (fun c36 => ?_)
  · have hF := if_t hF c36
    exact hJ35 hF
  · have hF := if_f hF c36
    refine z_aload_n 0 (pc := 8) C dX9_batch_8 rfl rfl ?_
    refine z_iload_n 2 (pc := 9) C dX9_batch_9 rfl rfl ?_
    obtain ⟨v37, hG, hF⟩ := bn1_of hF
    refine z_callV [.int p2] (pc := 10) (st1 := [.int v37]) (c1 := 0) (s1 := 0) C (mX9_isTool C.hT hG) kX9_151 (kdM_lt (rfl : kdM 0 = 9) (by decide)) (gM_9 (rfl : kdM 0 = 9)) rfl rfl rfl rfl (Nat.le_of_ble_eq_true rfl) ⟨(Nat.le_of_ble_eq_true rfl), (Nat.le_of_ble_eq_true rfl)⟩ ⟨(Nat.le_of_ble_eq_true rfl), (Nat.le_of_ble_eq_true rfl)⟩ dX9_batch_10 rfl rfl ?_
    refine z_if_eq 20 (pc := 13) C dX9_batch_13 (by decide) (fun c38 => ?_) (fun c38 => ?_)
    · have hF := if_t hF c38
      exact hJ35 hF
    · have hF := if_f hF c38
      refine z_iconst (pc := 16) (v := (1 : Int32)) C dX9_batch_16 (by decide) ?_
      refine z_goto 21 (pc := 17) C dX9_batch_17 (by decide) ?_
      exact hJ34 _ hF
def fX9_batchOf (S : St) (p1 : Int32) (p2 : Int32) : Option ((Int32 × St)) :=
  bn1 (fX9_isBatch S p1) (fun (v1 : Int32) =>
  bn1 (if v1 = 0 then (
    some (1 : Int32))
  else (
    bn1 (fX9_in p2 (0 : Int32) (3 : Int32)) (fun (v15 : Int32) =>
    if v15 = 0 then (
      some (2 : Int32))
    else (
      some (0 : Int32))))) (fun (v2 : Int32) =>
    bn2 (fX9_goesWell S v2) (fun (v3 : Int32) (S4 : St) =>
    if v3 = 0 then (
      some ((0 : Int32), S4))
    else (
      if p2 = 0 then (
        gd (inb p1 20) (
        some ((gi S4 23 p1.toNatClampNeg), S4)))
      else (
        if p2 = (1 : Int32) then (
          gd (inb p1 20) (
          some ((gi S4 22 p1.toNatClampNeg), S4)))
        else (
          if p2 = (2 : Int32) then (
            gd (inb p1 20) (
            some ((gi S4 24 p1.toNatClampNeg), S4)))
          else (
            gd (inb p1 20) (
            some ((gi S4 25 p1.toNatClampNeg), S4)))))))))
abbrev rmX9_batchOf : Room := { frames := 8, cells := 0, slots := 0, locals := 170 }
set_option maxRecDepth 100000 in
set_option maxHeartbeats 4000000 in
theorem mX9_batchOf {l : Launch} {D : va_G} {cs : Nat → ClassId} {a : Nat → Nat} (hT : l.stackTraces = false) {S : St} {p1 : Int32} {p2 : Int32} {r : Int32} {S' : St} (hF : fX9_batchOf S p1 p2 = some (r, S')) : MX l 33 GM D cs a yX9_batchOf cX9_batchOf 4 (some .int) rmX9_batchOf [.ref (a 0), .int p1, .int p2] S (.inr (some (.int r))) S' := by
  refine zm_entry [(0, .ref (a 0)), (1, .int p1), (2, .int p2)] hT (by decide +kernel) (Nat.le_of_ble_eq_true rfl) rfl (fun E hEl hED hEk C hQ hr => ?_)
  subst hEl
  subst hED
  subst hEk
  unfold fX9_batchOf at hF
  refine z_aload_n 0 (pc := 0) C dX9_batchOf_0 rfl rfl ?_
  refine z_iload_n 1 (pc := 1) C dX9_batchOf_1 rfl rfl ?_
  obtain ⟨v1, hG, hF⟩ := bn1_of hF
  refine z_callV [.int p1] (pc := 2) (st1 := [.int v1]) (c1 := 0) (s1 := 0) C (mX9_isBatch C.hT hG) kX9_228 (kdM_lt (rfl : kdM 0 = 9) (by decide)) (gM_9 (rfl : kdM 0 = 9)) rfl rfl rfl rfl (Nat.le_of_ble_eq_true rfl) ⟨(Nat.le_of_ble_eq_true rfl), (Nat.le_of_ble_eq_true rfl)⟩ ⟨(Nat.le_of_ble_eq_true rfl), (Nat.le_of_ble_eq_true rfl)⟩ dX9_batchOf_2 rfl rfl ?_
  refine z_istore_n (pc := 5) (loc' := [(3, .int v1), (0, .ref (a 0)), (1, .int p1), (2, .int p2)]) C dX9_batchOf_5 rfl (by decide) rfl ?_
  refine z_aload_n 1 (pc := 6) C dX9_batchOf_6 rfl rfl ?_
  refine z_iload_n 0 (pc := 7) C dX9_batchOf_7 rfl rfl ?_
  obtain ⟨v2', hR, hF⟩ := bn1_of hF
  have hJ13 : ∀ (v2 : Int32), (some v2 : Option (Int32)) = some v2' → Zz E (WM E a S) 0 0 29 [(0, .ref (a 0)), (1, .int p1), (2, .int p2)] [.int v2, .ref (a 0)] := by
    intro v2 hE
    have hE0 := Option.some.inj hE
    subst hE0
    obtain ⟨v3, S4, hG, hF⟩ := bn2_of hF
    refine z_callV [.int v2] (pc := 29) (st1 := [.int v3]) (c1 := 0) (s1 := 0) C (mX9_goesWell C.hT hG) kX9_126 (kdM_lt (rfl : kdM 0 = 9) (by decide)) (gM_9 (rfl : kdM 0 = 9)) rfl rfl rfl rfl (Nat.le_of_ble_eq_true rfl) ⟨(Nat.le_of_ble_eq_true rfl), (Nat.le_of_ble_eq_true rfl)⟩ ⟨(Nat.le_of_ble_eq_true rfl), (Nat.le_of_ble_eq_true rfl)⟩ dX9_batchOf_29 rfl rfl ?_
    refine z_if_ne 37 (pc := 32) C dX9_batchOf_32 (by decide) (fun c5 => ?_) (fun c5 => ?_)
    · have hF := if_f hF c5
      refine z_iload_n 2 (pc := 37) C dX9_batchOf_37 rfl rfl ?_
      refine z_if_ne 50 (pc := 38) C dX9_batchOf_38 (by decide) (fun c6 => ?_) (fun c6 => ?_)
      · have hF := if_f hF c6
        refine z_iload_n 2 (pc := 50) C dX9_batchOf_50 rfl rfl ?_
        refine z_iconst (pc := 51) (v := (1 : Int32)) C dX9_batchOf_51 (by decide) ?_
        refine z_icmp_ne 64 (pc := 52) C dX9_batchOf_52 (by decide) (fun c7 => ?_) (fun c7 => ?_)
        · have hF := if_f hF c7
          refine z_iload_n 2 (pc := 64) C dX9_batchOf_64 rfl rfl ?_
          refine z_iconst (pc := 65) (v := (2 : Int32)) C dX9_batchOf_65 (by decide) ?_
          refine z_icmp_ne 78 (pc := 66) C dX9_batchOf_66 (by decide) (fun c8 => ?_) (fun c8 => ?_)
          · have hF := if_f hF c8
            refine z_aload_n 0 (pc := 78) C dX9_batchOf_78 rfl rfl ?_
            refine gfX9_82 (pc := 79) C (rfl : kdM 0 = 9) dX9_batchOf_79 ?_
            refine z_iload_n 1 (pc := 82) C dX9_batchOf_82 rfl rfl ?_
            obtain ⟨g9, hF⟩ := gd_of hF
            refine iaM20 (pc := 83) C (rfl : kdM 25 = 40) g9 dX9_batchOf_83 ?_
            exact z_iret (pc := 84) C hQ hr rfl dX9_batchOf_84 (by cases hF; rfl) (by cases hF; rfl) (Nat.le_of_ble_eq_true rfl) (Nat.le_of_ble_eq_true rfl)
          · have hF := if_t hF c8
            refine z_aload_n 0 (pc := 69) C dX9_batchOf_69 rfl rfl ?_
            refine gfX9_79 (pc := 70) C (rfl : kdM 0 = 9) dX9_batchOf_70 ?_
            refine z_iload_n 1 (pc := 73) C dX9_batchOf_73 rfl rfl ?_
            obtain ⟨g10, hF⟩ := gd_of hF
            refine iaM20 (pc := 74) C (rfl : kdM 24 = 40) g10 dX9_batchOf_74 ?_
            refine z_goto 84 (pc := 75) C dX9_batchOf_75 (by decide) ?_
            exact z_iret (pc := 84) C hQ hr rfl dX9_batchOf_84 (by cases hF; rfl) (by cases hF; rfl) (Nat.le_of_ble_eq_true rfl) (Nat.le_of_ble_eq_true rfl)
        · have hF := if_t hF c7
          refine z_aload_n 0 (pc := 55) C dX9_batchOf_55 rfl rfl ?_
          refine gfX9_73 (pc := 56) C (rfl : kdM 0 = 9) dX9_batchOf_56 ?_
          refine z_iload_n 1 (pc := 59) C dX9_batchOf_59 rfl rfl ?_
          obtain ⟨g11, hF⟩ := gd_of hF
          refine iaM20 (pc := 60) C (rfl : kdM 22 = 40) g11 dX9_batchOf_60 ?_
          refine z_goto 84 (pc := 61) C dX9_batchOf_61 (by decide) ?_
          exact z_iret (pc := 84) C hQ hr rfl dX9_batchOf_84 (by cases hF; rfl) (by cases hF; rfl) (Nat.le_of_ble_eq_true rfl) (Nat.le_of_ble_eq_true rfl)
      · have hF := if_t hF c6
        refine z_aload_n 0 (pc := 41) C dX9_batchOf_41 rfl rfl ?_
        refine gfX9_76 (pc := 42) C (rfl : kdM 0 = 9) dX9_batchOf_42 ?_
        refine z_iload_n 1 (pc := 45) C dX9_batchOf_45 rfl rfl ?_
        obtain ⟨g12, hF⟩ := gd_of hF
        refine iaM20 (pc := 46) C (rfl : kdM 23 = 40) g12 dX9_batchOf_46 ?_
        refine z_goto 84 (pc := 47) C dX9_batchOf_47 (by decide) ?_
        exact z_iret (pc := 84) C hQ hr rfl dX9_batchOf_84 (by cases hF; rfl) (by cases hF; rfl) (Nat.le_of_ble_eq_true rfl) (Nat.le_of_ble_eq_true rfl)
    · have hF := if_t hF c5
      refine z_iconst (pc := 35) (v := (0 : Int32)) C dX9_batchOf_35 (by decide) ?_
      exact z_iret (pc := 36) C hQ hr rfl dX9_batchOf_36 (by cases hF; rfl) (by cases hF; rfl) (Nat.le_of_ble_eq_true rfl) (Nat.le_of_ble_eq_true rfl)
  have hF := hR
  clear hR
  refine z_if_ne 15 (pc := 8) C dX9_batchOf_8 (by decide) (fun c14 => ?_) (fun c14 => ?_)
  · have hF := if_f hF c14
    refine z_iload_n 3 (pc := 15) C dX9_batchOf_15 rfl rfl ?_
    refine z_iconst (pc := 16) (v := (0 : Int32)) C dX9_batchOf_16 (by decide) ?_
    refine z_iconst (pc := 17) (v := (3 : Int32)) C dX9_batchOf_17 (by decide) ?_
    obtain ⟨v15, hG, hF⟩ := bn1_of hF
    refine z_callS [.int p2, .int (0 : Int32), .int (3 : Int32)] (pc := 18) (st1 := [.int v15, .ref (a 0)]) (c1 := 0) (s1 := 0) C (mX9_in C.hT hG) kX9_113 rfl rfl rfl rfl (Nat.le_of_ble_eq_true rfl) ⟨(Nat.le_of_ble_eq_true rfl), (Nat.le_of_ble_eq_true rfl)⟩ ⟨(Nat.le_of_ble_eq_true rfl), (Nat.le_of_ble_eq_true rfl)⟩ dX9_batchOf_18 rfl rfl ?_
    refine z_if_eq 28 (pc := 21) C dX9_batchOf_21 (by decide) (fun c16 => ?_) (fun c16 => ?_)
    · have hF := if_t hF c16
      refine z_iconst (pc := 28) (v := (2 : Int32)) C dX9_batchOf_28 (by decide) ?_
      refine z_sub [1, 2, 3] rfl ?_
      exact hJ13 _ hF
    · have hF := if_f hF c16
      refine z_iconst (pc := 24) (v := (0 : Int32)) C dX9_batchOf_24 (by decide) ?_
      refine z_goto 29 (pc := 25) C dX9_batchOf_25 (by decide) ?_
      refine z_sub [1, 2, 3] rfl ?_
      exact hJ13 _ hF
  · have hF := if_t hF c14
    refine z_iconst (pc := 11) (v := (1 : Int32)) C dX9_batchOf_11 (by decide) ?_
    refine z_goto 29 (pc := 12) C dX9_batchOf_12 (by decide) ?_
    refine z_sub [1, 2, 3] rfl ?_
    exact hJ13 _ hF
def fX9_blank (S : St) (p1 : Int32) (p2 : Int32) : Option ((Int32 × St)) :=
  bn1 (fX9_isPart S p1) (fun (v1 : Int32) =>
  bn1 (jn0 (
    some (1 : Int32)) (fun J8 =>
    if v1 = 0 then (
      J8)
    else (
      bn1 (fX9_isTool S p2) (fun (v10 : Int32) =>
      if v10 = 0 then (
        J8)
      else (
        some (0 : Int32)))))) (fun (v2 : Int32) =>
    bn2 (fX9_goesWell S v2) (fun (v3 : Int32) (S4 : St) =>
    if v3 = 0 then (
      some ((0 : Int32), S4))
    else (
      bn1 (fX9_blankBy S4 p1 p2) (fun (v6 : Int32) =>
      some (v6, S4))))))
abbrev rmX9_blank : Room := { frames := 8, cells := 0, slots := 0, locals := 170 }
set_option maxRecDepth 100000 in
set_option maxHeartbeats 4000000 in
theorem mX9_blank {l : Launch} {D : va_G} {cs : Nat → ClassId} {a : Nat → Nat} (hT : l.stackTraces = false) {S : St} {p1 : Int32} {p2 : Int32} {r : Int32} {S' : St} (hF : fX9_blank S p1 p2 = some (r, S')) : MX l 33 GM D cs a yX9_blank cX9_blank 3 (some .int) rmX9_blank [.ref (a 0), .int p1, .int p2] S (.inr (some (.int r))) S' := by
  refine zm_entry [(0, .ref (a 0)), (1, .int p1), (2, .int p2)] hT (by decide +kernel) (Nat.le_of_ble_eq_true rfl) rfl (fun E hEl hED hEk C hQ hr => ?_)
  subst hEl
  subst hED
  subst hEk
  unfold fX9_blank at hF
  refine z_aload_n 0 (pc := 0) C dX9_blank_0 rfl rfl ?_
  refine z_aload_n 0 (pc := 1) C dX9_blank_1 rfl rfl ?_
  refine z_iload_n 1 (pc := 2) C dX9_blank_2 rfl rfl ?_
  obtain ⟨v1, hG, hF⟩ := bn1_of hF
  refine z_callV [.int p1] (pc := 3) (st1 := [.int v1, .ref (a 0)]) (c1 := 0) (s1 := 0) C (mX9_isPart C.hT hG) kX9_138 (kdM_lt (rfl : kdM 0 = 9) (by decide)) (gM_9 (rfl : kdM 0 = 9)) rfl rfl rfl rfl (Nat.le_of_ble_eq_true rfl) ⟨(Nat.le_of_ble_eq_true rfl), (Nat.le_of_ble_eq_true rfl)⟩ ⟨(Nat.le_of_ble_eq_true rfl), (Nat.le_of_ble_eq_true rfl)⟩ dX9_blank_3 rfl rfl ?_
  obtain ⟨v2', hR, hF⟩ := bn1_of hF
  have hJ7 : ∀ (v2 : Int32), (some v2 : Option (Int32)) = some v2' → Zz E (WM E a S) 0 0 22 [(0, .ref (a 0)), (1, .int p1), (2, .int p2)] [.int v2, .ref (a 0)] := by
    intro v2 hE
    have hE0 := Option.some.inj hE
    subst hE0
    obtain ⟨v3, S4, hG, hF⟩ := bn2_of hF
    refine z_callV [.int v2] (pc := 22) (st1 := [.int v3]) (c1 := 0) (s1 := 0) C (mX9_goesWell C.hT hG) kX9_126 (kdM_lt (rfl : kdM 0 = 9) (by decide)) (gM_9 (rfl : kdM 0 = 9)) rfl rfl rfl rfl (Nat.le_of_ble_eq_true rfl) ⟨(Nat.le_of_ble_eq_true rfl), (Nat.le_of_ble_eq_true rfl)⟩ ⟨(Nat.le_of_ble_eq_true rfl), (Nat.le_of_ble_eq_true rfl)⟩ dX9_blank_22 rfl rfl ?_
    refine z_if_eq 37 (pc := 25) C dX9_blank_25 (by decide) (fun c5 => ?_) (fun c5 => ?_)
    · have hF := if_t hF c5
      refine z_iconst (pc := 37) (v := (0 : Int32)) C dX9_blank_37 (by decide) ?_
      exact z_iret (pc := 38) C hQ hr rfl dX9_blank_38 (by cases hF; rfl) (by cases hF; rfl) (Nat.le_of_ble_eq_true rfl) (Nat.le_of_ble_eq_true rfl)
    · have hF := if_f hF c5
      refine z_aload_n 0 (pc := 28) C dX9_blank_28 rfl rfl ?_
      refine z_iload_n 1 (pc := 29) C dX9_blank_29 rfl rfl ?_
      refine z_iload_n 2 (pc := 30) C dX9_blank_30 rfl rfl ?_
      obtain ⟨v6, hG, hF⟩ := bn1_of hF
      refine z_callV [.int p1, .int p2] (pc := 31) (st1 := [.int v6]) (c1 := 0) (s1 := 0) C (mX9_blankBy C.hT hG) kX9_144 (kdM_lt (rfl : kdM 0 = 9) (by decide)) (gM_9 (rfl : kdM 0 = 9)) rfl rfl rfl rfl (Nat.le_of_ble_eq_true rfl) ⟨(Nat.le_of_ble_eq_true rfl), (Nat.le_of_ble_eq_true rfl)⟩ ⟨(Nat.le_of_ble_eq_true rfl), (Nat.le_of_ble_eq_true rfl)⟩ dX9_blank_31 rfl rfl ?_
      refine z_goto 38 (pc := 34) C dX9_blank_34 (by decide) ?_
      exact z_iret (pc := 38) C hQ hr rfl dX9_blank_38 (by cases hF; rfl) (by cases hF; rfl) (Nat.le_of_ble_eq_true rfl) (Nat.le_of_ble_eq_true rfl)
  have hF := hR
  clear hR
  obtain ⟨J8, hdJ8, hF⟩ := jn0_of hF
  have hJ8 : J8 = some v2' → Zz E (WM E a S) 0 0 21 [(0, .ref (a 0)), (1, .int p1), (2, .int p2)] [.ref (a 0)] := by
    intro hF
    have hF := hdJ8.symm.trans hF
    refine z_iconst (pc := 21) (v := (1 : Int32)) C dX9_blank_21 (by decide) ?_
    exact hJ7 _ hF
  refine z_if_eq 21 (pc := 6) C dX9_blank_6 (by decide) (fun c9 => ?_) (fun c9 => ?_)
  · have hF := if_t hF c9
    exact hJ8 hF
  · have hF := if_f hF c9
    refine z_aload_n 0 (pc := 9) C dX9_blank_9 rfl rfl ?_
    refine z_iload_n 2 (pc := 10) C dX9_blank_10 rfl rfl ?_
    obtain ⟨v10, hG, hF⟩ := bn1_of hF
    refine z_callV [.int p2] (pc := 11) (st1 := [.int v10, .ref (a 0)]) (c1 := 0) (s1 := 0) C (mX9_isTool C.hT hG) kX9_151 (kdM_lt (rfl : kdM 0 = 9) (by decide)) (gM_9 (rfl : kdM 0 = 9)) rfl rfl rfl rfl (Nat.le_of_ble_eq_true rfl) ⟨(Nat.le_of_ble_eq_true rfl), (Nat.le_of_ble_eq_true rfl)⟩ ⟨(Nat.le_of_ble_eq_true rfl), (Nat.le_of_ble_eq_true rfl)⟩ dX9_blank_11 rfl rfl ?_
    refine z_if_eq 21 (pc := 14) C dX9_blank_14 (by decide) (fun c11 => ?_) (fun c11 => ?_)
    · have hF := if_t hF c11
      exact hJ8 hF
    · have hF := if_f hF c11
      refine z_iconst (pc := 17) (v := (0 : Int32)) C dX9_blank_17 (by decide) ?_
      refine z_goto 22 (pc := 18) C dX9_blank_18 (by decide) ?_
      exact hJ7 _ hF
def fX9_findOrders_L108 (v24 : Int32) (p1 : Int32) (v16 : Int32) (v6 : Int32) (next28 : Int32 → St → Option (St)) (v26 : Int32) (S27 : St) : Option (St) :=
  if (7 : Int32) ≤ v26 then (
    some S27)
  else (
    if v24 = 0 then (
      some S27)
    else (
      bn1 (fX9_turn S27 p1 v26 v16) (fun (v35 : Int32) =>
      gd (inb (((7 : Int32) * (v6 ||| ((1 : Int32) <<< (v16 &&& 31)))) + v16) 224) (
      bv ((v35 + (gi S27 26 (((7 : Int32) * (v6 ||| ((1 : Int32) <<< (v16 &&& 31)))) + v16).toNatClampNeg))) (fun (v37 : Int32) =>
      gd (inb (((7 : Int32) * v6) + v26) 224) (
      bn1 (if (gi S27 26 (((7 : Int32) * v6) + v26).toNatClampNeg) ≤ v37 then (
        gd (inb (((7 : Int32) * v6) + v26) 224) (
        some (gi S27 26 (((7 : Int32) * v6) + v26).toNatClampNeg)))
      else (
        some v37)) (fun (v40 : Int32) =>
        gd (inb (((7 : Int32) * v6) + v26) 224) (
        bv (si S27 26 (((7 : Int32) * v6) + v26).toNatClampNeg v40) (fun (S42 : St) =>
        bv (v26 + 1) (fun (v44 : Int32) =>
        next28 v44 S42))))))))))
def fX9_findOrders_L69 (v2 : Int32) (v6 : Int32) (p1 : Int32) (p2 : Int32) (next18 : Int32 → St → Option (St)) (v16 : Int32) (S17 : St) : Option (St) :=
  if v2 ≤ v16 then (
    some S17)
  else (
    bn2 (jn1 (fun (S50 : St) =>
      some ((0 : Int32), S50)) (fun J51 =>
      if ((v6 >>> (v16 &&& 31)) &&& (1 : Int32)) = 0 then (
        bn2 (fX9_reason S17 p1 p2 v6 v16) (fun (v53 : Int32) (S54 : St) =>
        if v53 = 0 then (
          some ((1 : Int32), S54))
        else (
          J51 S54)))
      else (
        J51 S17))) (fun (v24 : Int32) (S25 : St) =>
      bn1 (lq2 (fX9_findOrders_L108 v24 p1 v16 v6) 200 (0 : Int32) S25) (fun (S29 : St) =>
        bv (v16 + 1) (fun (v30 : Int32) =>
        next18 v30 S29))))
def fX9_findOrders_L24 (v6 : Int32) (v2 : Int32) (next14 : Int32 → St → Option (St)) (v12 : Int32) (S13 : St) : Option (St) :=
  if (7 : Int32) ≤ v12 then (
    some S13)
  else (
    bn1 (if v6 = (((1 : Int32) <<< (v2 &&& 31)) - (1 : Int32)) then (
      some (0 : Int32))
    else (
      some (99 : Int32))) (fun (v58 : Int32) =>
      gd (inb (((7 : Int32) * v6) + v12) 224) (
      bv (si S13 26 (((7 : Int32) * v6) + v12).toNatClampNeg v58) (fun (S60 : St) =>
      bv (v12 + 1) (fun (v62 : Int32) =>
      next14 v62 S60)))))
def fX9_findOrders_L16 (v2 : Int32) (p1 : Int32) (p2 : Int32) (next8 : Int32 → St → Option (St)) (v6 : Int32) (S7 : St) : Option (St) :=
  if v6 < 0 then (
    some S7)
  else (
    bn1 (lq2 (fX9_findOrders_L24 v6 v2) 200 (0 : Int32) S7) (fun (S15 : St) =>
      bn1 (lq2 (fX9_findOrders_L69 v2 v6 p1 p2) 200 (0 : Int32) S15) (fun (S19 : St) =>
        bv (v6 + (-1)) (fun (v20 : Int32) =>
        next8 v20 S19))))
def fX9_findOrders (S : St) (p1 : Int32) (p2 : Int32) : Option (St) :=
  gd (inb p1 8) (
  bv (((gi S 3 p1.toNatClampNeg) - (1 : Int32))) (fun (v2 : Int32) =>
  bv ((((1 : Int32) <<< (v2 &&& 31)) - (1 : Int32))) (fun (v4 : Int32) =>
  bn1 (lq2 (fX9_findOrders_L16 v2 p1 p2) 200 v4 S) (fun (S9 : St) =>
    some S9))))
abbrev rmX9_findOrders : Room := { frames := 8, cells := 0, slots := 0, locals := 170 }
set_option maxRecDepth 100000 in
set_option maxHeartbeats 4000000 in
theorem mX9_findOrders {l : Launch} {D : va_G} {cs : Nat → ClassId} {a : Nat → Nat} (hT : l.stackTraces = false) {S : St} {p1 : Int32} {p2 : Int32} {S' : St} (hF : fX9_findOrders S p1 p2 = some S') : MX l 33 GM D cs a yX9_findOrders cX9_findOrders 9 none rmX9_findOrders [.ref (a 0), .int p1, .int p2] S (.inr none) S' := by
  refine zm_entry [(0, .ref (a 0)), (1, .int p1), (2, .int p2)] hT (by decide +kernel) (Nat.le_of_ble_eq_true rfl) rfl (fun E hEl hED hEk C hQ hr => ?_)
  subst hEl
  subst hED
  subst hEk
  unfold fX9_findOrders at hF
  refine z_aload_n 0 (pc := 0) C dX9_findOrders_0 rfl rfl ?_
  refine gfX9_16 (pc := 1) C (rfl : kdM 0 = 9) dX9_findOrders_1 ?_
  refine z_iload_n 1 (pc := 4) C dX9_findOrders_4 rfl rfl ?_
  obtain ⟨g1, hF⟩ := gd_of hF
  refine iaM8 (pc := 5) C (rfl : kdM 3 = 28) g1 dX9_findOrders_5 ?_
  refine z_iconst (pc := 6) (v := (1 : Int32)) C dX9_findOrders_6 (by decide) ?_
  refine z_isub (pc := 7) C dX9_findOrders_7 ?_
  obtain ⟨v2, e3, hF⟩ := bv_of hF
  refine z_topi e3 ?_
  refine z_istore_n (pc := 8) (loc' := [(3, .int v2), (0, .ref (a 0)), (1, .int p1), (2, .int p2)]) C dX9_findOrders_8 rfl (by decide) rfl ?_
  refine z_iconst (pc := 9) (v := (1 : Int32)) C dX9_findOrders_9 (by decide) ?_
  refine z_iload_n 0 (pc := 10) C dX9_findOrders_10 rfl rfl ?_
  refine z_ishl (pc := 11) C dX9_findOrders_11 ?_
  refine z_iconst (pc := 12) (v := (1 : Int32)) C dX9_findOrders_12 (by decide) ?_
  refine z_isub (pc := 13) C dX9_findOrders_13 ?_
  obtain ⟨v4, e5, hF⟩ := bv_of hF
  refine z_topi e5 ?_
  refine z_istore (pc := 14) (loc' := [(4, .int v4), (3, .int v2), (0, .ref (a 0)), (1, .int p1), (2, .int p2)]) C dX9_findOrders_14 (by decide) rfl ?_
  refine z_sub [2, 3, 4, 1, 0] rfl ?_
  obtain ⟨S9', hR, hF⟩ := bn1_of hF
  have hJ10 : ∀ (S9 : St), (some S9 : Option (St)) = some S9' → Zz E (WM E a S9) 0 0 217 [] [] := by
    intro S9 hE
    have hE0 := Option.some.inj hE
    subst hE0
    exact z_vret (pc := 217) C hQ hr dX9_findOrders_217 (by cases hF; rfl) (by cases hF; rfl) (Nat.le_of_ble_eq_true rfl) (Nat.le_of_ble_eq_true rfl)
  have hF := hR
  clear hR
  refine lq2_W (P := fun (v6 : Int32) (S7 : St) => Zz E (WM E a S7) 0 0 16 [(0, .ref (a 0)), (1, .int p1), (2, .int p2), (3, .int v2), (4, .int v6)] []) (fun next8 hN8 v6 S7 hF => ?_) _ _ _ hF
  unfold fX9_findOrders_L16 at hF
  refine z_iload 4 (pc := 16) C dX9_findOrders_16 rfl ?_
  refine z_if_lt 217 (pc := 18) C dX9_findOrders_18 (by decide) (fun c11 => ?_) (fun c11 => ?_)
  · have hF := if_t hF c11
    refine z_sub [] rfl ?_
    exact hJ10 _ hF
  · have hF := if_f hF c11
    refine z_iconst (pc := 21) (v := (0 : Int32)) C dX9_findOrders_21 (by decide) ?_
    refine z_istore (pc := 22) (loc' := [(5, .int (0 : Int32)), (0, .ref (a 0)), (1, .int p1), (2, .int p2), (3, .int v2), (4, .int v6)]) C dX9_findOrders_22 (by decide) rfl ?_
    refine z_sub [1, 2, 3, 4, 5, 0] rfl ?_
    obtain ⟨S15', hR, hF⟩ := bn1_of hF
    have hJ56 : ∀ (S15 : St), (some S15 : Option (St)) = some S15' → Zz E (WM E a S15) 0 0 66 [(0, .ref (a 0)), (1, .int p1), (2, .int p2), (3, .int v2), (4, .int v6)] [] := by
      intro S15 hE
      have hE0 := Option.some.inj hE
      subst hE0
      refine z_iconst (pc := 66) (v := (0 : Int32)) C dX9_findOrders_66 (by decide) ?_
      refine z_istore (pc := 67) (loc' := [(5, .int (0 : Int32)), (0, .ref (a 0)), (1, .int p1), (2, .int p2), (3, .int v2), (4, .int v6)]) C dX9_findOrders_67 (by decide) rfl ?_
      refine z_sub [1, 2, 3, 4, 5, 0] rfl ?_
      obtain ⟨S19', hR, hF⟩ := bn1_of hF
      have hJ22 : ∀ (S19 : St), (some S19 : Option (St)) = some S19' → Zz E (WM E a S19) 0 0 211 [(0, .ref (a 0)), (1, .int p1), (2, .int p2), (3, .int v2), (4, .int v6)] [] := by
        intro S19 hE
        have hE0 := Option.some.inj hE
        subst hE0
        obtain ⟨v20, e21, hF⟩ := bv_of hF
        refine z_iinc 4 (pc := 211) (v := v20) (loc' := [(4, .int v20), (0, .ref (a 0)), (1, .int p1), (2, .int p2), (3, .int v2)]) C dX9_findOrders_211 rfl (by rw [e21]; rfl) (by decide) rfl ?_
        refine z_goto 16 (pc := 214) C dX9_findOrders_214 (by decide) ?_
        refine z_sub [1, 2, 3, 4, 0] rfl ?_
        exact hN8 _ _ hF
      have hF := hR
      clear hR
      refine lq2_W (P := fun (v16 : Int32) (S17 : St) => Zz E (WM E a S17) 0 0 69 [(0, .ref (a 0)), (1, .int p1), (2, .int p2), (3, .int v2), (4, .int v6), (5, .int v16)] []) (fun next18 hN18 v16 S17 hF => ?_) _ _ _ hF
      unfold fX9_findOrders_L69 at hF
      refine z_iload 5 (pc := 69) C dX9_findOrders_69 rfl ?_
      refine z_iload_n 3 (pc := 71) C dX9_findOrders_71 rfl rfl ?_
      refine z_icmp_ge 211 (pc := 72) C dX9_findOrders_72 (by decide) (fun c23 => ?_) (fun c23 => ?_)
      · have hF := if_t hF c23
        refine z_sub [0, 1, 2, 3, 4] rfl ?_
        exact hJ22 _ hF
      · have hF := if_f hF c23
        refine z_iload 4 (pc := 75) C dX9_findOrders_75 rfl ?_
        refine z_iload 5 (pc := 77) C dX9_findOrders_77 rfl ?_
        refine z_ishr (pc := 79) C dX9_findOrders_79 ?_
        refine z_iconst (pc := 80) (v := (1 : Int32)) C dX9_findOrders_80 (by decide) ?_
        refine z_iand (pc := 81) C dX9_findOrders_81 ?_
        obtain ⟨v24', S25', hR, hF⟩ := bn2_of hF
        have hJ49 : ∀ (v24 : Int32) (S25 : St), (some (v24, S25) : Option (Int32 × St)) = some (v24', S25') → Zz E (WM E a S25) 0 0 103 [(0, .ref (a 0)), (1, .int p1), (2, .int p2), (3, .int v2), (4, .int v6), (5, .int v16)] [.int v24] := by
          intro v24 S25 hE
          have hE0 := Option.some.inj hE
          obtain ⟨hA0, hE1⟩ := Prod.mk.inj hE0
          subst hA0
          subst hE1
          refine z_istore (pc := 103) (loc' := [(6, .int v24), (0, .ref (a 0)), (1, .int p1), (2, .int p2), (3, .int v2), (4, .int v6), (5, .int v16)]) C dX9_findOrders_103 (by decide) rfl ?_
          refine z_iconst (pc := 105) (v := (0 : Int32)) C dX9_findOrders_105 (by decide) ?_
          refine z_istore (pc := 106) (loc' := [(7, .int (0 : Int32)), (6, .int v24), (0, .ref (a 0)), (1, .int p1), (2, .int p2), (3, .int v2), (4, .int v6), (5, .int v16)]) C dX9_findOrders_106 (by decide) rfl ?_
          refine z_sub [2, 3, 4, 5, 6, 7, 1, 0] rfl ?_
          obtain ⟨S29', hR, hF⟩ := bn1_of hF
          have hJ32 : ∀ (S29 : St), (some S29 : Option (St)) = some S29' → Zz E (WM E a S29) 0 0 205 [(0, .ref (a 0)), (1, .int p1), (2, .int p2), (3, .int v2), (4, .int v6), (5, .int v16)] [] := by
            intro S29 hE
            have hE0 := Option.some.inj hE
            subst hE0
            obtain ⟨v30, e31, hF⟩ := bv_of hF
            refine z_iinc 5 (pc := 205) (v := v30) (loc' := [(5, .int v30), (0, .ref (a 0)), (1, .int p1), (2, .int p2), (3, .int v2), (4, .int v6)]) C dX9_findOrders_205 rfl (by rw [e31]; rfl) (by decide) rfl ?_
            refine z_goto 69 (pc := 208) C dX9_findOrders_208 (by decide) ?_
            refine z_sub [1, 2, 3, 4, 5, 0] rfl ?_
            exact hN18 _ _ hF
          have hF := hR
          clear hR
          refine lq2_W (P := fun (v26 : Int32) (S27 : St) => Zz E (WM E a S27) 0 0 108 [(0, .ref (a 0)), (1, .int p1), (2, .int p2), (3, .int v2), (4, .int v6), (5, .int v16), (6, .int v24), (7, .int v26)] []) (fun next28 hN28 v26 S27 hF => ?_) _ _ _ hF
          unfold fX9_findOrders_L108 at hF
          refine z_iload 7 (pc := 108) C dX9_findOrders_108 rfl ?_
          refine z_bipush (pc := 110) (v := (7 : Int32)) C dX9_findOrders_110 (by decide) ?_
          refine z_icmp_ge 205 (pc := 112) C dX9_findOrders_112 (by decide) (fun c33 => ?_) (fun c33 => ?_)
          · have hF := if_t hF c33
            refine z_sub [0, 1, 2, 3, 4, 5] rfl ?_
            exact hJ32 _ hF
          · have hF := if_f hF c33
            refine z_iload 6 (pc := 115) C dX9_findOrders_115 rfl ?_
            refine z_if_eq 205 (pc := 117) C dX9_findOrders_117 (by decide) (fun c34 => ?_) (fun c34 => ?_)
            · have hF := if_t hF c34
              refine z_sub [0, 1, 2, 3, 4, 5] rfl ?_
              exact hJ32 _ hF
            · have hF := if_f hF c34
              refine z_aload_n 0 (pc := 120) C dX9_findOrders_120 rfl rfl ?_
              refine z_iload_n 1 (pc := 121) C dX9_findOrders_121 rfl rfl ?_
              refine z_iload 7 (pc := 122) C dX9_findOrders_122 rfl ?_
              refine z_iload 5 (pc := 124) C dX9_findOrders_124 rfl ?_
              obtain ⟨v35, hG, hF⟩ := bn1_of hF
              refine z_callV [.int p1, .int v26, .int v16] (pc := 126) (st1 := [.int v35]) (c1 := 0) (s1 := 0) C (mX9_turn C.hT hG) kX9_191 (kdM_lt (rfl : kdM 0 = 9) (by decide)) (gM_9 (rfl : kdM 0 = 9)) rfl rfl rfl rfl (Nat.le_of_ble_eq_true rfl) ⟨(Nat.le_of_ble_eq_true rfl), (Nat.le_of_ble_eq_true rfl)⟩ ⟨(Nat.le_of_ble_eq_true rfl), (Nat.le_of_ble_eq_true rfl)⟩ dX9_findOrders_126 rfl rfl ?_
              refine z_aload_n 0 (pc := 129) C dX9_findOrders_129 rfl rfl ?_
              refine gfX9_85 (pc := 130) C (rfl : kdM 0 = 9) dX9_findOrders_130 ?_
              refine z_bipush (pc := 133) (v := (7 : Int32)) C dX9_findOrders_133 (by decide) ?_
              refine z_iload 4 (pc := 135) C dX9_findOrders_135 rfl ?_
              refine z_iconst (pc := 137) (v := (1 : Int32)) C dX9_findOrders_137 (by decide) ?_
              refine z_iload 5 (pc := 138) C dX9_findOrders_138 rfl ?_
              refine z_ishl (pc := 140) C dX9_findOrders_140 ?_
              refine z_ior (pc := 141) C dX9_findOrders_141 ?_
              refine z_imul (pc := 142) C dX9_findOrders_142 ?_
              refine z_iload 5 (pc := 143) C dX9_findOrders_143 rfl ?_
              refine z_iadd (pc := 145) C dX9_findOrders_145 ?_
              obtain ⟨g36, hF⟩ := gd_of hF
              refine iaM224 (pc := 146) C (rfl : kdM 26 = 244) g36 dX9_findOrders_146 ?_
              refine z_iadd (pc := 147) C dX9_findOrders_147 ?_
              obtain ⟨v37, e38, hF⟩ := bv_of hF
              refine z_topi e38 ?_
              refine z_istore (pc := 148) (loc' := [(8, .int v37), (0, .ref (a 0)), (1, .int p1), (2, .int p2), (3, .int v2), (4, .int v6), (5, .int v16), (6, .int v24), (7, .int v26)]) C dX9_findOrders_148 (by decide) rfl ?_
              refine z_aload_n 1 (pc := 150) C dX9_findOrders_150 rfl rfl ?_
              refine gfX9_85 (pc := 151) C (rfl : kdM 0 = 9) dX9_findOrders_151 ?_
              refine z_bipush (pc := 154) (v := (7 : Int32)) C dX9_findOrders_154 (by decide) ?_
              refine z_iload 5 (pc := 156) C dX9_findOrders_156 rfl ?_
              refine z_imul (pc := 158) C dX9_findOrders_158 ?_
              refine z_iload 8 (pc := 159) C dX9_findOrders_159 rfl ?_
              refine z_iadd (pc := 161) C dX9_findOrders_161 ?_
              refine z_iload 0 (pc := 162) C dX9_findOrders_162 rfl ?_
              refine z_aload_n 1 (pc := 164) C dX9_findOrders_164 rfl rfl ?_
              refine gfX9_85 (pc := 165) C (rfl : kdM 0 = 9) dX9_findOrders_165 ?_
              refine z_bipush (pc := 168) (v := (7 : Int32)) C dX9_findOrders_168 (by decide) ?_
              refine z_iload 5 (pc := 170) C dX9_findOrders_170 rfl ?_
              refine z_imul (pc := 172) C dX9_findOrders_172 ?_
              refine z_iload 8 (pc := 173) C dX9_findOrders_173 rfl ?_
              refine z_iadd (pc := 175) C dX9_findOrders_175 ?_
              obtain ⟨g39, hF⟩ := gd_of hF
              refine iaM224 (pc := 176) C (rfl : kdM 26 = 244) g39 dX9_findOrders_176 ?_
              obtain ⟨v40', hR, hF⟩ := bn1_of hF
              have hJ46 : ∀ (v40 : Int32), (some v40 : Option (Int32)) = some v40' → Zz E (WM E a S27) 0 0 198 [(0, .ref (a 0)), (1, .int p1), (2, .int p2), (3, .int v2), (4, .int v6), (5, .int v16), (6, .int v24), (7, .int v26)] [.int v40, .int (((7 : Int32) * v6) + v26), .ref (a 26)] := by
                intro v40 hE
                have hE0 := Option.some.inj hE
                subst hE0
                obtain ⟨g41, hF⟩ := gd_of hF
                refine saM224 (pc := 198) C (rfl : kdM 26 = 244) g41 dX9_findOrders_198 ?_
                obtain ⟨S42, e43, hF⟩ := bv_of hF
                rw [← e43]
                obtain ⟨v44, e45, hF⟩ := bv_of hF
                refine z_iinc 7 (pc := 199) (v := v44) (loc' := [(7, .int v44), (0, .ref (a 0)), (1, .int p1), (2, .int p2), (3, .int v2), (4, .int v6), (5, .int v16), (6, .int v24)]) C dX9_findOrders_199 rfl (by rw [e45]; rfl) (by decide) rfl ?_
                refine z_goto 108 (pc := 202) C dX9_findOrders_202 (by decide) ?_
                refine z_sub [1, 2, 3, 4, 5, 6, 7, 0] rfl ?_
                exact hN28 _ _ hF
              have hF := hR
              clear hR
              refine z_icmp_ge 185 (pc := 177) C dX9_findOrders_177 (by decide) (fun c47 => ?_) (fun c47 => ?_)
              · have hF := if_t hF c47
                refine z_aload_n 1 (pc := 185) C dX9_findOrders_185 rfl rfl ?_
                refine gfX9_85 (pc := 186) C (rfl : kdM 0 = 9) dX9_findOrders_186 ?_
                refine z_bipush (pc := 189) (v := (7 : Int32)) C dX9_findOrders_189 (by decide) ?_
                refine z_iload 5 (pc := 191) C dX9_findOrders_191 rfl ?_
                refine z_imul (pc := 193) C dX9_findOrders_193 ?_
                refine z_iload 8 (pc := 194) C dX9_findOrders_194 rfl ?_
                refine z_iadd (pc := 196) C dX9_findOrders_196 ?_
                obtain ⟨g48, hF⟩ := gd_of hF
                refine iaM224 (pc := 197) C (rfl : kdM 26 = 244) g48 dX9_findOrders_197 ?_
                refine z_sub [1, 2, 3, 4, 5, 6, 7, 8] rfl ?_
                exact hJ46 _ hF
              · have hF := if_f hF c47
                refine z_iload 0 (pc := 180) C dX9_findOrders_180 rfl ?_
                refine z_goto 198 (pc := 182) C dX9_findOrders_182 (by decide) ?_
                refine z_sub [1, 2, 3, 4, 5, 6, 7, 8] rfl ?_
                exact hJ46 _ hF
        have hF := hR
        clear hR
        obtain ⟨J51, hdJ51, hF⟩ := jn1_of hF
        have hJ51 : ∀ (S50 : St), J51 S50 = some (v24', S25') → Zz E (WM E a S50) 0 0 102 [(0, .ref (a 0)), (1, .int p1), (2, .int p2), (3, .int v2), (4, .int v6), (5, .int v16)] [] := by
          intro S50 hF
          have hF := (hdJ51 _).symm.trans hF
          refine z_iconst (pc := 102) (v := (0 : Int32)) C dX9_findOrders_102 (by decide) ?_
          exact hJ49 _ _ hF
        refine z_if_ne 102 (pc := 82) C dX9_findOrders_82 (by decide) (fun c52 => ?_) (fun c52 => ?_)
        · have hF := if_f hF c52
          exact hJ51 _ hF
        · have hF := if_t hF c52
          refine z_aload_n 0 (pc := 85) C dX9_findOrders_85 rfl rfl ?_
          refine z_iload_n 1 (pc := 86) C dX9_findOrders_86 rfl rfl ?_
          refine z_iload_n 2 (pc := 87) C dX9_findOrders_87 rfl rfl ?_
          refine z_iload 4 (pc := 88) C dX9_findOrders_88 rfl ?_
          refine z_iload 5 (pc := 90) C dX9_findOrders_90 rfl ?_
          obtain ⟨v53, S54, hG, hF⟩ := bn2_of hF
          refine z_callV [.int p1, .int p2, .int v6, .int v16] (pc := 92) (st1 := [.int v53]) (c1 := 0) (s1 := 0) C (mX9_reason C.hT hG) kX9_187 (kdM_lt (rfl : kdM 0 = 9) (by decide)) (gM_9 (rfl : kdM 0 = 9)) rfl rfl rfl rfl (Nat.le_of_ble_eq_true rfl) ⟨(Nat.le_of_ble_eq_true rfl), (Nat.le_of_ble_eq_true rfl)⟩ ⟨(Nat.le_of_ble_eq_true rfl), (Nat.le_of_ble_eq_true rfl)⟩ dX9_findOrders_92 rfl rfl ?_
          refine z_if_ne 102 (pc := 95) C dX9_findOrders_95 (by decide) (fun c55 => ?_) (fun c55 => ?_)
          · have hF := if_f hF c55
            exact hJ51 _ hF
          · have hF := if_t hF c55
            refine z_iconst (pc := 98) (v := (1 : Int32)) C dX9_findOrders_98 (by decide) ?_
            refine z_goto 103 (pc := 99) C dX9_findOrders_99 (by decide) ?_
            exact hJ49 _ _ hF
    have hF := hR
    clear hR
    refine lq2_W (P := fun (v12 : Int32) (S13 : St) => Zz E (WM E a S13) 0 0 24 [(0, .ref (a 0)), (1, .int p1), (2, .int p2), (3, .int v2), (4, .int v6), (5, .int v12)] []) (fun next14 hN14 v12 S13 hF => ?_) _ _ _ hF
    unfold fX9_findOrders_L24 at hF
    refine z_iload 5 (pc := 24) C dX9_findOrders_24 rfl ?_
    refine z_bipush (pc := 26) (v := (7 : Int32)) C dX9_findOrders_26 (by decide) ?_
    refine z_icmp_ge 66 (pc := 28) C dX9_findOrders_28 (by decide) (fun c57 => ?_) (fun c57 => ?_)
    · have hF := if_t hF c57
      refine z_sub [0, 1, 2, 3, 4] rfl ?_
      exact hJ56 _ hF
    · have hF := if_f hF c57
      refine z_aload_n 0 (pc := 31) C dX9_findOrders_31 rfl rfl ?_
      refine gfX9_85 (pc := 32) C (rfl : kdM 0 = 9) dX9_findOrders_32 ?_
      refine z_bipush (pc := 35) (v := (7 : Int32)) C dX9_findOrders_35 (by decide) ?_
      refine z_iload 4 (pc := 37) C dX9_findOrders_37 rfl ?_
      refine z_imul (pc := 39) C dX9_findOrders_39 ?_
      refine z_iload 5 (pc := 40) C dX9_findOrders_40 rfl ?_
      refine z_iadd (pc := 42) C dX9_findOrders_42 ?_
      refine z_iload 4 (pc := 43) C dX9_findOrders_43 rfl ?_
      refine z_iconst (pc := 45) (v := (1 : Int32)) C dX9_findOrders_45 (by decide) ?_
      refine z_iload_n 3 (pc := 46) C dX9_findOrders_46 rfl rfl ?_
      refine z_ishl (pc := 47) C dX9_findOrders_47 ?_
      refine z_iconst (pc := 48) (v := (1 : Int32)) C dX9_findOrders_48 (by decide) ?_
      refine z_isub (pc := 49) C dX9_findOrders_49 ?_
      obtain ⟨v58', hR, hF⟩ := bn1_of hF
      have hJ64 : ∀ (v58 : Int32), (some v58 : Option (Int32)) = some v58' → Zz E (WM E a S13) 0 0 59 [(0, .ref (a 0)), (1, .int p1), (2, .int p2), (3, .int v2), (4, .int v6), (5, .int v12)] [.int v58, .int (((7 : Int32) * v6) + v12), .ref (a 26)] := by
        intro v58 hE
        have hE0 := Option.some.inj hE
        subst hE0
        obtain ⟨g59, hF⟩ := gd_of hF
        refine saM224 (pc := 59) C (rfl : kdM 26 = 244) g59 dX9_findOrders_59 ?_
        obtain ⟨S60, e61, hF⟩ := bv_of hF
        rw [← e61]
        obtain ⟨v62, e63, hF⟩ := bv_of hF
        refine z_iinc 5 (pc := 60) (v := v62) (loc' := [(5, .int v62), (0, .ref (a 0)), (1, .int p1), (2, .int p2), (3, .int v2), (4, .int v6)]) C dX9_findOrders_60 rfl (by rw [e63]; rfl) (by decide) rfl ?_
        refine z_goto 24 (pc := 63) C dX9_findOrders_63 (by decide) ?_
        refine z_sub [1, 2, 3, 4, 5, 0] rfl ?_
        exact hN14 _ _ hF
      have hF := hR
      clear hR
      refine z_icmp_ne 57 (pc := 50) C dX9_findOrders_50 (by decide) (fun c65 => ?_) (fun c65 => ?_)
      · have hF := if_f hF c65
        refine z_bipush (pc := 57) (v := (99 : Int32)) C dX9_findOrders_57 (by decide) ?_
        exact hJ64 _ hF
      · have hF := if_t hF c65
        refine z_iconst (pc := 53) (v := (0 : Int32)) C dX9_findOrders_53 (by decide) ?_
        refine z_goto 59 (pc := 54) C dX9_findOrders_54 (by decide) ?_
        exact hJ64 _ hF
