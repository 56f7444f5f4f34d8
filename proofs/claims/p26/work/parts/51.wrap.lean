/-! ===== the wrappers ===== -/
abbrev rmL_face : Room := { frames := 8, cells := 1, slots := 6, locals := 170 }
theorem kL_8 : CallVok RL 8 yX8_face cX8_face 3 (some .int) 2 := ⟨bw_5_12, bw_5_13, bw_5_14, bw_1_2, bw_5_15, ⟨by decide +kernel, by decide +kernel, by decide +kernel⟩⟩
theorem mL_face_v {l : Launch} {D : va_G} {cs : Nat → ClassId} {a : Nat → Nat} (hT : l.stackTraces = false) {S : St} {p1 p2 : Int32} {v : Int32} {S' : St} (hF : fX8_face S p1 p2 = some (.inr v, S')) : ML l D cs a yL_face (.codeWith yL_face cL_face 4 (some .long) [(0, 7, 8, 14), (0, 7, 13, 18)]) rmL_face [.ref (a 0), .int p1, .int p2] S (.long (gI v)) S' := by
  refine ml_entry [(0, .ref (a 0)), (1, .int p1), (2, .int p2)] hT (by decide +kernel) (Nat.le_of_ble_eq_true rfl) rfl (fun E hEl hED hEk C hQ O => ?_)
  subst hEl
  subst hED
  subst hEk
  refine v_aload_n 0 (pc := 0) C dL_face_0 rfl rfl ?_
  refine v_iload_n 1 (pc := 1) C dL_face_1 rfl rfl ?_
  refine v_iload_n 2 (pc := 2) C dL_face_2 rfl rfl ?_
  refine v_callV [.int p1, .int p2] (pc := 3) (st1 := [.int v]) (c1 := 1) (s1 := 6) C (mX8_face C.hT hF) kL_8 (by decide) (gX_8 (rfl : kdX 0 = 8)) rfl rfl rfl rfl (Nat.le_of_ble_eq_true rfl) ⟨(Nat.le_of_ble_eq_true rfl), (Nat.le_of_ble_eq_true rfl)⟩ ⟨(Nat.le_of_ble_eq_true rfl), (Nat.le_of_ble_eq_true rfl)⟩ dL_face_3 rfl rfl ?_
  refine v_i2l (pc := 6) C dL_face_6 ?_
  exact l_lret C hQ dL_face_7 rfl rfl (Nat.le_of_ble_eq_true rfl) (Nat.le_of_ble_eq_true rfl)
theorem mL_face_1 {l : Launch} {D : va_G} {cs : Nat → ClassId} {a : Nat → Nat} (hT : l.stackTraces = false) {S : St} {p1 p2 : Int32} {S' : St} (hF : fX8_face S p1 p2 = some (.inl "java/lang/IllegalArgumentException", S')) : ML l D cs a yL_face (.codeWith yL_face cL_face 4 (some .long) [(0, 7, 8, 14), (0, 7, 13, 18)]) rmL_face [.ref (a 0), .int p1, .int p2] S (.long XX) S' := by
  refine ml_entry [(0, .ref (a 0)), (1, .int p1), (2, .int p2)] hT (by decide +kernel) (Nat.le_of_ble_eq_true rfl) rfl (fun E hEl hED hEk C hQ O => ?_)
  subst hEl
  subst hED
  subst hEk
  refine v_aload_n 0 (pc := 0) C dL_face_0 rfl rfl ?_
  refine v_iload_n 1 (pc := 1) C dL_face_1 rfl rfl ?_
  refine v_iload_n 2 (pc := 2) C dL_face_2 rfl rfl ?_
  refine l_callx [.int p1, .int p2] (pc := 3) (c1 := 1) (s1 := 6) [] ⟨0, 7, 8, 14⟩ [⟨0, 7, 13, 18⟩] C hQ.1 O (mX8_face C.hT hF) kL_8 (gX_8 (rfl : kdX 0 = 8)) rfl rfl rfl (Nat.le_of_ble_eq_true rfl) ⟨(Nat.le_of_ble_eq_true rfl), (Nat.le_of_ble_eq_true rfl)⟩ ⟨(Nat.le_of_ble_eq_true rfl), (Nat.le_of_ble_eq_true rfl)⟩ dL_face_3 rfl (fun z hz => absurd hz List.not_mem_nil) rfl (by decide) bw_5_10 (by decide) rfl rfl (fun q => ?_)
  refine v_astore_n (pc := 8) (loc' := [(3, .ref q), (0, .ref (a 0)), (1, .int p1), (2, .int p2)]) C dL_face_8 rfl (by decide) rfl ?_
  refine v_ldc2 (pc := 9) (v := (-9000000000000000 : Int64)) C bw_1_3 dL_face_9 ?_
  exact l_lret C hQ dL_face_12 rfl rfl (Nat.le_of_ble_eq_true rfl) (Nat.le_of_ble_eq_true rfl)
theorem mL_face_2 {l : Launch} {D : va_G} {cs : Nat → ClassId} {a : Nat → Nat} (hT : l.stackTraces = false) {S : St} {p1 p2 : Int32} {S' : St} (hF : fX8_face S p1 p2 = some (.inl "java/lang/IllegalStateException", S')) : ML l D cs a yL_face (.codeWith yL_face cL_face 4 (some .long) [(0, 7, 8, 14), (0, 7, 13, 18)]) rmL_face [.ref (a 0), .int p1, .int p2] S (.long XX) S' := by
  refine ml_entry [(0, .ref (a 0)), (1, .int p1), (2, .int p2)] hT (by decide +kernel) (Nat.le_of_ble_eq_true rfl) rfl (fun E hEl hED hEk C hQ O => ?_)
  subst hEl
  subst hED
  subst hEk
  refine v_aload_n 0 (pc := 0) C dL_face_0 rfl rfl ?_
  refine v_iload_n 1 (pc := 1) C dL_face_1 rfl rfl ?_
  refine v_iload_n 2 (pc := 2) C dL_face_2 rfl rfl ?_
  refine l_callx [.int p1, .int p2] (pc := 3) (c1 := 1) (s1 := 6) [⟨0, 7, 8, 14⟩] ⟨0, 7, 13, 18⟩ [] C hQ.1 O (mX8_face C.hT hF) kL_8 (gX_8 (rfl : kdX 0 = 8)) rfl rfl rfl (Nat.le_of_ble_eq_true rfl) ⟨(Nat.le_of_ble_eq_true rfl), (Nat.le_of_ble_eq_true rfl)⟩ ⟨(Nat.le_of_ble_eq_true rfl), (Nat.le_of_ble_eq_true rfl)⟩ dL_face_3 rfl (fun z hz => by
    simp only [List.mem_cons, List.not_mem_nil, or_false] at hz
    rcases hz with rfl
    · exact ⟨by decide, _, bw_5_10, by decide⟩) rfl (by decide) bw_5_11 (by decide) rfl rfl (fun q => ?_)
  refine v_astore_n (pc := 13) (loc' := [(3, .ref q), (0, .ref (a 0)), (1, .int p1), (2, .int p2)]) C dL_face_13 rfl (by decide) rfl ?_
  refine v_ldc2 (pc := 14) (v := (-9000000000000000 : Int64)) C bw_1_3 dL_face_14 ?_
  exact l_lret C hQ dL_face_17 rfl rfl (Nat.le_of_ble_eq_true rfl) (Nat.le_of_ble_eq_true rfl)
def fL_face (S : St) (p1 : Int32) (p2 : Int32) : Option (Int64 × St) := wrp ["java/lang/IllegalArgumentException", "java/lang/IllegalStateException"] gI (fX8_face S p1 p2)
theorem mL_face {l : Launch} {D : va_G} {cs : Nat → ClassId} {a : Nat → Nat} (hT : l.stackTraces = false) {S : St} {p1 p2 : Int32} {r : Int64} {S' : St} (hF : fL_face S p1 p2 = some (r, S')) : ML l D cs a yL_face (.codeWith yL_face cL_face 4 (some .long) [(0, 7, 8, 14), (0, 7, 13, 18)]) rmL_face [.ref (a 0), .int p1, .int p2] S (.long r) S' := by
  rcases wrp_of hF with ⟨v, h, rfl⟩ | ⟨e, he, h, rfl⟩
  · exact mL_face_v hT h
  · simp only [List.mem_cons, List.not_mem_nil, or_false] at he
    rcases he with rfl | rfl
    · exact mL_face_1 hT h
    · exact mL_face_2 hT h
abbrev rmL_part : Room := { frames := 9, cells := 3, slots := 18, locals := 210 }
theorem kL_20 : CallVok RL 20 yX8_part cX8_part 3 (some .int) 2 := ⟨bw_7_17, bw_7_18, bw_7_19, bw_1_2, bw_7_20, ⟨by decide +kernel, by decide +kernel, by decide +kernel⟩⟩
theorem mL_part_v {l : Launch} {D : va_G} {cs : Nat → ClassId} {a : Nat → Nat} (hT : l.stackTraces = false) {S : St} {p1 p2 : Int32} {v : Int32} {S' : St} (hF : fX8_part S p1 p2 = some (.inr v, S')) : ML l D cs a yL_part (.codeWith yL_part cL_part 4 (some .long) [(0, 7, 8, 14), (0, 7, 13, 18)]) rmL_part [.ref (a 0), .int p1, .int p2] S (.long (gI v)) S' := by
  refine ml_entry [(0, .ref (a 0)), (1, .int p1), (2, .int p2)] hT (by decide +kernel) (Nat.le_of_ble_eq_true rfl) rfl (fun E hEl hED hEk C hQ O => ?_)
  subst hEl
  subst hED
  subst hEk
  refine v_aload_n 0 (pc := 0) C dL_part_0 rfl rfl ?_
  refine v_iload_n 1 (pc := 1) C dL_part_1 rfl rfl ?_
  refine v_iload_n 2 (pc := 2) C dL_part_2 rfl rfl ?_
  refine v_callV [.int p1, .int p2] (pc := 3) (st1 := [.int v]) (c1 := 3) (s1 := 18) C (mX8_part C.hT hF) kL_20 (by decide) (gX_8 (rfl : kdX 0 = 8)) rfl rfl rfl rfl (Nat.le_of_ble_eq_true rfl) ⟨(Nat.le_of_ble_eq_true rfl), (Nat.le_of_ble_eq_true rfl)⟩ ⟨(Nat.le_of_ble_eq_true rfl), (Nat.le_of_ble_eq_true rfl)⟩ dL_part_3 rfl rfl ?_
  refine v_i2l (pc := 6) C dL_part_6 ?_
  exact l_lret C hQ dL_part_7 rfl rfl (Nat.le_of_ble_eq_true rfl) (Nat.le_of_ble_eq_true rfl)
theorem mL_part_1 {l : Launch} {D : va_G} {cs : Nat → ClassId} {a : Nat → Nat} (hT : l.stackTraces = false) {S : St} {p1 p2 : Int32} {S' : St} (hF : fX8_part S p1 p2 = some (.inl "java/lang/IllegalArgumentException", S')) : ML l D cs a yL_part (.codeWith yL_part cL_part 4 (some .long) [(0, 7, 8, 14), (0, 7, 13, 18)]) rmL_part [.ref (a 0), .int p1, .int p2] S (.long XX) S' := by
  refine ml_entry [(0, .ref (a 0)), (1, .int p1), (2, .int p2)] hT (by decide +kernel) (Nat.le_of_ble_eq_true rfl) rfl (fun E hEl hED hEk C hQ O => ?_)
  subst hEl
  subst hED
  subst hEk
  refine v_aload_n 0 (pc := 0) C dL_part_0 rfl rfl ?_
  refine v_iload_n 1 (pc := 1) C dL_part_1 rfl rfl ?_
  refine v_iload_n 2 (pc := 2) C dL_part_2 rfl rfl ?_
  refine l_callx [.int p1, .int p2] (pc := 3) (c1 := 3) (s1 := 18) [] ⟨0, 7, 8, 14⟩ [⟨0, 7, 13, 18⟩] C hQ.1 O (mX8_part C.hT hF) kL_20 (gX_8 (rfl : kdX 0 = 8)) rfl rfl rfl (Nat.le_of_ble_eq_true rfl) ⟨(Nat.le_of_ble_eq_true rfl), (Nat.le_of_ble_eq_true rfl)⟩ ⟨(Nat.le_of_ble_eq_true rfl), (Nat.le_of_ble_eq_true rfl)⟩ dL_part_3 rfl (fun z hz => absurd hz List.not_mem_nil) rfl (by decide) bw_5_10 (by decide) rfl rfl (fun q => ?_)
  refine v_astore_n (pc := 8) (loc' := [(3, .ref q), (0, .ref (a 0)), (1, .int p1), (2, .int p2)]) C dL_part_8 rfl (by decide) rfl ?_
  refine v_ldc2 (pc := 9) (v := (-9000000000000000 : Int64)) C bw_1_3 dL_part_9 ?_
  exact l_lret C hQ dL_part_12 rfl rfl (Nat.le_of_ble_eq_true rfl) (Nat.le_of_ble_eq_true rfl)
theorem mL_part_2 {l : Launch} {D : va_G} {cs : Nat → ClassId} {a : Nat → Nat} (hT : l.stackTraces = false) {S : St} {p1 p2 : Int32} {S' : St} (hF : fX8_part S p1 p2 = some (.inl "java/lang/IllegalStateException", S')) : ML l D cs a yL_part (.codeWith yL_part cL_part 4 (some .long) [(0, 7, 8, 14), (0, 7, 13, 18)]) rmL_part [.ref (a 0), .int p1, .int p2] S (.long XX) S' := by
  refine ml_entry [(0, .ref (a 0)), (1, .int p1), (2, .int p2)] hT (by decide +kernel) (Nat.le_of_ble_eq_true rfl) rfl (fun E hEl hED hEk C hQ O => ?_)
  subst hEl
  subst hED
  subst hEk
  refine v_aload_n 0 (pc := 0) C dL_part_0 rfl rfl ?_
  refine v_iload_n 1 (pc := 1) C dL_part_1 rfl rfl ?_
  refine v_iload_n 2 (pc := 2) C dL_part_2 rfl rfl ?_
  refine l_callx [.int p1, .int p2] (pc := 3) (c1 := 3) (s1 := 18) [⟨0, 7, 8, 14⟩] ⟨0, 7, 13, 18⟩ [] C hQ.1 O (mX8_part C.hT hF) kL_20 (gX_8 (rfl : kdX 0 = 8)) rfl rfl rfl (Nat.le_of_ble_eq_true rfl) ⟨(Nat.le_of_ble_eq_true rfl), (Nat.le_of_ble_eq_true rfl)⟩ ⟨(Nat.le_of_ble_eq_true rfl), (Nat.le_of_ble_eq_true rfl)⟩ dL_part_3 rfl (fun z hz => by
    simp only [List.mem_cons, List.not_mem_nil, or_false] at hz
    rcases hz with rfl
    · exact ⟨by decide, _, bw_5_10, by decide⟩) rfl (by decide) bw_5_11 (by decide) rfl rfl (fun q => ?_)
  refine v_astore_n (pc := 13) (loc' := [(3, .ref q), (0, .ref (a 0)), (1, .int p1), (2, .int p2)]) C dL_part_13 rfl (by decide) rfl ?_
  refine v_ldc2 (pc := 14) (v := (-9000000000000000 : Int64)) C bw_1_3 dL_part_14 ?_
  exact l_lret C hQ dL_part_17 rfl rfl (Nat.le_of_ble_eq_true rfl) (Nat.le_of_ble_eq_true rfl)
def fL_part (S : St) (p1 : Int32) (p2 : Int32) : Option (Int64 × St) := wrp ["java/lang/IllegalArgumentException", "java/lang/IllegalStateException"] gI (fX8_part S p1 p2)
theorem mL_part {l : Launch} {D : va_G} {cs : Nat → ClassId} {a : Nat → Nat} (hT : l.stackTraces = false) {S : St} {p1 p2 : Int32} {r : Int64} {S' : St} (hF : fL_part S p1 p2 = some (r, S')) : ML l D cs a yL_part (.codeWith yL_part cL_part 4 (some .long) [(0, 7, 8, 14), (0, 7, 13, 18)]) rmL_part [.ref (a 0), .int p1, .int p2] S (.long r) S' := by
  rcases wrp_of hF with ⟨v, h, rfl⟩ | ⟨e, he, h, rfl⟩
  · exact mL_part_v hT h
  · simp only [List.mem_cons, List.not_mem_nil, or_false] at he
    rcases he with rfl | rfl
    · exact mL_part_1 hT h
    · exact mL_part_2 hT h
abbrev rmL_redraw : Room := { frames := 10, cells := 3, slots := 18, locals := 250 }
theorem kL_23 : CallVok RL 23 yX8_redraw cX8_redraw 8 (some .int) 3 := ⟨bw_8_17, bw_8_18, bw_8_19, bw_1_2, bw_8_20, ⟨by decide +kernel, by decide +kernel, by decide +kernel⟩⟩
theorem mL_redraw_v {l : Launch} {D : va_G} {cs : Nat → ClassId} {a : Nat → Nat} (hT : l.stackTraces = false) {S : St} {p1 p2 p3 : Int32} {v : Int32} {S' : St} (hF : fX8_redraw S p1 p2 p3 = some (.inr v, S')) : ML l D cs a yL_redraw (.codeWith yL_redraw cL_redraw 5 (some .long) [(0, 8, 9, 27), (0, 8, 15, 14), (0, 8, 21, 18)]) rmL_redraw [.ref (a 0), .int p1, .int p2, .int p3] S (.long (gI v)) S' := by
  refine ml_entry [(0, .ref (a 0)), (1, .int p1), (2, .int p2), (3, .int p3)] hT (by decide +kernel) (Nat.le_of_ble_eq_true rfl) rfl (fun E hEl hED hEk C hQ O => ?_)
  subst hEl
  subst hED
  subst hEk
  refine v_aload_n 0 (pc := 0) C dL_redraw_0 rfl rfl ?_
  refine v_iload_n 1 (pc := 1) C dL_redraw_1 rfl rfl ?_
  refine v_iload_n 2 (pc := 2) C dL_redraw_2 rfl rfl ?_
  refine v_iload_n 3 (pc := 3) C dL_redraw_3 rfl rfl ?_
  refine v_callV [.int p1, .int p2, .int p3] (pc := 4) (st1 := [.int v]) (c1 := 3) (s1 := 18) C (mX8_redraw C.hT hF) kL_23 (by decide) (gX_8 (rfl : kdX 0 = 8)) rfl rfl rfl rfl (Nat.le_of_ble_eq_true rfl) ⟨(Nat.le_of_ble_eq_true rfl), (Nat.le_of_ble_eq_true rfl)⟩ ⟨(Nat.le_of_ble_eq_true rfl), (Nat.le_of_ble_eq_true rfl)⟩ dL_redraw_4 rfl rfl ?_
  refine v_i2l (pc := 7) C dL_redraw_7 ?_
  exact l_lret C hQ dL_redraw_8 rfl rfl (Nat.le_of_ble_eq_true rfl) (Nat.le_of_ble_eq_true rfl)
theorem mL_redraw_1 {l : Launch} {D : va_G} {cs : Nat → ClassId} {a : Nat → Nat} (hT : l.stackTraces = false) {S : St} {p1 p2 p3 : Int32} {S' : St} (hF : fX8_redraw S p1 p2 p3 = some (.inl "java/lang/IndexOutOfBoundsException", S')) : ML l D cs a yL_redraw (.codeWith yL_redraw cL_redraw 5 (some .long) [(0, 8, 9, 27), (0, 8, 15, 14), (0, 8, 21, 18)]) rmL_redraw [.ref (a 0), .int p1, .int p2, .int p3] S (.long XX) S' := by
  refine ml_entry [(0, .ref (a 0)), (1, .int p1), (2, .int p2), (3, .int p3)] hT (by decide +kernel) (Nat.le_of_ble_eq_true rfl) rfl (fun E hEl hED hEk C hQ O => ?_)
  subst hEl
  subst hED
  subst hEk
  refine v_aload_n 0 (pc := 0) C dL_redraw_0 rfl rfl ?_
  refine v_iload_n 1 (pc := 1) C dL_redraw_1 rfl rfl ?_
  refine v_iload_n 2 (pc := 2) C dL_redraw_2 rfl rfl ?_
  refine v_iload_n 3 (pc := 3) C dL_redraw_3 rfl rfl ?_
  refine l_callx [.int p1, .int p2, .int p3] (pc := 4) (c1 := 3) (s1 := 18) [] ⟨0, 8, 9, 27⟩ [⟨0, 8, 15, 14⟩, ⟨0, 8, 21, 18⟩] C hQ.1 O (mX8_redraw C.hT hF) kL_23 (gX_8 (rfl : kdX 0 = 8)) rfl rfl rfl (Nat.le_of_ble_eq_true rfl) ⟨(Nat.le_of_ble_eq_true rfl), (Nat.le_of_ble_eq_true rfl)⟩ ⟨(Nat.le_of_ble_eq_true rfl), (Nat.le_of_ble_eq_true rfl)⟩ dL_redraw_4 rfl (fun z hz => absurd hz List.not_mem_nil) rfl (by decide) bw_6_9 (by decide) rfl rfl (fun q => ?_)
  refine v_astore (pc := 9) (loc' := [(4, .ref q), (0, .ref (a 0)), (1, .int p1), (2, .int p2), (3, .int p3)]) C dL_redraw_9 (by decide) rfl ?_
  refine v_ldc2 (pc := 11) (v := (-9000000000000000 : Int64)) C bw_1_3 dL_redraw_11 ?_
  exact l_lret C hQ dL_redraw_14 rfl rfl (Nat.le_of_ble_eq_true rfl) (Nat.le_of_ble_eq_true rfl)
theorem mL_redraw_2 {l : Launch} {D : va_G} {cs : Nat → ClassId} {a : Nat → Nat} (hT : l.stackTraces = false) {S : St} {p1 p2 p3 : Int32} {S' : St} (hF : fX8_redraw S p1 p2 p3 = some (.inl "java/lang/IllegalArgumentException", S')) : ML l D cs a yL_redraw (.codeWith yL_redraw cL_redraw 5 (some .long) [(0, 8, 9, 27), (0, 8, 15, 14), (0, 8, 21, 18)]) rmL_redraw [.ref (a 0), .int p1, .int p2, .int p3] S (.long XX) S' := by
  refine ml_entry [(0, .ref (a 0)), (1, .int p1), (2, .int p2), (3, .int p3)] hT (by decide +kernel) (Nat.le_of_ble_eq_true rfl) rfl (fun E hEl hED hEk C hQ O => ?_)
  subst hEl
  subst hED
  subst hEk
  refine v_aload_n 0 (pc := 0) C dL_redraw_0 rfl rfl ?_
  refine v_iload_n 1 (pc := 1) C dL_redraw_1 rfl rfl ?_
  refine v_iload_n 2 (pc := 2) C dL_redraw_2 rfl rfl ?_
  refine v_iload_n 3 (pc := 3) C dL_redraw_3 rfl rfl ?_
  refine l_callx [.int p1, .int p2, .int p3] (pc := 4) (c1 := 3) (s1 := 18) [⟨0, 8, 9, 27⟩] ⟨0, 8, 15, 14⟩ [⟨0, 8, 21, 18⟩] C hQ.1 O (mX8_redraw C.hT hF) kL_23 (gX_8 (rfl : kdX 0 = 8)) rfl rfl rfl (Nat.le_of_ble_eq_true rfl) ⟨(Nat.le_of_ble_eq_true rfl), (Nat.le_of_ble_eq_true rfl)⟩ ⟨(Nat.le_of_ble_eq_true rfl), (Nat.le_of_ble_eq_true rfl)⟩ dL_redraw_4 rfl (fun z hz => by
    simp only [List.mem_cons, List.not_mem_nil, or_false] at hz
    rcases hz with rfl
    · exact ⟨by decide, _, bw_6_9, by decide⟩) rfl (by decide) bw_5_10 (by decide) rfl rfl (fun q => ?_)
  refine v_astore (pc := 15) (loc' := [(4, .ref q), (0, .ref (a 0)), (1, .int p1), (2, .int p2), (3, .int p3)]) C dL_redraw_15 (by decide) rfl ?_
  refine v_ldc2 (pc := 17) (v := (-9000000000000000 : Int64)) C bw_1_3 dL_redraw_17 ?_
  exact l_lret C hQ dL_redraw_20 rfl rfl (Nat.le_of_ble_eq_true rfl) (Nat.le_of_ble_eq_true rfl)
theorem mL_redraw_3 {l : Launch} {D : va_G} {cs : Nat → ClassId} {a : Nat → Nat} (hT : l.stackTraces = false) {S : St} {p1 p2 p3 : Int32} {S' : St} (hF : fX8_redraw S p1 p2 p3 = some (.inl "java/lang/IllegalStateException", S')) : ML l D cs a yL_redraw (.codeWith yL_redraw cL_redraw 5 (some .long) [(0, 8, 9, 27), (0, 8, 15, 14), (0, 8, 21, 18)]) rmL_redraw [.ref (a 0), .int p1, .int p2, .int p3] S (.long XX) S' := by
  refine ml_entry [(0, .ref (a 0)), (1, .int p1), (2, .int p2), (3, .int p3)] hT (by decide +kernel) (Nat.le_of_ble_eq_true rfl) rfl (fun E hEl hED hEk C hQ O => ?_)
  subst hEl
  subst hED
  subst hEk
  refine v_aload_n 0 (pc := 0) C dL_redraw_0 rfl rfl ?_
  refine v_iload_n 1 (pc := 1) C dL_redraw_1 rfl rfl ?_
  refine v_iload_n 2 (pc := 2) C dL_redraw_2 rfl rfl ?_
  refine v_iload_n 3 (pc := 3) C dL_redraw_3 rfl rfl ?_
  refine l_callx [.int p1, .int p2, .int p3] (pc := 4) (c1 := 3) (s1 := 18) [⟨0, 8, 9, 27⟩, ⟨0, 8, 15, 14⟩] ⟨0, 8, 21, 18⟩ [] C hQ.1 O (mX8_redraw C.hT hF) kL_23 (gX_8 (rfl : kdX 0 = 8)) rfl rfl rfl (Nat.le_of_ble_eq_true rfl) ⟨(Nat.le_of_ble_eq_true rfl), (Nat.le_of_ble_eq_true rfl)⟩ ⟨(Nat.le_of_ble_eq_true rfl), (Nat.le_of_ble_eq_true rfl)⟩ dL_redraw_4 rfl (fun z hz => by
    simp only [List.mem_cons, List.not_mem_nil, or_false] at hz
    rcases hz with rfl | rfl
    · exact ⟨by decide, _, bw_6_9, by decide⟩
    · exact ⟨by decide, _, bw_5_10, by decide⟩) rfl (by decide) bw_5_11 (by decide) rfl rfl (fun q => ?_)
  refine v_astore (pc := 21) (loc' := [(4, .ref q), (0, .ref (a 0)), (1, .int p1), (2, .int p2), (3, .int p3)]) C dL_redraw_21 (by decide) rfl ?_
  refine v_ldc2 (pc := 23) (v := (-9000000000000000 : Int64)) C bw_1_3 dL_redraw_23 ?_
  exact l_lret C hQ dL_redraw_26 rfl rfl (Nat.le_of_ble_eq_true rfl) (Nat.le_of_ble_eq_true rfl)
def fL_redraw (S : St) (p1 : Int32) (p2 : Int32) (p3 : Int32) : Option (Int64 × St) := wrp ["java/lang/IndexOutOfBoundsException", "java/lang/IllegalArgumentException", "java/lang/IllegalStateException"] gI (fX8_redraw S p1 p2 p3)
theorem mL_redraw {l : Launch} {D : va_G} {cs : Nat → ClassId} {a : Nat → Nat} (hT : l.stackTraces = false) {S : St} {p1 p2 p3 : Int32} {r : Int64} {S' : St} (hF : fL_redraw S p1 p2 p3 = some (r, S')) : ML l D cs a yL_redraw (.codeWith yL_redraw cL_redraw 5 (some .long) [(0, 8, 9, 27), (0, 8, 15, 14), (0, 8, 21, 18)]) rmL_redraw [.ref (a 0), .int p1, .int p2, .int p3] S (.long r) S' := by
  rcases wrp_of hF with ⟨v, h, rfl⟩ | ⟨e, he, h, rfl⟩
  · exact mL_redraw_v hT h
  · simp only [List.mem_cons, List.not_mem_nil, or_false] at he
    rcases he with rfl | rfl | rfl
    · exact mL_redraw_1 hT h
    · exact mL_redraw_2 hT h
    · exact mL_redraw_3 hT h
abbrev rmL_hole : Room := { frames := 9, cells := 2, slots := 12, locals := 210 }
theorem kL_29 : CallVok RL 29 yX8_hole cX8_hole 6 (some .int) 4 := ⟨bw_10_4, bw_10_5, bw_10_6, bw_1_2, bw_10_7, ⟨by decide +kernel, by decide +kernel, by decide +kernel⟩⟩
theorem mL_hole_v {l : Launch} {D : va_G} {cs : Nat → ClassId} {a : Nat → Nat} (hT : l.stackTraces = false) {S : St} {p1 p2 p3 p4 : Int32} {v : Int32} {S' : St} (hF : fX8_hole S p1 p2 p3 p4 = some (.inr v, S')) : ML l D cs a yL_hole (.codeWith yL_hole cL_hole 6 (some .long) [(0, 10, 11, 27), (0, 10, 17, 14), (0, 10, 23, 18)]) rmL_hole [.ref (a 0), .int p1, .int p2, .int p3, .int p4] S (.long (gI v)) S' := by
  refine ml_entry [(0, .ref (a 0)), (1, .int p1), (2, .int p2), (3, .int p3), (4, .int p4)] hT (by decide +kernel) (Nat.le_of_ble_eq_true rfl) rfl (fun E hEl hED hEk C hQ O => ?_)
  subst hEl
  subst hED
  subst hEk
  refine v_aload_n 0 (pc := 0) C dL_hole_0 rfl rfl ?_
  refine v_iload_n 1 (pc := 1) C dL_hole_1 rfl rfl ?_
  refine v_iload_n 2 (pc := 2) C dL_hole_2 rfl rfl ?_
  refine v_iload_n 3 (pc := 3) C dL_hole_3 rfl rfl ?_
  refine v_iload 4 (pc := 4) C dL_hole_4 rfl ?_
  refine v_callV [.int p1, .int p2, .int p3, .int p4] (pc := 6) (st1 := [.int v]) (c1 := 2) (s1 := 12) C (mX8_hole C.hT hF) kL_29 (by decide) (gX_8 (rfl : kdX 0 = 8)) rfl rfl rfl rfl (Nat.le_of_ble_eq_true rfl) ⟨(Nat.le_of_ble_eq_true rfl), (Nat.le_of_ble_eq_true rfl)⟩ ⟨(Nat.le_of_ble_eq_true rfl), (Nat.le_of_ble_eq_true rfl)⟩ dL_hole_6 rfl rfl ?_
  refine v_i2l (pc := 9) C dL_hole_9 ?_
  exact l_lret C hQ dL_hole_10 rfl rfl (Nat.le_of_ble_eq_true rfl) (Nat.le_of_ble_eq_true rfl)
theorem mL_hole_1 {l : Launch} {D : va_G} {cs : Nat → ClassId} {a : Nat → Nat} (hT : l.stackTraces = false) {S : St} {p1 p2 p3 p4 : Int32} {S' : St} (hF : fX8_hole S p1 p2 p3 p4 = some (.inl "java/lang/IndexOutOfBoundsException", S')) : ML l D cs a yL_hole (.codeWith yL_hole cL_hole 6 (some .long) [(0, 10, 11, 27), (0, 10, 17, 14), (0, 10, 23, 18)]) rmL_hole [.ref (a 0), .int p1, .int p2, .int p3, .int p4] S (.long XX) S' := by
  refine ml_entry [(0, .ref (a 0)), (1, .int p1), (2, .int p2), (3, .int p3), (4, .int p4)] hT (by decide +kernel) (Nat.le_of_ble_eq_true rfl) rfl (fun E hEl hED hEk C hQ O => ?_)
  subst hEl
  subst hED
  subst hEk
  refine v_aload_n 0 (pc := 0) C dL_hole_0 rfl rfl ?_
  refine v_iload_n 1 (pc := 1) C dL_hole_1 rfl rfl ?_
  refine v_iload_n 2 (pc := 2) C dL_hole_2 rfl rfl ?_
  refine v_iload_n 3 (pc := 3) C dL_hole_3 rfl rfl ?_
  refine v_iload 4 (pc := 4) C dL_hole_4 rfl ?_
  refine l_callx [.int p1, .int p2, .int p3, .int p4] (pc := 6) (c1 := 2) (s1 := 12) [] ⟨0, 10, 11, 27⟩ [⟨0, 10, 17, 14⟩, ⟨0, 10, 23, 18⟩] C hQ.1 O (mX8_hole C.hT hF) kL_29 (gX_8 (rfl : kdX 0 = 8)) rfl rfl rfl (Nat.le_of_ble_eq_true rfl) ⟨(Nat.le_of_ble_eq_true rfl), (Nat.le_of_ble_eq_true rfl)⟩ ⟨(Nat.le_of_ble_eq_true rfl), (Nat.le_of_ble_eq_true rfl)⟩ dL_hole_6 rfl (fun z hz => absurd hz List.not_mem_nil) rfl (by decide) bw_6_9 (by decide) rfl rfl (fun q => ?_)
  refine v_astore (pc := 11) (loc' := [(5, .ref q), (0, .ref (a 0)), (1, .int p1), (2, .int p2), (3, .int p3), (4, .int p4)]) C dL_hole_11 (by decide) rfl ?_
  refine v_ldc2 (pc := 13) (v := (-9000000000000000 : Int64)) C bw_1_3 dL_hole_13 ?_
  exact l_lret C hQ dL_hole_16 rfl rfl (Nat.le_of_ble_eq_true rfl) (Nat.le_of_ble_eq_true rfl)
theorem mL_hole_2 {l : Launch} {D : va_G} {cs : Nat → ClassId} {a : Nat → Nat} (hT : l.stackTraces = false) {S : St} {p1 p2 p3 p4 : Int32} {S' : St} (hF : fX8_hole S p1 p2 p3 p4 = some (.inl "java/lang/IllegalArgumentException", S')) : ML l D cs a yL_hole (.codeWith yL_hole cL_hole 6 (some .long) [(0, 10, 11, 27), (0, 10, 17, 14), (0, 10, 23, 18)]) rmL_hole [.ref (a 0), .int p1, .int p2, .int p3, .int p4] S (.long XX) S' := by
  refine ml_entry [(0, .ref (a 0)), (1, .int p1), (2, .int p2), (3, .int p3), (4, .int p4)] hT (by decide +kernel) (Nat.le_of_ble_eq_true rfl) rfl (fun E hEl hED hEk C hQ O => ?_)
  subst hEl
  subst hED
  subst hEk
  refine v_aload_n 0 (pc := 0) C dL_hole_0 rfl rfl ?_
  refine v_iload_n 1 (pc := 1) C dL_hole_1 rfl rfl ?_
  refine v_iload_n 2 (pc := 2) C dL_hole_2 rfl rfl ?_
  refine v_iload_n 3 (pc := 3) C dL_hole_3 rfl rfl ?_
  refine v_iload 4 (pc := 4) C dL_hole_4 rfl ?_
  refine l_callx [.int p1, .int p2, .int p3, .int p4] (pc := 6) (c1 := 2) (s1 := 12) [⟨0, 10, 11, 27⟩] ⟨0, 10, 17, 14⟩ [⟨0, 10, 23, 18⟩] C hQ.1 O (mX8_hole C.hT hF) kL_29 (gX_8 (rfl : kdX 0 = 8)) rfl rfl rfl (Nat.le_of_ble_eq_true rfl) ⟨(Nat.le_of_ble_eq_true rfl), (Nat.le_of_ble_eq_true rfl)⟩ ⟨(Nat.le_of_ble_eq_true rfl), (Nat.le_of_ble_eq_true rfl)⟩ dL_hole_6 rfl (fun z hz => by
    simp only [List.mem_cons, List.not_mem_nil, or_false] at hz
    rcases hz with rfl
    · exact ⟨by decide, _, bw_6_9, by decide⟩) rfl (by decide) bw_5_10 (by decide) rfl rfl (fun q => ?_)
  refine v_astore (pc := 17) (loc' := [(5, .ref q), (0, .ref (a 0)), (1, .int p1), (2, .int p2), (3, .int p3), (4, .int p4)]) C dL_hole_17 (by decide) rfl ?_
  refine v_ldc2 (pc := 19) (v := (-9000000000000000 : Int64)) C bw_1_3 dL_hole_19 ?_
  exact l_lret C hQ dL_hole_22 rfl rfl (Nat.le_of_ble_eq_true rfl) (Nat.le_of_ble_eq_true rfl)
theorem mL_hole_3 {l : Launch} {D : va_G} {cs : Nat → ClassId} {a : Nat → Nat} (hT : l.stackTraces = false) {S : St} {p1 p2 p3 p4 : Int32} {S' : St} (hF : fX8_hole S p1 p2 p3 p4 = some (.inl "java/lang/IllegalStateException", S')) : ML l D cs a yL_hole (.codeWith yL_hole cL_hole 6 (some .long) [(0, 10, 11, 27), (0, 10, 17, 14), (0, 10, 23, 18)]) rmL_hole [.ref (a 0), .int p1, .int p2, .int p3, .int p4] S (.long XX) S' := by
  refine ml_entry [(0, .ref (a 0)), (1, .int p1), (2, .int p2), (3, .int p3), (4, .int p4)] hT (by decide +kernel) (Nat.le_of_ble_eq_true rfl) rfl (fun E hEl hED hEk C hQ O => ?_)
  subst hEl
  subst hED
  subst hEk
  refine v_aload_n 0 (pc := 0) C dL_hole_0 rfl rfl ?_
  refine v_iload_n 1 (pc := 1) C dL_hole_1 rfl rfl ?_
  refine v_iload_n 2 (pc := 2) C dL_hole_2 rfl rfl ?_
  refine v_iload_n 3 (pc := 3) C dL_hole_3 rfl rfl ?_
  refine v_iload 4 (pc := 4) C dL_hole_4 rfl ?_
  refine l_callx [.int p1, .int p2, .int p3, .int p4] (pc := 6) (c1 := 2) (s1 := 12) [⟨0, 10, 11, 27⟩, ⟨0, 10, 17, 14⟩] ⟨0, 10, 23, 18⟩ [] C hQ.1 O (mX8_hole C.hT hF) kL_29 (gX_8 (rfl : kdX 0 = 8)) rfl rfl rfl (Nat.le_of_ble_eq_true rfl) ⟨(Nat.le_of_ble_eq_true rfl), (Nat.le_of_ble_eq_true rfl)⟩ ⟨(Nat.le_of_ble_eq_true rfl), (Nat.le_of_ble_eq_true rfl)⟩ dL_hole_6 rfl (fun z hz => by
    simp only [List.mem_cons, List.not_mem_nil, or_false] at hz
    rcases hz with rfl | rfl
    · exact ⟨by decide, _, bw_6_9, by decide⟩
    · exact ⟨by decide, _, bw_5_10, by decide⟩) rfl (by decide) bw_5_11 (by decide) rfl rfl (fun q => ?_)
  refine v_astore (pc := 23) (loc' := [(5, .ref q), (0, .ref (a 0)), (1, .int p1), (2, .int p2), (3, .int p3), (4, .int p4)]) C dL_hole_23 (by decide) rfl ?_
  refine v_ldc2 (pc := 25) (v := (-9000000000000000 : Int64)) C bw_1_3 dL_hole_25 ?_
  exact l_lret C hQ dL_hole_28 rfl rfl (Nat.le_of_ble_eq_true rfl) (Nat.le_of_ble_eq_true rfl)
def fL_hole (S : St) (p1 : Int32) (p2 : Int32) (p3 : Int32) (p4 : Int32) : Option (Int64 × St) := wrp ["java/lang/IndexOutOfBoundsException", "java/lang/IllegalArgumentException", "java/lang/IllegalStateException"] gI (fX8_hole S p1 p2 p3 p4)
theorem mL_hole {l : Launch} {D : va_G} {cs : Nat → ClassId} {a : Nat → Nat} (hT : l.stackTraces = false) {S : St} {p1 p2 p3 p4 : Int32} {r : Int64} {S' : St} (hF : fL_hole S p1 p2 p3 p4 = some (r, S')) : ML l D cs a yL_hole (.codeWith yL_hole cL_hole 6 (some .long) [(0, 10, 11, 27), (0, 10, 17, 14), (0, 10, 23, 18)]) rmL_hole [.ref (a 0), .int p1, .int p2, .int p3, .int p4] S (.long r) S' := by
  rcases wrp_of hF with ⟨v, h, rfl⟩ | ⟨e, he, h, rfl⟩
  · exact mL_hole_v hT h
  · simp only [List.mem_cons, List.not_mem_nil, or_false] at he
    rcases he with rfl | rfl | rfl
    · exact mL_hole_1 hT h
    · exact mL_hole_2 hT h
    · exact mL_hole_3 hT h
abbrev rmL_near : Room := { frames := 9, cells := 2, slots := 12, locals := 210 }
theorem kL_33 : CallVok RL 33 yX8_isNear cX8_isNear 4 (some .boolean) 2 := ⟨bw_10_18, bw_10_19, bw_10_20, bw_1_2, bw_10_21, ⟨by decide +kernel, by decide +kernel, by decide +kernel⟩⟩
theorem mL_near_v {l : Launch} {D : va_G} {cs : Nat → ClassId} {a : Nat → Nat} (hT : l.stackTraces = false) {S : St} {p1 p2 : Int32} {v : Int32} (hF : fX8_isNear S p1 p2 = some (.inr v)) : ML l D cs a yL_near (.codeWith yL_near cL_near 4 (some .long) [(0, 14, 15, 27)]) rmL_near [.ref (a 0), .int p1, .int p2] S (.long (gZ v)) S := by
  refine ml_entry [(0, .ref (a 0)), (1, .int p1), (2, .int p2)] hT (by decide +kernel) (Nat.le_of_ble_eq_true rfl) rfl (fun E hEl hED hEk C hQ O => ?_)
  subst hEl
  subst hED
  subst hEk
  refine v_aload_n 0 (pc := 0) C dL_near_0 rfl rfl ?_
  refine v_iload_n 1 (pc := 1) C dL_near_1 rfl rfl ?_
  refine v_iload_n 2 (pc := 2) C dL_near_2 rfl rfl ?_
  refine v_callV [.int p1, .int p2] (pc := 3) (st1 := [.int v]) (c1 := 2) (s1 := 12) C (mX8_isNear C.hT hF) kL_33 (by decide) (gX_8 (rfl : kdX 0 = 8)) rfl rfl rfl rfl (Nat.le_of_ble_eq_true rfl) ⟨(Nat.le_of_ble_eq_true rfl), (Nat.le_of_ble_eq_true rfl)⟩ ⟨(Nat.le_of_ble_eq_true rfl), (Nat.le_of_ble_eq_true rfl)⟩ dL_near_3 rfl rfl ?_
  refine v_if_eq 13 (pc := 6) C dL_near_6 (by decide) (fun c1 => ?_) (fun c1 => ?_)
  · refine v_lconst (pc := 13) (v := (0 : Int64)) C dL_near_13 (by decide) ?_
    exact l_lret C hQ dL_near_14 (if_pos c1) rfl (Nat.le_of_ble_eq_true rfl) (Nat.le_of_ble_eq_true rfl)
  · refine v_lconst (pc := 9) (v := (1 : Int64)) C dL_near_9 (by decide) ?_
    refine v_goto 14 (pc := 10) C dL_near_10 (by decide) ?_
    exact l_lret C hQ dL_near_14 (if_neg c1) rfl (Nat.le_of_ble_eq_true rfl) (Nat.le_of_ble_eq_true rfl)
theorem mL_near_1 {l : Launch} {D : va_G} {cs : Nat → ClassId} {a : Nat → Nat} (hT : l.stackTraces = false) {S : St} {p1 p2 : Int32} (hF : fX8_isNear S p1 p2 = some (.inl "java/lang/IndexOutOfBoundsException")) : ML l D cs a yL_near (.codeWith yL_near cL_near 4 (some .long) [(0, 14, 15, 27)]) rmL_near [.ref (a 0), .int p1, .int p2] S (.long XX) S := by
  refine ml_entry [(0, .ref (a 0)), (1, .int p1), (2, .int p2)] hT (by decide +kernel) (Nat.le_of_ble_eq_true rfl) rfl (fun E hEl hED hEk C hQ O => ?_)
  subst hEl
  subst hED
  subst hEk
  refine v_aload_n 0 (pc := 0) C dL_near_0 rfl rfl ?_
  refine v_iload_n 1 (pc := 1) C dL_near_1 rfl rfl ?_
  refine v_iload_n 2 (pc := 2) C dL_near_2 rfl rfl ?_
  refine l_callx [.int p1, .int p2] (pc := 3) (c1 := 2) (s1 := 12) [] ⟨0, 14, 15, 27⟩ [] C hQ.1 O (mX8_isNear C.hT hF) kL_33 (gX_8 (rfl : kdX 0 = 8)) rfl rfl rfl (Nat.le_of_ble_eq_true rfl) ⟨(Nat.le_of_ble_eq_true rfl), (Nat.le_of_ble_eq_true rfl)⟩ ⟨(Nat.le_of_ble_eq_true rfl), (Nat.le_of_ble_eq_true rfl)⟩ dL_near_3 rfl (fun z hz => absurd hz List.not_mem_nil) rfl (by decide) bw_6_9 (by decide) rfl rfl (fun q => ?_)
  refine v_astore_n (pc := 15) (loc' := [(3, .ref q), (0, .ref (a 0)), (1, .int p1), (2, .int p2)]) C dL_near_15 rfl (by decide) rfl ?_
  refine v_ldc2 (pc := 16) (v := (-9000000000000000 : Int64)) C bw_1_3 dL_near_16 ?_
  exact l_lret C hQ dL_near_19 rfl rfl (Nat.le_of_ble_eq_true rfl) (Nat.le_of_ble_eq_true rfl)
def fL_near (S : St) (p1 : Int32) (p2 : Int32) : Option (Int64 × St) := wrp ["java/lang/IndexOutOfBoundsException"] gZ (onS S (fX8_isNear S p1 p2))
theorem mL_near {l : Launch} {D : va_G} {cs : Nat → ClassId} {a : Nat → Nat} (hT : l.stackTraces = false) {S : St} {p1 p2 : Int32} {r : Int64} {S' : St} (hF : fL_near S p1 p2 = some (r, S')) : ML l D cs a yL_near (.codeWith yL_near cL_near 4 (some .long) [(0, 14, 15, 27)]) rmL_near [.ref (a 0), .int p1, .int p2] S (.long r) S' := by
  rcases wrp_of hF with ⟨v, h, rfl⟩ | ⟨e, he, h, rfl⟩
  · obtain ⟨h, rfl⟩ := onS_some h
    exact mL_near_v hT h
  · obtain ⟨h, rfl⟩ := onS_some h
    simp only [List.mem_cons, List.not_mem_nil, or_false] at he
    rcases he with rfl
    · exact mL_near_1 hT h
abbrev rmL_told : Room := { frames := 9, cells := 2, slots := 12, locals := 210 }
theorem kL_37 : CallVok RL 37 yX8_told cX8_told 4 (some .int) 2 := ⟨bw_6_10, bw_6_11, bw_6_12, bw_1_2, bw_6_13, ⟨by decide +kernel, by decide +kernel, by decide +kernel⟩⟩
theorem mL_told_v {l : Launch} {D : va_G} {cs : Nat → ClassId} {a : Nat → Nat} (hT : l.stackTraces = false) {S : St} {p1 p2 : Int32} {v : Int32} (hF : fX8_told S p1 p2 = some (.inr v)) : ML l D cs a yL_told (.codeWith yL_told cL_told 4 (some .long) [(0, 7, 8, 27), (0, 7, 13, 14)]) rmL_told [.ref (a 0), .int p1, .int p2] S (.long (gI v)) S := by
  refine ml_entry [(0, .ref (a 0)), (1, .int p1), (2, .int p2)] hT (by decide +kernel) (Nat.le_of_ble_eq_true rfl) rfl (fun E hEl hED hEk C hQ O => ?_)
  subst hEl
  subst hED
  subst hEk
  refine v_aload_n 0 (pc := 0) C dL_told_0 rfl rfl ?_
  refine v_iload_n 1 (pc := 1) C dL_told_1 rfl rfl ?_
  refine v_iload_n 2 (pc := 2) C dL_told_2 rfl rfl ?_
  refine v_callV [.int p1, .int p2] (pc := 3) (st1 := [.int v]) (c1 := 2) (s1 := 12) C (mX8_told C.hT hF) kL_37 (by decide) (gX_8 (rfl : kdX 0 = 8)) rfl rfl rfl rfl (Nat.le_of_ble_eq_true rfl) ⟨(Nat.le_of_ble_eq_true rfl), (Nat.le_of_ble_eq_true rfl)⟩ ⟨(Nat.le_of_ble_eq_true rfl), (Nat.le_of_ble_eq_true rfl)⟩ dL_told_3 rfl rfl ?_
  refine v_i2l (pc := 6) C dL_told_6 ?_
  exact l_lret C hQ dL_told_7 rfl rfl (Nat.le_of_ble_eq_true rfl) (Nat.le_of_ble_eq_true rfl)
theorem mL_told_1 {l : Launch} {D : va_G} {cs : Nat → ClassId} {a : Nat → Nat} (hT : l.stackTraces = false) {S : St} {p1 p2 : Int32} (hF : fX8_told S p1 p2 = some (.inl "java/lang/IndexOutOfBoundsException")) : ML l D cs a yL_told (.codeWith yL_told cL_told 4 (some .long) [(0, 7, 8, 27), (0, 7, 13, 14)]) rmL_told [.ref (a 0), .int p1, .int p2] S (.long XX) S := by
  refine ml_entry [(0, .ref (a 0)), (1, .int p1), (2, .int p2)] hT (by decide +kernel) (Nat.le_of_ble_eq_true rfl) rfl (fun E hEl hED hEk C hQ O => ?_)
  subst hEl
  subst hED
  subst hEk
  refine v_aload_n 0 (pc := 0) C dL_told_0 rfl rfl ?_
  refine v_iload_n 1 (pc := 1) C dL_told_1 rfl rfl ?_
  refine v_iload_n 2 (pc := 2) C dL_told_2 rfl rfl ?_
  refine l_callx [.int p1, .int p2] (pc := 3) (c1 := 2) (s1 := 12) [] ⟨0, 7, 8, 27⟩ [⟨0, 7, 13, 14⟩] C hQ.1 O (mX8_told C.hT hF) kL_37 (gX_8 (rfl : kdX 0 = 8)) rfl rfl rfl (Nat.le_of_ble_eq_true rfl) ⟨(Nat.le_of_ble_eq_true rfl), (Nat.le_of_ble_eq_true rfl)⟩ ⟨(Nat.le_of_ble_eq_true rfl), (Nat.le_of_ble_eq_true rfl)⟩ dL_told_3 rfl (fun z hz => absurd hz List.not_mem_nil) rfl (by decide) bw_6_9 (by decide) rfl rfl (fun q => ?_)
  refine v_astore_n (pc := 8) (loc' := [(3, .ref q), (0, .ref (a 0)), (1, .int p1), (2, .int p2)]) C dL_told_8 rfl (by decide) rfl ?_
  refine v_ldc2 (pc := 9) (v := (-9000000000000000 : Int64)) C bw_1_3 dL_told_9 ?_
  exact l_lret C hQ dL_told_12 rfl rfl (Nat.le_of_ble_eq_true rfl) (Nat.le_of_ble_eq_true rfl)
theorem mL_told_2 {l : Launch} {D : va_G} {cs : Nat → ClassId} {a : Nat → Nat} (hT : l.stackTraces = false) {S : St} {p1 p2 : Int32} (hF : fX8_told S p1 p2 = some (.inl "java/lang/IllegalArgumentException")) : ML l D cs a yL_told (.codeWith yL_told cL_told 4 (some .long) [(0, 7, 8, 27), (0, 7, 13, 14)]) rmL_told [.ref (a 0), .int p1, .int p2] S (.long XX) S := by
  refine ml_entry [(0, .ref (a 0)), (1, .int p1), (2, .int p2)] hT (by decide +kernel) (Nat.le_of_ble_eq_true rfl) rfl (fun E hEl hED hEk C hQ O => ?_)
  subst hEl
  subst hED
  subst hEk
  refine v_aload_n 0 (pc := 0) C dL_told_0 rfl rfl ?_
  refine v_iload_n 1 (pc := 1) C dL_told_1 rfl rfl ?_
  refine v_iload_n 2 (pc := 2) C dL_told_2 rfl rfl ?_
  refine l_callx [.int p1, .int p2] (pc := 3) (c1 := 2) (s1 := 12) [⟨0, 7, 8, 27⟩] ⟨0, 7, 13, 14⟩ [] C hQ.1 O (mX8_told C.hT hF) kL_37 (gX_8 (rfl : kdX 0 = 8)) rfl rfl rfl (Nat.le_of_ble_eq_true rfl) ⟨(Nat.le_of_ble_eq_true rfl), (Nat.le_of_ble_eq_true rfl)⟩ ⟨(Nat.le_of_ble_eq_true rfl), (Nat.le_of_ble_eq_true rfl)⟩ dL_told_3 rfl (fun z hz => by
    simp only [List.mem_cons, List.not_mem_nil, or_false] at hz
    rcases hz with rfl
    · exact ⟨by decide, _, bw_6_9, by decide⟩) rfl (by decide) bw_5_10 (by decide) rfl rfl (fun q => ?_)
  refine v_astore_n (pc := 13) (loc' := [(3, .ref q), (0, .ref (a 0)), (1, .int p1), (2, .int p2)]) C dL_told_13 rfl (by decide) rfl ?_
  refine v_ldc2 (pc := 14) (v := (-9000000000000000 : Int64)) C bw_1_3 dL_told_14 ?_
  exact l_lret C hQ dL_told_17 rfl rfl (Nat.le_of_ble_eq_true rfl) (Nat.le_of_ble_eq_true rfl)
def fL_told (S : St) (p1 : Int32) (p2 : Int32) : Option (Int64 × St) := wrp ["java/lang/IndexOutOfBoundsException", "java/lang/IllegalArgumentException"] gI (onS S (fX8_told S p1 p2))
theorem mL_told {l : Launch} {D : va_G} {cs : Nat → ClassId} {a : Nat → Nat} (hT : l.stackTraces = false) {S : St} {p1 p2 : Int32} {r : Int64} {S' : St} (hF : fL_told S p1 p2 = some (r, S')) : ML l D cs a yL_told (.codeWith yL_told cL_told 4 (some .long) [(0, 7, 8, 27), (0, 7, 13, 14)]) rmL_told [.ref (a 0), .int p1, .int p2] S (.long r) S' := by
  rcases wrp_of hF with ⟨v, h, rfl⟩ | ⟨e, he, h, rfl⟩
  · obtain ⟨h, rfl⟩ := onS_some h
    exact mL_told_v hT h
  · obtain ⟨h, rfl⟩ := onS_some h
    simp only [List.mem_cons, List.not_mem_nil, or_false] at he
    rcases he with rfl | rfl
    · exact mL_told_1 hT h
    · exact mL_told_2 hT h
abbrev rmL_tool : Room := { frames := 8, cells := 1, slots := 6, locals := 170 }
theorem kL_40 : CallVok RL 40 yX8_tool cX8_tool 7 (some .int) 5 := ⟨bw_11_2, bw_11_3, bw_11_4, bw_1_2, bw_11_5, ⟨by decide +kernel, by decide +kernel, by decide +kernel⟩⟩
theorem mL_tool_v {l : Launch} {D : va_G} {cs : Nat → ClassId} {a : Nat → Nat} (hT : l.stackTraces = false) {S : St} {p1 p2 p3 p4 p5 : Int32} {v : Int32} {S' : St} (hF : fX8_tool S p1 p2 p3 p4 p5 = some (.inr v, S')) : ML l D cs a yL_tool (.codeWith yL_tool cL_tool 7 (some .long) [(0, 12, 13, 14), (0, 12, 19, 18)]) rmL_tool [.ref (a 0), .int p1, .int p2, .int p3, .int p4, .int p5] S (.long (gI v)) S' := by
  refine ml_entry [(0, .ref (a 0)), (1, .int p1), (2, .int p2), (3, .int p3), (4, .int p4), (5, .int p5)] hT (by decide +kernel) (Nat.le_of_ble_eq_true rfl) rfl (fun E hEl hED hEk C hQ O => ?_)
  subst hEl
  subst hED
  subst hEk
  refine v_aload_n 0 (pc := 0) C dL_tool_0 rfl rfl ?_
  refine v_iload_n 1 (pc := 1) C dL_tool_1 rfl rfl ?_
  refine v_iload_n 2 (pc := 2) C dL_tool_2 rfl rfl ?_
  refine v_iload_n 3 (pc := 3) C dL_tool_3 rfl rfl ?_
  refine v_iload 4 (pc := 4) C dL_tool_4 rfl ?_
  refine v_iload 5 (pc := 6) C dL_tool_6 rfl ?_
  refine v_callV [.int p1, .int p2, .int p3, .int p4, .int p5] (pc := 8) (st1 := [.int v]) (c1 := 1) (s1 := 6) C (mX8_tool C.hT hF) kL_40 (by decide) (gX_8 (rfl : kdX 0 = 8)) rfl rfl rfl rfl (Nat.le_of_ble_eq_true rfl) ⟨(Nat.le_of_ble_eq_true rfl), (Nat.le_of_ble_eq_true rfl)⟩ ⟨(Nat.le_of_ble_eq_true rfl), (Nat.le_of_ble_eq_true rfl)⟩ dL_tool_8 rfl rfl ?_
  refine v_i2l (pc := 11) C dL_tool_11 ?_
  exact l_lret C hQ dL_tool_12 rfl rfl (Nat.le_of_ble_eq_true rfl) (Nat.le_of_ble_eq_true rfl)
theorem mL_tool_1 {l : Launch} {D : va_G} {cs : Nat → ClassId} {a : Nat → Nat} (hT : l.stackTraces = false) {S : St} {p1 p2 p3 p4 p5 : Int32} {S' : St} (hF : fX8_tool S p1 p2 p3 p4 p5 = some (.inl "java/lang/IllegalArgumentException", S')) : ML l D cs a yL_tool (.codeWith yL_tool cL_tool 7 (some .long) [(0, 12, 13, 14), (0, 12, 19, 18)]) rmL_tool [.ref (a 0), .int p1, .int p2, .int p3, .int p4, .int p5] S (.long XX) S' := by
  refine ml_entry [(0, .ref (a 0)), (1, .int p1), (2, .int p2), (3, .int p3), (4, .int p4), (5, .int p5)] hT (by decide +kernel) (Nat.le_of_ble_eq_true rfl) rfl (fun E hEl hED hEk C hQ O => ?_)
  subst hEl
  subst hED
  subst hEk
  refine v_aload_n 0 (pc := 0) C dL_tool_0 rfl rfl ?_
  refine v_iload_n 1 (pc := 1) C dL_tool_1 rfl rfl ?_
  refine v_iload_n 2 (pc := 2) C dL_tool_2 rfl rfl ?_
  refine v_iload_n 3 (pc := 3) C dL_tool_3 rfl rfl ?_
  refine v_iload 4 (pc := 4) C dL_tool_4 rfl ?_
  refine v_iload 5 (pc := 6) C dL_tool_6 rfl ?_
  refine l_callx [.int p1, .int p2, .int p3, .int p4, .int p5] (pc := 8) (c1 := 1) (s1 := 6) [] ⟨0, 12, 13, 14⟩ [⟨0, 12, 19, 18⟩] C hQ.1 O (mX8_tool C.hT hF) kL_40 (gX_8 (rfl : kdX 0 = 8)) rfl rfl rfl (Nat.le_of_ble_eq_true rfl) ⟨(Nat.le_of_ble_eq_true rfl), (Nat.le_of_ble_eq_true rfl)⟩ ⟨(Nat.le_of_ble_eq_true rfl), (Nat.le_of_ble_eq_true rfl)⟩ dL_tool_8 rfl (fun z hz => absurd hz List.not_mem_nil) rfl (by decide) bw_5_10 (by decide) rfl rfl (fun q => ?_)
  refine v_astore (pc := 13) (loc' := [(6, .ref q), (0, .ref (a 0)), (1, .int p1), (2, .int p2), (3, .int p3), (4, .int p4), (5, .int p5)]) C dL_tool_13 (by decide) rfl ?_
  refine v_ldc2 (pc := 15) (v := (-9000000000000000 : Int64)) C bw_1_3 dL_tool_15 ?_
  exact l_lret C hQ dL_tool_18 rfl rfl (Nat.le_of_ble_eq_true rfl) (Nat.le_of_ble_eq_true rfl)
theorem mL_tool_2 {l : Launch} {D : va_G} {cs : Nat → ClassId} {a : Nat → Nat} (hT : l.stackTraces = false) {S : St} {p1 p2 p3 p4 p5 : Int32} {S' : St} (hF : fX8_tool S p1 p2 p3 p4 p5 = some (.inl "java/lang/IllegalStateException", S')) : ML l D cs a yL_tool (.codeWith yL_tool cL_tool 7 (some .long) [(0, 12, 13, 14), (0, 12, 19, 18)]) rmL_tool [.ref (a 0), .int p1, .int p2, .int p3, .int p4, .int p5] S (.long XX) S' := by
  refine ml_entry [(0, .ref (a 0)), (1, .int p1), (2, .int p2), (3, .int p3), (4, .int p4), (5, .int p5)] hT (by decide +kernel) (Nat.le_of_ble_eq_true rfl) rfl (fun E hEl hED hEk C hQ O => ?_)
  subst hEl
  subst hED
  subst hEk
  refine v_aload_n 0 (pc := 0) C dL_tool_0 rfl rfl ?_
  refine v_iload_n 1 (pc := 1) C dL_tool_1 rfl rfl ?_
  refine v_iload_n 2 (pc := 2) C dL_tool_2 rfl rfl ?_
  refine v_iload_n 3 (pc := 3) C dL_tool_3 rfl rfl ?_
  refine v_iload 4 (pc := 4) C dL_tool_4 rfl ?_
  refine v_iload 5 (pc := 6) C dL_tool_6 rfl ?_
  refine l_callx [.int p1, .int p2, .int p3, .int p4, .int p5] (pc := 8) (c1 := 1) (s1 := 6) [⟨0, 12, 13, 14⟩] ⟨0, 12, 19, 18⟩ [] C hQ.1 O (mX8_tool C.hT hF) kL_40 (gX_8 (rfl : kdX 0 = 8)) rfl rfl rfl (Nat.le_of_ble_eq_true rfl) ⟨(Nat.le_of_ble_eq_true rfl), (Nat.le_of_ble_eq_true rfl)⟩ ⟨(Nat.le_of_ble_eq_true rfl), (Nat.le_of_ble_eq_true rfl)⟩ dL_tool_8 rfl (fun z hz => by
    simp only [List.mem_cons, List.not_mem_nil, or_false] at hz
    rcases hz with rfl
    · exact ⟨by decide, _, bw_5_10, by decide⟩) rfl (by decide) bw_5_11 (by decide) rfl rfl (fun q => ?_)
  refine v_astore (pc := 19) (loc' := [(6, .ref q), (0, .ref (a 0)), (1, .int p1), (2, .int p2), (3, .int p3), (4, .int p4), (5, .int p5)]) C dL_tool_19 (by decide) rfl ?_
  refine v_ldc2 (pc := 21) (v := (-9000000000000000 : Int64)) C bw_1_3 dL_tool_21 ?_
  exact l_lret C hQ dL_tool_24 rfl rfl (Nat.le_of_ble_eq_true rfl) (Nat.le_of_ble_eq_true rfl)
def fL_tool (S : St) (p1 : Int32) (p2 : Int32) (p3 : Int32) (p4 : Int32) (p5 : Int32) : Option (Int64 × St) := wrp ["java/lang/IllegalArgumentException", "java/lang/IllegalStateException"] gI (fX8_tool S p1 p2 p3 p4 p5)
theorem mL_tool {l : Launch} {D : va_G} {cs : Nat → ClassId} {a : Nat → Nat} (hT : l.stackTraces = false) {S : St} {p1 p2 p3 p4 p5 : Int32} {r : Int64} {S' : St} (hF : fL_tool S p1 p2 p3 p4 p5 = some (r, S')) : ML l D cs a yL_tool (.codeWith yL_tool cL_tool 7 (some .long) [(0, 12, 13, 14), (0, 12, 19, 18)]) rmL_tool [.ref (a 0), .int p1, .int p2, .int p3, .int p4, .int p5] S (.long r) S' := by
  rcases wrp_of hF with ⟨v, h, rfl⟩ | ⟨e, he, h, rfl⟩
  · exact mL_tool_v hT h
  · simp only [List.mem_cons, List.not_mem_nil, or_false] at he
    rcases he with rfl | rfl
    · exact mL_tool_1 hT h
    · exact mL_tool_2 hT h
abbrev rmL_trial : Room := { frames := 9, cells := 2, slots := 12, locals := 210 }
theorem kL_44 : CallVok RL 44 yX8_trial cX8_trial 6 (some .int) 3 := ⟨bw_11_15, bw_11_16, bw_11_17, bw_1_2, bw_11_18, ⟨by decide +kernel, by decide +kernel, by decide +kernel⟩⟩
theorem mL_trial_v {l : Launch} {D : va_G} {cs : Nat → ClassId} {a : Nat → Nat} (hT : l.stackTraces = false) {S : St} {p1 p2 p3 : Int32} {v : Int32} {S' : St} (hF : fX8_trial S p1 p2 p3 = some (.inr v, S')) : ML l D cs a yL_trial (.codeWith yL_trial cL_trial 5 (some .long) [(0, 8, 9, 27), (0, 8, 15, 14)]) rmL_trial [.ref (a 0), .int p1, .int p2, .int p3] S (.long (gI v)) S' := by
  refine ml_entry [(0, .ref (a 0)), (1, .int p1), (2, .int p2), (3, .int p3)] hT (by decide +kernel) (Nat.le_of_ble_eq_true rfl) rfl (fun E hEl hED hEk C hQ O => ?_)
  subst hEl
  subst hED
  subst hEk
  refine v_aload_n 0 (pc := 0) C dL_trial_0 rfl rfl ?_
  refine v_iload_n 1 (pc := 1) C dL_trial_1 rfl rfl ?_
  refine v_iload_n 2 (pc := 2) C dL_trial_2 rfl rfl ?_
  refine v_iload_n 3 (pc := 3) C dL_trial_3 rfl rfl ?_
  refine v_callV [.int p1, .int p2, .int p3] (pc := 4) (st1 := [.int v]) (c1 := 2) (s1 := 12) C (mX8_trial C.hT hF) kL_44 (by decide) (gX_8 (rfl : kdX 0 = 8)) rfl rfl rfl rfl (Nat.le_of_ble_eq_true rfl) ⟨(Nat.le_of_ble_eq_true rfl), (Nat.le_of_ble_eq_true rfl)⟩ ⟨(Nat.le_of_ble_eq_true rfl), (Nat.le_of_ble_eq_true rfl)⟩ dL_trial_4 rfl rfl ?_
  refine v_i2l (pc := 7) C dL_trial_7 ?_
  exact l_lret C hQ dL_trial_8 rfl rfl (Nat.le_of_ble_eq_true rfl) (Nat.le_of_ble_eq_true rfl)
theorem mL_trial_1 {l : Launch} {D : va_G} {cs : Nat → ClassId} {a : Nat → Nat} (hT : l.stackTraces = false) {S : St} {p1 p2 p3 : Int32} {S' : St} (hF : fX8_trial S p1 p2 p3 = some (.inl "java/lang/IndexOutOfBoundsException", S')) : ML l D cs a yL_trial (.codeWith yL_trial cL_trial 5 (some .long) [(0, 8, 9, 27), (0, 8, 15, 14)]) rmL_trial [.ref (a 0), .int p1, .int p2, .int p3] S (.long XX) S' := by
  refine ml_entry [(0, .ref (a 0)), (1, .int p1), (2, .int p2), (3, .int p3)] hT (by decide +kernel) (Nat.le_of_ble_eq_true rfl) rfl (fun E hEl hED hEk C hQ O => ?_)
  subst hEl
  subst hED
  subst hEk
  refine v_aload_n 0 (pc := 0) C dL_trial_0 rfl rfl ?_
  refine v_iload_n 1 (pc := 1) C dL_trial_1 rfl rfl ?_
  refine v_iload_n 2 (pc := 2) C dL_trial_2 rfl rfl ?_
  refine v_iload_n 3 (pc := 3) C dL_trial_3 rfl rfl ?_
  refine l_callx [.int p1, .int p2, .int p3] (pc := 4) (c1 := 2) (s1 := 12) [] ⟨0, 8, 9, 27⟩ [⟨0, 8, 15, 14⟩] C hQ.1 O (mX8_trial C.hT hF) kL_44 (gX_8 (rfl : kdX 0 = 8)) rfl rfl rfl (Nat.le_of_ble_eq_true rfl) ⟨(Nat.le_of_ble_eq_true rfl), (Nat.le_of_ble_eq_true rfl)⟩ ⟨(Nat.le_of_ble_eq_true rfl), (Nat.le_of_ble_eq_true rfl)⟩ dL_trial_4 rfl (fun z hz => absurd hz List.not_mem_nil) rfl (by decide) bw_6_9 (by decide) rfl rfl (fun q => ?_)
  refine v_astore (pc := 9) (loc' := [(4, .ref q), (0, .ref (a 0)), (1, .int p1), (2, .int p2), (3, .int p3)]) C dL_trial_9 (by decide) rfl ?_
  refine v_ldc2 (pc := 11) (v := (-9000000000000000 : Int64)) C bw_1_3 dL_trial_11 ?_
  exact l_lret C hQ dL_trial_14 rfl rfl (Nat.le_of_ble_eq_true rfl) (Nat.le_of_ble_eq_true rfl)
theorem mL_trial_2 {l : Launch} {D : va_G} {cs : Nat → ClassId} {a : Nat → Nat} (hT : l.stackTraces = false) {S : St} {p1 p2 p3 : Int32} {S' : St} (hF : fX8_trial S p1 p2 p3 = some (.inl "java/lang/IllegalArgumentException", S')) : ML l D cs a yL_trial (.codeWith yL_trial cL_trial 5 (some .long) [(0, 8, 9, 27), (0, 8, 15, 14)]) rmL_trial [.ref (a 0), .int p1, .int p2, .int p3] S (.long XX) S' := by
  refine ml_entry [(0, .ref (a 0)), (1, .int p1), (2, .int p2), (3, .int p3)] hT (by decide +kernel) (Nat.le_of_ble_eq_true rfl) rfl (fun E hEl hED hEk C hQ O => ?_)
  subst hEl
  subst hED
  subst hEk
  refine v_aload_n 0 (pc := 0) C dL_trial_0 rfl rfl ?_
  refine v_iload_n 1 (pc := 1) C dL_trial_1 rfl rfl ?_
  refine v_iload_n 2 (pc := 2) C dL_trial_2 rfl rfl ?_
  refine v_iload_n 3 (pc := 3) C dL_trial_3 rfl rfl ?_
  refine l_callx [.int p1, .int p2, .int p3] (pc := 4) (c1 := 2) (s1 := 12) [⟨0, 8, 9, 27⟩] ⟨0, 8, 15, 14⟩ [] C hQ.1 O (mX8_trial C.hT hF) kL_44 (gX_8 (rfl : kdX 0 = 8)) rfl rfl rfl (Nat.le_of_ble_eq_true rfl) ⟨(Nat.le_of_ble_eq_true rfl), (Nat.le_of_ble_eq_true rfl)⟩ ⟨(Nat.le_of_ble_eq_true rfl), (Nat.le_of_ble_eq_true rfl)⟩ dL_trial_4 rfl (fun z hz => by
    simp only [List.mem_cons, List.not_mem_nil, or_false] at hz
    rcases hz with rfl
    · exact ⟨by decide, _, bw_6_9, by decide⟩) rfl (by decide) bw_5_10 (by decide) rfl rfl (fun q => ?_)
  refine v_astore (pc := 15) (loc' := [(4, .ref q), (0, .ref (a 0)), (1, .int p1), (2, .int p2), (3, .int p3)]) C dL_trial_15 (by decide) rfl ?_
  refine v_ldc2 (pc := 17) (v := (-9000000000000000 : Int64)) C bw_1_3 dL_trial_17 ?_
  exact l_lret C hQ dL_trial_20 rfl rfl (Nat.le_of_ble_eq_true rfl) (Nat.le_of_ble_eq_true rfl)
def fL_trial (S : St) (p1 : Int32) (p2 : Int32) (p3 : Int32) : Option (Int64 × St) := wrp ["java/lang/IndexOutOfBoundsException", "java/lang/IllegalArgumentException"] gI (fX8_trial S p1 p2 p3)
theorem mL_trial {l : Launch} {D : va_G} {cs : Nat → ClassId} {a : Nat → Nat} (hT : l.stackTraces = false) {S : St} {p1 p2 p3 : Int32} {r : Int64} {S' : St} (hF : fL_trial S p1 p2 p3 = some (r, S')) : ML l D cs a yL_trial (.codeWith yL_trial cL_trial 5 (some .long) [(0, 8, 9, 27), (0, 8, 15, 14)]) rmL_trial [.ref (a 0), .int p1, .int p2, .int p3] S (.long r) S' := by
  rcases wrp_of hF with ⟨v, h, rfl⟩ | ⟨e, he, h, rfl⟩
  · exact mL_trial_v hT h
  · simp only [List.mem_cons, List.not_mem_nil, or_false] at he
    rcases he with rfl | rfl
    · exact mL_trial_1 hT h
    · exact mL_trial_2 hT h
abbrev rmL_blank : Room := { frames := 9, cells := 2, slots := 12, locals := 210 }
theorem kL_47 : CallVok RL 47 yX8_blank cX8_blank 4 (some .int) 2 := ⟨bw_12_3, bw_12_4, bw_12_5, bw_1_2, bw_12_6, ⟨by decide +kernel, by decide +kernel, by decide +kernel⟩⟩
theorem mL_blank_v {l : Launch} {D : va_G} {cs : Nat → ClassId} {a : Nat → Nat} (hT : l.stackTraces = false) {S : St} {p1 p2 : Int32} {v : Int32} (hF : fX8_blank S p1 p2 = some (.inr v)) : ML l D cs a yL_blank (.codeWith yL_blank cL_blank 4 (some .long) [(0, 7, 8, 27)]) rmL_blank [.ref (a 0), .int p1, .int p2] S (.long (gI v)) S := by
  refine ml_entry [(0, .ref (a 0)), (1, .int p1), (2, .int p2)] hT (by decide +kernel) (Nat.le_of_ble_eq_true rfl) rfl (fun E hEl hED hEk C hQ O => ?_)
  subst hEl
  subst hED
  subst hEk
  refine v_aload_n 0 (pc := 0) C dL_blank_0 rfl rfl ?_
  refine v_iload_n 1 (pc := 1) C dL_blank_1 rfl rfl ?_
  refine v_iload_n 2 (pc := 2) C dL_blank_2 rfl rfl ?_
  refine v_callV [.int p1, .int p2] (pc := 3) (st1 := [.int v]) (c1 := 2) (s1 := 12) C (mX8_blank C.hT hF) kL_47 (by decide) (gX_8 (rfl : kdX 0 = 8)) rfl rfl rfl rfl (Nat.le_of_ble_eq_true rfl) ⟨(Nat.le_of_ble_eq_true rfl), (Nat.le_of_ble_eq_true rfl)⟩ ⟨(Nat.le_of_ble_eq_true rfl), (Nat.le_of_ble_eq_true rfl)⟩ dL_blank_3 rfl rfl ?_
  refine v_i2l (pc := 6) C dL_blank_6 ?_
  exact l_lret C hQ dL_blank_7 rfl rfl (Nat.le_of_ble_eq_true rfl) (Nat.le_of_ble_eq_true rfl)
theorem mL_blank_1 {l : Launch} {D : va_G} {cs : Nat → ClassId} {a : Nat → Nat} (hT : l.stackTraces = false) {S : St} {p1 p2 : Int32} (hF : fX8_blank S p1 p2 = some (.inl "java/lang/IndexOutOfBoundsException")) : ML l D cs a yL_blank (.codeWith yL_blank cL_blank 4 (some .long) [(0, 7, 8, 27)]) rmL_blank [.ref (a 0), .int p1, .int p2] S (.long XX) S := by
  refine ml_entry [(0, .ref (a 0)), (1, .int p1), (2, .int p2)] hT (by decide +kernel) (Nat.le_of_ble_eq_true rfl) rfl (fun E hEl hED hEk C hQ O => ?_)
  subst hEl
  subst hED
  subst hEk
  refine v_aload_n 0 (pc := 0) C dL_blank_0 rfl rfl ?_
  refine v_iload_n 1 (pc := 1) C dL_blank_1 rfl rfl ?_
  refine v_iload_n 2 (pc := 2) C dL_blank_2 rfl rfl ?_
  refine l_callx [.int p1, .int p2] (pc := 3) (c1 := 2) (s1 := 12) [] ⟨0, 7, 8, 27⟩ [] C hQ.1 O (mX8_blank C.hT hF) kL_47 (gX_8 (rfl : kdX 0 = 8)) rfl rfl rfl (Nat.le_of_ble_eq_true rfl) ⟨(Nat.le_of_ble_eq_true rfl), (Nat.le_of_ble_eq_true rfl)⟩ ⟨(Nat.le_of_ble_eq_true rfl), (Nat.le_of_ble_eq_true rfl)⟩ dL_blank_3 rfl (fun z hz => absurd hz List.not_mem_nil) rfl (by decide) bw_6_9 (by decide) rfl rfl (fun q => ?_)
  refine v_astore_n (pc := 8) (loc' := [(3, .ref q), (0, .ref (a 0)), (1, .int p1), (2, .int p2)]) C dL_blank_8 rfl (by decide) rfl ?_
  refine v_ldc2 (pc := 9) (v := (-9000000000000000 : Int64)) C bw_1_3 dL_blank_9 ?_
  exact l_lret C hQ dL_blank_12 rfl rfl (Nat.le_of_ble_eq_true rfl) (Nat.le_of_ble_eq_true rfl)
def fL_blank (S : St) (p1 : Int32) (p2 : Int32) : Option (Int64 × St) := wrp ["java/lang/IndexOutOfBoundsException"] gI (onS S (fX8_blank S p1 p2))
theorem mL_blank {l : Launch} {D : va_G} {cs : Nat → ClassId} {a : Nat → Nat} (hT : l.stackTraces = false) {S : St} {p1 p2 : Int32} {r : Int64} {S' : St} (hF : fL_blank S p1 p2 = some (r, S')) : ML l D cs a yL_blank (.codeWith yL_blank cL_blank 4 (some .long) [(0, 7, 8, 27)]) rmL_blank [.ref (a 0), .int p1, .int p2] S (.long r) S' := by
  rcases wrp_of hF with ⟨v, h, rfl⟩ | ⟨e, he, h, rfl⟩
  · obtain ⟨h, rfl⟩ := onS_some h
    exact mL_blank_v hT h
  · obtain ⟨h, rfl⟩ := onS_some h
    simp only [List.mem_cons, List.not_mem_nil, or_false] at he
    rcases he with rfl
    · exact mL_blank_1 hT h
abbrev rmL_why : Room := { frames := 10, cells := 4, slots := 24, locals := 250 }
theorem kL_50 : CallVok RL 50 yX8_why cX8_why 7 (some .int) 4 := ⟨bw_12_10, bw_12_11, bw_12_12, bw_1_2, bw_12_13, ⟨by decide +kernel, by decide +kernel, by decide +kernel⟩⟩
theorem mL_why_v {l : Launch} {D : va_G} {cs : Nat → ClassId} {a : Nat → Nat} (hT : l.stackTraces = false) {S : St} {p1 p2 p3 p4 : Int32} {v : Int32} {S' : St} (hF : fX8_why S p1 p2 p3 p4 = some (.inr v, S')) : ML l D cs a yL_why (.codeWith yL_why cL_why 6 (some .long) [(0, 10, 11, 27), (0, 10, 17, 14)]) rmL_why [.ref (a 0), .int p1, .int p2, .int p3, .int p4] S (.long (gI v)) S' := by
  refine ml_entry [(0, .ref (a 0)), (1, .int p1), (2, .int p2), (3, .int p3), (4, .int p4)] hT (by decide +kernel) (Nat.le_of_ble_eq_true rfl) rfl (fun E hEl hED hEk C hQ O => ?_)
  subst hEl
  subst hED
  subst hEk
  refine v_aload_n 0 (pc := 0) C dL_why_0 rfl rfl ?_
  refine v_iload_n 1 (pc := 1) C dL_why_1 rfl rfl ?_
  refine v_iload_n 2 (pc := 2) C dL_why_2 rfl rfl ?_
  refine v_iload_n 3 (pc := 3) C dL_why_3 rfl rfl ?_
  refine v_iload 4 (pc := 4) C dL_why_4 rfl ?_
  refine v_callV [.int p1, .int p2, .int p3, .int p4] (pc := 6) (st1 := [.int v]) (c1 := 4) (s1 := 24) C (mX8_why C.hT hF) kL_50 (by decide) (gX_8 (rfl : kdX 0 = 8)) rfl rfl rfl rfl (Nat.le_of_ble_eq_true rfl) ⟨(Nat.le_of_ble_eq_true rfl), (Nat.le_of_ble_eq_true rfl)⟩ ⟨(Nat.le_of_ble_eq_true rfl), (Nat.le_of_ble_eq_true rfl)⟩ dL_why_6 rfl rfl ?_
  refine v_i2l (pc := 9) C dL_why_9 ?_
  exact l_lret C hQ dL_why_10 rfl rfl (Nat.le_of_ble_eq_true rfl) (Nat.le_of_ble_eq_true rfl)
theorem mL_why_1 {l : Launch} {D : va_G} {cs : Nat → ClassId} {a : Nat → Nat} (hT : l.stackTraces = false) {S : St} {p1 p2 p3 p4 : Int32} {S' : St} (hF : fX8_why S p1 p2 p3 p4 = some (.inl "java/lang/IndexOutOfBoundsException", S')) : ML l D cs a yL_why (.codeWith yL_why cL_why 6 (some .long) [(0, 10, 11, 27), (0, 10, 17, 14)]) rmL_why [.ref (a 0), .int p1, .int p2, .int p3, .int p4] S (.long XX) S' := by
  refine ml_entry [(0, .ref (a 0)), (1, .int p1), (2, .int p2), (3, .int p3), (4, .int p4)] hT (by decide +kernel) (Nat.le_of_ble_eq_true rfl) rfl (fun E hEl hED hEk C hQ O => ?_)
  subst hEl
  subst hED
  subst hEk
  refine v_aload_n 0 (pc := 0) C dL_why_0 rfl rfl ?_
  refine v_iload_n 1 (pc := 1) C dL_why_1 rfl rfl ?_
  refine v_iload_n 2 (pc := 2) C dL_why_2 rfl rfl ?_
  refine v_iload_n 3 (pc := 3) C dL_why_3 rfl rfl ?_
  refine v_iload 4 (pc := 4) C dL_why_4 rfl ?_
  refine l_callx [.int p1, .int p2, .int p3, .int p4] (pc := 6) (c1 := 4) (s1 := 24) [] ⟨0, 10, 11, 27⟩ [⟨0, 10, 17, 14⟩] C hQ.1 O (mX8_why C.hT hF) kL_50 (gX_8 (rfl : kdX 0 = 8)) rfl rfl rfl (Nat.le_of_ble_eq_true rfl) ⟨(Nat.le_of_ble_eq_true rfl), (Nat.le_of_ble_eq_true rfl)⟩ ⟨(Nat.le_of_ble_eq_true rfl), (Nat.le_of_ble_eq_true rfl)⟩ dL_why_6 rfl (fun z hz => absurd hz List.not_mem_nil) rfl (by decide) bw_6_9 (by decide) rfl rfl (fun q => ?_)
  refine v_astore (pc := 11) (loc' := [(5, .ref q), (0, .ref (a 0)), (1, .int p1), (2, .int p2), (3, .int p3), (4, .int p4)]) C dL_why_11 (by decide) rfl ?_
  refine v_ldc2 (pc := 13) (v := (-9000000000000000 : Int64)) C bw_1_3 dL_why_13 ?_
  exact l_lret C hQ dL_why_16 rfl rfl (Nat.le_of_ble_eq_true rfl) (Nat.le_of_ble_eq_true rfl)
theorem mL_why_2 {l : Launch} {D : va_G} {cs : Nat → ClassId} {a : Nat → Nat} (hT : l.stackTraces = false) {S : St} {p1 p2 p3 p4 : Int32} {S' : St} (hF : fX8_why S p1 p2 p3 p4 = some (.inl "java/lang/IllegalArgumentException", S')) : ML l D cs a yL_why (.codeWith yL_why cL_why 6 (some .long) [(0, 10, 11, 27), (0, 10, 17, 14)]) rmL_why [.ref (a 0), .int p1, .int p2, .int p3, .int p4] S (.long XX) S' := by
  refine ml_entry [(0, .ref (a 0)), (1, .int p1), (2, .int p2), (3, .int p3), (4, .int p4)] hT (by decide +kernel) (Nat.le_of_ble_eq_true rfl) rfl (fun E hEl hED hEk C hQ O => ?_)
  subst hEl
  subst hED
  subst hEk
  refine v_aload_n 0 (pc := 0) C dL_why_0 rfl rfl ?_
  refine v_iload_n 1 (pc := 1) C dL_why_1 rfl rfl ?_
  refine v_iload_n 2 (pc := 2) C dL_why_2 rfl rfl ?_
  refine v_iload_n 3 (pc := 3) C dL_why_3 rfl rfl ?_
  refine v_iload 4 (pc := 4) C dL_why_4 rfl ?_
  refine l_callx [.int p1, .int p2, .int p3, .int p4] (pc := 6) (c1 := 4) (s1 := 24) [⟨0, 10, 11, 27⟩] ⟨0, 10, 17, 14⟩ [] C hQ.1 O (mX8_why C.hT hF) kL_50 (gX_8 (rfl : kdX 0 = 8)) rfl rfl rfl (Nat.le_of_ble_eq_true rfl) ⟨(Nat.le_of_ble_eq_true rfl), (Nat.le_of_ble_eq_true rfl)⟩ ⟨(Nat.le_of_ble_eq_true rfl), (Nat.le_of_ble_eq_true rfl)⟩ dL_why_6 rfl (fun z hz => by
    simp only [List.mem_cons, List.not_mem_nil, or_false] at hz
    rcases hz with rfl
    · exact ⟨by decide, _, bw_6_9, by decide⟩) rfl (by decide) bw_5_10 (by decide) rfl rfl (fun q => ?_)
  refine v_astore (pc := 17) (loc' := [(5, .ref q), (0, .ref (a 0)), (1, .int p1), (2, .int p2), (3, .int p3), (4, .int p4)]) C dL_why_17 (by decide) rfl ?_
  refine v_ldc2 (pc := 19) (v := (-9000000000000000 : Int64)) C bw_1_3 dL_why_19 ?_
  exact l_lret C hQ dL_why_22 rfl rfl (Nat.le_of_ble_eq_true rfl) (Nat.le_of_ble_eq_true rfl)
def fL_why (S : St) (p1 : Int32) (p2 : Int32) (p3 : Int32) (p4 : Int32) : Option (Int64 × St) := wrp ["java/lang/IndexOutOfBoundsException", "java/lang/IllegalArgumentException"] gI (fX8_why S p1 p2 p3 p4)
theorem mL_why {l : Launch} {D : va_G} {cs : Nat → ClassId} {a : Nat → Nat} (hT : l.stackTraces = false) {S : St} {p1 p2 p3 p4 : Int32} {r : Int64} {S' : St} (hF : fL_why S p1 p2 p3 p4 = some (r, S')) : ML l D cs a yL_why (.codeWith yL_why cL_why 6 (some .long) [(0, 10, 11, 27), (0, 10, 17, 14)]) rmL_why [.ref (a 0), .int p1, .int p2, .int p3, .int p4] S (.long r) S' := by
  rcases wrp_of hF with ⟨v, h, rfl⟩ | ⟨e, he, h, rfl⟩
  · exact mL_why_v hT h
  · simp only [List.mem_cons, List.not_mem_nil, or_false] at he
    rcases he with rfl | rfl
    · exact mL_why_1 hT h
    · exact mL_why_2 hT h
abbrev rmL_point : Room := { frames := 9, cells := 3, slots := 18, locals := 210 }
theorem kL_53 : CallVok RL 53 yX8_point cX8_point 9 (some .int) 6 := ⟨bw_14_18, bw_14_19, bw_14_20, bw_1_2, bw_14_21, ⟨by decide +kernel, by decide +kernel, by decide +kernel⟩⟩
theorem mL_point_v {l : Launch} {D : va_G} {cs : Nat → ClassId} {a : Nat → Nat} (hT : l.stackTraces = false) {S : St} {p1 p2 p3 p4 p5 p6 : Int32} {v : Int32} {S' : St} (hF : fX8_point S p1 p2 p3 p4 p5 p6 = some (.inr v, S')) : ML l D cs a yL_point (.codeWith yL_point cL_point 8 (some .long) [(0, 14, 15, 27), (0, 14, 21, 14)]) rmL_point [.ref (a 0), .int p1, .int p2, .int p3, .int p4, .int p5, .int p6] S (.long (gI v)) S' := by
  refine ml_entry [(0, .ref (a 0)), (1, .int p1), (2, .int p2), (3, .int p3), (4, .int p4), (5, .int p5), (6, .int p6)] hT (by decide +kernel) (Nat.le_of_ble_eq_true rfl) rfl (fun E hEl hED hEk C hQ O => ?_)
  subst hEl
  subst hED
  subst hEk
  refine v_aload_n 0 (pc := 0) C dL_point_0 rfl rfl ?_
  refine v_iload_n 1 (pc := 1) C dL_point_1 rfl rfl ?_
  refine v_iload_n 2 (pc := 2) C dL_point_2 rfl rfl ?_
  refine v_iload_n 3 (pc := 3) C dL_point_3 rfl rfl ?_
  refine v_iload 4 (pc := 4) C dL_point_4 rfl ?_
  refine v_iload 5 (pc := 6) C dL_point_6 rfl ?_
  refine v_iload 6 (pc := 8) C dL_point_8 rfl ?_
  refine v_callV [.int p1, .int p2, .int p3, .int p4, .int p5, .int p6] (pc := 10) (st1 := [.int v]) (c1 := 3) (s1 := 18) C (mX8_point C.hT hF) kL_53 (by decide) (gX_8 (rfl : kdX 0 = 8)) rfl rfl rfl rfl (Nat.le_of_ble_eq_true rfl) ⟨(Nat.le_of_ble_eq_true rfl), (Nat.le_of_ble_eq_true rfl)⟩ ⟨(Nat.le_of_ble_eq_true rfl), (Nat.le_of_ble_eq_true rfl)⟩ dL_point_10 rfl rfl ?_
  refine v_i2l (pc := 13) C dL_point_13 ?_
  exact l_lret C hQ dL_point_14 rfl rfl (Nat.le_of_ble_eq_true rfl) (Nat.le_of_ble_eq_true rfl)
theorem mL_point_1 {l : Launch} {D : va_G} {cs : Nat → ClassId} {a : Nat → Nat} (hT : l.stackTraces = false) {S : St} {p1 p2 p3 p4 p5 p6 : Int32} {S' : St} (hF : fX8_point S p1 p2 p3 p4 p5 p6 = some (.inl "java/lang/IndexOutOfBoundsException", S')) : ML l D cs a yL_point (.codeWith yL_point cL_point 8 (some .long) [(0, 14, 15, 27), (0, 14, 21, 14)]) rmL_point [.ref (a 0), .int p1, .int p2, .int p3, .int p4, .int p5, .int p6] S (.long XX) S' := by
  refine ml_entry [(0, .ref (a 0)), (1, .int p1), (2, .int p2), (3, .int p3), (4, .int p4), (5, .int p5), (6, .int p6)] hT (by decide +kernel) (Nat.le_of_ble_eq_true rfl) rfl (fun E hEl hED hEk C hQ O => ?_)
  subst hEl
  subst hED
  subst hEk
  refine v_aload_n 0 (pc := 0) C dL_point_0 rfl rfl ?_
  refine v_iload_n 1 (pc := 1) C dL_point_1 rfl rfl ?_
  refine v_iload_n 2 (pc := 2) C dL_point_2 rfl rfl ?_
  refine v_iload_n 3 (pc := 3) C dL_point_3 rfl rfl ?_
  refine v_iload 4 (pc := 4) C dL_point_4 rfl ?_
  refine v_iload 5 (pc := 6) C dL_point_6 rfl ?_
  refine v_iload 6 (pc := 8) C dL_point_8 rfl ?_
  refine l_callx [.int p1, .int p2, .int p3, .int p4, .int p5, .int p6] (pc := 10) (c1 := 3) (s1 := 18) [] ⟨0, 14, 15, 27⟩ [⟨0, 14, 21, 14⟩] C hQ.1 O (mX8_point C.hT hF) kL_53 (gX_8 (rfl : kdX 0 = 8)) rfl rfl rfl (Nat.le_of_ble_eq_true rfl) ⟨(Nat.le_of_ble_eq_true rfl), (Nat.le_of_ble_eq_true rfl)⟩ ⟨(Nat.le_of_ble_eq_true rfl), (Nat.le_of_ble_eq_true rfl)⟩ dL_point_10 rfl (fun z hz => absurd hz List.not_mem_nil) rfl (by decide) bw_6_9 (by decide) rfl rfl (fun q => ?_)
  refine v_astore (pc := 15) (loc' := [(7, .ref q), (0, .ref (a 0)), (1, .int p1), (2, .int p2), (3, .int p3), (4, .int p4), (5, .int p5), (6, .int p6)]) C dL_point_15 (by decide) rfl ?_
  refine v_ldc2 (pc := 17) (v := (-9000000000000000 : Int64)) C bw_1_3 dL_point_17 ?_
  exact l_lret C hQ dL_point_20 rfl rfl (Nat.le_of_ble_eq_true rfl) (Nat.le_of_ble_eq_true rfl)
theorem mL_point_2 {l : Launch} {D : va_G} {cs : Nat → ClassId} {a : Nat → Nat} (hT : l.stackTraces = false) {S : St} {p1 p2 p3 p4 p5 p6 : Int32} {S' : St} (hF : fX8_point S p1 p2 p3 p4 p5 p6 = some (.inl "java/lang/IllegalArgumentException", S')) : ML l D cs a yL_point (.codeWith yL_point cL_point 8 (some .long) [(0, 14, 15, 27), (0, 14, 21, 14)]) rmL_point [.ref (a 0), .int p1, .int p2, .int p3, .int p4, .int p5, .int p6] S (.long XX) S' := by
  refine ml_entry [(0, .ref (a 0)), (1, .int p1), (2, .int p2), (3, .int p3), (4, .int p4), (5, .int p5), (6, .int p6)] hT (by decide +kernel) (Nat.le_of_ble_eq_true rfl) rfl (fun E hEl hED hEk C hQ O => ?_)
  subst hEl
  subst hED
  subst hEk
  refine v_aload_n 0 (pc := 0) C dL_point_0 rfl rfl ?_
  refine v_iload_n 1 (pc := 1) C dL_point_1 rfl rfl ?_
  refine v_iload_n 2 (pc := 2) C dL_point_2 rfl rfl ?_
  refine v_iload_n 3 (pc := 3) C dL_point_3 rfl rfl ?_
  refine v_iload 4 (pc := 4) C dL_point_4 rfl ?_
  refine v_iload 5 (pc := 6) C dL_point_6 rfl ?_
  refine v_iload 6 (pc := 8) C dL_point_8 rfl ?_
  refine l_callx [.int p1, .int p2, .int p3, .int p4, .int p5, .int p6] (pc := 10) (c1 := 3) (s1 := 18) [⟨0, 14, 15, 27⟩] ⟨0, 14, 21, 14⟩ [] C hQ.1 O (mX8_point C.hT hF) kL_53 (gX_8 (rfl : kdX 0 = 8)) rfl rfl rfl (Nat.le_of_ble_eq_true rfl) ⟨(Nat.le_of_ble_eq_true rfl), (Nat.le_of_ble_eq_true rfl)⟩ ⟨(Nat.le_of_ble_eq_true rfl), (Nat.le_of_ble_eq_true rfl)⟩ dL_point_10 rfl (fun z hz => by
    simp only [List.mem_cons, List.not_mem_nil, or_false] at hz
    rcases hz with rfl
    · exact ⟨by decide, _, bw_6_9, by decide⟩) rfl (by decide) bw_5_10 (by decide) rfl rfl (fun q => ?_)
  refine v_astore (pc := 21) (loc' := [(7, .ref q), (0, .ref (a 0)), (1, .int p1), (2, .int p2), (3, .int p3), (4, .int p4), (5, .int p5), (6, .int p6)]) C dL_point_21 (by decide) rfl ?_
  refine v_ldc2 (pc := 23) (v := (-9000000000000000 : Int64)) C bw_1_3 dL_point_23 ?_
  exact l_lret C hQ dL_point_26 rfl rfl (Nat.le_of_ble_eq_true rfl) (Nat.le_of_ble_eq_true rfl)
def fL_point (S : St) (p1 : Int32) (p2 : Int32) (p3 : Int32) (p4 : Int32) (p5 : Int32) (p6 : Int32) : Option (Int64 × St) := wrp ["java/lang/IndexOutOfBoundsException", "java/lang/IllegalArgumentException"] gI (fX8_point S p1 p2 p3 p4 p5 p6)
theorem mL_point {l : Launch} {D : va_G} {cs : Nat → ClassId} {a : Nat → Nat} (hT : l.stackTraces = false) {S : St} {p1 p2 p3 p4 p5 p6 : Int32} {r : Int64} {S' : St} (hF : fL_point S p1 p2 p3 p4 p5 p6 = some (r, S')) : ML l D cs a yL_point (.codeWith yL_point cL_point 8 (some .long) [(0, 14, 15, 27), (0, 14, 21, 14)]) rmL_point [.ref (a 0), .int p1, .int p2, .int p3, .int p4, .int p5, .int p6] S (.long r) S' := by
  rcases wrp_of hF with ⟨v, h, rfl⟩ | ⟨e, he, h, rfl⟩
  · exact mL_point_v hT h
  · simp only [List.mem_cons, List.not_mem_nil, or_false] at he
    rcases he with rfl | rfl
    · exact mL_point_1 hT h
    · exact mL_point_2 hT h
abbrev rmL_flips : Room := { frames := 12, cells := 2, slots := 12, locals := 330 }
theorem kL_57 : CallVok RL 57 yX8_flips cX8_flips 4 (some .int) 2 := ⟨bw_15_6, bw_15_7, bw_15_8, bw_1_2, bw_15_9, ⟨by decide +kernel, by decide +kernel, by decide +kernel⟩⟩
theorem mL_flips_v {l : Launch} {D : va_G} {cs : Nat → ClassId} {a : Nat → Nat} (hT : l.stackTraces = false) {S : St} {p1 p2 : Int32} {v : Int32} {S' : St} (hF : fX8_flips S p1 p2 = some (.inr v, S')) : ML l D cs a yL_flips (.codeWith yL_flips cL_flips 4 (some .long) [(0, 7, 8, 27)]) rmL_flips [.ref (a 0), .int p1, .int p2] S (.long (gI v)) S' := by
  refine ml_entry [(0, .ref (a 0)), (1, .int p1), (2, .int p2)] hT (by decide +kernel) (Nat.le_of_ble_eq_true rfl) rfl (fun E hEl hED hEk C hQ O => ?_)
  subst hEl
  subst hED
  subst hEk
  refine v_aload_n 0 (pc := 0) C dL_flips_0 rfl rfl ?_
  refine v_iload_n 1 (pc := 1) C dL_flips_1 rfl rfl ?_
  refine v_iload_n 2 (pc := 2) C dL_flips_2 rfl rfl ?_
  refine v_callV [.int p1, .int p2] (pc := 3) (st1 := [.int v]) (c1 := 2) (s1 := 12) C (mX8_flips C.hT hF) kL_57 (by decide) (gX_8 (rfl : kdX 0 = 8)) rfl rfl rfl rfl (Nat.le_of_ble_eq_true rfl) ⟨(Nat.le_of_ble_eq_true rfl), (Nat.le_of_ble_eq_true rfl)⟩ ⟨(Nat.le_of_ble_eq_true rfl), (Nat.le_of_ble_eq_true rfl)⟩ dL_flips_3 rfl rfl ?_
  refine v_i2l (pc := 6) C dL_flips_6 ?_
  exact l_lret C hQ dL_flips_7 rfl rfl (Nat.le_of_ble_eq_true rfl) (Nat.le_of_ble_eq_true rfl)
theorem mL_flips_1 {l : Launch} {D : va_G} {cs : Nat → ClassId} {a : Nat → Nat} (hT : l.stackTraces = false) {S : St} {p1 p2 : Int32} {S' : St} (hF : fX8_flips S p1 p2 = some (.inl "java/lang/IndexOutOfBoundsException", S')) : ML l D cs a yL_flips (.codeWith yL_flips cL_flips 4 (some .long) [(0, 7, 8, 27)]) rmL_flips [.ref (a 0), .int p1, .int p2] S (.long XX) S' := by
  refine ml_entry [(0, .ref (a 0)), (1, .int p1), (2, .int p2)] hT (by decide +kernel) (Nat.le_of_ble_eq_true rfl) rfl (fun E hEl hED hEk C hQ O => ?_)
  subst hEl
  subst hED
  subst hEk
  refine v_aload_n 0 (pc := 0) C dL_flips_0 rfl rfl ?_
  refine v_iload_n 1 (pc := 1) C dL_flips_1 rfl rfl ?_
  refine v_iload_n 2 (pc := 2) C dL_flips_2 rfl rfl ?_
  refine l_callx [.int p1, .int p2] (pc := 3) (c1 := 2) (s1 := 12) [] ⟨0, 7, 8, 27⟩ [] C hQ.1 O (mX8_flips C.hT hF) kL_57 (gX_8 (rfl : kdX 0 = 8)) rfl rfl rfl (Nat.le_of_ble_eq_true rfl) ⟨(Nat.le_of_ble_eq_true rfl), (Nat.le_of_ble_eq_true rfl)⟩ ⟨(Nat.le_of_ble_eq_true rfl), (Nat.le_of_ble_eq_true rfl)⟩ dL_flips_3 rfl (fun z hz => absurd hz List.not_mem_nil) rfl (by decide) bw_6_9 (by decide) rfl rfl (fun q => ?_)
  refine v_astore_n (pc := 8) (loc' := [(3, .ref q), (0, .ref (a 0)), (1, .int p1), (2, .int p2)]) C dL_flips_8 rfl (by decide) rfl ?_
  refine v_ldc2 (pc := 9) (v := (-9000000000000000 : Int64)) C bw_1_3 dL_flips_9 ?_
  exact l_lret C hQ dL_flips_12 rfl rfl (Nat.le_of_ble_eq_true rfl) (Nat.le_of_ble_eq_true rfl)
def fL_flips (S : St) (p1 : Int32) (p2 : Int32) : Option (Int64 × St) := wrp ["java/lang/IndexOutOfBoundsException"] gI (fX8_flips S p1 p2)
theorem mL_flips {l : Launch} {D : va_G} {cs : Nat → ClassId} {a : Nat → Nat} (hT : l.stackTraces = false) {S : St} {p1 p2 : Int32} {r : Int64} {S' : St} (hF : fL_flips S p1 p2 = some (r, S')) : ML l D cs a yL_flips (.codeWith yL_flips cL_flips 4 (some .long) [(0, 7, 8, 27)]) rmL_flips [.ref (a 0), .int p1, .int p2] S (.long r) S' := by
  rcases wrp_of hF with ⟨v, h, rfl⟩ | ⟨e, he, h, rfl⟩
  · exact mL_flips_v hT h
  · simp only [List.mem_cons, List.not_mem_nil, or_false] at he
    rcases he with rfl
    · exact mL_flips_1 hT h
abbrev rmL_ordered : Room := { frames := 12, cells := 3, slots := 18, locals := 330 }
theorem kL_60 : CallVok RL 60 yX8_ordered cX8_ordered 6 (some .int) 3 := ⟨bw_16_21, bw_16_22, bw_16_23, bw_1_2, bw_17_0, ⟨by decide +kernel, by decide +kernel, by decide +kernel⟩⟩
theorem mL_ordered_v {l : Launch} {D : va_G} {cs : Nat → ClassId} {a : Nat → Nat} (hT : l.stackTraces = false) {S : St} {p1 p2 p3 : Int32} {v : Int32} {S' : St} (hF : fX8_ordered S p1 p2 p3 = some (.inr v, S')) : ML l D cs a yL_ordered (.codeWith yL_ordered cL_ordered 5 (some .long) [(0, 8, 9, 27)]) rmL_ordered [.ref (a 0), .int p1, .int p2, .int p3] S (.long (gI v)) S' := by
  refine ml_entry [(0, .ref (a 0)), (1, .int p1), (2, .int p2), (3, .int p3)] hT (by decide +kernel) (Nat.le_of_ble_eq_true rfl) rfl (fun E hEl hED hEk C hQ O => ?_)
  subst hEl
  subst hED
  subst hEk
  refine v_aload_n 0 (pc := 0) C dL_ordered_0 rfl rfl ?_
  refine v_iload_n 1 (pc := 1) C dL_ordered_1 rfl rfl ?_
  refine v_iload_n 2 (pc := 2) C dL_ordered_2 rfl rfl ?_
  refine v_iload_n 3 (pc := 3) C dL_ordered_3 rfl rfl ?_
  refine v_callV [.int p1, .int p2, .int p3] (pc := 4) (st1 := [.int v]) (c1 := 3) (s1 := 18) C (mX8_ordered C.hT hF) kL_60 (by decide) (gX_8 (rfl : kdX 0 = 8)) rfl rfl rfl rfl (Nat.le_of_ble_eq_true rfl) ⟨(Nat.le_of_ble_eq_true rfl), (Nat.le_of_ble_eq_true rfl)⟩ ⟨(Nat.le_of_ble_eq_true rfl), (Nat.le_of_ble_eq_true rfl)⟩ dL_ordered_4 rfl rfl ?_
  refine v_i2l (pc := 7) C dL_ordered_7 ?_
  exact l_lret C hQ dL_ordered_8 rfl rfl (Nat.le_of_ble_eq_true rfl) (Nat.le_of_ble_eq_true rfl)
theorem mL_ordered_1 {l : Launch} {D : va_G} {cs : Nat → ClassId} {a : Nat → Nat} (hT : l.stackTraces = false) {S : St} {p1 p2 p3 : Int32} {S' : St} (hF : fX8_ordered S p1 p2 p3 = some (.inl "java/lang/IndexOutOfBoundsException", S')) : ML l D cs a yL_ordered (.codeWith yL_ordered cL_ordered 5 (some .long) [(0, 8, 9, 27)]) rmL_ordered [.ref (a 0), .int p1, .int p2, .int p3] S (.long XX) S' := by
  refine ml_entry [(0, .ref (a 0)), (1, .int p1), (2, .int p2), (3, .int p3)] hT (by decide +kernel) (Nat.le_of_ble_eq_true rfl) rfl (fun E hEl hED hEk C hQ O => ?_)
  subst hEl
  subst hED
  subst hEk
  refine v_aload_n 0 (pc := 0) C dL_ordered_0 rfl rfl ?_
  refine v_iload_n 1 (pc := 1) C dL_ordered_1 rfl rfl ?_
  refine v_iload_n 2 (pc := 2) C dL_ordered_2 rfl rfl ?_
  refine v_iload_n 3 (pc := 3) C dL_ordered_3 rfl rfl ?_
  refine l_callx [.int p1, .int p2, .int p3] (pc := 4) (c1 := 3) (s1 := 18) [] ⟨0, 8, 9, 27⟩ [] C hQ.1 O (mX8_ordered C.hT hF) kL_60 (gX_8 (rfl : kdX 0 = 8)) rfl rfl rfl (Nat.le_of_ble_eq_true rfl) ⟨(Nat.le_of_ble_eq_true rfl), (Nat.le_of_ble_eq_true rfl)⟩ ⟨(Nat.le_of_ble_eq_true rfl), (Nat.le_of_ble_eq_true rfl)⟩ dL_ordered_4 rfl (fun z hz => absurd hz List.not_mem_nil) rfl (by decide) bw_6_9 (by decide) rfl rfl (fun q => ?_)
  refine v_astore (pc := 9) (loc' := [(4, .ref q), (0, .ref (a 0)), (1, .int p1), (2, .int p2), (3, .int p3)]) C dL_ordered_9 (by decide) rfl ?_
  refine v_ldc2 (pc := 11) (v := (-9000000000000000 : Int64)) C bw_1_3 dL_ordered_11 ?_
  exact l_lret C hQ dL_ordered_14 rfl rfl (Nat.le_of_ble_eq_true rfl) (Nat.le_of_ble_eq_true rfl)
def fL_ordered (S : St) (p1 : Int32) (p2 : Int32) (p3 : Int32) : Option (Int64 × St) := wrp ["java/lang/IndexOutOfBoundsException"] gI (fX8_ordered S p1 p2 p3)
theorem mL_ordered {l : Launch} {D : va_G} {cs : Nat → ClassId} {a : Nat → Nat} (hT : l.stackTraces = false) {S : St} {p1 p2 p3 : Int32} {r : Int64} {S' : St} (hF : fL_ordered S p1 p2 p3 = some (r, S')) : ML l D cs a yL_ordered (.codeWith yL_ordered cL_ordered 5 (some .long) [(0, 8, 9, 27)]) rmL_ordered [.ref (a 0), .int p1, .int p2, .int p3] S (.long r) S' := by
  rcases wrp_of hF with ⟨v, h, rfl⟩ | ⟨e, he, h, rfl⟩
  · exact mL_ordered_v hT h
  · simp only [List.mem_cons, List.not_mem_nil, or_false] at he
    rcases he with rfl
    · exact mL_ordered_1 hT h
abbrev rmL_want : Room := { frames := 9, cells := 2, slots := 12, locals := 210 }
theorem kL_63 : CallVok RL 63 yX8_want cX8_want 3 (some .int) 2 := ⟨bw_17_6, bw_17_7, bw_17_8, bw_1_2, bw_17_9, ⟨by decide +kernel, by decide +kernel, by decide +kernel⟩⟩
theorem mL_want_v {l : Launch} {D : va_G} {cs : Nat → ClassId} {a : Nat → Nat} (hT : l.stackTraces = false) {S : St} {p1 p2 : Int32} {v : Int32} {S' : St} (hF : fX8_want S p1 p2 = some (.inr v, S')) : ML l D cs a yL_want (.codeWith yL_want cL_want 4 (some .long) [(0, 7, 8, 27), (0, 7, 13, 14), (0, 7, 18, 18)]) rmL_want [.ref (a 0), .int p1, .int p2] S (.long (gI v)) S' := by
  refine ml_entry [(0, .ref (a 0)), (1, .int p1), (2, .int p2)] hT (by decide +kernel) (Nat.le_of_ble_eq_true rfl) rfl (fun E hEl hED hEk C hQ O => ?_)
  subst hEl
  subst hED
  subst hEk
  refine v_aload_n 0 (pc := 0) C dL_want_0 rfl rfl ?_
  refine v_iload_n 1 (pc := 1) C dL_want_1 rfl rfl ?_
  refine v_iload_n 2 (pc := 2) C dL_want_2 rfl rfl ?_
  refine v_callV [.int p1, .int p2] (pc := 3) (st1 := [.int v]) (c1 := 2) (s1 := 12) C (mX8_want C.hT hF) kL_63 (by decide) (gX_8 (rfl : kdX 0 = 8)) rfl rfl rfl rfl (Nat.le_of_ble_eq_true rfl) ⟨(Nat.le_of_ble_eq_true rfl), (Nat.le_of_ble_eq_true rfl)⟩ ⟨(Nat.le_of_ble_eq_true rfl), (Nat.le_of_ble_eq_true rfl)⟩ dL_want_3 rfl rfl ?_
  refine v_i2l (pc := 6) C dL_want_6 ?_
  exact l_lret C hQ dL_want_7 rfl rfl (Nat.le_of_ble_eq_true rfl) (Nat.le_of_ble_eq_true rfl)
theorem mL_want_1 {l : Launch} {D : va_G} {cs : Nat → ClassId} {a : Nat → Nat} (hT : l.stackTraces = false) {S : St} {p1 p2 : Int32} {S' : St} (hF : fX8_want S p1 p2 = some (.inl "java/lang/IndexOutOfBoundsException", S')) : ML l D cs a yL_want (.codeWith yL_want cL_want 4 (some .long) [(0, 7, 8, 27), (0, 7, 13, 14), (0, 7, 18, 18)]) rmL_want [.ref (a 0), .int p1, .int p2] S (.long XX) S' := by
  refine ml_entry [(0, .ref (a 0)), (1, .int p1), (2, .int p2)] hT (by decide +kernel) (Nat.le_of_ble_eq_true rfl) rfl (fun E hEl hED hEk C hQ O => ?_)
  subst hEl
  subst hED
  subst hEk
  refine v_aload_n 0 (pc := 0) C dL_want_0 rfl rfl ?_
  refine v_iload_n 1 (pc := 1) C dL_want_1 rfl rfl ?_
  refine v_iload_n 2 (pc := 2) C dL_want_2 rfl rfl ?_
  refine l_callx [.int p1, .int p2] (pc := 3) (c1 := 2) (s1 := 12) [] ⟨0, 7, 8, 27⟩ [⟨0, 7, 13, 14⟩, ⟨0, 7, 18, 18⟩] C hQ.1 O (mX8_want C.hT hF) kL_63 (gX_8 (rfl : kdX 0 = 8)) rfl rfl rfl (Nat.le_of_ble_eq_true rfl) ⟨(Nat.le_of_ble_eq_true rfl), (Nat.le_of_ble_eq_true rfl)⟩ ⟨(Nat.le_of_ble_eq_true rfl), (Nat.le_of_ble_eq_true rfl)⟩ dL_want_3 rfl (fun z hz => absurd hz List.not_mem_nil) rfl (by decide) bw_6_9 (by decide) rfl rfl (fun q => ?_)
  refine v_astore_n (pc := 8) (loc' := [(3, .ref q), (0, .ref (a 0)), (1, .int p1), (2, .int p2)]) C dL_want_8 rfl (by decide) rfl ?_
  refine v_ldc2 (pc := 9) (v := (-9000000000000000 : Int64)) C bw_1_3 dL_want_9 ?_
  exact l_lret C hQ dL_want_12 rfl rfl (Nat.le_of_ble_eq_true rfl) (Nat.le_of_ble_eq_true rfl)
theorem mL_want_2 {l : Launch} {D : va_G} {cs : Nat → ClassId} {a : Nat → Nat} (hT : l.stackTraces = false) {S : St} {p1 p2 : Int32} {S' : St} (hF : fX8_want S p1 p2 = some (.inl "java/lang/IllegalArgumentException", S')) : ML l D cs a yL_want (.codeWith yL_want cL_want 4 (some .long) [(0, 7, 8, 27), (0, 7, 13, 14), (0, 7, 18, 18)]) rmL_want [.ref (a 0), .int p1, .int p2] S (.long XX) S' := by
  refine ml_entry [(0, .ref (a 0)), (1, .int p1), (2, .int p2)] hT (by decide +kernel) (Nat.le_of_ble_eq_true rfl) rfl (fun E hEl hED hEk C hQ O => ?_)
  subst hEl
  subst hED
  subst hEk
  refine v_aload_n 0 (pc := 0) C dL_want_0 rfl rfl ?_
  refine v_iload_n 1 (pc := 1) C dL_want_1 rfl rfl ?_
  refine v_iload_n 2 (pc := 2) C dL_want_2 rfl rfl ?_
  refine l_callx [.int p1, .int p2] (pc := 3) (c1 := 2) (s1 := 12) [⟨0, 7, 8, 27⟩] ⟨0, 7, 13, 14⟩ [⟨0, 7, 18, 18⟩] C hQ.1 O (mX8_want C.hT hF) kL_63 (gX_8 (rfl : kdX 0 = 8)) rfl rfl rfl (Nat.le_of_ble_eq_true rfl) ⟨(Nat.le_of_ble_eq_true rfl), (Nat.le_of_ble_eq_true rfl)⟩ ⟨(Nat.le_of_ble_eq_true rfl), (Nat.le_of_ble_eq_true rfl)⟩ dL_want_3 rfl (fun z hz => by
    simp only [List.mem_cons, List.not_mem_nil, or_false] at hz
    rcases hz with rfl
    · exact ⟨by decide, _, bw_6_9, by decide⟩) rfl (by decide) bw_5_10 (by decide) rfl rfl (fun q => ?_)
  refine v_astore_n (pc := 13) (loc' := [(3, .ref q), (0, .ref (a 0)), (1, .int p1), (2, .int p2)]) C dL_want_13 rfl (by decide) rfl ?_
  refine v_ldc2 (pc := 14) (v := (-9000000000000000 : Int64)) C bw_1_3 dL_want_14 ?_
  exact l_lret C hQ dL_want_17 rfl rfl (Nat.le_of_ble_eq_true rfl) (Nat.le_of_ble_eq_true rfl)
theorem mL_want_3 {l : Launch} {D : va_G} {cs : Nat → ClassId} {a : Nat → Nat} (hT : l.stackTraces = false) {S : St} {p1 p2 : Int32} {S' : St} (hF : fX8_want S p1 p2 = some (.inl "java/lang/IllegalStateException", S')) : ML l D cs a yL_want (.codeWith yL_want cL_want 4 (some .long) [(0, 7, 8, 27), (0, 7, 13, 14), (0, 7, 18, 18)]) rmL_want [.ref (a 0), .int p1, .int p2] S (.long XX) S' := by
  refine ml_entry [(0, .ref (a 0)), (1, .int p1), (2, .int p2)] hT (by decide +kernel) (Nat.le_of_ble_eq_true rfl) rfl (fun E hEl hED hEk C hQ O => ?_)
  subst hEl
  subst hED
  subst hEk
  refine v_aload_n 0 (pc := 0) C dL_want_0 rfl rfl ?_
  refine v_iload_n 1 (pc := 1) C dL_want_1 rfl rfl ?_
  refine v_iload_n 2 (pc := 2) C dL_want_2 rfl rfl ?_
  refine l_callx [.int p1, .int p2] (pc := 3) (c1 := 2) (s1 := 12) [⟨0, 7, 8, 27⟩, ⟨0, 7, 13, 14⟩] ⟨0, 7, 18, 18⟩ [] C hQ.1 O (mX8_want C.hT hF) kL_63 (gX_8 (rfl : kdX 0 = 8)) rfl rfl rfl (Nat.le_of_ble_eq_true rfl) ⟨(Nat.le_of_ble_eq_true rfl), (Nat.le_of_ble_eq_true rfl)⟩ ⟨(Nat.le_of_ble_eq_true rfl), (Nat.le_of_ble_eq_true rfl)⟩ dL_want_3 rfl (fun z hz => by
    simp only [List.mem_cons, List.not_mem_nil, or_false] at hz
    rcases hz with rfl | rfl
    · exact ⟨by decide, _, bw_6_9, by decide⟩
    · exact ⟨by decide, _, bw_5_10, by decide⟩) rfl (by decide) bw_5_11 (by decide) rfl rfl (fun q => ?_)
  refine v_astore_n (pc := 18) (loc' := [(3, .ref q), (0, .ref (a 0)), (1, .int p1), (2, .int p2)]) C dL_want_18 rfl (by decide) rfl ?_
  refine v_ldc2 (pc := 19) (v := (-9000000000000000 : Int64)) C bw_1_3 dL_want_19 ?_
  exact l_lret C hQ dL_want_22 rfl rfl (Nat.le_of_ble_eq_true rfl) (Nat.le_of_ble_eq_true rfl)
def fL_want (S : St) (p1 : Int32) (p2 : Int32) : Option (Int64 × St) := wrp ["java/lang/IndexOutOfBoundsException", "java/lang/IllegalArgumentException", "java/lang/IllegalStateException"] gI (fX8_want S p1 p2)
theorem mL_want {l : Launch} {D : va_G} {cs : Nat → ClassId} {a : Nat → Nat} (hT : l.stackTraces = false) {S : St} {p1 p2 : Int32} {r : Int64} {S' : St} (hF : fL_want S p1 p2 = some (r, S')) : ML l D cs a yL_want (.codeWith yL_want cL_want 4 (some .long) [(0, 7, 8, 27), (0, 7, 13, 14), (0, 7, 18, 18)]) rmL_want [.ref (a 0), .int p1, .int p2] S (.long r) S' := by
  rcases wrp_of hF with ⟨v, h, rfl⟩ | ⟨e, he, h, rfl⟩
  · exact mL_want_v hT h
  · simp only [List.mem_cons, List.not_mem_nil, or_false] at he
    rcases he with rfl | rfl | rfl
    · exact mL_want_1 hT h
    · exact mL_want_2 hT h
    · exact mL_want_3 hT h
abbrev rmL_nest : Room := { frames := 11, cells := 2, slots := 12, locals := 290 }
theorem kL_66 : CallVok RL 66 yX8_nest cX8_nest 7 (some .long) 4 := ⟨bw_17_18, bw_17_19, bw_17_20, bw_1_2, bw_17_21, ⟨by decide +kernel, by decide +kernel, by decide +kernel⟩⟩
theorem mL_nest_v {l : Launch} {D : va_G} {cs : Nat → ClassId} {a : Nat → Nat} (hT : l.stackTraces = false) {S : St} {p1 p2 p3 p4 : Int32} {v : Int64} {S' : St} (hF : fX8_nest S p1 p2 p3 p4 = some (.inr v, S')) : ML l D cs a yL_nest (.codeWith yL_nest cL_nest 6 (some .long) [(0, 9, 10, 27), (0, 9, 16, 14)]) rmL_nest [.ref (a 0), .int p1, .int p2, .int p3, .int p4] S (.long (gL v)) S' := by
  refine ml_entry [(0, .ref (a 0)), (1, .int p1), (2, .int p2), (3, .int p3), (4, .int p4)] hT (by decide +kernel) (Nat.le_of_ble_eq_true rfl) rfl (fun E hEl hED hEk C hQ O => ?_)
  subst hEl
  subst hED
  subst hEk
  refine v_aload_n 0 (pc := 0) C dL_nest_0 rfl rfl ?_
  refine v_iload_n 1 (pc := 1) C dL_nest_1 rfl rfl ?_
  refine v_iload_n 2 (pc := 2) C dL_nest_2 rfl rfl ?_
  refine v_iload_n 3 (pc := 3) C dL_nest_3 rfl rfl ?_
  refine v_iload 4 (pc := 4) C dL_nest_4 rfl ?_
  refine v_callV [.int p1, .int p2, .int p3, .int p4] (pc := 6) (st1 := [.long v]) (c1 := 2) (s1 := 12) C (mX8_nest C.hT hF) kL_66 (by decide) (gX_8 (rfl : kdX 0 = 8)) rfl rfl rfl rfl (Nat.le_of_ble_eq_true rfl) ⟨(Nat.le_of_ble_eq_true rfl), (Nat.le_of_ble_eq_true rfl)⟩ ⟨(Nat.le_of_ble_eq_true rfl), (Nat.le_of_ble_eq_true rfl)⟩ dL_nest_6 rfl rfl ?_
  exact l_lret C hQ dL_nest_9 rfl rfl (Nat.le_of_ble_eq_true rfl) (Nat.le_of_ble_eq_true rfl)
theorem mL_nest_1 {l : Launch} {D : va_G} {cs : Nat → ClassId} {a : Nat → Nat} (hT : l.stackTraces = false) {S : St} {p1 p2 p3 p4 : Int32} {S' : St} (hF : fX8_nest S p1 p2 p3 p4 = some (.inl "java/lang/IndexOutOfBoundsException", S')) : ML l D cs a yL_nest (.codeWith yL_nest cL_nest 6 (some .long) [(0, 9, 10, 27), (0, 9, 16, 14)]) rmL_nest [.ref (a 0), .int p1, .int p2, .int p3, .int p4] S (.long XX) S' := by
  refine ml_entry [(0, .ref (a 0)), (1, .int p1), (2, .int p2), (3, .int p3), (4, .int p4)] hT (by decide +kernel) (Nat.le_of_ble_eq_true rfl) rfl (fun E hEl hED hEk C hQ O => ?_)
  subst hEl
  subst hED
  subst hEk
  refine v_aload_n 0 (pc := 0) C dL_nest_0 rfl rfl ?_
  refine v_iload_n 1 (pc := 1) C dL_nest_1 rfl rfl ?_
  refine v_iload_n 2 (pc := 2) C dL_nest_2 rfl rfl ?_
  refine v_iload_n 3 (pc := 3) C dL_nest_3 rfl rfl ?_
  refine v_iload 4 (pc := 4) C dL_nest_4 rfl ?_
  refine l_callx [.int p1, .int p2, .int p3, .int p4] (pc := 6) (c1 := 2) (s1 := 12) [] ⟨0, 9, 10, 27⟩ [⟨0, 9, 16, 14⟩] C hQ.1 O (mX8_nest C.hT hF) kL_66 (gX_8 (rfl : kdX 0 = 8)) rfl rfl rfl (Nat.le_of_ble_eq_true rfl) ⟨(Nat.le_of_ble_eq_true rfl), (Nat.le_of_ble_eq_true rfl)⟩ ⟨(Nat.le_of_ble_eq_true rfl), (Nat.le_of_ble_eq_true rfl)⟩ dL_nest_6 rfl (fun z hz => absurd hz List.not_mem_nil) rfl (by decide) bw_6_9 (by decide) rfl rfl (fun q => ?_)
  refine v_astore (pc := 10) (loc' := [(5, .ref q), (0, .ref (a 0)), (1, .int p1), (2, .int p2), (3, .int p3), (4, .int p4)]) C dL_nest_10 (by decide) rfl ?_
  refine v_ldc2 (pc := 12) (v := (-9000000000000000 : Int64)) C bw_1_3 dL_nest_12 ?_
  exact l_lret C hQ dL_nest_15 rfl rfl (Nat.le_of_ble_eq_true rfl) (Nat.le_of_ble_eq_true rfl)
theorem mL_nest_2 {l : Launch} {D : va_G} {cs : Nat → ClassId} {a : Nat → Nat} (hT : l.stackTraces = false) {S : St} {p1 p2 p3 p4 : Int32} {S' : St} (hF : fX8_nest S p1 p2 p3 p4 = some (.inl "java/lang/IllegalArgumentException", S')) : ML l D cs a yL_nest (.codeWith yL_nest cL_nest 6 (some .long) [(0, 9, 10, 27), (0, 9, 16, 14)]) rmL_nest [.ref (a 0), .int p1, .int p2, .int p3, .int p4] S (.long XX) S' := by
  refine ml_entry [(0, .ref (a 0)), (1, .int p1), (2, .int p2), (3, .int p3), (4, .int p4)] hT (by decide +kernel) (Nat.le_of_ble_eq_true rfl) rfl (fun E hEl hED hEk C hQ O => ?_)
  subst hEl
  subst hED
  subst hEk
  refine v_aload_n 0 (pc := 0) C dL_nest_0 rfl rfl ?_
  refine v_iload_n 1 (pc := 1) C dL_nest_1 rfl rfl ?_
  refine v_iload_n 2 (pc := 2) C dL_nest_2 rfl rfl ?_
  refine v_iload_n 3 (pc := 3) C dL_nest_3 rfl rfl ?_
  refine v_iload 4 (pc := 4) C dL_nest_4 rfl ?_
  refine l_callx [.int p1, .int p2, .int p3, .int p4] (pc := 6) (c1 := 2) (s1 := 12) [⟨0, 9, 10, 27⟩] ⟨0, 9, 16, 14⟩ [] C hQ.1 O (mX8_nest C.hT hF) kL_66 (gX_8 (rfl : kdX 0 = 8)) rfl rfl rfl (Nat.le_of_ble_eq_true rfl) ⟨(Nat.le_of_ble_eq_true rfl), (Nat.le_of_ble_eq_true rfl)⟩ ⟨(Nat.le_of_ble_eq_true rfl), (Nat.le_of_ble_eq_true rfl)⟩ dL_nest_6 rfl (fun z hz => by
    simp only [List.mem_cons, List.not_mem_nil, or_false] at hz
    rcases hz with rfl
    · exact ⟨by decide, _, bw_6_9, by decide⟩) rfl (by decide) bw_5_10 (by decide) rfl rfl (fun q => ?_)
  refine v_astore (pc := 16) (loc' := [(5, .ref q), (0, .ref (a 0)), (1, .int p1), (2, .int p2), (3, .int p3), (4, .int p4)]) C dL_nest_16 (by decide) rfl ?_
  refine v_ldc2 (pc := 18) (v := (-9000000000000000 : Int64)) C bw_1_3 dL_nest_18 ?_
  exact l_lret C hQ dL_nest_21 rfl rfl (Nat.le_of_ble_eq_true rfl) (Nat.le_of_ble_eq_true rfl)
def fL_nest (S : St) (p1 : Int32) (p2 : Int32) (p3 : Int32) (p4 : Int32) : Option (Int64 × St) := wrp ["java/lang/IndexOutOfBoundsException", "java/lang/IllegalArgumentException"] gL (fX8_nest S p1 p2 p3 p4)
theorem mL_nest {l : Launch} {D : va_G} {cs : Nat → ClassId} {a : Nat → Nat} (hT : l.stackTraces = false) {S : St} {p1 p2 p3 p4 : Int32} {r : Int64} {S' : St} (hF : fL_nest S p1 p2 p3 p4 = some (r, S')) : ML l D cs a yL_nest (.codeWith yL_nest cL_nest 6 (some .long) [(0, 9, 10, 27), (0, 9, 16, 14)]) rmL_nest [.ref (a 0), .int p1, .int p2, .int p3, .int p4] S (.long r) S' := by
  rcases wrp_of hF with ⟨v, h, rfl⟩ | ⟨e, he, h, rfl⟩
  · exact mL_nest_v hT h
  · simp only [List.mem_cons, List.not_mem_nil, or_false] at he
    rcases he with rfl | rfl
    · exact mL_nest_1 hT h
    · exact mL_nest_2 hT h
abbrev rmL_batch : Room := { frames := 9, cells := 3, slots := 18, locals := 210 }
theorem kL_70 : CallVok RL 70 yX8_batch cX8_batch 7 (some .int) 3 := ⟨bw_20_6, bw_20_7, bw_20_8, bw_1_2, bw_20_9, ⟨by decide +kernel, by decide +kernel, by decide +kernel⟩⟩
theorem mL_batch_v {l : Launch} {D : va_G} {cs : Nat → ClassId} {a : Nat → Nat} (hT : l.stackTraces = false) {S : St} {p1 p2 p3 : Int32} {v : Int32} {S' : St} (hF : fX8_batch S p1 p2 p3 = some (.inr v, S')) : ML l D cs a yL_batch (.codeWith yL_batch cL_batch 5 (some .long) [(0, 8, 9, 27), (0, 8, 15, 14), (0, 8, 21, 18)]) rmL_batch [.ref (a 0), .int p1, .int p2, .int p3] S (.long (gI v)) S' := by
  refine ml_entry [(0, .ref (a 0)), (1, .int p1), (2, .int p2), (3, .int p3)] hT (by decide +kernel) (Nat.le_of_ble_eq_true rfl) rfl (fun E hEl hED hEk C hQ O => ?_)
  subst hEl
  subst hED
  subst hEk
  refine v_aload_n 0 (pc := 0) C dL_batch_0 rfl rfl ?_
  refine v_iload_n 1 (pc := 1) C dL_batch_1 rfl rfl ?_
  refine v_iload_n 2 (pc := 2) C dL_batch_2 rfl rfl ?_
  refine v_iload_n 3 (pc := 3) C dL_batch_3 rfl rfl ?_
  refine v_callV [.int p1, .int p2, .int p3] (pc := 4) (st1 := [.int v]) (c1 := 3) (s1 := 18) C (mX8_batch C.hT hF) kL_70 (by decide) (gX_8 (rfl : kdX 0 = 8)) rfl rfl rfl rfl (Nat.le_of_ble_eq_true rfl) ⟨(Nat.le_of_ble_eq_true rfl), (Nat.le_of_ble_eq_true rfl)⟩ ⟨(Nat.le_of_ble_eq_true rfl), (Nat.le_of_ble_eq_true rfl)⟩ dL_batch_4 rfl rfl ?_
  refine v_i2l (pc := 7) C dL_batch_7 ?_
  exact l_lret C hQ dL_batch_8 rfl rfl (Nat.le_of_ble_eq_true rfl) (Nat.le_of_ble_eq_true rfl)
theorem mL_batch_1 {l : Launch} {D : va_G} {cs : Nat → ClassId} {a : Nat → Nat} (hT : l.stackTraces = false) {S : St} {p1 p2 p3 : Int32} {S' : St} (hF : fX8_batch S p1 p2 p3 = some (.inl "java/lang/IndexOutOfBoundsException", S')) : ML l D cs a yL_batch (.codeWith yL_batch cL_batch 5 (some .long) [(0, 8, 9, 27), (0, 8, 15, 14), (0, 8, 21, 18)]) rmL_batch [.ref (a 0), .int p1, .int p2, .int p3] S (.long XX) S' := by
  refine ml_entry [(0, .ref (a 0)), (1, .int p1), (2, .int p2), (3, .int p3)] hT (by decide +kernel) (Nat.le_of_ble_eq_true rfl) rfl (fun E hEl hED hEk C hQ O => ?_)
  subst hEl
  subst hED
  subst hEk
  refine v_aload_n 0 (pc := 0) C dL_batch_0 rfl rfl ?_
  refine v_iload_n 1 (pc := 1) C dL_batch_1 rfl rfl ?_
  refine v_iload_n 2 (pc := 2) C dL_batch_2 rfl rfl ?_
  refine v_iload_n 3 (pc := 3) C dL_batch_3 rfl rfl ?_
  refine l_callx [.int p1, .int p2, .int p3] (pc := 4) (c1 := 3) (s1 := 18) [] ⟨0, 8, 9, 27⟩ [⟨0, 8, 15, 14⟩, ⟨0, 8, 21, 18⟩] C hQ.1 O (mX8_batch C.hT hF) kL_70 (gX_8 (rfl : kdX 0 = 8)) rfl rfl rfl (Nat.le_of_ble_eq_true rfl) ⟨(Nat.le_of_ble_eq_true rfl), (Nat.le_of_ble_eq_true rfl)⟩ ⟨(Nat.le_of_ble_eq_true rfl), (Nat.le_of_ble_eq_true rfl)⟩ dL_batch_4 rfl (fun z hz => absurd hz List.not_mem_nil) rfl (by decide) bw_6_9 (by decide) rfl rfl (fun q => ?_)
  refine v_astore (pc := 9) (loc' := [(4, .ref q), (0, .ref (a 0)), (1, .int p1), (2, .int p2), (3, .int p3)]) C dL_batch_9 (by decide) rfl ?_
  refine v_ldc2 (pc := 11) (v := (-9000000000000000 : Int64)) C bw_1_3 dL_batch_11 ?_
  exact l_lret C hQ dL_batch_14 rfl rfl (Nat.le_of_ble_eq_true rfl) (Nat.le_of_ble_eq_true rfl)
theorem mL_batch_2 {l : Launch} {D : va_G} {cs : Nat → ClassId} {a : Nat → Nat} (hT : l.stackTraces = false) {S : St} {p1 p2 p3 : Int32} {S' : St} (hF : fX8_batch S p1 p2 p3 = some (.inl "java/lang/IllegalArgumentException", S')) : ML l D cs a yL_batch (.codeWith yL_batch cL_batch 5 (some .long) [(0, 8, 9, 27), (0, 8, 15, 14), (0, 8, 21, 18)]) rmL_batch [.ref (a 0), .int p1, .int p2, .int p3] S (.long XX) S' := by
  refine ml_entry [(0, .ref (a 0)), (1, .int p1), (2, .int p2), (3, .int p3)] hT (by decide +kernel) (Nat.le_of_ble_eq_true rfl) rfl (fun E hEl hED hEk C hQ O => ?_)
  subst hEl
  subst hED
  subst hEk
  refine v_aload_n 0 (pc := 0) C dL_batch_0 rfl rfl ?_
  refine v_iload_n 1 (pc := 1) C dL_batch_1 rfl rfl ?_
  refine v_iload_n 2 (pc := 2) C dL_batch_2 rfl rfl ?_
  refine v_iload_n 3 (pc := 3) C dL_batch_3 rfl rfl ?_
  refine l_callx [.int p1, .int p2, .int p3] (pc := 4) (c1 := 3) (s1 := 18) [⟨0, 8, 9, 27⟩] ⟨0, 8, 15, 14⟩ [⟨0, 8, 21, 18⟩] C hQ.1 O (mX8_batch C.hT hF) kL_70 (gX_8 (rfl : kdX 0 = 8)) rfl rfl rfl (Nat.le_of_ble_eq_true rfl) ⟨(Nat.le_of_ble_eq_true rfl), (Nat.le_of_ble_eq_true rfl)⟩ ⟨(Nat.le_of_ble_eq_true rfl), (Nat.le_of_ble_eq_true rfl)⟩ dL_batch_4 rfl (fun z hz => by
    simp only [List.mem_cons, List.not_mem_nil, or_false] at hz
    rcases hz with rfl
    · exact ⟨by decide, _, bw_6_9, by decide⟩) rfl (by decide) bw_5_10 (by decide) rfl rfl (fun q => ?_)
  refine v_astore (pc := 15) (loc' := [(4, .ref q), (0, .ref (a 0)), (1, .int p1), (2, .int p2), (3, .int p3)]) C dL_batch_15 (by decide) rfl ?_
  refine v_ldc2 (pc := 17) (v := (-9000000000000000 : Int64)) C bw_1_3 dL_batch_17 ?_
  exact l_lret C hQ dL_batch_20 rfl rfl (Nat.le_of_ble_eq_true rfl) (Nat.le_of_ble_eq_true rfl)
theorem mL_batch_3 {l : Launch} {D : va_G} {cs : Nat → ClassId} {a : Nat → Nat} (hT : l.stackTraces = false) {S : St} {p1 p2 p3 : Int32} {S' : St} (hF : fX8_batch S p1 p2 p3 = some (.inl "java/lang/IllegalStateException", S')) : ML l D cs a yL_batch (.codeWith yL_batch cL_batch 5 (some .long) [(0, 8, 9, 27), (0, 8, 15, 14), (0, 8, 21, 18)]) rmL_batch [.ref (a 0), .int p1, .int p2, .int p3] S (.long XX) S' := by
  refine ml_entry [(0, .ref (a 0)), (1, .int p1), (2, .int p2), (3, .int p3)] hT (by decide +kernel) (Nat.le_of_ble_eq_true rfl) rfl (fun E hEl hED hEk C hQ O => ?_)
  subst hEl
  subst hED
  subst hEk
  refine v_aload_n 0 (pc := 0) C dL_batch_0 rfl rfl ?_
  refine v_iload_n 1 (pc := 1) C dL_batch_1 rfl rfl ?_
  refine v_iload_n 2 (pc := 2) C dL_batch_2 rfl rfl ?_
  refine v_iload_n 3 (pc := 3) C dL_batch_3 rfl rfl ?_
  refine l_callx [.int p1, .int p2, .int p3] (pc := 4) (c1 := 3) (s1 := 18) [⟨0, 8, 9, 27⟩, ⟨0, 8, 15, 14⟩] ⟨0, 8, 21, 18⟩ [] C hQ.1 O (mX8_batch C.hT hF) kL_70 (gX_8 (rfl : kdX 0 = 8)) rfl rfl rfl (Nat.le_of_ble_eq_true rfl) ⟨(Nat.le_of_ble_eq_true rfl), (Nat.le_of_ble_eq_true rfl)⟩ ⟨(Nat.le_of_ble_eq_true rfl), (Nat.le_of_ble_eq_true rfl)⟩ dL_batch_4 rfl (fun z hz => by
    simp only [List.mem_cons, List.not_mem_nil, or_false] at hz
    rcases hz with rfl | rfl
    · exact ⟨by decide, _, bw_6_9, by decide⟩
    · exact ⟨by decide, _, bw_5_10, by decide⟩) rfl (by decide) bw_5_11 (by decide) rfl rfl (fun q => ?_)
  refine v_astore (pc := 21) (loc' := [(4, .ref q), (0, .ref (a 0)), (1, .int p1), (2, .int p2), (3, .int p3)]) C dL_batch_21 (by decide) rfl ?_
  refine v_ldc2 (pc := 23) (v := (-9000000000000000 : Int64)) C bw_1_3 dL_batch_23 ?_
  exact l_lret C hQ dL_batch_26 rfl rfl (Nat.le_of_ble_eq_true rfl) (Nat.le_of_ble_eq_true rfl)
def fL_batch (S : St) (p1 : Int32) (p2 : Int32) (p3 : Int32) : Option (Int64 × St) := wrp ["java/lang/IndexOutOfBoundsException", "java/lang/IllegalArgumentException", "java/lang/IllegalStateException"] gI (fX8_batch S p1 p2 p3)
theorem mL_batch {l : Launch} {D : va_G} {cs : Nat → ClassId} {a : Nat → Nat} (hT : l.stackTraces = false) {S : St} {p1 p2 p3 : Int32} {r : Int64} {S' : St} (hF : fL_batch S p1 p2 p3 = some (r, S')) : ML l D cs a yL_batch (.codeWith yL_batch cL_batch 5 (some .long) [(0, 8, 9, 27), (0, 8, 15, 14), (0, 8, 21, 18)]) rmL_batch [.ref (a 0), .int p1, .int p2, .int p3] S (.long r) S' := by
  rcases wrp_of hF with ⟨v, h, rfl⟩ | ⟨e, he, h, rfl⟩
  · exact mL_batch_v hT h
  · simp only [List.mem_cons, List.not_mem_nil, or_false] at he
    rcases he with rfl | rfl | rfl
    · exact mL_batch_1 hT h
    · exact mL_batch_2 hT h
    · exact mL_batch_3 hT h
abbrev rmL_work : Room := { frames := 13, cells := 2, slots := 12, locals := 370 }
theorem kL_73 : CallVok RL 73 yX8_work cX8_work 3 (some .int) 1 := ⟨bw_20_13, bw_20_14, bw_20_15, bw_1_2, bw_20_16, ⟨by decide +kernel, by decide +kernel, by decide +kernel⟩⟩
theorem mL_work_v {l : Launch} {D : va_G} {cs : Nat → ClassId} {a : Nat → Nat} (hT : l.stackTraces = false) {S : St} {p1 : Int32} {v : Int32} {S' : St} (hF : fX8_work S p1 = some (.inr v, S')) : ML l D cs a yL_work (.codeWith yL_work cL_work 3 (some .long) [(0, 6, 7, 27), (0, 6, 12, 18)]) rmL_work [.ref (a 0), .int p1] S (.long (gI v)) S' := by
  refine ml_entry [(0, .ref (a 0)), (1, .int p1)] hT (by decide +kernel) (Nat.le_of_ble_eq_true rfl) rfl (fun E hEl hED hEk C hQ O => ?_)
  subst hEl
  subst hED
  subst hEk
  refine v_aload_n 0 (pc := 0) C dL_work_0 rfl rfl ?_
  refine v_iload_n 1 (pc := 1) C dL_work_1 rfl rfl ?_
  refine v_callV [.int p1] (pc := 2) (st1 := [.int v]) (c1 := 2) (s1 := 12) C (mX8_work C.hT hF) kL_73 (by decide) (gX_8 (rfl : kdX 0 = 8)) rfl rfl rfl rfl (Nat.le_of_ble_eq_true rfl) ⟨(Nat.le_of_ble_eq_true rfl), (Nat.le_of_ble_eq_true rfl)⟩ ⟨(Nat.le_of_ble_eq_true rfl), (Nat.le_of_ble_eq_true rfl)⟩ dL_work_2 rfl rfl ?_
  refine v_i2l (pc := 5) C dL_work_5 ?_
  exact l_lret C hQ dL_work_6 rfl rfl (Nat.le_of_ble_eq_true rfl) (Nat.le_of_ble_eq_true rfl)
theorem mL_work_1 {l : Launch} {D : va_G} {cs : Nat → ClassId} {a : Nat → Nat} (hT : l.stackTraces = false) {S : St} {p1 : Int32} {S' : St} (hF : fX8_work S p1 = some (.inl "java/lang/IndexOutOfBoundsException", S')) : ML l D cs a yL_work (.codeWith yL_work cL_work 3 (some .long) [(0, 6, 7, 27), (0, 6, 12, 18)]) rmL_work [.ref (a 0), .int p1] S (.long XX) S' := by
  refine ml_entry [(0, .ref (a 0)), (1, .int p1)] hT (by decide +kernel) (Nat.le_of_ble_eq_true rfl) rfl (fun E hEl hED hEk C hQ O => ?_)
  subst hEl
  subst hED
  subst hEk
  refine v_aload_n 0 (pc := 0) C dL_work_0 rfl rfl ?_
  refine v_iload_n 1 (pc := 1) C dL_work_1 rfl rfl ?_
  refine l_callx [.int p1] (pc := 2) (c1 := 2) (s1 := 12) [] ⟨0, 6, 7, 27⟩ [⟨0, 6, 12, 18⟩] C hQ.1 O (mX8_work C.hT hF) kL_73 (gX_8 (rfl : kdX 0 = 8)) rfl rfl rfl (Nat.le_of_ble_eq_true rfl) ⟨(Nat.le_of_ble_eq_true rfl), (Nat.le_of_ble_eq_true rfl)⟩ ⟨(Nat.le_of_ble_eq_true rfl), (Nat.le_of_ble_eq_true rfl)⟩ dL_work_2 rfl (fun z hz => absurd hz List.not_mem_nil) rfl (by decide) bw_6_9 (by decide) rfl rfl (fun q => ?_)
  refine v_astore_n (pc := 7) (loc' := [(2, .ref q), (0, .ref (a 0)), (1, .int p1)]) C dL_work_7 rfl (by decide) rfl ?_
  refine v_ldc2 (pc := 8) (v := (-9000000000000000 : Int64)) C bw_1_3 dL_work_8 ?_
  exact l_lret C hQ dL_work_11 rfl rfl (Nat.le_of_ble_eq_true rfl) (Nat.le_of_ble_eq_true rfl)
theorem mL_work_2 {l : Launch} {D : va_G} {cs : Nat → ClassId} {a : Nat → Nat} (hT : l.stackTraces = false) {S : St} {p1 : Int32} {S' : St} (hF : fX8_work S p1 = some (.inl "java/lang/IllegalStateException", S')) : ML l D cs a yL_work (.codeWith yL_work cL_work 3 (some .long) [(0, 6, 7, 27), (0, 6, 12, 18)]) rmL_work [.ref (a 0), .int p1] S (.long XX) S' := by
  refine ml_entry [(0, .ref (a 0)), (1, .int p1)] hT (by decide +kernel) (Nat.le_of_ble_eq_true rfl) rfl (fun E hEl hED hEk C hQ O => ?_)
  subst hEl
  subst hED
  subst hEk
  refine v_aload_n 0 (pc := 0) C dL_work_0 rfl rfl ?_
  refine v_iload_n 1 (pc := 1) C dL_work_1 rfl rfl ?_
  refine l_callx [.int p1] (pc := 2) (c1 := 2) (s1 := 12) [⟨0, 6, 7, 27⟩] ⟨0, 6, 12, 18⟩ [] C hQ.1 O (mX8_work C.hT hF) kL_73 (gX_8 (rfl : kdX 0 = 8)) rfl rfl rfl (Nat.le_of_ble_eq_true rfl) ⟨(Nat.le_of_ble_eq_true rfl), (Nat.le_of_ble_eq_true rfl)⟩ ⟨(Nat.le_of_ble_eq_true rfl), (Nat.le_of_ble_eq_true rfl)⟩ dL_work_2 rfl (fun z hz => by
    simp only [List.mem_cons, List.not_mem_nil, or_false] at hz
    rcases hz with rfl
    · exact ⟨by decide, _, bw_6_9, by decide⟩) rfl (by decide) bw_5_11 (by decide) rfl rfl (fun q => ?_)
  refine v_astore_n (pc := 12) (loc' := [(2, .ref q), (0, .ref (a 0)), (1, .int p1)]) C dL_work_12 rfl (by decide) rfl ?_
  refine v_ldc2 (pc := 13) (v := (-9000000000000000 : Int64)) C bw_1_3 dL_work_13 ?_
  exact l_lret C hQ dL_work_16 rfl rfl (Nat.le_of_ble_eq_true rfl) (Nat.le_of_ble_eq_true rfl)
def fL_work (S : St) (p1 : Int32) : Option (Int64 × St) := wrp ["java/lang/IndexOutOfBoundsException", "java/lang/IllegalStateException"] gI (fX8_work S p1)
theorem mL_work {l : Launch} {D : va_G} {cs : Nat → ClassId} {a : Nat → Nat} (hT : l.stackTraces = false) {S : St} {p1 : Int32} {r : Int64} {S' : St} (hF : fL_work S p1 = some (r, S')) : ML l D cs a yL_work (.codeWith yL_work cL_work 3 (some .long) [(0, 6, 7, 27), (0, 6, 12, 18)]) rmL_work [.ref (a 0), .int p1] S (.long r) S' := by
  rcases wrp_of hF with ⟨v, h, rfl⟩ | ⟨e, he, h, rfl⟩
  · exact mL_work_v hT h
  · simp only [List.mem_cons, List.not_mem_nil, or_false] at he
    rcases he with rfl | rfl
    · exact mL_work_1 hT h
    · exact mL_work_2 hT h
abbrev rmL_batchOf : Room := { frames := 9, cells := 2, slots := 12, locals := 210 }
theorem kL_77 : CallVok RL 77 yX8_batchOf cX8_batchOf 4 (some .int) 2 := ⟨bw_21_4, bw_21_5, bw_21_6, bw_1_2, bw_21_7, ⟨by decide +kernel, by decide +kernel, by decide +kernel⟩⟩
theorem mL_batchOf_v {l : Launch} {D : va_G} {cs : Nat → ClassId} {a : Nat → Nat} (hT : l.stackTraces = false) {S : St} {p1 p2 : Int32} {v : Int32} (hF : fX8_batchOf S p1 p2 = some (.inr v)) : ML l D cs a yL_batchOf (.codeWith yL_batchOf cL_batchOf 4 (some .long) [(0, 7, 8, 27), (0, 7, 13, 14)]) rmL_batchOf [.ref (a 0), .int p1, .int p2] S (.long (gI v)) S := by
  refine ml_entry [(0, .ref (a 0)), (1, .int p1), (2, .int p2)] hT (by decide +kernel) (Nat.le_of_ble_eq_true rfl) rfl (fun E hEl hED hEk C hQ O => ?_)
  subst hEl
  subst hED
  subst hEk
  refine v_aload_n 0 (pc := 0) C dL_batchOf_0 rfl rfl ?_
  refine v_iload_n 1 (pc := 1) C dL_batchOf_1 rfl rfl ?_
  refine v_iload_n 2 (pc := 2) C dL_batchOf_2 rfl rfl ?_
  refine v_callV [.int p1, .int p2] (pc := 3) (st1 := [.int v]) (c1 := 2) (s1 := 12) C (mX8_batchOf C.hT hF) kL_77 (by decide) (gX_8 (rfl : kdX 0 = 8)) rfl rfl rfl rfl (Nat.le_of_ble_eq_true rfl) ⟨(Nat.le_of_ble_eq_true rfl), (Nat.le_of_ble_eq_true rfl)⟩ ⟨(Nat.le_of_ble_eq_true rfl), (Nat.le_of_ble_eq_true rfl)⟩ dL_batchOf_3 rfl rfl ?_
  refine v_i2l (pc := 6) C dL_batchOf_6 ?_
  exact l_lret C hQ dL_batchOf_7 rfl rfl (Nat.le_of_ble_eq_true rfl) (Nat.le_of_ble_eq_true rfl)
theorem mL_batchOf_1 {l : Launch} {D : va_G} {cs : Nat → ClassId} {a : Nat → Nat} (hT : l.stackTraces = false) {S : St} {p1 p2 : Int32} (hF : fX8_batchOf S p1 p2 = some (.inl "java/lang/IndexOutOfBoundsException")) : ML l D cs a yL_batchOf (.codeWith yL_batchOf cL_batchOf 4 (some .long) [(0, 7, 8, 27), (0, 7, 13, 14)]) rmL_batchOf [.ref (a 0), .int p1, .int p2] S (.long XX) S := by
  refine ml_entry [(0, .ref (a 0)), (1, .int p1), (2, .int p2)] hT (by decide +kernel) (Nat.le_of_ble_eq_true rfl) rfl (fun E hEl hED hEk C hQ O => ?_)
  subst hEl
  subst hED
  subst hEk
  refine v_aload_n 0 (pc := 0) C dL_batchOf_0 rfl rfl ?_
  refine v_iload_n 1 (pc := 1) C dL_batchOf_1 rfl rfl ?_
  refine v_iload_n 2 (pc := 2) C dL_batchOf_2 rfl rfl ?_
  refine l_callx [.int p1, .int p2] (pc := 3) (c1 := 2) (s1 := 12) [] ⟨0, 7, 8, 27⟩ [⟨0, 7, 13, 14⟩] C hQ.1 O (mX8_batchOf C.hT hF) kL_77 (gX_8 (rfl : kdX 0 = 8)) rfl rfl rfl (Nat.le_of_ble_eq_true rfl) ⟨(Nat.le_of_ble_eq_true rfl), (Nat.le_of_ble_eq_true rfl)⟩ ⟨(Nat.le_of_ble_eq_true rfl), (Nat.le_of_ble_eq_true rfl)⟩ dL_batchOf_3 rfl (fun z hz => absurd hz List.not_mem_nil) rfl (by decide) bw_6_9 (by decide) rfl rfl (fun q => ?_)
  refine v_astore_n (pc := 8) (loc' := [(3, .ref q), (0, .ref (a 0)), (1, .int p1), (2, .int p2)]) C dL_batchOf_8 rfl (by decide) rfl ?_
  refine v_ldc2 (pc := 9) (v := (-9000000000000000 : Int64)) C bw_1_3 dL_batchOf_9 ?_
  exact l_lret C hQ dL_batchOf_12 rfl rfl (Nat.le_of_ble_eq_true rfl) (Nat.le_of_ble_eq_true rfl)
theorem mL_batchOf_2 {l : Launch} {D : va_G} {cs : Nat → ClassId} {a : Nat → Nat} (hT : l.stackTraces = false) {S : St} {p1 p2 : Int32} (hF : fX8_batchOf S p1 p2 = some (.inl "java/lang/IllegalArgumentException")) : ML l D cs a yL_batchOf (.codeWith yL_batchOf cL_batchOf 4 (some .long) [(0, 7, 8, 27), (0, 7, 13, 14)]) rmL_batchOf [.ref (a 0), .int p1, .int p2] S (.long XX) S := by
  refine ml_entry [(0, .ref (a 0)), (1, .int p1), (2, .int p2)] hT (by decide +kernel) (Nat.le_of_ble_eq_true rfl) rfl (fun E hEl hED hEk C hQ O => ?_)
  subst hEl
  subst hED
  subst hEk
  refine v_aload_n 0 (pc := 0) C dL_batchOf_0 rfl rfl ?_
  refine v_iload_n 1 (pc := 1) C dL_batchOf_1 rfl rfl ?_
  refine v_iload_n 2 (pc := 2) C dL_batchOf_2 rfl rfl ?_
  refine l_callx [.int p1, .int p2] (pc := 3) (c1 := 2) (s1 := 12) [⟨0, 7, 8, 27⟩] ⟨0, 7, 13, 14⟩ [] C hQ.1 O (mX8_batchOf C.hT hF) kL_77 (gX_8 (rfl : kdX 0 = 8)) rfl rfl rfl (Nat.le_of_ble_eq_true rfl) ⟨(Nat.le_of_ble_eq_true rfl), (Nat.le_of_ble_eq_true rfl)⟩ ⟨(Nat.le_of_ble_eq_true rfl), (Nat.le_of_ble_eq_true rfl)⟩ dL_batchOf_3 rfl (fun z hz => by
    simp only [List.mem_cons, List.not_mem_nil, or_false] at hz
    rcases hz with rfl
    · exact ⟨by decide, _, bw_6_9, by decide⟩) rfl (by decide) bw_5_10 (by decide) rfl rfl (fun q => ?_)
  refine v_astore_n (pc := 13) (loc' := [(3, .ref q), (0, .ref (a 0)), (1, .int p1), (2, .int p2)]) C dL_batchOf_13 rfl (by decide) rfl ?_
  refine v_ldc2 (pc := 14) (v := (-9000000000000000 : Int64)) C bw_1_3 dL_batchOf_14 ?_
  exact l_lret C hQ dL_batchOf_17 rfl rfl (Nat.le_of_ble_eq_true rfl) (Nat.le_of_ble_eq_true rfl)
def fL_batchOf (S : St) (p1 : Int32) (p2 : Int32) : Option (Int64 × St) := wrp ["java/lang/IndexOutOfBoundsException", "java/lang/IllegalArgumentException"] gI (onS S (fX8_batchOf S p1 p2))
theorem mL_batchOf {l : Launch} {D : va_G} {cs : Nat → ClassId} {a : Nat → Nat} (hT : l.stackTraces = false) {S : St} {p1 p2 : Int32} {r : Int64} {S' : St} (hF : fL_batchOf S p1 p2 = some (r, S')) : ML l D cs a yL_batchOf (.codeWith yL_batchOf cL_batchOf 4 (some .long) [(0, 7, 8, 27), (0, 7, 13, 14)]) rmL_batchOf [.ref (a 0), .int p1, .int p2] S (.long r) S' := by
  rcases wrp_of hF with ⟨v, h, rfl⟩ | ⟨e, he, h, rfl⟩
  · obtain ⟨h, rfl⟩ := onS_some h
    exact mL_batchOf_v hT h
  · obtain ⟨h, rfl⟩ := onS_some h
    simp only [List.mem_cons, List.not_mem_nil, or_false] at he
    rcases he with rfl | rfl
    · exact mL_batchOf_1 hT h
    · exact mL_batchOf_2 hT h
abbrev rmL_kits : Room := { frames := 9, cells := 1, slots := 6, locals := 210 }
theorem kL_80 : CallVok RL 80 yX8_kits cX8_kits 2 (some .int) 1 := ⟨bw_21_11, bw_21_12, bw_21_13, bw_1_2, bw_21_14, ⟨by decide +kernel, by decide +kernel, by decide +kernel⟩⟩
theorem mL_kits_v {l : Launch} {D : va_G} {cs : Nat → ClassId} {a : Nat → Nat} (hT : l.stackTraces = false) {S : St} {p1 : Int32} {v : Int32} (hF : fX8_kits S p1 = some (.inr v)) : ML l D cs a yL_kits (.codeWith yL_kits cL_kits 3 (some .long) [(0, 6, 7, 14)]) rmL_kits [.ref (a 0), .int p1] S (.long (gI v)) S := by
  refine ml_entry [(0, .ref (a 0)), (1, .int p1)] hT (by decide +kernel) (Nat.le_of_ble_eq_true rfl) rfl (fun E hEl hED hEk C hQ O => ?_)
  subst hEl
  subst hED
  subst hEk
  refine v_aload_n 0 (pc := 0) C dL_kits_0 rfl rfl ?_
  refine v_iload_n 1 (pc := 1) C dL_kits_1 rfl rfl ?_
  refine v_callV [.int p1] (pc := 2) (st1 := [.int v]) (c1 := 1) (s1 := 6) C (mX8_kits C.hT hF) kL_80 (by decide) (gX_8 (rfl : kdX 0 = 8)) rfl rfl rfl rfl (Nat.le_of_ble_eq_true rfl) ⟨(Nat.le_of_ble_eq_true rfl), (Nat.le_of_ble_eq_true rfl)⟩ ⟨(Nat.le_of_ble_eq_true rfl), (Nat.le_of_ble_eq_true rfl)⟩ dL_kits_2 rfl rfl ?_
  refine v_i2l (pc := 5) C dL_kits_5 ?_
  exact l_lret C hQ dL_kits_6 rfl rfl (Nat.le_of_ble_eq_true rfl) (Nat.le_of_ble_eq_true rfl)
theorem mL_kits_1 {l : Launch} {D : va_G} {cs : Nat → ClassId} {a : Nat → Nat} (hT : l.stackTraces = false) {S : St} {p1 : Int32} (hF : fX8_kits S p1 = some (.inl "java/lang/IllegalArgumentException")) : ML l D cs a yL_kits (.codeWith yL_kits cL_kits 3 (some .long) [(0, 6, 7, 14)]) rmL_kits [.ref (a 0), .int p1] S (.long XX) S := by
  refine ml_entry [(0, .ref (a 0)), (1, .int p1)] hT (by decide +kernel) (Nat.le_of_ble_eq_true rfl) rfl (fun E hEl hED hEk C hQ O => ?_)
  subst hEl
  subst hED
  subst hEk
  refine v_aload_n 0 (pc := 0) C dL_kits_0 rfl rfl ?_
  refine v_iload_n 1 (pc := 1) C dL_kits_1 rfl rfl ?_
  refine l_callx [.int p1] (pc := 2) (c1 := 1) (s1 := 6) [] ⟨0, 6, 7, 14⟩ [] C hQ.1 O (mX8_kits C.hT hF) kL_80 (gX_8 (rfl : kdX 0 = 8)) rfl rfl rfl (Nat.le_of_ble_eq_true rfl) ⟨(Nat.le_of_ble_eq_true rfl), (Nat.le_of_ble_eq_true rfl)⟩ ⟨(Nat.le_of_ble_eq_true rfl), (Nat.le_of_ble_eq_true rfl)⟩ dL_kits_2 rfl (fun z hz => absurd hz List.not_mem_nil) rfl (by decide) bw_5_10 (by decide) rfl rfl (fun q => ?_)
  refine v_astore_n (pc := 7) (loc' := [(2, .ref q), (0, .ref (a 0)), (1, .int p1)]) C dL_kits_7 rfl (by decide) rfl ?_
  refine v_ldc2 (pc := 8) (v := (-9000000000000000 : Int64)) C bw_1_3 dL_kits_8 ?_
  exact l_lret C hQ dL_kits_11 rfl rfl (Nat.le_of_ble_eq_true rfl) (Nat.le_of_ble_eq_true rfl)
def fL_kits (S : St) (p1 : Int32) : Option (Int64 × St) := wrp ["java/lang/IllegalArgumentException"] gI (onS S (fX8_kits S p1))
theorem mL_kits {l : Launch} {D : va_G} {cs : Nat → ClassId} {a : Nat → Nat} (hT : l.stackTraces = false) {S : St} {p1 : Int32} {r : Int64} {S' : St} (hF : fL_kits S p1 = some (r, S')) : ML l D cs a yL_kits (.codeWith yL_kits cL_kits 3 (some .long) [(0, 6, 7, 14)]) rmL_kits [.ref (a 0), .int p1] S (.long r) S' := by
  rcases wrp_of hF with ⟨v, h, rfl⟩ | ⟨e, he, h, rfl⟩
  · obtain ⟨h, rfl⟩ := onS_some h
    exact mL_kits_v hT h
  · obtain ⟨h, rfl⟩ := onS_some h
    simp only [List.mem_cons, List.not_mem_nil, or_false] at he
    rcases he with rfl
    · exact mL_kits_1 hT h
abbrev rmL_take : Room := { frames := 9, cells := 2, slots := 12, locals := 210 }
theorem kL_83 : CallVok RL 83 yX8_take cX8_take 5 (some .int) 2 := ⟨bw_22_6, bw_22_7, bw_22_8, bw_1_2, bw_22_9, ⟨by decide +kernel, by decide +kernel, by decide +kernel⟩⟩
theorem mL_take_v {l : Launch} {D : va_G} {cs : Nat → ClassId} {a : Nat → Nat} (hT : l.stackTraces = false) {S : St} {p1 p2 : Int32} {v : Int32} {S' : St} (hF : fX8_take S p1 p2 = some (.inr v, S')) : ML l D cs a yL_take (.codeWith yL_take cL_take 4 (some .long) [(0, 7, 8, 14), (0, 7, 13, 18)]) rmL_take [.ref (a 0), .int p1, .int p2] S (.long (gI v)) S' := by
  refine ml_entry [(0, .ref (a 0)), (1, .int p1), (2, .int p2)] hT (by decide +kernel) (Nat.le_of_ble_eq_true rfl) rfl (fun E hEl hED hEk C hQ O => ?_)
  subst hEl
  subst hED
  subst hEk
  refine v_aload_n 0 (pc := 0) C dL_take_0 rfl rfl ?_
  refine v_iload_n 1 (pc := 1) C dL_take_1 rfl rfl ?_
  refine v_iload_n 2 (pc := 2) C dL_take_2 rfl rfl ?_
  refine v_callV [.int p1, .int p2] (pc := 3) (st1 := [.int v]) (c1 := 2) (s1 := 12) C (mX8_take C.hT hF) kL_83 (by decide) (gX_8 (rfl : kdX 0 = 8)) rfl rfl rfl rfl (Nat.le_of_ble_eq_true rfl) ⟨(Nat.le_of_ble_eq_true rfl), (Nat.le_of_ble_eq_true rfl)⟩ ⟨(Nat.le_of_ble_eq_true rfl), (Nat.le_of_ble_eq_true rfl)⟩ dL_take_3 rfl rfl ?_
  refine v_i2l (pc := 6) C dL_take_6 ?_
  exact l_lret C hQ dL_take_7 rfl rfl (Nat.le_of_ble_eq_true rfl) (Nat.le_of_ble_eq_true rfl)
theorem mL_take_1 {l : Launch} {D : va_G} {cs : Nat → ClassId} {a : Nat → Nat} (hT : l.stackTraces = false) {S : St} {p1 p2 : Int32} {S' : St} (hF : fX8_take S p1 p2 = some (.inl "java/lang/IllegalArgumentException", S')) : ML l D cs a yL_take (.codeWith yL_take cL_take 4 (some .long) [(0, 7, 8, 14), (0, 7, 13, 18)]) rmL_take [.ref (a 0), .int p1, .int p2] S (.long XX) S' := by
  refine ml_entry [(0, .ref (a 0)), (1, .int p1), (2, .int p2)] hT (by decide +kernel) (Nat.le_of_ble_eq_true rfl) rfl (fun E hEl hED hEk C hQ O => ?_)
  subst hEl
  subst hED
  subst hEk
  refine v_aload_n 0 (pc := 0) C dL_take_0 rfl rfl ?_
  refine v_iload_n 1 (pc := 1) C dL_take_1 rfl rfl ?_
  refine v_iload_n 2 (pc := 2) C dL_take_2 rfl rfl ?_
  refine l_callx [.int p1, .int p2] (pc := 3) (c1 := 2) (s1 := 12) [] ⟨0, 7, 8, 14⟩ [⟨0, 7, 13, 18⟩] C hQ.1 O (mX8_take C.hT hF) kL_83 (gX_8 (rfl : kdX 0 = 8)) rfl rfl rfl (Nat.le_of_ble_eq_true rfl) ⟨(Nat.le_of_ble_eq_true rfl), (Nat.le_of_ble_eq_true rfl)⟩ ⟨(Nat.le_of_ble_eq_true rfl), (Nat.le_of_ble_eq_true rfl)⟩ dL_take_3 rfl (fun z hz => absurd hz List.not_mem_nil) rfl (by decide) bw_5_10 (by decide) rfl rfl (fun q => ?_)
  refine v_astore_n (pc := 8) (loc' := [(3, .ref q), (0, .ref (a 0)), (1, .int p1), (2, .int p2)]) C dL_take_8 rfl (by decide) rfl ?_
  refine v_ldc2 (pc := 9) (v := (-9000000000000000 : Int64)) C bw_1_3 dL_take_9 ?_
  exact l_lret C hQ dL_take_12 rfl rfl (Nat.le_of_ble_eq_true rfl) (Nat.le_of_ble_eq_true rfl)
theorem mL_take_2 {l : Launch} {D : va_G} {cs : Nat → ClassId} {a : Nat → Nat} (hT : l.stackTraces = false) {S : St} {p1 p2 : Int32} {S' : St} (hF : fX8_take S p1 p2 = some (.inl "java/lang/IllegalStateException", S')) : ML l D cs a yL_take (.codeWith yL_take cL_take 4 (some .long) [(0, 7, 8, 14), (0, 7, 13, 18)]) rmL_take [.ref (a 0), .int p1, .int p2] S (.long XX) S' := by
  refine ml_entry [(0, .ref (a 0)), (1, .int p1), (2, .int p2)] hT (by decide +kernel) (Nat.le_of_ble_eq_true rfl) rfl (fun E hEl hED hEk C hQ O => ?_)
  subst hEl
  subst hED
  subst hEk
  refine v_aload_n 0 (pc := 0) C dL_take_0 rfl rfl ?_
  refine v_iload_n 1 (pc := 1) C dL_take_1 rfl rfl ?_
  refine v_iload_n 2 (pc := 2) C dL_take_2 rfl rfl ?_
  refine l_callx [.int p1, .int p2] (pc := 3) (c1 := 2) (s1 := 12) [⟨0, 7, 8, 14⟩] ⟨0, 7, 13, 18⟩ [] C hQ.1 O (mX8_take C.hT hF) kL_83 (gX_8 (rfl : kdX 0 = 8)) rfl rfl rfl (Nat.le_of_ble_eq_true rfl) ⟨(Nat.le_of_ble_eq_true rfl), (Nat.le_of_ble_eq_true rfl)⟩ ⟨(Nat.le_of_ble_eq_true rfl), (Nat.le_of_ble_eq_true rfl)⟩ dL_take_3 rfl (fun z hz => by
    simp only [List.mem_cons, List.not_mem_nil, or_false] at hz
    rcases hz with rfl
    · exact ⟨by decide, _, bw_5_10, by decide⟩) rfl (by decide) bw_5_11 (by decide) rfl rfl (fun q => ?_)
  refine v_astore_n (pc := 13) (loc' := [(3, .ref q), (0, .ref (a 0)), (1, .int p1), (2, .int p2)]) C dL_take_13 rfl (by decide) rfl ?_
  refine v_ldc2 (pc := 14) (v := (-9000000000000000 : Int64)) C bw_1_3 dL_take_14 ?_
  exact l_lret C hQ dL_take_17 rfl rfl (Nat.le_of_ble_eq_true rfl) (Nat.le_of_ble_eq_true rfl)
def fL_take (S : St) (p1 : Int32) (p2 : Int32) : Option (Int64 × St) := wrp ["java/lang/IllegalArgumentException", "java/lang/IllegalStateException"] gI (fX8_take S p1 p2)
theorem mL_take {l : Launch} {D : va_G} {cs : Nat → ClassId} {a : Nat → Nat} (hT : l.stackTraces = false) {S : St} {p1 p2 : Int32} {r : Int64} {S' : St} (hF : fL_take S p1 p2 = some (r, S')) : ML l D cs a yL_take (.codeWith yL_take cL_take 4 (some .long) [(0, 7, 8, 14), (0, 7, 13, 18)]) rmL_take [.ref (a 0), .int p1, .int p2] S (.long r) S' := by
  rcases wrp_of hF with ⟨v, h, rfl⟩ | ⟨e, he, h, rfl⟩
  · exact mL_take_v hT h
  · simp only [List.mem_cons, List.not_mem_nil, or_false] at he
    rcases he with rfl | rfl
    · exact mL_take_1 hT h
    · exact mL_take_2 hT h
