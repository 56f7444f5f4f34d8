/-! ===== the wrappers ===== -/
theorem vi_01 : vp_in 0 1 := (by decide : ¬ ((0 : Int32) < 0 ∨ 1 ≤ (0 : Int32).toNatClampNeg))
abbrev rmL_face : Room := { frames := 8, cells := 1, slots := 6, locals := 170 }
theorem kL_7 : CallVok RL 7 yX8_face cX8_face 3 (some .int) 2 := ⟨bw_6_17, bw_6_18, bw_6_19, bw_1_2, bw_6_20, ⟨by decide +kernel, by decide +kernel, by decide +kernel⟩⟩
theorem mL_face_v {l : Launch} {D : va_G} {cs : Nat → ClassId} {a : Nat → Nat} {ao : Nat} (hT : l.stackTraces = false) {S : St} {f : Nat → Int64} {p1 p2 : Int32} {v : Int32} {S' : St} (hF : fX8_face S p1 p2 = some (.inr v, S')) : MO l D cs a ao yL_face cL_face 5 [(0, 10, 13, 13), (0, 10, 17, 15)] rmL_face [.ref (a 0), .int p1, .int p2, .ref ao] S f 0 S' (vp_updL f (0 : Int32).toNatClampNeg v.toInt64) := by
  refine mo_entry [(0, .ref (a 0)), (1, .int p1), (2, .int p2), (3, .ref ao)] hT (by decide +kernel) (Nat.le_of_ble_eq_true rfl) rfl (fun E hEl hED hEk C O => ?_)
  subst hEl
  subst hED
  subst hEk
  refine v_aload_n 3 (pc := 0) C dL_face_0 rfl rfl ?_
  refine v_iconst (pc := 1) (v := (0 : Int32)) C dL_face_1 (by decide) ?_
  refine v_aload_n 0 (pc := 2) C dL_face_2 rfl rfl ?_
  refine v_iload_n 1 (pc := 3) C dL_face_3 rfl rfl ?_
  refine v_iload_n 2 (pc := 4) C dL_face_4 rfl rfl ?_
  refine v_callO [.int p1, .int p2] (pc := 5) (st1 := [.int v, .int 0, .ref ao]) (c1 := 1) (s1 := 6) C O.2.2.1 (mX8_face C.hT hF) kL_7 (gX_8 (rfl : kdX 0 = 8)) rfl rfl rfl rfl (Nat.le_of_ble_eq_true rfl) ⟨(Nat.le_of_ble_eq_true rfl), (Nat.le_of_ble_eq_true rfl)⟩ ⟨(Nat.le_of_ble_eq_true rfl), (Nat.le_of_ble_eq_true rfl)⟩ dL_face_5 rfl rfl ?_
  refine v_i2l (pc := 8) C dL_face_8 ?_
  refine v_last (pc := 9) C O.2.2.1 vi_01 dL_face_9 ?_
  refine v_goto 21 (pc := 10) C dL_face_10 (by decide) ?_
  refine v_iconst (pc := 21) (v := (0 : Int32)) C dL_face_21 (by decide) ?_
  exact v_oret C O dL_face_22 rfl rfl (Nat.le_of_ble_eq_true rfl) (Nat.le_of_ble_eq_true rfl)
theorem mL_face_1 {l : Launch} {D : va_G} {cs : Nat → ClassId} {a : Nat → Nat} {ao : Nat} (hT : l.stackTraces = false) {S : St} {f : Nat → Int64} {p1 p2 : Int32} {S' : St} (hF : fX8_face S p1 p2 = some (.inl "java/lang/IllegalArgumentException", S')) : MO l D cs a ao yL_face cL_face 5 [(0, 10, 13, 13), (0, 10, 17, 15)] rmL_face [.ref (a 0), .int p1, .int p2, .ref ao] S f 1 S' f := by
  refine mo_entry [(0, .ref (a 0)), (1, .int p1), (2, .int p2), (3, .ref ao)] hT (by decide +kernel) (Nat.le_of_ble_eq_true rfl) rfl (fun E hEl hED hEk C O => ?_)
  subst hEl
  subst hED
  subst hEk
  refine v_aload_n 3 (pc := 0) C dL_face_0 rfl rfl ?_
  refine v_iconst (pc := 1) (v := (0 : Int32)) C dL_face_1 (by decide) ?_
  refine v_aload_n 0 (pc := 2) C dL_face_2 rfl rfl ?_
  refine v_iload_n 1 (pc := 3) C dL_face_3 rfl rfl ?_
  refine v_iload_n 2 (pc := 4) C dL_face_4 rfl rfl ?_
  refine v_callOx [.int p1, .int p2] (pc := 5) (c1 := 1) (s1 := 6) [] ⟨0, 10, 13, 13⟩ [⟨0, 10, 17, 15⟩] C O (mX8_face C.hT hF) kL_7 (gX_8 (rfl : kdX 0 = 8)) rfl rfl rfl (Nat.le_of_ble_eq_true rfl) ⟨(Nat.le_of_ble_eq_true rfl), (Nat.le_of_ble_eq_true rfl)⟩ ⟨(Nat.le_of_ble_eq_true rfl), (Nat.le_of_ble_eq_true rfl)⟩ dL_face_5 rfl (fun z hz => absurd hz List.not_mem_nil) rfl (by decide) bw_6_15 (by decide) rfl rfl (fun q => ?_)
  refine v_astore (pc := 13) (loc' := [(4, .ref q), (0, .ref (a 0)), (1, .int p1), (2, .int p2), (3, .ref ao)]) C dL_face_13 (by decide) rfl ?_
  refine v_iconst (pc := 15) (v := (1 : Int32)) C dL_face_15 (by decide) ?_
  exact v_oret C O dL_face_16 rfl rfl (Nat.le_of_ble_eq_true rfl) (Nat.le_of_ble_eq_true rfl)
theorem mL_face_2 {l : Launch} {D : va_G} {cs : Nat → ClassId} {a : Nat → Nat} {ao : Nat} (hT : l.stackTraces = false) {S : St} {f : Nat → Int64} {p1 p2 : Int32} {S' : St} (hF : fX8_face S p1 p2 = some (.inl "java/lang/IllegalStateException", S')) : MO l D cs a ao yL_face cL_face 5 [(0, 10, 13, 13), (0, 10, 17, 15)] rmL_face [.ref (a 0), .int p1, .int p2, .ref ao] S f 2 S' f := by
  refine mo_entry [(0, .ref (a 0)), (1, .int p1), (2, .int p2), (3, .ref ao)] hT (by decide +kernel) (Nat.le_of_ble_eq_true rfl) rfl (fun E hEl hED hEk C O => ?_)
  subst hEl
  subst hED
  subst hEk
  refine v_aload_n 3 (pc := 0) C dL_face_0 rfl rfl ?_
  refine v_iconst (pc := 1) (v := (0 : Int32)) C dL_face_1 (by decide) ?_
  refine v_aload_n 0 (pc := 2) C dL_face_2 rfl rfl ?_
  refine v_iload_n 1 (pc := 3) C dL_face_3 rfl rfl ?_
  refine v_iload_n 2 (pc := 4) C dL_face_4 rfl rfl ?_
  refine v_callOx [.int p1, .int p2] (pc := 5) (c1 := 1) (s1 := 6) [⟨0, 10, 13, 13⟩] ⟨0, 10, 17, 15⟩ [] C O (mX8_face C.hT hF) kL_7 (gX_8 (rfl : kdX 0 = 8)) rfl rfl rfl (Nat.le_of_ble_eq_true rfl) ⟨(Nat.le_of_ble_eq_true rfl), (Nat.le_of_ble_eq_true rfl)⟩ ⟨(Nat.le_of_ble_eq_true rfl), (Nat.le_of_ble_eq_true rfl)⟩ dL_face_5 rfl (fun z hz => by
    simp only [List.mem_cons, List.not_mem_nil, or_false] at hz
    rcases hz with rfl
    · exact ⟨by decide, _, bw_6_15, by decide⟩) rfl (by decide) bw_6_16 (by decide) rfl rfl (fun q => ?_)
  refine v_astore (pc := 17) (loc' := [(4, .ref q), (0, .ref (a 0)), (1, .int p1), (2, .int p2), (3, .ref ao)]) C dL_face_17 (by decide) rfl ?_
  refine v_iconst (pc := 19) (v := (2 : Int32)) C dL_face_19 (by decide) ?_
  exact v_oret C O dL_face_20 rfl rfl (Nat.le_of_ble_eq_true rfl) (Nat.le_of_ble_eq_true rfl)
abbrev rmL_part : Room := { frames := 9, cells := 3, slots := 18, locals := 210 }
theorem kL_17 : CallVok RL 17 yX8_part cX8_part 3 (some .int) 2 := ⟨bw_8_11, bw_8_12, bw_8_13, bw_1_2, bw_8_14, ⟨by decide +kernel, by decide +kernel, by decide +kernel⟩⟩
theorem mL_part_v {l : Launch} {D : va_G} {cs : Nat → ClassId} {a : Nat → Nat} {ao : Nat} (hT : l.stackTraces = false) {S : St} {f : Nat → Int64} {p1 p2 : Int32} {v : Int32} {S' : St} (hF : fX8_part S p1 p2 = some (.inr v, S')) : MO l D cs a ao yL_part cL_part 5 [(0, 10, 13, 13), (0, 10, 17, 15)] rmL_part [.ref (a 0), .int p1, .int p2, .ref ao] S f 0 S' (vp_updL f (0 : Int32).toNatClampNeg v.toInt64) := by
  refine mo_entry [(0, .ref (a 0)), (1, .int p1), (2, .int p2), (3, .ref ao)] hT (by decide +kernel) (Nat.le_of_ble_eq_true rfl) rfl (fun E hEl hED hEk C O => ?_)
  subst hEl
  subst hED
  subst hEk
  refine v_aload_n 3 (pc := 0) C dL_part_0 rfl rfl ?_
  refine v_iconst (pc := 1) (v := (0 : Int32)) C dL_part_1 (by decide) ?_
  refine v_aload_n 0 (pc := 2) C dL_part_2 rfl rfl ?_
  refine v_iload_n 1 (pc := 3) C dL_part_3 rfl rfl ?_
  refine v_iload_n 2 (pc := 4) C dL_part_4 rfl rfl ?_
  refine v_callO [.int p1, .int p2] (pc := 5) (st1 := [.int v, .int 0, .ref ao]) (c1 := 3) (s1 := 18) C O.2.2.1 (mX8_part C.hT hF) kL_17 (gX_8 (rfl : kdX 0 = 8)) rfl rfl rfl rfl (Nat.le_of_ble_eq_true rfl) ⟨(Nat.le_of_ble_eq_true rfl), (Nat.le_of_ble_eq_true rfl)⟩ ⟨(Nat.le_of_ble_eq_true rfl), (Nat.le_of_ble_eq_true rfl)⟩ dL_part_5 rfl rfl ?_
  refine v_i2l (pc := 8) C dL_part_8 ?_
  refine v_last (pc := 9) C O.2.2.1 vi_01 dL_part_9 ?_
  refine v_goto 21 (pc := 10) C dL_part_10 (by decide) ?_
  refine v_iconst (pc := 21) (v := (0 : Int32)) C dL_part_21 (by decide) ?_
  exact v_oret C O dL_part_22 rfl rfl (Nat.le_of_ble_eq_true rfl) (Nat.le_of_ble_eq_true rfl)
theorem mL_part_1 {l : Launch} {D : va_G} {cs : Nat → ClassId} {a : Nat → Nat} {ao : Nat} (hT : l.stackTraces = false) {S : St} {f : Nat → Int64} {p1 p2 : Int32} {S' : St} (hF : fX8_part S p1 p2 = some (.inl "java/lang/IllegalArgumentException", S')) : MO l D cs a ao yL_part cL_part 5 [(0, 10, 13, 13), (0, 10, 17, 15)] rmL_part [.ref (a 0), .int p1, .int p2, .ref ao] S f 1 S' f := by
  refine mo_entry [(0, .ref (a 0)), (1, .int p1), (2, .int p2), (3, .ref ao)] hT (by decide +kernel) (Nat.le_of_ble_eq_true rfl) rfl (fun E hEl hED hEk C O => ?_)
  subst hEl
  subst hED
  subst hEk
  refine v_aload_n 3 (pc := 0) C dL_part_0 rfl rfl ?_
  refine v_iconst (pc := 1) (v := (0 : Int32)) C dL_part_1 (by decide) ?_
  refine v_aload_n 0 (pc := 2) C dL_part_2 rfl rfl ?_
  refine v_iload_n 1 (pc := 3) C dL_part_3 rfl rfl ?_
  refine v_iload_n 2 (pc := 4) C dL_part_4 rfl rfl ?_
  refine v_callOx [.int p1, .int p2] (pc := 5) (c1 := 3) (s1 := 18) [] ⟨0, 10, 13, 13⟩ [⟨0, 10, 17, 15⟩] C O (mX8_part C.hT hF) kL_17 (gX_8 (rfl : kdX 0 = 8)) rfl rfl rfl (Nat.le_of_ble_eq_true rfl) ⟨(Nat.le_of_ble_eq_true rfl), (Nat.le_of_ble_eq_true rfl)⟩ ⟨(Nat.le_of_ble_eq_true rfl), (Nat.le_of_ble_eq_true rfl)⟩ dL_part_5 rfl (fun z hz => absurd hz List.not_mem_nil) rfl (by decide) bw_6_15 (by decide) rfl rfl (fun q => ?_)
  refine v_astore (pc := 13) (loc' := [(4, .ref q), (0, .ref (a 0)), (1, .int p1), (2, .int p2), (3, .ref ao)]) C dL_part_13 (by decide) rfl ?_
  refine v_iconst (pc := 15) (v := (1 : Int32)) C dL_part_15 (by decide) ?_
  exact v_oret C O dL_part_16 rfl rfl (Nat.le_of_ble_eq_true rfl) (Nat.le_of_ble_eq_true rfl)
theorem mL_part_2 {l : Launch} {D : va_G} {cs : Nat → ClassId} {a : Nat → Nat} {ao : Nat} (hT : l.stackTraces = false) {S : St} {f : Nat → Int64} {p1 p2 : Int32} {S' : St} (hF : fX8_part S p1 p2 = some (.inl "java/lang/IllegalStateException", S')) : MO l D cs a ao yL_part cL_part 5 [(0, 10, 13, 13), (0, 10, 17, 15)] rmL_part [.ref (a 0), .int p1, .int p2, .ref ao] S f 2 S' f := by
  refine mo_entry [(0, .ref (a 0)), (1, .int p1), (2, .int p2), (3, .ref ao)] hT (by decide +kernel) (Nat.le_of_ble_eq_true rfl) rfl (fun E hEl hED hEk C O => ?_)
  subst hEl
  subst hED
  subst hEk
  refine v_aload_n 3 (pc := 0) C dL_part_0 rfl rfl ?_
  refine v_iconst (pc := 1) (v := (0 : Int32)) C dL_part_1 (by decide) ?_
  refine v_aload_n 0 (pc := 2) C dL_part_2 rfl rfl ?_
  refine v_iload_n 1 (pc := 3) C dL_part_3 rfl rfl ?_
  refine v_iload_n 2 (pc := 4) C dL_part_4 rfl rfl ?_
  refine v_callOx [.int p1, .int p2] (pc := 5) (c1 := 3) (s1 := 18) [⟨0, 10, 13, 13⟩] ⟨0, 10, 17, 15⟩ [] C O (mX8_part C.hT hF) kL_17 (gX_8 (rfl : kdX 0 = 8)) rfl rfl rfl (Nat.le_of_ble_eq_true rfl) ⟨(Nat.le_of_ble_eq_true rfl), (Nat.le_of_ble_eq_true rfl)⟩ ⟨(Nat.le_of_ble_eq_true rfl), (Nat.le_of_ble_eq_true rfl)⟩ dL_part_5 rfl (fun z hz => by
    simp only [List.mem_cons, List.not_mem_nil, or_false] at hz
    rcases hz with rfl
    · exact ⟨by decide, _, bw_6_15, by decide⟩) rfl (by decide) bw_6_16 (by decide) rfl rfl (fun q => ?_)
  refine v_astore (pc := 17) (loc' := [(4, .ref q), (0, .ref (a 0)), (1, .int p1), (2, .int p2), (3, .ref ao)]) C dL_part_17 (by decide) rfl ?_
  refine v_iconst (pc := 19) (v := (2 : Int32)) C dL_part_19 (by decide) ?_
  exact v_oret C O dL_part_20 rfl rfl (Nat.le_of_ble_eq_true rfl) (Nat.le_of_ble_eq_true rfl)
abbrev rmL_redraw : Room := { frames := 10, cells := 3, slots := 18, locals := 250 }
theorem kL_20 : CallVok RL 20 yX8_redraw cX8_redraw 8 (some .int) 3 := ⟨bw_10_3, bw_10_4, bw_10_5, bw_1_2, bw_10_6, ⟨by decide +kernel, by decide +kernel, by decide +kernel⟩⟩
theorem mL_redraw_v {l : Launch} {D : va_G} {cs : Nat → ClassId} {a : Nat → Nat} {ao : Nat} (hT : l.stackTraces = false) {S : St} {f : Nat → Int64} {p1 p2 p3 : Int32} {v : Int32} {S' : St} (hF : fX8_redraw S p1 p2 p3 = some (.inr v, S')) : MO l D cs a ao yL_redraw cL_redraw 6 [(0, 12, 15, 24), (0, 12, 19, 13), (0, 12, 23, 15)] rmL_redraw [.ref (a 0), .int p1, .int p2, .int p3, .ref ao] S f 0 S' (vp_updL f (0 : Int32).toNatClampNeg v.toInt64) := by
  refine mo_entry [(0, .ref (a 0)), (1, .int p1), (2, .int p2), (3, .int p3), (4, .ref ao)] hT (by decide +kernel) (Nat.le_of_ble_eq_true rfl) rfl (fun E hEl hED hEk C O => ?_)
  subst hEl
  subst hED
  subst hEk
  refine v_aload 4 (pc := 0) C dL_redraw_0 rfl ?_
  refine v_iconst (pc := 2) (v := (0 : Int32)) C dL_redraw_2 (by decide) ?_
  refine v_aload_n 0 (pc := 3) C dL_redraw_3 rfl rfl ?_
  refine v_iload_n 1 (pc := 4) C dL_redraw_4 rfl rfl ?_
  refine v_iload_n 2 (pc := 5) C dL_redraw_5 rfl rfl ?_
  refine v_iload_n 3 (pc := 6) C dL_redraw_6 rfl rfl ?_
  refine v_callO [.int p1, .int p2, .int p3] (pc := 7) (st1 := [.int v, .int 0, .ref ao]) (c1 := 3) (s1 := 18) C O.2.2.1 (mX8_redraw C.hT hF) kL_20 (gX_8 (rfl : kdX 0 = 8)) rfl rfl rfl rfl (Nat.le_of_ble_eq_true rfl) ⟨(Nat.le_of_ble_eq_true rfl), (Nat.le_of_ble_eq_true rfl)⟩ ⟨(Nat.le_of_ble_eq_true rfl), (Nat.le_of_ble_eq_true rfl)⟩ dL_redraw_7 rfl rfl ?_
  refine v_i2l (pc := 10) C dL_redraw_10 ?_
  refine v_last (pc := 11) C O.2.2.1 vi_01 dL_redraw_11 ?_
  refine v_goto 27 (pc := 12) C dL_redraw_12 (by decide) ?_
  refine v_iconst (pc := 27) (v := (0 : Int32)) C dL_redraw_27 (by decide) ?_
  exact v_oret C O dL_redraw_28 rfl rfl (Nat.le_of_ble_eq_true rfl) (Nat.le_of_ble_eq_true rfl)
theorem mL_redraw_1 {l : Launch} {D : va_G} {cs : Nat → ClassId} {a : Nat → Nat} {ao : Nat} (hT : l.stackTraces = false) {S : St} {f : Nat → Int64} {p1 p2 p3 : Int32} {S' : St} (hF : fX8_redraw S p1 p2 p3 = some (.inl "java/lang/IndexOutOfBoundsException", S')) : MO l D cs a ao yL_redraw cL_redraw 6 [(0, 12, 15, 24), (0, 12, 19, 13), (0, 12, 23, 15)] rmL_redraw [.ref (a 0), .int p1, .int p2, .int p3, .ref ao] S f 1 S' f := by
  refine mo_entry [(0, .ref (a 0)), (1, .int p1), (2, .int p2), (3, .int p3), (4, .ref ao)] hT (by decide +kernel) (Nat.le_of_ble_eq_true rfl) rfl (fun E hEl hED hEk C O => ?_)
  subst hEl
  subst hED
  subst hEk
  refine v_aload 4 (pc := 0) C dL_redraw_0 rfl ?_
  refine v_iconst (pc := 2) (v := (0 : Int32)) C dL_redraw_2 (by decide) ?_
  refine v_aload_n 0 (pc := 3) C dL_redraw_3 rfl rfl ?_
  refine v_iload_n 1 (pc := 4) C dL_redraw_4 rfl rfl ?_
  refine v_iload_n 2 (pc := 5) C dL_redraw_5 rfl rfl ?_
  refine v_iload_n 3 (pc := 6) C dL_redraw_6 rfl rfl ?_
  refine v_callOx [.int p1, .int p2, .int p3] (pc := 7) (c1 := 3) (s1 := 18) [] ⟨0, 12, 15, 24⟩ [⟨0, 12, 19, 13⟩, ⟨0, 12, 23, 15⟩] C O (mX8_redraw C.hT hF) kL_20 (gX_8 (rfl : kdX 0 = 8)) rfl rfl rfl (Nat.le_of_ble_eq_true rfl) ⟨(Nat.le_of_ble_eq_true rfl), (Nat.le_of_ble_eq_true rfl)⟩ ⟨(Nat.le_of_ble_eq_true rfl), (Nat.le_of_ble_eq_true rfl)⟩ dL_redraw_7 rfl (fun z hz => absurd hz List.not_mem_nil) rfl (by decide) bw_10_2 (by decide) rfl rfl (fun q => ?_)
  refine v_astore (pc := 15) (loc' := [(5, .ref q), (0, .ref (a 0)), (1, .int p1), (2, .int p2), (3, .int p3), (4, .ref ao)]) C dL_redraw_15 (by decide) rfl ?_
  refine v_iconst (pc := 17) (v := (1 : Int32)) C dL_redraw_17 (by decide) ?_
  exact v_oret C O dL_redraw_18 rfl rfl (Nat.le_of_ble_eq_true rfl) (Nat.le_of_ble_eq_true rfl)
theorem mL_redraw_2 {l : Launch} {D : va_G} {cs : Nat → ClassId} {a : Nat → Nat} {ao : Nat} (hT : l.stackTraces = false) {S : St} {f : Nat → Int64} {p1 p2 p3 : Int32} {S' : St} (hF : fX8_redraw S p1 p2 p3 = some (.inl "java/lang/IllegalArgumentException", S')) : MO l D cs a ao yL_redraw cL_redraw 6 [(0, 12, 15, 24), (0, 12, 19, 13), (0, 12, 23, 15)] rmL_redraw [.ref (a 0), .int p1, .int p2, .int p3, .ref ao] S f 2 S' f := by
  refine mo_entry [(0, .ref (a 0)), (1, .int p1), (2, .int p2), (3, .int p3), (4, .ref ao)] hT (by decide +kernel) (Nat.le_of_ble_eq_true rfl) rfl (fun E hEl hED hEk C O => ?_)
  subst hEl
  subst hED
  subst hEk
  refine v_aload 4 (pc := 0) C dL_redraw_0 rfl ?_
  refine v_iconst (pc := 2) (v := (0 : Int32)) C dL_redraw_2 (by decide) ?_
  refine v_aload_n 0 (pc := 3) C dL_redraw_3 rfl rfl ?_
  refine v_iload_n 1 (pc := 4) C dL_redraw_4 rfl rfl ?_
  refine v_iload_n 2 (pc := 5) C dL_redraw_5 rfl rfl ?_
  refine v_iload_n 3 (pc := 6) C dL_redraw_6 rfl rfl ?_
  refine v_callOx [.int p1, .int p2, .int p3] (pc := 7) (c1 := 3) (s1 := 18) [⟨0, 12, 15, 24⟩] ⟨0, 12, 19, 13⟩ [⟨0, 12, 23, 15⟩] C O (mX8_redraw C.hT hF) kL_20 (gX_8 (rfl : kdX 0 = 8)) rfl rfl rfl (Nat.le_of_ble_eq_true rfl) ⟨(Nat.le_of_ble_eq_true rfl), (Nat.le_of_ble_eq_true rfl)⟩ ⟨(Nat.le_of_ble_eq_true rfl), (Nat.le_of_ble_eq_true rfl)⟩ dL_redraw_7 rfl (fun z hz => by
    simp only [List.mem_cons, List.not_mem_nil, or_false] at hz
    rcases hz with rfl
    · exact ⟨by decide, _, bw_10_2, by decide⟩) rfl (by decide) bw_6_15 (by decide) rfl rfl (fun q => ?_)
  refine v_astore (pc := 19) (loc' := [(5, .ref q), (0, .ref (a 0)), (1, .int p1), (2, .int p2), (3, .int p3), (4, .ref ao)]) C dL_redraw_19 (by decide) rfl ?_
  refine v_iconst (pc := 21) (v := (2 : Int32)) C dL_redraw_21 (by decide) ?_
  exact v_oret C O dL_redraw_22 rfl rfl (Nat.le_of_ble_eq_true rfl) (Nat.le_of_ble_eq_true rfl)
theorem mL_redraw_3 {l : Launch} {D : va_G} {cs : Nat → ClassId} {a : Nat → Nat} {ao : Nat} (hT : l.stackTraces = false) {S : St} {f : Nat → Int64} {p1 p2 p3 : Int32} {S' : St} (hF : fX8_redraw S p1 p2 p3 = some (.inl "java/lang/IllegalStateException", S')) : MO l D cs a ao yL_redraw cL_redraw 6 [(0, 12, 15, 24), (0, 12, 19, 13), (0, 12, 23, 15)] rmL_redraw [.ref (a 0), .int p1, .int p2, .int p3, .ref ao] S f 3 S' f := by
  refine mo_entry [(0, .ref (a 0)), (1, .int p1), (2, .int p2), (3, .int p3), (4, .ref ao)] hT (by decide +kernel) (Nat.le_of_ble_eq_true rfl) rfl (fun E hEl hED hEk C O => ?_)
  subst hEl
  subst hED
  subst hEk
  refine v_aload 4 (pc := 0) C dL_redraw_0 rfl ?_
  refine v_iconst (pc := 2) (v := (0 : Int32)) C dL_redraw_2 (by decide) ?_
  refine v_aload_n 0 (pc := 3) C dL_redraw_3 rfl rfl ?_
  refine v_iload_n 1 (pc := 4) C dL_redraw_4 rfl rfl ?_
  refine v_iload_n 2 (pc := 5) C dL_redraw_5 rfl rfl ?_
  refine v_iload_n 3 (pc := 6) C dL_redraw_6 rfl rfl ?_
  refine v_callOx [.int p1, .int p2, .int p3] (pc := 7) (c1 := 3) (s1 := 18) [⟨0, 12, 15, 24⟩, ⟨0, 12, 19, 13⟩] ⟨0, 12, 23, 15⟩ [] C O (mX8_redraw C.hT hF) kL_20 (gX_8 (rfl : kdX 0 = 8)) rfl rfl rfl (Nat.le_of_ble_eq_true rfl) ⟨(Nat.le_of_ble_eq_true rfl), (Nat.le_of_ble_eq_true rfl)⟩ ⟨(Nat.le_of_ble_eq_true rfl), (Nat.le_of_ble_eq_true rfl)⟩ dL_redraw_7 rfl (fun z hz => by
    simp only [List.mem_cons, List.not_mem_nil, or_false] at hz
    rcases hz with rfl | rfl
    · exact ⟨by decide, _, bw_10_2, by decide⟩
    · exact ⟨by decide, _, bw_6_15, by decide⟩) rfl (by decide) bw_6_16 (by decide) rfl rfl (fun q => ?_)
  refine v_astore (pc := 23) (loc' := [(5, .ref q), (0, .ref (a 0)), (1, .int p1), (2, .int p2), (3, .int p3), (4, .ref ao)]) C dL_redraw_23 (by decide) rfl ?_
  refine v_iconst (pc := 25) (v := (3 : Int32)) C dL_redraw_25 (by decide) ?_
  exact v_oret C O dL_redraw_26 rfl rfl (Nat.le_of_ble_eq_true rfl) (Nat.le_of_ble_eq_true rfl)
abbrev rmL_hole : Room := { frames := 9, cells := 2, slots := 12, locals := 210 }
theorem kL_26 : CallVok RL 26 yX8_hole cX8_hole 6 (some .int) 4 := ⟨bw_12_18, bw_12_19, bw_12_20, bw_1_2, bw_12_21, ⟨by decide +kernel, by decide +kernel, by decide +kernel⟩⟩
theorem mL_hole_v {l : Launch} {D : va_G} {cs : Nat → ClassId} {a : Nat → Nat} {ao : Nat} (hT : l.stackTraces = false) {S : St} {f : Nat → Int64} {p1 p2 p3 p4 : Int32} {v : Int32} {S' : St} (hF : fX8_hole S p1 p2 p3 p4 = some (.inr v, S')) : MO l D cs a ao yL_hole cL_hole 7 [(0, 14, 17, 24), (0, 14, 21, 13), (0, 14, 25, 15)] rmL_hole [.ref (a 0), .int p1, .int p2, .int p3, .int p4, .ref ao] S f 0 S' (vp_updL f (0 : Int32).toNatClampNeg v.toInt64) := by
  refine mo_entry [(0, .ref (a 0)), (1, .int p1), (2, .int p2), (3, .int p3), (4, .int p4), (5, .ref ao)] hT (by decide +kernel) (Nat.le_of_ble_eq_true rfl) rfl (fun E hEl hED hEk C O => ?_)
  subst hEl
  subst hED
  subst hEk
  refine v_aload 5 (pc := 0) C dL_hole_0 rfl ?_
  refine v_iconst (pc := 2) (v := (0 : Int32)) C dL_hole_2 (by decide) ?_
  refine v_aload_n 0 (pc := 3) C dL_hole_3 rfl rfl ?_
  refine v_iload_n 1 (pc := 4) C dL_hole_4 rfl rfl ?_
  refine v_iload_n 2 (pc := 5) C dL_hole_5 rfl rfl ?_
  refine v_iload_n 3 (pc := 6) C dL_hole_6 rfl rfl ?_
  refine v_iload 4 (pc := 7) C dL_hole_7 rfl ?_
  refine v_callO [.int p1, .int p2, .int p3, .int p4] (pc := 9) (st1 := [.int v, .int 0, .ref ao]) (c1 := 2) (s1 := 12) C O.2.2.1 (mX8_hole C.hT hF) kL_26 (gX_8 (rfl : kdX 0 = 8)) rfl rfl rfl rfl (Nat.le_of_ble_eq_true rfl) ⟨(Nat.le_of_ble_eq_true rfl), (Nat.le_of_ble_eq_true rfl)⟩ ⟨(Nat.le_of_ble_eq_true rfl), (Nat.le_of_ble_eq_true rfl)⟩ dL_hole_9 rfl rfl ?_
  refine v_i2l (pc := 12) C dL_hole_12 ?_
  refine v_last (pc := 13) C O.2.2.1 vi_01 dL_hole_13 ?_
  refine v_goto 29 (pc := 14) C dL_hole_14 (by decide) ?_
  refine v_iconst (pc := 29) (v := (0 : Int32)) C dL_hole_29 (by decide) ?_
  exact v_oret C O dL_hole_30 rfl rfl (Nat.le_of_ble_eq_true rfl) (Nat.le_of_ble_eq_true rfl)
theorem mL_hole_1 {l : Launch} {D : va_G} {cs : Nat → ClassId} {a : Nat → Nat} {ao : Nat} (hT : l.stackTraces = false) {S : St} {f : Nat → Int64} {p1 p2 p3 p4 : Int32} {S' : St} (hF : fX8_hole S p1 p2 p3 p4 = some (.inl "java/lang/IndexOutOfBoundsException", S')) : MO l D cs a ao yL_hole cL_hole 7 [(0, 14, 17, 24), (0, 14, 21, 13), (0, 14, 25, 15)] rmL_hole [.ref (a 0), .int p1, .int p2, .int p3, .int p4, .ref ao] S f 1 S' f := by
  refine mo_entry [(0, .ref (a 0)), (1, .int p1), (2, .int p2), (3, .int p3), (4, .int p4), (5, .ref ao)] hT (by decide +kernel) (Nat.le_of_ble_eq_true rfl) rfl (fun E hEl hED hEk C O => ?_)
  subst hEl
  subst hED
  subst hEk
  refine v_aload 5 (pc := 0) C dL_hole_0 rfl ?_
  refine v_iconst (pc := 2) (v := (0 : Int32)) C dL_hole_2 (by decide) ?_
  refine v_aload_n 0 (pc := 3) C dL_hole_3 rfl rfl ?_
  refine v_iload_n 1 (pc := 4) C dL_hole_4 rfl rfl ?_
  refine v_iload_n 2 (pc := 5) C dL_hole_5 rfl rfl ?_
  refine v_iload_n 3 (pc := 6) C dL_hole_6 rfl rfl ?_
  refine v_iload 4 (pc := 7) C dL_hole_7 rfl ?_
  refine v_callOx [.int p1, .int p2, .int p3, .int p4] (pc := 9) (c1 := 2) (s1 := 12) [] ⟨0, 14, 17, 24⟩ [⟨0, 14, 21, 13⟩, ⟨0, 14, 25, 15⟩] C O (mX8_hole C.hT hF) kL_26 (gX_8 (rfl : kdX 0 = 8)) rfl rfl rfl (Nat.le_of_ble_eq_true rfl) ⟨(Nat.le_of_ble_eq_true rfl), (Nat.le_of_ble_eq_true rfl)⟩ ⟨(Nat.le_of_ble_eq_true rfl), (Nat.le_of_ble_eq_true rfl)⟩ dL_hole_9 rfl (fun z hz => absurd hz List.not_mem_nil) rfl (by decide) bw_10_2 (by decide) rfl rfl (fun q => ?_)
  refine v_astore (pc := 17) (loc' := [(6, .ref q), (0, .ref (a 0)), (1, .int p1), (2, .int p2), (3, .int p3), (4, .int p4), (5, .ref ao)]) C dL_hole_17 (by decide) rfl ?_
  refine v_iconst (pc := 19) (v := (1 : Int32)) C dL_hole_19 (by decide) ?_
  exact v_oret C O dL_hole_20 rfl rfl (Nat.le_of_ble_eq_true rfl) (Nat.le_of_ble_eq_true rfl)
theorem mL_hole_2 {l : Launch} {D : va_G} {cs : Nat → ClassId} {a : Nat → Nat} {ao : Nat} (hT : l.stackTraces = false) {S : St} {f : Nat → Int64} {p1 p2 p3 p4 : Int32} {S' : St} (hF : fX8_hole S p1 p2 p3 p4 = some (.inl "java/lang/IllegalArgumentException", S')) : MO l D cs a ao yL_hole cL_hole 7 [(0, 14, 17, 24), (0, 14, 21, 13), (0, 14, 25, 15)] rmL_hole [.ref (a 0), .int p1, .int p2, .int p3, .int p4, .ref ao] S f 2 S' f := by
  refine mo_entry [(0, .ref (a 0)), (1, .int p1), (2, .int p2), (3, .int p3), (4, .int p4), (5, .ref ao)] hT (by decide +kernel) (Nat.le_of_ble_eq_true rfl) rfl (fun E hEl hED hEk C O => ?_)
  subst hEl
  subst hED
  subst hEk
  refine v_aload 5 (pc := 0) C dL_hole_0 rfl ?_
  refine v_iconst (pc := 2) (v := (0 : Int32)) C dL_hole_2 (by decide) ?_
  refine v_aload_n 0 (pc := 3) C dL_hole_3 rfl rfl ?_
  refine v_iload_n 1 (pc := 4) C dL_hole_4 rfl rfl ?_
  refine v_iload_n 2 (pc := 5) C dL_hole_5 rfl rfl ?_
  refine v_iload_n 3 (pc := 6) C dL_hole_6 rfl rfl ?_
  refine v_iload 4 (pc := 7) C dL_hole_7 rfl ?_
  refine v_callOx [.int p1, .int p2, .int p3, .int p4] (pc := 9) (c1 := 2) (s1 := 12) [⟨0, 14, 17, 24⟩] ⟨0, 14, 21, 13⟩ [⟨0, 14, 25, 15⟩] C O (mX8_hole C.hT hF) kL_26 (gX_8 (rfl : kdX 0 = 8)) rfl rfl rfl (Nat.le_of_ble_eq_true rfl) ⟨(Nat.le_of_ble_eq_true rfl), (Nat.le_of_ble_eq_true rfl)⟩ ⟨(Nat.le_of_ble_eq_true rfl), (Nat.le_of_ble_eq_true rfl)⟩ dL_hole_9 rfl (fun z hz => by
    simp only [List.mem_cons, List.not_mem_nil, or_false] at hz
    rcases hz with rfl
    · exact ⟨by decide, _, bw_10_2, by decide⟩) rfl (by decide) bw_6_15 (by decide) rfl rfl (fun q => ?_)
  refine v_astore (pc := 21) (loc' := [(6, .ref q), (0, .ref (a 0)), (1, .int p1), (2, .int p2), (3, .int p3), (4, .int p4), (5, .ref ao)]) C dL_hole_21 (by decide) rfl ?_
  refine v_iconst (pc := 23) (v := (2 : Int32)) C dL_hole_23 (by decide) ?_
  exact v_oret C O dL_hole_24 rfl rfl (Nat.le_of_ble_eq_true rfl) (Nat.le_of_ble_eq_true rfl)
theorem mL_hole_3 {l : Launch} {D : va_G} {cs : Nat → ClassId} {a : Nat → Nat} {ao : Nat} (hT : l.stackTraces = false) {S : St} {f : Nat → Int64} {p1 p2 p3 p4 : Int32} {S' : St} (hF : fX8_hole S p1 p2 p3 p4 = some (.inl "java/lang/IllegalStateException", S')) : MO l D cs a ao yL_hole cL_hole 7 [(0, 14, 17, 24), (0, 14, 21, 13), (0, 14, 25, 15)] rmL_hole [.ref (a 0), .int p1, .int p2, .int p3, .int p4, .ref ao] S f 3 S' f := by
  refine mo_entry [(0, .ref (a 0)), (1, .int p1), (2, .int p2), (3, .int p3), (4, .int p4), (5, .ref ao)] hT (by decide +kernel) (Nat.le_of_ble_eq_true rfl) rfl (fun E hEl hED hEk C O => ?_)
  subst hEl
  subst hED
  subst hEk
  refine v_aload 5 (pc := 0) C dL_hole_0 rfl ?_
  refine v_iconst (pc := 2) (v := (0 : Int32)) C dL_hole_2 (by decide) ?_
  refine v_aload_n 0 (pc := 3) C dL_hole_3 rfl rfl ?_
  refine v_iload_n 1 (pc := 4) C dL_hole_4 rfl rfl ?_
  refine v_iload_n 2 (pc := 5) C dL_hole_5 rfl rfl ?_
  refine v_iload_n 3 (pc := 6) C dL_hole_6 rfl rfl ?_
  refine v_iload 4 (pc := 7) C dL_hole_7 rfl ?_
  refine v_callOx [.int p1, .int p2, .int p3, .int p4] (pc := 9) (c1 := 2) (s1 := 12) [⟨0, 14, 17, 24⟩, ⟨0, 14, 21, 13⟩] ⟨0, 14, 25, 15⟩ [] C O (mX8_hole C.hT hF) kL_26 (gX_8 (rfl : kdX 0 = 8)) rfl rfl rfl (Nat.le_of_ble_eq_true rfl) ⟨(Nat.le_of_ble_eq_true rfl), (Nat.le_of_ble_eq_true rfl)⟩ ⟨(Nat.le_of_ble_eq_true rfl), (Nat.le_of_ble_eq_true rfl)⟩ dL_hole_9 rfl (fun z hz => by
    simp only [List.mem_cons, List.not_mem_nil, or_false] at hz
    rcases hz with rfl | rfl
    · exact ⟨by decide, _, bw_10_2, by decide⟩
    · exact ⟨by decide, _, bw_6_15, by decide⟩) rfl (by decide) bw_6_16 (by decide) rfl rfl (fun q => ?_)
  refine v_astore (pc := 25) (loc' := [(6, .ref q), (0, .ref (a 0)), (1, .int p1), (2, .int p2), (3, .int p3), (4, .int p4), (5, .ref ao)]) C dL_hole_25 (by decide) rfl ?_
  refine v_iconst (pc := 27) (v := (3 : Int32)) C dL_hole_27 (by decide) ?_
  exact v_oret C O dL_hole_28 rfl rfl (Nat.le_of_ble_eq_true rfl) (Nat.le_of_ble_eq_true rfl)
abbrev rmL_isNear : Room := { frames := 9, cells := 2, slots := 12, locals := 210 }
theorem kL_30 : CallVok RL 30 yX8_isNear cX8_isNear 4 (some .boolean) 2 := ⟨bw_13_12, bw_13_13, bw_13_14, bw_1_2, bw_13_15, ⟨by decide +kernel, by decide +kernel, by decide +kernel⟩⟩
theorem mL_isNear_v {l : Launch} {D : va_G} {cs : Nat → ClassId} {a : Nat → Nat} {ao : Nat} (hT : l.stackTraces = false) {S : St} {f : Nat → Int64} {p1 p2 : Int32} {v : Int32} (hF : fX8_isNear S p1 p2 = some (.inr v)) : MO l D cs a ao yL_isNear cL_isNear 5 [(0, 17, 20, 24)] rmL_isNear [.ref (a 0), .int p1, .int p2, .ref ao] S f 0 S (vp_updL f (0 : Int32).toNatClampNeg (if v = 0 then 0 else 1)) := by
  refine mo_entry [(0, .ref (a 0)), (1, .int p1), (2, .int p2), (3, .ref ao)] hT (by decide +kernel) (Nat.le_of_ble_eq_true rfl) rfl (fun E hEl hED hEk C O => ?_)
  subst hEl
  subst hED
  subst hEk
  refine v_aload_n 3 (pc := 0) C dL_isNear_0 rfl rfl ?_
  refine v_iconst (pc := 1) (v := (0 : Int32)) C dL_isNear_1 (by decide) ?_
  refine v_aload_n 0 (pc := 2) C dL_isNear_2 rfl rfl ?_
  refine v_iload_n 1 (pc := 3) C dL_isNear_3 rfl rfl ?_
  refine v_iload_n 2 (pc := 4) C dL_isNear_4 rfl rfl ?_
  refine v_callO [.int p1, .int p2] (pc := 5) (st1 := [.int v, .int 0, .ref ao]) (c1 := 2) (s1 := 12) C O.2.2.1 (mX8_isNear C.hT hF) kL_30 (gX_8 (rfl : kdX 0 = 8)) rfl rfl rfl rfl (Nat.le_of_ble_eq_true rfl) ⟨(Nat.le_of_ble_eq_true rfl), (Nat.le_of_ble_eq_true rfl)⟩ ⟨(Nat.le_of_ble_eq_true rfl), (Nat.le_of_ble_eq_true rfl)⟩ dL_isNear_5 rfl rfl ?_
  refine v_if_eq 15 (pc := 8) C dL_isNear_8 (by decide) (fun c1 => ?_) (fun c1 => ?_)
  · refine v_lconst (pc := 15) (v := (0 : Int64)) C dL_isNear_15 (by decide) ?_
    refine v_last (pc := 16) C O.2.2.1 vi_01 dL_isNear_16 ?_
    refine v_goto 24 (pc := 17) C dL_isNear_17 (by decide) ?_
    refine v_iconst (pc := 24) (v := (0 : Int32)) C dL_isNear_24 (by decide) ?_
    exact v_oret C O dL_isNear_25 rfl (by rw [if_pos c1]) (Nat.le_of_ble_eq_true rfl) (Nat.le_of_ble_eq_true rfl)
  · refine v_lconst (pc := 11) (v := (1 : Int64)) C dL_isNear_11 (by decide) ?_
    refine v_goto 16 (pc := 12) C dL_isNear_12 (by decide) ?_
    refine v_last (pc := 16) C O.2.2.1 vi_01 dL_isNear_16 ?_
    refine v_goto 24 (pc := 17) C dL_isNear_17 (by decide) ?_
    refine v_iconst (pc := 24) (v := (0 : Int32)) C dL_isNear_24 (by decide) ?_
    exact v_oret C O dL_isNear_25 rfl (by rw [if_neg c1]) (Nat.le_of_ble_eq_true rfl) (Nat.le_of_ble_eq_true rfl)
theorem mL_isNear_1 {l : Launch} {D : va_G} {cs : Nat → ClassId} {a : Nat → Nat} {ao : Nat} (hT : l.stackTraces = false) {S : St} {f : Nat → Int64} {p1 p2 : Int32} (hF : fX8_isNear S p1 p2 = some (.inl "java/lang/IndexOutOfBoundsException")) : MO l D cs a ao yL_isNear cL_isNear 5 [(0, 17, 20, 24)] rmL_isNear [.ref (a 0), .int p1, .int p2, .ref ao] S f 1 S f := by
  refine mo_entry [(0, .ref (a 0)), (1, .int p1), (2, .int p2), (3, .ref ao)] hT (by decide +kernel) (Nat.le_of_ble_eq_true rfl) rfl (fun E hEl hED hEk C O => ?_)
  subst hEl
  subst hED
  subst hEk
  refine v_aload_n 3 (pc := 0) C dL_isNear_0 rfl rfl ?_
  refine v_iconst (pc := 1) (v := (0 : Int32)) C dL_isNear_1 (by decide) ?_
  refine v_aload_n 0 (pc := 2) C dL_isNear_2 rfl rfl ?_
  refine v_iload_n 1 (pc := 3) C dL_isNear_3 rfl rfl ?_
  refine v_iload_n 2 (pc := 4) C dL_isNear_4 rfl rfl ?_
  refine v_callOx [.int p1, .int p2] (pc := 5) (c1 := 2) (s1 := 12) [] ⟨0, 17, 20, 24⟩ [] C O (mX8_isNear C.hT hF) kL_30 (gX_8 (rfl : kdX 0 = 8)) rfl rfl rfl (Nat.le_of_ble_eq_true rfl) ⟨(Nat.le_of_ble_eq_true rfl), (Nat.le_of_ble_eq_true rfl)⟩ ⟨(Nat.le_of_ble_eq_true rfl), (Nat.le_of_ble_eq_true rfl)⟩ dL_isNear_5 rfl (fun z hz => absurd hz List.not_mem_nil) rfl (by decide) bw_10_2 (by decide) rfl rfl (fun q => ?_)
  refine v_astore (pc := 20) (loc' := [(4, .ref q), (0, .ref (a 0)), (1, .int p1), (2, .int p2), (3, .ref ao)]) C dL_isNear_20 (by decide) rfl ?_
  refine v_iconst (pc := 22) (v := (1 : Int32)) C dL_isNear_22 (by decide) ?_
  exact v_oret C O dL_isNear_23 rfl rfl (Nat.le_of_ble_eq_true rfl) (Nat.le_of_ble_eq_true rfl)
abbrev rmL_told : Room := { frames := 9, cells := 2, slots := 12, locals := 210 }
theorem kL_34 : CallVok RL 34 yX8_told cX8_told 4 (some .int) 2 := ⟨bw_14_9, bw_14_10, bw_14_11, bw_1_2, bw_14_12, ⟨by decide +kernel, by decide +kernel, by decide +kernel⟩⟩
theorem mL_told_v {l : Launch} {D : va_G} {cs : Nat → ClassId} {a : Nat → Nat} {ao : Nat} (hT : l.stackTraces = false) {S : St} {f : Nat → Int64} {p1 p2 : Int32} {v : Int32} (hF : fX8_told S p1 p2 = some (.inr v)) : MO l D cs a ao yL_told cL_told 5 [(0, 10, 13, 24), (0, 10, 17, 13)] rmL_told [.ref (a 0), .int p1, .int p2, .ref ao] S f 0 S (vp_updL f (0 : Int32).toNatClampNeg v.toInt64) := by
  refine mo_entry [(0, .ref (a 0)), (1, .int p1), (2, .int p2), (3, .ref ao)] hT (by decide +kernel) (Nat.le_of_ble_eq_true rfl) rfl (fun E hEl hED hEk C O => ?_)
  subst hEl
  subst hED
  subst hEk
  refine v_aload_n 3 (pc := 0) C dL_told_0 rfl rfl ?_
  refine v_iconst (pc := 1) (v := (0 : Int32)) C dL_told_1 (by decide) ?_
  refine v_aload_n 0 (pc := 2) C dL_told_2 rfl rfl ?_
  refine v_iload_n 1 (pc := 3) C dL_told_3 rfl rfl ?_
  refine v_iload_n 2 (pc := 4) C dL_told_4 rfl rfl ?_
  refine v_callO [.int p1, .int p2] (pc := 5) (st1 := [.int v, .int 0, .ref ao]) (c1 := 2) (s1 := 12) C O.2.2.1 (mX8_told C.hT hF) kL_34 (gX_8 (rfl : kdX 0 = 8)) rfl rfl rfl rfl (Nat.le_of_ble_eq_true rfl) ⟨(Nat.le_of_ble_eq_true rfl), (Nat.le_of_ble_eq_true rfl)⟩ ⟨(Nat.le_of_ble_eq_true rfl), (Nat.le_of_ble_eq_true rfl)⟩ dL_told_5 rfl rfl ?_
  refine v_i2l (pc := 8) C dL_told_8 ?_
  refine v_last (pc := 9) C O.2.2.1 vi_01 dL_told_9 ?_
  refine v_goto 21 (pc := 10) C dL_told_10 (by decide) ?_
  refine v_iconst (pc := 21) (v := (0 : Int32)) C dL_told_21 (by decide) ?_
  exact v_oret C O dL_told_22 rfl rfl (Nat.le_of_ble_eq_true rfl) (Nat.le_of_ble_eq_true rfl)
theorem mL_told_1 {l : Launch} {D : va_G} {cs : Nat → ClassId} {a : Nat → Nat} {ao : Nat} (hT : l.stackTraces = false) {S : St} {f : Nat → Int64} {p1 p2 : Int32} (hF : fX8_told S p1 p2 = some (.inl "java/lang/IndexOutOfBoundsException")) : MO l D cs a ao yL_told cL_told 5 [(0, 10, 13, 24), (0, 10, 17, 13)] rmL_told [.ref (a 0), .int p1, .int p2, .ref ao] S f 1 S f := by
  refine mo_entry [(0, .ref (a 0)), (1, .int p1), (2, .int p2), (3, .ref ao)] hT (by decide +kernel) (Nat.le_of_ble_eq_true rfl) rfl (fun E hEl hED hEk C O => ?_)
  subst hEl
  subst hED
  subst hEk
  refine v_aload_n 3 (pc := 0) C dL_told_0 rfl rfl ?_
  refine v_iconst (pc := 1) (v := (0 : Int32)) C dL_told_1 (by decide) ?_
  refine v_aload_n 0 (pc := 2) C dL_told_2 rfl rfl ?_
  refine v_iload_n 1 (pc := 3) C dL_told_3 rfl rfl ?_
  refine v_iload_n 2 (pc := 4) C dL_told_4 rfl rfl ?_
  refine v_callOx [.int p1, .int p2] (pc := 5) (c1 := 2) (s1 := 12) [] ⟨0, 10, 13, 24⟩ [⟨0, 10, 17, 13⟩] C O (mX8_told C.hT hF) kL_34 (gX_8 (rfl : kdX 0 = 8)) rfl rfl rfl (Nat.le_of_ble_eq_true rfl) ⟨(Nat.le_of_ble_eq_true rfl), (Nat.le_of_ble_eq_true rfl)⟩ ⟨(Nat.le_of_ble_eq_true rfl), (Nat.le_of_ble_eq_true rfl)⟩ dL_told_5 rfl (fun z hz => absurd hz List.not_mem_nil) rfl (by decide) bw_10_2 (by decide) rfl rfl (fun q => ?_)
  refine v_astore (pc := 13) (loc' := [(4, .ref q), (0, .ref (a 0)), (1, .int p1), (2, .int p2), (3, .ref ao)]) C dL_told_13 (by decide) rfl ?_
  refine v_iconst (pc := 15) (v := (1 : Int32)) C dL_told_15 (by decide) ?_
  exact v_oret C O dL_told_16 rfl rfl (Nat.le_of_ble_eq_true rfl) (Nat.le_of_ble_eq_true rfl)
theorem mL_told_2 {l : Launch} {D : va_G} {cs : Nat → ClassId} {a : Nat → Nat} {ao : Nat} (hT : l.stackTraces = false) {S : St} {f : Nat → Int64} {p1 p2 : Int32} (hF : fX8_told S p1 p2 = some (.inl "java/lang/IllegalArgumentException")) : MO l D cs a ao yL_told cL_told 5 [(0, 10, 13, 24), (0, 10, 17, 13)] rmL_told [.ref (a 0), .int p1, .int p2, .ref ao] S f 2 S f := by
  refine mo_entry [(0, .ref (a 0)), (1, .int p1), (2, .int p2), (3, .ref ao)] hT (by decide +kernel) (Nat.le_of_ble_eq_true rfl) rfl (fun E hEl hED hEk C O => ?_)
  subst hEl
  subst hED
  subst hEk
  refine v_aload_n 3 (pc := 0) C dL_told_0 rfl rfl ?_
  refine v_iconst (pc := 1) (v := (0 : Int32)) C dL_told_1 (by decide) ?_
  refine v_aload_n 0 (pc := 2) C dL_told_2 rfl rfl ?_
  refine v_iload_n 1 (pc := 3) C dL_told_3 rfl rfl ?_
  refine v_iload_n 2 (pc := 4) C dL_told_4 rfl rfl ?_
  refine v_callOx [.int p1, .int p2] (pc := 5) (c1 := 2) (s1 := 12) [⟨0, 10, 13, 24⟩] ⟨0, 10, 17, 13⟩ [] C O (mX8_told C.hT hF) kL_34 (gX_8 (rfl : kdX 0 = 8)) rfl rfl rfl (Nat.le_of_ble_eq_true rfl) ⟨(Nat.le_of_ble_eq_true rfl), (Nat.le_of_ble_eq_true rfl)⟩ ⟨(Nat.le_of_ble_eq_true rfl), (Nat.le_of_ble_eq_true rfl)⟩ dL_told_5 rfl (fun z hz => by
    simp only [List.mem_cons, List.not_mem_nil, or_false] at hz
    rcases hz with rfl
    · exact ⟨by decide, _, bw_10_2, by decide⟩) rfl (by decide) bw_6_15 (by decide) rfl rfl (fun q => ?_)
  refine v_astore (pc := 17) (loc' := [(4, .ref q), (0, .ref (a 0)), (1, .int p1), (2, .int p2), (3, .ref ao)]) C dL_told_17 (by decide) rfl ?_
  refine v_iconst (pc := 19) (v := (2 : Int32)) C dL_told_19 (by decide) ?_
  exact v_oret C O dL_told_20 rfl rfl (Nat.le_of_ble_eq_true rfl) (Nat.le_of_ble_eq_true rfl)
abbrev rmL_tool : Room := { frames := 8, cells := 1, slots := 6, locals := 170 }
theorem kL_37 : CallVok RL 37 yX8_tool cX8_tool 7 (some .int) 5 := ⟨bw_15_1, bw_15_2, bw_15_3, bw_1_2, bw_15_4, ⟨by decide +kernel, by decide +kernel, by decide +kernel⟩⟩
theorem mL_tool_v {l : Launch} {D : va_G} {cs : Nat → ClassId} {a : Nat → Nat} {ao : Nat} (hT : l.stackTraces = false) {S : St} {f : Nat → Int64} {p1 p2 p3 p4 p5 : Int32} {v : Int32} {S' : St} (hF : fX8_tool S p1 p2 p3 p4 p5 = some (.inr v, S')) : MO l D cs a ao yL_tool cL_tool 8 [(0, 16, 19, 13), (0, 16, 23, 15)] rmL_tool [.ref (a 0), .int p1, .int p2, .int p3, .int p4, .int p5, .ref ao] S f 0 S' (vp_updL f (0 : Int32).toNatClampNeg v.toInt64) := by
  refine mo_entry [(0, .ref (a 0)), (1, .int p1), (2, .int p2), (3, .int p3), (4, .int p4), (5, .int p5), (6, .ref ao)] hT (by decide +kernel) (Nat.le_of_ble_eq_true rfl) rfl (fun E hEl hED hEk C O => ?_)
  subst hEl
  subst hED
  subst hEk
  refine v_aload 6 (pc := 0) C dL_tool_0 rfl ?_
  refine v_iconst (pc := 2) (v := (0 : Int32)) C dL_tool_2 (by decide) ?_
  refine v_aload_n 0 (pc := 3) C dL_tool_3 rfl rfl ?_
  refine v_iload_n 1 (pc := 4) C dL_tool_4 rfl rfl ?_
  refine v_iload_n 2 (pc := 5) C dL_tool_5 rfl rfl ?_
  refine v_iload_n 3 (pc := 6) C dL_tool_6 rfl rfl ?_
  refine v_iload 4 (pc := 7) C dL_tool_7 rfl ?_
  refine v_iload 5 (pc := 9) C dL_tool_9 rfl ?_
  refine v_callO [.int p1, .int p2, .int p3, .int p4, .int p5] (pc := 11) (st1 := [.int v, .int 0, .ref ao]) (c1 := 1) (s1 := 6) C O.2.2.1 (mX8_tool C.hT hF) kL_37 (gX_8 (rfl : kdX 0 = 8)) rfl rfl rfl rfl (Nat.le_of_ble_eq_true rfl) ⟨(Nat.le_of_ble_eq_true rfl), (Nat.le_of_ble_eq_true rfl)⟩ ⟨(Nat.le_of_ble_eq_true rfl), (Nat.le_of_ble_eq_true rfl)⟩ dL_tool_11 rfl rfl ?_
  refine v_i2l (pc := 14) C dL_tool_14 ?_
  refine v_last (pc := 15) C O.2.2.1 vi_01 dL_tool_15 ?_
  refine v_goto 27 (pc := 16) C dL_tool_16 (by decide) ?_
  refine v_iconst (pc := 27) (v := (0 : Int32)) C dL_tool_27 (by decide) ?_
  exact v_oret C O dL_tool_28 rfl rfl (Nat.le_of_ble_eq_true rfl) (Nat.le_of_ble_eq_true rfl)
theorem mL_tool_1 {l : Launch} {D : va_G} {cs : Nat → ClassId} {a : Nat → Nat} {ao : Nat} (hT : l.stackTraces = false) {S : St} {f : Nat → Int64} {p1 p2 p3 p4 p5 : Int32} {S' : St} (hF : fX8_tool S p1 p2 p3 p4 p5 = some (.inl "java/lang/IllegalArgumentException", S')) : MO l D cs a ao yL_tool cL_tool 8 [(0, 16, 19, 13), (0, 16, 23, 15)] rmL_tool [.ref (a 0), .int p1, .int p2, .int p3, .int p4, .int p5, .ref ao] S f 1 S' f := by
  refine mo_entry [(0, .ref (a 0)), (1, .int p1), (2, .int p2), (3, .int p3), (4, .int p4), (5, .int p5), (6, .ref ao)] hT (by decide +kernel) (Nat.le_of_ble_eq_true rfl) rfl (fun E hEl hED hEk C O => ?_)
  subst hEl
  subst hED
  subst hEk
  refine v_aload 6 (pc := 0) C dL_tool_0 rfl ?_
  refine v_iconst (pc := 2) (v := (0 : Int32)) C dL_tool_2 (by decide) ?_
  refine v_aload_n 0 (pc := 3) C dL_tool_3 rfl rfl ?_
  refine v_iload_n 1 (pc := 4) C dL_tool_4 rfl rfl ?_
  refine v_iload_n 2 (pc := 5) C dL_tool_5 rfl rfl ?_
  refine v_iload_n 3 (pc := 6) C dL_tool_6 rfl rfl ?_
  refine v_iload 4 (pc := 7) C dL_tool_7 rfl ?_
  refine v_iload 5 (pc := 9) C dL_tool_9 rfl ?_
  refine v_callOx [.int p1, .int p2, .int p3, .int p4, .int p5] (pc := 11) (c1 := 1) (s1 := 6) [] ⟨0, 16, 19, 13⟩ [⟨0, 16, 23, 15⟩] C O (mX8_tool C.hT hF) kL_37 (gX_8 (rfl : kdX 0 = 8)) rfl rfl rfl (Nat.le_of_ble_eq_true rfl) ⟨(Nat.le_of_ble_eq_true rfl), (Nat.le_of_ble_eq_true rfl)⟩ ⟨(Nat.le_of_ble_eq_true rfl), (Nat.le_of_ble_eq_true rfl)⟩ dL_tool_11 rfl (fun z hz => absurd hz List.not_mem_nil) rfl (by decide) bw_6_15 (by decide) rfl rfl (fun q => ?_)
  refine v_astore (pc := 19) (loc' := [(7, .ref q), (0, .ref (a 0)), (1, .int p1), (2, .int p2), (3, .int p3), (4, .int p4), (5, .int p5), (6, .ref ao)]) C dL_tool_19 (by decide) rfl ?_
  refine v_iconst (pc := 21) (v := (1 : Int32)) C dL_tool_21 (by decide) ?_
  exact v_oret C O dL_tool_22 rfl rfl (Nat.le_of_ble_eq_true rfl) (Nat.le_of_ble_eq_true rfl)
theorem mL_tool_2 {l : Launch} {D : va_G} {cs : Nat → ClassId} {a : Nat → Nat} {ao : Nat} (hT : l.stackTraces = false) {S : St} {f : Nat → Int64} {p1 p2 p3 p4 p5 : Int32} {S' : St} (hF : fX8_tool S p1 p2 p3 p4 p5 = some (.inl "java/lang/IllegalStateException", S')) : MO l D cs a ao yL_tool cL_tool 8 [(0, 16, 19, 13), (0, 16, 23, 15)] rmL_tool [.ref (a 0), .int p1, .int p2, .int p3, .int p4, .int p5, .ref ao] S f 2 S' f := by
  refine mo_entry [(0, .ref (a 0)), (1, .int p1), (2, .int p2), (3, .int p3), (4, .int p4), (5, .int p5), (6, .ref ao)] hT (by decide +kernel) (Nat.le_of_ble_eq_true rfl) rfl (fun E hEl hED hEk C O => ?_)
  subst hEl
  subst hED
  subst hEk
  refine v_aload 6 (pc := 0) C dL_tool_0 rfl ?_
  refine v_iconst (pc := 2) (v := (0 : Int32)) C dL_tool_2 (by decide) ?_
  refine v_aload_n 0 (pc := 3) C dL_tool_3 rfl rfl ?_
  refine v_iload_n 1 (pc := 4) C dL_tool_4 rfl rfl ?_
  refine v_iload_n 2 (pc := 5) C dL_tool_5 rfl rfl ?_
  refine v_iload_n 3 (pc := 6) C dL_tool_6 rfl rfl ?_
  refine v_iload 4 (pc := 7) C dL_tool_7 rfl ?_
  refine v_iload 5 (pc := 9) C dL_tool_9 rfl ?_
  refine v_callOx [.int p1, .int p2, .int p3, .int p4, .int p5] (pc := 11) (c1 := 1) (s1 := 6) [⟨0, 16, 19, 13⟩] ⟨0, 16, 23, 15⟩ [] C O (mX8_tool C.hT hF) kL_37 (gX_8 (rfl : kdX 0 = 8)) rfl rfl rfl (Nat.le_of_ble_eq_true rfl) ⟨(Nat.le_of_ble_eq_true rfl), (Nat.le_of_ble_eq_true rfl)⟩ ⟨(Nat.le_of_ble_eq_true rfl), (Nat.le_of_ble_eq_true rfl)⟩ dL_tool_11 rfl (fun z hz => by
    simp only [List.mem_cons, List.not_mem_nil, or_false] at hz
    rcases hz with rfl
    · exact ⟨by decide, _, bw_6_15, by decide⟩) rfl (by decide) bw_6_16 (by decide) rfl rfl (fun q => ?_)
  refine v_astore (pc := 23) (loc' := [(7, .ref q), (0, .ref (a 0)), (1, .int p1), (2, .int p2), (3, .int p3), (4, .int p4), (5, .int p5), (6, .ref ao)]) C dL_tool_23 (by decide) rfl ?_
  refine v_iconst (pc := 25) (v := (2 : Int32)) C dL_tool_25 (by decide) ?_
  exact v_oret C O dL_tool_26 rfl rfl (Nat.le_of_ble_eq_true rfl) (Nat.le_of_ble_eq_true rfl)
abbrev rmL_trial : Room := { frames := 9, cells := 2, slots := 12, locals := 210 }
theorem kL_41 : CallVok RL 41 yX8_trial cX8_trial 6 (some .int) 3 := ⟨bw_15_19, bw_15_20, bw_15_21, bw_1_2, bw_15_22, ⟨by decide +kernel, by decide +kernel, by decide +kernel⟩⟩
theorem mL_trial_v {l : Launch} {D : va_G} {cs : Nat → ClassId} {a : Nat → Nat} {ao : Nat} (hT : l.stackTraces = false) {S : St} {f : Nat → Int64} {p1 p2 p3 : Int32} {v : Int32} {S' : St} (hF : fX8_trial S p1 p2 p3 = some (.inr v, S')) : MO l D cs a ao yL_trial cL_trial 6 [(0, 12, 15, 24), (0, 12, 19, 13)] rmL_trial [.ref (a 0), .int p1, .int p2, .int p3, .ref ao] S f 0 S' (vp_updL f (0 : Int32).toNatClampNeg v.toInt64) := by
  refine mo_entry [(0, .ref (a 0)), (1, .int p1), (2, .int p2), (3, .int p3), (4, .ref ao)] hT (by decide +kernel) (Nat.le_of_ble_eq_true rfl) rfl (fun E hEl hED hEk C O => ?_)
  subst hEl
  subst hED
  subst hEk
  refine v_aload 4 (pc := 0) C dL_trial_0 rfl ?_
  refine v_iconst (pc := 2) (v := (0 : Int32)) C dL_trial_2 (by decide) ?_
  refine v_aload_n 0 (pc := 3) C dL_trial_3 rfl rfl ?_
  refine v_iload_n 1 (pc := 4) C dL_trial_4 rfl rfl ?_
  refine v_iload_n 2 (pc := 5) C dL_trial_5 rfl rfl ?_
  refine v_iload_n 3 (pc := 6) C dL_trial_6 rfl rfl ?_
  refine v_callO [.int p1, .int p2, .int p3] (pc := 7) (st1 := [.int v, .int 0, .ref ao]) (c1 := 2) (s1 := 12) C O.2.2.1 (mX8_trial C.hT hF) kL_41 (gX_8 (rfl : kdX 0 = 8)) rfl rfl rfl rfl (Nat.le_of_ble_eq_true rfl) ⟨(Nat.le_of_ble_eq_true rfl), (Nat.le_of_ble_eq_true rfl)⟩ ⟨(Nat.le_of_ble_eq_true rfl), (Nat.le_of_ble_eq_true rfl)⟩ dL_trial_7 rfl rfl ?_
  refine v_i2l (pc := 10) C dL_trial_10 ?_
  refine v_last (pc := 11) C O.2.2.1 vi_01 dL_trial_11 ?_
  refine v_goto 23 (pc := 12) C dL_trial_12 (by decide) ?_
  refine v_iconst (pc := 23) (v := (0 : Int32)) C dL_trial_23 (by decide) ?_
  exact v_oret C O dL_trial_24 rfl rfl (Nat.le_of_ble_eq_true rfl) (Nat.le_of_ble_eq_true rfl)
theorem mL_trial_1 {l : Launch} {D : va_G} {cs : Nat → ClassId} {a : Nat → Nat} {ao : Nat} (hT : l.stackTraces = false) {S : St} {f : Nat → Int64} {p1 p2 p3 : Int32} {S' : St} (hF : fX8_trial S p1 p2 p3 = some (.inl "java/lang/IndexOutOfBoundsException", S')) : MO l D cs a ao yL_trial cL_trial 6 [(0, 12, 15, 24), (0, 12, 19, 13)] rmL_trial [.ref (a 0), .int p1, .int p2, .int p3, .ref ao] S f 1 S' f := by
  refine mo_entry [(0, .ref (a 0)), (1, .int p1), (2, .int p2), (3, .int p3), (4, .ref ao)] hT (by decide +kernel) (Nat.le_of_ble_eq_true rfl) rfl (fun E hEl hED hEk C O => ?_)
  subst hEl
  subst hED
  subst hEk
  refine v_aload 4 (pc := 0) C dL_trial_0 rfl ?_
  refine v_iconst (pc := 2) (v := (0 : Int32)) C dL_trial_2 (by decide) ?_
  refine v_aload_n 0 (pc := 3) C dL_trial_3 rfl rfl ?_
  refine v_iload_n 1 (pc := 4) C dL_trial_4 rfl rfl ?_
  refine v_iload_n 2 (pc := 5) C dL_trial_5 rfl rfl ?_
  refine v_iload_n 3 (pc := 6) C dL_trial_6 rfl rfl ?_
  refine v_callOx [.int p1, .int p2, .int p3] (pc := 7) (c1 := 2) (s1 := 12) [] ⟨0, 12, 15, 24⟩ [⟨0, 12, 19, 13⟩] C O (mX8_trial C.hT hF) kL_41 (gX_8 (rfl : kdX 0 = 8)) rfl rfl rfl (Nat.le_of_ble_eq_true rfl) ⟨(Nat.le_of_ble_eq_true rfl), (Nat.le_of_ble_eq_true rfl)⟩ ⟨(Nat.le_of_ble_eq_true rfl), (Nat.le_of_ble_eq_true rfl)⟩ dL_trial_7 rfl (fun z hz => absurd hz List.not_mem_nil) rfl (by decide) bw_10_2 (by decide) rfl rfl (fun q => ?_)
  refine v_astore (pc := 15) (loc' := [(5, .ref q), (0, .ref (a 0)), (1, .int p1), (2, .int p2), (3, .int p3), (4, .ref ao)]) C dL_trial_15 (by decide) rfl ?_
  refine v_iconst (pc := 17) (v := (1 : Int32)) C dL_trial_17 (by decide) ?_
  exact v_oret C O dL_trial_18 rfl rfl (Nat.le_of_ble_eq_true rfl) (Nat.le_of_ble_eq_true rfl)
theorem mL_trial_2 {l : Launch} {D : va_G} {cs : Nat → ClassId} {a : Nat → Nat} {ao : Nat} (hT : l.stackTraces = false) {S : St} {f : Nat → Int64} {p1 p2 p3 : Int32} {S' : St} (hF : fX8_trial S p1 p2 p3 = some (.inl "java/lang/IllegalArgumentException", S')) : MO l D cs a ao yL_trial cL_trial 6 [(0, 12, 15, 24), (0, 12, 19, 13)] rmL_trial [.ref (a 0), .int p1, .int p2, .int p3, .ref ao] S f 2 S' f := by
  refine mo_entry [(0, .ref (a 0)), (1, .int p1), (2, .int p2), (3, .int p3), (4, .ref ao)] hT (by decide +kernel) (Nat.le_of_ble_eq_true rfl) rfl (fun E hEl hED hEk C O => ?_)
  subst hEl
  subst hED
  subst hEk
  refine v_aload 4 (pc := 0) C dL_trial_0 rfl ?_
  refine v_iconst (pc := 2) (v := (0 : Int32)) C dL_trial_2 (by decide) ?_
  refine v_aload_n 0 (pc := 3) C dL_trial_3 rfl rfl ?_
  refine v_iload_n 1 (pc := 4) C dL_trial_4 rfl rfl ?_
  refine v_iload_n 2 (pc := 5) C dL_trial_5 rfl rfl ?_
  refine v_iload_n 3 (pc := 6) C dL_trial_6 rfl rfl ?_
  refine v_callOx [.int p1, .int p2, .int p3] (pc := 7) (c1 := 2) (s1 := 12) [⟨0, 12, 15, 24⟩] ⟨0, 12, 19, 13⟩ [] C O (mX8_trial C.hT hF) kL_41 (gX_8 (rfl : kdX 0 = 8)) rfl rfl rfl (Nat.le_of_ble_eq_true rfl) ⟨(Nat.le_of_ble_eq_true rfl), (Nat.le_of_ble_eq_true rfl)⟩ ⟨(Nat.le_of_ble_eq_true rfl), (Nat.le_of_ble_eq_true rfl)⟩ dL_trial_7 rfl (fun z hz => by
    simp only [List.mem_cons, List.not_mem_nil, or_false] at hz
    rcases hz with rfl
    · exact ⟨by decide, _, bw_10_2, by decide⟩) rfl (by decide) bw_6_15 (by decide) rfl rfl (fun q => ?_)
  refine v_astore (pc := 19) (loc' := [(5, .ref q), (0, .ref (a 0)), (1, .int p1), (2, .int p2), (3, .int p3), (4, .ref ao)]) C dL_trial_19 (by decide) rfl ?_
  refine v_iconst (pc := 21) (v := (2 : Int32)) C dL_trial_21 (by decide) ?_
  exact v_oret C O dL_trial_22 rfl rfl (Nat.le_of_ble_eq_true rfl) (Nat.le_of_ble_eq_true rfl)
abbrev rmL_blank : Room := { frames := 9, cells := 2, slots := 12, locals := 210 }
theorem kL_44 : CallVok RL 44 yX8_blank cX8_blank 4 (some .int) 2 := ⟨bw_16_15, bw_16_16, bw_16_17, bw_1_2, bw_16_18, ⟨by decide +kernel, by decide +kernel, by decide +kernel⟩⟩
theorem mL_blank_v {l : Launch} {D : va_G} {cs : Nat → ClassId} {a : Nat → Nat} {ao : Nat} (hT : l.stackTraces = false) {S : St} {f : Nat → Int64} {p1 p2 : Int32} {v : Int32} (hF : fX8_blank S p1 p2 = some (.inr v)) : MO l D cs a ao yL_blank cL_blank 5 [(0, 10, 13, 24)] rmL_blank [.ref (a 0), .int p1, .int p2, .ref ao] S f 0 S (vp_updL f (0 : Int32).toNatClampNeg v.toInt64) := by
  refine mo_entry [(0, .ref (a 0)), (1, .int p1), (2, .int p2), (3, .ref ao)] hT (by decide +kernel) (Nat.le_of_ble_eq_true rfl) rfl (fun E hEl hED hEk C O => ?_)
  subst hEl
  subst hED
  subst hEk
  refine v_aload_n 3 (pc := 0) C dL_blank_0 rfl rfl ?_
  refine v_iconst (pc := 1) (v := (0 : Int32)) C dL_blank_1 (by decide) ?_
  refine v_aload_n 0 (pc := 2) C dL_blank_2 rfl rfl ?_
  refine v_iload_n 1 (pc := 3) C dL_blank_3 rfl rfl ?_
  refine v_iload_n 2 (pc := 4) C dL_blank_4 rfl rfl ?_
  refine v_callO [.int p1, .int p2] (pc := 5) (st1 := [.int v, .int 0, .ref ao]) (c1 := 2) (s1 := 12) C O.2.2.1 (mX8_blank C.hT hF) kL_44 (gX_8 (rfl : kdX 0 = 8)) rfl rfl rfl rfl (Nat.le_of_ble_eq_true rfl) ⟨(Nat.le_of_ble_eq_true rfl), (Nat.le_of_ble_eq_true rfl)⟩ ⟨(Nat.le_of_ble_eq_true rfl), (Nat.le_of_ble_eq_true rfl)⟩ dL_blank_5 rfl rfl ?_
  refine v_i2l (pc := 8) C dL_blank_8 ?_
  refine v_last (pc := 9) C O.2.2.1 vi_01 dL_blank_9 ?_
  refine v_goto 17 (pc := 10) C dL_blank_10 (by decide) ?_
  refine v_iconst (pc := 17) (v := (0 : Int32)) C dL_blank_17 (by decide) ?_
  exact v_oret C O dL_blank_18 rfl rfl (Nat.le_of_ble_eq_true rfl) (Nat.le_of_ble_eq_true rfl)
theorem mL_blank_1 {l : Launch} {D : va_G} {cs : Nat → ClassId} {a : Nat → Nat} {ao : Nat} (hT : l.stackTraces = false) {S : St} {f : Nat → Int64} {p1 p2 : Int32} (hF : fX8_blank S p1 p2 = some (.inl "java/lang/IndexOutOfBoundsException")) : MO l D cs a ao yL_blank cL_blank 5 [(0, 10, 13, 24)] rmL_blank [.ref (a 0), .int p1, .int p2, .ref ao] S f 1 S f := by
  refine mo_entry [(0, .ref (a 0)), (1, .int p1), (2, .int p2), (3, .ref ao)] hT (by decide +kernel) (Nat.le_of_ble_eq_true rfl) rfl (fun E hEl hED hEk C O => ?_)
  subst hEl
  subst hED
  subst hEk
  refine v_aload_n 3 (pc := 0) C dL_blank_0 rfl rfl ?_
  refine v_iconst (pc := 1) (v := (0 : Int32)) C dL_blank_1 (by decide) ?_
  refine v_aload_n 0 (pc := 2) C dL_blank_2 rfl rfl ?_
  refine v_iload_n 1 (pc := 3) C dL_blank_3 rfl rfl ?_
  refine v_iload_n 2 (pc := 4) C dL_blank_4 rfl rfl ?_
  refine v_callOx [.int p1, .int p2] (pc := 5) (c1 := 2) (s1 := 12) [] ⟨0, 10, 13, 24⟩ [] C O (mX8_blank C.hT hF) kL_44 (gX_8 (rfl : kdX 0 = 8)) rfl rfl rfl (Nat.le_of_ble_eq_true rfl) ⟨(Nat.le_of_ble_eq_true rfl), (Nat.le_of_ble_eq_true rfl)⟩ ⟨(Nat.le_of_ble_eq_true rfl), (Nat.le_of_ble_eq_true rfl)⟩ dL_blank_5 rfl (fun z hz => absurd hz List.not_mem_nil) rfl (by decide) bw_10_2 (by decide) rfl rfl (fun q => ?_)
  refine v_astore (pc := 13) (loc' := [(4, .ref q), (0, .ref (a 0)), (1, .int p1), (2, .int p2), (3, .ref ao)]) C dL_blank_13 (by decide) rfl ?_
  refine v_iconst (pc := 15) (v := (1 : Int32)) C dL_blank_15 (by decide) ?_
  exact v_oret C O dL_blank_16 rfl rfl (Nat.le_of_ble_eq_true rfl) (Nat.le_of_ble_eq_true rfl)
abbrev rmL_why : Room := { frames := 10, cells := 4, slots := 24, locals := 250 }
theorem kL_47 : CallVok RL 47 yX8_why cX8_why 7 (some .int) 4 := ⟨bw_17_2, bw_17_3, bw_17_4, bw_1_2, bw_17_5, ⟨by decide +kernel, by decide +kernel, by decide +kernel⟩⟩
theorem mL_why_v {l : Launch} {D : va_G} {cs : Nat → ClassId} {a : Nat → Nat} {ao : Nat} (hT : l.stackTraces = false) {S : St} {f : Nat → Int64} {p1 p2 p3 p4 : Int32} {v : Int32} {S' : St} (hF : fX8_why S p1 p2 p3 p4 = some (.inr v, S')) : MO l D cs a ao yL_why cL_why 7 [(0, 14, 17, 24), (0, 14, 21, 13)] rmL_why [.ref (a 0), .int p1, .int p2, .int p3, .int p4, .ref ao] S f 0 S' (vp_updL f (0 : Int32).toNatClampNeg v.toInt64) := by
  refine mo_entry [(0, .ref (a 0)), (1, .int p1), (2, .int p2), (3, .int p3), (4, .int p4), (5, .ref ao)] hT (by decide +kernel) (Nat.le_of_ble_eq_true rfl) rfl (fun E hEl hED hEk C O => ?_)
  subst hEl
  subst hED
  subst hEk
  refine v_aload 5 (pc := 0) C dL_why_0 rfl ?_
  refine v_iconst (pc := 2) (v := (0 : Int32)) C dL_why_2 (by decide) ?_
  refine v_aload_n 0 (pc := 3) C dL_why_3 rfl rfl ?_
  refine v_iload_n 1 (pc := 4) C dL_why_4 rfl rfl ?_
  refine v_iload_n 2 (pc := 5) C dL_why_5 rfl rfl ?_
  refine v_iload_n 3 (pc := 6) C dL_why_6 rfl rfl ?_
  refine v_iload 4 (pc := 7) C dL_why_7 rfl ?_
  refine v_callO [.int p1, .int p2, .int p3, .int p4] (pc := 9) (st1 := [.int v, .int 0, .ref ao]) (c1 := 4) (s1 := 24) C O.2.2.1 (mX8_why C.hT hF) kL_47 (gX_8 (rfl : kdX 0 = 8)) rfl rfl rfl rfl (Nat.le_of_ble_eq_true rfl) ⟨(Nat.le_of_ble_eq_true rfl), (Nat.le_of_ble_eq_true rfl)⟩ ⟨(Nat.le_of_ble_eq_true rfl), (Nat.le_of_ble_eq_true rfl)⟩ dL_why_9 rfl rfl ?_
  refine v_i2l (pc := 12) C dL_why_12 ?_
  refine v_last (pc := 13) C O.2.2.1 vi_01 dL_why_13 ?_
  refine v_goto 25 (pc := 14) C dL_why_14 (by decide) ?_
  refine v_iconst (pc := 25) (v := (0 : Int32)) C dL_why_25 (by decide) ?_
  exact v_oret C O dL_why_26 rfl rfl (Nat.le_of_ble_eq_true rfl) (Nat.le_of_ble_eq_true rfl)
theorem mL_why_1 {l : Launch} {D : va_G} {cs : Nat → ClassId} {a : Nat → Nat} {ao : Nat} (hT : l.stackTraces = false) {S : St} {f : Nat → Int64} {p1 p2 p3 p4 : Int32} {S' : St} (hF : fX8_why S p1 p2 p3 p4 = some (.inl "java/lang/IndexOutOfBoundsException", S')) : MO l D cs a ao yL_why cL_why 7 [(0, 14, 17, 24), (0, 14, 21, 13)] rmL_why [.ref (a 0), .int p1, .int p2, .int p3, .int p4, .ref ao] S f 1 S' f := by
  refine mo_entry [(0, .ref (a 0)), (1, .int p1), (2, .int p2), (3, .int p3), (4, .int p4), (5, .ref ao)] hT (by decide +kernel) (Nat.le_of_ble_eq_true rfl) rfl (fun E hEl hED hEk C O => ?_)
  subst hEl
  subst hED
  subst hEk
  refine v_aload 5 (pc := 0) C dL_why_0 rfl ?_
  refine v_iconst (pc := 2) (v := (0 : Int32)) C dL_why_2 (by decide) ?_
  refine v_aload_n 0 (pc := 3) C dL_why_3 rfl rfl ?_
  refine v_iload_n 1 (pc := 4) C dL_why_4 rfl rfl ?_
  refine v_iload_n 2 (pc := 5) C dL_why_5 rfl rfl ?_
  refine v_iload_n 3 (pc := 6) C dL_why_6 rfl rfl ?_
  refine v_iload 4 (pc := 7) C dL_why_7 rfl ?_
  refine v_callOx [.int p1, .int p2, .int p3, .int p4] (pc := 9) (c1 := 4) (s1 := 24) [] ⟨0, 14, 17, 24⟩ [⟨0, 14, 21, 13⟩] C O (mX8_why C.hT hF) kL_47 (gX_8 (rfl : kdX 0 = 8)) rfl rfl rfl (Nat.le_of_ble_eq_true rfl) ⟨(Nat.le_of_ble_eq_true rfl), (Nat.le_of_ble_eq_true rfl)⟩ ⟨(Nat.le_of_ble_eq_true rfl), (Nat.le_of_ble_eq_true rfl)⟩ dL_why_9 rfl (fun z hz => absurd hz List.not_mem_nil) rfl (by decide) bw_10_2 (by decide) rfl rfl (fun q => ?_)
  refine v_astore (pc := 17) (loc' := [(6, .ref q), (0, .ref (a 0)), (1, .int p1), (2, .int p2), (3, .int p3), (4, .int p4), (5, .ref ao)]) C dL_why_17 (by decide) rfl ?_
  refine v_iconst (pc := 19) (v := (1 : Int32)) C dL_why_19 (by decide) ?_
  exact v_oret C O dL_why_20 rfl rfl (Nat.le_of_ble_eq_true rfl) (Nat.le_of_ble_eq_true rfl)
theorem mL_why_2 {l : Launch} {D : va_G} {cs : Nat → ClassId} {a : Nat → Nat} {ao : Nat} (hT : l.stackTraces = false) {S : St} {f : Nat → Int64} {p1 p2 p3 p4 : Int32} {S' : St} (hF : fX8_why S p1 p2 p3 p4 = some (.inl "java/lang/IllegalArgumentException", S')) : MO l D cs a ao yL_why cL_why 7 [(0, 14, 17, 24), (0, 14, 21, 13)] rmL_why [.ref (a 0), .int p1, .int p2, .int p3, .int p4, .ref ao] S f 2 S' f := by
  refine mo_entry [(0, .ref (a 0)), (1, .int p1), (2, .int p2), (3, .int p3), (4, .int p4), (5, .ref ao)] hT (by decide +kernel) (Nat.le_of_ble_eq_true rfl) rfl (fun E hEl hED hEk C O => ?_)
  subst hEl
  subst hED
  subst hEk
  refine v_aload 5 (pc := 0) C dL_why_0 rfl ?_
  refine v_iconst (pc := 2) (v := (0 : Int32)) C dL_why_2 (by decide) ?_
  refine v_aload_n 0 (pc := 3) C dL_why_3 rfl rfl ?_
  refine v_iload_n 1 (pc := 4) C dL_why_4 rfl rfl ?_
  refine v_iload_n 2 (pc := 5) C dL_why_5 rfl rfl ?_
  refine v_iload_n 3 (pc := 6) C dL_why_6 rfl rfl ?_
  refine v_iload 4 (pc := 7) C dL_why_7 rfl ?_
  refine v_callOx [.int p1, .int p2, .int p3, .int p4] (pc := 9) (c1 := 4) (s1 := 24) [⟨0, 14, 17, 24⟩] ⟨0, 14, 21, 13⟩ [] C O (mX8_why C.hT hF) kL_47 (gX_8 (rfl : kdX 0 = 8)) rfl rfl rfl (Nat.le_of_ble_eq_true rfl) ⟨(Nat.le_of_ble_eq_true rfl), (Nat.le_of_ble_eq_true rfl)⟩ ⟨(Nat.le_of_ble_eq_true rfl), (Nat.le_of_ble_eq_true rfl)⟩ dL_why_9 rfl (fun z hz => by
    simp only [List.mem_cons, List.not_mem_nil, or_false] at hz
    rcases hz with rfl
    · exact ⟨by decide, _, bw_10_2, by decide⟩) rfl (by decide) bw_6_15 (by decide) rfl rfl (fun q => ?_)
  refine v_astore (pc := 21) (loc' := [(6, .ref q), (0, .ref (a 0)), (1, .int p1), (2, .int p2), (3, .int p3), (4, .int p4), (5, .ref ao)]) C dL_why_21 (by decide) rfl ?_
  refine v_iconst (pc := 23) (v := (2 : Int32)) C dL_why_23 (by decide) ?_
  exact v_oret C O dL_why_24 rfl rfl (Nat.le_of_ble_eq_true rfl) (Nat.le_of_ble_eq_true rfl)
abbrev rmL_point : Room := { frames := 9, cells := 3, slots := 18, locals := 210 }
theorem kL_50 : CallVok RL 50 yX8_point cX8_point 9 (some .int) 6 := ⟨bw_20_16, bw_20_17, bw_20_18, bw_1_2, bw_20_19, ⟨by decide +kernel, by decide +kernel, by decide +kernel⟩⟩
theorem mL_point_v {l : Launch} {D : va_G} {cs : Nat → ClassId} {a : Nat → Nat} {ao : Nat} (hT : l.stackTraces = false) {S : St} {f : Nat → Int64} {p1 p2 p3 p4 p5 p6 : Int32} {v : Int32} {S' : St} (hF : fX8_point S p1 p2 p3 p4 p5 p6 = some (.inr v, S')) : MO l D cs a ao yL_point cL_point 9 [(0, 18, 21, 24), (0, 18, 25, 13)] rmL_point [.ref (a 0), .int p1, .int p2, .int p3, .int p4, .int p5, .int p6, .ref ao] S f 0 S' (vp_updL f (0 : Int32).toNatClampNeg v.toInt64) := by
  refine mo_entry [(0, .ref (a 0)), (1, .int p1), (2, .int p2), (3, .int p3), (4, .int p4), (5, .int p5), (6, .int p6), (7, .ref ao)] hT (by decide +kernel) (Nat.le_of_ble_eq_true rfl) rfl (fun E hEl hED hEk C O => ?_)
  subst hEl
  subst hED
  subst hEk
  refine v_aload 7 (pc := 0) C dL_point_0 rfl ?_
  refine v_iconst (pc := 2) (v := (0 : Int32)) C dL_point_2 (by decide) ?_
  refine v_aload_n 0 (pc := 3) C dL_point_3 rfl rfl ?_
  refine v_iload_n 1 (pc := 4) C dL_point_4 rfl rfl ?_
  refine v_iload_n 2 (pc := 5) C dL_point_5 rfl rfl ?_
  refine v_iload_n 3 (pc := 6) C dL_point_6 rfl rfl ?_
  refine v_iload 4 (pc := 7) C dL_point_7 rfl ?_
  refine v_iload 5 (pc := 9) C dL_point_9 rfl ?_
  refine v_iload 6 (pc := 11) C dL_point_11 rfl ?_
  refine v_callO [.int p1, .int p2, .int p3, .int p4, .int p5, .int p6] (pc := 13) (st1 := [.int v, .int 0, .ref ao]) (c1 := 3) (s1 := 18) C O.2.2.1 (mX8_point C.hT hF) kL_50 (gX_8 (rfl : kdX 0 = 8)) rfl rfl rfl rfl (Nat.le_of_ble_eq_true rfl) ⟨(Nat.le_of_ble_eq_true rfl), (Nat.le_of_ble_eq_true rfl)⟩ ⟨(Nat.le_of_ble_eq_true rfl), (Nat.le_of_ble_eq_true rfl)⟩ dL_point_13 rfl rfl ?_
  refine v_i2l (pc := 16) C dL_point_16 ?_
  refine v_last (pc := 17) C O.2.2.1 vi_01 dL_point_17 ?_
  refine v_goto 29 (pc := 18) C dL_point_18 (by decide) ?_
  refine v_iconst (pc := 29) (v := (0 : Int32)) C dL_point_29 (by decide) ?_
  exact v_oret C O dL_point_30 rfl rfl (Nat.le_of_ble_eq_true rfl) (Nat.le_of_ble_eq_true rfl)
theorem mL_point_1 {l : Launch} {D : va_G} {cs : Nat → ClassId} {a : Nat → Nat} {ao : Nat} (hT : l.stackTraces = false) {S : St} {f : Nat → Int64} {p1 p2 p3 p4 p5 p6 : Int32} {S' : St} (hF : fX8_point S p1 p2 p3 p4 p5 p6 = some (.inl "java/lang/IndexOutOfBoundsException", S')) : MO l D cs a ao yL_point cL_point 9 [(0, 18, 21, 24), (0, 18, 25, 13)] rmL_point [.ref (a 0), .int p1, .int p2, .int p3, .int p4, .int p5, .int p6, .ref ao] S f 1 S' f := by
  refine mo_entry [(0, .ref (a 0)), (1, .int p1), (2, .int p2), (3, .int p3), (4, .int p4), (5, .int p5), (6, .int p6), (7, .ref ao)] hT (by decide +kernel) (Nat.le_of_ble_eq_true rfl) rfl (fun E hEl hED hEk C O => ?_)
  subst hEl
  subst hED
  subst hEk
  refine v_aload 7 (pc := 0) C dL_point_0 rfl ?_
  refine v_iconst (pc := 2) (v := (0 : Int32)) C dL_point_2 (by decide) ?_
  refine v_aload_n 0 (pc := 3) C dL_point_3 rfl rfl ?_
  refine v_iload_n 1 (pc := 4) C dL_point_4 rfl rfl ?_
  refine v_iload_n 2 (pc := 5) C dL_point_5 rfl rfl ?_
  refine v_iload_n 3 (pc := 6) C dL_point_6 rfl rfl ?_
  refine v_iload 4 (pc := 7) C dL_point_7 rfl ?_
  refine v_iload 5 (pc := 9) C dL_point_9 rfl ?_
  refine v_iload 6 (pc := 11) C dL_point_11 rfl ?_
  refine v_callOx [.int p1, .int p2, .int p3, .int p4, .int p5, .int p6] (pc := 13) (c1 := 3) (s1 := 18) [] ⟨0, 18, 21, 24⟩ [⟨0, 18, 25, 13⟩] C O (mX8_point C.hT hF) kL_50 (gX_8 (rfl : kdX 0 = 8)) rfl rfl rfl (Nat.le_of_ble_eq_true rfl) ⟨(Nat.le_of_ble_eq_true rfl), (Nat.le_of_ble_eq_true rfl)⟩ ⟨(Nat.le_of_ble_eq_true rfl), (Nat.le_of_ble_eq_true rfl)⟩ dL_point_13 rfl (fun z hz => absurd hz List.not_mem_nil) rfl (by decide) bw_10_2 (by decide) rfl rfl (fun q => ?_)
  refine v_astore (pc := 21) (loc' := [(8, .ref q), (0, .ref (a 0)), (1, .int p1), (2, .int p2), (3, .int p3), (4, .int p4), (5, .int p5), (6, .int p6), (7, .ref ao)]) C dL_point_21 (by decide) rfl ?_
  refine v_iconst (pc := 23) (v := (1 : Int32)) C dL_point_23 (by decide) ?_
  exact v_oret C O dL_point_24 rfl rfl (Nat.le_of_ble_eq_true rfl) (Nat.le_of_ble_eq_true rfl)
theorem mL_point_2 {l : Launch} {D : va_G} {cs : Nat → ClassId} {a : Nat → Nat} {ao : Nat} (hT : l.stackTraces = false) {S : St} {f : Nat → Int64} {p1 p2 p3 p4 p5 p6 : Int32} {S' : St} (hF : fX8_point S p1 p2 p3 p4 p5 p6 = some (.inl "java/lang/IllegalArgumentException", S')) : MO l D cs a ao yL_point cL_point 9 [(0, 18, 21, 24), (0, 18, 25, 13)] rmL_point [.ref (a 0), .int p1, .int p2, .int p3, .int p4, .int p5, .int p6, .ref ao] S f 2 S' f := by
  refine mo_entry [(0, .ref (a 0)), (1, .int p1), (2, .int p2), (3, .int p3), (4, .int p4), (5, .int p5), (6, .int p6), (7, .ref ao)] hT (by decide +kernel) (Nat.le_of_ble_eq_true rfl) rfl (fun E hEl hED hEk C O => ?_)
  subst hEl
  subst hED
  subst hEk
  refine v_aload 7 (pc := 0) C dL_point_0 rfl ?_
  refine v_iconst (pc := 2) (v := (0 : Int32)) C dL_point_2 (by decide) ?_
  refine v_aload_n 0 (pc := 3) C dL_point_3 rfl rfl ?_
  refine v_iload_n 1 (pc := 4) C dL_point_4 rfl rfl ?_
  refine v_iload_n 2 (pc := 5) C dL_point_5 rfl rfl ?_
  refine v_iload_n 3 (pc := 6) C dL_point_6 rfl rfl ?_
  refine v_iload 4 (pc := 7) C dL_point_7 rfl ?_
  refine v_iload 5 (pc := 9) C dL_point_9 rfl ?_
  refine v_iload 6 (pc := 11) C dL_point_11 rfl ?_
  refine v_callOx [.int p1, .int p2, .int p3, .int p4, .int p5, .int p6] (pc := 13) (c1 := 3) (s1 := 18) [⟨0, 18, 21, 24⟩] ⟨0, 18, 25, 13⟩ [] C O (mX8_point C.hT hF) kL_50 (gX_8 (rfl : kdX 0 = 8)) rfl rfl rfl (Nat.le_of_ble_eq_true rfl) ⟨(Nat.le_of_ble_eq_true rfl), (Nat.le_of_ble_eq_true rfl)⟩ ⟨(Nat.le_of_ble_eq_true rfl), (Nat.le_of_ble_eq_true rfl)⟩ dL_point_13 rfl (fun z hz => by
    simp only [List.mem_cons, List.not_mem_nil, or_false] at hz
    rcases hz with rfl
    · exact ⟨by decide, _, bw_10_2, by decide⟩) rfl (by decide) bw_6_15 (by decide) rfl rfl (fun q => ?_)
  refine v_astore (pc := 25) (loc' := [(8, .ref q), (0, .ref (a 0)), (1, .int p1), (2, .int p2), (3, .int p3), (4, .int p4), (5, .int p5), (6, .int p6), (7, .ref ao)]) C dL_point_25 (by decide) rfl ?_
  refine v_iconst (pc := 27) (v := (2 : Int32)) C dL_point_27 (by decide) ?_
  exact v_oret C O dL_point_28 rfl rfl (Nat.le_of_ble_eq_true rfl) (Nat.le_of_ble_eq_true rfl)
abbrev rmL_flips : Room := { frames := 12, cells := 2, slots := 12, locals := 330 }
theorem kL_54 : CallVok RL 54 yX8_flips cX8_flips 4 (some .int) 2 := ⟨bw_21_8, bw_21_9, bw_21_10, bw_1_2, bw_21_11, ⟨by decide +kernel, by decide +kernel, by decide +kernel⟩⟩
theorem mL_flips_v {l : Launch} {D : va_G} {cs : Nat → ClassId} {a : Nat → Nat} {ao : Nat} (hT : l.stackTraces = false) {S : St} {f : Nat → Int64} {p1 p2 : Int32} {v : Int32} {S' : St} (hF : fX8_flips S p1 p2 = some (.inr v, S')) : MO l D cs a ao yL_flips cL_flips 5 [(0, 10, 13, 24)] rmL_flips [.ref (a 0), .int p1, .int p2, .ref ao] S f 0 S' (vp_updL f (0 : Int32).toNatClampNeg v.toInt64) := by
  refine mo_entry [(0, .ref (a 0)), (1, .int p1), (2, .int p2), (3, .ref ao)] hT (by decide +kernel) (Nat.le_of_ble_eq_true rfl) rfl (fun E hEl hED hEk C O => ?_)
  subst hEl
  subst hED
  subst hEk
  refine v_aload_n 3 (pc := 0) C dL_flips_0 rfl rfl ?_
  refine v_iconst (pc := 1) (v := (0 : Int32)) C dL_flips_1 (by decide) ?_
  refine v_aload_n 0 (pc := 2) C dL_flips_2 rfl rfl ?_
  refine v_iload_n 1 (pc := 3) C dL_flips_3 rfl rfl ?_
  refine v_iload_n 2 (pc := 4) C dL_flips_4 rfl rfl ?_
  refine v_callO [.int p1, .int p2] (pc := 5) (st1 := [.int v, .int 0, .ref ao]) (c1 := 2) (s1 := 12) C O.2.2.1 (mX8_flips C.hT hF) kL_54 (gX_8 (rfl : kdX 0 = 8)) rfl rfl rfl rfl (Nat.le_of_ble_eq_true rfl) ⟨(Nat.le_of_ble_eq_true rfl), (Nat.le_of_ble_eq_true rfl)⟩ ⟨(Nat.le_of_ble_eq_true rfl), (Nat.le_of_ble_eq_true rfl)⟩ dL_flips_5 rfl rfl ?_
  refine v_i2l (pc := 8) C dL_flips_8 ?_
  refine v_last (pc := 9) C O.2.2.1 vi_01 dL_flips_9 ?_
  refine v_goto 17 (pc := 10) C dL_flips_10 (by decide) ?_
  refine v_iconst (pc := 17) (v := (0 : Int32)) C dL_flips_17 (by decide) ?_
  exact v_oret C O dL_flips_18 rfl rfl (Nat.le_of_ble_eq_true rfl) (Nat.le_of_ble_eq_true rfl)
theorem mL_flips_1 {l : Launch} {D : va_G} {cs : Nat → ClassId} {a : Nat → Nat} {ao : Nat} (hT : l.stackTraces = false) {S : St} {f : Nat → Int64} {p1 p2 : Int32} {S' : St} (hF : fX8_flips S p1 p2 = some (.inl "java/lang/IndexOutOfBoundsException", S')) : MO l D cs a ao yL_flips cL_flips 5 [(0, 10, 13, 24)] rmL_flips [.ref (a 0), .int p1, .int p2, .ref ao] S f 1 S' f := by
  refine mo_entry [(0, .ref (a 0)), (1, .int p1), (2, .int p2), (3, .ref ao)] hT (by decide +kernel) (Nat.le_of_ble_eq_true rfl) rfl (fun E hEl hED hEk C O => ?_)
  subst hEl
  subst hED
  subst hEk
  refine v_aload_n 3 (pc := 0) C dL_flips_0 rfl rfl ?_
  refine v_iconst (pc := 1) (v := (0 : Int32)) C dL_flips_1 (by decide) ?_
  refine v_aload_n 0 (pc := 2) C dL_flips_2 rfl rfl ?_
  refine v_iload_n 1 (pc := 3) C dL_flips_3 rfl rfl ?_
  refine v_iload_n 2 (pc := 4) C dL_flips_4 rfl rfl ?_
  refine v_callOx [.int p1, .int p2] (pc := 5) (c1 := 2) (s1 := 12) [] ⟨0, 10, 13, 24⟩ [] C O (mX8_flips C.hT hF) kL_54 (gX_8 (rfl : kdX 0 = 8)) rfl rfl rfl (Nat.le_of_ble_eq_true rfl) ⟨(Nat.le_of_ble_eq_true rfl), (Nat.le_of_ble_eq_true rfl)⟩ ⟨(Nat.le_of_ble_eq_true rfl), (Nat.le_of_ble_eq_true rfl)⟩ dL_flips_5 rfl (fun z hz => absurd hz List.not_mem_nil) rfl (by decide) bw_10_2 (by decide) rfl rfl (fun q => ?_)
  refine v_astore (pc := 13) (loc' := [(4, .ref q), (0, .ref (a 0)), (1, .int p1), (2, .int p2), (3, .ref ao)]) C dL_flips_13 (by decide) rfl ?_
  refine v_iconst (pc := 15) (v := (1 : Int32)) C dL_flips_15 (by decide) ?_
  exact v_oret C O dL_flips_16 rfl rfl (Nat.le_of_ble_eq_true rfl) (Nat.le_of_ble_eq_true rfl)
abbrev rmL_flipsAnew : Room := { frames := 18, cells := 2, slots := 12, locals := 570 }
theorem kL_57 : CallVok RL 57 yX8_flipsAnew cX8_flipsAnew 4 (some .int) 2 := ⟨bw_23_15, bw_23_16, bw_23_17, bw_1_2, bw_23_18, ⟨by decide +kernel, by decide +kernel, by decide +kernel⟩⟩
theorem mL_flipsAnew_v {l : Launch} {D : va_G} {cs : Nat → ClassId} {a : Nat → Nat} {ao : Nat} (hT : l.stackTraces = false) {S : St} {f : Nat → Int64} {p1 p2 : Int32} {v : Int32} {S' : St} (hF : fX8_flipsAnew S p1 p2 = some (.inr v, S')) : MO l D cs a ao yL_flipsAnew cL_flipsAnew 5 [(0, 10, 13, 24)] rmL_flipsAnew [.ref (a 0), .int p1, .int p2, .ref ao] S f 0 S' (vp_updL f (0 : Int32).toNatClampNeg v.toInt64) := by
  refine mo_entry [(0, .ref (a 0)), (1, .int p1), (2, .int p2), (3, .ref ao)] hT (by decide +kernel) (Nat.le_of_ble_eq_true rfl) rfl (fun E hEl hED hEk C O => ?_)
  subst hEl
  subst hED
  subst hEk
  refine v_aload_n 3 (pc := 0) C dL_flipsAnew_0 rfl rfl ?_
  refine v_iconst (pc := 1) (v := (0 : Int32)) C dL_flipsAnew_1 (by decide) ?_
  refine v_aload_n 0 (pc := 2) C dL_flipsAnew_2 rfl rfl ?_
  refine v_iload_n 1 (pc := 3) C dL_flipsAnew_3 rfl rfl ?_
  refine v_iload_n 2 (pc := 4) C dL_flipsAnew_4 rfl rfl ?_
  refine v_callO [.int p1, .int p2] (pc := 5) (st1 := [.int v, .int 0, .ref ao]) (c1 := 2) (s1 := 12) C O.2.2.1 (mX8_flipsAnew C.hT hF) kL_57 (gX_8 (rfl : kdX 0 = 8)) rfl rfl rfl rfl (Nat.le_of_ble_eq_true rfl) ⟨(Nat.le_of_ble_eq_true rfl), (Nat.le_of_ble_eq_true rfl)⟩ ⟨(Nat.le_of_ble_eq_true rfl), (Nat.le_of_ble_eq_true rfl)⟩ dL_flipsAnew_5 rfl rfl ?_
  refine v_i2l (pc := 8) C dL_flipsAnew_8 ?_
  refine v_last (pc := 9) C O.2.2.1 vi_01 dL_flipsAnew_9 ?_
  refine v_goto 17 (pc := 10) C dL_flipsAnew_10 (by decide) ?_
  refine v_iconst (pc := 17) (v := (0 : Int32)) C dL_flipsAnew_17 (by decide) ?_
  exact v_oret C O dL_flipsAnew_18 rfl rfl (Nat.le_of_ble_eq_true rfl) (Nat.le_of_ble_eq_true rfl)
theorem mL_flipsAnew_1 {l : Launch} {D : va_G} {cs : Nat → ClassId} {a : Nat → Nat} {ao : Nat} (hT : l.stackTraces = false) {S : St} {f : Nat → Int64} {p1 p2 : Int32} {S' : St} (hF : fX8_flipsAnew S p1 p2 = some (.inl "java/lang/IndexOutOfBoundsException", S')) : MO l D cs a ao yL_flipsAnew cL_flipsAnew 5 [(0, 10, 13, 24)] rmL_flipsAnew [.ref (a 0), .int p1, .int p2, .ref ao] S f 1 S' f := by
  refine mo_entry [(0, .ref (a 0)), (1, .int p1), (2, .int p2), (3, .ref ao)] hT (by decide +kernel) (Nat.le_of_ble_eq_true rfl) rfl (fun E hEl hED hEk C O => ?_)
  subst hEl
  subst hED
  subst hEk
  refine v_aload_n 3 (pc := 0) C dL_flipsAnew_0 rfl rfl ?_
  refine v_iconst (pc := 1) (v := (0 : Int32)) C dL_flipsAnew_1 (by decide) ?_
  refine v_aload_n 0 (pc := 2) C dL_flipsAnew_2 rfl rfl ?_
  refine v_iload_n 1 (pc := 3) C dL_flipsAnew_3 rfl rfl ?_
  refine v_iload_n 2 (pc := 4) C dL_flipsAnew_4 rfl rfl ?_
  refine v_callOx [.int p1, .int p2] (pc := 5) (c1 := 2) (s1 := 12) [] ⟨0, 10, 13, 24⟩ [] C O (mX8_flipsAnew C.hT hF) kL_57 (gX_8 (rfl : kdX 0 = 8)) rfl rfl rfl (Nat.le_of_ble_eq_true rfl) ⟨(Nat.le_of_ble_eq_true rfl), (Nat.le_of_ble_eq_true rfl)⟩ ⟨(Nat.le_of_ble_eq_true rfl), (Nat.le_of_ble_eq_true rfl)⟩ dL_flipsAnew_5 rfl (fun z hz => absurd hz List.not_mem_nil) rfl (by decide) bw_10_2 (by decide) rfl rfl (fun q => ?_)
  refine v_astore (pc := 13) (loc' := [(4, .ref q), (0, .ref (a 0)), (1, .int p1), (2, .int p2), (3, .ref ao)]) C dL_flipsAnew_13 (by decide) rfl ?_
  refine v_iconst (pc := 15) (v := (1 : Int32)) C dL_flipsAnew_15 (by decide) ?_
  exact v_oret C O dL_flipsAnew_16 rfl rfl (Nat.le_of_ble_eq_true rfl) (Nat.le_of_ble_eq_true rfl)
abbrev rmL_ordered : Room := { frames := 12, cells := 3, slots := 18, locals := 330 }
theorem kL_60 : CallVok RL 60 yX8_ordered cX8_ordered 6 (some .int) 3 := ⟨bw_24_9, bw_24_10, bw_24_11, bw_1_2, bw_24_12, ⟨by decide +kernel, by decide +kernel, by decide +kernel⟩⟩
theorem mL_ordered_v {l : Launch} {D : va_G} {cs : Nat → ClassId} {a : Nat → Nat} {ao : Nat} (hT : l.stackTraces = false) {S : St} {f : Nat → Int64} {p1 p2 p3 : Int32} {v : Int32} {S' : St} (hF : fX8_ordered S p1 p2 p3 = some (.inr v, S')) : MO l D cs a ao yL_ordered cL_ordered 6 [(0, 12, 15, 24)] rmL_ordered [.ref (a 0), .int p1, .int p2, .int p3, .ref ao] S f 0 S' (vp_updL f (0 : Int32).toNatClampNeg v.toInt64) := by
  refine mo_entry [(0, .ref (a 0)), (1, .int p1), (2, .int p2), (3, .int p3), (4, .ref ao)] hT (by decide +kernel) (Nat.le_of_ble_eq_true rfl) rfl (fun E hEl hED hEk C O => ?_)
  subst hEl
  subst hED
  subst hEk
  refine v_aload 4 (pc := 0) C dL_ordered_0 rfl ?_
  refine v_iconst (pc := 2) (v := (0 : Int32)) C dL_ordered_2 (by decide) ?_
  refine v_aload_n 0 (pc := 3) C dL_ordered_3 rfl rfl ?_
  refine v_iload_n 1 (pc := 4) C dL_ordered_4 rfl rfl ?_
  refine v_iload_n 2 (pc := 5) C dL_ordered_5 rfl rfl ?_
  refine v_iload_n 3 (pc := 6) C dL_ordered_6 rfl rfl ?_
  refine v_callO [.int p1, .int p2, .int p3] (pc := 7) (st1 := [.int v, .int 0, .ref ao]) (c1 := 3) (s1 := 18) C O.2.2.1 (mX8_ordered C.hT hF) kL_60 (gX_8 (rfl : kdX 0 = 8)) rfl rfl rfl rfl (Nat.le_of_ble_eq_true rfl) ⟨(Nat.le_of_ble_eq_true rfl), (Nat.le_of_ble_eq_true rfl)⟩ ⟨(Nat.le_of_ble_eq_true rfl), (Nat.le_of_ble_eq_true rfl)⟩ dL_ordered_7 rfl rfl ?_
  refine v_i2l (pc := 10) C dL_ordered_10 ?_
  refine v_last (pc := 11) C O.2.2.1 vi_01 dL_ordered_11 ?_
  refine v_goto 19 (pc := 12) C dL_ordered_12 (by decide) ?_
  refine v_iconst (pc := 19) (v := (0 : Int32)) C dL_ordered_19 (by decide) ?_
  exact v_oret C O dL_ordered_20 rfl rfl (Nat.le_of_ble_eq_true rfl) (Nat.le_of_ble_eq_true rfl)
theorem mL_ordered_1 {l : Launch} {D : va_G} {cs : Nat → ClassId} {a : Nat → Nat} {ao : Nat} (hT : l.stackTraces = false) {S : St} {f : Nat → Int64} {p1 p2 p3 : Int32} {S' : St} (hF : fX8_ordered S p1 p2 p3 = some (.inl "java/lang/IndexOutOfBoundsException", S')) : MO l D cs a ao yL_ordered cL_ordered 6 [(0, 12, 15, 24)] rmL_ordered [.ref (a 0), .int p1, .int p2, .int p3, .ref ao] S f 1 S' f := by
  refine mo_entry [(0, .ref (a 0)), (1, .int p1), (2, .int p2), (3, .int p3), (4, .ref ao)] hT (by decide +kernel) (Nat.le_of_ble_eq_true rfl) rfl (fun E hEl hED hEk C O => ?_)
  subst hEl
  subst hED
  subst hEk
  refine v_aload 4 (pc := 0) C dL_ordered_0 rfl ?_
  refine v_iconst (pc := 2) (v := (0 : Int32)) C dL_ordered_2 (by decide) ?_
  refine v_aload_n 0 (pc := 3) C dL_ordered_3 rfl rfl ?_
  refine v_iload_n 1 (pc := 4) C dL_ordered_4 rfl rfl ?_
  refine v_iload_n 2 (pc := 5) C dL_ordered_5 rfl rfl ?_
  refine v_iload_n 3 (pc := 6) C dL_ordered_6 rfl rfl ?_
  refine v_callOx [.int p1, .int p2, .int p3] (pc := 7) (c1 := 3) (s1 := 18) [] ⟨0, 12, 15, 24⟩ [] C O (mX8_ordered C.hT hF) kL_60 (gX_8 (rfl : kdX 0 = 8)) rfl rfl rfl (Nat.le_of_ble_eq_true rfl) ⟨(Nat.le_of_ble_eq_true rfl), (Nat.le_of_ble_eq_true rfl)⟩ ⟨(Nat.le_of_ble_eq_true rfl), (Nat.le_of_ble_eq_true rfl)⟩ dL_ordered_7 rfl (fun z hz => absurd hz List.not_mem_nil) rfl (by decide) bw_10_2 (by decide) rfl rfl (fun q => ?_)
  refine v_astore (pc := 15) (loc' := [(5, .ref q), (0, .ref (a 0)), (1, .int p1), (2, .int p2), (3, .int p3), (4, .ref ao)]) C dL_ordered_15 (by decide) rfl ?_
  refine v_iconst (pc := 17) (v := (1 : Int32)) C dL_ordered_17 (by decide) ?_
  exact v_oret C O dL_ordered_18 rfl rfl (Nat.le_of_ble_eq_true rfl) (Nat.le_of_ble_eq_true rfl)
abbrev rmL_want : Room := { frames := 9, cells := 2, slots := 12, locals := 210 }
theorem kL_63 : CallVok RL 63 yX8_want cX8_want 3 (some .int) 2 := ⟨bw_24_22, bw_24_23, bw_25_0, bw_1_2, bw_25_1, ⟨by decide +kernel, by decide +kernel, by decide +kernel⟩⟩
theorem mL_want_v {l : Launch} {D : va_G} {cs : Nat → ClassId} {a : Nat → Nat} {ao : Nat} (hT : l.stackTraces = false) {S : St} {f : Nat → Int64} {p1 p2 : Int32} {v : Int32} {S' : St} (hF : fX8_want S p1 p2 = some (.inr v, S')) : MO l D cs a ao yL_want cL_want 5 [(0, 10, 13, 24), (0, 10, 17, 13), (0, 10, 21, 15)] rmL_want [.ref (a 0), .int p1, .int p2, .ref ao] S f 0 S' (vp_updL f (0 : Int32).toNatClampNeg v.toInt64) := by
  refine mo_entry [(0, .ref (a 0)), (1, .int p1), (2, .int p2), (3, .ref ao)] hT (by decide +kernel) (Nat.le_of_ble_eq_true rfl) rfl (fun E hEl hED hEk C O => ?_)
  subst hEl
  subst hED
  subst hEk
  refine v_aload_n 3 (pc := 0) C dL_want_0 rfl rfl ?_
  refine v_iconst (pc := 1) (v := (0 : Int32)) C dL_want_1 (by decide) ?_
  refine v_aload_n 0 (pc := 2) C dL_want_2 rfl rfl ?_
  refine v_iload_n 1 (pc := 3) C dL_want_3 rfl rfl ?_
  refine v_iload_n 2 (pc := 4) C dL_want_4 rfl rfl ?_
  refine v_callO [.int p1, .int p2] (pc := 5) (st1 := [.int v, .int 0, .ref ao]) (c1 := 2) (s1 := 12) C O.2.2.1 (mX8_want C.hT hF) kL_63 (gX_8 (rfl : kdX 0 = 8)) rfl rfl rfl rfl (Nat.le_of_ble_eq_true rfl) ⟨(Nat.le_of_ble_eq_true rfl), (Nat.le_of_ble_eq_true rfl)⟩ ⟨(Nat.le_of_ble_eq_true rfl), (Nat.le_of_ble_eq_true rfl)⟩ dL_want_5 rfl rfl ?_
  refine v_i2l (pc := 8) C dL_want_8 ?_
  refine v_last (pc := 9) C O.2.2.1 vi_01 dL_want_9 ?_
  refine v_goto 25 (pc := 10) C dL_want_10 (by decide) ?_
  refine v_iconst (pc := 25) (v := (0 : Int32)) C dL_want_25 (by decide) ?_
  exact v_oret C O dL_want_26 rfl rfl (Nat.le_of_ble_eq_true rfl) (Nat.le_of_ble_eq_true rfl)
theorem mL_want_1 {l : Launch} {D : va_G} {cs : Nat → ClassId} {a : Nat → Nat} {ao : Nat} (hT : l.stackTraces = false) {S : St} {f : Nat → Int64} {p1 p2 : Int32} {S' : St} (hF : fX8_want S p1 p2 = some (.inl "java/lang/IndexOutOfBoundsException", S')) : MO l D cs a ao yL_want cL_want 5 [(0, 10, 13, 24), (0, 10, 17, 13), (0, 10, 21, 15)] rmL_want [.ref (a 0), .int p1, .int p2, .ref ao] S f 1 S' f := by
  refine mo_entry [(0, .ref (a 0)), (1, .int p1), (2, .int p2), (3, .ref ao)] hT (by decide +kernel) (Nat.le_of_ble_eq_true rfl) rfl (fun E hEl hED hEk C O => ?_)
  subst hEl
  subst hED
  subst hEk
  refine v_aload_n 3 (pc := 0) C dL_want_0 rfl rfl ?_
  refine v_iconst (pc := 1) (v := (0 : Int32)) C dL_want_1 (by decide) ?_
  refine v_aload_n 0 (pc := 2) C dL_want_2 rfl rfl ?_
  refine v_iload_n 1 (pc := 3) C dL_want_3 rfl rfl ?_
  refine v_iload_n 2 (pc := 4) C dL_want_4 rfl rfl ?_
  refine v_callOx [.int p1, .int p2] (pc := 5) (c1 := 2) (s1 := 12) [] ⟨0, 10, 13, 24⟩ [⟨0, 10, 17, 13⟩, ⟨0, 10, 21, 15⟩] C O (mX8_want C.hT hF) kL_63 (gX_8 (rfl : kdX 0 = 8)) rfl rfl rfl (Nat.le_of_ble_eq_true rfl) ⟨(Nat.le_of_ble_eq_true rfl), (Nat.le_of_ble_eq_true rfl)⟩ ⟨(Nat.le_of_ble_eq_true rfl), (Nat.le_of_ble_eq_true rfl)⟩ dL_want_5 rfl (fun z hz => absurd hz List.not_mem_nil) rfl (by decide) bw_10_2 (by decide) rfl rfl (fun q => ?_)
  refine v_astore (pc := 13) (loc' := [(4, .ref q), (0, .ref (a 0)), (1, .int p1), (2, .int p2), (3, .ref ao)]) C dL_want_13 (by decide) rfl ?_
  refine v_iconst (pc := 15) (v := (1 : Int32)) C dL_want_15 (by decide) ?_
  exact v_oret C O dL_want_16 rfl rfl (Nat.le_of_ble_eq_true rfl) (Nat.le_of_ble_eq_true rfl)
theorem mL_want_2 {l : Launch} {D : va_G} {cs : Nat → ClassId} {a : Nat → Nat} {ao : Nat} (hT : l.stackTraces = false) {S : St} {f : Nat → Int64} {p1 p2 : Int32} {S' : St} (hF : fX8_want S p1 p2 = some (.inl "java/lang/IllegalArgumentException", S')) : MO l D cs a ao yL_want cL_want 5 [(0, 10, 13, 24), (0, 10, 17, 13), (0, 10, 21, 15)] rmL_want [.ref (a 0), .int p1, .int p2, .ref ao] S f 2 S' f := by
  refine mo_entry [(0, .ref (a 0)), (1, .int p1), (2, .int p2), (3, .ref ao)] hT (by decide +kernel) (Nat.le_of_ble_eq_true rfl) rfl (fun E hEl hED hEk C O => ?_)
  subst hEl
  subst hED
  subst hEk
  refine v_aload_n 3 (pc := 0) C dL_want_0 rfl rfl ?_
  refine v_iconst (pc := 1) (v := (0 : Int32)) C dL_want_1 (by decide) ?_
  refine v_aload_n 0 (pc := 2) C dL_want_2 rfl rfl ?_
  refine v_iload_n 1 (pc := 3) C dL_want_3 rfl rfl ?_
  refine v_iload_n 2 (pc := 4) C dL_want_4 rfl rfl ?_
  refine v_callOx [.int p1, .int p2] (pc := 5) (c1 := 2) (s1 := 12) [⟨0, 10, 13, 24⟩] ⟨0, 10, 17, 13⟩ [⟨0, 10, 21, 15⟩] C O (mX8_want C.hT hF) kL_63 (gX_8 (rfl : kdX 0 = 8)) rfl rfl rfl (Nat.le_of_ble_eq_true rfl) ⟨(Nat.le_of_ble_eq_true rfl), (Nat.le_of_ble_eq_true rfl)⟩ ⟨(Nat.le_of_ble_eq_true rfl), (Nat.le_of_ble_eq_true rfl)⟩ dL_want_5 rfl (fun z hz => by
    simp only [List.mem_cons, List.not_mem_nil, or_false] at hz
    rcases hz with rfl
    · exact ⟨by decide, _, bw_10_2, by decide⟩) rfl (by decide) bw_6_15 (by decide) rfl rfl (fun q => ?_)
  refine v_astore (pc := 17) (loc' := [(4, .ref q), (0, .ref (a 0)), (1, .int p1), (2, .int p2), (3, .ref ao)]) C dL_want_17 (by decide) rfl ?_
  refine v_iconst (pc := 19) (v := (2 : Int32)) C dL_want_19 (by decide) ?_
  exact v_oret C O dL_want_20 rfl rfl (Nat.le_of_ble_eq_true rfl) (Nat.le_of_ble_eq_true rfl)
theorem mL_want_3 {l : Launch} {D : va_G} {cs : Nat → ClassId} {a : Nat → Nat} {ao : Nat} (hT : l.stackTraces = false) {S : St} {f : Nat → Int64} {p1 p2 : Int32} {S' : St} (hF : fX8_want S p1 p2 = some (.inl "java/lang/IllegalStateException", S')) : MO l D cs a ao yL_want cL_want 5 [(0, 10, 13, 24), (0, 10, 17, 13), (0, 10, 21, 15)] rmL_want [.ref (a 0), .int p1, .int p2, .ref ao] S f 3 S' f := by
  refine mo_entry [(0, .ref (a 0)), (1, .int p1), (2, .int p2), (3, .ref ao)] hT (by decide +kernel) (Nat.le_of_ble_eq_true rfl) rfl (fun E hEl hED hEk C O => ?_)
  subst hEl
  subst hED
  subst hEk
  refine v_aload_n 3 (pc := 0) C dL_want_0 rfl rfl ?_
  refine v_iconst (pc := 1) (v := (0 : Int32)) C dL_want_1 (by decide) ?_
  refine v_aload_n 0 (pc := 2) C dL_want_2 rfl rfl ?_
  refine v_iload_n 1 (pc := 3) C dL_want_3 rfl rfl ?_
  refine v_iload_n 2 (pc := 4) C dL_want_4 rfl rfl ?_
  refine v_callOx [.int p1, .int p2] (pc := 5) (c1 := 2) (s1 := 12) [⟨0, 10, 13, 24⟩, ⟨0, 10, 17, 13⟩] ⟨0, 10, 21, 15⟩ [] C O (mX8_want C.hT hF) kL_63 (gX_8 (rfl : kdX 0 = 8)) rfl rfl rfl (Nat.le_of_ble_eq_true rfl) ⟨(Nat.le_of_ble_eq_true rfl), (Nat.le_of_ble_eq_true rfl)⟩ ⟨(Nat.le_of_ble_eq_true rfl), (Nat.le_of_ble_eq_true rfl)⟩ dL_want_5 rfl (fun z hz => by
    simp only [List.mem_cons, List.not_mem_nil, or_false] at hz
    rcases hz with rfl | rfl
    · exact ⟨by decide, _, bw_10_2, by decide⟩
    · exact ⟨by decide, _, bw_6_15, by decide⟩) rfl (by decide) bw_6_16 (by decide) rfl rfl (fun q => ?_)
  refine v_astore (pc := 21) (loc' := [(4, .ref q), (0, .ref (a 0)), (1, .int p1), (2, .int p2), (3, .ref ao)]) C dL_want_21 (by decide) rfl ?_
  refine v_iconst (pc := 23) (v := (3 : Int32)) C dL_want_23 (by decide) ?_
  exact v_oret C O dL_want_24 rfl rfl (Nat.le_of_ble_eq_true rfl) (Nat.le_of_ble_eq_true rfl)
abbrev rmL_nest : Room := { frames := 11, cells := 2, slots := 12, locals := 290 }
theorem kL_66 : CallVok RL 66 yX8_nest cX8_nest 7 (some .long) 4 := ⟨bw_25_22, bw_25_23, bw_26_0, bw_1_2, bw_26_1, ⟨by decide +kernel, by decide +kernel, by decide +kernel⟩⟩
theorem mL_nest_v {l : Launch} {D : va_G} {cs : Nat → ClassId} {a : Nat → Nat} {ao : Nat} (hT : l.stackTraces = false) {S : St} {f : Nat → Int64} {p1 p2 p3 p4 : Int32} {v : Int64} {S' : St} (hF : fX8_nest S p1 p2 p3 p4 = some (.inr v, S')) : MO l D cs a ao yL_nest cL_nest 7 [(0, 13, 16, 24), (0, 13, 20, 13)] rmL_nest [.ref (a 0), .int p1, .int p2, .int p3, .int p4, .ref ao] S f 0 S' (vp_updL f (0 : Int32).toNatClampNeg v) := by
  refine mo_entry [(0, .ref (a 0)), (1, .int p1), (2, .int p2), (3, .int p3), (4, .int p4), (5, .ref ao)] hT (by decide +kernel) (Nat.le_of_ble_eq_true rfl) rfl (fun E hEl hED hEk C O => ?_)
  subst hEl
  subst hED
  subst hEk
  refine v_aload 5 (pc := 0) C dL_nest_0 rfl ?_
  refine v_iconst (pc := 2) (v := (0 : Int32)) C dL_nest_2 (by decide) ?_
  refine v_aload_n 0 (pc := 3) C dL_nest_3 rfl rfl ?_
  refine v_iload_n 1 (pc := 4) C dL_nest_4 rfl rfl ?_
  refine v_iload_n 2 (pc := 5) C dL_nest_5 rfl rfl ?_
  refine v_iload_n 3 (pc := 6) C dL_nest_6 rfl rfl ?_
  refine v_iload 4 (pc := 7) C dL_nest_7 rfl ?_
  refine v_callO [.int p1, .int p2, .int p3, .int p4] (pc := 9) (st1 := [.long v, .int 0, .ref ao]) (c1 := 2) (s1 := 12) C O.2.2.1 (mX8_nest C.hT hF) kL_66 (gX_8 (rfl : kdX 0 = 8)) rfl rfl rfl rfl (Nat.le_of_ble_eq_true rfl) ⟨(Nat.le_of_ble_eq_true rfl), (Nat.le_of_ble_eq_true rfl)⟩ ⟨(Nat.le_of_ble_eq_true rfl), (Nat.le_of_ble_eq_true rfl)⟩ dL_nest_9 rfl rfl ?_
  refine v_last (pc := 12) C O.2.2.1 vi_01 dL_nest_12 ?_
  refine v_goto 24 (pc := 13) C dL_nest_13 (by decide) ?_
  refine v_iconst (pc := 24) (v := (0 : Int32)) C dL_nest_24 (by decide) ?_
  exact v_oret C O dL_nest_25 rfl rfl (Nat.le_of_ble_eq_true rfl) (Nat.le_of_ble_eq_true rfl)
theorem mL_nest_1 {l : Launch} {D : va_G} {cs : Nat → ClassId} {a : Nat → Nat} {ao : Nat} (hT : l.stackTraces = false) {S : St} {f : Nat → Int64} {p1 p2 p3 p4 : Int32} {S' : St} (hF : fX8_nest S p1 p2 p3 p4 = some (.inl "java/lang/IndexOutOfBoundsException", S')) : MO l D cs a ao yL_nest cL_nest 7 [(0, 13, 16, 24), (0, 13, 20, 13)] rmL_nest [.ref (a 0), .int p1, .int p2, .int p3, .int p4, .ref ao] S f 1 S' f := by
  refine mo_entry [(0, .ref (a 0)), (1, .int p1), (2, .int p2), (3, .int p3), (4, .int p4), (5, .ref ao)] hT (by decide +kernel) (Nat.le_of_ble_eq_true rfl) rfl (fun E hEl hED hEk C O => ?_)
  subst hEl
  subst hED
  subst hEk
  refine v_aload 5 (pc := 0) C dL_nest_0 rfl ?_
  refine v_iconst (pc := 2) (v := (0 : Int32)) C dL_nest_2 (by decide) ?_
  refine v_aload_n 0 (pc := 3) C dL_nest_3 rfl rfl ?_
  refine v_iload_n 1 (pc := 4) C dL_nest_4 rfl rfl ?_
  refine v_iload_n 2 (pc := 5) C dL_nest_5 rfl rfl ?_
  refine v_iload_n 3 (pc := 6) C dL_nest_6 rfl rfl ?_
  refine v_iload 4 (pc := 7) C dL_nest_7 rfl ?_
  refine v_callOx [.int p1, .int p2, .int p3, .int p4] (pc := 9) (c1 := 2) (s1 := 12) [] ⟨0, 13, 16, 24⟩ [⟨0, 13, 20, 13⟩] C O (mX8_nest C.hT hF) kL_66 (gX_8 (rfl : kdX 0 = 8)) rfl rfl rfl (Nat.le_of_ble_eq_true rfl) ⟨(Nat.le_of_ble_eq_true rfl), (Nat.le_of_ble_eq_true rfl)⟩ ⟨(Nat.le_of_ble_eq_true rfl), (Nat.le_of_ble_eq_true rfl)⟩ dL_nest_9 rfl (fun z hz => absurd hz List.not_mem_nil) rfl (by decide) bw_10_2 (by decide) rfl rfl (fun q => ?_)
  refine v_astore (pc := 16) (loc' := [(6, .ref q), (0, .ref (a 0)), (1, .int p1), (2, .int p2), (3, .int p3), (4, .int p4), (5, .ref ao)]) C dL_nest_16 (by decide) rfl ?_
  refine v_iconst (pc := 18) (v := (1 : Int32)) C dL_nest_18 (by decide) ?_
  exact v_oret C O dL_nest_19 rfl rfl (Nat.le_of_ble_eq_true rfl) (Nat.le_of_ble_eq_true rfl)
theorem mL_nest_2 {l : Launch} {D : va_G} {cs : Nat → ClassId} {a : Nat → Nat} {ao : Nat} (hT : l.stackTraces = false) {S : St} {f : Nat → Int64} {p1 p2 p3 p4 : Int32} {S' : St} (hF : fX8_nest S p1 p2 p3 p4 = some (.inl "java/lang/IllegalArgumentException", S')) : MO l D cs a ao yL_nest cL_nest 7 [(0, 13, 16, 24), (0, 13, 20, 13)] rmL_nest [.ref (a 0), .int p1, .int p2, .int p3, .int p4, .ref ao] S f 2 S' f := by
  refine mo_entry [(0, .ref (a 0)), (1, .int p1), (2, .int p2), (3, .int p3), (4, .int p4), (5, .ref ao)] hT (by decide +kernel) (Nat.le_of_ble_eq_true rfl) rfl (fun E hEl hED hEk C O => ?_)
  subst hEl
  subst hED
  subst hEk
  refine v_aload 5 (pc := 0) C dL_nest_0 rfl ?_
  refine v_iconst (pc := 2) (v := (0 : Int32)) C dL_nest_2 (by decide) ?_
  refine v_aload_n 0 (pc := 3) C dL_nest_3 rfl rfl ?_
  refine v_iload_n 1 (pc := 4) C dL_nest_4 rfl rfl ?_
  refine v_iload_n 2 (pc := 5) C dL_nest_5 rfl rfl ?_
  refine v_iload_n 3 (pc := 6) C dL_nest_6 rfl rfl ?_
  refine v_iload 4 (pc := 7) C dL_nest_7 rfl ?_
  refine v_callOx [.int p1, .int p2, .int p3, .int p4] (pc := 9) (c1 := 2) (s1 := 12) [⟨0, 13, 16, 24⟩] ⟨0, 13, 20, 13⟩ [] C O (mX8_nest C.hT hF) kL_66 (gX_8 (rfl : kdX 0 = 8)) rfl rfl rfl (Nat.le_of_ble_eq_true rfl) ⟨(Nat.le_of_ble_eq_true rfl), (Nat.le_of_ble_eq_true rfl)⟩ ⟨(Nat.le_of_ble_eq_true rfl), (Nat.le_of_ble_eq_true rfl)⟩ dL_nest_9 rfl (fun z hz => by
    simp only [List.mem_cons, List.not_mem_nil, or_false] at hz
    rcases hz with rfl
    · exact ⟨by decide, _, bw_10_2, by decide⟩) rfl (by decide) bw_6_15 (by decide) rfl rfl (fun q => ?_)
  refine v_astore (pc := 20) (loc' := [(6, .ref q), (0, .ref (a 0)), (1, .int p1), (2, .int p2), (3, .int p3), (4, .int p4), (5, .ref ao)]) C dL_nest_20 (by decide) rfl ?_
  refine v_iconst (pc := 22) (v := (2 : Int32)) C dL_nest_22 (by decide) ?_
  exact v_oret C O dL_nest_23 rfl rfl (Nat.le_of_ble_eq_true rfl) (Nat.le_of_ble_eq_true rfl)
abbrev rmL_batch : Room := { frames := 9, cells := 3, slots := 18, locals := 210 }
theorem kL_70 : CallVok RL 70 yX8_batch cX8_batch 7 (some .int) 3 := ⟨bw_29_10, bw_29_11, bw_29_12, bw_1_2, bw_29_13, ⟨by decide +kernel, by decide +kernel, by decide +kernel⟩⟩
theorem mL_batch_v {l : Launch} {D : va_G} {cs : Nat → ClassId} {a : Nat → Nat} {ao : Nat} (hT : l.stackTraces = false) {S : St} {f : Nat → Int64} {p1 p2 p3 : Int32} {v : Int32} {S' : St} (hF : fX8_batch S p1 p2 p3 = some (.inr v, S')) : MO l D cs a ao yL_batch cL_batch 6 [(0, 12, 15, 24), (0, 12, 19, 13), (0, 12, 23, 15)] rmL_batch [.ref (a 0), .int p1, .int p2, .int p3, .ref ao] S f 0 S' (vp_updL f (0 : Int32).toNatClampNeg v.toInt64) := by
  refine mo_entry [(0, .ref (a 0)), (1, .int p1), (2, .int p2), (3, .int p3), (4, .ref ao)] hT (by decide +kernel) (Nat.le_of_ble_eq_true rfl) rfl (fun E hEl hED hEk C O => ?_)
  subst hEl
  subst hED
  subst hEk
  refine v_aload 4 (pc := 0) C dL_batch_0 rfl ?_
  refine v_iconst (pc := 2) (v := (0 : Int32)) C dL_batch_2 (by decide) ?_
  refine v_aload_n 0 (pc := 3) C dL_batch_3 rfl rfl ?_
  refine v_iload_n 1 (pc := 4) C dL_batch_4 rfl rfl ?_
  refine v_iload_n 2 (pc := 5) C dL_batch_5 rfl rfl ?_
  refine v_iload_n 3 (pc := 6) C dL_batch_6 rfl rfl ?_
  refine v_callO [.int p1, .int p2, .int p3] (pc := 7) (st1 := [.int v, .int 0, .ref ao]) (c1 := 3) (s1 := 18) C O.2.2.1 (mX8_batch C.hT hF) kL_70 (gX_8 (rfl : kdX 0 = 8)) rfl rfl rfl rfl (Nat.le_of_ble_eq_true rfl) ⟨(Nat.le_of_ble_eq_true rfl), (Nat.le_of_ble_eq_true rfl)⟩ ⟨(Nat.le_of_ble_eq_true rfl), (Nat.le_of_ble_eq_true rfl)⟩ dL_batch_7 rfl rfl ?_
  refine v_i2l (pc := 10) C dL_batch_10 ?_
  refine v_last (pc := 11) C O.2.2.1 vi_01 dL_batch_11 ?_
  refine v_goto 27 (pc := 12) C dL_batch_12 (by decide) ?_
  refine v_iconst (pc := 27) (v := (0 : Int32)) C dL_batch_27 (by decide) ?_
  exact v_oret C O dL_batch_28 rfl rfl (Nat.le_of_ble_eq_true rfl) (Nat.le_of_ble_eq_true rfl)
theorem mL_batch_1 {l : Launch} {D : va_G} {cs : Nat → ClassId} {a : Nat → Nat} {ao : Nat} (hT : l.stackTraces = false) {S : St} {f : Nat → Int64} {p1 p2 p3 : Int32} {S' : St} (hF : fX8_batch S p1 p2 p3 = some (.inl "java/lang/IndexOutOfBoundsException", S')) : MO l D cs a ao yL_batch cL_batch 6 [(0, 12, 15, 24), (0, 12, 19, 13), (0, 12, 23, 15)] rmL_batch [.ref (a 0), .int p1, .int p2, .int p3, .ref ao] S f 1 S' f := by
  refine mo_entry [(0, .ref (a 0)), (1, .int p1), (2, .int p2), (3, .int p3), (4, .ref ao)] hT (by decide +kernel) (Nat.le_of_ble_eq_true rfl) rfl (fun E hEl hED hEk C O => ?_)
  subst hEl
  subst hED
  subst hEk
  refine v_aload 4 (pc := 0) C dL_batch_0 rfl ?_
  refine v_iconst (pc := 2) (v := (0 : Int32)) C dL_batch_2 (by decide) ?_
  refine v_aload_n 0 (pc := 3) C dL_batch_3 rfl rfl ?_
  refine v_iload_n 1 (pc := 4) C dL_batch_4 rfl rfl ?_
  refine v_iload_n 2 (pc := 5) C dL_batch_5 rfl rfl ?_
  refine v_iload_n 3 (pc := 6) C dL_batch_6 rfl rfl ?_
  refine v_callOx [.int p1, .int p2, .int p3] (pc := 7) (c1 := 3) (s1 := 18) [] ⟨0, 12, 15, 24⟩ [⟨0, 12, 19, 13⟩, ⟨0, 12, 23, 15⟩] C O (mX8_batch C.hT hF) kL_70 (gX_8 (rfl : kdX 0 = 8)) rfl rfl rfl (Nat.le_of_ble_eq_true rfl) ⟨(Nat.le_of_ble_eq_true rfl), (Nat.le_of_ble_eq_true rfl)⟩ ⟨(Nat.le_of_ble_eq_true rfl), (Nat.le_of_ble_eq_true rfl)⟩ dL_batch_7 rfl (fun z hz => absurd hz List.not_mem_nil) rfl (by decide) bw_10_2 (by decide) rfl rfl (fun q => ?_)
  refine v_astore (pc := 15) (loc' := [(5, .ref q), (0, .ref (a 0)), (1, .int p1), (2, .int p2), (3, .int p3), (4, .ref ao)]) C dL_batch_15 (by decide) rfl ?_
  refine v_iconst (pc := 17) (v := (1 : Int32)) C dL_batch_17 (by decide) ?_
  exact v_oret C O dL_batch_18 rfl rfl (Nat.le_of_ble_eq_true rfl) (Nat.le_of_ble_eq_true rfl)
theorem mL_batch_2 {l : Launch} {D : va_G} {cs : Nat → ClassId} {a : Nat → Nat} {ao : Nat} (hT : l.stackTraces = false) {S : St} {f : Nat → Int64} {p1 p2 p3 : Int32} {S' : St} (hF : fX8_batch S p1 p2 p3 = some (.inl "java/lang/IllegalArgumentException", S')) : MO l D cs a ao yL_batch cL_batch 6 [(0, 12, 15, 24), (0, 12, 19, 13), (0, 12, 23, 15)] rmL_batch [.ref (a 0), .int p1, .int p2, .int p3, .ref ao] S f 2 S' f := by
  refine mo_entry [(0, .ref (a 0)), (1, .int p1), (2, .int p2), (3, .int p3), (4, .ref ao)] hT (by decide +kernel) (Nat.le_of_ble_eq_true rfl) rfl (fun E hEl hED hEk C O => ?_)
  subst hEl
  subst hED
  subst hEk
  refine v_aload 4 (pc := 0) C dL_batch_0 rfl ?_
  refine v_iconst (pc := 2) (v := (0 : Int32)) C dL_batch_2 (by decide) ?_
  refine v_aload_n 0 (pc := 3) C dL_batch_3 rfl rfl ?_
  refine v_iload_n 1 (pc := 4) C dL_batch_4 rfl rfl ?_
  refine v_iload_n 2 (pc := 5) C dL_batch_5 rfl rfl ?_
  refine v_iload_n 3 (pc := 6) C dL_batch_6 rfl rfl ?_
  refine v_callOx [.int p1, .int p2, .int p3] (pc := 7) (c1 := 3) (s1 := 18) [⟨0, 12, 15, 24⟩] ⟨0, 12, 19, 13⟩ [⟨0, 12, 23, 15⟩] C O (mX8_batch C.hT hF) kL_70 (gX_8 (rfl : kdX 0 = 8)) rfl rfl rfl (Nat.le_of_ble_eq_true rfl) ⟨(Nat.le_of_ble_eq_true rfl), (Nat.le_of_ble_eq_true rfl)⟩ ⟨(Nat.le_of_ble_eq_true rfl), (Nat.le_of_ble_eq_true rfl)⟩ dL_batch_7 rfl (fun z hz => by
    simp only [List.mem_cons, List.not_mem_nil, or_false] at hz
    rcases hz with rfl
    · exact ⟨by decide, _, bw_10_2, by decide⟩) rfl (by decide) bw_6_15 (by decide) rfl rfl (fun q => ?_)
  refine v_astore (pc := 19) (loc' := [(5, .ref q), (0, .ref (a 0)), (1, .int p1), (2, .int p2), (3, .int p3), (4, .ref ao)]) C dL_batch_19 (by decide) rfl ?_
  refine v_iconst (pc := 21) (v := (2 : Int32)) C dL_batch_21 (by decide) ?_
  exact v_oret C O dL_batch_22 rfl rfl (Nat.le_of_ble_eq_true rfl) (Nat.le_of_ble_eq_true rfl)
theorem mL_batch_3 {l : Launch} {D : va_G} {cs : Nat → ClassId} {a : Nat → Nat} {ao : Nat} (hT : l.stackTraces = false) {S : St} {f : Nat → Int64} {p1 p2 p3 : Int32} {S' : St} (hF : fX8_batch S p1 p2 p3 = some (.inl "java/lang/IllegalStateException", S')) : MO l D cs a ao yL_batch cL_batch 6 [(0, 12, 15, 24), (0, 12, 19, 13), (0, 12, 23, 15)] rmL_batch [.ref (a 0), .int p1, .int p2, .int p3, .ref ao] S f 3 S' f := by
  refine mo_entry [(0, .ref (a 0)), (1, .int p1), (2, .int p2), (3, .int p3), (4, .ref ao)] hT (by decide +kernel) (Nat.le_of_ble_eq_true rfl) rfl (fun E hEl hED hEk C O => ?_)
  subst hEl
  subst hED
  subst hEk
  refine v_aload 4 (pc := 0) C dL_batch_0 rfl ?_
  refine v_iconst (pc := 2) (v := (0 : Int32)) C dL_batch_2 (by decide) ?_
  refine v_aload_n 0 (pc := 3) C dL_batch_3 rfl rfl ?_
  refine v_iload_n 1 (pc := 4) C dL_batch_4 rfl rfl ?_
  refine v_iload_n 2 (pc := 5) C dL_batch_5 rfl rfl ?_
  refine v_iload_n 3 (pc := 6) C dL_batch_6 rfl rfl ?_
  refine v_callOx [.int p1, .int p2, .int p3] (pc := 7) (c1 := 3) (s1 := 18) [⟨0, 12, 15, 24⟩, ⟨0, 12, 19, 13⟩] ⟨0, 12, 23, 15⟩ [] C O (mX8_batch C.hT hF) kL_70 (gX_8 (rfl : kdX 0 = 8)) rfl rfl rfl (Nat.le_of_ble_eq_true rfl) ⟨(Nat.le_of_ble_eq_true rfl), (Nat.le_of_ble_eq_true rfl)⟩ ⟨(Nat.le_of_ble_eq_true rfl), (Nat.le_of_ble_eq_true rfl)⟩ dL_batch_7 rfl (fun z hz => by
    simp only [List.mem_cons, List.not_mem_nil, or_false] at hz
    rcases hz with rfl | rfl
    · exact ⟨by decide, _, bw_10_2, by decide⟩
    · exact ⟨by decide, _, bw_6_15, by decide⟩) rfl (by decide) bw_6_16 (by decide) rfl rfl (fun q => ?_)
  refine v_astore (pc := 23) (loc' := [(5, .ref q), (0, .ref (a 0)), (1, .int p1), (2, .int p2), (3, .int p3), (4, .ref ao)]) C dL_batch_23 (by decide) rfl ?_
  refine v_iconst (pc := 25) (v := (3 : Int32)) C dL_batch_25 (by decide) ?_
  exact v_oret C O dL_batch_26 rfl rfl (Nat.le_of_ble_eq_true rfl) (Nat.le_of_ble_eq_true rfl)
abbrev rmL_work : Room := { frames := 13, cells := 2, slots := 12, locals := 370 }
theorem kL_73 : CallVok RL 73 yX8_work cX8_work 3 (some .int) 1 := ⟨bw_29_21, bw_29_22, bw_29_23, bw_1_2, bw_30_0, ⟨by decide +kernel, by decide +kernel, by decide +kernel⟩⟩
theorem mL_work_v {l : Launch} {D : va_G} {cs : Nat → ClassId} {a : Nat → Nat} {ao : Nat} (hT : l.stackTraces = false) {S : St} {f : Nat → Int64} {p1 : Int32} {v : Int32} {S' : St} (hF : fX8_work S p1 = some (.inr v, S')) : MO l D cs a ao yL_work cL_work 4 [(0, 9, 12, 24), (0, 9, 15, 15)] rmL_work [.ref (a 0), .int p1, .ref ao] S f 0 S' (vp_updL f (0 : Int32).toNatClampNeg v.toInt64) := by
  refine mo_entry [(0, .ref (a 0)), (1, .int p1), (2, .ref ao)] hT (by decide +kernel) (Nat.le_of_ble_eq_true rfl) rfl (fun E hEl hED hEk C O => ?_)
  subst hEl
  subst hED
  subst hEk
  refine v_aload_n 2 (pc := 0) C dL_work_0 rfl rfl ?_
  refine v_iconst (pc := 1) (v := (0 : Int32)) C dL_work_1 (by decide) ?_
  refine v_aload_n 0 (pc := 2) C dL_work_2 rfl rfl ?_
  refine v_iload_n 1 (pc := 3) C dL_work_3 rfl rfl ?_
  refine v_callO [.int p1] (pc := 4) (st1 := [.int v, .int 0, .ref ao]) (c1 := 2) (s1 := 12) C O.2.2.1 (mX8_work C.hT hF) kL_73 (gX_8 (rfl : kdX 0 = 8)) rfl rfl rfl rfl (Nat.le_of_ble_eq_true rfl) ⟨(Nat.le_of_ble_eq_true rfl), (Nat.le_of_ble_eq_true rfl)⟩ ⟨(Nat.le_of_ble_eq_true rfl), (Nat.le_of_ble_eq_true rfl)⟩ dL_work_4 rfl rfl ?_
  refine v_i2l (pc := 7) C dL_work_7 ?_
  refine v_last (pc := 8) C O.2.2.1 vi_01 dL_work_8 ?_
  refine v_goto 18 (pc := 9) C dL_work_9 (by decide) ?_
  refine v_iconst (pc := 18) (v := (0 : Int32)) C dL_work_18 (by decide) ?_
  exact v_oret C O dL_work_19 rfl rfl (Nat.le_of_ble_eq_true rfl) (Nat.le_of_ble_eq_true rfl)
theorem mL_work_1 {l : Launch} {D : va_G} {cs : Nat → ClassId} {a : Nat → Nat} {ao : Nat} (hT : l.stackTraces = false) {S : St} {f : Nat → Int64} {p1 : Int32} {S' : St} (hF : fX8_work S p1 = some (.inl "java/lang/IndexOutOfBoundsException", S')) : MO l D cs a ao yL_work cL_work 4 [(0, 9, 12, 24), (0, 9, 15, 15)] rmL_work [.ref (a 0), .int p1, .ref ao] S f 1 S' f := by
  refine mo_entry [(0, .ref (a 0)), (1, .int p1), (2, .ref ao)] hT (by decide +kernel) (Nat.le_of_ble_eq_true rfl) rfl (fun E hEl hED hEk C O => ?_)
  subst hEl
  subst hED
  subst hEk
  refine v_aload_n 2 (pc := 0) C dL_work_0 rfl rfl ?_
  refine v_iconst (pc := 1) (v := (0 : Int32)) C dL_work_1 (by decide) ?_
  refine v_aload_n 0 (pc := 2) C dL_work_2 rfl rfl ?_
  refine v_iload_n 1 (pc := 3) C dL_work_3 rfl rfl ?_
  refine v_callOx [.int p1] (pc := 4) (c1 := 2) (s1 := 12) [] ⟨0, 9, 12, 24⟩ [⟨0, 9, 15, 15⟩] C O (mX8_work C.hT hF) kL_73 (gX_8 (rfl : kdX 0 = 8)) rfl rfl rfl (Nat.le_of_ble_eq_true rfl) ⟨(Nat.le_of_ble_eq_true rfl), (Nat.le_of_ble_eq_true rfl)⟩ ⟨(Nat.le_of_ble_eq_true rfl), (Nat.le_of_ble_eq_true rfl)⟩ dL_work_4 rfl (fun z hz => absurd hz List.not_mem_nil) rfl (by decide) bw_10_2 (by decide) rfl rfl (fun q => ?_)
  refine v_astore_n (pc := 12) (loc' := [(3, .ref q), (0, .ref (a 0)), (1, .int p1), (2, .ref ao)]) C dL_work_12 rfl (by decide) rfl ?_
  refine v_iconst (pc := 13) (v := (1 : Int32)) C dL_work_13 (by decide) ?_
  exact v_oret C O dL_work_14 rfl rfl (Nat.le_of_ble_eq_true rfl) (Nat.le_of_ble_eq_true rfl)
theorem mL_work_2 {l : Launch} {D : va_G} {cs : Nat → ClassId} {a : Nat → Nat} {ao : Nat} (hT : l.stackTraces = false) {S : St} {f : Nat → Int64} {p1 : Int32} {S' : St} (hF : fX8_work S p1 = some (.inl "java/lang/IllegalStateException", S')) : MO l D cs a ao yL_work cL_work 4 [(0, 9, 12, 24), (0, 9, 15, 15)] rmL_work [.ref (a 0), .int p1, .ref ao] S f 2 S' f := by
  refine mo_entry [(0, .ref (a 0)), (1, .int p1), (2, .ref ao)] hT (by decide +kernel) (Nat.le_of_ble_eq_true rfl) rfl (fun E hEl hED hEk C O => ?_)
  subst hEl
  subst hED
  subst hEk
  refine v_aload_n 2 (pc := 0) C dL_work_0 rfl rfl ?_
  refine v_iconst (pc := 1) (v := (0 : Int32)) C dL_work_1 (by decide) ?_
  refine v_aload_n 0 (pc := 2) C dL_work_2 rfl rfl ?_
  refine v_iload_n 1 (pc := 3) C dL_work_3 rfl rfl ?_
  refine v_callOx [.int p1] (pc := 4) (c1 := 2) (s1 := 12) [⟨0, 9, 12, 24⟩] ⟨0, 9, 15, 15⟩ [] C O (mX8_work C.hT hF) kL_73 (gX_8 (rfl : kdX 0 = 8)) rfl rfl rfl (Nat.le_of_ble_eq_true rfl) ⟨(Nat.le_of_ble_eq_true rfl), (Nat.le_of_ble_eq_true rfl)⟩ ⟨(Nat.le_of_ble_eq_true rfl), (Nat.le_of_ble_eq_true rfl)⟩ dL_work_4 rfl (fun z hz => by
    simp only [List.mem_cons, List.not_mem_nil, or_false] at hz
    rcases hz with rfl
    · exact ⟨by decide, _, bw_10_2, by decide⟩) rfl (by decide) bw_6_16 (by decide) rfl rfl (fun q => ?_)
  refine v_astore_n (pc := 15) (loc' := [(3, .ref q), (0, .ref (a 0)), (1, .int p1), (2, .ref ao)]) C dL_work_15 rfl (by decide) rfl ?_
  refine v_iconst (pc := 16) (v := (2 : Int32)) C dL_work_16 (by decide) ?_
  exact v_oret C O dL_work_17 rfl rfl (Nat.le_of_ble_eq_true rfl) (Nat.le_of_ble_eq_true rfl)
abbrev rmL_batchOf : Room := { frames := 9, cells := 2, slots := 12, locals := 210 }
theorem kL_77 : CallVok RL 77 yX8_batchOf cX8_batchOf 4 (some .int) 2 := ⟨bw_30_20, bw_30_21, bw_30_22, bw_1_2, bw_30_23, ⟨by decide +kernel, by decide +kernel, by decide +kernel⟩⟩
theorem mL_batchOf_v {l : Launch} {D : va_G} {cs : Nat → ClassId} {a : Nat → Nat} {ao : Nat} (hT : l.stackTraces = false) {S : St} {f : Nat → Int64} {p1 p2 : Int32} {v : Int32} (hF : fX8_batchOf S p1 p2 = some (.inr v)) : MO l D cs a ao yL_batchOf cL_batchOf 5 [(0, 10, 13, 24), (0, 10, 17, 13)] rmL_batchOf [.ref (a 0), .int p1, .int p2, .ref ao] S f 0 S (vp_updL f (0 : Int32).toNatClampNeg v.toInt64) := by
  refine mo_entry [(0, .ref (a 0)), (1, .int p1), (2, .int p2), (3, .ref ao)] hT (by decide +kernel) (Nat.le_of_ble_eq_true rfl) rfl (fun E hEl hED hEk C O => ?_)
  subst hEl
  subst hED
  subst hEk
  refine v_aload_n 3 (pc := 0) C dL_batchOf_0 rfl rfl ?_
  refine v_iconst (pc := 1) (v := (0 : Int32)) C dL_batchOf_1 (by decide) ?_
  refine v_aload_n 0 (pc := 2) C dL_batchOf_2 rfl rfl ?_
  refine v_iload_n 1 (pc := 3) C dL_batchOf_3 rfl rfl ?_
  refine v_iload_n 2 (pc := 4) C dL_batchOf_4 rfl rfl ?_
  refine v_callO [.int p1, .int p2] (pc := 5) (st1 := [.int v, .int 0, .ref ao]) (c1 := 2) (s1 := 12) C O.2.2.1 (mX8_batchOf C.hT hF) kL_77 (gX_8 (rfl : kdX 0 = 8)) rfl rfl rfl rfl (Nat.le_of_ble_eq_true rfl) ⟨(Nat.le_of_ble_eq_true rfl), (Nat.le_of_ble_eq_true rfl)⟩ ⟨(Nat.le_of_ble_eq_true rfl), (Nat.le_of_ble_eq_true rfl)⟩ dL_batchOf_5 rfl rfl ?_
  refine v_i2l (pc := 8) C dL_batchOf_8 ?_
  refine v_last (pc := 9) C O.2.2.1 vi_01 dL_batchOf_9 ?_
  refine v_goto 21 (pc := 10) C dL_batchOf_10 (by decide) ?_
  refine v_iconst (pc := 21) (v := (0 : Int32)) C dL_batchOf_21 (by decide) ?_
  exact v_oret C O dL_batchOf_22 rfl rfl (Nat.le_of_ble_eq_true rfl) (Nat.le_of_ble_eq_true rfl)
theorem mL_batchOf_1 {l : Launch} {D : va_G} {cs : Nat → ClassId} {a : Nat → Nat} {ao : Nat} (hT : l.stackTraces = false) {S : St} {f : Nat → Int64} {p1 p2 : Int32} (hF : fX8_batchOf S p1 p2 = some (.inl "java/lang/IndexOutOfBoundsException")) : MO l D cs a ao yL_batchOf cL_batchOf 5 [(0, 10, 13, 24), (0, 10, 17, 13)] rmL_batchOf [.ref (a 0), .int p1, .int p2, .ref ao] S f 1 S f := by
  refine mo_entry [(0, .ref (a 0)), (1, .int p1), (2, .int p2), (3, .ref ao)] hT (by decide +kernel) (Nat.le_of_ble_eq_true rfl) rfl (fun E hEl hED hEk C O => ?_)
  subst hEl
  subst hED
  subst hEk
  refine v_aload_n 3 (pc := 0) C dL_batchOf_0 rfl rfl ?_
  refine v_iconst (pc := 1) (v := (0 : Int32)) C dL_batchOf_1 (by decide) ?_
  refine v_aload_n 0 (pc := 2) C dL_batchOf_2 rfl rfl ?_
  refine v_iload_n 1 (pc := 3) C dL_batchOf_3 rfl rfl ?_
  refine v_iload_n 2 (pc := 4) C dL_batchOf_4 rfl rfl ?_
  refine v_callOx [.int p1, .int p2] (pc := 5) (c1 := 2) (s1 := 12) [] ⟨0, 10, 13, 24⟩ [⟨0, 10, 17, 13⟩] C O (mX8_batchOf C.hT hF) kL_77 (gX_8 (rfl : kdX 0 = 8)) rfl rfl rfl (Nat.le_of_ble_eq_true rfl) ⟨(Nat.le_of_ble_eq_true rfl), (Nat.le_of_ble_eq_true rfl)⟩ ⟨(Nat.le_of_ble_eq_true rfl), (Nat.le_of_ble_eq_true rfl)⟩ dL_batchOf_5 rfl (fun z hz => absurd hz List.not_mem_nil) rfl (by decide) bw_10_2 (by decide) rfl rfl (fun q => ?_)
  refine v_astore (pc := 13) (loc' := [(4, .ref q), (0, .ref (a 0)), (1, .int p1), (2, .int p2), (3, .ref ao)]) C dL_batchOf_13 (by decide) rfl ?_
  refine v_iconst (pc := 15) (v := (1 : Int32)) C dL_batchOf_15 (by decide) ?_
  exact v_oret C O dL_batchOf_16 rfl rfl (Nat.le_of_ble_eq_true rfl) (Nat.le_of_ble_eq_true rfl)
theorem mL_batchOf_2 {l : Launch} {D : va_G} {cs : Nat → ClassId} {a : Nat → Nat} {ao : Nat} (hT : l.stackTraces = false) {S : St} {f : Nat → Int64} {p1 p2 : Int32} (hF : fX8_batchOf S p1 p2 = some (.inl "java/lang/IllegalArgumentException")) : MO l D cs a ao yL_batchOf cL_batchOf 5 [(0, 10, 13, 24), (0, 10, 17, 13)] rmL_batchOf [.ref (a 0), .int p1, .int p2, .ref ao] S f 2 S f := by
  refine mo_entry [(0, .ref (a 0)), (1, .int p1), (2, .int p2), (3, .ref ao)] hT (by decide +kernel) (Nat.le_of_ble_eq_true rfl) rfl (fun E hEl hED hEk C O => ?_)
  subst hEl
  subst hED
  subst hEk
  refine v_aload_n 3 (pc := 0) C dL_batchOf_0 rfl rfl ?_
  refine v_iconst (pc := 1) (v := (0 : Int32)) C dL_batchOf_1 (by decide) ?_
  refine v_aload_n 0 (pc := 2) C dL_batchOf_2 rfl rfl ?_
  refine v_iload_n 1 (pc := 3) C dL_batchOf_3 rfl rfl ?_
  refine v_iload_n 2 (pc := 4) C dL_batchOf_4 rfl rfl ?_
  refine v_callOx [.int p1, .int p2] (pc := 5) (c1 := 2) (s1 := 12) [⟨0, 10, 13, 24⟩] ⟨0, 10, 17, 13⟩ [] C O (mX8_batchOf C.hT hF) kL_77 (gX_8 (rfl : kdX 0 = 8)) rfl rfl rfl (Nat.le_of_ble_eq_true rfl) ⟨(Nat.le_of_ble_eq_true rfl), (Nat.le_of_ble_eq_true rfl)⟩ ⟨(Nat.le_of_ble_eq_true rfl), (Nat.le_of_ble_eq_true rfl)⟩ dL_batchOf_5 rfl (fun z hz => by
    simp only [List.mem_cons, List.not_mem_nil, or_false] at hz
    rcases hz with rfl
    · exact ⟨by decide, _, bw_10_2, by decide⟩) rfl (by decide) bw_6_15 (by decide) rfl rfl (fun q => ?_)
  refine v_astore (pc := 17) (loc' := [(4, .ref q), (0, .ref (a 0)), (1, .int p1), (2, .int p2), (3, .ref ao)]) C dL_batchOf_17 (by decide) rfl ?_
  refine v_iconst (pc := 19) (v := (2 : Int32)) C dL_batchOf_19 (by decide) ?_
  exact v_oret C O dL_batchOf_20 rfl rfl (Nat.le_of_ble_eq_true rfl) (Nat.le_of_ble_eq_true rfl)
abbrev rmL_kits : Room := { frames := 9, cells := 1, slots := 6, locals := 210 }
theorem kL_80 : CallVok RL 80 yX8_kits cX8_kits 2 (some .int) 1 := ⟨bw_31_7, bw_31_8, bw_31_9, bw_1_2, bw_31_10, ⟨by decide +kernel, by decide +kernel, by decide +kernel⟩⟩
theorem mL_kits_v {l : Launch} {D : va_G} {cs : Nat → ClassId} {a : Nat → Nat} {ao : Nat} (hT : l.stackTraces = false) {S : St} {f : Nat → Int64} {p1 : Int32} {v : Int32} (hF : fX8_kits S p1 = some (.inr v)) : MO l D cs a ao yL_kits cL_kits 4 [(0, 9, 12, 13)] rmL_kits [.ref (a 0), .int p1, .ref ao] S f 0 S (vp_updL f (0 : Int32).toNatClampNeg v.toInt64) := by
  refine mo_entry [(0, .ref (a 0)), (1, .int p1), (2, .ref ao)] hT (by decide +kernel) (Nat.le_of_ble_eq_true rfl) rfl (fun E hEl hED hEk C O => ?_)
  subst hEl
  subst hED
  subst hEk
  refine v_aload_n 2 (pc := 0) C dL_kits_0 rfl rfl ?_
  refine v_iconst (pc := 1) (v := (0 : Int32)) C dL_kits_1 (by decide) ?_
  refine v_aload_n 0 (pc := 2) C dL_kits_2 rfl rfl ?_
  refine v_iload_n 1 (pc := 3) C dL_kits_3 rfl rfl ?_
  refine v_callO [.int p1] (pc := 4) (st1 := [.int v, .int 0, .ref ao]) (c1 := 1) (s1 := 6) C O.2.2.1 (mX8_kits C.hT hF) kL_80 (gX_8 (rfl : kdX 0 = 8)) rfl rfl rfl rfl (Nat.le_of_ble_eq_true rfl) ⟨(Nat.le_of_ble_eq_true rfl), (Nat.le_of_ble_eq_true rfl)⟩ ⟨(Nat.le_of_ble_eq_true rfl), (Nat.le_of_ble_eq_true rfl)⟩ dL_kits_4 rfl rfl ?_
  refine v_i2l (pc := 7) C dL_kits_7 ?_
  refine v_last (pc := 8) C O.2.2.1 vi_01 dL_kits_8 ?_
  refine v_goto 15 (pc := 9) C dL_kits_9 (by decide) ?_
  refine v_iconst (pc := 15) (v := (0 : Int32)) C dL_kits_15 (by decide) ?_
  exact v_oret C O dL_kits_16 rfl rfl (Nat.le_of_ble_eq_true rfl) (Nat.le_of_ble_eq_true rfl)
theorem mL_kits_1 {l : Launch} {D : va_G} {cs : Nat → ClassId} {a : Nat → Nat} {ao : Nat} (hT : l.stackTraces = false) {S : St} {f : Nat → Int64} {p1 : Int32} (hF : fX8_kits S p1 = some (.inl "java/lang/IllegalArgumentException")) : MO l D cs a ao yL_kits cL_kits 4 [(0, 9, 12, 13)] rmL_kits [.ref (a 0), .int p1, .ref ao] S f 1 S f := by
  refine mo_entry [(0, .ref (a 0)), (1, .int p1), (2, .ref ao)] hT (by decide +kernel) (Nat.le_of_ble_eq_true rfl) rfl (fun E hEl hED hEk C O => ?_)
  subst hEl
  subst hED
  subst hEk
  refine v_aload_n 2 (pc := 0) C dL_kits_0 rfl rfl ?_
  refine v_iconst (pc := 1) (v := (0 : Int32)) C dL_kits_1 (by decide) ?_
  refine v_aload_n 0 (pc := 2) C dL_kits_2 rfl rfl ?_
  refine v_iload_n 1 (pc := 3) C dL_kits_3 rfl rfl ?_
  refine v_callOx [.int p1] (pc := 4) (c1 := 1) (s1 := 6) [] ⟨0, 9, 12, 13⟩ [] C O (mX8_kits C.hT hF) kL_80 (gX_8 (rfl : kdX 0 = 8)) rfl rfl rfl (Nat.le_of_ble_eq_true rfl) ⟨(Nat.le_of_ble_eq_true rfl), (Nat.le_of_ble_eq_true rfl)⟩ ⟨(Nat.le_of_ble_eq_true rfl), (Nat.le_of_ble_eq_true rfl)⟩ dL_kits_4 rfl (fun z hz => absurd hz List.not_mem_nil) rfl (by decide) bw_6_15 (by decide) rfl rfl (fun q => ?_)
  refine v_astore_n (pc := 12) (loc' := [(3, .ref q), (0, .ref (a 0)), (1, .int p1), (2, .ref ao)]) C dL_kits_12 rfl (by decide) rfl ?_
  refine v_iconst (pc := 13) (v := (1 : Int32)) C dL_kits_13 (by decide) ?_
  exact v_oret C O dL_kits_14 rfl rfl (Nat.le_of_ble_eq_true rfl) (Nat.le_of_ble_eq_true rfl)
abbrev rmL_take : Room := { frames := 9, cells := 2, slots := 12, locals := 210 }
theorem kL_83 : CallVok RL 83 yX8_take cX8_take 5 (some .int) 2 := ⟨bw_32_14, bw_32_15, bw_32_16, bw_1_2, bw_32_17, ⟨by decide +kernel, by decide +kernel, by decide +kernel⟩⟩
theorem mL_take_v {l : Launch} {D : va_G} {cs : Nat → ClassId} {a : Nat → Nat} {ao : Nat} (hT : l.stackTraces = false) {S : St} {f : Nat → Int64} {p1 p2 : Int32} {v : Int32} {S' : St} (hF : fX8_take S p1 p2 = some (.inr v, S')) : MO l D cs a ao yL_take cL_take 5 [(0, 10, 13, 13), (0, 10, 17, 15)] rmL_take [.ref (a 0), .int p1, .int p2, .ref ao] S f 0 S' (vp_updL f (0 : Int32).toNatClampNeg v.toInt64) := by
  refine mo_entry [(0, .ref (a 0)), (1, .int p1), (2, .int p2), (3, .ref ao)] hT (by decide +kernel) (Nat.le_of_ble_eq_true rfl) rfl (fun E hEl hED hEk C O => ?_)
  subst hEl
  subst hED
  subst hEk
  refine v_aload_n 3 (pc := 0) C dL_take_0 rfl rfl ?_
  refine v_iconst (pc := 1) (v := (0 : Int32)) C dL_take_1 (by decide) ?_
  refine v_aload_n 0 (pc := 2) C dL_take_2 rfl rfl ?_
  refine v_iload_n 1 (pc := 3) C dL_take_3 rfl rfl ?_
  refine v_iload_n 2 (pc := 4) C dL_take_4 rfl rfl ?_
  refine v_callO [.int p1, .int p2] (pc := 5) (st1 := [.int v, .int 0, .ref ao]) (c1 := 2) (s1 := 12) C O.2.2.1 (mX8_take C.hT hF) kL_83 (gX_8 (rfl : kdX 0 = 8)) rfl rfl rfl rfl (Nat.le_of_ble_eq_true rfl) ⟨(Nat.le_of_ble_eq_true rfl), (Nat.le_of_ble_eq_true rfl)⟩ ⟨(Nat.le_of_ble_eq_true rfl), (Nat.le_of_ble_eq_true rfl)⟩ dL_take_5 rfl rfl ?_
  refine v_i2l (pc := 8) C dL_take_8 ?_
  refine v_last (pc := 9) C O.2.2.1 vi_01 dL_take_9 ?_
  refine v_goto 21 (pc := 10) C dL_take_10 (by decide) ?_
  refine v_iconst (pc := 21) (v := (0 : Int32)) C dL_take_21 (by decide) ?_
  exact v_oret C O dL_take_22 rfl rfl (Nat.le_of_ble_eq_true rfl) (Nat.le_of_ble_eq_true rfl)
theorem mL_take_1 {l : Launch} {D : va_G} {cs : Nat → ClassId} {a : Nat → Nat} {ao : Nat} (hT : l.stackTraces = false) {S : St} {f : Nat → Int64} {p1 p2 : Int32} {S' : St} (hF : fX8_take S p1 p2 = some (.inl "java/lang/IllegalArgumentException", S')) : MO l D cs a ao yL_take cL_take 5 [(0, 10, 13, 13), (0, 10, 17, 15)] rmL_take [.ref (a 0), .int p1, .int p2, .ref ao] S f 1 S' f := by
  refine mo_entry [(0, .ref (a 0)), (1, .int p1), (2, .int p2), (3, .ref ao)] hT (by decide +kernel) (Nat.le_of_ble_eq_true rfl) rfl (fun E hEl hED hEk C O => ?_)
  subst hEl
  subst hED
  subst hEk
  refine v_aload_n 3 (pc := 0) C dL_take_0 rfl rfl ?_
  refine v_iconst (pc := 1) (v := (0 : Int32)) C dL_take_1 (by decide) ?_
  refine v_aload_n 0 (pc := 2) C dL_take_2 rfl rfl ?_
  refine v_iload_n 1 (pc := 3) C dL_take_3 rfl rfl ?_
  refine v_iload_n 2 (pc := 4) C dL_take_4 rfl rfl ?_
  refine v_callOx [.int p1, .int p2] (pc := 5) (c1 := 2) (s1 := 12) [] ⟨0, 10, 13, 13⟩ [⟨0, 10, 17, 15⟩] C O (mX8_take C.hT hF) kL_83 (gX_8 (rfl : kdX 0 = 8)) rfl rfl rfl (Nat.le_of_ble_eq_true rfl) ⟨(Nat.le_of_ble_eq_true rfl), (Nat.le_of_ble_eq_true rfl)⟩ ⟨(Nat.le_of_ble_eq_true rfl), (Nat.le_of_ble_eq_true rfl)⟩ dL_take_5 rfl (fun z hz => absurd hz List.not_mem_nil) rfl (by decide) bw_6_15 (by decide) rfl rfl (fun q => ?_)
  refine v_astore (pc := 13) (loc' := [(4, .ref q), (0, .ref (a 0)), (1, .int p1), (2, .int p2), (3, .ref ao)]) C dL_take_13 (by decide) rfl ?_
  refine v_iconst (pc := 15) (v := (1 : Int32)) C dL_take_15 (by decide) ?_
  exact v_oret C O dL_take_16 rfl rfl (Nat.le_of_ble_eq_true rfl) (Nat.le_of_ble_eq_true rfl)
theorem mL_take_2 {l : Launch} {D : va_G} {cs : Nat → ClassId} {a : Nat → Nat} {ao : Nat} (hT : l.stackTraces = false) {S : St} {f : Nat → Int64} {p1 p2 : Int32} {S' : St} (hF : fX8_take S p1 p2 = some (.inl "java/lang/IllegalStateException", S')) : MO l D cs a ao yL_take cL_take 5 [(0, 10, 13, 13), (0, 10, 17, 15)] rmL_take [.ref (a 0), .int p1, .int p2, .ref ao] S f 2 S' f := by
  refine mo_entry [(0, .ref (a 0)), (1, .int p1), (2, .int p2), (3, .ref ao)] hT (by decide +kernel) (Nat.le_of_ble_eq_true rfl) rfl (fun E hEl hED hEk C O => ?_)
  subst hEl
  subst hED
  subst hEk
  refine v_aload_n 3 (pc := 0) C dL_take_0 rfl rfl ?_
  refine v_iconst (pc := 1) (v := (0 : Int32)) C dL_take_1 (by decide) ?_
  refine v_aload_n 0 (pc := 2) C dL_take_2 rfl rfl ?_
  refine v_iload_n 1 (pc := 3) C dL_take_3 rfl rfl ?_
  refine v_iload_n 2 (pc := 4) C dL_take_4 rfl rfl ?_
  refine v_callOx [.int p1, .int p2] (pc := 5) (c1 := 2) (s1 := 12) [⟨0, 10, 13, 13⟩] ⟨0, 10, 17, 15⟩ [] C O (mX8_take C.hT hF) kL_83 (gX_8 (rfl : kdX 0 = 8)) rfl rfl rfl (Nat.le_of_ble_eq_true rfl) ⟨(Nat.le_of_ble_eq_true rfl), (Nat.le_of_ble_eq_true rfl)⟩ ⟨(Nat.le_of_ble_eq_true rfl), (Nat.le_of_ble_eq_true rfl)⟩ dL_take_5 rfl (fun z hz => by
    simp only [List.mem_cons, List.not_mem_nil, or_false] at hz
    rcases hz with rfl
    · exact ⟨by decide, _, bw_6_15, by decide⟩) rfl (by decide) bw_6_16 (by decide) rfl rfl (fun q => ?_)
  refine v_astore (pc := 17) (loc' := [(4, .ref q), (0, .ref (a 0)), (1, .int p1), (2, .int p2), (3, .ref ao)]) C dL_take_17 (by decide) rfl ?_
  refine v_iconst (pc := 19) (v := (2 : Int32)) C dL_take_19 (by decide) ?_
  exact v_oret C O dL_take_20 rfl rfl (Nat.le_of_ble_eq_true rfl) (Nat.le_of_ble_eq_true rfl)
