/-! ===== low, act ===== -/
/-- the words of the law's calls -/
theorem cwL_low : isCw yL_low (.code yL_low cL_low 2 (some .int)) 2 := Or.inr ⟨_, _, rfl⟩
theorem kl_86 : CallWok RL 86 yL_low (.code yL_low cL_low 2 (some .int)) 2 := ⟨bw_5_3, bw_5_4, bw_4_22, bw_5_5, ⟨by decide +kernel, by decide +kernel, by decide +kernel⟩⟩
theorem cwL_face : isCw yL_face (.codeWith yL_face cL_face 4 (some .long) [(0, 7, 8, 14), (0, 7, 13, 18)]) 4 := Or.inl ⟨_, _, _, rfl⟩
theorem kl_91 : CallWok RL 91 yL_face (.codeWith yL_face cL_face 4 (some .long) [(0, 7, 8, 14), (0, 7, 13, 18)]) 3 := ⟨bw_5_7, bw_5_8, bw_4_22, bw_5_9, ⟨by decide +kernel, by decide +kernel, by decide +kernel⟩⟩
theorem kL_94 : CallVok RL 94 yX8_wipe cX8_wipe 2 (some .int) 0 := ⟨bw_6_2, bw_6_3, bw_6_4, bw_1_2, bw_6_5, ⟨by decide +kernel, by decide +kernel, by decide +kernel⟩⟩
theorem cwL_told : isCw yL_told (.codeWith yL_told cL_told 4 (some .long) [(0, 7, 8, 27), (0, 7, 13, 14)]) 4 := Or.inl ⟨_, _, _, rfl⟩
theorem kl_98 : CallWok RL 98 yL_told (.codeWith yL_told cL_told 4 (some .long) [(0, 7, 8, 27), (0, 7, 13, 14)]) 3 := ⟨bw_6_6, bw_6_7, bw_4_22, bw_6_8, ⟨by decide +kernel, by decide +kernel, by decide +kernel⟩⟩
theorem cwL_part : isCw yL_part (.codeWith yL_part cL_part 4 (some .long) [(0, 7, 8, 14), (0, 7, 13, 18)]) 4 := Or.inl ⟨_, _, _, rfl⟩
theorem kl_100 : CallWok RL 100 yL_part (.codeWith yL_part cL_part 4 (some .long) [(0, 7, 8, 14), (0, 7, 13, 18)]) 3 := ⟨bw_7_14, bw_7_15, bw_4_22, bw_7_16, ⟨by decide +kernel, by decide +kernel, by decide +kernel⟩⟩
theorem cwL_redraw : isCw yL_redraw (.codeWith yL_redraw cL_redraw 5 (some .long) [(0, 8, 9, 27), (0, 8, 15, 14), (0, 8, 21, 18)]) 5 := Or.inl ⟨_, _, _, rfl⟩
theorem kl_102 : CallWok RL 102 yL_redraw (.codeWith yL_redraw cL_redraw 5 (some .long) [(0, 8, 9, 27), (0, 8, 15, 14), (0, 8, 21, 18)]) 4 := ⟨bw_8_14, bw_8_15, bw_4_22, bw_8_16, ⟨by decide +kernel, by decide +kernel, by decide +kernel⟩⟩
theorem cwL_hole : isCw yL_hole (.codeWith yL_hole cL_hole 6 (some .long) [(0, 10, 11, 27), (0, 10, 17, 14), (0, 10, 23, 18)]) 6 := Or.inl ⟨_, _, _, rfl⟩
theorem kl_105 : CallWok RL 105 yL_hole (.codeWith yL_hole cL_hole 6 (some .long) [(0, 10, 11, 27), (0, 10, 17, 14), (0, 10, 23, 18)]) 5 := ⟨bw_10_1, bw_10_2, bw_4_22, bw_10_3, ⟨by decide +kernel, by decide +kernel, by decide +kernel⟩⟩
theorem cwL_near : isCw yL_near (.codeWith yL_near cL_near 4 (some .long) [(0, 14, 15, 27)]) 4 := Or.inl ⟨_, _, _, rfl⟩
theorem kl_108 : CallWok RL 108 yL_near (.codeWith yL_near cL_near 4 (some .long) [(0, 14, 15, 27)]) 3 := ⟨bw_10_15, bw_10_16, bw_4_22, bw_10_17, ⟨by decide +kernel, by decide +kernel, by decide +kernel⟩⟩
theorem cwL_tool : isCw yL_tool (.codeWith yL_tool cL_tool 7 (some .long) [(0, 12, 13, 14), (0, 12, 19, 18)]) 7 := Or.inl ⟨_, _, _, rfl⟩
theorem kl_111 : CallWok RL 111 yL_tool (.codeWith yL_tool cL_tool 7 (some .long) [(0, 12, 13, 14), (0, 12, 19, 18)]) 6 := ⟨bw_10_23, bw_11_0, bw_4_22, bw_11_1, ⟨by decide +kernel, by decide +kernel, by decide +kernel⟩⟩
theorem cwL_trial : isCw yL_trial (.codeWith yL_trial cL_trial 5 (some .long) [(0, 8, 9, 27), (0, 8, 15, 14)]) 5 := Or.inl ⟨_, _, _, rfl⟩
theorem kl_114 : CallWok RL 114 yL_trial (.codeWith yL_trial cL_trial 5 (some .long) [(0, 8, 9, 27), (0, 8, 15, 14)]) 4 := ⟨bw_11_12, bw_11_13, bw_4_22, bw_11_14, ⟨by decide +kernel, by decide +kernel, by decide +kernel⟩⟩
theorem cwL_blank : isCw yL_blank (.codeWith yL_blank cL_blank 4 (some .long) [(0, 7, 8, 27)]) 4 := Or.inl ⟨_, _, _, rfl⟩
theorem kl_116 : CallWok RL 116 yL_blank (.codeWith yL_blank cL_blank 4 (some .long) [(0, 7, 8, 27)]) 3 := ⟨bw_12_0, bw_12_1, bw_4_22, bw_12_2, ⟨by decide +kernel, by decide +kernel, by decide +kernel⟩⟩
theorem cwL_why : isCw yL_why (.codeWith yL_why cL_why 6 (some .long) [(0, 10, 11, 27), (0, 10, 17, 14)]) 6 := Or.inl ⟨_, _, _, rfl⟩
theorem kl_118 : CallWok RL 118 yL_why (.codeWith yL_why cL_why 6 (some .long) [(0, 10, 11, 27), (0, 10, 17, 14)]) 5 := ⟨bw_12_7, bw_12_8, bw_4_22, bw_12_9, ⟨by decide +kernel, by decide +kernel, by decide +kernel⟩⟩
theorem cwL_point : isCw yL_point (.codeWith yL_point cL_point 8 (some .long) [(0, 14, 15, 27), (0, 14, 21, 14)]) 8 := Or.inl ⟨_, _, _, rfl⟩
theorem kl_120 : CallWok RL 120 yL_point (.codeWith yL_point cL_point 8 (some .long) [(0, 14, 15, 27), (0, 14, 21, 14)]) 7 := ⟨bw_14_15, bw_14_16, bw_4_22, bw_14_17, ⟨by decide +kernel, by decide +kernel, by decide +kernel⟩⟩
theorem cwL_flips : isCw yL_flips (.codeWith yL_flips cL_flips 4 (some .long) [(0, 7, 8, 27)]) 4 := Or.inl ⟨_, _, _, rfl⟩
theorem kl_123 : CallWok RL 123 yL_flips (.codeWith yL_flips cL_flips 4 (some .long) [(0, 7, 8, 27)]) 3 := ⟨bw_15_3, bw_15_4, bw_4_22, bw_15_5, ⟨by decide +kernel, by decide +kernel, by decide +kernel⟩⟩
theorem cwL_ordered : isCw yL_ordered (.codeWith yL_ordered cL_ordered 5 (some .long) [(0, 8, 9, 27)]) 5 := Or.inl ⟨_, _, _, rfl⟩
theorem kl_125 : CallWok RL 125 yL_ordered (.codeWith yL_ordered cL_ordered 5 (some .long) [(0, 8, 9, 27)]) 4 := ⟨bw_16_18, bw_16_19, bw_4_22, bw_16_20, ⟨by decide +kernel, by decide +kernel, by decide +kernel⟩⟩
theorem cwL_want : isCw yL_want (.codeWith yL_want cL_want 4 (some .long) [(0, 7, 8, 27), (0, 7, 13, 14), (0, 7, 18, 18)]) 4 := Or.inl ⟨_, _, _, rfl⟩
theorem kl_127 : CallWok RL 127 yL_want (.codeWith yL_want cL_want 4 (some .long) [(0, 7, 8, 27), (0, 7, 13, 14), (0, 7, 18, 18)]) 3 := ⟨bw_17_3, bw_17_4, bw_4_22, bw_17_5, ⟨by decide +kernel, by decide +kernel, by decide +kernel⟩⟩
theorem kL_129 : CallVok RL 129 yX8_clear cX8_clear 3 (some .int) 0 := ⟨bw_17_11, bw_17_12, bw_17_13, bw_1_2, bw_17_14, ⟨by decide +kernel, by decide +kernel, by decide +kernel⟩⟩
theorem cwL_nest : isCw yL_nest (.codeWith yL_nest cL_nest 6 (some .long) [(0, 9, 10, 27), (0, 9, 16, 14)]) 6 := Or.inl ⟨_, _, _, rfl⟩
theorem kl_132 : CallWok RL 132 yL_nest (.codeWith yL_nest cL_nest 6 (some .long) [(0, 9, 10, 27), (0, 9, 16, 14)]) 5 := ⟨bw_17_15, bw_17_16, bw_4_22, bw_17_17, ⟨by decide +kernel, by decide +kernel, by decide +kernel⟩⟩
theorem cwL_batch : isCw yL_batch (.codeWith yL_batch cL_batch 5 (some .long) [(0, 8, 9, 27), (0, 8, 15, 14), (0, 8, 21, 18)]) 5 := Or.inl ⟨_, _, _, rfl⟩
theorem kl_134 : CallWok RL 134 yL_batch (.codeWith yL_batch cL_batch 5 (some .long) [(0, 8, 9, 27), (0, 8, 15, 14), (0, 8, 21, 18)]) 4 := ⟨bw_20_3, bw_20_4, bw_4_22, bw_20_5, ⟨by decide +kernel, by decide +kernel, by decide +kernel⟩⟩
theorem cwL_work : isCw yL_work (.codeWith yL_work cL_work 3 (some .long) [(0, 6, 7, 27), (0, 6, 12, 18)]) 3 := Or.inl ⟨_, _, _, rfl⟩
theorem kl_136 : CallWok RL 136 yL_work (.codeWith yL_work cL_work 3 (some .long) [(0, 6, 7, 27), (0, 6, 12, 18)]) 2 := ⟨bw_20_10, bw_20_11, bw_4_22, bw_20_12, ⟨by decide +kernel, by decide +kernel, by decide +kernel⟩⟩
theorem cwL_batchOf : isCw yL_batchOf (.codeWith yL_batchOf cL_batchOf 4 (some .long) [(0, 7, 8, 27), (0, 7, 13, 14)]) 4 := Or.inl ⟨_, _, _, rfl⟩
theorem kl_139 : CallWok RL 139 yL_batchOf (.codeWith yL_batchOf cL_batchOf 4 (some .long) [(0, 7, 8, 27), (0, 7, 13, 14)]) 3 := ⟨bw_21_1, bw_21_2, bw_4_22, bw_21_3, ⟨by decide +kernel, by decide +kernel, by decide +kernel⟩⟩
theorem cwL_kits : isCw yL_kits (.codeWith yL_kits cL_kits 3 (some .long) [(0, 6, 7, 14)]) 3 := Or.inl ⟨_, _, _, rfl⟩
theorem kl_141 : CallWok RL 141 yL_kits (.codeWith yL_kits cL_kits 3 (some .long) [(0, 6, 7, 14)]) 2 := ⟨bw_21_8, bw_21_9, bw_4_22, bw_21_10, ⟨by decide +kernel, by decide +kernel, by decide +kernel⟩⟩
theorem cwL_take : isCw yL_take (.codeWith yL_take cL_take 4 (some .long) [(0, 7, 8, 14), (0, 7, 13, 18)]) 4 := Or.inl ⟨_, _, _, rfl⟩
theorem kl_143 : CallWok RL 143 yL_take (.codeWith yL_take cL_take 4 (some .long) [(0, 7, 8, 14), (0, 7, 13, 18)]) 3 := ⟨bw_22_3, bw_22_4, bw_4_22, bw_22_5, ⟨by decide +kernel, by decide +kernel, by decide +kernel⟩⟩
theorem cwL_isOrderSo : isCw yL_isOrderSo (.code yL_isOrderSo cL_isOrderSo 9 (some .boolean)) 9 := Or.inr ⟨_, _, rfl⟩
theorem kl_145 : CallWok RL 145 yL_isOrderSo (.code yL_isOrderSo cL_isOrderSo 9 (some .boolean)) 3 := ⟨bw_22_22, bw_22_23, bw_4_22, bw_23_0, ⟨by decide +kernel, by decide +kernel, by decide +kernel⟩⟩
theorem kL_149 : CallVok RL 149 yX8_flipsAnew cX8_flipsAnew 4 (some .int) 2 := ⟨bw_23_1, bw_23_2, bw_23_3, bw_1_2, bw_23_4, ⟨by decide +kernel, by decide +kernel, by decide +kernel⟩⟩
theorem cwL_cell : isCw yL_cell (.code yL_cell cL_cell 2 (some .int)) 2 := Or.inr ⟨_, _, rfl⟩
theorem kl_157 : CallWok RL 157 yL_cell (.code yL_cell cL_cell 2 (some .int)) 2 := ⟨bw_4_20, bw_4_21, bw_4_22, bw_4_23, ⟨by decide +kernel, by decide +kernel, by decide +kernel⟩⟩
theorem cwL_act : isCw yL_act (.code yL_act cL_act 8 (some .long)) 8 := Or.inr ⟨_, _, rfl⟩
theorem kl_161 : CallWok RL 161 yL_act (.code yL_act cL_act 8 (some .long)) 2 := ⟨bw_5_0, bw_5_1, bw_4_22, bw_5_2, ⟨by decide +kernel, by decide +kernel, by decide +kernel⟩⟩
theorem cwL_areAlike : isCw yL_areAlike (.code yL_areAlike cL_areAlike 5 (some .boolean)) 5 := Or.inr ⟨_, _, rfl⟩
theorem kl_164 : CallWok RL 164 yL_areAlike (.code yL_areAlike cL_areAlike 5 (some .boolean)) 3 := ⟨bw_22_14, bw_22_15, bw_4_22, bw_22_16, ⟨by decide +kernel, by decide +kernel, by decide +kernel⟩⟩
theorem cwL_isSo : isCw yL_isSo (.code yL_isSo cL_isSo 5 (some .boolean)) 5 := Or.inr ⟨_, _, rfl⟩
theorem kl_168 : CallWok RL 168 yL_isSo (.code yL_isSo cL_isSo 5 (some .boolean)) 1 := ⟨bw_22_17, bw_22_18, bw_4_22, bw_22_19, ⟨by decide +kernel, by decide +kernel, by decide +kernel⟩⟩
abbrev rmL_low : Room := { frames := 6, cells := 0, slots := 0, locals := 90 }
def nz (n : Int32) : Bool := decide (¬ n = 0)
def fL_low (p1 p2 : Int32) : Option Int32 := gd (nz p2) (some ((p1 &&& 2147483647) - (p1 &&& 2147483647) / p2 * p2))
theorem mL_low {l : Launch} {D : va_G} {cs : Nat → ClassId} {a : Nat → Nat} (hT : l.stackTraces = false) {S : St} {p1 p2 r : Int32} (hF : fL_low p1 p2 = some r) : ML l D cs a yL_low (.code yL_low cL_low 2 (some .int)) rmL_low [.int p1, .int p2] S (.int r) S := by
  refine ml_entryC [(0, .int p1), (1, .int p2)] hT (by decide +kernel) (Nat.le_of_ble_eq_true rfl) rfl (fun E hEl hED hEk C hQ => ?_)
  subst hEl
  subst hED
  subst hEk
  unfold fL_low at hF
  obtain ⟨hn, hF⟩ := gd_of hF
  cases hF
  refine v_iload_n 0 (pc := 0) C dL_low_0 rfl rfl ?_
  refine v_ldci (pc := 1) C bw_5_6 dL_low_1 ?_
  refine v_iand (pc := 3) C dL_low_3 ?_
  refine v_iload_n 1 (pc := 4) C dL_low_4 rfl rfl ?_
  refine v_irem (pc := 5) C (of_decide_eq_true hn) dL_low_5 ?_
  exact l_iret (pc := 6) C hQ rfl dL_low_6 rfl rfl (Nat.le_of_ble_eq_true rfl) (Nat.le_of_ble_eq_true rfl)
def fL_act (S : St) (p2 : Int32) : Option ((Int64 × St)) :=
  bn1 (fL_low (p2 >>> ((26 : Int32) &&& 31)) (14 : Int32)) (fun (v1 : Int32) =>
  bn1 (if v1 = 0 then (
    some (1 : Int32))
  else (
    some (0 : Int32))) (fun (v2 : Int32) =>
    bn1 (if v2 = 0 then (
      bn1 (fL_low (p2 >>> ((5 : Int32) &&& 31)) (3 : Int32)) (fun (v238 : Int32) =>
      some v238))
    else (
      bn1 (fL_low (p2 >>> ((5 : Int32) &&& 31)) (11 : Int32)) (fun (v239 : Int32) =>
      some (v239 - (1 : Int32))))) (fun (v3 : Int32) =>
      bn1 (if v2 = 0 then (
        bn1 (fL_low (p2 >>> ((8 : Int32) &&& 31)) (2 : Int32)) (fun (v234 : Int32) =>
        some v234))
      else (
        bn1 (fL_low (p2 >>> ((8 : Int32) &&& 31)) (7 : Int32)) (fun (v235 : Int32) =>
        some (v235 - (1 : Int32))))) (fun (v4 : Int32) =>
        bn1 (if v2 = 0 then (
          bn1 (fL_low (p2 >>> ((9 : Int32) &&& 31)) (110 : Int32)) (fun (v231 : Int32) =>
          some ((10 : Int32) + v231)))
        else (
          some (p2 >>> ((9 : Int32) &&& 31)))) (fun (v5 : Int32) =>
          bn1 (if v2 = 0 then (
            bn1 (fL_low (p2 >>> ((12 : Int32) &&& 31)) (4 : Int32)) (fun (v227 : Int32) =>
            some v227))
          else (
            bn1 (fL_low (p2 >>> ((12 : Int32) &&& 31)) (12 : Int32)) (fun (v228 : Int32) =>
            some (v228 - (2 : Int32))))) (fun (v6 : Int32) =>
            bn1 (if v2 = 0 then (
              bn1 (fL_low (p2 >>> ((15 : Int32) &&& 31)) (8 : Int32)) (fun (v223 : Int32) =>
              some v223))
            else (
              bn1 (fL_low (p2 >>> ((15 : Int32) &&& 31)) (24 : Int32)) (fun (v224 : Int32) =>
              some (v224 - (2 : Int32))))) (fun (v7 : Int32) =>
              bn1 (fL_low p2 (36 : Int32)) (fun (v8 : Int32) =>
              jn1 (fun (S9 : St) =>
                bn1 (if v2 = 0 then (
                  bn1 (fL_low (p2 >>> ((12 : Int32) &&& 31)) (2 : Int32)) (fun (v15 : Int32) =>
                  some v15))
                else (
                  some v6)) (fun (v10 : Int32) =>
                  bn2 (fL_face S9 v5 v10) (fun (w11 : Int64) (S12 : St) =>
                  some (w11, S12)))) (fun J16 =>
                jn1 (fun (S17 : St) =>
                  bn1 (if v2 = 0 then (
                    bn1 (fL_low (p2 >>> ((12 : Int32) &&& 31)) (4 : Int32)) (fun (v23 : Int32) =>
                    some ((1 : Int32) + v23)))
                  else (
                    some v6)) (fun (v18 : Int32) =>
                    bn2 (fL_part S17 v5 v18) (fun (w19 : Int64) (S20 : St) =>
                    some (w19, S20)))) (fun J24 =>
                  jn1 (fun (S25 : St) =>
                    bn1 (if v2 = 0 then (
                      bn1 (fL_low (p2 >>> ((9 : Int32) &&& 31)) (2 : Int32)) (fun (v35 : Int32) =>
                      some ((10 : Int32) + v35)))
                    else (
                      some v5)) (fun (v26 : Int32) =>
                      bn1 (if v2 = 0 then (
                        bn1 (fL_low (p2 >>> ((12 : Int32) &&& 31)) (2 : Int32)) (fun (v32 : Int32) =>
                        some ((1 : Int32) + v32)))
                      else (
                        some v6)) (fun (v27 : Int32) =>
                        bn2 (fL_redraw S25 v3 v26 v27) (fun (w28 : Int64) (S29 : St) =>
                        some (w28, S29))))) (fun J36 =>
                    jn1 (fun (S37 : St) =>
                      bn1 (if v2 = 0 then (
                        bn1 (fL_low (p2 >>> ((9 : Int32) &&& 31)) (30 : Int32)) (fun (v56 : Int32) =>
                        some ((4 : Int32) + v56)))
                      else (
                        some v5)) (fun (v38 : Int32) =>
                        bn1 (if v2 = 0 then (
                          bn1 (fL_low (p2 >>> ((3 : Int32) &&& 31)) (31 : Int32)) (fun (v53 : Int32) =>
                          some v53))
                        else (
                          some (p2 >>> ((3 : Int32) &&& 31)))) (fun (v39 : Int32) =>
                          bn1 (fL_low (p2 >>> ((6 : Int32) &&& 31)) (120 : Int32)) (fun (v40 : Int32) =>
                          bn1 (if v2 = 0 then (
                            bn1 (fL_low (p2 >>> ((5 : Int32) &&& 31)) (100 : Int32)) (fun (v50 : Int32) =>
                            some ((10 : Int32) + v50)))
                          else (
                            some (p2 >>> ((5 : Int32) &&& 31)))) (fun (v41 : Int32) =>
                            bn1 (if v2 = 0 then (
                              bn1 (fL_low (p2 >>> ((4 : Int32) &&& 31)) (400 : Int32)) (fun (v47 : Int32) =>
                              some ((20 : Int32) + v47)))
                            else (
                              some (p2 >>> ((4 : Int32) &&& 31)))) (fun (v42 : Int32) =>
                              bn2 (fL_tool S37 v38 v39 ((10 : Int32) + v40) v41 v42) (fun (w43 : Int64) (S44 : St) =>
                              some (w43, S44)))))))) (fun J57 =>
                      jn1 (fun (S58 : St) =>
                        bn1 (if v2 = 0 then (
                          bn1 (fL_low (p2 >>> ((9 : Int32) &&& 31)) (8 : Int32)) (fun (v64 : Int32) =>
                          some v64))
                        else (
                          some v5)) (fun (v59 : Int32) =>
                          bn2 (fL_why S58 v3 v4 v59 v6) (fun (w60 : Int64) (S61 : St) =>
                          some (w60, S61)))) (fun J65 =>
                        jn1 (fun (S66 : St) =>
                          bn1 (if v2 = 0 then (
                            bn1 (fL_low (p2 >>> ((9 : Int32) &&& 31)) (6 : Int32)) (fun (v72 : Int32) =>
                            some ((1 : Int32) + v72)))
                          else (
                            some v5)) (fun (v67 : Int32) =>
                            bn2 (fL_want S66 v3 v67) (fun (w68 : Int64) (S69 : St) =>
                            some (w68, S69)))) (fun J73 =>
                          jn1 (fun (S74 : St) =>
                            bn1 (if v2 = 0 then (
                              bn1 (fL_low (p2 >>> ((9 : Int32) &&& 31)) (20 : Int32)) (fun (v80 : Int32) =>
                              some ((1 : Int32) + v80)))
                            else (
                              some v5)) (fun (v75 : Int32) =>
                              bn2 (fL_batch S74 v3 v4 v75) (fun (w76 : Int64) (S77 : St) =>
                              some (w76, S77)))) (fun J81 =>
                            jn1 (fun (S82 : St) =>
                              bn2 (fL_work S82 v7) (fun (w83 : Int64) (S84 : St) =>
                              some (w83, S84))) (fun J85 =>
                              if v8 = (0 : Int32) then (
                                J16 S)
                              else if v8 = (1 : Int32) then (
                                J16 S)
                              else if v8 = (2 : Int32) then (
                                J16 S)
                              else if v8 = (3 : Int32) then (
                                J16 S)
                              else if v8 = (4 : Int32) then (
                                J16 S)
                              else if v8 = (5 : Int32) then (
                                J16 S)
                              else if v8 = (6 : Int32) then (
                                J16 S)
                              else if v8 = (7 : Int32) then (
                                bn1 (fL_low (p2 >>> ((16 : Int32) &&& 31)) (4 : Int32)) (fun (v94 : Int32) =>
                                if v94 = 0 then (
                                  bn2 (fX8_wipe S) (fun (v102 : Int32) (S103 : St) =>
                                  some ((Int32.toInt64 v102), S103)))
                                else (
                                  bn1 (if v2 = 0 then (
                                    bn1 (fL_low (p2 >>> ((9 : Int32) &&& 31)) (6 : Int32)) (fun (v101 : Int32) =>
                                    some v101))
                                  else (
                                    some v5)) (fun (v96 : Int32) =>
                                    bn2 (fL_told S v3 v96) (fun (w97 : Int64) (S98 : St) =>
                                    some (w97, S98))))))
                              else if v8 = (8 : Int32) then (
                                J24 S)
                              else if v8 = (9 : Int32) then (
                                J24 S)
                              else if v8 = (10 : Int32) then (
                                J24 S)
                              else if v8 = (11 : Int32) then (
                                J36 S)
                              else if v8 = (12 : Int32) then (
                                J36 S)
                              else if v8 = (13 : Int32) then (
                                bn1 (if v2 = 0 then (
                                  bn1 (fL_low (p2 >>> ((6 : Int32) &&& 31)) (30 : Int32)) (fun (v119 : Int32) =>
                                  some ((1 : Int32) + v119)))
                                else (
                                  some (p2 >>> ((6 : Int32) &&& 31)))) (fun (v110 : Int32) =>
                                  bn1 (if v2 = 0 then (
                                    bn1 (fL_low (p2 >>> ((9 : Int32) &&& 31)) (20 : Int32)) (fun (v116 : Int32) =>
                                    some ((1 : Int32) + v116)))
                                  else (
                                    some v5)) (fun (v111 : Int32) =>
                                    bn2 (fL_hole S v3 v6 v110 v111) (fun (w112 : Int64) (S113 : St) =>
                                    some (w112, S113)))))
                              else if v8 = (14 : Int32) then (
                                bn2 (fL_near S v3 v6) (fun (w121 : Int64) (S122 : St) =>
                                some (w121, S122)))
                              else if v8 = (15 : Int32) then (
                                J57 S)
                              else if v8 = (16 : Int32) then (
                                J57 S)
                              else if v8 = (17 : Int32) then (
                                bn1 (if v2 = 0 then (
                                  bn1 (fL_low (p2 >>> ((12 : Int32) &&& 31)) (4 : Int32)) (fun (v135 : Int32) =>
                                  some ((1 : Int32) + v135)))
                                else (
                                  some v6)) (fun (v126 : Int32) =>
                                  bn1 (if v2 = 0 then (
                                    bn1 (fL_low (p2 >>> ((9 : Int32) &&& 31)) (10 : Int32)) (fun (v132 : Int32) =>
                                    some v132))
                                  else (
                                    some v5)) (fun (v127 : Int32) =>
                                    bn2 (fL_trial S v4 v126 v127) (fun (w128 : Int64) (S129 : St) =>
                                    some (w128, S129)))))
                              else if v8 = (18 : Int32) then (
                                bn2 (fL_blank S v3 v4) (fun (w137 : Int64) (S138 : St) =>
                                some (w137, S138)))
                              else if v8 = (19 : Int32) then (
                                J65 S)
                              else if v8 = (20 : Int32) then (
                                J65 S)
                              else if v8 = (21 : Int32) then (
                                bn1 (if v2 = 0 then (
                                  bn1 (fL_low (p2 >>> ((9 : Int32) &&& 31)) (8 : Int32)) (fun (v157 : Int32) =>
                                  some v157))
                                else (
                                  some v5)) (fun (v142 : Int32) =>
                                  bn1 (if ((p2 >>> ((20 : Int32) &&& 31)) &&& (1 : Int32)) = (1 : Int32) then (
                                    some (1 : Int32))
                                  else (
                                    some (0 : Int32))) (fun (v143 : Int32) =>
                                    bn1 (if v2 = 0 then (
                                      bn1 (fL_low (p2 >>> ((15 : Int32) &&& 31)) (3 : Int32)) (fun (v152 : Int32) =>
                                      some v152))
                                    else (
                                      some v7)) (fun (v144 : Int32) =>
                                      bn1 (if ((p2 >>> ((21 : Int32) &&& 31)) &&& (1 : Int32)) = (1 : Int32) then (
                                        some (1 : Int32))
                                      else (
                                        some (0 : Int32))) (fun (v145 : Int32) =>
                                        bn2 (fL_point S v3 v142 v6 v143 v144 v145) (fun (w146 : Int64) (S147 : St) =>
                                        some (w146, S147)))))))
                              else if v8 = (22 : Int32) then (
                                bn2 (fL_flips S v3 v4) (fun (w159 : Int64) (S160 : St) =>
                                some (w159, S160)))
                              else if v8 = (23 : Int32) then (
                                bn2 (fL_ordered S v3 v4 v6) (fun (w162 : Int64) (S163 : St) =>
                                some (w162, S163)))
                              else if v8 = (24 : Int32) then (
                                J73 S)
                              else if v8 = (25 : Int32) then (
                                J73 S)
                              else if v8 = (26 : Int32) then (
                                bn1 (fL_low (p2 >>> ((16 : Int32) &&& 31)) (4 : Int32)) (fun (v167 : Int32) =>
                                if v167 = 0 then (
                                  bn2 (fX8_clear S) (fun (v175 : Int32) (S176 : St) =>
                                  some ((Int32.toInt64 v175), S176)))
                                else (
                                  bn1 (if v2 = 0 then (
                                    bn1 (fL_low (p2 >>> ((9 : Int32) &&& 31)) (6 : Int32)) (fun (v174 : Int32) =>
                                    some v174))
                                  else (
                                    some v5)) (fun (v169 : Int32) =>
                                    bn2 (fL_told S v3 v169) (fun (w170 : Int64) (S171 : St) =>
                                    some (w170, S171))))))
                              else if v8 = (27 : Int32) then (
                                bn1 (if v2 = 0 then (
                                  bn1 (fL_low (p2 >>> ((9 : Int32) &&& 31)) (600 : Int32)) (fun (v191 : Int32) =>
                                  some ((400 : Int32) + v191)))
                                else (
                                  some v5)) (fun (v178 : Int32) =>
                                  bn1 (if v2 = 0 then (
                                    bn1 (fL_low (p2 >>> ((6 : Int32) &&& 31)) (300 : Int32)) (fun (v188 : Int32) =>
                                    some ((100 : Int32) + v188)))
                                  else (
                                    some (p2 >>> ((6 : Int32) &&& 31)))) (fun (v179 : Int32) =>
                                    bn1 (if v2 = 0 then (
                                      bn1 (fL_low (p2 >>> ((12 : Int32) &&& 31)) (4 : Int32)) (fun (v185 : Int32) =>
                                      some v185))
                                    else (
                                      some v6)) (fun (v180 : Int32) =>
                                      bn2 (fL_nest S v4 v178 v179 v180) (fun (w181 : Int64) (S182 : St) =>
                                      some (w181, S182))))))
                              else if v8 = (28 : Int32) then (
                                J81 S)
                              else if v8 = (29 : Int32) then (
                                J81 S)
                              else if v8 = (30 : Int32) then (
                                J85 S)
                              else if v8 = (31 : Int32) then (
                                J85 S)
                              else if v8 = (32 : Int32) then (
                                J85 S)
                              else if v8 = (33 : Int32) then (
                                bn1 (if v2 = 0 then (
                                  bn1 (fL_low (p2 >>> ((9 : Int32) &&& 31)) (4 : Int32)) (fun (v203 : Int32) =>
                                  some v203))
                                else (
                                  some v5)) (fun (v198 : Int32) =>
                                  bn2 (fL_batchOf S v7 v198) (fun (w199 : Int64) (S200 : St) =>
                                  some (w199, S200))))
                              else if v8 = (34 : Int32) then (
                                bn1 (if v2 = 0 then (
                                  bn1 (fL_low (p2 >>> ((9 : Int32) &&& 31)) (7 : Int32)) (fun (v210 : Int32) =>
                                  some ((1 : Int32) + v210)))
                                else (
                                  some v5)) (fun (v205 : Int32) =>
                                  bn2 (fL_kits S v205) (fun (w206 : Int64) (S207 : St) =>
                                  some (w206, S207))))
                              else (
                                bn1 (if v2 = 0 then (
                                  bn1 (fL_low (p2 >>> ((9 : Int32) &&& 31)) (7 : Int32)) (fun (v220 : Int32) =>
                                  some ((1 : Int32) + v220)))
                                else (
                                  some v5)) (fun (v211 : Int32) =>
                                  bn1 (if v2 = 0 then (
                                    bn1 (fL_low (p2 >>> ((3 : Int32) &&& 31)) (8 : Int32)) (fun (v217 : Int32) =>
                                    some ((1 : Int32) + v217)))
                                  else (
                                    some (p2 >>> ((3 : Int32) &&& 31)))) (fun (v212 : Int32) =>
                                    bn2 (fL_take S v211 v212) (fun (w213 : Int64) (S214 : St) =>
                                    some (w213, S214)))))))))))))))))))))
abbrev rmL_act : Room := { frames := 14, cells := 46, slots := 276, locals := 410 }
set_option maxRecDepth 100000 in
set_option maxHeartbeats 4000000 in
theorem mL_act {l : Launch} {D : va_G} {cs : Nat → ClassId} {a : Nat → Nat} (hT : l.stackTraces = false) {S : St} {p2 : Int32} {r : Int64} {S' : St} (hF : fL_act S p2 = some (r, S')) : ML l D cs a yL_act (.code yL_act cL_act 8 (some .long)) rmL_act [.ref (a 0), .int p2] S (.long r) S' := by
  refine ml_entryC [(0, .ref (a 0)), (1, .int p2)] hT (by decide +kernel) (Nat.le_of_ble_eq_true rfl) rfl (fun E hEl hED hEk C hQ => ?_)
  subst hEl
  subst hED
  subst hEk
  unfold fL_act at hF
  refine v_iload_n 1 (pc := 0) C dL_act_0 rfl rfl ?_
  refine v_bipush (pc := 1) (v := (26 : Int32)) C dL_act_1 (by decide) ?_
  refine v_ishr (pc := 3) C dL_act_3 ?_
  refine v_bipush (pc := 4) (v := (14 : Int32)) C dL_act_4 (by decide) ?_
  obtain ⟨v1, hG, hF⟩ := bn1_of hF
  refine l_call [.int (p2 >>> ((26 : Int32) &&& 31)), .int (14 : Int32)] (pc := 6) (st1 := [.int v1]) (c1 := 0) (s1 := 0) C hQ.1 (mL_low C.hT hG) cwL_low kl_86 rfl rfl rfl rfl (Nat.le_of_ble_eq_true rfl) ⟨(Nat.le_of_ble_eq_true rfl), (Nat.le_of_ble_eq_true rfl)⟩ ⟨(Nat.le_of_ble_eq_true rfl), (Nat.le_of_ble_eq_true rfl)⟩ dL_act_6 rfl rfl ?_
  obtain ⟨v2', hR, hF⟩ := bn1_of hF
  have hJ240 : ∀ (v2 : Int32), (some v2 : Option (Int32)) = some v2' → Zz E (WX E a S) 0 0 17 [(0, .ref (a 0)), (1, .int p2)] [.int v2] := by
    intro v2 hE
    have hE0 := Option.some.inj hE
    subst hE0
    refine v_istore_n (pc := 17) (loc' := [(2, .int v2), (0, .ref (a 0)), (1, .int p2)]) C dL_act_17 rfl (by decide) rfl ?_
    refine v_iload_n 0 (pc := 18) C dL_act_18 rfl rfl ?_
    obtain ⟨v3', hR, hF⟩ := bn1_of hF
    have hJ236 : ∀ (v3 : Int32), (some v3 : Option (Int32)) = some v3' → Zz E (WX E a S) 0 0 42 [(0, .ref (a 0)), (1, .int p2), (2, .int v2)] [.int v3] := by
      intro v3 hE
      have hE0 := Option.some.inj hE
      subst hE0
      refine v_istore_n (pc := 42) (loc' := [(3, .int v3), (0, .ref (a 0)), (1, .int p2), (2, .int v2)]) C dL_act_42 rfl (by decide) rfl ?_
      refine v_iload_n 3 (pc := 43) C dL_act_43 rfl rfl ?_
      obtain ⟨v4', hR, hF⟩ := bn1_of hF
      have hJ232 : ∀ (v4 : Int32), (some v4 : Option (Int32)) = some v4' → Zz E (WX E a S) 0 0 69 [(0, .ref (a 0)), (1, .int p2), (2, .int v2), (3, .int v3)] [.int v4] := by
        intro v4 hE
        have hE0 := Option.some.inj hE
        subst hE0
        refine v_istore (pc := 69) (loc' := [(4, .int v4), (0, .ref (a 0)), (1, .int p2), (2, .int v2), (3, .int v3)]) C dL_act_69 (by decide) rfl ?_
        refine v_iload_n 3 (pc := 71) C dL_act_71 rfl rfl ?_
        obtain ⟨v5', hR, hF⟩ := bn1_of hF
        have hJ229 : ∀ (v5 : Int32), (some v5 : Option (Int32)) = some v5' → Zz E (WX E a S) 0 0 94 [(0, .ref (a 0)), (1, .int p2), (2, .int v2), (3, .int v3), (4, .int v4)] [.int v5] := by
          intro v5 hE
          have hE0 := Option.some.inj hE
          subst hE0
          refine v_istore (pc := 94) (loc' := [(5, .int v5), (0, .ref (a 0)), (1, .int p2), (2, .int v2), (3, .int v3), (4, .int v4)]) C dL_act_94 (by decide) rfl ?_
          refine v_iload_n 3 (pc := 96) C dL_act_96 rfl rfl ?_
          obtain ⟨v6', hR, hF⟩ := bn1_of hF
          have hJ225 : ∀ (v6 : Int32), (some v6 : Option (Int32)) = some v6' → Zz E (WX E a S) 0 0 122 [(0, .ref (a 0)), (1, .int p2), (2, .int v2), (3, .int v3), (4, .int v4), (5, .int v5)] [.int v6] := by
            intro v6 hE
            have hE0 := Option.some.inj hE
            subst hE0
            refine v_istore (pc := 122) (loc' := [(6, .int v6), (0, .ref (a 0)), (1, .int p2), (2, .int v2), (3, .int v3), (4, .int v4), (5, .int v5)]) C dL_act_122 (by decide) rfl ?_
            refine v_iload_n 3 (pc := 124) C dL_act_124 rfl rfl ?_
            obtain ⟨v7', hR, hF⟩ := bn1_of hF
            have hJ221 : ∀ (v7 : Int32), (some v7 : Option (Int32)) = some v7' → Zz E (WX E a S) 0 0 151 [(0, .ref (a 0)), (1, .int p2), (2, .int v2), (3, .int v3), (4, .int v4), (5, .int v5), (6, .int v6)] [.int v7] := by
              intro v7 hE
              have hE0 := Option.some.inj hE
              subst hE0
              refine v_istore (pc := 151) (loc' := [(7, .int v7), (0, .ref (a 0)), (1, .int p2), (2, .int v2), (3, .int v3), (4, .int v4), (5, .int v5), (6, .int v6)]) C dL_act_151 (by decide) rfl ?_
              refine v_iload_n 2 (pc := 153) C dL_act_153 rfl rfl ?_
              refine v_bipush (pc := 154) (v := (36 : Int32)) C dL_act_154 (by decide) ?_
              obtain ⟨v8, hG, hF⟩ := bn1_of hF
              refine l_call [.int p2, .int (36 : Int32)] (pc := 156) (st1 := [.int v8]) (c1 := 0) (s1 := 0) C hQ.1 (mL_low C.hT hG) cwL_low kl_86 rfl rfl rfl rfl (Nat.le_of_ble_eq_true rfl) ⟨(Nat.le_of_ble_eq_true rfl), (Nat.le_of_ble_eq_true rfl)⟩ ⟨(Nat.le_of_ble_eq_true rfl), (Nat.le_of_ble_eq_true rfl)⟩ dL_act_156 rfl rfl ?_
              obtain ⟨J16, hdJ16, hF⟩ := jn1_of hF
              have hJ16 : ∀ (S9 : St), J16 S9 = some (r, S') → Zz E (WX E a S9) 45 270 312 [(0, .ref (a 0)), (1, .int p2), (2, .int v2), (5, .int v5), (6, .int v6)] [] := by
                intro S9 hF
                have hF := (hdJ16 _).symm.trans hF
                refine v_aload_n 0 (pc := 312) C dL_act_312 rfl rfl ?_
                refine v_iload 3 (pc := 313) C dL_act_313 rfl ?_
                refine v_iload_n 2 (pc := 315) C dL_act_315 rfl rfl ?_
                obtain ⟨v10', hR, hF⟩ := bn1_of hF
                have hJ13 : ∀ (v10 : Int32), (some v10 : Option (Int32)) = some v10' → Zz E (WX E a S9) 45 270 332 [] [.int v10, .int v5, .ref (a 0)] := by
                  intro v10 hE
                  have hE0 := Option.some.inj hE
                  subst hE0
                  obtain ⟨w11, S12, hG, hF⟩ := bn2_of hF
                  refine l_call [.ref (a 0), .int v5, .int v10] (pc := 332) (st1 := [.long w11]) (c1 := 46) (s1 := 276) C hQ.1 (mL_face C.hT hG) cwL_face kl_91 rfl rfl rfl rfl (Nat.le_of_ble_eq_true rfl) ⟨(Nat.le_of_ble_eq_true rfl), (Nat.le_of_ble_eq_true rfl)⟩ ⟨(Nat.le_of_ble_eq_true rfl), (Nat.le_of_ble_eq_true rfl)⟩ dL_act_332 rfl rfl ?_
                  exact l_lret (pc := 335) C hQ dL_act_335 (by cases hF; rfl) (by cases hF; rfl) (Nat.le_of_ble_eq_true rfl) (Nat.le_of_ble_eq_true rfl)
                have hF := hR
                clear hR
                refine v_if_eq 324 (pc := 316) C dL_act_316 (by decide) (fun c14 => ?_) (fun c14 => ?_)
                · have hF := if_t hF c14
                  refine v_iload_n 1 (pc := 324) C dL_act_324 rfl rfl ?_
                  refine v_bipush (pc := 325) (v := (12 : Int32)) C dL_act_325 (by decide) ?_
                  refine v_ishr (pc := 327) C dL_act_327 ?_
                  refine v_iconst (pc := 328) (v := (2 : Int32)) C dL_act_328 (by decide) ?_
                  obtain ⟨v15, hG, hF⟩ := bn1_of hF
                  refine l_call [.int (p2 >>> ((12 : Int32) &&& 31)), .int (2 : Int32)] (pc := 329) (st1 := [.int v15, .int v5, .ref (a 0)]) (c1 := 45) (s1 := 270) C hQ.1 (mL_low C.hT hG) cwL_low kl_86 rfl rfl rfl rfl (Nat.le_of_ble_eq_true rfl) ⟨(Nat.le_of_ble_eq_true rfl), (Nat.le_of_ble_eq_true rfl)⟩ ⟨(Nat.le_of_ble_eq_true rfl), (Nat.le_of_ble_eq_true rfl)⟩ dL_act_329 rfl rfl ?_
                  refine z_sub [] rfl ?_
                  exact hJ13 _ hF
                · have hF := if_f hF c14
                  refine v_iload 4 (pc := 319) C dL_act_319 rfl ?_
                  refine v_goto 332 (pc := 321) C dL_act_321 (by decide) ?_
                  refine z_sub [] rfl ?_
                  exact hJ13 _ hF
              obtain ⟨J24, hdJ24, hF⟩ := jn1_of hF
              have hJ24 : ∀ (S17 : St), J24 S17 = some (r, S') → Zz E (WX E a S17) 42 252 379 [(0, .ref (a 0)), (1, .int p2), (2, .int v2), (5, .int v5), (6, .int v6)] [] := by
                intro S17 hF
                have hF := (hdJ24 _).symm.trans hF
                refine v_aload_n 0 (pc := 379) C dL_act_379 rfl rfl ?_
                refine v_iload 3 (pc := 380) C dL_act_380 rfl ?_
                refine v_iload_n 2 (pc := 382) C dL_act_382 rfl rfl ?_
                obtain ⟨v18', hR, hF⟩ := bn1_of hF
                have hJ21 : ∀ (v18 : Int32), (some v18 : Option (Int32)) = some v18' → Zz E (WX E a S17) 42 252 401 [] [.int v18, .int v5, .ref (a 0)] := by
                  intro v18 hE
                  have hE0 := Option.some.inj hE
                  subst hE0
                  obtain ⟨w19, S20, hG, hF⟩ := bn2_of hF
                  refine l_call [.ref (a 0), .int v5, .int v18] (pc := 401) (st1 := [.long w19]) (c1 := 45) (s1 := 270) C hQ.1 (mL_part C.hT hG) cwL_part kl_100 rfl rfl rfl rfl (Nat.le_of_ble_eq_true rfl) ⟨(Nat.le_of_ble_eq_true rfl), (Nat.le_of_ble_eq_true rfl)⟩ ⟨(Nat.le_of_ble_eq_true rfl), (Nat.le_of_ble_eq_true rfl)⟩ dL_act_401 rfl rfl ?_
                  exact l_lret (pc := 404) C hQ dL_act_404 (by cases hF; rfl) (by cases hF; rfl) (Nat.le_of_ble_eq_true rfl) (Nat.le_of_ble_eq_true rfl)
                have hF := hR
                clear hR
                refine v_if_eq 391 (pc := 383) C dL_act_383 (by decide) (fun c22 => ?_) (fun c22 => ?_)
                · have hF := if_t hF c22
                  refine v_iconst (pc := 391) (v := (1 : Int32)) C dL_act_391 (by decide) ?_
                  refine v_iload_n 1 (pc := 392) C dL_act_392 rfl rfl ?_
                  refine v_bipush (pc := 393) (v := (12 : Int32)) C dL_act_393 (by decide) ?_
                  refine v_ishr (pc := 395) C dL_act_395 ?_
                  refine v_iconst (pc := 396) (v := (4 : Int32)) C dL_act_396 (by decide) ?_
                  obtain ⟨v23, hG, hF⟩ := bn1_of hF
                  refine l_call [.int (p2 >>> ((12 : Int32) &&& 31)), .int (4 : Int32)] (pc := 397) (st1 := [.int v23, .int (1 : Int32), .int v5, .ref (a 0)]) (c1 := 42) (s1 := 252) C hQ.1 (mL_low C.hT hG) cwL_low kl_86 rfl rfl rfl rfl (Nat.le_of_ble_eq_true rfl) ⟨(Nat.le_of_ble_eq_true rfl), (Nat.le_of_ble_eq_true rfl)⟩ ⟨(Nat.le_of_ble_eq_true rfl), (Nat.le_of_ble_eq_true rfl)⟩ dL_act_397 rfl rfl ?_
                  refine v_iadd (pc := 400) C dL_act_400 ?_
                  refine z_sub [] rfl ?_
                  exact hJ21 _ hF
                · have hF := if_f hF c22
                  refine v_iload 4 (pc := 386) C dL_act_386 rfl ?_
                  refine v_goto 401 (pc := 388) C dL_act_388 (by decide) ?_
                  refine z_sub [] rfl ?_
                  exact hJ21 _ hF
              obtain ⟨J36, hdJ36, hF⟩ := jn1_of hF
              have hJ36 : ∀ (S25 : St), J36 S25 = some (r, S') → Zz E (WX E a S25) 39 234 405 [(0, .ref (a 0)), (1, .int p2), (2, .int v2), (3, .int v3), (5, .int v5), (6, .int v6)] [] := by
                intro S25 hF
                have hF := (hdJ36 _).symm.trans hF
                refine v_aload_n 0 (pc := 405) C dL_act_405 rfl rfl ?_
                refine v_iload_n 3 (pc := 406) C dL_act_406 rfl rfl ?_
                refine v_iload_n 2 (pc := 407) C dL_act_407 rfl rfl ?_
                obtain ⟨v26', hR, hF⟩ := bn1_of hF
                have hJ33 : ∀ (v26 : Int32), (some v26 : Option (Int32)) = some v26' → Zz E (WX E a S25) 39 234 427 [(1, .int p2), (2, .int v2), (6, .int v6)] [.int v26, .int v3, .ref (a 0)] := by
                  intro v26 hE
                  have hE0 := Option.some.inj hE
                  subst hE0
                  refine v_iload_n 1 (pc := 427) C dL_act_427 rfl rfl ?_
                  obtain ⟨v27', hR, hF⟩ := bn1_of hF
                  have hJ30 : ∀ (v27 : Int32), (some v27 : Option (Int32)) = some v27' → Zz E (WX E a S25) 39 234 446 [] [.int v27, .int v26, .int v3, .ref (a 0)] := by
                    intro v27 hE
                    have hE0 := Option.some.inj hE
                    subst hE0
                    obtain ⟨w28, S29, hG, hF⟩ := bn2_of hF
                    refine l_call [.ref (a 0), .int v3, .int v26, .int v27] (pc := 446) (st1 := [.long w28]) (c1 := 42) (s1 := 252) C hQ.1 (mL_redraw C.hT hG) cwL_redraw kl_102 rfl rfl rfl rfl (Nat.le_of_ble_eq_true rfl) ⟨(Nat.le_of_ble_eq_true rfl), (Nat.le_of_ble_eq_true rfl)⟩ ⟨(Nat.le_of_ble_eq_true rfl), (Nat.le_of_ble_eq_true rfl)⟩ dL_act_446 rfl rfl ?_
                    exact l_lret (pc := 449) C hQ dL_act_449 (by cases hF; rfl) (by cases hF; rfl) (Nat.le_of_ble_eq_true rfl) (Nat.le_of_ble_eq_true rfl)
                  have hF := hR
                  clear hR
                  refine v_if_eq 436 (pc := 428) C dL_act_428 (by decide) (fun c31 => ?_) (fun c31 => ?_)
                  · have hF := if_t hF c31
                    refine v_iconst (pc := 436) (v := (1 : Int32)) C dL_act_436 (by decide) ?_
                    refine v_iload_n 0 (pc := 437) C dL_act_437 rfl rfl ?_
                    refine v_bipush (pc := 438) (v := (12 : Int32)) C dL_act_438 (by decide) ?_
                    refine v_ishr (pc := 440) C dL_act_440 ?_
                    refine v_iconst (pc := 441) (v := (2 : Int32)) C dL_act_441 (by decide) ?_
                    obtain ⟨v32, hG, hF⟩ := bn1_of hF
                    refine l_call [.int (p2 >>> ((12 : Int32) &&& 31)), .int (2 : Int32)] (pc := 442) (st1 := [.int v32, .int (1 : Int32), .int v26, .int v3, .ref (a 0)]) (c1 := 39) (s1 := 234) C hQ.1 (mL_low C.hT hG) cwL_low kl_86 rfl rfl rfl rfl (Nat.le_of_ble_eq_true rfl) ⟨(Nat.le_of_ble_eq_true rfl), (Nat.le_of_ble_eq_true rfl)⟩ ⟨(Nat.le_of_ble_eq_true rfl), (Nat.le_of_ble_eq_true rfl)⟩ dL_act_442 rfl rfl ?_
                    refine v_iadd (pc := 445) C dL_act_445 ?_
                    refine z_sub [] rfl ?_
                    exact hJ30 _ hF
                  · have hF := if_f hF c31
                    refine v_iload 2 (pc := 431) C dL_act_431 rfl ?_
                    refine v_goto 446 (pc := 433) C dL_act_433 (by decide) ?_
                    refine z_sub [] rfl ?_
                    exact hJ30 _ hF
                have hF := hR
                clear hR
                refine v_if_eq 416 (pc := 408) C dL_act_408 (by decide) (fun c34 => ?_) (fun c34 => ?_)
                · have hF := if_t hF c34
                  refine v_bipush (pc := 416) (v := (10 : Int32)) C dL_act_416 (by decide) ?_
                  refine v_iload_n 1 (pc := 418) C dL_act_418 rfl rfl ?_
                  refine v_bipush (pc := 419) (v := (9 : Int32)) C dL_act_419 (by decide) ?_
                  refine v_ishr (pc := 421) C dL_act_421 ?_
                  refine v_iconst (pc := 422) (v := (2 : Int32)) C dL_act_422 (by decide) ?_
                  obtain ⟨v35, hG, hF⟩ := bn1_of hF
                  refine l_call [.int (p2 >>> ((9 : Int32) &&& 31)), .int (2 : Int32)] (pc := 423) (st1 := [.int v35, .int (10 : Int32), .int v3, .ref (a 0)]) (c1 := 39) (s1 := 234) C hQ.1 (mL_low C.hT hG) cwL_low kl_86 rfl rfl rfl rfl (Nat.le_of_ble_eq_true rfl) ⟨(Nat.le_of_ble_eq_true rfl), (Nat.le_of_ble_eq_true rfl)⟩ ⟨(Nat.le_of_ble_eq_true rfl), (Nat.le_of_ble_eq_true rfl)⟩ dL_act_423 rfl rfl ?_
                  refine v_iadd (pc := 426) C dL_act_426 ?_
                  refine z_sub [1, 2, 5] rfl ?_
                  exact hJ33 _ hF
                · have hF := if_f hF c34
                  refine v_iload 4 (pc := 411) C dL_act_411 rfl ?_
                  refine v_goto 427 (pc := 413) C dL_act_413 (by decide) ?_
                  refine z_sub [1, 2, 5] rfl ?_
                  exact hJ33 _ hF
              obtain ⟨J57, hdJ57, hF⟩ := jn1_of hF
              have hJ57 : ∀ (S37 : St), J57 S37 = some (r, S') → Zz E (WX E a S37) 38 228 508 [(0, .ref (a 0)), (1, .int p2), (2, .int v2), (5, .int v5)] [] := by
                intro S37 hF
                have hF := (hdJ57 _).symm.trans hF
                refine v_aload_n 0 (pc := 508) C dL_act_508 rfl rfl ?_
                refine v_iload_n 2 (pc := 509) C dL_act_509 rfl rfl ?_
                obtain ⟨v38', hR, hF⟩ := bn1_of hF
                have hJ54 : ∀ (v38 : Int32), (some v38 : Option (Int32)) = some v38' → Zz E (WX E a S37) 38 228 529 [(1, .int p2), (2, .int v2)] [.int v38, .ref (a 0)] := by
                  intro v38 hE
                  have hE0 := Option.some.inj hE
                  subst hE0
                  refine v_iload_n 1 (pc := 529) C dL_act_529 rfl rfl ?_
                  obtain ⟨v39', hR, hF⟩ := bn1_of hF
                  have hJ51 : ∀ (v39 : Int32), (some v39 : Option (Int32)) = some v39' → Zz E (WX E a S37) 38 228 547 [(1, .int p2), (2, .int v2)] [.int v39, .int v38, .ref (a 0)] := by
                    intro v39 hE
                    have hE0 := Option.some.inj hE
                    subst hE0
                    refine v_bipush (pc := 547) (v := (10 : Int32)) C dL_act_547 (by decide) ?_
                    refine v_iload_n 0 (pc := 549) C dL_act_549 rfl rfl ?_
                    refine v_bipush (pc := 550) (v := (6 : Int32)) C dL_act_550 (by decide) ?_
                    refine v_ishr (pc := 552) C dL_act_552 ?_
                    refine v_bipush (pc := 553) (v := (120 : Int32)) C dL_act_553 (by decide) ?_
                    obtain ⟨v40, hG, hF⟩ := bn1_of hF
                    refine l_call [.int (p2 >>> ((6 : Int32) &&& 31)), .int (120 : Int32)] (pc := 555) (st1 := [.int v40, .int (10 : Int32), .int v39, .int v38, .ref (a 0)]) (c1 := 38) (s1 := 228) C hQ.1 (mL_low C.hT hG) cwL_low kl_86 rfl rfl rfl rfl (Nat.le_of_ble_eq_true rfl) ⟨(Nat.le_of_ble_eq_true rfl), (Nat.le_of_ble_eq_true rfl)⟩ ⟨(Nat.le_of_ble_eq_true rfl), (Nat.le_of_ble_eq_true rfl)⟩ dL_act_555 rfl rfl ?_
                    refine v_iadd (pc := 558) C dL_act_558 ?_
                    refine v_iload_n 1 (pc := 559) C dL_act_559 rfl rfl ?_
                    obtain ⟨v41', hR, hF⟩ := bn1_of hF
                    have hJ48 : ∀ (v41 : Int32), (some v41 : Option (Int32)) = some v41' → Zz E (WX E a S37) 38 228 580 [(1, .int p2), (2, .int v2)] [.int v41, .int ((10 : Int32) + v40), .int v39, .int v38, .ref (a 0)] := by
                      intro v41 hE
                      have hE0 := Option.some.inj hE
                      subst hE0
                      refine v_iload_n 1 (pc := 580) C dL_act_580 rfl rfl ?_
                      obtain ⟨v42', hR, hF⟩ := bn1_of hF
                      have hJ45 : ∀ (v42 : Int32), (some v42 : Option (Int32)) = some v42' → Zz E (WX E a S37) 38 228 602 [] [.int v42, .int v41, .int ((10 : Int32) + v40), .int v39, .int v38, .ref (a 0)] := by
                        intro v42 hE
                        have hE0 := Option.some.inj hE
                        subst hE0
                        obtain ⟨w43, S44, hG, hF⟩ := bn2_of hF
                        refine l_call [.ref (a 0), .int v38, .int v39, .int ((10 : Int32) + v40), .int v41, .int v42] (pc := 602) (st1 := [.long w43]) (c1 := 39) (s1 := 234) C hQ.1 (mL_tool C.hT hG) cwL_tool kl_111 rfl rfl rfl rfl (Nat.le_of_ble_eq_true rfl) ⟨(Nat.le_of_ble_eq_true rfl), (Nat.le_of_ble_eq_true rfl)⟩ ⟨(Nat.le_of_ble_eq_true rfl), (Nat.le_of_ble_eq_true rfl)⟩ dL_act_602 rfl rfl ?_
                        exact l_lret (pc := 605) C hQ dL_act_605 (by cases hF; rfl) (by cases hF; rfl) (Nat.le_of_ble_eq_true rfl) (Nat.le_of_ble_eq_true rfl)
                      have hF := hR
                      clear hR
                      refine v_if_eq 590 (pc := 581) C dL_act_581 (by decide) (fun c46 => ?_) (fun c46 => ?_)
                      · have hF := if_t hF c46
                        refine v_bipush (pc := 590) (v := (20 : Int32)) C dL_act_590 (by decide) ?_
                        refine v_iload_n 0 (pc := 592) C dL_act_592 rfl rfl ?_
                        refine v_iconst (pc := 593) (v := (4 : Int32)) C dL_act_593 (by decide) ?_
                        refine v_ishr (pc := 594) C dL_act_594 ?_
                        refine v_sipush (pc := 595) (v := (400 : Int32)) C dL_act_595 (by decide) ?_
                        obtain ⟨v47, hG, hF⟩ := bn1_of hF
                        refine l_call [.int (p2 >>> ((4 : Int32) &&& 31)), .int (400 : Int32)] (pc := 598) (st1 := [.int v47, .int (20 : Int32), .int v41, .int ((10 : Int32) + v40), .int v39, .int v38, .ref (a 0)]) (c1 := 38) (s1 := 228) C hQ.1 (mL_low C.hT hG) cwL_low kl_86 rfl rfl rfl rfl (Nat.le_of_ble_eq_true rfl) ⟨(Nat.le_of_ble_eq_true rfl), (Nat.le_of_ble_eq_true rfl)⟩ ⟨(Nat.le_of_ble_eq_true rfl), (Nat.le_of_ble_eq_true rfl)⟩ dL_act_598 rfl rfl ?_
                        refine v_iadd (pc := 601) C dL_act_601 ?_
                        refine z_sub [] rfl ?_
                        exact hJ45 _ hF
                      · have hF := if_f hF c46
                        refine v_iload_n 0 (pc := 584) C dL_act_584 rfl rfl ?_
                        refine v_iconst (pc := 585) (v := (4 : Int32)) C dL_act_585 (by decide) ?_
                        refine v_ishr (pc := 586) C dL_act_586 ?_
                        refine v_goto 602 (pc := 587) C dL_act_587 (by decide) ?_
                        refine z_sub [] rfl ?_
                        exact hJ45 _ hF
                    have hF := hR
                    clear hR
                    refine v_if_eq 569 (pc := 560) C dL_act_560 (by decide) (fun c49 => ?_) (fun c49 => ?_)
                    · have hF := if_t hF c49
                      refine v_bipush (pc := 569) (v := (10 : Int32)) C dL_act_569 (by decide) ?_
                      refine v_iload_n 0 (pc := 571) C dL_act_571 rfl rfl ?_
                      refine v_iconst (pc := 572) (v := (5 : Int32)) C dL_act_572 (by decide) ?_
                      refine v_ishr (pc := 573) C dL_act_573 ?_
                      refine v_bipush (pc := 574) (v := (100 : Int32)) C dL_act_574 (by decide) ?_
                      obtain ⟨v50, hG, hF⟩ := bn1_of hF
                      refine l_call [.int (p2 >>> ((5 : Int32) &&& 31)), .int (100 : Int32)] (pc := 576) (st1 := [.int v50, .int (10 : Int32), .int ((10 : Int32) + v40), .int v39, .int v38, .ref (a 0)]) (c1 := 38) (s1 := 228) C hQ.1 (mL_low C.hT hG) cwL_low kl_86 rfl rfl rfl rfl (Nat.le_of_ble_eq_true rfl) ⟨(Nat.le_of_ble_eq_true rfl), (Nat.le_of_ble_eq_true rfl)⟩ ⟨(Nat.le_of_ble_eq_true rfl), (Nat.le_of_ble_eq_true rfl)⟩ dL_act_576 rfl rfl ?_
                      refine v_iadd (pc := 579) C dL_act_579 ?_
                      exact hJ48 _ hF
                    · have hF := if_f hF c49
                      refine v_iload_n 0 (pc := 563) C dL_act_563 rfl rfl ?_
                      refine v_iconst (pc := 564) (v := (5 : Int32)) C dL_act_564 (by decide) ?_
                      refine v_ishr (pc := 565) C dL_act_565 ?_
                      refine v_goto 580 (pc := 566) C dL_act_566 (by decide) ?_
                      exact hJ48 _ hF
                  have hF := hR
                  clear hR
                  refine v_if_eq 539 (pc := 530) C dL_act_530 (by decide) (fun c52 => ?_) (fun c52 => ?_)
                  · have hF := if_t hF c52
                    refine v_iload_n 0 (pc := 539) C dL_act_539 rfl rfl ?_
                    refine v_iconst (pc := 540) (v := (3 : Int32)) C dL_act_540 (by decide) ?_
                    refine v_ishr (pc := 541) C dL_act_541 ?_
                    refine v_bipush (pc := 542) (v := (31 : Int32)) C dL_act_542 (by decide) ?_
                    obtain ⟨v53, hG, hF⟩ := bn1_of hF
                    refine l_call [.int (p2 >>> ((3 : Int32) &&& 31)), .int (31 : Int32)] (pc := 544) (st1 := [.int v53, .int v38, .ref (a 0)]) (c1 := 38) (s1 := 228) C hQ.1 (mL_low C.hT hG) cwL_low kl_86 rfl rfl rfl rfl (Nat.le_of_ble_eq_true rfl) ⟨(Nat.le_of_ble_eq_true rfl), (Nat.le_of_ble_eq_true rfl)⟩ ⟨(Nat.le_of_ble_eq_true rfl), (Nat.le_of_ble_eq_true rfl)⟩ dL_act_544 rfl rfl ?_
                    exact hJ51 _ hF
                  · have hF := if_f hF c52
                    refine v_iload_n 0 (pc := 533) C dL_act_533 rfl rfl ?_
                    refine v_iconst (pc := 534) (v := (3 : Int32)) C dL_act_534 (by decide) ?_
                    refine v_ishr (pc := 535) C dL_act_535 ?_
                    refine v_goto 547 (pc := 536) C dL_act_536 (by decide) ?_
                    exact hJ51 _ hF
                have hF := hR
                clear hR
                refine v_if_eq 518 (pc := 510) C dL_act_510 (by decide) (fun c55 => ?_) (fun c55 => ?_)
                · have hF := if_t hF c55
                  refine v_iconst (pc := 518) (v := (4 : Int32)) C dL_act_518 (by decide) ?_
                  refine v_iload_n 1 (pc := 519) C dL_act_519 rfl rfl ?_
                  refine v_bipush (pc := 520) (v := (9 : Int32)) C dL_act_520 (by decide) ?_
                  refine v_ishr (pc := 522) C dL_act_522 ?_
                  refine v_bipush (pc := 523) (v := (30 : Int32)) C dL_act_523 (by decide) ?_
                  obtain ⟨v56, hG, hF⟩ := bn1_of hF
                  refine l_call [.int (p2 >>> ((9 : Int32) &&& 31)), .int (30 : Int32)] (pc := 525) (st1 := [.int v56, .int (4 : Int32), .ref (a 0)]) (c1 := 38) (s1 := 228) C hQ.1 (mL_low C.hT hG) cwL_low kl_86 rfl rfl rfl rfl (Nat.le_of_ble_eq_true rfl) ⟨(Nat.le_of_ble_eq_true rfl), (Nat.le_of_ble_eq_true rfl)⟩ ⟨(Nat.le_of_ble_eq_true rfl), (Nat.le_of_ble_eq_true rfl)⟩ dL_act_525 rfl rfl ?_
                  refine v_iadd (pc := 528) C dL_act_528 ?_
                  refine z_sub [1, 2] rfl ?_
                  exact hJ54 _ hF
                · have hF := if_f hF c55
                  refine v_iload 3 (pc := 513) C dL_act_513 rfl ?_
                  refine v_goto 529 (pc := 515) C dL_act_515 (by decide) ?_
                  refine z_sub [1, 2] rfl ?_
                  exact hJ54 _ hF
              obtain ⟨J65, hdJ65, hF⟩ := jn1_of hF
              have hJ65 : ∀ (S58 : St), J65 S58 = some (r, S') → Zz E (WX E a S58) 34 204 658 [(0, .ref (a 0)), (1, .int p2), (2, .int v2), (3, .int v3), (4, .int v4), (5, .int v5), (6, .int v6)] [] := by
                intro S58 hF
                have hF := (hdJ65 _).symm.trans hF
                refine v_aload_n 0 (pc := 658) C dL_act_658 rfl rfl ?_
                refine v_iload_n 3 (pc := 659) C dL_act_659 rfl rfl ?_
                refine v_iload 4 (pc := 660) C dL_act_660 rfl ?_
                refine v_iload_n 2 (pc := 662) C dL_act_662 rfl rfl ?_
                obtain ⟨v59', hR, hF⟩ := bn1_of hF
                have hJ62 : ∀ (v59 : Int32), (some v59 : Option (Int32)) = some v59' → Zz E (WX E a S58) 34 204 680 [(6, .int v6)] [.int v59, .int v4, .int v3, .ref (a 0)] := by
                  intro v59 hE
                  have hE0 := Option.some.inj hE
                  subst hE0
                  refine v_iload 0 (pc := 680) C dL_act_680 rfl ?_
                  obtain ⟨w60, S61, hG, hF⟩ := bn2_of hF
                  refine l_call [.ref (a 0), .int v3, .int v4, .int v59, .int v6] (pc := 682) (st1 := [.long w60]) (c1 := 38) (s1 := 228) C hQ.1 (mL_why C.hT hG) cwL_why kl_118 rfl rfl rfl rfl (Nat.le_of_ble_eq_true rfl) ⟨(Nat.le_of_ble_eq_true rfl), (Nat.le_of_ble_eq_true rfl)⟩ ⟨(Nat.le_of_ble_eq_true rfl), (Nat.le_of_ble_eq_true rfl)⟩ dL_act_682 rfl rfl ?_
                  exact l_lret (pc := 685) C hQ dL_act_685 (by cases hF; rfl) (by cases hF; rfl) (Nat.le_of_ble_eq_true rfl) (Nat.le_of_ble_eq_true rfl)
                have hF := hR
                clear hR
                refine v_if_eq 671 (pc := 663) C dL_act_663 (by decide) (fun c63 => ?_) (fun c63 => ?_)
                · have hF := if_t hF c63
                  refine v_iload_n 1 (pc := 671) C dL_act_671 rfl rfl ?_
                  refine v_bipush (pc := 672) (v := (9 : Int32)) C dL_act_672 (by decide) ?_
                  refine v_ishr (pc := 674) C dL_act_674 ?_
                  refine v_bipush (pc := 675) (v := (8 : Int32)) C dL_act_675 (by decide) ?_
                  obtain ⟨v64, hG, hF⟩ := bn1_of hF
                  refine l_call [.int (p2 >>> ((9 : Int32) &&& 31)), .int (8 : Int32)] (pc := 677) (st1 := [.int v64, .int v4, .int v3, .ref (a 0)]) (c1 := 34) (s1 := 204) C hQ.1 (mL_low C.hT hG) cwL_low kl_86 rfl rfl rfl rfl (Nat.le_of_ble_eq_true rfl) ⟨(Nat.le_of_ble_eq_true rfl), (Nat.le_of_ble_eq_true rfl)⟩ ⟨(Nat.le_of_ble_eq_true rfl), (Nat.le_of_ble_eq_true rfl)⟩ dL_act_677 rfl rfl ?_
                  refine z_sub [6] rfl ?_
                  exact hJ62 _ hF
                · have hF := if_f hF c63
                  refine v_iload 5 (pc := 666) C dL_act_666 rfl ?_
                  refine v_goto 680 (pc := 668) C dL_act_668 (by decide) ?_
                  refine z_sub [6] rfl ?_
                  exact hJ62 _ hF
              obtain ⟨J73, hdJ73, hF⟩ := jn1_of hF
              have hJ73 : ∀ (S66 : St), J73 S66 = some (r, S') → Zz E (WX E a S66) 32 192 777 [(0, .ref (a 0)), (1, .int p2), (2, .int v2), (3, .int v3), (5, .int v5)] [] := by
                intro S66 hF
                have hF := (hdJ73 _).symm.trans hF
                refine v_aload_n 0 (pc := 777) C dL_act_777 rfl rfl ?_
                refine v_iload_n 3 (pc := 778) C dL_act_778 rfl rfl ?_
                refine v_iload_n 2 (pc := 779) C dL_act_779 rfl rfl ?_
                obtain ⟨v67', hR, hF⟩ := bn1_of hF
                have hJ70 : ∀ (v67 : Int32), (some v67 : Option (Int32)) = some v67' → Zz E (WX E a S66) 32 192 799 [] [.int v67, .int v3, .ref (a 0)] := by
                  intro v67 hE
                  have hE0 := Option.some.inj hE
                  subst hE0
                  obtain ⟨w68, S69, hG, hF⟩ := bn2_of hF
                  refine l_call [.ref (a 0), .int v3, .int v67] (pc := 799) (st1 := [.long w68]) (c1 := 34) (s1 := 204) C hQ.1 (mL_want C.hT hG) cwL_want kl_127 rfl rfl rfl rfl (Nat.le_of_ble_eq_true rfl) ⟨(Nat.le_of_ble_eq_true rfl), (Nat.le_of_ble_eq_true rfl)⟩ ⟨(Nat.le_of_ble_eq_true rfl), (Nat.le_of_ble_eq_true rfl)⟩ dL_act_799 rfl rfl ?_
                  exact l_lret (pc := 802) C hQ dL_act_802 (by cases hF; rfl) (by cases hF; rfl) (Nat.le_of_ble_eq_true rfl) (Nat.le_of_ble_eq_true rfl)
                have hF := hR
                clear hR
                refine v_if_eq 788 (pc := 780) C dL_act_780 (by decide) (fun c71 => ?_) (fun c71 => ?_)
                · have hF := if_t hF c71
                  refine v_iconst (pc := 788) (v := (1 : Int32)) C dL_act_788 (by decide) ?_
                  refine v_iload_n 1 (pc := 789) C dL_act_789 rfl rfl ?_
                  refine v_bipush (pc := 790) (v := (9 : Int32)) C dL_act_790 (by decide) ?_
                  refine v_ishr (pc := 792) C dL_act_792 ?_
                  refine v_bipush (pc := 793) (v := (6 : Int32)) C dL_act_793 (by decide) ?_
                  obtain ⟨v72, hG, hF⟩ := bn1_of hF
                  refine l_call [.int (p2 >>> ((9 : Int32) &&& 31)), .int (6 : Int32)] (pc := 795) (st1 := [.int v72, .int (1 : Int32), .int v3, .ref (a 0)]) (c1 := 32) (s1 := 192) C hQ.1 (mL_low C.hT hG) cwL_low kl_86 rfl rfl rfl rfl (Nat.le_of_ble_eq_true rfl) ⟨(Nat.le_of_ble_eq_true rfl), (Nat.le_of_ble_eq_true rfl)⟩ ⟨(Nat.le_of_ble_eq_true rfl), (Nat.le_of_ble_eq_true rfl)⟩ dL_act_795 rfl rfl ?_
                  refine v_iadd (pc := 798) C dL_act_798 ?_
                  refine z_sub [] rfl ?_
                  exact hJ70 _ hF
                · have hF := if_f hF c71
                  refine v_iload 4 (pc := 783) C dL_act_783 rfl ?_
                  refine v_goto 799 (pc := 785) C dL_act_785 (by decide) ?_
                  refine z_sub [] rfl ?_
                  exact hJ70 _ hF
              obtain ⟨J81, hdJ81, hF⟩ := jn1_of hF
              have hJ81 : ∀ (S74 : St), J81 S74 = some (r, S') → Zz E (WX E a S74) 29 174 917 [(0, .ref (a 0)), (1, .int p2), (2, .int v2), (3, .int v3), (4, .int v4), (5, .int v5)] [] := by
                intro S74 hF
                have hF := (hdJ81 _).symm.trans hF
                refine v_aload_n 0 (pc := 917) C dL_act_917 rfl rfl ?_
                refine v_iload_n 3 (pc := 918) C dL_act_918 rfl rfl ?_
                refine v_iload 4 (pc := 919) C dL_act_919 rfl ?_
                refine v_iload_n 2 (pc := 921) C dL_act_921 rfl rfl ?_
                obtain ⟨v75', hR, hF⟩ := bn1_of hF
                have hJ78 : ∀ (v75 : Int32), (some v75 : Option (Int32)) = some v75' → Zz E (WX E a S74) 29 174 941 [] [.int v75, .int v4, .int v3, .ref (a 0)] := by
                  intro v75 hE
                  have hE0 := Option.some.inj hE
                  subst hE0
                  obtain ⟨w76, S77, hG, hF⟩ := bn2_of hF
                  refine l_call [.ref (a 0), .int v3, .int v4, .int v75] (pc := 941) (st1 := [.long w76]) (c1 := 32) (s1 := 192) C hQ.1 (mL_batch C.hT hG) cwL_batch kl_134 rfl rfl rfl rfl (Nat.le_of_ble_eq_true rfl) ⟨(Nat.le_of_ble_eq_true rfl), (Nat.le_of_ble_eq_true rfl)⟩ ⟨(Nat.le_of_ble_eq_true rfl), (Nat.le_of_ble_eq_true rfl)⟩ dL_act_941 rfl rfl ?_
                  exact l_lret (pc := 944) C hQ dL_act_944 (by cases hF; rfl) (by cases hF; rfl) (Nat.le_of_ble_eq_true rfl) (Nat.le_of_ble_eq_true rfl)
                have hF := hR
                clear hR
                refine v_if_eq 930 (pc := 922) C dL_act_922 (by decide) (fun c79 => ?_) (fun c79 => ?_)
                · have hF := if_t hF c79
                  refine v_iconst (pc := 930) (v := (1 : Int32)) C dL_act_930 (by decide) ?_
                  refine v_iload_n 1 (pc := 931) C dL_act_931 rfl rfl ?_
                  refine v_bipush (pc := 932) (v := (9 : Int32)) C dL_act_932 (by decide) ?_
                  refine v_ishr (pc := 934) C dL_act_934 ?_
                  refine v_bipush (pc := 935) (v := (20 : Int32)) C dL_act_935 (by decide) ?_
                  obtain ⟨v80, hG, hF⟩ := bn1_of hF
                  refine l_call [.int (p2 >>> ((9 : Int32) &&& 31)), .int (20 : Int32)] (pc := 937) (st1 := [.int v80, .int (1 : Int32), .int v4, .int v3, .ref (a 0)]) (c1 := 29) (s1 := 174) C hQ.1 (mL_low C.hT hG) cwL_low kl_86 rfl rfl rfl rfl (Nat.le_of_ble_eq_true rfl) ⟨(Nat.le_of_ble_eq_true rfl), (Nat.le_of_ble_eq_true rfl)⟩ ⟨(Nat.le_of_ble_eq_true rfl), (Nat.le_of_ble_eq_true rfl)⟩ dL_act_937 rfl rfl ?_
                  refine v_iadd (pc := 940) C dL_act_940 ?_
                  refine z_sub [] rfl ?_
                  exact hJ78 _ hF
                · have hF := if_f hF c79
                  refine v_iload 5 (pc := 925) C dL_act_925 rfl ?_
                  refine v_goto 941 (pc := 927) C dL_act_927 (by decide) ?_
                  refine z_sub [] rfl ?_
                  exact hJ78 _ hF
              obtain ⟨J85, hdJ85, hF⟩ := jn1_of hF
              have hJ85 : ∀ (S82 : St), J85 S82 = some (r, S') → Zz E (WX E a S82) 27 162 945 [(0, .ref (a 0)), (7, .int v7)] [] := by
                intro S82 hF
                have hF := (hdJ85 _).symm.trans hF
                refine v_aload_n 0 (pc := 945) C dL_act_945 rfl rfl ?_
                refine v_iload 1 (pc := 946) C dL_act_946 rfl ?_
                obtain ⟨w83, S84, hG, hF⟩ := bn2_of hF
                refine l_call [.ref (a 0), .int v7] (pc := 948) (st1 := [.long w83]) (c1 := 29) (s1 := 174) C hQ.1 (mL_work C.hT hG) cwL_work kl_136 rfl rfl rfl rfl (Nat.le_of_ble_eq_true rfl) ⟨(Nat.le_of_ble_eq_true rfl), (Nat.le_of_ble_eq_true rfl)⟩ ⟨(Nat.le_of_ble_eq_true rfl), (Nat.le_of_ble_eq_true rfl)⟩ dL_act_948 rfl rfl ?_
                exact l_lret (pc := 951) C hQ dL_act_951 (by cases hF; rfl) (by cases hF; rfl) (Nat.le_of_ble_eq_true rfl) (Nat.le_of_ble_eq_true rfl)
              by_cases c86 : v8 = (0 : Int32)
              · have hF := if_t hF c86
                refine v_swi 312 (pc := 159) (off := 153) C dL_act_159 c86 (by decide) (by decide) (by decide +kernel) (by decide) ?_
                refine z_sub [1, 2, 3, 6, 7] rfl ?_
                refine z_widen (c' := 45) (s' := 270) (by decide) (by decide) ?_
                exact hJ16 _ hF
              have hF := if_f hF c86
              by_cases c87 : v8 = (1 : Int32)
              · have hF := if_t hF c87
                refine v_swi 312 (pc := 159) (off := 153) C dL_act_159 c87 (by decide) (by decide) (by decide +kernel) (by decide) ?_
                refine z_sub [1, 2, 3, 6, 7] rfl ?_
                refine z_widen (c' := 45) (s' := 270) (by decide) (by decide) ?_
                exact hJ16 _ hF
              have hF := if_f hF c87
              by_cases c88 : v8 = (2 : Int32)
              · have hF := if_t hF c88
                refine v_swi 312 (pc := 159) (off := 153) C dL_act_159 c88 (by decide) (by decide) (by decide +kernel) (by decide) ?_
                refine z_sub [1, 2, 3, 6, 7] rfl ?_
                refine z_widen (c' := 45) (s' := 270) (by decide) (by decide) ?_
                exact hJ16 _ hF
              have hF := if_f hF c88
              by_cases c89 : v8 = (3 : Int32)
              · have hF := if_t hF c89
                refine v_swi 312 (pc := 159) (off := 153) C dL_act_159 c89 (by decide) (by decide) (by decide +kernel) (by decide) ?_
                refine z_sub [1, 2, 3, 6, 7] rfl ?_
                refine z_widen (c' := 45) (s' := 270) (by decide) (by decide) ?_
                exact hJ16 _ hF
              have hF := if_f hF c89
              by_cases c90 : v8 = (4 : Int32)
              · have hF := if_t hF c90
                refine v_swi 312 (pc := 159) (off := 153) C dL_act_159 c90 (by decide) (by decide) (by decide +kernel) (by decide) ?_
                refine z_sub [1, 2, 3, 6, 7] rfl ?_
                refine z_widen (c' := 45) (s' := 270) (by decide) (by decide) ?_
                exact hJ16 _ hF
              have hF := if_f hF c90
              by_cases c91 : v8 = (5 : Int32)
              · have hF := if_t hF c91
                refine v_swi 312 (pc := 159) (off := 153) C dL_act_159 c91 (by decide) (by decide) (by decide +kernel) (by decide) ?_
                refine z_sub [1, 2, 3, 6, 7] rfl ?_
                refine z_widen (c' := 45) (s' := 270) (by decide) (by decide) ?_
                exact hJ16 _ hF
              have hF := if_f hF c91
              by_cases c92 : v8 = (6 : Int32)
              · have hF := if_t hF c92
                refine v_swi 312 (pc := 159) (off := 153) C dL_act_159 c92 (by decide) (by decide) (by decide +kernel) (by decide) ?_
                refine z_sub [1, 2, 3, 6, 7] rfl ?_
                refine z_widen (c' := 45) (s' := 270) (by decide) (by decide) ?_
                exact hJ16 _ hF
              have hF := if_f hF c92
              by_cases c93 : v8 = (7 : Int32)
              · have hF := if_t hF c93
                refine v_swi 336 (pc := 159) (off := 177) C dL_act_159 c93 (by decide) (by decide) (by decide +kernel) (by decide) ?_
                refine v_iload_n 2 (pc := 336) C dL_act_336 rfl rfl ?_
                refine v_bipush (pc := 337) (v := (16 : Int32)) C dL_act_337 (by decide) ?_
                refine v_ishr (pc := 339) C dL_act_339 ?_
                refine v_iconst (pc := 340) (v := (4 : Int32)) C dL_act_340 (by decide) ?_
                obtain ⟨v94, hG, hF⟩ := bn1_of hF
                refine l_call [.int (p2 >>> ((16 : Int32) &&& 31)), .int (4 : Int32)] (pc := 341) (st1 := [.int v94]) (c1 := 0) (s1 := 0) C hQ.1 (mL_low C.hT hG) cwL_low kl_86 rfl rfl rfl rfl (Nat.le_of_ble_eq_true rfl) ⟨(Nat.le_of_ble_eq_true rfl), (Nat.le_of_ble_eq_true rfl)⟩ ⟨(Nat.le_of_ble_eq_true rfl), (Nat.le_of_ble_eq_true rfl)⟩ dL_act_341 rfl rfl ?_
                refine v_if_ne 355 (pc := 344) C dL_act_344 (by decide) (fun c95 => ?_) (fun c95 => ?_)
                · have hF := if_f hF c95
                  refine v_aload_n 1 (pc := 355) C dL_act_355 rfl rfl ?_
                  refine v_iload_n 4 (pc := 356) C dL_act_356 rfl rfl ?_
                  refine v_iload_n 3 (pc := 357) C dL_act_357 rfl rfl ?_
                  obtain ⟨v96', hR, hF⟩ := bn1_of hF
                  have hJ99 : ∀ (v96 : Int32), (some v96 : Option (Int32)) = some v96' → Zz E (WX E a S) 0 0 375 [] [.int v96, .int v3, .ref (a 0)] := by
                    intro v96 hE
                    have hE0 := Option.some.inj hE
                    subst hE0
                    obtain ⟨w97, S98, hG, hF⟩ := bn2_of hF
                    refine l_call [.ref (a 0), .int v3, .int v96] (pc := 375) (st1 := [.long w97]) (c1 := 2) (s1 := 12) C hQ.1 (mL_told C.hT hG) cwL_told kl_98 rfl rfl rfl rfl (Nat.le_of_ble_eq_true rfl) ⟨(Nat.le_of_ble_eq_true rfl), (Nat.le_of_ble_eq_true rfl)⟩ ⟨(Nat.le_of_ble_eq_true rfl), (Nat.le_of_ble_eq_true rfl)⟩ dL_act_375 rfl rfl ?_
                    exact l_lret (pc := 378) C hQ dL_act_378 (by cases hF; rfl) (by cases hF; rfl) (Nat.le_of_ble_eq_true rfl) (Nat.le_of_ble_eq_true rfl)
                  have hF := hR
                  clear hR
                  refine v_if_eq 366 (pc := 358) C dL_act_358 (by decide) (fun c100 => ?_) (fun c100 => ?_)
                  · have hF := if_t hF c100
                    refine v_iload_n 2 (pc := 366) C dL_act_366 rfl rfl ?_
                    refine v_bipush (pc := 367) (v := (9 : Int32)) C dL_act_367 (by decide) ?_
                    refine v_ishr (pc := 369) C dL_act_369 ?_
                    refine v_bipush (pc := 370) (v := (6 : Int32)) C dL_act_370 (by decide) ?_
                    obtain ⟨v101, hG, hF⟩ := bn1_of hF
                    refine l_call [.int (p2 >>> ((9 : Int32) &&& 31)), .int (6 : Int32)] (pc := 372) (st1 := [.int v101, .int v3, .ref (a 0)]) (c1 := 0) (s1 := 0) C hQ.1 (mL_low C.hT hG) cwL_low kl_86 rfl rfl rfl rfl (Nat.le_of_ble_eq_true rfl) ⟨(Nat.le_of_ble_eq_true rfl), (Nat.le_of_ble_eq_true rfl)⟩ ⟨(Nat.le_of_ble_eq_true rfl), (Nat.le_of_ble_eq_true rfl)⟩ dL_act_372 rfl rfl ?_
                    refine z_sub [] rfl ?_
                    exact hJ99 _ hF
                  · have hF := if_f hF c100
                    refine v_iload 6 (pc := 361) C dL_act_361 rfl ?_
                    refine v_goto 375 (pc := 363) C dL_act_363 (by decide) ?_
                    refine z_sub [] rfl ?_
                    exact hJ99 _ hF
                · have hF := if_t hF c95
                  refine v_aload_n 1 (pc := 347) C dL_act_347 rfl rfl ?_
                  obtain ⟨v102, S103, hG, hF⟩ := bn2_of hF
                  refine v_callV [] (pc := 348) (st1 := [.int v102]) (c1 := 0) (s1 := 0) C (mX8_wipe C.hT hG) kL_94 (kdX_lt (rfl : kdX 0 = 8) (by decide)) (gX_8 (rfl : kdX 0 = 8)) rfl rfl rfl rfl (Nat.le_of_ble_eq_true rfl) ⟨(Nat.le_of_ble_eq_true rfl), (Nat.le_of_ble_eq_true rfl)⟩ ⟨(Nat.le_of_ble_eq_true rfl), (Nat.le_of_ble_eq_true rfl)⟩ dL_act_348 rfl rfl ?_
                  refine v_i2l (pc := 351) C dL_act_351 ?_
                  refine v_goto 378 (pc := 352) C dL_act_352 (by decide) ?_
                  exact l_lret (pc := 378) C hQ dL_act_378 (by cases hF; rfl) (by cases hF; rfl) (Nat.le_of_ble_eq_true rfl) (Nat.le_of_ble_eq_true rfl)
              have hF := if_f hF c93
              by_cases c104 : v8 = (8 : Int32)
              · have hF := if_t hF c104
                refine v_swi 379 (pc := 159) (off := 220) C dL_act_159 c104 (by decide) (by decide) (by decide +kernel) (by decide) ?_
                refine z_sub [1, 2, 3, 6, 7] rfl ?_
                refine z_widen (c' := 42) (s' := 252) (by decide) (by decide) ?_
                exact hJ24 _ hF
              have hF := if_f hF c104
              by_cases c105 : v8 = (9 : Int32)
              · have hF := if_t hF c105
                refine v_swi 379 (pc := 159) (off := 220) C dL_act_159 c105 (by decide) (by decide) (by decide +kernel) (by decide) ?_
                refine z_sub [1, 2, 3, 6, 7] rfl ?_
                refine z_widen (c' := 42) (s' := 252) (by decide) (by decide) ?_
                exact hJ24 _ hF
              have hF := if_f hF c105
              by_cases c106 : v8 = (10 : Int32)
              · have hF := if_t hF c106
                refine v_swi 379 (pc := 159) (off := 220) C dL_act_159 c106 (by decide) (by decide) (by decide +kernel) (by decide) ?_
                refine z_sub [1, 2, 3, 6, 7] rfl ?_
                refine z_widen (c' := 42) (s' := 252) (by decide) (by decide) ?_
                exact hJ24 _ hF
              have hF := if_f hF c106
              by_cases c107 : v8 = (11 : Int32)
              · have hF := if_t hF c107
                refine v_swi 405 (pc := 159) (off := 246) C dL_act_159 c107 (by decide) (by decide) (by decide +kernel) (by decide) ?_
                refine z_sub [1, 2, 3, 4, 6, 7] rfl ?_
                refine z_widen (c' := 39) (s' := 234) (by decide) (by decide) ?_
                exact hJ36 _ hF
              have hF := if_f hF c107
              by_cases c108 : v8 = (12 : Int32)
              · have hF := if_t hF c108
                refine v_swi 405 (pc := 159) (off := 246) C dL_act_159 c108 (by decide) (by decide) (by decide +kernel) (by decide) ?_
                refine z_sub [1, 2, 3, 4, 6, 7] rfl ?_
                refine z_widen (c' := 39) (s' := 234) (by decide) (by decide) ?_
                exact hJ36 _ hF
              have hF := if_f hF c108
              by_cases c109 : v8 = (13 : Int32)
              · have hF := if_t hF c109
                refine v_swi 450 (pc := 159) (off := 291) C dL_act_159 c109 (by decide) (by decide) (by decide +kernel) (by decide) ?_
                refine v_aload_n 1 (pc := 450) C dL_act_450 rfl rfl ?_
                refine v_iload_n 4 (pc := 451) C dL_act_451 rfl rfl ?_
                refine v_iload 7 (pc := 452) C dL_act_452 rfl ?_
                refine v_iload_n 3 (pc := 454) C dL_act_454 rfl rfl ?_
                obtain ⟨v110', hR, hF⟩ := bn1_of hF
                have hJ117 : ∀ (v110 : Int32), (some v110 : Option (Int32)) = some v110' → Zz E (WX E a S) 0 0 476 [(1, .int p2), (2, .int v2), (5, .int v5)] [.int v110, .int v6, .int v3, .ref (a 0)] := by
                  intro v110 hE
                  have hE0 := Option.some.inj hE
                  subst hE0
                  refine v_iload_n 1 (pc := 476) C dL_act_476 rfl rfl ?_
                  obtain ⟨v111', hR, hF⟩ := bn1_of hF
                  have hJ114 : ∀ (v111 : Int32), (some v111 : Option (Int32)) = some v111' → Zz E (WX E a S) 0 0 496 [] [.int v111, .int v110, .int v6, .int v3, .ref (a 0)] := by
                    intro v111 hE
                    have hE0 := Option.some.inj hE
                    subst hE0
                    obtain ⟨w112, S113, hG, hF⟩ := bn2_of hF
                    refine l_call [.ref (a 0), .int v3, .int v6, .int v110, .int v111] (pc := 496) (st1 := [.long w112]) (c1 := 2) (s1 := 12) C hQ.1 (mL_hole C.hT hG) cwL_hole kl_105 rfl rfl rfl rfl (Nat.le_of_ble_eq_true rfl) ⟨(Nat.le_of_ble_eq_true rfl), (Nat.le_of_ble_eq_true rfl)⟩ ⟨(Nat.le_of_ble_eq_true rfl), (Nat.le_of_ble_eq_true rfl)⟩ dL_act_496 rfl rfl ?_
                    exact l_lret (pc := 499) C hQ dL_act_499 (by cases hF; rfl) (by cases hF; rfl) (Nat.le_of_ble_eq_true rfl) (Nat.le_of_ble_eq_true rfl)
                  have hF := hR
                  clear hR
                  refine v_if_eq 485 (pc := 477) C dL_act_477 (by decide) (fun c115 => ?_) (fun c115 => ?_)
                  · have hF := if_t hF c115
                    refine v_iconst (pc := 485) (v := (1 : Int32)) C dL_act_485 (by decide) ?_
                    refine v_iload_n 0 (pc := 486) C dL_act_486 rfl rfl ?_
                    refine v_bipush (pc := 487) (v := (9 : Int32)) C dL_act_487 (by decide) ?_
                    refine v_ishr (pc := 489) C dL_act_489 ?_
                    refine v_bipush (pc := 490) (v := (20 : Int32)) C dL_act_490 (by decide) ?_
                    obtain ⟨v116, hG, hF⟩ := bn1_of hF
                    refine l_call [.int (p2 >>> ((9 : Int32) &&& 31)), .int (20 : Int32)] (pc := 492) (st1 := [.int v116, .int (1 : Int32), .int v110, .int v6, .int v3, .ref (a 0)]) (c1 := 0) (s1 := 0) C hQ.1 (mL_low C.hT hG) cwL_low kl_86 rfl rfl rfl rfl (Nat.le_of_ble_eq_true rfl) ⟨(Nat.le_of_ble_eq_true rfl), (Nat.le_of_ble_eq_true rfl)⟩ ⟨(Nat.le_of_ble_eq_true rfl), (Nat.le_of_ble_eq_true rfl)⟩ dL_act_492 rfl rfl ?_
                    refine v_iadd (pc := 495) C dL_act_495 ?_
                    refine z_sub [] rfl ?_
                    exact hJ114 _ hF
                  · have hF := if_f hF c115
                    refine v_iload 2 (pc := 480) C dL_act_480 rfl ?_
                    refine v_goto 496 (pc := 482) C dL_act_482 (by decide) ?_
                    refine z_sub [] rfl ?_
                    exact hJ114 _ hF
                have hF := hR
                clear hR
                refine v_if_eq 465 (pc := 455) C dL_act_455 (by decide) (fun c118 => ?_) (fun c118 => ?_)
                · have hF := if_t hF c118
                  refine v_iconst (pc := 465) (v := (1 : Int32)) C dL_act_465 (by decide) ?_
                  refine v_iload_n 2 (pc := 466) C dL_act_466 rfl rfl ?_
                  refine v_bipush (pc := 467) (v := (6 : Int32)) C dL_act_467 (by decide) ?_
                  refine v_ishr (pc := 469) C dL_act_469 ?_
                  refine v_bipush (pc := 470) (v := (30 : Int32)) C dL_act_470 (by decide) ?_
                  obtain ⟨v119, hG, hF⟩ := bn1_of hF
                  refine l_call [.int (p2 >>> ((6 : Int32) &&& 31)), .int (30 : Int32)] (pc := 472) (st1 := [.int v119, .int (1 : Int32), .int v6, .int v3, .ref (a 0)]) (c1 := 0) (s1 := 0) C hQ.1 (mL_low C.hT hG) cwL_low kl_86 rfl rfl rfl rfl (Nat.le_of_ble_eq_true rfl) ⟨(Nat.le_of_ble_eq_true rfl), (Nat.le_of_ble_eq_true rfl)⟩ ⟨(Nat.le_of_ble_eq_true rfl), (Nat.le_of_ble_eq_true rfl)⟩ dL_act_472 rfl rfl ?_
                  refine v_iadd (pc := 475) C dL_act_475 ?_
                  refine z_sub [2, 3, 6] rfl ?_
                  exact hJ117 _ hF
                · have hF := if_f hF c118
                  refine v_iload_n 2 (pc := 458) C dL_act_458 rfl rfl ?_
                  refine v_bipush (pc := 459) (v := (6 : Int32)) C dL_act_459 (by decide) ?_
                  refine v_ishr (pc := 461) C dL_act_461 ?_
                  refine v_goto 476 (pc := 462) C dL_act_462 (by decide) ?_
                  refine z_sub [2, 3, 6] rfl ?_
                  exact hJ117 _ hF
              have hF := if_f hF c109
              by_cases c120 : v8 = (14 : Int32)
              · have hF := if_t hF c120
                refine v_swi 500 (pc := 159) (off := 341) C dL_act_159 c120 (by decide) (by decide) (by decide +kernel) (by decide) ?_
                refine v_aload_n 1 (pc := 500) C dL_act_500 rfl rfl ?_
                refine v_iload_n 4 (pc := 501) C dL_act_501 rfl rfl ?_
                refine v_iload 7 (pc := 502) C dL_act_502 rfl ?_
                obtain ⟨w121, S122, hG, hF⟩ := bn2_of hF
                refine l_call [.ref (a 0), .int v3, .int v6] (pc := 504) (st1 := [.long w121]) (c1 := 2) (s1 := 12) C hQ.1 (mL_near C.hT hG) cwL_near kl_108 rfl rfl rfl rfl (Nat.le_of_ble_eq_true rfl) ⟨(Nat.le_of_ble_eq_true rfl), (Nat.le_of_ble_eq_true rfl)⟩ ⟨(Nat.le_of_ble_eq_true rfl), (Nat.le_of_ble_eq_true rfl)⟩ dL_act_504 rfl rfl ?_
                exact l_lret (pc := 507) C hQ dL_act_507 (by cases hF; rfl) (by cases hF; rfl) (Nat.le_of_ble_eq_true rfl) (Nat.le_of_ble_eq_true rfl)
              have hF := if_f hF c120
              by_cases c123 : v8 = (15 : Int32)
              · have hF := if_t hF c123
                refine v_swi 508 (pc := 159) (off := 349) C dL_act_159 c123 (by decide) (by decide) (by decide +kernel) (by decide) ?_
                refine z_sub [1, 2, 3, 6] rfl ?_
                refine z_widen (c' := 38) (s' := 228) (by decide) (by decide) ?_
                exact hJ57 _ hF
              have hF := if_f hF c123
              by_cases c124 : v8 = (16 : Int32)
              · have hF := if_t hF c124
                refine v_swi 508 (pc := 159) (off := 349) C dL_act_159 c124 (by decide) (by decide) (by decide +kernel) (by decide) ?_
                refine z_sub [1, 2, 3, 6] rfl ?_
                refine z_widen (c' := 38) (s' := 228) (by decide) (by decide) ?_
                exact hJ57 _ hF
              have hF := if_f hF c124
              by_cases c125 : v8 = (17 : Int32)
              · have hF := if_t hF c125
                refine v_swi 606 (pc := 159) (off := 447) C dL_act_159 c125 (by decide) (by decide) (by decide +kernel) (by decide) ?_
                refine v_aload_n 1 (pc := 606) C dL_act_606 rfl rfl ?_
                refine v_iload 5 (pc := 607) C dL_act_607 rfl ?_
                refine v_iload_n 3 (pc := 609) C dL_act_609 rfl rfl ?_
                obtain ⟨v126', hR, hF⟩ := bn1_of hF
                have hJ133 : ∀ (v126 : Int32), (some v126 : Option (Int32)) = some v126' → Zz E (WX E a S) 0 0 628 [(1, .int p2), (2, .int v2), (5, .int v5)] [.int v126, .int v4, .ref (a 0)] := by
                  intro v126 hE
                  have hE0 := Option.some.inj hE
                  subst hE0
                  refine v_iload_n 1 (pc := 628) C dL_act_628 rfl rfl ?_
                  obtain ⟨v127', hR, hF⟩ := bn1_of hF
                  have hJ130 : ∀ (v127 : Int32), (some v127 : Option (Int32)) = some v127' → Zz E (WX E a S) 0 0 646 [] [.int v127, .int v126, .int v4, .ref (a 0)] := by
                    intro v127 hE
                    have hE0 := Option.some.inj hE
                    subst hE0
                    obtain ⟨w128, S129, hG, hF⟩ := bn2_of hF
                    refine l_call [.ref (a 0), .int v4, .int v126, .int v127] (pc := 646) (st1 := [.long w128]) (c1 := 2) (s1 := 12) C hQ.1 (mL_trial C.hT hG) cwL_trial kl_114 rfl rfl rfl rfl (Nat.le_of_ble_eq_true rfl) ⟨(Nat.le_of_ble_eq_true rfl), (Nat.le_of_ble_eq_true rfl)⟩ ⟨(Nat.le_of_ble_eq_true rfl), (Nat.le_of_ble_eq_true rfl)⟩ dL_act_646 rfl rfl ?_
                    exact l_lret (pc := 649) C hQ dL_act_649 (by cases hF; rfl) (by cases hF; rfl) (Nat.le_of_ble_eq_true rfl) (Nat.le_of_ble_eq_true rfl)
                  have hF := hR
                  clear hR
                  refine v_if_eq 637 (pc := 629) C dL_act_629 (by decide) (fun c131 => ?_) (fun c131 => ?_)
                  · have hF := if_t hF c131
                    refine v_iload_n 0 (pc := 637) C dL_act_637 rfl rfl ?_
                    refine v_bipush (pc := 638) (v := (9 : Int32)) C dL_act_638 (by decide) ?_
                    refine v_ishr (pc := 640) C dL_act_640 ?_
                    refine v_bipush (pc := 641) (v := (10 : Int32)) C dL_act_641 (by decide) ?_
                    obtain ⟨v132, hG, hF⟩ := bn1_of hF
                    refine l_call [.int (p2 >>> ((9 : Int32) &&& 31)), .int (10 : Int32)] (pc := 643) (st1 := [.int v132, .int v126, .int v4, .ref (a 0)]) (c1 := 0) (s1 := 0) C hQ.1 (mL_low C.hT hG) cwL_low kl_86 rfl rfl rfl rfl (Nat.le_of_ble_eq_true rfl) ⟨(Nat.le_of_ble_eq_true rfl), (Nat.le_of_ble_eq_true rfl)⟩ ⟨(Nat.le_of_ble_eq_true rfl), (Nat.le_of_ble_eq_true rfl)⟩ dL_act_643 rfl rfl ?_
                    refine z_sub [] rfl ?_
                    exact hJ130 _ hF
                  · have hF := if_f hF c131
                    refine v_iload 2 (pc := 632) C dL_act_632 rfl ?_
                    refine v_goto 646 (pc := 634) C dL_act_634 (by decide) ?_
                    refine z_sub [] rfl ?_
                    exact hJ130 _ hF
                have hF := hR
                clear hR
                refine v_if_eq 618 (pc := 610) C dL_act_610 (by decide) (fun c134 => ?_) (fun c134 => ?_)
                · have hF := if_t hF c134
                  refine v_iconst (pc := 618) (v := (1 : Int32)) C dL_act_618 (by decide) ?_
                  refine v_iload_n 2 (pc := 619) C dL_act_619 rfl rfl ?_
                  refine v_bipush (pc := 620) (v := (12 : Int32)) C dL_act_620 (by decide) ?_
                  refine v_ishr (pc := 622) C dL_act_622 ?_
                  refine v_iconst (pc := 623) (v := (4 : Int32)) C dL_act_623 (by decide) ?_
                  obtain ⟨v135, hG, hF⟩ := bn1_of hF
                  refine l_call [.int (p2 >>> ((12 : Int32) &&& 31)), .int (4 : Int32)] (pc := 624) (st1 := [.int v135, .int (1 : Int32), .int v4, .ref (a 0)]) (c1 := 0) (s1 := 0) C hQ.1 (mL_low C.hT hG) cwL_low kl_86 rfl rfl rfl rfl (Nat.le_of_ble_eq_true rfl) ⟨(Nat.le_of_ble_eq_true rfl), (Nat.le_of_ble_eq_true rfl)⟩ ⟨(Nat.le_of_ble_eq_true rfl), (Nat.le_of_ble_eq_true rfl)⟩ dL_act_624 rfl rfl ?_
                  refine v_iadd (pc := 627) C dL_act_627 ?_
                  refine z_sub [2, 3, 6] rfl ?_
                  exact hJ133 _ hF
                · have hF := if_f hF c134
                  refine v_iload 7 (pc := 613) C dL_act_613 rfl ?_
                  refine v_goto 628 (pc := 615) C dL_act_615 (by decide) ?_
                  refine z_sub [2, 3, 6] rfl ?_
                  exact hJ133 _ hF
              have hF := if_f hF c125
              by_cases c136 : v8 = (18 : Int32)
              · have hF := if_t hF c136
                refine v_swi 650 (pc := 159) (off := 491) C dL_act_159 c136 (by decide) (by decide) (by decide +kernel) (by decide) ?_
                refine v_aload_n 1 (pc := 650) C dL_act_650 rfl rfl ?_
                refine v_iload_n 4 (pc := 651) C dL_act_651 rfl rfl ?_
                refine v_iload 5 (pc := 652) C dL_act_652 rfl ?_
                obtain ⟨w137, S138, hG, hF⟩ := bn2_of hF
                refine l_call [.ref (a 0), .int v3, .int v4] (pc := 654) (st1 := [.long w137]) (c1 := 2) (s1 := 12) C hQ.1 (mL_blank C.hT hG) cwL_blank kl_116 rfl rfl rfl rfl (Nat.le_of_ble_eq_true rfl) ⟨(Nat.le_of_ble_eq_true rfl), (Nat.le_of_ble_eq_true rfl)⟩ ⟨(Nat.le_of_ble_eq_true rfl), (Nat.le_of_ble_eq_true rfl)⟩ dL_act_654 rfl rfl ?_
                exact l_lret (pc := 657) C hQ dL_act_657 (by cases hF; rfl) (by cases hF; rfl) (Nat.le_of_ble_eq_true rfl) (Nat.le_of_ble_eq_true rfl)
              have hF := if_f hF c136
              by_cases c139 : v8 = (19 : Int32)
              · have hF := if_t hF c139
                refine v_swi 658 (pc := 159) (off := 499) C dL_act_159 c139 (by decide) (by decide) (by decide +kernel) (by decide) ?_
                refine z_sub [1, 2, 3, 4, 5, 6, 7] rfl ?_
                refine z_widen (c' := 34) (s' := 204) (by decide) (by decide) ?_
                exact hJ65 _ hF
              have hF := if_f hF c139
              by_cases c140 : v8 = (20 : Int32)
              · have hF := if_t hF c140
                refine v_swi 658 (pc := 159) (off := 499) C dL_act_159 c140 (by decide) (by decide) (by decide +kernel) (by decide) ?_
                refine z_sub [1, 2, 3, 4, 5, 6, 7] rfl ?_
                refine z_widen (c' := 34) (s' := 204) (by decide) (by decide) ?_
                exact hJ65 _ hF
              have hF := if_f hF c140
              by_cases c141 : v8 = (21 : Int32)
              · have hF := if_t hF c141
                refine v_swi 686 (pc := 159) (off := 527) C dL_act_159 c141 (by decide) (by decide) (by decide +kernel) (by decide) ?_
                refine v_aload_n 1 (pc := 686) C dL_act_686 rfl rfl ?_
                refine v_iload_n 4 (pc := 687) C dL_act_687 rfl rfl ?_
                refine v_iload_n 3 (pc := 688) C dL_act_688 rfl rfl ?_
                obtain ⟨v142', hR, hF⟩ := bn1_of hF
                have hJ155 : ∀ (v142 : Int32), (some v142 : Option (Int32)) = some v142' → Zz E (WX E a S) 0 0 706 [(1, .int p2), (2, .int v2), (6, .int v6), (7, .int v7)] [.int v142, .int v3, .ref (a 0)] := by
                  intro v142 hE
                  have hE0 := Option.some.inj hE
                  subst hE0
                  refine v_iload 2 (pc := 706) C dL_act_706 rfl ?_
                  refine v_iload_n 0 (pc := 708) C dL_act_708 rfl rfl ?_
                  refine v_bipush (pc := 709) (v := (20 : Int32)) C dL_act_709 (by decide) ?_
                  refine v_ishr (pc := 711) C dL_act_711 ?_
                  refine v_iconst (pc := 712) (v := (1 : Int32)) C dL_act_712 (by decide) ?_
                  refine v_iand (pc := 713) C dL_act_713 ?_
                  refine v_iconst (pc := 714) (v := (1 : Int32)) C dL_act_714 (by decide) ?_
                  obtain ⟨v143', hR, hF⟩ := bn1_of hF
                  have hJ153 : ∀ (v143 : Int32), (some v143 : Option (Int32)) = some v143' → Zz E (WX E a S) 0 0 723 [(1, .int p2), (2, .int v2), (7, .int v7)] [.int v143, .int v6, .int v142, .int v3, .ref (a 0)] := by
                    intro v143 hE
                    have hE0 := Option.some.inj hE
                    subst hE0
                    refine v_iload_n 1 (pc := 723) C dL_act_723 rfl rfl ?_
                    obtain ⟨v144', hR, hF⟩ := bn1_of hF
                    have hJ150 : ∀ (v144 : Int32), (some v144 : Option (Int32)) = some v144' → Zz E (WX E a S) 0 0 740 [(1, .int p2)] [.int v144, .int v143, .int v6, .int v142, .int v3, .ref (a 0)] := by
                      intro v144 hE
                      have hE0 := Option.some.inj hE
                      subst hE0
                      refine v_iload_n 0 (pc := 740) C dL_act_740 rfl rfl ?_
                      refine v_bipush (pc := 741) (v := (21 : Int32)) C dL_act_741 (by decide) ?_
                      refine v_ishr (pc := 743) C dL_act_743 ?_
                      refine v_iconst (pc := 744) (v := (1 : Int32)) C dL_act_744 (by decide) ?_
                      refine v_iand (pc := 745) C dL_act_745 ?_
                      refine v_iconst (pc := 746) (v := (1 : Int32)) C dL_act_746 (by decide) ?_
                      obtain ⟨v145', hR, hF⟩ := bn1_of hF
                      have hJ148 : ∀ (v145 : Int32), (some v145 : Option (Int32)) = some v145' → Zz E (WX E a S) 0 0 755 [] [.int v145, .int v144, .int v143, .int v6, .int v142, .int v3, .ref (a 0)] := by
                        intro v145 hE
                        have hE0 := Option.some.inj hE
                        subst hE0
                        obtain ⟨w146, S147, hG, hF⟩ := bn2_of hF
                        refine l_call [.ref (a 0), .int v3, .int v142, .int v6, .int v143, .int v144, .int v145] (pc := 755) (st1 := [.long w146]) (c1 := 3) (s1 := 18) C hQ.1 (mL_point C.hT hG) cwL_point kl_120 rfl rfl rfl rfl (Nat.le_of_ble_eq_true rfl) ⟨(Nat.le_of_ble_eq_true rfl), (Nat.le_of_ble_eq_true rfl)⟩ ⟨(Nat.le_of_ble_eq_true rfl), (Nat.le_of_ble_eq_true rfl)⟩ dL_act_755 rfl rfl ?_
                        exact l_lret (pc := 758) C hQ dL_act_758 (by cases hF; rfl) (by cases hF; rfl) (Nat.le_of_ble_eq_true rfl) (Nat.le_of_ble_eq_true rfl)
                      have hF := hR
                      clear hR
                      refine v_icmp_ne 754 (pc := 747) C dL_act_747 (by decide) (fun c149 => ?_) (fun c149 => ?_)
                      · have hF := if_f hF c149
                        refine v_iconst (pc := 754) (v := (0 : Int32)) C dL_act_754 (by decide) ?_
                        refine z_sub [] rfl ?_
                        exact hJ148 _ hF
                      · have hF := if_t hF c149
                        refine v_iconst (pc := 750) (v := (1 : Int32)) C dL_act_750 (by decide) ?_
                        refine v_goto 755 (pc := 751) C dL_act_751 (by decide) ?_
                        refine z_sub [] rfl ?_
                        exact hJ148 _ hF
                    have hF := hR
                    clear hR
                    refine v_if_eq 732 (pc := 724) C dL_act_724 (by decide) (fun c151 => ?_) (fun c151 => ?_)
                    · have hF := if_t hF c151
                      refine v_iload_n 0 (pc := 732) C dL_act_732 rfl rfl ?_
                      refine v_bipush (pc := 733) (v := (15 : Int32)) C dL_act_733 (by decide) ?_
                      refine v_ishr (pc := 735) C dL_act_735 ?_
                      refine v_iconst (pc := 736) (v := (3 : Int32)) C dL_act_736 (by decide) ?_
                      obtain ⟨v152, hG, hF⟩ := bn1_of hF
                      refine l_call [.int (p2 >>> ((15 : Int32) &&& 31)), .int (3 : Int32)] (pc := 737) (st1 := [.int v152, .int v143, .int v6, .int v142, .int v3, .ref (a 0)]) (c1 := 0) (s1 := 0) C hQ.1 (mL_low C.hT hG) cwL_low kl_86 rfl rfl rfl rfl (Nat.le_of_ble_eq_true rfl) ⟨(Nat.le_of_ble_eq_true rfl), (Nat.le_of_ble_eq_true rfl)⟩ ⟨(Nat.le_of_ble_eq_true rfl), (Nat.le_of_ble_eq_true rfl)⟩ dL_act_737 rfl rfl ?_
                      refine z_sub [0] rfl ?_
                      exact hJ150 _ hF
                    · have hF := if_f hF c151
                      refine v_iload 2 (pc := 727) C dL_act_727 rfl ?_
                      refine v_goto 740 (pc := 729) C dL_act_729 (by decide) ?_
                      refine z_sub [0] rfl ?_
                      exact hJ150 _ hF
                  have hF := hR
                  clear hR
                  refine v_icmp_ne 722 (pc := 715) C dL_act_715 (by decide) (fun c154 => ?_) (fun c154 => ?_)
                  · have hF := if_f hF c154
                    refine v_iconst (pc := 722) (v := (0 : Int32)) C dL_act_722 (by decide) ?_
                    refine z_sub [0, 1, 3] rfl ?_
                    exact hJ153 _ hF
                  · have hF := if_t hF c154
                    refine v_iconst (pc := 718) (v := (1 : Int32)) C dL_act_718 (by decide) ?_
                    refine v_goto 723 (pc := 719) C dL_act_719 (by decide) ?_
                    refine z_sub [0, 1, 3] rfl ?_
                    exact hJ153 _ hF
                have hF := hR
                clear hR
                refine v_if_eq 697 (pc := 689) C dL_act_689 (by decide) (fun c156 => ?_) (fun c156 => ?_)
                · have hF := if_t hF c156
                  refine v_iload_n 2 (pc := 697) C dL_act_697 rfl rfl ?_
                  refine v_bipush (pc := 698) (v := (9 : Int32)) C dL_act_698 (by decide) ?_
                  refine v_ishr (pc := 700) C dL_act_700 ?_
                  refine v_bipush (pc := 701) (v := (8 : Int32)) C dL_act_701 (by decide) ?_
                  obtain ⟨v157, hG, hF⟩ := bn1_of hF
                  refine l_call [.int (p2 >>> ((9 : Int32) &&& 31)), .int (8 : Int32)] (pc := 703) (st1 := [.int v157, .int v3, .ref (a 0)]) (c1 := 0) (s1 := 0) C hQ.1 (mL_low C.hT hG) cwL_low kl_86 rfl rfl rfl rfl (Nat.le_of_ble_eq_true rfl) ⟨(Nat.le_of_ble_eq_true rfl), (Nat.le_of_ble_eq_true rfl)⟩ ⟨(Nat.le_of_ble_eq_true rfl), (Nat.le_of_ble_eq_true rfl)⟩ dL_act_703 rfl rfl ?_
                  refine z_sub [2, 3, 7, 0] rfl ?_
                  exact hJ155 _ hF
                · have hF := if_f hF c156
                  refine v_iload 6 (pc := 692) C dL_act_692 rfl ?_
                  refine v_goto 706 (pc := 694) C dL_act_694 (by decide) ?_
                  refine z_sub [2, 3, 7, 0] rfl ?_
                  exact hJ155 _ hF
              have hF := if_f hF c141
              by_cases c158 : v8 = (22 : Int32)
              · have hF := if_t hF c158
                refine v_swi 759 (pc := 159) (off := 600) C dL_act_159 c158 (by decide) (by decide) (by decide +kernel) (by decide) ?_
                refine v_aload_n 1 (pc := 759) C dL_act_759 rfl rfl ?_
                refine v_iload_n 4 (pc := 760) C dL_act_760 rfl rfl ?_
                refine v_iload 5 (pc := 761) C dL_act_761 rfl ?_
                obtain ⟨w159, S160, hG, hF⟩ := bn2_of hF
                refine l_call [.ref (a 0), .int v3, .int v4] (pc := 763) (st1 := [.long w159]) (c1 := 2) (s1 := 12) C hQ.1 (mL_flips C.hT hG) cwL_flips kl_123 rfl rfl rfl rfl (Nat.le_of_ble_eq_true rfl) ⟨(Nat.le_of_ble_eq_true rfl), (Nat.le_of_ble_eq_true rfl)⟩ ⟨(Nat.le_of_ble_eq_true rfl), (Nat.le_of_ble_eq_true rfl)⟩ dL_act_763 rfl rfl ?_
                exact l_lret (pc := 766) C hQ dL_act_766 (by cases hF; rfl) (by cases hF; rfl) (Nat.le_of_ble_eq_true rfl) (Nat.le_of_ble_eq_true rfl)
              have hF := if_f hF c158
              by_cases c161 : v8 = (23 : Int32)
              · have hF := if_t hF c161
                refine v_swi 767 (pc := 159) (off := 608) C dL_act_159 c161 (by decide) (by decide) (by decide +kernel) (by decide) ?_
                refine v_aload_n 1 (pc := 767) C dL_act_767 rfl rfl ?_
                refine v_iload_n 4 (pc := 768) C dL_act_768 rfl rfl ?_
                refine v_iload 5 (pc := 769) C dL_act_769 rfl ?_
                refine v_iload 7 (pc := 771) C dL_act_771 rfl ?_
                obtain ⟨w162, S163, hG, hF⟩ := bn2_of hF
                refine l_call [.ref (a 0), .int v3, .int v4, .int v6] (pc := 773) (st1 := [.long w162]) (c1 := 3) (s1 := 18) C hQ.1 (mL_ordered C.hT hG) cwL_ordered kl_125 rfl rfl rfl rfl (Nat.le_of_ble_eq_true rfl) ⟨(Nat.le_of_ble_eq_true rfl), (Nat.le_of_ble_eq_true rfl)⟩ ⟨(Nat.le_of_ble_eq_true rfl), (Nat.le_of_ble_eq_true rfl)⟩ dL_act_773 rfl rfl ?_
                exact l_lret (pc := 776) C hQ dL_act_776 (by cases hF; rfl) (by cases hF; rfl) (Nat.le_of_ble_eq_true rfl) (Nat.le_of_ble_eq_true rfl)
              have hF := if_f hF c161
              by_cases c164 : v8 = (24 : Int32)
              · have hF := if_t hF c164
                refine v_swi 777 (pc := 159) (off := 618) C dL_act_159 c164 (by decide) (by decide) (by decide +kernel) (by decide) ?_
                refine z_sub [1, 2, 3, 4, 6] rfl ?_
                refine z_widen (c' := 32) (s' := 192) (by decide) (by decide) ?_
                exact hJ73 _ hF
              have hF := if_f hF c164
              by_cases c165 : v8 = (25 : Int32)
              · have hF := if_t hF c165
                refine v_swi 777 (pc := 159) (off := 618) C dL_act_159 c165 (by decide) (by decide) (by decide +kernel) (by decide) ?_
                refine z_sub [1, 2, 3, 4, 6] rfl ?_
                refine z_widen (c' := 32) (s' := 192) (by decide) (by decide) ?_
                exact hJ73 _ hF
              have hF := if_f hF c165
              by_cases c166 : v8 = (26 : Int32)
              · have hF := if_t hF c166
                refine v_swi 803 (pc := 159) (off := 644) C dL_act_159 c166 (by decide) (by decide) (by decide +kernel) (by decide) ?_
                refine v_iload_n 2 (pc := 803) C dL_act_803 rfl rfl ?_
                refine v_bipush (pc := 804) (v := (16 : Int32)) C dL_act_804 (by decide) ?_
                refine v_ishr (pc := 806) C dL_act_806 ?_
                refine v_iconst (pc := 807) (v := (4 : Int32)) C dL_act_807 (by decide) ?_
                obtain ⟨v167, hG, hF⟩ := bn1_of hF
                refine l_call [.int (p2 >>> ((16 : Int32) &&& 31)), .int (4 : Int32)] (pc := 808) (st1 := [.int v167]) (c1 := 0) (s1 := 0) C hQ.1 (mL_low C.hT hG) cwL_low kl_86 rfl rfl rfl rfl (Nat.le_of_ble_eq_true rfl) ⟨(Nat.le_of_ble_eq_true rfl), (Nat.le_of_ble_eq_true rfl)⟩ ⟨(Nat.le_of_ble_eq_true rfl), (Nat.le_of_ble_eq_true rfl)⟩ dL_act_808 rfl rfl ?_
                refine v_if_ne 822 (pc := 811) C dL_act_811 (by decide) (fun c168 => ?_) (fun c168 => ?_)
                · have hF := if_f hF c168
                  refine v_aload_n 1 (pc := 822) C dL_act_822 rfl rfl ?_
                  refine v_iload_n 4 (pc := 823) C dL_act_823 rfl rfl ?_
                  refine v_iload_n 3 (pc := 824) C dL_act_824 rfl rfl ?_
                  obtain ⟨v169', hR, hF⟩ := bn1_of hF
                  have hJ172 : ∀ (v169 : Int32), (some v169 : Option (Int32)) = some v169' → Zz E (WX E a S) 0 0 842 [] [.int v169, .int v3, .ref (a 0)] := by
                    intro v169 hE
                    have hE0 := Option.some.inj hE
                    subst hE0
                    obtain ⟨w170, S171, hG, hF⟩ := bn2_of hF
                    refine l_call [.ref (a 0), .int v3, .int v169] (pc := 842) (st1 := [.long w170]) (c1 := 2) (s1 := 12) C hQ.1 (mL_told C.hT hG) cwL_told kl_98 rfl rfl rfl rfl (Nat.le_of_ble_eq_true rfl) ⟨(Nat.le_of_ble_eq_true rfl), (Nat.le_of_ble_eq_true rfl)⟩ ⟨(Nat.le_of_ble_eq_true rfl), (Nat.le_of_ble_eq_true rfl)⟩ dL_act_842 rfl rfl ?_
                    exact l_lret (pc := 845) C hQ dL_act_845 (by cases hF; rfl) (by cases hF; rfl) (Nat.le_of_ble_eq_true rfl) (Nat.le_of_ble_eq_true rfl)
                  have hF := hR
                  clear hR
                  refine v_if_eq 833 (pc := 825) C dL_act_825 (by decide) (fun c173 => ?_) (fun c173 => ?_)
                  · have hF := if_t hF c173
                    refine v_iload_n 2 (pc := 833) C dL_act_833 rfl rfl ?_
                    refine v_bipush (pc := 834) (v := (9 : Int32)) C dL_act_834 (by decide) ?_
                    refine v_ishr (pc := 836) C dL_act_836 ?_
                    refine v_bipush (pc := 837) (v := (6 : Int32)) C dL_act_837 (by decide) ?_
                    obtain ⟨v174, hG, hF⟩ := bn1_of hF
                    refine l_call [.int (p2 >>> ((9 : Int32) &&& 31)), .int (6 : Int32)] (pc := 839) (st1 := [.int v174, .int v3, .ref (a 0)]) (c1 := 0) (s1 := 0) C hQ.1 (mL_low C.hT hG) cwL_low kl_86 rfl rfl rfl rfl (Nat.le_of_ble_eq_true rfl) ⟨(Nat.le_of_ble_eq_true rfl), (Nat.le_of_ble_eq_true rfl)⟩ ⟨(Nat.le_of_ble_eq_true rfl), (Nat.le_of_ble_eq_true rfl)⟩ dL_act_839 rfl rfl ?_
                    refine z_sub [] rfl ?_
                    exact hJ172 _ hF
                  · have hF := if_f hF c173
                    refine v_iload 6 (pc := 828) C dL_act_828 rfl ?_
                    refine v_goto 842 (pc := 830) C dL_act_830 (by decide) ?_
                    refine z_sub [] rfl ?_
                    exact hJ172 _ hF
                · have hF := if_t hF c168
                  refine v_aload_n 1 (pc := 814) C dL_act_814 rfl rfl ?_
                  obtain ⟨v175, S176, hG, hF⟩ := bn2_of hF
                  refine v_callV [] (pc := 815) (st1 := [.int v175]) (c1 := 0) (s1 := 0) C (mX8_clear C.hT hG) kL_129 (kdX_lt (rfl : kdX 0 = 8) (by decide)) (gX_8 (rfl : kdX 0 = 8)) rfl rfl rfl rfl (Nat.le_of_ble_eq_true rfl) ⟨(Nat.le_of_ble_eq_true rfl), (Nat.le_of_ble_eq_true rfl)⟩ ⟨(Nat.le_of_ble_eq_true rfl), (Nat.le_of_ble_eq_true rfl)⟩ dL_act_815 rfl rfl ?_
                  refine v_i2l (pc := 818) C dL_act_818 ?_
                  refine v_goto 845 (pc := 819) C dL_act_819 (by decide) ?_
                  exact l_lret (pc := 845) C hQ dL_act_845 (by cases hF; rfl) (by cases hF; rfl) (Nat.le_of_ble_eq_true rfl) (Nat.le_of_ble_eq_true rfl)
              have hF := if_f hF c166
              by_cases c177 : v8 = (27 : Int32)
              · have hF := if_t hF c177
                refine v_swi 846 (pc := 159) (off := 687) C dL_act_159 c177 (by decide) (by decide) (by decide +kernel) (by decide) ?_
                refine v_aload_n 1 (pc := 846) C dL_act_846 rfl rfl ?_
                refine v_iload 5 (pc := 847) C dL_act_847 rfl ?_
                refine v_iload_n 3 (pc := 849) C dL_act_849 rfl rfl ?_
                obtain ⟨v178', hR, hF⟩ := bn1_of hF
                have hJ189 : ∀ (v178 : Int32), (some v178 : Option (Int32)) = some v178' → Zz E (WX E a S) 0 0 872 [(1, .int p2), (2, .int v2), (6, .int v6)] [.int v178, .int v4, .ref (a 0)] := by
                  intro v178 hE
                  have hE0 := Option.some.inj hE
                  subst hE0
                  refine v_iload_n 1 (pc := 872) C dL_act_872 rfl rfl ?_
                  obtain ⟨v179', hR, hF⟩ := bn1_of hF
                  have hJ186 : ∀ (v179 : Int32), (some v179 : Option (Int32)) = some v179' → Zz E (WX E a S) 0 0 896 [(1, .int p2), (2, .int v2), (6, .int v6)] [.int v179, .int v178, .int v4, .ref (a 0)] := by
                    intro v179 hE
                    have hE0 := Option.some.inj hE
                    subst hE0
                    refine v_iload_n 1 (pc := 896) C dL_act_896 rfl rfl ?_
                    obtain ⟨v180', hR, hF⟩ := bn1_of hF
                    have hJ183 : ∀ (v180 : Int32), (some v180 : Option (Int32)) = some v180' → Zz E (WX E a S) 0 0 913 [] [.int v180, .int v179, .int v178, .int v4, .ref (a 0)] := by
                      intro v180 hE
                      have hE0 := Option.some.inj hE
                      subst hE0
                      obtain ⟨w181, S182, hG, hF⟩ := bn2_of hF
                      refine l_call [.ref (a 0), .int v4, .int v178, .int v179, .int v180] (pc := 913) (st1 := [.long w181]) (c1 := 2) (s1 := 12) C hQ.1 (mL_nest C.hT hG) cwL_nest kl_132 rfl rfl rfl rfl (Nat.le_of_ble_eq_true rfl) ⟨(Nat.le_of_ble_eq_true rfl), (Nat.le_of_ble_eq_true rfl)⟩ ⟨(Nat.le_of_ble_eq_true rfl), (Nat.le_of_ble_eq_true rfl)⟩ dL_act_913 rfl rfl ?_
                      exact l_lret (pc := 916) C hQ dL_act_916 (by cases hF; rfl) (by cases hF; rfl) (Nat.le_of_ble_eq_true rfl) (Nat.le_of_ble_eq_true rfl)
                    have hF := hR
                    clear hR
                    refine v_if_eq 905 (pc := 897) C dL_act_897 (by decide) (fun c184 => ?_) (fun c184 => ?_)
                    · have hF := if_t hF c184
                      refine v_iload_n 0 (pc := 905) C dL_act_905 rfl rfl ?_
                      refine v_bipush (pc := 906) (v := (12 : Int32)) C dL_act_906 (by decide) ?_
                      refine v_ishr (pc := 908) C dL_act_908 ?_
                      refine v_iconst (pc := 909) (v := (4 : Int32)) C dL_act_909 (by decide) ?_
                      obtain ⟨v185, hG, hF⟩ := bn1_of hF
                      refine l_call [.int (p2 >>> ((12 : Int32) &&& 31)), .int (4 : Int32)] (pc := 910) (st1 := [.int v185, .int v179, .int v178, .int v4, .ref (a 0)]) (c1 := 0) (s1 := 0) C hQ.1 (mL_low C.hT hG) cwL_low kl_86 rfl rfl rfl rfl (Nat.le_of_ble_eq_true rfl) ⟨(Nat.le_of_ble_eq_true rfl), (Nat.le_of_ble_eq_true rfl)⟩ ⟨(Nat.le_of_ble_eq_true rfl), (Nat.le_of_ble_eq_true rfl)⟩ dL_act_910 rfl rfl ?_
                      refine z_sub [] rfl ?_
                      exact hJ183 _ hF
                    · have hF := if_f hF c184
                      refine v_iload 2 (pc := 900) C dL_act_900 rfl ?_
                      refine v_goto 913 (pc := 902) C dL_act_902 (by decide) ?_
                      refine z_sub [] rfl ?_
                      exact hJ183 _ hF
                  have hF := hR
                  clear hR
                  refine v_if_eq 883 (pc := 873) C dL_act_873 (by decide) (fun c187 => ?_) (fun c187 => ?_)
                  · have hF := if_t hF c187
                    refine v_bipush (pc := 883) (v := (100 : Int32)) C dL_act_883 (by decide) ?_
                    refine v_iload_n 0 (pc := 885) C dL_act_885 rfl rfl ?_
                    refine v_bipush (pc := 886) (v := (6 : Int32)) C dL_act_886 (by decide) ?_
                    refine v_ishr (pc := 888) C dL_act_888 ?_
                    refine v_sipush (pc := 889) (v := (300 : Int32)) C dL_act_889 (by decide) ?_
                    obtain ⟨v188, hG, hF⟩ := bn1_of hF
                    refine l_call [.int (p2 >>> ((6 : Int32) &&& 31)), .int (300 : Int32)] (pc := 892) (st1 := [.int v188, .int (100 : Int32), .int v178, .int v4, .ref (a 0)]) (c1 := 0) (s1 := 0) C hQ.1 (mL_low C.hT hG) cwL_low kl_86 rfl rfl rfl rfl (Nat.le_of_ble_eq_true rfl) ⟨(Nat.le_of_ble_eq_true rfl), (Nat.le_of_ble_eq_true rfl)⟩ ⟨(Nat.le_of_ble_eq_true rfl), (Nat.le_of_ble_eq_true rfl)⟩ dL_act_892 rfl rfl ?_
                    refine v_iadd (pc := 895) C dL_act_895 ?_
                    exact hJ186 _ hF
                  · have hF := if_f hF c187
                    refine v_iload_n 0 (pc := 876) C dL_act_876 rfl rfl ?_
                    refine v_bipush (pc := 877) (v := (6 : Int32)) C dL_act_877 (by decide) ?_
                    refine v_ishr (pc := 879) C dL_act_879 ?_
                    refine v_goto 896 (pc := 880) C dL_act_880 (by decide) ?_
                    exact hJ186 _ hF
                have hF := hR
                clear hR
                refine v_if_eq 858 (pc := 850) C dL_act_850 (by decide) (fun c190 => ?_) (fun c190 => ?_)
                · have hF := if_t hF c190
                  refine v_sipush (pc := 858) (v := (400 : Int32)) C dL_act_858 (by decide) ?_
                  refine v_iload_n 2 (pc := 861) C dL_act_861 rfl rfl ?_
                  refine v_bipush (pc := 862) (v := (9 : Int32)) C dL_act_862 (by decide) ?_
                  refine v_ishr (pc := 864) C dL_act_864 ?_
                  refine v_sipush (pc := 865) (v := (600 : Int32)) C dL_act_865 (by decide) ?_
                  obtain ⟨v191, hG, hF⟩ := bn1_of hF
                  refine l_call [.int (p2 >>> ((9 : Int32) &&& 31)), .int (600 : Int32)] (pc := 868) (st1 := [.int v191, .int (400 : Int32), .int v4, .ref (a 0)]) (c1 := 0) (s1 := 0) C hQ.1 (mL_low C.hT hG) cwL_low kl_86 rfl rfl rfl rfl (Nat.le_of_ble_eq_true rfl) ⟨(Nat.le_of_ble_eq_true rfl), (Nat.le_of_ble_eq_true rfl)⟩ ⟨(Nat.le_of_ble_eq_true rfl), (Nat.le_of_ble_eq_true rfl)⟩ dL_act_868 rfl rfl ?_
                  refine v_iadd (pc := 871) C dL_act_871 ?_
                  refine z_sub [2, 3, 7] rfl ?_
                  exact hJ189 _ hF
                · have hF := if_f hF c190
                  refine v_iload 6 (pc := 853) C dL_act_853 rfl ?_
                  refine v_goto 872 (pc := 855) C dL_act_855 (by decide) ?_
                  refine z_sub [2, 3, 7] rfl ?_
                  exact hJ189 _ hF
              have hF := if_f hF c177
              by_cases c192 : v8 = (28 : Int32)
              · have hF := if_t hF c192
                refine v_swi 917 (pc := 159) (off := 758) C dL_act_159 c192 (by decide) (by decide) (by decide +kernel) (by decide) ?_
                refine z_sub [1, 2, 3, 4, 5, 6] rfl ?_
                refine z_widen (c' := 29) (s' := 174) (by decide) (by decide) ?_
                exact hJ81 _ hF
              have hF := if_f hF c192
              by_cases c193 : v8 = (29 : Int32)
              · have hF := if_t hF c193
                refine v_swi 917 (pc := 159) (off := 758) C dL_act_159 c193 (by decide) (by decide) (by decide +kernel) (by decide) ?_
                refine z_sub [1, 2, 3, 4, 5, 6] rfl ?_
                refine z_widen (c' := 29) (s' := 174) (by decide) (by decide) ?_
                exact hJ81 _ hF
              have hF := if_f hF c193
              by_cases c194 : v8 = (30 : Int32)
              · have hF := if_t hF c194
                refine v_swi 945 (pc := 159) (off := 786) C dL_act_159 c194 (by decide) (by decide) (by decide +kernel) (by decide) ?_
                refine z_sub [1, 0] rfl ?_
                refine z_widen (c' := 27) (s' := 162) (by decide) (by decide) ?_
                exact hJ85 _ hF
              have hF := if_f hF c194
              by_cases c195 : v8 = (31 : Int32)
              · have hF := if_t hF c195
                refine v_swi 945 (pc := 159) (off := 786) C dL_act_159 c195 (by decide) (by decide) (by decide +kernel) (by decide) ?_
                refine z_sub [1, 0] rfl ?_
                refine z_widen (c' := 27) (s' := 162) (by decide) (by decide) ?_
                exact hJ85 _ hF
              have hF := if_f hF c195
              by_cases c196 : v8 = (32 : Int32)
              · have hF := if_t hF c196
                refine v_swi 945 (pc := 159) (off := 786) C dL_act_159 c196 (by decide) (by decide) (by decide +kernel) (by decide) ?_
                refine z_sub [1, 0] rfl ?_
                refine z_widen (c' := 27) (s' := 162) (by decide) (by decide) ?_
                exact hJ85 _ hF
              have hF := if_f hF c196
              by_cases c197 : v8 = (33 : Int32)
              · have hF := if_t hF c197
                refine v_swi 952 (pc := 159) (off := 793) C dL_act_159 c197 (by decide) (by decide) (by decide +kernel) (by decide) ?_
                refine v_aload_n 1 (pc := 952) C dL_act_952 rfl rfl ?_
                refine v_iload 0 (pc := 953) C dL_act_953 rfl ?_
                refine v_iload_n 3 (pc := 955) C dL_act_955 rfl rfl ?_
                obtain ⟨v198', hR, hF⟩ := bn1_of hF
                have hJ201 : ∀ (v198 : Int32), (some v198 : Option (Int32)) = some v198' → Zz E (WX E a S) 0 0 972 [] [.int v198, .int v7, .ref (a 0)] := by
                  intro v198 hE
                  have hE0 := Option.some.inj hE
                  subst hE0
                  obtain ⟨w199, S200, hG, hF⟩ := bn2_of hF
                  refine l_call [.ref (a 0), .int v7, .int v198] (pc := 972) (st1 := [.long w199]) (c1 := 2) (s1 := 12) C hQ.1 (mL_batchOf C.hT hG) cwL_batchOf kl_139 rfl rfl rfl rfl (Nat.le_of_ble_eq_true rfl) ⟨(Nat.le_of_ble_eq_true rfl), (Nat.le_of_ble_eq_true rfl)⟩ ⟨(Nat.le_of_ble_eq_true rfl), (Nat.le_of_ble_eq_true rfl)⟩ dL_act_972 rfl rfl ?_
                  exact l_lret (pc := 975) C hQ dL_act_975 (by cases hF; rfl) (by cases hF; rfl) (Nat.le_of_ble_eq_true rfl) (Nat.le_of_ble_eq_true rfl)
                have hF := hR
                clear hR
                refine v_if_eq 964 (pc := 956) C dL_act_956 (by decide) (fun c202 => ?_) (fun c202 => ?_)
                · have hF := if_t hF c202
                  refine v_iload_n 2 (pc := 964) C dL_act_964 rfl rfl ?_
                  refine v_bipush (pc := 965) (v := (9 : Int32)) C dL_act_965 (by decide) ?_
                  refine v_ishr (pc := 967) C dL_act_967 ?_
                  refine v_iconst (pc := 968) (v := (4 : Int32)) C dL_act_968 (by decide) ?_
                  obtain ⟨v203, hG, hF⟩ := bn1_of hF
                  refine l_call [.int (p2 >>> ((9 : Int32) &&& 31)), .int (4 : Int32)] (pc := 969) (st1 := [.int v203, .int v7, .ref (a 0)]) (c1 := 0) (s1 := 0) C hQ.1 (mL_low C.hT hG) cwL_low kl_86 rfl rfl rfl rfl (Nat.le_of_ble_eq_true rfl) ⟨(Nat.le_of_ble_eq_true rfl), (Nat.le_of_ble_eq_true rfl)⟩ ⟨(Nat.le_of_ble_eq_true rfl), (Nat.le_of_ble_eq_true rfl)⟩ dL_act_969 rfl rfl ?_
                  refine z_sub [] rfl ?_
                  exact hJ201 _ hF
                · have hF := if_f hF c202
                  refine v_iload 6 (pc := 959) C dL_act_959 rfl ?_
                  refine v_goto 972 (pc := 961) C dL_act_961 (by decide) ?_
                  refine z_sub [] rfl ?_
                  exact hJ201 _ hF
              have hF := if_f hF c197
              by_cases c204 : v8 = (34 : Int32)
              · have hF := if_t hF c204
                refine v_swi 976 (pc := 159) (off := 817) C dL_act_159 c204 (by decide) (by decide) (by decide +kernel) (by decide) ?_
                refine v_aload_n 1 (pc := 976) C dL_act_976 rfl rfl ?_
                refine v_iload_n 3 (pc := 977) C dL_act_977 rfl rfl ?_
                obtain ⟨v205', hR, hF⟩ := bn1_of hF
                have hJ208 : ∀ (v205 : Int32), (some v205 : Option (Int32)) = some v205' → Zz E (WX E a S) 0 0 997 [] [.int v205, .ref (a 0)] := by
                  intro v205 hE
                  have hE0 := Option.some.inj hE
                  subst hE0
                  obtain ⟨w206, S207, hG, hF⟩ := bn2_of hF
                  refine l_call [.ref (a 0), .int v205] (pc := 997) (st1 := [.long w206]) (c1 := 1) (s1 := 6) C hQ.1 (mL_kits C.hT hG) cwL_kits kl_141 rfl rfl rfl rfl (Nat.le_of_ble_eq_true rfl) ⟨(Nat.le_of_ble_eq_true rfl), (Nat.le_of_ble_eq_true rfl)⟩ ⟨(Nat.le_of_ble_eq_true rfl), (Nat.le_of_ble_eq_true rfl)⟩ dL_act_997 rfl rfl ?_
                  exact l_lret (pc := 1000) C hQ dL_act_1000 (by cases hF; rfl) (by cases hF; rfl) (Nat.le_of_ble_eq_true rfl) (Nat.le_of_ble_eq_true rfl)
                have hF := hR
                clear hR
                refine v_if_eq 986 (pc := 978) C dL_act_978 (by decide) (fun c209 => ?_) (fun c209 => ?_)
                · have hF := if_t hF c209
                  refine v_iconst (pc := 986) (v := (1 : Int32)) C dL_act_986 (by decide) ?_
                  refine v_iload_n 2 (pc := 987) C dL_act_987 rfl rfl ?_
                  refine v_bipush (pc := 988) (v := (9 : Int32)) C dL_act_988 (by decide) ?_
                  refine v_ishr (pc := 990) C dL_act_990 ?_
                  refine v_bipush (pc := 991) (v := (7 : Int32)) C dL_act_991 (by decide) ?_
                  obtain ⟨v210, hG, hF⟩ := bn1_of hF
                  refine l_call [.int (p2 >>> ((9 : Int32) &&& 31)), .int (7 : Int32)] (pc := 993) (st1 := [.int v210, .int (1 : Int32), .ref (a 0)]) (c1 := 0) (s1 := 0) C hQ.1 (mL_low C.hT hG) cwL_low kl_86 rfl rfl rfl rfl (Nat.le_of_ble_eq_true rfl) ⟨(Nat.le_of_ble_eq_true rfl), (Nat.le_of_ble_eq_true rfl)⟩ ⟨(Nat.le_of_ble_eq_true rfl), (Nat.le_of_ble_eq_true rfl)⟩ dL_act_993 rfl rfl ?_
                  refine v_iadd (pc := 996) C dL_act_996 ?_
                  refine z_sub [] rfl ?_
                  exact hJ208 _ hF
                · have hF := if_f hF c209
                  refine v_iload 6 (pc := 981) C dL_act_981 rfl ?_
                  refine v_goto 997 (pc := 983) C dL_act_983 (by decide) ?_
                  refine z_sub [] rfl ?_
                  exact hJ208 _ hF
              have hF := if_f hF c204
              refine v_swo 1001 (pc := 159) C dL_act_159 (by have q0 := i_ne c86 (n := 0) (by decide); have q1 := i_ne c87 (n := 1) (by decide); have q2 := i_ne c88 (n := 2) (by decide); have q3 := i_ne c89 (n := 3) (by decide); have q4 := i_ne c90 (n := 4) (by decide); have q5 := i_ne c91 (n := 5) (by decide); have q6 := i_ne c92 (n := 6) (by decide); have q7 := i_ne c93 (n := 7) (by decide); have q8 := i_ne c104 (n := 8) (by decide); have q9 := i_ne c105 (n := 9) (by decide); have q10 := i_ne c106 (n := 10) (by decide); have q11 := i_ne c107 (n := 11) (by decide); have q12 := i_ne c108 (n := 12) (by decide); have q13 := i_ne c109 (n := 13) (by decide); have q14 := i_ne c120 (n := 14) (by decide); have q15 := i_ne c123 (n := 15) (by decide); have q16 := i_ne c124 (n := 16) (by decide); have q17 := i_ne c125 (n := 17) (by decide); have q18 := i_ne c136 (n := 18) (by decide); have q19 := i_ne c139 (n := 19) (by decide); have q20 := i_ne c140 (n := 20) (by decide); have q21 := i_ne c141 (n := 21) (by decide); have q22 := i_ne c158 (n := 22) (by decide); have q23 := i_ne c161 (n := 23) (by decide); have q24 := i_ne c164 (n := 24) (by decide); have q25 := i_ne c165 (n := 25) (by decide); have q26 := i_ne c166 (n := 26) (by decide); have q27 := i_ne c177 (n := 27) (by decide); have q28 := i_ne c192 (n := 28) (by decide); have q29 := i_ne c193 (n := 29) (by decide); have q30 := i_ne c194 (n := 30) (by decide); have q31 := i_ne c195 (n := 31) (by decide); have q32 := i_ne c196 (n := 32) (by decide); have q33 := i_ne c197 (n := 33) (by decide); have q34 := i_ne c204 (n := 34) (by decide); omega) (by decide) ?_
              refine v_aload_n 1 (pc := 1001) C dL_act_1001 rfl rfl ?_
              refine v_iload_n 3 (pc := 1002) C dL_act_1002 rfl rfl ?_
              obtain ⟨v211', hR, hF⟩ := bn1_of hF
              have hJ218 : ∀ (v211 : Int32), (some v211 : Option (Int32)) = some v211' → Zz E (WX E a S) 0 0 1022 [(1, .int p2), (2, .int v2)] [.int v211, .ref (a 0)] := by
                intro v211 hE
                have hE0 := Option.some.inj hE
                subst hE0
                refine v_iload_n 1 (pc := 1022) C dL_act_1022 rfl rfl ?_
                obtain ⟨v212', hR, hF⟩ := bn1_of hF
                have hJ215 : ∀ (v212 : Int32), (some v212 : Option (Int32)) = some v212' → Zz E (WX E a S) 0 0 1042 [] [.int v212, .int v211, .ref (a 0)] := by
                  intro v212 hE
                  have hE0 := Option.some.inj hE
                  subst hE0
                  obtain ⟨w213, S214, hG, hF⟩ := bn2_of hF
                  refine l_call [.ref (a 0), .int v211, .int v212] (pc := 1042) (st1 := [.long w213]) (c1 := 2) (s1 := 12) C hQ.1 (mL_take C.hT hG) cwL_take kl_143 rfl rfl rfl rfl (Nat.le_of_ble_eq_true rfl) ⟨(Nat.le_of_ble_eq_true rfl), (Nat.le_of_ble_eq_true rfl)⟩ ⟨(Nat.le_of_ble_eq_true rfl), (Nat.le_of_ble_eq_true rfl)⟩ dL_act_1042 rfl rfl ?_
                  exact l_lret (pc := 1045) C hQ dL_act_1045 (by cases hF; rfl) (by cases hF; rfl) (Nat.le_of_ble_eq_true rfl) (Nat.le_of_ble_eq_true rfl)
                have hF := hR
                clear hR
                refine v_if_eq 1032 (pc := 1023) C dL_act_1023 (by decide) (fun c216 => ?_) (fun c216 => ?_)
                · have hF := if_t hF c216
                  refine v_iconst (pc := 1032) (v := (1 : Int32)) C dL_act_1032 (by decide) ?_
                  refine v_iload_n 0 (pc := 1033) C dL_act_1033 rfl rfl ?_
                  refine v_iconst (pc := 1034) (v := (3 : Int32)) C dL_act_1034 (by decide) ?_
                  refine v_ishr (pc := 1035) C dL_act_1035 ?_
                  refine v_bipush (pc := 1036) (v := (8 : Int32)) C dL_act_1036 (by decide) ?_
                  obtain ⟨v217, hG, hF⟩ := bn1_of hF
                  refine l_call [.int (p2 >>> ((3 : Int32) &&& 31)), .int (8 : Int32)] (pc := 1038) (st1 := [.int v217, .int (1 : Int32), .int v211, .ref (a 0)]) (c1 := 0) (s1 := 0) C hQ.1 (mL_low C.hT hG) cwL_low kl_86 rfl rfl rfl rfl (Nat.le_of_ble_eq_true rfl) ⟨(Nat.le_of_ble_eq_true rfl), (Nat.le_of_ble_eq_true rfl)⟩ ⟨(Nat.le_of_ble_eq_true rfl), (Nat.le_of_ble_eq_true rfl)⟩ dL_act_1038 rfl rfl ?_
                  refine v_iadd (pc := 1041) C dL_act_1041 ?_
                  refine z_sub [] rfl ?_
                  exact hJ215 _ hF
                · have hF := if_f hF c216
                  refine v_iload_n 0 (pc := 1026) C dL_act_1026 rfl rfl ?_
                  refine v_iconst (pc := 1027) (v := (3 : Int32)) C dL_act_1027 (by decide) ?_
                  refine v_ishr (pc := 1028) C dL_act_1028 ?_
                  refine v_goto 1042 (pc := 1029) C dL_act_1029 (by decide) ?_
                  refine z_sub [] rfl ?_
                  exact hJ215 _ hF
              have hF := hR
              clear hR
              refine v_if_eq 1011 (pc := 1003) C dL_act_1003 (by decide) (fun c219 => ?_) (fun c219 => ?_)
              · have hF := if_t hF c219
                refine v_iconst (pc := 1011) (v := (1 : Int32)) C dL_act_1011 (by decide) ?_
                refine v_iload_n 2 (pc := 1012) C dL_act_1012 rfl rfl ?_
                refine v_bipush (pc := 1013) (v := (9 : Int32)) C dL_act_1013 (by decide) ?_
                refine v_ishr (pc := 1015) C dL_act_1015 ?_
                refine v_bipush (pc := 1016) (v := (7 : Int32)) C dL_act_1016 (by decide) ?_
                obtain ⟨v220, hG, hF⟩ := bn1_of hF
                refine l_call [.int (p2 >>> ((9 : Int32) &&& 31)), .int (7 : Int32)] (pc := 1018) (st1 := [.int v220, .int (1 : Int32), .ref (a 0)]) (c1 := 0) (s1 := 0) C hQ.1 (mL_low C.hT hG) cwL_low kl_86 rfl rfl rfl rfl (Nat.le_of_ble_eq_true rfl) ⟨(Nat.le_of_ble_eq_true rfl), (Nat.le_of_ble_eq_true rfl)⟩ ⟨(Nat.le_of_ble_eq_true rfl), (Nat.le_of_ble_eq_true rfl)⟩ dL_act_1018 rfl rfl ?_
                refine v_iadd (pc := 1021) C dL_act_1021 ?_
                refine z_sub [2, 3] rfl ?_
                exact hJ218 _ hF
              · have hF := if_f hF c219
                refine v_iload 6 (pc := 1006) C dL_act_1006 rfl ?_
                refine v_goto 1022 (pc := 1008) C dL_act_1008 (by decide) ?_
                refine z_sub [2, 3] rfl ?_
                exact hJ218 _ hF
            have hF := hR
            clear hR
            refine v_if_eq 142 (pc := 125) C dL_act_125 (by decide) (fun c222 => ?_) (fun c222 => ?_)
            · have hF := if_t hF c222
              refine v_iload_n 2 (pc := 142) C dL_act_142 rfl rfl ?_
              refine v_bipush (pc := 143) (v := (15 : Int32)) C dL_act_143 (by decide) ?_
              refine v_ishr (pc := 145) C dL_act_145 ?_
              refine v_bipush (pc := 146) (v := (8 : Int32)) C dL_act_146 (by decide) ?_
              obtain ⟨v223, hG, hF⟩ := bn1_of hF
              refine l_call [.int (p2 >>> ((15 : Int32) &&& 31)), .int (8 : Int32)] (pc := 148) (st1 := [.int v223]) (c1 := 0) (s1 := 0) C hQ.1 (mL_low C.hT hG) cwL_low kl_86 rfl rfl rfl rfl (Nat.le_of_ble_eq_true rfl) ⟨(Nat.le_of_ble_eq_true rfl), (Nat.le_of_ble_eq_true rfl)⟩ ⟨(Nat.le_of_ble_eq_true rfl), (Nat.le_of_ble_eq_true rfl)⟩ dL_act_148 rfl rfl ?_
              refine z_sub [1, 2, 3, 4, 5, 6, 0] rfl ?_
              exact hJ221 _ hF
            · have hF := if_f hF c222
              refine v_iload_n 2 (pc := 128) C dL_act_128 rfl rfl ?_
              refine v_bipush (pc := 129) (v := (15 : Int32)) C dL_act_129 (by decide) ?_
              refine v_ishr (pc := 131) C dL_act_131 ?_
              refine v_bipush (pc := 132) (v := (24 : Int32)) C dL_act_132 (by decide) ?_
              obtain ⟨v224, hG, hF⟩ := bn1_of hF
              refine l_call [.int (p2 >>> ((15 : Int32) &&& 31)), .int (24 : Int32)] (pc := 134) (st1 := [.int v224]) (c1 := 0) (s1 := 0) C hQ.1 (mL_low C.hT hG) cwL_low kl_86 rfl rfl rfl rfl (Nat.le_of_ble_eq_true rfl) ⟨(Nat.le_of_ble_eq_true rfl), (Nat.le_of_ble_eq_true rfl)⟩ ⟨(Nat.le_of_ble_eq_true rfl), (Nat.le_of_ble_eq_true rfl)⟩ dL_act_134 rfl rfl ?_
              refine v_iconst (pc := 137) (v := (2 : Int32)) C dL_act_137 (by decide) ?_
              refine v_isub (pc := 138) C dL_act_138 ?_
              refine v_goto 151 (pc := 139) C dL_act_139 (by decide) ?_
              refine z_sub [1, 2, 3, 4, 5, 6, 0] rfl ?_
              exact hJ221 _ hF
          have hF := hR
          clear hR
          refine v_if_eq 114 (pc := 97) C dL_act_97 (by decide) (fun c226 => ?_) (fun c226 => ?_)
          · have hF := if_t hF c226
            refine v_iload_n 2 (pc := 114) C dL_act_114 rfl rfl ?_
            refine v_bipush (pc := 115) (v := (12 : Int32)) C dL_act_115 (by decide) ?_
            refine v_ishr (pc := 117) C dL_act_117 ?_
            refine v_iconst (pc := 118) (v := (4 : Int32)) C dL_act_118 (by decide) ?_
            obtain ⟨v227, hG, hF⟩ := bn1_of hF
            refine l_call [.int (p2 >>> ((12 : Int32) &&& 31)), .int (4 : Int32)] (pc := 119) (st1 := [.int v227]) (c1 := 0) (s1 := 0) C hQ.1 (mL_low C.hT hG) cwL_low kl_86 rfl rfl rfl rfl (Nat.le_of_ble_eq_true rfl) ⟨(Nat.le_of_ble_eq_true rfl), (Nat.le_of_ble_eq_true rfl)⟩ ⟨(Nat.le_of_ble_eq_true rfl), (Nat.le_of_ble_eq_true rfl)⟩ dL_act_119 rfl rfl ?_
            refine z_sub [1, 2, 3, 4, 5, 0] rfl ?_
            exact hJ225 _ hF
          · have hF := if_f hF c226
            refine v_iload_n 2 (pc := 100) C dL_act_100 rfl rfl ?_
            refine v_bipush (pc := 101) (v := (12 : Int32)) C dL_act_101 (by decide) ?_
            refine v_ishr (pc := 103) C dL_act_103 ?_
            refine v_bipush (pc := 104) (v := (12 : Int32)) C dL_act_104 (by decide) ?_
            obtain ⟨v228, hG, hF⟩ := bn1_of hF
            refine l_call [.int (p2 >>> ((12 : Int32) &&& 31)), .int (12 : Int32)] (pc := 106) (st1 := [.int v228]) (c1 := 0) (s1 := 0) C hQ.1 (mL_low C.hT hG) cwL_low kl_86 rfl rfl rfl rfl (Nat.le_of_ble_eq_true rfl) ⟨(Nat.le_of_ble_eq_true rfl), (Nat.le_of_ble_eq_true rfl)⟩ ⟨(Nat.le_of_ble_eq_true rfl), (Nat.le_of_ble_eq_true rfl)⟩ dL_act_106 rfl rfl ?_
            refine v_iconst (pc := 109) (v := (2 : Int32)) C dL_act_109 (by decide) ?_
            refine v_isub (pc := 110) C dL_act_110 ?_
            refine v_goto 122 (pc := 111) C dL_act_111 (by decide) ?_
            refine z_sub [1, 2, 3, 4, 5, 0] rfl ?_
            exact hJ225 _ hF
        have hF := hR
        clear hR
        refine v_if_eq 82 (pc := 72) C dL_act_72 (by decide) (fun c230 => ?_) (fun c230 => ?_)
        · have hF := if_t hF c230
          refine v_bipush (pc := 82) (v := (10 : Int32)) C dL_act_82 (by decide) ?_
          refine v_iload_n 2 (pc := 84) C dL_act_84 rfl rfl ?_
          refine v_bipush (pc := 85) (v := (9 : Int32)) C dL_act_85 (by decide) ?_
          refine v_ishr (pc := 87) C dL_act_87 ?_
          refine v_bipush (pc := 88) (v := (110 : Int32)) C dL_act_88 (by decide) ?_
          obtain ⟨v231, hG, hF⟩ := bn1_of hF
          refine l_call [.int (p2 >>> ((9 : Int32) &&& 31)), .int (110 : Int32)] (pc := 90) (st1 := [.int v231, .int (10 : Int32)]) (c1 := 0) (s1 := 0) C hQ.1 (mL_low C.hT hG) cwL_low kl_86 rfl rfl rfl rfl (Nat.le_of_ble_eq_true rfl) ⟨(Nat.le_of_ble_eq_true rfl), (Nat.le_of_ble_eq_true rfl)⟩ ⟨(Nat.le_of_ble_eq_true rfl), (Nat.le_of_ble_eq_true rfl)⟩ dL_act_90 rfl rfl ?_
          refine v_iadd (pc := 93) C dL_act_93 ?_
          refine z_sub [1, 2, 3, 4, 0] rfl ?_
          exact hJ229 _ hF
        · have hF := if_f hF c230
          refine v_iload_n 2 (pc := 75) C dL_act_75 rfl rfl ?_
          refine v_bipush (pc := 76) (v := (9 : Int32)) C dL_act_76 (by decide) ?_
          refine v_ishr (pc := 78) C dL_act_78 ?_
          refine v_goto 94 (pc := 79) C dL_act_79 (by decide) ?_
          refine z_sub [1, 2, 3, 4, 0] rfl ?_
          exact hJ229 _ hF
      have hF := hR
      clear hR
      refine v_if_eq 61 (pc := 44) C dL_act_44 (by decide) (fun c233 => ?_) (fun c233 => ?_)
      · have hF := if_t hF c233
        refine v_iload_n 2 (pc := 61) C dL_act_61 rfl rfl ?_
        refine v_bipush (pc := 62) (v := (8 : Int32)) C dL_act_62 (by decide) ?_
        refine v_ishr (pc := 64) C dL_act_64 ?_
        refine v_iconst (pc := 65) (v := (2 : Int32)) C dL_act_65 (by decide) ?_
        obtain ⟨v234, hG, hF⟩ := bn1_of hF
        refine l_call [.int (p2 >>> ((8 : Int32) &&& 31)), .int (2 : Int32)] (pc := 66) (st1 := [.int v234]) (c1 := 0) (s1 := 0) C hQ.1 (mL_low C.hT hG) cwL_low kl_86 rfl rfl rfl rfl (Nat.le_of_ble_eq_true rfl) ⟨(Nat.le_of_ble_eq_true rfl), (Nat.le_of_ble_eq_true rfl)⟩ ⟨(Nat.le_of_ble_eq_true rfl), (Nat.le_of_ble_eq_true rfl)⟩ dL_act_66 rfl rfl ?_
        refine z_sub [1, 2, 3, 0] rfl ?_
        exact hJ232 _ hF
      · have hF := if_f hF c233
        refine v_iload_n 2 (pc := 47) C dL_act_47 rfl rfl ?_
        refine v_bipush (pc := 48) (v := (8 : Int32)) C dL_act_48 (by decide) ?_
        refine v_ishr (pc := 50) C dL_act_50 ?_
        refine v_bipush (pc := 51) (v := (7 : Int32)) C dL_act_51 (by decide) ?_
        obtain ⟨v235, hG, hF⟩ := bn1_of hF
        refine l_call [.int (p2 >>> ((8 : Int32) &&& 31)), .int (7 : Int32)] (pc := 53) (st1 := [.int v235]) (c1 := 0) (s1 := 0) C hQ.1 (mL_low C.hT hG) cwL_low kl_86 rfl rfl rfl rfl (Nat.le_of_ble_eq_true rfl) ⟨(Nat.le_of_ble_eq_true rfl), (Nat.le_of_ble_eq_true rfl)⟩ ⟨(Nat.le_of_ble_eq_true rfl), (Nat.le_of_ble_eq_true rfl)⟩ dL_act_53 rfl rfl ?_
        refine v_iconst (pc := 56) (v := (1 : Int32)) C dL_act_56 (by decide) ?_
        refine v_isub (pc := 57) C dL_act_57 ?_
        refine v_goto 69 (pc := 58) C dL_act_58 (by decide) ?_
        refine z_sub [1, 2, 3, 0] rfl ?_
        exact hJ232 _ hF
    have hF := hR
    clear hR
    refine v_if_eq 35 (pc := 19) C dL_act_19 (by decide) (fun c237 => ?_) (fun c237 => ?_)
    · have hF := if_t hF c237
      refine v_iload_n 2 (pc := 35) C dL_act_35 rfl rfl ?_
      refine v_iconst (pc := 36) (v := (5 : Int32)) C dL_act_36 (by decide) ?_
      refine v_ishr (pc := 37) C dL_act_37 ?_
      refine v_iconst (pc := 38) (v := (3 : Int32)) C dL_act_38 (by decide) ?_
      obtain ⟨v238, hG, hF⟩ := bn1_of hF
      refine l_call [.int (p2 >>> ((5 : Int32) &&& 31)), .int (3 : Int32)] (pc := 39) (st1 := [.int v238]) (c1 := 0) (s1 := 0) C hQ.1 (mL_low C.hT hG) cwL_low kl_86 rfl rfl rfl rfl (Nat.le_of_ble_eq_true rfl) ⟨(Nat.le_of_ble_eq_true rfl), (Nat.le_of_ble_eq_true rfl)⟩ ⟨(Nat.le_of_ble_eq_true rfl), (Nat.le_of_ble_eq_true rfl)⟩ dL_act_39 rfl rfl ?_
      refine z_sub [1, 2, 0] rfl ?_
      exact hJ236 _ hF
    · have hF := if_f hF c237
      refine v_iload_n 2 (pc := 22) C dL_act_22 rfl rfl ?_
      refine v_iconst (pc := 23) (v := (5 : Int32)) C dL_act_23 (by decide) ?_
      refine v_ishr (pc := 24) C dL_act_24 ?_
      refine v_bipush (pc := 25) (v := (11 : Int32)) C dL_act_25 (by decide) ?_
      obtain ⟨v239, hG, hF⟩ := bn1_of hF
      refine l_call [.int (p2 >>> ((5 : Int32) &&& 31)), .int (11 : Int32)] (pc := 27) (st1 := [.int v239]) (c1 := 0) (s1 := 0) C hQ.1 (mL_low C.hT hG) cwL_low kl_86 rfl rfl rfl rfl (Nat.le_of_ble_eq_true rfl) ⟨(Nat.le_of_ble_eq_true rfl), (Nat.le_of_ble_eq_true rfl)⟩ ⟨(Nat.le_of_ble_eq_true rfl), (Nat.le_of_ble_eq_true rfl)⟩ dL_act_27 rfl rfl ?_
      refine v_iconst (pc := 30) (v := (1 : Int32)) C dL_act_30 (by decide) ?_
      refine v_isub (pc := 31) C dL_act_31 ?_
      refine v_goto 42 (pc := 32) C dL_act_32 (by decide) ?_
      refine z_sub [1, 2, 0] rfl ?_
      exact hJ236 _ hF
  have hF := hR
  clear hR
  refine v_if_ne 16 (pc := 9) C dL_act_9 (by decide) (fun c241 => ?_) (fun c241 => ?_)
  · have hF := if_f hF c241
    refine v_iconst (pc := 16) (v := (0 : Int32)) C dL_act_16 (by decide) ?_
    exact hJ240 _ hF
  · have hF := if_t hF c241
    refine v_iconst (pc := 12) (v := (1 : Int32)) C dL_act_12 (by decide) ?_
    refine v_goto 17 (pc := 13) C dL_act_13 (by decide) ?_
    exact hJ240 _ hF
