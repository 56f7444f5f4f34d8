/-! ===== areAlike; the script's reader ===== -/
abbrev rmL_areAlike : Room := { frames := 13, cells := 100, slots := 600, locals := 400 }
theorem low_ex (x n : Int32) (h : nz n = true) : ∃ y, fL_low x n = some y := ⟨_, gd_t h⟩
set_option maxRecDepth 100000 in
set_option maxHeartbeats 2000000 in
theorem mL_areAlike {l : Launch} {D : va_G} {cs : Nat → ClassId} {a b : Nat → Nat} (hT : l.stackTraces = false) (h : A2) {S0 T0 : St} (hST0 : Tw S0 T0) {v : Int32} : MW l D cs a b yL_areAlike (.code yL_areAlike cL_areAlike 5 (some .boolean)) rmL_areAlike [.ref (a 0), .ref (b 0), .int v] S0 T0 (.int 1) Tw := by
  obtain ⟨h1, h2, h3, h4, h5, h6, h7⟩ := h
  refine w_entry [(0, .ref (a 0)), (1, .ref (b 0)), (2, .int v)] hT (by decide +kernel) (Nat.le_of_ble_eq_true rfl) rfl (fun E hEl hED hEk C hQ => ?_)
  subst hEl
  subst hED
  subst hEk
  have hN := hQ.1
  have hD := hQ.2.2.1
  have loop : ∀ m k S T c s, k + m = 3 → Tw S T → c + 24 * m + 4 ≤ 100 → s + 144 * m + 24 ≤ 600 → Zz E (WW E a b S T) (c) (s) 5 [(4, .int (nI k)), (3, .int (1 : Int32)), (0, .ref (a 0)), (1, .ref (b 0)), (2, .int v)] [] := by
    intro m
    induction m with
    | zero =>
      intro k S T c s hk hST hc hs
      obtain rfl : k = 3 := by omega
      obtain ⟨r, S1, T1, e1, e2, hST1, -⟩ := h7 0 900 400 1 S T hST
      refine v_iload 0 (pc := 5) C dL_areAlike_5 rfl ?_
      refine v_iconst (pc := 7) (v := (3 : Int32)) C dL_areAlike_7 (by decide) ?_
      refine v_icmp_ge 161 (pc := 8) C dL_areAlike_8 (by decide) (fun _ => ?_) (fun c0 => absurd (by decide) c0)
      refine v_iload_n 1 (pc := 161) C dL_areAlike_161 rfl rfl ?_
      refine v_if_eq 197 (pc := 162) C dL_areAlike_162 (by decide) (fun c0 => absurd c0 (by decide)) (fun _ => ?_)
      refine v_aload_n 2 (pc := 165) C dL_areAlike_165 rfl rfl ?_
      refine v_iconst (pc := 166) (v := (0 : Int32)) C dL_areAlike_166 (by decide) ?_
      refine v_sipush (pc := 167) (v := (900 : Int32)) C dL_areAlike_167 (by decide) ?_
      refine v_sipush (pc := 170) (v := (400 : Int32)) C dL_areAlike_170 (by decide) ?_
      refine v_iconst (pc := 173) (v := (1 : Int32)) C dL_areAlike_173 (by decide) ?_
      refine w_call [.ref (a 0), .int (0 : Int32), .int (900 : Int32), .int (400 : Int32), .int (1 : Int32)] (pc := 174) (st1 := [.long r]) (c1 := c + 2) (s1 := s + 12) C hN hD (mL_nest C.hT e1) cwL_nest kl_132 rfl rfl rfl rfl (Nat.le_of_ble_eq_true rfl) ⟨(Nat.le_of_ble_eq_true rfl), (Nat.le_of_ble_eq_true rfl)⟩ ⟨(by show c + 2 ≤ 100; omega), (by show s + 12 ≤ 600; omega)⟩ dL_areAlike_174 (by show c + 2 = c + 2; omega) (by show s + 12 = s + 12; omega) ?_
      refine v_aload_n 3 (pc := 177) C dL_areAlike_177 rfl rfl ?_
      refine v_iconst (pc := 178) (v := (0 : Int32)) C dL_areAlike_178 (by decide) ?_
      refine v_sipush (pc := 179) (v := (900 : Int32)) C dL_areAlike_179 (by decide) ?_
      refine v_sipush (pc := 182) (v := (400 : Int32)) C dL_areAlike_182 (by decide) ?_
      refine v_iconst (pc := 185) (v := (1 : Int32)) C dL_areAlike_185 (by decide) ?_
      refine w_call' [.ref (b 0), .int (0 : Int32), .int (900 : Int32), .int (400 : Int32), .int (1 : Int32)] (pc := 186) (st1 := [.long r, .long r]) (c1 := c + 4) (s1 := s + 24) C hN hD (mL_nest C.hT e2) cwL_nest kl_132 rfl rfl rfl rfl (Nat.le_of_ble_eq_true rfl) ⟨(Nat.le_of_ble_eq_true rfl), (Nat.le_of_ble_eq_true rfl)⟩ ⟨(by show c + 2 + 2 ≤ 100; omega), (by show s + 12 + 12 ≤ 600; omega)⟩ dL_areAlike_186 (by show c + 2 + 2 = c + 4; omega) (by show s + 12 + 12 = s + 24; omega) ?_
      refine v_lcmp (pc := 189) C dL_areAlike_189 ?_
      refine v_if_ne 197 (pc := 190) C dL_areAlike_190 (by decide) (fun c0 => absurd c0 (fun z => z ((lg_cmp_eq r r).mpr rfl))) (fun _ => ?_)
      refine v_iconst (pc := 193) (v := (1 : Int32)) C dL_areAlike_193 (by decide) ?_
      refine v_goto 198 (pc := 194) C dL_areAlike_194 (by decide) ?_
      exact w_iret (pc := 198) C hQ rfl dL_areAlike_198 hST1 (by show c + 4 ≤ 100; omega) (by show s + 24 ≤ 600; omega)
    | succ m ih =>
      intro k S T c s hk hST hc hs
      refine v_iload 0 (pc := 5) C dL_areAlike_5 rfl ?_
      refine v_iconst (pc := 7) (v := (3 : Int32)) C dL_areAlike_7 (by decide) ?_
      refine v_icmp_ge 161 (pc := 8) C dL_areAlike_8 (by decide) (fun c0 => absurd c0 (nI_ge (b := 3) (by omega) (by decide))) (fun _ => ?_)
      refine v_iload_n 1 (pc := 11) C dL_areAlike_11 rfl rfl ?_
      refine v_if_eq 161 (pc := 12) C dL_areAlike_12 (by decide) (fun c0 => absurd c0 (by decide)) (fun _ => ?_)
      obtain ⟨y1, hy1⟩ := low_ex v (6 : Int32) rfl
      obtain ⟨r1, S1, T1, e1, g1, hST1, -⟩ := h1 (nI k) y1 S T hST
      refine v_aload_n 2 (pc := 15) C dL_areAlike_15 rfl rfl ?_
      refine v_iload 0 (pc := 16) C dL_areAlike_16 rfl ?_
      refine v_iload_n 4 (pc := 18) C dL_areAlike_18 rfl rfl ?_
      refine v_bipush (pc := 19) (v := (6 : Int32)) C dL_areAlike_19 (by decide) ?_
      refine w_call [.int v, .int (6 : Int32)] (pc := 21) (st1 := [.int y1, .int (nI k), .ref (a 0)]) (c1 := c) (s1 := s) C hN hD (mL_low C.hT hy1) cwL_low kl_86 rfl rfl rfl rfl (Nat.le_of_ble_eq_true rfl) ⟨(Nat.le_of_ble_eq_true rfl), (Nat.le_of_ble_eq_true rfl)⟩ ⟨(by show c + 0 ≤ 100; omega), (by show s + 0 ≤ 600; omega)⟩ dL_areAlike_21 (by show c + 0 = c; omega) (by show s + 0 = s; omega) ?_
      refine w_call [.ref (a 0), .int (nI k), .int y1] (pc := 24) (st1 := [.long r1]) (c1 := c + 2) (s1 := s + 12) C hN hD (mL_told C.hT e1) cwL_told kl_98 rfl rfl rfl rfl (Nat.le_of_ble_eq_true rfl) ⟨(Nat.le_of_ble_eq_true rfl), (Nat.le_of_ble_eq_true rfl)⟩ ⟨(by show c + 2 ≤ 100; omega), (by show s + 12 ≤ 600; omega)⟩ dL_areAlike_24 (by show c + 2 = c + 2; omega) (by show s + 12 = s + 12; omega) ?_
      refine v_aload_n 3 (pc := 27) C dL_areAlike_27 rfl rfl ?_
      refine v_iload 0 (pc := 28) C dL_areAlike_28 rfl ?_
      refine v_iload_n 4 (pc := 30) C dL_areAlike_30 rfl rfl ?_
      refine v_bipush (pc := 31) (v := (6 : Int32)) C dL_areAlike_31 (by decide) ?_
      refine w_call' [.int v, .int (6 : Int32)] (pc := 33) (st1 := [.int y1, .int (nI k), .ref (b 0), .long r1]) (c1 := c + 2) (s1 := s + 12) C hN hD (mL_low C.hT hy1) cwL_low kl_86 rfl rfl rfl rfl (Nat.le_of_ble_eq_true rfl) ⟨(Nat.le_of_ble_eq_true rfl), (Nat.le_of_ble_eq_true rfl)⟩ ⟨(by show c + 2 + 0 ≤ 100; omega), (by show s + 12 + 0 ≤ 600; omega)⟩ dL_areAlike_33 (by show c + 2 + 0 = c + 2; omega) (by show s + 12 + 0 = s + 12; omega) ?_
      refine w_call' [.ref (b 0), .int (nI k), .int y1] (pc := 36) (st1 := [.long r1, .long r1]) (c1 := c + 4) (s1 := s + 24) C hN hD (mL_told C.hT g1) cwL_told kl_98 rfl rfl rfl rfl (Nat.le_of_ble_eq_true rfl) ⟨(Nat.le_of_ble_eq_true rfl), (Nat.le_of_ble_eq_true rfl)⟩ ⟨(by show c + 2 + 2 ≤ 100; omega), (by show s + 12 + 12 ≤ 600; omega)⟩ dL_areAlike_36 (by show c + 2 + 2 = c + 4; omega) (by show s + 12 + 12 = s + 24; omega) ?_
      refine v_lcmp (pc := 39) C dL_areAlike_39 ?_
      refine v_if_ne 153 (pc := 40) C dL_areAlike_40 (by decide) (fun c0 => absurd c0 (fun z => z ((lg_cmp_eq r1 r1).mpr rfl))) (fun _ => ?_)
      obtain ⟨r2, S2, T2, e2, g2, hST2, -⟩ := h2 (nI k) 0 S1 T1 hST1
      refine v_aload_n 2 (pc := 43) C dL_areAlike_43 rfl rfl ?_
      refine v_iload 0 (pc := 44) C dL_areAlike_44 rfl ?_
      refine v_iconst (pc := 46) (v := (0 : Int32)) C dL_areAlike_46 (by decide) ?_
      refine w_call [.ref (a 0), .int (nI k), .int (0 : Int32)] (pc := 47) (st1 := [.long r2]) (c1 := c + 6) (s1 := s + 36) C hN hD (mL_blank C.hT e2) cwL_blank kl_116 rfl rfl rfl rfl (Nat.le_of_ble_eq_true rfl) ⟨(Nat.le_of_ble_eq_true rfl), (Nat.le_of_ble_eq_true rfl)⟩ ⟨(by show c + 4 + 2 ≤ 100; omega), (by show s + 24 + 12 ≤ 600; omega)⟩ dL_areAlike_47 (by show c + 4 + 2 = c + 6; omega) (by show s + 24 + 12 = s + 36; omega) ?_
      refine v_aload_n 3 (pc := 50) C dL_areAlike_50 rfl rfl ?_
      refine v_iload 0 (pc := 51) C dL_areAlike_51 rfl ?_
      refine v_iconst (pc := 53) (v := (0 : Int32)) C dL_areAlike_53 (by decide) ?_
      refine w_call' [.ref (b 0), .int (nI k), .int (0 : Int32)] (pc := 54) (st1 := [.long r2, .long r2]) (c1 := c + 8) (s1 := s + 48) C hN hD (mL_blank C.hT g2) cwL_blank kl_116 rfl rfl rfl rfl (Nat.le_of_ble_eq_true rfl) ⟨(Nat.le_of_ble_eq_true rfl), (Nat.le_of_ble_eq_true rfl)⟩ ⟨(by show c + 6 + 2 ≤ 100; omega), (by show s + 36 + 12 ≤ 600; omega)⟩ dL_areAlike_54 (by show c + 6 + 2 = c + 8; omega) (by show s + 36 + 12 = s + 48; omega) ?_
      refine v_lcmp (pc := 57) C dL_areAlike_57 ?_
      refine v_if_ne 153 (pc := 58) C dL_areAlike_58 (by decide) (fun c0 => absurd c0 (fun z => z ((lg_cmp_eq r2 r2).mpr rfl))) (fun _ => ?_)
      obtain ⟨y3, hy3⟩ := low_ex (v >>> ((2 : Int32) &&& 31)) (4 : Int32) rfl
      obtain ⟨r3, S3, T3, e3, g3, hST3, -⟩ := h3 (nI k) y3 S2 T2 hST2
      refine v_aload_n 2 (pc := 61) C dL_areAlike_61 rfl rfl ?_
      refine v_iload 0 (pc := 62) C dL_areAlike_62 rfl ?_
      refine v_iload_n 4 (pc := 64) C dL_areAlike_64 rfl rfl ?_
      refine v_iconst (pc := 65) (v := (2 : Int32)) C dL_areAlike_65 (by decide) ?_
      refine v_ishr (pc := 66) C dL_areAlike_66 ?_
      refine v_iconst (pc := 67) (v := (4 : Int32)) C dL_areAlike_67 (by decide) ?_
      refine w_call [.int (v >>> ((2 : Int32) &&& 31)), .int (4 : Int32)] (pc := 68) (st1 := [.int y3, .int (nI k), .ref (a 0)]) (c1 := c + 8) (s1 := s + 48) C hN hD (mL_low C.hT hy3) cwL_low kl_86 rfl rfl rfl rfl (Nat.le_of_ble_eq_true rfl) ⟨(Nat.le_of_ble_eq_true rfl), (Nat.le_of_ble_eq_true rfl)⟩ ⟨(by show c + 8 + 0 ≤ 100; omega), (by show s + 48 + 0 ≤ 600; omega)⟩ dL_areAlike_68 (by show c + 8 + 0 = c + 8; omega) (by show s + 48 + 0 = s + 48; omega) ?_
      refine w_call [.ref (a 0), .int (nI k), .int y3] (pc := 71) (st1 := [.long r3]) (c1 := c + 10) (s1 := s + 60) C hN hD (mL_batchOf C.hT e3) cwL_batchOf kl_139 rfl rfl rfl rfl (Nat.le_of_ble_eq_true rfl) ⟨(Nat.le_of_ble_eq_true rfl), (Nat.le_of_ble_eq_true rfl)⟩ ⟨(by show c + 8 + 2 ≤ 100; omega), (by show s + 48 + 12 ≤ 600; omega)⟩ dL_areAlike_71 (by show c + 8 + 2 = c + 10; omega) (by show s + 48 + 12 = s + 60; omega) ?_
      refine v_aload_n 3 (pc := 74) C dL_areAlike_74 rfl rfl ?_
      refine v_iload 0 (pc := 75) C dL_areAlike_75 rfl ?_
      refine v_iload_n 4 (pc := 77) C dL_areAlike_77 rfl rfl ?_
      refine v_iconst (pc := 78) (v := (2 : Int32)) C dL_areAlike_78 (by decide) ?_
      refine v_ishr (pc := 79) C dL_areAlike_79 ?_
      refine v_iconst (pc := 80) (v := (4 : Int32)) C dL_areAlike_80 (by decide) ?_
      refine w_call' [.int (v >>> ((2 : Int32) &&& 31)), .int (4 : Int32)] (pc := 81) (st1 := [.int y3, .int (nI k), .ref (b 0), .long r3]) (c1 := c + 10) (s1 := s + 60) C hN hD (mL_low C.hT hy3) cwL_low kl_86 rfl rfl rfl rfl (Nat.le_of_ble_eq_true rfl) ⟨(Nat.le_of_ble_eq_true rfl), (Nat.le_of_ble_eq_true rfl)⟩ ⟨(by show c + 10 + 0 ≤ 100; omega), (by show s + 60 + 0 ≤ 600; omega)⟩ dL_areAlike_81 (by show c + 10 + 0 = c + 10; omega) (by show s + 60 + 0 = s + 60; omega) ?_
      refine w_call' [.ref (b 0), .int (nI k), .int y3] (pc := 84) (st1 := [.long r3, .long r3]) (c1 := c + 12) (s1 := s + 72) C hN hD (mL_batchOf C.hT g3) cwL_batchOf kl_139 rfl rfl rfl rfl (Nat.le_of_ble_eq_true rfl) ⟨(Nat.le_of_ble_eq_true rfl), (Nat.le_of_ble_eq_true rfl)⟩ ⟨(by show c + 10 + 2 ≤ 100; omega), (by show s + 60 + 12 ≤ 600; omega)⟩ dL_areAlike_84 (by show c + 10 + 2 = c + 12; omega) (by show s + 60 + 12 = s + 72; omega) ?_
      refine v_lcmp (pc := 87) C dL_areAlike_87 ?_
      refine v_if_ne 153 (pc := 88) C dL_areAlike_88 (by decide) (fun c0 => absurd c0 (fun z => z ((lg_cmp_eq r3 r3).mpr rfl))) (fun _ => ?_)
      obtain ⟨r4, S4, T4, e4, g4, hST4, -⟩ := h4 ((1 : Int32) <<< (nI k &&& 31)) S3 T3 hST3
      refine v_aload_n 2 (pc := 91) C dL_areAlike_91 rfl rfl ?_
      refine v_iconst (pc := 92) (v := (1 : Int32)) C dL_areAlike_92 (by decide) ?_
      refine v_iload 0 (pc := 93) C dL_areAlike_93 rfl ?_
      refine v_ishl (pc := 95) C dL_areAlike_95 ?_
      refine w_call [.ref (a 0), .int ((1 : Int32) <<< ((nI k) &&& 31))] (pc := 96) (st1 := [.long r4]) (c1 := c + 13) (s1 := s + 78) C hN hD (mL_kits C.hT e4) cwL_kits kl_141 rfl rfl rfl rfl (Nat.le_of_ble_eq_true rfl) ⟨(Nat.le_of_ble_eq_true rfl), (Nat.le_of_ble_eq_true rfl)⟩ ⟨(by show c + 12 + 1 ≤ 100; omega), (by show s + 72 + 6 ≤ 600; omega)⟩ dL_areAlike_96 (by show c + 12 + 1 = c + 13; omega) (by show s + 72 + 6 = s + 78; omega) ?_
      refine v_aload_n 3 (pc := 99) C dL_areAlike_99 rfl rfl ?_
      refine v_iconst (pc := 100) (v := (1 : Int32)) C dL_areAlike_100 (by decide) ?_
      refine v_iload 0 (pc := 101) C dL_areAlike_101 rfl ?_
      refine v_ishl (pc := 103) C dL_areAlike_103 ?_
      refine w_call' [.ref (b 0), .int ((1 : Int32) <<< ((nI k) &&& 31))] (pc := 104) (st1 := [.long r4, .long r4]) (c1 := c + 14) (s1 := s + 84) C hN hD (mL_kits C.hT g4) cwL_kits kl_141 rfl rfl rfl rfl (Nat.le_of_ble_eq_true rfl) ⟨(Nat.le_of_ble_eq_true rfl), (Nat.le_of_ble_eq_true rfl)⟩ ⟨(by show c + 13 + 1 ≤ 100; omega), (by show s + 78 + 6 ≤ 600; omega)⟩ dL_areAlike_104 (by show c + 13 + 1 = c + 14; omega) (by show s + 78 + 6 = s + 84; omega) ?_
      refine v_lcmp (pc := 107) C dL_areAlike_107 ?_
      refine v_if_ne 153 (pc := 108) C dL_areAlike_108 (by decide) (fun c0 => absurd c0 (fun z => z ((lg_cmp_eq r4 r4).mpr rfl))) (fun _ => ?_)
      obtain ⟨r5, S5, T5, e5, g5, hST5, -⟩ := h5 (nI k) 0 S4 T4 hST4
      refine v_aload_n 2 (pc := 111) C dL_areAlike_111 rfl rfl ?_
      refine v_iload 0 (pc := 112) C dL_areAlike_112 rfl ?_
      refine v_iconst (pc := 114) (v := (0 : Int32)) C dL_areAlike_114 (by decide) ?_
      refine w_call [.ref (a 0), .int (nI k), .int (0 : Int32)] (pc := 115) (st1 := [.long r5]) (c1 := c + 16) (s1 := s + 96) C hN hD (mL_near C.hT e5) cwL_near kl_108 rfl rfl rfl rfl (Nat.le_of_ble_eq_true rfl) ⟨(Nat.le_of_ble_eq_true rfl), (Nat.le_of_ble_eq_true rfl)⟩ ⟨(by show c + 14 + 2 ≤ 100; omega), (by show s + 84 + 12 ≤ 600; omega)⟩ dL_areAlike_115 (by show c + 14 + 2 = c + 16; omega) (by show s + 84 + 12 = s + 96; omega) ?_
      refine v_aload_n 3 (pc := 118) C dL_areAlike_118 rfl rfl ?_
      refine v_iload 0 (pc := 119) C dL_areAlike_119 rfl ?_
      refine v_iconst (pc := 121) (v := (0 : Int32)) C dL_areAlike_121 (by decide) ?_
      refine w_call' [.ref (b 0), .int (nI k), .int (0 : Int32)] (pc := 122) (st1 := [.long r5, .long r5]) (c1 := c + 18) (s1 := s + 108) C hN hD (mL_near C.hT g5) cwL_near kl_108 rfl rfl rfl rfl (Nat.le_of_ble_eq_true rfl) ⟨(Nat.le_of_ble_eq_true rfl), (Nat.le_of_ble_eq_true rfl)⟩ ⟨(by show c + 16 + 2 ≤ 100; omega), (by show s + 96 + 12 ≤ 600; omega)⟩ dL_areAlike_122 (by show c + 16 + 2 = c + 18; omega) (by show s + 96 + 12 = s + 108; omega) ?_
      refine v_lcmp (pc := 125) C dL_areAlike_125 ?_
      refine v_if_ne 153 (pc := 126) C dL_areAlike_126 (by decide) (fun c0 => absurd c0 (fun z => z ((lg_cmp_eq r5 r5).mpr rfl))) (fun _ => ?_)
      obtain ⟨r6, S6, T6, e6, g6, hST6, -⟩ := h6 (nI k) 0 0 S5 T5 hST5
      refine v_aload_n 2 (pc := 129) C dL_areAlike_129 rfl rfl ?_
      refine v_iload 0 (pc := 130) C dL_areAlike_130 rfl ?_
      refine v_iconst (pc := 132) (v := (0 : Int32)) C dL_areAlike_132 (by decide) ?_
      refine v_iconst (pc := 133) (v := (0 : Int32)) C dL_areAlike_133 (by decide) ?_
      refine w_call [.ref (a 0), .int (nI k), .int (0 : Int32), .int (0 : Int32)] (pc := 134) (st1 := [.long r6]) (c1 := c + 21) (s1 := s + 126) C hN hD (mL_ordered C.hT e6) cwL_ordered kl_125 rfl rfl rfl rfl (Nat.le_of_ble_eq_true rfl) ⟨(Nat.le_of_ble_eq_true rfl), (Nat.le_of_ble_eq_true rfl)⟩ ⟨(by show c + 18 + 3 ≤ 100; omega), (by show s + 108 + 18 ≤ 600; omega)⟩ dL_areAlike_134 (by show c + 18 + 3 = c + 21; omega) (by show s + 108 + 18 = s + 126; omega) ?_
      refine v_aload_n 3 (pc := 137) C dL_areAlike_137 rfl rfl ?_
      refine v_iload 0 (pc := 138) C dL_areAlike_138 rfl ?_
      refine v_iconst (pc := 140) (v := (0 : Int32)) C dL_areAlike_140 (by decide) ?_
      refine v_iconst (pc := 141) (v := (0 : Int32)) C dL_areAlike_141 (by decide) ?_
      refine w_call' [.ref (b 0), .int (nI k), .int (0 : Int32), .int (0 : Int32)] (pc := 142) (st1 := [.long r6, .long r6]) (c1 := c + 24) (s1 := s + 144) C hN hD (mL_ordered C.hT g6) cwL_ordered kl_125 rfl rfl rfl rfl (Nat.le_of_ble_eq_true rfl) ⟨(Nat.le_of_ble_eq_true rfl), (Nat.le_of_ble_eq_true rfl)⟩ ⟨(by show c + 21 + 3 ≤ 100; omega), (by show s + 126 + 18 ≤ 600; omega)⟩ dL_areAlike_142 (by show c + 21 + 3 = c + 24; omega) (by show s + 126 + 18 = s + 144; omega) ?_
      refine v_lcmp (pc := 145) C dL_areAlike_145 ?_
      refine v_if_ne 153 (pc := 146) C dL_areAlike_146 (by decide) (fun c0 => absurd c0 (fun z => z ((lg_cmp_eq r6 r6).mpr rfl))) (fun _ => ?_)
      refine v_iconst (pc := 149) (v := (1 : Int32)) C dL_areAlike_149 (by decide) ?_
      refine v_goto 154 (pc := 150) C dL_areAlike_150 (by decide) ?_
      refine v_istore_n (pc := 154) (loc' := [(3, .int (1 : Int32)), (4, .int (nI k)), (0, .ref (a 0)), (1, .ref (b 0)), (2, .int v)]) C dL_areAlike_154 rfl (by decide) rfl ?_
      refine v_iinc 1 (pc := 155) (v := nI (k + 1)) (loc' := [(4, .int (nI (k + 1))), (3, .int (1 : Int32)), (0, .ref (a 0)), (1, .ref (b 0)), (2, .int v)]) C dL_areAlike_155 rfl (nI_1 k) (by decide) rfl ?_
      refine v_goto 5 (pc := 158) C dL_areAlike_158 (by decide) ?_
      refine z_sub [0, 1, 2, 3, 4] rfl ?_
      exact ih (k + 1) S6 T6 (c + 24) (s + 144) (by omega) hST6 (by omega) (by omega)
  refine v_iconst (pc := 0) (v := (1 : Int32)) C dL_areAlike_0 (by decide) ?_
  refine v_istore_n (pc := 1) (loc' := [(3, .int (1 : Int32)), (0, .ref (a 0)), (1, .ref (b 0)), (2, .int v)]) C dL_areAlike_1 rfl (by decide) rfl ?_
  refine v_iconst (pc := 2) (v := (0 : Int32)) C dL_areAlike_2 (by decide) ?_
  refine v_istore (pc := 3) (loc' := [(4, .int (0 : Int32)), (3, .int (1 : Int32)), (0, .ref (a 0)), (1, .ref (b 0)), (2, .int v)]) C dL_areAlike_3 (by decide) rfl ?_
  exact loop 3 0 S0 T0 0 0 (by omega) hST0 (by omega) (by omega)
set_option maxRecDepth 100000 in
theorem mL_cell {l : Launch} {D : va_G} {cs : Nat → ClassId} (hT : l.stackTraces = false) {sb L : Nat} {xs : Nat → Int32} (hL : L ≤ 260) {e : Nat} (he : e < 110) (sz : Nat) : vx_Met l yL_cell (.code yL_cell cL_cell 2 (some .int) :: BG) rmL_cell (va_Pc [.ref sb, .int (nI e)] (PreC D cs sb L xs sz)) (QC (fun q => sz ≤ q)) (fun _ _ _ => False) rmL_cell.cells rmL_cell.slots (fun q => sz ≤ q) := by
  refine vx_ofW (cc := cL_cell) (maxL := 2) (ret := some .int) (by decide +kernel) rfl ?_
  intro p e' s m args below meth c s₁ B hml htab hv
  obtain ⟨rfl, hsz, hX, hb, hK⟩ := hv
  have hts : ∀ w ∈ (Cond.code yL_cell cL_cell 2 (some .int) :: BG), w.before (([.ref sb, .int (nI e)] : List Value).toArray) s = true := atoms_spec (ws := Cond.code yL_cell cL_cell 2 (some .int) :: BG) B.pre
  subst hsz
  have hl := lv_entry ([.ref sb, .int (nI e)] : List Value) (n := 2) (Nat.le_of_ble_eq_true rfl)
  rw [lg_entry_eq]
  generalize hls : (lg_sl ([.ref sb, .int (nI e)] : List Value) ++ List.replicate (2 - (lg_sl ([.ref sb, .int (nI e)] : List Value)).length) Slot.unset).toArray = ls at hl ⊢
  have hl : lv_has ls 2 [(0, .ref sb), (1, .int (nI e))] := hl
  have key : ∀ E : ET, CV E cL_cell RL 2 rmL_cell → SX E sb L xs → (e_h E).sig.returnType = some .int → e_Q E = vx_MQ (e_b E) (QC (e_A E)) (fun _ _ _ => False) (e_a E) (e_s E) (e_R E).cells (e_R E).slots (e_A E) → Zz E (WS E) 0 0 0 [(0, .ref sb), (1, .int (nI e))] [] := by
    intro E C X hr hQ
    refine v_iload_n 1 (pc := 0) C dL_cell_0 rfl rfl ?_
    refine v_aload_n 0 (pc := 1) C dL_cell_1 rfl rfl ?_
    refine v_slen (pc := 2) C X dL_cell_2 ?_
    refine v_icmp_ge 12 (pc := 3) C dL_cell_3 (by decide) (fun c1 => ?_) (fun c1 => ?_)
    · refine v_sipush (pc := 12) (v := (7919 : Int32)) C dL_cell_12 (by decide) ?_
      refine v_iload_n 1 (pc := 15) C dL_cell_15 rfl rfl ?_
      refine v_sipush (pc := 16) (v := (2543 : Int32)) C dL_cell_16 (by decide) ?_
      refine v_iadd (pc := 19) C dL_cell_19 ?_
      refine v_imul (pc := 20) C dL_cell_20 ?_
      refine v_iload_n 1 (pc := 21) C dL_cell_21 rfl rfl ?_
      refine v_sipush (pc := 22) (v := (313 : Int32)) C dL_cell_22 (by decide) ?_
      refine v_iadd (pc := 25) C dL_cell_25 ?_
      refine v_imul (pc := 26) C dL_cell_26 ?_
      exact c_iret (pc := 27) C hr hQ dL_cell_27 (Nat.le_of_ble_eq_true rfl) (Nat.le_of_ble_eq_true rfl)
    · refine v_aload_n 0 (pc := 6) C dL_cell_6 rfl rfl ?_
      refine v_iload_n 1 (pc := 7) C dL_cell_7 rfl rfl ?_
      refine v_sld (pc := 8) C X (n := e) (by rcases Nat.lt_or_ge e L with q | q; exact q; exact absurd (nI_le q (by omega)) c1) rfl dL_cell_8 ?_
      refine v_goto 27 (pc := 9) C dL_cell_9 (by decide) ?_
      exact c_iret (pc := 27) C hr hQ dL_cell_27 (Nat.le_of_ble_eq_true rfl) (Nat.le_of_ble_eq_true rfl)
  exact key ((p, l, e', rmL_cell), (s, m, ([.ref sb, .int (nI e)] : List Value).toArray, below), (meth, c, 2, vx_MQ below (QC (fun q => s.heap.size ≤ q)) (fun _ _ _ => False) (([.ref sb, .int (nI e)] : List Value).toArray) s rmL_cell.cells rmL_cell.slots (fun q => s.heap.size ≤ q)), (D, cs, fun q => s.heap.size ≤ q))
    ⟨B.exec, B.bytes, hml, rfl, rfl, findClass_of_methodNamed B.named, fun w hw => hts w (List.mem_cons_of_mem _ hw), hK, fun q h => h, hT, B.notSynchronized⟩ ⟨hX, hb, Nat.not_le.mpr hb, hL⟩ B.returns rfl s.heap [] ls va_S.rf hl
