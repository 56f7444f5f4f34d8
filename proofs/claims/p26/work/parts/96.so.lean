/-! ===== isSo ===== -/
abbrev rmL_isSo : Room := { frames := 18, cells := 900, slots := 5400, locals := 600 }
theorem lg_lt {x y : Int64} : lg_cmp x y < 0 ↔ x < y := lg_cmp_lt x y
theorem lg_nlt {x y : Int64} (h : ¬ x < y) : ¬ lg_cmp x y < 0 := fun z => h (lg_lt.mp z)
set_option maxRecDepth 100000 in
set_option maxHeartbeats 2000000 in
theorem mL_isSo {l : Launch} {D : va_G} {cs : Nat → ClassId} {a : Nat → Nat} (hT : l.stackTraces = false) {S0 : St} (h : SoP S0) : MP l D cs a yL_isSo (.code yL_isSo cL_isSo 5 (some .boolean)) rmL_isSo [.ref (a 0)] S0 (.int 1) (fun _ => True) := by
  obtain ⟨h1, h2, ⟨r0, r1, r3, h3, h4⟩, h5⟩ := h
  refine p_entry [(0, .ref (a 0))] hT (by decide +kernel) (Nat.le_of_ble_eq_true rfl) rfl (fun E hEl hED hEk C hQ => ?_)
  subst hEl
  subst hED
  subst hEk
  have hN := hQ.1
  have end231 : ∀ S1 c s, scrX S0 S1 → c + 4 ≤ 900 → s + 24 ≤ 5400 → Zz E (WX E a S1) (c) (s) 231 [(2, .long r0), (1, .int (1 : Int32)), (0, .ref (a 0))] [] := by
    intro S1 c s hS hc hs
    obtain ⟨e1, e2⟩ := h5 S1 hS
    refine v_aload_n 2 (pc := 231) C dL_isSo_231 rfl rfl ?_
    refine v_bipush (pc := 232) (v := (8 : Int32)) C dL_isSo_232 (by decide) ?_
    refine v_iconst (pc := 234) (v := (0 : Int32)) C dL_isSo_234 (by decide) ?_
    refine l_call [.ref (a 0), .int (8 : Int32), .int (0 : Int32)] (pc := 235) (st1 := [.long XX]) (c1 := c + 2) (s1 := s + 12) C hN (mL_told C.hT e1) cwL_told kl_98 rfl rfl rfl rfl (Nat.le_of_ble_eq_true rfl) ⟨(Nat.le_of_ble_eq_true rfl), (Nat.le_of_ble_eq_true rfl)⟩ ⟨(by show c + 2 ≤ 900; omega), (by show s + 12 ≤ 5400; omega)⟩ dL_isSo_235 (by show c + 2 = c + 2; omega) (by show s + 12 = s + 12; omega) ?_
    refine v_ldc2 (pc := 238) (v := XX) C bw_1_3 dL_isSo_238 ?_
    refine v_lcmp (pc := 241) C dL_isSo_241 ?_
    refine v_if_ne 263 (pc := 242) C dL_isSo_242 (by decide) (fun c0 => absurd c0 (fun z => z ((lg_cmp_eq XX XX).mpr rfl))) (fun _ => ?_)
    refine v_aload_n 2 (pc := 245) C dL_isSo_245 rfl rfl ?_
    refine v_bipush (pc := 246) (v := (20 : Int32)) C dL_isSo_246 (by decide) ?_
    refine v_iconst (pc := 248) (v := (0 : Int32)) C dL_isSo_248 (by decide) ?_
    refine l_call [.ref (a 0), .int (20 : Int32), .int (0 : Int32)] (pc := 249) (st1 := [.long XX]) (c1 := c + 4) (s1 := s + 24) C hN (mL_batchOf C.hT e2) cwL_batchOf kl_139 rfl rfl rfl rfl (Nat.le_of_ble_eq_true rfl) ⟨(Nat.le_of_ble_eq_true rfl), (Nat.le_of_ble_eq_true rfl)⟩ ⟨(by show c + 2 + 2 ≤ 900; omega), (by show s + 12 + 12 ≤ 5400; omega)⟩ dL_isSo_249 (by show c + 2 + 2 = c + 4; omega) (by show s + 12 + 12 = s + 24; omega) ?_
    refine v_ldc2 (pc := 252) (v := XX) C bw_1_3 dL_isSo_252 ?_
    refine v_lcmp (pc := 255) C dL_isSo_255 ?_
    refine v_if_ne 263 (pc := 256) C dL_isSo_256 (by decide) (fun c0 => absurd c0 (fun z => z ((lg_cmp_eq XX XX).mpr rfl))) (fun _ => ?_)
    refine v_iconst (pc := 259) (v := (1 : Int32)) C dL_isSo_259 (by decide) ?_
    refine v_goto 264 (pc := 260) C dL_isSo_260 (by decide) ?_
    exact p_iret (pc := 264) C hQ rfl dL_isSo_264 trivial (by show c + 4 ≤ 900; omega) (by show s + 24 ≤ 5400; omega)
  have end168 : ∀ S1 c s, scrX S0 S1 → c + 10 ≤ 900 → s + 60 ≤ 5400 → Zz E (WX E a S1) (c) (s) 168 [(2, .int (nI 20)), (1, .int (1 : Int32)), (0, .ref (a 0))] [] := by
    intro S1 c s hS hc hs
    obtain ⟨S2, e1, e2⟩ := h3 S1 hS
    refine v_aload_n 2 (pc := 168) C dL_isSo_168 rfl rfl ?_
    refine v_iconst (pc := 169) (v := (0 : Int32)) C dL_isSo_169 (by decide) ?_
    refine v_sipush (pc := 170) (v := (900 : Int32)) C dL_isSo_170 (by decide) ?_
    refine v_sipush (pc := 173) (v := (400 : Int32)) C dL_isSo_173 (by decide) ?_
    refine v_iconst (pc := 176) (v := (0 : Int32)) C dL_isSo_176 (by decide) ?_
    refine l_call [.ref (a 0), .int (0 : Int32), .int (900 : Int32), .int (400 : Int32), .int (0 : Int32)] (pc := 177) (st1 := [.long r0]) (c1 := c + 2) (s1 := s + 12) C hN (mL_nest C.hT e1) cwL_nest kl_132 rfl rfl rfl rfl (Nat.le_of_ble_eq_true rfl) ⟨(Nat.le_of_ble_eq_true rfl), (Nat.le_of_ble_eq_true rfl)⟩ ⟨(by show c + 2 ≤ 900; omega), (by show s + 12 ≤ 5400; omega)⟩ dL_isSo_177 (by show c + 2 = c + 2; omega) (by show s + 12 = s + 12; omega) ?_
    refine v_lstore_n (pc := 180) (loc' := [(2, .long r0), (1, .int (1 : Int32)), (0, .ref (a 0))]) C dL_isSo_180 rfl (by decide) rfl ?_
    refine v_iload_n 1 (pc := 181) C dL_isSo_181 rfl rfl ?_
    refine v_if_eq 263 (pc := 182) C dL_isSo_182 (by decide) (fun c0 => absurd c0 (by decide)) (fun _ => ?_)
    refine v_lload_n 0 (pc := 185) C dL_isSo_185 rfl rfl ?_
    refine v_lconst (pc := 186) (v := (0 : Int64)) C dL_isSo_186 (by decide) ?_
    refine v_lcmp (pc := 187) C dL_isSo_187 ?_
    refine v_if_lt 231 (pc := 188) C dL_isSo_188 (by decide) (fun c1 => ?_) (fun c1 => ?_)
    · exact end231 S2 (c + 2) (s + 12) e2 (by omega) (by omega)
    · obtain ⟨k1, k2, k3, k4⟩ := h4 (fun z => c1 (lg_lt.mpr z))
      obtain ⟨S3, e3, e4⟩ := k1 S2 e2
      refine v_aload_n 2 (pc := 191) C dL_isSo_191 rfl rfl ?_
      refine v_iconst (pc := 192) (v := (0 : Int32)) C dL_isSo_192 (by decide) ?_
      refine v_sipush (pc := 193) (v := (900 : Int32)) C dL_isSo_193 (by decide) ?_
      refine v_sipush (pc := 196) (v := (400 : Int32)) C dL_isSo_196 (by decide) ?_
      refine v_iconst (pc := 199) (v := (1 : Int32)) C dL_isSo_199 (by decide) ?_
      refine l_call [.ref (a 0), .int (0 : Int32), .int (900 : Int32), .int (400 : Int32), .int (1 : Int32)] (pc := 200) (st1 := [.long r1]) (c1 := c + 4) (s1 := s + 24) C hN (mL_nest C.hT e3) cwL_nest kl_132 rfl rfl rfl rfl (Nat.le_of_ble_eq_true rfl) ⟨(Nat.le_of_ble_eq_true rfl), (Nat.le_of_ble_eq_true rfl)⟩ ⟨(by show c + 2 + 2 ≤ 900; omega), (by show s + 12 + 12 ≤ 5400; omega)⟩ dL_isSo_200 (by show c + 2 + 2 = c + 4; omega) (by show s + 12 + 12 = s + 24; omega) ?_
      refine v_lload_n 0 (pc := 203) C dL_isSo_203 rfl rfl ?_
      refine v_lcmp (pc := 204) C dL_isSo_204 ?_
      refine v_if_lt 263 (pc := 205) C dL_isSo_205 (by decide) (fun c0 => absurd c0 (lg_nlt k3)) (fun _ => ?_)
      obtain ⟨S4, e5, e6⟩ := k2 S3 e4
      refine v_aload_n 2 (pc := 208) C dL_isSo_208 rfl rfl ?_
      refine v_iconst (pc := 209) (v := (0 : Int32)) C dL_isSo_209 (by decide) ?_
      refine v_sipush (pc := 210) (v := (900 : Int32)) C dL_isSo_210 (by decide) ?_
      refine v_sipush (pc := 213) (v := (400 : Int32)) C dL_isSo_213 (by decide) ?_
      refine v_iconst (pc := 216) (v := (3 : Int32)) C dL_isSo_216 (by decide) ?_
      refine l_call [.ref (a 0), .int (0 : Int32), .int (900 : Int32), .int (400 : Int32), .int (3 : Int32)] (pc := 217) (st1 := [.long r3]) (c1 := c + 6) (s1 := s + 36) C hN (mL_nest C.hT e5) cwL_nest kl_132 rfl rfl rfl rfl (Nat.le_of_ble_eq_true rfl) ⟨(Nat.le_of_ble_eq_true rfl), (Nat.le_of_ble_eq_true rfl)⟩ ⟨(by show c + 4 + 2 ≤ 900; omega), (by show s + 24 + 12 ≤ 5400; omega)⟩ dL_isSo_217 (by show c + 4 + 2 = c + 6; omega) (by show s + 24 + 12 = s + 36; omega) ?_
      refine v_ldc2 (pc := 220) (v := (360000 : Int64)) C bw_22_21 dL_isSo_220 ?_
      refine v_lload_n 0 (pc := 223) C dL_isSo_223 rfl rfl ?_
      refine v_lmul (pc := 224) C dL_isSo_224 ?_
      refine v_lconst (pc := 225) (v := (1 : Int64)) C dL_isSo_225 (by decide) ?_
      refine v_ladd (pc := 226) C dL_isSo_226 ?_
      refine v_lcmp (pc := 227) C dL_isSo_227 ?_
      refine v_if_ge 263 (pc := 228) C dL_isSo_228 (by decide) (fun c0 => absurd c0 (i_nle.mpr (lg_lt.mpr k4))) (fun _ => ?_)
      exact end231 S4 (c + 6) (s + 36) e6 (by omega) (by omega)
  have loop2 : ∀ m b S1 c s, b + m = 20 → scrX S0 S1 → c + 6 * m + 20 ≤ 900 → s + 36 * m + 120 ≤ 5400 → Zz E (WX E a S1) (c) (s) 105 [(2, .int (nI b)), (1, .int (1 : Int32)), (0, .ref (a 0))] [] := by
    intro m
    induction m with
    | zero =>
      intro b S1 c s hb hS hc hs
      obtain rfl : b = 20 := by omega
      refine v_iload_n 0 (pc := 105) C dL_isSo_105 rfl rfl ?_
      refine v_bipush (pc := 106) (v := (20 : Int32)) C dL_isSo_106 (by decide) ?_
      refine v_icmp_ge 168 (pc := 108) C dL_isSo_108 (by decide) (fun _ => ?_) (fun c0 => absurd (by decide) c0)
      exact end168 S1 c s hS (by omega) (by omega)
    | succ m ih =>
      intro b S1 c s hb hS hc hs
      obtain ⟨r, e1, e2⟩ := h2 b (by omega) S1 hS
      refine v_iload_n 0 (pc := 105) C dL_isSo_105 rfl rfl ?_
      refine v_bipush (pc := 106) (v := (20 : Int32)) C dL_isSo_106 (by decide) ?_
      refine v_icmp_ge 168 (pc := 108) C dL_isSo_108 (by decide) (fun c0 => absurd c0 (nI_ge (b := 20) (by omega) (by decide))) (fun _ => ?_)
      refine v_iload_n 1 (pc := 111) C dL_isSo_111 rfl rfl ?_
      refine v_if_eq 168 (pc := 112) C dL_isSo_112 (by decide) (fun c0 => absurd c0 (by decide)) (fun _ => ?_)
      refine v_aload_n 2 (pc := 115) C dL_isSo_115 rfl rfl ?_
      refine v_iload_n 0 (pc := 116) C dL_isSo_116 rfl rfl ?_
      refine v_iconst (pc := 117) (v := (0 : Int32)) C dL_isSo_117 (by decide) ?_
      refine l_call [.ref (a 0), .int (nI b), .int (0 : Int32)] (pc := 118) (st1 := [.long r]) (c1 := c + 2) (s1 := s + 12) C hN (mL_batchOf C.hT e1) cwL_batchOf kl_139 rfl rfl rfl rfl (Nat.le_of_ble_eq_true rfl) ⟨(Nat.le_of_ble_eq_true rfl), (Nat.le_of_ble_eq_true rfl)⟩ ⟨(by show c + 2 ≤ 900; omega), (by show s + 12 ≤ 5400; omega)⟩ dL_isSo_118 (by show c + 2 = c + 2; omega) (by show s + 12 = s + 12; omega) ?_
      refine v_lstore_n (pc := 121) (loc' := [(3, .long r), (2, .int (nI b)), (1, .int (1 : Int32)), (0, .ref (a 0))]) C dL_isSo_121 rfl (by decide) rfl ?_
      refine v_lload_n 0 (pc := 122) C dL_isSo_122 rfl rfl ?_
      refine v_ldc2 (pc := 123) (v := XX) C bw_1_3 dL_isSo_123 ?_
      refine v_lcmp (pc := 126) C dL_isSo_126 ?_
      refine v_if_eq 156 (pc := 127) C dL_isSo_127 (by decide) (fun c1 => ?_) (fun c1 => ?_)
      · refine v_iconst (pc := 156) (v := (1 : Int32)) C dL_isSo_156 (by decide) ?_
        refine v_goto 161 (pc := 157) C dL_isSo_157 (by decide) ?_
        refine v_istore_n (pc := 161) (loc' := [(1, .int (1 : Int32)), (3, .long r), (2, .int (nI b)), (0, .ref (a 0))]) C dL_isSo_161 rfl (by decide) rfl ?_
        refine v_iinc 2 (pc := 162) (v := nI (b + 1)) (loc' := [(2, .int (nI (b + 1))), (1, .int (1 : Int32)), (3, .long r), (0, .ref (a 0))]) C dL_isSo_162 rfl (nI_1 b) (by decide) rfl ?_
        refine v_goto 105 (pc := 165) C dL_isSo_165 (by decide) ?_
        refine z_sub [0, 1, 3] rfl ?_
        exact ih (b + 1) S1 (c + 2) (s + 12) (by omega) hS (by omega) (by omega)
      · obtain ⟨k1, v1, v3, k2, k3, k4, k5⟩ := e2 (fun z => c1 ((lg_cmp_eq r XX).mpr z))
        refine v_lload_n 0 (pc := 130) C dL_isSo_130 rfl rfl ?_
        refine v_ldc2 (pc := 131) (v := (3 : Int64)) C bw_22_20 dL_isSo_131 ?_
        refine v_lcmp (pc := 134) C dL_isSo_134 ?_
        refine v_if_gt 160 (pc := 135) C dL_isSo_135 (by decide) (fun c0 => absurd c0 (fun z => absurd ((lg_cmp_gt r 3).mp z) (by rw [Int64.lt_iff_toInt_lt]; rw [Int64.le_iff_toInt_le] at k1; omega))) (fun _ => ?_)
        refine v_aload_n 3 (pc := 138) C dL_isSo_138 rfl rfl ?_
        refine v_iload_n 1 (pc := 139) C dL_isSo_139 rfl rfl ?_
        refine v_iconst (pc := 140) (v := (1 : Int32)) C dL_isSo_140 (by decide) ?_
        refine v_callV [.int (nI b), .int (1 : Int32)] (pc := 141) (st1 := [.int v1]) (c1 := c + 4) (s1 := s + 24) C (mX8_batchOf C.hT k2) kL_77 (by decide) (gX_8 (rfl : kdX 0 = 8)) rfl rfl rfl rfl (Nat.le_of_ble_eq_true rfl) ⟨(Nat.le_of_ble_eq_true rfl), (Nat.le_of_ble_eq_true rfl)⟩ ⟨(by show c + 2 + 2 ≤ 900; omega), (by show s + 12 + 12 ≤ 5400; omega)⟩ dL_isSo_141 (by show c + 2 + 2 = c + 4; omega) (by show s + 12 + 12 = s + 24; omega) ?_
        refine v_if_lt 160 (pc := 144) C dL_isSo_144 (by decide) (fun c0 => absurd c0 k4) (fun _ => ?_)
        refine v_aload_n 3 (pc := 147) C dL_isSo_147 rfl rfl ?_
        refine v_iload_n 1 (pc := 148) C dL_isSo_148 rfl rfl ?_
        refine v_iconst (pc := 149) (v := (3 : Int32)) C dL_isSo_149 (by decide) ?_
        refine v_callV [.int (nI b), .int (3 : Int32)] (pc := 150) (st1 := [.int v3]) (c1 := c + 6) (s1 := s + 36) C (mX8_batchOf C.hT k3) kL_77 (by decide) (gX_8 (rfl : kdX 0 = 8)) rfl rfl rfl rfl (Nat.le_of_ble_eq_true rfl) ⟨(Nat.le_of_ble_eq_true rfl), (Nat.le_of_ble_eq_true rfl)⟩ ⟨(by show c + 4 + 2 ≤ 900; omega), (by show s + 24 + 12 ≤ 5400; omega)⟩ dL_isSo_150 (by show c + 4 + 2 = c + 6; omega) (by show s + 24 + 12 = s + 36; omega) ?_
        refine v_if_le 160 (pc := 153) C dL_isSo_153 (by decide) (fun c0 => absurd c0 k5) (fun _ => ?_)
        refine v_iconst (pc := 156) (v := (1 : Int32)) C dL_isSo_156 (by decide) ?_
        refine v_goto 161 (pc := 157) C dL_isSo_157 (by decide) ?_
        refine v_istore_n (pc := 161) (loc' := [(1, .int (1 : Int32)), (3, .long r), (2, .int (nI b)), (0, .ref (a 0))]) C dL_isSo_161 rfl (by decide) rfl ?_
        refine v_iinc 2 (pc := 162) (v := nI (b + 1)) (loc' := [(2, .int (nI (b + 1))), (1, .int (1 : Int32)), (3, .long r), (0, .ref (a 0))]) C dL_isSo_162 rfl (nI_1 b) (by decide) rfl ?_
        refine v_goto 105 (pc := 165) C dL_isSo_165 (by decide) ?_
        refine z_sub [0, 1, 3] rfl ?_
        exact ih (b + 1) S1 (c + 6) (s + 36) (by omega) hS (by omega) (by omega)
  have loop1 : ∀ m p S1 c s, p + m = 8 → scrX S0 S1 → c + 75 * m + 140 ≤ 900 → s + 450 * m + 840 ≤ 5400 → Zz E (WX E a S1) (c) (s) 4 [(2, .int (nI p)), (1, .int (1 : Int32)), (0, .ref (a 0))] [] := by
    intro m
    induction m with
    | zero =>
      intro p S1 c s hp hS hc hs
      obtain rfl : p = 8 := by omega
      refine v_iload_n 0 (pc := 4) C dL_isSo_4 rfl rfl ?_
      refine v_bipush (pc := 5) (v := (8 : Int32)) C dL_isSo_5 (by decide) ?_
      refine v_icmp_ge 103 (pc := 7) C dL_isSo_7 (by decide) (fun _ => ?_) (fun c0 => absurd (by decide) c0)
      refine v_iconst (pc := 103) (v := (0 : Int32)) C dL_isSo_103 (by decide) ?_
      refine v_istore_n (pc := 104) (loc' := [(2, .int (0 : Int32)), (1, .int (1 : Int32)), (0, .ref (a 0))]) C dL_isSo_104 rfl (by decide) rfl ?_
      exact loop2 20 0 S1 c s (by omega) hS (by omega) (by omega)
    | succ m ih =>
      intro p S1 c s hp hS hc hs
      obtain ⟨r, e1, e2⟩ := h1 p (by omega) S1 hS
      refine v_iload_n 0 (pc := 4) C dL_isSo_4 rfl rfl ?_
      refine v_bipush (pc := 5) (v := (8 : Int32)) C dL_isSo_5 (by decide) ?_
      refine v_icmp_ge 103 (pc := 7) C dL_isSo_7 (by decide) (fun c0 => absurd c0 (nI_ge (b := 8) (by omega) (by decide))) (fun _ => ?_)
      refine v_iload_n 1 (pc := 10) C dL_isSo_10 rfl rfl ?_
      refine v_if_eq 103 (pc := 11) C dL_isSo_11 (by decide) (fun c0 => absurd c0 (by decide)) (fun _ => ?_)
      refine v_aload_n 2 (pc := 14) C dL_isSo_14 rfl rfl ?_
      refine v_iload_n 0 (pc := 15) C dL_isSo_15 rfl rfl ?_
      refine v_iconst (pc := 16) (v := (0 : Int32)) C dL_isSo_16 (by decide) ?_
      refine l_call [.ref (a 0), .int (nI p), .int (0 : Int32)] (pc := 17) (st1 := [.long r]) (c1 := c + 2) (s1 := s + 12) C hN (mL_told C.hT e1) cwL_told kl_98 rfl rfl rfl rfl (Nat.le_of_ble_eq_true rfl) ⟨(Nat.le_of_ble_eq_true rfl), (Nat.le_of_ble_eq_true rfl)⟩ ⟨(by show c + 2 ≤ 900; omega), (by show s + 12 ≤ 5400; omega)⟩ dL_isSo_17 (by show c + 2 = c + 2; omega) (by show s + 12 = s + 12; omega) ?_
      refine v_lconst (pc := 20) (v := (0 : Int64)) C dL_isSo_20 (by decide) ?_
      refine v_lcmp (pc := 21) C dL_isSo_21 ?_
      refine v_if_lt 97 (pc := 22) C dL_isSo_22 (by decide) (fun c1 => ?_) (fun c1 => ?_)
      · refine v_iinc 0 (pc := 97) (v := nI (p + 1)) (loc' := [(2, .int (nI (p + 1))), (1, .int (1 : Int32)), (0, .ref (a 0))]) C dL_isSo_97 rfl (nI_1 p) (by decide) rfl ?_
        refine v_goto 4 (pc := 100) C dL_isSo_100 (by decide) ?_
        refine z_sub [0, 1, 2] rfl ?_
        exact ih (p + 1) S1 (c + 2) (s + 12) (by omega) hS (by omega) (by omega)
      · obtain ⟨r2, e3, e4⟩ := e2 (fun z => c1 (lg_lt.mpr z))
        refine v_aload_n 2 (pc := 25) C dL_isSo_25 rfl rfl ?_
        refine v_iload_n 0 (pc := 26) C dL_isSo_26 rfl rfl ?_
        refine v_iconst (pc := 27) (v := (0 : Int32)) C dL_isSo_27 (by decide) ?_
        refine l_call [.ref (a 0), .int (nI p), .int (0 : Int32)] (pc := 28) (st1 := [.long r2]) (c1 := c + 4) (s1 := s + 24) C hN (mL_blank C.hT e3) cwL_blank kl_116 rfl rfl rfl rfl (Nat.le_of_ble_eq_true rfl) ⟨(Nat.le_of_ble_eq_true rfl), (Nat.le_of_ble_eq_true rfl)⟩ ⟨(by show c + 2 + 2 ≤ 900; omega), (by show s + 12 + 12 ≤ 5400; omega)⟩ dL_isSo_28 (by show c + 2 + 2 = c + 4; omega) (by show s + 12 + 12 = s + 24; omega) ?_
        refine v_lconst (pc := 31) (v := (0 : Int64)) C dL_isSo_31 (by decide) ?_
        refine v_lcmp (pc := 32) C dL_isSo_32 ?_
        refine v_if_lt 97 (pc := 33) C dL_isSo_33 (by decide) (fun c2 => ?_) (fun c2 => ?_)
        · refine v_iinc 0 (pc := 97) (v := nI (p + 1)) (loc' := [(2, .int (nI (p + 1))), (1, .int (1 : Int32)), (0, .ref (a 0))]) C dL_isSo_97 rfl (nI_1 p) (by decide) rfl ?_
          refine v_goto 4 (pc := 100) C dL_isSo_100 (by decide) ?_
          refine z_sub [0, 1, 2] rfl ?_
          exact ih (p + 1) S1 (c + 4) (s + 24) (by omega) hS (by omega) (by omega)
        · obtain ⟨⟨n, f, bs, ds, hO, hA⟩, hK⟩ := e4 (fun z => c2 (lg_lt.mpr z))
          have e64 : ∀ S2 d t, scrX S0 S2 → d + 75 * m + 145 ≤ 900 → t + 450 * m + 870 ≤ 5400 → Zz E (WX E a S2) (d) (t) 64 [(2, .int (nI p)), (1, .int (1 : Int32)), (0, .ref (a 0))] [] := by
            intro S2 d t hS2 hd ht
            obtain ⟨v5, v4, r, w1, w2, w3, w4, w5⟩ := hK S2 hS2
            refine v_aload_n 2 (pc := 64) C dL_isSo_64 rfl rfl ?_
            refine v_iload_n 0 (pc := 65) C dL_isSo_65 rfl rfl ?_
            refine v_iconst (pc := 66) (v := (5 : Int32)) C dL_isSo_66 (by decide) ?_
            refine v_callV [.int (nI p), .int (5 : Int32)] (pc := 67) (st1 := [.int v5]) (c1 := d + 2) (s1 := t + 12) C (mX8_told C.hT w1) kL_37 (by decide) (gX_8 (rfl : kdX 0 = 8)) rfl rfl rfl rfl (Nat.le_of_ble_eq_true rfl) ⟨(Nat.le_of_ble_eq_true rfl), (Nat.le_of_ble_eq_true rfl)⟩ ⟨(by show d + 2 ≤ 900; omega), (by show t + 12 ≤ 5400; omega)⟩ dL_isSo_67 (by show d + 2 = d + 2; omega) (by show t + 12 = t + 12; omega) ?_
            refine v_aload_n 2 (pc := 70) C dL_isSo_70 rfl rfl ?_
            refine v_iload_n 0 (pc := 71) C dL_isSo_71 rfl rfl ?_
            refine v_iconst (pc := 72) (v := (4 : Int32)) C dL_isSo_72 (by decide) ?_
            refine v_callV [.int (nI p), .int (4 : Int32)] (pc := 73) (st1 := [.int v4, .int v5]) (c1 := d + 4) (s1 := t + 24) C (mX8_told C.hT w2) kL_37 (by decide) (gX_8 (rfl : kdX 0 = 8)) rfl rfl rfl rfl (Nat.le_of_ble_eq_true rfl) ⟨(Nat.le_of_ble_eq_true rfl), (Nat.le_of_ble_eq_true rfl)⟩ ⟨(by show d + 2 + 2 ≤ 900; omega), (by show t + 12 + 12 ≤ 5400; omega)⟩ dL_isSo_73 (by show d + 2 + 2 = d + 4; omega) (by show t + 12 + 12 = t + 24; omega) ?_
            refine v_icmp_gt 95 (pc := 76) C dL_isSo_76 (by decide) (fun c0 => absurd c0 (i_nlt.mpr w3)) (fun _ => ?_)
            refine v_aload_n 2 (pc := 79) C dL_isSo_79 rfl rfl ?_
            refine v_iconst (pc := 80) (v := (1 : Int32)) C dL_isSo_80 (by decide) ?_
            refine v_iload_n 0 (pc := 81) C dL_isSo_81 rfl rfl ?_
            refine v_ishl (pc := 82) C dL_isSo_82 ?_
            refine l_call [.ref (a 0), .int ((1 : Int32) <<< ((nI p) &&& 31))] (pc := 83) (st1 := [.long r]) (c1 := d + 5) (s1 := t + 30) C hN (mL_kits C.hT w4) cwL_kits kl_141 rfl rfl rfl rfl (Nat.le_of_ble_eq_true rfl) ⟨(Nat.le_of_ble_eq_true rfl), (Nat.le_of_ble_eq_true rfl)⟩ ⟨(by show d + 4 + 1 ≤ 900; omega), (by show t + 24 + 6 ≤ 5400; omega)⟩ dL_isSo_83 (by show d + 4 + 1 = d + 5; omega) (by show t + 24 + 6 = t + 30; omega) ?_
            refine v_lconst (pc := 86) (v := (0 : Int64)) C dL_isSo_86 (by decide) ?_
            refine v_lcmp (pc := 87) C dL_isSo_87 ?_
            refine v_if_lt 95 (pc := 88) C dL_isSo_88 (by decide) (fun c0 => absurd c0 (lg_nlt w5)) (fun _ => ?_)
            refine v_iconst (pc := 91) (v := (1 : Int32)) C dL_isSo_91 (by decide) ?_
            refine v_goto 96 (pc := 92) C dL_isSo_92 (by decide) ?_
            refine v_istore_n (pc := 96) (loc' := [(1, .int (1 : Int32)), (2, .int (nI p)), (0, .ref (a 0))]) C dL_isSo_96 rfl (by decide) rfl ?_
            refine v_iinc 1 (pc := 97) (v := nI (p + 1)) (loc' := [(2, .int (nI (p + 1))), (1, .int (1 : Int32)), (0, .ref (a 0))]) C dL_isSo_97 rfl (nI_1 p) (by decide) rfl ?_
            refine v_goto 4 (pc := 100) C dL_isSo_100 (by decide) ?_
            refine z_sub [0, 1, 2] rfl ?_
            exact ih (p + 1) S2 (d + 5) (t + 30) (by omega) hS2 (by omega) (by omega)
          refine v_aload_n 2 (pc := 36) C dL_isSo_36 rfl rfl ?_
          refine v_iload_n 0 (pc := 37) C dL_isSo_37 rfl rfl ?_
          refine v_iconst (pc := 38) (v := (0 : Int32)) C dL_isSo_38 (by decide) ?_
          refine p_call [.ref (a 0), .int (nI p), .int (0 : Int32)] (pc := 39) (st1 := [.int (1 : Int32)]) (c1 := c + 64) (s1 := s + 384) C hN (mL_isOrderSo C.hT hO hS) kl_145 rfl rfl rfl rfl (Nat.le_of_ble_eq_true rfl) ⟨(Nat.le_of_ble_eq_true rfl), (Nat.le_of_ble_eq_true rfl)⟩ ⟨(by show c + 4 + 60 ≤ 900; omega), (by show s + 24 + 360 ≤ 5400; omega)⟩ dL_isSo_39 (by show c + 4 + 60 = c + 64; omega) (by show s + 24 + 360 = s + 384; omega) (fun S2 hS2 => ?_)
          refine v_if_eq 95 (pc := 42) C dL_isSo_42 (by decide) (fun c0 => absurd c0 (by decide)) (fun _ => ?_)
          refine v_iload_n 0 (pc := 45) C dL_isSo_45 rfl rfl ?_
          refine v_if_gt 64 (pc := 46) C dL_isSo_46 (by decide) (fun c3 => ?_) (fun c3 => ?_)
          · exact e64 S2 (c + 64) (s + 384) hS2 (by omega) (by omega)
          · obtain ⟨S3, g1, g2⟩ := hA S2 hS2
            refine v_aload_n 2 (pc := 49) C dL_isSo_49 rfl rfl ?_
            refine v_iload_n 0 (pc := 50) C dL_isSo_50 rfl rfl ?_
            refine v_iconst (pc := 51) (v := (0 : Int32)) C dL_isSo_51 (by decide) ?_
            refine v_callV [.int (nI p), .int (0 : Int32)] (pc := 52) (st1 := [.int f]) (c1 := c + 66) (s1 := s + 396) C (mX8_flipsAnew C.hT g1) kL_149 (by decide) (gX_8 (rfl : kdX 0 = 8)) rfl rfl rfl rfl (Nat.le_of_ble_eq_true rfl) ⟨(Nat.le_of_ble_eq_true rfl), (Nat.le_of_ble_eq_true rfl)⟩ ⟨(by show c + 64 + 2 ≤ 900; omega), (by show s + 384 + 12 ≤ 5400; omega)⟩ dL_isSo_52 (by show c + 64 + 2 = c + 66; omega) (by show s + 384 + 12 = s + 396; omega) ?_
            obtain ⟨S4, g3, g4⟩ := hO.2.2.1 S3 g2
            refine v_aload_n 2 (pc := 55) C dL_isSo_55 rfl rfl ?_
            refine v_iload_n 0 (pc := 56) C dL_isSo_56 rfl rfl ?_
            refine v_iconst (pc := 57) (v := (0 : Int32)) C dL_isSo_57 (by decide) ?_
            refine v_callV [.int (nI p), .int (0 : Int32)] (pc := 58) (st1 := [.int f, .int f]) (c1 := c + 68) (s1 := s + 408) C (mX8_flips C.hT g3) kL_57 (by decide) (gX_8 (rfl : kdX 0 = 8)) rfl rfl rfl rfl (Nat.le_of_ble_eq_true rfl) ⟨(Nat.le_of_ble_eq_true rfl), (Nat.le_of_ble_eq_true rfl)⟩ ⟨(by show c + 66 + 2 ≤ 900; omega), (by show s + 396 + 12 ≤ 5400; omega)⟩ dL_isSo_58 (by show c + 66 + 2 = c + 68; omega) (by show s + 396 + 12 = s + 408; omega) ?_
            refine v_icmp_ne 95 (pc := 61) C dL_isSo_61 (by decide) (fun c0 => absurd c0 (fun z => z rfl)) (fun _ => ?_)
            exact e64 S4 (c + 68) (s + 408) g4 (by omega) (by omega)
  refine v_iconst (pc := 0) (v := (1 : Int32)) C dL_isSo_0 (by decide) ?_
  refine v_istore_n (pc := 1) (loc' := [(1, .int (1 : Int32)), (0, .ref (a 0))]) C dL_isSo_1 rfl (by decide) rfl ?_
  refine v_iconst (pc := 2) (v := (0 : Int32)) C dL_isSo_2 (by decide) ?_
  refine v_istore_n (pc := 3) (loc' := [(2, .int (0 : Int32)), (1, .int (1 : Int32)), (0, .ref (a 0))]) C dL_isSo_3 rfl (by decide) rfl ?_
  exact loop1 8 0 S0 0 0 (by omega) scrX_r (by omega) (by omega)
