def fX9_hole_L81 (S : St) (p1 : Int32) (next6 : Int32 → Int32 → Option (Int32)) (v4 : Int32) (v5 : Int32) : Option (Int32) :=
  if (gi S 0 23) ≤ v5 then (
    some v4)
  else (
    bn1 (jn0 (
      some (0 : Int32)) (fun J42 =>
      if v4 = 0 then (
        J42)
      else (
        gd (inb v5 20) (
        jn0 (
          some (1 : Int32)) (fun J45 =>
          if (gi S 20 v5.toNatClampNeg) = p1 then (
            gd (inb v5 20) (
            if (gi S 23 v5.toNatClampNeg) = (3 : Int32) then (
              J45)
            else (
              J42)))
          else (
            J45)))))) (fun (v38 : Int32) =>
      bv (v5 + 1) (fun (v39 : Int32) =>
      next6 v38 v39)))
def fX9_hole (S : St) (p1 : Int32) (p2 : Int32) (p3 : Int32) (p4 : Int32) : Option ((Int32 × St)) :=
  bn1 (fX9_isPart S p1) (fun (v1 : Int32) =>
  bn1 (jn0 (
    some (0 : Int32)) (fun J58 =>
    if v1 = 0 then (
      J58)
    else (
      gd (inb p1 8) (
      bn1 (fX9_in p2 (0 : Int32) ((gi S 3 p1.toNatClampNeg) - (1 : Int32))) (fun (v61 : Int32) =>
      if v61 = 0 then (
        J58)
      else (
        some (1 : Int32))))))) (fun (v2 : Int32) =>
    bn1 (jn0 (
      some (0 : Int32)) (fun J50 =>
      if v2 = 0 then (
        J50)
      else (
        gd (inb (((6 : Int32) * p1) + p2) 48) (
        bn1 (fX9_in p3 (1 : Int32) ((gi S 4 (((6 : Int32) * p1) + p2).toNatClampNeg) - (1 : Int32))) (fun (v53 : Int32) =>
        if v53 = 0 then (
          J50)
        else (
          bn1 (fX9_in p4 (1 : Int32) (20 : Int32)) (fun (v55 : Int32) =>
          if v55 = 0 then (
            J50)
          else (
            some (1 : Int32))))))))) (fun (v3 : Int32) =>
      bn1 (lq2 (fX9_hole_L81 S p1) 200 (1 : Int32) (0 : Int32)) (fun (v7 : Int32) =>
        bn1 (if v2 = 0 then (
          some (1 : Int32))
        else (
          if v3 = 0 then (
            some (2 : Int32))
          else (
            gd (inb p1 8) (
            jn0 (
              some (3 : Int32)) (fun J33 =>
              if (gi S 9 p1.toNatClampNeg) = (6 : Int32) then (
                J33)
              else (
                if v7 = 0 then (
                  J33)
                else (
                  some (0 : Int32)))))))) (fun (v8 : Int32) =>
          bn2 (fX9_goesWell S v8) (fun (v9 : Int32) (S10 : St) =>
          if v9 = 0 then (
            some ((0 : Int32), S10))
          else (
            gd (inb p1 8) (
            bv ((((6 : Int32) * p1) + (gi S10 9 p1.toNatClampNeg))) (fun (v13 : Int32) =>
            gd (inb v13 48) (
            bv (si S10 10 v13.toNatClampNeg p2) (fun (S16 : St) =>
            gd (inb v13 48) (
            bv (si S16 11 v13.toNatClampNeg p3) (fun (S19 : St) =>
            gd (inb v13 48) (
            bv (si S19 12 v13.toNatClampNeg p4) (fun (S22 : St) =>
            gd (inb p1 8) (
            gd (inb p1 8) (
            bv (si S22 9 p1.toNatClampNeg ((gi S22 9 p1.toNatClampNeg) + (1 : Int32))) (fun (S26 : St) =>
            gd (inb p1 8) (
            some (((gi S26 9 p1.toNatClampNeg) - (1 : Int32)), S26))))))))))))))))))))
abbrev rmX9_hole : Room := { frames := 8, cells := 0, slots := 0, locals := 170 }
set_option maxRecDepth 100000 in
set_option maxHeartbeats 4000000 in
theorem mX9_hole {l : Launch} {D : va_G} {cs : Nat → ClassId} {a : Nat → Nat} (hT : l.stackTraces = false) {S : St} {p1 : Int32} {p2 : Int32} {p3 : Int32} {p4 : Int32} {r : Int32} {S' : St} (hF : fX9_hole S p1 p2 p3 p4 = some (r, S')) : MX l 33 GM D cs a yX9_hole cX9_hole 9 (some .int) rmX9_hole [.ref (a 0), .int p1, .int p2, .int p3, .int p4] S (.inr (some (.int r))) S' := by
  refine zm_entry [(0, .ref (a 0)), (1, .int p1), (2, .int p2), (3, .int p3), (4, .int p4)] hT (by decide +kernel) (Nat.le_of_ble_eq_true rfl) rfl (fun E hEl hED hEk C hQ hr => ?_)
  subst hEl
  subst hED
  subst hEk
  unfold fX9_hole at hF
  refine z_aload_n 0 (pc := 0) C dX9_hole_0 rfl rfl ?_
  refine z_iload_n 1 (pc := 1) C dX9_hole_1 rfl rfl ?_
  obtain ⟨v1, hG, hF⟩ := bn1_of hF
  refine z_callV [.int p1] (pc := 2) (st1 := [.int v1]) (c1 := 0) (s1 := 0) C (mX9_isPart C.hT hG) kX9_138 (kdM_lt (rfl : kdM 0 = 9) (by decide)) (gM_9 (rfl : kdM 0 = 9)) rfl rfl rfl rfl (Nat.le_of_ble_eq_true rfl) ⟨(Nat.le_of_ble_eq_true rfl), (Nat.le_of_ble_eq_true rfl)⟩ ⟨(Nat.le_of_ble_eq_true rfl), (Nat.le_of_ble_eq_true rfl)⟩ dX9_hole_2 rfl rfl ?_
  obtain ⟨v2', hR, hF⟩ := bn1_of hF
  have hJ57 : ∀ (v2 : Int32), (some v2 : Option (Int32)) = some v2' → Zz E (WM E a S) 0 0 29 [(0, .ref (a 0)), (1, .int p1), (2, .int p2), (3, .int p3), (4, .int p4)] [.int v2] := by
    intro v2 hE
    have hE0 := Option.some.inj hE
    subst hE0
    refine z_istore (pc := 29) (loc' := [(5, .int v2), (0, .ref (a 0)), (1, .int p1), (2, .int p2), (3, .int p3), (4, .int p4)]) C dX9_hole_29 (by decide) rfl ?_
    refine z_iload 0 (pc := 31) C dX9_hole_31 rfl ?_
    obtain ⟨v3', hR, hF⟩ := bn1_of hF
    have hJ49 : ∀ (v3 : Int32), (some v3 : Option (Int32)) = some v3' → Zz E (WM E a S) 0 0 73 [(0, .ref (a 0)), (1, .int p1), (2, .int p2), (3, .int p3), (4, .int p4), (5, .int v2)] [.int v3] := by
      intro v3 hE
      have hE0 := Option.some.inj hE
      subst hE0
      refine z_istore (pc := 73) (loc' := [(6, .int v3), (0, .ref (a 0)), (1, .int p1), (2, .int p2), (3, .int p3), (4, .int p4), (5, .int v2)]) C dX9_hole_73 (by decide) rfl ?_
      refine z_iconst (pc := 75) (v := (1 : Int32)) C dX9_hole_75 (by decide) ?_
      refine z_istore (pc := 76) (loc' := [(7, .int (1 : Int32)), (6, .int v3), (0, .ref (a 0)), (1, .int p1), (2, .int p2), (3, .int p3), (4, .int p4), (5, .int v2)]) C dX9_hole_76 (by decide) rfl ?_
      refine z_iconst (pc := 78) (v := (0 : Int32)) C dX9_hole_78 (by decide) ?_
      refine z_istore (pc := 79) (loc' := [(8, .int (0 : Int32)), (7, .int (1 : Int32)), (6, .int v3), (0, .ref (a 0)), (1, .int p1), (2, .int p2), (3, .int p3), (4, .int p4), (5, .int v2)]) C dX9_hole_79 (by decide) rfl ?_
      refine z_sub [3, 4, 5, 6, 7, 8, 2, 1, 0] rfl ?_
      obtain ⟨v7', hR, hF⟩ := bn1_of hF
      have hJ36 : ∀ (v7 : Int32), (some v7 : Option (Int32)) = some v7' → Zz E (WM E a S) 0 0 130 [(0, .ref (a 0)), (1, .int p1), (2, .int p2), (3, .int p3), (4, .int p4), (5, .int v2), (6, .int v3), (7, .int v7)] [] := by
        intro v7 hE
        have hE0 := Option.some.inj hE
        subst hE0
        refine z_aload_n 0 (pc := 130) C dX9_hole_130 rfl rfl ?_
        refine z_iload 5 (pc := 131) C dX9_hole_131 rfl ?_
        obtain ⟨v8', hR, hF⟩ := bn1_of hF
        have hJ29 : ∀ (v8 : Int32), (some v8 : Option (Int32)) = some v8' → Zz E (WM E a S) 0 0 170 [(0, .ref (a 0)), (1, .int p1), (2, .int p2), (3, .int p3), (4, .int p4)] [.int v8, .ref (a 0)] := by
          intro v8 hE
          have hE0 := Option.some.inj hE
          subst hE0
          obtain ⟨v9, S10, hG, hF⟩ := bn2_of hF
          refine z_callV [.int v8] (pc := 170) (st1 := [.int v9]) (c1 := 0) (s1 := 0) C (mX9_goesWell C.hT hG) kX9_126 (kdM_lt (rfl : kdM 0 = 9) (by decide)) (gM_9 (rfl : kdM 0 = 9)) rfl rfl rfl rfl (Nat.le_of_ble_eq_true rfl) ⟨(Nat.le_of_ble_eq_true rfl), (Nat.le_of_ble_eq_true rfl)⟩ ⟨(Nat.le_of_ble_eq_true rfl), (Nat.le_of_ble_eq_true rfl)⟩ dX9_hole_170 rfl rfl ?_
          refine z_if_ne 178 (pc := 173) C dX9_hole_173 (by decide) (fun c11 => ?_) (fun c11 => ?_)
          · have hF := if_f hF c11
            refine z_bipush (pc := 178) (v := (6 : Int32)) C dX9_hole_178 (by decide) ?_
            refine z_iload_n 1 (pc := 180) C dX9_hole_180 rfl rfl ?_
            refine z_imul (pc := 181) C dX9_hole_181 ?_
            refine z_aload_n 0 (pc := 182) C dX9_hole_182 rfl rfl ?_
            refine gfX9_34 (pc := 183) C (rfl : kdM 0 = 9) dX9_hole_183 ?_
            refine z_iload_n 1 (pc := 186) C dX9_hole_186 rfl rfl ?_
            obtain ⟨g12, hF⟩ := gd_of hF
            refine iaM8 (pc := 187) C (rfl : kdM 9 = 28) g12 dX9_hole_187 ?_
            refine z_iadd (pc := 188) C dX9_hole_188 ?_
            obtain ⟨v13, e14, hF⟩ := bv_of hF
            refine z_topi e14 ?_
            refine z_istore (pc := 189) (loc' := [(8, .int v13), (0, .ref (a 0)), (1, .int p1), (2, .int p2), (3, .int p3), (4, .int p4)]) C dX9_hole_189 (by decide) rfl ?_
            refine z_aload_n 1 (pc := 191) C dX9_hole_191 rfl rfl ?_
            refine gfX9_37 (pc := 192) C (rfl : kdM 0 = 9) dX9_hole_192 ?_
            refine z_iload 0 (pc := 195) C dX9_hole_195 rfl ?_
            refine z_iload_n 3 (pc := 197) C dX9_hole_197 rfl rfl ?_
            obtain ⟨g15, hF⟩ := gd_of hF
            refine saM48 (pc := 198) C (rfl : kdM 10 = 68) g15 dX9_hole_198 ?_
            obtain ⟨S16, e17, hF⟩ := bv_of hF
            rw [← e17]
            refine z_aload_n 1 (pc := 199) C dX9_hole_199 rfl rfl ?_
            refine gfX9_40 (pc := 200) C (rfl : kdM 0 = 9) dX9_hole_200 ?_
            refine z_iload 0 (pc := 203) C dX9_hole_203 rfl ?_
            refine z_iload_n 4 (pc := 205) C dX9_hole_205 rfl rfl ?_
            obtain ⟨g18, hF⟩ := gd_of hF
            refine saM48 (pc := 206) C (rfl : kdM 11 = 68) g18 dX9_hole_206 ?_
            obtain ⟨S19, e20, hF⟩ := bv_of hF
            rw [← e20]
            refine z_aload_n 1 (pc := 207) C dX9_hole_207 rfl rfl ?_
            refine gfX9_43 (pc := 208) C (rfl : kdM 0 = 9) dX9_hole_208 ?_
            refine z_iload 0 (pc := 211) C dX9_hole_211 rfl ?_
            refine z_iload 5 (pc := 213) C dX9_hole_213 rfl ?_
            obtain ⟨g21, hF⟩ := gd_of hF
            refine saM48 (pc := 215) C (rfl : kdM 12 = 68) g21 dX9_hole_215 ?_
            obtain ⟨S22, e23, hF⟩ := bv_of hF
            rw [← e23]
            refine z_aload_n 1 (pc := 216) C dX9_hole_216 rfl rfl ?_
            refine gfX9_34 (pc := 217) C (rfl : kdM 0 = 9) dX9_hole_217 ?_
            refine z_iload_n 2 (pc := 220) C dX9_hole_220 rfl rfl ?_
            refine z_dup2 (pc := 221) C dX9_hole_221 rfl rfl ?_
            obtain ⟨g24, hF⟩ := gd_of hF
            refine iaM8 (pc := 222) C (rfl : kdM 9 = 28) g24 dX9_hole_222 ?_
            refine z_iconst (pc := 223) (v := (1 : Int32)) C dX9_hole_223 (by decide) ?_
            refine z_iadd (pc := 224) C dX9_hole_224 ?_
            obtain ⟨g25, hF⟩ := gd_of hF
            refine saM8 (pc := 225) C (rfl : kdM 9 = 28) g25 dX9_hole_225 ?_
            obtain ⟨S26, e27, hF⟩ := bv_of hF
            rw [← e27]
            refine z_aload_n 1 (pc := 226) C dX9_hole_226 rfl rfl ?_
            refine gfX9_34 (pc := 227) C (rfl : kdM 0 = 9) dX9_hole_227 ?_
            refine z_iload_n 2 (pc := 230) C dX9_hole_230 rfl rfl ?_
            obtain ⟨g28, hF⟩ := gd_of hF
            refine iaM8 (pc := 231) C (rfl : kdM 9 = 28) g28 dX9_hole_231 ?_
            refine z_iconst (pc := 232) (v := (1 : Int32)) C dX9_hole_232 (by decide) ?_
            refine z_isub (pc := 233) C dX9_hole_233 ?_
            exact z_iret (pc := 234) C hQ hr rfl dX9_hole_234 (by cases hF; rfl) (by cases hF; rfl) (Nat.le_of_ble_eq_true rfl) (Nat.le_of_ble_eq_true rfl)
          · have hF := if_t hF c11
            refine z_iconst (pc := 176) (v := (0 : Int32)) C dX9_hole_176 (by decide) ?_
            exact z_iret (pc := 177) C hQ hr rfl dX9_hole_177 (by cases hF; rfl) (by cases hF; rfl) (Nat.le_of_ble_eq_true rfl) (Nat.le_of_ble_eq_true rfl)
        have hF := hR
        clear hR
        refine z_if_ne 140 (pc := 133) C dX9_hole_133 (by decide) (fun c30 => ?_) (fun c30 => ?_)
        · have hF := if_f hF c30
          refine z_iload 6 (pc := 140) C dX9_hole_140 rfl ?_
          refine z_if_ne 149 (pc := 142) C dX9_hole_142 (by decide) (fun c31 => ?_) (fun c31 => ?_)
          · have hF := if_f hF c31
            refine z_aload_n 0 (pc := 149) C dX9_hole_149 rfl rfl ?_
            refine gfX9_34 (pc := 150) C (rfl : kdM 0 = 9) dX9_hole_150 ?_
            refine z_iload_n 1 (pc := 153) C dX9_hole_153 rfl rfl ?_
            obtain ⟨g32, hF⟩ := gd_of hF
            refine iaM8 (pc := 154) C (rfl : kdM 9 = 28) g32 dX9_hole_154 ?_
            refine z_bipush (pc := 155) (v := (6 : Int32)) C dX9_hole_155 (by decide) ?_
            obtain ⟨J33, hdJ33, hF⟩ := jn0_of hF
            have hJ33 : J33 = some v8' → Zz E (WM E a S) 0 0 165 [(0, .ref (a 0)), (1, .int p1), (2, .int p2), (3, .int p3), (4, .int p4)] [.ref (a 0)] := by
              intro hF
              have hF := hdJ33.symm.trans hF
              refine z_iconst (pc := 165) (v := (3 : Int32)) C dX9_hole_165 (by decide) ?_
              refine z_goto 170 (pc := 166) C dX9_hole_166 (by decide) ?_
              exact hJ29 _ hF
            refine z_icmp_eq 165 (pc := 157) C dX9_hole_157 (by decide) (fun c34 => ?_) (fun c34 => ?_)
            · have hF := if_t hF c34
              refine z_sub [0, 1, 2, 3, 4] rfl ?_
              exact hJ33 hF
            · have hF := if_f hF c34
              refine z_iload 7 (pc := 160) C dX9_hole_160 rfl ?_
              refine z_if_ne 169 (pc := 162) C dX9_hole_162 (by decide) (fun c35 => ?_) (fun c35 => ?_)
              · have hF := if_f hF c35
                refine z_iconst (pc := 169) (v := (0 : Int32)) C dX9_hole_169 (by decide) ?_
                refine z_sub [0, 1, 2, 3, 4] rfl ?_
                exact hJ29 _ hF
              · have hF := if_t hF c35
                refine z_sub [0, 1, 2, 3, 4] rfl ?_
                exact hJ33 hF
          · have hF := if_t hF c31
            refine z_iconst (pc := 145) (v := (2 : Int32)) C dX9_hole_145 (by decide) ?_
            refine z_goto 170 (pc := 146) C dX9_hole_146 (by decide) ?_
            refine z_sub [0, 1, 2, 3, 4] rfl ?_
            exact hJ29 _ hF
        · have hF := if_t hF c30
          refine z_iconst (pc := 136) (v := (1 : Int32)) C dX9_hole_136 (by decide) ?_
          refine z_goto 170 (pc := 137) C dX9_hole_137 (by decide) ?_
          refine z_sub [0, 1, 2, 3, 4] rfl ?_
          exact hJ29 _ hF
      have hF := hR
      clear hR
      refine lq2_W (P := fun (v4 : Int32) (v5 : Int32) => Zz E (WM E a S) 0 0 81 [(0, .ref (a 0)), (1, .int p1), (2, .int p2), (3, .int p3), (4, .int p4), (5, .int v2), (6, .int v3), (7, .int v4), (8, .int v5)] []) (fun next6 hN6 v4 v5 hF => ?_) _ _ _ hF
      unfold fX9_hole_L81 at hF
      refine z_iload 8 (pc := 81) C dX9_hole_81 rfl ?_
      refine z_aload_n 0 (pc := 83) C dX9_hole_83 rfl rfl ?_
      refine gfX9_120 (pc := 84) C (rfl : kdM 0 = 9) dX9_hole_84 ?_
      refine z_icmp_ge 130 (pc := 87) C dX9_hole_87 (by decide) (fun c37 => ?_) (fun c37 => ?_)
      · have hF := if_t hF c37
        refine z_sub [0, 1, 2, 3, 4, 5, 6, 7] rfl ?_
        exact hJ36 _ hF
      · have hF := if_f hF c37
        refine z_iload 7 (pc := 90) C dX9_hole_90 rfl ?_
        obtain ⟨v38', hR, hF⟩ := bn1_of hF
        have hJ41 : ∀ (v38 : Int32), (some v38 : Option (Int32)) = some v38' → Zz E (WM E a S) 0 0 122 [(0, .ref (a 0)), (1, .int p1), (2, .int p2), (3, .int p3), (4, .int p4), (5, .int v2), (6, .int v3), (8, .int v5)] [.int v38] := by
          intro v38 hE
          have hE0 := Option.some.inj hE
          subst hE0
          refine z_istore (pc := 122) (loc' := [(7, .int v38), (0, .ref (a 0)), (1, .int p1), (2, .int p2), (3, .int p3), (4, .int p4), (5, .int v2), (6, .int v3), (8, .int v5)]) C dX9_hole_122 (by decide) rfl ?_
          obtain ⟨v39, e40, hF⟩ := bv_of hF
          refine z_iinc 8 (pc := 124) (v := v39) (loc' := [(8, .int v39), (7, .int v38), (0, .ref (a 0)), (1, .int p1), (2, .int p2), (3, .int p3), (4, .int p4), (5, .int v2), (6, .int v3)]) C dX9_hole_124 rfl (by rw [e40]; rfl) (by decide) rfl ?_
          refine z_goto 81 (pc := 127) C dX9_hole_127 (by decide) ?_
          refine z_sub [2, 3, 4, 5, 6, 7, 8, 1, 0] rfl ?_
          exact hN6 _ _ hF
        have hF := hR
        clear hR
        obtain ⟨J42, hdJ42, hF⟩ := jn0_of hF
        have hJ42 : J42 = some v38' → Zz E (WM E a S) 0 0 121 [(0, .ref (a 0)), (1, .int p1), (2, .int p2), (3, .int p3), (4, .int p4), (5, .int v2), (6, .int v3), (8, .int v5)] [] := by
          intro hF
          have hF := hdJ42.symm.trans hF
          refine z_iconst (pc := 121) (v := (0 : Int32)) C dX9_hole_121 (by decide) ?_
          exact hJ41 _ hF
        refine z_if_eq 121 (pc := 92) C dX9_hole_92 (by decide) (fun c43 => ?_) (fun c43 => ?_)
        · have hF := if_t hF c43
          refine z_sub [0, 1, 2, 3, 4, 5, 6, 8] rfl ?_
          exact hJ42 hF
        · have hF := if_f hF c43
          refine z_aload_n 0 (pc := 95) C dX9_hole_95 rfl rfl ?_
          refine gfX9_67 (pc := 96) C (rfl : kdM 0 = 9) dX9_hole_96 ?_
          refine z_iload 8 (pc := 99) C dX9_hole_99 rfl ?_
          obtain ⟨g44, hF⟩ := gd_of hF
          refine iaM20 (pc := 101) C (rfl : kdM 20 = 40) g44 dX9_hole_101 ?_
          refine z_iload_n 1 (pc := 102) C dX9_hole_102 rfl rfl ?_
          obtain ⟨J45, hdJ45, hF⟩ := jn0_of hF
          have hJ45 : J45 = some v38' → Zz E (WM E a S) 0 0 117 [(0, .ref (a 0)), (1, .int p1), (2, .int p2), (3, .int p3), (4, .int p4), (5, .int v2), (6, .int v3), (8, .int v5)] [] := by
            intro hF
            have hF := hdJ45.symm.trans hF
            refine z_iconst (pc := 117) (v := (1 : Int32)) C dX9_hole_117 (by decide) ?_
            refine z_goto 122 (pc := 118) C dX9_hole_118 (by decide) ?_
            exact hJ41 _ hF
          refine z_icmp_ne 117 (pc := 103) C dX9_hole_103 (by decide) (fun c46 => ?_) (fun c46 => ?_)
          · have hF := if_f hF c46
            refine z_sub [0, 1, 2, 3, 4, 5, 6, 8] rfl ?_
            exact hJ45 hF
          · have hF := if_t hF c46
            refine z_aload_n 0 (pc := 106) C dX9_hole_106 rfl rfl ?_
            refine gfX9_76 (pc := 107) C (rfl : kdM 0 = 9) dX9_hole_107 ?_
            refine z_iload 8 (pc := 110) C dX9_hole_110 rfl ?_
            obtain ⟨g47, hF⟩ := gd_of hF
            refine iaM20 (pc := 112) C (rfl : kdM 23 = 40) g47 dX9_hole_112 ?_
            refine z_iconst (pc := 113) (v := (3 : Int32)) C dX9_hole_113 (by decide) ?_
            refine z_icmp_ne 121 (pc := 114) C dX9_hole_114 (by decide) (fun c48 => ?_) (fun c48 => ?_)
            · have hF := if_f hF c48
              refine z_sub [0, 1, 2, 3, 4, 5, 6, 8] rfl ?_
              exact hJ42 hF
            · have hF := if_t hF c48
              refine z_sub [0, 1, 2, 3, 4, 5, 6, 8] rfl ?_
              exact hJ45 hF
    have hF := hR
    clear hR
    obtain ⟨J50, hdJ50, hF⟩ := jn0_of hF
    have hJ50 : J50 = some v3' → Zz E (WM E a S) 0 0 72 [(0, .ref (a 0)), (1, .int p1), (2, .int p2), (3, .int p3), (4, .int p4), (5, .int v2)] [] := by
      intro hF
      have hF := hdJ50.symm.trans hF
      refine z_iconst (pc := 72) (v := (0 : Int32)) C dX9_hole_72 (by decide) ?_
      exact hJ49 _ hF
    refine z_if_eq 72 (pc := 33) C dX9_hole_33 (by decide) (fun c51 => ?_) (fun c51 => ?_)
    · have hF := if_t hF c51
      refine z_sub [1, 2, 3, 4, 5, 0] rfl ?_
      exact hJ50 hF
    · have hF := if_f hF c51
      refine z_iload_n 4 (pc := 36) C dX9_hole_36 rfl rfl ?_
      refine z_iconst (pc := 37) (v := (1 : Int32)) C dX9_hole_37 (by decide) ?_
      refine z_aload_n 1 (pc := 38) C dX9_hole_38 rfl rfl ?_
      refine gfX9_19 (pc := 39) C (rfl : kdM 0 = 9) dX9_hole_39 ?_
      refine z_bipush (pc := 42) (v := (6 : Int32)) C dX9_hole_42 (by decide) ?_
      refine z_iload_n 2 (pc := 44) C dX9_hole_44 rfl rfl ?_
      refine z_imul (pc := 45) C dX9_hole_45 ?_
      refine z_iload_n 3 (pc := 46) C dX9_hole_46 rfl rfl ?_
      refine z_iadd (pc := 47) C dX9_hole_47 ?_
      obtain ⟨g52, hF⟩ := gd_of hF
      refine iaM48 (pc := 48) C (rfl : kdM 4 = 68) g52 dX9_hole_48 ?_
      refine z_iconst (pc := 49) (v := (1 : Int32)) C dX9_hole_49 (by decide) ?_
      refine z_isub (pc := 50) C dX9_hole_50 ?_
      obtain ⟨v53, hG, hF⟩ := bn1_of hF
      refine z_callS [.int p3, .int (1 : Int32), .int ((gi S 4 (((6 : Int32) * p1) + p2).toNatClampNeg) - (1 : Int32))] (pc := 51) (st1 := [.int v53]) (c1 := 0) (s1 := 0) C (mX9_in C.hT hG) kX9_113 rfl rfl rfl rfl (Nat.le_of_ble_eq_true rfl) ⟨(Nat.le_of_ble_eq_true rfl), (Nat.le_of_ble_eq_true rfl)⟩ ⟨(Nat.le_of_ble_eq_true rfl), (Nat.le_of_ble_eq_true rfl)⟩ dX9_hole_51 rfl rfl ?_
      refine z_if_eq 72 (pc := 54) C dX9_hole_54 (by decide) (fun c54 => ?_) (fun c54 => ?_)
      · have hF := if_t hF c54
        refine z_sub [1, 2, 3, 4, 5, 0] rfl ?_
        exact hJ50 hF
      · have hF := if_f hF c54
        refine z_iload 5 (pc := 57) C dX9_hole_57 rfl ?_
        refine z_iconst (pc := 59) (v := (1 : Int32)) C dX9_hole_59 (by decide) ?_
        refine z_bipush (pc := 60) (v := (20 : Int32)) C dX9_hole_60 (by decide) ?_
        obtain ⟨v55, hG, hF⟩ := bn1_of hF
        refine z_callS [.int p4, .int (1 : Int32), .int (20 : Int32)] (pc := 62) (st1 := [.int v55]) (c1 := 0) (s1 := 0) C (mX9_in C.hT hG) kX9_113 rfl rfl rfl rfl (Nat.le_of_ble_eq_true rfl) ⟨(Nat.le_of_ble_eq_true rfl), (Nat.le_of_ble_eq_true rfl)⟩ ⟨(Nat.le_of_ble_eq_true rfl), (Nat.le_of_ble_eq_true rfl)⟩ dX9_hole_62 rfl rfl ?_
        refine z_if_eq 72 (pc := 65) C dX9_hole_65 (by decide) (fun c56 => ?_) (fun c56 => ?_)
        · have hF := if_t hF c56
          refine z_sub [1, 2, 3, 4, 5, 0] rfl ?_
          exact hJ50 hF
        · have hF := if_f hF c56
          refine z_iconst (pc := 68) (v := (1 : Int32)) C dX9_hole_68 (by decide) ?_
          refine z_goto 73 (pc := 69) C dX9_hole_69 (by decide) ?_
          refine z_sub [1, 2, 3, 4, 5, 0] rfl ?_
          exact hJ49 _ hF
  have hF := hR
  clear hR
  obtain ⟨J58, hdJ58, hF⟩ := jn0_of hF
  have hJ58 : J58 = some v2' → Zz E (WM E a S) 0 0 28 [(0, .ref (a 0)), (1, .int p1), (2, .int p2), (3, .int p3), (4, .int p4)] [] := by
    intro hF
    have hF := hdJ58.symm.trans hF
    refine z_iconst (pc := 28) (v := (0 : Int32)) C dX9_hole_28 (by decide) ?_
    exact hJ57 _ hF
  refine z_if_eq 28 (pc := 5) C dX9_hole_5 (by decide) (fun c59 => ?_) (fun c59 => ?_)
  · have hF := if_t hF c59
    exact hJ58 hF
  · have hF := if_f hF c59
    refine z_iload_n 2 (pc := 8) C dX9_hole_8 rfl rfl ?_
    refine z_iconst (pc := 9) (v := (0 : Int32)) C dX9_hole_9 (by decide) ?_
    refine z_aload_n 0 (pc := 10) C dX9_hole_10 rfl rfl ?_
    refine gfX9_16 (pc := 11) C (rfl : kdM 0 = 9) dX9_hole_11 ?_
    refine z_iload_n 1 (pc := 14) C dX9_hole_14 rfl rfl ?_
    obtain ⟨g60, hF⟩ := gd_of hF
    refine iaM8 (pc := 15) C (rfl : kdM 3 = 28) g60 dX9_hole_15 ?_
    refine z_iconst (pc := 16) (v := (1 : Int32)) C dX9_hole_16 (by decide) ?_
    refine z_isub (pc := 17) C dX9_hole_17 ?_
    obtain ⟨v61, hG, hF⟩ := bn1_of hF
    refine z_callS [.int p2, .int (0 : Int32), .int ((gi S 3 p1.toNatClampNeg) - (1 : Int32))] (pc := 18) (st1 := [.int v61]) (c1 := 0) (s1 := 0) C (mX9_in C.hT hG) kX9_113 rfl rfl rfl rfl (Nat.le_of_ble_eq_true rfl) ⟨(Nat.le_of_ble_eq_true rfl), (Nat.le_of_ble_eq_true rfl)⟩ ⟨(Nat.le_of_ble_eq_true rfl), (Nat.le_of_ble_eq_true rfl)⟩ dX9_hole_18 rfl rfl ?_
    refine z_if_eq 28 (pc := 21) C dX9_hole_21 (by decide) (fun c62 => ?_) (fun c62 => ?_)
    · have hF := if_t hF c62
      exact hJ58 hF
    · have hF := if_f hF c62
      refine z_iconst (pc := 24) (v := (1 : Int32)) C dX9_hole_24 (by decide) ?_
      refine z_goto 29 (pc := 25) C dX9_hole_25 (by decide) ?_
      exact hJ57 _ hF
def fX9_isNear (S : St) (p1 : Int32) (p2 : Int32) : Option ((Int32 × St)) :=
  bn1 (fX9_isPart S p1) (fun (v1 : Int32) =>
  bn1 (jn0 (
    some (1 : Int32)) (fun J9 =>
    if v1 = 0 then (
      J9)
    else (
      gd (inb p1 8) (
      bn1 (fX9_in p2 (0 : Int32) ((gi S 9 p1.toNatClampNeg) - (1 : Int32))) (fun (v12 : Int32) =>
      if v12 = 0 then (
        J9)
      else (
        some (0 : Int32))))))) (fun (v2 : Int32) =>
    bn2 (fX9_goesWell S v2) (fun (v3 : Int32) (S4 : St) =>
    if v3 = 0 then (
      some ((0 : Int32), S4))
    else (
      bn1 (fX9_isClose S4 p1 p2) (fun (v6 : Int32) =>
      if v6 = 0 then (
        some ((0 : Int32), S4))
      else (
        some ((1 : Int32), S4)))))))
abbrev rmX9_isNear : Room := { frames := 8, cells := 0, slots := 0, locals := 170 }
set_option maxRecDepth 100000 in
set_option maxHeartbeats 4000000 in
theorem mX9_isNear {l : Launch} {D : va_G} {cs : Nat → ClassId} {a : Nat → Nat} (hT : l.stackTraces = false) {S : St} {p1 : Int32} {p2 : Int32} {r : Int32} {S' : St} (hF : fX9_isNear S p1 p2 = some (r, S')) : MX l 33 GM D cs a yX9_isNear cX9_isNear 3 (some .boolean) rmX9_isNear [.ref (a 0), .int p1, .int p2] S (.inr (some (.int r))) S' := by
  refine zm_entry [(0, .ref (a 0)), (1, .int p1), (2, .int p2)] hT (by decide +kernel) (Nat.le_of_ble_eq_true rfl) rfl (fun E hEl hED hEk C hQ hr => ?_)
  subst hEl
  subst hED
  subst hEk
  unfold fX9_isNear at hF
  refine z_aload_n 0 (pc := 0) C dX9_isNear_0 rfl rfl ?_
  refine z_aload_n 0 (pc := 1) C dX9_isNear_1 rfl rfl ?_
  refine z_iload_n 1 (pc := 2) C dX9_isNear_2 rfl rfl ?_
  obtain ⟨v1, hG, hF⟩ := bn1_of hF
  refine z_callV [.int p1] (pc := 3) (st1 := [.int v1, .ref (a 0)]) (c1 := 0) (s1 := 0) C (mX9_isPart C.hT hG) kX9_138 (kdM_lt (rfl : kdM 0 = 9) (by decide)) (gM_9 (rfl : kdM 0 = 9)) rfl rfl rfl rfl (Nat.le_of_ble_eq_true rfl) ⟨(Nat.le_of_ble_eq_true rfl), (Nat.le_of_ble_eq_true rfl)⟩ ⟨(Nat.le_of_ble_eq_true rfl), (Nat.le_of_ble_eq_true rfl)⟩ dX9_isNear_3 rfl rfl ?_
  obtain ⟨v2', hR, hF⟩ := bn1_of hF
  have hJ8 : ∀ (v2 : Int32), (some v2 : Option (Int32)) = some v2' → Zz E (WM E a S) 0 0 30 [(0, .ref (a 0)), (1, .int p1), (2, .int p2)] [.int v2, .ref (a 0)] := by
    intro v2 hE
    have hE0 := Option.some.inj hE
    subst hE0
    obtain ⟨v3, S4, hG, hF⟩ := bn2_of hF
    refine z_callV [.int v2] (pc := 30) (st1 := [.int v3]) (c1 := 0) (s1 := 0) C (mX9_goesWell C.hT hG) kX9_126 (kdM_lt (rfl : kdM 0 = 9) (by decide)) (gM_9 (rfl : kdM 0 = 9)) rfl rfl rfl rfl (Nat.le_of_ble_eq_true rfl) ⟨(Nat.le_of_ble_eq_true rfl), (Nat.le_of_ble_eq_true rfl)⟩ ⟨(Nat.le_of_ble_eq_true rfl), (Nat.le_of_ble_eq_true rfl)⟩ dX9_isNear_30 rfl rfl ?_
    refine z_if_eq 49 (pc := 33) C dX9_isNear_33 (by decide) (fun c5 => ?_) (fun c5 => ?_)
    · have hF := if_t hF c5
      refine z_iconst (pc := 49) (v := (0 : Int32)) C dX9_isNear_49 (by decide) ?_
      exact z_iret (pc := 50) C hQ hr rfl dX9_isNear_50 (by cases hF; rfl) (by cases hF; rfl) (Nat.le_of_ble_eq_true rfl) (Nat.le_of_ble_eq_true rfl)
    · have hF := if_f hF c5
      refine z_aload_n 0 (pc := 36) C dX9_isNear_36 rfl rfl ?_
      refine z_iload_n 1 (pc := 37) C dX9_isNear_37 rfl rfl ?_
      refine z_iload_n 2 (pc := 38) C dX9_isNear_38 rfl rfl ?_
      obtain ⟨v6, hG, hF⟩ := bn1_of hF
      refine z_callV [.int p1, .int p2] (pc := 39) (st1 := [.int v6]) (c1 := 0) (s1 := 0) C (mX9_isClose C.hT hG) kX9_148 (kdM_lt (rfl : kdM 0 = 9) (by decide)) (gM_9 (rfl : kdM 0 = 9)) rfl rfl rfl rfl (Nat.le_of_ble_eq_true rfl) ⟨(Nat.le_of_ble_eq_true rfl), (Nat.le_of_ble_eq_true rfl)⟩ ⟨(Nat.le_of_ble_eq_true rfl), (Nat.le_of_ble_eq_true rfl)⟩ dX9_isNear_39 rfl rfl ?_
      refine z_if_eq 49 (pc := 42) C dX9_isNear_42 (by decide) (fun c7 => ?_) (fun c7 => ?_)
      · have hF := if_t hF c7
        refine z_iconst (pc := 49) (v := (0 : Int32)) C dX9_isNear_49 (by decide) ?_
        exact z_iret (pc := 50) C hQ hr rfl dX9_isNear_50 (by cases hF; rfl) (by cases hF; rfl) (Nat.le_of_ble_eq_true rfl) (Nat.le_of_ble_eq_true rfl)
      · have hF := if_f hF c7
        refine z_iconst (pc := 45) (v := (1 : Int32)) C dX9_isNear_45 (by decide) ?_
        refine z_goto 50 (pc := 46) C dX9_isNear_46 (by decide) ?_
        exact z_iret (pc := 50) C hQ hr rfl dX9_isNear_50 (by cases hF; rfl) (by cases hF; rfl) (Nat.le_of_ble_eq_true rfl) (Nat.le_of_ble_eq_true rfl)
  have hF := hR
  clear hR
  obtain ⟨J9, hdJ9, hF⟩ := jn0_of hF
  have hJ9 : J9 = some v2' → Zz E (WM E a S) 0 0 29 [(0, .ref (a 0)), (1, .int p1), (2, .int p2)] [.ref (a 0)] := by
    intro hF
    have hF := hdJ9.symm.trans hF
    refine z_iconst (pc := 29) (v := (1 : Int32)) C dX9_isNear_29 (by decide) ?_
    exact hJ8 _ hF
  refine z_if_eq 29 (pc := 6) C dX9_isNear_6 (by decide) (fun c10 => ?_) (fun c10 => ?_)
  · have hF := if_t hF c10
    exact hJ9 hF
  · have hF := if_f hF c10
    refine z_iload_n 2 (pc := 9) C dX9_isNear_9 rfl rfl ?_
    refine z_iconst (pc := 10) (v := (0 : Int32)) C dX9_isNear_10 (by decide) ?_
    refine z_aload_n 0 (pc := 11) C dX9_isNear_11 rfl rfl ?_
    refine gfX9_34 (pc := 12) C (rfl : kdM 0 = 9) dX9_isNear_12 ?_
    refine z_iload_n 1 (pc := 15) C dX9_isNear_15 rfl rfl ?_
    obtain ⟨g11, hF⟩ := gd_of hF
    refine iaM8 (pc := 16) C (rfl : kdM 9 = 28) g11 dX9_isNear_16 ?_
    refine z_iconst (pc := 17) (v := (1 : Int32)) C dX9_isNear_17 (by decide) ?_
    refine z_isub (pc := 18) C dX9_isNear_18 ?_
    obtain ⟨v12, hG, hF⟩ := bn1_of hF
    refine z_callS [.int p2, .int (0 : Int32), .int ((gi S 9 p1.toNatClampNeg) - (1 : Int32))] (pc := 19) (st1 := [.int v12, .ref (a 0)]) (c1 := 0) (s1 := 0) C (mX9_in C.hT hG) kX9_113 rfl rfl rfl rfl (Nat.le_of_ble_eq_true rfl) ⟨(Nat.le_of_ble_eq_true rfl), (Nat.le_of_ble_eq_true rfl)⟩ ⟨(Nat.le_of_ble_eq_true rfl), (Nat.le_of_ble_eq_true rfl)⟩ dX9_isNear_19 rfl rfl ?_
    refine z_if_eq 29 (pc := 22) C dX9_isNear_22 (by decide) (fun c13 => ?_) (fun c13 => ?_)
    · have hF := if_t hF c13
      exact hJ9 hF
    · have hF := if_f hF c13
      refine z_iconst (pc := 25) (v := (0 : Int32)) C dX9_isNear_25 (by decide) ?_
      refine z_goto 30 (pc := 26) C dX9_isNear_26 (by decide) ?_
      exact hJ8 _ hF
def fX9_nextPiece_L4 (S : St) (p1 : Int32) (next3 : Int32 → Int32 → Option (Int32)) (v1 : Int32) (v2 : Int32) : Option (Int32) :=
  if (gi S 0 4) ≤ v2 then (
    some v1)
  else (
    bn1 (jn0 (
      some (0 : Int32)) (fun J20 =>
      if v1 = (-1 : Int32) then (
        J20)
      else (
        bn1 (fX9_longer S v2 p1) (fun (v22 : Int32) =>
        bn1 (fX9_longer S v1 p1) (fun (v23 : Int32) =>
        jn0 (
          some (1 : Int32)) (fun J24 =>
          if v23 < v22 then (
            J24)
          else (
            bn1 (fX9_longer S v2 p1) (fun (v26 : Int32) =>
            bn1 (fX9_longer S v1 p1) (fun (v27 : Int32) =>
            if v26 = v27 then (
              bn1 (fX9_shorter S v2 p1) (fun (v29 : Int32) =>
              bn1 (fX9_shorter S v1 p1) (fun (v30 : Int32) =>
              if v29 ≤ v30 then (
                J20)
              else (
                J24))))
            else (
              J20)))))))))) (fun (v7 : Int32) =>
      gd (inb v2 8) (
      gd (inb v2 8) (
      bn1 (jn0 (
        some v1) (fun J14 =>
        if (gi S 19 v2.toNatClampNeg) ≤ (gi S 27 v2.toNatClampNeg) then (
          J14)
        else (
          jn0 (
            some v2) (fun J16 =>
            if v1 = (-1 : Int32) then (
              J16)
            else (
              if v7 = 0 then (
                J14)
              else (
                J16)))))) (fun (v10 : Int32) =>
        bv (v2 + 1) (fun (v11 : Int32) =>
        next3 v10 v11))))))
def fX9_nextPiece (S : St) (p1 : Int32) : Option (Int32) :=
  bn1 (lq2 (fX9_nextPiece_L4 S p1) 200 (-1 : Int32) (0 : Int32)) (fun (v4 : Int32) =>
    some (v4))
abbrev rmX9_nextPiece : Room := { frames := 8, cells := 0, slots := 0, locals := 170 }
set_option maxRecDepth 100000 in
set_option maxHeartbeats 4000000 in
theorem mX9_nextPiece {l : Launch} {D : va_G} {cs : Nat → ClassId} {a : Nat → Nat} (hT : l.stackTraces = false) {S : St} {p1 : Int32} {r : Int32} (hF : fX9_nextPiece S p1 = some r) : MX l 33 GM D cs a yX9_nextPiece cX9_nextPiece 5 (some .int) rmX9_nextPiece [.ref (a 0), .int p1] S (.inr (some (.int r))) S := by
  refine zm_entry [(0, .ref (a 0)), (1, .int p1)] hT (by decide +kernel) (Nat.le_of_ble_eq_true rfl) rfl (fun E hEl hED hEk C hQ hr => ?_)
  subst hEl
  subst hED
  subst hEk
  unfold fX9_nextPiece at hF
  refine z_iconst (pc := 0) (v := (-1 : Int32)) C dX9_nextPiece_0 (by decide) ?_
  refine z_istore_n (pc := 1) (loc' := [(2, .int (-1 : Int32)), (0, .ref (a 0)), (1, .int p1)]) C dX9_nextPiece_1 rfl (by decide) rfl ?_
  refine z_iconst (pc := 2) (v := (0 : Int32)) C dX9_nextPiece_2 (by decide) ?_
  refine z_istore_n (pc := 3) (loc' := [(3, .int (0 : Int32)), (2, .int (-1 : Int32)), (0, .ref (a 0)), (1, .int p1)]) C dX9_nextPiece_3 rfl (by decide) rfl ?_
  refine z_sub [2, 3, 1, 0] rfl ?_
  obtain ⟨v4', hR, hF⟩ := bn1_of hF
  have hJ5 : ∀ (v4 : Int32), (some v4 : Option (Int32)) = some v4' → Zz E (WM E a S) 0 0 106 [(2, .int v4)] [] := by
    intro v4 hE
    have hE0 := Option.some.inj hE
    subst hE0
    refine z_iload_n 0 (pc := 106) C dX9_nextPiece_106 rfl rfl ?_
    exact z_iret (pc := 107) C hQ hr rfl dX9_nextPiece_107 (by cases hF; rfl) (by cases hF; rfl) (Nat.le_of_ble_eq_true rfl) (Nat.le_of_ble_eq_true rfl)
  have hF := hR
  clear hR
  refine lq2_W (P := fun (v1 : Int32) (v2 : Int32) => Zz E (WM E a S) 0 0 4 [(0, .ref (a 0)), (1, .int p1), (2, .int v1), (3, .int v2)] []) (fun next3 hN3 v1 v2 hF => ?_) _ _ _ hF
  unfold fX9_nextPiece_L4 at hF
  refine z_iload_n 3 (pc := 4) C dX9_nextPiece_4 rfl rfl ?_
  refine z_aload_n 0 (pc := 5) C dX9_nextPiece_5 rfl rfl ?_
  refine gfX9_110 (pc := 6) C (rfl : kdM 0 = 9) dX9_nextPiece_6 ?_
  refine z_icmp_ge 106 (pc := 9) C dX9_nextPiece_9 (by decide) (fun c6 => ?_) (fun c6 => ?_)
  · have hF := if_t hF c6
    refine z_sub [2] rfl ?_
    exact hJ5 _ hF
  · have hF := if_f hF c6
    refine z_iload_n 2 (pc := 12) C dX9_nextPiece_12 rfl rfl ?_
    refine z_iconst (pc := 13) (v := (-1 : Int32)) C dX9_nextPiece_13 (by decide) ?_
    obtain ⟨v7', hR, hF⟩ := bn1_of hF
    have hJ19 : ∀ (v7 : Int32), (some v7 : Option (Int32)) = some v7' → Zz E (WM E a S) 0 0 67 [(0, .ref (a 0)), (1, .int p1), (2, .int v1), (3, .int v2)] [.int v7] := by
      intro v7 hE
      have hE0 := Option.some.inj hE
      subst hE0
      refine z_istore (pc := 67) (loc' := [(4, .int v7), (0, .ref (a 0)), (1, .int p1), (2, .int v1), (3, .int v2)]) C dX9_nextPiece_67 (by decide) rfl ?_
      refine z_aload_n 1 (pc := 69) C dX9_nextPiece_69 rfl rfl ?_
      refine gfX9_88 (pc := 70) C (rfl : kdM 0 = 9) dX9_nextPiece_70 ?_
      refine z_iload_n 4 (pc := 73) C dX9_nextPiece_73 rfl rfl ?_
      obtain ⟨g8, hF⟩ := gd_of hF
      refine iaM8 (pc := 74) C (rfl : kdM 27 = 28) g8 dX9_nextPiece_74 ?_
      refine z_aload_n 1 (pc := 75) C dX9_nextPiece_75 rfl rfl ?_
      refine gfX9_64 (pc := 76) C (rfl : kdM 0 = 9) dX9_nextPiece_76 ?_
      refine z_iload_n 4 (pc := 79) C dX9_nextPiece_79 rfl rfl ?_
      obtain ⟨g9, hF⟩ := gd_of hF
      refine iaM8 (pc := 80) C (rfl : kdM 19 = 28) g9 dX9_nextPiece_80 ?_
      obtain ⟨v10', hR, hF⟩ := bn1_of hF
      have hJ13 : ∀ (v10 : Int32), (some v10 : Option (Int32)) = some v10' → Zz E (WM E a S) 0 0 99 [(0, .ref (a 0)), (1, .int p1), (3, .int v2)] [.int v10] := by
        intro v10 hE
        have hE0 := Option.some.inj hE
        subst hE0
        refine z_istore_n (pc := 99) (loc' := [(2, .int v10), (0, .ref (a 0)), (1, .int p1), (3, .int v2)]) C dX9_nextPiece_99 rfl (by decide) rfl ?_
        obtain ⟨v11, e12, hF⟩ := bv_of hF
        refine z_iinc 3 (pc := 100) (v := v11) (loc' := [(3, .int v11), (2, .int v10), (0, .ref (a 0)), (1, .int p1)]) C dX9_nextPiece_100 rfl (by rw [e12]; rfl) (by decide) rfl ?_
        refine z_goto 4 (pc := 103) C dX9_nextPiece_103 (by decide) ?_
        refine z_sub [2, 3, 1, 0] rfl ?_
        exact hN3 _ _ hF
      have hF := hR
      clear hR
      obtain ⟨J14, hdJ14, hF⟩ := jn0_of hF
      have hJ14 : J14 = some v10' → Zz E (WM E a S) 0 0 98 [(0, .ref (a 0)), (1, .int p1), (2, .int v1), (3, .int v2)] [] := by
        intro hF
        have hF := hdJ14.symm.trans hF
        refine z_iload_n 2 (pc := 98) C dX9_nextPiece_98 rfl rfl ?_
        refine z_sub [0, 1, 3] rfl ?_
        exact hJ13 _ hF
      refine z_icmp_ge 98 (pc := 81) C dX9_nextPiece_81 (by decide) (fun c15 => ?_) (fun c15 => ?_)
      · have hF := if_t hF c15
        refine z_sub [1, 2, 3, 4] rfl ?_
        exact hJ14 hF
      · have hF := if_f hF c15
        refine z_iload_n 3 (pc := 84) C dX9_nextPiece_84 rfl rfl ?_
        refine z_iconst (pc := 85) (v := (-1 : Int32)) C dX9_nextPiece_85 (by decide) ?_
        obtain ⟨J16, hdJ16, hF⟩ := jn0_of hF
        have hJ16 : J16 = some v10' → Zz E (WM E a S) 0 0 94 [(0, .ref (a 0)), (1, .int p1), (3, .int v2)] [] := by
          intro hF
          have hF := hdJ16.symm.trans hF
          refine z_iload_n 2 (pc := 94) C dX9_nextPiece_94 rfl rfl ?_
          refine z_goto 99 (pc := 95) C dX9_nextPiece_95 (by decide) ?_
          exact hJ13 _ hF
        refine z_icmp_eq 94 (pc := 86) C dX9_nextPiece_86 (by decide) (fun c17 => ?_) (fun c17 => ?_)
        · have hF := if_t hF c17
          refine z_sub [1, 2, 4] rfl ?_
          exact hJ16 hF
        · have hF := if_f hF c17
          refine z_iload 0 (pc := 89) C dX9_nextPiece_89 rfl ?_
          refine z_if_eq 98 (pc := 91) C dX9_nextPiece_91 (by decide) (fun c18 => ?_) (fun c18 => ?_)
          · have hF := if_t hF c18
            refine z_sub [1, 2, 3, 4] rfl ?_
            exact hJ14 hF
          · have hF := if_f hF c18
            refine z_sub [1, 2, 4] rfl ?_
            exact hJ16 hF
    have hF := hR
    clear hR
    obtain ⟨J20, hdJ20, hF⟩ := jn0_of hF
    have hJ20 : J20 = some v7' → Zz E (WM E a S) 0 0 66 [(0, .ref (a 0)), (1, .int p1), (2, .int v1), (3, .int v2)] [] := by
      intro hF
      have hF := hdJ20.symm.trans hF
      refine z_iconst (pc := 66) (v := (0 : Int32)) C dX9_nextPiece_66 (by decide) ?_
      exact hJ19 _ hF
    refine z_icmp_eq 66 (pc := 14) C dX9_nextPiece_14 (by decide) (fun c21 => ?_) (fun c21 => ?_)
    · have hF := if_t hF c21
      exact hJ20 hF
    · have hF := if_f hF c21
      refine z_aload_n 0 (pc := 17) C dX9_nextPiece_17 rfl rfl ?_
      refine z_iload_n 3 (pc := 18) C dX9_nextPiece_18 rfl rfl ?_
      refine z_iload_n 1 (pc := 19) C dX9_nextPiece_19 rfl rfl ?_
      obtain ⟨v22, hG, hF⟩ := bn1_of hF
      refine z_callV [.int v2, .int p1] (pc := 20) (st1 := [.int v22]) (c1 := 0) (s1 := 0) C (mX9_longer C.hT hG) kX9_205 (kdM_lt (rfl : kdM 0 = 9) (by decide)) (gM_9 (rfl : kdM 0 = 9)) rfl rfl rfl rfl (Nat.le_of_ble_eq_true rfl) ⟨(Nat.le_of_ble_eq_true rfl), (Nat.le_of_ble_eq_true rfl)⟩ ⟨(Nat.le_of_ble_eq_true rfl), (Nat.le_of_ble_eq_true rfl)⟩ dX9_nextPiece_20 rfl rfl ?_
      refine z_aload_n 0 (pc := 23) C dX9_nextPiece_23 rfl rfl ?_
      refine z_iload_n 2 (pc := 24) C dX9_nextPiece_24 rfl rfl ?_
      refine z_iload_n 1 (pc := 25) C dX9_nextPiece_25 rfl rfl ?_
      obtain ⟨v23, hG, hF⟩ := bn1_of hF
      refine z_callV [.int v1, .int p1] (pc := 26) (st1 := [.int v23, .int v22]) (c1 := 0) (s1 := 0) C (mX9_longer C.hT hG) kX9_205 (kdM_lt (rfl : kdM 0 = 9) (by decide)) (gM_9 (rfl : kdM 0 = 9)) rfl rfl rfl rfl (Nat.le_of_ble_eq_true rfl) ⟨(Nat.le_of_ble_eq_true rfl), (Nat.le_of_ble_eq_true rfl)⟩ ⟨(Nat.le_of_ble_eq_true rfl), (Nat.le_of_ble_eq_true rfl)⟩ dX9_nextPiece_26 rfl rfl ?_
      obtain ⟨J24, hdJ24, hF⟩ := jn0_of hF
      have hJ24 : J24 = some v7' → Zz E (WM E a S) 0 0 62 [(0, .ref (a 0)), (1, .int p1), (2, .int v1), (3, .int v2)] [] := by
        intro hF
        have hF := hdJ24.symm.trans hF
        refine z_iconst (pc := 62) (v := (1 : Int32)) C dX9_nextPiece_62 (by decide) ?_
        refine z_goto 67 (pc := 63) C dX9_nextPiece_63 (by decide) ?_
        exact hJ19 _ hF
      refine z_icmp_gt 62 (pc := 29) C dX9_nextPiece_29 (by decide) (fun c25 => ?_) (fun c25 => ?_)
      · have hF := if_t hF c25
        exact hJ24 hF
      · have hF := if_f hF c25
        refine z_aload_n 0 (pc := 32) C dX9_nextPiece_32 rfl rfl ?_
        refine z_iload_n 3 (pc := 33) C dX9_nextPiece_33 rfl rfl ?_
        refine z_iload_n 1 (pc := 34) C dX9_nextPiece_34 rfl rfl ?_
        obtain ⟨v26, hG, hF⟩ := bn1_of hF
        refine z_callV [.int v2, .int p1] (pc := 35) (st1 := [.int v26]) (c1 := 0) (s1 := 0) C (mX9_longer C.hT hG) kX9_205 (kdM_lt (rfl : kdM 0 = 9) (by decide)) (gM_9 (rfl : kdM 0 = 9)) rfl rfl rfl rfl (Nat.le_of_ble_eq_true rfl) ⟨(Nat.le_of_ble_eq_true rfl), (Nat.le_of_ble_eq_true rfl)⟩ ⟨(Nat.le_of_ble_eq_true rfl), (Nat.le_of_ble_eq_true rfl)⟩ dX9_nextPiece_35 rfl rfl ?_
        refine z_aload_n 0 (pc := 38) C dX9_nextPiece_38 rfl rfl ?_
        refine z_iload_n 2 (pc := 39) C dX9_nextPiece_39 rfl rfl ?_
        refine z_iload_n 1 (pc := 40) C dX9_nextPiece_40 rfl rfl ?_
        obtain ⟨v27, hG, hF⟩ := bn1_of hF
        refine z_callV [.int v1, .int p1] (pc := 41) (st1 := [.int v27, .int v26]) (c1 := 0) (s1 := 0) C (mX9_longer C.hT hG) kX9_205 (kdM_lt (rfl : kdM 0 = 9) (by decide)) (gM_9 (rfl : kdM 0 = 9)) rfl rfl rfl rfl (Nat.le_of_ble_eq_true rfl) ⟨(Nat.le_of_ble_eq_true rfl), (Nat.le_of_ble_eq_true rfl)⟩ ⟨(Nat.le_of_ble_eq_true rfl), (Nat.le_of_ble_eq_true rfl)⟩ dX9_nextPiece_41 rfl rfl ?_
        refine z_icmp_ne 66 (pc := 44) C dX9_nextPiece_44 (by decide) (fun c28 => ?_) (fun c28 => ?_)
        · have hF := if_f hF c28
          exact hJ20 hF
        · have hF := if_t hF c28
          refine z_aload_n 0 (pc := 47) C dX9_nextPiece_47 rfl rfl ?_
          refine z_iload_n 3 (pc := 48) C dX9_nextPiece_48 rfl rfl ?_
          refine z_iload_n 1 (pc := 49) C dX9_nextPiece_49 rfl rfl ?_
          obtain ⟨v29, hG, hF⟩ := bn1_of hF
          refine z_callV [.int v2, .int p1] (pc := 50) (st1 := [.int v29]) (c1 := 0) (s1 := 0) C (mX9_shorter C.hT hG) kX9_208 (kdM_lt (rfl : kdM 0 = 9) (by decide)) (gM_9 (rfl : kdM 0 = 9)) rfl rfl rfl rfl (Nat.le_of_ble_eq_true rfl) ⟨(Nat.le_of_ble_eq_true rfl), (Nat.le_of_ble_eq_true rfl)⟩ ⟨(Nat.le_of_ble_eq_true rfl), (Nat.le_of_ble_eq_true rfl)⟩ dX9_nextPiece_50 rfl rfl ?_
          refine z_aload_n 0 (pc := 53) C dX9_nextPiece_53 rfl rfl ?_
          refine z_iload_n 2 (pc := 54) C dX9_nextPiece_54 rfl rfl ?_
          refine z_iload_n 1 (pc := 55) C dX9_nextPiece_55 rfl rfl ?_
          obtain ⟨v30, hG, hF⟩ := bn1_of hF
          refine z_callV [.int v1, .int p1] (pc := 56) (st1 := [.int v30, .int v29]) (c1 := 0) (s1 := 0) C (mX9_shorter C.hT hG) kX9_208 (kdM_lt (rfl : kdM 0 = 9) (by decide)) (gM_9 (rfl : kdM 0 = 9)) rfl rfl rfl rfl (Nat.le_of_ble_eq_true rfl) ⟨(Nat.le_of_ble_eq_true rfl), (Nat.le_of_ble_eq_true rfl)⟩ ⟨(Nat.le_of_ble_eq_true rfl), (Nat.le_of_ble_eq_true rfl)⟩ dX9_nextPiece_56 rfl rfl ?_
          refine z_icmp_le 66 (pc := 59) C dX9_nextPiece_59 (by decide) (fun c31 => ?_) (fun c31 => ?_)
          · have hF := if_t hF c31
            exact hJ20 hF
          · have hF := if_f hF c31
            exact hJ24 hF
def fX9_part (S : St) (p1 : Int32) (p2 : Int32) : Option ((Int32 × St)) :=
  bn1 (fX9_isSheet p1 p2) (fun (v1 : Int32) =>
  bn1 (if v1 = 0 then (
    some (1 : Int32))
  else (
    jn0 (
      some (2 : Int32)) (fun J11 =>
      if (gi S 0 1) = 0 then (
        J11)
      else (
        if (gi S 0 4) = (8 : Int32) then (
          J11)
        else (
          some (0 : Int32)))))) (fun (v2 : Int32) =>
    bn2 (fX9_goesWell S v2) (fun (v3 : Int32) (S4 : St) =>
    if v3 = 0 then (
      some ((0 : Int32), S4))
    else (
      bn1 (fX9_draw S4 (gi S4 0 4) p1 p2) (fun (S6 : St) =>
      bv (si S6 0 4 ((gi S6 0 4) + (1 : Int32))) (fun (S7 : St) =>
      some (((gi S7 0 4) - (1 : Int32)), S7)))))))
abbrev rmX9_part : Room := { frames := 8, cells := 0, slots := 0, locals := 170 }
set_option maxRecDepth 100000 in
set_option maxHeartbeats 4000000 in
theorem mX9_part {l : Launch} {D : va_G} {cs : Nat → ClassId} {a : Nat → Nat} (hT : l.stackTraces = false) {S : St} {p1 : Int32} {p2 : Int32} {r : Int32} {S' : St} (hF : fX9_part S p1 p2 = some (r, S')) : MX l 33 GM D cs a yX9_part cX9_part 4 (some .int) rmX9_part [.ref (a 0), .int p1, .int p2] S (.inr (some (.int r))) S' := by
  refine zm_entry [(0, .ref (a 0)), (1, .int p1), (2, .int p2)] hT (by decide +kernel) (Nat.le_of_ble_eq_true rfl) rfl (fun E hEl hED hEk C hQ hr => ?_)
  subst hEl
  subst hED
  subst hEk
  unfold fX9_part at hF
  refine z_iload_n 1 (pc := 0) C dX9_part_0 rfl rfl ?_
  refine z_iload_n 2 (pc := 1) C dX9_part_1 rfl rfl ?_
  obtain ⟨v1, hG, hF⟩ := bn1_of hF
  refine z_callS [.int p1, .int p2] (pc := 2) (st1 := [.int v1]) (c1 := 0) (s1 := 0) C (mX9_isSheet C.hT hG) kX9_130 rfl rfl rfl rfl (Nat.le_of_ble_eq_true rfl) ⟨(Nat.le_of_ble_eq_true rfl), (Nat.le_of_ble_eq_true rfl)⟩ ⟨(Nat.le_of_ble_eq_true rfl), (Nat.le_of_ble_eq_true rfl)⟩ dX9_part_2 rfl rfl ?_
  refine z_istore_n (pc := 5) (loc' := [(3, .int v1), (0, .ref (a 0)), (1, .int p1), (2, .int p2)]) C dX9_part_5 rfl (by decide) rfl ?_
  refine z_aload_n 1 (pc := 6) C dX9_part_6 rfl rfl ?_
  refine z_iload_n 0 (pc := 7) C dX9_part_7 rfl rfl ?_
  obtain ⟨v2', hR, hF⟩ := bn1_of hF
  have hJ9 : ∀ (v2 : Int32), (some v2 : Option (Int32)) = some v2' → Zz E (WM E a S) 0 0 36 [(0, .ref (a 0)), (1, .int p1), (2, .int p2)] [.int v2, .ref (a 0)] := by
    intro v2 hE
    have hE0 := Option.some.inj hE
    subst hE0
    obtain ⟨v3, S4, hG, hF⟩ := bn2_of hF
    refine z_callV [.int v2] (pc := 36) (st1 := [.int v3]) (c1 := 0) (s1 := 0) C (mX9_goesWell C.hT hG) kX9_126 (kdM_lt (rfl : kdM 0 = 9) (by decide)) (gM_9 (rfl : kdM 0 = 9)) rfl rfl rfl rfl (Nat.le_of_ble_eq_true rfl) ⟨(Nat.le_of_ble_eq_true rfl), (Nat.le_of_ble_eq_true rfl)⟩ ⟨(Nat.le_of_ble_eq_true rfl), (Nat.le_of_ble_eq_true rfl)⟩ dX9_part_36 rfl rfl ?_
    refine z_if_ne 44 (pc := 39) C dX9_part_39 (by decide) (fun c5 => ?_) (fun c5 => ?_)
    · have hF := if_f hF c5
      refine z_aload_n 0 (pc := 44) C dX9_part_44 rfl rfl ?_
      refine z_aload_n 0 (pc := 45) C dX9_part_45 rfl rfl ?_
      refine gfX9_110 (pc := 46) C (rfl : kdM 0 = 9) dX9_part_46 ?_
      refine z_iload_n 1 (pc := 49) C dX9_part_49 rfl rfl ?_
      refine z_iload_n 2 (pc := 50) C dX9_part_50 rfl rfl ?_
      obtain ⟨S6, hG, hF⟩ := bn1_of hF
      refine z_callV [.int (gi S4 0 4), .int p1, .int p2] (pc := 51) (st1 := []) (c1 := 0) (s1 := 0) C (mX9_draw C.hT hG) kX9_134 (kdM_lt (rfl : kdM 0 = 9) (by decide)) (gM_9 (rfl : kdM 0 = 9)) rfl rfl rfl rfl (Nat.le_of_ble_eq_true rfl) ⟨(Nat.le_of_ble_eq_true rfl), (Nat.le_of_ble_eq_true rfl)⟩ ⟨(Nat.le_of_ble_eq_true rfl), (Nat.le_of_ble_eq_true rfl)⟩ dX9_part_51 rfl rfl ?_
      refine z_aload_n 0 (pc := 54) C dX9_part_54 rfl rfl ?_
      refine z_dup (pc := 55) C dX9_part_55 rfl ?_
      refine gfX9_110 (pc := 56) C (rfl : kdM 0 = 9) dX9_part_56 ?_
      refine z_iconst (pc := 59) (v := (1 : Int32)) C dX9_part_59 (by decide) ?_
      refine z_iadd (pc := 60) C dX9_part_60 ?_
      refine pfX9_110 (pc := 61) C (rfl : kdM 0 = 9) dX9_part_61 ?_
      obtain ⟨S7, e8, hF⟩ := bv_of hF
      rw [← e8]
      refine z_aload_n 0 (pc := 64) C dX9_part_64 rfl rfl ?_
      refine gfX9_110 (pc := 65) C (rfl : kdM 0 = 9) dX9_part_65 ?_
      refine z_iconst (pc := 68) (v := (1 : Int32)) C dX9_part_68 (by decide) ?_
      refine z_isub (pc := 69) C dX9_part_69 ?_
      exact z_iret (pc := 70) C hQ hr rfl dX9_part_70 (by cases hF; rfl) (by cases hF; rfl) (Nat.le_of_ble_eq_true rfl) (Nat.le_of_ble_eq_true rfl)
    · have hF := if_t hF c5
      refine z_iconst (pc := 42) (v := (0 : Int32)) C dX9_part_42 (by decide) ?_
      exact z_iret (pc := 43) C hQ hr rfl dX9_part_43 (by cases hF; rfl) (by cases hF; rfl) (Nat.le_of_ble_eq_true rfl) (Nat.le_of_ble_eq_true rfl)
  have hF := hR
  clear hR
  refine z_if_ne 15 (pc := 8) C dX9_part_8 (by decide) (fun c10 => ?_) (fun c10 => ?_)
  · have hF := if_f hF c10
    refine z_aload_n 1 (pc := 15) C dX9_part_15 rfl rfl ?_
    refine gfX9_123 (pc := 16) C (rfl : kdM 0 = 9) dX9_part_16 ?_
    obtain ⟨J11, hdJ11, hF⟩ := jn0_of hF
    have hJ11 : J11 = some v2' → Zz E (WM E a S) 0 0 31 [(0, .ref (a 0)), (1, .int p1), (2, .int p2)] [.ref (a 0)] := by
      intro hF
      have hF := hdJ11.symm.trans hF
      refine z_iconst (pc := 31) (v := (2 : Int32)) C dX9_part_31 (by decide) ?_
      refine z_goto 36 (pc := 32) C dX9_part_32 (by decide) ?_
      exact hJ9 _ hF
    refine z_if_eq 31 (pc := 19) C dX9_part_19 (by decide) (fun c12 => ?_) (fun c12 => ?_)
    · have hF := if_t hF c12
      refine z_sub [1, 2, 3] rfl ?_
      exact hJ11 hF
    · have hF := if_f hF c12
      refine z_aload_n 1 (pc := 22) C dX9_part_22 rfl rfl ?_
      refine gfX9_110 (pc := 23) C (rfl : kdM 0 = 9) dX9_part_23 ?_
      refine z_bipush (pc := 26) (v := (8 : Int32)) C dX9_part_26 (by decide) ?_
      refine z_icmp_ne 35 (pc := 28) C dX9_part_28 (by decide) (fun c13 => ?_) (fun c13 => ?_)
      · have hF := if_f hF c13
        refine z_iconst (pc := 35) (v := (0 : Int32)) C dX9_part_35 (by decide) ?_
        refine z_sub [1, 2, 3] rfl ?_
        exact hJ9 _ hF
      · have hF := if_t hF c13
        refine z_sub [1, 2, 3] rfl ?_
        exact hJ11 hF
  · have hF := if_t hF c10
    refine z_iconst (pc := 11) (v := (1 : Int32)) C dX9_part_11 (by decide) ?_
    refine z_goto 36 (pc := 12) C dX9_part_12 (by decide) ?_
    refine z_sub [1, 2, 3] rfl ?_
    exact hJ9 _ hF
def fX9_point_L98 (p5 : Int32) (p4 : Int32) (p1 : Int32) (p2 : Int32) (p3 : Int32) (next10 : Int32 → St → Option (St)) (v8 : Int32) (S9 : St) : Option (St) :=
  if p5 < v8 then (
    some S9)
  else (
    bn1 (if p4 = 0 then (
      some (-1 : Int32))
    else (
      some (1 : Int32))) (fun (v15 : Int32) =>
      bn1 (fX9_go S9 p1 p2 p3 v15 v8) (fun (S16 : St) =>
      bv (v8 + 1) (fun (v17 : Int32) =>
      next10 v17 S16))))
def fX9_point (S : St) (p1 : Int32) (p2 : Int32) (p3 : Int32) (p4 : Int32) (p5 : Int32) (p6 : Int32) : Option ((Int32 × St)) :=
  bn1 (fX9_isPart S p1) (fun (v1 : Int32) =>
  bn1 (jn0 (
    some (0 : Int32)) (fun J26 =>
    if v1 = 0 then (
      J26)
    else (
      gd (inb p1 8) (
      bn1 (fX9_in p3 (0 : Int32) ((gi S 3 p1.toNatClampNeg) - (2 : Int32))) (fun (v29 : Int32) =>
      if v29 = 0 then (
        J26)
      else (
        bn1 (if p4 = 0 then (
          some (-1 : Int32))
        else (
          some (1 : Int32))) (fun (v31 : Int32) =>
          bn1 (fX9_wing S p1 p3 v31) (fun (v32 : Int32) =>
          bn1 (fX9_in p5 (0 : Int32) (v32 - (1 : Int32))) (fun (v33 : Int32) =>
          if v33 = 0 then (
            J26)
          else (
            some (1 : Int32))))))))))) (fun (v2 : Int32) =>
    bn1 (if v2 = 0 then (
      some (1 : Int32))
    else (
      bn1 (fX9_isDone S p1 p2 p3) (fun (v23 : Int32) =>
      if v23 = 0 then (
        some (2 : Int32))
      else (
        some (0 : Int32))))) (fun (v3 : Int32) =>
      bn2 (fX9_goesWell S v3) (fun (v4 : Int32) (S5 : St) =>
      if v4 = 0 then (
        some ((0 : Int32), S5))
      else (
        bn1 (fX9_start S5) (fun (S7 : St) =>
        bn1 (lq2 (fX9_point_L98 p5 p4 p1 p2 p3) 200 (0 : Int32) S7) (fun (S11 : St) =>
          if p6 = 0 then (
            some ((gi S11 0 30), S11))
          else (
            some ((gi S11 0 31), S11)))))))))
abbrev rmX9_point : Room := { frames := 8, cells := 0, slots := 0, locals := 170 }
set_option maxRecDepth 100000 in
set_option maxHeartbeats 4000000 in
theorem mX9_point {l : Launch} {D : va_G} {cs : Nat → ClassId} {a : Nat → Nat} (hT : l.stackTraces = false) {S : St} {p1 : Int32} {p2 : Int32} {p3 : Int32} {p4 : Int32} {p5 : Int32} {p6 : Int32} {r : Int32} {S' : St} (hF : fX9_point S p1 p2 p3 p4 p5 p6 = some (r, S')) : MX l 33 GM D cs a yX9_point cX9_point 9 (some .int) rmX9_point [.ref (a 0), .int p1, .int p2, .int p3, .int p4, .int p5, .int p6] S (.inr (some (.int r))) S' := by
  refine zm_entry [(0, .ref (a 0)), (1, .int p1), (2, .int p2), (3, .int p3), (4, .int p4), (5, .int p5), (6, .int p6)] hT (by decide +kernel) (Nat.le_of_ble_eq_true rfl) rfl (fun E hEl hED hEk C hQ hr => ?_)
  subst hEl
  subst hED
  subst hEk
  unfold fX9_point at hF
  refine z_aload_n 0 (pc := 0) C dX9_point_0 rfl rfl ?_
  refine z_iload_n 1 (pc := 1) C dX9_point_1 rfl rfl ?_
  obtain ⟨v1, hG, hF⟩ := bn1_of hF
  refine z_callV [.int p1] (pc := 2) (st1 := [.int v1]) (c1 := 0) (s1 := 0) C (mX9_isPart C.hT hG) kX9_138 (kdM_lt (rfl : kdM 0 = 9) (by decide)) (gM_9 (rfl : kdM 0 = 9)) rfl rfl rfl rfl (Nat.le_of_ble_eq_true rfl) ⟨(Nat.le_of_ble_eq_true rfl), (Nat.le_of_ble_eq_true rfl)⟩ ⟨(Nat.le_of_ble_eq_true rfl), (Nat.le_of_ble_eq_true rfl)⟩ dX9_point_2 rfl rfl ?_
  obtain ⟨v2', hR, hF⟩ := bn1_of hF
  have hJ25 : ∀ (v2 : Int32), (some v2 : Option (Int32)) = some v2' → Zz E (WM E a S) 0 0 56 [(0, .ref (a 0)), (1, .int p1), (2, .int p2), (3, .int p3), (4, .int p4), (5, .int p5), (6, .int p6)] [.int v2] := by
    intro v2 hE
    have hE0 := Option.some.inj hE
    subst hE0
    refine z_istore (pc := 56) (loc' := [(7, .int v2), (0, .ref (a 0)), (1, .int p1), (2, .int p2), (3, .int p3), (4, .int p4), (5, .int p5), (6, .int p6)]) C dX9_point_56 (by decide) rfl ?_
    refine z_aload_n 1 (pc := 58) C dX9_point_58 rfl rfl ?_
    refine z_iload 0 (pc := 59) C dX9_point_59 rfl ?_
    obtain ⟨v3', hR, hF⟩ := bn1_of hF
    have hJ21 : ∀ (v3 : Int32), (some v3 : Option (Int32)) = some v3' → Zz E (WM E a S) 0 0 83 [(0, .ref (a 0)), (1, .int p1), (2, .int p2), (3, .int p3), (4, .int p4), (5, .int p5), (6, .int p6)] [.int v3, .ref (a 0)] := by
      intro v3 hE
      have hE0 := Option.some.inj hE
      subst hE0
      obtain ⟨v4, S5, hG, hF⟩ := bn2_of hF
      refine z_callV [.int v3] (pc := 83) (st1 := [.int v4]) (c1 := 0) (s1 := 0) C (mX9_goesWell C.hT hG) kX9_126 (kdM_lt (rfl : kdM 0 = 9) (by decide)) (gM_9 (rfl : kdM 0 = 9)) rfl rfl rfl rfl (Nat.le_of_ble_eq_true rfl) ⟨(Nat.le_of_ble_eq_true rfl), (Nat.le_of_ble_eq_true rfl)⟩ ⟨(Nat.le_of_ble_eq_true rfl), (Nat.le_of_ble_eq_true rfl)⟩ dX9_point_83 rfl rfl ?_
      refine z_if_ne 91 (pc := 86) C dX9_point_86 (by decide) (fun c6 => ?_) (fun c6 => ?_)
      · have hF := if_f hF c6
        refine z_aload_n 0 (pc := 91) C dX9_point_91 rfl rfl ?_
        obtain ⟨S7, hG, hF⟩ := bn1_of hF
        refine z_callV [] (pc := 92) (st1 := []) (c1 := 0) (s1 := 0) C (mX9_start C.hT hG) kX9_173 (kdM_lt (rfl : kdM 0 = 9) (by decide)) (gM_9 (rfl : kdM 0 = 9)) rfl rfl rfl rfl (Nat.le_of_ble_eq_true rfl) ⟨(Nat.le_of_ble_eq_true rfl), (Nat.le_of_ble_eq_true rfl)⟩ ⟨(Nat.le_of_ble_eq_true rfl), (Nat.le_of_ble_eq_true rfl)⟩ dX9_point_92 rfl rfl ?_
        refine z_iconst (pc := 95) (v := (0 : Int32)) C dX9_point_95 (by decide) ?_
        refine z_istore (pc := 96) (loc' := [(8, .int (0 : Int32)), (0, .ref (a 0)), (1, .int p1), (2, .int p2), (3, .int p3), (4, .int p4), (5, .int p5), (6, .int p6)]) C dX9_point_96 (by decide) rfl ?_
        refine z_sub [1, 2, 3, 4, 5, 6, 7, 0] rfl ?_
        obtain ⟨S11', hR, hF⟩ := bn1_of hF
        have hJ13 : ∀ (S11 : St), (some S11 : Option (St)) = some S11' → Zz E (WM E a S11) 0 0 130 [(0, .ref (a 0)), (6, .int p6)] [] := by
          intro S11 hE
          have hE0 := Option.some.inj hE
          subst hE0
          refine z_iload 1 (pc := 130) C dX9_point_130 rfl ?_
          refine z_if_eq 142 (pc := 132) C dX9_point_132 (by decide) (fun c12 => ?_) (fun c12 => ?_)
          · have hF := if_t hF c12
            refine z_aload_n 0 (pc := 142) C dX9_point_142 rfl rfl ?_
            refine gfX9_154 (pc := 143) C (rfl : kdM 0 = 9) dX9_point_143 ?_
            exact z_iret (pc := 146) C hQ hr rfl dX9_point_146 (by cases hF; rfl) (by cases hF; rfl) (Nat.le_of_ble_eq_true rfl) (Nat.le_of_ble_eq_true rfl)
          · have hF := if_f hF c12
            refine z_aload_n 0 (pc := 135) C dX9_point_135 rfl rfl ?_
            refine gfX9_157 (pc := 136) C (rfl : kdM 0 = 9) dX9_point_136 ?_
            refine z_goto 146 (pc := 139) C dX9_point_139 (by decide) ?_
            exact z_iret (pc := 146) C hQ hr rfl dX9_point_146 (by cases hF; rfl) (by cases hF; rfl) (Nat.le_of_ble_eq_true rfl) (Nat.le_of_ble_eq_true rfl)
        have hF := hR
        clear hR
        refine lq2_W (P := fun (v8 : Int32) (S9 : St) => Zz E (WM E a S9) 0 0 98 [(0, .ref (a 0)), (1, .int p1), (2, .int p2), (3, .int p3), (4, .int p4), (5, .int p5), (6, .int p6), (8, .int v8)] []) (fun next10 hN10 v8 S9 hF => ?_) _ _ _ hF
        unfold fX9_point_L98 at hF
        refine z_iload 7 (pc := 98) C dX9_point_98 rfl ?_
        refine z_iload 5 (pc := 100) C dX9_point_100 rfl ?_
        refine z_icmp_gt 130 (pc := 102) C dX9_point_102 (by decide) (fun c14 => ?_) (fun c14 => ?_)
        · have hF := if_t hF c14
          refine z_sub [0, 6] rfl ?_
          exact hJ13 _ hF
        · have hF := if_f hF c14
          refine z_aload_n 0 (pc := 105) C dX9_point_105 rfl rfl ?_
          refine z_iload_n 1 (pc := 106) C dX9_point_106 rfl rfl ?_
          refine z_iload_n 2 (pc := 107) C dX9_point_107 rfl rfl ?_
          refine z_iload_n 3 (pc := 108) C dX9_point_108 rfl rfl ?_
          refine z_iload 4 (pc := 109) C dX9_point_109 rfl ?_
          obtain ⟨v15', hR, hF⟩ := bn1_of hF
          have hJ19 : ∀ (v15 : Int32), (some v15 : Option (Int32)) = some v15' → Zz E (WM E a S9) 0 0 119 [(0, .ref (a 0)), (1, .int p1), (2, .int p2), (3, .int p3), (4, .int p4), (5, .int p5), (6, .int p6), (8, .int v8)] [.int v15, .int p3, .int p2, .int p1, .ref (a 0)] := by
            intro v15 hE
            have hE0 := Option.some.inj hE
            subst hE0
            refine z_iload 7 (pc := 119) C dX9_point_119 rfl ?_
            obtain ⟨S16, hG, hF⟩ := bn1_of hF
            refine z_callV [.int p1, .int p2, .int p3, .int v15, .int v8] (pc := 121) (st1 := []) (c1 := 0) (s1 := 0) C (mX9_go C.hT hG) kX9_180 (kdM_lt (rfl : kdM 0 = 9) (by decide)) (gM_9 (rfl : kdM 0 = 9)) rfl rfl rfl rfl (Nat.le_of_ble_eq_true rfl) ⟨(Nat.le_of_ble_eq_true rfl), (Nat.le_of_ble_eq_true rfl)⟩ ⟨(Nat.le_of_ble_eq_true rfl), (Nat.le_of_ble_eq_true rfl)⟩ dX9_point_121 rfl rfl ?_
            obtain ⟨v17, e18, hF⟩ := bv_of hF
            refine z_iinc 7 (pc := 124) (v := v17) (loc' := [(8, .int v17), (0, .ref (a 0)), (1, .int p1), (2, .int p2), (3, .int p3), (4, .int p4), (5, .int p5), (6, .int p6)]) C dX9_point_124 rfl (by rw [e18]; rfl) (by decide) rfl ?_
            refine z_goto 98 (pc := 127) C dX9_point_127 (by decide) ?_
            refine z_sub [1, 2, 3, 4, 5, 6, 7, 0] rfl ?_
            exact hN10 _ _ hF
          have hF := hR
          clear hR
          refine z_if_eq 118 (pc := 111) C dX9_point_111 (by decide) (fun c20 => ?_) (fun c20 => ?_)
          · have hF := if_t hF c20
            refine z_iconst (pc := 118) (v := (-1 : Int32)) C dX9_point_118 (by decide) ?_
            exact hJ19 _ hF
          · have hF := if_f hF c20
            refine z_iconst (pc := 114) (v := (1 : Int32)) C dX9_point_114 (by decide) ?_
            refine z_goto 119 (pc := 115) C dX9_point_115 (by decide) ?_
            exact hJ19 _ hF
      · have hF := if_t hF c6
        refine z_iconst (pc := 89) (v := (0 : Int32)) C dX9_point_89 (by decide) ?_
        exact z_iret (pc := 90) C hQ hr rfl dX9_point_90 (by cases hF; rfl) (by cases hF; rfl) (Nat.le_of_ble_eq_true rfl) (Nat.le_of_ble_eq_true rfl)
    have hF := hR
    clear hR
    refine z_if_ne 68 (pc := 61) C dX9_point_61 (by decide) (fun c22 => ?_) (fun c22 => ?_)
    · have hF := if_f hF c22
      refine z_aload_n 1 (pc := 68) C dX9_point_68 rfl rfl ?_
      refine z_iload_n 2 (pc := 69) C dX9_point_69 rfl rfl ?_
      refine z_iload_n 3 (pc := 70) C dX9_point_70 rfl rfl ?_
      refine z_iload_n 4 (pc := 71) C dX9_point_71 rfl rfl ?_
      obtain ⟨v23, hG, hF⟩ := bn1_of hF
      refine z_callV [.int p1, .int p2, .int p3] (pc := 72) (st1 := [.int v23, .ref (a 0)]) (c1 := 0) (s1 := 0) C (mX9_isDone C.hT hG) kX9_184 (kdM_lt (rfl : kdM 0 = 9) (by decide)) (gM_9 (rfl : kdM 0 = 9)) rfl rfl rfl rfl (Nat.le_of_ble_eq_true rfl) ⟨(Nat.le_of_ble_eq_true rfl), (Nat.le_of_ble_eq_true rfl)⟩ ⟨(Nat.le_of_ble_eq_true rfl), (Nat.le_of_ble_eq_true rfl)⟩ dX9_point_72 rfl rfl ?_
      refine z_if_eq 82 (pc := 75) C dX9_point_75 (by decide) (fun c24 => ?_) (fun c24 => ?_)
      · have hF := if_t hF c24
        refine z_iconst (pc := 82) (v := (2 : Int32)) C dX9_point_82 (by decide) ?_
        refine z_sub [1, 2, 3, 4, 5, 6, 7] rfl ?_
        exact hJ21 _ hF
      · have hF := if_f hF c24
        refine z_iconst (pc := 78) (v := (0 : Int32)) C dX9_point_78 (by decide) ?_
        refine z_goto 83 (pc := 79) C dX9_point_79 (by decide) ?_
        refine z_sub [1, 2, 3, 4, 5, 6, 7] rfl ?_
        exact hJ21 _ hF
    · have hF := if_t hF c22
      refine z_iconst (pc := 64) (v := (1 : Int32)) C dX9_point_64 (by decide) ?_
      refine z_goto 83 (pc := 65) C dX9_point_65 (by decide) ?_
      refine z_sub [1, 2, 3, 4, 5, 6, 7] rfl ?_
      exact hJ21 _ hF
  have hF := hR
  clear hR
  obtain ⟨J26, hdJ26, hF⟩ := jn0_of hF
  have hJ26 : J26 = some v2' → Zz E (WM E a S) 0 0 55 [(0, .ref (a 0)), (1, .int p1), (2, .int p2), (3, .int p3), (4, .int p4), (5, .int p5), (6, .int p6)] [] := by
    intro hF
    have hF := hdJ26.symm.trans hF
    refine z_iconst (pc := 55) (v := (0 : Int32)) C dX9_point_55 (by decide) ?_
    exact hJ25 _ hF
  refine z_if_eq 55 (pc := 5) C dX9_point_5 (by decide) (fun c27 => ?_) (fun c27 => ?_)
  · have hF := if_t hF c27
    exact hJ26 hF
  · have hF := if_f hF c27
    refine z_iload_n 3 (pc := 8) C dX9_point_8 rfl rfl ?_
    refine z_iconst (pc := 9) (v := (0 : Int32)) C dX9_point_9 (by decide) ?_
    refine z_aload_n 0 (pc := 10) C dX9_point_10 rfl rfl ?_
    refine gfX9_16 (pc := 11) C (rfl : kdM 0 = 9) dX9_point_11 ?_
    refine z_iload_n 1 (pc := 14) C dX9_point_14 rfl rfl ?_
    obtain ⟨g28, hF⟩ := gd_of hF
    refine iaM8 (pc := 15) C (rfl : kdM 3 = 28) g28 dX9_point_15 ?_
    refine z_iconst (pc := 16) (v := (2 : Int32)) C dX9_point_16 (by decide) ?_
    refine z_isub (pc := 17) C dX9_point_17 ?_
    obtain ⟨v29, hG, hF⟩ := bn1_of hF
    refine z_callS [.int p3, .int (0 : Int32), .int ((gi S 3 p1.toNatClampNeg) - (2 : Int32))] (pc := 18) (st1 := [.int v29]) (c1 := 0) (s1 := 0) C (mX9_in C.hT hG) kX9_113 rfl rfl rfl rfl (Nat.le_of_ble_eq_true rfl) ⟨(Nat.le_of_ble_eq_true rfl), (Nat.le_of_ble_eq_true rfl)⟩ ⟨(Nat.le_of_ble_eq_true rfl), (Nat.le_of_ble_eq_true rfl)⟩ dX9_point_18 rfl rfl ?_
    refine z_if_eq 55 (pc := 21) C dX9_point_21 (by decide) (fun c30 => ?_) (fun c30 => ?_)
    · have hF := if_t hF c30
      exact hJ26 hF
    · have hF := if_f hF c30
      refine z_iload 5 (pc := 24) C dX9_point_24 rfl ?_
      refine z_iconst (pc := 26) (v := (0 : Int32)) C dX9_point_26 (by decide) ?_
      refine z_aload_n 0 (pc := 27) C dX9_point_27 rfl rfl ?_
      refine z_iload_n 1 (pc := 28) C dX9_point_28 rfl rfl ?_
      refine z_iload_n 3 (pc := 29) C dX9_point_29 rfl rfl ?_
      refine z_iload 4 (pc := 30) C dX9_point_30 rfl ?_
      obtain ⟨v31', hR, hF⟩ := bn1_of hF
      have hJ35 : ∀ (v31 : Int32), (some v31 : Option (Int32)) = some v31' → Zz E (WM E a S) 0 0 40 [(0, .ref (a 0)), (1, .int p1), (2, .int p2), (3, .int p3), (4, .int p4), (5, .int p5), (6, .int p6)] [.int v31, .int p3, .int p1, .ref (a 0), .int (0 : Int32), .int p5] := by
        intro v31 hE
        have hE0 := Option.some.inj hE
        subst hE0
        obtain ⟨v32, hG, hF⟩ := bn1_of hF
        refine z_callV [.int p1, .int p3, .int v31] (pc := 40) (st1 := [.int v32, .int (0 : Int32), .int p5]) (c1 := 0) (s1 := 0) C (mX9_wing C.hT hG) kX9_176 (kdM_lt (rfl : kdM 0 = 9) (by decide)) (gM_9 (rfl : kdM 0 = 9)) rfl rfl rfl rfl (Nat.le_of_ble_eq_true rfl) ⟨(Nat.le_of_ble_eq_true rfl), (Nat.le_of_ble_eq_true rfl)⟩ ⟨(Nat.le_of_ble_eq_true rfl), (Nat.le_of_ble_eq_true rfl)⟩ dX9_point_40 rfl rfl ?_
        refine z_iconst (pc := 43) (v := (1 : Int32)) C dX9_point_43 (by decide) ?_
        refine z_isub (pc := 44) C dX9_point_44 ?_
        obtain ⟨v33, hG, hF⟩ := bn1_of hF
        refine z_callS [.int p5, .int (0 : Int32), .int (v32 - (1 : Int32))] (pc := 45) (st1 := [.int v33]) (c1 := 0) (s1 := 0) C (mX9_in C.hT hG) kX9_113 rfl rfl rfl rfl (Nat.le_of_ble_eq_true rfl) ⟨(Nat.le_of_ble_eq_true rfl), (Nat.le_of_ble_eq_true rfl)⟩ ⟨(Nat.le_of_ble_eq_true rfl), (Nat.le_of_ble_eq_true rfl)⟩ dX9_point_45 rfl rfl ?_
        refine z_if_eq 55 (pc := 48) C dX9_point_48 (by decide) (fun c34 => ?_) (fun c34 => ?_)
        · have hF := if_t hF c34
          exact hJ26 hF
        · have hF := if_f hF c34
          refine z_iconst (pc := 51) (v := (1 : Int32)) C dX9_point_51 (by decide) ?_
          refine z_goto 56 (pc := 52) C dX9_point_52 (by decide) ?_
          exact hJ25 _ hF
      have hF := hR
      clear hR
      refine z_if_eq 39 (pc := 32) C dX9_point_32 (by decide) (fun c36 => ?_) (fun c36 => ?_)
      · have hF := if_t hF c36
        refine z_iconst (pc := 39) (v := (-1 : Int32)) C dX9_point_39 (by decide) ?_
        exact hJ35 _ hF
      · have hF := if_f hF c36
        refine z_iconst (pc := 35) (v := (1 : Int32)) C dX9_point_35 (by decide) ?_
        refine z_goto 40 (pc := 36) C dX9_point_36 (by decide) ?_
        exact hJ35 _ hF
def fX9_redraw_L134 (p1 : Int32) (v9 : Int32) (v7 : Int32) (next18 : Int32 → Int32 → St → Option (Int32 × St)) (v15 : Int32) (v16 : Int32) (S17 : St) : Option (Int32 × St) :=
  if (gi S17 0 23) ≤ v16 then (
    some (v15, S17))
  else (
    gd (inb v16 20) (
    bn2 (if (gi S17 20 v16.toNatClampNeg) = p1 then (
      gd (inb v16 20) (
      if (gi S17 23 v16.toNatClampNeg) = (3 : Int32) then (
        some (v15, S17))
      else (
        gd (inb v16 20) (
        bn1 (if (gi S17 23 v16.toNatClampNeg) = 0 then (
          jn0 (
            some (0 : Int32)) (fun J57 =>
            if v9 = 0 then (
              J57)
            else (
              gd (inb v16 20) (
              gd (inb v16 20) (
              bn1 (fX9_blankBy S17 p1 (gi S17 21 v16.toNatClampNeg)) (fun (v61 : Int32) =>
              if (gi S17 25 v16.toNatClampNeg) = v61 then (
                some (1 : Int32))
              else (
                J57)))))))
        else (
          some v7)) (fun (v33 : Int32) =>
          bn1 (if v33 = 0 then (
            gd (inb v16 20) (
            some (gi S17 24 v16.toNatClampNeg)))
          else (
            gd (inb p1 8) (
            some (gi S17 8 p1.toNatClampNeg)))) (fun (v34 : Int32) =>
            gd (inb v16 20) (
            bv (si S17 24 v16.toNatClampNeg v34) (fun (S36 : St) =>
            bn1 (if v33 = 0 then (
              some (3 : Int32))
            else (
              gd (inb v16 20) (
              some (gi S36 23 v16.toNatClampNeg)))) (fun (v38 : Int32) =>
              gd (inb v16 20) (
              bv (si S36 23 v16.toNatClampNeg v38) (fun (S40 : St) =>
              bn1 (if v33 = 0 then (
                gd (inb v16 20) (
                some (gi S40 22 v16.toNatClampNeg)))
              else (
                some (0 : Int32))) (fun (v42 : Int32) =>
                bv ((v15 + v42)) (fun (v43 : Int32) =>
                some (v43, S40))))))))))))))
    else (
      some (v15, S17))) (fun (v24 : Int32) (S25 : St) =>
      bv (v16 + 1) (fun (v26 : Int32) =>
      next18 v24 v26 S25))))
def fX9_redraw (S : St) (p1 : Int32) (p2 : Int32) (p3 : Int32) : Option ((Int32 × St)) :=
  bn1 (fX9_isPart S p1) (fun (v1 : Int32) =>
  bn1 (if v1 = 0 then (
    some (1 : Int32))
  else (
    bn1 (fX9_isSheet p2 p3) (fun (v77 : Int32) =>
    if v77 = 0 then (
      some (2 : Int32))
    else (
      if (gi S 0 1) = 0 then (
        some (3 : Int32))
      else (
        some (0 : Int32)))))) (fun (v2 : Int32) =>
    bn2 (fX9_goesWell S v2) (fun (v3 : Int32) (S4 : St) =>
    if v3 = 0 then (
      some ((0 : Int32), S4))
    else (
      bn1 (fX9_isSame S4 p1 p2 p3) (fun (v6 : Int32) =>
      bn1 (jn0 (
        some (0 : Int32)) (fun J71 =>
        if v6 = 0 then (
          J71)
        else (
          gd (inb p1 8) (
          if (gi S4 9 p1.toNatClampNeg) = 0 then (
            some (1 : Int32))
          else (
            J71))))) (fun (v7 : Int32) =>
        gd (inb p1 8) (
        bn1 (jn0 (
          some (0 : Int32)) (fun J64 =>
          if (gi S4 6 p1.toNatClampNeg) = p2 then (
            gd (inb p1 8) (
            if (gi S4 7 p1.toNatClampNeg) = p3 then (
              gd (inb p1 8) (
              if (gi S4 9 p1.toNatClampNeg) = 0 then (
                some (1 : Int32))
              else (
                J64)))
            else (
              J64)))
          else (
            J64))) (fun (v9 : Int32) =>
          bn1 (fX9_draw S4 p1 p2 p3) (fun (S10 : St) =>
          gd (inb p1 8) (
          gd (inb p1 8) (
          bv (si S10 8 p1.toNatClampNeg ((gi S10 8 p1.toNatClampNeg) + (1 : Int32))) (fun (S13 : St) =>
          bn2 (lq3 (fX9_redraw_L134 p1 v9 v7) 200 (0 : Int32) (0 : Int32) S13) (fun (v19 : Int32) (S20 : St) =>
            some (v19, S20))))))))))))))
abbrev rmX9_redraw : Room := { frames := 8, cells := 0, slots := 0, locals := 170 }
set_option maxRecDepth 100000 in
set_option maxHeartbeats 4000000 in
theorem mX9_redraw {l : Launch} {D : va_G} {cs : Nat → ClassId} {a : Nat → Nat} (hT : l.stackTraces = false) {S : St} {p1 : Int32} {p2 : Int32} {p3 : Int32} {r : Int32} {S' : St} (hF : fX9_redraw S p1 p2 p3 = some (r, S')) : MX l 33 GM D cs a yX9_redraw cX9_redraw 10 (some .int) rmX9_redraw [.ref (a 0), .int p1, .int p2, .int p3] S (.inr (some (.int r))) S' := by
  refine zm_entry [(0, .ref (a 0)), (1, .int p1), (2, .int p2), (3, .int p3)] hT (by decide +kernel) (Nat.le_of_ble_eq_true rfl) rfl (fun E hEl hED hEk C hQ hr => ?_)
  subst hEl
  subst hED
  subst hEk
  unfold fX9_redraw at hF
  refine z_aload_n 0 (pc := 0) C dX9_redraw_0 rfl rfl ?_
  refine z_iload_n 1 (pc := 1) C dX9_redraw_1 rfl rfl ?_
  obtain ⟨v1, hG, hF⟩ := bn1_of hF
  refine z_callV [.int p1] (pc := 2) (st1 := [.int v1]) (c1 := 0) (s1 := 0) C (mX9_isPart C.hT hG) kX9_138 (kdM_lt (rfl : kdM 0 = 9) (by decide)) (gM_9 (rfl : kdM 0 = 9)) rfl rfl rfl rfl (Nat.le_of_ble_eq_true rfl) ⟨(Nat.le_of_ble_eq_true rfl), (Nat.le_of_ble_eq_true rfl)⟩ ⟨(Nat.le_of_ble_eq_true rfl), (Nat.le_of_ble_eq_true rfl)⟩ dX9_redraw_2 rfl rfl ?_
  refine z_istore (pc := 5) (loc' := [(4, .int v1), (0, .ref (a 0)), (1, .int p1), (2, .int p2), (3, .int p3)]) C dX9_redraw_5 (by decide) rfl ?_
  refine z_aload_n 1 (pc := 7) C dX9_redraw_7 rfl rfl ?_
  refine z_iload 0 (pc := 8) C dX9_redraw_8 rfl ?_
  obtain ⟨v2', hR, hF⟩ := bn1_of hF
  have hJ75 : ∀ (v2 : Int32), (some v2 : Option (Int32)) = some v2' → Zz E (WM E a S) 0 0 41 [(0, .ref (a 0)), (1, .int p1), (2, .int p2), (3, .int p3)] [.int v2, .ref (a 0)] := by
    intro v2 hE
    have hE0 := Option.some.inj hE
    subst hE0
    obtain ⟨v3, S4, hG, hF⟩ := bn2_of hF
    refine z_callV [.int v2] (pc := 41) (st1 := [.int v3]) (c1 := 0) (s1 := 0) C (mX9_goesWell C.hT hG) kX9_126 (kdM_lt (rfl : kdM 0 = 9) (by decide)) (gM_9 (rfl : kdM 0 = 9)) rfl rfl rfl rfl (Nat.le_of_ble_eq_true rfl) ⟨(Nat.le_of_ble_eq_true rfl), (Nat.le_of_ble_eq_true rfl)⟩ ⟨(Nat.le_of_ble_eq_true rfl), (Nat.le_of_ble_eq_true rfl)⟩ dX9_redraw_41 rfl rfl ?_
    refine z_if_ne 49 (pc := 44) C dX9_redraw_44 (by decide) (fun c5 => ?_) (fun c5 => ?_)
    · have hF := if_f hF c5
      refine z_aload_n 0 (pc := 49) C dX9_redraw_49 rfl rfl ?_
      refine z_iload_n 1 (pc := 50) C dX9_redraw_50 rfl rfl ?_
      refine z_iload_n 2 (pc := 51) C dX9_redraw_51 rfl rfl ?_
      refine z_iload_n 3 (pc := 52) C dX9_redraw_52 rfl rfl ?_
      obtain ⟨v6, hG, hF⟩ := bn1_of hF
      refine z_callV [.int p1, .int p2, .int p3] (pc := 53) (st1 := [.int v6]) (c1 := 0) (s1 := 0) C (mX9_isSame C.hT hG) kX9_141 (kdM_lt (rfl : kdM 0 = 9) (by decide)) (gM_9 (rfl : kdM 0 = 9)) rfl rfl rfl rfl (Nat.le_of_ble_eq_true rfl) ⟨(Nat.le_of_ble_eq_true rfl), (Nat.le_of_ble_eq_true rfl)⟩ ⟨(Nat.le_of_ble_eq_true rfl), (Nat.le_of_ble_eq_true rfl)⟩ dX9_redraw_53 rfl rfl ?_
      obtain ⟨v7', hR, hF⟩ := bn1_of hF
      have hJ70 : ∀ (v7 : Int32), (some v7 : Option (Int32)) = some v7' → Zz E (WM E a S4) 0 0 73 [(0, .ref (a 0)), (1, .int p1), (2, .int p2), (3, .int p3)] [.int v7] := by
        intro v7 hE
        have hE0 := Option.some.inj hE
        subst hE0
        refine z_istore (pc := 73) (loc' := [(5, .int v7), (0, .ref (a 0)), (1, .int p1), (2, .int p2), (3, .int p3)]) C dX9_redraw_73 (by decide) rfl ?_
        refine z_aload_n 1 (pc := 75) C dX9_redraw_75 rfl rfl ?_
        refine gfX9_25 (pc := 76) C (rfl : kdM 0 = 9) dX9_redraw_76 ?_
        refine z_iload_n 2 (pc := 79) C dX9_redraw_79 rfl rfl ?_
        obtain ⟨g8, hF⟩ := gd_of hF
        refine iaM8 (pc := 80) C (rfl : kdM 6 = 28) g8 dX9_redraw_80 ?_
        refine z_iload_n 3 (pc := 81) C dX9_redraw_81 rfl rfl ?_
        obtain ⟨v9', hR, hF⟩ := bn1_of hF
        have hJ63 : ∀ (v9 : Int32), (some v9 : Option (Int32)) = some v9' → Zz E (WM E a S4) 0 0 109 [(0, .ref (a 0)), (1, .int p1), (2, .int p2), (3, .int p3), (5, .int v7)] [.int v9] := by
          intro v9 hE
          have hE0 := Option.some.inj hE
          subst hE0
          refine z_istore (pc := 109) (loc' := [(6, .int v9), (0, .ref (a 0)), (1, .int p1), (2, .int p2), (3, .int p3), (5, .int v7)]) C dX9_redraw_109 (by decide) rfl ?_
          refine z_aload_n 1 (pc := 111) C dX9_redraw_111 rfl rfl ?_
          refine z_iload_n 2 (pc := 112) C dX9_redraw_112 rfl rfl ?_
          refine z_iload_n 3 (pc := 113) C dX9_redraw_113 rfl rfl ?_
          refine z_iload_n 4 (pc := 114) C dX9_redraw_114 rfl rfl ?_
          obtain ⟨S10, hG, hF⟩ := bn1_of hF
          refine z_callV [.int p1, .int p2, .int p3] (pc := 115) (st1 := []) (c1 := 0) (s1 := 0) C (mX9_draw C.hT hG) kX9_134 (kdM_lt (rfl : kdM 0 = 9) (by decide)) (gM_9 (rfl : kdM 0 = 9)) rfl rfl rfl rfl (Nat.le_of_ble_eq_true rfl) ⟨(Nat.le_of_ble_eq_true rfl), (Nat.le_of_ble_eq_true rfl)⟩ ⟨(Nat.le_of_ble_eq_true rfl), (Nat.le_of_ble_eq_true rfl)⟩ dX9_redraw_115 rfl rfl ?_
          refine z_aload_n 1 (pc := 118) C dX9_redraw_118 rfl rfl ?_
          refine gfX9_31 (pc := 119) C (rfl : kdM 0 = 9) dX9_redraw_119 ?_
          refine z_iload_n 2 (pc := 122) C dX9_redraw_122 rfl rfl ?_
          refine z_dup2 (pc := 123) C dX9_redraw_123 rfl rfl ?_
          obtain ⟨g11, hF⟩ := gd_of hF
          refine iaM8 (pc := 124) C (rfl : kdM 8 = 28) g11 dX9_redraw_124 ?_
          refine z_iconst (pc := 125) (v := (1 : Int32)) C dX9_redraw_125 (by decide) ?_
          refine z_iadd (pc := 126) C dX9_redraw_126 ?_
          obtain ⟨g12, hF⟩ := gd_of hF
          refine saM8 (pc := 127) C (rfl : kdM 8 = 28) g12 dX9_redraw_127 ?_
          obtain ⟨S13, e14, hF⟩ := bv_of hF
          rw [← e14]
          refine z_iconst (pc := 128) (v := (0 : Int32)) C dX9_redraw_128 (by decide) ?_
          refine z_istore (pc := 129) (loc' := [(7, .int (0 : Int32)), (6, .int v9), (0, .ref (a 0)), (1, .int p1), (2, .int p2), (3, .int p3), (5, .int v7)]) C dX9_redraw_129 (by decide) rfl ?_
          refine z_iconst (pc := 131) (v := (0 : Int32)) C dX9_redraw_131 (by decide) ?_
          refine z_istore (pc := 132) (loc' := [(8, .int (0 : Int32)), (7, .int (0 : Int32)), (6, .int v9), (0, .ref (a 0)), (1, .int p1), (2, .int p2), (3, .int p3), (5, .int v7)]) C dX9_redraw_132 (by decide) rfl ?_
          refine z_sub [3, 4, 7, 2, 1, 0] rfl ?_
          obtain ⟨v19', S20', hR, hF⟩ := bn2_of hF
          have hJ21 : ∀ (v19 : Int32) (S20 : St), (some (v19, S20) : Option (Int32 × St)) = some (v19', S20') → Zz E (WM E a S20) 0 0 292 [(7, .int v19)] [] := by
            intro v19 S20 hE
            have hE0 := Option.some.inj hE
            obtain ⟨hA0, hE1⟩ := Prod.mk.inj hE0
            subst hA0
            subst hE1
            refine z_iload 0 (pc := 292) C dX9_redraw_292 rfl ?_
            exact z_iret (pc := 294) C hQ hr rfl dX9_redraw_294 (by cases hF; rfl) (by cases hF; rfl) (Nat.le_of_ble_eq_true rfl) (Nat.le_of_ble_eq_true rfl)
          have hF := hR
          clear hR
          refine lq3_W (P := fun (v15 : Int32) (v16 : Int32) (S17 : St) => Zz E (WM E a S17) 0 0 134 [(0, .ref (a 0)), (1, .int p1), (5, .int v7), (6, .int v9), (7, .int v15), (8, .int v16)] []) (fun next18 hN18 v15 v16 S17 hF => ?_) _ _ _ _ hF
          unfold fX9_redraw_L134 at hF
          refine z_iload 5 (pc := 134) C dX9_redraw_134 rfl ?_
          refine z_aload_n 0 (pc := 136) C dX9_redraw_136 rfl rfl ?_
          refine gfX9_120 (pc := 137) C (rfl : kdM 0 = 9) dX9_redraw_137 ?_
          refine z_icmp_ge 292 (pc := 140) C dX9_redraw_140 (by decide) (fun c22 => ?_) (fun c22 => ?_)
          · have hF := if_t hF c22
            refine z_sub [4] rfl ?_
            exact hJ21 _ _ hF
          · have hF := if_f hF c22
            refine z_aload_n 0 (pc := 143) C dX9_redraw_143 rfl rfl ?_
            refine gfX9_67 (pc := 144) C (rfl : kdM 0 = 9) dX9_redraw_144 ?_
            refine z_iload 5 (pc := 147) C dX9_redraw_147 rfl ?_
            obtain ⟨g23, hF⟩ := gd_of hF
            refine iaM20 (pc := 149) C (rfl : kdM 20 = 40) g23 dX9_redraw_149 ?_
            refine z_iload_n 1 (pc := 150) C dX9_redraw_150 rfl rfl ?_
            obtain ⟨v24', S25', hR, hF⟩ := bn2_of hF
            have hJ28 : ∀ (v24 : Int32) (S25 : St), (some (v24, S25) : Option (Int32 × St)) = some (v24', S25') → Zz E (WM E a S25) 0 0 286 [(0, .ref (a 0)), (1, .int p1), (5, .int v7), (6, .int v9), (7, .int v24), (8, .int v16)] [] := by
              intro v24 S25 hE
              have hE0 := Option.some.inj hE
              obtain ⟨hA0, hE1⟩ := Prod.mk.inj hE0
              subst hA0
              subst hE1
              obtain ⟨v26, e27, hF⟩ := bv_of hF
              refine z_iinc 5 (pc := 286) (v := v26) (loc' := [(8, .int v26), (0, .ref (a 0)), (1, .int p1), (5, .int v7), (6, .int v9), (7, .int v24)]) C dX9_redraw_286 rfl (by rw [e27]; rfl) (by decide) rfl ?_
              refine z_goto 134 (pc := 289) C dX9_redraw_289 (by decide) ?_
              refine z_sub [1, 2, 3, 4, 5, 0] rfl ?_
              exact hN18 _ _ _ hF
            have hF := hR
            clear hR
            refine z_icmp_ne 286 (pc := 151) C dX9_redraw_151 (by decide) (fun c29 => ?_) (fun c29 => ?_)
            · have hF := if_f hF c29
              exact hJ28 _ _ hF
            · have hF := if_t hF c29
              refine z_aload_n 0 (pc := 154) C dX9_redraw_154 rfl rfl ?_
              refine gfX9_76 (pc := 155) C (rfl : kdM 0 = 9) dX9_redraw_155 ?_
              refine z_iload 5 (pc := 158) C dX9_redraw_158 rfl ?_
              obtain ⟨g30, hF⟩ := gd_of hF
              refine iaM20 (pc := 160) C (rfl : kdM 23 = 40) g30 dX9_redraw_160 ?_
              refine z_iconst (pc := 161) (v := (3 : Int32)) C dX9_redraw_161 (by decide) ?_
              refine z_icmp_eq 286 (pc := 162) C dX9_redraw_162 (by decide) (fun c31 => ?_) (fun c31 => ?_)
              · have hF := if_t hF c31
                exact hJ28 _ _ hF
              · have hF := if_f hF c31
                refine z_aload_n 0 (pc := 165) C dX9_redraw_165 rfl rfl ?_
                refine gfX9_76 (pc := 166) C (rfl : kdM 0 = 9) dX9_redraw_166 ?_
                refine z_iload 5 (pc := 169) C dX9_redraw_169 rfl ?_
                obtain ⟨g32, hF⟩ := gd_of hF
                refine iaM20 (pc := 171) C (rfl : kdM 23 = 40) g32 dX9_redraw_171 ?_
                obtain ⟨v33', hR, hF⟩ := bn1_of hF
                have hJ55 : ∀ (v33 : Int32), (some v33 : Option (Int32)) = some v33' → Zz E (WM E a S17) 0 0 212 [(0, .ref (a 0)), (1, .int p1), (5, .int v7), (6, .int v9), (7, .int v15), (8, .int v16)] [.int v33] := by
                  intro v33 hE
                  have hE0 := Option.some.inj hE
                  subst hE0
                  refine z_istore (pc := 212) (loc' := [(9, .int v33), (0, .ref (a 0)), (1, .int p1), (5, .int v7), (6, .int v9), (7, .int v15), (8, .int v16)]) C dX9_redraw_212 (by decide) rfl ?_
                  refine z_aload_n 1 (pc := 214) C dX9_redraw_214 rfl rfl ?_
                  refine gfX9_79 (pc := 215) C (rfl : kdM 0 = 9) dX9_redraw_215 ?_
                  refine z_iload 6 (pc := 218) C dX9_redraw_218 rfl ?_
                  refine z_iload 0 (pc := 220) C dX9_redraw_220 rfl ?_
                  obtain ⟨v34', hR, hF⟩ := bn1_of hF
                  have hJ51 : ∀ (v34 : Int32), (some v34 : Option (Int32)) = some v34' → Zz E (WM E a S17) 0 0 241 [(0, .ref (a 0)), (1, .int p1), (5, .int v7), (6, .int v9), (7, .int v15), (8, .int v16), (9, .int v33)] [.int v34, .int v16, .ref (a 24)] := by
                    intro v34 hE
                    have hE0 := Option.some.inj hE
                    subst hE0
                    obtain ⟨g35, hF⟩ := gd_of hF
                    refine saM20 (pc := 241) C (rfl : kdM 24 = 40) g35 dX9_redraw_241 ?_
                    obtain ⟨S36, e37, hF⟩ := bv_of hF
                    rw [← e37]
                    refine z_aload_n 0 (pc := 242) C dX9_redraw_242 rfl rfl ?_
                    refine gfX9_76 (pc := 243) C (rfl : kdM 0 = 9) dX9_redraw_243 ?_
                    refine z_iload 5 (pc := 246) C dX9_redraw_246 rfl ?_
                    refine z_iload 6 (pc := 248) C dX9_redraw_248 rfl ?_
                    obtain ⟨v38', hR, hF⟩ := bn1_of hF
                    have hJ48 : ∀ (v38 : Int32), (some v38 : Option (Int32)) = some v38' → Zz E (WM E a S36) 0 0 264 [(0, .ref (a 0)), (1, .int p1), (5, .int v7), (6, .int v9), (7, .int v15), (8, .int v16), (9, .int v33)] [.int v38, .int v16, .ref (a 23)] := by
                      intro v38 hE
                      have hE0 := Option.some.inj hE
                      subst hE0
                      obtain ⟨g39, hF⟩ := gd_of hF
                      refine saM20 (pc := 264) C (rfl : kdM 23 = 40) g39 dX9_redraw_264 ?_
                      obtain ⟨S40, e41, hF⟩ := bv_of hF
                      rw [← e41]
                      refine z_iload 4 (pc := 265) C dX9_redraw_265 rfl ?_
                      refine z_iload 6 (pc := 267) C dX9_redraw_267 rfl ?_
                      obtain ⟨v42', hR, hF⟩ := bn1_of hF
                      have hJ45 : ∀ (v42 : Int32), (some v42 : Option (Int32)) = some v42' → Zz E (WM E a S40) 0 0 283 [(0, .ref (a 0)), (1, .int p1), (5, .int v7), (6, .int v9), (8, .int v16)] [.int v42, .int v15] := by
                        intro v42 hE
                        have hE0 := Option.some.inj hE
                        subst hE0
                        refine z_iadd (pc := 283) C dX9_redraw_283 ?_
                        obtain ⟨v43, e44, hF⟩ := bv_of hF
                        refine z_topi e44 ?_
                        refine z_istore (pc := 284) (loc' := [(7, .int v43), (0, .ref (a 0)), (1, .int p1), (5, .int v7), (6, .int v9), (8, .int v16)]) C dX9_redraw_284 (by decide) rfl ?_
                        refine z_sub [1, 2, 3, 4, 0, 5] rfl ?_
                        exact hJ28 _ _ hF
                      have hF := hR
                      clear hR
                      refine z_if_eq 276 (pc := 269) C dX9_redraw_269 (by decide) (fun c46 => ?_) (fun c46 => ?_)
                      · have hF := if_t hF c46
                        refine z_aload_n 0 (pc := 276) C dX9_redraw_276 rfl rfl ?_
                        refine gfX9_73 (pc := 277) C (rfl : kdM 0 = 9) dX9_redraw_277 ?_
                        refine z_iload 5 (pc := 280) C dX9_redraw_280 rfl ?_
                        obtain ⟨g47, hF⟩ := gd_of hF
                        refine iaM20 (pc := 282) C (rfl : kdM 22 = 40) g47 dX9_redraw_282 ?_
                        refine z_sub [0, 1, 2, 3, 5] rfl ?_
                        exact hJ45 _ hF
                      · have hF := if_f hF c46
                        refine z_iconst (pc := 272) (v := (0 : Int32)) C dX9_redraw_272 (by decide) ?_
                        refine z_goto 283 (pc := 273) C dX9_redraw_273 (by decide) ?_
                        refine z_sub [0, 1, 2, 3, 5] rfl ?_
                        exact hJ45 _ hF
                    have hF := hR
                    clear hR
                    refine z_if_eq 263 (pc := 250) C dX9_redraw_250 (by decide) (fun c49 => ?_) (fun c49 => ?_)
                    · have hF := if_t hF c49
                      refine z_iconst (pc := 263) (v := (3 : Int32)) C dX9_redraw_263 (by decide) ?_
                      exact hJ48 _ hF
                    · have hF := if_f hF c49
                      refine z_aload_n 0 (pc := 253) C dX9_redraw_253 rfl rfl ?_
                      refine gfX9_76 (pc := 254) C (rfl : kdM 0 = 9) dX9_redraw_254 ?_
                      refine z_iload 5 (pc := 257) C dX9_redraw_257 rfl ?_
                      obtain ⟨g50, hF⟩ := gd_of hF
                      refine iaM20 (pc := 259) C (rfl : kdM 23 = 40) g50 dX9_redraw_259 ?_
                      refine z_goto 264 (pc := 260) C dX9_redraw_260 (by decide) ?_
                      exact hJ48 _ hF
                  have hF := hR
                  clear hR
                  refine z_if_eq 234 (pc := 222) C dX9_redraw_222 (by decide) (fun c52 => ?_) (fun c52 => ?_)
                  · have hF := if_t hF c52
                    refine z_aload_n 1 (pc := 234) C dX9_redraw_234 rfl rfl ?_
                    refine gfX9_79 (pc := 235) C (rfl : kdM 0 = 9) dX9_redraw_235 ?_
                    refine z_iload 6 (pc := 238) C dX9_redraw_238 rfl ?_
                    obtain ⟨g53, hF⟩ := gd_of hF
                    refine iaM20 (pc := 240) C (rfl : kdM 24 = 40) g53 dX9_redraw_240 ?_
                    refine z_sub [1, 2, 3, 4, 5, 6, 0] rfl ?_
                    exact hJ51 _ hF
                  · have hF := if_f hF c52
                    refine z_aload_n 1 (pc := 225) C dX9_redraw_225 rfl rfl ?_
                    refine gfX9_31 (pc := 226) C (rfl : kdM 0 = 9) dX9_redraw_226 ?_
                    refine z_iload_n 2 (pc := 229) C dX9_redraw_229 rfl rfl ?_
                    obtain ⟨g54, hF⟩ := gd_of hF
                    refine iaM8 (pc := 230) C (rfl : kdM 8 = 28) g54 dX9_redraw_230 ?_
                    refine z_goto 241 (pc := 231) C dX9_redraw_231 (by decide) ?_
                    refine z_sub [1, 2, 3, 4, 5, 6, 0] rfl ?_
                    exact hJ51 _ hF
                have hF := hR
                clear hR
                refine z_if_ne 210 (pc := 172) C dX9_redraw_172 (by decide) (fun c56 => ?_) (fun c56 => ?_)
                · have hF := if_f hF c56
                  refine z_iload 2 (pc := 210) C dX9_redraw_210 rfl ?_
                  exact hJ55 _ hF
                · have hF := if_t hF c56
                  refine z_iload 3 (pc := 175) C dX9_redraw_175 rfl ?_
                  obtain ⟨J57, hdJ57, hF⟩ := jn0_of hF
                  have hJ57 : J57 = some v33' → Zz E (WM E a S17) 0 0 206 [(0, .ref (a 0)), (1, .int p1), (5, .int v7), (6, .int v9), (7, .int v15), (8, .int v16)] [] := by
                    intro hF
                    have hF := hdJ57.symm.trans hF
                    refine z_iconst (pc := 206) (v := (0 : Int32)) C dX9_redraw_206 (by decide) ?_
                    refine z_goto 212 (pc := 207) C dX9_redraw_207 (by decide) ?_
                    exact hJ55 _ hF
                  refine z_if_eq 206 (pc := 177) C dX9_redraw_177 (by decide) (fun c58 => ?_) (fun c58 => ?_)
                  · have hF := if_t hF c58
                    exact hJ57 hF
                  · have hF := if_f hF c58
                    refine z_aload_n 0 (pc := 180) C dX9_redraw_180 rfl rfl ?_
                    refine gfX9_82 (pc := 181) C (rfl : kdM 0 = 9) dX9_redraw_181 ?_
                    refine z_iload 5 (pc := 184) C dX9_redraw_184 rfl ?_
                    obtain ⟨g59, hF⟩ := gd_of hF
                    refine iaM20 (pc := 186) C (rfl : kdM 25 = 40) g59 dX9_redraw_186 ?_
                    refine z_aload_n 0 (pc := 187) C dX9_redraw_187 rfl rfl ?_
                    refine z_iload_n 1 (pc := 188) C dX9_redraw_188 rfl rfl ?_
                    refine z_aload_n 0 (pc := 189) C dX9_redraw_189 rfl rfl ?_
                    refine gfX9_70 (pc := 190) C (rfl : kdM 0 = 9) dX9_redraw_190 ?_
                    refine z_iload 5 (pc := 193) C dX9_redraw_193 rfl ?_
                    obtain ⟨g60, hF⟩ := gd_of hF
                    refine iaM20 (pc := 195) C (rfl : kdM 21 = 40) g60 dX9_redraw_195 ?_
                    obtain ⟨v61, hG, hF⟩ := bn1_of hF
                    refine z_callV [.int p1, .int (gi S17 21 v16.toNatClampNeg)] (pc := 196) (st1 := [.int v61, .int (gi S17 25 v16.toNatClampNeg)]) (c1 := 0) (s1 := 0) C (mX9_blankBy C.hT hG) kX9_144 (kdM_lt (rfl : kdM 0 = 9) (by decide)) (gM_9 (rfl : kdM 0 = 9)) rfl rfl rfl rfl (Nat.le_of_ble_eq_true rfl) ⟨(Nat.le_of_ble_eq_true rfl), (Nat.le_of_ble_eq_true rfl)⟩ ⟨(Nat.le_of_ble_eq_true rfl), (Nat.le_of_ble_eq_true rfl)⟩ dX9_redraw_196 rfl rfl ?_
                    refine z_icmp_ne 206 (pc := 199) C dX9_redraw_199 (by decide) (fun c62 => ?_) (fun c62 => ?_)
                    · have hF := if_f hF c62
                      exact hJ57 hF
                    · have hF := if_t hF c62
                      refine z_iconst (pc := 202) (v := (1 : Int32)) C dX9_redraw_202 (by decide) ?_
                      refine z_goto 212 (pc := 203) C dX9_redraw_203 (by decide) ?_
                      exact hJ55 _ hF
        have hF := hR
        clear hR
        obtain ⟨J64, hdJ64, hF⟩ := jn0_of hF
        have hJ64 : J64 = some v9' → Zz E (WM E a S4) 0 0 108 [(0, .ref (a 0)), (1, .int p1), (2, .int p2), (3, .int p3), (5, .int v7)] [] := by
          intro hF
          have hF := hdJ64.symm.trans hF
          refine z_iconst (pc := 108) (v := (0 : Int32)) C dX9_redraw_108 (by decide) ?_
          exact hJ63 _ hF
        refine z_icmp_ne 108 (pc := 82) C dX9_redraw_82 (by decide) (fun c65 => ?_) (fun c65 => ?_)
        · have hF := if_f hF c65
          refine z_sub [1, 2, 3, 4, 0] rfl ?_
          exact hJ64 hF
        · have hF := if_t hF c65
          refine z_aload_n 1 (pc := 85) C dX9_redraw_85 rfl rfl ?_
          refine gfX9_28 (pc := 86) C (rfl : kdM 0 = 9) dX9_redraw_86 ?_
          refine z_iload_n 2 (pc := 89) C dX9_redraw_89 rfl rfl ?_
          obtain ⟨g66, hF⟩ := gd_of hF
          refine iaM8 (pc := 90) C (rfl : kdM 7 = 28) g66 dX9_redraw_90 ?_
          refine z_iload_n 4 (pc := 91) C dX9_redraw_91 rfl rfl ?_
          refine z_icmp_ne 108 (pc := 92) C dX9_redraw_92 (by decide) (fun c67 => ?_) (fun c67 => ?_)
          · have hF := if_f hF c67
            refine z_sub [1, 2, 3, 4, 0] rfl ?_
            exact hJ64 hF
          · have hF := if_t hF c67
            refine z_aload_n 1 (pc := 95) C dX9_redraw_95 rfl rfl ?_
            refine gfX9_34 (pc := 96) C (rfl : kdM 0 = 9) dX9_redraw_96 ?_
            refine z_iload_n 2 (pc := 99) C dX9_redraw_99 rfl rfl ?_
            obtain ⟨g68, hF⟩ := gd_of hF
            refine iaM8 (pc := 100) C (rfl : kdM 9 = 28) g68 dX9_redraw_100 ?_
            refine z_if_ne 108 (pc := 101) C dX9_redraw_101 (by decide) (fun c69 => ?_) (fun c69 => ?_)
            · have hF := if_f hF c69
              refine z_sub [1, 2, 3, 4, 0] rfl ?_
              exact hJ64 hF
            · have hF := if_t hF c69
              refine z_iconst (pc := 104) (v := (1 : Int32)) C dX9_redraw_104 (by decide) ?_
              refine z_goto 109 (pc := 105) C dX9_redraw_105 (by decide) ?_
              refine z_sub [1, 2, 3, 4, 0] rfl ?_
              exact hJ63 _ hF
      have hF := hR
      clear hR
      obtain ⟨J71, hdJ71, hF⟩ := jn0_of hF
      have hJ71 : J71 = some v7' → Zz E (WM E a S4) 0 0 72 [(0, .ref (a 0)), (1, .int p1), (2, .int p2), (3, .int p3)] [] := by
        intro hF
        have hF := hdJ71.symm.trans hF
        refine z_iconst (pc := 72) (v := (0 : Int32)) C dX9_redraw_72 (by decide) ?_
        exact hJ70 _ hF
      refine z_if_eq 72 (pc := 56) C dX9_redraw_56 (by decide) (fun c72 => ?_) (fun c72 => ?_)
      · have hF := if_t hF c72
        exact hJ71 hF
      · have hF := if_f hF c72
        refine z_aload_n 0 (pc := 59) C dX9_redraw_59 rfl rfl ?_
        refine gfX9_34 (pc := 60) C (rfl : kdM 0 = 9) dX9_redraw_60 ?_
        refine z_iload_n 1 (pc := 63) C dX9_redraw_63 rfl rfl ?_
        obtain ⟨g73, hF⟩ := gd_of hF
        refine iaM8 (pc := 64) C (rfl : kdM 9 = 28) g73 dX9_redraw_64 ?_
        refine z_if_ne 72 (pc := 65) C dX9_redraw_65 (by decide) (fun c74 => ?_) (fun c74 => ?_)
        · have hF := if_f hF c74
          exact hJ71 hF
        · have hF := if_t hF c74
          refine z_iconst (pc := 68) (v := (1 : Int32)) C dX9_redraw_68 (by decide) ?_
          refine z_goto 73 (pc := 69) C dX9_redraw_69 (by decide) ?_
          exact hJ70 _ hF
    · have hF := if_t hF c5
      refine z_iconst (pc := 47) (v := (0 : Int32)) C dX9_redraw_47 (by decide) ?_
      exact z_iret (pc := 48) C hQ hr rfl dX9_redraw_48 (by cases hF; rfl) (by cases hF; rfl) (Nat.le_of_ble_eq_true rfl) (Nat.le_of_ble_eq_true rfl)
  have hF := hR
  clear hR
  refine z_if_ne 17 (pc := 10) C dX9_redraw_10 (by decide) (fun c76 => ?_) (fun c76 => ?_)
  · have hF := if_f hF c76
    refine z_iload_n 3 (pc := 17) C dX9_redraw_17 rfl rfl ?_
    refine z_iload_n 4 (pc := 18) C dX9_redraw_18 rfl rfl ?_
    obtain ⟨v77, hG, hF⟩ := bn1_of hF
    refine z_callS [.int p2, .int p3] (pc := 19) (st1 := [.int v77, .ref (a 0)]) (c1 := 0) (s1 := 0) C (mX9_isSheet C.hT hG) kX9_130 rfl rfl rfl rfl (Nat.le_of_ble_eq_true rfl) ⟨(Nat.le_of_ble_eq_true rfl), (Nat.le_of_ble_eq_true rfl)⟩ ⟨(Nat.le_of_ble_eq_true rfl), (Nat.le_of_ble_eq_true rfl)⟩ dX9_redraw_19 rfl rfl ?_
    refine z_if_ne 29 (pc := 22) C dX9_redraw_22 (by decide) (fun c78 => ?_) (fun c78 => ?_)
    · have hF := if_f hF c78
      refine z_aload_n 1 (pc := 29) C dX9_redraw_29 rfl rfl ?_
      refine gfX9_123 (pc := 30) C (rfl : kdM 0 = 9) dX9_redraw_30 ?_
      refine z_if_ne 40 (pc := 33) C dX9_redraw_33 (by decide) (fun c79 => ?_) (fun c79 => ?_)
      · have hF := if_f hF c79
        refine z_iconst (pc := 40) (v := (0 : Int32)) C dX9_redraw_40 (by decide) ?_
        refine z_sub [1, 2, 3, 4] rfl ?_
        exact hJ75 _ hF
      · have hF := if_t hF c79
        refine z_iconst (pc := 36) (v := (3 : Int32)) C dX9_redraw_36 (by decide) ?_
        refine z_goto 41 (pc := 37) C dX9_redraw_37 (by decide) ?_
        refine z_sub [1, 2, 3, 4] rfl ?_
        exact hJ75 _ hF
    · have hF := if_t hF c78
      refine z_iconst (pc := 25) (v := (2 : Int32)) C dX9_redraw_25 (by decide) ?_
      refine z_goto 41 (pc := 26) C dX9_redraw_26 (by decide) ?_
      refine z_sub [1, 2, 3, 4] rfl ?_
      exact hJ75 _ hF
  · have hF := if_t hF c76
    refine z_iconst (pc := 13) (v := (1 : Int32)) C dX9_redraw_13 (by decide) ?_
    refine z_goto 41 (pc := 14) C dX9_redraw_14 (by decide) ?_
    refine z_sub [1, 2, 3, 4] rfl ?_
    exact hJ75 _ hF
def fX9_told_L43 (p1 : Int32) (S4 : St) (next8 : Int32 → Int32 → Option (Int32)) (v6 : Int32) (v7 : Int32) : Option (Int32) :=
  gd (inb p1 8) (
  if (gi S4 9 p1.toNatClampNeg) ≤ v7 then (
    some v6)
  else (
    bn1 (fX9_isClose S4 p1 v7) (fun (v23 : Int32) =>
    bn1 (if v23 = 0 then (
      some (0 : Int32))
    else (
      some (1 : Int32))) (fun (v24 : Int32) =>
      bv ((v6 + v24)) (fun (v25 : Int32) =>
      bv (v7 + 1) (fun (v27 : Int32) =>
      next8 v25 v27))))))
def fX9_told (S : St) (p1 : Int32) (p2 : Int32) : Option ((Int32 × St)) :=
  bn1 (fX9_isPart S p1) (fun (v1 : Int32) =>
  bn1 (if v1 = 0 then (
    some (1 : Int32))
  else (
    bn1 (fX9_in p2 (0 : Int32) (5 : Int32)) (fun (v33 : Int32) =>
    if v33 = 0 then (
      some (2 : Int32))
    else (
      some (0 : Int32))))) (fun (v2 : Int32) =>
    bn2 (fX9_goesWell S v2) (fun (v3 : Int32) (S4 : St) =>
    if v3 = 0 then (
      some ((0 : Int32), S4))
    else (
      bn1 (lq2 (fX9_told_L43 p1 S4) 200 (0 : Int32) (0 : Int32)) (fun (v9 : Int32) =>
        if p2 = (0 : Int32) then (
          gd (inb p1 8) (
          some ((gi S4 8 p1.toNatClampNeg), S4)))
        else if p2 = (1 : Int32) then (
          gd (inb p1 8) (
          some ((gi S4 3 p1.toNatClampNeg), S4)))
        else if p2 = (2 : Int32) then (
          gd (inb p1 8) (
          some ((gi S4 6 p1.toNatClampNeg), S4)))
        else if p2 = (3 : Int32) then (
          gd (inb p1 8) (
          some ((gi S4 7 p1.toNatClampNeg), S4)))
        else if p2 = (4 : Int32) then (
          gd (inb p1 8) (
          some ((gi S4 9 p1.toNatClampNeg), S4)))
        else (
          some (v9, S4)))))))
abbrev rmX9_told : Room := { frames := 8, cells := 0, slots := 0, locals := 170 }
set_option maxRecDepth 100000 in
set_option maxHeartbeats 4000000 in
theorem mX9_told {l : Launch} {D : va_G} {cs : Nat → ClassId} {a : Nat → Nat} (hT : l.stackTraces = false) {S : St} {p1 : Int32} {p2 : Int32} {r : Int32} {S' : St} (hF : fX9_told S p1 p2 = some (r, S')) : MX l 33 GM D cs a yX9_told cX9_told 6 (some .int) rmX9_told [.ref (a 0), .int p1, .int p2] S (.inr (some (.int r))) S' := by
  refine zm_entry [(0, .ref (a 0)), (1, .int p1), (2, .int p2)] hT (by decide +kernel) (Nat.le_of_ble_eq_true rfl) rfl (fun E hEl hED hEk C hQ hr => ?_)
  subst hEl
  subst hED
  subst hEk
  unfold fX9_told at hF
  refine z_aload_n 0 (pc := 0) C dX9_told_0 rfl rfl ?_
  refine z_iload_n 1 (pc := 1) C dX9_told_1 rfl rfl ?_
  obtain ⟨v1, hG, hF⟩ := bn1_of hF
  refine z_callV [.int p1] (pc := 2) (st1 := [.int v1]) (c1 := 0) (s1 := 0) C (mX9_isPart C.hT hG) kX9_138 (kdM_lt (rfl : kdM 0 = 9) (by decide)) (gM_9 (rfl : kdM 0 = 9)) rfl rfl rfl rfl (Nat.le_of_ble_eq_true rfl) ⟨(Nat.le_of_ble_eq_true rfl), (Nat.le_of_ble_eq_true rfl)⟩ ⟨(Nat.le_of_ble_eq_true rfl), (Nat.le_of_ble_eq_true rfl)⟩ dX9_told_2 rfl rfl ?_
  refine z_istore_n (pc := 5) (loc' := [(3, .int v1), (0, .ref (a 0)), (1, .int p1), (2, .int p2)]) C dX9_told_5 rfl (by decide) rfl ?_
  refine z_aload_n 1 (pc := 6) C dX9_told_6 rfl rfl ?_
  refine z_iload_n 0 (pc := 7) C dX9_told_7 rfl rfl ?_
  obtain ⟨v2', hR, hF⟩ := bn1_of hF
  have hJ31 : ∀ (v2 : Int32), (some v2 : Option (Int32)) = some v2' → Zz E (WM E a S) 0 0 29 [(0, .ref (a 0)), (1, .int p1), (2, .int p2)] [.int v2, .ref (a 0)] := by
    intro v2 hE
    have hE0 := Option.some.inj hE
    subst hE0
    obtain ⟨v3, S4, hG, hF⟩ := bn2_of hF
    refine z_callV [.int v2] (pc := 29) (st1 := [.int v3]) (c1 := 0) (s1 := 0) C (mX9_goesWell C.hT hG) kX9_126 (kdM_lt (rfl : kdM 0 = 9) (by decide)) (gM_9 (rfl : kdM 0 = 9)) rfl rfl rfl rfl (Nat.le_of_ble_eq_true rfl) ⟨(Nat.le_of_ble_eq_true rfl), (Nat.le_of_ble_eq_true rfl)⟩ ⟨(Nat.le_of_ble_eq_true rfl), (Nat.le_of_ble_eq_true rfl)⟩ dX9_told_29 rfl rfl ?_
    refine z_if_ne 37 (pc := 32) C dX9_told_32 (by decide) (fun c5 => ?_) (fun c5 => ?_)
    · have hF := if_f hF c5
      refine z_iconst (pc := 37) (v := (0 : Int32)) C dX9_told_37 (by decide) ?_
      refine z_istore (pc := 38) (loc' := [(4, .int (0 : Int32)), (0, .ref (a 0)), (1, .int p1), (2, .int p2)]) C dX9_told_38 (by decide) rfl ?_
      refine z_iconst (pc := 40) (v := (0 : Int32)) C dX9_told_40 (by decide) ?_
      refine z_istore (pc := 41) (loc' := [(5, .int (0 : Int32)), (4, .int (0 : Int32)), (0, .ref (a 0)), (1, .int p1), (2, .int p2)]) C dX9_told_41 (by decide) rfl ?_
      refine z_sub [2, 3, 4, 1, 0] rfl ?_
      obtain ⟨v9', hR, hF⟩ := bn1_of hF
      have hJ20 : ∀ (v9 : Int32), (some v9 : Option (Int32)) = some v9' → Zz E (WM E a S4) 0 0 80 [(0, .ref (a 0)), (1, .int p1), (2, .int p2), (4, .int v9)] [] := by
        intro v9 hE
        have hE0 := Option.some.inj hE
        subst hE0
        refine z_iload_n 2 (pc := 80) C dX9_told_80 rfl rfl ?_
        by_cases c10 : p2 = (0 : Int32)
        · have hF := if_t hF c10
          refine z_swi 116 (pc := 81) (off := 35) C dX9_told_81 c10 (by decide) (by decide) (by decide +kernel) (by decide) ?_
          refine z_aload_n 0 (pc := 116) C dX9_told_116 rfl rfl ?_
          refine gfX9_31 (pc := 117) C (rfl : kdM 0 = 9) dX9_told_117 ?_
          refine z_iload_n 1 (pc := 120) C dX9_told_120 rfl rfl ?_
          obtain ⟨g11, hF⟩ := gd_of hF
          refine iaM8 (pc := 121) C (rfl : kdM 8 = 28) g11 dX9_told_121 ?_
          exact z_iret (pc := 122) C hQ hr rfl dX9_told_122 (by cases hF; rfl) (by cases hF; rfl) (Nat.le_of_ble_eq_true rfl) (Nat.le_of_ble_eq_true rfl)
        have hF := if_f hF c10
        by_cases c12 : p2 = (1 : Int32)
        · have hF := if_t hF c12
          refine z_swi 123 (pc := 81) (off := 42) C dX9_told_81 c12 (by decide) (by decide) (by decide +kernel) (by decide) ?_
          refine z_aload_n 0 (pc := 123) C dX9_told_123 rfl rfl ?_
          refine gfX9_16 (pc := 124) C (rfl : kdM 0 = 9) dX9_told_124 ?_
          refine z_iload_n 1 (pc := 127) C dX9_told_127 rfl rfl ?_
          obtain ⟨g13, hF⟩ := gd_of hF
          refine iaM8 (pc := 128) C (rfl : kdM 3 = 28) g13 dX9_told_128 ?_
          exact z_iret (pc := 129) C hQ hr rfl dX9_told_129 (by cases hF; rfl) (by cases hF; rfl) (Nat.le_of_ble_eq_true rfl) (Nat.le_of_ble_eq_true rfl)
        have hF := if_f hF c12
        by_cases c14 : p2 = (2 : Int32)
        · have hF := if_t hF c14
          refine z_swi 130 (pc := 81) (off := 49) C dX9_told_81 c14 (by decide) (by decide) (by decide +kernel) (by decide) ?_
          refine z_aload_n 0 (pc := 130) C dX9_told_130 rfl rfl ?_
          refine gfX9_25 (pc := 131) C (rfl : kdM 0 = 9) dX9_told_131 ?_
          refine z_iload_n 1 (pc := 134) C dX9_told_134 rfl rfl ?_
          obtain ⟨g15, hF⟩ := gd_of hF
          refine iaM8 (pc := 135) C (rfl : kdM 6 = 28) g15 dX9_told_135 ?_
          exact z_iret (pc := 136) C hQ hr rfl dX9_told_136 (by cases hF; rfl) (by cases hF; rfl) (Nat.le_of_ble_eq_true rfl) (Nat.le_of_ble_eq_true rfl)
        have hF := if_f hF c14
        by_cases c16 : p2 = (3 : Int32)
        · have hF := if_t hF c16
          refine z_swi 137 (pc := 81) (off := 56) C dX9_told_81 c16 (by decide) (by decide) (by decide +kernel) (by decide) ?_
          refine z_aload_n 0 (pc := 137) C dX9_told_137 rfl rfl ?_
          refine gfX9_28 (pc := 138) C (rfl : kdM 0 = 9) dX9_told_138 ?_
          refine z_iload_n 1 (pc := 141) C dX9_told_141 rfl rfl ?_
          obtain ⟨g17, hF⟩ := gd_of hF
          refine iaM8 (pc := 142) C (rfl : kdM 7 = 28) g17 dX9_told_142 ?_
          exact z_iret (pc := 143) C hQ hr rfl dX9_told_143 (by cases hF; rfl) (by cases hF; rfl) (Nat.le_of_ble_eq_true rfl) (Nat.le_of_ble_eq_true rfl)
        have hF := if_f hF c16
        by_cases c18 : p2 = (4 : Int32)
        · have hF := if_t hF c18
          refine z_swi 144 (pc := 81) (off := 63) C dX9_told_81 c18 (by decide) (by decide) (by decide +kernel) (by decide) ?_
          refine z_aload_n 0 (pc := 144) C dX9_told_144 rfl rfl ?_
          refine gfX9_34 (pc := 145) C (rfl : kdM 0 = 9) dX9_told_145 ?_
          refine z_iload_n 1 (pc := 148) C dX9_told_148 rfl rfl ?_
          obtain ⟨g19, hF⟩ := gd_of hF
          refine iaM8 (pc := 149) C (rfl : kdM 9 = 28) g19 dX9_told_149 ?_
          exact z_iret (pc := 150) C hQ hr rfl dX9_told_150 (by cases hF; rfl) (by cases hF; rfl) (Nat.le_of_ble_eq_true rfl) (Nat.le_of_ble_eq_true rfl)
        have hF := if_f hF c18
        refine z_swo 151 (pc := 81) C dX9_told_81 (by have q0 := i_ne c10 (n := 0) (by decide); have q1 := i_ne c12 (n := 1) (by decide); have q2 := i_ne c14 (n := 2) (by decide); have q3 := i_ne c16 (n := 3) (by decide); have q4 := i_ne c18 (n := 4) (by decide); omega) (by decide) ?_
        refine z_iload 3 (pc := 151) C dX9_told_151 rfl ?_
        exact z_iret (pc := 153) C hQ hr rfl dX9_told_153 (by cases hF; rfl) (by cases hF; rfl) (Nat.le_of_ble_eq_true rfl) (Nat.le_of_ble_eq_true rfl)
      have hF := hR
      clear hR
      refine lq2_W (P := fun (v6 : Int32) (v7 : Int32) => Zz E (WM E a S4) 0 0 43 [(0, .ref (a 0)), (1, .int p1), (2, .int p2), (4, .int v6), (5, .int v7)] []) (fun next8 hN8 v6 v7 hF => ?_) _ _ _ hF
      unfold fX9_told_L43 at hF
      refine z_iload 4 (pc := 43) C dX9_told_43 rfl ?_
      refine z_aload_n 0 (pc := 45) C dX9_told_45 rfl rfl ?_
      refine gfX9_34 (pc := 46) C (rfl : kdM 0 = 9) dX9_told_46 ?_
      refine z_iload_n 1 (pc := 49) C dX9_told_49 rfl rfl ?_
      obtain ⟨g21, hF⟩ := gd_of hF
      refine iaM8 (pc := 50) C (rfl : kdM 9 = 28) g21 dX9_told_50 ?_
      refine z_icmp_ge 80 (pc := 51) C dX9_told_51 (by decide) (fun c22 => ?_) (fun c22 => ?_)
      · have hF := if_t hF c22
        refine z_sub [0, 1, 2, 3] rfl ?_
        exact hJ20 _ hF
      · have hF := if_f hF c22
        refine z_iload 3 (pc := 54) C dX9_told_54 rfl ?_
        refine z_aload_n 0 (pc := 56) C dX9_told_56 rfl rfl ?_
        refine z_iload_n 1 (pc := 57) C dX9_told_57 rfl rfl ?_
        refine z_iload 4 (pc := 58) C dX9_told_58 rfl ?_
        obtain ⟨v23, hG, hF⟩ := bn1_of hF
        refine z_callV [.int p1, .int v7] (pc := 60) (st1 := [.int v23, .int v6]) (c1 := 0) (s1 := 0) C (mX9_isClose C.hT hG) kX9_148 (kdM_lt (rfl : kdM 0 = 9) (by decide)) (gM_9 (rfl : kdM 0 = 9)) rfl rfl rfl rfl (Nat.le_of_ble_eq_true rfl) ⟨(Nat.le_of_ble_eq_true rfl), (Nat.le_of_ble_eq_true rfl)⟩ ⟨(Nat.le_of_ble_eq_true rfl), (Nat.le_of_ble_eq_true rfl)⟩ dX9_told_60 rfl rfl ?_
        obtain ⟨v24', hR, hF⟩ := bn1_of hF
        have hJ29 : ∀ (v24 : Int32), (some v24 : Option (Int32)) = some v24' → Zz E (WM E a S4) 0 0 71 [(0, .ref (a 0)), (1, .int p1), (2, .int p2), (5, .int v7)] [.int v24, .int v6] := by
          intro v24 hE
          have hE0 := Option.some.inj hE
          subst hE0
          refine z_iadd (pc := 71) C dX9_told_71 ?_
          obtain ⟨v25, e26, hF⟩ := bv_of hF
          refine z_topi e26 ?_
          refine z_istore (pc := 72) (loc' := [(4, .int v25), (0, .ref (a 0)), (1, .int p1), (2, .int p2), (5, .int v7)]) C dX9_told_72 (by decide) rfl ?_
          obtain ⟨v27, e28, hF⟩ := bv_of hF
          refine z_iinc 4 (pc := 74) (v := v27) (loc' := [(5, .int v27), (4, .int v25), (0, .ref (a 0)), (1, .int p1), (2, .int p2)]) C dX9_told_74 rfl (by rw [e28]; rfl) (by decide) rfl ?_
          refine z_goto 43 (pc := 77) C dX9_told_77 (by decide) ?_
          refine z_sub [2, 3, 4, 1, 0] rfl ?_
          exact hN8 _ _ hF
        have hF := hR
        clear hR
        refine z_if_eq 70 (pc := 63) C dX9_told_63 (by decide) (fun c30 => ?_) (fun c30 => ?_)
        · have hF := if_t hF c30
          refine z_iconst (pc := 70) (v := (0 : Int32)) C dX9_told_70 (by decide) ?_
          refine z_sub [0, 1, 2, 4] rfl ?_
          exact hJ29 _ hF
        · have hF := if_f hF c30
          refine z_iconst (pc := 66) (v := (1 : Int32)) C dX9_told_66 (by decide) ?_
          refine z_goto 71 (pc := 67) C dX9_told_67 (by decide) ?_
          refine z_sub [0, 1, 2, 4] rfl ?_
          exact hJ29 _ hF
    · have hF := if_t hF c5
      refine z_iconst (pc := 35) (v := (0 : Int32)) C dX9_told_35 (by decide) ?_
      exact z_iret (pc := 36) C hQ hr rfl dX9_told_36 (by cases hF; rfl) (by cases hF; rfl) (Nat.le_of_ble_eq_true rfl) (Nat.le_of_ble_eq_true rfl)
  have hF := hR
  clear hR
  refine z_if_ne 15 (pc := 8) C dX9_told_8 (by decide) (fun c32 => ?_) (fun c32 => ?_)
  · have hF := if_f hF c32
    refine z_iload_n 3 (pc := 15) C dX9_told_15 rfl rfl ?_
    refine z_iconst (pc := 16) (v := (0 : Int32)) C dX9_told_16 (by decide) ?_
    refine z_iconst (pc := 17) (v := (5 : Int32)) C dX9_told_17 (by decide) ?_
    obtain ⟨v33, hG, hF⟩ := bn1_of hF
    refine z_callS [.int p2, .int (0 : Int32), .int (5 : Int32)] (pc := 18) (st1 := [.int v33, .ref (a 0)]) (c1 := 0) (s1 := 0) C (mX9_in C.hT hG) kX9_113 rfl rfl rfl rfl (Nat.le_of_ble_eq_true rfl) ⟨(Nat.le_of_ble_eq_true rfl), (Nat.le_of_ble_eq_true rfl)⟩ ⟨(Nat.le_of_ble_eq_true rfl), (Nat.le_of_ble_eq_true rfl)⟩ dX9_told_18 rfl rfl ?_
    refine z_if_eq 28 (pc := 21) C dX9_told_21 (by decide) (fun c34 => ?_) (fun c34 => ?_)
    · have hF := if_t hF c34
      refine z_iconst (pc := 28) (v := (2 : Int32)) C dX9_told_28 (by decide) ?_
      refine z_sub [1, 2, 3] rfl ?_
      exact hJ31 _ hF
    · have hF := if_f hF c34
      refine z_iconst (pc := 24) (v := (0 : Int32)) C dX9_told_24 (by decide) ?_
      refine z_goto 29 (pc := 25) C dX9_told_25 (by decide) ?_
      refine z_sub [1, 2, 3] rfl ?_
      exact hJ31 _ hF
  · have hF := if_t hF c32
    refine z_iconst (pc := 11) (v := (1 : Int32)) C dX9_told_11 (by decide) ?_
    refine z_goto 29 (pc := 12) C dX9_told_12 (by decide) ?_
    refine z_sub [1, 2, 3] rfl ?_
    exact hJ31 _ hF
def fX9_trial (S : St) (p1 : Int32) (p2 : Int32) (p3 : Int32) : Option ((Int32 × St)) :=
  bn1 (fX9_isTool S p1) (fun (v1 : Int32) =>
  bn1 (if v1 = 0 then (
    some (1 : Int32))
  else (
    bn1 (fX9_in p2 (1 : Int32) (4 : Int32)) (fun (v14 : Int32) =>
    jn0 (
      some (2 : Int32)) (fun J15 =>
      if v14 = 0 then (
        J15)
      else (
        bn1 (fX9_in p3 (0 : Int32) (9 : Int32)) (fun (v17 : Int32) =>
        if v17 = 0 then (
          J15)
        else (
          some (0 : Int32)))))))) (fun (v2 : Int32) =>
    bn2 (fX9_goesWell S v2) (fun (v3 : Int32) (S4 : St) =>
    if v3 = 0 then (
      some ((0 : Int32), S4))
    else (
      gd (inb (((5 : Int32) * p1) + p2) 20) (
      bv ((gi S4 18 (((5 : Int32) * p1) + p2).toNatClampNeg)) (fun (v7 : Int32) =>
      gd (inb (((5 : Int32) * p1) + p2) 20) (
      bv (si S4 18 (((5 : Int32) * p1) + p2).toNatClampNeg p3) (fun (S10 : St) =>
      some (v7, S10)))))))))
abbrev rmX9_trial : Room := { frames := 8, cells := 0, slots := 0, locals := 170 }
set_option maxRecDepth 100000 in
set_option maxHeartbeats 4000000 in
theorem mX9_trial {l : Launch} {D : va_G} {cs : Nat → ClassId} {a : Nat → Nat} (hT : l.stackTraces = false) {S : St} {p1 : Int32} {p2 : Int32} {p3 : Int32} {r : Int32} {S' : St} (hF : fX9_trial S p1 p2 p3 = some (r, S')) : MX l 33 GM D cs a yX9_trial cX9_trial 6 (some .int) rmX9_trial [.ref (a 0), .int p1, .int p2, .int p3] S (.inr (some (.int r))) S' := by
  refine zm_entry [(0, .ref (a 0)), (1, .int p1), (2, .int p2), (3, .int p3)] hT (by decide +kernel) (Nat.le_of_ble_eq_true rfl) rfl (fun E hEl hED hEk C hQ hr => ?_)
  subst hEl
  subst hED
  subst hEk
  unfold fX9_trial at hF
  refine z_aload_n 0 (pc := 0) C dX9_trial_0 rfl rfl ?_
  refine z_iload_n 1 (pc := 1) C dX9_trial_1 rfl rfl ?_
  obtain ⟨v1, hG, hF⟩ := bn1_of hF
  refine z_callV [.int p1] (pc := 2) (st1 := [.int v1]) (c1 := 0) (s1 := 0) C (mX9_isTool C.hT hG) kX9_151 (kdM_lt (rfl : kdM 0 = 9) (by decide)) (gM_9 (rfl : kdM 0 = 9)) rfl rfl rfl rfl (Nat.le_of_ble_eq_true rfl) ⟨(Nat.le_of_ble_eq_true rfl), (Nat.le_of_ble_eq_true rfl)⟩ ⟨(Nat.le_of_ble_eq_true rfl), (Nat.le_of_ble_eq_true rfl)⟩ dX9_trial_2 rfl rfl ?_
  refine z_istore (pc := 5) (loc' := [(4, .int v1), (0, .ref (a 0)), (1, .int p1), (2, .int p2), (3, .int p3)]) C dX9_trial_5 (by decide) rfl ?_
  refine z_aload_n 1 (pc := 7) C dX9_trial_7 rfl rfl ?_
  refine z_iload 0 (pc := 8) C dX9_trial_8 rfl ?_
  obtain ⟨v2', hR, hF⟩ := bn1_of hF
  have hJ12 : ∀ (v2 : Int32), (some v2 : Option (Int32)) = some v2' → Zz E (WM E a S) 0 0 41 [(0, .ref (a 0)), (1, .int p1), (2, .int p2), (3, .int p3)] [.int v2, .ref (a 0)] := by
    intro v2 hE
    have hE0 := Option.some.inj hE
    subst hE0
    obtain ⟨v3, S4, hG, hF⟩ := bn2_of hF
    refine z_callV [.int v2] (pc := 41) (st1 := [.int v3]) (c1 := 0) (s1 := 0) C (mX9_goesWell C.hT hG) kX9_126 (kdM_lt (rfl : kdM 0 = 9) (by decide)) (gM_9 (rfl : kdM 0 = 9)) rfl rfl rfl rfl (Nat.le_of_ble_eq_true rfl) ⟨(Nat.le_of_ble_eq_true rfl), (Nat.le_of_ble_eq_true rfl)⟩ ⟨(Nat.le_of_ble_eq_true rfl), (Nat.le_of_ble_eq_true rfl)⟩ dX9_trial_41 rfl rfl ?_
    refine z_if_ne 49 (pc := 44) C dX9_trial_44 (by decide) (fun c5 => ?_) (fun c5 => ?_)
    · have hF := if_f hF c5
      refine z_aload_n 0 (pc := 49) C dX9_trial_49 rfl rfl ?_
      refine gfX9_61 (pc := 50) C (rfl : kdM 0 = 9) dX9_trial_50 ?_
      refine z_iconst (pc := 53) (v := (5 : Int32)) C dX9_trial_53 (by decide) ?_
      refine z_iload_n 1 (pc := 54) C dX9_trial_54 rfl rfl ?_
      refine z_imul (pc := 55) C dX9_trial_55 ?_
      refine z_iload_n 2 (pc := 56) C dX9_trial_56 rfl rfl ?_
      refine z_iadd (pc := 57) C dX9_trial_57 ?_
      obtain ⟨g6, hF⟩ := gd_of hF
      refine iaM20 (pc := 58) C (rfl : kdM 18 = 40) g6 dX9_trial_58 ?_
      obtain ⟨v7, e8, hF⟩ := bv_of hF
      refine z_topi e8 ?_
      refine z_istore (pc := 59) (loc' := [(5, .int v7), (0, .ref (a 0)), (1, .int p1), (2, .int p2), (3, .int p3)]) C dX9_trial_59 (by decide) rfl ?_
      refine z_aload_n 1 (pc := 61) C dX9_trial_61 rfl rfl ?_
      refine gfX9_61 (pc := 62) C (rfl : kdM 0 = 9) dX9_trial_62 ?_
      refine z_iconst (pc := 65) (v := (5 : Int32)) C dX9_trial_65 (by decide) ?_
      refine z_iload_n 2 (pc := 66) C dX9_trial_66 rfl rfl ?_
      refine z_imul (pc := 67) C dX9_trial_67 ?_
      refine z_iload_n 3 (pc := 68) C dX9_trial_68 rfl rfl ?_
      refine z_iadd (pc := 69) C dX9_trial_69 ?_
      refine z_iload_n 4 (pc := 70) C dX9_trial_70 rfl rfl ?_
      obtain ⟨g9, hF⟩ := gd_of hF
      refine saM20 (pc := 71) C (rfl : kdM 18 = 40) g9 dX9_trial_71 ?_
      obtain ⟨S10, e11, hF⟩ := bv_of hF
      rw [← e11]
      refine z_iload 0 (pc := 72) C dX9_trial_72 rfl ?_
      exact z_iret (pc := 74) C hQ hr rfl dX9_trial_74 (by cases hF; rfl) (by cases hF; rfl) (Nat.le_of_ble_eq_true rfl) (Nat.le_of_ble_eq_true rfl)
    · have hF := if_t hF c5
      refine z_iconst (pc := 47) (v := (0 : Int32)) C dX9_trial_47 (by decide) ?_
      exact z_iret (pc := 48) C hQ hr rfl dX9_trial_48 (by cases hF; rfl) (by cases hF; rfl) (Nat.le_of_ble_eq_true rfl) (Nat.le_of_ble_eq_true rfl)
  have hF := hR
  clear hR
  refine z_if_ne 17 (pc := 10) C dX9_trial_10 (by decide) (fun c13 => ?_) (fun c13 => ?_)
  · have hF := if_f hF c13
    refine z_iload_n 3 (pc := 17) C dX9_trial_17 rfl rfl ?_
    refine z_iconst (pc := 18) (v := (1 : Int32)) C dX9_trial_18 (by decide) ?_
    refine z_iconst (pc := 19) (v := (4 : Int32)) C dX9_trial_19 (by decide) ?_
    obtain ⟨v14, hG, hF⟩ := bn1_of hF
    refine z_callS [.int p2, .int (1 : Int32), .int (4 : Int32)] (pc := 20) (st1 := [.int v14, .ref (a 0)]) (c1 := 0) (s1 := 0) C (mX9_in C.hT hG) kX9_113 rfl rfl rfl rfl (Nat.le_of_ble_eq_true rfl) ⟨(Nat.le_of_ble_eq_true rfl), (Nat.le_of_ble_eq_true rfl)⟩ ⟨(Nat.le_of_ble_eq_true rfl), (Nat.le_of_ble_eq_true rfl)⟩ dX9_trial_20 rfl rfl ?_
    obtain ⟨J15, hdJ15, hF⟩ := jn0_of hF
    have hJ15 : J15 = some v2' → Zz E (WM E a S) 0 0 40 [(0, .ref (a 0)), (1, .int p1), (2, .int p2), (3, .int p3)] [.ref (a 0)] := by
      intro hF
      have hF := hdJ15.symm.trans hF
      refine z_iconst (pc := 40) (v := (2 : Int32)) C dX9_trial_40 (by decide) ?_
      exact hJ12 _ hF
    refine z_if_eq 40 (pc := 23) C dX9_trial_23 (by decide) (fun c16 => ?_) (fun c16 => ?_)
    · have hF := if_t hF c16
      refine z_sub [1, 2, 3, 4] rfl ?_
      exact hJ15 hF
    · have hF := if_f hF c16
      refine z_iload_n 4 (pc := 26) C dX9_trial_26 rfl rfl ?_
      refine z_iconst (pc := 27) (v := (0 : Int32)) C dX9_trial_27 (by decide) ?_
      refine z_bipush (pc := 28) (v := (9 : Int32)) C dX9_trial_28 (by decide) ?_
      obtain ⟨v17, hG, hF⟩ := bn1_of hF
      refine z_callS [.int p3, .int (0 : Int32), .int (9 : Int32)] (pc := 30) (st1 := [.int v17, .ref (a 0)]) (c1 := 0) (s1 := 0) C (mX9_in C.hT hG) kX9_113 rfl rfl rfl rfl (Nat.le_of_ble_eq_true rfl) ⟨(Nat.le_of_ble_eq_true rfl), (Nat.le_of_ble_eq_true rfl)⟩ ⟨(Nat.le_of_ble_eq_true rfl), (Nat.le_of_ble_eq_true rfl)⟩ dX9_trial_30 rfl rfl ?_
      refine z_if_eq 40 (pc := 33) C dX9_trial_33 (by decide) (fun c18 => ?_) (fun c18 => ?_)
      · have hF := if_t hF c18
        refine z_sub [1, 2, 3, 4] rfl ?_
        exact hJ15 hF
      · have hF := if_f hF c18
        refine z_iconst (pc := 36) (v := (0 : Int32)) C dX9_trial_36 (by decide) ?_
        refine z_goto 41 (pc := 37) C dX9_trial_37 (by decide) ?_
        refine z_sub [1, 2, 3, 4] rfl ?_
        exact hJ12 _ hF
  · have hF := if_t hF c13
    refine z_iconst (pc := 13) (v := (1 : Int32)) C dX9_trial_13 (by decide) ?_
    refine z_goto 41 (pc := 14) C dX9_trial_14 (by decide) ?_
    refine z_sub [1, 2, 3, 4] rfl ?_
    exact hJ12 _ hF
