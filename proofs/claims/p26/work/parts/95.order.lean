/-! ===== isOrderSo: the order is possible step by step ===== -/
abbrev rmL_isOrderSo : Room := { frames := 12, cells := 60, slots := 360, locals := 400 }
set_option maxRecDepth 100000 in
set_option maxHeartbeats 1000000 in
theorem mL_isOrderSo {l : Launch} {D : va_G} {cs : Nat → ClassId} {a : Nat → Nat} (hT : l.stackTraces = false) {S0 : St} {p n : Nat} {f : Int32} {bs ds : Nat → Nat} (h : OrP p S0 n f bs ds) {S : St} (hS : scrX S0 S) : MP l D cs a yL_isOrderSo (.code yL_isOrderSo cL_isOrderSo 9 (some .boolean)) rmL_isOrderSo [.ref (a 0), .int (nI p), .int 0] S (.int 1) (fun S' => scrX S0 S') := by
  obtain ⟨hn, h1, h2, h3, h4⟩ := h
  refine p_entry [(0, .ref (a 0)), (1, .int (nI p)), (2, .int 0)] hT (by decide +kernel) (Nat.le_of_ble_eq_true rfl) rfl (fun E hEl hED hEk C hQ => ?_)
  subst hEl
  subst hED
  subst hEk
  have hN := hQ.1
  refine v_aload_n 0 (pc := 0) C dL_isOrderSo_0 rfl rfl ?_
  refine v_iload_n 1 (pc := 1) C dL_isOrderSo_1 rfl rfl ?_
  refine v_iconst (pc := 2) (v := (1 : Int32)) C dL_isOrderSo_2 (by decide) ?_
  refine v_callV [.int (nI p), .int (1 : Int32)] (pc := 3) (st1 := [.int (nI (n + 1))]) (c1 := 2) (s1 := 12) C (mX8_told C.hT (h1 S hS)) kL_37 (by decide) (gX_8 (rfl : kdX 0 = 8)) rfl rfl rfl rfl (Nat.le_of_ble_eq_true rfl) ⟨(Nat.le_of_ble_eq_true rfl), (Nat.le_of_ble_eq_true rfl)⟩ ⟨(Nat.le_of_ble_eq_true rfl), (Nat.le_of_ble_eq_true rfl)⟩ dL_isOrderSo_3 rfl rfl ?_
  refine v_iconst (pc := 6) (v := (1 : Int32)) C dL_isOrderSo_6 (by decide) ?_
  refine v_isub (pc := 7) C dL_isOrderSo_7 ?_
  refine z_topi (x := (nI n : Int32)) (nI_pred n).symm ?_
  refine v_istore_n (pc := 8) (loc' := [(3, .int (nI n)), (0, .ref (a 0)), (1, .int (nI p)), (2, .int (0 : Int32))]) C dL_isOrderSo_8 rfl (by decide) rfl ?_
  refine v_aload_n 1 (pc := 9) C dL_isOrderSo_9 rfl rfl ?_
  refine v_iload_n 2 (pc := 10) C dL_isOrderSo_10 rfl rfl ?_
  refine v_iload_n 3 (pc := 11) C dL_isOrderSo_11 rfl rfl ?_
  obtain ⟨S2, g1, g2⟩ := h2 S hS
  refine v_callV [.int (nI p), .int (0 : Int32)] (pc := 12) (st1 := [.int f]) (c1 := 4) (s1 := 24) C (mX8_flips C.hT g1) kL_57 (by decide) (gX_8 (rfl : kdX 0 = 8)) rfl rfl rfl rfl (Nat.le_of_ble_eq_true rfl) ⟨(Nat.le_of_ble_eq_true rfl), (Nat.le_of_ble_eq_true rfl)⟩ ⟨(Nat.le_of_ble_eq_true rfl), (Nat.le_of_ble_eq_true rfl)⟩ dL_isOrderSo_12 rfl rfl ?_
  refine v_istore (pc := 15) (loc' := [(4, .int f), (3, .int (nI n)), (0, .ref (a 0)), (1, .int (nI p)), (2, .int (0 : Int32))]) C dL_isOrderSo_15 (by decide) rfl ?_
  refine v_iload 0 (pc := 17) C dL_isOrderSo_17 rfl ?_
  refine v_if_ge 39 (pc := 19) C dL_isOrderSo_19 (by decide) (fun hf => ?_) (fun hf => ?_)
  · obtain ⟨k1, k2, k3, k4⟩ := h4 (i_nlt.mpr hf)
    have loop : ∀ m k S c s, k + m = n → scrX S0 S → c + 7 * m ≤ 60 → s + 42 * m ≤ 360 → Zz E (WX E a S) (c) (s) 71 [(7, .int (nI k)), (6, .int (1 : Int32)), (5, .int (nI (ds k))), (4, .int f), (3, .int (nI n)), (0, .ref (a 0)), (1, .int (nI p)), (2, .int (0 : Int32))] [] := by
      intro m
      induction m with
      | zero =>
        intro k S c s hk hS hc hs
        obtain rfl : k = n := by omega
        refine v_iload 0 (pc := 71) C dL_isOrderSo_71 rfl ?_
        refine v_iload_n 4 (pc := 73) C dL_isOrderSo_73 rfl rfl ?_
        refine v_icmp_ge 142 (pc := 74) C dL_isOrderSo_74 (by decide) (fun _ => ?_) (fun c0 => absurd (nI_le (Nat.le_refl k) (by omega)) c0)
        refine v_iload 1 (pc := 142) C dL_isOrderSo_142 rfl ?_
        exact p_iret (pc := 144) C hQ rfl dL_isOrderSo_144 hS (by show c ≤ 60; omega) (by show s ≤ 360; omega)
      | succ m ih =>
        intro k S c s hk hS hc hs
        obtain ⟨⟨q1, q2, q3, q4⟩, q5, q6⟩ := k4 k (by omega)
        refine v_iload 0 (pc := 71) C dL_isOrderSo_71 rfl ?_
        refine v_iload_n 4 (pc := 73) C dL_isOrderSo_73 rfl rfl ?_
        refine v_icmp_ge 142 (pc := 74) C dL_isOrderSo_74 (by decide) (fun c0 => absurd c0 (nI_ge (by omega) (by omega))) (fun _ => ?_)
        refine v_iload 1 (pc := 77) C dL_isOrderSo_77 rfl ?_
        refine v_if_eq 142 (pc := 79) C dL_isOrderSo_79 (by decide) (fun c0 => absurd c0 (by decide)) (fun _ => ?_)
        refine v_aload_n 5 (pc := 82) C dL_isOrderSo_82 rfl rfl ?_
        refine v_iload_n 6 (pc := 83) C dL_isOrderSo_83 rfl rfl ?_
        refine v_iload_n 7 (pc := 84) C dL_isOrderSo_84 rfl rfl ?_
        refine v_iload 0 (pc := 85) C dL_isOrderSo_85 rfl ?_
        obtain ⟨S2, e1, e2⟩ := q5 S hS
        refine v_callV [.int (nI p), .int (0 : Int32), .int (nI k)] (pc := 87) (st1 := [.int (nI (bs k))]) (c1 := c + 3) (s1 := s + 18) C (mX8_ordered C.hT e1) kL_60 (by decide) (gX_8 (rfl : kdX 0 = 8)) rfl rfl rfl rfl (Nat.le_of_ble_eq_true rfl) ⟨(Nat.le_of_ble_eq_true rfl), (Nat.le_of_ble_eq_true rfl)⟩ ⟨(by show c + 3 ≤ 60; omega), (by show s + 18 ≤ 360; omega)⟩ dL_isOrderSo_87 (by show c + 3 = c + 3; omega) (by show s + 18 = s + 18; omega) ?_
        refine v_istore (pc := 90) (loc' := [(8, .int (nI (bs k))), (7, .int (nI k)), (6, .int (1 : Int32)), (5, .int (nI (ds k))), (4, .int f), (3, .int (nI n)), (0, .ref (a 0)), (1, .int (nI p)), (2, .int (0 : Int32))]) C dL_isOrderSo_90 (by decide) rfl ?_
        refine v_iload 0 (pc := 92) C dL_isOrderSo_92 rfl ?_
        refine v_if_lt 124 (pc := 94) C dL_isOrderSo_94 (by decide) (fun c0 => absurd c0 (nI_pos (by omega))) (fun _ => ?_)
        refine v_iload 3 (pc := 97) C dL_isOrderSo_97 rfl ?_
        refine v_iload 0 (pc := 99) C dL_isOrderSo_99 rfl ?_
        refine v_ishr (pc := 101) C dL_isOrderSo_101 ?_
        refine v_iconst (pc := 102) (v := (1 : Int32)) C dL_isOrderSo_102 (by decide) ?_
        refine v_iand (pc := 103) C dL_isOrderSo_103 ?_
        refine z_topi (x := (0 : Int32)) (by rw [bf_1 q2 q1, q3]; rfl) ?_
        refine v_if_ne 124 (pc := 104) C dL_isOrderSo_104 (by decide) (fun c0 => absurd c0 (fun z => z rfl)) (fun _ => ?_)
        refine v_aload_n 6 (pc := 107) C dL_isOrderSo_107 rfl rfl ?_
        refine v_iload_n 7 (pc := 108) C dL_isOrderSo_108 rfl rfl ?_
        refine v_iload_n 8 (pc := 109) C dL_isOrderSo_109 rfl rfl ?_
        refine v_iload 3 (pc := 110) C dL_isOrderSo_110 rfl ?_
        refine v_iload 0 (pc := 112) C dL_isOrderSo_112 rfl ?_
        obtain ⟨S3, e3, e4⟩ := q6 S2 e2
        refine v_callV [.int (nI p), .int (0 : Int32), .int (nI (ds k)), .int (nI (bs k))] (pc := 114) (st1 := [.int (0 : Int32)]) (c1 := c + 7) (s1 := s + 42) C (mX8_why C.hT e3) kL_50 (by decide) (gX_8 (rfl : kdX 0 = 8)) rfl rfl rfl rfl (Nat.le_of_ble_eq_true rfl) ⟨(Nat.le_of_ble_eq_true rfl), (Nat.le_of_ble_eq_true rfl)⟩ ⟨(by show c + 3 + 4 ≤ 60; omega), (by show s + 18 + 24 ≤ 360; omega)⟩ dL_isOrderSo_114 (by show c + 3 + 4 = c + 7; omega) (by show s + 18 + 24 = s + 42; omega) ?_
        refine v_if_ne 124 (pc := 117) C dL_isOrderSo_117 (by decide) (fun c0 => absurd c0 (fun z => z rfl)) (fun _ => ?_)
        refine v_iconst (pc := 120) (v := (1 : Int32)) C dL_isOrderSo_120 (by decide) ?_
        refine v_goto 125 (pc := 121) C dL_isOrderSo_121 (by decide) ?_
        refine v_istore (pc := 125) (loc' := [(6, .int (1 : Int32)), (8, .int (nI (bs k))), (7, .int (nI k)), (5, .int (nI (ds k))), (4, .int f), (3, .int (nI n)), (0, .ref (a 0)), (1, .int (nI p)), (2, .int (0 : Int32))]) C dL_isOrderSo_125 (by decide) rfl ?_
        refine v_iload 3 (pc := 127) C dL_isOrderSo_127 rfl ?_
        refine v_iconst (pc := 129) (v := (1 : Int32)) C dL_isOrderSo_129 (by decide) ?_
        refine v_iload 1 (pc := 130) C dL_isOrderSo_130 rfl ?_
        refine v_ishl (pc := 132) C dL_isOrderSo_132 ?_
        refine v_ior (pc := 133) C dL_isOrderSo_133 ?_
        refine z_topi (x := (nI (ds (k + 1)) : Int32)) (by rw [q4, bf_2 q2 q1]) ?_
        refine v_istore (pc := 134) (loc' := [(5, .int (nI (ds (k + 1)))), (6, .int (1 : Int32)), (8, .int (nI (bs k))), (7, .int (nI k)), (4, .int f), (3, .int (nI n)), (0, .ref (a 0)), (1, .int (nI p)), (2, .int (0 : Int32))]) C dL_isOrderSo_134 (by decide) rfl ?_
        refine v_iinc 3 (pc := 136) (v := nI (k + 1)) (loc' := [(7, .int (nI (k + 1))), (5, .int (nI (ds (k + 1)))), (6, .int (1 : Int32)), (8, .int (nI (bs k))), (4, .int f), (3, .int (nI n)), (0, .ref (a 0)), (1, .int (nI p)), (2, .int (0 : Int32))]) C dL_isOrderSo_136 rfl (nI_1 k) (by decide) rfl ?_
        refine v_goto 71 (pc := 139) C dL_isOrderSo_139 (by decide) ?_
        refine z_sub [0, 2, 1, 4, 5, 6, 7, 8] rfl ?_
        exact ih (k + 1) S3 (c + 7) (s + 42) (by omega) e4 (by omega) (by omega)
    refine v_iconst (pc := 39) (v := (0 : Int32)) C dL_isOrderSo_39 (by decide) ?_
    refine v_istore (pc := 40) (loc' := [(5, .int (0 : Int32)), (4, .int f), (3, .int (nI n)), (0, .ref (a 0)), (1, .int (nI p)), (2, .int (0 : Int32))]) C dL_isOrderSo_40 (by decide) rfl ?_
    refine v_aload_n 3 (pc := 42) C dL_isOrderSo_42 rfl rfl ?_
    refine v_iload_n 4 (pc := 43) C dL_isOrderSo_43 rfl rfl ?_
    refine v_iload_n 5 (pc := 44) C dL_isOrderSo_44 rfl rfl ?_
    refine v_iload_n 2 (pc := 45) C dL_isOrderSo_45 rfl rfl ?_
    obtain ⟨S3, g3, g4⟩ := k3 S2 g2
    refine v_callV [.int (nI p), .int (0 : Int32), .int (nI n)] (pc := 46) (st1 := [.int (-1 : Int32)]) (c1 := 7) (s1 := 42) C (mX8_ordered C.hT g3) kL_60 (by decide) (gX_8 (rfl : kdX 0 = 8)) rfl rfl rfl rfl (Nat.le_of_ble_eq_true rfl) ⟨(Nat.le_of_ble_eq_true rfl), (Nat.le_of_ble_eq_true rfl)⟩ ⟨(Nat.le_of_ble_eq_true rfl), (Nat.le_of_ble_eq_true rfl)⟩ dL_isOrderSo_46 rfl rfl ?_
    refine v_iconst (pc := 49) (v := (-1 : Int32)) C dL_isOrderSo_49 (by decide) ?_
    refine v_icmp_ne 65 (pc := 50) C dL_isOrderSo_50 (by decide) (fun c0 => absurd c0 (fun z => z rfl)) (fun _ => ?_)
    refine v_iload 1 (pc := 53) C dL_isOrderSo_53 rfl ?_
    refine v_iload_n 2 (pc := 55) C dL_isOrderSo_55 rfl rfl ?_
    refine v_iconst (pc := 56) (v := (1 : Int32)) C dL_isOrderSo_56 (by decide) ?_
    refine v_iadd (pc := 57) C dL_isOrderSo_57 ?_
    refine v_icmp_ge 65 (pc := 58) C dL_isOrderSo_58 (by decide) (fun c0 => absurd c0 (by rw [nI_1]; exact i_nle.mpr k1)) (fun _ => ?_)
    refine v_iconst (pc := 61) (v := (1 : Int32)) C dL_isOrderSo_61 (by decide) ?_
    refine v_goto 66 (pc := 62) C dL_isOrderSo_62 (by decide) ?_
    refine v_istore (pc := 66) (loc' := [(6, .int (1 : Int32)), (5, .int (0 : Int32)), (4, .int f), (3, .int (nI n)), (0, .ref (a 0)), (1, .int (nI p)), (2, .int (0 : Int32))]) C dL_isOrderSo_66 (by decide) rfl ?_
    refine v_iconst (pc := 68) (v := (0 : Int32)) C dL_isOrderSo_68 (by decide) ?_
    refine v_istore (pc := 69) (loc' := [(7, .int (0 : Int32)), (6, .int (1 : Int32)), (5, .int (0 : Int32)), (4, .int f), (3, .int (nI n)), (0, .ref (a 0)), (1, .int (nI p)), (2, .int (0 : Int32))]) C dL_isOrderSo_69 (by decide) rfl ?_
    refine z_sub [0, 1, 2, 3, 4, 5, 6, 7] rfl ?_
    have h0 := loop n 0 S3 7 42 (by omega) g4 (by omega) (by omega)
    rw [k2] at h0
    exact h0
  · refine v_aload_n 2 (pc := 22) C dL_isOrderSo_22 rfl rfl ?_
    refine v_iload_n 3 (pc := 23) C dL_isOrderSo_23 rfl rfl ?_
    refine v_iload_n 4 (pc := 24) C dL_isOrderSo_24 rfl rfl ?_
    refine v_iconst (pc := 25) (v := (0 : Int32)) C dL_isOrderSo_25 (by decide) ?_
    obtain ⟨S3, g3, g4⟩ := h3 (i_nle.mp hf) S2 g2
    refine v_callV [.int (nI p), .int (0 : Int32), .int (0 : Int32)] (pc := 26) (st1 := [.int (-1 : Int32)]) (c1 := 7) (s1 := 42) C (mX8_ordered C.hT g3) kL_60 (by decide) (gX_8 (rfl : kdX 0 = 8)) rfl rfl rfl rfl (Nat.le_of_ble_eq_true rfl) ⟨(Nat.le_of_ble_eq_true rfl), (Nat.le_of_ble_eq_true rfl)⟩ ⟨(Nat.le_of_ble_eq_true rfl), (Nat.le_of_ble_eq_true rfl)⟩ dL_isOrderSo_26 rfl rfl ?_
    refine v_iconst (pc := 29) (v := (-1 : Int32)) C dL_isOrderSo_29 (by decide) ?_
    refine v_icmp_ne 37 (pc := 30) C dL_isOrderSo_30 (by decide) (fun c0 => absurd c0 (fun z => z rfl)) (fun _ => ?_)
    refine v_iconst (pc := 33) (v := (1 : Int32)) C dL_isOrderSo_33 (by decide) ?_
    refine v_goto 38 (pc := 34) C dL_isOrderSo_34 (by decide) ?_
    exact p_iret (pc := 38) C hQ rfl dL_isOrderSo_38 g4 (Nat.le_of_ble_eq_true rfl) (Nat.le_of_ble_eq_true rfl)
