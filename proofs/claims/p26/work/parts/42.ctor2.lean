/-! ===== constructors with loops (wip/p26/gen_ctor.py) ===== -/
abbrev rmX6_init : Room := { frames := 7, cells := 1, slots := 5, locals := 130 }
set_option maxRecDepth 100000 in
set_option maxHeartbeats 4000000 in
theorem mX6_init {l : Launch} {D : va_G} {cs : Nat → ClassId} {h0 k : Nat} {X : Nat → va_E} (hT : l.stackTraces = false) (hd : kdX k = 6) (h85 : 85 ≤ k + 1) (hX : X k = .inr (6, [.int 0, .int 0, .int 0, .int 0, .int 0, .null])) : MB l D cs yX6_init cX6_init 2 rmX6_init [.ref (h0 + k)] (k + 1) h0 X (k + 2) (xT cs h0 k 2 X) := by
  refine zb_entry hT (by decide +kernel) rfl (by decide) (fun E hEl hED hEk C hB hQ hr hin => ?_)
  subst hEl
  subst hED
  subst hEk
  refine z_aload_n 0 (pc := 0) C dX6_init_0 rfl rfl ?_
  refine zb_objInit (pc := 1) C bw_4_15 bw_1_8 bw_1_9 dX6_init_1 (Nat.le_of_ble_eq_true rfl) (Nat.le_of_ble_eq_true rfl) ?_
  refine z_aload_n 0 (pc := 4) C dX6_init_4 rfl rfl ?_
  refine z_iconst (pc := 5) (v := (5 : Int32)) C dX6_init_5 (by decide) ?_
  refine zb_newi (n := k + 1) (pc := 6) (c1 := 1) (s1 := 5) C hB bw_1_18 (N := 5) (by decide) (by decide) (by decide) rfl rfl (Nat.le_of_ble_eq_true rfl) (Nat.le_of_ble_eq_true rfl) dX6_init_6 ?_
  refine bfX6_9 (n := k + 2) (pc := 8) (k := k) (q := h0 + (k + 1)) (fs := [.int 0, .int 0, .int 0, .int 0, .int 0, .null]) (fs2 := [.int 0, .int 0, .int 0, .int 0, .int 0, .ref (h0 + (k + 1))]) C hB hin (by omega) (by simp [va_up, hX]) (Nat.le_of_ble_eq_true rfl) rfl dX6_init_8 ?_
  refine z_iconst (pc := 11) (v := (1 : Int32)) C dX6_init_11 (by decide) ?_
  refine z_istore_n (pc := 12) (loc' := [(1, .int 1), (0, .ref (h0 + k))]) C dX6_init_12 rfl (by decide) rfl ?_
  refine zb_congr (n := k + 2) (Y := va_up (va_up X k (.inr (6, [.int 0, .int 0, .int 0, .int 0, .int 0, .ref (h0 + (k + 1))]))) (k + 1) (.inl (e_k E 0, 5, .inl (fun _ => 0)))) (fun j hj => by simp only [va_up]; (repeat' split) <;> first | rfl | omega) ?_
  refine z_iload_n 0 (pc := 13) C dX6_init_13 rfl rfl ?_
  refine z_iconst (pc := 14) (v := (4 : Int32)) C dX6_init_14 (by decide) ?_
  refine z_icmp_gt 33 (pc := 15) C dX6_init_15 (by decide) (fun c => absurd c (by decide)) (fun _ => ?_)
  refine z_aload_n 1 (pc := 18) C dX6_init_18 rfl rfl ?_
  refine zb_getf (n := k + 2) (pc := 19) (k := k) (ci := 6) (fs := [.int 0, .int 0, .int 0, .int 0, .int 0, .ref (h0 + (k + 1))]) C (by omega) (by simp [va_up]) (T := TX6) (N := 6) inlX6 rfl (j := 5) (by decide) bw_4_16 rfl dX6_init_19 ?_
  refine z_iload_n 0 (pc := 22) C dX6_init_22 rfl rfl ?_
  refine z_iconst (pc := 23) (v := (2 : Int32)) C dX6_init_23 (by decide) ?_
  refine z_iload_n 0 (pc := 24) C dX6_init_24 rfl rfl ?_
  refine z_imul (pc := 25) C dX6_init_25 ?_
  refine zb_iast (n := k + 2) (pc := 26) (k := k + 1) (len := 5) (f := (fun _ => 0)) C hB (by omega) (by simp [va_up]) (vp_in_nI (n := 1) (N := 5) (by decide) (by decide)) dX6_init_26 ?_
  refine zb_congr (n := k + 2) (Y := va_up (va_up X k (.inr (6, [.int 0, .int 0, .int 0, .int 0, .int 0, .ref (h0 + (k + 1))]))) (k + 1) (.inl (e_k E 0, 5, .inl (upd (fun _ => 0) 1 2)))) (fun j hj => by simp only [va_up]; (repeat' split) <;> first | rfl | omega) ?_
  refine z_iinc 0 (pc := 27) (v := 2) (loc' := [(1, .int 2), (0, .ref (h0 + k))]) C dX6_init_27 rfl (by decide) (by decide) rfl ?_
  refine z_goto 13 (pc := 30) C dX6_init_30 (by decide) ?_
  refine z_iload_n 0 (pc := 13) C dX6_init_13 rfl rfl ?_
  refine z_iconst (pc := 14) (v := (4 : Int32)) C dX6_init_14 (by decide) ?_
  refine z_icmp_gt 33 (pc := 15) C dX6_init_15 (by decide) (fun c => absurd c (by decide)) (fun _ => ?_)
  refine z_aload_n 1 (pc := 18) C dX6_init_18 rfl rfl ?_
  refine zb_getf (n := k + 2) (pc := 19) (k := k) (ci := 6) (fs := [.int 0, .int 0, .int 0, .int 0, .int 0, .ref (h0 + (k + 1))]) C (by omega) (by simp [va_up]) (T := TX6) (N := 6) inlX6 rfl (j := 5) (by decide) bw_4_16 rfl dX6_init_19 ?_
  refine z_iload_n 0 (pc := 22) C dX6_init_22 rfl rfl ?_
  refine z_iconst (pc := 23) (v := (2 : Int32)) C dX6_init_23 (by decide) ?_
  refine z_iload_n 0 (pc := 24) C dX6_init_24 rfl rfl ?_
  refine z_imul (pc := 25) C dX6_init_25 ?_
  refine zb_iast (n := k + 2) (pc := 26) (k := k + 1) (len := 5) (f := (upd (fun _ => 0) 1 2)) C hB (by omega) (by simp [va_up]) (vp_in_nI (n := 2) (N := 5) (by decide) (by decide)) dX6_init_26 ?_
  refine zb_congr (n := k + 2) (Y := va_up (va_up X k (.inr (6, [.int 0, .int 0, .int 0, .int 0, .int 0, .ref (h0 + (k + 1))]))) (k + 1) (.inl (e_k E 0, 5, .inl (upd (upd (fun _ => 0) 1 2) 2 4)))) (fun j hj => by simp only [va_up]; (repeat' split) <;> first | rfl | omega) ?_
  refine z_iinc 0 (pc := 27) (v := 3) (loc' := [(1, .int 3), (0, .ref (h0 + k))]) C dX6_init_27 rfl (by decide) (by decide) rfl ?_
  refine z_goto 13 (pc := 30) C dX6_init_30 (by decide) ?_
  refine z_iload_n 0 (pc := 13) C dX6_init_13 rfl rfl ?_
  refine z_iconst (pc := 14) (v := (4 : Int32)) C dX6_init_14 (by decide) ?_
  refine z_icmp_gt 33 (pc := 15) C dX6_init_15 (by decide) (fun c => absurd c (by decide)) (fun _ => ?_)
  refine z_aload_n 1 (pc := 18) C dX6_init_18 rfl rfl ?_
  refine zb_getf (n := k + 2) (pc := 19) (k := k) (ci := 6) (fs := [.int 0, .int 0, .int 0, .int 0, .int 0, .ref (h0 + (k + 1))]) C (by omega) (by simp [va_up]) (T := TX6) (N := 6) inlX6 rfl (j := 5) (by decide) bw_4_16 rfl dX6_init_19 ?_
  refine z_iload_n 0 (pc := 22) C dX6_init_22 rfl rfl ?_
  refine z_iconst (pc := 23) (v := (2 : Int32)) C dX6_init_23 (by decide) ?_
  refine z_iload_n 0 (pc := 24) C dX6_init_24 rfl rfl ?_
  refine z_imul (pc := 25) C dX6_init_25 ?_
  refine zb_iast (n := k + 2) (pc := 26) (k := k + 1) (len := 5) (f := (upd (upd (fun _ => 0) 1 2) 2 4)) C hB (by omega) (by simp [va_up]) (vp_in_nI (n := 3) (N := 5) (by decide) (by decide)) dX6_init_26 ?_
  refine zb_congr (n := k + 2) (Y := va_up (va_up X k (.inr (6, [.int 0, .int 0, .int 0, .int 0, .int 0, .ref (h0 + (k + 1))]))) (k + 1) (.inl (e_k E 0, 5, .inl (upd (upd (upd (fun _ => 0) 1 2) 2 4) 3 6)))) (fun j hj => by simp only [va_up]; (repeat' split) <;> first | rfl | omega) ?_
  refine z_iinc 0 (pc := 27) (v := 4) (loc' := [(1, .int 4), (0, .ref (h0 + k))]) C dX6_init_27 rfl (by decide) (by decide) rfl ?_
  refine z_goto 13 (pc := 30) C dX6_init_30 (by decide) ?_
  refine z_iload_n 0 (pc := 13) C dX6_init_13 rfl rfl ?_
  refine z_iconst (pc := 14) (v := (4 : Int32)) C dX6_init_14 (by decide) ?_
  refine z_icmp_gt 33 (pc := 15) C dX6_init_15 (by decide) (fun c => absurd c (by decide)) (fun _ => ?_)
  refine z_aload_n 1 (pc := 18) C dX6_init_18 rfl rfl ?_
  refine zb_getf (n := k + 2) (pc := 19) (k := k) (ci := 6) (fs := [.int 0, .int 0, .int 0, .int 0, .int 0, .ref (h0 + (k + 1))]) C (by omega) (by simp [va_up]) (T := TX6) (N := 6) inlX6 rfl (j := 5) (by decide) bw_4_16 rfl dX6_init_19 ?_
  refine z_iload_n 0 (pc := 22) C dX6_init_22 rfl rfl ?_
  refine z_iconst (pc := 23) (v := (2 : Int32)) C dX6_init_23 (by decide) ?_
  refine z_iload_n 0 (pc := 24) C dX6_init_24 rfl rfl ?_
  refine z_imul (pc := 25) C dX6_init_25 ?_
  refine zb_iast (n := k + 2) (pc := 26) (k := k + 1) (len := 5) (f := (upd (upd (upd (fun _ => 0) 1 2) 2 4) 3 6)) C hB (by omega) (by simp [va_up]) (vp_in_nI (n := 4) (N := 5) (by decide) (by decide)) dX6_init_26 ?_
  refine zb_congr (n := k + 2) (Y := va_up (va_up X k (.inr (6, [.int 0, .int 0, .int 0, .int 0, .int 0, .ref (h0 + (k + 1))]))) (k + 1) (.inl (e_k E 0, 5, .inl (upd (upd (upd (upd (fun _ => 0) 1 2) 2 4) 3 6) 4 8)))) (fun j hj => by simp only [va_up]; (repeat' split) <;> first | rfl | omega) ?_
  refine z_iinc 0 (pc := 27) (v := 5) (loc' := [(1, .int 5), (0, .ref (h0 + k))]) C dX6_init_27 rfl (by decide) (by decide) rfl ?_
  refine z_goto 13 (pc := 30) C dX6_init_30 (by decide) ?_
  refine z_iload_n 0 (pc := 13) C dX6_init_13 rfl rfl ?_
  refine z_iconst (pc := 14) (v := (4 : Int32)) C dX6_init_14 (by decide) ?_
  refine z_icmp_gt 33 (pc := 15) C dX6_init_15 (by decide) (fun _ => ?_) (fun c => absurd (by decide) c)
  refine zb_vret (n := k + 2) (pc := 33) C hB hQ hr dX6_init_33 (fun j hj => ?_) (Nat.le_of_ble_eq_true rfl) (Nat.le_of_ble_eq_true rfl)
  by_cases q : j = k
  · subst q
    rw [xT_in (by omega)]
    refine Eq.trans ?_ (tX_6 hd).symm
    simp [va_up]
  · by_cases q2 : j = k + 1
    · subst q2
      rw [xT_in (by omega)]
      refine Eq.trans ?_ (tX_d5 (kX_6_5 hd) h85).symm
      simp [va_up, dd0]
    · rw [xT_out (by omega)]
      simp [va_up, q, q2]
