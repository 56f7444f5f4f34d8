/-! ===== the constructor of PressbrakeLane (wip/p26/gen_lane.py) ===== -/
theorem arrV_congr {cA : ClassId} {N : Nat} {f g : Nat → Value} (h : ∀ q, q < N → f q = g q) : arrV cA N f = arrV cA N g := by
  unfold arrV
  rw [show (Array.ofFn (n := N) fun j => f j.val) = Array.ofFn (n := N) fun j => g j.val from congrArg _ (funext fun j => h j.val j.isLt)]
theorem zb_q {E : ET} {cells slots pc : Nat} {loc : List (Nat × Value)} {stk : List Value} {n h0 k N : Nat} {X : Nat → va_E} {cA : ClassId} {f g : Nat → Option Nat} (hk : k < n) (hX : X k = .inl (cA, N, .inr (.inr (.inr (.inr f))))) (h : ∀ q, q < N → f q = g q) (kk : Zz E (WE E n h0 (va_up X k (.inl (cA, N, .inr (.inr (.inr (.inr g))))))) cells slots pc loc stk) : Zz E (WE E n h0 X) cells slots pc loc stk := fun H locs ls hP hl => by
  refine kk H locs ls ⟨fun i q hq => ?_, hP.2⟩ hl
  obtain ⟨hi, rfl⟩ := wE_some hq
  have h1 := hP.1 i _ (wE_at hi)
  by_cases hik : i = k
  · subst hik
    rw [hX] at h1
    rw [va_up_self]
    have h2 : H[h0 + i]? = some (vp_cell cA (N, .inr (.inr (.inr (.inr f))))) := h1
    have h3 : H[h0 + i]? = some (vp_cell cA (N, .inr (.inr (.inr (.inr g))))) := by
      rw [h2, vp_cell_q, vp_cell_q, arrV_congr (fun q hq => by rw [h q hq])]
    exact h3
  · rw [va_up_ne _ _ hik]
    exact h1
def yA (h0 b s i : Nat) : Nat → Option Nat := fun q => if q < i then some (h0 + (b + s * q)) else none
def yL (cs : Nat → ClassId) (h0 i t b : Nat) (fs : List Value) : Nat → va_E := fun j => if j = 0 then .inr (8, fs) else if j = 4 then .inl (cs 1, 8, .inr (.inr (.inr (.inr (yA h0 29 7 i))))) else if j = 5 then .inl (cs 2, 4, .inr (.inr (.inr (.inr (yA h0 85 2 t))))) else if j = 7 then .inl (cs 3, 20, .inr (.inr (.inr (.inr (yA h0 93 1 b))))) else tX cs h0 j
theorem yA_0 {h0 b s : Nat} : (fun _ => none) = yA h0 b s 0 := by
  funext q
  rw [yA, if_neg (Nat.not_lt_zero q)]
theorem yA_s {h0 b s i : Nat} : va_up (yA h0 b s i) i (some (h0 + (b + s * i))) = yA h0 b s (i + 1) := by
  funext q
  unfold va_up yA
  by_cases h : q = i
  · subst h
    rw [if_pos rfl, if_pos (by omega)]
  · by_cases h2 : q < i
    · rw [if_neg h, if_pos h2, if_pos (by omega)]
    · rw [if_neg h, if_neg h2, if_neg (by omega)]
theorem yL_t {cs : Nat → ClassId} {h0 i t b j : Nat} {fs : List Value} (h : j ≠ 0 ∧ j ≠ 4 ∧ j ≠ 5 ∧ j ≠ 7) : yL cs h0 i t b fs j = tX cs h0 j := by
  unfold yL
  rw [if_neg h.1, if_neg h.2.1, if_neg h.2.2.1, if_neg h.2.2.2]
theorem yL_x {cs : Nat → ClassId} {h0 i t b k m j : Nat} {fs : List Value} {e : va_E} (hk : 8 ≤ k ∨ (k = 1 ∧ m = 3)) : xT cs h0 k m (va_up (yL cs h0 i t b fs) k e) j = yL cs h0 i t b fs j ∨ (j = k ∧ m = 0) := by
  by_cases h : k ≤ j ∧ j < k + m
  · left
    rw [xT_in h, yL_t (by omega)]
  · by_cases hj : j = k
    · right
      exact ⟨hj, by omega⟩
    · left
      rw [xT_out h, va_up_ne _ _ hj]
theorem yL_xx {cs : Nat → ClassId} {h0 i t b k m j : Nat} {fs : List Value} {e : va_E} (hk : 8 ≤ k ∨ (k = 1 ∧ m = 3)) (hm : 0 < m) : xT cs h0 k m (va_up (yL cs h0 i t b fs) k e) j = yL cs h0 i t b fs j := by
  rcases yL_x (cs := cs) (h0 := h0) (i := i) (t := t) (b := b) (fs := fs) (e := e) (j := j) hk with h | h
  · exact h
  · omega
theorem yL_0 {cs : Nat → ClassId} {h0 i t b j : Nat} {fs fs2 : List Value} : va_up (yL cs h0 i t b fs) 0 (.inr (8, fs2)) j = yL cs h0 i t b fs2 j := by
  by_cases hj : j = 0
  · subst hj; rfl
  · rw [va_up_ne _ _ hj]
    unfold yL
    rw [if_neg hj, if_neg hj]
theorem yL_up {cs : Nat → ClassId} {h0 i t b k j : Nat} {fs : List Value} {e : va_E} (h : yL cs h0 i t b fs k = e) : va_up (yL cs h0 i t b fs) k e j = yL cs h0 i t b fs j := by
  by_cases hj : j = k
  · subst hj
    rw [va_up_self, h]
  · rw [va_up_ne _ _ hj]
theorem yL_4 {cs : Nat → ClassId} {h0 i t b j : Nat} {fs : List Value} : va_up (yL cs h0 i t b fs) 4 (.inl (cs 1, 8, .inr (.inr (.inr (.inr (yA h0 29 7 (i + 1))))))) j = yL cs h0 (i + 1) t b fs j := by
  by_cases hj : j = 4
  · subst hj; rfl
  · rw [va_up_ne _ _ hj]
    unfold yL
    rw [if_neg hj, if_neg hj]
theorem yL_5 {cs : Nat → ClassId} {h0 i t b j : Nat} {fs : List Value} : va_up (yL cs h0 i t b fs) 5 (.inl (cs 2, 4, .inr (.inr (.inr (.inr (yA h0 85 2 (t + 1))))))) j = yL cs h0 i (t + 1) b fs j := by
  by_cases hj : j = 5
  · subst hj; rfl
  · rw [va_up_ne _ _ hj]
    unfold yL
    rw [if_neg hj, if_neg hj]
theorem yL_7 {cs : Nat → ClassId} {h0 i t b j : Nat} {fs : List Value} : va_up (yL cs h0 i t b fs) 7 (.inl (cs 3, 20, .inr (.inr (.inr (.inr (yA h0 93 1 (b + 1))))))) j = yL cs h0 i t (b + 1) fs j := by
  by_cases hj : j = 7
  · subst hj; rfl
  · rw [va_up_ne _ _ hj]
    unfold yL
    rw [if_neg hj, if_neg hj]
abbrev fsL (h0 : Nat) : List Value := [.ref (h0 + 1), .ref (h0 + 4), .int 0, .ref (h0 + 5), .int 0, .ref (h0 + 6), .int 0, .ref (h0 + 7), .int 0, .ref (h0 + 8), .ref (h0 + 15), .ref (h0 + 20)]
abbrev rmX8_init : Room := { frames := 9, cells := 112, slots := 965, locals := 210 }
theorem kd_p {i : Nat} (h : i < 8) : kdX (29 + 7 * i) = 4 := (by decide +kernel : ∀ i, i < 8 → kdX (29 + 7 * i) = 4) i h
theorem kd_t {i : Nat} (h : i < 4) : kdX (85 + 2 * i) = 6 := (by decide +kernel : ∀ i, i < 4 → kdX (85 + 2 * i) = 6) i h
theorem kd_b {i : Nat} (h : i < 20) : kdX (93 + 1 * i) = 0 := (by decide +kernel : ∀ i, i < 20 → kdX (93 + 1 * i) = 0) i h
set_option maxRecDepth 100000 in
set_option maxHeartbeats 4000000 in
theorem lane_p {E : ET} {h0 : Nat} (C : CX E cX8_init RX8 2 rmX8_init) (hB : CB E h0) (hx : Zz E (WE E (29 + 7 * 8) h0 (yL (e_k E) h0 8 0 0 (fsL h0))) (28 + 7 * 8) (473 + 41 * 8) 109 [(1, .int (nI 8)), (0, .ref (h0 + 0))] []) : ∀ m i, i + m = 8 → Zz E (WE E (29 + 7 * i) h0 (yL (e_k E) h0 i 0 0 (fsL h0))) (28 + 7 * i) (473 + 41 * i) 84 [(1, .int (nI i)), (0, .ref (h0 + 0))] [] := by
  intro m
  induction m with
  | zero =>
    intro i hi
    obtain rfl : i = 8 := by omega
    refine z_iload_n 0 (pc := 84) C dX8_init_84 rfl rfl ?_
    refine z_bipush (pc := 85) (v := (8 : Int32)) C dX8_init_85 (by decide) ?_
    refine z_icmp_ge 109 (pc := 87) C dX8_init_87 (by decide) (fun _ => ?_) (fun c => absurd (by decide) c)
    exact hx
  | succ m ih =>
    intro i hi
    refine z_iload_n 0 (pc := 84) C dX8_init_84 rfl rfl ?_
    refine z_bipush (pc := 85) (v := (8 : Int32)) C dX8_init_85 (by decide) ?_
    refine z_icmp_ge 109 (pc := 87) C dX8_init_87 (by decide) (fun c => absurd c (nI_ge (a := i) (b := 8) (by omega) (by decide))) (fun _ => ?_)
    refine z_aload_n 1 (pc := 90) C dX8_init_90 rfl rfl ?_
    refine zb_getf (n := 29 + 7 * i) (pc := 91) (k := 0) (ci := 8) (fs := (fsL h0)) C (by omega) rfl (T := TX8) (N := 12) inlX8 rfl (j := 1) (by decide) bw_1_15 rfl dX8_init_91 ?_
    refine z_iload_n 0 (pc := 94) C dX8_init_94 rfl rfl ?_
    refine bnX8_16 (n := 29 + 7 * i) (pc := 95) (c1 := 28 + 7 * i + 1) (s1 := 473 + 41 * i + 8) C hB rfl rfl (by show _ ≤ 112; omega) (by show _ ≤ 965; omega) dX8_init_95 ?_
    refine z_dup (pc := 98) C dX8_init_98 rfl ?_
    refine zb_callN (n := 29 + 7 * i + 1) (pc := 99) (k := 29 + 7 * i) (c1 := 28 + 7 * (i + 1)) (s1 := 473 + 41 * (i + 1)) C hB (mX4_init C.hT (k := 29 + 7 * i) (kd_p (by omega)) (va_up_self _ _ _)) ne_X8_59 bw_4_4 bw_2_11 bw_4_5 ⟨by decide +kernel, by decide +kernel, by decide +kernel⟩ rfl (Nat.le_of_ble_eq_true rfl) ⟨(Nat.le_of_ble_eq_true rfl), (Nat.le_of_ble_eq_true rfl)⟩ (by show _ + 6 = _; omega) (by show _ + 33 = _; omega) (by show _ ≤ 112; omega) (by show _ ≤ 965; omega) dX8_init_99 ?_
    refine zb_congr (n := 29 + 7 * i + 7) (Y := yL (e_k E) h0 i 0 0 (fsL h0)) (fun j _ => yL_xx (by omega) (by decide)) ?_
    refine zb_aast (n := 29 + 7 * i + 7) (pc := 102) (k := 4) (k2 := 29 + 7 * i) (t := 1) (ci := 4) (f := yA h0 29 7 i) C hB (by omega) rfl rfl (by omega) ((yL_t (by omega)).trans (tX_4 (kd_p (by omega)))) rfl (vp_in_nI (n := i) (N := 8) (by omega) (by decide)) dX8_init_102 ?_
    rw [nI_clamp (n := i) (by omega), yA_s]
    refine zb_congr (n := 29 + 7 * i + 7) (Y := yL (e_k E) h0 (i + 1) 0 0 (fsL h0)) (fun j _ => yL_4) ?_
    refine z_iinc 0 (pc := 103) (v := nI (i + 1)) (loc' := [(1, .int (nI (i + 1))), (0, .ref (h0 + 0))]) C dX8_init_103 rfl (nI_1 i) (by decide) rfl ?_
    refine z_goto 84 (pc := 106) C dX8_init_106 (by decide) ?_
    exact ih (i + 1) (by omega)
set_option maxRecDepth 100000 in
set_option maxHeartbeats 4000000 in
theorem lane_t {E : ET} {h0 : Nat} (C : CX E cX8_init RX8 2 rmX8_init) (hB : CB E h0) (hx : Zz E (WE E (85 + 2 * 4) h0 (yL (e_k E) h0 8 4 0 (fsL h0))) (84 + 2 * 4) (801 + 11 * 4) 135 [(1, .int (nI 4)), (0, .ref (h0 + 0))] []) : ∀ m i, i + m = 4 → Zz E (WE E (85 + 2 * i) h0 (yL (e_k E) h0 8 i 0 (fsL h0))) (84 + 2 * i) (801 + 11 * i) 111 [(1, .int (nI i)), (0, .ref (h0 + 0))] [] := by
  intro m
  induction m with
  | zero =>
    intro i hi
    obtain rfl : i = 4 := by omega
    refine z_iload_n 0 (pc := 111) C dX8_init_111 rfl rfl ?_
    refine z_iconst (pc := 112) (v := (4 : Int32)) C dX8_init_112 (by decide) ?_
    refine z_icmp_ge 135 (pc := 113) C dX8_init_113 (by decide) (fun _ => ?_) (fun c => absurd (by decide) c)
    exact hx
  | succ m ih =>
    intro i hi
    refine z_iload_n 0 (pc := 111) C dX8_init_111 rfl rfl ?_
    refine z_iconst (pc := 112) (v := (4 : Int32)) C dX8_init_112 (by decide) ?_
    refine z_icmp_ge 135 (pc := 113) C dX8_init_113 (by decide) (fun c => absurd c (nI_ge (a := i) (b := 4) (by omega) (by decide))) (fun _ => ?_)
    refine z_aload_n 1 (pc := 116) C dX8_init_116 rfl rfl ?_
    refine zb_getf (n := 85 + 2 * i) (pc := 117) (k := 0) (ci := 8) (fs := (fsL h0)) C (by omega) rfl (T := TX8) (N := 12) inlX8 rfl (j := 3) (by decide) bw_1_17 rfl dX8_init_117 ?_
    refine z_iload_n 0 (pc := 120) C dX8_init_120 rfl rfl ?_
    refine bnX8_22 (n := 85 + 2 * i) (pc := 121) (c1 := 84 + 2 * i + 1) (s1 := 801 + 11 * i + 6) C hB rfl rfl (by show _ ≤ 112; omega) (by show _ ≤ 965; omega) dX8_init_121 ?_
    refine z_dup (pc := 124) C dX8_init_124 rfl ?_
    refine zb_callI (n := 85 + 2 * i + 1) (pc := 125) (k := 85 + 2 * i) (c1 := 84 + 2 * (i + 1)) (s1 := 801 + 11 * (i + 1)) C hB (mX6_init C.hT (k := 85 + 2 * i) (kd_t (by omega)) (by omega) (va_up_self _ _ _)) bw_4_12 bw_4_13 bw_2_13 bw_4_14 ⟨by decide +kernel, by decide +kernel, by decide +kernel⟩ rfl (Nat.le_of_ble_eq_true rfl) ⟨(Nat.le_of_ble_eq_true rfl), (Nat.le_of_ble_eq_true rfl)⟩ (by show _ + 1 = _; omega) (by show _ + 5 = _; omega) (by show _ ≤ 112; omega) (by show _ ≤ 965; omega) dX8_init_125 ?_
    refine zb_congr (n := 85 + 2 * i + 2) (Y := yL (e_k E) h0 8 i 0 (fsL h0)) (fun j _ => yL_xx (by omega) (by decide)) ?_
    refine zb_aast (n := 85 + 2 * i + 2) (pc := 128) (k := 5) (k2 := 85 + 2 * i) (t := 2) (ci := 6) (f := yA h0 85 2 i) C hB (by omega) rfl rfl (by omega) ((yL_t (by omega)).trans (tX_6 (kd_t (by omega)))) rfl (vp_in_nI (n := i) (N := 4) (by omega) (by decide)) dX8_init_128 ?_
    rw [nI_clamp (n := i) (by omega), yA_s]
    refine zb_congr (n := 85 + 2 * i + 2) (Y := yL (e_k E) h0 8 (i + 1) 0 (fsL h0)) (fun j _ => yL_5) ?_
    refine z_iinc 0 (pc := 129) (v := nI (i + 1)) (loc' := [(1, .int (nI (i + 1))), (0, .ref (h0 + 0))]) C dX8_init_129 rfl (nI_1 i) (by decide) rfl ?_
    refine z_goto 111 (pc := 132) C dX8_init_132 (by decide) ?_
    exact ih (i + 1) (by omega)
set_option maxRecDepth 100000 in
set_option maxHeartbeats 4000000 in
theorem lane_b {E : ET} {h0 : Nat} (C : CX E cX8_init RX8 2 rmX8_init) (hB : CB E h0) (hx : Zz E (WE E (93 + 1 * 20) h0 (yL (e_k E) h0 8 4 20 (fsL h0))) (92 + 1 * 20) (845 + 6 * 20) 162 [(1, .int (nI 20)), (0, .ref (h0 + 0))] []) : ∀ m i, i + m = 20 → Zz E (WE E (93 + 1 * i) h0 (yL (e_k E) h0 8 4 i (fsL h0))) (92 + 1 * i) (845 + 6 * i) 137 [(1, .int (nI i)), (0, .ref (h0 + 0))] [] := by
  intro m
  induction m with
  | zero =>
    intro i hi
    obtain rfl : i = 20 := by omega
    refine z_iload_n 0 (pc := 137) C dX8_init_137 rfl rfl ?_
    refine z_bipush (pc := 138) (v := (20 : Int32)) C dX8_init_138 (by decide) ?_
    refine z_icmp_ge 162 (pc := 140) C dX8_init_140 (by decide) (fun _ => ?_) (fun c => absurd (by decide) c)
    exact hx
  | succ m ih =>
    intro i hi
    refine z_iload_n 0 (pc := 137) C dX8_init_137 rfl rfl ?_
    refine z_bipush (pc := 138) (v := (20 : Int32)) C dX8_init_138 (by decide) ?_
    refine z_icmp_ge 162 (pc := 140) C dX8_init_140 (by decide) (fun c => absurd c (nI_ge (a := i) (b := 20) (by omega) (by decide))) (fun _ => ?_)
    refine z_aload_n 1 (pc := 143) C dX8_init_143 rfl rfl ?_
    refine zb_getf (n := 93 + 1 * i) (pc := 144) (k := 0) (ci := 8) (fs := (fsL h0)) C (by omega) rfl (T := TX8) (N := 12) inlX8 rfl (j := 7) (by decide) bw_1_21 rfl dX8_init_144 ?_
    refine z_iload_n 0 (pc := 147) C dX8_init_147 rfl rfl ?_
    refine bnX8_32 (n := 93 + 1 * i) (pc := 148) (c1 := 92 + 1 * i + 1) (s1 := 845 + 6 * i + 6) C hB rfl rfl (by show _ ≤ 112; omega) (by show _ ≤ 965; omega) dX8_init_148 ?_
    refine z_dup (pc := 151) C dX8_init_151 rfl ?_
    refine zb_callN (n := 93 + 1 * i + 1) (pc := 152) (k := 93 + 1 * i) (c1 := 92 + 1 * (i + 1)) (s1 := 845 + 6 * (i + 1)) C hB (mX0_init C.hT (k := 93 + 1 * i) (kd_b (by omega)) (va_up_self _ _ _)) ne_X8_61 bw_4_17 bw_2_15 bw_4_18 ⟨by decide +kernel, by decide +kernel, by decide +kernel⟩ rfl (Nat.le_of_ble_eq_true rfl) ⟨(Nat.le_of_ble_eq_true rfl), (Nat.le_of_ble_eq_true rfl)⟩ (by show _ + 0 = _; omega) (by show _ + 0 = _; omega) (by show _ ≤ 112; omega) (by show _ ≤ 965; omega) dX8_init_152 ?_
    refine zb_congr (n := 93 + 1 * i + 1) (Y := yL (e_k E) h0 8 4 i (fsL h0)) (fun j _ => yL_xx (by omega) (by decide)) ?_
    refine zb_aast (n := 93 + 1 * i + 1) (pc := 155) (k := 7) (k2 := 93 + 1 * i) (t := 3) (ci := 0) (f := yA h0 93 1 i) C hB (by omega) rfl rfl (by omega) ((yL_t (by omega)).trans (tX_0 (kd_b (by omega)))) rfl (vp_in_nI (n := i) (N := 20) (by omega) (by decide)) dX8_init_155 ?_
    rw [nI_clamp (n := i) (by omega), yA_s]
    refine zb_congr (n := 93 + 1 * i + 1) (Y := yL (e_k E) h0 8 4 (i + 1) (fsL h0)) (fun j _ => yL_7) ?_
    refine z_iinc 0 (pc := 156) (v := nI (i + 1)) (loc' := [(1, .int (nI (i + 1))), (0, .ref (h0 + 0))]) C dX8_init_156 rfl (nI_1 i) (by decide) rfl ?_
    refine z_goto 137 (pc := 159) C dX8_init_159 (by decide) ?_
    exact ih (i + 1) (by omega)
set_option maxRecDepth 100000 in
set_option maxHeartbeats 8000000 in
theorem mX8_init {l : Launch} {D : va_G} {cs : Nat → ClassId} {h0 : Nat} {X : Nat → va_E} (hT : l.stackTraces = false) (hX : X 0 = .inr (8, [.null, .null, .int 0, .null, .int 0, .null, .int 0, .null, .int 0, .null, .null, .null])) : MB l D cs yX8_init cX8_init 2 rmX8_init [.ref (h0 + 0)] 1 h0 X 113 (tX cs h0) := by
  refine zb_entry (k := 0) hT (by decide +kernel) rfl (by decide) (fun E hEl hED hEk C hB hQ hr hin => ?_)
  subst hEl
  subst hED
  subst hEk
  refine z_aload_n 0 (pc := 0) C dX8_init_0 rfl rfl ?_
  refine zb_objInit (pc := 1) C bw_1_7 bw_1_8 bw_1_9 dX8_init_1 (Nat.le_of_ble_eq_true rfl) (Nat.le_of_ble_eq_true rfl) ?_
  refine zb_congr (n := 1) (Y := yL (e_k E) h0 0 0 0 [.null, .null, .int 0, .null, .int 0, .null, .int 0, .null, .int 0, .null, .null, .null]) (fun j hj => by rw [show j = 0 from by omega]; exact hX) ?_
  refine z_aload_n 0 (pc := 4) C dX8_init_4 rfl rfl ?_
  refine bnX8_9 (n := 1) (pc := 5) (c1 := 1) (s1 := 3) C hB rfl rfl (Nat.le_of_ble_eq_true rfl) (Nat.le_of_ble_eq_true rfl) dX8_init_5 ?_
  refine z_dup (pc := 8) C dX8_init_8 rfl ?_
  refine zb_callN (n := 2) (pc := 9) (k := 1) (c1 := 3) (s1 := 15) C hB (mX2_init C.hT (k := 1) (rfl : kdX 1 = 2) rfl) ne_X8_11 bw_2_16 bw_1_12 bw_2_17 ⟨by decide +kernel, by decide +kernel, by decide +kernel⟩ rfl (Nat.le_of_ble_eq_true rfl) ⟨(Nat.le_of_ble_eq_true rfl), (Nat.le_of_ble_eq_true rfl)⟩ rfl rfl (Nat.le_of_ble_eq_true rfl) (Nat.le_of_ble_eq_true rfl) dX8_init_9 ?_
  refine zb_congr (n := 4) (Y := yL (e_k E) h0 0 0 0 [.null, .null, .int 0, .null, .int 0, .null, .int 0, .null, .int 0, .null, .null, .null]) (fun j _ => yL_xx (by decide) (by decide)) ?_
  refine bfX8_12 (n := 4) (pc := 12) (k := 0) (q := h0 + 1) (fs := [.null, .null, .int 0, .null, .int 0, .null, .int 0, .null, .int 0, .null, .null, .null]) (fs2 := [.ref (h0 + 1), .null, .int 0, .null, .int 0, .null, .int 0, .null, .int 0, .null, .null, .null]) C hB hin (by decide) rfl (Nat.le_of_ble_eq_true rfl) rfl dX8_init_12 ?_
  refine zb_congr (n := 4) (Y := yL (e_k E) h0 0 0 0 [.ref (h0 + 1), .null, .int 0, .null, .int 0, .null, .int 0, .null, .int 0, .null, .null, .null]) (fun j _ => yL_0) ?_
  refine z_aload_n 0 (pc := 15) C dX8_init_15 rfl rfl ?_
  refine z_bipush (pc := 16) (v := (8 : Int32)) C dX8_init_16 (by decide) ?_
  refine zb_newq (n := 4) (pc := 18) (c1 := 4) (s1 := 23) C hB (Cn := "PressbrakeLane$Part") (t := 1) bw_1_14 (by decide) rfl (N := 8) (by decide) (by decide) (by decide) rfl rfl (Nat.le_of_ble_eq_true rfl) (Nat.le_of_ble_eq_true rfl) dX8_init_18 ?_
  refine zb_congr (n := 5) (Y := yL (e_k E) h0 0 0 0 [.ref (h0 + 1), .null, .int 0, .null, .int 0, .null, .int 0, .null, .int 0, .null, .null, .null]) (fun j _ => yL_up (by rw [yA_0 (h0 := h0) (b := 29) (s := 7)]; rfl)) ?_
  refine bfX8_18 (n := 5) (pc := 21) (k := 0) (q := h0 + 4) (fs := [.ref (h0 + 1), .null, .int 0, .null, .int 0, .null, .int 0, .null, .int 0, .null, .null, .null]) (fs2 := [.ref (h0 + 1), .ref (h0 + 4), .int 0, .null, .int 0, .null, .int 0, .null, .int 0, .null, .null, .null]) C hB hin (by decide) rfl (Nat.le_of_ble_eq_true rfl) rfl dX8_init_21 ?_
  refine zb_congr (n := 5) (Y := yL (e_k E) h0 0 0 0 [.ref (h0 + 1), .ref (h0 + 4), .int 0, .null, .int 0, .null, .int 0, .null, .int 0, .null, .null, .null]) (fun j _ => yL_0) ?_
  refine z_aload_n 0 (pc := 24) C dX8_init_24 rfl rfl ?_
  refine z_iconst (pc := 25) (v := (4 : Int32)) C dX8_init_25 (by decide) ?_
  refine zb_newq (n := 5) (pc := 26) (c1 := 5) (s1 := 27) C hB (Cn := "PressbrakeLane$Tool") (t := 2) bw_1_16 (by decide) rfl (N := 4) (by decide) (by decide) (by decide) rfl rfl (Nat.le_of_ble_eq_true rfl) (Nat.le_of_ble_eq_true rfl) dX8_init_26 ?_
  refine zb_congr (n := 6) (Y := yL (e_k E) h0 0 0 0 [.ref (h0 + 1), .ref (h0 + 4), .int 0, .null, .int 0, .null, .int 0, .null, .int 0, .null, .null, .null]) (fun j _ => yL_up (by rw [yA_0 (h0 := h0) (b := 85) (s := 2)]; rfl)) ?_
  refine bfX8_24 (n := 6) (pc := 29) (k := 0) (q := h0 + 5) (fs := [.ref (h0 + 1), .ref (h0 + 4), .int 0, .null, .int 0, .null, .int 0, .null, .int 0, .null, .null, .null]) (fs2 := [.ref (h0 + 1), .ref (h0 + 4), .int 0, .ref (h0 + 5), .int 0, .null, .int 0, .null, .int 0, .null, .null, .null]) C hB hin (by decide) rfl (Nat.le_of_ble_eq_true rfl) rfl dX8_init_29 ?_
  refine zb_congr (n := 6) (Y := yL (e_k E) h0 0 0 0 [.ref (h0 + 1), .ref (h0 + 4), .int 0, .ref (h0 + 5), .int 0, .null, .int 0, .null, .int 0, .null, .null, .null]) (fun j _ => yL_0) ?_
  refine z_aload_n 0 (pc := 32) C dX8_init_32 rfl rfl ?_
  refine z_bipush (pc := 33) (v := (8 : Int32)) C dX8_init_33 (by decide) ?_
  refine zb_newi (n := 6) (pc := 35) (c1 := 6) (s1 := 35) C hB bw_1_18 (N := 8) (by decide) (by decide) (by decide) rfl rfl (Nat.le_of_ble_eq_true rfl) (Nat.le_of_ble_eq_true rfl) dX8_init_35 ?_
  refine zb_congr (n := 7) (Y := yL (e_k E) h0 0 0 0 [.ref (h0 + 1), .ref (h0 + 4), .int 0, .ref (h0 + 5), .int 0, .null, .int 0, .null, .int 0, .null, .null, .null]) (fun j _ => yL_up ((yL_t (by decide)).trans (tX_a8 rfl))) ?_
  refine bfX8_28 (n := 7) (pc := 37) (k := 0) (q := h0 + 6) (fs := [.ref (h0 + 1), .ref (h0 + 4), .int 0, .ref (h0 + 5), .int 0, .null, .int 0, .null, .int 0, .null, .null, .null]) (fs2 := [.ref (h0 + 1), .ref (h0 + 4), .int 0, .ref (h0 + 5), .int 0, .ref (h0 + 6), .int 0, .null, .int 0, .null, .null, .null]) C hB hin (by decide) rfl (Nat.le_of_ble_eq_true rfl) rfl dX8_init_37 ?_
  refine zb_congr (n := 7) (Y := yL (e_k E) h0 0 0 0 [.ref (h0 + 1), .ref (h0 + 4), .int 0, .ref (h0 + 5), .int 0, .ref (h0 + 6), .int 0, .null, .int 0, .null, .null, .null]) (fun j _ => yL_0) ?_
  refine z_aload_n 0 (pc := 40) C dX8_init_40 rfl rfl ?_
  refine z_bipush (pc := 41) (v := (20 : Int32)) C dX8_init_41 (by decide) ?_
  refine zb_newq (n := 7) (pc := 43) (c1 := 7) (s1 := 55) C hB (Cn := "PressbrakeLane$Batch") (t := 3) bw_1_20 (by decide) rfl (N := 20) (by decide) (by decide) (by decide) rfl rfl (Nat.le_of_ble_eq_true rfl) (Nat.le_of_ble_eq_true rfl) dX8_init_43 ?_
  refine zb_congr (n := 8) (Y := yL (e_k E) h0 0 0 0 [.ref (h0 + 1), .ref (h0 + 4), .int 0, .ref (h0 + 5), .int 0, .ref (h0 + 6), .int 0, .null, .int 0, .null, .null, .null]) (fun j _ => yL_up (by rw [yA_0 (h0 := h0) (b := 93) (s := 1)]; rfl)) ?_
  refine bfX8_34 (n := 8) (pc := 46) (k := 0) (q := h0 + 7) (fs := [.ref (h0 + 1), .ref (h0 + 4), .int 0, .ref (h0 + 5), .int 0, .ref (h0 + 6), .int 0, .null, .int 0, .null, .null, .null]) (fs2 := [.ref (h0 + 1), .ref (h0 + 4), .int 0, .ref (h0 + 5), .int 0, .ref (h0 + 6), .int 0, .ref (h0 + 7), .int 0, .null, .null, .null]) C hB hin (by decide) rfl (Nat.le_of_ble_eq_true rfl) rfl dX8_init_46 ?_
  refine zb_congr (n := 8) (Y := yL (e_k E) h0 0 0 0 [.ref (h0 + 1), .ref (h0 + 4), .int 0, .ref (h0 + 5), .int 0, .ref (h0 + 6), .int 0, .ref (h0 + 7), .int 0, .null, .null, .null]) (fun j _ => yL_0) ?_
  refine z_aload_n 0 (pc := 49) C dX8_init_49 rfl rfl ?_
  refine bnX8_38 (n := 8) (pc := 50) (c1 := 8) (s1 := 57) C hB rfl rfl (Nat.le_of_ble_eq_true rfl) (Nat.le_of_ble_eq_true rfl) dX8_init_50 ?_
  refine z_dup (pc := 53) C dX8_init_53 rfl ?_
  refine zb_callN (n := 9) (pc := 54) (k := 8) (c1 := 14) (s1 := 89) C hB (mX1_init C.hT (k := 8) (rfl : kdX 8 = 1) rfl) ne_X8_40 bw_2_21 bw_2_0 bw_2_22 ⟨by decide +kernel, by decide +kernel, by decide +kernel⟩ rfl (Nat.le_of_ble_eq_true rfl) ⟨(Nat.le_of_ble_eq_true rfl), (Nat.le_of_ble_eq_true rfl)⟩ rfl rfl (Nat.le_of_ble_eq_true rfl) (Nat.le_of_ble_eq_true rfl) dX8_init_54 ?_
  refine zb_congr (n := 15) (Y := yL (e_k E) h0 0 0 0 [.ref (h0 + 1), .ref (h0 + 4), .int 0, .ref (h0 + 5), .int 0, .ref (h0 + 6), .int 0, .ref (h0 + 7), .int 0, .null, .null, .null]) (fun j _ => yL_xx (by decide) (by decide)) ?_
  refine bfX8_41 (n := 15) (pc := 57) (k := 0) (q := h0 + 8) (fs := [.ref (h0 + 1), .ref (h0 + 4), .int 0, .ref (h0 + 5), .int 0, .ref (h0 + 6), .int 0, .ref (h0 + 7), .int 0, .null, .null, .null]) (fs2 := [.ref (h0 + 1), .ref (h0 + 4), .int 0, .ref (h0 + 5), .int 0, .ref (h0 + 6), .int 0, .ref (h0 + 7), .int 0, .ref (h0 + 8), .null, .null]) C hB hin (by decide) rfl (Nat.le_of_ble_eq_true rfl) rfl dX8_init_57 ?_
  refine zb_congr (n := 15) (Y := yL (e_k E) h0 0 0 0 [.ref (h0 + 1), .ref (h0 + 4), .int 0, .ref (h0 + 5), .int 0, .ref (h0 + 6), .int 0, .ref (h0 + 7), .int 0, .ref (h0 + 8), .null, .null]) (fun j _ => yL_0) ?_
  refine z_aload_n 0 (pc := 60) C dX8_init_60 rfl rfl ?_
  refine bnX8_45 (n := 15) (pc := 61) (c1 := 15) (s1 := 96) C hB rfl rfl (Nat.le_of_ble_eq_true rfl) (Nat.le_of_ble_eq_true rfl) dX8_init_61 ?_
  refine z_dup (pc := 64) C dX8_init_64 rfl ?_
  refine zb_callN (n := 16) (pc := 65) (k := 15) (c1 := 19) (s1 := 234) C hB (mX5_init C.hT (k := 15) (rfl : kdX 15 = 5) (by decide) rfl) ne_X8_47 bw_3_10 bw_2_4 bw_3_11 ⟨by decide +kernel, by decide +kernel, by decide +kernel⟩ rfl (Nat.le_of_ble_eq_true rfl) ⟨(Nat.le_of_ble_eq_true rfl), (Nat.le_of_ble_eq_true rfl)⟩ rfl rfl (Nat.le_of_ble_eq_true rfl) (Nat.le_of_ble_eq_true rfl) dX8_init_65 ?_
  refine zb_congr (n := 20) (Y := yL (e_k E) h0 0 0 0 [.ref (h0 + 1), .ref (h0 + 4), .int 0, .ref (h0 + 5), .int 0, .ref (h0 + 6), .int 0, .ref (h0 + 7), .int 0, .ref (h0 + 8), .null, .null]) (fun j _ => yL_xx (by decide) (by decide)) ?_
  refine bfX8_48 (n := 20) (pc := 68) (k := 0) (q := h0 + 15) (fs := [.ref (h0 + 1), .ref (h0 + 4), .int 0, .ref (h0 + 5), .int 0, .ref (h0 + 6), .int 0, .ref (h0 + 7), .int 0, .ref (h0 + 8), .null, .null]) (fs2 := [.ref (h0 + 1), .ref (h0 + 4), .int 0, .ref (h0 + 5), .int 0, .ref (h0 + 6), .int 0, .ref (h0 + 7), .int 0, .ref (h0 + 8), .ref (h0 + 15), .null]) C hB hin (by decide) rfl (Nat.le_of_ble_eq_true rfl) rfl dX8_init_68 ?_
  refine zb_congr (n := 20) (Y := yL (e_k E) h0 0 0 0 [.ref (h0 + 1), .ref (h0 + 4), .int 0, .ref (h0 + 5), .int 0, .ref (h0 + 6), .int 0, .ref (h0 + 7), .int 0, .ref (h0 + 8), .ref (h0 + 15), .null]) (fun j _ => yL_0) ?_
  refine z_aload_n 0 (pc := 71) C dX8_init_71 rfl rfl ?_
  refine bnX8_52 (n := 20) (pc := 72) (c1 := 20) (s1 := 249) C hB rfl rfl (Nat.le_of_ble_eq_true rfl) (Nat.le_of_ble_eq_true rfl) dX8_init_72 ?_
  refine z_dup (pc := 75) C dX8_init_75 rfl ?_
  refine zb_callN (n := 21) (pc := 76) (k := 20) (c1 := 28) (s1 := 473) C hB (mX3_init C.hT (k := 20) (rfl : kdX 20 = 3) rfl) ne_X8_54 bw_3_17 bw_2_8 bw_3_18 ⟨by decide +kernel, by decide +kernel, by decide +kernel⟩ rfl (Nat.le_of_ble_eq_true rfl) ⟨(Nat.le_of_ble_eq_true rfl), (Nat.le_of_ble_eq_true rfl)⟩ rfl rfl (Nat.le_of_ble_eq_true rfl) (Nat.le_of_ble_eq_true rfl) dX8_init_76 ?_
  refine zb_congr (n := 29) (Y := yL (e_k E) h0 0 0 0 [.ref (h0 + 1), .ref (h0 + 4), .int 0, .ref (h0 + 5), .int 0, .ref (h0 + 6), .int 0, .ref (h0 + 7), .int 0, .ref (h0 + 8), .ref (h0 + 15), .null]) (fun j _ => yL_xx (by decide) (by decide)) ?_
  refine bfX8_55 (n := 29) (pc := 79) (k := 0) (q := h0 + 20) (fs := [.ref (h0 + 1), .ref (h0 + 4), .int 0, .ref (h0 + 5), .int 0, .ref (h0 + 6), .int 0, .ref (h0 + 7), .int 0, .ref (h0 + 8), .ref (h0 + 15), .null]) (fs2 := [.ref (h0 + 1), .ref (h0 + 4), .int 0, .ref (h0 + 5), .int 0, .ref (h0 + 6), .int 0, .ref (h0 + 7), .int 0, .ref (h0 + 8), .ref (h0 + 15), .ref (h0 + 20)]) C hB hin (by decide) rfl (Nat.le_of_ble_eq_true rfl) rfl dX8_init_79 ?_
  refine zb_congr (n := 29) (Y := yL (e_k E) h0 0 0 0 [.ref (h0 + 1), .ref (h0 + 4), .int 0, .ref (h0 + 5), .int 0, .ref (h0 + 6), .int 0, .ref (h0 + 7), .int 0, .ref (h0 + 8), .ref (h0 + 15), .ref (h0 + 20)]) (fun j _ => yL_0) ?_
  refine z_iconst (pc := 82) (v := (0 : Int32)) C dX8_init_82 (by decide) ?_
  refine z_istore_n (pc := 83) (loc' := [(1, .int (nI 0)), (0, .ref (h0 + 0))]) C dX8_init_83 rfl (by decide) rfl ?_
  refine lane_p C hB ?_ 8 0 rfl
  refine z_iconst (pc := 109) (v := (0 : Int32)) C dX8_init_109 (by decide) ?_
  refine z_istore_n (pc := 110) (loc' := [(1, .int (nI 0)), (0, .ref (h0 + 0))]) C dX8_init_110 rfl (by decide) rfl ?_
  refine lane_t C hB ?_ 4 0 rfl
  refine z_iconst (pc := 135) (v := (0 : Int32)) C dX8_init_135 (by decide) ?_
  refine z_istore_n (pc := 136) (loc' := [(1, .int (nI 0)), (0, .ref (h0 + 0))]) C dX8_init_136 rfl (by decide) rfl ?_
  refine lane_b C hB ?_ 20 0 rfl
  refine zb_q (k := 4) (N := 8) (g := fun q => some (h0 + (29 + 7 * q))) (by decide) rfl (fun q hq => if_pos hq) ?_
  refine zb_q (k := 5) (N := 4) (g := fun q => some (h0 + (85 + 2 * q))) (by decide) rfl (fun q hq => if_pos hq) ?_
  refine zb_q (k := 7) (N := 20) (g := fun q => some (h0 + (93 + 1 * q))) (by decide) rfl (fun q hq => if_pos hq) ?_
  refine zb_vret (n := 113) (pc := 162) C hB hQ hr dX8_init_162 (fun j hj => ?_) (Nat.le_of_ble_eq_true rfl) (Nat.le_of_ble_eq_true rfl)
  by_cases q7 : j = 7
  · subst q7
    rw [va_up_self]
    unfold tX
    rw [gX_13 rfl]
    simp only [Nat.one_mul]
  rw [va_up_ne _ _ q7]
  by_cases q5 : j = 5
  · subst q5
    rw [va_up_self]
    unfold tX
    rw [gX_12 rfl]
  rw [va_up_ne _ _ q5]
  by_cases q4 : j = 4
  · subst q4
    rw [va_up_self]
    unfold tX
    rw [gX_11 rfl]
  rw [va_up_ne _ _ q4]
  by_cases q0 : j = 0
  · subst q0
    exact (tX_8 rfl).symm
  exact yL_t ⟨q0, q4, q5, q7⟩
