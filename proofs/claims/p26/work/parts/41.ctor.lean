/-! ===== constructors (wip/p26/gen_ctor.py) ===== -/
def dd0 : Nat → Int32 := upd (upd (upd (upd (fun _ => 0) 1 2) 2 4) 3 6) 4 8
def S0 : St := (fun k => if 85 ≤ k ∧ kdX k = 25 then dd0 else fun _ => 0, fun _ _ => 0)
def tX (cs : Nat → ClassId) (h0 j : Nat) : va_E := GX cs (fun q => h0 + q) (S0.1 j) (S0.2 j) j
def xT (cs : Nat → ClassId) (h0 k m : Nat) (X : Nat → va_E) : Nat → va_E := fun j => if k ≤ j ∧ j < k + m then tX cs h0 j else X j
theorem s0_1 {k : Nat} (h : kdX k ≠ 25 ∨ k < 85) : S0.1 k = fun _ => 0 := by
  show (if 85 ≤ k ∧ kdX k = 25 then dd0 else fun _ => 0) = _
  rw [if_neg (by omega)]
theorem s0_2 {k : Nat} (h : kdX k = 25) (h2 : 85 ≤ k) : S0.1 k = dd0 := by
  show (if 85 ≤ k ∧ kdX k = 25 then dd0 else fun _ => 0) = _
  rw [if_pos ⟨h2, h⟩]
theorem tX_0 {cs : Nat → ClassId} {h0 k : Nat} (h : kdX k = 0) : tX cs h0 k = .inr (0, [.int 0, .int 0, .int 0, .int 0, .int 0, .int 0]) := by
  unfold tX
  rw [gX_0 h]
  try rw [s0_1 (Or.inl (by rw [h]; decide))]
  try rfl
theorem tX_1 {cs : Nat → ClassId} {h0 k : Nat} (h : kdX k = 1) : tX cs h0 k = .inr (1, [.ref (h0 + (k + 1)), .ref (h0 + (k + 4))]) := by
  unfold tX
  rw [gX_1 h]
  try rw [s0_1 (Or.inl (by rw [h]; decide))]
  try rfl
theorem tX_2 {cs : Nat → ClassId} {h0 k : Nat} (h : kdX k = 2) : tX cs h0 k = .inr (2, [.ref (h0 + (k + 1)), .ref (h0 + (k + 2)), .int 0]) := by
  unfold tX
  rw [gX_2 h]
  try rw [s0_1 (Or.inl (by rw [h]; decide))]
  try rfl
theorem tX_3 {cs : Nat → ClassId} {h0 k : Nat} (h : kdX k = 3) : tX cs h0 k = .inr (3, [.int 0, .int 0, .ref (h0 + (k + 1)), .ref (h0 + (k + 2)), .ref (h0 + (k + 3)), .int 0, .ref (h0 + (k + 4)), .ref (h0 + (k + 5)), .ref (h0 + (k + 6)), .ref (h0 + (k + 7)), .int 0, .ref (h0 + (k + 8)), .int 0, .long 0, .long 0]) := by
  unfold tX
  rw [gX_3 h]
  try rw [s0_1 (Or.inl (by rw [h]; decide))]
  try rfl
theorem tX_4 {cs : Nat → ClassId} {h0 k : Nat} (h : kdX k = 4) : tX cs h0 k = .inr (4, [.ref (h0 + (k + 1)), .int 0, .int 0, .int 0, .ref (h0 + (k + 4)), .ref (h0 + (k + 5)), .ref (h0 + (k + 6)), .int 0]) := by
  unfold tX
  rw [gX_4 h]
  try rw [s0_1 (Or.inl (by rw [h]; decide))]
  try rfl
theorem tX_5 {cs : Nat → ClassId} {h0 k : Nat} (h : kdX k = 5) : tX cs h0 k = .inr (5, [.ref (h0 + (k + 1)), .ref (h0 + (k + 2)), .ref (h0 + (k + 3)), .int 0, .ref (h0 + (k + 4)), .int 0, .int 0]) := by
  unfold tX
  rw [gX_5 h]
  try rw [s0_1 (Or.inl (by rw [h]; decide))]
  try rfl
theorem tX_6 {cs : Nat → ClassId} {h0 k : Nat} (h : kdX k = 6) : tX cs h0 k = .inr (6, [.int 0, .int 0, .int 0, .int 0, .int 0, .ref (h0 + (k + 1))]) := by
  unfold tX
  rw [gX_6 h]
  try rw [s0_1 (Or.inl (by rw [h]; decide))]
  try rfl
theorem tX_7 {cs : Nat → ClassId} {h0 k : Nat} (h : kdX k = 7) : tX cs h0 k = .inr (7, [.ref (h0 + (k + 1)), .ref (h0 + (k + 2)), .int 0, .int 0]) := by
  unfold tX
  rw [gX_7 h]
  try rw [s0_1 (Or.inl (by rw [h]; decide))]
  try rfl
theorem tX_8 {cs : Nat → ClassId} {h0 k : Nat} (h : kdX k = 8) : tX cs h0 k = .inr (8, [.ref (h0 + (k + 1)), .ref (h0 + (k + 4)), .int 0, .ref (h0 + (k + 5)), .int 0, .ref (h0 + (k + 6)), .int 0, .ref (h0 + (k + 7)), .int 0, .ref (h0 + (k + 8)), .ref (h0 + (k + 15)), .ref (h0 + (k + 20))]) := by
  unfold tX
  rw [gX_8 h]
  try rw [s0_1 (Or.inl (by rw [h]; decide))]
  try rfl
theorem tX_a5 {cs : Nat → ClassId} {h0 k : Nat} (h : kdX k = 25) (h2 : k < 85) : tX cs h0 k = .inl (cs 0, 5, .inl (fun _ => 0)) := by
  unfold tX
  rw [gX_a5 h, s0_1 (Or.inr h2)]
theorem tX_d5 {cs : Nat → ClassId} {h0 k : Nat} (h : kdX k = 25) (h2 : 85 ≤ k) : tX cs h0 k = .inl (cs 0, 5, .inl dd0) := by
  unfold tX
  rw [gX_a5 h, s0_2 h h2]
theorem tX_a6 {cs : Nat → ClassId} {h0 k : Nat} (h : kdX k = 26) : tX cs h0 k = .inl (cs 0, 6, .inl (fun _ => 0)) := by
  unfold tX
  rw [gX_a6 h, s0_1 (Or.inl (by rw [h]; decide))]
theorem tX_a8 {cs : Nat → ClassId} {h0 k : Nat} (h : kdX k = 28) : tX cs h0 k = .inl (cs 0, 8, .inl (fun _ => 0)) := by
  unfold tX
  rw [gX_a8 h, s0_1 (Or.inl (by rw [h]; decide))]
theorem tX_a32 {cs : Nat → ClassId} {h0 k : Nat} (h : kdX k = 52) : tX cs h0 k = .inl (cs 0, 32, .inl (fun _ => 0)) := by
  unfold tX
  rw [gX_a32 h, s0_1 (Or.inl (by rw [h]; decide))]
theorem tX_a40 {cs : Nat → ClassId} {h0 k : Nat} (h : kdX k = 60) : tX cs h0 k = .inl (cs 0, 40, .inl (fun _ => 0)) := by
  unfold tX
  rw [gX_a40 h, s0_1 (Or.inl (by rw [h]; decide))]
theorem tX_a96 {cs : Nat → ClassId} {h0 k : Nat} (h : kdX k = 116) : tX cs h0 k = .inl (cs 0, 96, .inl (fun _ => 0)) := by
  unfold tX
  rw [gX_a96 h, s0_1 (Or.inl (by rw [h]; decide))]
theorem xT_in {cs : Nat → ClassId} {h0 k m j : Nat} {X : Nat → va_E} (h : k ≤ j ∧ j < k + m) : xT cs h0 k m X j = tX cs h0 j := if_pos h
theorem xT_out {cs : Nat → ClassId} {h0 k m j : Nat} {X : Nat → va_E} (h : ¬ (k ≤ j ∧ j < k + m)) : xT cs h0 k m X j = X j := if_neg h
theorem bfX1_12 {E : ET} {cc : ByteArray} {nL : Nat} {rm : Room} {cells slots pc : Nat} {loc : List (Nat × Value)} {stk : List Value} {n h0 : Nat} {X : Nat → va_E} {k q : Nat} {fs fs2 : List Value} (C : CX E cc RX1 nL rm) (hB : CB E h0) (hin : (e_h E).name = "<init>") (hk : k < n) (hG : X k = .inr (1, fs)) (hl : 0 < fs.length) (h2 : fs.set 0 (.ref q) = fs2) (d : decode cc pc = .ok (.putfield 12, 3)) (kk : Zz E (WE E n h0 (va_up X k (.inr (1, fs2)))) cells slots (pc + 3) loc stk) : Zz E (WE E n h0 X) cells slots pc loc (.ref q :: .ref (h0 + k) :: stk) := by
  subst h2
  exact zb_putF C hB hin hk hG (T := TX1) (N := 2) inlX1 tyX1 tyX1_ok nmX1 rfl (j := 0) (by decide) bw_3_3 rfl rfl (ty := (.object "PressbrakeLane$Wing")) (by decide +kernel) rfl rfl hl d kk
theorem bfX1_18 {E : ET} {cc : ByteArray} {nL : Nat} {rm : Room} {cells slots pc : Nat} {loc : List (Nat × Value)} {stk : List Value} {n h0 : Nat} {X : Nat → va_E} {k q : Nat} {fs fs2 : List Value} (C : CX E cc RX1 nL rm) (hB : CB E h0) (hin : (e_h E).name = "<init>") (hk : k < n) (hG : X k = .inr (1, fs)) (hl : 1 < fs.length) (h2 : fs.set 1 (.ref q) = fs2) (d : decode cc pc = .ok (.putfield 18, 3)) (kk : Zz E (WE E n h0 (va_up X k (.inr (1, fs2)))) cells slots (pc + 3) loc stk) : Zz E (WE E n h0 X) cells slots pc loc (.ref q :: .ref (h0 + k) :: stk) := by
  subst h2
  exact zb_putF C hB hin hk hG (T := TX1) (N := 2) inlX1 tyX1 tyX1_ok nmX1 rfl (j := 1) (by decide) bw_3_4 rfl rfl (ty := (.object "PressbrakeLane$Wing")) (by decide +kernel) rfl rfl hl d kk
theorem bfX2_9 {E : ET} {cc : ByteArray} {nL : Nat} {rm : Room} {cells slots pc : Nat} {loc : List (Nat × Value)} {stk : List Value} {n h0 : Nat} {X : Nat → va_E} {k q : Nat} {fs fs2 : List Value} (C : CX E cc RX2 nL rm) (hB : CB E h0) (hin : (e_h E).name = "<init>") (hk : k < n) (hG : X k = .inr (2, fs)) (hl : 0 < fs.length) (h2 : fs.set 0 (.ref q) = fs2) (d : decode cc pc = .ok (.putfield 9, 3)) (kk : Zz E (WE E n h0 (va_up X k (.inr (2, fs2)))) cells slots (pc + 3) loc stk) : Zz E (WE E n h0 X) cells slots pc loc (.ref q :: .ref (h0 + k) :: stk) := by
  subst h2
  exact zb_putF C hB hin hk hG (T := TX2) (N := 3) inlX2 tyX2 tyX2_ok nmX2 rfl (j := 0) (by decide) bw_2_19 rfl rfl (ty := (.array .int)) (by decide +kernel) rfl rfl hl d kk
theorem bfX2_15 {E : ET} {cc : ByteArray} {nL : Nat} {rm : Room} {cells slots pc : Nat} {loc : List (Nat × Value)} {stk : List Value} {n h0 : Nat} {X : Nat → va_E} {k q : Nat} {fs fs2 : List Value} (C : CX E cc RX2 nL rm) (hB : CB E h0) (hin : (e_h E).name = "<init>") (hk : k < n) (hG : X k = .inr (2, fs)) (hl : 1 < fs.length) (h2 : fs.set 1 (.ref q) = fs2) (d : decode cc pc = .ok (.putfield 15, 3)) (kk : Zz E (WE E n h0 (va_up X k (.inr (2, fs2)))) cells slots (pc + 3) loc stk) : Zz E (WE E n h0 X) cells slots pc loc (.ref q :: .ref (h0 + k) :: stk) := by
  subst h2
  exact zb_putF C hB hin hk hG (T := TX2) (N := 3) inlX2 tyX2 tyX2_ok nmX2 rfl (j := 1) (by decide) bw_2_20 rfl rfl (ty := (.array .int)) (by decide +kernel) rfl rfl hl d kk
theorem bfX3_9 {E : ET} {cc : ByteArray} {nL : Nat} {rm : Room} {cells slots pc : Nat} {loc : List (Nat × Value)} {stk : List Value} {n h0 : Nat} {X : Nat → va_E} {k q : Nat} {fs fs2 : List Value} (C : CX E cc RX3 nL rm) (hB : CB E h0) (hin : (e_h E).name = "<init>") (hk : k < n) (hG : X k = .inr (3, fs)) (hl : 2 < fs.length) (h2 : fs.set 2 (.ref q) = fs2) (d : decode cc pc = .ok (.putfield 9, 3)) (kk : Zz E (WE E n h0 (va_up X k (.inr (3, fs2)))) cells slots (pc + 3) loc stk) : Zz E (WE E n h0 X) cells slots pc loc (.ref q :: .ref (h0 + k) :: stk) := by
  subst h2
  exact zb_putF C hB hin hk hG (T := TX3) (N := 15) inlX3 tyX3 tyX3_ok nmX3 rfl (j := 2) (by decide) bw_3_20 rfl rfl (ty := (.array .int)) (by decide +kernel) rfl rfl hl d kk
theorem bfX3_15 {E : ET} {cc : ByteArray} {nL : Nat} {rm : Room} {cells slots pc : Nat} {loc : List (Nat × Value)} {stk : List Value} {n h0 : Nat} {X : Nat → va_E} {k q : Nat} {fs fs2 : List Value} (C : CX E cc RX3 nL rm) (hB : CB E h0) (hin : (e_h E).name = "<init>") (hk : k < n) (hG : X k = .inr (3, fs)) (hl : 3 < fs.length) (h2 : fs.set 3 (.ref q) = fs2) (d : decode cc pc = .ok (.putfield 15, 3)) (kk : Zz E (WE E n h0 (va_up X k (.inr (3, fs2)))) cells slots (pc + 3) loc stk) : Zz E (WE E n h0 X) cells slots pc loc (.ref q :: .ref (h0 + k) :: stk) := by
  subst h2
  exact zb_putF C hB hin hk hG (T := TX3) (N := 15) inlX3 tyX3 tyX3_ok nmX3 rfl (j := 3) (by decide) bw_3_21 rfl rfl (ty := (.array .int)) (by decide +kernel) rfl rfl hl d kk
theorem bfX3_18 {E : ET} {cc : ByteArray} {nL : Nat} {rm : Room} {cells slots pc : Nat} {loc : List (Nat × Value)} {stk : List Value} {n h0 : Nat} {X : Nat → va_E} {k q : Nat} {fs fs2 : List Value} (C : CX E cc RX3 nL rm) (hB : CB E h0) (hin : (e_h E).name = "<init>") (hk : k < n) (hG : X k = .inr (3, fs)) (hl : 4 < fs.length) (h2 : fs.set 4 (.ref q) = fs2) (d : decode cc pc = .ok (.putfield 18, 3)) (kk : Zz E (WE E n h0 (va_up X k (.inr (3, fs2)))) cells slots (pc + 3) loc stk) : Zz E (WE E n h0 X) cells slots pc loc (.ref q :: .ref (h0 + k) :: stk) := by
  subst h2
  exact zb_putF C hB hin hk hG (T := TX3) (N := 15) inlX3 tyX3 tyX3_ok nmX3 rfl (j := 4) (by decide) bw_3_22 rfl rfl (ty := (.array .int)) (by decide +kernel) rfl rfl hl d kk
theorem bfX3_21 {E : ET} {cc : ByteArray} {nL : Nat} {rm : Room} {cells slots pc : Nat} {loc : List (Nat × Value)} {stk : List Value} {n h0 : Nat} {X : Nat → va_E} {k q : Nat} {fs fs2 : List Value} (C : CX E cc RX3 nL rm) (hB : CB E h0) (hin : (e_h E).name = "<init>") (hk : k < n) (hG : X k = .inr (3, fs)) (hl : 6 < fs.length) (h2 : fs.set 6 (.ref q) = fs2) (d : decode cc pc = .ok (.putfield 21, 3)) (kk : Zz E (WE E n h0 (va_up X k (.inr (3, fs2)))) cells slots (pc + 3) loc stk) : Zz E (WE E n h0 X) cells slots pc loc (.ref q :: .ref (h0 + k) :: stk) := by
  subst h2
  exact zb_putF C hB hin hk hG (T := TX3) (N := 15) inlX3 tyX3 tyX3_ok nmX3 rfl (j := 6) (by decide) bw_3_23 rfl rfl (ty := (.array .int)) (by decide +kernel) rfl rfl hl d kk
theorem bfX3_24 {E : ET} {cc : ByteArray} {nL : Nat} {rm : Room} {cells slots pc : Nat} {loc : List (Nat × Value)} {stk : List Value} {n h0 : Nat} {X : Nat → va_E} {k q : Nat} {fs fs2 : List Value} (C : CX E cc RX3 nL rm) (hB : CB E h0) (hin : (e_h E).name = "<init>") (hk : k < n) (hG : X k = .inr (3, fs)) (hl : 7 < fs.length) (h2 : fs.set 7 (.ref q) = fs2) (d : decode cc pc = .ok (.putfield 24, 3)) (kk : Zz E (WE E n h0 (va_up X k (.inr (3, fs2)))) cells slots (pc + 3) loc stk) : Zz E (WE E n h0 X) cells slots pc loc (.ref q :: .ref (h0 + k) :: stk) := by
  subst h2
  exact zb_putF C hB hin hk hG (T := TX3) (N := 15) inlX3 tyX3 tyX3_ok nmX3 rfl (j := 7) (by decide) bw_4_0 rfl rfl (ty := (.array .int)) (by decide +kernel) rfl rfl hl d kk
theorem bfX3_27 {E : ET} {cc : ByteArray} {nL : Nat} {rm : Room} {cells slots pc : Nat} {loc : List (Nat × Value)} {stk : List Value} {n h0 : Nat} {X : Nat → va_E} {k q : Nat} {fs fs2 : List Value} (C : CX E cc RX3 nL rm) (hB : CB E h0) (hin : (e_h E).name = "<init>") (hk : k < n) (hG : X k = .inr (3, fs)) (hl : 8 < fs.length) (h2 : fs.set 8 (.ref q) = fs2) (d : decode cc pc = .ok (.putfield 27, 3)) (kk : Zz E (WE E n h0 (va_up X k (.inr (3, fs2)))) cells slots (pc + 3) loc stk) : Zz E (WE E n h0 X) cells slots pc loc (.ref q :: .ref (h0 + k) :: stk) := by
  subst h2
  exact zb_putF C hB hin hk hG (T := TX3) (N := 15) inlX3 tyX3 tyX3_ok nmX3 rfl (j := 8) (by decide) bw_4_1 rfl rfl (ty := (.array .int)) (by decide +kernel) rfl rfl hl d kk
theorem bfX3_30 {E : ET} {cc : ByteArray} {nL : Nat} {rm : Room} {cells slots pc : Nat} {loc : List (Nat × Value)} {stk : List Value} {n h0 : Nat} {X : Nat → va_E} {k q : Nat} {fs fs2 : List Value} (C : CX E cc RX3 nL rm) (hB : CB E h0) (hin : (e_h E).name = "<init>") (hk : k < n) (hG : X k = .inr (3, fs)) (hl : 9 < fs.length) (h2 : fs.set 9 (.ref q) = fs2) (d : decode cc pc = .ok (.putfield 30, 3)) (kk : Zz E (WE E n h0 (va_up X k (.inr (3, fs2)))) cells slots (pc + 3) loc stk) : Zz E (WE E n h0 X) cells slots pc loc (.ref q :: .ref (h0 + k) :: stk) := by
  subst h2
  exact zb_putF C hB hin hk hG (T := TX3) (N := 15) inlX3 tyX3 tyX3_ok nmX3 rfl (j := 9) (by decide) bw_4_2 rfl rfl (ty := (.array .int)) (by decide +kernel) rfl rfl hl d kk
theorem bfX3_33 {E : ET} {cc : ByteArray} {nL : Nat} {rm : Room} {cells slots pc : Nat} {loc : List (Nat × Value)} {stk : List Value} {n h0 : Nat} {X : Nat → va_E} {k q : Nat} {fs fs2 : List Value} (C : CX E cc RX3 nL rm) (hB : CB E h0) (hin : (e_h E).name = "<init>") (hk : k < n) (hG : X k = .inr (3, fs)) (hl : 11 < fs.length) (h2 : fs.set 11 (.ref q) = fs2) (d : decode cc pc = .ok (.putfield 33, 3)) (kk : Zz E (WE E n h0 (va_up X k (.inr (3, fs2)))) cells slots (pc + 3) loc stk) : Zz E (WE E n h0 X) cells slots pc loc (.ref q :: .ref (h0 + k) :: stk) := by
  subst h2
  exact zb_putF C hB hin hk hG (T := TX3) (N := 15) inlX3 tyX3 tyX3_ok nmX3 rfl (j := 11) (by decide) bw_4_3 rfl rfl (ty := (.array .int)) (by decide +kernel) rfl rfl hl d kk
theorem bfX4_12 {E : ET} {cc : ByteArray} {nL : Nat} {rm : Room} {cells slots pc : Nat} {loc : List (Nat × Value)} {stk : List Value} {n h0 : Nat} {X : Nat → va_E} {k q : Nat} {fs fs2 : List Value} (C : CX E cc RX4 nL rm) (hB : CB E h0) (hin : (e_h E).name = "<init>") (hk : k < n) (hG : X k = .inr (4, fs)) (hl : 0 < fs.length) (h2 : fs.set 0 (.ref q) = fs2) (d : decode cc pc = .ok (.putfield 12, 3)) (kk : Zz E (WE E n h0 (va_up X k (.inr (4, fs2)))) cells slots (pc + 3) loc stk) : Zz E (WE E n h0 X) cells slots pc loc (.ref q :: .ref (h0 + k) :: stk) := by
  subst h2
  exact zb_putF C hB hin hk hG (T := TX4) (N := 8) inlX4 tyX4 tyX4_ok nmX4 rfl (j := 0) (by decide) bw_4_8 rfl rfl (ty := (.object "PressbrakeLane$Drawing")) (by decide +kernel) rfl rfl hl d kk
theorem bfX4_18 {E : ET} {cc : ByteArray} {nL : Nat} {rm : Room} {cells slots pc : Nat} {loc : List (Nat × Value)} {stk : List Value} {n h0 : Nat} {X : Nat → va_E} {k q : Nat} {fs fs2 : List Value} (C : CX E cc RX4 nL rm) (hB : CB E h0) (hin : (e_h E).name = "<init>") (hk : k < n) (hG : X k = .inr (4, fs)) (hl : 4 < fs.length) (h2 : fs.set 4 (.ref q) = fs2) (d : decode cc pc = .ok (.putfield 18, 3)) (kk : Zz E (WE E n h0 (va_up X k (.inr (4, fs2)))) cells slots (pc + 3) loc stk) : Zz E (WE E n h0 X) cells slots pc loc (.ref q :: .ref (h0 + k) :: stk) := by
  subst h2
  exact zb_putF C hB hin hk hG (T := TX4) (N := 8) inlX4 tyX4 tyX4_ok nmX4 rfl (j := 4) (by decide) bw_4_9 rfl rfl (ty := (.array .int)) (by decide +kernel) rfl rfl hl d kk
theorem bfX4_22 {E : ET} {cc : ByteArray} {nL : Nat} {rm : Room} {cells slots pc : Nat} {loc : List (Nat × Value)} {stk : List Value} {n h0 : Nat} {X : Nat → va_E} {k q : Nat} {fs fs2 : List Value} (C : CX E cc RX4 nL rm) (hB : CB E h0) (hin : (e_h E).name = "<init>") (hk : k < n) (hG : X k = .inr (4, fs)) (hl : 5 < fs.length) (h2 : fs.set 5 (.ref q) = fs2) (d : decode cc pc = .ok (.putfield 22, 3)) (kk : Zz E (WE E n h0 (va_up X k (.inr (4, fs2)))) cells slots (pc + 3) loc stk) : Zz E (WE E n h0 X) cells slots pc loc (.ref q :: .ref (h0 + k) :: stk) := by
  subst h2
  exact zb_putF C hB hin hk hG (T := TX4) (N := 8) inlX4 tyX4 tyX4_ok nmX4 rfl (j := 5) (by decide) bw_4_10 rfl rfl (ty := (.array .int)) (by decide +kernel) rfl rfl hl d kk
theorem bfX4_25 {E : ET} {cc : ByteArray} {nL : Nat} {rm : Room} {cells slots pc : Nat} {loc : List (Nat × Value)} {stk : List Value} {n h0 : Nat} {X : Nat → va_E} {k q : Nat} {fs fs2 : List Value} (C : CX E cc RX4 nL rm) (hB : CB E h0) (hin : (e_h E).name = "<init>") (hk : k < n) (hG : X k = .inr (4, fs)) (hl : 6 < fs.length) (h2 : fs.set 6 (.ref q) = fs2) (d : decode cc pc = .ok (.putfield 25, 3)) (kk : Zz E (WE E n h0 (va_up X k (.inr (4, fs2)))) cells slots (pc + 3) loc stk) : Zz E (WE E n h0 X) cells slots pc loc (.ref q :: .ref (h0 + k) :: stk) := by
  subst h2
  exact zb_putF C hB hin hk hG (T := TX4) (N := 8) inlX4 tyX4 tyX4_ok nmX4 rfl (j := 6) (by decide) bw_4_11 rfl rfl (ty := (.array .int)) (by decide +kernel) rfl rfl hl d kk
theorem bfX5_9 {E : ET} {cc : ByteArray} {nL : Nat} {rm : Room} {cells slots pc : Nat} {loc : List (Nat × Value)} {stk : List Value} {n h0 : Nat} {X : Nat → va_E} {k q : Nat} {fs fs2 : List Value} (C : CX E cc RX5 nL rm) (hB : CB E h0) (hin : (e_h E).name = "<init>") (hk : k < n) (hG : X k = .inr (5, fs)) (hl : 0 < fs.length) (h2 : fs.set 0 (.ref q) = fs2) (d : decode cc pc = .ok (.putfield 9, 3)) (kk : Zz E (WE E n h0 (va_up X k (.inr (5, fs2)))) cells slots (pc + 3) loc stk) : Zz E (WE E n h0 X) cells slots pc loc (.ref q :: .ref (h0 + k) :: stk) := by
  subst h2
  exact zb_putF C hB hin hk hG (T := TX5) (N := 7) inlX5 tyX5 tyX5_ok nmX5 rfl (j := 0) (by decide) bw_3_13 rfl rfl (ty := (.array .int)) (by decide +kernel) rfl rfl hl d kk
theorem bfX5_15 {E : ET} {cc : ByteArray} {nL : Nat} {rm : Room} {cells slots pc : Nat} {loc : List (Nat × Value)} {stk : List Value} {n h0 : Nat} {X : Nat → va_E} {k q : Nat} {fs fs2 : List Value} (C : CX E cc RX5 nL rm) (hB : CB E h0) (hin : (e_h E).name = "<init>") (hk : k < n) (hG : X k = .inr (5, fs)) (hl : 1 < fs.length) (h2 : fs.set 1 (.ref q) = fs2) (d : decode cc pc = .ok (.putfield 15, 3)) (kk : Zz E (WE E n h0 (va_up X k (.inr (5, fs2)))) cells slots (pc + 3) loc stk) : Zz E (WE E n h0 X) cells slots pc loc (.ref q :: .ref (h0 + k) :: stk) := by
  subst h2
  exact zb_putF C hB hin hk hG (T := TX5) (N := 7) inlX5 tyX5 tyX5_ok nmX5 rfl (j := 1) (by decide) bw_3_14 rfl rfl (ty := (.array .int)) (by decide +kernel) rfl rfl hl d kk
theorem bfX5_18 {E : ET} {cc : ByteArray} {nL : Nat} {rm : Room} {cells slots pc : Nat} {loc : List (Nat × Value)} {stk : List Value} {n h0 : Nat} {X : Nat → va_E} {k q : Nat} {fs fs2 : List Value} (C : CX E cc RX5 nL rm) (hB : CB E h0) (hin : (e_h E).name = "<init>") (hk : k < n) (hG : X k = .inr (5, fs)) (hl : 2 < fs.length) (h2 : fs.set 2 (.ref q) = fs2) (d : decode cc pc = .ok (.putfield 18, 3)) (kk : Zz E (WE E n h0 (va_up X k (.inr (5, fs2)))) cells slots (pc + 3) loc stk) : Zz E (WE E n h0 X) cells slots pc loc (.ref q :: .ref (h0 + k) :: stk) := by
  subst h2
  exact zb_putF C hB hin hk hG (T := TX5) (N := 7) inlX5 tyX5 tyX5_ok nmX5 rfl (j := 2) (by decide) bw_3_15 rfl rfl (ty := (.array .int)) (by decide +kernel) rfl rfl hl d kk
theorem bfX5_21 {E : ET} {cc : ByteArray} {nL : Nat} {rm : Room} {cells slots pc : Nat} {loc : List (Nat × Value)} {stk : List Value} {n h0 : Nat} {X : Nat → va_E} {k q : Nat} {fs fs2 : List Value} (C : CX E cc RX5 nL rm) (hB : CB E h0) (hin : (e_h E).name = "<init>") (hk : k < n) (hG : X k = .inr (5, fs)) (hl : 4 < fs.length) (h2 : fs.set 4 (.ref q) = fs2) (d : decode cc pc = .ok (.putfield 21, 3)) (kk : Zz E (WE E n h0 (va_up X k (.inr (5, fs2)))) cells slots (pc + 3) loc stk) : Zz E (WE E n h0 X) cells slots pc loc (.ref q :: .ref (h0 + k) :: stk) := by
  subst h2
  exact zb_putF C hB hin hk hG (T := TX5) (N := 7) inlX5 tyX5 tyX5_ok nmX5 rfl (j := 4) (by decide) bw_3_16 rfl rfl (ty := (.array .int)) (by decide +kernel) rfl rfl hl d kk
theorem bfX6_9 {E : ET} {cc : ByteArray} {nL : Nat} {rm : Room} {cells slots pc : Nat} {loc : List (Nat × Value)} {stk : List Value} {n h0 : Nat} {X : Nat → va_E} {k q : Nat} {fs fs2 : List Value} (C : CX E cc RX6 nL rm) (hB : CB E h0) (hin : (e_h E).name = "<init>") (hk : k < n) (hG : X k = .inr (6, fs)) (hl : 5 < fs.length) (h2 : fs.set 5 (.ref q) = fs2) (d : decode cc pc = .ok (.putfield 9, 3)) (kk : Zz E (WE E n h0 (va_up X k (.inr (6, fs2)))) cells slots (pc + 3) loc stk) : Zz E (WE E n h0 X) cells slots pc loc (.ref q :: .ref (h0 + k) :: stk) := by
  subst h2
  exact zb_putF C hB hin hk hG (T := TX6) (N := 6) inlX6 tyX6 tyX6_ok nmX6 rfl (j := 5) (by decide) bw_4_16 rfl rfl (ty := (.array .int)) (by decide +kernel) rfl rfl hl d kk
theorem bfX7_9 {E : ET} {cc : ByteArray} {nL : Nat} {rm : Room} {cells slots pc : Nat} {loc : List (Nat × Value)} {stk : List Value} {n h0 : Nat} {X : Nat → va_E} {k q : Nat} {fs fs2 : List Value} (C : CX E cc RX7 nL rm) (hB : CB E h0) (hin : (e_h E).name = "<init>") (hk : k < n) (hG : X k = .inr (7, fs)) (hl : 0 < fs.length) (h2 : fs.set 0 (.ref q) = fs2) (d : decode cc pc = .ok (.putfield 9, 3)) (kk : Zz E (WE E n h0 (va_up X k (.inr (7, fs2)))) cells slots (pc + 3) loc stk) : Zz E (WE E n h0 X) cells slots pc loc (.ref q :: .ref (h0 + k) :: stk) := by
  subst h2
  exact zb_putF C hB hin hk hG (T := TX7) (N := 4) inlX7 tyX7 tyX7_ok nmX7 rfl (j := 0) (by decide) bw_3_8 rfl rfl (ty := (.array .int)) (by decide +kernel) rfl rfl hl d kk
theorem bfX7_15 {E : ET} {cc : ByteArray} {nL : Nat} {rm : Room} {cells slots pc : Nat} {loc : List (Nat × Value)} {stk : List Value} {n h0 : Nat} {X : Nat → va_E} {k q : Nat} {fs fs2 : List Value} (C : CX E cc RX7 nL rm) (hB : CB E h0) (hin : (e_h E).name = "<init>") (hk : k < n) (hG : X k = .inr (7, fs)) (hl : 1 < fs.length) (h2 : fs.set 1 (.ref q) = fs2) (d : decode cc pc = .ok (.putfield 15, 3)) (kk : Zz E (WE E n h0 (va_up X k (.inr (7, fs2)))) cells slots (pc + 3) loc stk) : Zz E (WE E n h0 X) cells slots pc loc (.ref q :: .ref (h0 + k) :: stk) := by
  subst h2
  exact zb_putF C hB hin hk hG (T := TX7) (N := 4) inlX7 tyX7 tyX7_ok nmX7 rfl (j := 1) (by decide) bw_3_9 rfl rfl (ty := (.array .int)) (by decide +kernel) rfl rfl hl d kk
theorem bfX8_12 {E : ET} {cc : ByteArray} {nL : Nat} {rm : Room} {cells slots pc : Nat} {loc : List (Nat × Value)} {stk : List Value} {n h0 : Nat} {X : Nat → va_E} {k q : Nat} {fs fs2 : List Value} (C : CX E cc RX8 nL rm) (hB : CB E h0) (hin : (e_h E).name = "<init>") (hk : k < n) (hG : X k = .inr (8, fs)) (hl : 0 < fs.length) (h2 : fs.set 0 (.ref q) = fs2) (d : decode cc pc = .ok (.putfield 12, 3)) (kk : Zz E (WE E n h0 (va_up X k (.inr (8, fs2)))) cells slots (pc + 3) loc stk) : Zz E (WE E n h0 X) cells slots pc loc (.ref q :: .ref (h0 + k) :: stk) := by
  subst h2
  exact zb_putF C hB hin hk hG (T := TX8) (N := 12) inlX8 tyX8 tyX8_ok nmX8 rfl (j := 0) (by decide) bw_1_13 rfl rfl (ty := (.object "PressbrakeLane$Drawing")) (by decide +kernel) rfl rfl hl d kk
theorem bfX8_18 {E : ET} {cc : ByteArray} {nL : Nat} {rm : Room} {cells slots pc : Nat} {loc : List (Nat × Value)} {stk : List Value} {n h0 : Nat} {X : Nat → va_E} {k q : Nat} {fs fs2 : List Value} (C : CX E cc RX8 nL rm) (hB : CB E h0) (hin : (e_h E).name = "<init>") (hk : k < n) (hG : X k = .inr (8, fs)) (hl : 1 < fs.length) (h2 : fs.set 1 (.ref q) = fs2) (d : decode cc pc = .ok (.putfield 18, 3)) (kk : Zz E (WE E n h0 (va_up X k (.inr (8, fs2)))) cells slots (pc + 3) loc stk) : Zz E (WE E n h0 X) cells slots pc loc (.ref q :: .ref (h0 + k) :: stk) := by
  subst h2
  exact zb_putF C hB hin hk hG (T := TX8) (N := 12) inlX8 tyX8 tyX8_ok nmX8 rfl (j := 1) (by decide) bw_1_15 rfl rfl (ty := (.array (.object "PressbrakeLane$Part"))) (by decide +kernel) rfl rfl hl d kk
theorem bfX8_24 {E : ET} {cc : ByteArray} {nL : Nat} {rm : Room} {cells slots pc : Nat} {loc : List (Nat × Value)} {stk : List Value} {n h0 : Nat} {X : Nat → va_E} {k q : Nat} {fs fs2 : List Value} (C : CX E cc RX8 nL rm) (hB : CB E h0) (hin : (e_h E).name = "<init>") (hk : k < n) (hG : X k = .inr (8, fs)) (hl : 3 < fs.length) (h2 : fs.set 3 (.ref q) = fs2) (d : decode cc pc = .ok (.putfield 24, 3)) (kk : Zz E (WE E n h0 (va_up X k (.inr (8, fs2)))) cells slots (pc + 3) loc stk) : Zz E (WE E n h0 X) cells slots pc loc (.ref q :: .ref (h0 + k) :: stk) := by
  subst h2
  exact zb_putF C hB hin hk hG (T := TX8) (N := 12) inlX8 tyX8 tyX8_ok nmX8 rfl (j := 3) (by decide) bw_1_17 rfl rfl (ty := (.array (.object "PressbrakeLane$Tool"))) (by decide +kernel) rfl rfl hl d kk
theorem bfX8_28 {E : ET} {cc : ByteArray} {nL : Nat} {rm : Room} {cells slots pc : Nat} {loc : List (Nat × Value)} {stk : List Value} {n h0 : Nat} {X : Nat → va_E} {k q : Nat} {fs fs2 : List Value} (C : CX E cc RX8 nL rm) (hB : CB E h0) (hin : (e_h E).name = "<init>") (hk : k < n) (hG : X k = .inr (8, fs)) (hl : 5 < fs.length) (h2 : fs.set 5 (.ref q) = fs2) (d : decode cc pc = .ok (.putfield 28, 3)) (kk : Zz E (WE E n h0 (va_up X k (.inr (8, fs2)))) cells slots (pc + 3) loc stk) : Zz E (WE E n h0 X) cells slots pc loc (.ref q :: .ref (h0 + k) :: stk) := by
  subst h2
  exact zb_putF C hB hin hk hG (T := TX8) (N := 12) inlX8 tyX8 tyX8_ok nmX8 rfl (j := 5) (by decide) bw_1_19 rfl rfl (ty := (.array .int)) (by decide +kernel) rfl rfl hl d kk
theorem bfX8_34 {E : ET} {cc : ByteArray} {nL : Nat} {rm : Room} {cells slots pc : Nat} {loc : List (Nat × Value)} {stk : List Value} {n h0 : Nat} {X : Nat → va_E} {k q : Nat} {fs fs2 : List Value} (C : CX E cc RX8 nL rm) (hB : CB E h0) (hin : (e_h E).name = "<init>") (hk : k < n) (hG : X k = .inr (8, fs)) (hl : 7 < fs.length) (h2 : fs.set 7 (.ref q) = fs2) (d : decode cc pc = .ok (.putfield 34, 3)) (kk : Zz E (WE E n h0 (va_up X k (.inr (8, fs2)))) cells slots (pc + 3) loc stk) : Zz E (WE E n h0 X) cells slots pc loc (.ref q :: .ref (h0 + k) :: stk) := by
  subst h2
  exact zb_putF C hB hin hk hG (T := TX8) (N := 12) inlX8 tyX8 tyX8_ok nmX8 rfl (j := 7) (by decide) bw_1_21 rfl rfl (ty := (.array (.object "PressbrakeLane$Batch"))) (by decide +kernel) rfl rfl hl d kk
theorem bfX8_41 {E : ET} {cc : ByteArray} {nL : Nat} {rm : Room} {cells slots pc : Nat} {loc : List (Nat × Value)} {stk : List Value} {n h0 : Nat} {X : Nat → va_E} {k q : Nat} {fs fs2 : List Value} (C : CX E cc RX8 nL rm) (hB : CB E h0) (hin : (e_h E).name = "<init>") (hk : k < n) (hG : X k = .inr (8, fs)) (hl : 9 < fs.length) (h2 : fs.set 9 (.ref q) = fs2) (d : decode cc pc = .ok (.putfield 41, 3)) (kk : Zz E (WE E n h0 (va_up X k (.inr (8, fs2)))) cells slots (pc + 3) loc stk) : Zz E (WE E n h0 X) cells slots pc loc (.ref q :: .ref (h0 + k) :: stk) := by
  subst h2
  exact zb_putF C hB hin hk hG (T := TX8) (N := 12) inlX8 tyX8 tyX8_ok nmX8 rfl (j := 9) (by decide) bw_2_1 rfl rfl (ty := (.object "PressbrakeLane$Brake")) (by decide +kernel) rfl rfl hl d kk
theorem bfX8_48 {E : ET} {cc : ByteArray} {nL : Nat} {rm : Room} {cells slots pc : Nat} {loc : List (Nat × Value)} {stk : List Value} {n h0 : Nat} {X : Nat → va_E} {k q : Nat} {fs fs2 : List Value} (C : CX E cc RX8 nL rm) (hB : CB E h0) (hin : (e_h E).name = "<init>") (hk : k < n) (hG : X k = .inr (8, fs)) (hl : 10 < fs.length) (h2 : fs.set 10 (.ref q) = fs2) (d : decode cc pc = .ok (.putfield 48, 3)) (kk : Zz E (WE E n h0 (va_up X k (.inr (8, fs2)))) cells slots (pc + 3) loc stk) : Zz E (WE E n h0 X) cells slots pc loc (.ref q :: .ref (h0 + k) :: stk) := by
  subst h2
  exact zb_putF C hB hin hk hG (T := TX8) (N := 12) inlX8 tyX8 tyX8_ok nmX8 rfl (j := 10) (by decide) bw_2_5 rfl rfl (ty := (.object "PressbrakeLane$Planner")) (by decide +kernel) rfl rfl hl d kk
theorem bfX8_55 {E : ET} {cc : ByteArray} {nL : Nat} {rm : Room} {cells slots pc : Nat} {loc : List (Nat × Value)} {stk : List Value} {n h0 : Nat} {X : Nat → va_E} {k q : Nat} {fs fs2 : List Value} (C : CX E cc RX8 nL rm) (hB : CB E h0) (hin : (e_h E).name = "<init>") (hk : k < n) (hG : X k = .inr (8, fs)) (hl : 11 < fs.length) (h2 : fs.set 11 (.ref q) = fs2) (d : decode cc pc = .ok (.putfield 55, 3)) (kk : Zz E (WE E n h0 (va_up X k (.inr (8, fs2)))) cells slots (pc + 3) loc stk) : Zz E (WE E n h0 X) cells slots pc loc (.ref q :: .ref (h0 + k) :: stk) := by
  subst h2
  exact zb_putF C hB hin hk hG (T := TX8) (N := 12) inlX8 tyX8 tyX8_ok nmX8 rfl (j := 11) (by decide) bw_2_9 rfl rfl (ty := (.object "PressbrakeLane$Nester")) (by decide +kernel) rfl rfl hl d kk
theorem bnX1_9 {E : ET} {cc : ByteArray} {nL : Nat} {rm : Room} {cells slots pc : Nat} {loc : List (Nat × Value)} {stk : List Value} {n h0 : Nat} {X : Nat → va_E} {c1 s1 : Nat} (C : CX E cc RX1 nL rm) (hB : CB E h0) (h1 : cells + 1 = c1) (h2 : slots + 4 = s1) (hc : c1 ≤ rm.cells) (hs : s1 ≤ rm.slots) (d : decode cc pc = .ok (.new 9, 3)) (kk : Zz E (WE E (n + 1) h0 (va_up X n (.inr (7, [.null, .null, .int 0, .int 0])))) c1 s1 (pc + 3) loc (.ref (h0 + n) :: stk)) : Zz E (WE E n h0 X) cells slots pc loc stk := zb_new C hB (T := TX7) (N := 4) inlX7 tyX7 tyX7_ok bw_3_0 bw_3_1 bw_3_2 rfl (fs := [.null, .null, .int 0, .int 0]) (by decide) h1 h2 hc hs d kk
theorem bnX4_9 {E : ET} {cc : ByteArray} {nL : Nat} {rm : Room} {cells slots pc : Nat} {loc : List (Nat × Value)} {stk : List Value} {n h0 : Nat} {X : Nat → va_E} {c1 s1 : Nat} (C : CX E cc RX4 nL rm) (hB : CB E h0) (h1 : cells + 1 = c1) (h2 : slots + 3 = s1) (hc : c1 ≤ rm.cells) (hs : s1 ≤ rm.slots) (d : decode cc pc = .ok (.new 9, 3)) (kk : Zz E (WE E (n + 1) h0 (va_up X n (.inr (2, [.null, .null, .int 0])))) c1 s1 (pc + 3) loc (.ref (h0 + n) :: stk)) : Zz E (WE E n h0 X) cells slots pc loc stk := zb_new C hB (T := TX2) (N := 3) inlX2 tyX2 tyX2_ok bw_4_7 bw_1_11 bw_1_12 rfl (fs := [.null, .null, .int 0]) (by decide) h1 h2 hc hs d kk
theorem bnX8_9 {E : ET} {cc : ByteArray} {nL : Nat} {rm : Room} {cells slots pc : Nat} {loc : List (Nat × Value)} {stk : List Value} {n h0 : Nat} {X : Nat → va_E} {c1 s1 : Nat} (C : CX E cc RX8 nL rm) (hB : CB E h0) (h1 : cells + 1 = c1) (h2 : slots + 3 = s1) (hc : c1 ≤ rm.cells) (hs : s1 ≤ rm.slots) (d : decode cc pc = .ok (.new 9, 3)) (kk : Zz E (WE E (n + 1) h0 (va_up X n (.inr (2, [.null, .null, .int 0])))) c1 s1 (pc + 3) loc (.ref (h0 + n) :: stk)) : Zz E (WE E n h0 X) cells slots pc loc stk := zb_new C hB (T := TX2) (N := 3) inlX2 tyX2 tyX2_ok bw_1_10 bw_1_11 bw_1_12 rfl (fs := [.null, .null, .int 0]) (by decide) h1 h2 hc hs d kk
theorem bnX8_16 {E : ET} {cc : ByteArray} {nL : Nat} {rm : Room} {cells slots pc : Nat} {loc : List (Nat × Value)} {stk : List Value} {n h0 : Nat} {X : Nat → va_E} {c1 s1 : Nat} (C : CX E cc RX8 nL rm) (hB : CB E h0) (h1 : cells + 1 = c1) (h2 : slots + 8 = s1) (hc : c1 ≤ rm.cells) (hs : s1 ≤ rm.slots) (d : decode cc pc = .ok (.new 16, 3)) (kk : Zz E (WE E (n + 1) h0 (va_up X n (.inr (4, [.null, .int 0, .int 0, .int 0, .null, .null, .null, .int 0])))) c1 s1 (pc + 3) loc (.ref (h0 + n) :: stk)) : Zz E (WE E n h0 X) cells slots pc loc stk := zb_new C hB (T := TX4) (N := 8) inlX4 tyX4 tyX4_ok bw_1_14 bw_2_10 bw_2_11 rfl (fs := [.null, .int 0, .int 0, .int 0, .null, .null, .null, .int 0]) (by decide) h1 h2 hc hs d kk
theorem bnX8_22 {E : ET} {cc : ByteArray} {nL : Nat} {rm : Room} {cells slots pc : Nat} {loc : List (Nat × Value)} {stk : List Value} {n h0 : Nat} {X : Nat → va_E} {c1 s1 : Nat} (C : CX E cc RX8 nL rm) (hB : CB E h0) (h1 : cells + 1 = c1) (h2 : slots + 6 = s1) (hc : c1 ≤ rm.cells) (hs : s1 ≤ rm.slots) (d : decode cc pc = .ok (.new 22, 3)) (kk : Zz E (WE E (n + 1) h0 (va_up X n (.inr (6, [.int 0, .int 0, .int 0, .int 0, .int 0, .null])))) c1 s1 (pc + 3) loc (.ref (h0 + n) :: stk)) : Zz E (WE E n h0 X) cells slots pc loc stk := zb_new C hB (T := TX6) (N := 6) inlX6 tyX6 tyX6_ok bw_1_16 bw_2_12 bw_2_13 rfl (fs := [.int 0, .int 0, .int 0, .int 0, .int 0, .null]) (by decide) h1 h2 hc hs d kk
theorem bnX8_32 {E : ET} {cc : ByteArray} {nL : Nat} {rm : Room} {cells slots pc : Nat} {loc : List (Nat × Value)} {stk : List Value} {n h0 : Nat} {X : Nat → va_E} {c1 s1 : Nat} (C : CX E cc RX8 nL rm) (hB : CB E h0) (h1 : cells + 1 = c1) (h2 : slots + 6 = s1) (hc : c1 ≤ rm.cells) (hs : s1 ≤ rm.slots) (d : decode cc pc = .ok (.new 32, 3)) (kk : Zz E (WE E (n + 1) h0 (va_up X n (.inr (0, [.int 0, .int 0, .int 0, .int 0, .int 0, .int 0])))) c1 s1 (pc + 3) loc (.ref (h0 + n) :: stk)) : Zz E (WE E n h0 X) cells slots pc loc stk := zb_new C hB (T := TX0) (N := 6) inlX0 tyX0 tyX0_ok bw_1_20 bw_2_14 bw_2_15 rfl (fs := [.int 0, .int 0, .int 0, .int 0, .int 0, .int 0]) (by decide) h1 h2 hc hs d kk
theorem bnX8_38 {E : ET} {cc : ByteArray} {nL : Nat} {rm : Room} {cells slots pc : Nat} {loc : List (Nat × Value)} {stk : List Value} {n h0 : Nat} {X : Nat → va_E} {c1 s1 : Nat} (C : CX E cc RX8 nL rm) (hB : CB E h0) (h1 : cells + 1 = c1) (h2 : slots + 2 = s1) (hc : c1 ≤ rm.cells) (hs : s1 ≤ rm.slots) (d : decode cc pc = .ok (.new 38, 3)) (kk : Zz E (WE E (n + 1) h0 (va_up X n (.inr (1, [.null, .null])))) c1 s1 (pc + 3) loc (.ref (h0 + n) :: stk)) : Zz E (WE E n h0 X) cells slots pc loc stk := zb_new C hB (T := TX1) (N := 2) inlX1 tyX1 tyX1_ok bw_1_22 bw_1_23 bw_2_0 rfl (fs := [.null, .null]) (by decide) h1 h2 hc hs d kk
theorem bnX8_45 {E : ET} {cc : ByteArray} {nL : Nat} {rm : Room} {cells slots pc : Nat} {loc : List (Nat × Value)} {stk : List Value} {n h0 : Nat} {X : Nat → va_E} {c1 s1 : Nat} (C : CX E cc RX8 nL rm) (hB : CB E h0) (h1 : cells + 1 = c1) (h2 : slots + 7 = s1) (hc : c1 ≤ rm.cells) (hs : s1 ≤ rm.slots) (d : decode cc pc = .ok (.new 45, 3)) (kk : Zz E (WE E (n + 1) h0 (va_up X n (.inr (5, [.null, .null, .null, .int 0, .null, .int 0, .int 0])))) c1 s1 (pc + 3) loc (.ref (h0 + n) :: stk)) : Zz E (WE E n h0 X) cells slots pc loc stk := zb_new C hB (T := TX5) (N := 7) inlX5 tyX5 tyX5_ok bw_2_2 bw_2_3 bw_2_4 rfl (fs := [.null, .null, .null, .int 0, .null, .int 0, .int 0]) (by decide) h1 h2 hc hs d kk
theorem bnX8_52 {E : ET} {cc : ByteArray} {nL : Nat} {rm : Room} {cells slots pc : Nat} {loc : List (Nat × Value)} {stk : List Value} {n h0 : Nat} {X : Nat → va_E} {c1 s1 : Nat} (C : CX E cc RX8 nL rm) (hB : CB E h0) (h1 : cells + 1 = c1) (h2 : slots + 15 = s1) (hc : c1 ≤ rm.cells) (hs : s1 ≤ rm.slots) (d : decode cc pc = .ok (.new 52, 3)) (kk : Zz E (WE E (n + 1) h0 (va_up X n (.inr (3, [.int 0, .int 0, .null, .null, .null, .int 0, .null, .null, .null, .null, .int 0, .null, .int 0, .long 0, .long 0])))) c1 s1 (pc + 3) loc (.ref (h0 + n) :: stk)) : Zz E (WE E n h0 X) cells slots pc loc stk := zb_new C hB (T := TX3) (N := 15) inlX3 tyX3 tyX3_ok bw_2_6 bw_2_7 bw_2_8 rfl (fs := [.int 0, .int 0, .null, .null, .null, .int 0, .null, .null, .null, .null, .int 0, .null, .int 0, .long 0, .long 0]) (by decide) h1 h2 hc hs d kk
abbrev rmX0_init : Room := { frames := 7, cells := 0, slots := 0, locals := 130 }
set_option maxRecDepth 100000 in
theorem mX0_init {l : Launch} {D : va_G} {cs : Nat → ClassId} {h0 k : Nat} {X : Nat → va_E} (hT : l.stackTraces = false) (hd : kdX k = 0) (hX : X k = .inr (0, [.int 0, .int 0, .int 0, .int 0, .int 0, .int 0])) : MB l D cs yX0_init cX0_init 1 rmX0_init [.ref (h0 + k)] (k + 1) h0 X (k + 1) (xT cs h0 k 1 X) := by
  refine zb_entry hT (by decide +kernel) rfl (by decide) (fun E hEl hED hEk C hB hQ hr hin => ?_)
  subst hEl
  subst hED
  subst hEk
  refine z_aload_n 0 (pc := 0) C dX0_init_0 rfl rfl ?_
  refine zb_objInit (pc := 1) C bw_4_19 bw_1_8 bw_1_9 dX0_init_1 (Nat.le_of_ble_eq_true rfl) (Nat.le_of_ble_eq_true rfl) ?_
  refine zb_vret (n := k + 1) (pc := 4) C hB hQ hr dX0_init_4 (fun j hj => ?_) (Nat.le_of_ble_eq_true rfl) (Nat.le_of_ble_eq_true rfl)
  by_cases q : j = k
  · subst q; rw [xT_in (by omega), tX_0 hd, hX]
  · rw [xT_out (by omega)]
abbrev rmX2_init : Room := { frames := 7, cells := 2, slots := 12, locals := 130 }
set_option maxRecDepth 100000 in
set_option maxHeartbeats 4000000 in
theorem mX2_init {l : Launch} {D : va_G} {cs : Nat → ClassId} {h0 k : Nat} {X : Nat → va_E} (hT : l.stackTraces = false) (hd : kdX k = 2) (hX : X k = .inr (2, [.null, .null, .int 0])) : MB l D cs yX2_init cX2_init 1 rmX2_init [.ref (h0 + k)] (k + 1) h0 X (k + 3) (xT cs h0 k 3 X) := by
  refine zb_entry hT (by decide +kernel) rfl (by decide) (fun E hEl hED hEk C hB hQ hr hin => ?_)
  subst hEl
  subst hED
  subst hEk
  refine z_aload_n 0 (pc := 0) C dX2_init_0 rfl rfl ?_
  refine zb_objInit (pc := 1) C bw_2_18 bw_1_8 bw_1_9 dX2_init_1 (Nat.le_of_ble_eq_true rfl) (Nat.le_of_ble_eq_true rfl) ?_
  refine z_aload_n 0 (pc := 4) C dX2_init_4 rfl rfl ?_
  refine z_bipush (pc := 5) (v := (6 : Int32)) C dX2_init_5 (by decide) ?_
  refine zb_newi (n := (k + 1)) (pc := 7) (c1 := 1) (s1 := 6) C hB bw_1_18 (N := 6) (by decide) (by decide) (by decide) rfl rfl (Nat.le_of_ble_eq_true rfl) (Nat.le_of_ble_eq_true rfl) dX2_init_7 ?_
  refine bfX2_9 (n := (k + 2)) (pc := 9) (k := k) (q := h0 + (k + 1)) (fs := [.null, .null, .int 0]) (fs2 := [.ref (h0 + (k + 1)), .null, .int 0]) C hB hin (by omega) (by simp [va_up, xT, hX] <;> (intros; omega)) (Nat.le_of_ble_eq_true rfl) rfl dX2_init_9 ?_
  refine z_aload_n 0 (pc := 12) C dX2_init_12 rfl rfl ?_
  refine z_bipush (pc := 13) (v := (6 : Int32)) C dX2_init_13 (by decide) ?_
  refine zb_newi (n := (k + 2)) (pc := 15) (c1 := 2) (s1 := 12) C hB bw_1_18 (N := 6) (by decide) (by decide) (by decide) rfl rfl (Nat.le_of_ble_eq_true rfl) (Nat.le_of_ble_eq_true rfl) dX2_init_15 ?_
  refine bfX2_15 (n := (k + 3)) (pc := 17) (k := k) (q := h0 + (k + 2)) (fs := [.ref (h0 + (k + 1)), .null, .int 0]) (fs2 := [.ref (h0 + (k + 1)), .ref (h0 + (k + 2)), .int 0]) C hB hin (by omega) (by simp [va_up, xT, hX] <;> (intros; omega)) (Nat.le_of_ble_eq_true rfl) rfl dX2_init_17 ?_
  refine zb_vret (n := k + 3) (pc := 20) C hB hQ hr dX2_init_20 (fun j hj => ?_) (Nat.le_of_ble_eq_true rfl) (Nat.le_of_ble_eq_true rfl)
  by_cases q : k ≤ j
  · obtain ⟨i, hi, rfl⟩ : ∃ i, i < 3 ∧ j = k + i := ⟨j - k, by omega, by omega⟩
    rw [xT_in (by omega)]
    rcases (show i = 0 ∨ i = 1 ∨ i = 2 from by omega) with rfl | rfl | rfl
    · refine Eq.trans ?_ (tX_2 hd).symm; simp [va_up, xT, hX] <;> (intros; omega)
    · refine Eq.trans ?_ (tX_a6 (kX_2_0 hd)).symm; simp [va_up, xT, hX] <;> (intros; omega)
    · refine Eq.trans ?_ (tX_a6 (kX_2_1 hd)).symm; simp [va_up, xT, hX] <;> (intros; omega)
  · rw [xT_out (by omega)]; simp [va_up, xT, show j ≠ k from by omega, show j ≠ k + 1 from by omega, show j ≠ k + 2 from by omega, show ¬ k ≤ j from q, show ¬ k + 1 ≤ j from by omega, show ¬ k + 2 ≤ j from by omega]
abbrev rmX7_init : Room := { frames := 7, cells := 2, slots := 12, locals := 130 }
set_option maxRecDepth 100000 in
set_option maxHeartbeats 4000000 in
theorem mX7_init {l : Launch} {D : va_G} {cs : Nat → ClassId} {h0 k : Nat} {X : Nat → va_E} (hT : l.stackTraces = false) (hd : kdX k = 7) (hX : X k = .inr (7, [.null, .null, .int 0, .int 0])) : MB l D cs yX7_init cX7_init 1 rmX7_init [.ref (h0 + k)] (k + 1) h0 X (k + 3) (xT cs h0 k 3 X) := by
  refine zb_entry hT (by decide +kernel) rfl (by decide) (fun E hEl hED hEk C hB hQ hr hin => ?_)
  subst hEl
  subst hED
  subst hEk
  refine z_aload_n 0 (pc := 0) C dX7_init_0 rfl rfl ?_
  refine zb_objInit (pc := 1) C bw_3_7 bw_1_8 bw_1_9 dX7_init_1 (Nat.le_of_ble_eq_true rfl) (Nat.le_of_ble_eq_true rfl) ?_
  refine z_aload_n 0 (pc := 4) C dX7_init_4 rfl rfl ?_
  refine z_bipush (pc := 5) (v := (6 : Int32)) C dX7_init_5 (by decide) ?_
  refine zb_newi (n := (k + 1)) (pc := 7) (c1 := 1) (s1 := 6) C hB bw_1_18 (N := 6) (by decide) (by decide) (by decide) rfl rfl (Nat.le_of_ble_eq_true rfl) (Nat.le_of_ble_eq_true rfl) dX7_init_7 ?_
  refine bfX7_9 (n := (k + 2)) (pc := 9) (k := k) (q := h0 + (k + 1)) (fs := [.null, .null, .int 0, .int 0]) (fs2 := [.ref (h0 + (k + 1)), .null, .int 0, .int 0]) C hB hin (by omega) (by simp [va_up, xT, hX] <;> (intros; omega)) (Nat.le_of_ble_eq_true rfl) rfl dX7_init_9 ?_
  refine z_aload_n 0 (pc := 12) C dX7_init_12 rfl rfl ?_
  refine z_bipush (pc := 13) (v := (6 : Int32)) C dX7_init_13 (by decide) ?_
  refine zb_newi (n := (k + 2)) (pc := 15) (c1 := 2) (s1 := 12) C hB bw_1_18 (N := 6) (by decide) (by decide) (by decide) rfl rfl (Nat.le_of_ble_eq_true rfl) (Nat.le_of_ble_eq_true rfl) dX7_init_15 ?_
  refine bfX7_15 (n := (k + 3)) (pc := 17) (k := k) (q := h0 + (k + 2)) (fs := [.ref (h0 + (k + 1)), .null, .int 0, .int 0]) (fs2 := [.ref (h0 + (k + 1)), .ref (h0 + (k + 2)), .int 0, .int 0]) C hB hin (by omega) (by simp [va_up, xT, hX] <;> (intros; omega)) (Nat.le_of_ble_eq_true rfl) rfl dX7_init_17 ?_
  refine zb_vret (n := k + 3) (pc := 20) C hB hQ hr dX7_init_20 (fun j hj => ?_) (Nat.le_of_ble_eq_true rfl) (Nat.le_of_ble_eq_true rfl)
  by_cases q : k ≤ j
  · obtain ⟨i, hi, rfl⟩ : ∃ i, i < 3 ∧ j = k + i := ⟨j - k, by omega, by omega⟩
    rw [xT_in (by omega)]
    rcases (show i = 0 ∨ i = 1 ∨ i = 2 from by omega) with rfl | rfl | rfl
    · refine Eq.trans ?_ (tX_7 hd).symm; simp [va_up, xT, hX] <;> (intros; omega)
    · refine Eq.trans ?_ (tX_a6 (kX_7_0 hd)).symm; simp [va_up, xT, hX] <;> (intros; omega)
    · refine Eq.trans ?_ (tX_a6 (kX_7_1 hd)).symm; simp [va_up, xT, hX] <;> (intros; omega)
  · rw [xT_out (by omega)]; simp [va_up, xT, show j ≠ k from by omega, show j ≠ k + 1 from by omega, show j ≠ k + 2 from by omega, show ¬ k ≤ j from q, show ¬ k + 1 ≤ j from by omega, show ¬ k + 2 ≤ j from by omega]
abbrev rmX5_init : Room := { frames := 7, cells := 4, slots := 138, locals := 130 }
set_option maxRecDepth 100000 in
set_option maxHeartbeats 4000000 in
theorem mX5_init {l : Launch} {D : va_G} {cs : Nat → ClassId} {h0 k : Nat} {X : Nat → va_E} (hT : l.stackTraces = false) (hd : kdX k = 5) (h85 : k + 10 < 85) (hX : X k = .inr (5, [.null, .null, .null, .int 0, .null, .int 0, .int 0])) : MB l D cs yX5_init cX5_init 1 rmX5_init [.ref (h0 + k)] (k + 1) h0 X (k + 5) (xT cs h0 k 5 X) := by
  refine zb_entry hT (by decide +kernel) rfl (by decide) (fun E hEl hED hEk C hB hQ hr hin => ?_)
  subst hEl
  subst hED
  subst hEk
  refine z_aload_n 0 (pc := 0) C dX5_init_0 rfl rfl ?_
  refine zb_objInit (pc := 1) C bw_3_12 bw_1_8 bw_1_9 dX5_init_1 (Nat.le_of_ble_eq_true rfl) (Nat.le_of_ble_eq_true rfl) ?_
  refine z_aload_n 0 (pc := 4) C dX5_init_4 rfl rfl ?_
  refine z_bipush (pc := 5) (v := (32 : Int32)) C dX5_init_5 (by decide) ?_
  refine zb_newi (n := (k + 1)) (pc := 7) (c1 := 1) (s1 := 32) C hB bw_1_18 (N := 32) (by decide) (by decide) (by decide) rfl rfl (Nat.le_of_ble_eq_true rfl) (Nat.le_of_ble_eq_true rfl) dX5_init_7 ?_
  refine bfX5_9 (n := (k + 2)) (pc := 9) (k := k) (q := h0 + (k + 1)) (fs := [.null, .null, .null, .int 0, .null, .int 0, .int 0]) (fs2 := [.ref (h0 + (k + 1)), .null, .null, .int 0, .null, .int 0, .int 0]) C hB hin (by omega) (by simp [va_up, xT, hX] <;> (intros; omega)) (Nat.le_of_ble_eq_true rfl) rfl dX5_init_9 ?_
  refine z_aload_n 0 (pc := 12) C dX5_init_12 rfl rfl ?_
  refine z_bipush (pc := 13) (v := (96 : Int32)) C dX5_init_13 (by decide) ?_
  refine zb_newi (n := (k + 2)) (pc := 15) (c1 := 2) (s1 := 128) C hB bw_1_18 (N := 96) (by decide) (by decide) (by decide) rfl rfl (Nat.le_of_ble_eq_true rfl) (Nat.le_of_ble_eq_true rfl) dX5_init_15 ?_
  refine bfX5_15 (n := (k + 3)) (pc := 17) (k := k) (q := h0 + (k + 2)) (fs := [.ref (h0 + (k + 1)), .null, .null, .int 0, .null, .int 0, .int 0]) (fs2 := [.ref (h0 + (k + 1)), .ref (h0 + (k + 2)), .null, .int 0, .null, .int 0, .int 0]) C hB hin (by omega) (by simp [va_up, xT, hX] <;> (intros; omega)) (Nat.le_of_ble_eq_true rfl) rfl dX5_init_17 ?_
  refine z_aload_n 0 (pc := 20) C dX5_init_20 rfl rfl ?_
  refine z_iconst (pc := 21) (v := (5 : Int32)) C dX5_init_21 (by decide) ?_
  refine zb_newi (n := (k + 3)) (pc := 22) (c1 := 3) (s1 := 133) C hB bw_1_18 (N := 5) (by decide) (by decide) (by decide) rfl rfl (Nat.le_of_ble_eq_true rfl) (Nat.le_of_ble_eq_true rfl) dX5_init_22 ?_
  refine bfX5_18 (n := (k + 4)) (pc := 24) (k := k) (q := h0 + (k + 3)) (fs := [.ref (h0 + (k + 1)), .ref (h0 + (k + 2)), .null, .int 0, .null, .int 0, .int 0]) (fs2 := [.ref (h0 + (k + 1)), .ref (h0 + (k + 2)), .ref (h0 + (k + 3)), .int 0, .null, .int 0, .int 0]) C hB hin (by omega) (by simp [va_up, xT, hX] <;> (intros; omega)) (Nat.le_of_ble_eq_true rfl) rfl dX5_init_24 ?_
  refine z_aload_n 0 (pc := 27) C dX5_init_27 rfl rfl ?_
  refine z_iconst (pc := 28) (v := (5 : Int32)) C dX5_init_28 (by decide) ?_
  refine zb_newi (n := (k + 4)) (pc := 29) (c1 := 4) (s1 := 138) C hB bw_1_18 (N := 5) (by decide) (by decide) (by decide) rfl rfl (Nat.le_of_ble_eq_true rfl) (Nat.le_of_ble_eq_true rfl) dX5_init_29 ?_
  refine bfX5_21 (n := (k + 5)) (pc := 31) (k := k) (q := h0 + (k + 4)) (fs := [.ref (h0 + (k + 1)), .ref (h0 + (k + 2)), .ref (h0 + (k + 3)), .int 0, .null, .int 0, .int 0]) (fs2 := [.ref (h0 + (k + 1)), .ref (h0 + (k + 2)), .ref (h0 + (k + 3)), .int 0, .ref (h0 + (k + 4)), .int 0, .int 0]) C hB hin (by omega) (by simp [va_up, xT, hX] <;> (intros; omega)) (Nat.le_of_ble_eq_true rfl) rfl dX5_init_31 ?_
  refine zb_vret (n := k + 5) (pc := 34) C hB hQ hr dX5_init_34 (fun j hj => ?_) (Nat.le_of_ble_eq_true rfl) (Nat.le_of_ble_eq_true rfl)
  by_cases q : k ≤ j
  · obtain ⟨i, hi, rfl⟩ : ∃ i, i < 5 ∧ j = k + i := ⟨j - k, by omega, by omega⟩
    rw [xT_in (by omega)]
    rcases (show i = 0 ∨ i = 1 ∨ i = 2 ∨ i = 3 ∨ i = 4 from by omega) with rfl | rfl | rfl | rfl | rfl
    · refine Eq.trans ?_ (tX_5 hd).symm; simp [va_up, xT, hX] <;> (intros; omega)
    · refine Eq.trans ?_ (tX_a32 (kX_5_0 hd)).symm; simp [va_up, xT, hX] <;> (intros; omega)
    · refine Eq.trans ?_ (tX_a96 (kX_5_1 hd)).symm; simp [va_up, xT, hX] <;> (intros; omega)
    · refine Eq.trans ?_ (tX_a5 (kX_5_2 hd) (by omega)).symm; simp [va_up, xT, hX] <;> (intros; omega)
    · refine Eq.trans ?_ (tX_a5 (kX_5_4 hd) (by omega)).symm; simp [va_up, xT, hX] <;> (intros; omega)
  · rw [xT_out (by omega)]; simp [va_up, xT, show j ≠ k from by omega, show j ≠ k + 1 from by omega, show j ≠ k + 2 from by omega, show j ≠ k + 3 from by omega, show j ≠ k + 4 from by omega, show ¬ k ≤ j from q, show ¬ k + 1 ≤ j from by omega, show ¬ k + 2 ≤ j from by omega, show ¬ k + 3 ≤ j from by omega, show ¬ k + 4 ≤ j from by omega]
abbrev rmX3_init : Room := { frames := 7, cells := 8, slots := 224, locals := 130 }
set_option maxRecDepth 100000 in
set_option maxHeartbeats 4000000 in
theorem mX3_init {l : Launch} {D : va_G} {cs : Nat → ClassId} {h0 k : Nat} {X : Nat → va_E} (hT : l.stackTraces = false) (hd : kdX k = 3) (hX : X k = .inr (3, [.int 0, .int 0, .null, .null, .null, .int 0, .null, .null, .null, .null, .int 0, .null, .int 0, .long 0, .long 0])) : MB l D cs yX3_init cX3_init 1 rmX3_init [.ref (h0 + k)] (k + 1) h0 X (k + 9) (xT cs h0 k 9 X) := by
  refine zb_entry hT (by decide +kernel) rfl (by decide) (fun E hEl hED hEk C hB hQ hr hin => ?_)
  subst hEl
  subst hED
  subst hEk
  refine z_aload_n 0 (pc := 0) C dX3_init_0 rfl rfl ?_
  refine zb_objInit (pc := 1) C bw_3_19 bw_1_8 bw_1_9 dX3_init_1 (Nat.le_of_ble_eq_true rfl) (Nat.le_of_ble_eq_true rfl) ?_
  refine z_aload_n 0 (pc := 4) C dX3_init_4 rfl rfl ?_
  refine z_bipush (pc := 5) (v := (8 : Int32)) C dX3_init_5 (by decide) ?_
  refine zb_newi (n := (k + 1)) (pc := 7) (c1 := 1) (s1 := 8) C hB bw_1_18 (N := 8) (by decide) (by decide) (by decide) rfl rfl (Nat.le_of_ble_eq_true rfl) (Nat.le_of_ble_eq_true rfl) dX3_init_7 ?_
  refine bfX3_9 (n := (k + 2)) (pc := 9) (k := k) (q := h0 + (k + 1)) (fs := [.int 0, .int 0, .null, .null, .null, .int 0, .null, .null, .null, .null, .int 0, .null, .int 0, .long 0, .long 0]) (fs2 := [.int 0, .int 0, .ref (h0 + (k + 1)), .null, .null, .int 0, .null, .null, .null, .null, .int 0, .null, .int 0, .long 0, .long 0]) C hB hin (by omega) (by simp [va_up, xT, hX] <;> (intros; omega)) (Nat.le_of_ble_eq_true rfl) rfl dX3_init_9 ?_
  refine z_aload_n 0 (pc := 12) C dX3_init_12 rfl rfl ?_
  refine z_bipush (pc := 13) (v := (8 : Int32)) C dX3_init_13 (by decide) ?_
  refine zb_newi (n := (k + 2)) (pc := 15) (c1 := 2) (s1 := 16) C hB bw_1_18 (N := 8) (by decide) (by decide) (by decide) rfl rfl (Nat.le_of_ble_eq_true rfl) (Nat.le_of_ble_eq_true rfl) dX3_init_15 ?_
  refine bfX3_15 (n := (k + 3)) (pc := 17) (k := k) (q := h0 + (k + 2)) (fs := [.int 0, .int 0, .ref (h0 + (k + 1)), .null, .null, .int 0, .null, .null, .null, .null, .int 0, .null, .int 0, .long 0, .long 0]) (fs2 := [.int 0, .int 0, .ref (h0 + (k + 1)), .ref (h0 + (k + 2)), .null, .int 0, .null, .null, .null, .null, .int 0, .null, .int 0, .long 0, .long 0]) C hB hin (by omega) (by simp [va_up, xT, hX] <;> (intros; omega)) (Nat.le_of_ble_eq_true rfl) rfl dX3_init_17 ?_
  refine z_aload_n 0 (pc := 20) C dX3_init_20 rfl rfl ?_
  refine z_bipush (pc := 21) (v := (8 : Int32)) C dX3_init_21 (by decide) ?_
  refine zb_newi (n := (k + 3)) (pc := 23) (c1 := 3) (s1 := 24) C hB bw_1_18 (N := 8) (by decide) (by decide) (by decide) rfl rfl (Nat.le_of_ble_eq_true rfl) (Nat.le_of_ble_eq_true rfl) dX3_init_23 ?_
  refine bfX3_18 (n := (k + 4)) (pc := 25) (k := k) (q := h0 + (k + 3)) (fs := [.int 0, .int 0, .ref (h0 + (k + 1)), .ref (h0 + (k + 2)), .null, .int 0, .null, .null, .null, .null, .int 0, .null, .int 0, .long 0, .long 0]) (fs2 := [.int 0, .int 0, .ref (h0 + (k + 1)), .ref (h0 + (k + 2)), .ref (h0 + (k + 3)), .int 0, .null, .null, .null, .null, .int 0, .null, .int 0, .long 0, .long 0]) C hB hin (by omega) (by simp [va_up, xT, hX] <;> (intros; omega)) (Nat.le_of_ble_eq_true rfl) rfl dX3_init_25 ?_
  refine z_aload_n 0 (pc := 28) C dX3_init_28 rfl rfl ?_
  refine z_bipush (pc := 29) (v := (40 : Int32)) C dX3_init_29 (by decide) ?_
  refine zb_newi (n := (k + 4)) (pc := 31) (c1 := 4) (s1 := 64) C hB bw_1_18 (N := 40) (by decide) (by decide) (by decide) rfl rfl (Nat.le_of_ble_eq_true rfl) (Nat.le_of_ble_eq_true rfl) dX3_init_31 ?_
  refine bfX3_21 (n := (k + 5)) (pc := 33) (k := k) (q := h0 + (k + 4)) (fs := [.int 0, .int 0, .ref (h0 + (k + 1)), .ref (h0 + (k + 2)), .ref (h0 + (k + 3)), .int 0, .null, .null, .null, .null, .int 0, .null, .int 0, .long 0, .long 0]) (fs2 := [.int 0, .int 0, .ref (h0 + (k + 1)), .ref (h0 + (k + 2)), .ref (h0 + (k + 3)), .int 0, .ref (h0 + (k + 4)), .null, .null, .null, .int 0, .null, .int 0, .long 0, .long 0]) C hB hin (by omega) (by simp [va_up, xT, hX] <;> (intros; omega)) (Nat.le_of_ble_eq_true rfl) rfl dX3_init_33 ?_
  refine z_aload_n 0 (pc := 36) C dX3_init_36 rfl rfl ?_
  refine z_bipush (pc := 37) (v := (40 : Int32)) C dX3_init_37 (by decide) ?_
  refine zb_newi (n := (k + 5)) (pc := 39) (c1 := 5) (s1 := 104) C hB bw_1_18 (N := 40) (by decide) (by decide) (by decide) rfl rfl (Nat.le_of_ble_eq_true rfl) (Nat.le_of_ble_eq_true rfl) dX3_init_39 ?_
  refine bfX3_24 (n := (k + 6)) (pc := 41) (k := k) (q := h0 + (k + 5)) (fs := [.int 0, .int 0, .ref (h0 + (k + 1)), .ref (h0 + (k + 2)), .ref (h0 + (k + 3)), .int 0, .ref (h0 + (k + 4)), .null, .null, .null, .int 0, .null, .int 0, .long 0, .long 0]) (fs2 := [.int 0, .int 0, .ref (h0 + (k + 1)), .ref (h0 + (k + 2)), .ref (h0 + (k + 3)), .int 0, .ref (h0 + (k + 4)), .ref (h0 + (k + 5)), .null, .null, .int 0, .null, .int 0, .long 0, .long 0]) C hB hin (by omega) (by simp [va_up, xT, hX] <;> (intros; omega)) (Nat.le_of_ble_eq_true rfl) rfl dX3_init_41 ?_
  refine z_aload_n 0 (pc := 44) C dX3_init_44 rfl rfl ?_
  refine z_bipush (pc := 45) (v := (40 : Int32)) C dX3_init_45 (by decide) ?_
  refine zb_newi (n := (k + 6)) (pc := 47) (c1 := 6) (s1 := 144) C hB bw_1_18 (N := 40) (by decide) (by decide) (by decide) rfl rfl (Nat.le_of_ble_eq_true rfl) (Nat.le_of_ble_eq_true rfl) dX3_init_47 ?_
  refine bfX3_27 (n := (k + 7)) (pc := 49) (k := k) (q := h0 + (k + 6)) (fs := [.int 0, .int 0, .ref (h0 + (k + 1)), .ref (h0 + (k + 2)), .ref (h0 + (k + 3)), .int 0, .ref (h0 + (k + 4)), .ref (h0 + (k + 5)), .null, .null, .int 0, .null, .int 0, .long 0, .long 0]) (fs2 := [.int 0, .int 0, .ref (h0 + (k + 1)), .ref (h0 + (k + 2)), .ref (h0 + (k + 3)), .int 0, .ref (h0 + (k + 4)), .ref (h0 + (k + 5)), .ref (h0 + (k + 6)), .null, .int 0, .null, .int 0, .long 0, .long 0]) C hB hin (by omega) (by simp [va_up, xT, hX] <;> (intros; omega)) (Nat.le_of_ble_eq_true rfl) rfl dX3_init_49 ?_
  refine z_aload_n 0 (pc := 52) C dX3_init_52 rfl rfl ?_
  refine z_bipush (pc := 53) (v := (40 : Int32)) C dX3_init_53 (by decide) ?_
  refine zb_newi (n := (k + 7)) (pc := 55) (c1 := 7) (s1 := 184) C hB bw_1_18 (N := 40) (by decide) (by decide) (by decide) rfl rfl (Nat.le_of_ble_eq_true rfl) (Nat.le_of_ble_eq_true rfl) dX3_init_55 ?_
  refine bfX3_30 (n := (k + 8)) (pc := 57) (k := k) (q := h0 + (k + 7)) (fs := [.int 0, .int 0, .ref (h0 + (k + 1)), .ref (h0 + (k + 2)), .ref (h0 + (k + 3)), .int 0, .ref (h0 + (k + 4)), .ref (h0 + (k + 5)), .ref (h0 + (k + 6)), .null, .int 0, .null, .int 0, .long 0, .long 0]) (fs2 := [.int 0, .int 0, .ref (h0 + (k + 1)), .ref (h0 + (k + 2)), .ref (h0 + (k + 3)), .int 0, .ref (h0 + (k + 4)), .ref (h0 + (k + 5)), .ref (h0 + (k + 6)), .ref (h0 + (k + 7)), .int 0, .null, .int 0, .long 0, .long 0]) C hB hin (by omega) (by simp [va_up, xT, hX] <;> (intros; omega)) (Nat.le_of_ble_eq_true rfl) rfl dX3_init_57 ?_
  refine z_aload_n 0 (pc := 60) C dX3_init_60 rfl rfl ?_
  refine z_bipush (pc := 61) (v := (40 : Int32)) C dX3_init_61 (by decide) ?_
  refine zb_newi (n := (k + 8)) (pc := 63) (c1 := 8) (s1 := 224) C hB bw_1_18 (N := 40) (by decide) (by decide) (by decide) rfl rfl (Nat.le_of_ble_eq_true rfl) (Nat.le_of_ble_eq_true rfl) dX3_init_63 ?_
  refine bfX3_33 (n := (k + 9)) (pc := 65) (k := k) (q := h0 + (k + 8)) (fs := [.int 0, .int 0, .ref (h0 + (k + 1)), .ref (h0 + (k + 2)), .ref (h0 + (k + 3)), .int 0, .ref (h0 + (k + 4)), .ref (h0 + (k + 5)), .ref (h0 + (k + 6)), .ref (h0 + (k + 7)), .int 0, .null, .int 0, .long 0, .long 0]) (fs2 := [.int 0, .int 0, .ref (h0 + (k + 1)), .ref (h0 + (k + 2)), .ref (h0 + (k + 3)), .int 0, .ref (h0 + (k + 4)), .ref (h0 + (k + 5)), .ref (h0 + (k + 6)), .ref (h0 + (k + 7)), .int 0, .ref (h0 + (k + 8)), .int 0, .long 0, .long 0]) C hB hin (by omega) (by simp [va_up, xT, hX] <;> (intros; omega)) (Nat.le_of_ble_eq_true rfl) rfl dX3_init_65 ?_
  refine zb_vret (n := k + 9) (pc := 68) C hB hQ hr dX3_init_68 (fun j hj => ?_) (Nat.le_of_ble_eq_true rfl) (Nat.le_of_ble_eq_true rfl)
  by_cases q : k ≤ j
  · obtain ⟨i, hi, rfl⟩ : ∃ i, i < 9 ∧ j = k + i := ⟨j - k, by omega, by omega⟩
    rw [xT_in (by omega)]
    rcases (show i = 0 ∨ i = 1 ∨ i = 2 ∨ i = 3 ∨ i = 4 ∨ i = 5 ∨ i = 6 ∨ i = 7 ∨ i = 8 from by omega) with rfl | rfl | rfl | rfl | rfl | rfl | rfl | rfl | rfl
    · refine Eq.trans ?_ (tX_3 hd).symm; simp [va_up, xT, hX] <;> (intros; omega)
    · refine Eq.trans ?_ (tX_a8 (kX_3_2 hd)).symm; simp [va_up, xT, hX] <;> (intros; omega)
    · refine Eq.trans ?_ (tX_a8 (kX_3_3 hd)).symm; simp [va_up, xT, hX] <;> (intros; omega)
    · refine Eq.trans ?_ (tX_a8 (kX_3_4 hd)).symm; simp [va_up, xT, hX] <;> (intros; omega)
    · refine Eq.trans ?_ (tX_a40 (kX_3_6 hd)).symm; simp [va_up, xT, hX] <;> (intros; omega)
    · refine Eq.trans ?_ (tX_a40 (kX_3_7 hd)).symm; simp [va_up, xT, hX] <;> (intros; omega)
    · refine Eq.trans ?_ (tX_a40 (kX_3_8 hd)).symm; simp [va_up, xT, hX] <;> (intros; omega)
    · refine Eq.trans ?_ (tX_a40 (kX_3_9 hd)).symm; simp [va_up, xT, hX] <;> (intros; omega)
    · refine Eq.trans ?_ (tX_a40 (kX_3_11 hd)).symm; simp [va_up, xT, hX] <;> (intros; omega)
  · rw [xT_out (by omega)]; simp [va_up, xT, show j ≠ k from by omega, show j ≠ k + 1 from by omega, show j ≠ k + 2 from by omega, show j ≠ k + 3 from by omega, show j ≠ k + 4 from by omega, show j ≠ k + 5 from by omega, show j ≠ k + 6 from by omega, show j ≠ k + 7 from by omega, show j ≠ k + 8 from by omega, show ¬ k ≤ j from q, show ¬ k + 1 ≤ j from by omega, show ¬ k + 2 ≤ j from by omega, show ¬ k + 3 ≤ j from by omega, show ¬ k + 4 ≤ j from by omega, show ¬ k + 5 ≤ j from by omega, show ¬ k + 6 ≤ j from by omega, show ¬ k + 7 ≤ j from by omega, show ¬ k + 8 ≤ j from by omega]
abbrev rmX1_init : Room := { frames := 8, cells := 6, slots := 32, locals := 170 }
set_option maxRecDepth 100000 in
set_option maxHeartbeats 4000000 in
theorem mX1_init {l : Launch} {D : va_G} {cs : Nat → ClassId} {h0 k : Nat} {X : Nat → va_E} (hT : l.stackTraces = false) (hd : kdX k = 1) (hX : X k = .inr (1, [.null, .null])) : MB l D cs yX1_init cX1_init 1 rmX1_init [.ref (h0 + k)] (k + 1) h0 X (k + 7) (xT cs h0 k 7 X) := by
  refine zb_entry hT (by decide +kernel) rfl (by decide) (fun E hEl hED hEk C hB hQ hr hin => ?_)
  subst hEl
  subst hED
  subst hEk
  refine z_aload_n 0 (pc := 0) C dX1_init_0 rfl rfl ?_
  refine zb_objInit (pc := 1) C bw_2_23 bw_1_8 bw_1_9 dX1_init_1 (Nat.le_of_ble_eq_true rfl) (Nat.le_of_ble_eq_true rfl) ?_
  refine z_aload_n 0 (pc := 4) C dX1_init_4 rfl rfl ?_
  refine bnX1_9 (n := (k + 1)) (pc := 5) (c1 := 1) (s1 := 4) C hB rfl rfl (Nat.le_of_ble_eq_true rfl) (Nat.le_of_ble_eq_true rfl) dX1_init_5 ?_
  refine z_dup (pc := 8) C dX1_init_8 rfl ?_
  refine zb_callN (n := (k + 2)) (pc := 9) (k := (k + 1)) (c1 := 3) (s1 := 16) C hB (mX7_init C.hT (k := (k + 1)) (kX_1_0 hd) (by simp [va_up, xT, hX] <;> (intros; omega))) ne_X1_11 bw_3_5 bw_3_2 bw_3_6 ⟨by decide +kernel, by decide +kernel, by decide +kernel⟩ rfl (Nat.le_of_ble_eq_true rfl) ⟨(Nat.le_of_ble_eq_true rfl), (Nat.le_of_ble_eq_true rfl)⟩ rfl rfl (Nat.le_of_ble_eq_true rfl) (Nat.le_of_ble_eq_true rfl) dX1_init_9 ?_
  refine bfX1_12 (n := (k + 4)) (pc := 12) (k := k) (q := h0 + (k + 1)) (fs := [.null, .null]) (fs2 := [.ref (h0 + (k + 1)), .null]) C hB hin (by omega) (by simp [va_up, xT, hX] <;> (intros; omega)) (Nat.le_of_ble_eq_true rfl) rfl dX1_init_12 ?_
  refine z_aload_n 0 (pc := 15) C dX1_init_15 rfl rfl ?_
  refine bnX1_9 (n := (k + 4)) (pc := 16) (c1 := 4) (s1 := 20) C hB rfl rfl (Nat.le_of_ble_eq_true rfl) (Nat.le_of_ble_eq_true rfl) dX1_init_16 ?_
  refine z_dup (pc := 19) C dX1_init_19 rfl ?_
  refine zb_callN (n := (k + 5)) (pc := 20) (k := (k + 4)) (c1 := 6) (s1 := 32) C hB (mX7_init C.hT (k := (k + 4)) (kX_1_1 hd) (by simp [va_up, xT, hX] <;> (intros; omega))) ne_X1_11 bw_3_5 bw_3_2 bw_3_6 ⟨by decide +kernel, by decide +kernel, by decide +kernel⟩ rfl (Nat.le_of_ble_eq_true rfl) ⟨(Nat.le_of_ble_eq_true rfl), (Nat.le_of_ble_eq_true rfl)⟩ rfl rfl (Nat.le_of_ble_eq_true rfl) (Nat.le_of_ble_eq_true rfl) dX1_init_20 ?_
  refine bfX1_18 (n := (k + 7)) (pc := 23) (k := k) (q := h0 + (k + 4)) (fs := [.ref (h0 + (k + 1)), .null]) (fs2 := [.ref (h0 + (k + 1)), .ref (h0 + (k + 4))]) C hB hin (by omega) (by simp [va_up, xT, hX] <;> (intros; omega)) (Nat.le_of_ble_eq_true rfl) rfl dX1_init_23 ?_
  refine zb_vret (n := k + 7) (pc := 26) C hB hQ hr dX1_init_26 (fun j hj => ?_) (Nat.le_of_ble_eq_true rfl) (Nat.le_of_ble_eq_true rfl)
  by_cases q : k ≤ j
  · obtain ⟨i, hi, rfl⟩ : ∃ i, i < 7 ∧ j = k + i := ⟨j - k, by omega, by omega⟩
    rw [xT_in (by omega)]
    rcases (show i = 0 ∨ i = 1 ∨ i = 2 ∨ i = 3 ∨ i = 4 ∨ i = 5 ∨ i = 6 from by omega) with rfl | rfl | rfl | rfl | rfl | rfl | rfl
    · refine Eq.trans ?_ (tX_1 hd).symm; simp [va_up, xT, hX] <;> (intros; omega)
    · simp [va_up, xT, hX] <;> (intros; omega)
    · simp [va_up, xT, hX] <;> (intros; omega)
    · simp [va_up, xT, hX] <;> (intros; omega)
    · simp [va_up, xT, hX] <;> (intros; omega)
    · simp [va_up, xT, hX] <;> (intros; omega)
    · simp [va_up, xT, hX] <;> (intros; omega)
  · rw [xT_out (by omega)]; simp [va_up, xT, show j ≠ k from by omega, show j ≠ k + 1 from by omega, show j ≠ k + 2 from by omega, show j ≠ k + 3 from by omega, show j ≠ k + 4 from by omega, show j ≠ k + 5 from by omega, show j ≠ k + 6 from by omega, show ¬ k ≤ j from q, show ¬ k + 1 ≤ j from by omega, show ¬ k + 2 ≤ j from by omega, show ¬ k + 3 ≤ j from by omega, show ¬ k + 4 ≤ j from by omega, show ¬ k + 5 ≤ j from by omega, show ¬ k + 6 ≤ j from by omega]
abbrev rmX4_init : Room := { frames := 8, cells := 6, slots := 33, locals := 170 }
set_option maxRecDepth 100000 in
set_option maxHeartbeats 4000000 in
theorem mX4_init {l : Launch} {D : va_G} {cs : Nat → ClassId} {h0 k : Nat} {X : Nat → va_E} (hT : l.stackTraces = false) (hd : kdX k = 4) (hX : X k = .inr (4, [.null, .int 0, .int 0, .int 0, .null, .null, .null, .int 0])) : MB l D cs yX4_init cX4_init 1 rmX4_init [.ref (h0 + k)] (k + 1) h0 X (k + 7) (xT cs h0 k 7 X) := by
  refine zb_entry hT (by decide +kernel) rfl (by decide) (fun E hEl hED hEk C hB hQ hr hin => ?_)
  subst hEl
  subst hED
  subst hEk
  refine z_aload_n 0 (pc := 0) C dX4_init_0 rfl rfl ?_
  refine zb_objInit (pc := 1) C bw_4_6 bw_1_8 bw_1_9 dX4_init_1 (Nat.le_of_ble_eq_true rfl) (Nat.le_of_ble_eq_true rfl) ?_
  refine z_aload_n 0 (pc := 4) C dX4_init_4 rfl rfl ?_
  refine bnX4_9 (n := (k + 1)) (pc := 5) (c1 := 1) (s1 := 3) C hB rfl rfl (Nat.le_of_ble_eq_true rfl) (Nat.le_of_ble_eq_true rfl) dX4_init_5 ?_
  refine z_dup (pc := 8) C dX4_init_8 rfl ?_
  refine zb_callN (n := (k + 2)) (pc := 9) (k := (k + 1)) (c1 := 3) (s1 := 15) C hB (mX2_init C.hT (k := (k + 1)) (kX_4_0 hd) (by simp [va_up, xT, hX] <;> (intros; omega))) ne_X4_11 bw_2_16 bw_1_12 bw_2_17 ⟨by decide +kernel, by decide +kernel, by decide +kernel⟩ rfl (Nat.le_of_ble_eq_true rfl) ⟨(Nat.le_of_ble_eq_true rfl), (Nat.le_of_ble_eq_true rfl)⟩ rfl rfl (Nat.le_of_ble_eq_true rfl) (Nat.le_of_ble_eq_true rfl) dX4_init_9 ?_
  refine bfX4_12 (n := (k + 4)) (pc := 12) (k := k) (q := h0 + (k + 1)) (fs := [.null, .int 0, .int 0, .int 0, .null, .null, .null, .int 0]) (fs2 := [.ref (h0 + (k + 1)), .int 0, .int 0, .int 0, .null, .null, .null, .int 0]) C hB hin (by omega) (by simp [va_up, xT, hX] <;> (intros; omega)) (Nat.le_of_ble_eq_true rfl) rfl dX4_init_12 ?_
  refine z_aload_n 0 (pc := 15) C dX4_init_15 rfl rfl ?_
  refine z_bipush (pc := 16) (v := (6 : Int32)) C dX4_init_16 (by decide) ?_
  refine zb_newi (n := (k + 4)) (pc := 18) (c1 := 4) (s1 := 21) C hB bw_1_18 (N := 6) (by decide) (by decide) (by decide) rfl rfl (Nat.le_of_ble_eq_true rfl) (Nat.le_of_ble_eq_true rfl) dX4_init_18 ?_
  refine bfX4_18 (n := (k + 5)) (pc := 20) (k := k) (q := h0 + (k + 4)) (fs := [.ref (h0 + (k + 1)), .int 0, .int 0, .int 0, .null, .null, .null, .int 0]) (fs2 := [.ref (h0 + (k + 1)), .int 0, .int 0, .int 0, .ref (h0 + (k + 4)), .null, .null, .int 0]) C hB hin (by omega) (by simp [va_up, xT, hX] <;> (intros; omega)) (Nat.le_of_ble_eq_true rfl) rfl dX4_init_20 ?_
  refine z_aload_n 0 (pc := 23) C dX4_init_23 rfl rfl ?_
  refine z_bipush (pc := 24) (v := (6 : Int32)) C dX4_init_24 (by decide) ?_
  refine zb_newi (n := (k + 5)) (pc := 26) (c1 := 5) (s1 := 27) C hB bw_1_18 (N := 6) (by decide) (by decide) (by decide) rfl rfl (Nat.le_of_ble_eq_true rfl) (Nat.le_of_ble_eq_true rfl) dX4_init_26 ?_
  refine bfX4_22 (n := (k + 6)) (pc := 28) (k := k) (q := h0 + (k + 5)) (fs := [.ref (h0 + (k + 1)), .int 0, .int 0, .int 0, .ref (h0 + (k + 4)), .null, .null, .int 0]) (fs2 := [.ref (h0 + (k + 1)), .int 0, .int 0, .int 0, .ref (h0 + (k + 4)), .ref (h0 + (k + 5)), .null, .int 0]) C hB hin (by omega) (by simp [va_up, xT, hX] <;> (intros; omega)) (Nat.le_of_ble_eq_true rfl) rfl dX4_init_28 ?_
  refine z_aload_n 0 (pc := 31) C dX4_init_31 rfl rfl ?_
  refine z_bipush (pc := 32) (v := (6 : Int32)) C dX4_init_32 (by decide) ?_
  refine zb_newi (n := (k + 6)) (pc := 34) (c1 := 6) (s1 := 33) C hB bw_1_18 (N := 6) (by decide) (by decide) (by decide) rfl rfl (Nat.le_of_ble_eq_true rfl) (Nat.le_of_ble_eq_true rfl) dX4_init_34 ?_
  refine bfX4_25 (n := (k + 7)) (pc := 36) (k := k) (q := h0 + (k + 6)) (fs := [.ref (h0 + (k + 1)), .int 0, .int 0, .int 0, .ref (h0 + (k + 4)), .ref (h0 + (k + 5)), .null, .int 0]) (fs2 := [.ref (h0 + (k + 1)), .int 0, .int 0, .int 0, .ref (h0 + (k + 4)), .ref (h0 + (k + 5)), .ref (h0 + (k + 6)), .int 0]) C hB hin (by omega) (by simp [va_up, xT, hX] <;> (intros; omega)) (Nat.le_of_ble_eq_true rfl) rfl dX4_init_36 ?_
  refine zb_vret (n := k + 7) (pc := 39) C hB hQ hr dX4_init_39 (fun j hj => ?_) (Nat.le_of_ble_eq_true rfl) (Nat.le_of_ble_eq_true rfl)
  by_cases q : k ≤ j
  · obtain ⟨i, hi, rfl⟩ : ∃ i, i < 7 ∧ j = k + i := ⟨j - k, by omega, by omega⟩
    rw [xT_in (by omega)]
    rcases (show i = 0 ∨ i = 1 ∨ i = 2 ∨ i = 3 ∨ i = 4 ∨ i = 5 ∨ i = 6 from by omega) with rfl | rfl | rfl | rfl | rfl | rfl | rfl
    · refine Eq.trans ?_ (tX_4 hd).symm; simp [va_up, xT, hX] <;> (intros; omega)
    · simp [va_up, xT, hX] <;> (intros; omega)
    · simp [va_up, xT, hX] <;> (intros; omega)
    · simp [va_up, xT, hX] <;> (intros; omega)
    · refine Eq.trans ?_ (tX_a6 (kX_4_4 hd)).symm; simp [va_up, xT, hX] <;> (intros; omega)
    · refine Eq.trans ?_ (tX_a6 (kX_4_5 hd)).symm; simp [va_up, xT, hX] <;> (intros; omega)
    · refine Eq.trans ?_ (tX_a6 (kX_4_6 hd)).symm; simp [va_up, xT, hX] <;> (intros; omega)
  · rw [xT_out (by omega)]; simp [va_up, xT, show j ≠ k from by omega, show j ≠ k + 1 from by omega, show j ≠ k + 2 from by omega, show j ≠ k + 3 from by omega, show j ≠ k + 4 from by omega, show j ≠ k + 5 from by omega, show j ≠ k + 6 from by omega, show ¬ k ≤ j from q, show ¬ k + 1 ≤ j from by omega, show ¬ k + 2 ≤ j from by omega, show ¬ k + 3 ≤ j from by omega, show ¬ k + 4 ≤ j from by omega, show ¬ k + 5 ≤ j from by omega, show ¬ k + 6 ≤ j from by omega]
