/-! ===== the law's world: lane, out, model ===== -/
/-- the room of the claim: TURN reads it off the machine, so that it differs a little from one to the next; these bounds are below it -/
theorem room_c : 600000 ≤ room_1.cells := Nat.le_of_ble_eq_true rfl
theorem room_s : 7200000 ≤ room_1.slots := Nat.le_of_ble_eq_true rfl
section VL0
variable {E : ET} {cc : ByteArray} {own : String} {nL : Nat} {rm : Room} {P : Heap → List Loc → Prop} {cells slots pc : Nat} {loc : List (Nat × Value)} {stk : List Value}
theorem v_lload (q : Nat) (C : CV E cc own nL rm) {i : Nat} {x : Int64} (d : decode cc pc = .ok (.lload i, 2)) (hq : loc[q]? = some (i, .long x)) (k : Zz E P cells slots (pc + 2) loc (.long x :: stk)) : Zz E P cells slots pc loc stk := fun H locs ls hP hl => lv_lload C.1 C.2.1 d (lv_at hl q hq) (k H locs ls hP hl)
theorem v_lstore (C : CV E cc own nL rm) {i : Nat} {x : Int64} {loc' : List (Nat × Value)} (d : decode cc pc = .ok (.lstore i, 2)) (hn : i + 1 < nL) (hl' : (i, Value.long x) :: loc.filter (fun q => !(q.1 == i) && (!(q.1 == i + 1) && !(q.1 + 1 == i && q.2.category == 2))) = loc') (k : Zz E P cells slots (pc + 2) loc' stk) : Zz E P cells slots pc loc (.long x :: stk) := fun H locs ls hP hl => lv_lstore C.1 C.2.1 d hl (by rw [C.2.2.2.1]; exact hn) hl' (fun ls' h' => k H locs ls' hP h')
end VL0
def bb (x : Int32) : Int32 := if x = 0 then 0 else 1
def LW (E : ET) (a : Nat → Nat) (ao : Nat) (b : Nat → Nat) (S : St) (f : Nat → Int64) (M : St) : Heap → List Loc → Prop := fun H locs =>
  va_P (e_D E) vwCl (wC 113 GX (e_k E) a S) H ∧ va_P (e_D E) vwCl (oW (e_k E) ao f) H ∧ va_P (e_D E) vwCl (wC 33 GM (e_k E) b M) H ∧ va_S (e_A E) (e_s E).heap H locs
def DL (E : ET) (a : Nat → Nat) (ao : Nat) (b : Nat → Nat) : Prop := DO E a ao ∧ (∀ M, va_D (e_A E) (wC 33 GM (e_k E) b M)) ∧ (∀ i j, i < 113 → j < 33 → a i ≠ b j) ∧ ∀ j, j < 33 → b j ≠ ao
def SX (E : ET) (sb L : Nat) (xs : Nat → Int32) : Prop := va_X sb L xs (e_s E) (e_s E).heap ∧ sb < (e_s E).heap.size ∧ ¬ e_A E sb ∧ L ≤ 3584
def LX (E : ET) (a : Nat → Nat) (ao : Nat) (b : Nat → Nat) (sb L : Nat) (xs : Nat → Int32) : Prop := CV E cL_law RL 8 room_1 ∧ NC (e_s E) ∧ DL E a ao b ∧ SX E sb L xs
section VL
variable {E : ET} {cc : ByteArray} {own : String} {nL : Nat} {rm : Room} {cells slots pc : Nat} {loc : List (Nat × Value)} {stk : List Value} {a b : Nat → Nat} {ao : Nat} {S M : St} {f : Nat → Int64}
theorem v_sld (C : CV E cc own nL rm) {sb L : Nat} {xs : Nat → Int32} (X : SX E sb L xs) {n : Nat} {x : Int32} (hn : n < L) (hx : x = nI n) (d : decode cc pc = .ok (.iaload, 1)) (kk : Zz E (LW E a ao b S f M) cells slots (pc + 1) loc (.int (xs n) :: stk)) : Zz E (LW E a ao b S f M) cells slots pc loc (.int x :: .ref sb :: stk) := fun H locs ls hP hl => by
  subst hx
  have hL := X.2.2.2
  refine va_sld C.1 C.2.1 X.1 X.2.1 X.2.2.1 hP.2.2.2 (nI_in hn (by omega)) d ?_
  rw [nI_clamp (n := n) (by omega)]
  exact kk H locs ls hP hl
theorem v_slen (C : CV E cc own nL rm) {sb L : Nat} {xs : Nat → Int32} (X : SX E sb L xs) (d : decode cc pc = .ok (.arraylength, 1)) (kk : Zz E (LW E a ao b S f M) cells slots (pc + 1) loc (.int (nI L) :: stk)) : Zz E (LW E a ao b S f M) cells slots pc loc (.ref sb :: stk) := fun H locs ls hP hl =>
  va_slen C.1 C.2.1 X.1 X.2.1 X.2.2.1 hP.2.2.2 d (kk H locs ls hP hl)
theorem v_lald (C : CV E cc own nL rm) {i : Int32} (hin : vp_in i 1) (d : decode cc pc = .ok (.laload, 1)) (kk : Zz E (LW E a ao b S f M) cells slots (pc + 1) loc (.long (f i.toNatClampNeg) :: stk)) : Zz E (LW E a ao b S f M) cells slots pc loc (.int i :: .ref ao :: stk) := fun H locs ls hP hl =>
  va_lald C.1 C.2.1 C.hK.1 hP.2.1 0 4 rfl rfl hin d (kk H locs ls hP hl)
theorem v_bool (tg : Nat) (C : CV E cc own nL rm) {P : Heap → List Loc → Prop} {x : Int32} {o1 o2 : Int} (d1 : decode cc pc = .ok (.ifCond .eq o1, 3)) (d2 : decode cc (pc + 3) = .ok (.iconst 1, 1)) (d3 : decode cc (pc + 4) = .ok (.goto o2, 3)) (d4 : decode cc (pc + 7) = .ok (.iconst 0, 1)) (h1 : (pc : Int) + o1 = ((pc + 7 : Nat) : Int)) (h2 : ((pc + 4 : Nat) : Int) + o2 = (tg : Int)) (h3 : pc + 8 = tg) (kk : Zz E P cells slots tg loc (.int (bb x) :: stk)) : Zz E P cells slots pc loc (.int x :: stk) := by
  subst h3
  refine v_if_eq (pc + 7) C d1 h1 (fun c => ?_) (fun c => ?_)
  · refine v_iconst (pc := pc + 7) (v := (0 : Int32)) C d4 (by decide) ?_
    rw [show bb x = 0 from if_pos c] at kk
    exact kk
  · refine v_iconst (pc := pc + 3) (v := (1 : Int32)) C d2 (by decide) ?_
    refine v_goto (pc + 8) (pc := pc + 4) C d3 h2 ?_
    rw [show bb x = 1 from if_neg c] at kk
    exact kk
theorem DL.outA {E : ET} (h : DL E a ao b) {j sz : Nat} (hj : j < 33) (hz : b j < sz) : ¬ aO a ao sz (b j) := by
  rintro ((⟨k, hk, e⟩ | h2) | h2)
  · exact h.2.2.1 k j hk hj e.symm
  · omega
  · exact h.2.2.2 j hj h2
/-- a wrapper called by the law -/
theorem v_callW {c1 s1 : Nat} {y : MethodName} {cb : ByteArray} {maxL : Nat} {hh : List (Nat × Nat × Nat × Nat)} {rm' : Room} (As : List Value) {st0 : List Value} {k : Int32} {S' : St} {f' : Nat → Int64} {idx nargs : Nat} (C : CV E cc own nL rm) (hN : NC (e_s E)) (hD : DL E a ao b) (hM : MO (e_l E) (e_D E) (e_k E) a ao y cb maxL hh rm' As S f k S' f') (hC : Cond.methodLink own idx y ∈ BG ∧ Cond.static y ∈ BG ∧ Cond.initialized y.cls ∈ BG ∧ Cond.codeWith y cb maxL (some .int) hh ∈ BG ∧ namesOk y nargs) (hn : As.length = nargs) (hst : st0 = As.reverse ++ stk) (hcat : (stk.map fun v => v.category).sum ≤ 8) (hR : rm'.frames + 1 ≤ rm.frames ∧ 8 + (maxL + 11) + rm'.locals ≤ rm.locals) (hf : cells + rm'.cells ≤ rm.cells ∧ slots + rm'.slots ≤ rm.slots) (d : decode cc pc = .ok (.invokestatic idx, 3))
    (h1 : cells + rm'.cells = c1) (h2 : slots + rm'.slots = s1) (kk : Zz E (LW E a ao b S' f' M) c1 s1 (pc + 3) loc (.int k :: stk)) : Zz E (LW E a ao b S f M) cells slots pc loc st0 := fun H locs ls hP hl => by
  subst h1
  subst h2
  obtain ⟨w1, w2, w3, w4, w5⟩ := hC
  have hW : WG 113 GX E a S H locs := ⟨hP.1, hD.1.1 S, hP.2.2.2⟩
  have hA : ∀ q, aO a ao H.size q → e_A E q := fun q h => h.elim (fun h => v_pre C hW q h) (fun h => by rw [h]; exact hD.1.2.1)
  have hg : GoodIn BG (va_wsS own idx y (Cond.codeWith y cb maxL (some .int) hh :: BG)) := gi_bg (fun w hw => by
    unfold va_wsS at hw
    rcases List.mem_append.mp hw with hw | hw
    · simp only [List.mem_cons, List.not_mem_nil, or_false] at hw
      rcases hw with rfl | rfl | rfl
      · exact w1
      · exact w2
      · exact w3
    · rcases List.mem_cons.mp hw with rfl | hw
      · exact w4
      · exact hw)
  have hr := vx_runSX (p := e_p E) (l := e_l E) (R := e_R E) (s := e_s E) (m := e_m E) (args := e_a E) (c := e_c E) (H := H) (hh := hh) (bytes := cb) (maxL := maxL) (ret := some .int) (e := e_e E) (below := e_b E) (meth := e_h E) (locs := locs) (cells := cells) (slots := slots) (As := As) (rest := stk) (g := F0 (e_m E) pc ls st0) ⟨C.1, C.2.1, C.2.2.1, C.ho, C.ht⟩ (hM H.size) (vx_cwSW nargs C.ht hg rfl rfl rfl w5 (by rw [C.hR]; exact hR))
    ⟨PreO_blind, fun U hU hWm => ⟨rfl, by rw [hU], by rw [hU]; exact hP.1, by rw [hU]; exact hP.2.1, ⟨(hD.1.1 S).1, fun _ _ _ => trivial⟩, hD.1.2.2, KK.step C.hK hP.2.2.2 hA hU hWm, fun q hq => va_Nc.moved hWm.alike (hN q hq)⟩⟩ rfl hn (hl.1.trans C.hn) hst (lv_room hcat) d (by rw [C.hR]; exact hf)
  intro T hT X
  rcases hr T hT X with ⟨v', st₀, t, T', L, h0, X', hL, e1, e2, ⟨⟨hv, hp, hp2⟩, hF⟩, st⟩ | ⟨q, st₀, t, T', L, E1, ce, h0, X', hL, e1, e2, hx, hce, hcv, hcl, st⟩
  · cases hv
    obtain ⟨k1, k2, k3⟩ := vx_keep h0 e1 hP.2.2.2 (fun q _ h => hA q h) hA hL hF
    obtain ⟨t2, a1, b1⟩ := kk T'.heap (locs ++ L) ls ⟨by rw [e1]; exact hp, by rw [e1]; exact hp2, hP.2.2.1.ne k2 (fun k q hk => by
      have h9 := (hP.2.2.1 k q hk).lt
      obtain ⟨hj, rfl⟩ := wC_some hk
      exact hD.outA hj h9), k3⟩ hl T' rfl X'
    exact ⟨t2, st t2 a1, b1⟩
  · exact hx.elim
/-- a method of the lane, or of the model, called by the law: it returns -/
theorem v_callX {c1 s1 : Nat} {y : MethodName} {cb : ByteArray} {maxL : Nat} {ret : Option FieldType} {rm' : Room} (As : List Value) {st0 : List Value} {v : Value} {S' : St} {idx nargs : Nat} {T : u_T} {N ci : Nat} {fs : List Value} (C : CV E cc own nL rm) (hD : DL E a ao b) (hM : MX (e_l E) 113 GX (e_D E) (e_k E) a y cb maxL ret rm' (.ref (a 0) :: As) S (.inr (some v)) S') (hC : CallVok own idx y cb maxL ret nargs) (hG : GX (e_k E) a (S.1 0) (S.2 0) 0 = .inr (ci, fs)) (hc : vwCl[ci]? = some (y.cls, T, N)) (hn : As.length = nargs) (hst : st0 = As.reverse ++ .ref (a 0) :: stk) (hcat : (stk.map fun v => v.category).sum ≤ 8) (hR : rm'.frames + 1 ≤ rm.frames ∧ 8 + (maxL + 11) + rm'.locals ≤ rm.locals) (hf : cells + rm'.cells ≤ rm.cells ∧ slots + rm'.slots ≤ rm.slots) (d : decode cc pc = .ok (.invokevirtual idx, 3))
    (h1 : cells + rm'.cells = c1) (h2 : slots + rm'.slots = s1) (kk : Zz E (LW E a ao b S' f M) c1 s1 (pc + 3) loc (v :: stk)) : Zz E (LW E a ao b S f M) cells slots pc loc st0 := fun H locs ls hP hl => by
  subst h1
  subst h2
  have hW : WG 113 GX E a S H locs := ⟨hP.1, hD.1.1 S, hP.2.2.2⟩
  have hr := v_runV C hM hC (by decide) hG hc hn hst hcat hR hf d hW hl
  have hA := v_pre C hW
  intro T hT X
  rcases hr T hT X with ⟨v', st₀, t, T', L, h0, X', hL, e1, e2, ⟨⟨v2, ho2, hv, hp⟩, hF⟩, st⟩ | ⟨q, st₀, t, T', L, E1, ce, h0, X', hL, e1, e2, ⟨⟨ho2, hp⟩, hF⟩, hce, hcv, hcl, st⟩
  · cases ho2
    cases hv
    obtain ⟨k1, k2, k3⟩ := vx_keep h0 e1 hP.2.2.2 (fun q _ h => hA q h) hA hL hF
    obtain ⟨t2, a1, b1⟩ := kk T'.heap (locs ++ L) ls ⟨by rw [e1]; exact hp, hP.2.1.ne k2 (fun k q hk => by
      have h9 := (hP.2.1 k q hk).lt
      obtain ⟨-, rfl⟩ := oW_at hk
      exact hD.1.out h9), hP.2.2.1.ne k2 (fun k q hk => by
      have h9 := (hP.2.2.1 k q hk).lt
      obtain ⟨hj, rfl⟩ := wC_some hk
      exact fun h => hD.outA (ao := ao) hj h9 (Or.inl h)), k3⟩ hl T' rfl X'
    exact ⟨t2, st t2 a1, b1⟩
  · cases ho2
theorem v_callM {c1 s1 : Nat} {y : MethodName} {cb : ByteArray} {maxL : Nat} {ret : Option FieldType} {rm' : Room} (As : List Value) {st0 : List Value} {v : Value} {M' : St} {idx nargs : Nat} {T : u_T} {N ci : Nat} {fs : List Value} (C : CV E cc own nL rm) (hD : DL E a ao b) (hM : MX (e_l E) 33 GM (e_D E) (e_k E) b y cb maxL ret rm' (.ref (b 0) :: As) M (.inr (some v)) M') (hC : CallVok own idx y cb maxL ret nargs) (hG : GM (e_k E) b (M.1 0) (M.2 0) 0 = .inr (ci, fs)) (hc : vwCl[ci]? = some (y.cls, T, N)) (hn : As.length = nargs) (hst : st0 = As.reverse ++ .ref (b 0) :: stk) (hcat : (stk.map fun v => v.category).sum ≤ 8) (hR : rm'.frames + 1 ≤ rm.frames ∧ 8 + (maxL + 11) + rm'.locals ≤ rm.locals) (hf : cells + rm'.cells ≤ rm.cells ∧ slots + rm'.slots ≤ rm.slots) (d : decode cc pc = .ok (.invokevirtual idx, 3))
    (h1 : cells + rm'.cells = c1) (h2 : slots + rm'.slots = s1) (kk : Zz E (LW E a ao b S f M') c1 s1 (pc + 3) loc (v :: stk)) : Zz E (LW E a ao b S f M) cells slots pc loc st0 := fun H locs ls hP hl => by
  subst h1
  subst h2
  have hW : WG 33 GM E b M H locs := ⟨hP.2.2.1, hD.2.1 M, hP.2.2.2⟩
  have hr := v_runV C hM hC (by decide) hG hc hn hst hcat hR hf d hW hl
  have hA := v_pre C hW
  intro T hT X
  rcases hr T hT X with ⟨v', st₀, t, T', L, h0, X', hL, e1, e2, ⟨⟨v2, ho2, hv, hp⟩, hF⟩, st⟩ | ⟨q, st₀, t, T', L, E1, ce, h0, X', hL, e1, e2, ⟨⟨ho2, hp⟩, hF⟩, hce, hcv, hcl, st⟩
  · cases ho2
    cases hv
    obtain ⟨k1, k2, k3⟩ := vx_keep h0 e1 hP.2.2.2 (fun q _ h => hA q h) hA hL hF
    obtain ⟨t2, a1, b1⟩ := kk T'.heap (locs ++ L) ls ⟨hP.1.ne k2 (fun k q hk => by
      have h9 := (hP.1 k q hk).lt
      obtain ⟨hj, rfl⟩ := wC_some hk
      rintro (⟨i, hi, e⟩ | h2)
      · exact hD.2.2.1 k i hj hi e
      · exact absurd h9 (Nat.not_lt.mpr h2)), hP.2.1.ne k2 (fun k q hk => by
      have h9 := (hP.2.1 k q hk).lt
      obtain ⟨-, rfl⟩ := oW_at hk
      rintro (⟨i, hi, e⟩ | h2)
      · exact hD.2.2.2 i hi e.symm
      · exact absurd h9 (Nat.not_lt.mpr h2)), by rw [e1]; exact hp, k3⟩ hl T' rfl X'
    exact ⟨t2, st t2 a1, b1⟩
  · cases ho2
end VL
theorem lcmp_self (x : Int64) : lg_cmp x x = 0 := by unfold lg_cmp; simp
theorem kw_96 : CallVok RL 96 yX9_thrown cX9_thrown 1 (some .int) 0 := ⟨bw_7_20, bw_7_21, bw_7_22, bw_1_5, bw_7_23, ⟨by decide +kernel, by decide +kernel, by decide +kernel⟩⟩
theorem kw_95 : CallVok RL 95 yX9_face cX9_face 4 (some .int) 2 := ⟨bw_7_7, bw_7_8, bw_7_9, bw_1_5, bw_7_10, ⟨by decide +kernel, by decide +kernel, by decide +kernel⟩⟩
set_option maxHeartbeats 1000000 in
theorem law_c0 {E : ET} {a b : Nat → Nat} {ao sb L : Nat} {xs : Nat → Int32} (X : LX E a ao b sb L xs) {i : Nat} (hi : i + 7 ≤ L) {S M S' M' : St} {f f' : Nat → Int64} {k : Int32} {bv : Int32} {c s : Nat} (hc : c + 8 ≤ 600000) (hs : s + 48 ≤ 7200000) (hO : MO (e_l E) (e_D E) (e_k E) a ao yL_face cL_face 5 [(0, 10, 13, 13), (0, 10, 17, 15)] rmL_face [.ref (a 0), .int (xs (i + 1)), .int (xs (i + 2)), .ref ao] S f k S' f') (hM : fX9_face M (xs (i + 1)) (xs (i + 2)) = some (bv, M')) (ht : fX9_thrown M' = some k) (hk : k = 0 → f' (0 : Int32).toNatClampNeg = bv.toInt64)
    (kk : Zz E (LW E a ao b S' f' M') (c + 8) (s + 48) 1822 [(4, .int (nI i)), (3, .ref ao), (2, .ref (b 0)), (1, .ref (a 0)), (0, .ref sb)] []) : Zz E (LW E a ao b S f M) c s 148 [(4, .int (nI i)), (3, .ref ao), (2, .ref (b 0)), (1, .ref (a 0)), (0, .ref sb)] [] := by
  refine v_aload_n 3 (pc := 148) X.1 dL_law_148 rfl rfl ?_
  refine v_aload_n 4 (pc := 149) X.1 dL_law_149 rfl rfl ?_
  refine v_iload 0 (pc := 150) X.1 dL_law_150 rfl ?_
  refine v_iconst (pc := 152) (v := (1 : Int32)) X.1 dL_law_152 (by decide) ?_
  refine v_iadd (pc := 153) X.1 dL_law_153 ?_
  refine v_sld (pc := 154) (n := i + 1) X.1 X.2.2.2 (by omega) (nI_add i 1) dL_law_154 ?_
  refine v_aload_n 4 (pc := 155) X.1 dL_law_155 rfl rfl ?_
  refine v_iload 0 (pc := 156) X.1 dL_law_156 rfl ?_
  refine v_iconst (pc := 158) (v := (2 : Int32)) X.1 dL_law_158 (by decide) ?_
  refine v_iadd (pc := 159) X.1 dL_law_159 ?_
  refine v_sld (pc := 160) (n := i + 2) X.1 X.2.2.2 (by omega) (nI_add i 2) dL_law_160 ?_
  refine v_aload_n 1 (pc := 161) X.1 dL_law_161 rfl rfl ?_
  refine v_callW [.ref (a 0), .int (xs (i + 1)), .int (xs (i + 2)), .ref ao] (pc := 162) (nargs := 4) (c1 := c + 1) (s1 := s + 6) X.1 X.2.1 X.2.2.1 hO ⟨bw_6_11, bw_6_12, bw_6_13, bw_6_14, ⟨by decide +kernel, by decide +kernel, by decide +kernel⟩⟩ rfl rfl (Nat.le_of_ble_eq_true rfl) ⟨(Nat.le_of_ble_eq_true rfl), (Nat.le_of_ble_eq_true rfl)⟩ ⟨Nat.le_trans (show c + 1 ≤ 600000 by omega) room_c, Nat.le_trans (show s + 6 ≤ 7200000 by omega) room_s⟩ dL_law_162 rfl rfl ?_
  refine v_istore (pc := 165) (loc' := [(5, .int k), (4, .int (nI i)), (3, .ref ao), (2, .ref (b 0)), (1, .ref (a 0)), (0, .ref sb)]) X.1 dL_law_165 (by decide) rfl ?_
  refine v_aload_n 3 (pc := 167) X.1 dL_law_167 rfl rfl ?_
  refine v_aload_n 5 (pc := 168) X.1 dL_law_168 rfl rfl ?_
  refine v_iload 1 (pc := 169) X.1 dL_law_169 rfl ?_
  refine v_iconst (pc := 171) (v := (1 : Int32)) X.1 dL_law_171 (by decide) ?_
  refine v_iadd (pc := 172) X.1 dL_law_172 ?_
  refine v_sld (pc := 173) (n := i + 1) X.1 X.2.2.2 (by omega) (nI_add i 1) dL_law_173 ?_
  refine v_aload_n 5 (pc := 174) X.1 dL_law_174 rfl rfl ?_
  refine v_iload 1 (pc := 175) X.1 dL_law_175 rfl ?_
  refine v_iconst (pc := 177) (v := (2 : Int32)) X.1 dL_law_177 (by decide) ?_
  refine v_iadd (pc := 178) X.1 dL_law_178 ?_
  refine v_sld (pc := 179) (n := i + 2) X.1 X.2.2.2 (by omega) (nI_add i 2) dL_law_179 ?_
  refine v_callM [.int (xs (i + 1)), .int (xs (i + 2))] (pc := 180) (c1 := c + 1) (s1 := s + 6) (v := .int bv) X.1 X.2.2.1 (mX9_face X.1.hT hM) kw_95 (gM_9 (rfl : kdM 0 = 9)) rfl rfl rfl (Nat.le_of_ble_eq_true rfl) ⟨(Nat.le_of_ble_eq_true rfl), (Nat.le_of_ble_eq_true rfl)⟩ ⟨Nat.le_trans (show c + 1 + 0 ≤ 600000 by omega) room_c, Nat.le_trans (show s + 6 + 0 ≤ 7200000 by omega) room_s⟩ dL_law_180 rfl rfl ?_
  refine v_istore (pc := 183) (loc' := [(6, .int bv), (5, .int k), (4, .int (nI i)), (3, .ref ao), (2, .ref (b 0)), (1, .ref (a 0)), (0, .ref sb)]) X.1 dL_law_183 (by decide) rfl ?_
  refine v_aload_n 4 (pc := 185) X.1 dL_law_185 rfl rfl ?_
  refine v_callM [] (pc := 186) (c1 := c + 1) (s1 := s + 6) (v := .int k) X.1 X.2.2.1 (mX9_thrown X.1.hT ht) kw_96 (gM_9 (rfl : kdM 0 = 9)) rfl rfl rfl (Nat.le_of_ble_eq_true rfl) ⟨(Nat.le_of_ble_eq_true rfl), (Nat.le_of_ble_eq_true rfl)⟩ ⟨Nat.le_trans (show c + 1 + 0 ≤ 600000 by omega) room_c, Nat.le_trans (show s + 6 + 0 ≤ 7200000 by omega) room_s⟩ dL_law_186 rfl rfl ?_
  refine v_iload 1 (pc := 189) X.1 dL_law_189 rfl ?_
  refine v_icmp_eq 196 (pc := 191) X.1 dL_law_191 (by decide) (fun _ => ?_) (fun q => absurd rfl q)
  refine v_iload 1 (pc := 196) X.1 dL_law_196 rfl ?_
  refine v_if_ne 213 (pc := 198) X.1 dL_law_198 (by decide) (fun _ => ?_) (fun hk0 => ?_)
  · refine z_sub [2, 3, 4, 5, 6] rfl ?_
    refine z_widen (c' := c + 8) (s' := s + 48) (by omega) (by omega) ?_
    exact v_goto 1822 (pc := 213) X.1 dL_law_213 (by decide) kk
  · refine v_aload_n 3 (pc := 201) X.1 dL_law_201 rfl rfl ?_
    refine v_iconst (pc := 202) (v := (0 : Int32)) X.1 dL_law_202 (by decide) ?_
    refine v_lald (pc := 203) X.1 vi_01 dL_law_203 ?_
    rw [hk hk0]
    refine v_iload 0 (pc := 204) X.1 dL_law_204 rfl ?_
    refine v_i2l (pc := 206) X.1 dL_law_206 ?_
    refine v_lcmp (pc := 207) X.1 dL_law_207 ?_
    rw [lcmp_self]
    refine v_if_eq 213 (pc := 208) X.1 dL_law_208 (by decide) (fun _ => ?_) (fun q => absurd rfl q)
    refine z_sub [2, 3, 4, 5, 6] rfl ?_
    refine z_widen (c' := c + 8) (s' := s + 48) (by omega) (by omega) ?_
    exact v_goto 1822 (pc := 213) X.1 dL_law_213 (by decide) kk
theorem kw_100 : CallVok RL 100 yX8_wipe cX8_wipe 2 (some .int) 0 := ⟨bw_8_0, bw_8_1, bw_8_2, bw_1_2, bw_8_3, ⟨by decide +kernel, by decide +kernel, by decide +kernel⟩⟩
theorem kw_103 : CallVok RL 103 yX9_wipe cX9_wipe 2 (some .int) 0 := ⟨bw_8_4, bw_8_5, bw_8_6, bw_1_5, bw_8_7, ⟨by decide +kernel, by decide +kernel, by decide +kernel⟩⟩
theorem law_c1 {E : ET} {a b : Nat → Nat} {ao sb L : Nat} {xs : Nat → Int32} (X : LX E a ao b sb L xs) {i : Nat} {S M S' M' : St} {f : Nat → Int64} {v : Int32} {c s : Nat} (hc : c + 8 ≤ 600000) (hs : s + 48 ≤ 7200000) (hF : fX8_wipe S = some (v, S')) (hM : fX9_wipe M = some (v, M'))
    (kk : Zz E (LW E a ao b S' f M') (c + 8) (s + 48) 1822 [(4, .int (nI i)), (3, .ref ao), (2, .ref (b 0)), (1, .ref (a 0)), (0, .ref sb)] []) : Zz E (LW E a ao b S f M) c s 216 [(4, .int (nI i)), (3, .ref ao), (2, .ref (b 0)), (1, .ref (a 0)), (0, .ref sb)] [] := by
  refine v_aload_n 3 (pc := 216) X.1 dL_law_216 rfl rfl ?_
  refine v_callX [] (pc := 217) (c1 := c) (s1 := s) (v := .int v) X.1 X.2.2.1 (mX8_wipe X.1.hT hF) kw_100 (gX_8 (rfl : kdX 0 = 8)) rfl rfl rfl (Nat.le_of_ble_eq_true rfl) ⟨(Nat.le_of_ble_eq_true rfl), (Nat.le_of_ble_eq_true rfl)⟩ ⟨Nat.le_trans (show c + 0 ≤ 600000 by omega) room_c, Nat.le_trans (show s + 0 ≤ 7200000 by omega) room_s⟩ dL_law_217 rfl rfl ?_
  refine v_aload_n 2 (pc := 220) X.1 dL_law_220 rfl rfl ?_
  refine v_callM [] (pc := 221) (c1 := c) (s1 := s) (v := .int v) X.1 X.2.2.1 (mX9_wipe X.1.hT hM) kw_103 (gM_9 (rfl : kdM 0 = 9)) rfl rfl rfl (Nat.le_of_ble_eq_true rfl) ⟨(Nat.le_of_ble_eq_true rfl), (Nat.le_of_ble_eq_true rfl)⟩ ⟨Nat.le_trans (show c + 0 ≤ 600000 by omega) room_c, Nat.le_trans (show s + 0 ≤ 7200000 by omega) room_s⟩ dL_law_221 rfl rfl ?_
  refine v_icmp_eq 1822 (pc := 224) X.1 dL_law_224 (by decide) (fun _ => ?_) (fun q => absurd rfl q)
  exact z_widen (c' := c + 8) (s' := s + 48) (by omega) (by omega) kk
theorem kw_106 : CallVok RL 106 yX9_part cX9_part 4 (some .int) 2 := ⟨bw_9_11, bw_9_12, bw_9_13, bw_1_5, bw_9_14, ⟨by decide +kernel, by decide +kernel, by decide +kernel⟩⟩
set_option maxHeartbeats 1000000 in
theorem law_c2 {E : ET} {a b : Nat → Nat} {ao sb L : Nat} {xs : Nat → Int32} (X : LX E a ao b sb L xs) {i : Nat} (hi : i + 7 ≤ L) {S M S' M' : St} {f f' : Nat → Int64} {k : Int32} {bv : Int32} {c s : Nat} (hc : c + 8 ≤ 600000) (hs : s + 48 ≤ 7200000) (hO : MO (e_l E) (e_D E) (e_k E) a ao yL_part cL_part 5 [(0, 10, 13, 13), (0, 10, 17, 15)] rmL_part [.ref (a 0), .int (xs (i + 1)), .int (xs (i + 2)), .ref ao] S f k S' f') (hM : fX9_part M (xs (i + 1)) (xs (i + 2)) = some (bv, M')) (ht : fX9_thrown M' = some k) (hk : k = 0 → f' (0 : Int32).toNatClampNeg = bv.toInt64)
    (kk : Zz E (LW E a ao b S' f' M') (c + 8) (s + 48) 1822 [(4, .int (nI i)), (3, .ref ao), (2, .ref (b 0)), (1, .ref (a 0)), (0, .ref sb)] []) : Zz E (LW E a ao b S f M) c s 229 [(4, .int (nI i)), (3, .ref ao), (2, .ref (b 0)), (1, .ref (a 0)), (0, .ref sb)] [] := by
  refine v_aload_n 3 (pc := 229) X.1 dL_law_229 rfl rfl ?_
  refine v_aload_n 4 (pc := 230) X.1 dL_law_230 rfl rfl ?_
  refine v_iload 0 (pc := 231) X.1 dL_law_231 rfl ?_
  refine v_iconst (pc := 233) (v := (1 : Int32)) X.1 dL_law_233 (by decide) ?_
  refine v_iadd (pc := 234) X.1 dL_law_234 ?_
  refine v_sld (pc := 235) (n := i + 1) X.1 X.2.2.2 (by omega) (nI_add i 1) dL_law_235 ?_
  refine v_aload_n 4 (pc := 236) X.1 dL_law_236 rfl rfl ?_
  refine v_iload 0 (pc := 237) X.1 dL_law_237 rfl ?_
  refine v_iconst (pc := 239) (v := (2 : Int32)) X.1 dL_law_239 (by decide) ?_
  refine v_iadd (pc := 240) X.1 dL_law_240 ?_
  refine v_sld (pc := 241) (n := i + 2) X.1 X.2.2.2 (by omega) (nI_add i 2) dL_law_241 ?_
  refine v_aload_n 1 (pc := 242) X.1 dL_law_242 rfl rfl ?_
  refine v_callW [.ref (a 0), .int (xs (i + 1)), .int (xs (i + 2)), .ref ao] (pc := 243) (nargs := 4) (c1 := c + 3) (s1 := s + 18) X.1 X.2.1 X.2.2.1 hO ⟨bw_8_8, bw_8_9, bw_6_13, bw_8_10, ⟨by decide +kernel, by decide +kernel, by decide +kernel⟩⟩ rfl rfl (Nat.le_of_ble_eq_true rfl) ⟨(Nat.le_of_ble_eq_true rfl), (Nat.le_of_ble_eq_true rfl)⟩ ⟨Nat.le_trans (show c + 3 ≤ 600000 by omega) room_c, Nat.le_trans (show s + 18 ≤ 7200000 by omega) room_s⟩ dL_law_243 rfl rfl ?_
  refine v_istore (pc := 246) (loc' := [(5, .int k), (4, .int (nI i)), (3, .ref ao), (2, .ref (b 0)), (1, .ref (a 0)), (0, .ref sb)]) X.1 dL_law_246 (by decide) rfl ?_
  refine v_aload_n 3 (pc := 248) X.1 dL_law_248 rfl rfl ?_
  refine v_aload_n 5 (pc := 249) X.1 dL_law_249 rfl rfl ?_
  refine v_iload 1 (pc := 250) X.1 dL_law_250 rfl ?_
  refine v_iconst (pc := 252) (v := (1 : Int32)) X.1 dL_law_252 (by decide) ?_
  refine v_iadd (pc := 253) X.1 dL_law_253 ?_
  refine v_sld (pc := 254) (n := i + 1) X.1 X.2.2.2 (by omega) (nI_add i 1) dL_law_254 ?_
  refine v_aload_n 5 (pc := 255) X.1 dL_law_255 rfl rfl ?_
  refine v_iload 1 (pc := 256) X.1 dL_law_256 rfl ?_
  refine v_iconst (pc := 258) (v := (2 : Int32)) X.1 dL_law_258 (by decide) ?_
  refine v_iadd (pc := 259) X.1 dL_law_259 ?_
  refine v_sld (pc := 260) (n := i + 2) X.1 X.2.2.2 (by omega) (nI_add i 2) dL_law_260 ?_
  refine v_callM [.int (xs (i + 1)), .int (xs (i + 2))] (pc := 261) (c1 := c + 3) (s1 := s + 18) (v := .int bv) X.1 X.2.2.1 (mX9_part X.1.hT hM) kw_106 (gM_9 (rfl : kdM 0 = 9)) rfl rfl rfl (Nat.le_of_ble_eq_true rfl) ⟨(Nat.le_of_ble_eq_true rfl), (Nat.le_of_ble_eq_true rfl)⟩ ⟨Nat.le_trans (show c + 3 + 0 ≤ 600000 by omega) room_c, Nat.le_trans (show s + 18 + 0 ≤ 7200000 by omega) room_s⟩ dL_law_261 rfl rfl ?_
  refine v_istore (pc := 264) (loc' := [(6, .int bv), (5, .int k), (4, .int (nI i)), (3, .ref ao), (2, .ref (b 0)), (1, .ref (a 0)), (0, .ref sb)]) X.1 dL_law_264 (by decide) rfl ?_
  refine v_aload_n 4 (pc := 266) X.1 dL_law_266 rfl rfl ?_
  refine v_callM [] (pc := 267) (c1 := c + 3) (s1 := s + 18) (v := .int k) X.1 X.2.2.1 (mX9_thrown X.1.hT ht) kw_96 (gM_9 (rfl : kdM 0 = 9)) rfl rfl rfl (Nat.le_of_ble_eq_true rfl) ⟨(Nat.le_of_ble_eq_true rfl), (Nat.le_of_ble_eq_true rfl)⟩ ⟨Nat.le_trans (show c + 3 + 0 ≤ 600000 by omega) room_c, Nat.le_trans (show s + 18 + 0 ≤ 7200000 by omega) room_s⟩ dL_law_267 rfl rfl ?_
  refine v_iload 1 (pc := 270) X.1 dL_law_270 rfl ?_
  refine v_icmp_eq 277 (pc := 272) X.1 dL_law_272 (by decide) (fun _ => ?_) (fun q => absurd rfl q)
  refine v_iload 1 (pc := 277) X.1 dL_law_277 rfl ?_
  refine v_if_ne 294 (pc := 279) X.1 dL_law_279 (by decide) (fun _ => ?_) (fun hk0 => ?_)
  · refine z_sub [2, 3, 4, 5, 6] rfl ?_
    refine z_widen (c' := c + 8) (s' := s + 48) (by omega) (by omega) ?_
    exact v_goto 1822 (pc := 294) X.1 dL_law_294 (by decide) kk
  · refine v_aload_n 3 (pc := 282) X.1 dL_law_282 rfl rfl ?_
    refine v_iconst (pc := 283) (v := (0 : Int32)) X.1 dL_law_283 (by decide) ?_
    refine v_lald (pc := 284) X.1 vi_01 dL_law_284 ?_
    rw [hk hk0]
    refine v_iload 0 (pc := 285) X.1 dL_law_285 rfl ?_
    refine v_i2l (pc := 287) X.1 dL_law_287 ?_
    refine v_lcmp (pc := 288) X.1 dL_law_288 ?_
    rw [lcmp_self]
    refine v_if_eq 294 (pc := 289) X.1 dL_law_289 (by decide) (fun _ => ?_) (fun q => absurd rfl q)
    refine z_sub [2, 3, 4, 5, 6] rfl ?_
    refine z_widen (c' := c + 8) (s' := s + 48) (by omega) (by omega) ?_
    exact v_goto 1822 (pc := 294) X.1 dL_law_294 (by decide) kk
theorem kw_110 : CallVok RL 110 yX9_redraw cX9_redraw 10 (some .int) 3 := ⟨bw_11_22, bw_11_23, bw_12_0, bw_1_5, bw_12_1, ⟨by decide +kernel, by decide +kernel, by decide +kernel⟩⟩
set_option maxHeartbeats 1000000 in
theorem law_c3 {E : ET} {a b : Nat → Nat} {ao sb L : Nat} {xs : Nat → Int32} (X : LX E a ao b sb L xs) {i : Nat} (hi : i + 7 ≤ L) {S M S' M' : St} {f f' : Nat → Int64} {k : Int32} {bv : Int32} {c s : Nat} (hc : c + 8 ≤ 600000) (hs : s + 48 ≤ 7200000) (hO : MO (e_l E) (e_D E) (e_k E) a ao yL_redraw cL_redraw 6 [(0, 12, 15, 24), (0, 12, 19, 13), (0, 12, 23, 15)] rmL_redraw [.ref (a 0), .int (xs (i + 1)), .int (xs (i + 2)), .int (xs (i + 3)), .ref ao] S f k S' f') (hM : fX9_redraw M (xs (i + 1)) (xs (i + 2)) (xs (i + 3)) = some (bv, M')) (ht : fX9_thrown M' = some k) (hk : k = 0 → f' (0 : Int32).toNatClampNeg = bv.toInt64)
    (kk : Zz E (LW E a ao b S' f' M') (c + 8) (s + 48) 1822 [(4, .int (nI i)), (3, .ref ao), (2, .ref (b 0)), (1, .ref (a 0)), (0, .ref sb)] []) : Zz E (LW E a ao b S f M) c s 297 [(4, .int (nI i)), (3, .ref ao), (2, .ref (b 0)), (1, .ref (a 0)), (0, .ref sb)] [] := by
  refine v_aload_n 3 (pc := 297) X.1 dL_law_297 rfl rfl ?_
  refine v_aload_n 4 (pc := 298) X.1 dL_law_298 rfl rfl ?_
  refine v_iload 0 (pc := 299) X.1 dL_law_299 rfl ?_
  refine v_iconst (pc := 301) (v := (1 : Int32)) X.1 dL_law_301 (by decide) ?_
  refine v_iadd (pc := 302) X.1 dL_law_302 ?_
  refine v_sld (pc := 303) (n := i + 1) X.1 X.2.2.2 (by omega) (nI_add i 1) dL_law_303 ?_
  refine v_aload_n 4 (pc := 304) X.1 dL_law_304 rfl rfl ?_
  refine v_iload 0 (pc := 305) X.1 dL_law_305 rfl ?_
  refine v_iconst (pc := 307) (v := (2 : Int32)) X.1 dL_law_307 (by decide) ?_
  refine v_iadd (pc := 308) X.1 dL_law_308 ?_
  refine v_sld (pc := 309) (n := i + 2) X.1 X.2.2.2 (by omega) (nI_add i 2) dL_law_309 ?_
  refine v_aload_n 4 (pc := 310) X.1 dL_law_310 rfl rfl ?_
  refine v_iload 0 (pc := 311) X.1 dL_law_311 rfl ?_
  refine v_iconst (pc := 313) (v := (3 : Int32)) X.1 dL_law_313 (by decide) ?_
  refine v_iadd (pc := 314) X.1 dL_law_314 ?_
  refine v_sld (pc := 315) (n := i + 3) X.1 X.2.2.2 (by omega) (nI_add i 3) dL_law_315 ?_
  refine v_aload_n 1 (pc := 316) X.1 dL_law_316 rfl rfl ?_
  refine v_callW [.ref (a 0), .int (xs (i + 1)), .int (xs (i + 2)), .int (xs (i + 3)), .ref ao] (pc := 317) (nargs := 5) (c1 := c + 3) (s1 := s + 18) X.1 X.2.1 X.2.2.1 hO ⟨bw_9_23, bw_10_0, bw_6_13, bw_10_1, ⟨by decide +kernel, by decide +kernel, by decide +kernel⟩⟩ rfl rfl (Nat.le_of_ble_eq_true rfl) ⟨(Nat.le_of_ble_eq_true rfl), (Nat.le_of_ble_eq_true rfl)⟩ ⟨Nat.le_trans (show c + 3 ≤ 600000 by omega) room_c, Nat.le_trans (show s + 18 ≤ 7200000 by omega) room_s⟩ dL_law_317 rfl rfl ?_
  refine v_istore (pc := 320) (loc' := [(5, .int k), (4, .int (nI i)), (3, .ref ao), (2, .ref (b 0)), (1, .ref (a 0)), (0, .ref sb)]) X.1 dL_law_320 (by decide) rfl ?_
  refine v_aload_n 3 (pc := 322) X.1 dL_law_322 rfl rfl ?_
  refine v_aload_n 5 (pc := 323) X.1 dL_law_323 rfl rfl ?_
  refine v_iload 1 (pc := 324) X.1 dL_law_324 rfl ?_
  refine v_iconst (pc := 326) (v := (1 : Int32)) X.1 dL_law_326 (by decide) ?_
  refine v_iadd (pc := 327) X.1 dL_law_327 ?_
  refine v_sld (pc := 328) (n := i + 1) X.1 X.2.2.2 (by omega) (nI_add i 1) dL_law_328 ?_
  refine v_aload_n 5 (pc := 329) X.1 dL_law_329 rfl rfl ?_
  refine v_iload 1 (pc := 330) X.1 dL_law_330 rfl ?_
  refine v_iconst (pc := 332) (v := (2 : Int32)) X.1 dL_law_332 (by decide) ?_
  refine v_iadd (pc := 333) X.1 dL_law_333 ?_
  refine v_sld (pc := 334) (n := i + 2) X.1 X.2.2.2 (by omega) (nI_add i 2) dL_law_334 ?_
  refine v_aload_n 5 (pc := 335) X.1 dL_law_335 rfl rfl ?_
  refine v_iload 1 (pc := 336) X.1 dL_law_336 rfl ?_
  refine v_iconst (pc := 338) (v := (3 : Int32)) X.1 dL_law_338 (by decide) ?_
  refine v_iadd (pc := 339) X.1 dL_law_339 ?_
  refine v_sld (pc := 340) (n := i + 3) X.1 X.2.2.2 (by omega) (nI_add i 3) dL_law_340 ?_
  refine v_callM [.int (xs (i + 1)), .int (xs (i + 2)), .int (xs (i + 3))] (pc := 341) (c1 := c + 3) (s1 := s + 18) (v := .int bv) X.1 X.2.2.1 (mX9_redraw X.1.hT hM) kw_110 (gM_9 (rfl : kdM 0 = 9)) rfl rfl rfl (Nat.le_of_ble_eq_true rfl) ⟨(Nat.le_of_ble_eq_true rfl), (Nat.le_of_ble_eq_true rfl)⟩ ⟨Nat.le_trans (show c + 3 + 0 ≤ 600000 by omega) room_c, Nat.le_trans (show s + 18 + 0 ≤ 7200000 by omega) room_s⟩ dL_law_341 rfl rfl ?_
  refine v_istore (pc := 344) (loc' := [(6, .int bv), (5, .int k), (4, .int (nI i)), (3, .ref ao), (2, .ref (b 0)), (1, .ref (a 0)), (0, .ref sb)]) X.1 dL_law_344 (by decide) rfl ?_
  refine v_aload_n 4 (pc := 346) X.1 dL_law_346 rfl rfl ?_
  refine v_callM [] (pc := 347) (c1 := c + 3) (s1 := s + 18) (v := .int k) X.1 X.2.2.1 (mX9_thrown X.1.hT ht) kw_96 (gM_9 (rfl : kdM 0 = 9)) rfl rfl rfl (Nat.le_of_ble_eq_true rfl) ⟨(Nat.le_of_ble_eq_true rfl), (Nat.le_of_ble_eq_true rfl)⟩ ⟨Nat.le_trans (show c + 3 + 0 ≤ 600000 by omega) room_c, Nat.le_trans (show s + 18 + 0 ≤ 7200000 by omega) room_s⟩ dL_law_347 rfl rfl ?_
  refine v_iload 1 (pc := 350) X.1 dL_law_350 rfl ?_
  refine v_icmp_eq 357 (pc := 352) X.1 dL_law_352 (by decide) (fun _ => ?_) (fun q => absurd rfl q)
  refine v_iload 1 (pc := 357) X.1 dL_law_357 rfl ?_
  refine v_if_ne 374 (pc := 359) X.1 dL_law_359 (by decide) (fun _ => ?_) (fun hk0 => ?_)
  · refine z_sub [2, 3, 4, 5, 6] rfl ?_
    refine z_widen (c' := c + 8) (s' := s + 48) (by omega) (by omega) ?_
    exact v_goto 1822 (pc := 374) X.1 dL_law_374 (by decide) kk
  · refine v_aload_n 3 (pc := 362) X.1 dL_law_362 rfl rfl ?_
    refine v_iconst (pc := 363) (v := (0 : Int32)) X.1 dL_law_363 (by decide) ?_
    refine v_lald (pc := 364) X.1 vi_01 dL_law_364 ?_
    rw [hk hk0]
    refine v_iload 0 (pc := 365) X.1 dL_law_365 rfl ?_
    refine v_i2l (pc := 367) X.1 dL_law_367 ?_
    refine v_lcmp (pc := 368) X.1 dL_law_368 ?_
    rw [lcmp_self]
    refine v_if_eq 374 (pc := 369) X.1 dL_law_369 (by decide) (fun _ => ?_) (fun q => absurd rfl q)
    refine z_sub [2, 3, 4, 5, 6] rfl ?_
    refine z_widen (c' := c + 8) (s' := s + 48) (by omega) (by omega) ?_
    exact v_goto 1822 (pc := 374) X.1 dL_law_374 (by decide) kk
theorem kw_114 : CallVok RL 114 yX9_hole cX9_hole 9 (some .int) 4 := ⟨bw_13_5, bw_13_6, bw_13_7, bw_1_5, bw_13_8, ⟨by decide +kernel, by decide +kernel, by decide +kernel⟩⟩
set_option maxHeartbeats 1000000 in
theorem law_c4 {E : ET} {a b : Nat → Nat} {ao sb L : Nat} {xs : Nat → Int32} (X : LX E a ao b sb L xs) {i : Nat} (hi : i + 7 ≤ L) {S M S' M' : St} {f f' : Nat → Int64} {k : Int32} {bv : Int32} {c s : Nat} (hc : c + 8 ≤ 600000) (hs : s + 48 ≤ 7200000) (hO : MO (e_l E) (e_D E) (e_k E) a ao yL_hole cL_hole 7 [(0, 14, 17, 24), (0, 14, 21, 13), (0, 14, 25, 15)] rmL_hole [.ref (a 0), .int (xs (i + 1)), .int (xs (i + 2)), .int (xs (i + 3)), .int (xs (i + 4)), .ref ao] S f k S' f') (hM : fX9_hole M (xs (i + 1)) (xs (i + 2)) (xs (i + 3)) (xs (i + 4)) = some (bv, M')) (ht : fX9_thrown M' = some k) (hk : k = 0 → f' (0 : Int32).toNatClampNeg = bv.toInt64)
    (kk : Zz E (LW E a ao b S' f' M') (c + 8) (s + 48) 1822 [(4, .int (nI i)), (3, .ref ao), (2, .ref (b 0)), (1, .ref (a 0)), (0, .ref sb)] []) : Zz E (LW E a ao b S f M) c s 377 [(4, .int (nI i)), (3, .ref ao), (2, .ref (b 0)), (1, .ref (a 0)), (0, .ref sb)] [] := by
  refine v_aload_n 3 (pc := 377) X.1 dL_law_377 rfl rfl ?_
  refine v_aload_n 4 (pc := 378) X.1 dL_law_378 rfl rfl ?_
  refine v_iload 0 (pc := 379) X.1 dL_law_379 rfl ?_
  refine v_iconst (pc := 381) (v := (1 : Int32)) X.1 dL_law_381 (by decide) ?_
  refine v_iadd (pc := 382) X.1 dL_law_382 ?_
  refine v_sld (pc := 383) (n := i + 1) X.1 X.2.2.2 (by omega) (nI_add i 1) dL_law_383 ?_
  refine v_aload_n 4 (pc := 384) X.1 dL_law_384 rfl rfl ?_
  refine v_iload 0 (pc := 385) X.1 dL_law_385 rfl ?_
  refine v_iconst (pc := 387) (v := (2 : Int32)) X.1 dL_law_387 (by decide) ?_
  refine v_iadd (pc := 388) X.1 dL_law_388 ?_
  refine v_sld (pc := 389) (n := i + 2) X.1 X.2.2.2 (by omega) (nI_add i 2) dL_law_389 ?_
  refine v_aload_n 4 (pc := 390) X.1 dL_law_390 rfl rfl ?_
  refine v_iload 0 (pc := 391) X.1 dL_law_391 rfl ?_
  refine v_iconst (pc := 393) (v := (3 : Int32)) X.1 dL_law_393 (by decide) ?_
  refine v_iadd (pc := 394) X.1 dL_law_394 ?_
  refine v_sld (pc := 395) (n := i + 3) X.1 X.2.2.2 (by omega) (nI_add i 3) dL_law_395 ?_
  refine v_aload_n 4 (pc := 396) X.1 dL_law_396 rfl rfl ?_
  refine v_iload 0 (pc := 397) X.1 dL_law_397 rfl ?_
  refine v_iconst (pc := 399) (v := (4 : Int32)) X.1 dL_law_399 (by decide) ?_
  refine v_iadd (pc := 400) X.1 dL_law_400 ?_
  refine v_sld (pc := 401) (n := i + 4) X.1 X.2.2.2 (by omega) (nI_add i 4) dL_law_401 ?_
  refine v_aload_n 1 (pc := 402) X.1 dL_law_402 rfl rfl ?_
  refine v_callW [.ref (a 0), .int (xs (i + 1)), .int (xs (i + 2)), .int (xs (i + 3)), .int (xs (i + 4)), .ref ao] (pc := 403) (nargs := 6) (c1 := c + 2) (s1 := s + 12) X.1 X.2.1 X.2.2.1 hO ⟨bw_12_15, bw_12_16, bw_6_13, bw_12_17, ⟨by decide +kernel, by decide +kernel, by decide +kernel⟩⟩ rfl rfl (Nat.le_of_ble_eq_true rfl) ⟨(Nat.le_of_ble_eq_true rfl), (Nat.le_of_ble_eq_true rfl)⟩ ⟨Nat.le_trans (show c + 2 ≤ 600000 by omega) room_c, Nat.le_trans (show s + 12 ≤ 7200000 by omega) room_s⟩ dL_law_403 rfl rfl ?_
  refine v_istore (pc := 406) (loc' := [(5, .int k), (4, .int (nI i)), (3, .ref ao), (2, .ref (b 0)), (1, .ref (a 0)), (0, .ref sb)]) X.1 dL_law_406 (by decide) rfl ?_
  refine v_aload_n 3 (pc := 408) X.1 dL_law_408 rfl rfl ?_
  refine v_aload_n 5 (pc := 409) X.1 dL_law_409 rfl rfl ?_
  refine v_iload 1 (pc := 410) X.1 dL_law_410 rfl ?_
  refine v_iconst (pc := 412) (v := (1 : Int32)) X.1 dL_law_412 (by decide) ?_
  refine v_iadd (pc := 413) X.1 dL_law_413 ?_
  refine v_sld (pc := 414) (n := i + 1) X.1 X.2.2.2 (by omega) (nI_add i 1) dL_law_414 ?_
  refine v_aload_n 5 (pc := 415) X.1 dL_law_415 rfl rfl ?_
  refine v_iload 1 (pc := 416) X.1 dL_law_416 rfl ?_
  refine v_iconst (pc := 418) (v := (2 : Int32)) X.1 dL_law_418 (by decide) ?_
  refine v_iadd (pc := 419) X.1 dL_law_419 ?_
  refine v_sld (pc := 420) (n := i + 2) X.1 X.2.2.2 (by omega) (nI_add i 2) dL_law_420 ?_
  refine v_aload_n 5 (pc := 421) X.1 dL_law_421 rfl rfl ?_
  refine v_iload 1 (pc := 422) X.1 dL_law_422 rfl ?_
  refine v_iconst (pc := 424) (v := (3 : Int32)) X.1 dL_law_424 (by decide) ?_
  refine v_iadd (pc := 425) X.1 dL_law_425 ?_
  refine v_sld (pc := 426) (n := i + 3) X.1 X.2.2.2 (by omega) (nI_add i 3) dL_law_426 ?_
  refine v_aload_n 5 (pc := 427) X.1 dL_law_427 rfl rfl ?_
  refine v_iload 1 (pc := 428) X.1 dL_law_428 rfl ?_
  refine v_iconst (pc := 430) (v := (4 : Int32)) X.1 dL_law_430 (by decide) ?_
  refine v_iadd (pc := 431) X.1 dL_law_431 ?_
  refine v_sld (pc := 432) (n := i + 4) X.1 X.2.2.2 (by omega) (nI_add i 4) dL_law_432 ?_
  refine v_callM [.int (xs (i + 1)), .int (xs (i + 2)), .int (xs (i + 3)), .int (xs (i + 4))] (pc := 433) (c1 := c + 2) (s1 := s + 12) (v := .int bv) X.1 X.2.2.1 (mX9_hole X.1.hT hM) kw_114 (gM_9 (rfl : kdM 0 = 9)) rfl rfl rfl (Nat.le_of_ble_eq_true rfl) ⟨(Nat.le_of_ble_eq_true rfl), (Nat.le_of_ble_eq_true rfl)⟩ ⟨Nat.le_trans (show c + 2 + 0 ≤ 600000 by omega) room_c, Nat.le_trans (show s + 12 + 0 ≤ 7200000 by omega) room_s⟩ dL_law_433 rfl rfl ?_
  refine v_istore (pc := 436) (loc' := [(6, .int bv), (5, .int k), (4, .int (nI i)), (3, .ref ao), (2, .ref (b 0)), (1, .ref (a 0)), (0, .ref sb)]) X.1 dL_law_436 (by decide) rfl ?_
  refine v_aload_n 4 (pc := 438) X.1 dL_law_438 rfl rfl ?_
  refine v_callM [] (pc := 439) (c1 := c + 2) (s1 := s + 12) (v := .int k) X.1 X.2.2.1 (mX9_thrown X.1.hT ht) kw_96 (gM_9 (rfl : kdM 0 = 9)) rfl rfl rfl (Nat.le_of_ble_eq_true rfl) ⟨(Nat.le_of_ble_eq_true rfl), (Nat.le_of_ble_eq_true rfl)⟩ ⟨Nat.le_trans (show c + 2 + 0 ≤ 600000 by omega) room_c, Nat.le_trans (show s + 12 + 0 ≤ 7200000 by omega) room_s⟩ dL_law_439 rfl rfl ?_
  refine v_iload 1 (pc := 442) X.1 dL_law_442 rfl ?_
  refine v_icmp_eq 449 (pc := 444) X.1 dL_law_444 (by decide) (fun _ => ?_) (fun q => absurd rfl q)
  refine v_iload 1 (pc := 449) X.1 dL_law_449 rfl ?_
  refine v_if_ne 466 (pc := 451) X.1 dL_law_451 (by decide) (fun _ => ?_) (fun hk0 => ?_)
  · refine z_sub [2, 3, 4, 5, 6] rfl ?_
    refine z_widen (c' := c + 8) (s' := s + 48) (by omega) (by omega) ?_
    exact v_goto 1822 (pc := 466) X.1 dL_law_466 (by decide) kk
  · refine v_aload_n 3 (pc := 454) X.1 dL_law_454 rfl rfl ?_
    refine v_iconst (pc := 455) (v := (0 : Int32)) X.1 dL_law_455 (by decide) ?_
    refine v_lald (pc := 456) X.1 vi_01 dL_law_456 ?_
    rw [hk hk0]
    refine v_iload 0 (pc := 457) X.1 dL_law_457 rfl ?_
    refine v_i2l (pc := 459) X.1 dL_law_459 ?_
    refine v_lcmp (pc := 460) X.1 dL_law_460 ?_
    rw [lcmp_self]
    refine v_if_eq 466 (pc := 461) X.1 dL_law_461 (by decide) (fun _ => ?_) (fun q => absurd rfl q)
    refine z_sub [2, 3, 4, 5, 6] rfl ?_
    refine z_widen (c' := c + 8) (s' := s + 48) (by omega) (by omega) ?_
    exact v_goto 1822 (pc := 466) X.1 dL_law_466 (by decide) kk
theorem kw_117 : CallVok RL 117 yX9_isNear cX9_isNear 3 (some .boolean) 2 := ⟨bw_13_22, bw_13_23, bw_14_0, bw_1_5, bw_14_1, ⟨by decide +kernel, by decide +kernel, by decide +kernel⟩⟩
set_option maxHeartbeats 1000000 in
theorem law_c5 {E : ET} {a b : Nat → Nat} {ao sb L : Nat} {xs : Nat → Int32} (X : LX E a ao b sb L xs) {i : Nat} (hi : i + 7 ≤ L) {S M S' M' : St} {f f' : Nat → Int64} {k : Int32} {bv : Int32} {c s : Nat} (hc : c + 8 ≤ 600000) (hs : s + 48 ≤ 7200000) (hO : MO (e_l E) (e_D E) (e_k E) a ao yL_isNear cL_isNear 5 [(0, 17, 20, 24)] rmL_isNear [.ref (a 0), .int (xs (i + 1)), .int (xs (i + 2)), .ref ao] S f k S' f') (hM : fX9_isNear M (xs (i + 1)) (xs (i + 2)) = some (bv, M')) (ht : fX9_thrown M' = some k) (hk : k = 0 → f' (0 : Int32).toNatClampNeg = (if bv = 0 then 0 else 1))
    (kk : Zz E (LW E a ao b S' f' M') (c + 8) (s + 48) 1822 [(4, .int (nI i)), (3, .ref ao), (2, .ref (b 0)), (1, .ref (a 0)), (0, .ref sb)] []) : Zz E (LW E a ao b S f M) c s 469 [(4, .int (nI i)), (3, .ref ao), (2, .ref (b 0)), (1, .ref (a 0)), (0, .ref sb)] [] := by
  refine v_aload_n 3 (pc := 469) X.1 dL_law_469 rfl rfl ?_
  refine v_aload_n 4 (pc := 470) X.1 dL_law_470 rfl rfl ?_
  refine v_iload 0 (pc := 471) X.1 dL_law_471 rfl ?_
  refine v_iconst (pc := 473) (v := (1 : Int32)) X.1 dL_law_473 (by decide) ?_
  refine v_iadd (pc := 474) X.1 dL_law_474 ?_
  refine v_sld (pc := 475) (n := i + 1) X.1 X.2.2.2 (by omega) (nI_add i 1) dL_law_475 ?_
  refine v_aload_n 4 (pc := 476) X.1 dL_law_476 rfl rfl ?_
  refine v_iload 0 (pc := 477) X.1 dL_law_477 rfl ?_
  refine v_iconst (pc := 479) (v := (2 : Int32)) X.1 dL_law_479 (by decide) ?_
  refine v_iadd (pc := 480) X.1 dL_law_480 ?_
  refine v_sld (pc := 481) (n := i + 2) X.1 X.2.2.2 (by omega) (nI_add i 2) dL_law_481 ?_
  refine v_aload_n 1 (pc := 482) X.1 dL_law_482 rfl rfl ?_
  refine v_callW [.ref (a 0), .int (xs (i + 1)), .int (xs (i + 2)), .ref ao] (pc := 483) (nargs := 4) (c1 := c + 2) (s1 := s + 12) X.1 X.2.1 X.2.2.1 hO ⟨bw_13_9, bw_13_10, bw_6_13, bw_13_11, ⟨by decide +kernel, by decide +kernel, by decide +kernel⟩⟩ rfl rfl (Nat.le_of_ble_eq_true rfl) ⟨(Nat.le_of_ble_eq_true rfl), (Nat.le_of_ble_eq_true rfl)⟩ ⟨Nat.le_trans (show c + 2 ≤ 600000 by omega) room_c, Nat.le_trans (show s + 12 ≤ 7200000 by omega) room_s⟩ dL_law_483 rfl rfl ?_
  refine v_istore (pc := 486) (loc' := [(5, .int k), (4, .int (nI i)), (3, .ref ao), (2, .ref (b 0)), (1, .ref (a 0)), (0, .ref sb)]) X.1 dL_law_486 (by decide) rfl ?_
  refine v_aload_n 3 (pc := 488) X.1 dL_law_488 rfl rfl ?_
  refine v_aload_n 5 (pc := 489) X.1 dL_law_489 rfl rfl ?_
  refine v_iload 1 (pc := 490) X.1 dL_law_490 rfl ?_
  refine v_iconst (pc := 492) (v := (1 : Int32)) X.1 dL_law_492 (by decide) ?_
  refine v_iadd (pc := 493) X.1 dL_law_493 ?_
  refine v_sld (pc := 494) (n := i + 1) X.1 X.2.2.2 (by omega) (nI_add i 1) dL_law_494 ?_
  refine v_aload_n 5 (pc := 495) X.1 dL_law_495 rfl rfl ?_
  refine v_iload 1 (pc := 496) X.1 dL_law_496 rfl ?_
  refine v_iconst (pc := 498) (v := (2 : Int32)) X.1 dL_law_498 (by decide) ?_
  refine v_iadd (pc := 499) X.1 dL_law_499 ?_
  refine v_sld (pc := 500) (n := i + 2) X.1 X.2.2.2 (by omega) (nI_add i 2) dL_law_500 ?_
  refine v_callM [.int (xs (i + 1)), .int (xs (i + 2))] (pc := 501) (c1 := c + 2) (s1 := s + 12) (v := .int bv) X.1 X.2.2.1 (mX9_isNear X.1.hT hM) kw_117 (gM_9 (rfl : kdM 0 = 9)) rfl rfl rfl (Nat.le_of_ble_eq_true rfl) ⟨(Nat.le_of_ble_eq_true rfl), (Nat.le_of_ble_eq_true rfl)⟩ ⟨Nat.le_trans (show c + 2 + 0 ≤ 600000 by omega) room_c, Nat.le_trans (show s + 12 + 0 ≤ 7200000 by omega) room_s⟩ dL_law_501 rfl rfl ?_
  refine v_istore (pc := 504) (loc' := [(6, .int bv), (5, .int k), (4, .int (nI i)), (3, .ref ao), (2, .ref (b 0)), (1, .ref (a 0)), (0, .ref sb)]) X.1 dL_law_504 (by decide) rfl ?_
  refine v_aload_n 4 (pc := 506) X.1 dL_law_506 rfl rfl ?_
  refine v_callM [] (pc := 507) (c1 := c + 2) (s1 := s + 12) (v := .int k) X.1 X.2.2.1 (mX9_thrown X.1.hT ht) kw_96 (gM_9 (rfl : kdM 0 = 9)) rfl rfl rfl (Nat.le_of_ble_eq_true rfl) ⟨(Nat.le_of_ble_eq_true rfl), (Nat.le_of_ble_eq_true rfl)⟩ ⟨Nat.le_trans (show c + 2 + 0 ≤ 600000 by omega) room_c, Nat.le_trans (show s + 12 + 0 ≤ 7200000 by omega) room_s⟩ dL_law_507 rfl rfl ?_
  refine v_iload 1 (pc := 510) X.1 dL_law_510 rfl ?_
  refine v_icmp_eq 517 (pc := 512) X.1 dL_law_512 (by decide) (fun _ => ?_) (fun q => absurd rfl q)
  refine v_iload 1 (pc := 517) X.1 dL_law_517 rfl ?_
  refine v_if_ne 541 (pc := 519) X.1 dL_law_519 (by decide) (fun _ => ?_) (fun hk0 => ?_)
  · refine z_sub [2, 3, 4, 5, 6] rfl ?_
    refine z_widen (c' := c + 8) (s' := s + 48) (by omega) (by omega) ?_
    exact v_goto 1822 (pc := 541) X.1 dL_law_541 (by decide) kk
  · refine v_aload_n 3 (pc := 522) X.1 dL_law_522 rfl rfl ?_
    refine v_iconst (pc := 523) (v := (0 : Int32)) X.1 dL_law_523 (by decide) ?_
    refine v_lald (pc := 524) X.1 vi_01 dL_law_524 ?_
    rw [hk hk0]
    refine v_iload 0 (pc := 525) X.1 dL_law_525 rfl ?_
    refine v_if_eq 534 (pc := 527) X.1 dL_law_527 (by decide) (fun c1 => ?_) (fun c1 => ?_)
    · rw [if_pos c1]
      refine v_lconst (pc := 534) (v := (0 : Int64)) X.1 dL_law_534 (by decide) ?_
      refine v_lcmp (pc := 535) X.1 dL_law_535 ?_
      rw [lcmp_self]
      refine v_if_eq 541 (pc := 536) X.1 dL_law_536 (by decide) (fun _ => ?_) (fun q => absurd rfl q)
      refine z_sub [2, 3, 4, 5, 6] rfl ?_
      refine z_widen (c' := c + 8) (s' := s + 48) (by omega) (by omega) ?_
      exact v_goto 1822 (pc := 541) X.1 dL_law_541 (by decide) kk
    · rw [if_neg c1]
      refine v_lconst (pc := 530) (v := (1 : Int64)) X.1 dL_law_530 (by decide) ?_
      refine v_goto 535 (pc := 531) X.1 dL_law_531 (by decide) ?_
      refine v_lcmp (pc := 535) X.1 dL_law_535 ?_
      rw [lcmp_self]
      refine v_if_eq 541 (pc := 536) X.1 dL_law_536 (by decide) (fun _ => ?_) (fun q => absurd rfl q)
      refine z_sub [2, 3, 4, 5, 6] rfl ?_
      refine z_widen (c' := c + 8) (s' := s + 48) (by omega) (by omega) ?_
      exact v_goto 1822 (pc := 541) X.1 dL_law_541 (by decide) kk
theorem kw_120 : CallVok RL 120 yX9_told cX9_told 6 (some .int) 2 := ⟨bw_14_18, bw_14_19, bw_14_20, bw_1_5, bw_14_21, ⟨by decide +kernel, by decide +kernel, by decide +kernel⟩⟩
set_option maxHeartbeats 1000000 in
theorem law_c6 {E : ET} {a b : Nat → Nat} {ao sb L : Nat} {xs : Nat → Int32} (X : LX E a ao b sb L xs) {i : Nat} (hi : i + 7 ≤ L) {S M S' M' : St} {f f' : Nat → Int64} {k : Int32} {bv : Int32} {c s : Nat} (hc : c + 8 ≤ 600000) (hs : s + 48 ≤ 7200000) (hO : MO (e_l E) (e_D E) (e_k E) a ao yL_told cL_told 5 [(0, 10, 13, 24), (0, 10, 17, 13)] rmL_told [.ref (a 0), .int (xs (i + 1)), .int (xs (i + 2)), .ref ao] S f k S' f') (hM : fX9_told M (xs (i + 1)) (xs (i + 2)) = some (bv, M')) (ht : fX9_thrown M' = some k) (hk : k = 0 → f' (0 : Int32).toNatClampNeg = bv.toInt64)
    (kk : Zz E (LW E a ao b S' f' M') (c + 8) (s + 48) 1822 [(4, .int (nI i)), (3, .ref ao), (2, .ref (b 0)), (1, .ref (a 0)), (0, .ref sb)] []) : Zz E (LW E a ao b S f M) c s 544 [(4, .int (nI i)), (3, .ref ao), (2, .ref (b 0)), (1, .ref (a 0)), (0, .ref sb)] [] := by
  refine v_aload_n 3 (pc := 544) X.1 dL_law_544 rfl rfl ?_
  refine v_aload_n 4 (pc := 545) X.1 dL_law_545 rfl rfl ?_
  refine v_iload 0 (pc := 546) X.1 dL_law_546 rfl ?_
  refine v_iconst (pc := 548) (v := (1 : Int32)) X.1 dL_law_548 (by decide) ?_
  refine v_iadd (pc := 549) X.1 dL_law_549 ?_
  refine v_sld (pc := 550) (n := i + 1) X.1 X.2.2.2 (by omega) (nI_add i 1) dL_law_550 ?_
  refine v_aload_n 4 (pc := 551) X.1 dL_law_551 rfl rfl ?_
  refine v_iload 0 (pc := 552) X.1 dL_law_552 rfl ?_
  refine v_iconst (pc := 554) (v := (2 : Int32)) X.1 dL_law_554 (by decide) ?_
  refine v_iadd (pc := 555) X.1 dL_law_555 ?_
  refine v_sld (pc := 556) (n := i + 2) X.1 X.2.2.2 (by omega) (nI_add i 2) dL_law_556 ?_
  refine v_aload_n 1 (pc := 557) X.1 dL_law_557 rfl rfl ?_
  refine v_callW [.ref (a 0), .int (xs (i + 1)), .int (xs (i + 2)), .ref ao] (pc := 558) (nargs := 4) (c1 := c + 2) (s1 := s + 12) X.1 X.2.1 X.2.2.1 hO ⟨bw_14_6, bw_14_7, bw_6_13, bw_14_8, ⟨by decide +kernel, by decide +kernel, by decide +kernel⟩⟩ rfl rfl (Nat.le_of_ble_eq_true rfl) ⟨(Nat.le_of_ble_eq_true rfl), (Nat.le_of_ble_eq_true rfl)⟩ ⟨Nat.le_trans (show c + 2 ≤ 600000 by omega) room_c, Nat.le_trans (show s + 12 ≤ 7200000 by omega) room_s⟩ dL_law_558 rfl rfl ?_
  refine v_istore (pc := 561) (loc' := [(5, .int k), (4, .int (nI i)), (3, .ref ao), (2, .ref (b 0)), (1, .ref (a 0)), (0, .ref sb)]) X.1 dL_law_561 (by decide) rfl ?_
  refine v_aload_n 3 (pc := 563) X.1 dL_law_563 rfl rfl ?_
  refine v_aload_n 5 (pc := 564) X.1 dL_law_564 rfl rfl ?_
  refine v_iload 1 (pc := 565) X.1 dL_law_565 rfl ?_
  refine v_iconst (pc := 567) (v := (1 : Int32)) X.1 dL_law_567 (by decide) ?_
  refine v_iadd (pc := 568) X.1 dL_law_568 ?_
  refine v_sld (pc := 569) (n := i + 1) X.1 X.2.2.2 (by omega) (nI_add i 1) dL_law_569 ?_
  refine v_aload_n 5 (pc := 570) X.1 dL_law_570 rfl rfl ?_
  refine v_iload 1 (pc := 571) X.1 dL_law_571 rfl ?_
  refine v_iconst (pc := 573) (v := (2 : Int32)) X.1 dL_law_573 (by decide) ?_
  refine v_iadd (pc := 574) X.1 dL_law_574 ?_
  refine v_sld (pc := 575) (n := i + 2) X.1 X.2.2.2 (by omega) (nI_add i 2) dL_law_575 ?_
  refine v_callM [.int (xs (i + 1)), .int (xs (i + 2))] (pc := 576) (c1 := c + 2) (s1 := s + 12) (v := .int bv) X.1 X.2.2.1 (mX9_told X.1.hT hM) kw_120 (gM_9 (rfl : kdM 0 = 9)) rfl rfl rfl (Nat.le_of_ble_eq_true rfl) ⟨(Nat.le_of_ble_eq_true rfl), (Nat.le_of_ble_eq_true rfl)⟩ ⟨Nat.le_trans (show c + 2 + 0 ≤ 600000 by omega) room_c, Nat.le_trans (show s + 12 + 0 ≤ 7200000 by omega) room_s⟩ dL_law_576 rfl rfl ?_
  refine v_istore (pc := 579) (loc' := [(6, .int bv), (5, .int k), (4, .int (nI i)), (3, .ref ao), (2, .ref (b 0)), (1, .ref (a 0)), (0, .ref sb)]) X.1 dL_law_579 (by decide) rfl ?_
  refine v_aload_n 4 (pc := 581) X.1 dL_law_581 rfl rfl ?_
  refine v_callM [] (pc := 582) (c1 := c + 2) (s1 := s + 12) (v := .int k) X.1 X.2.2.1 (mX9_thrown X.1.hT ht) kw_96 (gM_9 (rfl : kdM 0 = 9)) rfl rfl rfl (Nat.le_of_ble_eq_true rfl) ⟨(Nat.le_of_ble_eq_true rfl), (Nat.le_of_ble_eq_true rfl)⟩ ⟨Nat.le_trans (show c + 2 + 0 ≤ 600000 by omega) room_c, Nat.le_trans (show s + 12 + 0 ≤ 7200000 by omega) room_s⟩ dL_law_582 rfl rfl ?_
  refine v_iload 1 (pc := 585) X.1 dL_law_585 rfl ?_
  refine v_icmp_eq 592 (pc := 587) X.1 dL_law_587 (by decide) (fun _ => ?_) (fun q => absurd rfl q)
  refine v_iload 1 (pc := 592) X.1 dL_law_592 rfl ?_
  refine v_if_ne 609 (pc := 594) X.1 dL_law_594 (by decide) (fun _ => ?_) (fun hk0 => ?_)
  · refine z_sub [2, 3, 4, 5, 6] rfl ?_
    refine z_widen (c' := c + 8) (s' := s + 48) (by omega) (by omega) ?_
    exact v_goto 1822 (pc := 609) X.1 dL_law_609 (by decide) kk
  · refine v_aload_n 3 (pc := 597) X.1 dL_law_597 rfl rfl ?_
    refine v_iconst (pc := 598) (v := (0 : Int32)) X.1 dL_law_598 (by decide) ?_
    refine v_lald (pc := 599) X.1 vi_01 dL_law_599 ?_
    rw [hk hk0]
    refine v_iload 0 (pc := 600) X.1 dL_law_600 rfl ?_
    refine v_i2l (pc := 602) X.1 dL_law_602 ?_
    refine v_lcmp (pc := 603) X.1 dL_law_603 ?_
    rw [lcmp_self]
    refine v_if_eq 609 (pc := 604) X.1 dL_law_604 (by decide) (fun _ => ?_) (fun q => absurd rfl q)
    refine z_sub [2, 3, 4, 5, 6] rfl ?_
    refine z_widen (c' := c + 8) (s' := s + 48) (by omega) (by omega) ?_
    exact v_goto 1822 (pc := 609) X.1 dL_law_609 (by decide) kk
theorem kw_124 : CallVok RL 124 yX9_tool cX9_tool 8 (some .int) 5 := ⟨bw_15_11, bw_15_12, bw_15_13, bw_1_5, bw_15_14, ⟨by decide +kernel, by decide +kernel, by decide +kernel⟩⟩
set_option maxHeartbeats 1000000 in
theorem law_c7 {E : ET} {a b : Nat → Nat} {ao sb L : Nat} {xs : Nat → Int32} (X : LX E a ao b sb L xs) {i : Nat} (hi : i + 7 ≤ L) {S M S' M' : St} {f f' : Nat → Int64} {k : Int32} {bv : Int32} {c s : Nat} (hc : c + 8 ≤ 600000) (hs : s + 48 ≤ 7200000) (hO : MO (e_l E) (e_D E) (e_k E) a ao yL_tool cL_tool 8 [(0, 16, 19, 13), (0, 16, 23, 15)] rmL_tool [.ref (a 0), .int (xs (i + 1)), .int (xs (i + 2)), .int (xs (i + 3)), .int (xs (i + 4)), .int (xs (i + 5)), .ref ao] S f k S' f') (hM : fX9_tool M (xs (i + 1)) (xs (i + 2)) (xs (i + 3)) (xs (i + 4)) (xs (i + 5)) = some (bv, M')) (ht : fX9_thrown M' = some k) (hk : k = 0 → f' (0 : Int32).toNatClampNeg = bv.toInt64)
    (kk : Zz E (LW E a ao b S' f' M') (c + 8) (s + 48) 1822 [(4, .int (nI i)), (3, .ref ao), (2, .ref (b 0)), (1, .ref (a 0)), (0, .ref sb)] []) : Zz E (LW E a ao b S f M) c s 612 [(4, .int (nI i)), (3, .ref ao), (2, .ref (b 0)), (1, .ref (a 0)), (0, .ref sb)] [] := by
  refine v_aload_n 3 (pc := 612) X.1 dL_law_612 rfl rfl ?_
  refine v_aload_n 4 (pc := 613) X.1 dL_law_613 rfl rfl ?_
  refine v_iload 0 (pc := 614) X.1 dL_law_614 rfl ?_
  refine v_iconst (pc := 616) (v := (1 : Int32)) X.1 dL_law_616 (by decide) ?_
  refine v_iadd (pc := 617) X.1 dL_law_617 ?_
  refine v_sld (pc := 618) (n := i + 1) X.1 X.2.2.2 (by omega) (nI_add i 1) dL_law_618 ?_
  refine v_aload_n 4 (pc := 619) X.1 dL_law_619 rfl rfl ?_
  refine v_iload 0 (pc := 620) X.1 dL_law_620 rfl ?_
  refine v_iconst (pc := 622) (v := (2 : Int32)) X.1 dL_law_622 (by decide) ?_
  refine v_iadd (pc := 623) X.1 dL_law_623 ?_
  refine v_sld (pc := 624) (n := i + 2) X.1 X.2.2.2 (by omega) (nI_add i 2) dL_law_624 ?_
  refine v_aload_n 4 (pc := 625) X.1 dL_law_625 rfl rfl ?_
  refine v_iload 0 (pc := 626) X.1 dL_law_626 rfl ?_
  refine v_iconst (pc := 628) (v := (3 : Int32)) X.1 dL_law_628 (by decide) ?_
  refine v_iadd (pc := 629) X.1 dL_law_629 ?_
  refine v_sld (pc := 630) (n := i + 3) X.1 X.2.2.2 (by omega) (nI_add i 3) dL_law_630 ?_
  refine v_aload_n 4 (pc := 631) X.1 dL_law_631 rfl rfl ?_
  refine v_iload 0 (pc := 632) X.1 dL_law_632 rfl ?_
  refine v_iconst (pc := 634) (v := (4 : Int32)) X.1 dL_law_634 (by decide) ?_
  refine v_iadd (pc := 635) X.1 dL_law_635 ?_
  refine v_sld (pc := 636) (n := i + 4) X.1 X.2.2.2 (by omega) (nI_add i 4) dL_law_636 ?_
  refine v_aload_n 4 (pc := 637) X.1 dL_law_637 rfl rfl ?_
  refine v_iload 0 (pc := 638) X.1 dL_law_638 rfl ?_
  refine v_iconst (pc := 640) (v := (5 : Int32)) X.1 dL_law_640 (by decide) ?_
  refine v_iadd (pc := 641) X.1 dL_law_641 ?_
  refine v_sld (pc := 642) (n := i + 5) X.1 X.2.2.2 (by omega) (nI_add i 5) dL_law_642 ?_
  refine v_aload_n 1 (pc := 643) X.1 dL_law_643 rfl rfl ?_
  refine v_callW [.ref (a 0), .int (xs (i + 1)), .int (xs (i + 2)), .int (xs (i + 3)), .int (xs (i + 4)), .int (xs (i + 5)), .ref ao] (pc := 644) (nargs := 7) (c1 := c + 1) (s1 := s + 6) X.1 X.2.1 X.2.2.1 hO ⟨bw_14_22, bw_14_23, bw_6_13, bw_15_0, ⟨by decide +kernel, by decide +kernel, by decide +kernel⟩⟩ rfl rfl (Nat.le_of_ble_eq_true rfl) ⟨(Nat.le_of_ble_eq_true rfl), (Nat.le_of_ble_eq_true rfl)⟩ ⟨Nat.le_trans (show c + 1 ≤ 600000 by omega) room_c, Nat.le_trans (show s + 6 ≤ 7200000 by omega) room_s⟩ dL_law_644 rfl rfl ?_
  refine v_istore (pc := 647) (loc' := [(5, .int k), (4, .int (nI i)), (3, .ref ao), (2, .ref (b 0)), (1, .ref (a 0)), (0, .ref sb)]) X.1 dL_law_647 (by decide) rfl ?_
  refine v_aload_n 3 (pc := 649) X.1 dL_law_649 rfl rfl ?_
  refine v_aload_n 5 (pc := 650) X.1 dL_law_650 rfl rfl ?_
  refine v_iload 1 (pc := 651) X.1 dL_law_651 rfl ?_
  refine v_iconst (pc := 653) (v := (1 : Int32)) X.1 dL_law_653 (by decide) ?_
  refine v_iadd (pc := 654) X.1 dL_law_654 ?_
  refine v_sld (pc := 655) (n := i + 1) X.1 X.2.2.2 (by omega) (nI_add i 1) dL_law_655 ?_
  refine v_aload_n 5 (pc := 656) X.1 dL_law_656 rfl rfl ?_
  refine v_iload 1 (pc := 657) X.1 dL_law_657 rfl ?_
  refine v_iconst (pc := 659) (v := (2 : Int32)) X.1 dL_law_659 (by decide) ?_
  refine v_iadd (pc := 660) X.1 dL_law_660 ?_
  refine v_sld (pc := 661) (n := i + 2) X.1 X.2.2.2 (by omega) (nI_add i 2) dL_law_661 ?_
  refine v_aload_n 5 (pc := 662) X.1 dL_law_662 rfl rfl ?_
  refine v_iload 1 (pc := 663) X.1 dL_law_663 rfl ?_
  refine v_iconst (pc := 665) (v := (3 : Int32)) X.1 dL_law_665 (by decide) ?_
  refine v_iadd (pc := 666) X.1 dL_law_666 ?_
  refine v_sld (pc := 667) (n := i + 3) X.1 X.2.2.2 (by omega) (nI_add i 3) dL_law_667 ?_
  refine v_aload_n 5 (pc := 668) X.1 dL_law_668 rfl rfl ?_
  refine v_iload 1 (pc := 669) X.1 dL_law_669 rfl ?_
  refine v_iconst (pc := 671) (v := (4 : Int32)) X.1 dL_law_671 (by decide) ?_
  refine v_iadd (pc := 672) X.1 dL_law_672 ?_
  refine v_sld (pc := 673) (n := i + 4) X.1 X.2.2.2 (by omega) (nI_add i 4) dL_law_673 ?_
  refine v_aload_n 5 (pc := 674) X.1 dL_law_674 rfl rfl ?_
  refine v_iload 1 (pc := 675) X.1 dL_law_675 rfl ?_
  refine v_iconst (pc := 677) (v := (5 : Int32)) X.1 dL_law_677 (by decide) ?_
  refine v_iadd (pc := 678) X.1 dL_law_678 ?_
  refine v_sld (pc := 679) (n := i + 5) X.1 X.2.2.2 (by omega) (nI_add i 5) dL_law_679 ?_
  refine v_callM [.int (xs (i + 1)), .int (xs (i + 2)), .int (xs (i + 3)), .int (xs (i + 4)), .int (xs (i + 5))] (pc := 680) (c1 := c + 1) (s1 := s + 6) (v := .int bv) X.1 X.2.2.1 (mX9_tool X.1.hT hM) kw_124 (gM_9 (rfl : kdM 0 = 9)) rfl rfl rfl (Nat.le_of_ble_eq_true rfl) ⟨(Nat.le_of_ble_eq_true rfl), (Nat.le_of_ble_eq_true rfl)⟩ ⟨Nat.le_trans (show c + 1 + 0 ≤ 600000 by omega) room_c, Nat.le_trans (show s + 6 + 0 ≤ 7200000 by omega) room_s⟩ dL_law_680 rfl rfl ?_
  refine v_istore (pc := 683) (loc' := [(6, .int bv), (5, .int k), (4, .int (nI i)), (3, .ref ao), (2, .ref (b 0)), (1, .ref (a 0)), (0, .ref sb)]) X.1 dL_law_683 (by decide) rfl ?_
  refine v_aload_n 4 (pc := 685) X.1 dL_law_685 rfl rfl ?_
  refine v_callM [] (pc := 686) (c1 := c + 1) (s1 := s + 6) (v := .int k) X.1 X.2.2.1 (mX9_thrown X.1.hT ht) kw_96 (gM_9 (rfl : kdM 0 = 9)) rfl rfl rfl (Nat.le_of_ble_eq_true rfl) ⟨(Nat.le_of_ble_eq_true rfl), (Nat.le_of_ble_eq_true rfl)⟩ ⟨Nat.le_trans (show c + 1 + 0 ≤ 600000 by omega) room_c, Nat.le_trans (show s + 6 + 0 ≤ 7200000 by omega) room_s⟩ dL_law_686 rfl rfl ?_
  refine v_iload 1 (pc := 689) X.1 dL_law_689 rfl ?_
  refine v_icmp_eq 696 (pc := 691) X.1 dL_law_691 (by decide) (fun _ => ?_) (fun q => absurd rfl q)
  refine v_iload 1 (pc := 696) X.1 dL_law_696 rfl ?_
  refine v_if_ne 713 (pc := 698) X.1 dL_law_698 (by decide) (fun _ => ?_) (fun hk0 => ?_)
  · refine z_sub [2, 3, 4, 5, 6] rfl ?_
    refine z_widen (c' := c + 8) (s' := s + 48) (by omega) (by omega) ?_
    exact v_goto 1822 (pc := 713) X.1 dL_law_713 (by decide) kk
  · refine v_aload_n 3 (pc := 701) X.1 dL_law_701 rfl rfl ?_
    refine v_iconst (pc := 702) (v := (0 : Int32)) X.1 dL_law_702 (by decide) ?_
    refine v_lald (pc := 703) X.1 vi_01 dL_law_703 ?_
    rw [hk hk0]
    refine v_iload 0 (pc := 704) X.1 dL_law_704 rfl ?_
    refine v_i2l (pc := 706) X.1 dL_law_706 ?_
    refine v_lcmp (pc := 707) X.1 dL_law_707 ?_
    rw [lcmp_self]
    refine v_if_eq 713 (pc := 708) X.1 dL_law_708 (by decide) (fun _ => ?_) (fun q => absurd rfl q)
    refine z_sub [2, 3, 4, 5, 6] rfl ?_
    refine z_widen (c' := c + 8) (s' := s + 48) (by omega) (by omega) ?_
    exact v_goto 1822 (pc := 713) X.1 dL_law_713 (by decide) kk
theorem kw_127 : CallVok RL 127 yX9_trial cX9_trial 6 (some .int) 3 := ⟨bw_16_4, bw_16_5, bw_16_6, bw_1_5, bw_16_7, ⟨by decide +kernel, by decide +kernel, by decide +kernel⟩⟩
set_option maxHeartbeats 1000000 in
theorem law_c8 {E : ET} {a b : Nat → Nat} {ao sb L : Nat} {xs : Nat → Int32} (X : LX E a ao b sb L xs) {i : Nat} (hi : i + 7 ≤ L) {S M S' M' : St} {f f' : Nat → Int64} {k : Int32} {bv : Int32} {c s : Nat} (hc : c + 8 ≤ 600000) (hs : s + 48 ≤ 7200000) (hO : MO (e_l E) (e_D E) (e_k E) a ao yL_trial cL_trial 6 [(0, 12, 15, 24), (0, 12, 19, 13)] rmL_trial [.ref (a 0), .int (xs (i + 1)), .int (xs (i + 2)), .int (xs (i + 3)), .ref ao] S f k S' f') (hM : fX9_trial M (xs (i + 1)) (xs (i + 2)) (xs (i + 3)) = some (bv, M')) (ht : fX9_thrown M' = some k) (hk : k = 0 → f' (0 : Int32).toNatClampNeg = bv.toInt64)
    (kk : Zz E (LW E a ao b S' f' M') (c + 8) (s + 48) 1822 [(4, .int (nI i)), (3, .ref ao), (2, .ref (b 0)), (1, .ref (a 0)), (0, .ref sb)] []) : Zz E (LW E a ao b S f M) c s 716 [(4, .int (nI i)), (3, .ref ao), (2, .ref (b 0)), (1, .ref (a 0)), (0, .ref sb)] [] := by
  refine v_aload_n 3 (pc := 716) X.1 dL_law_716 rfl rfl ?_
  refine v_aload_n 4 (pc := 717) X.1 dL_law_717 rfl rfl ?_
  refine v_iload 0 (pc := 718) X.1 dL_law_718 rfl ?_
  refine v_iconst (pc := 720) (v := (1 : Int32)) X.1 dL_law_720 (by decide) ?_
  refine v_iadd (pc := 721) X.1 dL_law_721 ?_
  refine v_sld (pc := 722) (n := i + 1) X.1 X.2.2.2 (by omega) (nI_add i 1) dL_law_722 ?_
  refine v_aload_n 4 (pc := 723) X.1 dL_law_723 rfl rfl ?_
  refine v_iload 0 (pc := 724) X.1 dL_law_724 rfl ?_
  refine v_iconst (pc := 726) (v := (2 : Int32)) X.1 dL_law_726 (by decide) ?_
  refine v_iadd (pc := 727) X.1 dL_law_727 ?_
  refine v_sld (pc := 728) (n := i + 2) X.1 X.2.2.2 (by omega) (nI_add i 2) dL_law_728 ?_
  refine v_aload_n 4 (pc := 729) X.1 dL_law_729 rfl rfl ?_
  refine v_iload 0 (pc := 730) X.1 dL_law_730 rfl ?_
  refine v_iconst (pc := 732) (v := (3 : Int32)) X.1 dL_law_732 (by decide) ?_
  refine v_iadd (pc := 733) X.1 dL_law_733 ?_
  refine v_sld (pc := 734) (n := i + 3) X.1 X.2.2.2 (by omega) (nI_add i 3) dL_law_734 ?_
  refine v_aload_n 1 (pc := 735) X.1 dL_law_735 rfl rfl ?_
  refine v_callW [.ref (a 0), .int (xs (i + 1)), .int (xs (i + 2)), .int (xs (i + 3)), .ref ao] (pc := 736) (nargs := 5) (c1 := c + 2) (s1 := s + 12) X.1 X.2.1 X.2.2.1 hO ⟨bw_15_16, bw_15_17, bw_6_13, bw_15_18, ⟨by decide +kernel, by decide +kernel, by decide +kernel⟩⟩ rfl rfl (Nat.le_of_ble_eq_true rfl) ⟨(Nat.le_of_ble_eq_true rfl), (Nat.le_of_ble_eq_true rfl)⟩ ⟨Nat.le_trans (show c + 2 ≤ 600000 by omega) room_c, Nat.le_trans (show s + 12 ≤ 7200000 by omega) room_s⟩ dL_law_736 rfl rfl ?_
  refine v_istore (pc := 739) (loc' := [(5, .int k), (4, .int (nI i)), (3, .ref ao), (2, .ref (b 0)), (1, .ref (a 0)), (0, .ref sb)]) X.1 dL_law_739 (by decide) rfl ?_
  refine v_aload_n 3 (pc := 741) X.1 dL_law_741 rfl rfl ?_
  refine v_aload_n 5 (pc := 742) X.1 dL_law_742 rfl rfl ?_
  refine v_iload 1 (pc := 743) X.1 dL_law_743 rfl ?_
  refine v_iconst (pc := 745) (v := (1 : Int32)) X.1 dL_law_745 (by decide) ?_
  refine v_iadd (pc := 746) X.1 dL_law_746 ?_
  refine v_sld (pc := 747) (n := i + 1) X.1 X.2.2.2 (by omega) (nI_add i 1) dL_law_747 ?_
  refine v_aload_n 5 (pc := 748) X.1 dL_law_748 rfl rfl ?_
  refine v_iload 1 (pc := 749) X.1 dL_law_749 rfl ?_
  refine v_iconst (pc := 751) (v := (2 : Int32)) X.1 dL_law_751 (by decide) ?_
  refine v_iadd (pc := 752) X.1 dL_law_752 ?_
  refine v_sld (pc := 753) (n := i + 2) X.1 X.2.2.2 (by omega) (nI_add i 2) dL_law_753 ?_
  refine v_aload_n 5 (pc := 754) X.1 dL_law_754 rfl rfl ?_
  refine v_iload 1 (pc := 755) X.1 dL_law_755 rfl ?_
  refine v_iconst (pc := 757) (v := (3 : Int32)) X.1 dL_law_757 (by decide) ?_
  refine v_iadd (pc := 758) X.1 dL_law_758 ?_
  refine v_sld (pc := 759) (n := i + 3) X.1 X.2.2.2 (by omega) (nI_add i 3) dL_law_759 ?_
  refine v_callM [.int (xs (i + 1)), .int (xs (i + 2)), .int (xs (i + 3))] (pc := 760) (c1 := c + 2) (s1 := s + 12) (v := .int bv) X.1 X.2.2.1 (mX9_trial X.1.hT hM) kw_127 (gM_9 (rfl : kdM 0 = 9)) rfl rfl rfl (Nat.le_of_ble_eq_true rfl) ⟨(Nat.le_of_ble_eq_true rfl), (Nat.le_of_ble_eq_true rfl)⟩ ⟨Nat.le_trans (show c + 2 + 0 ≤ 600000 by omega) room_c, Nat.le_trans (show s + 12 + 0 ≤ 7200000 by omega) room_s⟩ dL_law_760 rfl rfl ?_
  refine v_istore (pc := 763) (loc' := [(6, .int bv), (5, .int k), (4, .int (nI i)), (3, .ref ao), (2, .ref (b 0)), (1, .ref (a 0)), (0, .ref sb)]) X.1 dL_law_763 (by decide) rfl ?_
  refine v_aload_n 4 (pc := 765) X.1 dL_law_765 rfl rfl ?_
  refine v_callM [] (pc := 766) (c1 := c + 2) (s1 := s + 12) (v := .int k) X.1 X.2.2.1 (mX9_thrown X.1.hT ht) kw_96 (gM_9 (rfl : kdM 0 = 9)) rfl rfl rfl (Nat.le_of_ble_eq_true rfl) ⟨(Nat.le_of_ble_eq_true rfl), (Nat.le_of_ble_eq_true rfl)⟩ ⟨Nat.le_trans (show c + 2 + 0 ≤ 600000 by omega) room_c, Nat.le_trans (show s + 12 + 0 ≤ 7200000 by omega) room_s⟩ dL_law_766 rfl rfl ?_
  refine v_iload 1 (pc := 769) X.1 dL_law_769 rfl ?_
  refine v_icmp_eq 776 (pc := 771) X.1 dL_law_771 (by decide) (fun _ => ?_) (fun q => absurd rfl q)
  refine v_iload 1 (pc := 776) X.1 dL_law_776 rfl ?_
  refine v_if_ne 793 (pc := 778) X.1 dL_law_778 (by decide) (fun _ => ?_) (fun hk0 => ?_)
  · refine z_sub [2, 3, 4, 5, 6] rfl ?_
    refine z_widen (c' := c + 8) (s' := s + 48) (by omega) (by omega) ?_
    exact v_goto 1822 (pc := 793) X.1 dL_law_793 (by decide) kk
  · refine v_aload_n 3 (pc := 781) X.1 dL_law_781 rfl rfl ?_
    refine v_iconst (pc := 782) (v := (0 : Int32)) X.1 dL_law_782 (by decide) ?_
    refine v_lald (pc := 783) X.1 vi_01 dL_law_783 ?_
    rw [hk hk0]
    refine v_iload 0 (pc := 784) X.1 dL_law_784 rfl ?_
    refine v_i2l (pc := 786) X.1 dL_law_786 ?_
    refine v_lcmp (pc := 787) X.1 dL_law_787 ?_
    rw [lcmp_self]
    refine v_if_eq 793 (pc := 788) X.1 dL_law_788 (by decide) (fun _ => ?_) (fun q => absurd rfl q)
    refine z_sub [2, 3, 4, 5, 6] rfl ?_
    refine z_widen (c' := c + 8) (s' := s + 48) (by omega) (by omega) ?_
    exact v_goto 1822 (pc := 793) X.1 dL_law_793 (by decide) kk
theorem kw_130 : CallVok RL 130 yX9_blank cX9_blank 3 (some .int) 2 := ⟨bw_16_19, bw_16_20, bw_16_21, bw_1_5, bw_16_22, ⟨by decide +kernel, by decide +kernel, by decide +kernel⟩⟩
set_option maxHeartbeats 1000000 in
theorem law_c9 {E : ET} {a b : Nat → Nat} {ao sb L : Nat} {xs : Nat → Int32} (X : LX E a ao b sb L xs) {i : Nat} (hi : i + 7 ≤ L) {S M S' M' : St} {f f' : Nat → Int64} {k : Int32} {bv : Int32} {c s : Nat} (hc : c + 8 ≤ 600000) (hs : s + 48 ≤ 7200000) (hO : MO (e_l E) (e_D E) (e_k E) a ao yL_blank cL_blank 5 [(0, 10, 13, 24)] rmL_blank [.ref (a 0), .int (xs (i + 1)), .int (xs (i + 2)), .ref ao] S f k S' f') (hM : fX9_blank M (xs (i + 1)) (xs (i + 2)) = some (bv, M')) (ht : fX9_thrown M' = some k) (hk : k = 0 → f' (0 : Int32).toNatClampNeg = bv.toInt64)
    (kk : Zz E (LW E a ao b S' f' M') (c + 8) (s + 48) 1822 [(4, .int (nI i)), (3, .ref ao), (2, .ref (b 0)), (1, .ref (a 0)), (0, .ref sb)] []) : Zz E (LW E a ao b S f M) c s 796 [(4, .int (nI i)), (3, .ref ao), (2, .ref (b 0)), (1, .ref (a 0)), (0, .ref sb)] [] := by
  refine v_aload_n 3 (pc := 796) X.1 dL_law_796 rfl rfl ?_
  refine v_aload_n 4 (pc := 797) X.1 dL_law_797 rfl rfl ?_
  refine v_iload 0 (pc := 798) X.1 dL_law_798 rfl ?_
  refine v_iconst (pc := 800) (v := (1 : Int32)) X.1 dL_law_800 (by decide) ?_
  refine v_iadd (pc := 801) X.1 dL_law_801 ?_
  refine v_sld (pc := 802) (n := i + 1) X.1 X.2.2.2 (by omega) (nI_add i 1) dL_law_802 ?_
  refine v_aload_n 4 (pc := 803) X.1 dL_law_803 rfl rfl ?_
  refine v_iload 0 (pc := 804) X.1 dL_law_804 rfl ?_
  refine v_iconst (pc := 806) (v := (2 : Int32)) X.1 dL_law_806 (by decide) ?_
  refine v_iadd (pc := 807) X.1 dL_law_807 ?_
  refine v_sld (pc := 808) (n := i + 2) X.1 X.2.2.2 (by omega) (nI_add i 2) dL_law_808 ?_
  refine v_aload_n 1 (pc := 809) X.1 dL_law_809 rfl rfl ?_
  refine v_callW [.ref (a 0), .int (xs (i + 1)), .int (xs (i + 2)), .ref ao] (pc := 810) (nargs := 4) (c1 := c + 2) (s1 := s + 12) X.1 X.2.1 X.2.2.1 hO ⟨bw_16_12, bw_16_13, bw_6_13, bw_16_14, ⟨by decide +kernel, by decide +kernel, by decide +kernel⟩⟩ rfl rfl (Nat.le_of_ble_eq_true rfl) ⟨(Nat.le_of_ble_eq_true rfl), (Nat.le_of_ble_eq_true rfl)⟩ ⟨Nat.le_trans (show c + 2 ≤ 600000 by omega) room_c, Nat.le_trans (show s + 12 ≤ 7200000 by omega) room_s⟩ dL_law_810 rfl rfl ?_
  refine v_istore (pc := 813) (loc' := [(5, .int k), (4, .int (nI i)), (3, .ref ao), (2, .ref (b 0)), (1, .ref (a 0)), (0, .ref sb)]) X.1 dL_law_813 (by decide) rfl ?_
  refine v_aload_n 3 (pc := 815) X.1 dL_law_815 rfl rfl ?_
  refine v_aload_n 5 (pc := 816) X.1 dL_law_816 rfl rfl ?_
  refine v_iload 1 (pc := 817) X.1 dL_law_817 rfl ?_
  refine v_iconst (pc := 819) (v := (1 : Int32)) X.1 dL_law_819 (by decide) ?_
  refine v_iadd (pc := 820) X.1 dL_law_820 ?_
  refine v_sld (pc := 821) (n := i + 1) X.1 X.2.2.2 (by omega) (nI_add i 1) dL_law_821 ?_
  refine v_aload_n 5 (pc := 822) X.1 dL_law_822 rfl rfl ?_
  refine v_iload 1 (pc := 823) X.1 dL_law_823 rfl ?_
  refine v_iconst (pc := 825) (v := (2 : Int32)) X.1 dL_law_825 (by decide) ?_
  refine v_iadd (pc := 826) X.1 dL_law_826 ?_
  refine v_sld (pc := 827) (n := i + 2) X.1 X.2.2.2 (by omega) (nI_add i 2) dL_law_827 ?_
  refine v_callM [.int (xs (i + 1)), .int (xs (i + 2))] (pc := 828) (c1 := c + 2) (s1 := s + 12) (v := .int bv) X.1 X.2.2.1 (mX9_blank X.1.hT hM) kw_130 (gM_9 (rfl : kdM 0 = 9)) rfl rfl rfl (Nat.le_of_ble_eq_true rfl) ⟨(Nat.le_of_ble_eq_true rfl), (Nat.le_of_ble_eq_true rfl)⟩ ⟨Nat.le_trans (show c + 2 + 0 ≤ 600000 by omega) room_c, Nat.le_trans (show s + 12 + 0 ≤ 7200000 by omega) room_s⟩ dL_law_828 rfl rfl ?_
  refine v_istore (pc := 831) (loc' := [(6, .int bv), (5, .int k), (4, .int (nI i)), (3, .ref ao), (2, .ref (b 0)), (1, .ref (a 0)), (0, .ref sb)]) X.1 dL_law_831 (by decide) rfl ?_
  refine v_aload_n 4 (pc := 833) X.1 dL_law_833 rfl rfl ?_
  refine v_callM [] (pc := 834) (c1 := c + 2) (s1 := s + 12) (v := .int k) X.1 X.2.2.1 (mX9_thrown X.1.hT ht) kw_96 (gM_9 (rfl : kdM 0 = 9)) rfl rfl rfl (Nat.le_of_ble_eq_true rfl) ⟨(Nat.le_of_ble_eq_true rfl), (Nat.le_of_ble_eq_true rfl)⟩ ⟨Nat.le_trans (show c + 2 + 0 ≤ 600000 by omega) room_c, Nat.le_trans (show s + 12 + 0 ≤ 7200000 by omega) room_s⟩ dL_law_834 rfl rfl ?_
  refine v_iload 1 (pc := 837) X.1 dL_law_837 rfl ?_
  refine v_icmp_eq 844 (pc := 839) X.1 dL_law_839 (by decide) (fun _ => ?_) (fun q => absurd rfl q)
  refine v_iload 1 (pc := 844) X.1 dL_law_844 rfl ?_
  refine v_if_ne 861 (pc := 846) X.1 dL_law_846 (by decide) (fun _ => ?_) (fun hk0 => ?_)
  · refine z_sub [2, 3, 4, 5, 6] rfl ?_
    refine z_widen (c' := c + 8) (s' := s + 48) (by omega) (by omega) ?_
    exact v_goto 1822 (pc := 861) X.1 dL_law_861 (by decide) kk
  · refine v_aload_n 3 (pc := 849) X.1 dL_law_849 rfl rfl ?_
    refine v_iconst (pc := 850) (v := (0 : Int32)) X.1 dL_law_850 (by decide) ?_
    refine v_lald (pc := 851) X.1 vi_01 dL_law_851 ?_
    rw [hk hk0]
    refine v_iload 0 (pc := 852) X.1 dL_law_852 rfl ?_
    refine v_i2l (pc := 854) X.1 dL_law_854 ?_
    refine v_lcmp (pc := 855) X.1 dL_law_855 ?_
    rw [lcmp_self]
    refine v_if_eq 861 (pc := 856) X.1 dL_law_856 (by decide) (fun _ => ?_) (fun q => absurd rfl q)
    refine z_sub [2, 3, 4, 5, 6] rfl ?_
    refine z_widen (c' := c + 8) (s' := s + 48) (by omega) (by omega) ?_
    exact v_goto 1822 (pc := 861) X.1 dL_law_861 (by decide) kk
theorem kw_133 : CallVok RL 133 yX9_why cX9_why 6 (some .int) 4 := ⟨bw_19_7, bw_19_8, bw_19_9, bw_1_5, bw_19_10, ⟨by decide +kernel, by decide +kernel, by decide +kernel⟩⟩
set_option maxHeartbeats 1000000 in
theorem law_c10 {E : ET} {a b : Nat → Nat} {ao sb L : Nat} {xs : Nat → Int32} (X : LX E a ao b sb L xs) {i : Nat} (hi : i + 7 ≤ L) {S M S' M' : St} {f f' : Nat → Int64} {k : Int32} {bv : Int32} {c s : Nat} (hc : c + 8 ≤ 600000) (hs : s + 48 ≤ 7200000) (hO : MO (e_l E) (e_D E) (e_k E) a ao yL_why cL_why 7 [(0, 14, 17, 24), (0, 14, 21, 13)] rmL_why [.ref (a 0), .int (xs (i + 1)), .int (xs (i + 2)), .int (xs (i + 3)), .int (xs (i + 4)), .ref ao] S f k S' f') (hM : fX9_why M (xs (i + 1)) (xs (i + 2)) (xs (i + 3)) (xs (i + 4)) = some (bv, M')) (ht : fX9_thrown M' = some k) (hk : k = 0 → f' (0 : Int32).toNatClampNeg = bv.toInt64)
    (kk : Zz E (LW E a ao b S' f' M') (c + 8) (s + 48) 1822 [(4, .int (nI i)), (3, .ref ao), (2, .ref (b 0)), (1, .ref (a 0)), (0, .ref sb)] []) : Zz E (LW E a ao b S f M) c s 864 [(4, .int (nI i)), (3, .ref ao), (2, .ref (b 0)), (1, .ref (a 0)), (0, .ref sb)] [] := by
  refine v_aload_n 3 (pc := 864) X.1 dL_law_864 rfl rfl ?_
  refine v_aload_n 4 (pc := 865) X.1 dL_law_865 rfl rfl ?_
  refine v_iload 0 (pc := 866) X.1 dL_law_866 rfl ?_
  refine v_iconst (pc := 868) (v := (1 : Int32)) X.1 dL_law_868 (by decide) ?_
  refine v_iadd (pc := 869) X.1 dL_law_869 ?_
  refine v_sld (pc := 870) (n := i + 1) X.1 X.2.2.2 (by omega) (nI_add i 1) dL_law_870 ?_
  refine v_aload_n 4 (pc := 871) X.1 dL_law_871 rfl rfl ?_
  refine v_iload 0 (pc := 872) X.1 dL_law_872 rfl ?_
  refine v_iconst (pc := 874) (v := (2 : Int32)) X.1 dL_law_874 (by decide) ?_
  refine v_iadd (pc := 875) X.1 dL_law_875 ?_
  refine v_sld (pc := 876) (n := i + 2) X.1 X.2.2.2 (by omega) (nI_add i 2) dL_law_876 ?_
  refine v_aload_n 4 (pc := 877) X.1 dL_law_877 rfl rfl ?_
  refine v_iload 0 (pc := 878) X.1 dL_law_878 rfl ?_
  refine v_iconst (pc := 880) (v := (3 : Int32)) X.1 dL_law_880 (by decide) ?_
  refine v_iadd (pc := 881) X.1 dL_law_881 ?_
  refine v_sld (pc := 882) (n := i + 3) X.1 X.2.2.2 (by omega) (nI_add i 3) dL_law_882 ?_
  refine v_aload_n 4 (pc := 883) X.1 dL_law_883 rfl rfl ?_
  refine v_iload 0 (pc := 884) X.1 dL_law_884 rfl ?_
  refine v_iconst (pc := 886) (v := (4 : Int32)) X.1 dL_law_886 (by decide) ?_
  refine v_iadd (pc := 887) X.1 dL_law_887 ?_
  refine v_sld (pc := 888) (n := i + 4) X.1 X.2.2.2 (by omega) (nI_add i 4) dL_law_888 ?_
  refine v_aload_n 1 (pc := 889) X.1 dL_law_889 rfl rfl ?_
  refine v_callW [.ref (a 0), .int (xs (i + 1)), .int (xs (i + 2)), .int (xs (i + 3)), .int (xs (i + 4)), .ref ao] (pc := 890) (nargs := 6) (c1 := c + 4) (s1 := s + 24) X.1 X.2.1 X.2.2.1 hO ⟨bw_16_23, bw_17_0, bw_6_13, bw_17_1, ⟨by decide +kernel, by decide +kernel, by decide +kernel⟩⟩ rfl rfl (Nat.le_of_ble_eq_true rfl) ⟨(Nat.le_of_ble_eq_true rfl), (Nat.le_of_ble_eq_true rfl)⟩ ⟨Nat.le_trans (show c + 4 ≤ 600000 by omega) room_c, Nat.le_trans (show s + 24 ≤ 7200000 by omega) room_s⟩ dL_law_890 rfl rfl ?_
  refine v_istore (pc := 893) (loc' := [(5, .int k), (4, .int (nI i)), (3, .ref ao), (2, .ref (b 0)), (1, .ref (a 0)), (0, .ref sb)]) X.1 dL_law_893 (by decide) rfl ?_
  refine v_aload_n 3 (pc := 895) X.1 dL_law_895 rfl rfl ?_
  refine v_aload_n 5 (pc := 896) X.1 dL_law_896 rfl rfl ?_
  refine v_iload 1 (pc := 897) X.1 dL_law_897 rfl ?_
  refine v_iconst (pc := 899) (v := (1 : Int32)) X.1 dL_law_899 (by decide) ?_
  refine v_iadd (pc := 900) X.1 dL_law_900 ?_
  refine v_sld (pc := 901) (n := i + 1) X.1 X.2.2.2 (by omega) (nI_add i 1) dL_law_901 ?_
  refine v_aload_n 5 (pc := 902) X.1 dL_law_902 rfl rfl ?_
  refine v_iload 1 (pc := 903) X.1 dL_law_903 rfl ?_
  refine v_iconst (pc := 905) (v := (2 : Int32)) X.1 dL_law_905 (by decide) ?_
  refine v_iadd (pc := 906) X.1 dL_law_906 ?_
  refine v_sld (pc := 907) (n := i + 2) X.1 X.2.2.2 (by omega) (nI_add i 2) dL_law_907 ?_
  refine v_aload_n 5 (pc := 908) X.1 dL_law_908 rfl rfl ?_
  refine v_iload 1 (pc := 909) X.1 dL_law_909 rfl ?_
  refine v_iconst (pc := 911) (v := (3 : Int32)) X.1 dL_law_911 (by decide) ?_
  refine v_iadd (pc := 912) X.1 dL_law_912 ?_
  refine v_sld (pc := 913) (n := i + 3) X.1 X.2.2.2 (by omega) (nI_add i 3) dL_law_913 ?_
  refine v_aload_n 5 (pc := 914) X.1 dL_law_914 rfl rfl ?_
  refine v_iload 1 (pc := 915) X.1 dL_law_915 rfl ?_
  refine v_iconst (pc := 917) (v := (4 : Int32)) X.1 dL_law_917 (by decide) ?_
  refine v_iadd (pc := 918) X.1 dL_law_918 ?_
  refine v_sld (pc := 919) (n := i + 4) X.1 X.2.2.2 (by omega) (nI_add i 4) dL_law_919 ?_
  refine v_callM [.int (xs (i + 1)), .int (xs (i + 2)), .int (xs (i + 3)), .int (xs (i + 4))] (pc := 920) (c1 := c + 4) (s1 := s + 24) (v := .int bv) X.1 X.2.2.1 (mX9_why X.1.hT hM) kw_133 (gM_9 (rfl : kdM 0 = 9)) rfl rfl rfl (Nat.le_of_ble_eq_true rfl) ⟨(Nat.le_of_ble_eq_true rfl), (Nat.le_of_ble_eq_true rfl)⟩ ⟨Nat.le_trans (show c + 4 + 0 ≤ 600000 by omega) room_c, Nat.le_trans (show s + 24 + 0 ≤ 7200000 by omega) room_s⟩ dL_law_920 rfl rfl ?_
  refine v_istore (pc := 923) (loc' := [(6, .int bv), (5, .int k), (4, .int (nI i)), (3, .ref ao), (2, .ref (b 0)), (1, .ref (a 0)), (0, .ref sb)]) X.1 dL_law_923 (by decide) rfl ?_
  refine v_aload_n 4 (pc := 925) X.1 dL_law_925 rfl rfl ?_
  refine v_callM [] (pc := 926) (c1 := c + 4) (s1 := s + 24) (v := .int k) X.1 X.2.2.1 (mX9_thrown X.1.hT ht) kw_96 (gM_9 (rfl : kdM 0 = 9)) rfl rfl rfl (Nat.le_of_ble_eq_true rfl) ⟨(Nat.le_of_ble_eq_true rfl), (Nat.le_of_ble_eq_true rfl)⟩ ⟨Nat.le_trans (show c + 4 + 0 ≤ 600000 by omega) room_c, Nat.le_trans (show s + 24 + 0 ≤ 7200000 by omega) room_s⟩ dL_law_926 rfl rfl ?_
  refine v_iload 1 (pc := 929) X.1 dL_law_929 rfl ?_
  refine v_icmp_eq 936 (pc := 931) X.1 dL_law_931 (by decide) (fun _ => ?_) (fun q => absurd rfl q)
  refine v_iload 1 (pc := 936) X.1 dL_law_936 rfl ?_
  refine v_if_ne 953 (pc := 938) X.1 dL_law_938 (by decide) (fun _ => ?_) (fun hk0 => ?_)
  · refine z_sub [2, 3, 4, 5, 6] rfl ?_
    refine z_widen (c' := c + 8) (s' := s + 48) (by omega) (by omega) ?_
    exact v_goto 1822 (pc := 953) X.1 dL_law_953 (by decide) kk
  · refine v_aload_n 3 (pc := 941) X.1 dL_law_941 rfl rfl ?_
    refine v_iconst (pc := 942) (v := (0 : Int32)) X.1 dL_law_942 (by decide) ?_
    refine v_lald (pc := 943) X.1 vi_01 dL_law_943 ?_
    rw [hk hk0]
    refine v_iload 0 (pc := 944) X.1 dL_law_944 rfl ?_
    refine v_i2l (pc := 946) X.1 dL_law_946 ?_
    refine v_lcmp (pc := 947) X.1 dL_law_947 ?_
    rw [lcmp_self]
    refine v_if_eq 953 (pc := 948) X.1 dL_law_948 (by decide) (fun _ => ?_) (fun q => absurd rfl q)
    refine z_sub [2, 3, 4, 5, 6] rfl ?_
    refine z_widen (c' := c + 8) (s' := s + 48) (by omega) (by omega) ?_
    exact v_goto 1822 (pc := 953) X.1 dL_law_953 (by decide) kk
theorem kw_137 : CallVok RL 137 yX9_point cX9_point 9 (some .int) 6 := ⟨bw_21_1, bw_21_2, bw_21_3, bw_1_5, bw_21_4, ⟨by decide +kernel, by decide +kernel, by decide +kernel⟩⟩
set_option maxHeartbeats 1000000 in
theorem law_c11 {E : ET} {a b : Nat → Nat} {ao sb L : Nat} {xs : Nat → Int32} (X : LX E a ao b sb L xs) {i : Nat} (hi : i + 7 ≤ L) {S M S' M' : St} {f f' : Nat → Int64} {k : Int32} {bv : Int32} {c s : Nat} (hc : c + 8 ≤ 600000) (hs : s + 48 ≤ 7200000) (hO : MO (e_l E) (e_D E) (e_k E) a ao yL_point cL_point 9 [(0, 18, 21, 24), (0, 18, 25, 13)] rmL_point [.ref (a 0), .int (xs (i + 1)), .int (xs (i + 2)), .int (xs (i + 3)), .int (bb (xs (i + 4))), .int (xs (i + 5)), .int (bb (xs (i + 6))), .ref ao] S f k S' f') (hM : fX9_point M (xs (i + 1)) (xs (i + 2)) (xs (i + 3)) (bb (xs (i + 4))) (xs (i + 5)) (bb (xs (i + 6))) = some (bv, M')) (ht : fX9_thrown M' = some k) (hk : k = 0 → f' (0 : Int32).toNatClampNeg = bv.toInt64)
    (kk : Zz E (LW E a ao b S' f' M') (c + 8) (s + 48) 1822 [(4, .int (nI i)), (3, .ref ao), (2, .ref (b 0)), (1, .ref (a 0)), (0, .ref sb)] []) : Zz E (LW E a ao b S f M) c s 956 [(4, .int (nI i)), (3, .ref ao), (2, .ref (b 0)), (1, .ref (a 0)), (0, .ref sb)] [] := by
  refine v_aload_n 3 (pc := 956) X.1 dL_law_956 rfl rfl ?_
  refine v_aload_n 4 (pc := 957) X.1 dL_law_957 rfl rfl ?_
  refine v_iload 0 (pc := 958) X.1 dL_law_958 rfl ?_
  refine v_iconst (pc := 960) (v := (1 : Int32)) X.1 dL_law_960 (by decide) ?_
  refine v_iadd (pc := 961) X.1 dL_law_961 ?_
  refine v_sld (pc := 962) (n := i + 1) X.1 X.2.2.2 (by omega) (nI_add i 1) dL_law_962 ?_
  refine v_aload_n 4 (pc := 963) X.1 dL_law_963 rfl rfl ?_
  refine v_iload 0 (pc := 964) X.1 dL_law_964 rfl ?_
  refine v_iconst (pc := 966) (v := (2 : Int32)) X.1 dL_law_966 (by decide) ?_
  refine v_iadd (pc := 967) X.1 dL_law_967 ?_
  refine v_sld (pc := 968) (n := i + 2) X.1 X.2.2.2 (by omega) (nI_add i 2) dL_law_968 ?_
  refine v_aload_n 4 (pc := 969) X.1 dL_law_969 rfl rfl ?_
  refine v_iload 0 (pc := 970) X.1 dL_law_970 rfl ?_
  refine v_iconst (pc := 972) (v := (3 : Int32)) X.1 dL_law_972 (by decide) ?_
  refine v_iadd (pc := 973) X.1 dL_law_973 ?_
  refine v_sld (pc := 974) (n := i + 3) X.1 X.2.2.2 (by omega) (nI_add i 3) dL_law_974 ?_
  refine v_aload_n 4 (pc := 975) X.1 dL_law_975 rfl rfl ?_
  refine v_iload 0 (pc := 976) X.1 dL_law_976 rfl ?_
  refine v_iconst (pc := 978) (v := (4 : Int32)) X.1 dL_law_978 (by decide) ?_
  refine v_iadd (pc := 979) X.1 dL_law_979 ?_
  refine v_sld (pc := 980) (n := i + 4) X.1 X.2.2.2 (by omega) (nI_add i 4) dL_law_980 ?_
  refine v_bool 989 (pc := 981) X.1 dL_law_981 dL_law_984 dL_law_985 dL_law_988 (by decide) (by decide) rfl ?_
  refine v_aload_n 4 (pc := 989) X.1 dL_law_989 rfl rfl ?_
  refine v_iload 0 (pc := 990) X.1 dL_law_990 rfl ?_
  refine v_iconst (pc := 992) (v := (5 : Int32)) X.1 dL_law_992 (by decide) ?_
  refine v_iadd (pc := 993) X.1 dL_law_993 ?_
  refine v_sld (pc := 994) (n := i + 5) X.1 X.2.2.2 (by omega) (nI_add i 5) dL_law_994 ?_
  refine v_aload_n 4 (pc := 995) X.1 dL_law_995 rfl rfl ?_
  refine v_iload 0 (pc := 996) X.1 dL_law_996 rfl ?_
  refine v_bipush (pc := 998) (v := (6 : Int32)) X.1 dL_law_998 (by decide) ?_
  refine v_iadd (pc := 1000) X.1 dL_law_1000 ?_
  refine v_sld (pc := 1001) (n := i + 6) X.1 X.2.2.2 (by omega) (nI_add i 6) dL_law_1001 ?_
  refine v_bool 1010 (pc := 1002) X.1 dL_law_1002 dL_law_1005 dL_law_1006 dL_law_1009 (by decide) (by decide) rfl ?_
  refine v_aload_n 1 (pc := 1010) X.1 dL_law_1010 rfl rfl ?_
  refine v_callW [.ref (a 0), .int (xs (i + 1)), .int (xs (i + 2)), .int (xs (i + 3)), .int (bb (xs (i + 4))), .int (xs (i + 5)), .int (bb (xs (i + 6))), .ref ao] (pc := 1011) (nargs := 8) (c1 := c + 3) (s1 := s + 18) X.1 X.2.1 X.2.2.1 hO ⟨bw_20_13, bw_20_14, bw_6_13, bw_20_15, ⟨by decide +kernel, by decide +kernel, by decide +kernel⟩⟩ rfl rfl (Nat.le_of_ble_eq_true rfl) ⟨(Nat.le_of_ble_eq_true rfl), (Nat.le_of_ble_eq_true rfl)⟩ ⟨Nat.le_trans (show c + 3 ≤ 600000 by omega) room_c, Nat.le_trans (show s + 18 ≤ 7200000 by omega) room_s⟩ dL_law_1011 rfl rfl ?_
  refine v_istore (pc := 1014) (loc' := [(5, .int k), (4, .int (nI i)), (3, .ref ao), (2, .ref (b 0)), (1, .ref (a 0)), (0, .ref sb)]) X.1 dL_law_1014 (by decide) rfl ?_
  refine v_aload_n 3 (pc := 1016) X.1 dL_law_1016 rfl rfl ?_
  refine v_aload_n 5 (pc := 1017) X.1 dL_law_1017 rfl rfl ?_
  refine v_iload 1 (pc := 1018) X.1 dL_law_1018 rfl ?_
  refine v_iconst (pc := 1020) (v := (1 : Int32)) X.1 dL_law_1020 (by decide) ?_
  refine v_iadd (pc := 1021) X.1 dL_law_1021 ?_
  refine v_sld (pc := 1022) (n := i + 1) X.1 X.2.2.2 (by omega) (nI_add i 1) dL_law_1022 ?_
  refine v_aload_n 5 (pc := 1023) X.1 dL_law_1023 rfl rfl ?_
  refine v_iload 1 (pc := 1024) X.1 dL_law_1024 rfl ?_
  refine v_iconst (pc := 1026) (v := (2 : Int32)) X.1 dL_law_1026 (by decide) ?_
  refine v_iadd (pc := 1027) X.1 dL_law_1027 ?_
  refine v_sld (pc := 1028) (n := i + 2) X.1 X.2.2.2 (by omega) (nI_add i 2) dL_law_1028 ?_
  refine v_aload_n 5 (pc := 1029) X.1 dL_law_1029 rfl rfl ?_
  refine v_iload 1 (pc := 1030) X.1 dL_law_1030 rfl ?_
  refine v_iconst (pc := 1032) (v := (3 : Int32)) X.1 dL_law_1032 (by decide) ?_
  refine v_iadd (pc := 1033) X.1 dL_law_1033 ?_
  refine v_sld (pc := 1034) (n := i + 3) X.1 X.2.2.2 (by omega) (nI_add i 3) dL_law_1034 ?_
  refine v_aload_n 5 (pc := 1035) X.1 dL_law_1035 rfl rfl ?_
  refine v_iload 1 (pc := 1036) X.1 dL_law_1036 rfl ?_
  refine v_iconst (pc := 1038) (v := (4 : Int32)) X.1 dL_law_1038 (by decide) ?_
  refine v_iadd (pc := 1039) X.1 dL_law_1039 ?_
  refine v_sld (pc := 1040) (n := i + 4) X.1 X.2.2.2 (by omega) (nI_add i 4) dL_law_1040 ?_
  refine v_bool 1049 (pc := 1041) X.1 dL_law_1041 dL_law_1044 dL_law_1045 dL_law_1048 (by decide) (by decide) rfl ?_
  refine v_aload_n 5 (pc := 1049) X.1 dL_law_1049 rfl rfl ?_
  refine v_iload 1 (pc := 1050) X.1 dL_law_1050 rfl ?_
  refine v_iconst (pc := 1052) (v := (5 : Int32)) X.1 dL_law_1052 (by decide) ?_
  refine v_iadd (pc := 1053) X.1 dL_law_1053 ?_
  refine v_sld (pc := 1054) (n := i + 5) X.1 X.2.2.2 (by omega) (nI_add i 5) dL_law_1054 ?_
  refine v_aload_n 5 (pc := 1055) X.1 dL_law_1055 rfl rfl ?_
  refine v_iload 1 (pc := 1056) X.1 dL_law_1056 rfl ?_
  refine v_bipush (pc := 1058) (v := (6 : Int32)) X.1 dL_law_1058 (by decide) ?_
  refine v_iadd (pc := 1060) X.1 dL_law_1060 ?_
  refine v_sld (pc := 1061) (n := i + 6) X.1 X.2.2.2 (by omega) (nI_add i 6) dL_law_1061 ?_
  refine v_bool 1070 (pc := 1062) X.1 dL_law_1062 dL_law_1065 dL_law_1066 dL_law_1069 (by decide) (by decide) rfl ?_
  refine v_callM [.int (xs (i + 1)), .int (xs (i + 2)), .int (xs (i + 3)), .int (bb (xs (i + 4))), .int (xs (i + 5)), .int (bb (xs (i + 6)))] (pc := 1070) (c1 := c + 3) (s1 := s + 18) (v := .int bv) X.1 X.2.2.1 (mX9_point X.1.hT hM) kw_137 (gM_9 (rfl : kdM 0 = 9)) rfl rfl rfl (Nat.le_of_ble_eq_true rfl) ⟨(Nat.le_of_ble_eq_true rfl), (Nat.le_of_ble_eq_true rfl)⟩ ⟨Nat.le_trans (show c + 3 + 0 ≤ 600000 by omega) room_c, Nat.le_trans (show s + 18 + 0 ≤ 7200000 by omega) room_s⟩ dL_law_1070 rfl rfl ?_
  refine v_istore (pc := 1073) (loc' := [(6, .int bv), (5, .int k), (4, .int (nI i)), (3, .ref ao), (2, .ref (b 0)), (1, .ref (a 0)), (0, .ref sb)]) X.1 dL_law_1073 (by decide) rfl ?_
  refine v_aload_n 4 (pc := 1075) X.1 dL_law_1075 rfl rfl ?_
  refine v_callM [] (pc := 1076) (c1 := c + 3) (s1 := s + 18) (v := .int k) X.1 X.2.2.1 (mX9_thrown X.1.hT ht) kw_96 (gM_9 (rfl : kdM 0 = 9)) rfl rfl rfl (Nat.le_of_ble_eq_true rfl) ⟨(Nat.le_of_ble_eq_true rfl), (Nat.le_of_ble_eq_true rfl)⟩ ⟨Nat.le_trans (show c + 3 + 0 ≤ 600000 by omega) room_c, Nat.le_trans (show s + 18 + 0 ≤ 7200000 by omega) room_s⟩ dL_law_1076 rfl rfl ?_
  refine v_iload 1 (pc := 1079) X.1 dL_law_1079 rfl ?_
  refine v_icmp_eq 1086 (pc := 1081) X.1 dL_law_1081 (by decide) (fun _ => ?_) (fun q => absurd rfl q)
  refine v_iload 1 (pc := 1086) X.1 dL_law_1086 rfl ?_
  refine v_if_ne 1103 (pc := 1088) X.1 dL_law_1088 (by decide) (fun _ => ?_) (fun hk0 => ?_)
  · refine z_sub [2, 3, 4, 5, 6] rfl ?_
    refine z_widen (c' := c + 8) (s' := s + 48) (by omega) (by omega) ?_
    exact v_goto 1822 (pc := 1103) X.1 dL_law_1103 (by decide) kk
  · refine v_aload_n 3 (pc := 1091) X.1 dL_law_1091 rfl rfl ?_
    refine v_iconst (pc := 1092) (v := (0 : Int32)) X.1 dL_law_1092 (by decide) ?_
    refine v_lald (pc := 1093) X.1 vi_01 dL_law_1093 ?_
    rw [hk hk0]
    refine v_iload 0 (pc := 1094) X.1 dL_law_1094 rfl ?_
    refine v_i2l (pc := 1096) X.1 dL_law_1096 ?_
    refine v_lcmp (pc := 1097) X.1 dL_law_1097 ?_
    rw [lcmp_self]
    refine v_if_eq 1103 (pc := 1098) X.1 dL_law_1098 (by decide) (fun _ => ?_) (fun q => absurd rfl q)
    refine z_sub [2, 3, 4, 5, 6] rfl ?_
    refine z_widen (c' := c + 8) (s' := s + 48) (by omega) (by omega) ?_
    exact v_goto 1822 (pc := 1103) X.1 dL_law_1103 (by decide) kk
theorem kw_140 : CallVok RL 140 yX9_flips cX9_flips 3 (some .int) 2 := ⟨bw_22_20, bw_22_21, bw_22_22, bw_1_5, bw_22_23, ⟨by decide +kernel, by decide +kernel, by decide +kernel⟩⟩
set_option maxHeartbeats 1000000 in
theorem law_c12 {E : ET} {a b : Nat → Nat} {ao sb L : Nat} {xs : Nat → Int32} (X : LX E a ao b sb L xs) {i : Nat} (hi : i + 7 ≤ L) {S M S' M' : St} {f f' : Nat → Int64} {k : Int32} {bv : Int32} {c s : Nat} (hc : c + 8 ≤ 600000) (hs : s + 48 ≤ 7200000) (hO : MO (e_l E) (e_D E) (e_k E) a ao yL_flips cL_flips 5 [(0, 10, 13, 24)] rmL_flips [.ref (a 0), .int (xs (i + 1)), .int (xs (i + 2)), .ref ao] S f k S' f') (hM : fX9_flips M (xs (i + 1)) (xs (i + 2)) = some (bv, M')) (ht : fX9_thrown M' = some k) (hk : k = 0 → f' (0 : Int32).toNatClampNeg = bv.toInt64)
    (kk : Zz E (LW E a ao b S' f' M') (c + 8) (s + 48) 1822 [(4, .int (nI i)), (3, .ref ao), (2, .ref (b 0)), (1, .ref (a 0)), (0, .ref sb)] []) : Zz E (LW E a ao b S f M) c s 1106 [(4, .int (nI i)), (3, .ref ao), (2, .ref (b 0)), (1, .ref (a 0)), (0, .ref sb)] [] := by
  refine v_aload_n 3 (pc := 1106) X.1 dL_law_1106 rfl rfl ?_
  refine v_aload_n 4 (pc := 1107) X.1 dL_law_1107 rfl rfl ?_
  refine v_iload 0 (pc := 1108) X.1 dL_law_1108 rfl ?_
  refine v_iconst (pc := 1110) (v := (1 : Int32)) X.1 dL_law_1110 (by decide) ?_
  refine v_iadd (pc := 1111) X.1 dL_law_1111 ?_
  refine v_sld (pc := 1112) (n := i + 1) X.1 X.2.2.2 (by omega) (nI_add i 1) dL_law_1112 ?_
  refine v_aload_n 4 (pc := 1113) X.1 dL_law_1113 rfl rfl ?_
  refine v_iload 0 (pc := 1114) X.1 dL_law_1114 rfl ?_
  refine v_iconst (pc := 1116) (v := (2 : Int32)) X.1 dL_law_1116 (by decide) ?_
  refine v_iadd (pc := 1117) X.1 dL_law_1117 ?_
  refine v_sld (pc := 1118) (n := i + 2) X.1 X.2.2.2 (by omega) (nI_add i 2) dL_law_1118 ?_
  refine v_aload_n 1 (pc := 1119) X.1 dL_law_1119 rfl rfl ?_
  refine v_callW [.ref (a 0), .int (xs (i + 1)), .int (xs (i + 2)), .ref ao] (pc := 1120) (nargs := 4) (c1 := c + 2) (s1 := s + 12) X.1 X.2.1 X.2.2.1 hO ⟨bw_21_5, bw_21_6, bw_6_13, bw_21_7, ⟨by decide +kernel, by decide +kernel, by decide +kernel⟩⟩ rfl rfl (Nat.le_of_ble_eq_true rfl) ⟨(Nat.le_of_ble_eq_true rfl), (Nat.le_of_ble_eq_true rfl)⟩ ⟨Nat.le_trans (show c + 2 ≤ 600000 by omega) room_c, Nat.le_trans (show s + 12 ≤ 7200000 by omega) room_s⟩ dL_law_1120 rfl rfl ?_
  refine v_istore (pc := 1123) (loc' := [(5, .int k), (4, .int (nI i)), (3, .ref ao), (2, .ref (b 0)), (1, .ref (a 0)), (0, .ref sb)]) X.1 dL_law_1123 (by decide) rfl ?_
  refine v_aload_n 3 (pc := 1125) X.1 dL_law_1125 rfl rfl ?_
  refine v_aload_n 5 (pc := 1126) X.1 dL_law_1126 rfl rfl ?_
  refine v_iload 1 (pc := 1127) X.1 dL_law_1127 rfl ?_
  refine v_iconst (pc := 1129) (v := (1 : Int32)) X.1 dL_law_1129 (by decide) ?_
  refine v_iadd (pc := 1130) X.1 dL_law_1130 ?_
  refine v_sld (pc := 1131) (n := i + 1) X.1 X.2.2.2 (by omega) (nI_add i 1) dL_law_1131 ?_
  refine v_aload_n 5 (pc := 1132) X.1 dL_law_1132 rfl rfl ?_
  refine v_iload 1 (pc := 1133) X.1 dL_law_1133 rfl ?_
  refine v_iconst (pc := 1135) (v := (2 : Int32)) X.1 dL_law_1135 (by decide) ?_
  refine v_iadd (pc := 1136) X.1 dL_law_1136 ?_
  refine v_sld (pc := 1137) (n := i + 2) X.1 X.2.2.2 (by omega) (nI_add i 2) dL_law_1137 ?_
  refine v_callM [.int (xs (i + 1)), .int (xs (i + 2))] (pc := 1138) (c1 := c + 2) (s1 := s + 12) (v := .int bv) X.1 X.2.2.1 (mX9_flips X.1.hT hM) kw_140 (gM_9 (rfl : kdM 0 = 9)) rfl rfl rfl (Nat.le_of_ble_eq_true rfl) ⟨(Nat.le_of_ble_eq_true rfl), (Nat.le_of_ble_eq_true rfl)⟩ ⟨Nat.le_trans (show c + 2 + 0 ≤ 600000 by omega) room_c, Nat.le_trans (show s + 12 + 0 ≤ 7200000 by omega) room_s⟩ dL_law_1138 rfl rfl ?_
  refine v_istore (pc := 1141) (loc' := [(6, .int bv), (5, .int k), (4, .int (nI i)), (3, .ref ao), (2, .ref (b 0)), (1, .ref (a 0)), (0, .ref sb)]) X.1 dL_law_1141 (by decide) rfl ?_
  refine v_aload_n 4 (pc := 1143) X.1 dL_law_1143 rfl rfl ?_
  refine v_callM [] (pc := 1144) (c1 := c + 2) (s1 := s + 12) (v := .int k) X.1 X.2.2.1 (mX9_thrown X.1.hT ht) kw_96 (gM_9 (rfl : kdM 0 = 9)) rfl rfl rfl (Nat.le_of_ble_eq_true rfl) ⟨(Nat.le_of_ble_eq_true rfl), (Nat.le_of_ble_eq_true rfl)⟩ ⟨Nat.le_trans (show c + 2 + 0 ≤ 600000 by omega) room_c, Nat.le_trans (show s + 12 + 0 ≤ 7200000 by omega) room_s⟩ dL_law_1144 rfl rfl ?_
  refine v_iload 1 (pc := 1147) X.1 dL_law_1147 rfl ?_
  refine v_icmp_eq 1154 (pc := 1149) X.1 dL_law_1149 (by decide) (fun _ => ?_) (fun q => absurd rfl q)
  refine v_iload 1 (pc := 1154) X.1 dL_law_1154 rfl ?_
  refine v_if_ne 1171 (pc := 1156) X.1 dL_law_1156 (by decide) (fun _ => ?_) (fun hk0 => ?_)
  · refine z_sub [2, 3, 4, 5, 6] rfl ?_
    refine z_widen (c' := c + 8) (s' := s + 48) (by omega) (by omega) ?_
    exact v_goto 1822 (pc := 1171) X.1 dL_law_1171 (by decide) kk
  · refine v_aload_n 3 (pc := 1159) X.1 dL_law_1159 rfl rfl ?_
    refine v_iconst (pc := 1160) (v := (0 : Int32)) X.1 dL_law_1160 (by decide) ?_
    refine v_lald (pc := 1161) X.1 vi_01 dL_law_1161 ?_
    rw [hk hk0]
    refine v_iload 0 (pc := 1162) X.1 dL_law_1162 rfl ?_
    refine v_i2l (pc := 1164) X.1 dL_law_1164 ?_
    refine v_lcmp (pc := 1165) X.1 dL_law_1165 ?_
    rw [lcmp_self]
    refine v_if_eq 1171 (pc := 1166) X.1 dL_law_1166 (by decide) (fun _ => ?_) (fun q => absurd rfl q)
    refine z_sub [2, 3, 4, 5, 6] rfl ?_
    refine z_widen (c' := c + 8) (s' := s + 48) (by omega) (by omega) ?_
    exact v_goto 1822 (pc := 1171) X.1 dL_law_1171 (by decide) kk
theorem kw_143 : CallVok RL 143 yX9_flipsAnew cX9_flipsAnew 3 (some .int) 2 := ⟨bw_24_2, bw_24_3, bw_24_4, bw_1_5, bw_24_5, ⟨by decide +kernel, by decide +kernel, by decide +kernel⟩⟩
set_option maxHeartbeats 1000000 in
theorem law_c13 {E : ET} {a b : Nat → Nat} {ao sb L : Nat} {xs : Nat → Int32} (X : LX E a ao b sb L xs) {i : Nat} (hi : i + 7 ≤ L) {S M S' M' : St} {f f' : Nat → Int64} {k : Int32} {bv : Int32} {c s : Nat} (hc : c + 8 ≤ 600000) (hs : s + 48 ≤ 7200000) (hO : MO (e_l E) (e_D E) (e_k E) a ao yL_flipsAnew cL_flipsAnew 5 [(0, 10, 13, 24)] rmL_flipsAnew [.ref (a 0), .int (xs (i + 1)), .int (xs (i + 2)), .ref ao] S f k S' f') (hM : fX9_flipsAnew M (xs (i + 1)) (xs (i + 2)) = some (bv, M')) (ht : fX9_thrown M' = some k) (hk : k = 0 → f' (0 : Int32).toNatClampNeg = bv.toInt64)
    (kk : Zz E (LW E a ao b S' f' M') (c + 8) (s + 48) 1822 [(4, .int (nI i)), (3, .ref ao), (2, .ref (b 0)), (1, .ref (a 0)), (0, .ref sb)] []) : Zz E (LW E a ao b S f M) c s 1174 [(4, .int (nI i)), (3, .ref ao), (2, .ref (b 0)), (1, .ref (a 0)), (0, .ref sb)] [] := by
  refine v_aload_n 3 (pc := 1174) X.1 dL_law_1174 rfl rfl ?_
  refine v_aload_n 4 (pc := 1175) X.1 dL_law_1175 rfl rfl ?_
  refine v_iload 0 (pc := 1176) X.1 dL_law_1176 rfl ?_
  refine v_iconst (pc := 1178) (v := (1 : Int32)) X.1 dL_law_1178 (by decide) ?_
  refine v_iadd (pc := 1179) X.1 dL_law_1179 ?_
  refine v_sld (pc := 1180) (n := i + 1) X.1 X.2.2.2 (by omega) (nI_add i 1) dL_law_1180 ?_
  refine v_aload_n 4 (pc := 1181) X.1 dL_law_1181 rfl rfl ?_
  refine v_iload 0 (pc := 1182) X.1 dL_law_1182 rfl ?_
  refine v_iconst (pc := 1184) (v := (2 : Int32)) X.1 dL_law_1184 (by decide) ?_
  refine v_iadd (pc := 1185) X.1 dL_law_1185 ?_
  refine v_sld (pc := 1186) (n := i + 2) X.1 X.2.2.2 (by omega) (nI_add i 2) dL_law_1186 ?_
  refine v_aload_n 1 (pc := 1187) X.1 dL_law_1187 rfl rfl ?_
  refine v_callW [.ref (a 0), .int (xs (i + 1)), .int (xs (i + 2)), .ref ao] (pc := 1188) (nargs := 4) (c1 := c + 2) (s1 := s + 12) X.1 X.2.1 X.2.2.1 hO ⟨bw_23_12, bw_23_13, bw_6_13, bw_23_14, ⟨by decide +kernel, by decide +kernel, by decide +kernel⟩⟩ rfl rfl (Nat.le_of_ble_eq_true rfl) ⟨(Nat.le_of_ble_eq_true rfl), (Nat.le_of_ble_eq_true rfl)⟩ ⟨Nat.le_trans (show c + 2 ≤ 600000 by omega) room_c, Nat.le_trans (show s + 12 ≤ 7200000 by omega) room_s⟩ dL_law_1188 rfl rfl ?_
  refine v_istore (pc := 1191) (loc' := [(5, .int k), (4, .int (nI i)), (3, .ref ao), (2, .ref (b 0)), (1, .ref (a 0)), (0, .ref sb)]) X.1 dL_law_1191 (by decide) rfl ?_
  refine v_aload_n 3 (pc := 1193) X.1 dL_law_1193 rfl rfl ?_
  refine v_aload_n 5 (pc := 1194) X.1 dL_law_1194 rfl rfl ?_
  refine v_iload 1 (pc := 1195) X.1 dL_law_1195 rfl ?_
  refine v_iconst (pc := 1197) (v := (1 : Int32)) X.1 dL_law_1197 (by decide) ?_
  refine v_iadd (pc := 1198) X.1 dL_law_1198 ?_
  refine v_sld (pc := 1199) (n := i + 1) X.1 X.2.2.2 (by omega) (nI_add i 1) dL_law_1199 ?_
  refine v_aload_n 5 (pc := 1200) X.1 dL_law_1200 rfl rfl ?_
  refine v_iload 1 (pc := 1201) X.1 dL_law_1201 rfl ?_
  refine v_iconst (pc := 1203) (v := (2 : Int32)) X.1 dL_law_1203 (by decide) ?_
  refine v_iadd (pc := 1204) X.1 dL_law_1204 ?_
  refine v_sld (pc := 1205) (n := i + 2) X.1 X.2.2.2 (by omega) (nI_add i 2) dL_law_1205 ?_
  refine v_callM [.int (xs (i + 1)), .int (xs (i + 2))] (pc := 1206) (c1 := c + 2) (s1 := s + 12) (v := .int bv) X.1 X.2.2.1 (mX9_flipsAnew X.1.hT hM) kw_143 (gM_9 (rfl : kdM 0 = 9)) rfl rfl rfl (Nat.le_of_ble_eq_true rfl) ⟨(Nat.le_of_ble_eq_true rfl), (Nat.le_of_ble_eq_true rfl)⟩ ⟨Nat.le_trans (show c + 2 + 0 ≤ 600000 by omega) room_c, Nat.le_trans (show s + 12 + 0 ≤ 7200000 by omega) room_s⟩ dL_law_1206 rfl rfl ?_
  refine v_istore (pc := 1209) (loc' := [(6, .int bv), (5, .int k), (4, .int (nI i)), (3, .ref ao), (2, .ref (b 0)), (1, .ref (a 0)), (0, .ref sb)]) X.1 dL_law_1209 (by decide) rfl ?_
  refine v_aload_n 4 (pc := 1211) X.1 dL_law_1211 rfl rfl ?_
  refine v_callM [] (pc := 1212) (c1 := c + 2) (s1 := s + 12) (v := .int k) X.1 X.2.2.1 (mX9_thrown X.1.hT ht) kw_96 (gM_9 (rfl : kdM 0 = 9)) rfl rfl rfl (Nat.le_of_ble_eq_true rfl) ⟨(Nat.le_of_ble_eq_true rfl), (Nat.le_of_ble_eq_true rfl)⟩ ⟨Nat.le_trans (show c + 2 + 0 ≤ 600000 by omega) room_c, Nat.le_trans (show s + 12 + 0 ≤ 7200000 by omega) room_s⟩ dL_law_1212 rfl rfl ?_
  refine v_iload 1 (pc := 1215) X.1 dL_law_1215 rfl ?_
  refine v_icmp_eq 1222 (pc := 1217) X.1 dL_law_1217 (by decide) (fun _ => ?_) (fun q => absurd rfl q)
  refine v_iload 1 (pc := 1222) X.1 dL_law_1222 rfl ?_
  refine v_if_ne 1239 (pc := 1224) X.1 dL_law_1224 (by decide) (fun _ => ?_) (fun hk0 => ?_)
  · refine z_sub [2, 3, 4, 5, 6] rfl ?_
    refine z_widen (c' := c + 8) (s' := s + 48) (by omega) (by omega) ?_
    exact v_goto 1822 (pc := 1239) X.1 dL_law_1239 (by decide) kk
  · refine v_aload_n 3 (pc := 1227) X.1 dL_law_1227 rfl rfl ?_
    refine v_iconst (pc := 1228) (v := (0 : Int32)) X.1 dL_law_1228 (by decide) ?_
    refine v_lald (pc := 1229) X.1 vi_01 dL_law_1229 ?_
    rw [hk hk0]
    refine v_iload 0 (pc := 1230) X.1 dL_law_1230 rfl ?_
    refine v_i2l (pc := 1232) X.1 dL_law_1232 ?_
    refine v_lcmp (pc := 1233) X.1 dL_law_1233 ?_
    rw [lcmp_self]
    refine v_if_eq 1239 (pc := 1234) X.1 dL_law_1234 (by decide) (fun _ => ?_) (fun q => absurd rfl q)
    refine z_sub [2, 3, 4, 5, 6] rfl ?_
    refine z_widen (c' := c + 8) (s' := s + 48) (by omega) (by omega) ?_
    exact v_goto 1822 (pc := 1239) X.1 dL_law_1239 (by decide) kk
theorem kw_146 : CallVok RL 146 yX9_ordered cX9_ordered 10 (some .int) 3 := ⟨bw_24_15, bw_24_16, bw_24_17, bw_1_5, bw_24_18, ⟨by decide +kernel, by decide +kernel, by decide +kernel⟩⟩
set_option maxHeartbeats 1000000 in
theorem law_c14 {E : ET} {a b : Nat → Nat} {ao sb L : Nat} {xs : Nat → Int32} (X : LX E a ao b sb L xs) {i : Nat} (hi : i + 7 ≤ L) {S M S' M' : St} {f f' : Nat → Int64} {k : Int32} {bv : Int32} {c s : Nat} (hc : c + 8 ≤ 600000) (hs : s + 48 ≤ 7200000) (hO : MO (e_l E) (e_D E) (e_k E) a ao yL_ordered cL_ordered 6 [(0, 12, 15, 24)] rmL_ordered [.ref (a 0), .int (xs (i + 1)), .int (xs (i + 2)), .int (xs (i + 3)), .ref ao] S f k S' f') (hM : fX9_ordered M (xs (i + 1)) (xs (i + 2)) (xs (i + 3)) = some (bv, M')) (ht : fX9_thrown M' = some k) (hk : k = 0 → f' (0 : Int32).toNatClampNeg = bv.toInt64)
    (kk : Zz E (LW E a ao b S' f' M') (c + 8) (s + 48) 1822 [(4, .int (nI i)), (3, .ref ao), (2, .ref (b 0)), (1, .ref (a 0)), (0, .ref sb)] []) : Zz E (LW E a ao b S f M) c s 1242 [(4, .int (nI i)), (3, .ref ao), (2, .ref (b 0)), (1, .ref (a 0)), (0, .ref sb)] [] := by
  refine v_aload_n 3 (pc := 1242) X.1 dL_law_1242 rfl rfl ?_
  refine v_aload_n 4 (pc := 1243) X.1 dL_law_1243 rfl rfl ?_
  refine v_iload 0 (pc := 1244) X.1 dL_law_1244 rfl ?_
  refine v_iconst (pc := 1246) (v := (1 : Int32)) X.1 dL_law_1246 (by decide) ?_
  refine v_iadd (pc := 1247) X.1 dL_law_1247 ?_
  refine v_sld (pc := 1248) (n := i + 1) X.1 X.2.2.2 (by omega) (nI_add i 1) dL_law_1248 ?_
  refine v_aload_n 4 (pc := 1249) X.1 dL_law_1249 rfl rfl ?_
  refine v_iload 0 (pc := 1250) X.1 dL_law_1250 rfl ?_
  refine v_iconst (pc := 1252) (v := (2 : Int32)) X.1 dL_law_1252 (by decide) ?_
  refine v_iadd (pc := 1253) X.1 dL_law_1253 ?_
  refine v_sld (pc := 1254) (n := i + 2) X.1 X.2.2.2 (by omega) (nI_add i 2) dL_law_1254 ?_
  refine v_aload_n 4 (pc := 1255) X.1 dL_law_1255 rfl rfl ?_
  refine v_iload 0 (pc := 1256) X.1 dL_law_1256 rfl ?_
  refine v_iconst (pc := 1258) (v := (3 : Int32)) X.1 dL_law_1258 (by decide) ?_
  refine v_iadd (pc := 1259) X.1 dL_law_1259 ?_
  refine v_sld (pc := 1260) (n := i + 3) X.1 X.2.2.2 (by omega) (nI_add i 3) dL_law_1260 ?_
  refine v_aload_n 1 (pc := 1261) X.1 dL_law_1261 rfl rfl ?_
  refine v_callW [.ref (a 0), .int (xs (i + 1)), .int (xs (i + 2)), .int (xs (i + 3)), .ref ao] (pc := 1262) (nargs := 5) (c1 := c + 3) (s1 := s + 18) X.1 X.2.1 X.2.2.1 hO ⟨bw_24_6, bw_24_7, bw_6_13, bw_24_8, ⟨by decide +kernel, by decide +kernel, by decide +kernel⟩⟩ rfl rfl (Nat.le_of_ble_eq_true rfl) ⟨(Nat.le_of_ble_eq_true rfl), (Nat.le_of_ble_eq_true rfl)⟩ ⟨Nat.le_trans (show c + 3 ≤ 600000 by omega) room_c, Nat.le_trans (show s + 18 ≤ 7200000 by omega) room_s⟩ dL_law_1262 rfl rfl ?_
  refine v_istore (pc := 1265) (loc' := [(5, .int k), (4, .int (nI i)), (3, .ref ao), (2, .ref (b 0)), (1, .ref (a 0)), (0, .ref sb)]) X.1 dL_law_1265 (by decide) rfl ?_
  refine v_aload_n 3 (pc := 1267) X.1 dL_law_1267 rfl rfl ?_
  refine v_aload_n 5 (pc := 1268) X.1 dL_law_1268 rfl rfl ?_
  refine v_iload 1 (pc := 1269) X.1 dL_law_1269 rfl ?_
  refine v_iconst (pc := 1271) (v := (1 : Int32)) X.1 dL_law_1271 (by decide) ?_
  refine v_iadd (pc := 1272) X.1 dL_law_1272 ?_
  refine v_sld (pc := 1273) (n := i + 1) X.1 X.2.2.2 (by omega) (nI_add i 1) dL_law_1273 ?_
  refine v_aload_n 5 (pc := 1274) X.1 dL_law_1274 rfl rfl ?_
  refine v_iload 1 (pc := 1275) X.1 dL_law_1275 rfl ?_
  refine v_iconst (pc := 1277) (v := (2 : Int32)) X.1 dL_law_1277 (by decide) ?_
  refine v_iadd (pc := 1278) X.1 dL_law_1278 ?_
  refine v_sld (pc := 1279) (n := i + 2) X.1 X.2.2.2 (by omega) (nI_add i 2) dL_law_1279 ?_
  refine v_aload_n 5 (pc := 1280) X.1 dL_law_1280 rfl rfl ?_
  refine v_iload 1 (pc := 1281) X.1 dL_law_1281 rfl ?_
  refine v_iconst (pc := 1283) (v := (3 : Int32)) X.1 dL_law_1283 (by decide) ?_
  refine v_iadd (pc := 1284) X.1 dL_law_1284 ?_
  refine v_sld (pc := 1285) (n := i + 3) X.1 X.2.2.2 (by omega) (nI_add i 3) dL_law_1285 ?_
  refine v_callM [.int (xs (i + 1)), .int (xs (i + 2)), .int (xs (i + 3))] (pc := 1286) (c1 := c + 3) (s1 := s + 18) (v := .int bv) X.1 X.2.2.1 (mX9_ordered X.1.hT hM) kw_146 (gM_9 (rfl : kdM 0 = 9)) rfl rfl rfl (Nat.le_of_ble_eq_true rfl) ⟨(Nat.le_of_ble_eq_true rfl), (Nat.le_of_ble_eq_true rfl)⟩ ⟨Nat.le_trans (show c + 3 + 0 ≤ 600000 by omega) room_c, Nat.le_trans (show s + 18 + 0 ≤ 7200000 by omega) room_s⟩ dL_law_1286 rfl rfl ?_
  refine v_istore (pc := 1289) (loc' := [(6, .int bv), (5, .int k), (4, .int (nI i)), (3, .ref ao), (2, .ref (b 0)), (1, .ref (a 0)), (0, .ref sb)]) X.1 dL_law_1289 (by decide) rfl ?_
  refine v_aload_n 4 (pc := 1291) X.1 dL_law_1291 rfl rfl ?_
  refine v_callM [] (pc := 1292) (c1 := c + 3) (s1 := s + 18) (v := .int k) X.1 X.2.2.1 (mX9_thrown X.1.hT ht) kw_96 (gM_9 (rfl : kdM 0 = 9)) rfl rfl rfl (Nat.le_of_ble_eq_true rfl) ⟨(Nat.le_of_ble_eq_true rfl), (Nat.le_of_ble_eq_true rfl)⟩ ⟨Nat.le_trans (show c + 3 + 0 ≤ 600000 by omega) room_c, Nat.le_trans (show s + 18 + 0 ≤ 7200000 by omega) room_s⟩ dL_law_1292 rfl rfl ?_
  refine v_iload 1 (pc := 1295) X.1 dL_law_1295 rfl ?_
  refine v_icmp_eq 1302 (pc := 1297) X.1 dL_law_1297 (by decide) (fun _ => ?_) (fun q => absurd rfl q)
  refine v_iload 1 (pc := 1302) X.1 dL_law_1302 rfl ?_
  refine v_if_ne 1319 (pc := 1304) X.1 dL_law_1304 (by decide) (fun _ => ?_) (fun hk0 => ?_)
  · refine z_sub [2, 3, 4, 5, 6] rfl ?_
    refine z_widen (c' := c + 8) (s' := s + 48) (by omega) (by omega) ?_
    exact v_goto 1822 (pc := 1319) X.1 dL_law_1319 (by decide) kk
  · refine v_aload_n 3 (pc := 1307) X.1 dL_law_1307 rfl rfl ?_
    refine v_iconst (pc := 1308) (v := (0 : Int32)) X.1 dL_law_1308 (by decide) ?_
    refine v_lald (pc := 1309) X.1 vi_01 dL_law_1309 ?_
    rw [hk hk0]
    refine v_iload 0 (pc := 1310) X.1 dL_law_1310 rfl ?_
    refine v_i2l (pc := 1312) X.1 dL_law_1312 ?_
    refine v_lcmp (pc := 1313) X.1 dL_law_1313 ?_
    rw [lcmp_self]
    refine v_if_eq 1319 (pc := 1314) X.1 dL_law_1314 (by decide) (fun _ => ?_) (fun q => absurd rfl q)
    refine z_sub [2, 3, 4, 5, 6] rfl ?_
    refine z_widen (c' := c + 8) (s' := s + 48) (by omega) (by omega) ?_
    exact v_goto 1822 (pc := 1319) X.1 dL_law_1319 (by decide) kk
theorem kw_149 : CallVok RL 149 yX9_want cX9_want 4 (some .int) 2 := ⟨bw_25_3, bw_25_4, bw_25_5, bw_1_5, bw_25_6, ⟨by decide +kernel, by decide +kernel, by decide +kernel⟩⟩
set_option maxHeartbeats 1000000 in
theorem law_c15 {E : ET} {a b : Nat → Nat} {ao sb L : Nat} {xs : Nat → Int32} (X : LX E a ao b sb L xs) {i : Nat} (hi : i + 7 ≤ L) {S M S' M' : St} {f f' : Nat → Int64} {k : Int32} {bv : Int32} {c s : Nat} (hc : c + 8 ≤ 600000) (hs : s + 48 ≤ 7200000) (hO : MO (e_l E) (e_D E) (e_k E) a ao yL_want cL_want 5 [(0, 10, 13, 24), (0, 10, 17, 13), (0, 10, 21, 15)] rmL_want [.ref (a 0), .int (xs (i + 1)), .int (xs (i + 2)), .ref ao] S f k S' f') (hM : fX9_want M (xs (i + 1)) (xs (i + 2)) = some (bv, M')) (ht : fX9_thrown M' = some k) (hk : k = 0 → f' (0 : Int32).toNatClampNeg = bv.toInt64)
    (kk : Zz E (LW E a ao b S' f' M') (c + 8) (s + 48) 1822 [(4, .int (nI i)), (3, .ref ao), (2, .ref (b 0)), (1, .ref (a 0)), (0, .ref sb)] []) : Zz E (LW E a ao b S f M) c s 1322 [(4, .int (nI i)), (3, .ref ao), (2, .ref (b 0)), (1, .ref (a 0)), (0, .ref sb)] [] := by
  refine v_aload_n 3 (pc := 1322) X.1 dL_law_1322 rfl rfl ?_
  refine v_aload_n 4 (pc := 1323) X.1 dL_law_1323 rfl rfl ?_
  refine v_iload 0 (pc := 1324) X.1 dL_law_1324 rfl ?_
  refine v_iconst (pc := 1326) (v := (1 : Int32)) X.1 dL_law_1326 (by decide) ?_
  refine v_iadd (pc := 1327) X.1 dL_law_1327 ?_
  refine v_sld (pc := 1328) (n := i + 1) X.1 X.2.2.2 (by omega) (nI_add i 1) dL_law_1328 ?_
  refine v_aload_n 4 (pc := 1329) X.1 dL_law_1329 rfl rfl ?_
  refine v_iload 0 (pc := 1330) X.1 dL_law_1330 rfl ?_
  refine v_iconst (pc := 1332) (v := (2 : Int32)) X.1 dL_law_1332 (by decide) ?_
  refine v_iadd (pc := 1333) X.1 dL_law_1333 ?_
  refine v_sld (pc := 1334) (n := i + 2) X.1 X.2.2.2 (by omega) (nI_add i 2) dL_law_1334 ?_
  refine v_aload_n 1 (pc := 1335) X.1 dL_law_1335 rfl rfl ?_
  refine v_callW [.ref (a 0), .int (xs (i + 1)), .int (xs (i + 2)), .ref ao] (pc := 1336) (nargs := 4) (c1 := c + 2) (s1 := s + 12) X.1 X.2.1 X.2.2.1 hO ⟨bw_24_19, bw_24_20, bw_6_13, bw_24_21, ⟨by decide +kernel, by decide +kernel, by decide +kernel⟩⟩ rfl rfl (Nat.le_of_ble_eq_true rfl) ⟨(Nat.le_of_ble_eq_true rfl), (Nat.le_of_ble_eq_true rfl)⟩ ⟨Nat.le_trans (show c + 2 ≤ 600000 by omega) room_c, Nat.le_trans (show s + 12 ≤ 7200000 by omega) room_s⟩ dL_law_1336 rfl rfl ?_
  refine v_istore (pc := 1339) (loc' := [(5, .int k), (4, .int (nI i)), (3, .ref ao), (2, .ref (b 0)), (1, .ref (a 0)), (0, .ref sb)]) X.1 dL_law_1339 (by decide) rfl ?_
  refine v_aload_n 3 (pc := 1341) X.1 dL_law_1341 rfl rfl ?_
  refine v_aload_n 5 (pc := 1342) X.1 dL_law_1342 rfl rfl ?_
  refine v_iload 1 (pc := 1343) X.1 dL_law_1343 rfl ?_
  refine v_iconst (pc := 1345) (v := (1 : Int32)) X.1 dL_law_1345 (by decide) ?_
  refine v_iadd (pc := 1346) X.1 dL_law_1346 ?_
  refine v_sld (pc := 1347) (n := i + 1) X.1 X.2.2.2 (by omega) (nI_add i 1) dL_law_1347 ?_
  refine v_aload_n 5 (pc := 1348) X.1 dL_law_1348 rfl rfl ?_
  refine v_iload 1 (pc := 1349) X.1 dL_law_1349 rfl ?_
  refine v_iconst (pc := 1351) (v := (2 : Int32)) X.1 dL_law_1351 (by decide) ?_
  refine v_iadd (pc := 1352) X.1 dL_law_1352 ?_
  refine v_sld (pc := 1353) (n := i + 2) X.1 X.2.2.2 (by omega) (nI_add i 2) dL_law_1353 ?_
  refine v_callM [.int (xs (i + 1)), .int (xs (i + 2))] (pc := 1354) (c1 := c + 2) (s1 := s + 12) (v := .int bv) X.1 X.2.2.1 (mX9_want X.1.hT hM) kw_149 (gM_9 (rfl : kdM 0 = 9)) rfl rfl rfl (Nat.le_of_ble_eq_true rfl) ⟨(Nat.le_of_ble_eq_true rfl), (Nat.le_of_ble_eq_true rfl)⟩ ⟨Nat.le_trans (show c + 2 + 0 ≤ 600000 by omega) room_c, Nat.le_trans (show s + 12 + 0 ≤ 7200000 by omega) room_s⟩ dL_law_1354 rfl rfl ?_
  refine v_istore (pc := 1357) (loc' := [(6, .int bv), (5, .int k), (4, .int (nI i)), (3, .ref ao), (2, .ref (b 0)), (1, .ref (a 0)), (0, .ref sb)]) X.1 dL_law_1357 (by decide) rfl ?_
  refine v_aload_n 4 (pc := 1359) X.1 dL_law_1359 rfl rfl ?_
  refine v_callM [] (pc := 1360) (c1 := c + 2) (s1 := s + 12) (v := .int k) X.1 X.2.2.1 (mX9_thrown X.1.hT ht) kw_96 (gM_9 (rfl : kdM 0 = 9)) rfl rfl rfl (Nat.le_of_ble_eq_true rfl) ⟨(Nat.le_of_ble_eq_true rfl), (Nat.le_of_ble_eq_true rfl)⟩ ⟨Nat.le_trans (show c + 2 + 0 ≤ 600000 by omega) room_c, Nat.le_trans (show s + 12 + 0 ≤ 7200000 by omega) room_s⟩ dL_law_1360 rfl rfl ?_
  refine v_iload 1 (pc := 1363) X.1 dL_law_1363 rfl ?_
  refine v_icmp_eq 1370 (pc := 1365) X.1 dL_law_1365 (by decide) (fun _ => ?_) (fun q => absurd rfl q)
  refine v_iload 1 (pc := 1370) X.1 dL_law_1370 rfl ?_
  refine v_if_ne 1387 (pc := 1372) X.1 dL_law_1372 (by decide) (fun _ => ?_) (fun hk0 => ?_)
  · refine z_sub [2, 3, 4, 5, 6] rfl ?_
    refine z_widen (c' := c + 8) (s' := s + 48) (by omega) (by omega) ?_
    exact v_goto 1822 (pc := 1387) X.1 dL_law_1387 (by decide) kk
  · refine v_aload_n 3 (pc := 1375) X.1 dL_law_1375 rfl rfl ?_
    refine v_iconst (pc := 1376) (v := (0 : Int32)) X.1 dL_law_1376 (by decide) ?_
    refine v_lald (pc := 1377) X.1 vi_01 dL_law_1377 ?_
    rw [hk hk0]
    refine v_iload 0 (pc := 1378) X.1 dL_law_1378 rfl ?_
    refine v_i2l (pc := 1380) X.1 dL_law_1380 ?_
    refine v_lcmp (pc := 1381) X.1 dL_law_1381 ?_
    rw [lcmp_self]
    refine v_if_eq 1387 (pc := 1382) X.1 dL_law_1382 (by decide) (fun _ => ?_) (fun q => absurd rfl q)
    refine z_sub [2, 3, 4, 5, 6] rfl ?_
    refine z_widen (c' := c + 8) (s' := s + 48) (by omega) (by omega) ?_
    exact v_goto 1822 (pc := 1387) X.1 dL_law_1387 (by decide) kk
theorem kw_150 : CallVok RL 150 yX8_clear cX8_clear 3 (some .int) 0 := ⟨bw_25_11, bw_25_12, bw_25_13, bw_1_2, bw_25_14, ⟨by decide +kernel, by decide +kernel, by decide +kernel⟩⟩
theorem kw_153 : CallVok RL 153 yX9_clear cX9_clear 3 (some .int) 0 := ⟨bw_25_15, bw_25_16, bw_25_17, bw_1_5, bw_25_18, ⟨by decide +kernel, by decide +kernel, by decide +kernel⟩⟩
theorem law_c16 {E : ET} {a b : Nat → Nat} {ao sb L : Nat} {xs : Nat → Int32} (X : LX E a ao b sb L xs) {i : Nat} {S M S' M' : St} {f : Nat → Int64} {v : Int32} {c s : Nat} (hc : c + 8 ≤ 600000) (hs : s + 48 ≤ 7200000) (hF : fX8_clear S = some (v, S')) (hM : fX9_clear M = some (v, M'))
    (kk : Zz E (LW E a ao b S' f M') (c + 8) (s + 48) 1822 [(4, .int (nI i)), (3, .ref ao), (2, .ref (b 0)), (1, .ref (a 0)), (0, .ref sb)] []) : Zz E (LW E a ao b S f M) c s 1390 [(4, .int (nI i)), (3, .ref ao), (2, .ref (b 0)), (1, .ref (a 0)), (0, .ref sb)] [] := by
  refine v_aload_n 3 (pc := 1390) X.1 dL_law_1390 rfl rfl ?_
  refine v_callX [] (pc := 1391) (c1 := c) (s1 := s) (v := .int v) X.1 X.2.2.1 (mX8_clear X.1.hT hF) kw_150 (gX_8 (rfl : kdX 0 = 8)) rfl rfl rfl (Nat.le_of_ble_eq_true rfl) ⟨(Nat.le_of_ble_eq_true rfl), (Nat.le_of_ble_eq_true rfl)⟩ ⟨Nat.le_trans (show c + 0 ≤ 600000 by omega) room_c, Nat.le_trans (show s + 0 ≤ 7200000 by omega) room_s⟩ dL_law_1391 rfl rfl ?_
  refine v_aload_n 2 (pc := 1394) X.1 dL_law_1394 rfl rfl ?_
  refine v_callM [] (pc := 1395) (c1 := c) (s1 := s) (v := .int v) X.1 X.2.2.1 (mX9_clear X.1.hT hM) kw_153 (gM_9 (rfl : kdM 0 = 9)) rfl rfl rfl (Nat.le_of_ble_eq_true rfl) ⟨(Nat.le_of_ble_eq_true rfl), (Nat.le_of_ble_eq_true rfl)⟩ ⟨Nat.le_trans (show c + 0 ≤ 600000 by omega) room_c, Nat.le_trans (show s + 0 ≤ 7200000 by omega) room_s⟩ dL_law_1395 rfl rfl ?_
  refine v_icmp_eq 1822 (pc := 1398) X.1 dL_law_1398 (by decide) (fun _ => ?_) (fun q => absurd rfl q)
  exact z_widen (c' := c + 8) (s' := s + 48) (by omega) (by omega) kk
theorem kw_156 : CallVok RL 156 yX9_nest cX9_nest 15 (some .long) 4 := ⟨bw_28_7, bw_28_8, bw_28_9, bw_1_5, bw_28_10, ⟨by decide +kernel, by decide +kernel, by decide +kernel⟩⟩
set_option maxHeartbeats 1000000 in
theorem law_c17 {E : ET} {a b : Nat → Nat} {ao sb L : Nat} {xs : Nat → Int32} (X : LX E a ao b sb L xs) {i : Nat} (hi : i + 7 ≤ L) {S M S' M' : St} {f f' : Nat → Int64} {k : Int32} {bv : Int64} {c s : Nat} (hc : c + 8 ≤ 600000) (hs : s + 48 ≤ 7200000) (hO : MO (e_l E) (e_D E) (e_k E) a ao yL_nest cL_nest 7 [(0, 13, 16, 24), (0, 13, 20, 13)] rmL_nest [.ref (a 0), .int (xs (i + 1)), .int (xs (i + 2)), .int (xs (i + 3)), .int (xs (i + 4)), .ref ao] S f k S' f') (hM : fX9_nest M (xs (i + 1)) (xs (i + 2)) (xs (i + 3)) (xs (i + 4)) = some (bv, M')) (ht : fX9_thrown M' = some k) (hk : k = 0 → f' (0 : Int32).toNatClampNeg = bv)
    (kk : Zz E (LW E a ao b S' f' M') (c + 8) (s + 48) 1822 [(4, .int (nI i)), (3, .ref ao), (2, .ref (b 0)), (1, .ref (a 0)), (0, .ref sb)] []) : Zz E (LW E a ao b S f M) c s 1403 [(4, .int (nI i)), (3, .ref ao), (2, .ref (b 0)), (1, .ref (a 0)), (0, .ref sb)] [] := by
  refine v_aload_n 3 (pc := 1403) X.1 dL_law_1403 rfl rfl ?_
  refine v_aload_n 4 (pc := 1404) X.1 dL_law_1404 rfl rfl ?_
  refine v_iload 0 (pc := 1405) X.1 dL_law_1405 rfl ?_
  refine v_iconst (pc := 1407) (v := (1 : Int32)) X.1 dL_law_1407 (by decide) ?_
  refine v_iadd (pc := 1408) X.1 dL_law_1408 ?_
  refine v_sld (pc := 1409) (n := i + 1) X.1 X.2.2.2 (by omega) (nI_add i 1) dL_law_1409 ?_
  refine v_aload_n 4 (pc := 1410) X.1 dL_law_1410 rfl rfl ?_
  refine v_iload 0 (pc := 1411) X.1 dL_law_1411 rfl ?_
  refine v_iconst (pc := 1413) (v := (2 : Int32)) X.1 dL_law_1413 (by decide) ?_
  refine v_iadd (pc := 1414) X.1 dL_law_1414 ?_
  refine v_sld (pc := 1415) (n := i + 2) X.1 X.2.2.2 (by omega) (nI_add i 2) dL_law_1415 ?_
  refine v_aload_n 4 (pc := 1416) X.1 dL_law_1416 rfl rfl ?_
  refine v_iload 0 (pc := 1417) X.1 dL_law_1417 rfl ?_
  refine v_iconst (pc := 1419) (v := (3 : Int32)) X.1 dL_law_1419 (by decide) ?_
  refine v_iadd (pc := 1420) X.1 dL_law_1420 ?_
  refine v_sld (pc := 1421) (n := i + 3) X.1 X.2.2.2 (by omega) (nI_add i 3) dL_law_1421 ?_
  refine v_aload_n 4 (pc := 1422) X.1 dL_law_1422 rfl rfl ?_
  refine v_iload 0 (pc := 1423) X.1 dL_law_1423 rfl ?_
  refine v_iconst (pc := 1425) (v := (4 : Int32)) X.1 dL_law_1425 (by decide) ?_
  refine v_iadd (pc := 1426) X.1 dL_law_1426 ?_
  refine v_sld (pc := 1427) (n := i + 4) X.1 X.2.2.2 (by omega) (nI_add i 4) dL_law_1427 ?_
  refine v_aload_n 1 (pc := 1428) X.1 dL_law_1428 rfl rfl ?_
  refine v_callW [.ref (a 0), .int (xs (i + 1)), .int (xs (i + 2)), .int (xs (i + 3)), .int (xs (i + 4)), .ref ao] (pc := 1429) (nargs := 6) (c1 := c + 2) (s1 := s + 12) X.1 X.2.1 X.2.2.1 hO ⟨bw_25_19, bw_25_20, bw_6_13, bw_25_21, ⟨by decide +kernel, by decide +kernel, by decide +kernel⟩⟩ rfl rfl (Nat.le_of_ble_eq_true rfl) ⟨(Nat.le_of_ble_eq_true rfl), (Nat.le_of_ble_eq_true rfl)⟩ ⟨Nat.le_trans (show c + 2 ≤ 600000 by omega) room_c, Nat.le_trans (show s + 12 ≤ 7200000 by omega) room_s⟩ dL_law_1429 rfl rfl ?_
  refine v_istore (pc := 1432) (loc' := [(5, .int k), (4, .int (nI i)), (3, .ref ao), (2, .ref (b 0)), (1, .ref (a 0)), (0, .ref sb)]) X.1 dL_law_1432 (by decide) rfl ?_
  refine v_aload_n 3 (pc := 1434) X.1 dL_law_1434 rfl rfl ?_
  refine v_aload_n 5 (pc := 1435) X.1 dL_law_1435 rfl rfl ?_
  refine v_iload 1 (pc := 1436) X.1 dL_law_1436 rfl ?_
  refine v_iconst (pc := 1438) (v := (1 : Int32)) X.1 dL_law_1438 (by decide) ?_
  refine v_iadd (pc := 1439) X.1 dL_law_1439 ?_
  refine v_sld (pc := 1440) (n := i + 1) X.1 X.2.2.2 (by omega) (nI_add i 1) dL_law_1440 ?_
  refine v_aload_n 5 (pc := 1441) X.1 dL_law_1441 rfl rfl ?_
  refine v_iload 1 (pc := 1442) X.1 dL_law_1442 rfl ?_
  refine v_iconst (pc := 1444) (v := (2 : Int32)) X.1 dL_law_1444 (by decide) ?_
  refine v_iadd (pc := 1445) X.1 dL_law_1445 ?_
  refine v_sld (pc := 1446) (n := i + 2) X.1 X.2.2.2 (by omega) (nI_add i 2) dL_law_1446 ?_
  refine v_aload_n 5 (pc := 1447) X.1 dL_law_1447 rfl rfl ?_
  refine v_iload 1 (pc := 1448) X.1 dL_law_1448 rfl ?_
  refine v_iconst (pc := 1450) (v := (3 : Int32)) X.1 dL_law_1450 (by decide) ?_
  refine v_iadd (pc := 1451) X.1 dL_law_1451 ?_
  refine v_sld (pc := 1452) (n := i + 3) X.1 X.2.2.2 (by omega) (nI_add i 3) dL_law_1452 ?_
  refine v_aload_n 5 (pc := 1453) X.1 dL_law_1453 rfl rfl ?_
  refine v_iload 1 (pc := 1454) X.1 dL_law_1454 rfl ?_
  refine v_iconst (pc := 1456) (v := (4 : Int32)) X.1 dL_law_1456 (by decide) ?_
  refine v_iadd (pc := 1457) X.1 dL_law_1457 ?_
  refine v_sld (pc := 1458) (n := i + 4) X.1 X.2.2.2 (by omega) (nI_add i 4) dL_law_1458 ?_
  refine v_callM [.int (xs (i + 1)), .int (xs (i + 2)), .int (xs (i + 3)), .int (xs (i + 4))] (pc := 1459) (c1 := c + 2) (s1 := s + 12) (v := .long bv) X.1 X.2.2.1 (mX9_nest X.1.hT hM) kw_156 (gM_9 (rfl : kdM 0 = 9)) rfl rfl rfl (Nat.le_of_ble_eq_true rfl) ⟨(Nat.le_of_ble_eq_true rfl), (Nat.le_of_ble_eq_true rfl)⟩ ⟨Nat.le_trans (show c + 2 + 0 ≤ 600000 by omega) room_c, Nat.le_trans (show s + 12 + 0 ≤ 7200000 by omega) room_s⟩ dL_law_1459 rfl rfl ?_
  refine v_lstore (pc := 1462) (loc' := [(6, .long bv), (5, .int k), (4, .int (nI i)), (3, .ref ao), (2, .ref (b 0)), (1, .ref (a 0)), (0, .ref sb)]) X.1 dL_law_1462 (by decide) rfl ?_
  refine v_aload_n 4 (pc := 1464) X.1 dL_law_1464 rfl rfl ?_
  refine v_callM [] (pc := 1465) (c1 := c + 2) (s1 := s + 12) (v := .int k) X.1 X.2.2.1 (mX9_thrown X.1.hT ht) kw_96 (gM_9 (rfl : kdM 0 = 9)) rfl rfl rfl (Nat.le_of_ble_eq_true rfl) ⟨(Nat.le_of_ble_eq_true rfl), (Nat.le_of_ble_eq_true rfl)⟩ ⟨Nat.le_trans (show c + 2 + 0 ≤ 600000 by omega) room_c, Nat.le_trans (show s + 12 + 0 ≤ 7200000 by omega) room_s⟩ dL_law_1465 rfl rfl ?_
  refine v_iload 1 (pc := 1468) X.1 dL_law_1468 rfl ?_
  refine v_icmp_eq 1475 (pc := 1470) X.1 dL_law_1470 (by decide) (fun _ => ?_) (fun q => absurd rfl q)
  refine v_iload 1 (pc := 1475) X.1 dL_law_1475 rfl ?_
  refine v_if_ne 1491 (pc := 1477) X.1 dL_law_1477 (by decide) (fun _ => ?_) (fun hk0 => ?_)
  · refine z_sub [2, 3, 4, 5, 6] rfl ?_
    refine z_widen (c' := c + 8) (s' := s + 48) (by omega) (by omega) ?_
    exact v_goto 1822 (pc := 1491) X.1 dL_law_1491 (by decide) kk
  · refine v_aload_n 3 (pc := 1480) X.1 dL_law_1480 rfl rfl ?_
    refine v_iconst (pc := 1481) (v := (0 : Int32)) X.1 dL_law_1481 (by decide) ?_
    refine v_lald (pc := 1482) X.1 vi_01 dL_law_1482 ?_
    rw [hk hk0]
    refine v_lload 0 (pc := 1483) X.1 dL_law_1483 rfl ?_
    refine v_lcmp (pc := 1485) X.1 dL_law_1485 ?_
    rw [lcmp_self]
    refine v_if_eq 1491 (pc := 1486) X.1 dL_law_1486 (by decide) (fun _ => ?_) (fun q => absurd rfl q)
    refine z_sub [2, 3, 4, 5, 6] rfl ?_
    refine z_widen (c' := c + 8) (s' := s + 48) (by omega) (by omega) ?_
    exact v_goto 1822 (pc := 1491) X.1 dL_law_1491 (by decide) kk
theorem kw_159 : CallVok RL 159 yX9_batch cX9_batch 5 (some .int) 3 := ⟨bw_29_14, bw_29_15, bw_29_16, bw_1_5, bw_29_17, ⟨by decide +kernel, by decide +kernel, by decide +kernel⟩⟩
set_option maxHeartbeats 1000000 in
theorem law_c18 {E : ET} {a b : Nat → Nat} {ao sb L : Nat} {xs : Nat → Int32} (X : LX E a ao b sb L xs) {i : Nat} (hi : i + 7 ≤ L) {S M S' M' : St} {f f' : Nat → Int64} {k : Int32} {bv : Int32} {c s : Nat} (hc : c + 8 ≤ 600000) (hs : s + 48 ≤ 7200000) (hO : MO (e_l E) (e_D E) (e_k E) a ao yL_batch cL_batch 6 [(0, 12, 15, 24), (0, 12, 19, 13), (0, 12, 23, 15)] rmL_batch [.ref (a 0), .int (xs (i + 1)), .int (xs (i + 2)), .int (xs (i + 3)), .ref ao] S f k S' f') (hM : fX9_batch M (xs (i + 1)) (xs (i + 2)) (xs (i + 3)) = some (bv, M')) (ht : fX9_thrown M' = some k) (hk : k = 0 → f' (0 : Int32).toNatClampNeg = bv.toInt64)
    (kk : Zz E (LW E a ao b S' f' M') (c + 8) (s + 48) 1822 [(4, .int (nI i)), (3, .ref ao), (2, .ref (b 0)), (1, .ref (a 0)), (0, .ref sb)] []) : Zz E (LW E a ao b S f M) c s 1494 [(4, .int (nI i)), (3, .ref ao), (2, .ref (b 0)), (1, .ref (a 0)), (0, .ref sb)] [] := by
  refine v_aload_n 3 (pc := 1494) X.1 dL_law_1494 rfl rfl ?_
  refine v_aload_n 4 (pc := 1495) X.1 dL_law_1495 rfl rfl ?_
  refine v_iload 0 (pc := 1496) X.1 dL_law_1496 rfl ?_
  refine v_iconst (pc := 1498) (v := (1 : Int32)) X.1 dL_law_1498 (by decide) ?_
  refine v_iadd (pc := 1499) X.1 dL_law_1499 ?_
  refine v_sld (pc := 1500) (n := i + 1) X.1 X.2.2.2 (by omega) (nI_add i 1) dL_law_1500 ?_
  refine v_aload_n 4 (pc := 1501) X.1 dL_law_1501 rfl rfl ?_
  refine v_iload 0 (pc := 1502) X.1 dL_law_1502 rfl ?_
  refine v_iconst (pc := 1504) (v := (2 : Int32)) X.1 dL_law_1504 (by decide) ?_
  refine v_iadd (pc := 1505) X.1 dL_law_1505 ?_
  refine v_sld (pc := 1506) (n := i + 2) X.1 X.2.2.2 (by omega) (nI_add i 2) dL_law_1506 ?_
  refine v_aload_n 4 (pc := 1507) X.1 dL_law_1507 rfl rfl ?_
  refine v_iload 0 (pc := 1508) X.1 dL_law_1508 rfl ?_
  refine v_iconst (pc := 1510) (v := (3 : Int32)) X.1 dL_law_1510 (by decide) ?_
  refine v_iadd (pc := 1511) X.1 dL_law_1511 ?_
  refine v_sld (pc := 1512) (n := i + 3) X.1 X.2.2.2 (by omega) (nI_add i 3) dL_law_1512 ?_
  refine v_aload_n 1 (pc := 1513) X.1 dL_law_1513 rfl rfl ?_
  refine v_callW [.ref (a 0), .int (xs (i + 1)), .int (xs (i + 2)), .int (xs (i + 3)), .ref ao] (pc := 1514) (nargs := 5) (c1 := c + 3) (s1 := s + 18) X.1 X.2.1 X.2.2.1 hO ⟨bw_29_7, bw_29_8, bw_6_13, bw_29_9, ⟨by decide +kernel, by decide +kernel, by decide +kernel⟩⟩ rfl rfl (Nat.le_of_ble_eq_true rfl) ⟨(Nat.le_of_ble_eq_true rfl), (Nat.le_of_ble_eq_true rfl)⟩ ⟨Nat.le_trans (show c + 3 ≤ 600000 by omega) room_c, Nat.le_trans (show s + 18 ≤ 7200000 by omega) room_s⟩ dL_law_1514 rfl rfl ?_
  refine v_istore (pc := 1517) (loc' := [(5, .int k), (4, .int (nI i)), (3, .ref ao), (2, .ref (b 0)), (1, .ref (a 0)), (0, .ref sb)]) X.1 dL_law_1517 (by decide) rfl ?_
  refine v_aload_n 3 (pc := 1519) X.1 dL_law_1519 rfl rfl ?_
  refine v_aload_n 5 (pc := 1520) X.1 dL_law_1520 rfl rfl ?_
  refine v_iload 1 (pc := 1521) X.1 dL_law_1521 rfl ?_
  refine v_iconst (pc := 1523) (v := (1 : Int32)) X.1 dL_law_1523 (by decide) ?_
  refine v_iadd (pc := 1524) X.1 dL_law_1524 ?_
  refine v_sld (pc := 1525) (n := i + 1) X.1 X.2.2.2 (by omega) (nI_add i 1) dL_law_1525 ?_
  refine v_aload_n 5 (pc := 1526) X.1 dL_law_1526 rfl rfl ?_
  refine v_iload 1 (pc := 1527) X.1 dL_law_1527 rfl ?_
  refine v_iconst (pc := 1529) (v := (2 : Int32)) X.1 dL_law_1529 (by decide) ?_
  refine v_iadd (pc := 1530) X.1 dL_law_1530 ?_
  refine v_sld (pc := 1531) (n := i + 2) X.1 X.2.2.2 (by omega) (nI_add i 2) dL_law_1531 ?_
  refine v_aload_n 5 (pc := 1532) X.1 dL_law_1532 rfl rfl ?_
  refine v_iload 1 (pc := 1533) X.1 dL_law_1533 rfl ?_
  refine v_iconst (pc := 1535) (v := (3 : Int32)) X.1 dL_law_1535 (by decide) ?_
  refine v_iadd (pc := 1536) X.1 dL_law_1536 ?_
  refine v_sld (pc := 1537) (n := i + 3) X.1 X.2.2.2 (by omega) (nI_add i 3) dL_law_1537 ?_
  refine v_callM [.int (xs (i + 1)), .int (xs (i + 2)), .int (xs (i + 3))] (pc := 1538) (c1 := c + 3) (s1 := s + 18) (v := .int bv) X.1 X.2.2.1 (mX9_batch X.1.hT hM) kw_159 (gM_9 (rfl : kdM 0 = 9)) rfl rfl rfl (Nat.le_of_ble_eq_true rfl) ⟨(Nat.le_of_ble_eq_true rfl), (Nat.le_of_ble_eq_true rfl)⟩ ⟨Nat.le_trans (show c + 3 + 0 ≤ 600000 by omega) room_c, Nat.le_trans (show s + 18 + 0 ≤ 7200000 by omega) room_s⟩ dL_law_1538 rfl rfl ?_
  refine v_istore (pc := 1541) (loc' := [(6, .int bv), (5, .int k), (4, .int (nI i)), (3, .ref ao), (2, .ref (b 0)), (1, .ref (a 0)), (0, .ref sb)]) X.1 dL_law_1541 (by decide) rfl ?_
  refine v_aload_n 4 (pc := 1543) X.1 dL_law_1543 rfl rfl ?_
  refine v_callM [] (pc := 1544) (c1 := c + 3) (s1 := s + 18) (v := .int k) X.1 X.2.2.1 (mX9_thrown X.1.hT ht) kw_96 (gM_9 (rfl : kdM 0 = 9)) rfl rfl rfl (Nat.le_of_ble_eq_true rfl) ⟨(Nat.le_of_ble_eq_true rfl), (Nat.le_of_ble_eq_true rfl)⟩ ⟨Nat.le_trans (show c + 3 + 0 ≤ 600000 by omega) room_c, Nat.le_trans (show s + 18 + 0 ≤ 7200000 by omega) room_s⟩ dL_law_1544 rfl rfl ?_
  refine v_iload 1 (pc := 1547) X.1 dL_law_1547 rfl ?_
  refine v_icmp_eq 1554 (pc := 1549) X.1 dL_law_1549 (by decide) (fun _ => ?_) (fun q => absurd rfl q)
  refine v_iload 1 (pc := 1554) X.1 dL_law_1554 rfl ?_
  refine v_if_ne 1571 (pc := 1556) X.1 dL_law_1556 (by decide) (fun _ => ?_) (fun hk0 => ?_)
  · refine z_sub [2, 3, 4, 5, 6] rfl ?_
    refine z_widen (c' := c + 8) (s' := s + 48) (by omega) (by omega) ?_
    exact v_goto 1822 (pc := 1571) X.1 dL_law_1571 (by decide) kk
  · refine v_aload_n 3 (pc := 1559) X.1 dL_law_1559 rfl rfl ?_
    refine v_iconst (pc := 1560) (v := (0 : Int32)) X.1 dL_law_1560 (by decide) ?_
    refine v_lald (pc := 1561) X.1 vi_01 dL_law_1561 ?_
    rw [hk hk0]
    refine v_iload 0 (pc := 1562) X.1 dL_law_1562 rfl ?_
    refine v_i2l (pc := 1564) X.1 dL_law_1564 ?_
    refine v_lcmp (pc := 1565) X.1 dL_law_1565 ?_
    rw [lcmp_self]
    refine v_if_eq 1571 (pc := 1566) X.1 dL_law_1566 (by decide) (fun _ => ?_) (fun q => absurd rfl q)
    refine z_sub [2, 3, 4, 5, 6] rfl ?_
    refine z_widen (c' := c + 8) (s' := s + 48) (by omega) (by omega) ?_
    exact v_goto 1822 (pc := 1571) X.1 dL_law_1571 (by decide) kk
theorem kw_163 : CallVok RL 163 yX9_work cX9_work 4 (some .int) 1 := ⟨bw_30_9, bw_30_10, bw_30_11, bw_1_5, bw_30_12, ⟨by decide +kernel, by decide +kernel, by decide +kernel⟩⟩
set_option maxHeartbeats 1000000 in
theorem law_c19 {E : ET} {a b : Nat → Nat} {ao sb L : Nat} {xs : Nat → Int32} (X : LX E a ao b sb L xs) {i : Nat} (hi : i + 7 ≤ L) {S M S' M' : St} {f f' : Nat → Int64} {k : Int32} {bv : Int32} {c s : Nat} (hc : c + 8 ≤ 600000) (hs : s + 48 ≤ 7200000) (hO : MO (e_l E) (e_D E) (e_k E) a ao yL_work cL_work 4 [(0, 9, 12, 24), (0, 9, 15, 15)] rmL_work [.ref (a 0), .int (xs (i + 1)), .ref ao] S f k S' f') (hM : fX9_work M (xs (i + 1)) = some (bv, M')) (ht : fX9_thrown M' = some k) (hk : k = 0 → f' (0 : Int32).toNatClampNeg = bv.toInt64)
    (kk : Zz E (LW E a ao b S' f' M') (c + 8) (s + 48) 1822 [(4, .int (nI i)), (3, .ref ao), (2, .ref (b 0)), (1, .ref (a 0)), (0, .ref sb)] []) : Zz E (LW E a ao b S f M) c s 1574 [(4, .int (nI i)), (3, .ref ao), (2, .ref (b 0)), (1, .ref (a 0)), (0, .ref sb)] [] := by
  refine v_aload_n 3 (pc := 1574) X.1 dL_law_1574 rfl rfl ?_
  refine v_aload_n 4 (pc := 1575) X.1 dL_law_1575 rfl rfl ?_
  refine v_iload 0 (pc := 1576) X.1 dL_law_1576 rfl ?_
  refine v_iconst (pc := 1578) (v := (1 : Int32)) X.1 dL_law_1578 (by decide) ?_
  refine v_iadd (pc := 1579) X.1 dL_law_1579 ?_
  refine v_sld (pc := 1580) (n := i + 1) X.1 X.2.2.2 (by omega) (nI_add i 1) dL_law_1580 ?_
  refine v_aload_n 1 (pc := 1581) X.1 dL_law_1581 rfl rfl ?_
  refine v_callW [.ref (a 0), .int (xs (i + 1)), .ref ao] (pc := 1582) (nargs := 3) (c1 := c + 2) (s1 := s + 12) X.1 X.2.1 X.2.2.1 hO ⟨bw_29_18, bw_29_19, bw_6_13, bw_29_20, ⟨by decide +kernel, by decide +kernel, by decide +kernel⟩⟩ rfl rfl (Nat.le_of_ble_eq_true rfl) ⟨(Nat.le_of_ble_eq_true rfl), (Nat.le_of_ble_eq_true rfl)⟩ ⟨Nat.le_trans (show c + 2 ≤ 600000 by omega) room_c, Nat.le_trans (show s + 12 ≤ 7200000 by omega) room_s⟩ dL_law_1582 rfl rfl ?_
  refine v_istore (pc := 1585) (loc' := [(5, .int k), (4, .int (nI i)), (3, .ref ao), (2, .ref (b 0)), (1, .ref (a 0)), (0, .ref sb)]) X.1 dL_law_1585 (by decide) rfl ?_
  refine v_aload_n 3 (pc := 1587) X.1 dL_law_1587 rfl rfl ?_
  refine v_aload_n 5 (pc := 1588) X.1 dL_law_1588 rfl rfl ?_
  refine v_iload 1 (pc := 1589) X.1 dL_law_1589 rfl ?_
  refine v_iconst (pc := 1591) (v := (1 : Int32)) X.1 dL_law_1591 (by decide) ?_
  refine v_iadd (pc := 1592) X.1 dL_law_1592 ?_
  refine v_sld (pc := 1593) (n := i + 1) X.1 X.2.2.2 (by omega) (nI_add i 1) dL_law_1593 ?_
  refine v_callM [.int (xs (i + 1))] (pc := 1594) (c1 := c + 2) (s1 := s + 12) (v := .int bv) X.1 X.2.2.1 (mX9_work X.1.hT hM) kw_163 (gM_9 (rfl : kdM 0 = 9)) rfl rfl rfl (Nat.le_of_ble_eq_true rfl) ⟨(Nat.le_of_ble_eq_true rfl), (Nat.le_of_ble_eq_true rfl)⟩ ⟨Nat.le_trans (show c + 2 + 0 ≤ 600000 by omega) room_c, Nat.le_trans (show s + 12 + 0 ≤ 7200000 by omega) room_s⟩ dL_law_1594 rfl rfl ?_
  refine v_istore (pc := 1597) (loc' := [(6, .int bv), (5, .int k), (4, .int (nI i)), (3, .ref ao), (2, .ref (b 0)), (1, .ref (a 0)), (0, .ref sb)]) X.1 dL_law_1597 (by decide) rfl ?_
  refine v_aload_n 4 (pc := 1599) X.1 dL_law_1599 rfl rfl ?_
  refine v_callM [] (pc := 1600) (c1 := c + 2) (s1 := s + 12) (v := .int k) X.1 X.2.2.1 (mX9_thrown X.1.hT ht) kw_96 (gM_9 (rfl : kdM 0 = 9)) rfl rfl rfl (Nat.le_of_ble_eq_true rfl) ⟨(Nat.le_of_ble_eq_true rfl), (Nat.le_of_ble_eq_true rfl)⟩ ⟨Nat.le_trans (show c + 2 + 0 ≤ 600000 by omega) room_c, Nat.le_trans (show s + 12 + 0 ≤ 7200000 by omega) room_s⟩ dL_law_1600 rfl rfl ?_
  refine v_iload 1 (pc := 1603) X.1 dL_law_1603 rfl ?_
  refine v_icmp_eq 1610 (pc := 1605) X.1 dL_law_1605 (by decide) (fun _ => ?_) (fun q => absurd rfl q)
  refine v_iload 1 (pc := 1610) X.1 dL_law_1610 rfl ?_
  refine v_if_ne 1627 (pc := 1612) X.1 dL_law_1612 (by decide) (fun _ => ?_) (fun hk0 => ?_)
  · refine z_sub [2, 3, 4, 5, 6] rfl ?_
    refine z_widen (c' := c + 8) (s' := s + 48) (by omega) (by omega) ?_
    exact v_goto 1822 (pc := 1627) X.1 dL_law_1627 (by decide) kk
  · refine v_aload_n 3 (pc := 1615) X.1 dL_law_1615 rfl rfl ?_
    refine v_iconst (pc := 1616) (v := (0 : Int32)) X.1 dL_law_1616 (by decide) ?_
    refine v_lald (pc := 1617) X.1 vi_01 dL_law_1617 ?_
    rw [hk hk0]
    refine v_iload 0 (pc := 1618) X.1 dL_law_1618 rfl ?_
    refine v_i2l (pc := 1620) X.1 dL_law_1620 ?_
    refine v_lcmp (pc := 1621) X.1 dL_law_1621 ?_
    rw [lcmp_self]
    refine v_if_eq 1627 (pc := 1622) X.1 dL_law_1622 (by decide) (fun _ => ?_) (fun q => absurd rfl q)
    refine z_sub [2, 3, 4, 5, 6] rfl ?_
    refine z_widen (c' := c + 8) (s' := s + 48) (by omega) (by omega) ?_
    exact v_goto 1822 (pc := 1627) X.1 dL_law_1627 (by decide) kk
theorem kw_166 : CallVok RL 166 yX9_batchOf cX9_batchOf 4 (some .int) 2 := ⟨bw_31_0, bw_31_1, bw_31_2, bw_1_5, bw_31_3, ⟨by decide +kernel, by decide +kernel, by decide +kernel⟩⟩
set_option maxHeartbeats 1000000 in
theorem law_c20 {E : ET} {a b : Nat → Nat} {ao sb L : Nat} {xs : Nat → Int32} (X : LX E a ao b sb L xs) {i : Nat} (hi : i + 7 ≤ L) {S M S' M' : St} {f f' : Nat → Int64} {k : Int32} {bv : Int32} {c s : Nat} (hc : c + 8 ≤ 600000) (hs : s + 48 ≤ 7200000) (hO : MO (e_l E) (e_D E) (e_k E) a ao yL_batchOf cL_batchOf 5 [(0, 10, 13, 24), (0, 10, 17, 13)] rmL_batchOf [.ref (a 0), .int (xs (i + 1)), .int (xs (i + 2)), .ref ao] S f k S' f') (hM : fX9_batchOf M (xs (i + 1)) (xs (i + 2)) = some (bv, M')) (ht : fX9_thrown M' = some k) (hk : k = 0 → f' (0 : Int32).toNatClampNeg = bv.toInt64)
    (kk : Zz E (LW E a ao b S' f' M') (c + 8) (s + 48) 1822 [(4, .int (nI i)), (3, .ref ao), (2, .ref (b 0)), (1, .ref (a 0)), (0, .ref sb)] []) : Zz E (LW E a ao b S f M) c s 1630 [(4, .int (nI i)), (3, .ref ao), (2, .ref (b 0)), (1, .ref (a 0)), (0, .ref sb)] [] := by
  refine v_aload_n 3 (pc := 1630) X.1 dL_law_1630 rfl rfl ?_
  refine v_aload_n 4 (pc := 1631) X.1 dL_law_1631 rfl rfl ?_
  refine v_iload 0 (pc := 1632) X.1 dL_law_1632 rfl ?_
  refine v_iconst (pc := 1634) (v := (1 : Int32)) X.1 dL_law_1634 (by decide) ?_
  refine v_iadd (pc := 1635) X.1 dL_law_1635 ?_
  refine v_sld (pc := 1636) (n := i + 1) X.1 X.2.2.2 (by omega) (nI_add i 1) dL_law_1636 ?_
  refine v_aload_n 4 (pc := 1637) X.1 dL_law_1637 rfl rfl ?_
  refine v_iload 0 (pc := 1638) X.1 dL_law_1638 rfl ?_
  refine v_iconst (pc := 1640) (v := (2 : Int32)) X.1 dL_law_1640 (by decide) ?_
  refine v_iadd (pc := 1641) X.1 dL_law_1641 ?_
  refine v_sld (pc := 1642) (n := i + 2) X.1 X.2.2.2 (by omega) (nI_add i 2) dL_law_1642 ?_
  refine v_aload_n 1 (pc := 1643) X.1 dL_law_1643 rfl rfl ?_
  refine v_callW [.ref (a 0), .int (xs (i + 1)), .int (xs (i + 2)), .ref ao] (pc := 1644) (nargs := 4) (c1 := c + 2) (s1 := s + 12) X.1 X.2.1 X.2.2.1 hO ⟨bw_30_17, bw_30_18, bw_6_13, bw_30_19, ⟨by decide +kernel, by decide +kernel, by decide +kernel⟩⟩ rfl rfl (Nat.le_of_ble_eq_true rfl) ⟨(Nat.le_of_ble_eq_true rfl), (Nat.le_of_ble_eq_true rfl)⟩ ⟨Nat.le_trans (show c + 2 ≤ 600000 by omega) room_c, Nat.le_trans (show s + 12 ≤ 7200000 by omega) room_s⟩ dL_law_1644 rfl rfl ?_
  refine v_istore (pc := 1647) (loc' := [(5, .int k), (4, .int (nI i)), (3, .ref ao), (2, .ref (b 0)), (1, .ref (a 0)), (0, .ref sb)]) X.1 dL_law_1647 (by decide) rfl ?_
  refine v_aload_n 3 (pc := 1649) X.1 dL_law_1649 rfl rfl ?_
  refine v_aload_n 5 (pc := 1650) X.1 dL_law_1650 rfl rfl ?_
  refine v_iload 1 (pc := 1651) X.1 dL_law_1651 rfl ?_
  refine v_iconst (pc := 1653) (v := (1 : Int32)) X.1 dL_law_1653 (by decide) ?_
  refine v_iadd (pc := 1654) X.1 dL_law_1654 ?_
  refine v_sld (pc := 1655) (n := i + 1) X.1 X.2.2.2 (by omega) (nI_add i 1) dL_law_1655 ?_
  refine v_aload_n 5 (pc := 1656) X.1 dL_law_1656 rfl rfl ?_
  refine v_iload 1 (pc := 1657) X.1 dL_law_1657 rfl ?_
  refine v_iconst (pc := 1659) (v := (2 : Int32)) X.1 dL_law_1659 (by decide) ?_
  refine v_iadd (pc := 1660) X.1 dL_law_1660 ?_
  refine v_sld (pc := 1661) (n := i + 2) X.1 X.2.2.2 (by omega) (nI_add i 2) dL_law_1661 ?_
  refine v_callM [.int (xs (i + 1)), .int (xs (i + 2))] (pc := 1662) (c1 := c + 2) (s1 := s + 12) (v := .int bv) X.1 X.2.2.1 (mX9_batchOf X.1.hT hM) kw_166 (gM_9 (rfl : kdM 0 = 9)) rfl rfl rfl (Nat.le_of_ble_eq_true rfl) ⟨(Nat.le_of_ble_eq_true rfl), (Nat.le_of_ble_eq_true rfl)⟩ ⟨Nat.le_trans (show c + 2 + 0 ≤ 600000 by omega) room_c, Nat.le_trans (show s + 12 + 0 ≤ 7200000 by omega) room_s⟩ dL_law_1662 rfl rfl ?_
  refine v_istore (pc := 1665) (loc' := [(6, .int bv), (5, .int k), (4, .int (nI i)), (3, .ref ao), (2, .ref (b 0)), (1, .ref (a 0)), (0, .ref sb)]) X.1 dL_law_1665 (by decide) rfl ?_
  refine v_aload_n 4 (pc := 1667) X.1 dL_law_1667 rfl rfl ?_
  refine v_callM [] (pc := 1668) (c1 := c + 2) (s1 := s + 12) (v := .int k) X.1 X.2.2.1 (mX9_thrown X.1.hT ht) kw_96 (gM_9 (rfl : kdM 0 = 9)) rfl rfl rfl (Nat.le_of_ble_eq_true rfl) ⟨(Nat.le_of_ble_eq_true rfl), (Nat.le_of_ble_eq_true rfl)⟩ ⟨Nat.le_trans (show c + 2 + 0 ≤ 600000 by omega) room_c, Nat.le_trans (show s + 12 + 0 ≤ 7200000 by omega) room_s⟩ dL_law_1668 rfl rfl ?_
  refine v_iload 1 (pc := 1671) X.1 dL_law_1671 rfl ?_
  refine v_icmp_eq 1678 (pc := 1673) X.1 dL_law_1673 (by decide) (fun _ => ?_) (fun q => absurd rfl q)
  refine v_iload 1 (pc := 1678) X.1 dL_law_1678 rfl ?_
  refine v_if_ne 1695 (pc := 1680) X.1 dL_law_1680 (by decide) (fun _ => ?_) (fun hk0 => ?_)
  · refine z_sub [2, 3, 4, 5, 6] rfl ?_
    refine z_widen (c' := c + 8) (s' := s + 48) (by omega) (by omega) ?_
    exact v_goto 1822 (pc := 1695) X.1 dL_law_1695 (by decide) kk
  · refine v_aload_n 3 (pc := 1683) X.1 dL_law_1683 rfl rfl ?_
    refine v_iconst (pc := 1684) (v := (0 : Int32)) X.1 dL_law_1684 (by decide) ?_
    refine v_lald (pc := 1685) X.1 vi_01 dL_law_1685 ?_
    rw [hk hk0]
    refine v_iload 0 (pc := 1686) X.1 dL_law_1686 rfl ?_
    refine v_i2l (pc := 1688) X.1 dL_law_1688 ?_
    refine v_lcmp (pc := 1689) X.1 dL_law_1689 ?_
    rw [lcmp_self]
    refine v_if_eq 1695 (pc := 1690) X.1 dL_law_1690 (by decide) (fun _ => ?_) (fun q => absurd rfl q)
    refine z_sub [2, 3, 4, 5, 6] rfl ?_
    refine z_widen (c' := c + 8) (s' := s + 48) (by omega) (by omega) ?_
    exact v_goto 1822 (pc := 1695) X.1 dL_law_1695 (by decide) kk
theorem kw_169 : CallVok RL 169 yX9_kits cX9_kits 2 (some .int) 1 := ⟨bw_31_23, bw_32_0, bw_32_1, bw_1_5, bw_32_2, ⟨by decide +kernel, by decide +kernel, by decide +kernel⟩⟩
set_option maxHeartbeats 1000000 in
theorem law_c21 {E : ET} {a b : Nat → Nat} {ao sb L : Nat} {xs : Nat → Int32} (X : LX E a ao b sb L xs) {i : Nat} (hi : i + 7 ≤ L) {S M S' M' : St} {f f' : Nat → Int64} {k : Int32} {bv : Int32} {c s : Nat} (hc : c + 8 ≤ 600000) (hs : s + 48 ≤ 7200000) (hO : MO (e_l E) (e_D E) (e_k E) a ao yL_kits cL_kits 4 [(0, 9, 12, 13)] rmL_kits [.ref (a 0), .int (xs (i + 1)), .ref ao] S f k S' f') (hM : fX9_kits M (xs (i + 1)) = some (bv, M')) (ht : fX9_thrown M' = some k) (hk : k = 0 → f' (0 : Int32).toNatClampNeg = bv.toInt64)
    (kk : Zz E (LW E a ao b S' f' M') (c + 8) (s + 48) 1822 [(4, .int (nI i)), (3, .ref ao), (2, .ref (b 0)), (1, .ref (a 0)), (0, .ref sb)] []) : Zz E (LW E a ao b S f M) c s 1698 [(4, .int (nI i)), (3, .ref ao), (2, .ref (b 0)), (1, .ref (a 0)), (0, .ref sb)] [] := by
  refine v_aload_n 3 (pc := 1698) X.1 dL_law_1698 rfl rfl ?_
  refine v_aload_n 4 (pc := 1699) X.1 dL_law_1699 rfl rfl ?_
  refine v_iload 0 (pc := 1700) X.1 dL_law_1700 rfl ?_
  refine v_iconst (pc := 1702) (v := (1 : Int32)) X.1 dL_law_1702 (by decide) ?_
  refine v_iadd (pc := 1703) X.1 dL_law_1703 ?_
  refine v_sld (pc := 1704) (n := i + 1) X.1 X.2.2.2 (by omega) (nI_add i 1) dL_law_1704 ?_
  refine v_aload_n 1 (pc := 1705) X.1 dL_law_1705 rfl rfl ?_
  refine v_callW [.ref (a 0), .int (xs (i + 1)), .ref ao] (pc := 1706) (nargs := 3) (c1 := c + 1) (s1 := s + 6) X.1 X.2.1 X.2.2.1 hO ⟨bw_31_4, bw_31_5, bw_6_13, bw_31_6, ⟨by decide +kernel, by decide +kernel, by decide +kernel⟩⟩ rfl rfl (Nat.le_of_ble_eq_true rfl) ⟨(Nat.le_of_ble_eq_true rfl), (Nat.le_of_ble_eq_true rfl)⟩ ⟨Nat.le_trans (show c + 1 ≤ 600000 by omega) room_c, Nat.le_trans (show s + 6 ≤ 7200000 by omega) room_s⟩ dL_law_1706 rfl rfl ?_
  refine v_istore (pc := 1709) (loc' := [(5, .int k), (4, .int (nI i)), (3, .ref ao), (2, .ref (b 0)), (1, .ref (a 0)), (0, .ref sb)]) X.1 dL_law_1709 (by decide) rfl ?_
  refine v_aload_n 3 (pc := 1711) X.1 dL_law_1711 rfl rfl ?_
  refine v_aload_n 5 (pc := 1712) X.1 dL_law_1712 rfl rfl ?_
  refine v_iload 1 (pc := 1713) X.1 dL_law_1713 rfl ?_
  refine v_iconst (pc := 1715) (v := (1 : Int32)) X.1 dL_law_1715 (by decide) ?_
  refine v_iadd (pc := 1716) X.1 dL_law_1716 ?_
  refine v_sld (pc := 1717) (n := i + 1) X.1 X.2.2.2 (by omega) (nI_add i 1) dL_law_1717 ?_
  refine v_callM [.int (xs (i + 1))] (pc := 1718) (c1 := c + 1) (s1 := s + 6) (v := .int bv) X.1 X.2.2.1 (mX9_kits X.1.hT hM) kw_169 (gM_9 (rfl : kdM 0 = 9)) rfl rfl rfl (Nat.le_of_ble_eq_true rfl) ⟨(Nat.le_of_ble_eq_true rfl), (Nat.le_of_ble_eq_true rfl)⟩ ⟨Nat.le_trans (show c + 1 + 0 ≤ 600000 by omega) room_c, Nat.le_trans (show s + 6 + 0 ≤ 7200000 by omega) room_s⟩ dL_law_1718 rfl rfl ?_
  refine v_istore (pc := 1721) (loc' := [(6, .int bv), (5, .int k), (4, .int (nI i)), (3, .ref ao), (2, .ref (b 0)), (1, .ref (a 0)), (0, .ref sb)]) X.1 dL_law_1721 (by decide) rfl ?_
  refine v_aload_n 4 (pc := 1723) X.1 dL_law_1723 rfl rfl ?_
  refine v_callM [] (pc := 1724) (c1 := c + 1) (s1 := s + 6) (v := .int k) X.1 X.2.2.1 (mX9_thrown X.1.hT ht) kw_96 (gM_9 (rfl : kdM 0 = 9)) rfl rfl rfl (Nat.le_of_ble_eq_true rfl) ⟨(Nat.le_of_ble_eq_true rfl), (Nat.le_of_ble_eq_true rfl)⟩ ⟨Nat.le_trans (show c + 1 + 0 ≤ 600000 by omega) room_c, Nat.le_trans (show s + 6 + 0 ≤ 7200000 by omega) room_s⟩ dL_law_1724 rfl rfl ?_
  refine v_iload 1 (pc := 1727) X.1 dL_law_1727 rfl ?_
  refine v_icmp_eq 1734 (pc := 1729) X.1 dL_law_1729 (by decide) (fun _ => ?_) (fun q => absurd rfl q)
  refine v_iload 1 (pc := 1734) X.1 dL_law_1734 rfl ?_
  refine v_if_ne 1751 (pc := 1736) X.1 dL_law_1736 (by decide) (fun _ => ?_) (fun hk0 => ?_)
  · refine z_sub [2, 3, 4, 5, 6] rfl ?_
    refine z_widen (c' := c + 8) (s' := s + 48) (by omega) (by omega) ?_
    exact v_goto 1822 (pc := 1751) X.1 dL_law_1751 (by decide) kk
  · refine v_aload_n 3 (pc := 1739) X.1 dL_law_1739 rfl rfl ?_
    refine v_iconst (pc := 1740) (v := (0 : Int32)) X.1 dL_law_1740 (by decide) ?_
    refine v_lald (pc := 1741) X.1 vi_01 dL_law_1741 ?_
    rw [hk hk0]
    refine v_iload 0 (pc := 1742) X.1 dL_law_1742 rfl ?_
    refine v_i2l (pc := 1744) X.1 dL_law_1744 ?_
    refine v_lcmp (pc := 1745) X.1 dL_law_1745 ?_
    rw [lcmp_self]
    refine v_if_eq 1751 (pc := 1746) X.1 dL_law_1746 (by decide) (fun _ => ?_) (fun q => absurd rfl q)
    refine z_sub [2, 3, 4, 5, 6] rfl ?_
    refine z_widen (c' := c + 8) (s' := s + 48) (by omega) (by omega) ?_
    exact v_goto 1822 (pc := 1751) X.1 dL_law_1751 (by decide) kk
theorem kw_172 : CallVok RL 172 yX9_take cX9_take 9 (some .int) 2 := ⟨bw_32_22, bw_32_23, bw_33_0, bw_1_5, bw_33_1, ⟨by decide +kernel, by decide +kernel, by decide +kernel⟩⟩
set_option maxHeartbeats 1000000 in
theorem law_c22 {E : ET} {a b : Nat → Nat} {ao sb L : Nat} {xs : Nat → Int32} (X : LX E a ao b sb L xs) {i : Nat} (hi : i + 7 ≤ L) {S M S' M' : St} {f f' : Nat → Int64} {k : Int32} {bv : Int32} {c s : Nat} (hc : c + 8 ≤ 600000) (hs : s + 48 ≤ 7200000) (hO : MO (e_l E) (e_D E) (e_k E) a ao yL_take cL_take 5 [(0, 10, 13, 13), (0, 10, 17, 15)] rmL_take [.ref (a 0), .int (xs (i + 1)), .int (xs (i + 2)), .ref ao] S f k S' f') (hM : fX9_take M (xs (i + 1)) (xs (i + 2)) = some (bv, M')) (ht : fX9_thrown M' = some k) (hk : k = 0 → f' (0 : Int32).toNatClampNeg = bv.toInt64)
    (kk : Zz E (LW E a ao b S' f' M') (c + 8) (s + 48) 1822 [(4, .int (nI i)), (3, .ref ao), (2, .ref (b 0)), (1, .ref (a 0)), (0, .ref sb)] []) : Zz E (LW E a ao b S f M) c s 1754 [(4, .int (nI i)), (3, .ref ao), (2, .ref (b 0)), (1, .ref (a 0)), (0, .ref sb)] [] := by
  refine v_aload_n 3 (pc := 1754) X.1 dL_law_1754 rfl rfl ?_
  refine v_aload_n 4 (pc := 1755) X.1 dL_law_1755 rfl rfl ?_
  refine v_iload 0 (pc := 1756) X.1 dL_law_1756 rfl ?_
  refine v_iconst (pc := 1758) (v := (1 : Int32)) X.1 dL_law_1758 (by decide) ?_
  refine v_iadd (pc := 1759) X.1 dL_law_1759 ?_
  refine v_sld (pc := 1760) (n := i + 1) X.1 X.2.2.2 (by omega) (nI_add i 1) dL_law_1760 ?_
  refine v_aload_n 4 (pc := 1761) X.1 dL_law_1761 rfl rfl ?_
  refine v_iload 0 (pc := 1762) X.1 dL_law_1762 rfl ?_
  refine v_iconst (pc := 1764) (v := (2 : Int32)) X.1 dL_law_1764 (by decide) ?_
  refine v_iadd (pc := 1765) X.1 dL_law_1765 ?_
  refine v_sld (pc := 1766) (n := i + 2) X.1 X.2.2.2 (by omega) (nI_add i 2) dL_law_1766 ?_
  refine v_aload_n 1 (pc := 1767) X.1 dL_law_1767 rfl rfl ?_
  refine v_callW [.ref (a 0), .int (xs (i + 1)), .int (xs (i + 2)), .ref ao] (pc := 1768) (nargs := 4) (c1 := c + 2) (s1 := s + 12) X.1 X.2.1 X.2.2.1 hO ⟨bw_32_11, bw_32_12, bw_6_13, bw_32_13, ⟨by decide +kernel, by decide +kernel, by decide +kernel⟩⟩ rfl rfl (Nat.le_of_ble_eq_true rfl) ⟨(Nat.le_of_ble_eq_true rfl), (Nat.le_of_ble_eq_true rfl)⟩ ⟨Nat.le_trans (show c + 2 ≤ 600000 by omega) room_c, Nat.le_trans (show s + 12 ≤ 7200000 by omega) room_s⟩ dL_law_1768 rfl rfl ?_
  refine v_istore (pc := 1771) (loc' := [(5, .int k), (4, .int (nI i)), (3, .ref ao), (2, .ref (b 0)), (1, .ref (a 0)), (0, .ref sb)]) X.1 dL_law_1771 (by decide) rfl ?_
  refine v_aload_n 3 (pc := 1773) X.1 dL_law_1773 rfl rfl ?_
  refine v_aload_n 5 (pc := 1774) X.1 dL_law_1774 rfl rfl ?_
  refine v_iload 1 (pc := 1775) X.1 dL_law_1775 rfl ?_
  refine v_iconst (pc := 1777) (v := (1 : Int32)) X.1 dL_law_1777 (by decide) ?_
  refine v_iadd (pc := 1778) X.1 dL_law_1778 ?_
  refine v_sld (pc := 1779) (n := i + 1) X.1 X.2.2.2 (by omega) (nI_add i 1) dL_law_1779 ?_
  refine v_aload_n 5 (pc := 1780) X.1 dL_law_1780 rfl rfl ?_
  refine v_iload 1 (pc := 1781) X.1 dL_law_1781 rfl ?_
  refine v_iconst (pc := 1783) (v := (2 : Int32)) X.1 dL_law_1783 (by decide) ?_
  refine v_iadd (pc := 1784) X.1 dL_law_1784 ?_
  refine v_sld (pc := 1785) (n := i + 2) X.1 X.2.2.2 (by omega) (nI_add i 2) dL_law_1785 ?_
  refine v_callM [.int (xs (i + 1)), .int (xs (i + 2))] (pc := 1786) (c1 := c + 2) (s1 := s + 12) (v := .int bv) X.1 X.2.2.1 (mX9_take X.1.hT hM) kw_172 (gM_9 (rfl : kdM 0 = 9)) rfl rfl rfl (Nat.le_of_ble_eq_true rfl) ⟨(Nat.le_of_ble_eq_true rfl), (Nat.le_of_ble_eq_true rfl)⟩ ⟨Nat.le_trans (show c + 2 + 0 ≤ 600000 by omega) room_c, Nat.le_trans (show s + 12 + 0 ≤ 7200000 by omega) room_s⟩ dL_law_1786 rfl rfl ?_
  refine v_istore (pc := 1789) (loc' := [(6, .int bv), (5, .int k), (4, .int (nI i)), (3, .ref ao), (2, .ref (b 0)), (1, .ref (a 0)), (0, .ref sb)]) X.1 dL_law_1789 (by decide) rfl ?_
  refine v_aload_n 4 (pc := 1791) X.1 dL_law_1791 rfl rfl ?_
  refine v_callM [] (pc := 1792) (c1 := c + 2) (s1 := s + 12) (v := .int k) X.1 X.2.2.1 (mX9_thrown X.1.hT ht) kw_96 (gM_9 (rfl : kdM 0 = 9)) rfl rfl rfl (Nat.le_of_ble_eq_true rfl) ⟨(Nat.le_of_ble_eq_true rfl), (Nat.le_of_ble_eq_true rfl)⟩ ⟨Nat.le_trans (show c + 2 + 0 ≤ 600000 by omega) room_c, Nat.le_trans (show s + 12 + 0 ≤ 7200000 by omega) room_s⟩ dL_law_1792 rfl rfl ?_
  refine v_iload 1 (pc := 1795) X.1 dL_law_1795 rfl ?_
  refine v_icmp_eq 1802 (pc := 1797) X.1 dL_law_1797 (by decide) (fun _ => ?_) (fun q => absurd rfl q)
  refine v_iload 1 (pc := 1802) X.1 dL_law_1802 rfl ?_
  refine v_if_ne 1819 (pc := 1804) X.1 dL_law_1804 (by decide) (fun _ => ?_) (fun hk0 => ?_)
  · refine z_sub [2, 3, 4, 5, 6] rfl ?_
    refine z_widen (c' := c + 8) (s' := s + 48) (by omega) (by omega) ?_
    exact v_goto 1822 (pc := 1819) X.1 dL_law_1819 (by decide) kk
  · refine v_aload_n 3 (pc := 1807) X.1 dL_law_1807 rfl rfl ?_
    refine v_iconst (pc := 1808) (v := (0 : Int32)) X.1 dL_law_1808 (by decide) ?_
    refine v_lald (pc := 1809) X.1 vi_01 dL_law_1809 ?_
    rw [hk hk0]
    refine v_iload 0 (pc := 1810) X.1 dL_law_1810 rfl ?_
    refine v_i2l (pc := 1812) X.1 dL_law_1812 ?_
    refine v_lcmp (pc := 1813) X.1 dL_law_1813 ?_
    rw [lcmp_self]
    refine v_if_eq 1819 (pc := 1814) X.1 dL_law_1814 (by decide) (fun _ => ?_) (fun q => absurd rfl q)
    refine z_sub [2, 3, 4, 5, 6] rfl ?_
    refine z_widen (c' := c + 8) (s' := s + 48) (by omega) (by omega) ?_
    exact v_goto 1822 (pc := 1819) X.1 dL_law_1819 (by decide) kk
