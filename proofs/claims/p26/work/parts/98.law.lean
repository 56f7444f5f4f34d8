/-! ===== the law ===== -/
/-- the room of the claim: TURN reads it off the machine, so that it differs a little from one to the next; these bounds are below it -/
theorem room_c : 30000 ≤ room_1.cells := Nat.le_of_ble_eq_true rfl
theorem room_s : 200000 ≤ room_1.slots := Nat.le_of_ble_eq_true rfl
section CL
variable {E : ET} {cc : ByteArray} {nL : Nat} {rm : Room} {cells slots pc : Nat} {loc : List (Nat × Value)} {stk : List Value} {a b : Nat → Nat} {S T : St}
theorem c_call {sb L : Nat} {xs : Nat → Int32} {e idx : Nat} (C : CV E cc RL nL rm) (X : SX E sb L xs) (hD : DW E a b) (he : e < 110) (hC : CallWok RL idx yL_cell (.code yL_cell cL_cell 2 (some .int)) 2) (hcat : (stk.map fun v => v.category).sum ≤ 8) (hR : rmL_cell.frames + 1 ≤ rm.frames ∧ 8 + (2 + 11) + rmL_cell.locals ≤ rm.locals) (hf : cells + rmL_cell.cells ≤ rm.cells ∧ slots + rmL_cell.slots ≤ rm.slots) (d : decode cc pc = .ok (.invokestatic idx, 3))
    (kk : ∀ x : Int32, Zz E (WW E a b S T) cells slots (pc + 3) loc (.int x :: stk)) : Zz E (WW E a b S T) cells slots pc loc (.int (nI e) :: .ref sb :: stk) := fun H locs ls hP hl => by
  obtain ⟨w1, w2, w3, w4, w5⟩ := hC
  have hA : ∀ q, H.size ≤ q → e_A E q := fun q h => C.hA q (Nat.le_trans hP.2.2.1 h)
  have hpre : PreS (e_s E) H (va_Pc [.ref sb, .int (nI e)] (PreC (e_D E) (e_k E) sb L xs H.size)) [.ref sb, .int (nI e)] := ⟨PreC_blind, fun U hU hWm => ⟨rfl, by rw [hU], by rw [hU]; exact va_X.moved hWm.alike (X.1.kept (hP.2.2.2.1 sb X.2.1 X.2.2.1)), Nat.lt_of_lt_of_le X.2.1 hP.2.2.1, KK.step C.hK hP.2.2 hA hU hWm⟩⟩
  have hg : GoodIn BG (wsS RL idx yL_cell (Cond.code yL_cell cL_cell 2 (some .int) :: BG)) := gi_bg (fun w hw => by
    unfold wsS at hw
    rcases List.mem_append.mp hw with hw | hw
    · simp only [List.mem_cons, List.not_mem_nil, or_false] at hw
      rcases hw with rfl | rfl | rfl
      · exact w1
      · exact w2
      · exact w3
    · exact (List.mem_cons.mp hw).elim (fun e => by rw [e]; exact w4) id)
  have hr := vx_runS (p := e_p E) (l := e_l E) (R := e_R E) (s := e_s E) (m := e_m E) (args := e_a E) (c := e_c E) (H := H) (e := e_e E) (below := e_b E) (meth := e_h E) (locs := locs) (cells := cells) (slots := slots) (g := F0 (e_m E) pc ls (.int (nI e) :: .ref sb :: stk)) (As := [.ref sb, .int (nI e)]) (rest := stk) ⟨C.1, C.2.1, C.2.2.1, C.ho, C.ht⟩ (mL_cell C.hT X.2.2.2 he H.size) (cwS 2 C.ht hg rfl rfl rfl ⟨rfl, w5⟩ (by rw [C.hR]; exact hR))
    hpre rfl rfl (hl.1.trans C.hn) rfl (lv_room hcat) d (by rw [C.hR]; exact hf)
  intro T hT Xs
  rcases hr T hT Xs with ⟨v', st₀, t, T', L', h0, X', hL, e1, e2, ⟨⟨x, hv⟩, hF⟩, st⟩ | ⟨q, st₀, t, T', L', E1, ce, h0, X', hL, e1, e2, hx, hce, hcv, hcl, st⟩
  · cases hv
    obtain ⟨k1, k2, k3⟩ := vx_keep h0 e1 hP.2.2 (fun q _ h => hA q h) hA hL hF
    obtain ⟨t2, a1, b1⟩ := kk x T'.heap (locs ++ L') ls ⟨hP.1.ne k2 (fun k q hk => Nat.not_le.mpr (hP.1 k q hk).lt), hP.2.1.ne k2 (fun k q hk => Nat.not_le.mpr (hP.2.1 k q hk).lt), k3⟩ hl T' rfl X'
    exact ⟨t2, st t2 a1, b1⟩
  · exact hx.elim
end CL
set_option maxRecDepth 100000 in
set_option maxHeartbeats 2000000 in
theorem law_loop {E : ET} {a b : Nat → Nat} {sb L : Nat} {xs : Nat → Int32} (hAct : ∀ v, W2 (fun S => fL_act S v)) (hA2 : A2) (hSo : ∀ S T, Tw S T → SoP S) (C : CV E cL_law RL 7 room_1) (hN : NC (e_s E)) (hD : DW E a b) (X : SX E sb L xs) (hA : ∀ q, e_A E q → (e_s E).heap.size ≤ q) (hend : ∀ (H : Heap) (ls : Array Slot), W (e_p E) (e_l E) (e_e E) (e_R E) (e_s E) (e_m E) (e_a E) (e_b E) (e_h E) (e_c E) H [] room_1.cells room_1.slots (e_Q E) (F0 (e_m E) 93 ls [.int 1])) : ∀ m e S T c s, e + m = 110 → Tw S T → c + 192 * m + 900 ≤ 30000 → s + 1152 * m + 5400 ≤ 200000 → Zz E (WW E a b S T) (c) (s) 18 [(3, .int (nI e)), (2, .ref (b 0)), (1, .ref (a 0)), (0, .ref sb)] [] := by
  intro m
  induction m with
  | zero =>
    intro e S T c s he hST hc hs
    obtain rfl : e = 110 := by omega
    refine v_iload_n 0 (pc := 18) C dL_law_18 rfl rfl ?_
    refine v_bipush (pc := 19) (v := (110 : Int32)) C dL_law_19 (by decide) ?_
    refine v_icmp_ge 89 (pc := 21) C dL_law_21 (by decide) (fun _ => ?_) (fun c0 => absurd (by decide) c0)
    refine v_aload_n 2 (pc := 89) C dL_law_89 rfl rfl ?_
    refine p_call2 [.ref (a 0)] (pc := 90) (st1 := [.int (1 : Int32)]) (c1 := c + 900) (s1 := s + 5400) C hN hD (mL_isSo C.hT (hSo S T hST)) kl_168 rfl rfl rfl rfl (Nat.le_of_ble_eq_true rfl) ⟨(Nat.le_of_ble_eq_true rfl), (Nat.le_of_ble_eq_true rfl)⟩ ⟨Nat.le_trans (show c + 900 ≤ 30000 by omega) room_c, Nat.le_trans (show s + 5400 ≤ 200000 by omega) room_s⟩ dL_law_90 (by show c + 900 = c + 900; omega) (by show s + 5400 = s + 5400; omega) (fun S2 _ => ?_)
    intro H locs ls hP hl
    refine va_forget (fun q hq => hA _ (hP.2.2.2.2 q hq)) ?_
    exact W.widen (Nat.le_trans (show c + 900 ≤ 30000 by omega) room_c) (Nat.le_trans (show s + 5400 ≤ 200000 by omega) room_s) (hend H ls)
  | succ m ih =>
    intro e S T c s he hST hc hs
    refine v_iload_n 0 (pc := 18) C dL_law_18 rfl rfl ?_
    refine v_bipush (pc := 19) (v := (110 : Int32)) C dL_law_19 (by decide) ?_
    refine v_icmp_ge 89 (pc := 21) C dL_law_21 (by decide) (fun c0 => absurd c0 (nI_ge (b := 110) (by omega) (by decide))) (fun _ => ?_)
    refine v_aload_n 3 (pc := 24) C dL_law_24 rfl rfl ?_
    refine v_iload_n 0 (pc := 25) C dL_law_25 rfl rfl ?_
    refine c_call (e := e) (pc := 26) C X hD (by omega) kl_157 (Nat.le_of_ble_eq_true rfl) ⟨(Nat.le_of_ble_eq_true rfl), (Nat.le_of_ble_eq_true rfl)⟩ ⟨Nat.le_trans (show c + 0 ≤ 30000 by omega) room_c, Nat.le_trans (show s + 0 ≤ 200000 by omega) room_s⟩ dL_law_26 (fun x => ?_)
    obtain ⟨r, S1, T1, e1, e2, hST1, hX⟩ := hAct x S T hST
    refine v_istore (pc := 29) (loc' := [(4, .int x), (3, .int (nI e)), (2, .ref (b 0)), (1, .ref (a 0)), (0, .ref sb)]) C dL_law_29 (by decide) rfl ?_
    refine v_aload_n 3 (pc := 31) C dL_law_31 rfl rfl ?_
    refine v_iload 0 (pc := 32) C dL_law_32 rfl ?_
    refine w_call [.ref (a 0), .int x] (pc := 34) (st1 := [.long r]) (c1 := c + 46) (s1 := s + 276) C hN hD (mL_act C.hT e1) cwL_act kl_161 rfl rfl rfl rfl (Nat.le_of_ble_eq_true rfl) ⟨(Nat.le_of_ble_eq_true rfl), (Nat.le_of_ble_eq_true rfl)⟩ ⟨Nat.le_trans (show c + 46 ≤ 30000 by omega) room_c, Nat.le_trans (show s + 276 ≤ 200000 by omega) room_s⟩ dL_law_34 (by show c + 46 = c + 46; omega) (by show s + 276 = s + 276; omega) ?_
    have e60 : ∀ S1 T1 d t, Tw S1 T1 → d + 100 + 192 * m + 900 ≤ 30000 → t + 600 + 1152 * m + 5400 ≤ 200000 → Zz E (WW E a b S1 T1) (d) (t) 60 [(5, .long r), (4, .int x), (3, .int (nI e)), (2, .ref (b 0)), (1, .ref (a 0)), (0, .ref sb)] [] := by
      intro S1 T1 d t hST1 hd ht
      refine v_iload_n 2 (pc := 60) C dL_law_60 rfl rfl ?_
      refine v_bipush (pc := 61) (v := (37 : Int32)) C dL_law_61 (by decide) ?_
      refine v_irem (pc := 63) C (by decide) dL_law_63 ?_
      refine v_bipush (pc := 64) (v := (36 : Int32)) C dL_law_64 (by decide) ?_
      refine v_icmp_ne 83 (pc := 66) C dL_law_66 (by decide) (fun c1 => ?_) (fun c1 => ?_)
      · refine v_iinc 2 (pc := 83) (v := nI (e + 1)) (loc' := [(3, .int (nI (e + 1))), (5, .long r), (4, .int x), (2, .ref (b 0)), (1, .ref (a 0)), (0, .ref sb)]) C dL_law_83 rfl (nI_1 e) (by decide) rfl ?_
        refine v_goto 18 (pc := 86) C dL_law_86 (by decide) ?_
        refine z_sub [0, 3, 4, 5] rfl ?_
        exact ih (e + 1) S1 T1 (d) (t) (by omega) hST1 (by omega) (by omega)
      · refine v_aload_n 4 (pc := 69) C dL_law_69 rfl rfl ?_
        refine v_aload_n 3 (pc := 70) C dL_law_70 rfl rfl ?_
        refine v_iload 1 (pc := 71) C dL_law_71 rfl ?_
        refine v_iconst (pc := 73) (v := (3 : Int32)) C dL_law_73 (by decide) ?_
        refine v_ishr (pc := 74) C dL_law_74 ?_
        refine w_call2 [.ref (a 0), .ref (b 0), .int (x >>> ((3 : Int32) &&& 31))] (pc := 75) (st1 := [.int (1 : Int32)]) (c1 := d + 100) (s1 := t + 600) C hN hD (mL_areAlike C.hT hA2 hST1) kl_164 rfl rfl rfl rfl (Nat.le_of_ble_eq_true rfl) ⟨(Nat.le_of_ble_eq_true rfl), (Nat.le_of_ble_eq_true rfl)⟩ ⟨Nat.le_trans (show d + 100 ≤ 30000 by omega) room_c, Nat.le_trans (show t + 600 ≤ 200000 by omega) room_s⟩ dL_law_75 (by show d + 100 = d + 100; omega) (by show t + 600 = t + 600; omega) (fun S2 T2 hST2 => ?_)
        refine v_if_ne 83 (pc := 78) C dL_law_78 (by decide) (fun _ => ?_) (fun c0 => absurd c0 (by decide))
        refine v_iinc 2 (pc := 83) (v := nI (e + 1)) (loc' := [(3, .int (nI (e + 1))), (5, .long r), (4, .int x), (2, .ref (b 0)), (1, .ref (a 0)), (0, .ref sb)]) C dL_law_83 rfl (nI_1 e) (by decide) rfl ?_
        refine v_goto 18 (pc := 86) C dL_law_86 (by decide) ?_
        refine z_sub [0, 3, 4, 5] rfl ?_
        exact ih (e + 1) S2 T2 (d + 100) (t + 600) (by omega) hST2 (by omega) (by omega)
    refine v_lstore (pc := 37) (loc' := [(5, .long r), (4, .int x), (3, .int (nI e)), (2, .ref (b 0)), (1, .ref (a 0)), (0, .ref sb)]) C dL_law_37 (by decide) rfl ?_
    refine v_lload 0 (pc := 39) C dL_law_39 rfl ?_
    refine v_ldc2 (pc := 41) (v := XX) C bw_1_3 dL_law_41 ?_
    refine v_lcmp (pc := 44) C dL_law_44 ?_
    refine v_if_eq 60 (pc := 45) C dL_law_45 (by decide) (fun c1 => ?_) (fun c1 => ?_)
    · exact e60 S1 T (c + 46) (s + 276) (hX ((lg_cmp_eq r XX).mp c1)) (by omega) (by omega)
    · refine v_aload_n 3 (pc := 48) C dL_law_48 rfl rfl ?_
      refine v_iload 1 (pc := 49) C dL_law_49 rfl ?_
      refine w_call' [.ref (b 0), .int x] (pc := 51) (st1 := [.long r]) (c1 := c + 92) (s1 := s + 552) C hN hD (mL_act C.hT e2) cwL_act kl_161 rfl rfl rfl rfl (Nat.le_of_ble_eq_true rfl) ⟨(Nat.le_of_ble_eq_true rfl), (Nat.le_of_ble_eq_true rfl)⟩ ⟨Nat.le_trans (show c + 46 + 46 ≤ 30000 by omega) room_c, Nat.le_trans (show s + 276 + 276 ≤ 200000 by omega) room_s⟩ dL_law_51 (by show c + 46 + 46 = c + 92; omega) (by show s + 276 + 276 = s + 552; omega) ?_
      refine v_lload 0 (pc := 54) C dL_law_54 rfl ?_
      refine v_lcmp (pc := 56) C dL_law_56 ?_
      refine v_if_ne 81 (pc := 57) C dL_law_57 (by decide) (fun c0 => absurd c0 (fun z => z ((lg_cmp_eq r r).mpr rfl))) (fun _ => ?_)
      exact e60 S1 T1 (c + 92) (s + 552) hST1 (by omega) (by omega)
/-! ===== from the entry to the loop: two lanes made ===== -/
def LE (E : ET) (base n : Nat) (X : Nat → va_E) (Fr : Heap → Prop) : Heap → List Loc → Prop := fun H locs =>
  Fr H ∧ va_P (e_D E) vwCl (wE n base X) H ∧ va_S (e_A E) (e_s E).heap H locs ∧ H.size = base + n
def FrK (base : Nat) (Fr : Heap → Prop) : Prop := ∀ H H1 : Heap, base ≤ H.size → (∀ q : Nat, q < base → H1[q]? = H[q]?) → Fr H → Fr H1
section VB
variable {E : ET} {cc : ByteArray} {own : String} {nL : Nat} {rm : Room} {cells slots pc : Nat} {loc : List (Nat × Value)} {stk : List Value} {n base : Nat} {X : Nat → va_E} {Fr : Heap → Prop}
theorem v_new (C : CV E cc own nL rm) (hF : FrK base Fr) {Cn : String} {T : u_T} {N ci index c1 s1 : Nat} (hin : ∀ w ∈ u_ws Cn T N, w ∈ BG) (ty : Nat → FieldType) (hty : ∀ k, k < N → parseFieldDescriptor (T k).2.2.1 = some (ty k)) (hcl : Cond.classLink own index Cn ∈ BG) (hinst : Cond.instantiable Cn N ∈ BG) (hini : Cond.initialized Cn ∈ BG) (hc : vwCl[ci]? = some (Cn, T, N)) {fs : List Value} (hfs : ∀ j, j < N → defaultValue (ty j) = vp_V fs j) (h1 : cells + 1 = c1) (h2 : slots + N = s1) (hcells : c1 ≤ rm.cells) (hslots : s1 ≤ rm.slots) (d : decode cc pc = .ok (.new index, 3))
    (kk : Zz E (LE E base (n + 1) (va_up X n (.inr (ci, fs))) Fr) c1 s1 (pc + 3) loc (.ref (base + n) :: stk)) : Zz E (LE E base n X Fr) cells slots pc loc stk := fun H locs ls hP hl => by
  subst h1
  subst h2
  have hKn := C.hK.1.1 ci _ hc
  refine W.newcK C.1 C.2.1 C.ho (C.ht _ hcl) (C.ht _ hinst) (C.ht _ hini) rfl d (by rw [C.hR]; exact hcells) (by rw [C.hR]; exact hslots) hKn.2.1 rfl fun H1 kC hkC e1 z1 o1 => ?_
  have hk : ∀ (k : Nat) (x : Nat × va_E), (wE n base X)[k]? = some x → H1[x.1]? = H[x.1]? := fun k x hx => o1 x.1 ((hP.2.1 k x hx).lt)
  have hz := hP.2.2.2
  rw [hz]
  refine kk H1 locs ls ⟨hF H H1 (by omega) (fun q hq => o1 q (by omega)) hP.1, ?_, ⟨Nat.le_trans hP.2.2.1.1 (by omega), fun x h1 h2 => (o1 x (Nat.lt_of_lt_of_le h1 hP.2.2.1.1)).trans (hP.2.2.1.2.1 x h1 h2), hP.2.2.1.2.2⟩, by rw [z1, hz]; omega⟩ hl
  rw [← wE_push]
  refine (hP.2.1.kept hk).app (fun k x hx => ?_)
  have hz9 : k < 1 := (List.getElem?_eq_some_iff.mp hx).1
  rw [show k = 0 by omega] at hx
  cases hx
  rw [hz] at e1
  exact ⟨_, hc, (u_born ty C.ht hin hKn hkC e1 hty).to hfs⟩
theorem v_init (C : CV E cc own nL rm) (hF : FrK base Fr) (hb : (e_s E).heap.size ≤ base) {y : MethodName} {b : ByteArray} {maxL : Nat} {rm' : Room} {n' c1 s1 idx k : Nat} {X' : Nat → va_E} (hM : MB (e_l E) (e_D E) (e_k E) y b maxL rm' [.ref (base + k)] n base X n' X') (hli : Cond.methodLink own idx y ∈ BG) (hin : Cond.instanceMethod y ∈ BG) (hini : Cond.initialized y.cls ∈ BG) (hcode : Cond.code y b maxL none ∈ BG) (hnm : namesOk y 0) (hy1 : y.name = "<init>") (hcat : (stk.map fun v => v.category).sum ≤ 8) (hR : rm'.frames + 1 ≤ rm.frames ∧ 8 + (maxL + 11) + rm'.locals ≤ rm.locals) (h1 : cells + rm'.cells = c1) (h2 : slots + rm'.slots = s1) (hc1 : c1 ≤ rm.cells) (hs1 : s1 ≤ rm.slots) (d : decode cc pc = .ok (.invokespecial idx, 3))
    (kk : Zz E (LE E base n' X' Fr) c1 s1 (pc + 3) loc stk) : Zz E (LE E base n X Fr) cells slots pc loc (.ref (base + k) :: stk) := fun H locs ls hP hl => by
  have hA : ∀ q, base ≤ q → e_A E q := fun q h => C.hA q (Nat.le_trans hb h)
  have hr := vx_runI (p := e_p E) (l := e_l E) (e := e_e E) (R := e_R E) (s := e_s E) (m := e_m E) (args := e_a E) (below := e_b E) (meth := e_h E) (c := e_c E) (H := H) (locs := locs) (cells := cells) (slots := slots) (g := F0 (e_m E) pc ls (.ref (base + k) :: stk)) (As := []) (rest := stk) ⟨C.1, C.2.1, C.2.2.1, C.ho, C.ht⟩ hM (cwI 0 C.ht (gi_bg (gi_code hcode)) rfl rfl rfl (C.ht _ hini) (C.ht _ hli) (C.ht _ hin) hy1 hnm (by rw [C.hR]; exact hR)) ⟨PreB_blind, fun U hU hWm => ⟨rfl, by rw [hU]; exact hP.2.2.2, by rw [hU]; exact hP.2.1, KK.step C.hK hP.2.2.1 hA hU hWm⟩⟩ rfl rfl (hl.1.trans C.hn) rfl (lv_room hcat) d (by rw [C.hR, h1, h2]; exact ⟨hc1, hs1⟩)
  subst h1
  subst h2
  intro T hT Xs
  rcases hr T hT Xs with ⟨v', st₀, t, T', L, h9, X', hL, e1, e2, ⟨⟨hv, hp, hz⟩, hF9⟩, st⟩ | ⟨q, st₀, t, T', L, E1, ce, h9, X', hL, e1, e2, hx, hce, hcv, hcl, st⟩
  · cases hv
    obtain ⟨k1, k2, k3⟩ := vx_keep (A0 := e_A E) h9 e1 hP.2.2.1 (fun q _ h => hA q h) hA hL hF9
    have hz9 := hP.2.2.2
    obtain ⟨t2, a1, b1⟩ := kk T'.heap (locs ++ L) ls ⟨hF H T'.heap (by omega) (fun q hq => k2 q (by omega) (by omega)) hP.1, by rw [e1]; exact hp, k3, by rw [e1]; exact hz⟩ hl T' rfl X'
    exact ⟨t2, st t2 a1, b1⟩
  · exact hx.elim
theorem wE_X {h0 : Nat} {cs : Nat → ClassId} : wE 113 h0 (tX cs h0) = wC 113 GX cs (fun k => h0 + k) S0 := rfl
end VB
set_option maxHeartbeats 1000000 in
theorem law_start {E : ET} {sb L h0 : Nat} {xs : Nat → Int32} (hAct : ∀ v, W2 (fun S => fL_act S v)) (hA2 : A2) (hSo : ∀ S T, Tw S T → SoP S) (hT0 : Tw S0 S0) (C : CV E cL_law RL 7 room_1) (hN : NC (e_s E)) (hX : SX E sb L xs) (hA : e_A E = fun q => (e_s E).heap.size ≤ q) (h0e : h0 = (e_s E).heap.size)
    (hend : ∀ (H : Heap) (ls : Array Slot), W (e_p E) (e_l E) (e_e E) (e_R E) (e_s E) (e_m E) (e_a E) (e_b E) (e_h E) (e_c E) H [] room_1.cells room_1.slots (e_Q E) (F0 (e_m E) 93 ls [.int 1])) :
    Zz E (LE E h0 0 (fun _ => .inr (0, [])) (fun _ => True)) 0 0 0 [(0, .ref sb)] [] := by
  refine v_new (n := 0) (pc := 0) (c1 := 1) (s1 := 12) C (fun _ _ _ _ _ => trivial) (T := TX8) (N := 12) inlX8 tyX8 tyX8_ok bw_1_0 bw_1_1 bw_1_2 (ci := 8) rfl (fs := [.null, .null, .int 0, .null, .int 0, .null, .int 0, .null, .int 0, .null, .null, .null]) (by decide) rfl rfl (Nat.le_of_ble_eq_true rfl) (Nat.le_of_ble_eq_true rfl) dL_law_0 ?_
  refine v_dup (pc := 3) C dL_law_3 rfl ?_
  refine v_init (n := 1) (pc := 4) (k := 0) (c1 := 113) (s1 := 977) C (fun _ _ _ _ _ => trivial) (by omega) (mX8_init C.hT rfl) bw_1_4 bw_1_5 bw_1_2 bw_1_6 ⟨by decide +kernel, by decide +kernel, by decide +kernel⟩ rfl (Nat.le_of_ble_eq_true rfl) ⟨(Nat.le_of_ble_eq_true rfl), (Nat.le_of_ble_eq_true rfl)⟩ rfl rfl (Nat.le_of_ble_eq_true rfl) (Nat.le_of_ble_eq_true rfl) dL_law_4 ?_
  refine v_astore_n (pc := 7) (loc' := [(1, .ref (h0 + 0)), (0, .ref sb)]) C dL_law_7 rfl (by decide) rfl ?_
  have hF : FrK (h0 + 113) (fun H => va_P (e_D E) vwCl (wE 113 h0 (tX (e_k E) h0)) H) := fun H H1 hz hk hP => hP.kept (fun k q hq => hk q.1 (by
    obtain ⟨h1, rfl⟩ := wE_some hq
    show h0 + k < h0 + 113
    omega))
  have key : Zz E (LE E (h0 + 113) 0 (fun _ => .inr (0, [])) (fun H => va_P (e_D E) vwCl (wE 113 h0 (tX (e_k E) h0)) H)) 113 977 8 [(1, .ref (h0 + 0)), (0, .ref sb)] [] := by
    refine v_new (n := 0) (pc := 8) (c1 := 114) (s1 := 989) C hF (T := TX8) (N := 12) inlX8 tyX8 tyX8_ok bw_1_0 bw_1_1 bw_1_2 (ci := 8) rfl (fs := [.null, .null, .int 0, .null, .int 0, .null, .int 0, .null, .int 0, .null, .null, .null]) (by decide) rfl rfl (Nat.le_of_ble_eq_true rfl) (Nat.le_of_ble_eq_true rfl) dL_law_8 ?_
    refine v_dup (pc := 11) C dL_law_11 rfl ?_
    refine v_init (n := 1) (pc := 12) (k := 0) (c1 := 226) (s1 := 1954) C hF (by omega) (mX8_init C.hT rfl) bw_1_4 bw_1_5 bw_1_2 bw_1_6 ⟨by decide +kernel, by decide +kernel, by decide +kernel⟩ rfl (Nat.le_of_ble_eq_true rfl) ⟨(Nat.le_of_ble_eq_true rfl), (Nat.le_of_ble_eq_true rfl)⟩ rfl rfl (Nat.le_of_ble_eq_true rfl) (Nat.le_of_ble_eq_true rfl) dL_law_12 ?_
    refine v_astore_n (pc := 15) (loc' := [(2, .ref (h0 + 113 + 0)), (1, .ref (h0 + 0)), (0, .ref sb)]) C dL_law_15 rfl (by decide) rfl ?_
    refine v_iconst (pc := 16) (v := (0 : Int32)) C dL_law_16 (by decide) ?_
    refine v_istore_n (pc := 17) (loc' := [(3, .int 0), (2, .ref (h0 + 113 + 0)), (1, .ref (h0 + 0)), (0, .ref sb)]) C dL_law_17 rfl (by decide) rfl ?_
    have hD : DW E (fun k => h0 + k) (fun k => h0 + 113 + k) := by
      refine ⟨fun S => ⟨fun i j p q hi hj e => ?_, fun k q hk => ?_⟩, fun M => ⟨fun i j p q hi hj e => ?_, fun k q hk => ?_⟩, fun i j hi hj => by show h0 + i ≠ h0 + 113 + j; omega⟩
      · obtain ⟨h1, rfl⟩ := wC_some hi
        obtain ⟨h2, rfl⟩ := wC_some hj
        have e2 : h0 + i = h0 + j := e
        omega
      · obtain ⟨h1, rfl⟩ := wC_some hk
        rw [hA]
        show _ ≤ h0 + k
        omega
      · obtain ⟨h1, rfl⟩ := wC_some hi
        obtain ⟨h2, rfl⟩ := wC_some hj
        have e2 : h0 + 113 + i = h0 + 113 + j := e
        omega
      · obtain ⟨h1, rfl⟩ := wC_some hk
        rw [hA]
        show _ ≤ h0 + 113 + k
        omega
    refine v_zz (P' := WW E (fun k => h0 + k) (fun k => h0 + 113 + k) S0 S0) (fun H locs hP => ⟨?_, ?_, hP.2.2.1⟩) ?_
    · rw [← wE_X]; exact hP.1
    · rw [← wE_X]; exact hP.2.1
    exact law_loop hAct hA2 hSo C hN hD hX (fun q h => by rw [hA] at h; exact h) hend 110 0 S0 S0 226 1954 (by omega) hT0 (by omega) (by omega)
  intro H locs ls hP hl
  have hnil : va_P (e_D E) vwCl (wE 0 (h0 + 113) (fun _ => .inr (0, []))) H := by
    intro k q hk
    rw [wE_no (Nat.not_lt_zero k)] at hk
    cases hk
  exact key H locs ls ⟨hP.2.1, hnil, hP.2.2.1, hP.2.2.2⟩ hl
