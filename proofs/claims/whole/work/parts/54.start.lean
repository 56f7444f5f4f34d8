/-! ===== from the entry to the loop: the lane, the model, the out array ===== -/
def LE (E : ET) (base n : Nat) (X : Nat → va_E) (Fr : Heap → Prop) : Heap → List Loc → Prop := fun H locs =>
  Fr H ∧ va_P (e_D E) vwCl (wE n base X) H ∧ va_S (e_A E) (e_s E).heap H locs ∧ H.size = base + n
def FrK (base : Nat) (Fr : Heap → Prop) : Prop := ∀ H H1 : Heap, base ≤ H.size → (∀ q : Nat, q < base → H1[q]? = H[q]?) → Fr H → Fr H1
section VB
variable {E : ET} {cc : ByteArray} {own : String} {nL : Nat} {rm : Room} {cells slots pc : Nat} {loc : List (Nat × Value)} {stk : List Value} {n base : Nat} {X : Nat → va_E} {Fr : Heap → Prop}
theorem v_new (C : CV E cc own nL rm) (hF : FrK base Fr) {Cn : String} {T : u_T} {N ci index c1 s1 : Nat} (hin : ∀ w ∈ u_ws Cn T N, w ∈ BG) (ty : Nat → FieldType) (hty : ∀ k, k < N → parseFieldDescriptor (T k).2.2.1 = some (ty k)) (hcl : Cond.classLink own index Cn ∈ BG) (hinst : Cond.instantiable Cn N ∈ BG) (hini : Cond.initialized Cn ∈ BG) (hc : vwCl[ci]? = some (Cn, T, N)) {fs : List Value} (hfs : ∀ j, j < N → defaultValue (ty j) = vp_V fs j) (h1 : cells + 1 = c1) (h2 : slots + N = s1) (hcells : c1 ≤ rm.cells) (hslots : s1 ≤ rm.slots) (d : decode cc pc = .ok (.new index, 3))
    (kk : Zz E (LE E base (n + 1) (va_up X n (.inr (ci, fs))) Fr) c1 s1 (pc + 3) loc (.ref (base + n) :: stk)) : Zz E (LE E base n X Fr) cells slots pc loc stk := fun H locs ls hP hl => by
  subst h1
  subst h2
  have hKn := C.hK.1.1 ci _ hc
  refine W.newcK C.1 C.2.1 C.ho (C.ht _ hcl) (C.ht _ hinst) (C.ht _ hini) rfl d (by rw [C.hR]; exact hcells) (by rw [C.hR]; exact hslots) hKn.2.1 rfl fun H1 kC hkC e1 z1 o1 => ?_
  have hk : ∀ (k : Nat) (x : Nat × va_E), (wE n base X)[k]? = some x → H1[x.1]? = H[x.1]? := fun k x hx => o1 x.1 ((hP.2.1 k x hx).lt)
  have hz := hP.2.2.2
  rw [hz]
  refine kk H1 locs ls ⟨hF H H1 (by omega) (fun q hq => o1 q (by omega)) hP.1, ?_, ⟨Nat.le_trans hP.2.2.1.1 (by omega), fun x h1 h2 => (o1 x (Nat.lt_of_lt_of_le h1 hP.2.2.1.1)).trans (hP.2.2.1.2.1 x h1 h2), hP.2.2.1.2.2⟩, by rw [z1, hz]; omega⟩ hl
  rw [← wE_push]
  refine (hP.2.1.kept hk).app (fun k x hx => ?_)
  have hz9 : k < 1 := (List.getElem?_eq_some_iff.mp hx).1
  rw [show k = 0 by omega] at hx
  cases hx
  rw [hz] at e1
  exact ⟨_, hc, (u_born ty C.ht hin hKn hkC e1 hty).to hfs⟩
theorem v_init (C : CV E cc own nL rm) (hF : FrK base Fr) (hb : (e_s E).heap.size ≤ base) {y : MethodName} {b : ByteArray} {maxL : Nat} {rm' : Room} {n' c1 s1 idx k : Nat} {X' : Nat → va_E} (hM : MB (e_l E) (e_D E) (e_k E) y b maxL rm' [.ref (base + k)] n base X n' X') (hli : Cond.methodLink own idx y ∈ BG) (hin : Cond.instanceMethod y ∈ BG) (hini : Cond.initialized y.cls ∈ BG) (hcode : Cond.code y b maxL none ∈ BG) (hnm : namesOk y 0) (hy1 : y.name = "<init>") (hcat : (stk.map fun v => v.category).sum ≤ 8) (hR : rm'.frames + 1 ≤ rm.frames ∧ 8 + (maxL + 11) + rm'.locals ≤ rm.locals) (h1 : cells + rm'.cells = c1) (h2 : slots + rm'.slots = s1) (hc1 : c1 ≤ rm.cells) (hs1 : s1 ≤ rm.slots) (d : decode cc pc = .ok (.invokespecial idx, 3))
    (kk : Zz E (LE E base n' X' Fr) c1 s1 (pc + 3) loc stk) : Zz E (LE E base n X Fr) cells slots pc loc (.ref (base + k) :: stk) := fun H locs ls hP hl => by
  have hA : ∀ q, base ≤ q → e_A E q := fun q h => C.hA q (Nat.le_trans hb h)
  have hr := vx_runI (p := e_p E) (l := e_l E) (e := e_e E) (R := e_R E) (s := e_s E) (m := e_m E) (args := e_a E) (below := e_b E) (meth := e_h E) (c := e_c E) (H := H) (locs := locs) (cells := cells) (slots := slots) (g := F0 (e_m E) pc ls (.ref (base + k) :: stk)) (As := []) (rest := stk) ⟨C.1, C.2.1, C.2.2.1, C.ho, C.ht⟩ hM (cwI 0 C.ht (gi_bg (gi_code hcode)) rfl rfl rfl (C.ht _ hini) (C.ht _ hli) (C.ht _ hin) hy1 hnm (by rw [C.hR]; exact hR)) ⟨PreB_blind, fun U hU hWm => ⟨rfl, by rw [hU]; exact hP.2.2.2, by rw [hU]; exact hP.2.1, KK.step C.hK hP.2.2.1 hA hU hWm⟩⟩ rfl rfl (hl.1.trans C.hn) rfl (lv_room hcat) d (by rw [C.hR, h1, h2]; exact ⟨hc1, hs1⟩)
  subst h1
  subst h2
  intro T hT Xs
  rcases hr T hT Xs with ⟨v', st₀, t, T', L, h9, X', hL, e1, e2, ⟨⟨hv, hp, hz⟩, hF9⟩, st⟩ | ⟨q, st₀, t, T', L, E1, ce, h9, X', hL, e1, e2, hx, hce, hcv, hcl, st⟩
  · cases hv
    obtain ⟨k1, k2, k3⟩ := vx_keep (A0 := e_A E) h9 e1 hP.2.2.1 (fun q _ h => hA q h) hA hL hF9
    have hz9 := hP.2.2.2
    obtain ⟨t2, a1, b1⟩ := kk T'.heap (locs ++ L) ls ⟨hF H T'.heap (by omega) (fun q hq => k2 q (by omega) (by omega)) hP.1, by rw [e1]; exact hp, k3, by rw [e1]; exact hz⟩ hl T' rfl X'
    exact ⟨t2, st t2 a1, b1⟩
  · exact hx.elim
theorem wE_X {h0 : Nat} {cs : Nat → ClassId} : wE 113 h0 (tX cs h0) = wC 113 GX cs (fun k => h0 + k) S0 := rfl
theorem wE_M {h0 : Nat} {cs : Nat → ClassId} : wE 33 h0 (tM cs h0) = wC 33 GM cs (fun k => h0 + k) S0M := rfl
/-- the out array: now the law's world stands -/
theorem v_out (C : CV E cc own nL rm) {h0 c1 s1 : Nat} (harr : Cond.arrayClass .long ∈ BG) (h1 : cells + 1 = c1) (h2 : slots + 1 = s1) (hcells : c1 ≤ rm.cells) (hslots : s1 ≤ rm.slots) (d : decode cc pc = .ok (.newarray .long, 2))
    (kk : Zz E (LW E (fun k => h0 + k) (h0 + 113 + 33) (fun k => h0 + 113 + k) S0 (fun _ => 0) S0M) c1 s1 (pc + 2) loc (.ref (h0 + 113 + 33) :: stk)) : Zz E (LE E (h0 + 113) 33 (tM (e_k E) (h0 + 113)) (fun H => va_P (e_D E) vwCl (wE 113 h0 (tX (e_k E) h0)) H)) cells slots pc loc (.int 1 :: stk) := fun H locs ls hP hl => by
  subst h1
  subst h2
  refine va_newaK (atype := .long) (N := 1) C.1 C.2.1 (C.ht _ harr) rfl d rfl (by decide) (by decide) (by decide) (by rw [C.hR]; exact hcells) (by rw [C.hR]; exact hslots) rfl fun H1 cA e1 z1 o1 hAr hNm => ?_
  have hcA : cA = e_k E 4 := by
    have h9 := (C.hK.1.2 4 (e_k E 4, .long) rfl).2
    exact Option.some.inj (hNm.symm.trans h9)
  subst hcA
  have hz := hP.2.2.2
  rw [hz] at e1 ⊢
  refine kk H1 locs ls ⟨?_, ?_, ?_, ⟨Nat.le_trans hP.2.2.1.1 (by omega), fun x h1 h2 => (o1 x (Nat.lt_of_lt_of_le h1 hP.2.2.1.1)).trans (hP.2.2.1.2.1 x h1 h2), hP.2.2.1.2.2⟩⟩ hl
  · rw [← wE_X]
    exact hP.1.kept (fun k x hx => o1 x.1 ((hP.1 k x hx).lt))
  · intro k q hk
    obtain ⟨-, rfl⟩ := oW_at hk
    exact e1
  · rw [← wE_M]
    exact hP.2.1.kept (fun k x hx => o1 x.1 ((hP.2.1 k x hx).lt))
end VB
set_option maxHeartbeats 1000000 in
theorem law_start {E : ET} {sb L h0 : Nat} {xs : Nat → Int32} {R : St → St → Prop} (g0 : Ag_face R) (g1 : Ag_wipe R) (g2 : Ag_part R) (g3 : Ag_redraw R) (g4 : Ag_hole R) (g5 : Ag_isNear R) (g6 : Ag_told R) (g7 : Ag_tool R) (g8 : Ag_trial R) (g9 : Ag_blank R) (g10 : Ag_why R) (g11 : Ag_point R) (g12 : Ag_flips R) (g13 : Ag_flipsAnew R) (g14 : Ag_ordered R) (g15 : Ag_want R) (g16 : Ag_clear R) (g17 : Ag_nest R) (g18 : Ag_batch R) (g19 : Ag_work R) (g20 : Ag_batchOf R) (g21 : Ag_kits R) (g22 : Ag_take R) (hR0 : R S0 S0M) (C : CV E cL_law RL 8 room_1) (hN : NC (e_s E)) (hX : SX E sb L xs) (hA : e_A E = fun q => (e_s E).heap.size ≤ q) (h0e : h0 = (e_s E).heap.size)
    (hend : ∀ (H : Heap) (ls : Array Slot), W (e_p E) (e_l E) (e_e E) (e_R E) (e_s E) (e_m E) (e_a E) (e_b E) (e_h E) (e_c E) H [] room_1.cells room_1.slots (e_Q E) (F0 (e_m E) 1829 ls [.int 1])) :
    Zz E (LE E h0 0 (fun _ => .inr (0, [])) (fun _ => True)) 0 0 0 [(0, .ref sb)] [] := by
  refine v_new (n := 0) (pc := 0) (c1 := 1) (s1 := 12) C (fun _ _ _ _ _ => trivial) (T := TX8) (N := 12) inlX8 tyX8 tyX8_ok bw_1_0 bw_1_1 bw_1_2 (ci := 8) rfl (fs := [.null, .null, .int 0, .null, .int 0, .null, .int 0, .null, .int 0, .null, .null, .null]) (by decide) rfl rfl (Nat.le_of_ble_eq_true rfl) (Nat.le_of_ble_eq_true rfl) dL_law_0 ?_
  refine v_dup (pc := 3) C dL_law_3 rfl ?_
  refine v_init (n := 1) (pc := 4) (k := 0) (c1 := 113) (s1 := 977) C (fun _ _ _ _ _ => trivial) (by omega) (mX8_init C.hT rfl) bw_1_7 bw_1_8 bw_1_2 bw_1_9 ⟨by decide +kernel, by decide +kernel, by decide +kernel⟩ rfl (Nat.le_of_ble_eq_true rfl) ⟨(Nat.le_of_ble_eq_true rfl), (Nat.le_of_ble_eq_true rfl)⟩ rfl rfl (Nat.le_of_ble_eq_true rfl) (Nat.le_of_ble_eq_true rfl) dL_law_4 ?_
  refine v_astore_n (pc := 7) (loc' := [(1, .ref (h0 + 0)), (0, .ref sb)]) C dL_law_7 rfl (by decide) rfl ?_
  have hF : FrK (h0 + 113) (fun H => va_P (e_D E) vwCl (wE 113 h0 (tX (e_k E) h0)) H) := fun H H1 hz hk hP => hP.kept (fun k q hq => hk q.1 (by
    obtain ⟨h1, rfl⟩ := wE_some hq
    show h0 + k < h0 + 113
    omega))
  have key : Zz E (LE E (h0 + 113) 0 (fun _ => .inr (0, [])) (fun H => va_P (e_D E) vwCl (wE 113 h0 (tX (e_k E) h0)) H)) 113 977 8 [(1, .ref (h0 + 0)), (0, .ref sb)] [] := by
    refine v_new (n := 0) (pc := 8) (c1 := 114) (s1 := 1022) C hF (T := TX9) (N := 45) inlX9 tyX9 tyX9_ok bw_1_3 bw_1_4 bw_1_5 (ci := 9) rfl (fs := [.int 0, .int 0, .null, .null, .int 0, .null, .null, .null, .null, .null, .null, .null, .null, .null, .null, .int 0, .null, .null, .null, .null, .null, .null, .null, .int 0, .null, .null, .null, .null, .null, .null, .int 0, .int 0, .int 0, .int 0, .int 0, .int 0, .null, .null, .int 0, .null, .int 0, .null, .null, .null, .null]) (by decide) rfl rfl (Nat.le_of_ble_eq_true rfl) (Nat.le_of_ble_eq_true rfl) dL_law_8 ?_
    refine v_dup (pc := 11) C dL_law_11 rfl ?_
    refine v_init (n := 1) (pc := 12) (k := 0) (c1 := 146) (s1 := 1914) C hF (by omega) (mX9_init C.hT rfl) bw_4_23 bw_5_0 bw_1_5 bw_5_1 ⟨by decide +kernel, by decide +kernel, by decide +kernel⟩ rfl (Nat.le_of_ble_eq_true rfl) ⟨(Nat.le_of_ble_eq_true rfl), (Nat.le_of_ble_eq_true rfl)⟩ rfl rfl (Nat.le_of_ble_eq_true rfl) (Nat.le_of_ble_eq_true rfl) dL_law_12 ?_
    refine v_astore_n (pc := 15) (loc' := [(2, .ref (h0 + 113 + 0)), (1, .ref (h0 + 0)), (0, .ref sb)]) C dL_law_15 rfl (by decide) rfl ?_
    refine v_iconst (pc := 16) (v := (1 : Int32)) C dL_law_16 (by decide) ?_
    refine v_out (pc := 17) (c1 := 147) (s1 := 1915) C bw_1_6 rfl rfl (Nat.le_of_ble_eq_true rfl) (Nat.le_of_ble_eq_true rfl) dL_law_17 ?_
    refine v_astore_n (pc := 19) (loc' := [(3, .ref (h0 + 113 + 33)), (2, .ref (h0 + 113 + 0)), (1, .ref (h0 + 0)), (0, .ref sb)]) C dL_law_19 rfl (by decide) rfl ?_
    refine v_iconst (pc := 20) (v := (0 : Int32)) C dL_law_20 (by decide) ?_
    refine v_istore (pc := 21) (loc' := [(4, .int 0), (3, .ref (h0 + 113 + 33)), (2, .ref (h0 + 113 + 0)), (1, .ref (h0 + 0)), (0, .ref sb)]) C dL_law_21 (by decide) rfl ?_
    have hD : DL E (fun k => h0 + k) (h0 + 113 + 33) (fun k => h0 + 113 + k) := by
      refine ⟨⟨fun S => ⟨fun i j p q hi hj e => ?_, fun k q hk => ?_⟩, by rw [hA]; show _ ≤ _; omega, fun i hi => by show h0 + i ≠ _; omega⟩, fun M => ⟨fun i j p q hi hj e => ?_, fun k q hk => ?_⟩, fun i j hi hj => by show h0 + i ≠ h0 + 113 + j; omega, fun j hj => by show h0 + 113 + j ≠ _; omega⟩
      · obtain ⟨h1, rfl⟩ := wC_some hi
        obtain ⟨h2, rfl⟩ := wC_some hj
        have e2 : h0 + i = h0 + j := e
        omega
      · obtain ⟨h1, rfl⟩ := wC_some hk
        rw [hA]
        show _ ≤ h0 + k
        omega
      · obtain ⟨h1, rfl⟩ := wC_some hi
        obtain ⟨h2, rfl⟩ := wC_some hj
        have e2 : h0 + 113 + i = h0 + 113 + j := e
        omega
      · obtain ⟨h1, rfl⟩ := wC_some hk
        rw [hA]
        show _ ≤ h0 + 113 + k
        omega
    exact law_loop g0 g1 g2 g3 g4 g5 g6 g7 g8 g9 g10 g11 g12 g13 g14 g15 g16 g17 g18 g19 g20 g21 g22 ⟨C, hN, hD, hX⟩ (fun q h => by rw [hA] at h; exact h) hend (L + 1) 0 S0 S0M (fun _ => 0) 147 1915 (by omega) (by omega) hR0 (by omega) (by omega)
  intro H locs ls hP hl
  have hnil : va_P (e_D E) vwCl (wE 0 (h0 + 113) (fun _ => .inr (0, []))) H := by
    intro k q hk
    rw [wE_no (Nat.not_lt_zero k)] at hk
    cases hk
  exact key H locs ls ⟨hP.2.1, hnil, hP.2.2.1, hP.2.2.2⟩ hl
