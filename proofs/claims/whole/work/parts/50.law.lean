/-! ===== the law's frame and its wrappers': as CX, with no word on the exception table ===== -/
def CV (E : ET) (cc : ByteArray) (own : String) (nL : Nat) (rm : Room) : Prop :=
  (e_p E).tables.exec = Jvm.exec ∧ (e_c E).code = cc ∧ (e_c E).maxLocals = nL ∧ e_n E = nL ∧ e_R E = rm ∧ (e_s E).vm.findClass own = some (e_m E).cls ∧ (∀ w ∈ BG, w.before (e_a E) (e_s E) = true) ∧
  KK (e_D E) (e_k E) (e_A E) (e_s E) (e_s E).heap ∧ (∀ q : Nat, (e_s E).heap.size ≤ q → e_A E q) ∧ (e_l E).stackTraces = false ∧ (e_h E).locks = false
theorem CV.hn {E : ET} {cc : ByteArray} {own : String} {nL : Nat} {rm : Room} (C : CV E cc own nL rm) : e_n E = nL := C.2.2.2.1
theorem CV.hR {E : ET} {cc : ByteArray} {own : String} {nL : Nat} {rm : Room} (C : CV E cc own nL rm) : e_R E = rm := C.2.2.2.2.1
theorem CV.ho {E : ET} {cc : ByteArray} {own : String} {nL : Nat} {rm : Room} (C : CV E cc own nL rm) : (e_s E).vm.findClass own = some (e_m E).cls := C.2.2.2.2.2.1
theorem CV.ht {E : ET} {cc : ByteArray} {own : String} {nL : Nat} {rm : Room} (C : CV E cc own nL rm) : ∀ w ∈ BG, w.before (e_a E) (e_s E) = true := C.2.2.2.2.2.2.1
theorem CV.hK {E : ET} {cc : ByteArray} {own : String} {nL : Nat} {rm : Room} (C : CV E cc own nL rm) : KK (e_D E) (e_k E) (e_A E) (e_s E) (e_s E).heap := C.2.2.2.2.2.2.2.1
theorem CV.hA {E : ET} {cc : ByteArray} {own : String} {nL : Nat} {rm : Room} (C : CV E cc own nL rm) : ∀ q : Nat, (e_s E).heap.size ≤ q → e_A E q := C.2.2.2.2.2.2.2.2.1
theorem CV.hT {E : ET} {cc : ByteArray} {own : String} {nL : Nat} {rm : Room} (C : CV E cc own nL rm) : (e_l E).stackTraces = false := C.2.2.2.2.2.2.2.2.2.1
theorem CV.hL {E : ET} {cc : ByteArray} {own : String} {nL : Nat} {rm : Room} (C : CV E cc own nL rm) : (e_h E).locks = false := C.2.2.2.2.2.2.2.2.2.2
section VR
variable {E : ET} {cc : ByteArray} {own : String} {nL : Nat} {rm : Room} {P : Heap → List Loc → Prop} {cells slots pc : Nat} {loc : List (Nat × Value)} {stk : List Value}
theorem v_iconst (C : CV E cc own nL rm) {n : Int} {v : Int32} (d : decode cc pc = .ok (.iconst n, 1)) (hv : Int32.ofInt n = v) (k : Zz E P cells slots (pc + 1) loc (.int v :: stk)) : Zz E P cells slots pc loc stk := fun H locs ls hP hl => lv_iconst C.1 C.2.1 d hv (k H locs ls hP hl)
theorem v_bipush (C : CV E cc own nL rm) {n : Int} {v : Int32} (d : decode cc pc = .ok (.bipush n, 2)) (hv : (Int8.ofInt n).toInt32 = v) (k : Zz E P cells slots (pc + 2) loc (.int v :: stk)) : Zz E P cells slots pc loc stk := fun H locs ls hP hl => lv_bipush C.1 C.2.1 d hv (k H locs ls hP hl)
theorem v_iload_n (q : Nat) (C : CV E cc own nL rm) {kk : Fin 4} {i : Nat} {x : Int32} (d : decode cc pc = .ok (.iload_n kk, 1)) (hi : (kk : Nat) = i) (hq : loc[q]? = some (i, .int x)) (k : Zz E P cells slots (pc + 1) loc (.int x :: stk)) : Zz E P cells slots pc loc stk := fun H locs ls hP hl => lv_iload_n C.1 C.2.1 d hi (lv_at hl q hq) (k H locs ls hP hl)
theorem v_iload (q : Nat) (C : CV E cc own nL rm) {i : Nat} {x : Int32} (d : decode cc pc = .ok (.iload i, 2)) (hq : loc[q]? = some (i, .int x)) (k : Zz E P cells slots (pc + 2) loc (.int x :: stk)) : Zz E P cells slots pc loc stk := fun H locs ls hP hl => lv_iload C.1 C.2.1 d (lv_at hl q hq) (k H locs ls hP hl)
theorem v_aload_n (q : Nat) (C : CV E cc own nL rm) {kk : Fin 4} {i x : Nat} (d : decode cc pc = .ok (.aload_n kk, 1)) (hi : (kk : Nat) = i) (hq : loc[q]? = some (i, .ref x)) (k : Zz E P cells slots (pc + 1) loc (.ref x :: stk)) : Zz E P cells slots pc loc stk := fun H locs ls hP hl => lv_aload_n C.1 C.2.1 d hi (lv_at hl q hq) (k H locs ls hP hl)
theorem v_aload (q : Nat) (C : CV E cc own nL rm) {i x : Nat} (d : decode cc pc = .ok (.aload i, 2)) (hq : loc[q]? = some (i, .ref x)) (k : Zz E P cells slots (pc + 2) loc (.ref x :: stk)) : Zz E P cells slots pc loc stk := fun H locs ls hP hl => lv_aload C.1 C.2.1 d (lv_at hl q hq) (k H locs ls hP hl)
theorem v_istore (C : CV E cc own nL rm) {i : Nat} {x : Int32} {loc' : List (Nat × Value)} (d : decode cc pc = .ok (.istore i, 2)) (hn : i < nL) (hl' : (i, Value.int x) :: loc.filter (fun q => !(q.1 == i) && !(q.1 + 1 == i && q.2.category == 2)) = loc') (k : Zz E P cells slots (pc + 2) loc' stk) : Zz E P cells slots pc loc (.int x :: stk) := fun H locs ls hP hl => lv_istore C.1 C.2.1 d hl (by rw [C.2.2.2.1]; exact hn) hl' (fun ls' h' => k H locs ls' hP h')
theorem v_astore_n (C : CV E cc own nL rm) {kk : Fin 4} {i x : Nat} {loc' : List (Nat × Value)} (d : decode cc pc = .ok (.astore_n kk, 1)) (hi : (kk : Nat) = i) (hn : i < nL) (hl' : (i, Value.ref x) :: loc.filter (fun q => !(q.1 == i) && !(q.1 + 1 == i && q.2.category == 2)) = loc') (k : Zz E P cells slots (pc + 1) loc' stk) : Zz E P cells slots pc loc (.ref x :: stk) := fun H locs ls hP hl => lv_astore_n C.1 C.2.1 d hi hl (by rw [C.2.2.2.1]; exact hn) hl' (fun ls' h' => k H locs ls' hP h')
theorem v_astore (C : CV E cc own nL rm) {i x : Nat} {loc' : List (Nat × Value)} (d : decode cc pc = .ok (.astore i, 2)) (hn : i < nL) (hl' : (i, Value.ref x) :: loc.filter (fun q => !(q.1 == i) && !(q.1 + 1 == i && q.2.category == 2)) = loc') (k : Zz E P cells slots (pc + 2) loc' stk) : Zz E P cells slots pc loc (.ref x :: stk) := fun H locs ls hP hl => lv_astore C.1 C.2.1 d hl (by rw [C.2.2.2.1]; exact hn) hl' (fun ls' h' => k H locs ls' hP h')
theorem v_iinc (q : Nat) (C : CV E cc own nL rm) {i : Nat} {n : Int} {x v : Int32} {loc' : List (Nat × Value)} (d : decode cc pc = .ok (.iinc i n, 3)) (hq : loc[q]? = some (i, .int x)) (hv : x + Int32.ofInt n = v) (hn : i < nL) (hl' : (i, Value.int v) :: loc.filter (fun q => !(q.1 == i) && !(q.1 + 1 == i && q.2.category == 2)) = loc') (k : Zz E P cells slots (pc + 3) loc' stk) : Zz E P cells slots pc loc stk := fun H locs ls hP hl => lv_iinc C.1 C.2.1 d hl hq hv (by rw [C.2.2.2.1]; exact hn) hl' (fun ls' h' => k H locs ls' hP h')
theorem v_iadd (C : CV E cc own nL rm) {x y : Int32} (d : decode cc pc = .ok (.iadd, 1)) (k : Zz E P cells slots (pc + 1) loc (.int (x + y) :: stk)) : Zz E P cells slots pc loc (.int y :: .int x :: stk) := fun H locs ls hP hl => lv_iadd C.1 C.2.1 d (k H locs ls hP hl)
theorem v_isub (C : CV E cc own nL rm) {x y : Int32} (d : decode cc pc = .ok (.isub, 1)) (k : Zz E P cells slots (pc + 1) loc (.int (x - y) :: stk)) : Zz E P cells slots pc loc (.int y :: .int x :: stk) := fun H locs ls hP hl => lv_isub C.1 C.2.1 d (k H locs ls hP hl)
theorem v_iand (C : CV E cc own nL rm) {x y : Int32} (d : decode cc pc = .ok (.iand, 1)) (k : Zz E P cells slots (pc + 1) loc (.int (x &&& y) :: stk)) : Zz E P cells slots pc loc (.int y :: .int x :: stk) := fun H locs ls hP hl => lv_iand C.1 C.2.1 d (k H locs ls hP hl)
theorem v_lcmp (C : CV E cc own nL rm) {x y : Int64} (d : decode cc pc = .ok (.lcmp, 1)) (k : Zz E P cells slots (pc + 1) loc (.int (lg_cmp x y) :: stk)) : Zz E P cells slots pc loc (.long y :: .long x :: stk) := fun H locs ls hP hl => W.lcmp C.1 C.2.1 d (k H locs ls hP hl)
theorem v_i2l (C : CV E cc own nL rm) {x : Int32} (d : decode cc pc = .ok (.i2l, 1)) (k : Zz E P cells slots (pc + 1) loc (.long x.toInt64 :: stk)) : Zz E P cells slots pc loc (.int x :: stk) := fun H locs ls hP hl => lv_i2l C.1 C.2.1 d rfl (k H locs ls hP hl)
theorem v_dup (C : CV E cc own nL rm) {v : Value} (d : decode cc pc = .ok (.dup, 1)) (hv : v.category = 1) (k : Zz E P cells slots (pc + 1) loc (v :: v :: stk)) : Zz E P cells slots pc loc (v :: stk) := fun H locs ls hP hl => lv_dup C.1 C.2.1 d hv (k H locs ls hP hl)
theorem v_goto (tgt : Nat) (C : CV E cc own nL rm) {off : Int} (d : decode cc pc = .ok (.goto off, 3)) (ht : (pc : Int) + off = (tgt : Int)) (k : Zz E P cells slots tgt loc stk) : Zz E P cells slots pc loc stk := fun H locs ls hP hl => lv_goto C.1 C.2.1 d ht (k H locs ls hP hl)
theorem v_if_eq (tgt : Nat) (C : CV E cc own nL rm) {x : Int32} {off : Int} (d : decode cc pc = .ok (.ifCond .eq off, 3)) (ht : (pc : Int) + off = (tgt : Int)) (kt : x = 0 → Zz E P cells slots tgt loc stk) (kf : ¬ x = 0 → Zz E P cells slots (pc + 3) loc stk) : Zz E P cells slots pc loc (.int x :: stk) := fun H locs ls hP hl => lv_if_eq C.1 C.2.1 d ht (fun h => kt h H locs ls hP hl) (fun h => kf h H locs ls hP hl)
theorem v_icmp_eq (tgt : Nat) (C : CV E cc own nL rm) {x y : Int32} {off : Int} (d : decode cc pc = .ok (.if_icmp .eq off, 3)) (ht : (pc : Int) + off = (tgt : Int)) (kt : x = y → Zz E P cells slots tgt loc stk) (kf : ¬ x = y → Zz E P cells slots (pc + 3) loc stk) : Zz E P cells slots pc loc (.int y :: .int x :: stk) := fun H locs ls hP hl => lv_icmp_eq C.1 C.2.1 d ht (fun h => kt h H locs ls hP hl) (fun h => kf h H locs ls hP hl)
theorem v_if_ne (tgt : Nat) (C : CV E cc own nL rm) {x : Int32} {off : Int} (d : decode cc pc = .ok (.ifCond .ne off, 3)) (ht : (pc : Int) + off = (tgt : Int)) (kt : ¬ x = 0 → Zz E P cells slots tgt loc stk) (kf : x = 0 → Zz E P cells slots (pc + 3) loc stk) : Zz E P cells slots pc loc (.int x :: stk) := fun H locs ls hP hl => lv_if_ne C.1 C.2.1 d ht (fun h => kt h H locs ls hP hl) (fun h => kf h H locs ls hP hl)
theorem v_icmp_gt (tgt : Nat) (C : CV E cc own nL rm) {x y : Int32} {off : Int} (d : decode cc pc = .ok (.if_icmp .gt off, 3)) (ht : (pc : Int) + off = (tgt : Int)) (kt : y < x → Zz E P cells slots tgt loc stk) (kf : ¬ y < x → Zz E P cells slots (pc + 3) loc stk) : Zz E P cells slots pc loc (.int y :: .int x :: stk) := fun H locs ls hP hl => lv_icmp_gt C.1 C.2.1 d ht (fun h => kt h H locs ls hP hl) (fun h => kf h H locs ls hP hl)
theorem v_lconst (C : CV E cc own nL rm) {n : Fin 2} {v : Int64} (d : decode cc pc = .ok (.lconst n, 1)) (hv : Int64.ofNat (n : Nat) = v) (k : Zz E P cells slots (pc + 1) loc (.long v :: stk)) : Zz E P cells slots pc loc stk := fun H locs ls hP hl => lv_lconst C.1 C.2.1 d hv (k H locs ls hP hl)
theorem v_swi (tgt : Nat) (C : CV E cc own nL rm) {dflt lo hi : Int} {offs : Array Int} {len : Nat} {x v : Int32} {off : Int} (d : decode cc pc = .ok (.tableswitch dflt lo hi offs, len)) (hx : x = v) (h1 : ¬ v.toInt < lo) (h2 : ¬ hi < v.toInt) (ho : offs[(v.toInt - lo).toNat]? = some off) (ht : (pc : Int) + off = (tgt : Int)) (k : Zz E P cells slots tgt loc stk) : Zz E P cells slots pc loc (.int x :: stk) := fun H locs ls hP hl => by
  subst hx
  exact lv_tableIn C.1 C.2.1 d h1 h2 ho ht (k H locs ls hP hl)
theorem v_swo (tgt : Nat) (C : CV E cc own nL rm) {dflt lo hi : Int} {offs : Array Int} {len : Nat} {x : Int32} (d : decode cc pc = .ok (.tableswitch dflt lo hi offs, len)) (h : x.toInt < lo ∨ hi < x.toInt) (ht : (pc : Int) + dflt = (tgt : Int)) (k : Zz E P cells slots tgt loc stk) : Zz E P cells slots pc loc (.int x :: stk) := fun H locs ls hP hl => lv_tableOut C.1 C.2.1 d h ht (k H locs ls hP hl)
end VR
section VC
variable {E : ET} {cc : ByteArray} {own : String} {nL : Nat} {rm : Room} {cells slots pc : Nat} {loc : List (Nat × Value)} {stk : List Value} {n : Nat} {G : GT} {a : Nat → Nat} {S : St}
theorem v_pre (C : CV E cc own nL rm) {H : Heap} {locs : List Loc} (hW : WG n G E a S H locs) : ∀ q, aA a n H.size q → e_A E q := aA_sub hW.2.1 (fun q h => C.hA q (Nat.le_trans hW.2.2.1 h))
theorem v_runV (C : CV E cc own nL rm) {y : MethodName} {b : ByteArray} {maxL : Nat} {ret : Option FieldType} {rm' : Room} {As st0 : List Value} {o : String ⊕ Option Value} {S' : St} {k ci idx nargs : Nat} {fs : List Value} {T : u_T} {N : Nat} (hM : MX (e_l E) n G (e_D E) (e_k E) a y b maxL ret rm' (.ref (a k) :: As) S o S') (hC : CallVok own idx y b maxL ret nargs) (hk : k < n) (hG : G (e_k E) a (S.1 k) (S.2 k) k = .inr (ci, fs)) (hc : vwCl[ci]? = some (y.cls, T, N)) (hn : As.length = nargs) (hst : st0 = As.reverse ++ .ref (a k) :: stk) (hcat : (stk.map fun v => v.category).sum ≤ 8) (hR : rm'.frames + 1 ≤ rm.frames ∧ 8 + (maxL + 11) + rm'.locals ≤ rm.locals) (hf : cells + rm'.cells ≤ rm.cells ∧ slots + rm'.slots ≤ rm.slots) (d : decode cc pc = .ok (.invokevirtual idx, 3)) {H : Heap} {locs : List Loc} {ls : Array Slot} (hW : WG n G E a S H locs) (hl : lv_has ls (e_n E) loc) :
    vx_Run (e_p E) (e_l E) (e_e E) (e_R E) (e_s E) (e_m E) (e_a E) (e_b E) (e_h E) (e_c E) H locs cells slots rm'.cells rm'.slots (F0 (e_m E) pc ls st0) stk (QCg n G (e_D E) (e_k E) a (aA a n H.size) o S' (Value.ref (a k) :: As).toArray) (XCg n G (e_D E) (e_k E) a (aA a n H.size) o S') (aA a n H.size) := by
  obtain ⟨h1, h2, h3, h4, h5, h6⟩ := hC
  have hg : GoodIn BG (wsV own idx y.cls y (Cond.code y b maxL ret :: BG)) := gi_bg (fun w hw => by
    unfold wsV at hw
    rcases List.mem_append.mp hw with hw | hw
    · simp only [List.mem_cons, List.not_mem_nil, or_false] at hw
      rcases hw with rfl | rfl | rfl | rfl
      · exact h1
      · exact h2
      · exact h3
      · exact h4
    · exact gi_code h5 w hw)
  exact vx_runV (As := As) (rest := stk) ⟨C.1, C.2.1, C.2.2.1, C.ho, C.ht⟩ (hM H.size) (cwV nargs C.ht hg rfl rfl rfl ⟨rfl, h6⟩ (by rw [C.hR]; exact hR))
    ⟨PreG_blind, va_recv C.hK.1 hW.1 hc (q0 := k) (by rw [wC_at hk, hG]), fun U hU hWm => ⟨rfl, by rw [hU], by rw [hU]; exact hW.1, ⟨hW.2.1.1, fun _ _ _ => trivial⟩, KK.step C.hK hW.2.2 (v_pre C hW) hU hWm⟩⟩ rfl hn (hl.1.trans C.hn) hst (lv_room hcat) d (by rw [C.hR]; exact hf)
end VC

/-! ===== the wrappers' world: the lane and the out array ===== -/
def ncs : List (String × String) := [("java/lang/IllegalArgumentException", "java/lang/IllegalStateException"), ("java/lang/IllegalArgumentException", "java/lang/IndexOutOfBoundsException"), ("java/lang/IllegalStateException", "java/lang/IllegalArgumentException"), ("java/lang/IllegalStateException", "java/lang/IndexOutOfBoundsException"), ("java/lang/IndexOutOfBoundsException", "java/lang/IllegalArgumentException"), ("java/lang/IndexOutOfBoundsException", "java/lang/IllegalStateException")]
def NC (U : State) : Prop := ∀ q ∈ ncs, va_Nc q.1 q.2 U
def oW (cs : Nat → ClassId) (ao : Nat) (f : Nat → Int64) : va_W := [(ao, .inl (cs 4, 1, .inr (.inl f)))]
theorem oW_at {cs : Nat → ClassId} {ao k : Nat} {f : Nat → Int64} {q : Nat × va_E} (h : (oW cs ao f)[k]? = some q) : k = 0 ∧ q = (ao, .inl (cs 4, 1, .inr (.inl f))) := by
  have hz : k < 1 := (List.getElem?_eq_some_iff.mp h).1
  obtain rfl : k = 0 := by omega
  exact ⟨rfl, (Option.some.inj h).symm⟩
theorem oW_D {cs : Nat → ClassId} {ao : Nat} {f : Nat → Int64} {A : Nat → Prop} (h : A ao) : va_D A (oW cs ao f) := by
  refine ⟨fun i j p q hi hj _ => ?_, fun k q hk => ?_⟩
  · rw [(oW_at hi).1, (oW_at hj).1]
  · rw [(oW_at hk).2]; exact h
def aO (a : Nat → Nat) (ao sz : Nat) : Nat → Prop := fun q => aA a 113 sz q ∨ q = ao
def WO (E : ET) (a : Nat → Nat) (ao : Nat) (S : St) (f : Nat → Int64) : Heap → List Loc → Prop := fun H locs =>
  va_P (e_D E) vwCl (wC 113 GX (e_k E) a S) H ∧ va_P (e_D E) vwCl (oW (e_k E) ao f) H ∧ va_S (e_A E) (e_s E).heap H locs
def DO (E : ET) (a : Nat → Nat) (ao : Nat) : Prop := (∀ S, va_D (e_A E) (wC 113 GX (e_k E) a S)) ∧ e_A E ao ∧ ∀ i, i < 113 → a i ≠ ao
theorem DO.out {E : ET} {a : Nat → Nat} {ao : Nat} (h : DO E a ao) {sz : Nat} (hz : ao < sz) : ¬ aA a 113 sz ao := by
  rintro (⟨k, hk, e⟩ | h2)
  · exact h.2.2 k hk e.symm
  · omega
theorem va_P.ne {D : va_G} {ws : va_W} {H H1 : Heap} {A1 : Nat → Prop} (h : va_P D vwCl ws H) (hF : ∀ q : Nat, q < H.size → ¬ A1 q → H1[q]? = H[q]?) (hn : ∀ (k : Nat) (q : Nat × va_E), ws[k]? = some q → ¬ A1 q.1) : va_P D vwCl ws H1 :=
  h.kept (fun k q hk => hF q.1 (h k q hk).lt (hn k q hk))
section VO
variable {E : ET} {cc : ByteArray} {own : String} {nL : Nat} {rm : Room} {cells slots pc : Nat} {loc : List (Nat × Value)} {stk : List Value} {a : Nat → Nat} {ao : Nat} {S : St} {f : Nat → Int64}
theorem v_last (C : CV E cc own nL rm) (hD : DO E a ao) {i : Int32} {x : Int64} (hin : vp_in i 1) (d : decode cc pc = .ok (.lastore, 1)) (kk : Zz E (WO E a ao S (vp_updL f i.toNatClampNeg x)) cells slots (pc + 1) loc stk) : Zz E (WO E a ao S f) cells slots pc loc (.long x :: .int i :: .ref ao :: stk) := fun H locs ls hP hl => by
  have he : (oW (e_k E) ao f)[0]? = some (ao, .inl (e_k E 4, 1, .inr (.inl f))) := rfl
  refine W.last C.1 C.2.1 (hP.2.1 0 _ he) ((C.hK.1.2 4 (e_k E 4, .long) rfl).1 1 (fun j => .long (f j))) (fun q => by cases q) (by show ¬ (i < 0 ∨ (arrV _ _ _).slots.size ≤ _); rw [arrV_size]; exact hin) rfl rfl d fun H1 e z oq => ?_
  refine kk H1 _ ls ⟨hP.1.kept (fun k q hk => oq q.1 ?_), ?_, hP.2.2.put z oq hD.2.1⟩ hl
  · obtain ⟨h1, rfl⟩ := wC_some hk
    exact hD.2.2 k h1
  · intro k q hk
    obtain ⟨-, rfl⟩ := oW_at hk
    show H1[ao]? = some (vp_cell _ _)
    rw [e]
    rw [vp_cell_l, vp_cell_l, arrV_store]
    congr 2
    funext q
    by_cases hq : q = i.toNatClampNeg
    · subst hq
      simp [updV, vp_updL]
    · simp [updV, vp_updL, hq]
/-- what a wrapper starts from, and ends in -/
def PreO (D : va_G) (cs : Nat → ClassId) (a : Nat → Nat) (ao : Nat) (S : St) (f : Nat → Int64) (sz : Nat) (U : State) : Prop :=
  U.heap.size = sz ∧ va_P D vwCl (wC 113 GX cs a S) U.heap ∧ va_P D vwCl (oW cs ao f) U.heap ∧ va_D (fun _ => True) (wC 113 GX cs a S) ∧ (∀ i, i < 113 → a i ≠ ao) ∧ KK D cs (aO a ao sz) U U.heap ∧ NC U
theorem NC.calling {U : State} {g : JFrame} {mk : MethodId} {x : Array Value} (h : NC U) : NC (U.calling g mk x) := fun q hq => va_Nc.moved (u := U) (U := U.calling g mk x) (Vm.Alike.refl U.vm) (h q hq)
theorem PreO_blind {D : va_G} {cs : Nat → ClassId} {sz : Nat} {av : List Value} : FrameBlind (va_Pc av (PreO D cs a ao S f sz)) := fun arr U g mk h => ⟨h.1, h.2.1, h.2.2.1, h.2.2.2.1, h.2.2.2.2.1, h.2.2.2.2.2.1, KK.calling h.2.2.2.2.2.2.1, h.2.2.2.2.2.2.2.calling⟩
def QO (D : va_G) (cs : Nat → ClassId) (a : Nat → Nat) (ao : Nat) (A : Nat → Prop) (k : Int32) (S' : St) (f' : Nat → Int64) : Array Value → State → Outcome → State → Prop := fun _ st oc t =>
  (oc = .returned (some (.int k)) ∧ va_P D vwCl (wC 113 GX cs a S') t.heap ∧ va_P D vwCl (oW cs ao f') t.heap) ∧ va_F A st t
def MO (l : Launch) (D : va_G) (cs : Nat → ClassId) (a : Nat → Nat) (ao : Nat) (y : MethodName) (b : ByteArray) (maxL : Nat) (hh : List (Nat × Nat × Nat × Nat)) (rm : Room) (av : List Value) (S : St) (f : Nat → Int64) (k : Int32) (S' : St) (f' : Nat → Int64) : Prop :=
  ∀ sz, vx_Met l y (.codeWith y b maxL (some .int) hh :: BG) rm (va_Pc av (PreO D cs a ao S f sz)) (QO D cs a ao (aO a ao sz) k S' f') (fun _ _ _ => False) rm.cells rm.slots (aO a ao sz)
def CO (E : ET) (hh : List (Nat × Nat × Nat × Nat)) (a : Nat → Nat) (ao : Nat) (k : Int32) (S' : St) (f' : Nat → Int64) : Prop :=
  (e_c E).exceptionTable.toList = tableOf hh ∧ NC (e_s E) ∧ DO E a ao ∧ (e_h E).sig.returnType = some .int ∧
  e_Q E = vx_MQ (e_b E) (QO (e_D E) (e_k E) a ao (e_A E) k S' f') (fun _ _ _ => False) (e_a E) (e_s E) (e_R E).cells (e_R E).slots (e_A E)
theorem v_oret (C : CV E cc own nL rm) {hh : List (Nat × Nat × Nat × Nat)} {k : Int32} {S' : St} {f' : Nat → Int64} (O : CO E hh a ao k S' f') (d : decode cc pc = .ok (.ireturn, 1)) (es : S' = S) (ef : f' = f) (hc : cells ≤ rm.cells) (hs : slots ≤ rm.slots) : Zz E (WO E a ao S f) cells slots pc loc [.int k] := by
  intro H locs ls hW hl
  subst es
  subst ef
  rw [show e_Q E = _ from O.2.2.2.2]
  refine W.widen (k := (e_R E).cells) (n := (e_R E).slots) (by rw [C.hR]; exact hc) (by rw [C.hR]; exact hs) (vx_ret ?_)
  exact W.zret C.1 C.2.1 O.2.2.2.1 rfl (fun t ht _ => ⟨⟨rfl, by rw [ht]; exact hW.1, by rw [ht]; exact hW.2.1⟩, hW.2.2.F ht⟩) hW.2.2.2.2 d C.hL
/-- the lane's method called in a wrapper: it returns, or throws and is caught here -/
theorem v_callO {c1 s1 : Nat} {y : MethodName} {b : ByteArray} {maxL : Nat} {ret : Option FieldType} {rm' : Room} (As : List Value) {st0 st1 : List Value} {v : Value} {S' : St} {idx nargs : Nat} {T : u_T} {N ci : Nat} {fs : List Value} (C : CV E cc own nL rm) (hD : DO E a ao) (hM : MX (e_l E) 113 GX (e_D E) (e_k E) a y b maxL ret rm' (.ref (a 0) :: As) S (.inr (some v)) S') (hC : CallVok own idx y b maxL ret nargs) (hG : GX (e_k E) a (S.1 0) (S.2 0) 0 = .inr (ci, fs)) (hc : vwCl[ci]? = some (y.cls, T, N)) (hn : As.length = nargs) (hst : st0 = As.reverse ++ .ref (a 0) :: stk) (hs : v :: stk = st1) (hcat : (stk.map fun v => v.category).sum ≤ 8) (hR : rm'.frames + 1 ≤ rm.frames ∧ 8 + (maxL + 11) + rm'.locals ≤ rm.locals) (hf : cells + rm'.cells ≤ rm.cells ∧ slots + rm'.slots ≤ rm.slots) (d : decode cc pc = .ok (.invokevirtual idx, 3))
    (h1 : cells + rm'.cells = c1) (h2 : slots + rm'.slots = s1) (kk : Zz E (WO E a ao S' f) c1 s1 (pc + 3) loc st1) : Zz E (WO E a ao S f) cells slots pc loc st0 := fun H locs ls hP hl => by
  subst h1
  subst h2
  subst hs
  have hW : WG 113 GX E a S H locs := ⟨hP.1, hD.1 S, hP.2.2⟩
  have hr := v_runV C hM hC (by decide) hG hc hn hst hcat hR hf d hW hl
  have hA := v_pre C hW
  intro T hT X
  rcases hr T hT X with ⟨v', st₀, t, T', L, h0, X', hL, e1, e2, ⟨⟨v2, ho2, hv, hp⟩, hF⟩, st⟩ | ⟨q, st₀, t, T', L, E1, ce, h0, X', hL, e1, e2, ⟨⟨ho2, hp⟩, hF⟩, hce, hcv, hcl, st⟩
  · cases ho2
    cases hv
    obtain ⟨k1, k2, k3⟩ := vx_keep h0 e1 hP.2.2 (fun q _ h => hA q h) hA hL hF
    obtain ⟨t2, a1, b1⟩ := kk T'.heap (locs ++ L) ls ⟨by rw [e1]; exact hp, hP.2.1.ne k2 (fun k q hk => by
      have h9 := (hP.2.1 k q hk).lt
      obtain ⟨-, rfl⟩ := oW_at hk
      exact hD.out h9), k3⟩ hl T' rfl X'
    exact ⟨t2, st t2 a1, b1⟩
  · cases ho2
theorem v_callOx {c1 s1 : Nat} {y : MethodName} {b : ByteArray} {maxL : Nat} {ret : Option FieldType} {rm' : Room} (As : List Value) {st0 : List Value} {x : String} {S' : St} {idx nargs : Nat} {T : u_T} {N ci : Nat} {fs : List Value} {hh : List (Nat × Nat × Nat × Nat)} {k : Int32} {S2 : St} {f2 : Nat → Int64} (pre : List ExceptionTableEntry) (xe : ExceptionTableEntry) (suf : List ExceptionTableEntry) (C : CV E cc own nL rm) (O : CO E hh a ao k S2 f2) (hM : MX (e_l E) 113 GX (e_D E) (e_k E) a y b maxL ret rm' (.ref (a 0) :: As) S (.inl x) S') (hC : CallVok own idx y b maxL ret nargs) (hG : GX (e_k E) a (S.1 0) (S.2 0) 0 = .inr (ci, fs)) (hc : vwCl[ci]? = some (y.cls, T, N)) (hn : As.length = nargs) (hst : st0 = As.reverse ++ .ref (a 0) :: stk) (hcat : (stk.map fun v => v.category).sum ≤ 8) (hR : rm'.frames + 1 ≤ rm.frames ∧ 8 + (maxL + 11) + rm'.locals ≤ rm.locals) (hf : cells + rm'.cells ≤ rm.cells ∧ slots + rm'.slots ≤ rm.slots) (d : decode cc pc = .ok (.invokevirtual idx, 3))
    (hsplit : tableOf hh = pre ++ xe :: suf) (hpass : ∀ z ∈ pre, z.catchType ≠ 0 ∧ ∃ nm : String, Cond.classLink own z.catchType nm ∈ BG ∧ (x, nm) ∈ ncs) (hx : covers xe pc = true) (hx0 : xe.catchType ≠ 0) (hlink : Cond.classLink own xe.catchType x ∈ BG) (hxx : x ∈ thrXs)
    (h1 : cells + rm'.cells = c1) (h2 : slots + rm'.slots = s1) (kk : ∀ q, Zz E (WO E a ao S' f) c1 s1 xe.handlerPc loc [.ref q]) : Zz E (WO E a ao S f) cells slots pc loc st0 := fun H locs ls hP hl => by
  subst h1
  subst h2
  have hD := O.2.2.1
  have hW : WG 113 GX E a S H locs := ⟨hP.1, hD.1 S, hP.2.2⟩
  have hr := v_runV C hM hC (by decide) hG hc hn hst hcat hR hf d hW hl
  have hA := v_pre C hW
  intro T hT X
  rcases hr T hT X with ⟨v', st₀, t, T', L, h0, X', hL, e1, e2, ⟨⟨v2, ho2, hv, hp⟩, hF⟩, st⟩ | ⟨q, st₀, t, T', L, E1, ce, h0, X', hL, e1, e2, ⟨⟨ho2, hp⟩, hF⟩, hce, hcv, hcl, st⟩
  · cases ho2
  · cases ho2
    obtain ⟨k1, k2, k3⟩ := vx_keep h0 e1 hP.2.2 (fun q _ h => hA q h) hA hL hF
    have hk := kk q T'.heap (locs ++ L) ls ⟨by rw [e1]; exact hp, hP.2.1.ne k2 (fun k q hk => by
      have h9 := (hP.2.1 k q hk).lt
      obtain ⟨-, rfl⟩ := oW_at hk
      exact hD.out h9), k3⟩ hl
    have key := vx_catch (rest := stk) (pc := pc) C.ho pre xe suf (O.1.trans hsplit) (fun z hz => by
      obtain ⟨h7, nm, h8, h9⟩ := hpass z hz
      exact Or.inr ⟨h7, nm, C.ht _ h8, O.2.1 _ h9⟩) hx hx0 (C.ht _ hlink) (va_Nw.use rfl (C.hK.2.2.2.1.2.1 x hxx)) (by rw [e1]; exact hce) hcv hcl hk
    obtain ⟨t2, a1, b1⟩ := key T' rfl X'
    exact ⟨t2, st.trans a1, b1⟩
end VO
/-- a wrapper's contract out of a walk of its body -/
theorem mo_entry {l : Launch} {D : va_G} {cs : Nat → ClassId} {a : Nat → Nat} {ao : Nat} {y : MethodName} {b : ByteArray} {maxL : Nat} {hh : List (Nat × Nat × Nat × Nat)} {rm : Room} {av : List Value} {S : St} {f : Nat → Int64} {k : Int32} {S' : St} {f' : Nat → Int64} (loc0 : List (Nat × Value)) (hT : l.stackTraces = false) (hy : plainName y.cls = true) (hargs : (lg_sl av).length ≤ maxL) (hloc : lv_args 0 av = loc0)
    (body : ∀ E : ET, e_l E = l → e_D E = D → e_k E = cs → CV E b y.cls maxL rm → CO E hh a ao k S' f' → Zz E (WO E a ao S f) 0 0 0 loc0 []) : MO l D cs a ao y b maxL hh rm av S f k S' f' := by
  intro sz
  refine vx_ofWH (cc := b) (maxL := maxL) (ret := some .int) (hh := hh) hy rfl ?_
  intro p e s m args below meth c s₁ B hml hv
  obtain ⟨rfl, hsz, hP, hP2, hDD, hne, hK, hN⟩ := hv
  have hts : ∀ w ∈ (Cond.codeWith y b maxL (some .int) hh :: BG), w.before av.toArray s = true := atoms_spec (ws := Cond.codeWith y b maxL (some .int) hh :: BG) B.pre
  subst hsz
  have hl := lv_entry av hargs
  rw [hloc] at hl
  rw [lg_entry_eq]
  generalize hls : (lg_sl av ++ List.replicate (maxL - (lg_sl av).length) Slot.unset).toArray = ls at hl ⊢
  exact body ((p, l, e, rm), (s, m, av.toArray, below), (meth, c, maxL, vx_MQ below (QO D cs a ao (aO a ao s.heap.size) k S' f') (fun _ _ _ => False) av.toArray s rm.cells rm.slots (aO a ao s.heap.size)), (D, cs, aO a ao s.heap.size)) rfl rfl rfl
    ⟨B.exec, B.bytes, hml, rfl, rfl, findClass_of_methodNamed B.named, fun w hw => hts w (List.mem_cons_of_mem _ hw), hK, fun q h => Or.inl (Or.inr h), hT, B.notSynchronized⟩
    ⟨vx_table (x := y) B (hts _ List.mem_cons_self), hN, ⟨fun S2 => ⟨(wC_D hDD (S' := S2)).1, fun j q hj => by obtain ⟨h1, rfl⟩ := wC_some hj; exact Or.inl (Or.inl ⟨j, h1, rfl⟩)⟩, Or.inr rfl, hne⟩, B.returns, rfl⟩ s.heap [] ls ⟨hP, hP2, va_S.rf⟩ hl

