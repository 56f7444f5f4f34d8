/-! ===== the law's methods: a frame as CX, with no word on the exception table ===== -/
def CV (E : ET) (cc : ByteArray) (own : String) (nL : Nat) (rm : Room) : Prop :=
  (e_p E).tables.exec = Jvm.exec ∧ (e_c E).code = cc ∧ (e_c E).maxLocals = nL ∧ e_n E = nL ∧ e_R E = rm ∧ (e_s E).vm.findClass own = some (e_m E).cls ∧ (∀ w ∈ BG, w.before (e_a E) (e_s E) = true) ∧
  KK (e_D E) (e_k E) (e_A E) (e_s E) (e_s E).heap ∧ (∀ q : Nat, (e_s E).heap.size ≤ q → e_A E q) ∧ (e_l E).stackTraces = false ∧ (e_h E).locks = false
theorem CV.hn {E : ET} {cc : ByteArray} {own : String} {nL : Nat} {rm : Room} (C : CV E cc own nL rm) : e_n E = nL := C.2.2.2.1
theorem CV.hR {E : ET} {cc : ByteArray} {own : String} {nL : Nat} {rm : Room} (C : CV E cc own nL rm) : e_R E = rm := C.2.2.2.2.1
theorem CV.ho {E : ET} {cc : ByteArray} {own : String} {nL : Nat} {rm : Room} (C : CV E cc own nL rm) : (e_s E).vm.findClass own = some (e_m E).cls := C.2.2.2.2.2.1
theorem CV.ht {E : ET} {cc : ByteArray} {own : String} {nL : Nat} {rm : Room} (C : CV E cc own nL rm) : ∀ w ∈ BG, w.before (e_a E) (e_s E) = true := C.2.2.2.2.2.2.1
theorem CV.hK {E : ET} {cc : ByteArray} {own : String} {nL : Nat} {rm : Room} (C : CV E cc own nL rm) : KK (e_D E) (e_k E) (e_A E) (e_s E) (e_s E).heap := C.2.2.2.2.2.2.2.1
theorem CV.hA {E : ET} {cc : ByteArray} {own : String} {nL : Nat} {rm : Room} (C : CV E cc own nL rm) : ∀ q : Nat, (e_s E).heap.size ≤ q → e_A E q := C.2.2.2.2.2.2.2.2.1
theorem CV.hT {E : ET} {cc : ByteArray} {own : String} {nL : Nat} {rm : Room} (C : CV E cc own nL rm) : (e_l E).stackTraces = false := C.2.2.2.2.2.2.2.2.2.1
theorem CV.hL {E : ET} {cc : ByteArray} {own : String} {nL : Nat} {rm : Room} (C : CV E cc own nL rm) : (e_h E).locks = false := C.2.2.2.2.2.2.2.2.2.2
section VR
variable {E : ET} {cc : ByteArray} {own : String} {nL : Nat} {rm : Room} {P : Heap → List Loc → Prop} {cells slots pc : Nat} {loc : List (Nat × Value)} {stk : List Value}
theorem v_iconst (C : CV E cc own nL rm) {n : Int} {v : Int32} (d : decode cc pc = .ok (.iconst n, 1)) (hv : Int32.ofInt n = v) (k : Zz E P cells slots (pc + 1) loc (.int v :: stk)) : Zz E P cells slots pc loc stk := fun H locs ls hP hl => lv_iconst C.1 C.2.1 d hv (k H locs ls hP hl)
theorem v_bipush (C : CV E cc own nL rm) {n : Int} {v : Int32} (d : decode cc pc = .ok (.bipush n, 2)) (hv : (Int8.ofInt n).toInt32 = v) (k : Zz E P cells slots (pc + 2) loc (.int v :: stk)) : Zz E P cells slots pc loc stk := fun H locs ls hP hl => lv_bipush C.1 C.2.1 d hv (k H locs ls hP hl)
theorem v_sipush (C : CV E cc own nL rm) {n : Int} {v : Int32} (d : decode cc pc = .ok (.sipush n, 3)) (hv : (Int16.ofInt n).toInt32 = v) (k : Zz E P cells slots (pc + 3) loc (.int v :: stk)) : Zz E P cells slots pc loc stk := fun H locs ls hP hl => lv_sipush C.1 C.2.1 d hv (k H locs ls hP hl)
theorem v_lconst (C : CV E cc own nL rm) {n : Fin 2} {v : Int64} (d : decode cc pc = .ok (.lconst n, 1)) (hv : Int64.ofNat (n : Nat) = v) (k : Zz E P cells slots (pc + 1) loc (.long v :: stk)) : Zz E P cells slots pc loc stk := fun H locs ls hP hl => lv_lconst C.1 C.2.1 d hv (k H locs ls hP hl)
theorem v_ldc2 (C : CV E cc own nL rm) {index : Nat} {v : Int64} (hw : Cond.constantLong own index v ∈ BG) (d : decode cc pc = .ok (.ldc2_w index, 3)) (k : Zz E P cells slots (pc + 3) loc (.long v :: stk)) : Zz E P cells slots pc loc stk := fun H locs ls hP hl => lv_ldc2 C.1 C.2.1 C.2.2.2.2.2.1 (C.2.2.2.2.2.2.1 _ hw) d (k H locs ls hP hl)
theorem v_iload_n (q : Nat) (C : CV E cc own nL rm) {kk : Fin 4} {i : Nat} {x : Int32} (d : decode cc pc = .ok (.iload_n kk, 1)) (hi : (kk : Nat) = i) (hq : loc[q]? = some (i, .int x)) (k : Zz E P cells slots (pc + 1) loc (.int x :: stk)) : Zz E P cells slots pc loc stk := fun H locs ls hP hl => lv_iload_n C.1 C.2.1 d hi (lv_at hl q hq) (k H locs ls hP hl)
theorem v_iload (q : Nat) (C : CV E cc own nL rm) {i : Nat} {x : Int32} (d : decode cc pc = .ok (.iload i, 2)) (hq : loc[q]? = some (i, .int x)) (k : Zz E P cells slots (pc + 2) loc (.int x :: stk)) : Zz E P cells slots pc loc stk := fun H locs ls hP hl => lv_iload C.1 C.2.1 d (lv_at hl q hq) (k H locs ls hP hl)
theorem v_lload_n (q : Nat) (C : CV E cc own nL rm) {kk : Fin 4} {i : Nat} {x : Int64} (d : decode cc pc = .ok (.lload_n kk, 1)) (hi : (kk : Nat) = i) (hq : loc[q]? = some (i, .long x)) (k : Zz E P cells slots (pc + 1) loc (.long x :: stk)) : Zz E P cells slots pc loc stk := fun H locs ls hP hl => lv_lload_n C.1 C.2.1 d hi (lv_at hl q hq) (k H locs ls hP hl)
theorem v_lload (q : Nat) (C : CV E cc own nL rm) {i : Nat} {x : Int64} (d : decode cc pc = .ok (.lload i, 2)) (hq : loc[q]? = some (i, .long x)) (k : Zz E P cells slots (pc + 2) loc (.long x :: stk)) : Zz E P cells slots pc loc stk := fun H locs ls hP hl => lv_lload C.1 C.2.1 d (lv_at hl q hq) (k H locs ls hP hl)
theorem v_aload_n (q : Nat) (C : CV E cc own nL rm) {kk : Fin 4} {i x : Nat} (d : decode cc pc = .ok (.aload_n kk, 1)) (hi : (kk : Nat) = i) (hq : loc[q]? = some (i, .ref x)) (k : Zz E P cells slots (pc + 1) loc (.ref x :: stk)) : Zz E P cells slots pc loc stk := fun H locs ls hP hl => lv_aload_n C.1 C.2.1 d hi (lv_at hl q hq) (k H locs ls hP hl)
theorem v_aload (q : Nat) (C : CV E cc own nL rm) {i x : Nat} (d : decode cc pc = .ok (.aload i, 2)) (hq : loc[q]? = some (i, .ref x)) (k : Zz E P cells slots (pc + 2) loc (.ref x :: stk)) : Zz E P cells slots pc loc stk := fun H locs ls hP hl => lv_aload C.1 C.2.1 d (lv_at hl q hq) (k H locs ls hP hl)
theorem v_istore_n (C : CV E cc own nL rm) {kk : Fin 4} {i : Nat} {x : Int32} {loc' : List (Nat × Value)} (d : decode cc pc = .ok (.istore_n kk, 1)) (hi : (kk : Nat) = i) (hn : i < nL) (hl' : (i, Value.int x) :: loc.filter (fun q => !(q.1 == i) && !(q.1 + 1 == i && q.2.category == 2)) = loc') (k : Zz E P cells slots (pc + 1) loc' stk) : Zz E P cells slots pc loc (.int x :: stk) := fun H locs ls hP hl => lv_istore_n C.1 C.2.1 d hi hl (by rw [C.2.2.2.1]; exact hn) hl' (fun ls' h' => k H locs ls' hP h')
theorem v_istore (C : CV E cc own nL rm) {i : Nat} {x : Int32} {loc' : List (Nat × Value)} (d : decode cc pc = .ok (.istore i, 2)) (hn : i < nL) (hl' : (i, Value.int x) :: loc.filter (fun q => !(q.1 == i) && !(q.1 + 1 == i && q.2.category == 2)) = loc') (k : Zz E P cells slots (pc + 2) loc' stk) : Zz E P cells slots pc loc (.int x :: stk) := fun H locs ls hP hl => lv_istore C.1 C.2.1 d hl (by rw [C.2.2.2.1]; exact hn) hl' (fun ls' h' => k H locs ls' hP h')
theorem v_lstore_n (C : CV E cc own nL rm) {kk : Fin 4} {i : Nat} {x : Int64} {loc' : List (Nat × Value)} (d : decode cc pc = .ok (.lstore_n kk, 1)) (hi : (kk : Nat) = i) (hn : i + 1 < nL) (hl' : (i, Value.long x) :: loc.filter (fun q => !(q.1 == i) && (!(q.1 == i + 1) && !(q.1 + 1 == i && q.2.category == 2))) = loc') (k : Zz E P cells slots (pc + 1) loc' stk) : Zz E P cells slots pc loc (.long x :: stk) := fun H locs ls hP hl => lv_lstore_n C.1 C.2.1 d hi hl (by rw [C.2.2.2.1]; exact hn) hl' (fun ls' h' => k H locs ls' hP h')
theorem v_lstore (C : CV E cc own nL rm) {i : Nat} {x : Int64} {loc' : List (Nat × Value)} (d : decode cc pc = .ok (.lstore i, 2)) (hn : i + 1 < nL) (hl' : (i, Value.long x) :: loc.filter (fun q => !(q.1 == i) && (!(q.1 == i + 1) && !(q.1 + 1 == i && q.2.category == 2))) = loc') (k : Zz E P cells slots (pc + 2) loc' stk) : Zz E P cells slots pc loc (.long x :: stk) := fun H locs ls hP hl => lv_lstore C.1 C.2.1 d hl (by rw [C.2.2.2.1]; exact hn) hl' (fun ls' h' => k H locs ls' hP h')
theorem v_astore_n (C : CV E cc own nL rm) {kk : Fin 4} {i x : Nat} {loc' : List (Nat × Value)} (d : decode cc pc = .ok (.astore_n kk, 1)) (hi : (kk : Nat) = i) (hn : i < nL) (hl' : (i, Value.ref x) :: loc.filter (fun q => !(q.1 == i) && !(q.1 + 1 == i && q.2.category == 2)) = loc') (k : Zz E P cells slots (pc + 1) loc' stk) : Zz E P cells slots pc loc (.ref x :: stk) := fun H locs ls hP hl => lv_astore_n C.1 C.2.1 d hi hl (by rw [C.2.2.2.1]; exact hn) hl' (fun ls' h' => k H locs ls' hP h')
theorem v_astore (C : CV E cc own nL rm) {i x : Nat} {loc' : List (Nat × Value)} (d : decode cc pc = .ok (.astore i, 2)) (hn : i < nL) (hl' : (i, Value.ref x) :: loc.filter (fun q => !(q.1 == i) && !(q.1 + 1 == i && q.2.category == 2)) = loc') (k : Zz E P cells slots (pc + 2) loc' stk) : Zz E P cells slots pc loc (.ref x :: stk) := fun H locs ls hP hl => lv_astore C.1 C.2.1 d hl (by rw [C.2.2.2.1]; exact hn) hl' (fun ls' h' => k H locs ls' hP h')
theorem v_iinc (q : Nat) (C : CV E cc own nL rm) {i : Nat} {n : Int} {x v : Int32} {loc' : List (Nat × Value)} (d : decode cc pc = .ok (.iinc i n, 3)) (hq : loc[q]? = some (i, .int x)) (hv : x + Int32.ofInt n = v) (hn : i < nL) (hl' : (i, Value.int v) :: loc.filter (fun q => !(q.1 == i) && !(q.1 + 1 == i && q.2.category == 2)) = loc') (k : Zz E P cells slots (pc + 3) loc' stk) : Zz E P cells slots pc loc stk := fun H locs ls hP hl => lv_iinc C.1 C.2.1 d hl hq hv (by rw [C.2.2.2.1]; exact hn) hl' (fun ls' h' => k H locs ls' hP h')
theorem v_iadd (C : CV E cc own nL rm) {x y : Int32} (d : decode cc pc = .ok (.iadd, 1)) (k : Zz E P cells slots (pc + 1) loc (.int (x + y) :: stk)) : Zz E P cells slots pc loc (.int y :: .int x :: stk) := fun H locs ls hP hl => lv_iadd C.1 C.2.1 d (k H locs ls hP hl)
theorem v_isub (C : CV E cc own nL rm) {x y : Int32} (d : decode cc pc = .ok (.isub, 1)) (k : Zz E P cells slots (pc + 1) loc (.int (x - y) :: stk)) : Zz E P cells slots pc loc (.int y :: .int x :: stk) := fun H locs ls hP hl => lv_isub C.1 C.2.1 d (k H locs ls hP hl)
theorem v_imul (C : CV E cc own nL rm) {x y : Int32} (d : decode cc pc = .ok (.imul, 1)) (k : Zz E P cells slots (pc + 1) loc (.int (x * y) :: stk)) : Zz E P cells slots pc loc (.int y :: .int x :: stk) := fun H locs ls hP hl => lv_imul C.1 C.2.1 d (k H locs ls hP hl)
theorem v_iand (C : CV E cc own nL rm) {x y : Int32} (d : decode cc pc = .ok (.iand, 1)) (k : Zz E P cells slots (pc + 1) loc (.int (x &&& y) :: stk)) : Zz E P cells slots pc loc (.int y :: .int x :: stk) := fun H locs ls hP hl => lv_iand C.1 C.2.1 d (k H locs ls hP hl)
theorem v_ior (C : CV E cc own nL rm) {x y : Int32} (d : decode cc pc = .ok (.ior, 1)) (k : Zz E P cells slots (pc + 1) loc (.int (x ||| y) :: stk)) : Zz E P cells slots pc loc (.int y :: .int x :: stk) := fun H locs ls hP hl => lv_ior C.1 C.2.1 d (k H locs ls hP hl)
theorem v_idiv (C : CV E cc own nL rm) {x y : Int32} (d : decode cc pc = .ok (.idiv, 1)) (hne : ¬ y = 0) (k : Zz E P cells slots (pc + 1) loc (.int (x / y) :: stk)) : Zz E P cells slots pc loc (.int y :: .int x :: stk) := fun H locs ls hP hl => lv_idiv C.1 C.2.1 d hne (k H locs ls hP hl)
theorem v_ineg (C : CV E cc own nL rm) {x : Int32} (d : decode cc pc = .ok (.ineg, 1)) (k : Zz E P cells slots (pc + 1) loc (.int (-x) :: stk)) : Zz E P cells slots pc loc (.int x :: stk) := fun H locs ls hP hl => lv_ineg C.1 C.2.1 d (k H locs ls hP hl)
theorem v_ladd (C : CV E cc own nL rm) {x y : Int64} (d : decode cc pc = .ok (.ladd, 1)) (k : Zz E P cells slots (pc + 1) loc (.long (x + y) :: stk)) : Zz E P cells slots pc loc (.long y :: .long x :: stk) := fun H locs ls hP hl => lv_ladd C.1 C.2.1 d (k H locs ls hP hl)
theorem v_lsub (C : CV E cc own nL rm) {x y : Int64} (d : decode cc pc = .ok (.lsub, 1)) (k : Zz E P cells slots (pc + 1) loc (.long (x - y) :: stk)) : Zz E P cells slots pc loc (.long y :: .long x :: stk) := fun H locs ls hP hl => lv_lsub C.1 C.2.1 d (k H locs ls hP hl)
theorem v_lmul (C : CV E cc own nL rm) {x y : Int64} (d : decode cc pc = .ok (.lmul, 1)) (k : Zz E P cells slots (pc + 1) loc (.long (x * y) :: stk)) : Zz E P cells slots pc loc (.long y :: .long x :: stk) := fun H locs ls hP hl => lv_lmul C.1 C.2.1 d (k H locs ls hP hl)
theorem v_lcmp (C : CV E cc own nL rm) {x y : Int64} (d : decode cc pc = .ok (.lcmp, 1)) (k : Zz E P cells slots (pc + 1) loc (.int (lg_cmp x y) :: stk)) : Zz E P cells slots pc loc (.long y :: .long x :: stk) := fun H locs ls hP hl => W.lcmp C.1 C.2.1 d (k H locs ls hP hl)
theorem v_ishl (C : CV E cc own nL rm) {x y : Int32} (d : decode cc pc = .ok (.ishl, 1)) (k : Zz E P cells slots (pc + 1) loc (.int (x <<< (y &&& 31)) :: stk)) : Zz E P cells slots pc loc (.int y :: .int x :: stk) := fun H locs ls hP hl => lv_ishl C.1 C.2.1 d (k H locs ls hP hl)
theorem v_ishr (C : CV E cc own nL rm) {x y : Int32} (d : decode cc pc = .ok (.ishr, 1)) (k : Zz E P cells slots (pc + 1) loc (.int (x >>> (y &&& 31)) :: stk)) : Zz E P cells slots pc loc (.int y :: .int x :: stk) := fun H locs ls hP hl => lv_ishr C.1 C.2.1 d (k H locs ls hP hl)
theorem v_iushr (C : CV E cc own nL rm) {x y : Int32} (d : decode cc pc = .ok (.iushr, 1)) (k : Zz E P cells slots (pc + 1) loc (.int ((x.toUInt32 >>> (y.toUInt32 &&& Int32.toUInt32 31)).toInt32) :: stk)) : Zz E P cells slots pc loc (.int y :: .int x :: stk) := fun H locs ls hP hl => lv_iushr C.1 C.2.1 d rfl (k H locs ls hP hl)
theorem v_i2l (C : CV E cc own nL rm) {x : Int32} (d : decode cc pc = .ok (.i2l, 1)) (k : Zz E P cells slots (pc + 1) loc (.long x.toInt64 :: stk)) : Zz E P cells slots pc loc (.int x :: stk) := fun H locs ls hP hl => lv_i2l C.1 C.2.1 d rfl (k H locs ls hP hl)
theorem v_dup (C : CV E cc own nL rm) {v : Value} (d : decode cc pc = .ok (.dup, 1)) (hv : v.category = 1) (k : Zz E P cells slots (pc + 1) loc (v :: v :: stk)) : Zz E P cells slots pc loc (v :: stk) := fun H locs ls hP hl => lv_dup C.1 C.2.1 d hv (k H locs ls hP hl)
theorem v_pop (C : CV E cc own nL rm) {v : Value} (d : decode cc pc = .ok (.pop, 1)) (hv : v.category = 1) (k : Zz E P cells slots (pc + 1) loc stk) : Zz E P cells slots pc loc (v :: stk) := fun H locs ls hP hl => lv_pop C.1 C.2.1 d hv (k H locs ls hP hl)
theorem v_dup2 (C : CV E cc own nL rm) {v w : Value} (d : decode cc pc = .ok (.dup2, 1)) (hv : v.category = 1) (hw : w.category = 1) (k : Zz E P cells slots (pc + 1) loc (v :: w :: v :: w :: stk)) : Zz E P cells slots pc loc (v :: w :: stk) := fun H locs ls hP hl => lv_dup2_11 C.1 C.2.1 d hv hw (k H locs ls hP hl)
theorem v_goto (tgt : Nat) (C : CV E cc own nL rm) {off : Int} (d : decode cc pc = .ok (.goto off, 3)) (ht : (pc : Int) + off = (tgt : Int)) (k : Zz E P cells slots tgt loc stk) : Zz E P cells slots pc loc stk := fun H locs ls hP hl => lv_goto C.1 C.2.1 d ht (k H locs ls hP hl)
theorem v_if_eq (tgt : Nat) (C : CV E cc own nL rm) {x : Int32} {off : Int} (d : decode cc pc = .ok (.ifCond .eq off, 3)) (ht : (pc : Int) + off = (tgt : Int)) (kt : x = 0 → Zz E P cells slots tgt loc stk) (kf : ¬ x = 0 → Zz E P cells slots (pc + 3) loc stk) : Zz E P cells slots pc loc (.int x :: stk) := fun H locs ls hP hl => lv_if_eq C.1 C.2.1 d ht (fun h => kt h H locs ls hP hl) (fun h => kf h H locs ls hP hl)
theorem v_icmp_eq (tgt : Nat) (C : CV E cc own nL rm) {x y : Int32} {off : Int} (d : decode cc pc = .ok (.if_icmp .eq off, 3)) (ht : (pc : Int) + off = (tgt : Int)) (kt : x = y → Zz E P cells slots tgt loc stk) (kf : ¬ x = y → Zz E P cells slots (pc + 3) loc stk) : Zz E P cells slots pc loc (.int y :: .int x :: stk) := fun H locs ls hP hl => lv_icmp_eq C.1 C.2.1 d ht (fun h => kt h H locs ls hP hl) (fun h => kf h H locs ls hP hl)
theorem v_if_ne (tgt : Nat) (C : CV E cc own nL rm) {x : Int32} {off : Int} (d : decode cc pc = .ok (.ifCond .ne off, 3)) (ht : (pc : Int) + off = (tgt : Int)) (kt : ¬ x = 0 → Zz E P cells slots tgt loc stk) (kf : x = 0 → Zz E P cells slots (pc + 3) loc stk) : Zz E P cells slots pc loc (.int x :: stk) := fun H locs ls hP hl => lv_if_ne C.1 C.2.1 d ht (fun h => kt h H locs ls hP hl) (fun h => kf h H locs ls hP hl)
theorem v_icmp_ne (tgt : Nat) (C : CV E cc own nL rm) {x y : Int32} {off : Int} (d : decode cc pc = .ok (.if_icmp .ne off, 3)) (ht : (pc : Int) + off = (tgt : Int)) (kt : ¬ x = y → Zz E P cells slots tgt loc stk) (kf : x = y → Zz E P cells slots (pc + 3) loc stk) : Zz E P cells slots pc loc (.int y :: .int x :: stk) := fun H locs ls hP hl => lv_icmp_ne C.1 C.2.1 d ht (fun h => kt h H locs ls hP hl) (fun h => kf h H locs ls hP hl)
theorem v_if_lt (tgt : Nat) (C : CV E cc own nL rm) {x : Int32} {off : Int} (d : decode cc pc = .ok (.ifCond .lt off, 3)) (ht : (pc : Int) + off = (tgt : Int)) (kt : x < 0 → Zz E P cells slots tgt loc stk) (kf : ¬ x < 0 → Zz E P cells slots (pc + 3) loc stk) : Zz E P cells slots pc loc (.int x :: stk) := fun H locs ls hP hl => lv_if_lt C.1 C.2.1 d ht (fun h => kt h H locs ls hP hl) (fun h => kf h H locs ls hP hl)
theorem v_icmp_lt (tgt : Nat) (C : CV E cc own nL rm) {x y : Int32} {off : Int} (d : decode cc pc = .ok (.if_icmp .lt off, 3)) (ht : (pc : Int) + off = (tgt : Int)) (kt : x < y → Zz E P cells slots tgt loc stk) (kf : ¬ x < y → Zz E P cells slots (pc + 3) loc stk) : Zz E P cells slots pc loc (.int y :: .int x :: stk) := fun H locs ls hP hl => lv_icmp_lt C.1 C.2.1 d ht (fun h => kt h H locs ls hP hl) (fun h => kf h H locs ls hP hl)
theorem v_if_ge (tgt : Nat) (C : CV E cc own nL rm) {x : Int32} {off : Int} (d : decode cc pc = .ok (.ifCond .ge off, 3)) (ht : (pc : Int) + off = (tgt : Int)) (kt : 0 ≤ x → Zz E P cells slots tgt loc stk) (kf : ¬ 0 ≤ x → Zz E P cells slots (pc + 3) loc stk) : Zz E P cells slots pc loc (.int x :: stk) := fun H locs ls hP hl => lv_if_ge C.1 C.2.1 d ht (fun h => kt h H locs ls hP hl) (fun h => kf h H locs ls hP hl)
theorem v_icmp_ge (tgt : Nat) (C : CV E cc own nL rm) {x y : Int32} {off : Int} (d : decode cc pc = .ok (.if_icmp .ge off, 3)) (ht : (pc : Int) + off = (tgt : Int)) (kt : y ≤ x → Zz E P cells slots tgt loc stk) (kf : ¬ y ≤ x → Zz E P cells slots (pc + 3) loc stk) : Zz E P cells slots pc loc (.int y :: .int x :: stk) := fun H locs ls hP hl => lv_icmp_ge C.1 C.2.1 d ht (fun h => kt h H locs ls hP hl) (fun h => kf h H locs ls hP hl)
theorem v_if_gt (tgt : Nat) (C : CV E cc own nL rm) {x : Int32} {off : Int} (d : decode cc pc = .ok (.ifCond .gt off, 3)) (ht : (pc : Int) + off = (tgt : Int)) (kt : 0 < x → Zz E P cells slots tgt loc stk) (kf : ¬ 0 < x → Zz E P cells slots (pc + 3) loc stk) : Zz E P cells slots pc loc (.int x :: stk) := fun H locs ls hP hl => lv_if_gt C.1 C.2.1 d ht (fun h => kt h H locs ls hP hl) (fun h => kf h H locs ls hP hl)
theorem v_icmp_gt (tgt : Nat) (C : CV E cc own nL rm) {x y : Int32} {off : Int} (d : decode cc pc = .ok (.if_icmp .gt off, 3)) (ht : (pc : Int) + off = (tgt : Int)) (kt : y < x → Zz E P cells slots tgt loc stk) (kf : ¬ y < x → Zz E P cells slots (pc + 3) loc stk) : Zz E P cells slots pc loc (.int y :: .int x :: stk) := fun H locs ls hP hl => lv_icmp_gt C.1 C.2.1 d ht (fun h => kt h H locs ls hP hl) (fun h => kf h H locs ls hP hl)
theorem v_if_le (tgt : Nat) (C : CV E cc own nL rm) {x : Int32} {off : Int} (d : decode cc pc = .ok (.ifCond .le off, 3)) (ht : (pc : Int) + off = (tgt : Int)) (kt : x ≤ 0 → Zz E P cells slots tgt loc stk) (kf : ¬ x ≤ 0 → Zz E P cells slots (pc + 3) loc stk) : Zz E P cells slots pc loc (.int x :: stk) := fun H locs ls hP hl => lv_if_le C.1 C.2.1 d ht (fun h => kt h H locs ls hP hl) (fun h => kf h H locs ls hP hl)
theorem v_icmp_le (tgt : Nat) (C : CV E cc own nL rm) {x y : Int32} {off : Int} (d : decode cc pc = .ok (.if_icmp .le off, 3)) (ht : (pc : Int) + off = (tgt : Int)) (kt : x ≤ y → Zz E P cells slots tgt loc stk) (kf : ¬ x ≤ y → Zz E P cells slots (pc + 3) loc stk) : Zz E P cells slots pc loc (.int y :: .int x :: stk) := fun H locs ls hP hl => lv_icmp_le C.1 C.2.1 d ht (fun h => kt h H locs ls hP hl) (fun h => kf h H locs ls hP hl)
theorem v_swi (tgt : Nat) (C : CV E cc own nL rm) {dflt lo hi : Int} {offs : Array Int} {len : Nat} {x v : Int32} {off : Int} (d : decode cc pc = .ok (.tableswitch dflt lo hi offs, len)) (hx : x = v) (h1 : ¬ v.toInt < lo) (h2 : ¬ hi < v.toInt) (ho : offs[(v.toInt - lo).toNat]? = some off) (ht : (pc : Int) + off = (tgt : Int)) (k : Zz E P cells slots tgt loc stk) : Zz E P cells slots pc loc (.int x :: stk) := fun H locs ls hP hl => by
  subst hx
  exact lv_tableIn C.1 C.2.1 d h1 h2 ho ht (k H locs ls hP hl)
theorem v_swo (tgt : Nat) (C : CV E cc own nL rm) {dflt lo hi : Int} {offs : Array Int} {len : Nat} {x : Int32} (d : decode cc pc = .ok (.tableswitch dflt lo hi offs, len)) (h : x.toInt < lo ∨ hi < x.toInt) (ht : (pc : Int) + dflt = (tgt : Int)) (k : Zz E P cells slots tgt loc stk) : Zz E P cells slots pc loc (.int x :: stk) := fun H locs ls hP hl => lv_tableOut C.1 C.2.1 d h ht (k H locs ls hP hl)
theorem v_ldci (C : CV E cc own nL rm) {index : Nat} {v : Int32} (hw : Cond.constant own index v ∈ BG) (d : decode cc pc = .ok (.ldc index, 2)) (k : Zz E P cells slots (pc + 2) loc (.int v :: stk)) : Zz E P cells slots pc loc stk := fun H locs ls hP hl => lv_ldc C.1 C.2.1 C.2.2.2.2.2.1 (C.2.2.2.2.2.2.1 _ hw) d (k H locs ls hP hl)
theorem v_irem (C : CV E cc own nL rm) {x y : Int32} (hy : ¬ y = 0) (d : decode cc pc = .ok (.irem, 1)) (k : Zz E P cells slots (pc + 1) loc (.int (x - x / y * y) :: stk)) : Zz E P cells slots pc loc (.int y :: .int x :: stk) := fun H locs ls hP hl => lv_irem C.1 C.2.1 d hy (k H locs ls hP hl)
theorem v_zz {P' : Heap → List Loc → Prop} (h : ∀ H locs, P H locs → P' H locs) (k : Zz E P' cells slots pc loc stk) : Zz E P cells slots pc loc stk := fun H locs ls hP hl => k H locs ls (h H locs hP) hl
end VR
section VC
variable {E : ET} {cc : ByteArray} {own : String} {nL : Nat} {rm : Room} {cells slots pc : Nat} {loc : List (Nat × Value)} {stk : List Value} {n : Nat} {G : GT} {a : Nat → Nat} {S : St}
theorem v_pre (C : CV E cc own nL rm) {H : Heap} {locs : List Loc} (hW : WG n G E a S H locs) : ∀ q, aA a n H.size q → e_A E q := aA_sub hW.2.1 (fun q h => C.hA q (Nat.le_trans hW.2.2.1 h))
theorem v_fin_ok (C : CV E cc own nL rm) {st0 rest st1 : List Value} {mc ms : Nat} {o : String ⊕ Option Value} {v : Option Value} {S' : St} {arr : Array Value} {H : Heap} {locs : List Loc} {ls : Array Slot} (hW : WG n G E a S H locs) (hl : lv_has ls (e_n E) loc)
    (hr : vx_Run (e_p E) (e_l E) (e_e E) (e_R E) (e_s E) (e_m E) (e_a E) (e_b E) (e_h E) (e_c E) H locs cells slots mc ms (F0 (e_m E) pc ls st0) rest (QCg n G (e_D E) (e_k E) a (aA a n H.size) o S' arr) (XCg n G (e_D E) (e_k E) a (aA a n H.size) o S') (aA a n H.size)) (ho : o = .inr v) (hs : v.toList ++ rest = st1)
    (kk : Zz E (WG n G E a S') (cells + mc) (slots + ms) (pc + 3) loc st1) : W (e_p E) (e_l E) (e_e E) (e_R E) (e_s E) (e_m E) (e_a E) (e_b E) (e_h E) (e_c E) H locs cells slots (e_Q E) (F0 (e_m E) pc ls st0) := by
  subst hs
  intro T hT X
  have hA := v_pre C hW
  rcases hr T hT X with ⟨v', st₀, t, T', L, h0, X', hL, e1, e2, ⟨⟨v2, ho2, hv, hp⟩, hF⟩, st⟩ | ⟨q, st₀, t, T', L, E1, ce, h0, X', hL, e1, e2, ⟨⟨ho2, hp⟩, hF⟩, hce, hcv, hcl, st⟩
  · rw [ho] at ho2
    cases ho2
    cases hv
    obtain ⟨k1, k2, k3⟩ := vx_keep h0 e1 hW.2.2 (fun q _ h => hA q h) hA hL hF
    obtain ⟨t2, a1, b1⟩ := kk T'.heap (locs ++ L) ls ⟨by rw [e1]; exact hp, wC_D hW.2.1, k3⟩ hl T' rfl X'
    exact ⟨t2, st t2 a1, b1⟩
  · rw [ho] at ho2
    cases ho2
theorem v_runV (C : CV E cc own nL rm) {y : MethodName} {b : ByteArray} {maxL : Nat} {ret : Option FieldType} {rm' : Room} {As st0 : List Value} {o : String ⊕ Option Value} {S' : St} {k ci idx nargs : Nat} {fs : List Value} {T : u_T} {N : Nat} (hM : MX (e_l E) n G (e_D E) (e_k E) a y b maxL ret rm' (.ref (a k) :: As) S o S') (hC : CallVok own idx y b maxL ret nargs) (hk : k < n) (hG : G (e_k E) a (S.1 k) (S.2 k) k = .inr (ci, fs)) (hc : vwCl[ci]? = some (y.cls, T, N)) (hn : As.length = nargs) (hst : st0 = As.reverse ++ .ref (a k) :: stk) (hcat : (stk.map fun v => v.category).sum ≤ 8) (hR : rm'.frames + 1 ≤ rm.frames ∧ 8 + (maxL + 11) + rm'.locals ≤ rm.locals) (hf : cells + rm'.cells ≤ rm.cells ∧ slots + rm'.slots ≤ rm.slots) (d : decode cc pc = .ok (.invokevirtual idx, 3)) {H : Heap} {locs : List Loc} {ls : Array Slot} (hW : WG n G E a S H locs) (hl : lv_has ls (e_n E) loc) :
    vx_Run (e_p E) (e_l E) (e_e E) (e_R E) (e_s E) (e_m E) (e_a E) (e_b E) (e_h E) (e_c E) H locs cells slots rm'.cells rm'.slots (F0 (e_m E) pc ls st0) stk (QCg n G (e_D E) (e_k E) a (aA a n H.size) o S' (Value.ref (a k) :: As).toArray) (XCg n G (e_D E) (e_k E) a (aA a n H.size) o S') (aA a n H.size) := by
  obtain ⟨h1, h2, h3, h4, h5, h6⟩ := hC
  have hg : GoodIn BG (wsV own idx y.cls y (Cond.code y b maxL ret :: BG)) := gi_bg (fun w hw => by
    unfold wsV at hw
    rcases List.mem_append.mp hw with hw | hw
    · simp only [List.mem_cons, List.not_mem_nil, or_false] at hw
      rcases hw with rfl | rfl | rfl | rfl
      · exact h1
      · exact h2
      · exact h3
      · exact h4
    · exact gi_code h5 w hw)
  exact vx_runV (As := As) (rest := stk) ⟨C.1, C.2.1, C.2.2.1, C.ho, C.ht⟩ (hM H.size) (cwV nargs C.ht hg rfl rfl rfl ⟨rfl, h6⟩ (by rw [C.hR]; exact hR))
    ⟨PreG_blind, va_recv C.hK.1 hW.1 hc (q0 := k) (by rw [wC_at hk, hG]), fun U hU hWm => ⟨rfl, by rw [hU], by rw [hU]; exact hW.1, ⟨hW.2.1.1, fun _ _ _ => trivial⟩, KK.step C.hK hW.2.2 (v_pre C hW) hU hWm⟩⟩ rfl hn (hl.1.trans C.hn) hst (lv_room hcat) d (by rw [C.hR]; exact hf)
theorem v_callV {c1 s1 : Nat} {y : MethodName} {b : ByteArray} {maxL : Nat} {ret : Option FieldType} {rm' : Room} (As : List Value) {st0 st1 : List Value} {v : Option Value} {S' : St} {k ci idx nargs : Nat} {fs : List Value} {T : u_T} {N : Nat} (C : CV E cc own nL rm) (hM : MX (e_l E) n G (e_D E) (e_k E) a y b maxL ret rm' (.ref (a k) :: As) S (.inr v) S') (hC : CallVok own idx y b maxL ret nargs) (hk : k < n) (hG : G (e_k E) a (S.1 k) (S.2 k) k = .inr (ci, fs)) (hc : vwCl[ci]? = some (y.cls, T, N)) (hn : As.length = nargs) (hst : st0 = As.reverse ++ .ref (a k) :: stk) (hs : v.toList ++ stk = st1) (hcat : (stk.map fun v => v.category).sum ≤ 8) (hR : rm'.frames + 1 ≤ rm.frames ∧ 8 + (maxL + 11) + rm'.locals ≤ rm.locals) (hf : cells + rm'.cells ≤ rm.cells ∧ slots + rm'.slots ≤ rm.slots) (d : decode cc pc = .ok (.invokevirtual idx, 3))
    (h1 : cells + rm'.cells = c1) (h2 : slots + rm'.slots = s1) (kk : Zz E (WG n G E a S') c1 s1 (pc + 3) loc st1) : Zz E (WG n G E a S) cells slots pc loc st0 := fun H locs ls hW hl => by
  subst h1
  subst h2
  exact v_fin_ok C hW hl (v_runV C hM hC hk hG hc hn hst hcat hR hf d hW hl) rfl hs kk
end VC

/-! ===== contracts of the law's methods on one lane: they return ===== -/
def ncs : List (String × String) := [("java/lang/IllegalArgumentException", "java/lang/IllegalStateException"), ("java/lang/IllegalArgumentException", "java/lang/IndexOutOfBoundsException"), ("java/lang/IllegalStateException", "java/lang/IllegalArgumentException"), ("java/lang/IllegalStateException", "java/lang/IndexOutOfBoundsException"), ("java/lang/IndexOutOfBoundsException", "java/lang/IllegalArgumentException"), ("java/lang/IndexOutOfBoundsException", "java/lang/IllegalStateException")]
def NC (U : State) : Prop := ∀ q ∈ ncs, va_Nc q.1 q.2 U
theorem NC.calling {U : State} {g : JFrame} {mk : MethodId} {x : Array Value} (h : NC U) : NC (U.calling g mk x) := fun q hq => va_Nc.moved (u := U) (U := U.calling g mk x) (Vm.Alike.refl U.vm) (h q hq)
theorem va_P.ne {D : va_G} {ws : va_W} {H H1 : Heap} {A1 : Nat → Prop} (h : va_P D vwCl ws H) (hF : ∀ q : Nat, q < H.size → ¬ A1 q → H1[q]? = H[q]?) (hn : ∀ (k : Nat) (q : Nat × va_E), ws[k]? = some q → ¬ A1 q.1) : va_P D vwCl ws H1 :=
  h.kept (fun k q hk => hF q.1 (h k q hk).lt (hn k q hk))
def PreL (D : va_G) (cs : Nat → ClassId) (a : Nat → Nat) (S : St) (sz : Nat) (U : State) : Prop := PreG 113 GX D cs a S sz U ∧ NC U
theorem PreL_blind {D : va_G} {cs : Nat → ClassId} {a : Nat → Nat} {S : St} {sz : Nat} {av : List Value} : FrameBlind (va_Pc av (PreL D cs a S sz)) := fun arr U g mk h => ⟨h.1, ⟨h.2.1.1, h.2.1.2.1, h.2.1.2.2.1, KK.calling h.2.1.2.2.2⟩, h.2.2.calling⟩
def QL (D : va_G) (cs : Nat → ClassId) (a : Nat → Nat) (A : Nat → Prop) (v : Value) (S' : St) : Array Value → State → Outcome → State → Prop := fun _ st oc t => (oc = .returned (some v) ∧ va_P D vwCl (wC 113 GX cs a S') t.heap) ∧ va_F A st t
def ML (l : Launch) (D : va_G) (cs : Nat → ClassId) (a : Nat → Nat) (y : MethodName) (w : Cond) (rm : Room) (av : List Value) (S : St) (v : Value) (S' : St) : Prop :=
  ∀ sz, vx_Met l y (w :: BG) rm (va_Pc av (PreL D cs a S sz)) (QL D cs a (aA a 113 sz) v S') (fun _ _ _ => False) rm.cells rm.slots (aA a 113 sz)
/-- where a method of the law goes to: v, with the store S' -/
def CL (E : ET) (a : Nat → Nat) (v : Value) (S' : St) (ret : Option FieldType) : Prop :=
  NC (e_s E) ∧ (e_h E).sig.returnType = ret ∧
  e_Q E = vx_MQ (e_b E) (QL (e_D E) (e_k E) a (e_A E) v S') (fun _ _ _ => False) (e_a E) (e_s E) (e_R E).cells (e_R E).slots (e_A E)
def CW (E : ET) (hh : List (Nat × Nat × Nat × Nat)) : Prop := (e_c E).exceptionTable.toList = tableOf hh
section VO
variable {E : ET} {cc : ByteArray} {own : String} {nL : Nat} {rm : Room} {cells slots pc : Nat} {loc : List (Nat × Value)} {stk : List Value} {a : Nat → Nat} {S : St}
theorem l_end (C : CV E cc own nL rm) {v : Value} {S' : St} {ret : Option FieldType} (hQ : CL E a v S' ret) (es : S' = S) (hc : cells ≤ rm.cells) (hs : slots ≤ rm.slots)
    (k : ∀ (H : Heap) (locs : List Loc) (ls : Array Slot), (∀ q ∈ locs, e_A E q.base) → (∀ t : State, t.heap = H → (e_s E).WarmedH t.vm → QL (e_D E) (e_k E) a (e_A E) v S' (e_a E) (e_s E) (.returned (some v)) t) → W (e_p E) (e_l E) (e_e E) (e_R E) (e_s E) (e_m E) (e_a E) (e_b E) (e_h E) (e_c E) H locs (e_R E).cells (e_R E).slots (MQ (e_b E) (QL (e_D E) (e_k E) a (e_A E) v S') (e_a E) (e_s E) (e_R E).cells (e_R E).slots (e_A E)) (F0 (e_m E) pc ls stk)) : Zz E (WX E a S) cells slots pc loc stk := by
  intro H locs ls hW hl
  subst es
  rw [show e_Q E = _ from hQ.2.2]
  refine W.widen (k := (e_R E).cells) (n := (e_R E).slots) (by rw [C.hR]; exact hc) (by rw [C.hR]; exact hs) (vx_ret ?_)
  exact k H locs ls hW.2.2.2.2 (fun t ht _ => ⟨⟨rfl, by rw [ht]; exact hW.1⟩, hW.2.2.F ht⟩)
theorem l_iret (C : CV E cc own nL rm) {S' : St} {v v' : Int32} {ty : FieldType} (hQ : CL E a (.int v') S' (some ty)) (hn : narrow ty (.int v) = .int v) (d : decode cc pc = .ok (.ireturn, 1)) (ev : v' = v) (es : S' = S) (hc : cells ≤ rm.cells) (hs : slots ≤ rm.slots) : Zz E (WX E a S) cells slots pc loc [.int v] := by
  subst ev
  exact l_end C hQ es hc hs (fun _ _ _ hf hq => W.zret C.1 C.2.1 hQ.2.1 hn hq hf d C.hL)
theorem l_lret (C : CV E cc own nL rm) {S' : St} {v v' : Int64} (hQ : CL E a (.long v') S' (some .long)) (d : decode cc pc = .ok (.lreturn, 1)) (ev : v' = v) (es : S' = S) (hc : cells ≤ rm.cells) (hs : slots ≤ rm.slots) : Zz E (WX E a S) cells slots pc loc [.long v] := by
  subst ev
  exact l_end C hQ es hc hs (fun _ _ _ hf hq => W.lret C.1 C.2.1 hQ.2.1 hq hf d C.hL)
/-- the lane's method called in a wrapper: it throws and is caught here -/
theorem l_callx {c1 s1 : Nat} {y : MethodName} {b : ByteArray} {maxL : Nat} {ret : Option FieldType} {rm' : Room} (As : List Value) {st0 : List Value} {x : String} {S' : St} {idx nargs : Nat} {T : u_T} {N ci : Nat} {fs : List Value} {hh : List (Nat × Nat × Nat × Nat)} (pre : List ExceptionTableEntry) (xe : ExceptionTableEntry) (suf : List ExceptionTableEntry) (C : CV E cc own nL rm) (hN : NC (e_s E)) (O : CW E hh) (hM : MX (e_l E) 113 GX (e_D E) (e_k E) a y b maxL ret rm' (.ref (a 0) :: As) S (.inl x) S') (hC : CallVok own idx y b maxL ret nargs) (hG : GX (e_k E) a (S.1 0) (S.2 0) 0 = .inr (ci, fs)) (hc : vwCl[ci]? = some (y.cls, T, N)) (hn : As.length = nargs) (hst : st0 = As.reverse ++ .ref (a 0) :: stk) (hcat : (stk.map fun v => v.category).sum ≤ 8) (hR : rm'.frames + 1 ≤ rm.frames ∧ 8 + (maxL + 11) + rm'.locals ≤ rm.locals) (hf : cells + rm'.cells ≤ rm.cells ∧ slots + rm'.slots ≤ rm.slots) (d : decode cc pc = .ok (.invokevirtual idx, 3))
    (hsplit : tableOf hh = pre ++ xe :: suf) (hpass : ∀ z ∈ pre, z.catchType ≠ 0 ∧ ∃ nm : String, Cond.classLink own z.catchType nm ∈ BG ∧ (x, nm) ∈ ncs) (hx : covers xe pc = true) (hx0 : xe.catchType ≠ 0) (hlink : Cond.classLink own xe.catchType x ∈ BG) (hxx : x ∈ thrXs)
    (h1 : cells + rm'.cells = c1) (h2 : slots + rm'.slots = s1) (kk : ∀ q, Zz E (WX E a S') c1 s1 xe.handlerPc loc [.ref q]) : Zz E (WX E a S) cells slots pc loc st0 := fun H locs ls hW hl => by
  subst h1
  subst h2
  have hr := v_runV C hM hC (by decide) hG hc hn hst hcat hR hf d hW hl
  have hA := v_pre C hW
  intro T hT X
  rcases hr T hT X with ⟨v', st₀, t, T', L, h0, X', hL, e1, e2, ⟨⟨v2, ho2, hv, hp⟩, hF⟩, st⟩ | ⟨q, st₀, t, T', L, E1, ce, h0, X', hL, e1, e2, ⟨⟨ho2, hp⟩, hF⟩, hce, hcv, hcl, st⟩
  · cases ho2
  · cases ho2
    obtain ⟨k1, k2, k3⟩ := vx_keep h0 e1 hW.2.2 (fun q _ h => hA q h) hA hL hF
    have hk := kk q T'.heap (locs ++ L) ls ⟨by rw [e1]; exact hp, wC_D hW.2.1, k3⟩ hl
    have key := vx_catch (rest := stk) (pc := pc) C.ho pre xe suf (O.trans hsplit) (fun z hz => by
      obtain ⟨h7, nm, h8, h9⟩ := hpass z hz
      exact Or.inr ⟨h7, nm, C.ht _ h8, hN _ h9⟩) hx hx0 (C.ht _ hlink) (va_Nw.use rfl (C.hK.2.2.2.1.2.1 x hxx)) (by rw [e1]; exact hce) hcv hcl hk
    obtain ⟨t2, a1, b1⟩ := key T' rfl X'
    exact ⟨t2, st.trans a1, b1⟩
end VO
/-- a contract out of a walk of a body: with an exception table, and without -/
theorem ml_entry {l : Launch} {D : va_G} {cs : Nat → ClassId} {a : Nat → Nat} {y : MethodName} {b : ByteArray} {maxL : Nat} {ret : Option FieldType} {hh : List (Nat × Nat × Nat × Nat)} {rm : Room} {av : List Value} {S : St} {v : Value} {S' : St} (loc0 : List (Nat × Value)) (hT : l.stackTraces = false) (hy : plainName y.cls = true) (hargs : (lg_sl av).length ≤ maxL) (hloc : lv_args 0 av = loc0)
    (body : ∀ E : ET, e_l E = l → e_D E = D → e_k E = cs → CV E b y.cls maxL rm → CL E a v S' ret → CW E hh → Zz E (WX E a S) 0 0 0 loc0 []) : ML l D cs a y (.codeWith y b maxL ret hh) rm av S v S' := by
  intro sz
  refine vx_ofWH (cc := b) (maxL := maxL) (ret := ret) (hh := hh) hy rfl ?_
  intro p e s m args below meth c s₁ B hml hv
  obtain ⟨rfl, ⟨hsz, hP, hDD, hK⟩, hN⟩ := hv
  have hts : ∀ w ∈ (Cond.codeWith y b maxL ret hh :: BG), w.before av.toArray s = true := atoms_spec (ws := Cond.codeWith y b maxL ret hh :: BG) B.pre
  subst hsz
  have hl := lv_entry av hargs
  rw [hloc] at hl
  rw [lg_entry_eq]
  generalize hls : (lg_sl av ++ List.replicate (maxL - (lg_sl av).length) Slot.unset).toArray = ls at hl ⊢
  exact body ((p, l, e, rm), (s, m, av.toArray, below), (meth, c, maxL, vx_MQ below (QL D cs a (aA a 113 s.heap.size) v S') (fun _ _ _ => False) av.toArray s rm.cells rm.slots (aA a 113 s.heap.size)), (D, cs, aA a 113 s.heap.size)) rfl rfl rfl
    ⟨B.exec, B.bytes, hml, rfl, rfl, findClass_of_methodNamed B.named, fun w hw => hts w (List.mem_cons_of_mem _ hw), hK, fun q h => Or.inr h, hT, B.notSynchronized⟩
    ⟨hN, B.returns, rfl⟩ (vx_table (x := y) B (hts _ List.mem_cons_self)) s.heap [] ls ⟨hP, wC_Dw hDD, va_S.rf⟩ hl
theorem ml_entryC {l : Launch} {D : va_G} {cs : Nat → ClassId} {a : Nat → Nat} {y : MethodName} {b : ByteArray} {maxL : Nat} {ret : Option FieldType} {rm : Room} {av : List Value} {S : St} {v : Value} {S' : St} (loc0 : List (Nat × Value)) (hT : l.stackTraces = false) (hy : plainName y.cls = true) (hargs : (lg_sl av).length ≤ maxL) (hloc : lv_args 0 av = loc0)
    (body : ∀ E : ET, e_l E = l → e_D E = D → e_k E = cs → CV E b y.cls maxL rm → CL E a v S' ret → Zz E (WX E a S) 0 0 0 loc0 []) : ML l D cs a y (.code y b maxL ret) rm av S v S' := by
  intro sz
  refine vx_ofW (cc := b) (maxL := maxL) (ret := ret) hy rfl ?_
  intro p e s m args below meth c s₁ B hml htab hv
  obtain ⟨rfl, ⟨hsz, hP, hDD, hK⟩, hN⟩ := hv
  have hts : ∀ w ∈ (Cond.code y b maxL ret :: BG), w.before av.toArray s = true := atoms_spec (ws := Cond.code y b maxL ret :: BG) B.pre
  subst hsz
  have hl := lv_entry av hargs
  rw [hloc] at hl
  rw [lg_entry_eq]
  generalize hls : (lg_sl av ++ List.replicate (maxL - (lg_sl av).length) Slot.unset).toArray = ls at hl ⊢
  exact body ((p, l, e, rm), (s, m, av.toArray, below), (meth, c, maxL, vx_MQ below (QL D cs a (aA a 113 s.heap.size) v S') (fun _ _ _ => False) av.toArray s rm.cells rm.slots (aA a 113 s.heap.size)), (D, cs, aA a 113 s.heap.size)) rfl rfl rfl
    ⟨B.exec, B.bytes, hml, rfl, rfl, findClass_of_methodNamed B.named, fun w hw => hts w (List.mem_cons_of_mem _ hw), hK, fun q h => Or.inr h, hT, B.notSynchronized⟩
    ⟨hN, B.returns, rfl⟩ s.heap [] ls ⟨hP, wC_Dw hDD, va_S.rf⟩ hl
/-! ===== calls of such methods: in the world of one lane, and of two ===== -/
def CallWok (own : String) (idx : Nat) (y : MethodName) (w : Cond) (nargs : Nat) : Prop := Cond.methodLink own idx y ∈ BG ∧ Cond.static y ∈ BG ∧ Cond.initialized y.cls ∈ BG ∧ w ∈ BG ∧ namesOk y nargs
/-- a method's code word, and its number of locals -/
def isCw (y : MethodName) (w : Cond) (maxL : Nat) : Prop := (∃ b ret hh, w = .codeWith y b maxL ret hh) ∨ ∃ b ret, w = .code y b maxL ret
section VW
variable {E : ET} {cc : ByteArray} {own : String} {nL : Nat} {rm : Room} {cells slots pc : Nat} {loc : List (Nat × Value)} {stk : List Value} {a b : Nat → Nat} {S T : St}
theorem l_run (C : CV E cc own nL rm) (hN : NC (e_s E)) {y : MethodName} {w : Cond} {maxL : Nat} {rm' : Room} {As st0 : List Value} {v : Value} {S' : St} {idx nargs : Nat} (hM : ML (e_l E) (e_D E) (e_k E) a y w rm' As S v S') (hw : isCw y w maxL) (hC : CallWok own idx y w nargs) (hy : y.cls = own) (hn : As.length = nargs) (hst : st0 = As.reverse ++ stk) (hcat : (stk.map fun v => v.category).sum ≤ 8) (hR : rm'.frames + 1 ≤ rm.frames ∧ 8 + (maxL + 11) + rm'.locals ≤ rm.locals) (hf : cells + rm'.cells ≤ rm.cells ∧ slots + rm'.slots ≤ rm.slots) (d : decode cc pc = .ok (.invokestatic idx, 3)) {H : Heap} {locs : List Loc} {ls : Array Slot} (hW : WG 113 GX E a S H locs) (hl : lv_has ls (e_n E) loc) :
    vx_Run (e_p E) (e_l E) (e_e E) (e_R E) (e_s E) (e_m E) (e_a E) (e_b E) (e_h E) (e_c E) H locs cells slots rm'.cells rm'.slots (F0 (e_m E) pc ls st0) stk (QL (e_D E) (e_k E) a (aA a 113 H.size) v S' As.toArray) (fun _ _ _ => False) (aA a 113 H.size) := by
  obtain ⟨w1, w2, w3, w4, w5⟩ := hC
  have hb : ∀ w' ∈ (w :: BG), w' ∈ BG := fun w' h => (List.mem_cons.mp h).elim (fun e => by rw [e]; exact w4) id
  have hpre : PreS (e_s E) H (va_Pc As (PreL (e_D E) (e_k E) a S H.size)) As := ⟨PreL_blind, fun U hU hWm => ⟨rfl, ⟨by rw [hU], by rw [hU]; exact hW.1, ⟨hW.2.1.1, fun _ _ _ => trivial⟩, KK.step C.hK hW.2.2 (v_pre C hW) hU hWm⟩, fun q hq => va_Nc.moved hWm.alike (hN q hq)⟩⟩
  rcases hw with ⟨cb, ret, hh, rfl⟩ | ⟨cb, ret, rfl⟩
  · have hg : GoodIn BG (va_wsS own idx y (Cond.codeWith y cb maxL ret hh :: BG)) := gi_bg (fun w hw => by
      unfold va_wsS at hw
      rcases List.mem_append.mp hw with hw | hw
      · simp only [List.mem_cons, List.not_mem_nil, or_false] at hw
        rcases hw with rfl | rfl | rfl
        · exact w1
        · exact w2
        · exact w3
      · exact hb w hw)
    exact vx_runSX (p := e_p E) (l := e_l E) (R := e_R E) (s := e_s E) (m := e_m E) (args := e_a E) (c := e_c E) (H := H) (hh := hh) (bytes := cb) (maxL := maxL) (ret := ret) (e := e_e E) (below := e_b E) (meth := e_h E) (locs := locs) (cells := cells) (slots := slots) (As := As) (rest := stk) (g := F0 (e_m E) pc ls st0) ⟨C.1, C.2.1, C.2.2.1, C.ho, C.ht⟩ (hM H.size) (vx_cwSW nargs C.ht hg rfl rfl rfl w5 (by rw [C.hR]; exact hR))
      hpre rfl hn (hl.1.trans C.hn) hst (lv_room hcat) d (by rw [C.hR]; exact hf)
  · have hg : GoodIn BG (wsS own idx y (Cond.code y cb maxL ret :: BG)) := gi_bg (fun w hw => by
      unfold wsS at hw
      rcases List.mem_append.mp hw with hw | hw
      · simp only [List.mem_cons, List.not_mem_nil, or_false] at hw
        rcases hw with rfl | rfl | rfl
        · exact w1
        · exact w2
        · rw [← hy]; exact w3
      · exact hb w hw)
    exact vx_runS (As := As) (rest := stk) ⟨C.1, C.2.1, C.2.2.1, C.ho, C.ht⟩ (hM H.size) (cwS nargs C.ht hg rfl rfl rfl ⟨hy, w5⟩ (by rw [C.hR]; exact hR))
      hpre rfl hn (hl.1.trans C.hn) hst (lv_room hcat) d (by rw [C.hR]; exact hf)
theorem l_call {c1 s1 : Nat} {y : MethodName} {w : Cond} {maxL : Nat} {rm' : Room} (As : List Value) {st0 st1 : List Value} {v : Value} {S' : St} {idx nargs : Nat} (C : CV E cc own nL rm) (hN : NC (e_s E)) (hM : ML (e_l E) (e_D E) (e_k E) a y w rm' As S v S') (hw : isCw y w maxL) (hC : CallWok own idx y w nargs) (hy : y.cls = own) (hn : As.length = nargs) (hst : st0 = As.reverse ++ stk) (hs : v :: stk = st1) (hcat : (stk.map fun v => v.category).sum ≤ 8) (hR : rm'.frames + 1 ≤ rm.frames ∧ 8 + (maxL + 11) + rm'.locals ≤ rm.locals) (hf : cells + rm'.cells ≤ rm.cells ∧ slots + rm'.slots ≤ rm.slots) (d : decode cc pc = .ok (.invokestatic idx, 3))
    (h1 : cells + rm'.cells = c1) (h2 : slots + rm'.slots = s1) (kk : Zz E (WX E a S') c1 s1 (pc + 3) loc st1) : Zz E (WX E a S) cells slots pc loc st0 := fun H locs ls hW hl => by
  subst h1
  subst h2
  subst hs
  have hr := l_run C hN hM hw hC hy hn hst hcat hR hf d hW hl
  have hA := v_pre C hW
  intro T hT X
  rcases hr T hT X with ⟨v', st₀, t, T', L, h0, X', hL, e1, e2, ⟨⟨hv, hp⟩, hF⟩, st⟩ | ⟨q, st₀, t, T', L, E1, ce, h0, X', hL, e1, e2, hx, hce, hcv, hcl, st⟩
  · cases hv
    obtain ⟨k1, k2, k3⟩ := vx_keep h0 e1 hW.2.2 (fun q _ h => hA q h) hA hL hF
    obtain ⟨t2, a1, b1⟩ := kk T'.heap (locs ++ L) ls ⟨by rw [e1]; exact hp, wC_D hW.2.1, k3⟩ hl T' rfl X'
    exact ⟨t2, st t2 a1, b1⟩
  · exact hx.elim
/-- two lanes -/
def WW (E : ET) (a b : Nat → Nat) (S T : St) : Heap → List Loc → Prop := fun H locs =>
  va_P (e_D E) vwCl (wC 113 GX (e_k E) a S) H ∧ va_P (e_D E) vwCl (wC 113 GX (e_k E) b T) H ∧ va_S (e_A E) (e_s E).heap H locs
def DW (E : ET) (a b : Nat → Nat) : Prop := (∀ S, va_D (e_A E) (wC 113 GX (e_k E) a S)) ∧ (∀ S, va_D (e_A E) (wC 113 GX (e_k E) b S)) ∧ ∀ i j, i < 113 → j < 113 → a i ≠ b j
theorem DW.sw (h : DW E a b) : DW E b a := ⟨h.2.1, h.1, fun i j hi hj e => h.2.2 j i hj hi e.symm⟩
theorem w_sw (k : Zz E (WW E b a T S) cells slots pc loc stk) : Zz E (WW E a b S T) cells slots pc loc stk := v_zz (fun _ _ h => ⟨h.2.1, h.1, h.2.2⟩) k
theorem DW.out (h : DW E a b) {j sz : Nat} (hj : j < 113) (hz : b j < sz) : ¬ aA a 113 sz (b j) := by
  rintro (⟨k, hk, e⟩ | h2)
  · exact h.2.2 k j hk hj e.symm
  · omega
theorem w_call {c1 s1 : Nat} {y : MethodName} {w : Cond} {maxL : Nat} {rm' : Room} (As : List Value) {st0 st1 : List Value} {v : Value} {S' : St} {idx nargs : Nat} (C : CV E cc own nL rm) (hN : NC (e_s E)) (hD : DW E a b) (hM : ML (e_l E) (e_D E) (e_k E) a y w rm' As S v S') (hw : isCw y w maxL) (hC : CallWok own idx y w nargs) (hy : y.cls = own) (hn : As.length = nargs) (hst : st0 = As.reverse ++ stk) (hs : v :: stk = st1) (hcat : (stk.map fun v => v.category).sum ≤ 8) (hR : rm'.frames + 1 ≤ rm.frames ∧ 8 + (maxL + 11) + rm'.locals ≤ rm.locals) (hf : cells + rm'.cells ≤ rm.cells ∧ slots + rm'.slots ≤ rm.slots) (d : decode cc pc = .ok (.invokestatic idx, 3))
    (h1 : cells + rm'.cells = c1) (h2 : slots + rm'.slots = s1) (kk : Zz E (WW E a b S' T) c1 s1 (pc + 3) loc st1) : Zz E (WW E a b S T) cells slots pc loc st0 := fun H locs ls hP hl => by
  subst h1
  subst h2
  subst hs
  have hW : WG 113 GX E a S H locs := ⟨hP.1, hD.1 S, hP.2.2⟩
  have hr := l_run C hN hM hw hC hy hn hst hcat hR hf d hW hl
  have hA := v_pre C hW
  intro T hT X
  rcases hr T hT X with ⟨v', st₀, t, T', L, h0, X', hL, e1, e2, ⟨⟨hv, hp⟩, hF⟩, st⟩ | ⟨q, st₀, t, T', L, E1, ce, h0, X', hL, e1, e2, hx, hce, hcv, hcl, st⟩
  · cases hv
    obtain ⟨k1, k2, k3⟩ := vx_keep h0 e1 hW.2.2 (fun q _ h => hA q h) hA hL hF
    obtain ⟨t2, a1, b1⟩ := kk T'.heap (locs ++ L) ls ⟨by rw [e1]; exact hp, hP.2.1.ne k2 (fun k q hk => by
      have h9 := (hP.2.1 k q hk).lt
      obtain ⟨hj, rfl⟩ := wC_some hk
      exact hD.out hj h9), k3⟩ hl T' rfl X'
    exact ⟨t2, st t2 a1, b1⟩
  · exact hx.elim
theorem w_call' {c1 s1 : Nat} {y : MethodName} {w : Cond} {maxL : Nat} {rm' : Room} (As : List Value) {st0 st1 : List Value} {v : Value} {T' : St} {idx nargs : Nat} (C : CV E cc own nL rm) (hN : NC (e_s E)) (hD : DW E a b) (hM : ML (e_l E) (e_D E) (e_k E) b y w rm' As T v T') (hw : isCw y w maxL) (hC : CallWok own idx y w nargs) (hy : y.cls = own) (hn : As.length = nargs) (hst : st0 = As.reverse ++ stk) (hs : v :: stk = st1) (hcat : (stk.map fun v => v.category).sum ≤ 8) (hR : rm'.frames + 1 ≤ rm.frames ∧ 8 + (maxL + 11) + rm'.locals ≤ rm.locals) (hf : cells + rm'.cells ≤ rm.cells ∧ slots + rm'.slots ≤ rm.slots) (d : decode cc pc = .ok (.invokestatic idx, 3))
    (h1 : cells + rm'.cells = c1) (h2 : slots + rm'.slots = s1) (kk : Zz E (WW E a b S T') c1 s1 (pc + 3) loc st1) : Zz E (WW E a b S T) cells slots pc loc st0 :=
  w_sw (w_call As C hN hD.sw hM hw hC hy hn hst hs hcat hR hf d h1 h2 (w_sw kk))
end VW
/-! ===== a wrapper's answer out of its call's ===== -/
def XX : Int64 := -9000000000000000
def wrp {β : Type} (xs : List String) (g : β → Int64) : Option ((String ⊕ β) × St) → Option (Int64 × St)
  | none => none
  | some (.inl x, S) => if x ∈ xs then some (XX, S) else none
  | some (.inr v, S) => some (g v, S)
theorem wrp_of {β : Type} {xs : List String} {g : β → Int64} {x : Option ((String ⊕ β) × St)} {r : Int64} {S' : St} (h : wrp xs g x = some (r, S')) : (∃ v, x = some (.inr v, S') ∧ r = g v) ∨ ∃ e, e ∈ xs ∧ x = some (.inl e, S') ∧ r = XX := by
  cases x with
  | none => cases h
  | some q =>
    obtain ⟨o, S⟩ := q
    cases o with
    | inl e =>
      have h' : (if e ∈ xs then some (XX, S) else none) = some (r, S') := h
      by_cases q : e ∈ xs
      · rw [if_pos q] at h'
        cases h'
        exact Or.inr ⟨e, q, rfl, rfl⟩
      · rw [if_neg q] at h'
        cases h'
    | inr v => cases h; exact Or.inl ⟨v, rfl, rfl⟩
def onS {β : Type} (S : St) (x : Option β) : Option (β × St) := x.map (fun r => (r, S))
theorem onS_some {β : Type} {S S' : St} {x : Option β} {r : β} (h : onS S x = some (r, S')) : x = some r ∧ S' = S := by
  cases x with
  | none => cases h
  | some y => cases h; exact ⟨rfl, rfl⟩
theorem onS_of {β : Type} {S : St} {x : Option β} {r : β} (h : x = some r) : onS S x = some (r, S) := by rw [h]; rfl
def gI (v : Int32) : Int64 := v.toInt64
def gL (v : Int64) : Int64 := v
def gZ (v : Int32) : Int64 := if v = 0 then 0 else 1
