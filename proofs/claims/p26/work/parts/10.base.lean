/-! a static call of a nest mate (begun from kit/laws/EXCEPTIONS.to-paste) -/
section VXN1
variable {p : Program} {l : Launch} {e : Env} {R : Room} {s : State} {m : MethodId} {args : Array Value} {below : List Frame} {meth : Method} {c : Code} {H : Heap} {locs : List Loc} {cells slots : Nat}
variable {T : State}
theorem vx_callSN (X : Stand p l e R s m args below meth c T locs cells slots) (hexec : p.tables.exec = Jvm.exec) {own : String} {index : Nat} {host : String} {y : MethodName} {bytes : ByteArray} {maxL : Nat} {ret : Option FieldType}
    (hown : s.vm.findClass own = some m.cls) (hlink : (Cond.methodLinkNest own index y host).before args s = true) (hstat : (Cond.static y).before args s = true) (hinit : (Cond.initialized y.cls).before args s = true)
    (hcode : (Cond.code y bytes maxL ret).before args s = true) (hy : y.cls ≠ "java/lang/invoke/MethodHandle" ∧ y.cls ≠ "java/lang/invoke/VarHandle")
    {W : Nat} {Pre : Pt → Array Value → Prop} {Post : Pt → Array Value → Option Value → Pt → Prop} {PostX : Pt → Array Value → Addr → Pt → Prop} (hK : vx_Back l R p e below s args y 3 W Pre Post PostX)
    {g : JFrame} (hg : g.method = m) (hsize : g.locals.size = c.maxLocals) {argsL rest : List Value} (hlen : ∀ sig, parseMethodDescriptor y.desc = some sig → argsL.length = sig.parameters.length)
    (hstack : g.stack = argsL.reverse ++ rest) (hW : 2 * g.monitorRoom + (rest.map fun v => v.category).sum ≤ W) (hdg : decode c.code g.pc = .ok (.invokestatic index, 3))
    (hpre : ∀ vm₁, s.WarmedH vm₁ → Pre ⟨T.setVm vm₁, locs, cells, slots⟩ argsL.toArray) :
    (∃ (v : Option Value) (vm₁ : Vm) (B : Pt), s.WarmedH vm₁ ∧ Stand p l e R s m args below meth c B.U B.locs B.cells B.slots ∧ Post ⟨T.setVm vm₁, locs, cells, slots⟩ argsL.toArray v B ∧
      ∀ target, Steps p.tables e below (B.U.setTop { g with pc := g.pc + 3, stack := v.toList ++ rest }) target → Steps p.tables e below (T.setTop g) target) ∨
    (∃ (q : Addr) (vm₁ : Vm) (B : Pt), s.WarmedH vm₁ ∧ Stand p l e R s m args below meth c B.U B.locs B.cells B.slots ∧ PostX ⟨T.setVm vm₁, locs, cells, slots⟩ argsL.toArray q B ∧
      Steps p.tables e below (T.setTop g) ((B.U.setTop { g with stack := rest }).pushFrame (.throwing q))) := by
  obtain ⟨mk, hnamed⟩ := Cond.code_named hcode
  obtain ⟨methM, cM, hmethM, -, -, -, -, -, -, hsigM⟩ := Cond.code_spec hnamed hcode
  have hstatic : methM.isStatic = true := Cond.static_spec hnamed hmethM hstat
  obtain ⟨kP, hkP, -⟩ := className_of_methodNamed hnamed
  have hinitP : kP.init = .initialized := Cond.initialized_spec (findClass_of_methodNamed hnamed) hkP hinit
  obtain ⟨vm₁, X₁, hstep₁⟩ := X.invokestaticNest hexec hown hlink hnamed hmethM hstatic hkP hinitP hy (g := g) hg (argsL := argsL) (rest := rest) (hlen _ hsigM) hstack hdg
  rcases hK m meth c ⟨T.setVm vm₁, locs, cells, slots⟩ { g with stack := rest } (.invokestatic index) mk argsL.toArray X₁ hg hsize hdg hW (X₁.named hnamed) (hpre vm₁ X₁.warmed) with ⟨v, B, X', hpost, hsteps⟩ | ⟨q, B, X', hpost, hsteps⟩
  · exact Or.inl ⟨v, vm₁, B, X₁.warmed, X', hpost, fun target h => hstep₁ _ fun acts => by rw [doInvoke_state]; exact hsteps.trans h⟩
  · exact Or.inr ⟨q, vm₁, B, X₁.warmed, X', hpost, hstep₁ _ fun acts => by rw [doInvoke_state]; exact hsteps⟩
end VXN1
section VXN2
variable {p : Program} {l : Launch} {e : Env} {R : Room} {s : State} {m : MethodId} {args : Array Value} {below : List Frame} {meth : Method} {c : Code} {H : Heap} {locs : List Loc} {cells slots : Nat}
theorem vx_runSN {y : MethodName} {bytes cc : ByteArray} {maxL nL mc ms n index : Nat} {ret : Option FieldType} {ws : List Cond} {rm : Room} {Pc : Array Value → State → Prop} {Qc : Array Value → State → Outcome → State → Prop} {XC : String → State → State → Prop} {free : Addr → Prop} {Ts : List Cond} {own host : String} {As rest : List Value} {g : JFrame}
    (S : CallFix p m c cc nL s args Ts own) (hM : vx_Met l y ws rm Pc Qc XC mc ms free) (cw : va_CN R s args own index y host bytes maxL ret ws rm mc ms n ∧ (Cond.static y).before args s = true ∧ True) (hp : PreS s H Pc As)
    (hg : g.method = m) (hn : As.length = n) (hsize : g.locals.size = nL) (hstack : g.stack = As.reverse ++ rest) (hW : 2 * g.monitorRoom + (rest.map fun v => v.category).sum ≤ 8) (hdg : decode cc g.pc = .ok (.invokestatic index, 3)) (hf : cells + mc ≤ R.cells ∧ slots + ms ≤ R.slots) :
    vx_Run p l e R s m args below meth c H locs cells slots mc ms g rest (Qc As.toArray) XC free := by
  obtain ⟨⟨⟨hrc, hrs, hfr, hlo, hws, hcw⟩, hcode, hini, hy, hlen, hl⟩, hx1, hx2⟩ := cw
  have hK : vx_Back l R p e below s args y 3 8 (PreOf R mc ms Pc) (PostOf Qc mc ms free) (vx_Post XC mc ms free) := vx_back (bytes := bytes) (maxL := maxL) (ret := ret) hM hp.1 hrc hrs hfr hlo hws hcw (fun a' U hW => word_at hW (Or.inl (by first | rfl | simp [Cond.onTables, Cond.keeps, Cond.steady])) hini)
  obtain ⟨hx, hb, hml, ho, -⟩ := S
  have hPc := hp.2
  intro T hT X
  rcases vx_callSN X hx (bytes := bytes) (maxL := maxL) (ret := ret) ho hl hx1 hini hcode hy hK hg (hsize.trans hml.symm) (argsL := As) (rest := rest) (fun sig h => hn.trans (hlen sig h)) hstack hW (by rw [hb]; exact hdg)
    (fun vm₁ hW₁ => ⟨hf.1, hf.2, hPc (T.setVm vm₁) hT hW₁⟩) with ⟨v, vm₁, ⟨U', l2, c2, s2⟩, hW₁, X', ⟨g', mk, t, L, e1, e2, hq, h1, hL, h2, h3⟩, st⟩ | ⟨q, vm₁, ⟨U', l2, c2, s2⟩, hW₁, X', ⟨g', mk, t, L, E, ce, e1, e2, hq, hce, hcv, hcl, h1, hL, h2, h3⟩, st⟩
  · dsimp only [Pt.U, Pt.locs, Pt.cells, Pt.slots] at X' e1 e2 h1 h2 h3 st
    subst h1; subst h2; subst h3
    exact Or.inl ⟨v, (T.setVm vm₁).calling g' mk As.toArray, t, U', L, hT, X', hL, e1, e2, hq, st⟩
  · dsimp only [Pt.U, Pt.locs, Pt.cells, Pt.slots] at X' e1 e2 h1 h2 h3 st hcl
    subst h1; subst h2; subst h3
    exact Or.inr ⟨q, (T.setVm vm₁).calling g' mk As.toArray, t, U', L, E, ce, hT, X', hL, e1, e2, hq, hce, hcv, vx_cls hW₁ hcl, st⟩
end VXN2
/-! ===== THE STORE LAYER: a world of fixed shape (ids to addresses), its contents a store; a machine step as a step of the store ===== -/
abbrev St : Type := (Nat → Nat → Int32) × (Nat → Nat → Int64)
def gi (S : St) (k j : Nat) : Int32 := S.1 k j
def gl (S : St) (k j : Nat) : Int64 := S.2 k j
def si (S : St) (k j : Nat) (v : Int32) : St := (fun x => if x = k then upd (S.1 k) j v else S.1 x, S.2)
def sl (S : St) (k j : Nat) (v : Int64) : St := (S.1, fun x => if x = k then vp_updL (S.2 k) j v else S.2 x)
theorem si_1 (S : St) (k j : Nat) (v : Int32) : (si S k j v).1 k = upd (S.1 k) j v := by simp [si]
theorem si_1n (S : St) {k x : Nat} (j : Nat) (v : Int32) (h : x ≠ k) : (si S k j v).1 x = S.1 x := by simp [si, h]
theorem sl_2 (S : St) (k j : Nat) (v : Int64) : (sl S k j v).2 k = vp_updL (S.2 k) j v := by simp [sl]
theorem sl_2n (S : St) {k x : Nat} (j : Nat) (v : Int64) (h : x ≠ k) : (sl S k j v).2 x = S.2 x := by simp [sl, h]
abbrev GT : Type := (Nat → ClassId) → (Nat → Nat) → (Nat → Int32) → (Nat → Int64) → Nat → va_E
def wC (n : Nat) (G : GT) (cs : Nat → ClassId) (a : Nat → Nat) (S : St) : va_W := (List.range n).map (fun k => (a k, G cs a (S.1 k) (S.2 k) k))
theorem wC_at {n : Nat} {G : GT} {cs : Nat → ClassId} {a : Nat → Nat} {S : St} {k : Nat} (h : k < n) : (wC n G cs a S)[k]? = some (a k, G cs a (S.1 k) (S.2 k) k) := by
  rw [wC, List.getElem?_map, List.getElem?_range h]; rfl
theorem wC_no {n : Nat} {G : GT} {cs : Nat → ClassId} {a : Nat → Nat} {S : St} {k : Nat} (h : ¬ k < n) : (wC n G cs a S)[k]? = none := by
  apply List.getElem?_eq_none
  rw [wC, List.length_map, List.length_range]; omega
theorem wC_some {n : Nat} {G : GT} {cs : Nat → ClassId} {a : Nat → Nat} {S : St} {k : Nat} {q : Nat × va_E} (h : (wC n G cs a S)[k]? = some q) : k < n ∧ q = (a k, G cs a (S.1 k) (S.2 k) k) := by
  by_cases hk : k < n
  · rw [wC_at hk] at h; exact ⟨hk, (Option.some.inj h).symm⟩
  · rw [wC_no hk] at h; cases h
theorem wC_len {n : Nat} {G : GT} {cs : Nat → ClassId} {a : Nat → Nat} {S : St} : (wC n G cs a S).length = n := by rw [wC, List.length_map, List.length_range]
theorem wC_set {n : Nat} {G : GT} {cs : Nat → ClassId} {a : Nat → Nat} {S S' : St} {k : Nat} (h : k < n) (h1 : ∀ x, x ≠ k → S'.1 x = S.1 x) (h2 : ∀ x, x ≠ k → S'.2 x = S.2 x) : (wC n G cs a S).set k (a k, G cs a (S'.1 k) (S'.2 k) k) = wC n G cs a S' := by
  apply List.ext_getElem?
  intro x
  by_cases hx : x = k
  · subst hx
    rw [List.getElem?_set_self (by rw [wC_len]; exact h), wC_at h]
  · rw [List.getElem?_set_ne (Ne.symm hx)]
    by_cases hn : x < n
    · rw [wC_at hn, wC_at hn, h1 x hx, h2 x hx]
    · rw [wC_no hn, wC_no hn]
theorem wC_D {n : Nat} {G : GT} {cs : Nat → ClassId} {a : Nat → Nat} {S S' : St} {A : Nat → Prop} (h : va_D A (wC n G cs a S)) : va_D A (wC n G cs a S') := by
  refine ⟨fun i j p q hi hj e => ?_, fun k q hk => ?_⟩
  · obtain ⟨h1, rfl⟩ := wC_some hi
    obtain ⟨h2, rfl⟩ := wC_some hj
    exact h.1 i j _ _ (wC_at h1) (wC_at h2) e
  · obtain ⟨h1, rfl⟩ := wC_some hk
    have h9 := h.2 k _ (wC_at h1)
    exact h9
/-- what a method on a world may change: the world's cells, and what is new -/
def aA (a : Nat → Nat) (n sz : Nat) : Nat → Prop := fun q => (∃ k, k < n ∧ q = a k) ∨ sz ≤ q
theorem wC_Dw {n : Nat} {G : GT} {cs : Nat → ClassId} {a : Nat → Nat} {S : St} {A : Nat → Prop} {sz : Nat} (h : va_D A (wC n G cs a S)) : va_D (aA a n sz) (wC n G cs a S) :=
  ⟨h.1, fun k q hk => by obtain ⟨h1, rfl⟩ := wC_some hk; exact Or.inl ⟨k, h1, rfl⟩⟩
theorem aA_sub {n : Nat} {G : GT} {cs : Nat → ClassId} {a : Nat → Nat} {S : St} {A : Nat → Prop} {sz : Nat} (h : va_D A (wC n G cs a S)) (hA : ∀ q, sz ≤ q → A q) : ∀ q, aA a n sz q → A q := by
  intro q hq
  rcases hq with ⟨k, hk, rfl⟩ | hq
  · exact h.2 k _ (wC_at hk)
  · exact hA q hq
def tysX (cs : Nat → ClassId) : List (ClassId × FieldType) := [(cs 0, .int), (cs 1, .object "PressbrakeLane$Part"), (cs 2, .object "PressbrakeLane$Tool"), (cs 3, .object "PressbrakeLane$Batch")]
def decls : List MethodName := [Bundle.initS "java/lang/RuntimeException", Bundle.initS "java/lang/Exception", Bundle.initS Bundle.tN]
def thrXs : List String := ["java/lang/IllegalArgumentException", "java/lang/IllegalStateException", "java/lang/IndexOutOfBoundsException"]
def aoCs : List String := ["PressbrakeLane$Part", "PressbrakeLane$Tool", "PressbrakeLane$Batch"]
/-- what a method takes of the machine beside its world: classes, links within the nest, texts, two statics of Throwable -/
def KK (D : va_G) (cs : Nat → ClassId) (A : Nat → Prop) (U : State) (H : Heap) : Prop :=
  va_K D vwCl (tysX cs) U ∧ (∀ q ∈ nests, va_Nw (.methodLinkNest q.1 q.2.1 q.2.2.1 q.2.2.2) U) ∧ (∀ q ∈ strs, ∃ sa, vk_R RX8 q.1 q.2 sa U) ∧ ((∀ y ∈ decls, va_Nw (.declares y) U) ∧ (∀ x ∈ thrXs, va_Nw (.castable x x) U) ∧ ∀ x ∈ aoCs, va_AO x U) ∧
  vx_Zq Bundle.tN "UNASSIGNED_STACK" Bundle.steD A U H ∧ vx_Zq Bundle.tN "SUPPRESSED_SENTINEL" Bundle.listD A U H
theorem KK.step {D : va_G} {cs : Nat → ClassId} {A A' : Nat → Prop} {s U : State} {H : Heap} {locs : List Loc} (h : KK D cs A s s.heap) (hS : va_S A s.heap H locs) (hA : ∀ q, A' q → A q) (hU : U.heap = H) (hW : s.WarmedH U.vm) : KK D cs A' U U.heap := by
  obtain ⟨h1, h2, h3, h6, h4, h5⟩ := h
  refine ⟨va_K.moved hW.alike h1, fun q hq => va_Nw.warmM hW (h2 q hq), fun q hq => ?_, ⟨fun y hy => va_Nw.warmD hW (h6.1 y hy), fun x hx => va_Nw.warmC hW (h6.2.1 x hx), fun x hx => va_AO.moved hW.alike (h6.2.2 x hx)⟩, ?_, ?_⟩
  · obtain ⟨sa, h⟩ := h3 q hq
    exact ⟨sa, vk_R.warm hW h⟩
  · rw [hU]; exact vx_Zq.moved hW.alike ((h4.kept hS.2.1).narrow hA)
  · rw [hU]; exact vx_Zq.moved hW.alike ((h5.kept hS.2.1).narrow hA)
theorem KK.calling {D : va_G} {cs : Nat → ClassId} {A : Nat → Prop} {U : State} {g : JFrame} {mk : MethodId} {a : Array Value} (h : KK D cs A U U.heap) : KK D cs A (U.calling g mk a) (U.calling g mk a).heap := by
  obtain ⟨h1, h2, h3, h6, h4, h5⟩ := h
  refine ⟨va_K.moved (u := U) (U := U.calling g mk a) (Vm.Alike.refl U.vm) h1, fun q hq => va_Nw.same (u := U) (U := U.calling g mk a) rfl rfl (h2 q hq), fun q hq => ?_, ⟨fun y hy => va_Nw.same (u := U) (U := U.calling g mk a) rfl rfl (h6.1 y hy), fun x hx => va_Nw.same (u := U) (U := U.calling g mk a) rfl rfl (h6.2.1 x hx), fun x hx => va_AO.moved (u := U) (U := U.calling g mk a) (Vm.Alike.refl U.vm) (h6.2.2 x hx)⟩, ?_, ?_⟩
  · obtain ⟨sa, h⟩ := h3 q hq
    exact ⟨sa, vk_R.same (u := U) (U := U.calling g mk a) rfl h⟩
  · exact vx_Zq.moved (u := U) (U := U.calling g mk a) (Vm.Alike.refl U.vm) h4
  · exact vx_Zq.moved (u := U) (U := U.calling g mk a) (Vm.Alike.refl U.vm) h5
/-- a method's frame and all that is fixed while it runs -/
abbrev ET : Type := (Program × Launch × Env × Room) × (State × MethodId × Array Value × List Frame) × (Method × Code × Nat × (State → Prop)) × (va_G × (Nat → ClassId) × (Nat → Prop))
abbrev e_p (E : ET) := E.1.1
abbrev e_l (E : ET) := E.1.2.1
abbrev e_e (E : ET) := E.1.2.2.1
abbrev e_R (E : ET) := E.1.2.2.2
abbrev e_s (E : ET) := E.2.1.1
abbrev e_m (E : ET) := E.2.1.2.1
abbrev e_a (E : ET) := E.2.1.2.2.1
abbrev e_b (E : ET) := E.2.1.2.2.2
abbrev e_h (E : ET) := E.2.2.1.1
abbrev e_c (E : ET) := E.2.2.1.2.1
abbrev e_n (E : ET) := E.2.2.1.2.2.1
abbrev e_Q (E : ET) := E.2.2.1.2.2.2
abbrev e_D (E : ET) := E.2.2.2.1
abbrev e_k (E : ET) := E.2.2.2.2.1
abbrev e_A (E : ET) := E.2.2.2.2.2
def Zz (E : ET) (P : Heap → List Loc → Prop) (cells slots pc : Nat) (loc : List (Nat × Value)) (stk : List Value) : Prop :=
  ∀ (H : Heap) (locs : List Loc) (ls : Array Slot), P H locs → lv_has ls (e_n E) loc → W (e_p E) (e_l E) (e_e E) (e_R E) (e_s E) (e_m E) (e_a E) (e_b E) (e_h E) (e_c E) H locs cells slots (e_Q E) (F0 (e_m E) pc ls stk)
def CX (E : ET) (cc : ByteArray) (own : String) (nL : Nat) (rm : Room) : Prop :=
  (e_p E).tables.exec = Jvm.exec ∧ (e_c E).code = cc ∧ (e_c E).maxLocals = nL ∧ e_n E = nL ∧ e_R E = rm ∧ (e_s E).vm.findClass own = some (e_m E).cls ∧ (∀ w ∈ BG, w.before (e_a E) (e_s E) = true) ∧
  KK (e_D E) (e_k E) (e_A E) (e_s E) (e_s E).heap ∧ (∀ q : Nat, (e_s E).heap.size ≤ q → e_A E q) ∧ (e_l E).stackTraces = false ∧ (∀ x ∈ (e_c E).exceptionTable.toList, False) ∧ (e_h E).locks = false
theorem CX.hn {E : ET} {cc : ByteArray} {own : String} {nL : Nat} {rm : Room} (C : CX E cc own nL rm) : e_n E = nL := C.2.2.2.1
theorem CX.hR {E : ET} {cc : ByteArray} {own : String} {nL : Nat} {rm : Room} (C : CX E cc own nL rm) : e_R E = rm := C.2.2.2.2.1
theorem CX.ho {E : ET} {cc : ByteArray} {own : String} {nL : Nat} {rm : Room} (C : CX E cc own nL rm) : (e_s E).vm.findClass own = some (e_m E).cls := C.2.2.2.2.2.1
theorem CX.ht {E : ET} {cc : ByteArray} {own : String} {nL : Nat} {rm : Room} (C : CX E cc own nL rm) : ∀ w ∈ BG, w.before (e_a E) (e_s E) = true := C.2.2.2.2.2.2.1
theorem CX.hK {E : ET} {cc : ByteArray} {own : String} {nL : Nat} {rm : Room} (C : CX E cc own nL rm) : KK (e_D E) (e_k E) (e_A E) (e_s E) (e_s E).heap := C.2.2.2.2.2.2.2.1
theorem CX.hA {E : ET} {cc : ByteArray} {own : String} {nL : Nat} {rm : Room} (C : CX E cc own nL rm) : ∀ q : Nat, (e_s E).heap.size ≤ q → e_A E q := C.2.2.2.2.2.2.2.2.1
theorem CX.hT {E : ET} {cc : ByteArray} {own : String} {nL : Nat} {rm : Room} (C : CX E cc own nL rm) : (e_l E).stackTraces = false := C.2.2.2.2.2.2.2.2.2.1
theorem CX.hX {E : ET} {cc : ByteArray} {own : String} {nL : Nat} {rm : Room} (C : CX E cc own nL rm) : ∀ x ∈ (e_c E).exceptionTable.toList, False := C.2.2.2.2.2.2.2.2.2.2.1
theorem CX.hL {E : ET} {cc : ByteArray} {own : String} {nL : Nat} {rm : Room} (C : CX E cc own nL rm) : (e_h E).locks = false := C.2.2.2.2.2.2.2.2.2.2.2
/-- the world of n cells, laid out by G, with the store S -/
def WG (n : Nat) (G : GT) (E : ET) (a : Nat → Nat) (S : St) : Heap → List Loc → Prop := fun H locs =>
  va_P (e_D E) vwCl (wC n G (e_k E) a S) H ∧ va_D (e_A E) (wC n G (e_k E) a S) ∧ va_S (e_A E) (e_s E).heap H locs
section ZR
variable {E : ET} {cc : ByteArray} {own : String} {nL : Nat} {rm : Room} {P : Heap → List Loc → Prop} {cells slots pc : Nat} {loc : List (Nat × Value)} {stk : List Value}
theorem z_sub {loc' : List (Nat × Value)} (ks : List Nat) (h : lv_pick loc ks = loc') (k : Zz E P cells slots pc loc' stk) : Zz E P cells slots pc loc stk := fun H locs ls hP hl => k H locs ls hP (lv_sub hl ks h)
theorem z_widen {c' s' : Nat} (h1 : cells ≤ c') (h2 : slots ≤ s') (k : Zz E P c' s' pc loc stk) : Zz E P cells slots pc loc stk := fun H locs ls hP hl => W.widen h1 h2 (k H locs ls hP hl)
theorem z_pc {pc' : Nat} (h : pc = pc') (k : Zz E P cells slots pc' loc stk) : Zz E P cells slots pc loc stk := h ▸ k
theorem z_iconst (C : CX E cc own nL rm) {n : Int} {v : Int32} (d : decode cc pc = .ok (.iconst n, 1)) (hv : Int32.ofInt n = v) (k : Zz E P cells slots (pc + 1) loc (.int v :: stk)) : Zz E P cells slots pc loc stk := fun H locs ls hP hl => lv_iconst C.1 C.2.1 d hv (k H locs ls hP hl)
theorem z_bipush (C : CX E cc own nL rm) {n : Int} {v : Int32} (d : decode cc pc = .ok (.bipush n, 2)) (hv : (Int8.ofInt n).toInt32 = v) (k : Zz E P cells slots (pc + 2) loc (.int v :: stk)) : Zz E P cells slots pc loc stk := fun H locs ls hP hl => lv_bipush C.1 C.2.1 d hv (k H locs ls hP hl)
theorem z_sipush (C : CX E cc own nL rm) {n : Int} {v : Int32} (d : decode cc pc = .ok (.sipush n, 3)) (hv : (Int16.ofInt n).toInt32 = v) (k : Zz E P cells slots (pc + 3) loc (.int v :: stk)) : Zz E P cells slots pc loc stk := fun H locs ls hP hl => lv_sipush C.1 C.2.1 d hv (k H locs ls hP hl)
theorem z_lconst (C : CX E cc own nL rm) {n : Fin 2} {v : Int64} (d : decode cc pc = .ok (.lconst n, 1)) (hv : Int64.ofNat (n : Nat) = v) (k : Zz E P cells slots (pc + 1) loc (.long v :: stk)) : Zz E P cells slots pc loc stk := fun H locs ls hP hl => lv_lconst C.1 C.2.1 d hv (k H locs ls hP hl)
theorem z_ldc2 (C : CX E cc own nL rm) {index : Nat} {v : Int64} (hw : Cond.constantLong own index v ∈ BG) (d : decode cc pc = .ok (.ldc2_w index, 3)) (k : Zz E P cells slots (pc + 3) loc (.long v :: stk)) : Zz E P cells slots pc loc stk := fun H locs ls hP hl => lv_ldc2 C.1 C.2.1 C.2.2.2.2.2.1 (C.2.2.2.2.2.2.1 _ hw) d (k H locs ls hP hl)
theorem z_iload_n (q : Nat) (C : CX E cc own nL rm) {kk : Fin 4} {i : Nat} {x : Int32} (d : decode cc pc = .ok (.iload_n kk, 1)) (hi : (kk : Nat) = i) (hq : loc[q]? = some (i, .int x)) (k : Zz E P cells slots (pc + 1) loc (.int x :: stk)) : Zz E P cells slots pc loc stk := fun H locs ls hP hl => lv_iload_n C.1 C.2.1 d hi (lv_at hl q hq) (k H locs ls hP hl)
theorem z_iload (q : Nat) (C : CX E cc own nL rm) {i : Nat} {x : Int32} (d : decode cc pc = .ok (.iload i, 2)) (hq : loc[q]? = some (i, .int x)) (k : Zz E P cells slots (pc + 2) loc (.int x :: stk)) : Zz E P cells slots pc loc stk := fun H locs ls hP hl => lv_iload C.1 C.2.1 d (lv_at hl q hq) (k H locs ls hP hl)
theorem z_lload_n (q : Nat) (C : CX E cc own nL rm) {kk : Fin 4} {i : Nat} {x : Int64} (d : decode cc pc = .ok (.lload_n kk, 1)) (hi : (kk : Nat) = i) (hq : loc[q]? = some (i, .long x)) (k : Zz E P cells slots (pc + 1) loc (.long x :: stk)) : Zz E P cells slots pc loc stk := fun H locs ls hP hl => lv_lload_n C.1 C.2.1 d hi (lv_at hl q hq) (k H locs ls hP hl)
theorem z_lload (q : Nat) (C : CX E cc own nL rm) {i : Nat} {x : Int64} (d : decode cc pc = .ok (.lload i, 2)) (hq : loc[q]? = some (i, .long x)) (k : Zz E P cells slots (pc + 2) loc (.long x :: stk)) : Zz E P cells slots pc loc stk := fun H locs ls hP hl => lv_lload C.1 C.2.1 d (lv_at hl q hq) (k H locs ls hP hl)
theorem z_aload_n (q : Nat) (C : CX E cc own nL rm) {kk : Fin 4} {i x : Nat} (d : decode cc pc = .ok (.aload_n kk, 1)) (hi : (kk : Nat) = i) (hq : loc[q]? = some (i, .ref x)) (k : Zz E P cells slots (pc + 1) loc (.ref x :: stk)) : Zz E P cells slots pc loc stk := fun H locs ls hP hl => lv_aload_n C.1 C.2.1 d hi (lv_at hl q hq) (k H locs ls hP hl)
theorem z_aload (q : Nat) (C : CX E cc own nL rm) {i x : Nat} (d : decode cc pc = .ok (.aload i, 2)) (hq : loc[q]? = some (i, .ref x)) (k : Zz E P cells slots (pc + 2) loc (.ref x :: stk)) : Zz E P cells slots pc loc stk := fun H locs ls hP hl => lv_aload C.1 C.2.1 d (lv_at hl q hq) (k H locs ls hP hl)
theorem z_istore_n (C : CX E cc own nL rm) {kk : Fin 4} {i : Nat} {x : Int32} {loc' : List (Nat × Value)} (d : decode cc pc = .ok (.istore_n kk, 1)) (hi : (kk : Nat) = i) (hn : i < nL) (hl' : (i, Value.int x) :: loc.filter (fun q => !(q.1 == i) && !(q.1 + 1 == i && q.2.category == 2)) = loc') (k : Zz E P cells slots (pc + 1) loc' stk) : Zz E P cells slots pc loc (.int x :: stk) := fun H locs ls hP hl => lv_istore_n C.1 C.2.1 d hi hl (by rw [C.2.2.2.1]; exact hn) hl' (fun ls' h' => k H locs ls' hP h')
theorem z_istore (C : CX E cc own nL rm) {i : Nat} {x : Int32} {loc' : List (Nat × Value)} (d : decode cc pc = .ok (.istore i, 2)) (hn : i < nL) (hl' : (i, Value.int x) :: loc.filter (fun q => !(q.1 == i) && !(q.1 + 1 == i && q.2.category == 2)) = loc') (k : Zz E P cells slots (pc + 2) loc' stk) : Zz E P cells slots pc loc (.int x :: stk) := fun H locs ls hP hl => lv_istore C.1 C.2.1 d hl (by rw [C.2.2.2.1]; exact hn) hl' (fun ls' h' => k H locs ls' hP h')
theorem z_lstore_n (C : CX E cc own nL rm) {kk : Fin 4} {i : Nat} {x : Int64} {loc' : List (Nat × Value)} (d : decode cc pc = .ok (.lstore_n kk, 1)) (hi : (kk : Nat) = i) (hn : i + 1 < nL) (hl' : (i, Value.long x) :: loc.filter (fun q => !(q.1 == i) && (!(q.1 == i + 1) && !(q.1 + 1 == i && q.2.category == 2))) = loc') (k : Zz E P cells slots (pc + 1) loc' stk) : Zz E P cells slots pc loc (.long x :: stk) := fun H locs ls hP hl => lv_lstore_n C.1 C.2.1 d hi hl (by rw [C.2.2.2.1]; exact hn) hl' (fun ls' h' => k H locs ls' hP h')
theorem z_lstore (C : CX E cc own nL rm) {i : Nat} {x : Int64} {loc' : List (Nat × Value)} (d : decode cc pc = .ok (.lstore i, 2)) (hn : i + 1 < nL) (hl' : (i, Value.long x) :: loc.filter (fun q => !(q.1 == i) && (!(q.1 == i + 1) && !(q.1 + 1 == i && q.2.category == 2))) = loc') (k : Zz E P cells slots (pc + 2) loc' stk) : Zz E P cells slots pc loc (.long x :: stk) := fun H locs ls hP hl => lv_lstore C.1 C.2.1 d hl (by rw [C.2.2.2.1]; exact hn) hl' (fun ls' h' => k H locs ls' hP h')
theorem z_astore_n (C : CX E cc own nL rm) {kk : Fin 4} {i x : Nat} {loc' : List (Nat × Value)} (d : decode cc pc = .ok (.astore_n kk, 1)) (hi : (kk : Nat) = i) (hn : i < nL) (hl' : (i, Value.ref x) :: loc.filter (fun q => !(q.1 == i) && !(q.1 + 1 == i && q.2.category == 2)) = loc') (k : Zz E P cells slots (pc + 1) loc' stk) : Zz E P cells slots pc loc (.ref x :: stk) := fun H locs ls hP hl => lv_astore_n C.1 C.2.1 d hi hl (by rw [C.2.2.2.1]; exact hn) hl' (fun ls' h' => k H locs ls' hP h')
theorem z_astore (C : CX E cc own nL rm) {i x : Nat} {loc' : List (Nat × Value)} (d : decode cc pc = .ok (.astore i, 2)) (hn : i < nL) (hl' : (i, Value.ref x) :: loc.filter (fun q => !(q.1 == i) && !(q.1 + 1 == i && q.2.category == 2)) = loc') (k : Zz E P cells slots (pc + 2) loc' stk) : Zz E P cells slots pc loc (.ref x :: stk) := fun H locs ls hP hl => lv_astore C.1 C.2.1 d hl (by rw [C.2.2.2.1]; exact hn) hl' (fun ls' h' => k H locs ls' hP h')
theorem z_iinc (q : Nat) (C : CX E cc own nL rm) {i : Nat} {n : Int} {x v : Int32} {loc' : List (Nat × Value)} (d : decode cc pc = .ok (.iinc i n, 3)) (hq : loc[q]? = some (i, .int x)) (hv : x + Int32.ofInt n = v) (hn : i < nL) (hl' : (i, Value.int v) :: loc.filter (fun q => !(q.1 == i) && !(q.1 + 1 == i && q.2.category == 2)) = loc') (k : Zz E P cells slots (pc + 3) loc' stk) : Zz E P cells slots pc loc stk := fun H locs ls hP hl => lv_iinc C.1 C.2.1 d hl hq hv (by rw [C.2.2.2.1]; exact hn) hl' (fun ls' h' => k H locs ls' hP h')
theorem z_iadd (C : CX E cc own nL rm) {x y : Int32} (d : decode cc pc = .ok (.iadd, 1)) (k : Zz E P cells slots (pc + 1) loc (.int (x + y) :: stk)) : Zz E P cells slots pc loc (.int y :: .int x :: stk) := fun H locs ls hP hl => lv_iadd C.1 C.2.1 d (k H locs ls hP hl)
theorem z_isub (C : CX E cc own nL rm) {x y : Int32} (d : decode cc pc = .ok (.isub, 1)) (k : Zz E P cells slots (pc + 1) loc (.int (x - y) :: stk)) : Zz E P cells slots pc loc (.int y :: .int x :: stk) := fun H locs ls hP hl => lv_isub C.1 C.2.1 d (k H locs ls hP hl)
theorem z_imul (C : CX E cc own nL rm) {x y : Int32} (d : decode cc pc = .ok (.imul, 1)) (k : Zz E P cells slots (pc + 1) loc (.int (x * y) :: stk)) : Zz E P cells slots pc loc (.int y :: .int x :: stk) := fun H locs ls hP hl => lv_imul C.1 C.2.1 d (k H locs ls hP hl)
theorem z_iand (C : CX E cc own nL rm) {x y : Int32} (d : decode cc pc = .ok (.iand, 1)) (k : Zz E P cells slots (pc + 1) loc (.int (x &&& y) :: stk)) : Zz E P cells slots pc loc (.int y :: .int x :: stk) := fun H locs ls hP hl => lv_iand C.1 C.2.1 d (k H locs ls hP hl)
theorem z_ior (C : CX E cc own nL rm) {x y : Int32} (d : decode cc pc = .ok (.ior, 1)) (k : Zz E P cells slots (pc + 1) loc (.int (x ||| y) :: stk)) : Zz E P cells slots pc loc (.int y :: .int x :: stk) := fun H locs ls hP hl => lv_ior C.1 C.2.1 d (k H locs ls hP hl)
theorem z_idiv (C : CX E cc own nL rm) {x y : Int32} (d : decode cc pc = .ok (.idiv, 1)) (hne : ¬ y = 0) (k : Zz E P cells slots (pc + 1) loc (.int (x / y) :: stk)) : Zz E P cells slots pc loc (.int y :: .int x :: stk) := fun H locs ls hP hl => lv_idiv C.1 C.2.1 d hne (k H locs ls hP hl)
theorem z_ineg (C : CX E cc own nL rm) {x : Int32} (d : decode cc pc = .ok (.ineg, 1)) (k : Zz E P cells slots (pc + 1) loc (.int (-x) :: stk)) : Zz E P cells slots pc loc (.int x :: stk) := fun H locs ls hP hl => lv_ineg C.1 C.2.1 d (k H locs ls hP hl)
theorem z_ladd (C : CX E cc own nL rm) {x y : Int64} (d : decode cc pc = .ok (.ladd, 1)) (k : Zz E P cells slots (pc + 1) loc (.long (x + y) :: stk)) : Zz E P cells slots pc loc (.long y :: .long x :: stk) := fun H locs ls hP hl => lv_ladd C.1 C.2.1 d (k H locs ls hP hl)
theorem z_lsub (C : CX E cc own nL rm) {x y : Int64} (d : decode cc pc = .ok (.lsub, 1)) (k : Zz E P cells slots (pc + 1) loc (.long (x - y) :: stk)) : Zz E P cells slots pc loc (.long y :: .long x :: stk) := fun H locs ls hP hl => lv_lsub C.1 C.2.1 d (k H locs ls hP hl)
theorem z_lmul (C : CX E cc own nL rm) {x y : Int64} (d : decode cc pc = .ok (.lmul, 1)) (k : Zz E P cells slots (pc + 1) loc (.long (x * y) :: stk)) : Zz E P cells slots pc loc (.long y :: .long x :: stk) := fun H locs ls hP hl => lv_lmul C.1 C.2.1 d (k H locs ls hP hl)
theorem z_lcmp (C : CX E cc own nL rm) {x y : Int64} (d : decode cc pc = .ok (.lcmp, 1)) (k : Zz E P cells slots (pc + 1) loc (.int (lg_cmp x y) :: stk)) : Zz E P cells slots pc loc (.long y :: .long x :: stk) := fun H locs ls hP hl => W.lcmp C.1 C.2.1 d (k H locs ls hP hl)
theorem z_ishl (C : CX E cc own nL rm) {x y : Int32} (d : decode cc pc = .ok (.ishl, 1)) (k : Zz E P cells slots (pc + 1) loc (.int (x <<< (y &&& 31)) :: stk)) : Zz E P cells slots pc loc (.int y :: .int x :: stk) := fun H locs ls hP hl => lv_ishl C.1 C.2.1 d (k H locs ls hP hl)
theorem z_ishr (C : CX E cc own nL rm) {x y : Int32} (d : decode cc pc = .ok (.ishr, 1)) (k : Zz E P cells slots (pc + 1) loc (.int (x >>> (y &&& 31)) :: stk)) : Zz E P cells slots pc loc (.int y :: .int x :: stk) := fun H locs ls hP hl => lv_ishr C.1 C.2.1 d (k H locs ls hP hl)
theorem z_iushr (C : CX E cc own nL rm) {x y : Int32} (d : decode cc pc = .ok (.iushr, 1)) (k : Zz E P cells slots (pc + 1) loc (.int ((x.toUInt32 >>> (y.toUInt32 &&& Int32.toUInt32 31)).toInt32) :: stk)) : Zz E P cells slots pc loc (.int y :: .int x :: stk) := fun H locs ls hP hl => lv_iushr C.1 C.2.1 d rfl (k H locs ls hP hl)
theorem z_i2l (C : CX E cc own nL rm) {x : Int32} (d : decode cc pc = .ok (.i2l, 1)) (k : Zz E P cells slots (pc + 1) loc (.long x.toInt64 :: stk)) : Zz E P cells slots pc loc (.int x :: stk) := fun H locs ls hP hl => lv_i2l C.1 C.2.1 d rfl (k H locs ls hP hl)
theorem z_dup (C : CX E cc own nL rm) {v : Value} (d : decode cc pc = .ok (.dup, 1)) (hv : v.category = 1) (k : Zz E P cells slots (pc + 1) loc (v :: v :: stk)) : Zz E P cells slots pc loc (v :: stk) := fun H locs ls hP hl => lv_dup C.1 C.2.1 d hv (k H locs ls hP hl)
theorem z_pop (C : CX E cc own nL rm) {v : Value} (d : decode cc pc = .ok (.pop, 1)) (hv : v.category = 1) (k : Zz E P cells slots (pc + 1) loc stk) : Zz E P cells slots pc loc (v :: stk) := fun H locs ls hP hl => lv_pop C.1 C.2.1 d hv (k H locs ls hP hl)
theorem z_dup2 (C : CX E cc own nL rm) {v w : Value} (d : decode cc pc = .ok (.dup2, 1)) (hv : v.category = 1) (hw : w.category = 1) (k : Zz E P cells slots (pc + 1) loc (v :: w :: v :: w :: stk)) : Zz E P cells slots pc loc (v :: w :: stk) := fun H locs ls hP hl => lv_dup2_11 C.1 C.2.1 d hv hw (k H locs ls hP hl)
theorem z_goto (tgt : Nat) (C : CX E cc own nL rm) {off : Int} (d : decode cc pc = .ok (.goto off, 3)) (ht : (pc : Int) + off = (tgt : Int)) (k : Zz E P cells slots tgt loc stk) : Zz E P cells slots pc loc stk := fun H locs ls hP hl => lv_goto C.1 C.2.1 d ht (k H locs ls hP hl)
theorem z_if_eq (tgt : Nat) (C : CX E cc own nL rm) {x : Int32} {off : Int} (d : decode cc pc = .ok (.ifCond .eq off, 3)) (ht : (pc : Int) + off = (tgt : Int)) (kt : x = 0 → Zz E P cells slots tgt loc stk) (kf : ¬ x = 0 → Zz E P cells slots (pc + 3) loc stk) : Zz E P cells slots pc loc (.int x :: stk) := fun H locs ls hP hl => lv_if_eq C.1 C.2.1 d ht (fun h => kt h H locs ls hP hl) (fun h => kf h H locs ls hP hl)
theorem z_icmp_eq (tgt : Nat) (C : CX E cc own nL rm) {x y : Int32} {off : Int} (d : decode cc pc = .ok (.if_icmp .eq off, 3)) (ht : (pc : Int) + off = (tgt : Int)) (kt : x = y → Zz E P cells slots tgt loc stk) (kf : ¬ x = y → Zz E P cells slots (pc + 3) loc stk) : Zz E P cells slots pc loc (.int y :: .int x :: stk) := fun H locs ls hP hl => lv_icmp_eq C.1 C.2.1 d ht (fun h => kt h H locs ls hP hl) (fun h => kf h H locs ls hP hl)
theorem z_if_ne (tgt : Nat) (C : CX E cc own nL rm) {x : Int32} {off : Int} (d : decode cc pc = .ok (.ifCond .ne off, 3)) (ht : (pc : Int) + off = (tgt : Int)) (kt : ¬ x = 0 → Zz E P cells slots tgt loc stk) (kf : x = 0 → Zz E P cells slots (pc + 3) loc stk) : Zz E P cells slots pc loc (.int x :: stk) := fun H locs ls hP hl => lv_if_ne C.1 C.2.1 d ht (fun h => kt h H locs ls hP hl) (fun h => kf h H locs ls hP hl)
theorem z_icmp_ne (tgt : Nat) (C : CX E cc own nL rm) {x y : Int32} {off : Int} (d : decode cc pc = .ok (.if_icmp .ne off, 3)) (ht : (pc : Int) + off = (tgt : Int)) (kt : ¬ x = y → Zz E P cells slots tgt loc stk) (kf : x = y → Zz E P cells slots (pc + 3) loc stk) : Zz E P cells slots pc loc (.int y :: .int x :: stk) := fun H locs ls hP hl => lv_icmp_ne C.1 C.2.1 d ht (fun h => kt h H locs ls hP hl) (fun h => kf h H locs ls hP hl)
theorem z_if_lt (tgt : Nat) (C : CX E cc own nL rm) {x : Int32} {off : Int} (d : decode cc pc = .ok (.ifCond .lt off, 3)) (ht : (pc : Int) + off = (tgt : Int)) (kt : x < 0 → Zz E P cells slots tgt loc stk) (kf : ¬ x < 0 → Zz E P cells slots (pc + 3) loc stk) : Zz E P cells slots pc loc (.int x :: stk) := fun H locs ls hP hl => lv_if_lt C.1 C.2.1 d ht (fun h => kt h H locs ls hP hl) (fun h => kf h H locs ls hP hl)
theorem z_icmp_lt (tgt : Nat) (C : CX E cc own nL rm) {x y : Int32} {off : Int} (d : decode cc pc = .ok (.if_icmp .lt off, 3)) (ht : (pc : Int) + off = (tgt : Int)) (kt : x < y → Zz E P cells slots tgt loc stk) (kf : ¬ x < y → Zz E P cells slots (pc + 3) loc stk) : Zz E P cells slots pc loc (.int y :: .int x :: stk) := fun H locs ls hP hl => lv_icmp_lt C.1 C.2.1 d ht (fun h => kt h H locs ls hP hl) (fun h => kf h H locs ls hP hl)
theorem z_if_ge (tgt : Nat) (C : CX E cc own nL rm) {x : Int32} {off : Int} (d : decode cc pc = .ok (.ifCond .ge off, 3)) (ht : (pc : Int) + off = (tgt : Int)) (kt : 0 ≤ x → Zz E P cells slots tgt loc stk) (kf : ¬ 0 ≤ x → Zz E P cells slots (pc + 3) loc stk) : Zz E P cells slots pc loc (.int x :: stk) := fun H locs ls hP hl => lv_if_ge C.1 C.2.1 d ht (fun h => kt h H locs ls hP hl) (fun h => kf h H locs ls hP hl)
theorem z_icmp_ge (tgt : Nat) (C : CX E cc own nL rm) {x y : Int32} {off : Int} (d : decode cc pc = .ok (.if_icmp .ge off, 3)) (ht : (pc : Int) + off = (tgt : Int)) (kt : y ≤ x → Zz E P cells slots tgt loc stk) (kf : ¬ y ≤ x → Zz E P cells slots (pc + 3) loc stk) : Zz E P cells slots pc loc (.int y :: .int x :: stk) := fun H locs ls hP hl => lv_icmp_ge C.1 C.2.1 d ht (fun h => kt h H locs ls hP hl) (fun h => kf h H locs ls hP hl)
theorem z_if_gt (tgt : Nat) (C : CX E cc own nL rm) {x : Int32} {off : Int} (d : decode cc pc = .ok (.ifCond .gt off, 3)) (ht : (pc : Int) + off = (tgt : Int)) (kt : 0 < x → Zz E P cells slots tgt loc stk) (kf : ¬ 0 < x → Zz E P cells slots (pc + 3) loc stk) : Zz E P cells slots pc loc (.int x :: stk) := fun H locs ls hP hl => lv_if_gt C.1 C.2.1 d ht (fun h => kt h H locs ls hP hl) (fun h => kf h H locs ls hP hl)
theorem z_icmp_gt (tgt : Nat) (C : CX E cc own nL rm) {x y : Int32} {off : Int} (d : decode cc pc = .ok (.if_icmp .gt off, 3)) (ht : (pc : Int) + off = (tgt : Int)) (kt : y < x → Zz E P cells slots tgt loc stk) (kf : ¬ y < x → Zz E P cells slots (pc + 3) loc stk) : Zz E P cells slots pc loc (.int y :: .int x :: stk) := fun H locs ls hP hl => lv_icmp_gt C.1 C.2.1 d ht (fun h => kt h H locs ls hP hl) (fun h => kf h H locs ls hP hl)
theorem z_if_le (tgt : Nat) (C : CX E cc own nL rm) {x : Int32} {off : Int} (d : decode cc pc = .ok (.ifCond .le off, 3)) (ht : (pc : Int) + off = (tgt : Int)) (kt : x ≤ 0 → Zz E P cells slots tgt loc stk) (kf : ¬ x ≤ 0 → Zz E P cells slots (pc + 3) loc stk) : Zz E P cells slots pc loc (.int x :: stk) := fun H locs ls hP hl => lv_if_le C.1 C.2.1 d ht (fun h => kt h H locs ls hP hl) (fun h => kf h H locs ls hP hl)
theorem z_icmp_le (tgt : Nat) (C : CX E cc own nL rm) {x y : Int32} {off : Int} (d : decode cc pc = .ok (.if_icmp .le off, 3)) (ht : (pc : Int) + off = (tgt : Int)) (kt : x ≤ y → Zz E P cells slots tgt loc stk) (kf : ¬ x ≤ y → Zz E P cells slots (pc + 3) loc stk) : Zz E P cells slots pc loc (.int y :: .int x :: stk) := fun H locs ls hP hl => lv_icmp_le C.1 C.2.1 d ht (fun h => kt h H locs ls hP hl) (fun h => kf h H locs ls hP hl)
theorem z_topi {x v : Int32} (e : x = v) (k : Zz E P cells slots pc loc (.int x :: stk)) : Zz E P cells slots pc loc (.int v :: stk) := by subst e; exact k
theorem z_topl {x v : Int64} (e : x = v) (k : Zz E P cells slots pc loc (.long x :: stk)) : Zz E P cells slots pc loc (.long v :: stk) := by subst e; exact k
theorem z_swi (tgt : Nat) (C : CX E cc own nL rm) {dflt lo hi : Int} {offs : Array Int} {len : Nat} {x v : Int32} {off : Int} (d : decode cc pc = .ok (.tableswitch dflt lo hi offs, len)) (hx : x = v) (h1 : ¬ v.toInt < lo) (h2 : ¬ hi < v.toInt) (ho : offs[(v.toInt - lo).toNat]? = some off) (ht : (pc : Int) + off = (tgt : Int)) (k : Zz E P cells slots tgt loc stk) : Zz E P cells slots pc loc (.int x :: stk) := fun H locs ls hP hl => by
  subst hx
  exact lv_tableIn C.1 C.2.1 d h1 h2 ho ht (k H locs ls hP hl)
theorem z_swo (tgt : Nat) (C : CX E cc own nL rm) {dflt lo hi : Int} {offs : Array Int} {len : Nat} {x : Int32} (d : decode cc pc = .ok (.tableswitch dflt lo hi offs, len)) (h : x.toInt < lo ∨ hi < x.toInt) (ht : (pc : Int) + dflt = (tgt : Int)) (k : Zz E P cells slots tgt loc stk) : Zz E P cells slots pc loc (.int x :: stk) := fun H locs ls hP hl => lv_tableOut C.1 C.2.1 d h ht (k H locs ls hP hl)
end ZR
def inb (i : Int32) (n : Nat) : Bool := decide (¬ (i < 0 ∨ n ≤ i.toNatClampNeg))
theorem inb_in {i : Int32} {n : Nat} (h : inb i n = true) : vp_in i n := by
  unfold inb at h
  have h2 : ¬ (i < 0 ∨ n ≤ i.toNatClampNeg) := of_decide_eq_true h
  exact h2
section ZW
variable {E : ET} {cc : ByteArray} {own : String} {nL : Nat} {rm : Room} {cells slots pc : Nat} {loc : List (Nat × Value)} {stk : List Value} {n : Nat} {G : GT} {a : Nat → Nat} {S : St}
theorem z_getf (C : CX E cc own nL rm) {C' : String} {T : u_T} {N ci index k j : Nat} {fs : List Value} {v : Value} (hk : k < n) (hG : G (e_k E) a (S.1 k) (S.2 k) k = .inr (ci, fs)) (hin : ∀ w ∈ u_ws C' T N, w ∈ BG) (hc : vwCl[ci]? = some (C', T, N)) (hj : j < N) (hlink : Cond.fieldLink own index (T j).1 (T j).2.1 (T j).2.2.1 ∈ BG) (hv : fs[j]? = some v) (d : decode cc pc = .ok (.getfield index, 3)) (kk : Zz E (WG n G E a S) cells slots (pc + 3) loc (v :: stk)) : Zz E (WG n G E a S) cells slots pc loc (.ref (a k) :: stk) := fun H locs ls hP hl =>
  va_get C.1 C.2.1 C.ht hin C.ho C.hK.1 hP.1 k (by rw [wC_at hk, hG]) hc j hj (C.ht _ hlink) (fun _ h => h) hv d (kk H locs ls hP hl)
theorem z_putf (C : CX E cc own nL rm) {C' : String} {T : u_T} {N ci index k j : Nat} {fs : List Value} {x : Int32} {ty : FieldType} (hk : k < n) (hG : G (e_k E) a (S.1 k) (S.2 k) k = .inr (ci, fs)) (hG' : G (e_k E) a (upd (S.1 k) j x) (S.2 k) k = .inr (ci, fs.set j (.int x))) (hin : ∀ w ∈ u_ws C' T N, w ∈ BG) (ty0 : Nat → FieldType) (hty : ∀ k, k < N → parseFieldDescriptor (T k).2.2.1 = some (ty0 k)) (hnm : ∀ a, a < N → ∀ b, b < N → a ≠ b → (T a).2.1 ≠ (T b).2.1) (hc : vwCl[ci]? = some (C', T, N)) (hj : j < N) (hlink : Cond.fieldLink own index (T j).1 (T j).2.1 (T j).2.2.1 ∈ BG) (hfin : (T j).2.2.2 = false) (hd : parseFieldDescriptor (T j).2.2.1 = some ty) (hn : narrow ty (.int x) = .int x) (hfit : fits ty (.int x) = true) (hl : j < fs.length) (d : decode cc pc = .ok (.putfield index, 3)) (kk : Zz E (WG n G E a (si S k j x)) cells slots (pc + 3) loc stk) : Zz E (WG n G E a S) cells slots pc loc (.int x :: .ref (a k) :: stk) := fun H locs ls hP hl' => by
  refine va_put C.1 C.2.1 C.ht hin ty0 hty hnm C.ho C.hK.1 hP.1 hP.2.1 hP.2.2 k (by rw [wC_at hk, hG]) hc j hj (C.ht _ hlink) (fun _ h => h) hfin hd hn hfit hl d (fun H1 locs1 p1 p2 p3 => ?_)
  have e := wC_set (G := G) (cs := e_k E) (a := a) (S := S) (S' := si S k j x) hk (fun y h => si_1n S j x h) (fun _ _ => rfl)
  rw [si_1, show (si S k j x).2 k = S.2 k from rfl, hG'] at e
  rw [e] at p1 p2
  exact kk H1 locs1 ls ⟨p1, p2, p3⟩ hl'
theorem z_putl (C : CX E cc own nL rm) {C' : String} {T : u_T} {N ci index k j : Nat} {fs : List Value} {x : Int64} {ty : FieldType} (hk : k < n) (hG : G (e_k E) a (S.1 k) (S.2 k) k = .inr (ci, fs)) (hG' : G (e_k E) a (S.1 k) (vp_updL (S.2 k) j x) k = .inr (ci, fs.set j (.long x))) (hin : ∀ w ∈ u_ws C' T N, w ∈ BG) (ty0 : Nat → FieldType) (hty : ∀ k, k < N → parseFieldDescriptor (T k).2.2.1 = some (ty0 k)) (hnm : ∀ a, a < N → ∀ b, b < N → a ≠ b → (T a).2.1 ≠ (T b).2.1) (hc : vwCl[ci]? = some (C', T, N)) (hj : j < N) (hlink : Cond.fieldLink own index (T j).1 (T j).2.1 (T j).2.2.1 ∈ BG) (hfin : (T j).2.2.2 = false) (hd : parseFieldDescriptor (T j).2.2.1 = some ty) (hn : narrow ty (.long x) = .long x) (hfit : fits ty (.long x) = true) (hl : j < fs.length) (d : decode cc pc = .ok (.putfield index, 3)) (kk : Zz E (WG n G E a (sl S k j x)) cells slots (pc + 3) loc stk) : Zz E (WG n G E a S) cells slots pc loc (.long x :: .ref (a k) :: stk) := fun H locs ls hP hl' => by
  refine va_put C.1 C.2.1 C.ht hin ty0 hty hnm C.ho C.hK.1 hP.1 hP.2.1 hP.2.2 k (by rw [wC_at hk, hG]) hc j hj (C.ht _ hlink) (fun _ h => h) hfin hd hn hfit hl d (fun H1 locs1 p1 p2 p3 => ?_)
  have e := wC_set (G := G) (cs := e_k E) (a := a) (S := S) (S' := sl S k j x) hk (fun _ _ => rfl) (fun y h => sl_2n S j x h)
  rw [sl_2, show (sl S k j x).1 k = S.1 k from rfl, hG'] at e
  rw [e] at p1 p2
  exact kk H1 locs1 ls ⟨p1, p2, p3⟩ hl'
theorem z_iald (C : CX E cc own nL rm) {k len : Nat} {i : Int32} (hk : k < n) (hG : ∀ f g, G (e_k E) a f g k = .inl (e_k E 0, len, .inl f)) (hi : inb i len = true) (d : decode cc pc = .ok (.iaload, 1)) (kk : Zz E (WG n G E a S) cells slots (pc + 1) loc (.int (gi S k i.toNatClampNeg) :: stk)) : Zz E (WG n G E a S) cells slots pc loc (.int i :: .ref (a k) :: stk) := fun H locs ls hP hl =>
  va_iald (f := S.1 k) C.1 C.2.1 C.hK.1 hP.1 k 0 (by rw [wC_at hk, hG]) rfl (inb_in hi) d (kk H locs ls hP hl)
theorem z_iast (C : CX E cc own nL rm) {k len : Nat} {i x : Int32} (hk : k < n) (hG : ∀ f g, G (e_k E) a f g k = .inl (e_k E 0, len, .inl f)) (hi : inb i len = true) (d : decode cc pc = .ok (.iastore, 1)) (kk : Zz E (WG n G E a (si S k i.toNatClampNeg x)) cells slots (pc + 1) loc stk) : Zz E (WG n G E a S) cells slots pc loc (.int x :: .int i :: .ref (a k) :: stk) := fun H locs ls hP hl => by
  refine va_iast C.1 C.2.1 C.hK.1 hP.1 hP.2.1 hP.2.2 k 0 (by rw [wC_at hk, hG]) rfl (inb_in hi) d (fun H1 locs1 p1 p2 p3 => ?_)
  have e := wC_set (G := G) (cs := e_k E) (a := a) (S := S) (S' := si S k i.toNatClampNeg x) hk (fun y h => si_1n S _ x h) (fun _ _ => rfl)
  rw [si_1, hG] at e
  rw [e] at p1 p2
  exact kk H1 locs1 ls ⟨p1, p2, p3⟩ hl
theorem z_aald (C : CX E cc own nL rm) (t : Nat) {Cn : String} {k len : Nat} {i : Int32} {h : Nat → Nat} (hk : k < n) (hG : ∀ f g, G (e_k E) a f g k = .inl (e_k E t, len, .inr (.inr (.inr (.inr (fun j => some (a (h j)))))))) (ht : (tysX (e_k E))[t]? = some (e_k E t, .object Cn)) (hi : inb i len = true) (d : decode cc pc = .ok (.aaload, 1)) (kk : Zz E (WG n G E a S) cells slots (pc + 1) loc (.ref (a (h i.toNatClampNeg)) :: stk)) : Zz E (WG n G E a S) cells slots pc loc (.int i :: .ref (a k) :: stk) := fun H locs ls hP hl =>
  va_aldq (f := fun j => some (a (h j))) C.1 C.2.1 C.hK.1 hP.1 k t (by rw [wC_at hk, hG]) ht (inb_in hi) d (kk H locs ls hP hl)
theorem z_mmin (C : CX E cc own nL rm) {P : Heap → List Loc → Prop} {index : Nat} {x y : Int32} (hlink : Cond.methodLink own index Lib.Math.min.name ∈ BG) (hstat : Cond.static Lib.Math.min.name ∈ BG) (hini : Cond.initialized "java/lang/Math" ∈ BG) (hcode : Cond.code Lib.Math.min.name Lib.Math.min.code 2 (some .int) ∈ BG) (hfr : 1 ≤ rm.frames) (hlo : (stk.map fun v => v.category).sum + 13 ≤ rm.locals) (hc : cells ≤ rm.cells) (hs : slots ≤ rm.slots) (d : decode cc pc = .ok (.invokestatic index, 3)) (k : Zz E P cells slots (pc + 3) loc (.int (if y < x then y else x) :: stk)) : Zz E P cells slots pc loc (.int y :: .int x :: stk) := fun H locs ls hP hl =>
  va_mmin C.1 C.2.1 (by rw [hl.1, C.2.2.1, C.hn]) C.ho (C.ht _ hlink) (C.ht _ hstat) (C.ht _ hini) (C.ht _ hcode) (by rw [C.hR]; exact hfr) (by rw [C.hR]; exact hlo) (by rw [C.hR]; exact hc) (by rw [C.hR]; exact hs) d (k H locs ls hP hl)
theorem z_mmax (C : CX E cc own nL rm) {P : Heap → List Loc → Prop} {index : Nat} {x y : Int32} (hlink : Cond.methodLink own index Lib.Math.max.name ∈ BG) (hstat : Cond.static Lib.Math.max.name ∈ BG) (hini : Cond.initialized "java/lang/Math" ∈ BG) (hcode : Cond.code Lib.Math.max.name Lib.Math.max.code 2 (some .int) ∈ BG) (hfr : 1 ≤ rm.frames) (hlo : (stk.map fun v => v.category).sum + 13 ≤ rm.locals) (hc : cells ≤ rm.cells) (hs : slots ≤ rm.slots) (d : decode cc pc = .ok (.invokestatic index, 3)) (k : Zz E P cells slots (pc + 3) loc (.int (if x < y then y else x) :: stk)) : Zz E P cells slots pc loc (.int y :: .int x :: stk) := fun H locs ls hP hl =>
  va_mmax C.1 C.2.1 (by rw [hl.1, C.2.2.1, C.hn]) C.ho (C.ht _ hlink) (C.ht _ hstat) (C.ht _ hini) (C.ht _ hcode) (by rw [C.hR]; exact hfr) (by rw [C.hR]; exact hlo) (by rw [C.hR]; exact hc) (by rw [C.hR]; exact hs) d (k H locs ls hP hl)
end ZW
/-! ===== contracts: from the store S the method comes to the outcome o (an exception's class, or what it returns) with the store S' ===== -/
def PreG (n : Nat) (G : GT) (D : va_G) (cs : Nat → ClassId) (a : Nat → Nat) (S : St) (sz : Nat) (U : State) : Prop := U.heap.size = sz ∧ va_P D vwCl (wC n G cs a S) U.heap ∧ va_D (fun _ => True) (wC n G cs a S) ∧ KK D cs (aA a n sz) U U.heap
def QCg (n : Nat) (G : GT) (D : va_G) (cs : Nat → ClassId) (a : Nat → Nat) (A : Nat → Prop) (o : String ⊕ Option Value) (S' : St) : Array Value → State → Outcome → State → Prop := fun _ st oc t => (∃ v, o = .inr v ∧ oc = .returned v ∧ va_P D vwCl (wC n G cs a S') t.heap) ∧ va_F A st t
def XCg (n : Nat) (G : GT) (D : va_G) (cs : Nat → ClassId) (a : Nat → Nat) (A : Nat → Prop) (o : String ⊕ Option Value) (S' : St) : String → State → State → Prop := fun X st t => (o = .inl X ∧ va_P D vwCl (wC n G cs a S') t.heap) ∧ va_F A st t
def MX (l : Launch) (n : Nat) (G : GT) (D : va_G) (cs : Nat → ClassId) (a : Nat → Nat) (y : MethodName) (b : ByteArray) (maxL : Nat) (ret : Option FieldType) (rm : Room) (av : List Value) (S : St) (o : String ⊕ Option Value) (S' : St) : Prop :=
  ∀ sz, vx_Met l y (.code y b maxL ret :: BG) rm (va_Pc av (PreG n G D cs a S sz)) (QCg n G D cs a (aA a n sz) o S') (XCg n G D cs a (aA a n sz) o S') rm.cells rm.slots (aA a n sz)
def QX (E : ET) (n : Nat) (G : GT) (a : Nat → Nat) (o : String ⊕ Option Value) (S' : St) : Prop :=
  e_Q E = vx_MQ (e_b E) (QCg n G (e_D E) (e_k E) a (e_A E) o S') (XCg n G (e_D E) (e_k E) a (e_A E) o S') (e_a E) (e_s E) (e_R E).cells (e_R E).slots (e_A E)
theorem PreG_blind {n : Nat} {G : GT} {D : va_G} {cs : Nat → ClassId} {a : Nat → Nat} {S : St} {sz : Nat} {av : List Value} : FrameBlind (va_Pc av (PreG n G D cs a S sz)) := fun arr U g mk h => ⟨h.1, h.2.1, h.2.2.1, h.2.2.2.1, KK.calling h.2.2.2.2⟩
def namesOk (y : MethodName) (nargs : Nat) : Prop := y.cls ≠ "java/lang/invoke/MethodHandle" ∧ y.cls ≠ "java/lang/invoke/VarHandle" ∧ (parseMethodDescriptor y.desc).map (fun d => d.parameters.length) = some nargs
def CallVok (own : String) (idx : Nat) (y : MethodName) (b : ByteArray) (maxL : Nat) (ret : Option FieldType) (nargs : Nat) : Prop :=
  Cond.methodLink own idx y ∈ BG ∧ Cond.instanceMethod y ∈ BG ∧ Cond.selects y.cls y y ∈ BG ∧ Cond.initialized y.cls ∈ BG ∧ Cond.code y b maxL ret ∈ BG ∧ namesOk y nargs
def CallSok (own : String) (idx : Nat) (y : MethodName) (b : ByteArray) (maxL : Nat) (ret : Option FieldType) (nargs : Nat) : Prop :=
  Cond.methodLink own idx y ∈ BG ∧ Cond.static y ∈ BG ∧ Cond.initialized y.cls ∈ BG ∧ Cond.code y b maxL ret ∈ BG ∧ namesOk y nargs
def CallNok (own : String) (idx : Nat) (y : MethodName) (host : String) (b : ByteArray) (maxL : Nat) (ret : Option FieldType) (nargs : Nat) : Prop :=
  (own, idx, y, host) ∈ nests ∧ Cond.static y ∈ BG ∧ Cond.initialized y.cls ∈ BG ∧ Cond.code y b maxL ret ∈ BG ∧ namesOk y nargs
theorem gi_bg {ws : List Cond} (h : ∀ w ∈ ws, w ∈ BG) : GoodIn BG ws := fun w hw => ⟨h w hw, BG_good w (h w hw)⟩
theorem gi_code {y : MethodName} {b : ByteArray} {maxL : Nat} {ret : Option FieldType} (h : Cond.code y b maxL ret ∈ BG) : ∀ w ∈ (Cond.code y b maxL ret :: BG), w ∈ BG := fun w hw => (List.mem_cons.mp hw).elim (fun e => by rw [e]; exact h) id
section ZC
variable {E : ET} {cc : ByteArray} {own : String} {nL : Nat} {rm : Room} {cells slots pc : Nat} {loc : List (Nat × Value)} {stk : List Value} {n : Nat} {G : GT} {a : Nat → Nat} {S : St}
theorem z_pre (C : CX E cc own nL rm) {H : Heap} {locs : List Loc} (hW : WG n G E a S H locs) : ∀ q, aA a n H.size q → e_A E q := aA_sub hW.2.1 (fun q h => C.hA q (Nat.le_trans hW.2.2.1 h))
theorem z_fin_ok (C : CX E cc own nL rm) {st0 rest st1 : List Value} {mc ms : Nat} {o : String ⊕ Option Value} {v : Option Value} {S' : St} {arr : Array Value} {H : Heap} {locs : List Loc} {ls : Array Slot} (hW : WG n G E a S H locs) (hl : lv_has ls (e_n E) loc)
    (hr : vx_Run (e_p E) (e_l E) (e_e E) (e_R E) (e_s E) (e_m E) (e_a E) (e_b E) (e_h E) (e_c E) H locs cells slots mc ms (F0 (e_m E) pc ls st0) rest (QCg n G (e_D E) (e_k E) a (aA a n H.size) o S' arr) (XCg n G (e_D E) (e_k E) a (aA a n H.size) o S') (aA a n H.size)) (ho : o = .inr v) (hs : v.toList ++ rest = st1)
    (kk : Zz E (WG n G E a S') (cells + mc) (slots + ms) (pc + 3) loc st1) : W (e_p E) (e_l E) (e_e E) (e_R E) (e_s E) (e_m E) (e_a E) (e_b E) (e_h E) (e_c E) H locs cells slots (e_Q E) (F0 (e_m E) pc ls st0) := by
  subst hs
  intro T hT X
  have hA := z_pre C hW
  rcases hr T hT X with ⟨v', st₀, t, T', L, h0, X', hL, e1, e2, ⟨⟨v2, ho2, hv, hp⟩, hF⟩, st⟩ | ⟨q, st₀, t, T', L, E1, ce, h0, X', hL, e1, e2, ⟨⟨ho2, hp⟩, hF⟩, hce, hcv, hcl, st⟩
  · rw [ho] at ho2
    cases ho2
    cases hv
    obtain ⟨k1, k2, k3⟩ := vx_keep h0 e1 hW.2.2 (fun q _ h => hA q h) hA hL hF
    obtain ⟨t2, a1, b1⟩ := kk T'.heap (locs ++ L) ls ⟨by rw [e1]; exact hp, wC_D hW.2.1, k3⟩ hl T' rfl X'
    exact ⟨t2, st t2 a1, b1⟩
  · rw [ho] at ho2
    cases ho2
theorem z_fin_ex (C : CX E cc own nL rm) {st0 rest : List Value} {mc ms : Nat} {o o' : String ⊕ Option Value} {x : String} {S' S2 : St} {arr : Array Value} {H : Heap} {locs : List Loc} {ls : Array Slot} (hW : WG n G E a S H locs)
    (hr : vx_Run (e_p E) (e_l E) (e_e E) (e_R E) (e_s E) (e_m E) (e_a E) (e_b E) (e_h E) (e_c E) H locs cells slots mc ms (F0 (e_m E) pc ls st0) rest (QCg n G (e_D E) (e_k E) a (aA a n H.size) o S' arr) (XCg n G (e_D E) (e_k E) a (aA a n H.size) o S') (aA a n H.size)) (ho : o = .inl x)
    (hQ : QX E n G a o' S2) (ho' : o' = .inl x) (es : S2 = S') (hc : cells + mc ≤ (e_R E).cells) (hs : slots + ms ≤ (e_R E).slots) : W (e_p E) (e_l E) (e_e E) (e_R E) (e_s E) (e_m E) (e_a E) (e_b E) (e_h E) (e_c E) H locs cells slots (e_Q E) (F0 (e_m E) pc ls st0) := by
  intro T hT X
  have hA := z_pre C hW
  rcases hr T hT X with ⟨v', st₀, t, T', L, h0, X', hL, e1, e2, ⟨⟨v2, ho2, hv, hp⟩, hF⟩, st⟩ | ⟨q, st₀, t, T', L, E1, ce, h0, X', hL, e1, e2, ⟨⟨ho2, hp⟩, hF⟩, hce, hcv, hcl, st⟩
  · rw [ho] at ho2
    cases ho2
  · rw [ho] at ho2
    cases ho2
    obtain ⟨k1, k2, k3⟩ := vx_keep h0 e1 hW.2.2 (fun q _ h => hA q h) hA hL hF
    have key : vx_W (e_p E) (e_l E) (e_e E) (e_R E) (e_s E) (e_m E) (e_a E) (e_b E) (e_h E) (e_c E) T'.heap (locs ++ L) (cells + mc) (slots + ms) (e_Q E) (F0 (e_m E) pc ls rest) q := by
      rw [show e_Q E = _ from hQ]
      exact vx_out (fun x hx => (C.hX x hx).elim) C.hL (by rw [e1]; exact hce) hcv hcl (fun t' ht' _ => ⟨⟨ho', by rw [ht', e1, es]; exact hp⟩, k3.F ht'⟩) k3.2.2 hc hs
    obtain ⟨t2, a1, b1⟩ := key T' rfl X'
    exact ⟨t2, st.trans a1, b1⟩
theorem z_runV (C : CX E cc own nL rm) {y : MethodName} {b : ByteArray} {maxL : Nat} {ret : Option FieldType} {rm' : Room} {As st0 : List Value} {o : String ⊕ Option Value} {S' : St} {k ci idx nargs : Nat} {fs : List Value} {T : u_T} {N : Nat} (hM : MX (e_l E) n G (e_D E) (e_k E) a y b maxL ret rm' (.ref (a k) :: As) S o S') (hC : CallVok own idx y b maxL ret nargs) (hk : k < n) (hG : G (e_k E) a (S.1 k) (S.2 k) k = .inr (ci, fs)) (hc : vwCl[ci]? = some (y.cls, T, N)) (hn : As.length = nargs) (hst : st0 = As.reverse ++ .ref (a k) :: stk) (hcat : (stk.map fun v => v.category).sum ≤ 8) (hR : rm'.frames + 1 ≤ rm.frames ∧ 8 + (maxL + 11) + rm'.locals ≤ rm.locals) (hf : cells + rm'.cells ≤ rm.cells ∧ slots + rm'.slots ≤ rm.slots) (d : decode cc pc = .ok (.invokevirtual idx, 3)) {H : Heap} {locs : List Loc} {ls : Array Slot} (hW : WG n G E a S H locs) (hl : lv_has ls (e_n E) loc) :
    vx_Run (e_p E) (e_l E) (e_e E) (e_R E) (e_s E) (e_m E) (e_a E) (e_b E) (e_h E) (e_c E) H locs cells slots rm'.cells rm'.slots (F0 (e_m E) pc ls st0) stk (QCg n G (e_D E) (e_k E) a (aA a n H.size) o S' (Value.ref (a k) :: As).toArray) (XCg n G (e_D E) (e_k E) a (aA a n H.size) o S') (aA a n H.size) := by
  obtain ⟨h1, h2, h3, h4, h5, h6⟩ := hC
  have hg : GoodIn BG (wsV own idx y.cls y (Cond.code y b maxL ret :: BG)) := gi_bg (fun w hw => by
    unfold wsV at hw
    rcases List.mem_append.mp hw with hw | hw
    · simp only [List.mem_cons, List.not_mem_nil, or_false] at hw
      rcases hw with rfl | rfl | rfl | rfl
      · exact h1
      · exact h2
      · exact h3
      · exact h4
    · exact gi_code h5 w hw)
  exact vx_runV (As := As) (rest := stk) ⟨C.1, C.2.1, C.2.2.1, C.ho, C.ht⟩ (hM H.size) (cwV nargs C.ht hg rfl rfl rfl ⟨rfl, h6⟩ (by rw [C.hR]; exact hR))
    ⟨PreG_blind, va_recv C.hK.1 hW.1 hc (q0 := k) (by rw [wC_at hk, hG]), fun U hU hWm => ⟨rfl, by rw [hU], by rw [hU]; exact hW.1, ⟨hW.2.1.1, fun _ _ _ => trivial⟩, KK.step C.hK hW.2.2 (z_pre C hW) hU hWm⟩⟩ rfl hn (hl.1.trans C.hn) hst (lv_room hcat) d (by rw [C.hR]; exact hf)
theorem z_runS (C : CX E cc own nL rm) {y : MethodName} {b : ByteArray} {maxL : Nat} {ret : Option FieldType} {rm' : Room} {As st0 : List Value} {o : String ⊕ Option Value} {S' : St} {idx nargs : Nat} (hM : MX (e_l E) n G (e_D E) (e_k E) a y b maxL ret rm' As S o S') (hC : CallSok own idx y b maxL ret nargs) (hy : y.cls = own) (hn : As.length = nargs) (hst : st0 = As.reverse ++ stk) (hcat : (stk.map fun v => v.category).sum ≤ 8) (hR : rm'.frames + 1 ≤ rm.frames ∧ 8 + (maxL + 11) + rm'.locals ≤ rm.locals) (hf : cells + rm'.cells ≤ rm.cells ∧ slots + rm'.slots ≤ rm.slots) (d : decode cc pc = .ok (.invokestatic idx, 3)) {H : Heap} {locs : List Loc} {ls : Array Slot} (hW : WG n G E a S H locs) (hl : lv_has ls (e_n E) loc) :
    vx_Run (e_p E) (e_l E) (e_e E) (e_R E) (e_s E) (e_m E) (e_a E) (e_b E) (e_h E) (e_c E) H locs cells slots rm'.cells rm'.slots (F0 (e_m E) pc ls st0) stk (QCg n G (e_D E) (e_k E) a (aA a n H.size) o S' As.toArray) (XCg n G (e_D E) (e_k E) a (aA a n H.size) o S') (aA a n H.size) := by
  obtain ⟨h1, h2, h4, h5, h6⟩ := hC
  have hg : GoodIn BG (wsS own idx y (Cond.code y b maxL ret :: BG)) := gi_bg (fun w hw => by
    unfold wsS at hw
    rcases List.mem_append.mp hw with hw | hw
    · simp only [List.mem_cons, List.not_mem_nil, or_false] at hw
      rcases hw with rfl | rfl | rfl
      · exact h1
      · exact h2
      · rw [← hy]; exact h4
    · exact gi_code h5 w hw)
  exact vx_runS (As := As) (rest := stk) ⟨C.1, C.2.1, C.2.2.1, C.ho, C.ht⟩ (hM H.size) (cwS nargs C.ht hg rfl rfl rfl ⟨hy, h6⟩ (by rw [C.hR]; exact hR))
    ⟨PreG_blind, fun U hU hWm => ⟨rfl, by rw [hU], by rw [hU]; exact hW.1, ⟨hW.2.1.1, fun _ _ _ => trivial⟩, KK.step C.hK hW.2.2 (z_pre C hW) hU hWm⟩⟩ rfl hn (hl.1.trans C.hn) hst (lv_room hcat) d (by rw [C.hR]; exact hf)
theorem z_runN (C : CX E cc own nL rm) {y : MethodName} {host : String} {b : ByteArray} {maxL : Nat} {ret : Option FieldType} {rm' : Room} {As st0 : List Value} {o : String ⊕ Option Value} {S' : St} {idx nargs : Nat} (hM : MX (e_l E) n G (e_D E) (e_k E) a y b maxL ret rm' As S o S') (hC : CallNok own idx y host b maxL ret nargs) (hn : As.length = nargs) (hst : st0 = As.reverse ++ stk) (hcat : (stk.map fun v => v.category).sum ≤ 8) (hR : rm'.frames + 1 ≤ rm.frames ∧ 8 + (maxL + 11) + rm'.locals ≤ rm.locals) (hf : cells + rm'.cells ≤ rm.cells ∧ slots + rm'.slots ≤ rm.slots) (d : decode cc pc = .ok (.invokestatic idx, 3)) {H : Heap} {locs : List Loc} {ls : Array Slot} (hW : WG n G E a S H locs) (hl : lv_has ls (e_n E) loc) :
    vx_Run (e_p E) (e_l E) (e_e E) (e_R E) (e_s E) (e_m E) (e_a E) (e_b E) (e_h E) (e_c E) H locs cells slots rm'.cells rm'.slots (F0 (e_m E) pc ls st0) stk (QCg n G (e_D E) (e_k E) a (aA a n H.size) o S' As.toArray) (XCg n G (e_D E) (e_k E) a (aA a n H.size) o S') (aA a n H.size) := by
  obtain ⟨h1, h2, h4, h5, h6⟩ := hC
  exact vx_runSN (As := As) (rest := stk) ⟨C.1, C.2.1, C.2.2.1, C.ho, C.ht⟩ (hM H.size) ⟨va_cnB nargs C.ht (gi_bg (gi_code h5)) rfl rfl rfl (C.hK.2.1 _ h1) (C.ht _ h4) h6 (by rw [C.hR]; exact hR), C.ht _ h2, trivial⟩
    ⟨PreG_blind, fun U hU hWm => ⟨rfl, by rw [hU], by rw [hU]; exact hW.1, ⟨hW.2.1.1, fun _ _ _ => trivial⟩, KK.step C.hK hW.2.2 (z_pre C hW) hU hWm⟩⟩ rfl hn (hl.1.trans C.hn) hst (lv_room hcat) d (by rw [C.hR]; exact hf)
end ZC
section ZD
variable {E : ET} {cc : ByteArray} {own : String} {nL : Nat} {rm : Room} {cells slots pc : Nat} {loc : List (Nat × Value)} {stk : List Value} {n : Nat} {G : GT} {a : Nat → Nat} {S : St}
/-- a call that returns (v), or throws (x) -/
theorem z_callV {c1 s1 : Nat} {y : MethodName} {b : ByteArray} {maxL : Nat} {ret : Option FieldType} {rm' : Room} (As : List Value) {st0 st1 : List Value} {v : Option Value} {S' : St} {k ci idx nargs : Nat} {fs : List Value} {T : u_T} {N : Nat} (C : CX E cc own nL rm) (hM : MX (e_l E) n G (e_D E) (e_k E) a y b maxL ret rm' (.ref (a k) :: As) S (.inr v) S') (hC : CallVok own idx y b maxL ret nargs) (hk : k < n) (hG : G (e_k E) a (S.1 k) (S.2 k) k = .inr (ci, fs)) (hc : vwCl[ci]? = some (y.cls, T, N)) (hn : As.length = nargs) (hst : st0 = As.reverse ++ .ref (a k) :: stk) (hs : v.toList ++ stk = st1) (hcat : (stk.map fun v => v.category).sum ≤ 8) (hR : rm'.frames + 1 ≤ rm.frames ∧ 8 + (maxL + 11) + rm'.locals ≤ rm.locals) (hf : cells + rm'.cells ≤ rm.cells ∧ slots + rm'.slots ≤ rm.slots) (d : decode cc pc = .ok (.invokevirtual idx, 3))
    (h1 : cells + rm'.cells = c1) (h2 : slots + rm'.slots = s1) (kk : Zz E (WG n G E a S') c1 s1 (pc + 3) loc st1) : Zz E (WG n G E a S) cells slots pc loc st0 := fun H locs ls hW hl => by
  subst h1
  subst h2
  exact z_fin_ok C hW hl (z_runV C hM hC hk hG hc hn hst hcat hR hf d hW hl) rfl hs kk
theorem z_callVx {y : MethodName} {b : ByteArray} {maxL : Nat} {ret : Option FieldType} {rm' : Room} (As : List Value) {st0 : List Value} {x : String} {S' S2 : St} {o' : String ⊕ Option Value} {k ci idx nargs : Nat} {fs : List Value} {T : u_T} {N : Nat} (C : CX E cc own nL rm) (hM : MX (e_l E) n G (e_D E) (e_k E) a y b maxL ret rm' (.ref (a k) :: As) S (.inl x) S') (hC : CallVok own idx y b maxL ret nargs) (hk : k < n) (hG : G (e_k E) a (S.1 k) (S.2 k) k = .inr (ci, fs)) (hc : vwCl[ci]? = some (y.cls, T, N)) (hn : As.length = nargs) (hst : st0 = As.reverse ++ .ref (a k) :: stk) (hcat : (stk.map fun v => v.category).sum ≤ 8) (hR : rm'.frames + 1 ≤ rm.frames ∧ 8 + (maxL + 11) + rm'.locals ≤ rm.locals) (hf : cells + rm'.cells ≤ rm.cells ∧ slots + rm'.slots ≤ rm.slots) (d : decode cc pc = .ok (.invokevirtual idx, 3))
    (hQ : QX E n G a o' S2) (ho' : o' = .inl x) (es : S2 = S') : Zz E (WG n G E a S) cells slots pc loc st0 := fun H locs ls hW hl =>
  z_fin_ex C hW (z_runV C hM hC hk hG hc hn hst hcat hR hf d hW hl) rfl hQ ho' es (by rw [C.hR]; exact hf.1) (by rw [C.hR]; exact hf.2)
theorem z_callS {c1 s1 : Nat} {y : MethodName} {b : ByteArray} {maxL : Nat} {ret : Option FieldType} {rm' : Room} (As : List Value) {st0 st1 : List Value} {v : Option Value} {S' : St} {idx nargs : Nat} (C : CX E cc own nL rm) (hM : MX (e_l E) n G (e_D E) (e_k E) a y b maxL ret rm' As S (.inr v) S') (hC : CallSok own idx y b maxL ret nargs) (hy : y.cls = own) (hn : As.length = nargs) (hst : st0 = As.reverse ++ stk) (hs : v.toList ++ stk = st1) (hcat : (stk.map fun v => v.category).sum ≤ 8) (hR : rm'.frames + 1 ≤ rm.frames ∧ 8 + (maxL + 11) + rm'.locals ≤ rm.locals) (hf : cells + rm'.cells ≤ rm.cells ∧ slots + rm'.slots ≤ rm.slots) (d : decode cc pc = .ok (.invokestatic idx, 3))
    (h1 : cells + rm'.cells = c1) (h2 : slots + rm'.slots = s1) (kk : Zz E (WG n G E a S') c1 s1 (pc + 3) loc st1) : Zz E (WG n G E a S) cells slots pc loc st0 := fun H locs ls hW hl => by
  subst h1
  subst h2
  exact z_fin_ok C hW hl (z_runS C hM hC hy hn hst hcat hR hf d hW hl) rfl hs kk
theorem z_callSx {y : MethodName} {b : ByteArray} {maxL : Nat} {ret : Option FieldType} {rm' : Room} (As : List Value) {st0 : List Value} {x : String} {S' S2 : St} {o' : String ⊕ Option Value} {idx nargs : Nat} (C : CX E cc own nL rm) (hM : MX (e_l E) n G (e_D E) (e_k E) a y b maxL ret rm' As S (.inl x) S') (hC : CallSok own idx y b maxL ret nargs) (hy : y.cls = own) (hn : As.length = nargs) (hst : st0 = As.reverse ++ stk) (hcat : (stk.map fun v => v.category).sum ≤ 8) (hR : rm'.frames + 1 ≤ rm.frames ∧ 8 + (maxL + 11) + rm'.locals ≤ rm.locals) (hf : cells + rm'.cells ≤ rm.cells ∧ slots + rm'.slots ≤ rm.slots) (d : decode cc pc = .ok (.invokestatic idx, 3))
    (hQ : QX E n G a o' S2) (ho' : o' = .inl x) (es : S2 = S') : Zz E (WG n G E a S) cells slots pc loc st0 := fun H locs ls hW hl =>
  z_fin_ex C hW (z_runS C hM hC hy hn hst hcat hR hf d hW hl) rfl hQ ho' es (by rw [C.hR]; exact hf.1) (by rw [C.hR]; exact hf.2)
theorem z_callN {c1 s1 : Nat} {y : MethodName} {host : String} {b : ByteArray} {maxL : Nat} {ret : Option FieldType} {rm' : Room} (As : List Value) {st0 st1 : List Value} {v : Option Value} {S' : St} {idx nargs : Nat} (C : CX E cc own nL rm) (hM : MX (e_l E) n G (e_D E) (e_k E) a y b maxL ret rm' As S (.inr v) S') (hC : CallNok own idx y host b maxL ret nargs) (hn : As.length = nargs) (hst : st0 = As.reverse ++ stk) (hs : v.toList ++ stk = st1) (hcat : (stk.map fun v => v.category).sum ≤ 8) (hR : rm'.frames + 1 ≤ rm.frames ∧ 8 + (maxL + 11) + rm'.locals ≤ rm.locals) (hf : cells + rm'.cells ≤ rm.cells ∧ slots + rm'.slots ≤ rm.slots) (d : decode cc pc = .ok (.invokestatic idx, 3))
    (h1 : cells + rm'.cells = c1) (h2 : slots + rm'.slots = s1) (kk : Zz E (WG n G E a S') c1 s1 (pc + 3) loc st1) : Zz E (WG n G E a S) cells slots pc loc st0 := fun H locs ls hW hl => by
  subst h1
  subst h2
  exact z_fin_ok C hW hl (z_runN C hM hC hn hst hcat hR hf d hW hl) rfl hs kk
/-- the ends -/
theorem z_end (C : CX E cc own nL rm) {o : String ⊕ Option Value} {S' : St} {v : Option Value} (hQ : QX E n G a o S') (e : o = .inr v) (es : S' = S) (hc : cells ≤ rm.cells) (hs : slots ≤ rm.slots)
    (k : ∀ (H : Heap) (locs : List Loc) (ls : Array Slot), (∀ q ∈ locs, e_A E q.base) → (∀ t : State, t.heap = H → (e_s E).WarmedH t.vm → QCg n G (e_D E) (e_k E) a (e_A E) o S' (e_a E) (e_s E) (.returned v) t) → W (e_p E) (e_l E) (e_e E) (e_R E) (e_s E) (e_m E) (e_a E) (e_b E) (e_h E) (e_c E) H locs (e_R E).cells (e_R E).slots (MQ (e_b E) (QCg n G (e_D E) (e_k E) a (e_A E) o S') (e_a E) (e_s E) (e_R E).cells (e_R E).slots (e_A E)) (F0 (e_m E) pc ls stk)) : Zz E (WG n G E a S) cells slots pc loc stk := by
  intro H locs ls hW hl
  rw [show e_Q E = _ from hQ]
  refine W.widen (k := (e_R E).cells) (n := (e_R E).slots) (by rw [C.hR]; exact hc) (by rw [C.hR]; exact hs) (vx_ret ?_)
  exact k H locs ls hW.2.2.2.2 (fun t ht _ => ⟨⟨v, e, rfl, by rw [ht, es]; exact hW.1⟩, hW.2.2.F ht⟩)
theorem z_iret (C : CX E cc own nL rm) {o : String ⊕ Option Value} {S' : St} {v : Int32} {ty : FieldType} (hQ : QX E n G a o S') (hr : (e_h E).sig.returnType = some ty) (hn : narrow ty (.int v) = .int v) (d : decode cc pc = .ok (.ireturn, 1)) (e : o = .inr (some (.int v))) (es : S' = S) (hc : cells ≤ rm.cells) (hs : slots ≤ rm.slots) : Zz E (WG n G E a S) cells slots pc loc [.int v] :=
  z_end C hQ e es hc hs (fun _ _ _ hf hq => W.zret C.1 C.2.1 hr hn hq hf d C.hL)
theorem z_lret (C : CX E cc own nL rm) {o : String ⊕ Option Value} {S' : St} {v : Int64} (hQ : QX E n G a o S') (hr : (e_h E).sig.returnType = some .long) (d : decode cc pc = .ok (.lreturn, 1)) (e : o = .inr (some (.long v))) (es : S' = S) (hc : cells ≤ rm.cells) (hs : slots ≤ rm.slots) : Zz E (WG n G E a S) cells slots pc loc [.long v] :=
  z_end C hQ e es hc hs (fun _ _ _ hf hq => W.lret C.1 C.2.1 hr hq hf d C.hL)
theorem z_vret (C : CX E cc own nL rm) {o : String ⊕ Option Value} {S' : St} (hQ : QX E n G a o S') (hr : (e_h E).sig.returnType = none) (d : decode cc pc = .ok (.return_, 1)) (e : o = .inr none) (es : S' = S) (hc : cells ≤ rm.cells) (hs : slots ≤ rm.slots) : Zz E (WG n G E a S) cells slots pc loc [] :=
  z_end C hQ e es hc hs (fun _ _ _ hf hq => W.vret C.1 C.2.1 hr hq hf d C.hL)
theorem z_aret (C : CX E cc own nL rm) {o : String ⊕ Option Value} {S' : St} {k : Nat} {cn : String} (hQ : QX E n G a o S') (hr : (e_h E).sig.returnType = some (.object cn)) (d : decode cc pc = .ok (.areturn, 1)) (e : o = .inr (some (.ref (a k)))) (es : S' = S) (hc : cells ≤ rm.cells) (hs : slots ≤ rm.slots) : Zz E (WG n G E a S) cells slots pc loc [.ref (a k)] :=
  z_end C hQ e es hc hs (fun _ _ _ hf hq => W.aret C.1 C.2.1 hr (Or.inl ⟨_, rfl⟩) (Or.inr ⟨_, rfl⟩) hq hf d C.hL)
/-- the words of a throw in PressbrakeLane -/
def thrNs : List String := ["java/lang/RuntimeException", "java/lang/Exception"]
def ThrOk (x : String) (ik ic : Nat) : Prop := Bundle.fit x = true ∧ Cond.classLink RX8 ik x ∈ BG ∧ Cond.initialized x ∈ BG ∧ (∀ w ∈ (vx_atS RX8 ic x thrNs).filter goodWord, w ∈ BG) ∧ (∀ w ∈ (vx_atS RX8 ic x thrNs).filter (fun w => !goodWord w), w ∈ decls.map Cond.declares ++ thrXs.map (fun x => Cond.castable x x)) ∧ ∀ w ∈ Cond.classLink RX8 ik x :: Cond.initialized x :: vx_atS RX8 ic x thrNs, vx_ot w = true
theorem thr_ok (C : CX E cc own nL rm) {x : String} {ik ic : Nat} (h : ThrOk x ik ic) : ∀ w ∈ vx_atS RX8 ic x thrNs, w.before (e_a E) (e_s E) = true := by
  obtain ⟨-, -, -, h4, h5, -⟩ := h
  refine vx_hat (fun w hw => C.ht _ (h4 w hw)) h5 (fun w hw => ?_)
  rcases List.mem_append.mp hw with hw | hw
  · obtain ⟨y, hy, rfl⟩ := List.mem_map.mp hw
    exact va_Nw.use rfl (C.hK.2.2.2.1.1 y hy)
  · obtain ⟨y, hy, rfl⟩ := List.mem_map.mp hw
    exact va_Nw.use rfl (C.hK.2.2.2.1.2.1 y hy)
theorem z_thr (C : CX E cc RX8 nL rm) {x text : String} {ik is ic : Nat} {o : String ⊕ Option Value} {S' : St} (hQ : QX E n G a o S') (h : ThrOk x ik ic) (ht : (is, text) ∈ strs)
    (d0 : decode cc pc = .ok (.new ik, 3)) (d3 : decode cc (pc + 3) = .ok (.dup, 1)) (d4 : decode cc (pc + 4) = .ok (.ldc is, 2)) (d6 : decode cc (pc + 6) = .ok (.invokespecial ic, 3)) (d9 : decode cc (pc + 9) = .ok (.athrow, 1))
    (e : o = .inl x) (es : S' = S) (hfr : 5 < rm.frames) (hlo : (stk.map fun v => v.category).sum + 82 ≤ rm.locals) (hc : cells + 1 ≤ rm.cells) (hs : slots + 6 ≤ rm.slots) : Zz E (WG n G E a S) cells slots pc loc stk := by
  intro H locs ls hW hl
  obtain ⟨sa, hsa⟩ := C.hK.2.2.1 _ ht
  rw [show e_Q E = _ from hQ]
  exact vx_throwS (A := e_A E) (names := thrNs) C.1 C.2.1 C.hT C.ho h.1 (by decide +kernel) (C.ht _ h.2.1) (C.ht _ h.2.2.1) hsa (thr_ok C h) h.2.2.2.2.2 C.hK.2.2.2.2.1 C.hK.2.2.2.2.2 hW.2.2 (by rw [hl.1, C.hn, C.2.2.1]) d0 d3 d4 d6 d9 (fun z hz => (C.hX z hz).elim) (by rw [C.hR]; exact hfr) (by rw [C.hR]; exact hlo) (by rw [C.hR]; exact hc) (by rw [C.hR]; exact hs) C.hL
    (fun t _ hz hk => ⟨⟨e, by rw [es]; exact hW.1.kept (fun k q hq => hk q.1 (hW.1 k q hq).lt)⟩, ⟨Nat.le_trans hW.2.2.1 hz, fun q h1 h2 => by rw [hk q (Nat.lt_of_lt_of_le h1 hW.2.2.1)]; exact hW.2.2.2.1 q h1 h2⟩⟩) hW.2.2.2.2 (by rw [C.hR]; exact hc) (by rw [C.hR]; exact hs)
theorem z_thrW (C : CX E cc RX8 nL rm) {x text : String} {ik is ic : Nat} {o : String ⊕ Option Value} {S' : St} (hQ : QX E n G a o S') (h : ThrOk x ik ic) (ht : (is, text) ∈ strs)
    (d0 : decode cc pc = .ok (.new ik, 3)) (d3 : decode cc (pc + 3) = .ok (.dup, 1)) (d4 : decode cc (pc + 4) = .ok (.ldc_w is, 3)) (d7 : decode cc (pc + 7) = .ok (.invokespecial ic, 3)) (d10 : decode cc (pc + 10) = .ok (.athrow, 1))
    (e : o = .inl x) (es : S' = S) (hfr : 5 < rm.frames) (hlo : (stk.map fun v => v.category).sum + 82 ≤ rm.locals) (hc : cells + 1 ≤ rm.cells) (hs : slots + 6 ≤ rm.slots) : Zz E (WG n G E a S) cells slots pc loc stk := by
  intro H locs ls hW hl
  obtain ⟨sa, hsa⟩ := C.hK.2.2.1 _ ht
  rw [show e_Q E = _ from hQ]
  exact vx_throwSW (A := e_A E) (names := thrNs) C.1 C.2.1 C.hT C.ho h.1 (by decide +kernel) (C.ht _ h.2.1) (C.ht _ h.2.2.1) hsa (thr_ok C h) h.2.2.2.2.2 C.hK.2.2.2.2.1 C.hK.2.2.2.2.2 hW.2.2 (by rw [hl.1, C.hn, C.2.2.1]) d0 d3 d4 d7 d10 (fun z hz => (C.hX z hz).elim) (by rw [C.hR]; exact hfr) (by rw [C.hR]; exact hlo) (by rw [C.hR]; exact hc) (by rw [C.hR]; exact hs) C.hL
    (fun t _ hz hk => ⟨⟨e, by rw [es]; exact hW.1.kept (fun k q hq => hk q.1 (hW.1 k q hq).lt)⟩, ⟨Nat.le_trans hW.2.2.1 hz, fun q h1 h2 => by rw [hk q (Nat.lt_of_lt_of_le h1 hW.2.2.1)]; exact hW.2.2.2.1 q h1 h2⟩⟩) hW.2.2.2.2 (by rw [C.hR]; exact hc) (by rw [C.hR]; exact hs)
end ZD
theorem th_arg : ThrOk "java/lang/IllegalArgumentException" 66 70 := ⟨by decide +kernel, bw_5_16, bw_5_17, bx_arg, by decide +kernel, by decide +kernel⟩
theorem th_sta : ThrOk "java/lang/IllegalStateException" 77 81 := ⟨by decide +kernel, bw_5_18, bw_5_19, bx_sta, by decide +kernel, by decide +kernel⟩
theorem th_ind : ThrOk "java/lang/IndexOutOfBoundsException" 131 135 := ⟨by decide +kernel, bw_6_23, bw_7_0, bx_ind, by decide +kernel, by decide +kernel⟩
/-- a contract out of a walk of the body -/
theorem zm_entry {l : Launch} {n : Nat} {G : GT} {D : va_G} {cs : Nat → ClassId} {a : Nat → Nat} {y : MethodName} {b : ByteArray} {maxL : Nat} {ret : Option FieldType} {rm : Room} {av : List Value} {S : St} {o : String ⊕ Option Value} {S' : St} (loc0 : List (Nat × Value)) (hT : l.stackTraces = false) (hy : plainName y.cls = true) (hargs : (lg_sl av).length ≤ maxL) (hloc : lv_args 0 av = loc0)
    (body : ∀ E : ET, e_l E = l → e_D E = D → e_k E = cs → CX E b y.cls maxL rm → QX E n G a o S' → (e_h E).sig.returnType = ret → Zz E (WG n G E a S) 0 0 0 loc0 []) : MX l n G D cs a y b maxL ret rm av S o S' := by
  intro sz
  refine vx_ofW (cc := b) (maxL := maxL) (ret := ret) hy rfl ?_
  intro p e s m args below meth c s₁ B hml htab hv
  obtain ⟨rfl, hsz, hP, hD, hK⟩ := hv
  have hts : ∀ w ∈ (Cond.code y b maxL ret :: BG), w.before av.toArray s = true := atoms_spec (ws := Cond.code y b maxL ret :: BG) B.pre
  subst hsz
  have hl := lv_entry av hargs
  rw [hloc] at hl
  rw [lg_entry_eq]
  generalize hls : (lg_sl av ++ List.replicate (maxL - (lg_sl av).length) Slot.unset).toArray = ls at hl ⊢
  exact body ((p, l, e, rm), (s, m, av.toArray, below), (meth, c, maxL, vx_MQ below (QCg n G D cs a (aA a n s.heap.size) o S') (XCg n G D cs a (aA a n s.heap.size) o S') av.toArray s rm.cells rm.slots (aA a n s.heap.size)), (D, cs, aA a n s.heap.size)) rfl rfl rfl
    ⟨B.exec, B.bytes, hml, rfl, rfl, findClass_of_methodNamed B.named, fun w hw => hts w (List.mem_cons_of_mem _ hw), hK, fun q h => Or.inr h, hT, htab, B.notSynchronized⟩ rfl B.returns s.heap [] ls ⟨hP, wC_Dw hD, va_S.rf⟩ hl
