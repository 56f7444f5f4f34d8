/-! ===== building a world: constructors (sections VXIA to VXID begun from kit/laws/EXCEPTIONS.to-paste) ===== -/
section VXIA
variable {p : Program} {l : Launch} {e : Env} {R : Room} {s : State} {m : MethodId} {args : Array Value} {below : List Frame} {meth : Method} {c : Code} {T : State} {locs : List Loc} {cells slots : Nat}
theorem vx_callI (X : Stand p l e R s m args below meth c T locs cells slots) (hexec : p.tables.exec = Jvm.exec) {own : String} {index : Nat} {y : MethodName} {bytes : ByteArray} {maxL : Nat}
    (hown : s.vm.findClass own = some m.cls) (hy1 : y.name = "<init>") (hlink : (Cond.methodLink own index y).before args s = true) (hinst : (Cond.instanceMethod y).before args s = true)
    (hcode : (Cond.code y bytes maxL none).before args s = true) (hy : y.cls ≠ "java/lang/invoke/MethodHandle" ∧ y.cls ≠ "java/lang/invoke/VarHandle")
    {W9 : Nat} {Pre : Pt → Array Value → Prop} {Post : Pt → Array Value → Option Value → Pt → Prop} {PostX : Pt → Array Value → Addr → Pt → Prop} (hK : vx_Back l R p e below s args y 3 W9 Pre Post PostX)
    {g : JFrame} (hg : g.method = m) (hsize : g.locals.size = c.maxLocals) {a : Addr} {argsL rest : List Value} (hlen : ∀ sig, parseMethodDescriptor y.desc = some sig → argsL.length = sig.parameters.length)
    (hstack : g.stack = argsL.reverse ++ .ref a :: rest) (hW : 2 * g.monitorRoom + (rest.map fun v => v.category).sum ≤ W9) (hdg : decode c.code g.pc = .ok (.invokespecial index, 3))
    (hpre : ∀ vm₁, s.WarmedH vm₁ → Pre ⟨T.setVm vm₁, locs, cells, slots⟩ (Value.ref a :: argsL).toArray) :
    (∃ (v : Option Value) (vm₁ : Vm) (B : Pt), s.WarmedH vm₁ ∧ Stand p l e R s m args below meth c B.U B.locs B.cells B.slots ∧ Post ⟨T.setVm vm₁, locs, cells, slots⟩ (Value.ref a :: argsL).toArray v B ∧
      ∀ target, Steps p.tables e below (B.U.setTop { g with pc := g.pc + 3, stack := v.toList ++ rest }) target → Steps p.tables e below (T.setTop g) target) ∨
    (∃ (q : Addr) (vm₁ : Vm) (B : Pt), s.WarmedH vm₁ ∧ Stand p l e R s m args below meth c B.U B.locs B.cells B.slots ∧ PostX ⟨T.setVm vm₁, locs, cells, slots⟩ (Value.ref a :: argsL).toArray q B ∧
      Steps p.tables e below (T.setTop g) ((B.U.setTop { g with stack := rest }).pushFrame (.throwing q))) := by
  subst hg
  have hpl : e.platform.magicAccessors = ({} : Platform).magicAccessors := by rw [X.admits.platform]
  obtain ⟨mk, methM, cM, kP, vm₁, hnamed, hmethM, hcodeM, -, hlocalsM, -, hkP, -, hW₁, hstep₁⟩ := Steps.initColdArgs (e := e) X.here hexec X.warmed hpl hown hy1 hy hlink hinst hcode (f := g) rfl hlen hstack hdg
  have X₁ := X.noted hW₁
  rcases hK g.method meth c ⟨T.setVm vm₁, locs, cells, slots⟩ { g with stack := rest } (.invokespecial index) mk (Value.ref a :: argsL).toArray X₁ rfl hsize hdg hW (X₁.named hnamed) (hpre vm₁ X₁.warmed) with ⟨v, B, X', hpost, hsteps⟩ | ⟨q, B, X', hpost, hsteps⟩
  · exact Or.inl ⟨v, vm₁, B, X₁.warmed, X', hpost, fun target h => hstep₁ _ fun acts => by rw [doInvoke_state]; exact hsteps.trans h⟩
  · exact Or.inr ⟨q, vm₁, B, X₁.warmed, X', hpost, hstep₁ _ fun acts => by rw [doInvoke_state]; exact hsteps⟩
end VXIA
section VXIB
variable {p : Program} {l : Launch} {e : Env} {R : Room} {s : State} {m : MethodId} {args : Array Value} {below : List Frame} {meth : Method} {c : Code} {H : Heap} {locs : List Loc} {cells slots : Nat}
variable {y : MethodName} {bytes cc : ByteArray} {maxL nL mc ms n index : Nat} {ret : Option FieldType} {ws : List Cond} {rm : Room} {Pc : Array Value → State → Prop} {Qc : Array Value → State → Outcome → State → Prop} {XC : String → State → State → Prop} {free : Addr → Prop} {Ts : List Cond} {own C : String} {b : Addr} {As rest : List Value} {g : JFrame}
theorem vx_runI (S : CallFix p m c cc nL s args Ts own) (hM : vx_Met l y ws rm Pc Qc XC mc ms free) (cw : CallB R s args own index y bytes maxL none ws rm mc ms n ∧ y.name = "<init>" ∧ (Cond.instanceMethod y).before args s = true) (hp : PreS s H Pc (.ref b :: As))
    (hg : g.method = m) (hn : As.length = n) (hsize : g.locals.size = nL) (hstack : g.stack = As.reverse ++ .ref b :: rest) (hW : 2 * g.monitorRoom + (rest.map fun v => v.category).sum ≤ 8) (hdg : decode cc g.pc = .ok (.invokespecial index, 3)) (hf : cells + mc ≤ R.cells ∧ slots + ms ≤ R.slots) :
    vx_Run p l e R s m args below meth c H locs cells slots mc ms g rest (Qc (Value.ref b :: As).toArray) XC free := by
  have hK : vx_Back l R p e below s args y 3 8 (PreOf R mc ms Pc) (PostOf Qc mc ms free) (vx_Post XC mc ms free) := vx_callBack cw.1 hM hp.1
  obtain ⟨⟨-, -, -, -, -, -, hcode, -, hy, hlen, hl⟩, hy1, hin⟩ := cw
  obtain ⟨hx, hb, hml, ho, -⟩ := S
  have hPc := hp.2
  intro T hT X
  rcases vx_callI X hx (bytes := bytes) (maxL := maxL) ho hy1 hl hin hcode hy hK hg (hsize.trans hml.symm) (a := b) (argsL := As) (rest := rest) (fun sig h => hn.trans (hlen sig h)) hstack hW (by rw [hb]; exact hdg)
    (fun vm₁ hW₁ => ⟨hf.1, hf.2, hPc (T.setVm vm₁) hT hW₁⟩) with ⟨v, vm₁, ⟨U', l2, c2, s2⟩, hW₁, X', ⟨g', mk, t, L, e1, e2, hq, h1, hL, h2, h3⟩, st⟩ | ⟨q, vm₁, ⟨U', l2, c2, s2⟩, hW₁, X', ⟨g', mk, t, L, E, ce, e1, e2, hq, hce, hcv, hcl, h1, hL, h2, h3⟩, st⟩
  · dsimp only [Pt.U, Pt.locs, Pt.cells, Pt.slots] at X' e1 e2 h1 h2 h3 st
    subst h1; subst h2; subst h3
    exact Or.inl ⟨v, (T.setVm vm₁).calling g' mk (Value.ref b :: As).toArray, t, U', L, hT, X', hL, e1, e2, hq, st⟩
  · dsimp only [Pt.U, Pt.locs, Pt.cells, Pt.slots] at X' e1 e2 h1 h2 h3 st hcl
    subst h1; subst h2; subst h3
    exact Or.inr ⟨q, (T.setVm vm₁).calling g' mk (Value.ref b :: As).toArray, t, U', L, E, ce, hT, X', hL, e1, e2, hq, hce, hcv, vx_cls hW₁ hcl, st⟩
end VXIB
section VXIC
variable {p : Program} {l : Launch} {e : Env} {R : Room} {s : State} {m : MethodId} {args : Array Value} {below : List Frame} {meth : Method} {c : Code} {T : State} {locs : List Loc} {cells slots : Nat}
theorem vx_callIN (X : Stand p l e R s m args below meth c T locs cells slots) (hexec : p.tables.exec = Jvm.exec) {own : String} {index : Nat} {host : String} {y : MethodName} {bytes : ByteArray} {maxL : Nat}
    (hown : s.vm.findClass own = some m.cls) (hy1 : y.name = "<init>") (hlink : (Cond.methodLinkNest own index y host).before args s = true) (hinst : (Cond.instanceMethod y).before args s = true)
    (hcode : (Cond.code y bytes maxL none).before args s = true) (hy : y.cls ≠ "java/lang/invoke/MethodHandle" ∧ y.cls ≠ "java/lang/invoke/VarHandle")
    {W9 : Nat} {Pre : Pt → Array Value → Prop} {Post : Pt → Array Value → Option Value → Pt → Prop} {PostX : Pt → Array Value → Addr → Pt → Prop} (hK : vx_Back l R p e below s args y 3 W9 Pre Post PostX)
    {g : JFrame} (hg : g.method = m) (hsize : g.locals.size = c.maxLocals) {a : Addr} {argsL rest : List Value} (hlen : ∀ sig, parseMethodDescriptor y.desc = some sig → argsL.length = sig.parameters.length)
    (hstack : g.stack = argsL.reverse ++ .ref a :: rest) (hW : 2 * g.monitorRoom + (rest.map fun v => v.category).sum ≤ W9) (hdg : decode c.code g.pc = .ok (.invokespecial index, 3))
    (hpre : ∀ vm₁, s.WarmedH vm₁ → Pre ⟨T.setVm vm₁, locs, cells, slots⟩ (Value.ref a :: argsL).toArray) :
    (∃ (v : Option Value) (vm₁ : Vm) (B : Pt), s.WarmedH vm₁ ∧ Stand p l e R s m args below meth c B.U B.locs B.cells B.slots ∧ Post ⟨T.setVm vm₁, locs, cells, slots⟩ (Value.ref a :: argsL).toArray v B ∧
      ∀ target, Steps p.tables e below (B.U.setTop { g with pc := g.pc + 3, stack := v.toList ++ rest }) target → Steps p.tables e below (T.setTop g) target) ∨
    (∃ (q : Addr) (vm₁ : Vm) (B : Pt), s.WarmedH vm₁ ∧ Stand p l e R s m args below meth c B.U B.locs B.cells B.slots ∧ PostX ⟨T.setVm vm₁, locs, cells, slots⟩ (Value.ref a :: argsL).toArray q B ∧
      Steps p.tables e below (T.setTop g) ((B.U.setTop { g with stack := rest }).pushFrame (.throwing q))) := by
  subst hg
  have hpl : e.platform.magicAccessors = ({} : Platform).magicAccessors := by rw [X.admits.platform]
  obtain ⟨mk, methM, cM, kP, vm₁, hnamed, hmethM, hcodeM, -, hlocalsM, -, hkP, -, hW₁, hstep₁⟩ := Steps.initColdArgsNest (e := e) X.here hexec X.warmed hpl hown hy1 hy hlink hinst hcode (f := g) rfl hlen hstack hdg
  have X₁ := X.noted hW₁
  rcases hK g.method meth c ⟨T.setVm vm₁, locs, cells, slots⟩ { g with stack := rest } (.invokespecial index) mk (Value.ref a :: argsL).toArray X₁ rfl hsize hdg hW (X₁.named hnamed) (hpre vm₁ X₁.warmed) with ⟨v, B, X', hpost, hsteps⟩ | ⟨q, B, X', hpost, hsteps⟩
  · exact Or.inl ⟨v, vm₁, B, X₁.warmed, X', hpost, fun target h => hstep₁ _ fun acts => by rw [doInvoke_state]; exact hsteps.trans h⟩
  · exact Or.inr ⟨q, vm₁, B, X₁.warmed, X', hpost, hstep₁ _ fun acts => by rw [doInvoke_state]; exact hsteps⟩
end VXIC
section VXID
variable {p : Program} {l : Launch} {e : Env} {R : Room} {s : State} {m : MethodId} {args : Array Value} {below : List Frame} {meth : Method} {c : Code} {H : Heap} {locs : List Loc} {cells slots : Nat}
theorem vx_runIN {y : MethodName} {bytes cc : ByteArray} {maxL nL mc ms n index : Nat} {ws : List Cond} {rm : Room} {Pc : Array Value → State → Prop} {Qc : Array Value → State → Outcome → State → Prop} {XC : String → State → State → Prop} {free : Addr → Prop} {Ts : List Cond} {own host : String} {b : Addr} {As rest : List Value} {g : JFrame}
    (S : CallFix p m c cc nL s args Ts own) (hM : vx_Met l y ws rm Pc Qc XC mc ms free) (cw : va_CN R s args own index y host bytes maxL none ws rm mc ms n ∧ y.name = "<init>" ∧ (Cond.instanceMethod y).before args s = true) (hp : PreS s H Pc (.ref b :: As))
    (hg : g.method = m) (hn : As.length = n) (hsize : g.locals.size = nL) (hstack : g.stack = As.reverse ++ .ref b :: rest) (hW : 2 * g.monitorRoom + (rest.map fun v => v.category).sum ≤ 8) (hdg : decode cc g.pc = .ok (.invokespecial index, 3)) (hf : cells + mc ≤ R.cells ∧ slots + ms ≤ R.slots) :
    vx_Run p l e R s m args below meth c H locs cells slots mc ms g rest (Qc (Value.ref b :: As).toArray) XC free := by
  obtain ⟨⟨⟨hrc, hrs, hfr, hlo, hws, hcw⟩, hcode, hini, hy, hlen, hl⟩, hx1, hx2⟩ := cw
  have hK : vx_Back l R p e below s args y 3 8 (PreOf R mc ms Pc) (PostOf Qc mc ms free) (vx_Post XC mc ms free) := vx_back (bytes := bytes) (maxL := maxL) (ret := none) hM hp.1 hrc hrs hfr hlo hws hcw (fun a' U hW => word_at hW (Or.inl (by first | rfl | simp [Cond.onTables, Cond.keeps, Cond.steady])) hini)
  obtain ⟨hx, hb, hml, ho, -⟩ := S
  have hPc := hp.2
  intro T hT X
  rcases vx_callIN X hx (bytes := bytes) (maxL := maxL) ho hx1 hl hx2 hcode hy hK hg (hsize.trans hml.symm) (a := b) (argsL := As) (rest := rest) (fun sig h => hn.trans (hlen sig h)) hstack hW (by rw [hb]; exact hdg)
    (fun vm₁ hW₁ => ⟨hf.1, hf.2, hPc (T.setVm vm₁) hT hW₁⟩) with ⟨v, vm₁, ⟨U', l2, c2, s2⟩, hW₁, X', ⟨g', mk, t, L, e1, e2, hq, h1, hL, h2, h3⟩, st⟩ | ⟨q, vm₁, ⟨U', l2, c2, s2⟩, hW₁, X', ⟨g', mk, t, L, E, ce, e1, e2, hq, hce, hcv, hcl, h1, hL, h2, h3⟩, st⟩
  · dsimp only [Pt.U, Pt.locs, Pt.cells, Pt.slots] at X' e1 e2 h1 h2 h3 st
    subst h1; subst h2; subst h3
    exact Or.inl ⟨v, (T.setVm vm₁).calling g' mk (Value.ref b :: As).toArray, t, U', L, hT, X', hL, e1, e2, hq, st⟩
  · dsimp only [Pt.U, Pt.locs, Pt.cells, Pt.slots] at X' e1 e2 h1 h2 h3 st hcl
    subst h1; subst h2; subst h3
    exact Or.inr ⟨q, (T.setVm vm₁).calling g' mk (Value.ref b :: As).toArray, t, U', L, E, ce, hT, X', hL, e1, e2, hq, hce, hcv, vx_cls hW₁ hcl, st⟩
end VXID
/-- n cells, one behind the other from h0 on -/
def wE (n h0 : Nat) (X : Nat → va_E) : va_W := (List.range n).map (fun k => (h0 + k, X k))
theorem wE_at {n h0 : Nat} {X : Nat → va_E} {k : Nat} (h : k < n) : (wE n h0 X)[k]? = some (h0 + k, X k) := by
  rw [wE, List.getElem?_map, List.getElem?_range h]; rfl
theorem wE_no {n h0 : Nat} {X : Nat → va_E} {k : Nat} (h : ¬ k < n) : (wE n h0 X)[k]? = none := by
  apply List.getElem?_eq_none
  rw [wE, List.length_map, List.length_range]; omega
theorem wE_some {n h0 : Nat} {X : Nat → va_E} {k : Nat} {q : Nat × va_E} (h : (wE n h0 X)[k]? = some q) : k < n ∧ q = (h0 + k, X k) := by
  by_cases hk : k < n
  · rw [wE_at hk] at h; exact ⟨hk, (Option.some.inj h).symm⟩
  · rw [wE_no hk] at h; cases h
theorem wE_len {n h0 : Nat} {X : Nat → va_E} : (wE n h0 X).length = n := by rw [wE, List.length_map, List.length_range]
theorem wE_congr {n h0 : Nat} {X Y : Nat → va_E} (h : ∀ k, k < n → X k = Y k) : wE n h0 X = wE n h0 Y := by
  apply List.ext_getElem?
  intro k
  by_cases hk : k < n
  · rw [wE_at hk, wE_at hk, h k hk]
  · rw [wE_no hk, wE_no hk]
theorem wE_push {n h0 : Nat} {X : Nat → va_E} {e : va_E} : wE n h0 X ++ [(h0 + n, e)] = wE (n + 1) h0 (va_up X n e) := by
  apply List.ext_getElem?
  intro k
  by_cases hk : k < n
  · rw [List.getElem?_append_left (by rw [wE_len]; exact hk), wE_at hk, wE_at (by omega), va_up_ne _ _ (by omega)]
  · rw [List.getElem?_append_right (by rw [wE_len]; omega), wE_len]
    by_cases hk2 : k = n
    · subst hk2
      rw [Nat.sub_self, wE_at (by omega), va_up_self]
      rfl
    · rw [wE_no (by omega), List.getElem?_eq_none (by simp; omega)]
theorem wE_set {n h0 : Nat} {X : Nat → va_E} {k : Nat} {e : va_E} (hk : k < n) : (wE n h0 X).set k (h0 + k, e) = wE n h0 (va_up X k e) := by
  apply List.ext_getElem?
  intro j
  by_cases hj : j = k
  · subst hj
    rw [List.getElem?_set_self (by rw [wE_len]; exact hk), wE_at hk, va_up_self]
  · rw [List.getElem?_set_ne (Ne.symm hj)]
    by_cases hn : j < n
    · rw [wE_at hn, wE_at hn, va_up_ne _ _ hj]
    · rw [wE_no hn, wE_no hn]
theorem wE_D {n h0 : Nat} {X : Nat → va_E} {A : Nat → Prop} (h : ∀ k, k < n → A (h0 + k)) : va_D A (wE n h0 X) := by
  refine ⟨fun i j p q hi hj e => ?_, fun k q hk => ?_⟩
  · obtain ⟨h1, rfl⟩ := wE_some hi
    obtain ⟨h2, rfl⟩ := wE_some hj
    have e2 : h0 + i = h0 + j := e
    omega
  · obtain ⟨h1, rfl⟩ := wE_some hk
    exact h k h1
def WE (E : ET) (n h0 : Nat) (X : Nat → va_E) : Heap → List Loc → Prop := fun H locs =>
  va_P (e_D E) vwCl (wE n h0 X) H ∧ va_S (e_A E) (e_s E).heap H locs ∧ H.size = h0 + n
/-- what a constructor may change: the world's cells, and what is new -/
def CB (E : ET) (h0 : Nat) : Prop := e_A E = fun q => h0 ≤ q
section ZB
variable {E : ET} {cc : ByteArray} {own : String} {nL : Nat} {rm : Room} {cells slots pc : Nat} {loc : List (Nat × Value)} {stk : List Value} {n h0 : Nat} {X : Nat → va_E}
theorem CB.D (hB : CB E h0) : va_D (e_A E) (wE n h0 X) := wE_D (fun k _ => by rw [show e_A E = _ from hB]; exact Nat.le_add_right _ _)
theorem zb_congr {Y : Nat → va_E} (h : ∀ k, k < n → X k = Y k) (k : Zz E (WE E n h0 Y) cells slots pc loc stk) : Zz E (WE E n h0 X) cells slots pc loc stk := fun H locs ls hP hl => k H locs ls ⟨by rw [← wE_congr h]; exact hP.1, hP.2⟩ hl
theorem zb_new (C : CX E cc own nL rm) (hB : CB E h0) {Cn : String} {T : u_T} {N ci index c1 s1 : Nat} (hin : ∀ w ∈ u_ws Cn T N, w ∈ BG) (ty : Nat → FieldType) (hty : ∀ k, k < N → parseFieldDescriptor (T k).2.2.1 = some (ty k)) (hcl : Cond.classLink own index Cn ∈ BG) (hinst : Cond.instantiable Cn N ∈ BG) (hini : Cond.initialized Cn ∈ BG) (hc : vwCl[ci]? = some (Cn, T, N)) {fs : List Value} (hfs : ∀ j, j < N → defaultValue (ty j) = vp_V fs j) (h1 : cells + 1 = c1) (h2 : slots + N = s1) (hcells : c1 ≤ rm.cells) (hslots : s1 ≤ rm.slots) (d : decode cc pc = .ok (.new index, 3))
    (kk : Zz E (WE E (n + 1) h0 (va_up X n (.inr (ci, fs)))) c1 s1 (pc + 3) loc (.ref (h0 + n) :: stk)) : Zz E (WE E n h0 X) cells slots pc loc stk := fun H locs ls hP hl => by
  subst h1
  subst h2
  have hKn := C.hK.1.1 ci _ hc
  have hA := C.hA
  refine W.newcK C.1 C.2.1 C.ho (C.ht _ hcl) (C.ht _ hinst) (C.ht _ hini) rfl d (by rw [C.hR]; exact hcells) (by rw [C.hR]; exact hslots) hKn.2.1 rfl fun H1 kC hkC e1 z1 o1 => ?_
  have hk : ∀ (k : Nat) (x : Nat × va_E), (wE n h0 X)[k]? = some x → H1[x.1]? = H[x.1]? := fun k x hx => o1 x.1 ((hP.1 k x hx).lt)
  rw [hP.2.2]
  refine kk H1 locs ls ⟨?_, ⟨Nat.le_trans hP.2.1.1 (by omega), fun x h1 h2 => (o1 x (Nat.lt_of_lt_of_le h1 hP.2.1.1)).trans (hP.2.1.2.1 x h1 h2), hP.2.1.2.2⟩, by rw [z1, hP.2.2]; omega⟩ hl
  rw [← wE_push]
  refine (hP.1.kept hk).app (fun k x hx => ?_)
  have hz : k < 1 := (List.getElem?_eq_some_iff.mp hx).1
  rw [show k = 0 by omega] at hx
  cases hx
  rw [hP.2.2] at e1
  exact ⟨_, hc, (u_born ty C.ht hin hKn hkC e1 hty).to hfs⟩
theorem zb_newi (C : CX E cc own nL rm) (hB : CB E h0) (harr : Cond.arrayClass .int ∈ BG) {v : Int32} {N c1 s1 : Nat} (hn : ¬ v < 0) (hN : v.toNatClampNeg = N) (hb : N ≤ 1000) (h1 : cells + 1 = c1) (h2 : slots + N = s1) (hcells : c1 ≤ rm.cells) (hslots : s1 ≤ rm.slots) (d : decode cc pc = .ok (.newarray .int, 2))
    (kk : Zz E (WE E (n + 1) h0 (va_up X n (.inl (e_k E 0, N, .inl (fun _ => 0))))) c1 s1 (pc + 2) loc (.ref (h0 + n) :: stk)) : Zz E (WE E n h0 X) cells slots pc loc (.int v :: stk) := fun H locs ls hP hl => by
  subst h1
  subst h2
  refine va_newaK (atype := .int) C.1 C.2.1 (C.ht _ harr) rfl d rfl hn hN (by show N * 4 ≤ _; omega) (by rw [C.hR]; exact hcells) (by rw [C.hR]; exact hslots) rfl fun H1 cA e1 z1 o1 hAr hNm => ?_
  have hcA : cA = e_k E 0 := by
    have h9 := (C.hK.1.2 0 (e_k E 0, .int) rfl).2
    exact Option.some.inj (hNm.symm.trans h9)
  subst hcA
  have hk : ∀ (k : Nat) (x : Nat × va_E), (wE n h0 X)[k]? = some x → H1[x.1]? = H[x.1]? := fun k x hx => o1 x.1 ((hP.1 k x hx).lt)
  rw [hP.2.2]
  refine kk H1 locs ls ⟨?_, ⟨Nat.le_trans hP.2.1.1 (by omega), fun x h1 h2 => (o1 x (Nat.lt_of_lt_of_le h1 hP.2.1.1)).trans (hP.2.1.2.1 x h1 h2), hP.2.1.2.2⟩, by rw [z1, hP.2.2]; omega⟩ hl
  rw [← wE_push]
  refine (hP.1.kept hk).app (fun k x hx => ?_)
  have hz : k < 1 := (List.getElem?_eq_some_iff.mp hx).1
  rw [show k = 0 by omega] at hx
  cases hx
  rw [hP.2.2] at e1
  exact e1
theorem zb_newq (C : CX E cc own nL rm) (hB : CB E h0) {Cn : String} {t index : Nat} (hcl : Cond.classLink own index Cn ∈ BG) (hao : Cn ∈ aoCs) (ht : (tysX (e_k E))[t]? = some (e_k E t, .object Cn)) {v : Int32} {N c1 s1 : Nat} (hn : ¬ v < 0) (hN : v.toNatClampNeg = N) (hb : N ≤ 1000) (h1 : cells + 1 = c1) (h2 : slots + N = s1) (hcells : c1 ≤ rm.cells) (hslots : s1 ≤ rm.slots) (d : decode cc pc = .ok (.anewarray index, 3))
    (kk : Zz E (WE E (n + 1) h0 (va_up X n (.inl (e_k E t, N, .inr (.inr (.inr (.inr (fun _ => none)))))))) c1 s1 (pc + 3) loc (.ref (h0 + n) :: stk)) : Zz E (WE E n h0 X) cells slots pc loc (.int v :: stk) := fun H locs ls hP hl => by
  subst h1
  subst h2
  subst hN
  refine W.anew C.1 C.2.1 C.ho (C.ht _ hcl) (va_AO.use (C.hK.2.2.2.1.2.2 _ hao)) rfl d rfl hn (by omega) (by rw [C.hR]; exact hcells) (by rw [C.hR]; exact hslots) fun cA kA comp f1 f2 f3 f4 => ?_
  have hcA : cA = e_k E t := by
    obtain ⟨k8, c8, -, -, -, h9⟩ := (C.hK.1.2 t (e_k E t, .object Cn) ht).2
    exact Option.some.inj (f1.symm.trans h9)
  subst hcA
  generalize hH1 : H.push ({ cls := e_k E t, slots := Array.replicate v.toNatClampNeg .null, vm := .none } : Cell) = H1
  have z1 : H1.size = H.size + 1 := by rw [← hH1, Array.size_push]
  have e1 : H1[H.size]? = some (arrV (e_k E t) v.toNatClampNeg (fun _ => .null)) := by rw [← hH1, Array.getElem?_push_size, ← arrV_new]
  have o1 : ∀ q : Nat, q < H.size → H1[q]? = H[q]? := fun q hq => by rw [← hH1, Array.getElem?_push, if_neg (Nat.ne_of_lt hq)]
  have hk : ∀ (k : Nat) (x : Nat × va_E), (wE n h0 X)[k]? = some x → H1[x.1]? = H[x.1]? := fun k x hx => o1 x.1 ((hP.1 k x hx).lt)
  rw [hP.2.2]
  refine kk H1 locs ls ⟨?_, ⟨Nat.le_trans hP.2.1.1 (by omega), fun x h1 h2 => (o1 x (Nat.lt_of_lt_of_le h1 hP.2.1.1)).trans (hP.2.1.2.1 x h1 h2), hP.2.1.2.2⟩, by rw [z1, hP.2.2]; omega⟩ hl
  rw [← wE_push]
  refine (hP.1.kept hk).app (fun k x hx => ?_)
  have hz : k < 1 := (List.getElem?_eq_some_iff.mp hx).1
  rw [show k = 0 by omega] at hx
  cases hx
  rw [hP.2.2] at e1
  exact e1
theorem zb_putF (C : CX E cc own nL rm) (hB : CB E h0) (hin2 : (e_h E).name = "<init>") {C' : String} {T : u_T} {N ci index k j : Nat} {fs : List Value} {v : Value} {ty : FieldType} (hk : k < n) (hG : X k = .inr (ci, fs)) (hin : ∀ w ∈ u_ws C' T N, w ∈ BG) (ty0 : Nat → FieldType) (hty : ∀ k, k < N → parseFieldDescriptor (T k).2.2.1 = some (ty0 k)) (hnm : ∀ a, a < N → ∀ b, b < N → a ≠ b → (T a).2.1 ≠ (T b).2.1) (hc : vwCl[ci]? = some (C', T, N)) (hj : j < N) (hlink : Cond.fieldLink own index (T j).1 (T j).2.1 (T j).2.2.1 ∈ BG) (hfin : (T j).2.2.2 = true) (hdecl : (T j).1 = own) (hd : parseFieldDescriptor (T j).2.2.1 = some ty) (hn : narrow ty v = v) (hfit : fits ty v = true) (hl : j < fs.length) (d : decode cc pc = .ok (.putfield index, 3))
    (kk : Zz E (WE E n h0 (va_up X k (.inr (ci, fs.set j v)))) cells slots (pc + 3) loc stk) : Zz E (WE E n h0 X) cells slots pc loc (v :: .ref (h0 + k) :: stk) := fun H locs ls hP hl' => by
  have hK := C.hK.1
  have hown := C.ho
  have hap := va_apart (own := own) C.ht hin ty0 hty hnm hK hc
  have he := wE_at (h0 := h0) (X := X) hk
  rw [hG] at he
  have hD : va_D (e_A E) (wE n h0 X) := hB.D
  obtain ⟨r, h1, cell, q1, q2, q3, q4⟩ := hP.1 k _ he
  have hr : r = (C', T, N) := Option.some.inj (h1.symm.trans hc)
  subst hr
  obtain ⟨hS, hfc, kC, hkC, hkind⟩ := hK.1 ci _ hc
  obtain ⟨cf, kf, fi, f, hi, hsl⟩ := hS j hj
  have hlay := C.ht _ (hin _ (u_in_lay hj))
  unfold u_lay at hlay
  rw [if_pos hfin] at hlay
  have hst := (u_facts hfc hkC (u_lays C.ht hin hj) hi).1
  have hcf : (e_m E).cls = cf := by
    obtain ⟨_, _, c', _, _, _, -, -, hf', -, -, -, hown2, -⟩ := Cond.laysFinal_spec hlay
    have e1 : c' = cf := by have := hi.symm.trans hf'; simp at this; exact this.1.symm
    rw [hdecl] at hown2
    rw [← e1]; exact Option.some.inj (hown.symm.trans hown2)
  have h6 := u_fits hfc hkC hkind (Or.inr hlay) hi hd hn hfit
  refine W.putFinK C.1 C.2.1 hown (C.ht _ hlink) hi hst hcf hin2 (by rw [q2]; exact h6) q1 q3 (by rw [hsl]; exact k2_hasslot (q4 j hj)) rfl rfl d fun H' e1 e2 e3 => ?_
  rw [hsl] at e1 ⊢
  have p1 := hP.1.set hD he (e := .inr (ci, fs.set j v)) ⟨_, hc, t_OB.to (V := updV (vp_V fs) j v) ⟨_, e1, q2, q3, t_set q4 hap hj v⟩ (fun i _ => vp_updV_set hl v i)⟩ e3
  rw [wE_set hk] at p1
  exact kk H' _ ls ⟨p1, hP.2.1.put e2 e3 (hD.2 k _ he), by rw [e2]; exact hP.2.2⟩ hl'
theorem zb_getf (C : CX E cc own nL rm) {C' : String} {T : u_T} {N ci index k j : Nat} {fs : List Value} {v : Value} (hk : k < n) (hG : X k = .inr (ci, fs)) (hin : ∀ w ∈ u_ws C' T N, w ∈ BG) (hc : vwCl[ci]? = some (C', T, N)) (hj : j < N) (hlink : Cond.fieldLink own index (T j).1 (T j).2.1 (T j).2.2.1 ∈ BG) (hv : fs[j]? = some v) (d : decode cc pc = .ok (.getfield index, 3)) (kk : Zz E (WE E n h0 X) cells slots (pc + 3) loc (v :: stk)) : Zz E (WE E n h0 X) cells slots pc loc (.ref (h0 + k) :: stk) := fun H locs ls hP hl =>
  va_get C.1 C.2.1 C.ht hin C.ho C.hK.1 hP.1 k (by rw [wE_at hk, hG]) hc j hj (C.ht _ hlink) (fun _ h => h) hv d (kk H locs ls hP hl)
theorem zb_iast (C : CX E cc own nL rm) (hB : CB E h0) {k len : Nat} {f : Nat → Int32} {i x : Int32} (hk : k < n) (hG : X k = .inl (e_k E 0, len, .inl f)) (hin : vp_in i len) (d : decode cc pc = .ok (.iastore, 1)) (kk : Zz E (WE E n h0 (va_up X k (.inl (e_k E 0, len, .inl (upd f i.toNatClampNeg x))))) cells slots (pc + 1) loc stk) : Zz E (WE E n h0 X) cells slots pc loc (.int x :: .int i :: .ref (h0 + k) :: stk) := fun H locs ls hP hl => by
  have he := wE_at (h0 := h0) (X := X) hk
  rw [hG] at he
  have hD : va_D (e_A E) (wE n h0 X) := hB.D
  refine W.iast C.1 C.2.1 (hP.1 k _ he) ((C.hK.1.2 0 (e_k E 0, .int) rfl).1 len (fun j => .int (f j))) (fun q => by cases q) (by show ¬ (i < 0 ∨ (arrV _ _ _).slots.size ≤ _); rw [arrV_size]; exact hin) rfl rfl d fun H1 e z oq => ?_
  have p1 := hP.1.set hD he (e := .inl (e_k E 0, len, .inl (upd f i.toNatClampNeg x))) (H1 := H1) (by
    show H1[h0 + k]? = some (vp_cell _ _)
    rw [e]
    rw [vp_cell_i, vp_cell_i, arrV_store]
    congr 2
    funext q
    by_cases hq : q = i.toNatClampNeg
    · subst hq
      simp [updV, upd]
    · simp [updV, upd, hq]) oq
  rw [wE_set hk] at p1
  exact kk H1 _ ls ⟨p1, hP.2.1.put z oq (hD.2 k _ he), by rw [z]; exact hP.2.2⟩ hl
theorem zb_aast (C : CX E cc own nL rm) (hB : CB E h0) {k len t ci k2 : Nat} {r : vw_C} {vs : List Value} {f : Nat → Option Nat} {i : Int32} (hk : k < n) (hG : X k = .inl (e_k E t, len, .inr (.inr (.inr (.inr f))))) (ht : (tysX (e_k E))[t]? = some (e_k E t, .object r.1)) (hk2 : k2 < n) (hG2 : X k2 = .inr (ci, vs)) (hc : vwCl[ci]? = some r) (hin : vp_in i len) (d : decode cc pc = .ok (.aastore, 1)) (kk : Zz E (WE E n h0 (va_up X k (.inl (e_k E t, len, .inr (.inr (.inr (.inr (va_up f i.toNatClampNeg (some (h0 + k2))))))))))  cells slots (pc + 1) loc stk) : Zz E (WE E n h0 X) cells slots pc loc (.ref (h0 + k2) :: .int i :: .ref (h0 + k) :: stk) := fun H locs ls hP hl => by
  have he := wE_at (h0 := h0) (X := X) hk
  rw [hG] at he
  have he2 := wE_at (h0 := h0) (X := X) hk2
  rw [hG2] at he2
  have hD : va_D (e_A E) (wE n h0 X) := hB.D
  have hK := C.hK.1
  have hlt : i.toNatClampNeg < len := Nat.not_le.mp fun q => hin (Or.inr q)
  have h0i : ¬ i < 0 := fun q => hin (Or.inl q)
  obtain ⟨r', hr', cellV, g1, g2, g3, -⟩ := hP.1 k2 _ he2
  have hcls := (hK.1 ci r hc).2
  obtain ⟨kA, comp, k1, k2', k3, -⟩ := (hK.2 t _ ht).2
  have hcomp : comp = (e_D E).1 ci := Option.some.inj (k3.symm.trans hcls.1)
  subst hcomp
  obtain ⟨kC, hkC, -⟩ := hcls.2
  refine W.aast C.1 C.2.1 (hP.1 k _ he) (fun q h => by cases h) (fun h => by cases h) k1 k2' rfl hkC ⟨h0i, by show _ < (arrV _ _ _).slots.size; rw [arrV_size]; exact hlt⟩ g1 (fun q h => by rw [g3] at h; cases h) (by rw [g2]; exact hkC) (by rw [g2]; exact va_assign hcls) rfl rfl d fun H1 e z oq => ?_
  have p1 := hP.1.set hD he (e := .inl (e_k E t, len, .inr (.inr (.inr (.inr (va_up f i.toNatClampNeg (some (h0 + k2)))))))) (H1 := H1) (by
    show H1[h0 + k]? = some (vp_cell _ _)
    rw [e]
    rw [vp_cell_q, vp_cell_q, arrV_store]
    congr 2
    funext q
    by_cases hq : q = i.toNatClampNeg
    · subst hq
      simp [updV, va_up, va_rf]
    · simp [updV, va_up, hq]) oq
  rw [wE_set hk] at p1
  exact kk H1 _ ls ⟨p1, hP.2.1.put z oq (hD.2 k _ he), by rw [z]; exact hP.2.2⟩ hl
theorem zb_objInit (C : CX E cc own nL rm) {P : Heap → List Loc → Prop} {idx q : Nat} (hlink : Cond.methodLink own idx Lib.objectInit ∈ BG) (hinst : Cond.instanceMethod Lib.objectInit ∈ BG) (hcode : Cond.code Lib.objectInit ⟨#[0xb1]⟩ 1 none ∈ BG) (d : decode cc pc = .ok (.invokespecial idx, 3)) (hfr : 1 ≤ rm.frames) (hlo : (stk.map fun v => v.category).sum + 12 ≤ rm.locals) (kk : Zz E P cells slots (pc + 3) loc stk) : Zz E P cells slots pc loc (.ref q :: stk) := fun H locs ls hP hl =>
  W.objInit C.1 C.2.1 C.ho (C.ht _ hlink) (C.ht _ hinst) (C.ht _ hcode) rfl (hl.1.trans (C.hn.trans C.2.2.1.symm)) rfl d (by rw [C.hR]; exact hfr) (by rw [C.hR]; show 2 * 0 + _ + 12 ≤ _; omega) (kk H locs ls hP hl)
/-- contracts of constructors -/
def PreB (D : va_G) (cs : Nat → ClassId) (n h0 : Nat) (X : Nat → va_E) (U : State) : Prop := U.heap.size = h0 + n ∧ va_P D vwCl (wE n h0 X) U.heap ∧ KK D cs (fun q => h0 ≤ q) U U.heap
def QB (D : va_G) (n h0 : Nat) (X : Nat → va_E) : Array Value → State → Outcome → State → Prop := fun _ st oc t => (oc = .returned none ∧ va_P D vwCl (wE n h0 X) t.heap ∧ t.heap.size = h0 + n) ∧ va_F (fun q => h0 ≤ q) st t
def MB (l : Launch) (D : va_G) (cs : Nat → ClassId) (y : MethodName) (b : ByteArray) (maxL : Nat) (rm : Room) (av : List Value) (n h0 : Nat) (X : Nat → va_E) (n' : Nat) (X' : Nat → va_E) : Prop :=
  vx_Met l y (.code y b maxL none :: BG) rm (va_Pc av (PreB D cs n h0 X)) (QB D n' h0 X') (fun _ _ _ => False) rm.cells rm.slots (fun q => h0 ≤ q)
def QBX (E : ET) (n' h0 : Nat) (X' : Nat → va_E) : Prop :=
  e_Q E = vx_MQ (e_b E) (QB (e_D E) n' h0 X') (fun _ _ _ => False) (e_a E) (e_s E) (e_R E).cells (e_R E).slots (fun q => h0 ≤ q)
theorem PreB_blind {D : va_G} {cs : Nat → ClassId} {n h0 : Nat} {X : Nat → va_E} {av : List Value} : FrameBlind (va_Pc av (PreB D cs n h0 X)) := fun arr U g mk h => ⟨h.1, h.2.1, h.2.2.1, KK.calling h.2.2.2⟩
theorem zb_fin (C : CX E cc own nL rm) (hB : CB E h0) {st0 rest : List Value} {mc ms n' c1 s1 : Nat} {X' : Nat → va_E} {arr : Array Value} {H : Heap} {locs : List Loc} {ls : Array Slot} (hW : WE E n h0 X H locs) (hl : lv_has ls (e_n E) loc)
    (hr : vx_Run (e_p E) (e_l E) (e_e E) (e_R E) (e_s E) (e_m E) (e_a E) (e_b E) (e_h E) (e_c E) H locs cells slots mc ms (F0 (e_m E) pc ls st0) rest (QB (e_D E) n' h0 X' arr) (fun _ _ _ => False) (fun q => h0 ≤ q)) (h1 : cells + mc = c1) (h2 : slots + ms = s1)
    (kk : Zz E (WE E n' h0 X') c1 s1 (pc + 3) loc rest) : W (e_p E) (e_l E) (e_e E) (e_R E) (e_s E) (e_m E) (e_a E) (e_b E) (e_h E) (e_c E) H locs cells slots (e_Q E) (F0 (e_m E) pc ls st0) := by
  subst h1
  subst h2
  intro T hT Xs
  have hA : ∀ q, h0 ≤ q → e_A E q := fun q h => by rw [show e_A E = _ from hB]; exact h
  rcases hr T hT Xs with ⟨v', st₀, t, T', L, h9, X', hL, e1, e2, ⟨⟨hv, hp, hz⟩, hF⟩, st⟩ | ⟨q, st₀, t, T', L, E1, ce, h9, X', hL, e1, e2, hx, hce, hcv, hcl, st⟩
  · cases hv
    obtain ⟨k1, k2, k3⟩ := vx_keep (A0 := e_A E) h9 e1 hW.2.1 (fun q _ h => hA q h) hA hL hF
    obtain ⟨t2, a1, b1⟩ := kk T'.heap (locs ++ L) ls ⟨by rw [e1]; exact hp, k3, by rw [e1]; exact hz⟩ hl T' rfl X'
    exact ⟨t2, st t2 a1, b1⟩
  · exact hx.elim
theorem zb_pre (C : CX E cc own nL rm) (hB : CB E h0) {H : Heap} {locs : List Loc} (hW : WE E n h0 X H locs) : ∀ U : State, U.heap = H → (e_s E).WarmedH U.vm → PreB (e_D E) (e_k E) n h0 X U := fun U hU hWm =>
  ⟨by rw [hU]; exact hW.2.2, by rw [hU]; exact hW.1, KK.step C.hK hW.2.1 (fun q h => by rw [show e_A E = _ from hB]; exact h) hU hWm⟩
/-- a constructor of a nest mate -/
theorem zb_callN (C : CX E cc own nL rm) (hB : CB E h0) {y : MethodName} {host : String} {b : ByteArray} {maxL : Nat} {rm' : Room} {n' c1 s1 idx k : Nat} {X' : Nat → va_E} (hM : MB (e_l E) (e_D E) (e_k E) y b maxL rm' [.ref (h0 + k)] n h0 X n' X') (hne : (own, idx, y, host) ∈ nests) (hin : Cond.instanceMethod y ∈ BG) (hini : Cond.initialized y.cls ∈ BG) (hcode : Cond.code y b maxL none ∈ BG) (hnm : namesOk y 0) (hy1 : y.name = "<init>") (hcat : (stk.map fun v => v.category).sum ≤ 8) (hR : rm'.frames + 1 ≤ rm.frames ∧ 8 + (maxL + 11) + rm'.locals ≤ rm.locals) (h1 : cells + rm'.cells = c1) (h2 : slots + rm'.slots = s1) (hc1 : c1 ≤ rm.cells) (hs1 : s1 ≤ rm.slots) (d : decode cc pc = .ok (.invokespecial idx, 3))
    (kk : Zz E (WE E n' h0 X') c1 s1 (pc + 3) loc stk) : Zz E (WE E n h0 X) cells slots pc loc (.ref (h0 + k) :: stk) := fun H locs ls hW hl =>
  zb_fin C hB hW hl (vx_runIN (As := []) (rest := stk) ⟨C.1, C.2.1, C.2.2.1, C.ho, C.ht⟩ hM ⟨va_cnB 0 C.ht (gi_bg (gi_code hcode)) rfl rfl rfl (C.hK.2.1 _ hne) (C.ht _ hini) hnm (by rw [C.hR]; exact hR), hy1, C.ht _ hin⟩ ⟨PreB_blind, fun U hU hWm => ⟨rfl, zb_pre C hB hW U hU hWm⟩⟩ rfl rfl (hl.1.trans C.hn) rfl (lv_room hcat) d (by rw [C.hR, h1, h2]; exact ⟨hc1, hs1⟩)) h1 h2 kk
/-- a constructor that the link names -/
theorem zb_callI (C : CX E cc own nL rm) (hB : CB E h0) {y : MethodName} {b : ByteArray} {maxL : Nat} {rm' : Room} {n' c1 s1 idx k : Nat} {X' : Nat → va_E} (hM : MB (e_l E) (e_D E) (e_k E) y b maxL rm' [.ref (h0 + k)] n h0 X n' X') (hli : Cond.methodLink own idx y ∈ BG) (hin : Cond.instanceMethod y ∈ BG) (hini : Cond.initialized y.cls ∈ BG) (hcode : Cond.code y b maxL none ∈ BG) (hnm : namesOk y 0) (hy1 : y.name = "<init>") (hcat : (stk.map fun v => v.category).sum ≤ 8) (hR : rm'.frames + 1 ≤ rm.frames ∧ 8 + (maxL + 11) + rm'.locals ≤ rm.locals) (h1 : cells + rm'.cells = c1) (h2 : slots + rm'.slots = s1) (hc1 : c1 ≤ rm.cells) (hs1 : s1 ≤ rm.slots) (d : decode cc pc = .ok (.invokespecial idx, 3))
    (kk : Zz E (WE E n' h0 X') c1 s1 (pc + 3) loc stk) : Zz E (WE E n h0 X) cells slots pc loc (.ref (h0 + k) :: stk) := fun H locs ls hW hl =>
  zb_fin C hB hW hl (vx_runI (As := []) (rest := stk) ⟨C.1, C.2.1, C.2.2.1, C.ho, C.ht⟩ hM (cwI 0 C.ht (gi_bg (gi_code hcode)) rfl rfl rfl (C.ht _ hini) (C.ht _ hli) (C.ht _ hin) hy1 hnm (by rw [C.hR]; exact hR)) ⟨PreB_blind, fun U hU hWm => ⟨rfl, zb_pre C hB hW U hU hWm⟩⟩ rfl rfl (hl.1.trans C.hn) rfl (lv_room hcat) d (by rw [C.hR, h1, h2]; exact ⟨hc1, hs1⟩)) h1 h2 kk
theorem zb_vret (C : CX E cc own nL rm) (hB : CB E h0) {X' : Nat → va_E} (hQ : QBX E n h0 X') (hr : (e_h E).sig.returnType = none) (d : decode cc pc = .ok (.return_, 1)) (he : ∀ k, k < n → X k = X' k) (hc : cells ≤ rm.cells) (hs : slots ≤ rm.slots) : Zz E (WE E n h0 X) cells slots pc loc [] := by
  intro H locs ls hW hl
  rw [show e_Q E = _ from hQ]
  refine W.widen (k := (e_R E).cells) (n := (e_R E).slots) (by rw [C.hR]; exact hc) (by rw [C.hR]; exact hs) (vx_ret ?_)
  have hS : va_S (fun q => h0 ≤ q) (e_s E).heap H locs := by
    have h9 := hW.2.1
    rw [show e_A E = _ from hB] at h9
    exact h9
  exact W.vret C.1 C.2.1 hr (fun t ht _ => ⟨⟨rfl, by rw [ht, ← wE_congr he]; exact hW.1, by rw [ht]; exact hW.2.2⟩, hS.F ht⟩) hS.2.2 d C.hL
theorem zb_entry {l : Launch} {D : va_G} {cs : Nat → ClassId} {y : MethodName} {b : ByteArray} {maxL : Nat} {rm : Room} {k n' : Nat} {X' : Nat → va_E} (hT : l.stackTraces = false) (hy : plainName y.cls = true) (hy1 : y.name = "<init>") (hargs : 1 ≤ maxL)
    (body : ∀ E : ET, e_l E = l → e_D E = D → e_k E = cs → CX E b y.cls maxL rm → CB E h0 → QBX E n' h0 X' → (e_h E).sig.returnType = none → (e_h E).name = "<init>" → Zz E (WE E n h0 X) 0 0 0 [(0, .ref (h0 + k))] []) : MB l D cs y b maxL rm [.ref (h0 + k)] n h0 X n' X' := by
  refine vx_ofW (cc := b) (maxL := maxL) (ret := none) hy rfl ?_
  intro p e s m args below meth c s₁ B hml htab hv
  obtain ⟨rfl, hsz, hP, hK⟩ := hv
  have hts : ∀ w ∈ (Cond.code y b maxL none :: BG), w.before [Value.ref (h0 + k)].toArray s = true := atoms_spec (ws := Cond.code y b maxL none :: BG) B.pre
  have hl := lv_entry [Value.ref (h0 + k)] (n := maxL) hargs
  rw [lg_entry_eq]
  generalize hls : (lg_sl [Value.ref (h0 + k)] ++ List.replicate (maxL - (lg_sl [Value.ref (h0 + k)]).length) Slot.unset).toArray = ls at hl ⊢
  have hin : meth.name = "<init>" := (name_of_methodNamed B.named B.method).1.trans hy1
  exact body ((p, l, e, rm), (s, m, [Value.ref (h0 + k)].toArray, below), (meth, c, maxL, vx_MQ below (QB D n' h0 X') (fun _ _ _ => False) [Value.ref (h0 + k)].toArray s rm.cells rm.slots (fun q => h0 ≤ q)), (D, cs, fun q => h0 ≤ q)) rfl rfl rfl
    ⟨B.exec, B.bytes, hml, rfl, rfl, findClass_of_methodNamed B.named, fun w hw => hts w (List.mem_cons_of_mem _ hw), hK, fun q h => by rw [hsz] at h; exact Nat.le_trans (Nat.le_add_right _ _) h, hT, htab, B.notSynchronized⟩ rfl rfl B.returns hin s.heap [] ls ⟨hP, va_S.rf, hsz⟩ hl
end ZB
