/-! ===== contracts of the law's methods whose last store is known by a property; of two lanes; of the script ===== -/
def QP (D : va_G) (cs : Nat → ClassId) (a : Nat → Nat) (A : Nat → Prop) (v : Value) (Rr : St → Prop) : Array Value → State → Outcome → State → Prop := fun _ st oc t => (oc = .returned (some v) ∧ ∃ S', Rr S' ∧ va_P D vwCl (wC 113 GX cs a S') t.heap) ∧ va_F A st t
def MP (l : Launch) (D : va_G) (cs : Nat → ClassId) (a : Nat → Nat) (y : MethodName) (w : Cond) (rm : Room) (av : List Value) (S : St) (v : Value) (Rr : St → Prop) : Prop :=
  ∀ sz, vx_Met l y (w :: BG) rm (va_Pc av (PreL D cs a S sz)) (QP D cs a (aA a 113 sz) v Rr) (fun _ _ _ => False) rm.cells rm.slots (aA a 113 sz)
def CP (E : ET) (a : Nat → Nat) (v : Value) (Rr : St → Prop) (ret : Option FieldType) : Prop :=
  NC (e_s E) ∧ (e_h E).sig.returnType = ret ∧
  e_Q E = vx_MQ (e_b E) (QP (e_D E) (e_k E) a (e_A E) v Rr) (fun _ _ _ => False) (e_a E) (e_s E) (e_R E).cells (e_R E).slots (e_A E)
section PW
variable {E : ET} {cc : ByteArray} {own : String} {nL : Nat} {rm : Room} {cells slots pc : Nat} {loc : List (Nat × Value)} {stk : List Value} {a b : Nat → Nat} {S T : St}
theorem p_iret (C : CV E cc own nL rm) {Rr : St → Prop} {v : Int32} {ty : FieldType} (hQ : CP E a (.int v) Rr (some ty)) (hn : narrow ty (.int v) = .int v) (d : decode cc pc = .ok (.ireturn, 1)) (hR : Rr S) (hc : cells ≤ rm.cells) (hs : slots ≤ rm.slots) : Zz E (WX E a S) cells slots pc loc [.int v] := by
  intro H locs ls hW hl
  rw [show e_Q E = _ from hQ.2.2]
  refine W.widen (k := (e_R E).cells) (n := (e_R E).slots) (by rw [C.hR]; exact hc) (by rw [C.hR]; exact hs) (vx_ret ?_)
  exact W.zret C.1 C.2.1 hQ.2.1 hn (fun t ht _ => ⟨⟨rfl, S, hR, by rw [ht]; exact hW.1⟩, hW.2.2.F ht⟩) hW.2.2.2.2 d C.hL
theorem p_entry {l : Launch} {D : va_G} {cs : Nat → ClassId} {y : MethodName} {cb : ByteArray} {maxL : Nat} {ret : Option FieldType} {av : List Value} {v : Value} {Rr : St → Prop} (loc0 : List (Nat × Value)) (hT : l.stackTraces = false) (hy : plainName y.cls = true) (hargs : (lg_sl av).length ≤ maxL) (hloc : lv_args 0 av = loc0)
    (body : ∀ E : ET, e_l E = l → e_D E = D → e_k E = cs → CV E cb y.cls maxL rm → CP E a v Rr ret → Zz E (WX E a S) 0 0 0 loc0 []) : MP l D cs a y (.code y cb maxL ret) rm av S v Rr := by
  intro sz
  refine vx_ofW (cc := cb) (maxL := maxL) (ret := ret) hy rfl ?_
  intro p e s m args below meth c s₁ B hml htab hv
  obtain ⟨rfl, ⟨hsz, hP, hDD, hK⟩, hN⟩ := hv
  have hts : ∀ w ∈ (Cond.code y cb maxL ret :: BG), w.before av.toArray s = true := atoms_spec (ws := Cond.code y cb maxL ret :: BG) B.pre
  subst hsz
  have hl := lv_entry av hargs
  rw [hloc] at hl
  rw [lg_entry_eq]
  generalize hls : (lg_sl av ++ List.replicate (maxL - (lg_sl av).length) Slot.unset).toArray = ls at hl ⊢
  exact body ((p, l, e, rm), (s, m, av.toArray, below), (meth, c, maxL, vx_MQ below (QP D cs a (aA a 113 s.heap.size) v Rr) (fun _ _ _ => False) av.toArray s rm.cells rm.slots (aA a 113 s.heap.size)), (D, cs, aA a 113 s.heap.size)) rfl rfl rfl
    ⟨B.exec, B.bytes, hml, rfl, rfl, findClass_of_methodNamed B.named, fun w hw => hts w (List.mem_cons_of_mem _ hw), hK, fun q h => Or.inr h, hT, B.notSynchronized⟩
    ⟨hN, B.returns, rfl⟩ s.heap [] ls ⟨hP, wC_Dw hDD, va_S.rf⟩ hl
theorem p_run (C : CV E cc own nL rm) (hN : NC (e_s E)) {y : MethodName} {cb : ByteArray} {maxL : Nat} {ret : Option FieldType} {rm' : Room} {As st0 : List Value} {v : Value} {Rr : St → Prop} {idx nargs : Nat} (hM : MP (e_l E) (e_D E) (e_k E) a y (.code y cb maxL ret) rm' As S v Rr) (hC : CallWok own idx y (.code y cb maxL ret) nargs) (hy : y.cls = own) (hn : As.length = nargs) (hst : st0 = As.reverse ++ stk) (hcat : (stk.map fun v => v.category).sum ≤ 8) (hR : rm'.frames + 1 ≤ rm.frames ∧ 8 + (maxL + 11) + rm'.locals ≤ rm.locals) (hf : cells + rm'.cells ≤ rm.cells ∧ slots + rm'.slots ≤ rm.slots) (d : decode cc pc = .ok (.invokestatic idx, 3)) {H : Heap} {locs : List Loc} {ls : Array Slot} (hW : WG 113 GX E a S H locs) (hl : lv_has ls (e_n E) loc) :
    vx_Run (e_p E) (e_l E) (e_e E) (e_R E) (e_s E) (e_m E) (e_a E) (e_b E) (e_h E) (e_c E) H locs cells slots rm'.cells rm'.slots (F0 (e_m E) pc ls st0) stk (QP (e_D E) (e_k E) a (aA a 113 H.size) v Rr As.toArray) (fun _ _ _ => False) (aA a 113 H.size) := by
  obtain ⟨w1, w2, w3, w4, w5⟩ := hC
  have hpre : PreS (e_s E) H (va_Pc As (PreL (e_D E) (e_k E) a S H.size)) As := ⟨PreL_blind, fun U hU hWm => ⟨rfl, ⟨by rw [hU], by rw [hU]; exact hW.1, ⟨hW.2.1.1, fun _ _ _ => trivial⟩, KK.step C.hK hW.2.2 (v_pre C hW) hU hWm⟩, fun q hq => va_Nc.moved hWm.alike (hN q hq)⟩⟩
  have hg : GoodIn BG (wsS own idx y (Cond.code y cb maxL ret :: BG)) := gi_bg (fun w hw => by
    unfold wsS at hw
    rcases List.mem_append.mp hw with hw | hw
    · simp only [List.mem_cons, List.not_mem_nil, or_false] at hw
      rcases hw with rfl | rfl | rfl
      · exact w1
      · exact w2
      · rw [← hy]; exact w3
    · exact (List.mem_cons.mp hw).elim (fun e => by rw [e]; exact w4) id)
  exact vx_runS (As := As) (rest := stk) ⟨C.1, C.2.1, C.2.2.1, C.ho, C.ht⟩ (hM H.size) (cwS nargs C.ht hg rfl rfl rfl ⟨hy, w5⟩ (by rw [C.hR]; exact hR))
    hpre rfl hn (hl.1.trans C.hn) hst (lv_room hcat) d (by rw [C.hR]; exact hf)
theorem p_call {c1 s1 : Nat} {y : MethodName} {cb : ByteArray} {maxL : Nat} {ret : Option FieldType} {rm' : Room} (As : List Value) {st0 st1 : List Value} {v : Value} {Rr : St → Prop} {idx nargs : Nat} (C : CV E cc own nL rm) (hN : NC (e_s E)) (hM : MP (e_l E) (e_D E) (e_k E) a y (.code y cb maxL ret) rm' As S v Rr) (hC : CallWok own idx y (.code y cb maxL ret) nargs) (hy : y.cls = own) (hn : As.length = nargs) (hst : st0 = As.reverse ++ stk) (hs : v :: stk = st1) (hcat : (stk.map fun v => v.category).sum ≤ 8) (hR : rm'.frames + 1 ≤ rm.frames ∧ 8 + (maxL + 11) + rm'.locals ≤ rm.locals) (hf : cells + rm'.cells ≤ rm.cells ∧ slots + rm'.slots ≤ rm.slots) (d : decode cc pc = .ok (.invokestatic idx, 3))
    (h1 : cells + rm'.cells = c1) (h2 : slots + rm'.slots = s1) (kk : ∀ S', Rr S' → Zz E (WX E a S') c1 s1 (pc + 3) loc st1) : Zz E (WX E a S) cells slots pc loc st0 := fun H locs ls hW hl => by
  subst h1
  subst h2
  subst hs
  have hr := p_run C hN hM hC hy hn hst hcat hR hf d hW hl
  have hA := v_pre C hW
  intro T hT X
  rcases hr T hT X with ⟨v', st₀, t, T', L, h0, X', hL, e1, e2, ⟨⟨hv, S', hR', hp⟩, hF⟩, st⟩ | ⟨q, st₀, t, T', L, E1, ce, h0, X', hL, e1, e2, hx, hce, hcv, hcl, st⟩
  · cases hv
    obtain ⟨k1, k2, k3⟩ := vx_keep h0 e1 hW.2.2 (fun q _ h => hA q h) hA hL hF
    obtain ⟨t2, a1, b1⟩ := kk S' hR' T'.heap (locs ++ L) ls ⟨by rw [e1]; exact hp, wC_D hW.2.1, k3⟩ hl T' rfl X'
    exact ⟨t2, st t2 a1, b1⟩
  · exact hx.elim
/-- the last call of the law: of one lane, in the world of two -/
theorem p_call2 {c1 s1 : Nat} {y : MethodName} {cb : ByteArray} {maxL : Nat} {ret : Option FieldType} {rm' : Room} (As : List Value) {st0 st1 : List Value} {v : Value} {Rr : St → Prop} {idx nargs : Nat} (C : CV E cc own nL rm) (hN : NC (e_s E)) (hD : DW E a b) (hM : MP (e_l E) (e_D E) (e_k E) a y (.code y cb maxL ret) rm' As S v Rr) (hC : CallWok own idx y (.code y cb maxL ret) nargs) (hy : y.cls = own) (hn : As.length = nargs) (hst : st0 = As.reverse ++ stk) (hs : v :: stk = st1) (hcat : (stk.map fun v => v.category).sum ≤ 8) (hR : rm'.frames + 1 ≤ rm.frames ∧ 8 + (maxL + 11) + rm'.locals ≤ rm.locals) (hf : cells + rm'.cells ≤ rm.cells ∧ slots + rm'.slots ≤ rm.slots) (d : decode cc pc = .ok (.invokestatic idx, 3))
    (h1 : cells + rm'.cells = c1) (h2 : slots + rm'.slots = s1) (kk : ∀ S', Rr S' → Zz E (WW E a b S' T) c1 s1 (pc + 3) loc st1) : Zz E (WW E a b S T) cells slots pc loc st0 := fun H locs ls hP hl => by
  subst h1
  subst h2
  subst hs
  have hW : WG 113 GX E a S H locs := ⟨hP.1, hD.1 S, hP.2.2⟩
  have hr := p_run C hN hM hC hy hn hst hcat hR hf d hW hl
  have hA := v_pre C hW
  intro T hT X
  rcases hr T hT X with ⟨v', st₀, t, T', L, h0, X', hL, e1, e2, ⟨⟨hv, S', hR', hp⟩, hF⟩, st⟩ | ⟨q, st₀, t, T', L, E1, ce, h0, X', hL, e1, e2, hx, hce, hcv, hcl, st⟩
  · cases hv
    obtain ⟨k1, k2, k3⟩ := vx_keep h0 e1 hW.2.2 (fun q _ h => hA q h) hA hL hF
    obtain ⟨t2, a1, b1⟩ := kk S' hR' T'.heap (locs ++ L) ls ⟨by rw [e1]; exact hp, hP.2.1.ne k2 (fun k q hk => by
      have h9 := (hP.2.1 k q hk).lt
      obtain ⟨hj, rfl⟩ := wC_some hk
      exact hD.out hj h9), k3⟩ hl T' rfl X'
    exact ⟨t2, st t2 a1, b1⟩
  · exact hx.elim
end PW
/-! ===== a method of two lanes ===== -/
def aB (a b : Nat → Nat) (sz : Nat) : Nat → Prop := fun q => aA a 113 sz q ∨ ∃ j, j < 113 ∧ q = b j
def PreW (D : va_G) (cs : Nat → ClassId) (a b : Nat → Nat) (S T : St) (sz : Nat) (U : State) : Prop :=
  (U.heap.size = sz ∧ va_P D vwCl (wC 113 GX cs a S) U.heap ∧ va_P D vwCl (wC 113 GX cs b T) U.heap) ∧ (va_D (fun _ => True) (wC 113 GX cs a S) ∧ va_D (fun _ => True) (wC 113 GX cs b T) ∧ ∀ i j, i < 113 → j < 113 → a i ≠ b j) ∧ KK D cs (aB a b sz) U U.heap ∧ NC U
theorem PreW_blind {D : va_G} {cs : Nat → ClassId} {a b : Nat → Nat} {S T : St} {sz : Nat} {av : List Value} : FrameBlind (va_Pc av (PreW D cs a b S T sz)) := fun arr U g mk h => ⟨h.1, ⟨h.2.1.1, h.2.1.2.1, h.2.1.2.2⟩, h.2.2.1, KK.calling h.2.2.2.1, h.2.2.2.2.calling⟩
def QW (D : va_G) (cs : Nat → ClassId) (a b : Nat → Nat) (A : Nat → Prop) (v : Value) (R2 : St → St → Prop) : Array Value → State → Outcome → State → Prop := fun _ st oc t => (oc = .returned (some v) ∧ ∃ S' T', R2 S' T' ∧ va_P D vwCl (wC 113 GX cs a S') t.heap ∧ va_P D vwCl (wC 113 GX cs b T') t.heap) ∧ va_F A st t
def MW (l : Launch) (D : va_G) (cs : Nat → ClassId) (a b : Nat → Nat) (y : MethodName) (w : Cond) (rm : Room) (av : List Value) (S T : St) (v : Value) (R2 : St → St → Prop) : Prop :=
  ∀ sz, vx_Met l y (w :: BG) rm (va_Pc av (PreW D cs a b S T sz)) (QW D cs a b (aB a b sz) v R2) (fun _ _ _ => False) rm.cells rm.slots (aB a b sz)
def CB2 (E : ET) (a b : Nat → Nat) (v : Value) (R2 : St → St → Prop) (ret : Option FieldType) : Prop :=
  NC (e_s E) ∧ (e_h E).sig.returnType = ret ∧ DW E a b ∧
  e_Q E = vx_MQ (e_b E) (QW (e_D E) (e_k E) a b (e_A E) v R2) (fun _ _ _ => False) (e_a E) (e_s E) (e_R E).cells (e_R E).slots (e_A E)
section PB
variable {E : ET} {cc : ByteArray} {own : String} {nL : Nat} {rm : Room} {cells slots pc : Nat} {loc : List (Nat × Value)} {stk : List Value} {a b : Nat → Nat} {S T : St}
theorem w_iret (C : CV E cc own nL rm) {R2 : St → St → Prop} {v : Int32} {ty : FieldType} (hQ : CB2 E a b (.int v) R2 (some ty)) (hn : narrow ty (.int v) = .int v) (d : decode cc pc = .ok (.ireturn, 1)) (hR : R2 S T) (hc : cells ≤ rm.cells) (hs : slots ≤ rm.slots) : Zz E (WW E a b S T) cells slots pc loc [.int v] := by
  intro H locs ls hW hl
  rw [show e_Q E = _ from hQ.2.2.2]
  refine W.widen (k := (e_R E).cells) (n := (e_R E).slots) (by rw [C.hR]; exact hc) (by rw [C.hR]; exact hs) (vx_ret ?_)
  exact W.zret C.1 C.2.1 hQ.2.1 hn (fun t ht _ => ⟨⟨rfl, S, T, hR, by rw [ht]; exact hW.1, by rw [ht]; exact hW.2.1⟩, hW.2.2.F ht⟩) hW.2.2.2.2 d C.hL
theorem w_entry {l : Launch} {D : va_G} {cs : Nat → ClassId} {y : MethodName} {cb : ByteArray} {maxL : Nat} {ret : Option FieldType} {av : List Value} {v : Value} {R2 : St → St → Prop} (loc0 : List (Nat × Value)) (hT : l.stackTraces = false) (hy : plainName y.cls = true) (hargs : (lg_sl av).length ≤ maxL) (hloc : lv_args 0 av = loc0)
    (body : ∀ E : ET, e_l E = l → e_D E = D → e_k E = cs → CV E cb y.cls maxL rm → CB2 E a b v R2 ret → Zz E (WW E a b S T) 0 0 0 loc0 []) : MW l D cs a b y (.code y cb maxL ret) rm av S T v R2 := by
  intro sz
  refine vx_ofW (cc := cb) (maxL := maxL) (ret := ret) hy rfl ?_
  intro p e s m args below meth c s₁ B hml htab hv
  obtain ⟨rfl, ⟨hsz, hP, hP2⟩, ⟨hD1, hD2, hne⟩, hK, hN⟩ := hv
  have hts : ∀ w ∈ (Cond.code y cb maxL ret :: BG), w.before av.toArray s = true := atoms_spec (ws := Cond.code y cb maxL ret :: BG) B.pre
  subst hsz
  have hl := lv_entry av hargs
  rw [hloc] at hl
  rw [lg_entry_eq]
  generalize hls : (lg_sl av ++ List.replicate (maxL - (lg_sl av).length) Slot.unset).toArray = ls at hl ⊢
  exact body ((p, l, e, rm), (s, m, av.toArray, below), (meth, c, maxL, vx_MQ below (QW D cs a b (aB a b s.heap.size) v R2) (fun _ _ _ => False) av.toArray s rm.cells rm.slots (aB a b s.heap.size)), (D, cs, aB a b s.heap.size)) rfl rfl rfl
    ⟨B.exec, B.bytes, hml, rfl, rfl, findClass_of_methodNamed B.named, fun w hw => hts w (List.mem_cons_of_mem _ hw), hK, fun q h => Or.inl (Or.inr h), hT, B.notSynchronized⟩
    ⟨hN, B.returns, ⟨fun S2 => ⟨(wC_D hD1 (S' := S2)).1, fun j q hj => by obtain ⟨h1, rfl⟩ := wC_some hj; exact Or.inl (Or.inl ⟨j, h1, rfl⟩)⟩, fun S2 => ⟨(wC_D hD2 (S' := S2)).1, fun j q hj => by obtain ⟨h1, rfl⟩ := wC_some hj; exact Or.inr ⟨j, h1, rfl⟩⟩, hne⟩, rfl⟩ s.heap [] ls ⟨hP, hP2, va_S.rf⟩ hl
theorem w_call2 {c1 s1 : Nat} {y : MethodName} {cb : ByteArray} {maxL : Nat} {ret : Option FieldType} {rm' : Room} (As : List Value) {st0 st1 : List Value} {v : Value} {R2 : St → St → Prop} {idx nargs : Nat} (C : CV E cc own nL rm) (hN : NC (e_s E)) (hD : DW E a b) (hM : MW (e_l E) (e_D E) (e_k E) a b y (.code y cb maxL ret) rm' As S T v R2) (hC : CallWok own idx y (.code y cb maxL ret) nargs) (hy : y.cls = own) (hn : As.length = nargs) (hst : st0 = As.reverse ++ stk) (hs : v :: stk = st1) (hcat : (stk.map fun v => v.category).sum ≤ 8) (hR : rm'.frames + 1 ≤ rm.frames ∧ 8 + (maxL + 11) + rm'.locals ≤ rm.locals) (hf : cells + rm'.cells ≤ rm.cells ∧ slots + rm'.slots ≤ rm.slots) (d : decode cc pc = .ok (.invokestatic idx, 3))
    (h1 : cells + rm'.cells = c1) (h2 : slots + rm'.slots = s1) (kk : ∀ S' T', R2 S' T' → Zz E (WW E a b S' T') c1 s1 (pc + 3) loc st1) : Zz E (WW E a b S T) cells slots pc loc st0 := fun H locs ls hP hl => by
  subst h1
  subst h2
  subst hs
  obtain ⟨w1, w2, w3, w4, w5⟩ := hC
  have hA : ∀ q, aB a b H.size q → e_A E q := fun q h => h.elim (fun h => v_pre C (⟨hP.1, hD.1 S, hP.2.2⟩ : WG 113 GX E a S H locs) q h) (fun ⟨j, hj, e⟩ => by rw [e]; exact (hD.2.1 T).2 j _ (wC_at hj))
  have hpre : PreS (e_s E) H (va_Pc As (PreW (e_D E) (e_k E) a b S T H.size)) As := ⟨PreW_blind, fun U hU hWm => ⟨rfl, ⟨by rw [hU], by rw [hU]; exact hP.1, by rw [hU]; exact hP.2.1⟩, ⟨⟨(hD.1 S).1, fun _ _ _ => trivial⟩, ⟨(hD.2.1 T).1, fun _ _ _ => trivial⟩, hD.2.2⟩, KK.step C.hK hP.2.2 hA hU hWm, fun q hq => va_Nc.moved hWm.alike (hN q hq)⟩⟩
  have hg : GoodIn BG (wsS own idx y (Cond.code y cb maxL ret :: BG)) := gi_bg (fun w hw => by
    unfold wsS at hw
    rcases List.mem_append.mp hw with hw | hw
    · simp only [List.mem_cons, List.not_mem_nil, or_false] at hw
      rcases hw with rfl | rfl | rfl
      · exact w1
      · exact w2
      · rw [← hy]; exact w3
    · exact (List.mem_cons.mp hw).elim (fun e => by rw [e]; exact w4) id)
  have hr := vx_runS (p := e_p E) (l := e_l E) (R := e_R E) (s := e_s E) (m := e_m E) (args := e_a E) (c := e_c E) (H := H) (e := e_e E) (below := e_b E) (meth := e_h E) (locs := locs) (cells := cells) (slots := slots) (g := F0 (e_m E) pc ls st0) (As := As) (rest := stk) ⟨C.1, C.2.1, C.2.2.1, C.ho, C.ht⟩ (hM H.size) (cwS nargs C.ht hg rfl rfl rfl ⟨hy, w5⟩ (by rw [C.hR]; exact hR))
    hpre rfl hn (hl.1.trans C.hn) hst (lv_room hcat) d (by rw [C.hR]; exact hf)
  intro T hT X
  rcases hr T hT X with ⟨v', st₀, t, T', L, h0, X', hL, e1, e2, ⟨⟨hv, S', T2, hR', hp, hp2⟩, hF⟩, st⟩ | ⟨q, st₀, t, T', L, E1, ce, h0, X', hL, e1, e2, hx, hce, hcv, hcl, st⟩
  · cases hv
    obtain ⟨k1, k2, k3⟩ := vx_keep h0 e1 hP.2.2 (fun q _ h => hA q h) hA hL hF
    obtain ⟨t2, a1, b1⟩ := kk S' T2 hR' T'.heap (locs ++ L) ls ⟨by rw [e1]; exact hp, by rw [e1]; exact hp2, k3⟩ hl T' rfl X'
    exact ⟨t2, st t2 a1, b1⟩
  · exact hx.elim
end PB
/-! ===== the script's reader ===== -/
abbrev rmL_cell : Room := { frames := 6, cells := 0, slots := 0, locals := 90 }
def PreC (D : va_G) (cs : Nat → ClassId) (sb L : Nat) (xs : Nat → Int32) (sz : Nat) (U : State) : Prop := U.heap.size = sz ∧ va_X sb L xs U U.heap ∧ sb < sz ∧ KK D cs (fun q => sz ≤ q) U U.heap
theorem PreC_blind {D : va_G} {cs : Nat → ClassId} {sb L : Nat} {xs : Nat → Int32} {sz : Nat} {av : List Value} : FrameBlind (va_Pc av (PreC D cs sb L xs sz)) := fun arr U g mk h => ⟨h.1, h.2.1, va_X.moved (u := U) (U := U.calling g mk arr) (Vm.Alike.refl U.vm) h.2.2.1, h.2.2.2.1, KK.calling h.2.2.2.2⟩
def QC (A : Nat → Prop) : Array Value → State → Outcome → State → Prop := fun _ st oc t => (∃ x : Int32, oc = .returned (some (.int x))) ∧ va_F A st t
def SX (E : ET) (sb L : Nat) (xs : Nat → Int32) : Prop := va_X sb L xs (e_s E) (e_s E).heap ∧ sb < (e_s E).heap.size ∧ ¬ e_A E sb ∧ L ≤ 260
def WS (E : ET) : Heap → List Loc → Prop := fun H locs => va_S (e_A E) (e_s E).heap H locs
section CC
variable {E : ET} {cc : ByteArray} {own : String} {nL : Nat} {rm : Room} {cells slots pc : Nat} {loc : List (Nat × Value)} {stk : List Value}
theorem v_sld (C : CV E cc own nL rm) {sb L : Nat} {xs : Nat → Int32} (X : SX E sb L xs) {n : Nat} {x : Int32} (hn : n < L) (hx : x = nI n) (d : decode cc pc = .ok (.iaload, 1)) (kk : Zz E (WS E) cells slots (pc + 1) loc (.int (xs n) :: stk)) : Zz E (WS E) cells slots pc loc (.int x :: .ref sb :: stk) := fun H locs ls hP hl => by
  subst hx
  have hL := X.2.2.2
  refine va_sld C.1 C.2.1 X.1 X.2.1 X.2.2.1 hP (nI_in hn (by omega)) d ?_
  rw [nI_clamp (n := n) (by omega)]
  exact kk H locs ls hP hl
theorem v_slen (C : CV E cc own nL rm) {sb L : Nat} {xs : Nat → Int32} (X : SX E sb L xs) (d : decode cc pc = .ok (.arraylength, 1)) (kk : Zz E (WS E) cells slots (pc + 1) loc (.int (nI L) :: stk)) : Zz E (WS E) cells slots pc loc (.ref sb :: stk) := fun H locs ls hP hl =>
  va_slen C.1 C.2.1 X.1 X.2.1 X.2.2.1 hP d (kk H locs ls hP hl)
theorem c_iret (C : CV E cc own nL rm) (hr : (e_h E).sig.returnType = some .int) (hQ : e_Q E = vx_MQ (e_b E) (QC (e_A E)) (fun _ _ _ => False) (e_a E) (e_s E) (e_R E).cells (e_R E).slots (e_A E)) {v : Int32} (d : decode cc pc = .ok (.ireturn, 1)) (hc : cells ≤ rm.cells) (hs : slots ≤ rm.slots) : Zz E (WS E) cells slots pc loc [.int v] := by
  intro H locs ls hW hl
  rw [hQ]
  refine W.widen (k := (e_R E).cells) (n := (e_R E).slots) (by rw [C.hR]; exact hc) (by rw [C.hR]; exact hs) (vx_ret ?_)
  exact W.zret C.1 C.2.1 hr rfl (fun t ht _ => ⟨⟨v, rfl⟩, hW.F ht⟩) hW.2.2 d C.hL
end CC
