/-! ===== the machine at the law's entry ===== -/
def xtra : List Cond := nests.map (fun q => Cond.methodLinkNest q.1 q.2.1 q.2.2.1 q.2.2.2) ++ (strs.map (fun q => Cond.stringRef RX8 q.1 q.2) ++ (decls.map Cond.declares ++ (thrXs.map (fun x => Cond.castable x x) ++ (aoCs.map (fun x => Cond.arrayOver (.object x)) ++ [Cond.arrayClass .int, Cond.laysStatic Bundle.tN "UNASSIGNED_STACK" Bundle.steD, Cond.laysStatic Bundle.tN "SUPPRESSED_SENTINEL" Bundle.listD, Cond.initialized Bundle.tN]))))
set_option maxRecDepth 100000 in
theorem xtra_in : ∀ w ∈ xtra, w ∈ lw_tbl := by
  have h : ∀ w ∈ xtra, w ∈ tables_1 := by decide +kernel
  exact fun w hw => List.mem_append_right _ (h w hw)
theorem arr_of {s : State} {args : Array Value} {ty : FieldType} (hp : ∀ C, ty ≠ .object C) (h : (Cond.arrayClass ty).before args s = true) : ∃ c, ArrOfT s c ty ∧ va_RA s c ty := by
  obtain ⟨c, k, comp, h1, h2, h3⟩ := Cond.arrayClass_spec h
  refine ⟨c, fun n z => ⟨(fun k h => by cases h), k, h2, comp, h3⟩, ?_⟩
  cases ty with
  | object C => exact absurd rfl (hp C)
  | _ => exact h1
theorem arr_ofO {s : State} {args : Array Value} {C : String} (h : (Cond.arrayOver (.object C)).before args s = true) : ∃ c, ArrOfT s c (.object C) ∧ va_RA s c (.object C) := by
  obtain ⟨comp, c, k, h1, -, h2, h3, h4⟩ := Cond.arrayOver_spec h
  exact ⟨c, fun n z => ⟨(fun k h => by cases h), k, h2, comp, h3⟩, k, comp, h2, h3, h1, h4⟩
set_option maxHeartbeats 1000000 in
set_option maxRecDepth 100000 in
theorem kk_start {s : State} {b : Nat} (hts : ∀ w ∈ lw_tbl, w.before #[Value.ref b] s = true) (hgv : (Jvm.Cond.and given_1 narrow_1).before #[Value.ref b] s = true) : ∃ (D : va_G) (cs : Nat → ClassId), KK D cs (fun q => s.heap.size ≤ q) s s.heap ∧ NC s := by
  have hx : ∀ w ∈ xtra, w.before #[Value.ref b] s = true := fun w hw => hts w (xtra_in w hw)
  have hfl := flat_of_before _ hgv
  obtain ⟨c0, iS0, hK0⟩ := u_known (C := RX0) (T := TX0) (N := 6) (n := 6) hts inX0 (hts (.instantiable RX0 6) (wsL_law_in _ bw_2_14))
  obtain ⟨c1, iS1, hK1⟩ := u_known (C := RX1) (T := TX1) (N := 2) (n := 2) hts inX1 (hts (.instantiable RX1 2) (wsL_law_in _ bw_1_23))
  obtain ⟨c2, iS2, hK2⟩ := u_known (C := RX2) (T := TX2) (N := 3) (n := 3) hts inX2 (hts (.instantiable RX2 3) (wsL_law_in _ bw_1_11))
  obtain ⟨c3, iS3, hK3⟩ := u_known (C := RX3) (T := TX3) (N := 15) (n := 15) hts inX3 (hts (.instantiable RX3 15) (wsL_law_in _ bw_2_7))
  obtain ⟨c4, iS4, hK4⟩ := u_known (C := RX4) (T := TX4) (N := 8) (n := 8) hts inX4 (hts (.instantiable RX4 8) (wsL_law_in _ bw_2_10))
  obtain ⟨c5, iS5, hK5⟩ := u_known (C := RX5) (T := TX5) (N := 7) (n := 7) hts inX5 (hts (.instantiable RX5 7) (wsL_law_in _ bw_2_3))
  obtain ⟨c6, iS6, hK6⟩ := u_known (C := RX6) (T := TX6) (N := 6) (n := 6) hts inX6 (hts (.instantiable RX6 6) (wsL_law_in _ bw_2_12))
  obtain ⟨c7, iS7, hK7⟩ := u_known (C := RX7) (T := TX7) (N := 4) (n := 4) hts inX7 (hts (.instantiable RX7 4) (wsL_law_in _ bw_3_1))
  obtain ⟨c8, iS8, hK8⟩ := u_known (C := RX8) (T := TX8) (N := 12) (n := 12) hts inX8 (hts (.instantiable RX8 12) (wsL_law_in _ bw_1_1))
  obtain ⟨dC, dI, hKc⟩ : ∃ (dC : Nat → ClassId) (dI : Nat → Nat → Nat), ∀ (k : Nat) (q : vw_C), vwCl[k]? = some q → u_Kn s q.1 q.2.1 q.2.2 (dC k) (dI k) := by
    refine ⟨fun k => if k = 0 then c0 else if k = 1 then c1 else if k = 2 then c2 else if k = 3 then c3 else if k = 4 then c4 else if k = 5 then c5 else if k = 6 then c6 else if k = 7 then c7 else c8, fun k => if k = 0 then iS0 else if k = 1 then iS1 else if k = 2 then iS2 else if k = 3 then iS3 else if k = 4 then iS4 else if k = 5 then iS5 else if k = 6 then iS6 else if k = 7 then iS7 else iS8, ?_⟩
    intro k q hq
    match k, hq with
    | 0, hq => cases hq; exact hK0
    | 1, hq => cases hq; exact hK1
    | 2, hq => cases hq; exact hK2
    | 3, hq => cases hq; exact hK3
    | 4, hq => cases hq; exact hK4
    | 5, hq => cases hq; exact hK5
    | 6, hq => cases hq; exact hK6
    | 7, hq => cases hq; exact hK7
    | 8, hq => cases hq; exact hK8
    | k + 9, hq => simp [vwCl] at hq
  obtain ⟨ai, ai1, ai2⟩ := arr_of (ty := .int) (fun C h => by cases h) (hx (Cond.arrayClass .int) (by simp [xtra]))
  obtain ⟨ap, ap1, ap2⟩ := arr_ofO (C := "PressbrakeLane$Part") (hx _ (by simp [xtra, aoCs]))
  obtain ⟨at_, at1, at2⟩ := arr_ofO (C := "PressbrakeLane$Tool") (hx _ (by simp [xtra, aoCs]))
  obtain ⟨ab, ab1, ab2⟩ := arr_ofO (C := "PressbrakeLane$Batch") (hx _ (by simp [xtra, aoCs]))
  have hA : ∀ a : Nat, a < s.heap.size → ¬ (fun q : Nat => s.heap.size ≤ q) a := fun a h => Nat.not_le.mpr h
  refine ⟨(dC, dI), fun k => if k = 0 then ai else if k = 1 then ap else if k = 2 then at_ else ab, ⟨⟨hKc, fun k q hq => ?_⟩, fun q hq => ?_, fun q hq => ?_, ⟨fun y hy => ?_, fun x hx9 => ?_, fun x hx9 => ?_⟩, ?_, ?_⟩, fun q hq => ?_⟩
  · match k, hq with
    | 0, hq => cases hq; exact ⟨ai1, ai2⟩
    | 1, hq => cases hq; exact ⟨ap1, ap2⟩
    | 2, hq => cases hq; exact ⟨at1, at2⟩
    | 3, hq => cases hq; exact ⟨ab1, ab2⟩
    | k + 4, hq => simp [tysX] at hq
  · exact va_Nw.of rfl (hx _ (List.mem_append_left _ (List.mem_map.mpr ⟨q, hq, rfl⟩)))
  · have h1 := hx _ (List.mem_append_right _ (List.mem_append_left _ (List.mem_map.mpr ⟨q, hq, rfl⟩)))
    obtain ⟨kC, hkC, -⟩ : ∃ c, s.vm.findClass RX8 = some c ∧ True := ⟨_, hK8.2.1, trivial⟩
    obtain ⟨-, -, -, sa, -, -, -, -, -, hev⟩ := Cond.stringRef_spec hkC h1
    exact ⟨sa, vk_R.of h1 hev⟩
  · exact va_Nw.of rfl (hx _ (List.mem_append_right _ (List.mem_append_right _ (List.mem_append_left _ (List.mem_map.mpr ⟨y, hy, rfl⟩)))))
  · exact va_Nw.of rfl (hx _ (List.mem_append_right _ (List.mem_append_right _ (List.mem_append_right _ (List.mem_append_left _ (List.mem_map.mpr ⟨x, hx9, rfl⟩))))))
  · exact va_AO.of (A := #[Value.ref b]) (hx _ (List.mem_append_right _ (List.mem_append_right _ (List.mem_append_right _ (List.mem_append_right _ (List.mem_append_left _ (List.mem_map.mpr ⟨x, hx9, rfl⟩)))))))
  · exact vx_Zqof (args := #[Value.ref b]) (hx _ (by simp [xtra])) (hx (Cond.initialized Bundle.tN) (by simp [xtra])) (hfl _ (by decide +kernel)) hA
  · exact vx_Zqof (args := #[Value.ref b]) (hx _ (by simp [xtra])) (hx (Cond.initialized Bundle.tN) (by simp [xtra])) (hfl _ (by decide +kernel)) hA
  · have h9 : ∀ q ∈ ncs, (Cond.not (.castable q.1 q.2)).before #[Value.ref b] s = true := by
      intro q hq
      simp only [ncs, List.mem_cons, List.not_mem_nil, or_false] at hq
      rcases hq with rfl | rfl | rfl | rfl | rfl | rfl <;> exact hfl _ (by decide +kernel)
    exact va_Nc.of (h9 q hq)
set_option maxHeartbeats 1000000 in
theorem law_whole {p : Program} {e : Env} {s : State} {m : MethodId} {below : List Frame} {meth : Method} {c : Code} (l : Launch) (hflags : l.flags = flags0) (hAct : ∀ v, W2 (fun S => fL_act S v)) (hA2 : A2) (hSo : ∀ S T, Tw S T → SoP S) (hT0 : Tw S0 S0) {b L : Nat} {xs : Nat → Int32} (hL : L ≤ 260) (C0 : lw_At p s m meth c b L xs) : W p l e room_1 s m #[Value.ref b] below meth c s.heap [] 0 0 (lw_Z below #[Value.ref b] s) (entryFrame m ([Value.ref b] : List Value).toArray 7) := by
  obtain ⟨hx, hb, hr, hml, hown, hts, hX, hbl, hlocks, hgv⟩ := C0
  have hT : l.stackTraces = false := by
    unfold Launch.stackTraces
    rw [hflags]
    decide +kernel
  obtain ⟨D, cs, hK, hN⟩ := kk_start hts hgv
  have hl := lv_entry ([.ref b]) (n := 7) (Nat.le_of_ble_eq_true rfl)
  rw [lg_entry_eq]
  generalize (lg_sl ([.ref b]) ++ List.replicate (7 - (lg_sl ([.ref b])).length) Slot.unset).toArray = ls at hl ⊢
  have hl : lv_has ls 7 [(0, .ref b)] := hl
  have hnil : va_P D vwCl (wE 0 s.heap.size (fun _ => .inr (0, []))) s.heap := by
    intro k q hk
    rw [wE_no (Nat.not_lt_zero k)] at hk
    cases hk
  exact law_start (E := ((p, l, e, room_1), (s, m, #[Value.ref b], below), (meth, c, 7, lw_Z below #[Value.ref b] s), (D, cs, fun q => s.heap.size ≤ q))) hAct hA2 hSo hT0
    ⟨hx, hb, hml, rfl, rfl, hown, fun w hw => hts w (wsL_law_in w hw), hK, fun q h => h, hT, hlocks⟩ hN ⟨hX, hbl, Nat.not_le.mpr hbl, hL⟩ rfl rfl
    (fun H ls => lw_ret hx hb hr hlocks dL_law_93) s.heap [] ls ⟨trivial, hnil, va_S.rf, rfl⟩ hl
