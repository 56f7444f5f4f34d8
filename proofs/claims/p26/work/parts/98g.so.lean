/-! ===== what is so of a lane that is as a model ===== -/
theorem canB_r {rs : Nat → Nat → Int32} {d i : Nat} (h : canB rs d i = true) : rs d i = 0 := by
  have hb := canB_b d i h
  unfold canB at h
  rw [hb] at h
  exact of_decide_eq_true h
theorem OC.keepX {p t n : Nat} {dn : Nat → Nat} {w : Nat → Nat → Nat} {rs : Nat → Nat → Int32} {L Dr : Nat → Int32} {S S' M : St} (h : OC p t n dn w rs L Dr S M) (hS : scrX S S') : OC p t n dn w rs L Dr S' M := by
  obtain ⟨⟨hn, hp, ht⟩, ⟨s1, ⟨d1, d2⟩, s3⟩, r⟩ := h
  exact ⟨⟨hn, hp, ht⟩, ⟨by rw [hS _ _ (by omega)]; exact s1, ⟨fun i hi => by rw [hS _ _ (by omega)]; exact d1 i hi, fun i hi => by rw [hS _ _ (by omega)]; exact d2 i hi⟩, fun S1 h1 => s3 S1 (hS.tr h1)⟩, r⟩
section SO
variable {P T B F : Nat} {S M : St}
theorem orp_of (hN : RelN P T B F S M) {p : Nat} (hp : p < P) (hT : 0 < T) : ∃ (n : Nat) (f : Int32) (bs ds : Nat → Nat), OrP p S n f bs ds ∧ ∀ S1, scrX S S1 → ∃ S2, fX8_flipsAnew S1 (nI p) 0 = some (.inr f, S2) ∧ scrX S S2 := by
  obtain ⟨n, dn, w, rs, L, Dr, hO⟩ := hN.oc hp hT
  have a1 := hN.1.1
  obtain ⟨⟨hn, hp8, ht4⟩, -, d1, d2, hw, m1, m2⟩ := id hO
  have h32 := bf_5 hn
  have hpa : ∀ S1, scrX S S1 → fX8_partAt S1 (nI p) = some (.inr (29 + 7 * p)) := fun S1 h => partAt_in (hN.keep h scrM_r).1.2.1.1 a1.1 hp
  have hta : ∀ S1, scrX S S1 → fX8_toolAt S1 0 = some (.inr (85 + 2 * 0)) := fun S1 h => toolAt_0 (hN.keep h scrM_r).1.2.1.2.1 a1.2.1 hT
  have hbd := spw_b90 hn canB_b hw 0 2 h32.2
  have hwn : w 0 2 = 99 ∨ w 0 2 ≤ n := by
    have := spw_n hn canB_b hw (2 ^ n) 0 2 h32.2 (by omega)
    rw [cf_0 hn] at this
    omega
  have h99 : enc (w 0 2) < 0 ↔ w 0 2 = 99 := by
    constructor
    · intro z
      refine Classical.byContradiction (fun q => ?_)
      rw [show enc (w 0 2) = nI (w 0 2) from if_neg q] at z
      exact nI_pos (by omega) z
    · intro z
      rw [z]; decide
  refine ⟨n, enc (w 0 2), fun k => pj n (canB rs) dn w (pd n (canB rs) dn w k), fun k => (pd n (canB rs) dn w k).1, ⟨hn, fun S1 h => ?_, fun S1 h => ?_, fun hf S1 h => ?_, fun hf => ⟨?_, rfl, fun S1 h => ?_, fun k hk => ?_⟩⟩, fun S1 h => ?_⟩
  · have hO1 := hO.keepX h
    unfold fX8_told
    rw [hpa S1 h]
    simp only [bx]
    rw [hO1.2.1.1]
    rfl
  · obtain ⟨S2, x1, x2, -, -, x3⟩ := (hO.keepX h).plan
    refine ⟨S2, ?_, h.tr x3⟩
    unfold fX8_flips
    rw [hpa S1 h, hta S1 h]
    simp only [bx, x1, bn1_s, x2]
  · obtain ⟨S2, x1, x2, x3, -, x5⟩ := (hO.keepX h).plan
    refine ⟨S2, ?_, h.tr x5⟩
    unfold fX8_ordered
    rw [hpa S1 h, hta S1 h]
    simp only [bx, if_pos (show (0 : Int32) ≤ 0 by decide), x1, bn1_s, x3, if_pos (h99.mp hf)]
  · have q : ¬ w 0 2 = 99 := fun z => hf (h99.mpr z)
    rw [show enc (w 0 2) = nI (w 0 2) from if_neg q]
    exact nI_lt (by omega) (by omega)
  · have q : ¬ w 0 2 = 99 := fun z => hf (h99.mpr z)
    obtain ⟨S2, x1, x2, x3, -, x5⟩ := (hO.keepX h).plan
    refine ⟨S2, ?_, h.tr x5⟩
    unfold fX8_ordered
    rw [hpa S1 h, hta S1 h]
    simp only [bx, if_pos (nI_pos' (show n < 2 ^ 31 by omega)), x1, bn1_s, x3, if_neg q, if_pos (show nI n ≤ nI n from nI_le (Nat.le_refl n) (by omega))]
  · have q : ¬ w 0 2 = 99 := fun z => hf (h99.mpr z)
    obtain ⟨z1, z2, z3, z4⟩ := pd_ok hn canB_b d2 hw q k (by omega)
    have hfull : (pd n (canB rs) dn w k).1 ≠ 2 ^ n - 1 := fun z => by
      have := (cf_1 hn z1).mpr z
      omega
    obtain ⟨y1, y2, y3⟩ := pj_ok hn z1 hw z4 hfull
    have y1 : pj n (canB rs) dn w (pd n (canB rs) dn w k) < n := y1
    have y2 : canB rs (pd n (canB rs) dn w k).1 (pj n (canB rs) dn w (pd n (canB rs) dn w k)) = true := y2
    have yb := canB_b _ _ y2
    have yr : rs (pd n (canB rs) dn w k).1 (pj n (canB rs) dn w (pd n (canB rs) dn w k)) = 0 := canB_r y2
    refine ⟨⟨by show pj n (canB rs) dn w (pd n (canB rs) dn w k) < 5; omega, by show (pd n (canB rs) dn w k).1 < 32; omega, yb, rfl⟩, fun S1 h => ?_, fun S1 h => ?_⟩
    · obtain ⟨S2, x1, x2, x3, x4, x5⟩ := (hO.keepX h).plan
      refine ⟨S2, ?_, h.tr x5⟩
      unfold fX8_ordered
      rw [hpa S1 h, hta S1 h]
      simp only [bx, if_pos (nI_pos' (show k < 2 ^ 31 by omega)), x1, bn1_s, x3, if_neg q, if_neg (show ¬ nI n ≤ nI k from nI_ge hk (by omega)), gd_t (inb_nI (show k < 5 by omega) (by omega)), nI_clamp (show k < 2 ^ 31 by omega), x4 q k hk]
    · have hO1 := hO.keepX h
      obtain ⟨S2, e1, e2⟩ := hO1.2.1.2.2 S1 scrX_r (pd n (canB rs) dn w k).1 z1 (pj n (canB rs) dn w (pd n (canB rs) dn w k)) y1 yb
      refine ⟨S2, ?_, h.tr (fun k j hk => e2 k j (by omega))⟩
      rw [yr] at e1
      unfold fX8_why
      rw [hpa S1 h, hta S1 h]
      simp only [bx, bend_in (f := n + 1) (by omega) (by omega) hO1.2.1.1 (show pj n (canB rs) dn w (pd n (canB rs) dn w k) + 1 < n + 1 by omega), done_in (f := n + 1) (by omega) (by omega) hO1.2.1.1 z1 (show pj n (canB rs) dn w (pd n (canB rs) dn w k) < 5 by omega) yb, e1, bn2_s]
  · obtain ⟨-, ⟨s1, s2, s3⟩, -⟩ := hO.keepX h
    obtain ⟨S2, x1, ⟨x2, x3, x4⟩, x5⟩ := look_eq hn (by omega) s1 s2 s3
    have hPX : PX n rs dn S2 := ⟨x2, fun i hi => by rw [x3 i hi]; exact d1 i hi, x4⟩
    have hv := anew_X hn d2 hPX hw 8 0 2 h32.2 (by omega) (by omega)
    rw [cf_0 hn] at hv
    refine ⟨S2, ?_, h.tr x5⟩
    unfold fX8_flipsAnew fX5_fewestOfAll
    rw [hpa S1 h, hta S1 h]
    simp only [bx, x1, bn1_s]
    rw [show fX5_fewestBeyond 8 S2 0 2 0 = some (enc (w 0 2)) from hv]
    rfl
theorem partp_of (hN : RelN P T B F S M) {p : Nat} (hp : p < P) (hT : 0 < T) : PartP p S := by
  refine ⟨orp_of hN hp hT, fun S1 h => ?_⟩
  have hN1 := hN.keep h scrM_r
  have a1 := hN1.1.1
  have hpa : fX8_partAt S1 (nI p) = some (.inr (29 + 7 * p)) := partAt_in hN1.1.2.1.1 a1.1 hp
  have hp1 := hN1.2.2.1 p hp
  obtain ⟨f, th, hh, hb, ⟨d1, d2'⟩, d3, ⟨d4, d5⟩, ⟨d6, d7⟩, d8, ⟨d9, d10⟩, -⟩ := id hp1
  obtain ⟨c, c1, c2⟩ := nears_le (show p < 8 by omega) hp1 d9 d10 (by omega) hh 0 200 0 (by omega) (by omega)
  rw [nI_0] at c2
  obtain ⟨k, k1, k2⟩ := kits_le (x := (1 : Int32) <<< (nI p &&& 31)) hN1
  refine ⟨nI c, nI hh, gI (nI k), ?_, ?_, nI_le (by omega) (by omega), ?_, gI_pos (by omega)⟩
  · unfold fX8_told
    rw [hpa]
    simp only [bx]
    unfold fX4_nearHoles
    rw [c2]
    rfl
  · unfold fX8_told
    rw [hpa]
    simp only [bx]
    rw [d9]
    rfl
  · unfold fL_kits
    rw [onS_of (r := Sum.inr (nI k))]
    · rfl
    · unfold fX8_kits
      rw [kit_in hN1.1.2.1.1 a1.1 hp]
      simp only [bx, k2, bn1_s]
theorem so_1 (hN : RelN P T B F S M) : ∀ p, p < 8 → ∀ S1, scrX S S1 → ∃ r, fL_told S1 (nI p) 0 = some (r, S1) ∧ (¬ r < 0 → ∃ r2, fL_blank S1 (nI p) 0 = some (r2, S1) ∧ (¬ r2 < 0 → PartP p S)) := by
  intro p hp8 S1 h
  have hN1 := hN.keep h scrM_r
  have a1 := hN1.1.1
  by_cases hp : p < P
  · have hpa : fX8_partAt S1 (nI p) = some (.inr (29 + 7 * p)) := partAt_in hN1.1.2.1.1 a1.1 hp
    refine ⟨gI (gi S1 (29 + 7 * p) 3), ?_, fun _ => ?_⟩
    · unfold fL_told
      rw [onS_of (r := Sum.inr (gi S1 (29 + 7 * p) 3))]
      · rfl
      · unfold fX8_told
        rw [hpa]
        rfl
    · by_cases hT : 0 < T
      · obtain ⟨w, -, -, w1, -⟩ := blank_eq (p := p) (t := 0) (by omega) (by omega) (hN1.2.2.1 p hp) (hN1.2.2.2.1 0 hT)
        refine ⟨gI (nI w), ?_, fun _ => partp_of hN hp hT⟩
        unfold fL_blank
        rw [onS_of (r := Sum.inr (nI w))]
        · rfl
        · unfold fX8_blank
          rw [hpa, toolAt_0 hN1.1.2.1.2.1 a1.2.1 hT]
          simp only [bx, w1, bn1_s]
      · obtain rfl : T = 0 := by omega
        refine ⟨XX, ?_, fun z => absurd XX_neg z⟩
        unfold fL_blank
        rw [onS_of (r := Sum.inl "java/lang/IndexOutOfBoundsException")]
        · exact wrp_x (List.mem_of_getElem? (i := 0) rfl)
        · unfold fX8_blank
          rw [hpa, toolAt_no hN1.1.2.1.2.1]
          rfl
  · refine ⟨XX, ?_, fun z => absurd XX_neg z⟩
    unfold fL_told
    rw [onS_of (r := Sum.inl "java/lang/IndexOutOfBoundsException")]
    · exact wrp_x (List.mem_of_getElem? (i := 0) rfl)
    · unfold fX8_told
      rw [partAt_out hN1.1.2.1.1 a1.1 (by omega) (by omega)]
      rfl
theorem so_2 (hN : RelN P T B F S M) : ∀ b, b < 20 → ∀ S1, scrX S S1 → ∃ r, fL_batchOf S1 (nI b) 0 = some (r, S1) ∧ (r ≠ XX → r ≤ 3 ∧ ∃ v1 v3 : Int32, fX8_batchOf S1 (nI b) 1 = some (.inr v1) ∧ fX8_batchOf S1 (nI b) 3 = some (.inr v3) ∧ ¬ v1 < 0 ∧ ¬ v3 ≤ 0) := by
  intro b hb20 S1 h
  have hN1 := hN.keep h scrM_r
  have a1 := hN1.1.1
  by_cases hb : b < B
  · have hba : fX8_batchAt S1 (nI b) = some (.inr (93 + b)) := batchAt_in hN1.1.2.1.2.2.1 a1.2.2.1 hb
    obtain ⟨p, t, n, u, ⟨x1, x2, x3, x4⟩, ⟨y1, y2⟩, ⟨y3, y4⟩, ⟨y5, y6⟩, ⟨y7, y8⟩, y9, y10⟩ := hN1.2.2.2.2.2.1 b hb
    refine ⟨gI (nI u), ?_, fun _ => ⟨?_, nI n, gi S1 (93 + b) 5, ?_, ?_, nI_pos (by omega), ?_⟩⟩
    · unfold fL_batchOf
      rw [onS_of (r := Sum.inr (nI u))]
      · rfl
      · unfold fX8_batchOf
        rw [hba]
        simp only [bx]
        rw [y5]
        rfl
    · rcases (show u = 0 ∨ u = 1 ∨ u = 2 ∨ u = 3 by omega) with rfl | rfl | rfl | rfl <;> decide +kernel
    · unfold fX8_batchOf
      rw [hba]
      simp only [bx]
      rw [y7]
      rfl
    · unfold fX8_batchOf
      rw [hba]
      rfl
    · rw [y10.1]
      exact i_nle.mpr y10.2
  · refine ⟨XX, ?_, fun z => absurd rfl z⟩
    unfold fL_batchOf
    rw [onS_of (r := Sum.inl "java/lang/IndexOutOfBoundsException")]
    · exact wrp_x (List.mem_of_getElem? (i := 0) rfl)
    · unfold fX8_batchOf
      rw [batchAt_out hN1.1.2.1.2.2.1 a1.2.2.1 (by omega) (by omega)]
      rfl
theorem nest_at (hN : RelN P T B F S M) (hT : 0 < T) : ∃ V : Int32 → Int64, VP 900 400 V ∧ ∀ S1, scrX S S1 → ∀ what : Int32, (0 ≤ what ∧ what ≤ 3) → ∃ S2, fX8_nest S1 0 900 400 what = some (.inr (V what), S2) ∧ scrX S S2 := by
  obtain ⟨V, S', M', x1, x2, x3, x4, x5, x6⟩ := nest_eq (all := 900) (wide := 400) hN hT
  refine ⟨V, x6, fun S1 h what hw => ?_⟩
  have hN1 := hN.keep h scrM_r
  obtain ⟨V1, S2, M1, y1, y2, y3, y4, y5, y6⟩ := nest_eq (all := 900) (wide := 400) hN1 hT
  have e : V1 what = V what := by
    have := (y2 what).symm.trans (x2 what)
    exact (Prod.mk.inj (Option.some.inj this)).1
  refine ⟨S2, ?_, h.tr y4⟩
  unfold fX8_nest
  rw [toolAt_0 hN1.1.2.1.2.1 hN1.1.1.2.1 hT]
  simp only [bx]
  rw [nest_X.1 ⟨⟨by decide, by decide⟩, ⟨by decide, by decide⟩, by decide, hw⟩, ← e]
  exact y1 what
theorem nest_num {V : Int32 → Int64} (h : VP 900 400 V) (h0 : ¬ V 0 < 0) : ¬ V 1 < V 0 ∧ V 3 < (360000 : Int64) * V 0 + 1 := by
  rcases h with h | ⟨H, R, u, hR, hR40, u0, u1, e0, e1, e3⟩
  · rw [h] at h0
    exact absurd (by decide +kernel) h0
  · have f0 : V 0 = lN H := by rw [e0, nI_l (by omega)]
    have f1 : V 1 = lN R := by rw [e1, nI_l (by omega)]
    have f3 : V 3 = lN (H * 900 * 400) - u := by
      rw [e3, nI_l (by omega), show (Int32.toInt64 900) = lN 900 from by decide +kernel, show (Int32.toInt64 400) = lN 400 from by decide +kernel, lN_mul, lN_mul]
    have f4 : (360000 : Int64) * V 0 + 1 = lN (360000 * H) + lN 1 := by
      rw [f0, show (360000 : Int64) = lN 360000 from by decide +kernel, lN_mul, show (1 : Int64) = lN 1 from by decide +kernel]
    constructor
    · rw [f0, f1, Int64.lt_iff_toInt_lt, lN_toInt (by omega), lN_toInt (by omega)]
      omega
    · rw [f3, f4, Int64.lt_iff_toInt_lt, Int64.toInt_sub, Int64.toInt_add, lN_toInt (by omega), lN_toInt (by omega), lN_toInt (by omega), Int.bmod_eq_of_le (by omega) (by omega), Int.bmod_eq_of_le (by omega) (by omega)]
      omega
theorem so_3 (hN : RelN P T B F S M) : ∃ r0 r1 r3 : Int64, (∀ S1, scrX S S1 → ∃ S2, fL_nest S1 0 900 400 0 = some (r0, S2) ∧ scrX S S2) ∧ (¬ r0 < 0 → (∀ S1, scrX S S1 → ∃ S2, fL_nest S1 0 900 400 1 = some (r1, S2) ∧ scrX S S2) ∧ (∀ S1, scrX S S1 → ∃ S2, fL_nest S1 0 900 400 3 = some (r3, S2) ∧ scrX S S2) ∧ ¬ r1 < r0 ∧ r3 < (360000 : Int64) * r0 + 1) := by
  by_cases hT : 0 < T
  · obtain ⟨V, hV, hn⟩ := nest_at hN hT
    have key : ∀ what : Int32, (0 ≤ what ∧ what ≤ 3) → ∀ S1, scrX S S1 → ∃ S2, fL_nest S1 0 900 400 what = some (V what, S2) ∧ scrX S S2 := fun what hw S1 h => by
      obtain ⟨S2, e1, e2⟩ := hn S1 h what hw
      refine ⟨S2, ?_, e2⟩
      unfold fL_nest
      rw [e1]
      rfl
    exact ⟨V 0, V 1, V 3, key 0 (by decide), fun z => ⟨key 1 (by decide), key 3 (by decide), nest_num hV z⟩⟩
  · obtain rfl : T = 0 := by omega
    refine ⟨XX, XX, XX, fun S1 h => ⟨S1, ?_, h⟩, fun z => absurd XX_neg z⟩
    have hN1 := hN.keep h scrM_r
    unfold fL_nest
    rw [show fX8_nest S1 0 900 400 0 = some (.inl "java/lang/IndexOutOfBoundsException", S1) from by unfold fX8_nest; rw [toolAt_no hN1.1.2.1.2.1]; rfl]
    exact wrp_x (List.mem_of_getElem? (i := 0) rfl)
theorem so_4 (hN : RelN P T B F S M) : ∀ S1, scrX S S1 → fL_told S1 8 0 = some (XX, S1) ∧ fL_batchOf S1 20 0 = some (XX, S1) := by
  intro S1 h
  have hN1 := hN.keep h scrM_r
  have a1 := hN1.1.1
  constructor
  · unfold fL_told
    rw [onS_of (r := Sum.inl "java/lang/IndexOutOfBoundsException")]
    · exact wrp_x (List.mem_of_getElem? (i := 0) rfl)
    · unfold fX8_told
      rw [show (8 : Int32) = nI 8 from rfl, partAt_out hN1.1.2.1.1 a1.1 a1.1 (by omega)]
      rfl
  · unfold fL_batchOf
    rw [onS_of (r := Sum.inl "java/lang/IndexOutOfBoundsException")]
    · exact wrp_x (List.mem_of_getElem? (i := 0) rfl)
    · unfold fX8_batchOf
      rw [show (20 : Int32) = nI 20 from rfl, batchAt_out hN1.1.2.1.2.2.1 a1.2.2.1 a1.2.2.1 (by omega)]
      rfl
end SO
theorem so_tw : ∀ S T, Tw S T → SoP S := by
  intro S T hST
  obtain ⟨M, ⟨P, T', B, F, hN⟩, -⟩ := hST
  exact ⟨so_1 hN, so_2 hN, so_3 hN, so_4 hN⟩
