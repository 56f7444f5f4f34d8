/-! ===== the turns found anew ===== -/
theorem anew_X {S : St} {n : Nat} {dn : Nat → Nat} {w : Nat → Nat → Nat} {rs : Nat → Nat → Int32} (hn : n < 6) (hd2 : ∀ i, i < n → dn i < 2) (hP : PX n rs dn S) (hw : SPW n (canB rs) dn w) : ∀ (fu d a : Nat), d < 2 ^ n → a < 3 → n - cn n d < fu → fX5_fewestBeyond fu S (nI d) (nI a) (nI (cn n d)) = some (enc (w d a)) := by
  have h32 := bf_5 hn
  have hcn : ∀ d, d < 2 ^ n → cn n d ≤ n := fun d hd => (by decide +kernel : ∀ n, n < 6 → ∀ d, d < 2 ^ n → cn n d ≤ n) n hn d hd
  intro fu
  induction fu with
  | zero => intro d a _ _ h; omega
  | succ fu ih =>
    intro d a hd ha hf
    show fX5_fewestBeyond_b (fX5_fewestBeyond fu) S (nI d) (nI a) (nI (cn n d)) = _
    unfold fX5_fewestBeyond_b
    rw [hP.1]
    have hcl := hcn d hd
    by_cases q : d = 2 ^ n - 1
    · have hc := (cf_1 hn hd).mpr q
      rw [if_neg (nI_nlt (by omega) (by omega)), hw d hd a, if_pos q]
      rfl
    · have hc : cn n d < n := by
        have := (cf_1 hn hd)
        by_cases z : cn n d = n
        · exact absurd (this.mp z) q
        · omega
      rw [if_pos (nI_lt hc (by omega))]
      have key : ∀ m i k, i + m = n → m < k → lq2 (fX5_fewestBeyond_L16 S (nI d) (fX5_fewestBeyond fu) (nI (cn n d)) (nI a)) k (enc (mnf (cst w (canB rs) dn d a) i)) (nI i) = some (enc (mnf (cst w (canB rs) dn d a) n)) := by
        intro m
        induction m with
        | zero =>
          intro i k hi hk
          obtain ⟨k, rfl⟩ : ∃ q, k = q + 1 := ⟨k - 1, by omega⟩
          obtain rfl : i = n := by omega
          rw [lq2_1, fX5_fewestBeyond_L16, hP.1, if_pos (nI_le (by omega) (by omega))]
        | succ m ihm =>
          intro i k hi hk
          obtain ⟨k, rfl⟩ : ∃ q, k = q + 1 := ⟨k - 1, by omega⟩
          have hrec := ihm (i + 1) k (by omega) (by omega)
          have hin : i < n := by omega
          have hd2i := hd2 i hin
          have hml := mnf_le (c := cst w (canB rs) dn d a) i
          have hsel : bn1 (fX8_hasBit (gi S 16 d) (nI i)) (fun v9 => bn1 (if v9 = 0 then some (enc (mnf (cst w (canB rs) dn d a) i)) else gd (inb (nI i) 5) (bn1 (fX5_fewestBeyond fu S (nI d ||| ((1 : Int32) <<< (nI i &&& 31))) (gi S 18 i) (nI (cn n d) + 1)) (fun (v16 : Int32) => if v16 = (-1 : Int32) then some (enc (mnf (cst w (canB rs) dn d a) i)) else jn0 (bn1 (fX5_turn S (nI a) (nI i)) (fun (v18 : Int32) => bv ((v16 + v18)) (fun (v19 : Int32) => some v19))) (fun J21 => if enc (mnf (cst w (canB rs) dn d a) i) = (-1 : Int32) then J21 else bn1 (fX5_turn S (nI a) (nI i)) (fun (v23 : Int32) => if enc (mnf (cst w (canB rs) dn d a) i) ≤ (v16 + v23) then some (enc (mnf (cst w (canB rs) dn d a) i)) else J21))))) (fun v10 => some v10)) = some (enc (mnf (cst w (canB rs) dn d a) (i + 1))) := by
            rw [hP.2.2 d hd, hasBit_N (mkb_lt n (by omega)) (by omega), mkb_bt (show i < 5 by omega) n (by omega), decide_eq_true hin, Bool.and_true, mnf]
            simp only [bn1_s]
            cases hcb : canB rs d i
            · have hcs : cst w (canB rs) dn d a i = 99 := by unfold cst; rw [hcb]; rfl
              rw [if_pos (by decide), hcs, show min (mnf (cst w (canB rs) dn d a) i) 99 = mnf (cst w (canB rs) dn d a) i by omega]
              rfl
            · obtain ⟨z1, z2⟩ := bf_4 hn hd hin
              have hbd := spw_b90 hn canB_b hw (ob d i) (dn i) z1
              have hcs : cst w (canB rs) dn d a i = min 99 (w (ob d i) (dn i) + tc dn a i) := by unfold cst; rw [hcb]; rfl
              have htc : tc dn a i ≤ 1 := by unfold tc; split <;> omega
              have hcn2 := cf_2 hn hd hin (canB_b _ _ hcb)
              have hself := ih (ob d i) (dn i) z1 (by omega) (by omega)
              rw [hcn2] at hself
              rw [if_neg (by decide), gd_t (inb_nI (by omega) (by omega)), bf_2 (by omega) (by omega), hP.2.1 i hin, nI_1, hself, turn_X hn hin ha hd2i (hP.2.1 i hin), hcs]
              simp only [bn1_s, jn0, bv]
              rcases hbd with y | y
              · rw [if_pos ((enc_1 (by omega)).mpr y), y, show min (mnf (cst w (canB rs) dn d a) i) (min 99 (99 + tc dn a i)) = mnf (cst w (canB rs) dn d a) i by omega]
                rfl
              · have e1 : enc (w (ob d i) (dn i)) = nI (w (ob d i) (dn i)) := if_neg (by omega)
                rw [if_neg (fun z => by have := (enc_1 (by omega)).mp z; omega), e1, nI_add]
                have e2 : enc (w (ob d i) (dn i) + tc dn a i) = nI (w (ob d i) (dn i) + tc dn a i) := if_neg (by omega)
                by_cases q2 : mnf (cst w (canB rs) dn d a) i = 99
                · rw [if_pos ((enc_1 (by omega)).mpr q2), q2, show min 99 (min 99 (w (ob d i) (dn i) + tc dn a i)) = w (ob d i) (dn i) + tc dn a i by omega, e2]
                  rfl
                · have e3 : enc (mnf (cst w (canB rs) dn d a) i) = nI (mnf (cst w (canB rs) dn d a) i) := if_neg q2
                  rw [if_neg (fun z => q2 ((enc_1 (by omega)).mp z)), e3]
                  by_cases q3 : mnf (cst w (canB rs) dn d a) i ≤ w (ob d i) (dn i) + tc dn a i
                  · rw [if_pos (nI_le q3 (by omega)), show min (mnf (cst w (canB rs) dn d a) i) (min 99 (w (ob d i) (dn i) + tc dn a i)) = mnf (cst w (canB rs) dn d a) i by omega, e3]
                    rfl
                  · rw [if_neg (nI_ge (by omega) (by omega)), show min (mnf (cst w (canB rs) dn d a) i) (min 99 (w (ob d i) (dn i) + tc dn a i)) = w (ob d i) (dn i) + tc dn a i by omega, e2]
                    rfl
          rw [lq2_1, fX5_fewestBeyond_L16, hP.1, if_neg (nI_ge (by omega) (by omega)), gd_t (inb_nI (show d < 32 by omega) (by omega)), nI_clamp (n := d) (by omega), nI_clamp (n := i) (by omega)]
          cases hb : fX8_hasBit (gi S 16 d) (nI i) with
          | none => rw [hb] at hsel; cases hsel
          | some vb =>
            rw [hb] at hsel
            simp only [bn1_s] at hsel ⊢
            obtain ⟨v, hv1, hv2⟩ := bn1_of hsel
            cases hv2
            rw [hv1]
            simp only [bn1_s, bv, nI_1]
            exact hrec
      have hk := key n 0 200 (by omega) (by omega)
      rw [nI_0] at hk
      rw [show lq2 (fX5_fewestBeyond_L16 S (nI d) (fX5_fewestBeyond fu) (nI (cn n d)) (nI a)) 200 (-1) 0 = some (enc (mnf (cst w (canB rs) dn d a) n)) from hk, hw d hd a, if_neg q]
      rfl
theorem ag_flipsAnew : Ag_flipsAnew Rel := by
  intro S M hR p1 p2
  have hR' := hR
  obtain ⟨P, T, B, F, hN⟩ := hR
  obtain ⟨⟨a1, a2, a3, a4⟩, ⟨b1, b2, b3, b4⟩, c1, c2, c3, c4⟩ := hN.1
  rcases part_cs b1 c1 a1 p1 with ⟨p, hp, rfl, e1, e2⟩ | ⟨e1, e2⟩
  rotate_left
  · refine Or.inr ⟨0, S, si M 0 0 1, ?_, ?_, rfl, hR'.thr, scrM_t⟩
    · unfold fX8_flipsAnew
      rw [e1]; rfl
    · unfold fX9_flipsAnew jn0
      rw [e2]; rfl
  rcases tool_cs b2 c2 a2 p2 with ⟨t, ht, rfl, g1, g2⟩ | ⟨g1, g2⟩
  rotate_left
  · refine Or.inr ⟨0, S, si M 0 0 1, ?_, ?_, rfl, hR'.thr, scrM_t⟩
    · unfold fX8_flipsAnew
      rw [e1, g1]; rfl
    · unfold fX9_flipsAnew jn0
      rw [e2, g2]; rfl
  obtain ⟨n, dn, w, rs, L, Dr, hO⟩ := (RelN.thr (k := 0) hN).oc hp ht
  obtain ⟨M', y1, -, y2, y3⟩ := hO.turns
  obtain ⟨⟨hn, hp8, ht4⟩, ⟨s1, s2, s3⟩, d1, d2, hw, m1, m2⟩ := hO
  have h32 := bf_5 hn
  obtain ⟨S', x1, ⟨x2, x3, x4⟩, x5⟩ := look_eq hn (by omega) s1 s2 s3
  have hPX : PX n rs dn S' := ⟨x2, fun i hi => by rw [x3 i hi]; exact d1 i hi, x4⟩
  have hv := anew_X hn d2 hPX hw 8 0 2 h32.2 (by omega) (by omega)
  rw [cf_0 hn] at hv
  left
  refine ⟨enc (w 0 2), S', M', ?_, ?_, ?_, hR'.keep x5 ((scrM_t (k := 0)).tr y2)⟩
  · unfold fX8_flipsAnew fX5_fewestOfAll
    rw [e1, g1]
    simp only [bx, x1, bn1_s]
    rw [show fX5_fewestBeyond 8 S' 0 2 0 = some (enc (w 0 2)) from hv]
    rfl
  · unfold fX9_flipsAnew jn0
    rw [e2, g2]
    simp only [bn1_s, if_neg (show ¬ (1 : Int32) = 0 by decide), well_0, bn2_s, y1]
  · unfold fX9_thrown
    rw [y3, gi_eq]
