/-! ===== the reference's methods as functions (out of part 30 of whole) ===== -/
def fX9_blankBy_L5 (p1 : Int32) (S : St) (next3 : Int32 → Int32 → Option (Int32)) (v1 : Int32) (v2 : Int32) : Option (Int32) :=
  gd (inb p1 8) (
  if (gi S 3 p1.toNatClampNeg) ≤ v2 then (
    some v1)
  else (
    gd (inb (((6 : Int32) * p1) + v2) 48) (
    bv ((v1 + (gi S 4 (((6 : Int32) * p1) + v2).toNatClampNeg))) (fun (v12 : Int32) =>
    bv (v2 + 1) (fun (v14 : Int32) =>
    next3 v12 v14)))))
def fX9_blankBy (S : St) (p1 : Int32) (p2 : Int32) : Option (Int32) :=
  bn1 (lq2 (fX9_blankBy_L5 p1 S) 200 (0 : Int32) (0 : Int32)) (fun (v4 : Int32) =>
    gd (inb p1 8) (
    gd (inb (((5 : Int32) * p2) + (gi S 7 p1.toNatClampNeg)) 20) (
    gd (inb p1 8) (
    some ((v4 - ((gi S 18 (((5 : Int32) * p2) + (gi S 7 p1.toNatClampNeg)).toNatClampNeg) * ((gi S 3 p1.toNatClampNeg) - (1 : Int32)))))))))
def fX9_draw_L13 (p1 : Int32) (next6 : Int32 → St → Option (St)) (v4 : Int32) (S5 : St) : Option (St) :=
  if (gi S5 0 1) ≤ v4 then (
    some S5)
  else (
    gd (inb v4 6) (
    gd (inb (((6 : Int32) * p1) + v4) 48) (
    bv (si S5 4 (((6 : Int32) * p1) + v4).toNatClampNeg (gi S5 1 v4.toNatClampNeg)) (fun (S23 : St) =>
    gd (inb v4 6) (
    gd (inb (((6 : Int32) * p1) + v4) 48) (
    bv (si S23 5 (((6 : Int32) * p1) + v4).toNatClampNeg (gi S23 2 v4.toNatClampNeg)) (fun (S27 : St) =>
    bv (v4 + 1) (fun (v29 : Int32) =>
    next6 v29 S27))))))))
def fX9_draw (S : St) (p1 : Int32) (p2 : Int32) (p3 : Int32) : Option (St) :=
  gd (inb p1 8) (
  bv (si S 3 p1.toNatClampNeg (gi S 0 1)) (fun (S2 : St) =>
  bn1 (lq2 (fX9_draw_L13 p1) 200 (0 : Int32) S2) (fun (S7 : St) =>
    gd (inb p1 8) (
    bv (si S7 6 p1.toNatClampNeg p2) (fun (S9 : St) =>
    gd (inb p1 8) (
    bv (si S9 7 p1.toNatClampNeg p3) (fun (S12 : St) =>
    gd (inb p1 8) (
    bv (si S12 9 p1.toNatClampNeg (0 : Int32)) (fun (S15 : St) =>
    bv (si S15 0 1 (0 : Int32)) (fun (S17 : St) =>
    some S17))))))))))
def fX9_go (S : St) (p1 : Int32) (p2 : Int32) (p3 : Int32) (p4 : Int32) (p5 : Int32) : Option (St) :=
  bn1 (if p4 ≤ 0 then (
    some (p3 - p5))
  else (
    some ((p3 + (1 : Int32)) + p5))) (fun (v1 : Int32) =>
    bn1 (if p4 ≤ 0 then (
      some v1)
    else (
      some (v1 - (1 : Int32)))) (fun (v2 : Int32) =>
      bn1 (if p5 ≤ 0 then (
        some S)
      else (
        if ((p2 >>> (v2 &&& 31)) &&& (1 : Int32)) = (1 : Int32) then (
          gd (inb (((6 : Int32) * p1) + v2) 48) (
          gd (inb (((6 : Int32) * p1) + p3) 48) (
          bn1 (if (gi S 5 (((6 : Int32) * p1) + v2).toNatClampNeg) = (gi S 5 (((6 : Int32) * p1) + p3).toNatClampNeg) then (
            some (1 : Int32))
          else (
            some (0 : Int32))) (fun (v21 : Int32) =>
            bv ((gi S 0 32)) (fun (v22 : Int32) =>
            bn1 (if v21 = 0 then (
              some (gi S 0 33))
            else (
              some (-(gi S 0 33)))) (fun (v24 : Int32) =>
              bv (si S 0 32 v24) (fun (S25 : St) =>
              bn1 (if v21 = 0 then (
                some (-v22))
              else (
                some v22)) (fun (v27 : Int32) =>
                bv (si S25 0 33 v27) (fun (S28 : St) =>
                bv (si S28 0 35 (0 : Int32)) (fun (S30 : St) =>
                some S30))))))))))
        else (
          some S))) (fun (S3 : St) =>
        gd (inb (((6 : Int32) * p1) + v1) 48) (
        bv (si S3 0 30 ((gi S3 0 30) + ((gi S3 0 32) * (gi S3 4 (((6 : Int32) * p1) + v1).toNatClampNeg)))) (fun (S5 : St) =>
        gd (inb (((6 : Int32) * p1) + v1) 48) (
        bv (si S5 0 31 ((gi S5 0 31) + ((gi S5 0 33) * (gi S5 4 (((6 : Int32) * p1) + v1).toNatClampNeg)))) (fun (S8 : St) =>
        bn1 (if (gi S8 0 35) = 0 then (
          some (0 : Int32))
        else (
          gd (inb (((6 : Int32) * p1) + v1) 48) (
          some (gi S8 4 (((6 : Int32) * p1) + v1).toNatClampNeg)))) (fun (v10 : Int32) =>
          bv (si S8 0 34 ((gi S8 0 34) + v10)) (fun (S11 : St) =>
          some S11)))))))))
def fX9_goesWell (S : St) (p1 : Int32) : Option ((Int32 × St)) :=
  bv (si S 0 0 p1) (fun (S1 : St) =>
  if p1 = 0 then (
    some ((1 : Int32), S1))
  else (
    some ((0 : Int32), S1)))
def fX9_in (p1 : Int32) (p2 : Int32) (p3 : Int32) : Option (Int32) :=
  if p1 < p2 then (
    some ((0 : Int32)))
  else (
    if p3 < p1 then (
      some ((0 : Int32)))
    else (
      some ((1 : Int32))))
def fX9_isClose (S : St) (p1 : Int32) (p2 : Int32) : Option (Int32) :=
  gd (inb (((6 : Int32) * p1) + p2) 48) (
  bv ((gi S 10 (((6 : Int32) * p1) + p2).toNatClampNeg)) (fun (v2 : Int32) =>
  gd (inb (((6 : Int32) * p1) + p2) 48) (
  bv ((gi S 11 (((6 : Int32) * p1) + p2).toNatClampNeg)) (fun (v5 : Int32) =>
  gd (inb p1 8) (
  gd (inb (((6 : Int32) * p1) + p2) 48) (
  bv ((((2 : Int32) * (gi S 7 p1.toNatClampNeg)) + ((gi S 12 (((6 : Int32) * p1) + p2).toNatClampNeg) / (2 : Int32)))) (fun (v9 : Int32) =>
  jn0 (
    some ((1 : Int32))) (fun J11 =>
    jn0 (
      gd (inb p1 8) (
      if (gi S 3 p1.toNatClampNeg) ≤ (v2 + (1 : Int32)) then (
        some ((0 : Int32)))
      else (
        gd (inb (((6 : Int32) * p1) + v2) 48) (
        if v9 ≤ ((gi S 4 (((6 : Int32) * p1) + v2).toNatClampNeg) - v5) then (
          some ((0 : Int32)))
        else (
          J11))))) (fun J16 =>
      if v2 ≤ 0 then (
        J16)
      else (
        if v5 < v9 then (
          J11)
        else (
          J16)))))))))))
def fX9_isDone (S : St) (p1 : Int32) (p2 : Int32) (p3 : Int32) : Option (Int32) :=
  if p2 < 0 then (
    some ((0 : Int32)))
  else (
    gd (inb p1 8) (
    if ((1 : Int32) <<< (((gi S 3 p1.toNatClampNeg) - (1 : Int32)) &&& 31)) ≤ p2 then (
      some ((0 : Int32)))
    else (
      if ((p2 >>> (p3 &&& 31)) &&& (1 : Int32)) = 0 then (
        some ((1 : Int32)))
      else (
        some ((0 : Int32))))))
def fX9_isKit (S : St) (p1 : Int32) : Option (Int32) :=
  if p1 ≤ 0 then (
    some ((0 : Int32)))
  else (
    if ((1 : Int32) <<< ((gi S 0 4) &&& 31)) ≤ p1 then (
      some ((0 : Int32)))
    else (
      some ((1 : Int32))))
def fX9_isSame_L43 (S : St) (p1 : Int32) (next5 : Int32 → Int32 → Option (Int32)) (v3 : Int32) (v4 : Int32) : Option (Int32) :=
  if (gi S 0 1) ≤ v4 then (
    gd (isb v3) (some (v3)))
  else (
    if v3 = 0 then (
      gd (isb v3) (some (v3)))
    else (
      gd (inb (((6 : Int32) * p1) + v4) 48) (
      gd (inb v4 6) (
      bn1 (jn0 (
        some (0 : Int32)) (fun J14 =>
        if (gi S 4 (((6 : Int32) * p1) + v4).toNatClampNeg) = (gi S 1 v4.toNatClampNeg) then (
          jn0 (
            some (1 : Int32)) (fun J16 =>
            if (v4 + (1 : Int32)) = (gi S 0 1) then (
              J16)
            else (
              gd (inb (((6 : Int32) * p1) + v4) 48) (
              gd (inb v4 6) (
              if (gi S 5 (((6 : Int32) * p1) + v4).toNatClampNeg) = (gi S 2 v4.toNatClampNeg) then (
                J16)
              else (
                J14))))))
        else (
          J14))) (fun (v10 : Int32) =>
        bv (v4 + 1) (fun (v11 : Int32) =>
        next5 v10 v11))))))
def fX9_isSame (S : St) (p1 : Int32) (p2 : Int32) (p3 : Int32) : Option (Int32) :=
  gd (inb p1 8) (
  bn1 (jn0 (
    some (0 : Int32)) (fun J22 =>
    if (gi S 3 p1.toNatClampNeg) = (gi S 0 1) then (
      gd (inb p1 8) (
      if (gi S 6 p1.toNatClampNeg) = p2 then (
        gd (inb p1 8) (
        if (gi S 7 p1.toNatClampNeg) = p3 then (
          some (1 : Int32))
        else (
          J22)))
      else (
        J22)))
    else (
      J22))) (fun (v2 : Int32) =>
    lq2 (fX9_isSame_L43 S p1) 200 v2 (0 : Int32)))
def fX9_kitsOf_L20 (S : St) (v2 : Int32) (next9 : Int32 → Int32 → Option (Int32)) (v7 : Int32) (v8 : Int32) : Option (Int32) :=
  if (gi S 0 23) ≤ v8 then (
    some v7)
  else (
    gd (inb v8 20) (
    bn1 (jn0 (
      some (0 : Int32)) (fun J27 =>
      if (gi S 20 v8.toNatClampNeg) = v2 then (
        gd (inb v8 20) (
        if (gi S 23 v8.toNatClampNeg) = (2 : Int32) then (
          gd (inb v8 20) (
          some (gi S 22 v8.toNatClampNeg)))
        else (
          J27)))
      else (
        J27))) (fun (v21 : Int32) =>
      bv ((v7 + v21)) (fun (v22 : Int32) =>
      bv (v8 + 1) (fun (v24 : Int32) =>
      next9 v22 v24)))))
def fX9_kitsOf_L6 (S : St) (p1 : Int32) (next3 : Int32 → Int32 → Option (Int32)) (v1 : Int32) (v2 : Int32) : Option (Int32) :=
  if (gi S 0 4) ≤ v2 then (
    some v1)
  else (
    bn1 (lq2 (fX9_kitsOf_L20 S v2) 200 (0 : Int32) (0 : Int32)) (fun (v10 : Int32) =>
      bn1 (jn0 (
        some v1) (fun J15 =>
        if ((p1 >>> (v2 &&& 31)) &&& (1 : Int32)) = (1 : Int32) then (
          if v1 ≤ v10 then (
            J15)
          else (
            some v10))
        else (
          J15))) (fun (v11 : Int32) =>
        bv (v2 + 1) (fun (v12 : Int32) =>
        next3 v11 v12))))
def fX9_kitsOf (S : St) (p1 : Int32) : Option (Int32) :=
  bn1 (lq2 (fX9_kitsOf_L6 S p1) 200 (1000 : Int32) (0 : Int32)) (fun (v4 : Int32) =>
    some (v4))
def fX9_rowFor_L99 (S : St) (p2 : Int32) (next7 : Int32 → Option (Int32)) (v6 : Int32) : Option (Int32) :=
  if (gi S 0 38) ≤ v6 then (
    some v6)
  else (
    gd (inb v6 40) (
    if p2 ≤ (gi S 28 v6.toNatClampNeg) then (
      some v6)
    else (
      bv (v6 + 1) (fun (v39 : Int32) =>
      next7 v39))))
def fX9_rowFor_L6 (S : St) (p2 : Int32) (p1 : Int32) (next3 : Int32 → Int32 → Option (Int32)) (v1 : Int32) (v2 : Int32) : Option (Int32) :=
  if (gi S 0 40) ≤ v2 then (
    some v1)
  else (
    gd (inb v2 40) (
    bn1 (jn0 (
      some (0 : Int32)) (fun J57 =>
      if (gi S 30 v2.toNatClampNeg) < p2 then (
        J57)
      else (
        gd (inb v2 40) (
        if (gi S 31 v2.toNatClampNeg) < p1 then (
          J57)
        else (
          some (1 : Int32)))))) (fun (v44 : Int32) =>
      bn1 (jn0 (
        some v1) (fun J49 =>
        if v44 = 0 then (
          J49)
        else (
          jn0 (
            some v2) (fun J51 =>
            if v1 = (-1 : Int32) then (
              J51)
            else (
              gd (inb v2 40) (
              gd (inb v1 40) (
              if (gi S 29 v1.toNatClampNeg) ≤ (gi S 29 v2.toNatClampNeg) then (
                J49)
              else (
                J51)))))))) (fun (v45 : Int32) =>
        bv (v2 + 1) (fun (v46 : Int32) =>
        next3 v45 v46)))))
def fX9_rowFor (S : St) (p1 : Int32) (p2 : Int32) (p3 : Int32) (p4 : Int32) : Option ((Int32 × St)) :=
  bn1 (lq2 (fX9_rowFor_L6 S p2 p1) 200 (-1 : Int32) (0 : Int32)) (fun (v4 : Int32) =>
    if v4 = (-1 : Int32) then (
      bn1 (lq1 (fX9_rowFor_L99 S p2) 200 (0 : Int32)) (fun (v8 : Int32) =>
        bn1 (if v8 = (gi S 0 38) then (
          gd (inb v8 40) (
          bv (si S 28 v8.toNatClampNeg p4) (fun (S31 : St) =>
          bv (si S31 0 38 ((gi S31 0 38) + (1 : Int32))) (fun (S33 : St) =>
          some S33))))
        else (
          some S)) (fun (S9 : St) =>
          gd (inb v8 40) (
          gd (inb v8 40) (
          bv (si S9 28 v8.toNatClampNeg ((gi S9 28 v8.toNatClampNeg) - p2)) (fun (S12 : St) =>
          gd (inb (gi S12 0 40) 40) (
          bv (si S12 29 (gi S12 0 40).toNatClampNeg v8) (fun (S15 : St) =>
          gd (inb (gi S15 0 40) 40) (
          bv (si S15 30 (gi S15 0 40).toNatClampNeg p2) (fun (S18 : St) =>
          gd (inb (gi S18 0 40) 40) (
          bv (si S18 31 (gi S18 0 40).toNatClampNeg p3) (fun (S21 : St) =>
          gd (inb (gi S21 0 40) 40) (
          bv (si S21 32 (gi S21 0 40).toNatClampNeg (0 : Int32)) (fun (S24 : St) =>
          bv (si S24 0 40 ((gi S24 0 40) + (1 : Int32))) (fun (S26 : St) =>
          some (((gi S26 0 40) - (1 : Int32)), S26))))))))))))))))
    else (
      some (v4, S)))
def fX9_start (S : St) : Option (St) :=
  bv (si S 0 30 (0 : Int32)) (fun (S1 : St) =>
  bv (si S1 0 31 (0 : Int32)) (fun (S3 : St) =>
  bv (si S3 0 32 (1 : Int32)) (fun (S5 : St) =>
  bv (si S5 0 33 (0 : Int32)) (fun (S7 : St) =>
  bv (si S7 0 34 (0 : Int32)) (fun (S9 : St) =>
  bv (si S9 0 35 (1 : Int32)) (fun (S11 : St) =>
  some S11))))))
def fX9_thrown (S : St) : Option (Int32) :=
  some ((gi S 0 0))
def fX9_turn (S : St) (p1 : Int32) (p2 : Int32) (p3 : Int32) : Option (Int32) :=
  gd (inb p1 8) (
  if ((gi S 3 p1.toNatClampNeg) - (1 : Int32)) ≤ p2 then (
    some ((0 : Int32)))
  else (
    gd (inb (((6 : Int32) * p1) + p2) 48) (
    gd (inb (((6 : Int32) * p1) + p3) 48) (
    if (gi S 5 (((6 : Int32) * p1) + p2).toNatClampNeg) = (gi S 5 (((6 : Int32) * p1) + p3).toNatClampNeg) then (
      some ((0 : Int32)))
    else (
      some ((1 : Int32)))))))
def fX9_wanted_L4 (S : St) (next3 : Int32 → Int32 → Option (Int32)) (v1 : Int32) (v2 : Int32) : Option (Int32) :=
  if (gi S 0 4) ≤ v2 then (
    some v1)
  else (
    gd (inb v2 8) (
    bv ((v1 + (gi S 19 v2.toNatClampNeg))) (fun (v8 : Int32) =>
    bv (v2 + 1) (fun (v10 : Int32) =>
    next3 v8 v10))))
def fX9_wanted (S : St) : Option (Int32) :=
  bn1 (lq2 (fX9_wanted_L4 S) 200 (0 : Int32) (0 : Int32)) (fun (v4 : Int32) =>
    some (v4))
def fX9_wing (S : St) (p1 : Int32) (p2 : Int32) (p3 : Int32) : Option (Int32) :=
  if p3 ≤ 0 then (
    some ((p2 + (1 : Int32))))
  else (
    gd (inb p1 8) (
    some ((((gi S 3 p1.toNatClampNeg) - (1 : Int32)) - p2))))
def fX9_wipe (S : St) : Option ((Int32 × St)) :=
  bv (si S 0 0 (0 : Int32)) (fun (S1 : St) =>
  bv ((gi S1 0 1)) (fun (v3 : Int32) =>
  bv (si S1 0 1 (0 : Int32)) (fun (S5 : St) =>
  some (v3, S5))))
def fX9_clear_L12 (next6 : Int32 → St → Option (St)) (v4 : Int32) (S5 : St) : Option (St) :=
  if (8 : Int32) ≤ v4 then (
    some S5)
  else (
    gd (inb v4 8) (
    bv (si S5 19 v4.toNatClampNeg (0 : Int32)) (fun (S11 : St) =>
    bv (v4 + 1) (fun (v13 : Int32) =>
    next6 v13 S11))))
def fX9_clear (S : St) : Option ((Int32 × St)) :=
  bv (si S 0 0 (0 : Int32)) (fun (S1 : St) =>
  bn1 (fX9_wanted S1) (fun (v3 : Int32) =>
  bn1 (lq2 (fX9_clear_L12) 200 (0 : Int32) S1) (fun (S7 : St) =>
    some (v3, S7))))
def fX9_face (S : St) (p1 : Int32) (p2 : Int32) : Option ((Int32 × St)) :=
  bn1 (fX9_in p1 (10 : Int32) (200 : Int32)) (fun (v1 : Int32) =>
  bn1 (jn0 (
    some (0 : Int32)) (fun J22 =>
    if v1 = 0 then (
      J22)
    else (
      bn1 (fX9_in p2 (0 : Int32) (1 : Int32)) (fun (v24 : Int32) =>
      if v24 = 0 then (
        J22)
      else (
        some (1 : Int32)))))) (fun (v2 : Int32) =>
    bn1 (if v2 = 0 then (
      some (1 : Int32))
    else (
      if (gi S 0 1) = (6 : Int32) then (
        some (2 : Int32))
      else (
        some (0 : Int32)))) (fun (v3 : Int32) =>
      bn2 (fX9_goesWell S v3) (fun (v4 : Int32) (S5 : St) =>
      if v4 = 0 then (
        some ((0 : Int32), S5))
      else (
        gd (inb (gi S5 0 1) 6) (
        bv (si S5 1 (gi S5 0 1).toNatClampNeg p1) (fun (S8 : St) =>
        bn1 (if (gi S8 0 1) ≤ 0 then (
          some S8)
        else (
          gd (inb ((gi S8 0 1) - (1 : Int32)) 6) (
          bv (si S8 2 ((gi S8 0 1) - (1 : Int32)).toNatClampNeg p2) (fun (S16 : St) =>
          some S16)))) (fun (S10 : St) =>
          bv (si S10 0 1 ((gi S10 0 1) + (1 : Int32))) (fun (S11 : St) =>
          some ((gi S11 0 1), S11))))))))))
def fX9_isBatch (S : St) (p1 : Int32) : Option (Int32) :=
  bn1 (fX9_in p1 (0 : Int32) ((gi S 0 23) - (1 : Int32))) (fun (v1 : Int32) =>
  gd (isb v1) (some (v1)))
def fX9_isPart (S : St) (p1 : Int32) : Option (Int32) :=
  bn1 (fX9_in p1 (0 : Int32) ((gi S 0 4) - (1 : Int32))) (fun (v1 : Int32) =>
  gd (isb v1) (some (v1)))
def fX9_isSheet (p1 : Int32) (p2 : Int32) : Option (Int32) :=
  bn1 (fX9_in p1 (10 : Int32) (300 : Int32)) (fun (v1 : Int32) =>
  if v1 = 0 then (
    some ((0 : Int32)))
  else (
    bn1 (fX9_in p2 (1 : Int32) (4 : Int32)) (fun (v3 : Int32) =>
    if v3 = 0 then (
      some ((0 : Int32)))
    else (
      some ((1 : Int32))))))
def fX9_isTool (S : St) (p1 : Int32) : Option (Int32) :=
  bn1 (fX9_in p1 (0 : Int32) ((gi S 0 15) - (1 : Int32))) (fun (v1 : Int32) =>
  gd (isb v1) (some (v1)))
def fX9_kits (S : St) (p1 : Int32) : Option ((Int32 × St)) :=
  bn1 (fX9_isKit S p1) (fun (v1 : Int32) =>
  bn1 (if v1 = 0 then (
    some (1 : Int32))
  else (
    some (0 : Int32))) (fun (v2 : Int32) =>
    bn2 (fX9_goesWell S v2) (fun (v3 : Int32) (S4 : St) =>
    if v3 = 0 then (
      some ((0 : Int32), S4))
    else (
      bn1 (fX9_kitsOf S4 p1) (fun (v6 : Int32) =>
      some (v6, S4))))))
def fX9_longer (S : St) (p1 : Int32) (p2 : Int32) : Option (Int32) :=
  bn1 (fX9_blankBy S p1 p2) (fun (v1 : Int32) =>
  gd (inb p1 8) (
  if v1 ≤ (gi S 6 p1.toNatClampNeg) then (
    gd (inb p1 8) (
    some ((gi S 6 p1.toNatClampNeg))))
  else (
    bn1 (fX9_blankBy S p1 p2) (fun (v5 : Int32) =>
    some (v5)))))
def fX9_reason_L28 (p1 : Int32) (p4 : Int32) (v5 : Int32) (p3 : Int32) (p2 : Int32) (next24 : Int32 → Int32 → Int32 → St → Option (Int32 × Int32 × St)) (v20 : Int32) (v21 : Int32) (v22 : Int32) (S23 : St) : Option (Int32 × Int32 × St) :=
  bn1 (fX9_wing S23 p1 p4 v5) (fun (v44 : Int32) =>
  if v44 ≤ v22 then (
    some (v20, v21, S23))
  else (
    bn1 (fX9_go S23 p1 p3 p4 v5 v22) (fun (S46 : St) =>
    bn1 (jn0 (
      some (1 : Int32)) (fun J60 =>
      if v20 = 0 then (
        jn0 (
          some (0 : Int32)) (fun J62 =>
          if (gi S46 0 31) ≤ 0 then (
            J62)
          else (
            gd (inb p2 4) (
            if ((gi S46 0 31) + (gi S46 14 p2.toNatClampNeg)) ≤ (gi S46 0 30) then (
              J62)
            else (
              J60)))))
      else (
        J60))) (fun (v47 : Int32) =>
      bn1 (jn0 (
        some (1 : Int32)) (fun J52 =>
        if v21 = 0 then (
          gd (inb p2 4) (
          jn0 (
            some (0 : Int32)) (fun J55 =>
            if (-(gi S46 0 31)) ≤ (gi S46 15 p2.toNatClampNeg) then (
              J55)
            else (
              gd (inb p2 4) (
              if (gi S46 16 p2.toNatClampNeg) ≤ (gi S46 0 30) then (
                J55)
              else (
                J52))))))
        else (
          J52))) (fun (v48 : Int32) =>
        bv (v22 + 1) (fun (v49 : Int32) =>
        next24 v47 v48 v49 S46))))))
def fX9_reason_L15 (p1 : Int32) (p4 : Int32) (p3 : Int32) (p2 : Int32) (next7 : Int32 → Int32 → Int32 → Int32 → Int32 → St → Option (Int32 × Int32 × Int32 × Int32 × St)) (v1 : Int32) (v2 : Int32) (v3 : Int32) (v4 : Int32) (v5 : Int32) (S6 : St) : Option (Int32 × Int32 × Int32 × Int32 × St) :=
  if (2 : Int32) ≤ v5 then (
    some (v1, v2, v3, v4, S6))
  else (
    bn1 (fX9_start S6) (fun (S19 : St) =>
    bn3 (lq4 (fX9_reason_L28 p1 p4 v5 p3 p2) 200 v3 v4 (0 : Int32) S19) (fun (v25 : Int32) (v26 : Int32) (S27 : St) =>
      bn1 (jn0 (
        some (1 : Int32)) (fun J38 =>
        if v1 = 0 then (
          gd (inb p2 4) (
          gd (inb p1 8) (
          if (((gi S27 13 p2.toNatClampNeg) / (2 : Int32)) + (gi S27 7 p1.toNatClampNeg)) ≤ (gi S27 0 34) then (
            some (0 : Int32))
          else (
            J38))))
        else (
          J38))) (fun (v28 : Int32) =>
        bn1 (jn0 (
          some (0 : Int32)) (fun J33 =>
          if v2 = 0 then (
            J33)
          else (
            gd (inb p2 4) (
            if (gi S27 0 34) ≤ (gi S27 17 p2.toNatClampNeg) then (
              J33)
            else (
              some (1 : Int32)))))) (fun (v29 : Int32) =>
          bv (v5 + 2) (fun (v30 : Int32) =>
          next7 v28 v29 v25 v26 v30 S27))))))
def fX9_reason (S : St) (p1 : Int32) (p2 : Int32) (p3 : Int32) (p4 : Int32) : Option ((Int32 × St)) :=
  bn5 (lq6 (fX9_reason_L15 p1 p4 p3 p2) 200 (0 : Int32) (1 : Int32) (0 : Int32) (0 : Int32) (-1 : Int32) S) (fun (v8 : Int32) (v9 : Int32) (v10 : Int32) (v11 : Int32) (S12 : St) =>
    if v8 = 0 then (
      if v9 = 0 then (
        if v10 = 0 then (
          if v11 = 0 then (
            some ((0 : Int32), S12))
          else (
            some ((4 : Int32), S12)))
        else (
          some ((3 : Int32), S12)))
      else (
        some ((2 : Int32), S12)))
    else (
      some ((1 : Int32), S12)))
def fX9_shorter (S : St) (p1 : Int32) (p2 : Int32) : Option (Int32) :=
  bn1 (fX9_blankBy S p1 p2) (fun (v1 : Int32) =>
  gd (inb p1 8) (
  if v1 ≤ (gi S 6 p1.toNatClampNeg) then (
    bn1 (fX9_blankBy S p1 p2) (fun (v4 : Int32) =>
    some (v4)))
  else (
    gd (inb p1 8) (
    some ((gi S 6 p1.toNatClampNeg))))))
def fX9_take_L90 (v8 : Int32) (next20 : Int32 → Int32 → Int32 → St → Option (Int32 × St)) (v16 : Int32) (v17 : Int32) (v18 : Int32) (S19 : St) : Option (Int32 × St) :=
  if (gi S19 0 23) ≤ v18 then (
    some (v16, S19))
  else (
    if v17 ≤ 0 then (
      some (v16, S19))
    else (
      gd (inb v18 20) (
      bn3 (if (gi S19 20 v18.toNatClampNeg) = v8 then (
        gd (inb v18 20) (
        if (gi S19 23 v18.toNatClampNeg) = (2 : Int32) then (
          gd (inb v18 20) (
          if (gi S19 22 v18.toNatClampNeg) ≤ 0 then (
            some (v16, v17, S19))
          else (
            gd (inb v18 20) (
            bn1 (if v17 ≤ (gi S19 22 v18.toNatClampNeg) then (
              some v17)
            else (
              gd (inb v18 20) (
              some (gi S19 22 v18.toNatClampNeg)))) (fun (v41 : Int32) =>
              gd (inb v18 20) (
              gd (inb v18 20) (
              bv (si S19 22 v18.toNatClampNeg ((gi S19 22 v18.toNatClampNeg) - v41)) (fun (S44 : St) =>
              bv ((v17 - v41)) (fun (v46 : Int32) =>
              gd (inb v18 20) (
              bn1 (if (gi S44 22 v18.toNatClampNeg) = 0 then (
                some (1 : Int32))
              else (
                some (0 : Int32))) (fun (v49 : Int32) =>
                bv ((v16 + v49)) (fun (v50 : Int32) =>
                some (v50, v46, S44)))))))))))))
        else (
          some (v16, v17, S19))))
      else (
        some (v16, v17, S19))) (fun (v29 : Int32) (v30 : Int32) (S31 : St) =>
        bv (v18 + 1) (fun (v32 : Int32) =>
        next20 v29 v30 v32 S31)))))
def fX9_take_L61 (p1 : Int32) (p2 : Int32) (next10 : Int32 → Int32 → St → Option (Int32 × St)) (v7 : Int32) (v8 : Int32) (S9 : St) : Option (Int32 × St) :=
  if (gi S9 0 4) ≤ v8 then (
    some (v7, S9))
  else (
    bn1 (if ((p1 >>> (v8 &&& 31)) &&& (1 : Int32)) = (1 : Int32) then (
      some p2)
    else (
      some (0 : Int32))) (fun (v15 : Int32) =>
      bn2 (lq4 (fX9_take_L90 v8) 200 v7 v15 (0 : Int32) S9) (fun (v21 : Int32) (S22 : St) =>
        bv (v8 + 1) (fun (v23 : Int32) =>
        next10 v21 v23 S22))))
def fX9_take (S : St) (p1 : Int32) (p2 : Int32) : Option ((Int32 × St)) :=
  bn1 (fX9_isKit S p1) (fun (v1 : Int32) =>
  bn1 (jn0 (
    some (0 : Int32)) (fun J64 =>
    if v1 = 0 then (
      J64)
    else (
      bn1 (fX9_in p2 (1 : Int32) (50 : Int32)) (fun (v66 : Int32) =>
      if v66 = 0 then (
        J64)
      else (
        some (1 : Int32)))))) (fun (v2 : Int32) =>
    bn1 (if v2 = 0 then (
      some (1 : Int32))
    else (
      bn1 (fX9_kitsOf S p1) (fun (v61 : Int32) =>
      if p2 ≤ v61 then (
        some (0 : Int32))
      else (
        some (2 : Int32))))) (fun (v3 : Int32) =>
      bn2 (fX9_goesWell S v3) (fun (v4 : Int32) (S5 : St) =>
      if v4 = 0 then (
        some ((0 : Int32), S5))
      else (
        bn2 (lq3 (fX9_take_L61 p1 p2) 200 (0 : Int32) (0 : Int32) S5) (fun (v11 : Int32) (S12 : St) =>
          some (v11, S12)))))))
def fX9_tool_L151 (next24 : Int32 → St → Option (St)) (v22 : Int32) (S23 : St) : Option (St) :=
  if (5 : Int32) ≤ v22 then (
    some S23)
  else (
    gd (inb (((5 : Int32) * (gi S23 0 15)) + v22) 20) (
    bv (si S23 18 (((5 : Int32) * (gi S23 0 15)) + v22).toNatClampNeg ((2 : Int32) * v22)) (fun (S31 : St) =>
    bv (v22 + 1) (fun (v33 : Int32) =>
    next24 v33 S31))))
def fX9_tool (S : St) (p1 : Int32) (p2 : Int32) (p3 : Int32) (p4 : Int32) (p5 : Int32) : Option ((Int32 × St)) :=
  bn1 (fX9_in p1 (4 : Int32) (60 : Int32)) (fun (v1 : Int32) =>
  bn1 (jn0 (
    some (0 : Int32)) (fun J39 =>
    if v1 = 0 then (
      J39)
    else (
      bn1 (fX9_in p2 (0 : Int32) (30 : Int32)) (fun (v41 : Int32) =>
      if v41 = 0 then (
        J39)
      else (
        bn1 (fX9_in p3 (10 : Int32) (200 : Int32)) (fun (v43 : Int32) =>
        if v43 = 0 then (
          J39)
        else (
          bn1 (fX9_in p4 (10 : Int32) (200 : Int32)) (fun (v45 : Int32) =>
          if v45 = 0 then (
            J39)
          else (
            bn1 (fX9_in p5 (20 : Int32) (600 : Int32)) (fun (v47 : Int32) =>
            if v47 = 0 then (
              J39)
            else (
              some (1 : Int32)))))))))))) (fun (v2 : Int32) =>
    bn1 (if v2 = 0 then (
      some (1 : Int32))
    else (
      if (gi S 0 15) = (4 : Int32) then (
        some (2 : Int32))
      else (
        some (0 : Int32)))) (fun (v3 : Int32) =>
      bn2 (fX9_goesWell S v3) (fun (v4 : Int32) (S5 : St) =>
      if v4 = 0 then (
        some ((0 : Int32), S5))
      else (
        gd (inb (gi S5 0 15) 4) (
        bv (si S5 13 (gi S5 0 15).toNatClampNeg p1) (fun (S8 : St) =>
        gd (inb (gi S8 0 15) 4) (
        bv (si S8 14 (gi S8 0 15).toNatClampNeg p2) (fun (S11 : St) =>
        gd (inb (gi S11 0 15) 4) (
        bv (si S11 15 (gi S11 0 15).toNatClampNeg p3) (fun (S14 : St) =>
        gd (inb (gi S14 0 15) 4) (
        bv (si S14 16 (gi S14 0 15).toNatClampNeg p4) (fun (S17 : St) =>
        gd (inb (gi S17 0 15) 4) (
        bv (si S17 17 (gi S17 0 15).toNatClampNeg p5) (fun (S20 : St) =>
        bn1 (lq2 (fX9_tool_L151) 200 (1 : Int32) S20) (fun (S25 : St) =>
          bv (si S25 0 15 ((gi S25 0 15) + (1 : Int32))) (fun (S26 : St) =>
          some (((gi S26 0 15) - (1 : Int32)), S26))))))))))))))))))
def fX9_batch (S : St) (p1 : Int32) (p2 : Int32) (p3 : Int32) : Option ((Int32 × St)) :=
  bn1 (fX9_isPart S p1) (fun (v1 : Int32) =>
  bn1 (jn0 (
    some (0 : Int32)) (fun J35 =>
    if v1 = 0 then (
      J35)
    else (
      bn1 (fX9_isTool S p2) (fun (v37 : Int32) =>
      if v37 = 0 then (
        J35)
      else (
        some (1 : Int32)))))) (fun (v2 : Int32) =>
    bn1 (if v2 = 0 then (
      some (1 : Int32))
    else (
      bn1 (fX9_in p3 (1 : Int32) (50 : Int32)) (fun (v31 : Int32) =>
      if v31 = 0 then (
        some (2 : Int32))
      else (
        if (gi S 0 23) = (20 : Int32) then (
          some (3 : Int32))
        else (
          some (0 : Int32)))))) (fun (v3 : Int32) =>
      bn2 (fX9_goesWell S v3) (fun (v4 : Int32) (S5 : St) =>
      if v4 = 0 then (
        some ((0 : Int32), S5))
      else (
        gd (inb (gi S5 0 23) 20) (
        bv (si S5 20 (gi S5 0 23).toNatClampNeg p1) (fun (S8 : St) =>
        gd (inb (gi S8 0 23) 20) (
        bv (si S8 21 (gi S8 0 23).toNatClampNeg p2) (fun (S11 : St) =>
        gd (inb (gi S11 0 23) 20) (
        bv (si S11 22 (gi S11 0 23).toNatClampNeg p3) (fun (S14 : St) =>
        gd (inb (gi S14 0 23) 20) (
        bv (si S14 23 (gi S14 0 23).toNatClampNeg (0 : Int32)) (fun (S17 : St) =>
        gd (inb p1 8) (
        gd (inb (gi S17 0 23) 20) (
        bv (si S17 24 (gi S17 0 23).toNatClampNeg (gi S17 8 p1.toNatClampNeg)) (fun (S21 : St) =>
        bn1 (fX9_blankBy S21 p1 p2) (fun (v23 : Int32) =>
        gd (inb (gi S21 0 23) 20) (
        bv (si S21 25 (gi S21 0 23).toNatClampNeg v23) (fun (S25 : St) =>
        bv (si S25 0 23 ((gi S25 0 23) + (1 : Int32))) (fun (S27 : St) =>
        some (((gi S27 0 23) - (1 : Int32)), S27)))))))))))))))))))))
def fX9_batchOf (S : St) (p1 : Int32) (p2 : Int32) : Option ((Int32 × St)) :=
  bn1 (fX9_isBatch S p1) (fun (v1 : Int32) =>
  bn1 (if v1 = 0 then (
    some (1 : Int32))
  else (
    bn1 (fX9_in p2 (0 : Int32) (3 : Int32)) (fun (v15 : Int32) =>
    if v15 = 0 then (
      some (2 : Int32))
    else (
      some (0 : Int32))))) (fun (v2 : Int32) =>
    bn2 (fX9_goesWell S v2) (fun (v3 : Int32) (S4 : St) =>
    if v3 = 0 then (
      some ((0 : Int32), S4))
    else (
      if p2 = 0 then (
        gd (inb p1 20) (
        some ((gi S4 23 p1.toNatClampNeg), S4)))
      else (
        if p2 = (1 : Int32) then (
          gd (inb p1 20) (
          some ((gi S4 22 p1.toNatClampNeg), S4)))
        else (
          if p2 = (2 : Int32) then (
            gd (inb p1 20) (
            some ((gi S4 24 p1.toNatClampNeg), S4)))
          else (
            gd (inb p1 20) (
            some ((gi S4 25 p1.toNatClampNeg), S4)))))))))
def fX9_blank (S : St) (p1 : Int32) (p2 : Int32) : Option ((Int32 × St)) :=
  bn1 (fX9_isPart S p1) (fun (v1 : Int32) =>
  bn1 (jn0 (
    some (1 : Int32)) (fun J8 =>
    if v1 = 0 then (
      J8)
    else (
      bn1 (fX9_isTool S p2) (fun (v10 : Int32) =>
      if v10 = 0 then (
        J8)
      else (
        some (0 : Int32)))))) (fun (v2 : Int32) =>
    bn2 (fX9_goesWell S v2) (fun (v3 : Int32) (S4 : St) =>
    if v3 = 0 then (
      some ((0 : Int32), S4))
    else (
      bn1 (fX9_blankBy S4 p1 p2) (fun (v6 : Int32) =>
      some (v6, S4))))))
def fX9_findOrders_L108 (v24 : Int32) (p1 : Int32) (v16 : Int32) (v6 : Int32) (next28 : Int32 → St → Option (St)) (v26 : Int32) (S27 : St) : Option (St) :=
  if (7 : Int32) ≤ v26 then (
    some S27)
  else (
    if v24 = 0 then (
      some S27)
    else (
      bn1 (fX9_turn S27 p1 v26 v16) (fun (v35 : Int32) =>
      gd (inb (((7 : Int32) * (v6 ||| ((1 : Int32) <<< (v16 &&& 31)))) + v16) 224) (
      bv ((v35 + (gi S27 26 (((7 : Int32) * (v6 ||| ((1 : Int32) <<< (v16 &&& 31)))) + v16).toNatClampNeg))) (fun (v37 : Int32) =>
      gd (inb (((7 : Int32) * v6) + v26) 224) (
      bn1 (if (gi S27 26 (((7 : Int32) * v6) + v26).toNatClampNeg) ≤ v37 then (
        gd (inb (((7 : Int32) * v6) + v26) 224) (
        some (gi S27 26 (((7 : Int32) * v6) + v26).toNatClampNeg)))
      else (
        some v37)) (fun (v40 : Int32) =>
        gd (inb (((7 : Int32) * v6) + v26) 224) (
        bv (si S27 26 (((7 : Int32) * v6) + v26).toNatClampNeg v40) (fun (S42 : St) =>
        bv (v26 + 1) (fun (v44 : Int32) =>
        next28 v44 S42))))))))))
def fX9_findOrders_L69 (v2 : Int32) (v6 : Int32) (p1 : Int32) (p2 : Int32) (next18 : Int32 → St → Option (St)) (v16 : Int32) (S17 : St) : Option (St) :=
  if v2 ≤ v16 then (
    some S17)
  else (
    bn2 (jn1 (fun (S50 : St) =>
      some ((0 : Int32), S50)) (fun J51 =>
      if ((v6 >>> (v16 &&& 31)) &&& (1 : Int32)) = 0 then (
        bn2 (fX9_reason S17 p1 p2 v6 v16) (fun (v53 : Int32) (S54 : St) =>
        if v53 = 0 then (
          some ((1 : Int32), S54))
        else (
          J51 S54)))
      else (
        J51 S17))) (fun (v24 : Int32) (S25 : St) =>
      bn1 (lq2 (fX9_findOrders_L108 v24 p1 v16 v6) 200 (0 : Int32) S25) (fun (S29 : St) =>
        bv (v16 + 1) (fun (v30 : Int32) =>
        next18 v30 S29))))
def fX9_findOrders_L24 (v6 : Int32) (v2 : Int32) (next14 : Int32 → St → Option (St)) (v12 : Int32) (S13 : St) : Option (St) :=
  if (7 : Int32) ≤ v12 then (
    some S13)
  else (
    bn1 (if v6 = (((1 : Int32) <<< (v2 &&& 31)) - (1 : Int32)) then (
      some (0 : Int32))
    else (
      some (99 : Int32))) (fun (v58 : Int32) =>
      gd (inb (((7 : Int32) * v6) + v12) 224) (
      bv (si S13 26 (((7 : Int32) * v6) + v12).toNatClampNeg v58) (fun (S60 : St) =>
      bv (v12 + 1) (fun (v62 : Int32) =>
      next14 v62 S60)))))
def fX9_findOrders_L16 (v2 : Int32) (p1 : Int32) (p2 : Int32) (next8 : Int32 → St → Option (St)) (v6 : Int32) (S7 : St) : Option (St) :=
  if v6 < 0 then (
    some S7)
  else (
    bn1 (lq2 (fX9_findOrders_L24 v6 v2) 200 (0 : Int32) S7) (fun (S15 : St) =>
      bn1 (lq2 (fX9_findOrders_L69 v2 v6 p1 p2) 200 (0 : Int32) S15) (fun (S19 : St) =>
        bv (v6 + (-1)) (fun (v20 : Int32) =>
        next8 v20 S19))))
def fX9_findOrders (S : St) (p1 : Int32) (p2 : Int32) : Option (St) :=
  gd (inb p1 8) (
  bv (((gi S 3 p1.toNatClampNeg) - (1 : Int32))) (fun (v2 : Int32) =>
  bv ((((1 : Int32) <<< (v2 &&& 31)) - (1 : Int32))) (fun (v4 : Int32) =>
  bn1 (lq2 (fX9_findOrders_L16 v2 p1 p2) 200 v4 S) (fun (S9 : St) =>
    some S9))))
def fX9_hole_L81 (S : St) (p1 : Int32) (next6 : Int32 → Int32 → Option (Int32)) (v4 : Int32) (v5 : Int32) : Option (Int32) :=
  if (gi S 0 23) ≤ v5 then (
    some v4)
  else (
    bn1 (jn0 (
      some (0 : Int32)) (fun J42 =>
      if v4 = 0 then (
        J42)
      else (
        gd (inb v5 20) (
        jn0 (
          some (1 : Int32)) (fun J45 =>
          if (gi S 20 v5.toNatClampNeg) = p1 then (
            gd (inb v5 20) (
            if (gi S 23 v5.toNatClampNeg) = (3 : Int32) then (
              J45)
            else (
              J42)))
          else (
            J45)))))) (fun (v38 : Int32) =>
      bv (v5 + 1) (fun (v39 : Int32) =>
      next6 v38 v39)))
def fX9_hole (S : St) (p1 : Int32) (p2 : Int32) (p3 : Int32) (p4 : Int32) : Option ((Int32 × St)) :=
  bn1 (fX9_isPart S p1) (fun (v1 : Int32) =>
  bn1 (jn0 (
    some (0 : Int32)) (fun J58 =>
    if v1 = 0 then (
      J58)
    else (
      gd (inb p1 8) (
      bn1 (fX9_in p2 (0 : Int32) ((gi S 3 p1.toNatClampNeg) - (1 : Int32))) (fun (v61 : Int32) =>
      if v61 = 0 then (
        J58)
      else (
        some (1 : Int32))))))) (fun (v2 : Int32) =>
    bn1 (jn0 (
      some (0 : Int32)) (fun J50 =>
      if v2 = 0 then (
        J50)
      else (
        gd (inb (((6 : Int32) * p1) + p2) 48) (
        bn1 (fX9_in p3 (1 : Int32) ((gi S 4 (((6 : Int32) * p1) + p2).toNatClampNeg) - (1 : Int32))) (fun (v53 : Int32) =>
        if v53 = 0 then (
          J50)
        else (
          bn1 (fX9_in p4 (1 : Int32) (20 : Int32)) (fun (v55 : Int32) =>
          if v55 = 0 then (
            J50)
          else (
            some (1 : Int32))))))))) (fun (v3 : Int32) =>
      bn1 (lq2 (fX9_hole_L81 S p1) 200 (1 : Int32) (0 : Int32)) (fun (v7 : Int32) =>
        bn1 (if v2 = 0 then (
          some (1 : Int32))
        else (
          if v3 = 0 then (
            some (2 : Int32))
          else (
            gd (inb p1 8) (
            jn0 (
              some (3 : Int32)) (fun J33 =>
              if (gi S 9 p1.toNatClampNeg) = (6 : Int32) then (
                J33)
              else (
                if v7 = 0 then (
                  J33)
                else (
                  some (0 : Int32)))))))) (fun (v8 : Int32) =>
          bn2 (fX9_goesWell S v8) (fun (v9 : Int32) (S10 : St) =>
          if v9 = 0 then (
            some ((0 : Int32), S10))
          else (
            gd (inb p1 8) (
            bv ((((6 : Int32) * p1) + (gi S10 9 p1.toNatClampNeg))) (fun (v13 : Int32) =>
            gd (inb v13 48) (
            bv (si S10 10 v13.toNatClampNeg p2) (fun (S16 : St) =>
            gd (inb v13 48) (
            bv (si S16 11 v13.toNatClampNeg p3) (fun (S19 : St) =>
            gd (inb v13 48) (
            bv (si S19 12 v13.toNatClampNeg p4) (fun (S22 : St) =>
            gd (inb p1 8) (
            gd (inb p1 8) (
            bv (si S22 9 p1.toNatClampNeg ((gi S22 9 p1.toNatClampNeg) + (1 : Int32))) (fun (S26 : St) =>
            gd (inb p1 8) (
            some (((gi S26 9 p1.toNatClampNeg) - (1 : Int32)), S26))))))))))))))))))))
def fX9_isNear (S : St) (p1 : Int32) (p2 : Int32) : Option ((Int32 × St)) :=
  bn1 (fX9_isPart S p1) (fun (v1 : Int32) =>
  bn1 (jn0 (
    some (1 : Int32)) (fun J9 =>
    if v1 = 0 then (
      J9)
    else (
      gd (inb p1 8) (
      bn1 (fX9_in p2 (0 : Int32) ((gi S 9 p1.toNatClampNeg) - (1 : Int32))) (fun (v12 : Int32) =>
      if v12 = 0 then (
        J9)
      else (
        some (0 : Int32))))))) (fun (v2 : Int32) =>
    bn2 (fX9_goesWell S v2) (fun (v3 : Int32) (S4 : St) =>
    if v3 = 0 then (
      some ((0 : Int32), S4))
    else (
      bn1 (fX9_isClose S4 p1 p2) (fun (v6 : Int32) =>
      if v6 = 0 then (
        some ((0 : Int32), S4))
      else (
        some ((1 : Int32), S4)))))))
def fX9_nextPiece_L4 (S : St) (p1 : Int32) (next3 : Int32 → Int32 → Option (Int32)) (v1 : Int32) (v2 : Int32) : Option (Int32) :=
  if (gi S 0 4) ≤ v2 then (
    some v1)
  else (
    bn1 (jn0 (
      some (0 : Int32)) (fun J20 =>
      if v1 = (-1 : Int32) then (
        J20)
      else (
        bn1 (fX9_longer S v2 p1) (fun (v22 : Int32) =>
        bn1 (fX9_longer S v1 p1) (fun (v23 : Int32) =>
        jn0 (
          some (1 : Int32)) (fun J24 =>
          if v23 < v22 then (
            J24)
          else (
            bn1 (fX9_longer S v2 p1) (fun (v26 : Int32) =>
            bn1 (fX9_longer S v1 p1) (fun (v27 : Int32) =>
            if v26 = v27 then (
              bn1 (fX9_shorter S v2 p1) (fun (v29 : Int32) =>
              bn1 (fX9_shorter S v1 p1) (fun (v30 : Int32) =>
              if v29 ≤ v30 then (
                J20)
              else (
                J24))))
            else (
              J20)))))))))) (fun (v7 : Int32) =>
      gd (inb v2 8) (
      gd (inb v2 8) (
      bn1 (jn0 (
        some v1) (fun J14 =>
        if (gi S 19 v2.toNatClampNeg) ≤ (gi S 27 v2.toNatClampNeg) then (
          J14)
        else (
          jn0 (
            some v2) (fun J16 =>
            if v1 = (-1 : Int32) then (
              J16)
            else (
              if v7 = 0 then (
                J14)
              else (
                J16)))))) (fun (v10 : Int32) =>
        bv (v2 + 1) (fun (v11 : Int32) =>
        next3 v10 v11))))))
def fX9_nextPiece (S : St) (p1 : Int32) : Option (Int32) :=
  bn1 (lq2 (fX9_nextPiece_L4 S p1) 200 (-1 : Int32) (0 : Int32)) (fun (v4 : Int32) =>
    some (v4))
def fX9_part (S : St) (p1 : Int32) (p2 : Int32) : Option ((Int32 × St)) :=
  bn1 (fX9_isSheet p1 p2) (fun (v1 : Int32) =>
  bn1 (if v1 = 0 then (
    some (1 : Int32))
  else (
    jn0 (
      some (2 : Int32)) (fun J11 =>
      if (gi S 0 1) = 0 then (
        J11)
      else (
        if (gi S 0 4) = (8 : Int32) then (
          J11)
        else (
          some (0 : Int32)))))) (fun (v2 : Int32) =>
    bn2 (fX9_goesWell S v2) (fun (v3 : Int32) (S4 : St) =>
    if v3 = 0 then (
      some ((0 : Int32), S4))
    else (
      bn1 (fX9_draw S4 (gi S4 0 4) p1 p2) (fun (S6 : St) =>
      bv (si S6 0 4 ((gi S6 0 4) + (1 : Int32))) (fun (S7 : St) =>
      some (((gi S7 0 4) - (1 : Int32)), S7)))))))
def fX9_point_L98 (p5 : Int32) (p4 : Int32) (p1 : Int32) (p2 : Int32) (p3 : Int32) (next10 : Int32 → St → Option (St)) (v8 : Int32) (S9 : St) : Option (St) :=
  if p5 < v8 then (
    some S9)
  else (
    bn1 (if p4 = 0 then (
      some (-1 : Int32))
    else (
      some (1 : Int32))) (fun (v15 : Int32) =>
      bn1 (fX9_go S9 p1 p2 p3 v15 v8) (fun (S16 : St) =>
      bv (v8 + 1) (fun (v17 : Int32) =>
      next10 v17 S16))))
def fX9_point (S : St) (p1 : Int32) (p2 : Int32) (p3 : Int32) (p4 : Int32) (p5 : Int32) (p6 : Int32) : Option ((Int32 × St)) :=
  bn1 (fX9_isPart S p1) (fun (v1 : Int32) =>
  bn1 (jn0 (
    some (0 : Int32)) (fun J26 =>
    if v1 = 0 then (
      J26)
    else (
      gd (inb p1 8) (
      bn1 (fX9_in p3 (0 : Int32) ((gi S 3 p1.toNatClampNeg) - (2 : Int32))) (fun (v29 : Int32) =>
      if v29 = 0 then (
        J26)
      else (
        bn1 (if p4 = 0 then (
          some (-1 : Int32))
        else (
          some (1 : Int32))) (fun (v31 : Int32) =>
          bn1 (fX9_wing S p1 p3 v31) (fun (v32 : Int32) =>
          bn1 (fX9_in p5 (0 : Int32) (v32 - (1 : Int32))) (fun (v33 : Int32) =>
          if v33 = 0 then (
            J26)
          else (
            some (1 : Int32))))))))))) (fun (v2 : Int32) =>
    bn1 (if v2 = 0 then (
      some (1 : Int32))
    else (
      bn1 (fX9_isDone S p1 p2 p3) (fun (v23 : Int32) =>
      if v23 = 0 then (
        some (2 : Int32))
      else (
        some (0 : Int32))))) (fun (v3 : Int32) =>
      bn2 (fX9_goesWell S v3) (fun (v4 : Int32) (S5 : St) =>
      if v4 = 0 then (
        some ((0 : Int32), S5))
      else (
        bn1 (fX9_start S5) (fun (S7 : St) =>
        bn1 (lq2 (fX9_point_L98 p5 p4 p1 p2 p3) 200 (0 : Int32) S7) (fun (S11 : St) =>
          if p6 = 0 then (
            some ((gi S11 0 30), S11))
          else (
            some ((gi S11 0 31), S11)))))))))
def fX9_redraw_L134 (p1 : Int32) (v9 : Int32) (v7 : Int32) (next18 : Int32 → Int32 → St → Option (Int32 × St)) (v15 : Int32) (v16 : Int32) (S17 : St) : Option (Int32 × St) :=
  if (gi S17 0 23) ≤ v16 then (
    some (v15, S17))
  else (
    gd (inb v16 20) (
    bn2 (if (gi S17 20 v16.toNatClampNeg) = p1 then (
      gd (inb v16 20) (
      if (gi S17 23 v16.toNatClampNeg) = (3 : Int32) then (
        some (v15, S17))
      else (
        gd (inb v16 20) (
        bn1 (if (gi S17 23 v16.toNatClampNeg) = 0 then (
          jn0 (
            some (0 : Int32)) (fun J57 =>
            if v9 = 0 then (
              J57)
            else (
              gd (inb v16 20) (
              gd (inb v16 20) (
              bn1 (fX9_blankBy S17 p1 (gi S17 21 v16.toNatClampNeg)) (fun (v61 : Int32) =>
              if (gi S17 25 v16.toNatClampNeg) = v61 then (
                some (1 : Int32))
              else (
                J57)))))))
        else (
          some v7)) (fun (v33 : Int32) =>
          bn1 (if v33 = 0 then (
            gd (inb v16 20) (
            some (gi S17 24 v16.toNatClampNeg)))
          else (
            gd (inb p1 8) (
            some (gi S17 8 p1.toNatClampNeg)))) (fun (v34 : Int32) =>
            gd (inb v16 20) (
            bv (si S17 24 v16.toNatClampNeg v34) (fun (S36 : St) =>
            bn1 (if v33 = 0 then (
              some (3 : Int32))
            else (
              gd (inb v16 20) (
              some (gi S36 23 v16.toNatClampNeg)))) (fun (v38 : Int32) =>
              gd (inb v16 20) (
              bv (si S36 23 v16.toNatClampNeg v38) (fun (S40 : St) =>
              bn1 (if v33 = 0 then (
                gd (inb v16 20) (
                some (gi S40 22 v16.toNatClampNeg)))
              else (
                some (0 : Int32))) (fun (v42 : Int32) =>
                bv ((v15 + v42)) (fun (v43 : Int32) =>
                some (v43, S40))))))))))))))
    else (
      some (v15, S17))) (fun (v24 : Int32) (S25 : St) =>
      bv (v16 + 1) (fun (v26 : Int32) =>
      next18 v24 v26 S25))))
def fX9_redraw (S : St) (p1 : Int32) (p2 : Int32) (p3 : Int32) : Option ((Int32 × St)) :=
  bn1 (fX9_isPart S p1) (fun (v1 : Int32) =>
  bn1 (if v1 = 0 then (
    some (1 : Int32))
  else (
    bn1 (fX9_isSheet p2 p3) (fun (v77 : Int32) =>
    if v77 = 0 then (
      some (2 : Int32))
    else (
      if (gi S 0 1) = 0 then (
        some (3 : Int32))
      else (
        some (0 : Int32)))))) (fun (v2 : Int32) =>
    bn2 (fX9_goesWell S v2) (fun (v3 : Int32) (S4 : St) =>
    if v3 = 0 then (
      some ((0 : Int32), S4))
    else (
      bn1 (fX9_isSame S4 p1 p2 p3) (fun (v6 : Int32) =>
      bn1 (jn0 (
        some (0 : Int32)) (fun J71 =>
        if v6 = 0 then (
          J71)
        else (
          gd (inb p1 8) (
          if (gi S4 9 p1.toNatClampNeg) = 0 then (
            some (1 : Int32))
          else (
            J71))))) (fun (v7 : Int32) =>
        gd (inb p1 8) (
        bn1 (jn0 (
          some (0 : Int32)) (fun J64 =>
          if (gi S4 6 p1.toNatClampNeg) = p2 then (
            gd (inb p1 8) (
            if (gi S4 7 p1.toNatClampNeg) = p3 then (
              gd (inb p1 8) (
              if (gi S4 9 p1.toNatClampNeg) = 0 then (
                some (1 : Int32))
              else (
                J64)))
            else (
              J64)))
          else (
            J64))) (fun (v9 : Int32) =>
          bn1 (fX9_draw S4 p1 p2 p3) (fun (S10 : St) =>
          gd (inb p1 8) (
          gd (inb p1 8) (
          bv (si S10 8 p1.toNatClampNeg ((gi S10 8 p1.toNatClampNeg) + (1 : Int32))) (fun (S13 : St) =>
          bn2 (lq3 (fX9_redraw_L134 p1 v9 v7) 200 (0 : Int32) (0 : Int32) S13) (fun (v19 : Int32) (S20 : St) =>
            some (v19, S20))))))))))))))
def fX9_told_L43 (p1 : Int32) (S4 : St) (next8 : Int32 → Int32 → Option (Int32)) (v6 : Int32) (v7 : Int32) : Option (Int32) :=
  gd (inb p1 8) (
  if (gi S4 9 p1.toNatClampNeg) ≤ v7 then (
    some v6)
  else (
    bn1 (fX9_isClose S4 p1 v7) (fun (v23 : Int32) =>
    bn1 (if v23 = 0 then (
      some (0 : Int32))
    else (
      some (1 : Int32))) (fun (v24 : Int32) =>
      bv ((v6 + v24)) (fun (v25 : Int32) =>
      bv (v7 + 1) (fun (v27 : Int32) =>
      next8 v25 v27))))))
def fX9_told (S : St) (p1 : Int32) (p2 : Int32) : Option ((Int32 × St)) :=
  bn1 (fX9_isPart S p1) (fun (v1 : Int32) =>
  bn1 (if v1 = 0 then (
    some (1 : Int32))
  else (
    bn1 (fX9_in p2 (0 : Int32) (5 : Int32)) (fun (v33 : Int32) =>
    if v33 = 0 then (
      some (2 : Int32))
    else (
      some (0 : Int32))))) (fun (v2 : Int32) =>
    bn2 (fX9_goesWell S v2) (fun (v3 : Int32) (S4 : St) =>
    if v3 = 0 then (
      some ((0 : Int32), S4))
    else (
      bn1 (lq2 (fX9_told_L43 p1 S4) 200 (0 : Int32) (0 : Int32)) (fun (v9 : Int32) =>
        if p2 = (0 : Int32) then (
          gd (inb p1 8) (
          some ((gi S4 8 p1.toNatClampNeg), S4)))
        else if p2 = (1 : Int32) then (
          gd (inb p1 8) (
          some ((gi S4 3 p1.toNatClampNeg), S4)))
        else if p2 = (2 : Int32) then (
          gd (inb p1 8) (
          some ((gi S4 6 p1.toNatClampNeg), S4)))
        else if p2 = (3 : Int32) then (
          gd (inb p1 8) (
          some ((gi S4 7 p1.toNatClampNeg), S4)))
        else if p2 = (4 : Int32) then (
          gd (inb p1 8) (
          some ((gi S4 9 p1.toNatClampNeg), S4)))
        else (
          some (v9, S4)))))))
def fX9_trial (S : St) (p1 : Int32) (p2 : Int32) (p3 : Int32) : Option ((Int32 × St)) :=
  bn1 (fX9_isTool S p1) (fun (v1 : Int32) =>
  bn1 (if v1 = 0 then (
    some (1 : Int32))
  else (
    bn1 (fX9_in p2 (1 : Int32) (4 : Int32)) (fun (v14 : Int32) =>
    jn0 (
      some (2 : Int32)) (fun J15 =>
      if v14 = 0 then (
        J15)
      else (
        bn1 (fX9_in p3 (0 : Int32) (9 : Int32)) (fun (v17 : Int32) =>
        if v17 = 0 then (
          J15)
        else (
          some (0 : Int32)))))))) (fun (v2 : Int32) =>
    bn2 (fX9_goesWell S v2) (fun (v3 : Int32) (S4 : St) =>
    if v3 = 0 then (
      some ((0 : Int32), S4))
    else (
      gd (inb (((5 : Int32) * p1) + p2) 20) (
      bv ((gi S4 18 (((5 : Int32) * p1) + p2).toNatClampNeg)) (fun (v7 : Int32) =>
      gd (inb (((5 : Int32) * p1) + p2) 20) (
      bv (si S4 18 (((5 : Int32) * p1) + p2).toNatClampNeg p3) (fun (S10 : St) =>
      some (v7, S10)))))))))
def fX9_want (S : St) (p1 : Int32) (p2 : Int32) : Option ((Int32 × St)) :=
  bn1 (fX9_isPart S p1) (fun (v1 : Int32) =>
  bn1 (if v1 = 0 then (
    some (1 : Int32))
  else (
    bn1 (fX9_in p2 (1 : Int32) (40 : Int32)) (fun (v13 : Int32) =>
    if v13 = 0 then (
      some (2 : Int32))
    else (
      bn1 (fX9_wanted S) (fun (v15 : Int32) =>
      if (v15 + p2) ≤ (40 : Int32) then (
        some (0 : Int32))
      else (
        some (3 : Int32))))))) (fun (v2 : Int32) =>
    bn2 (fX9_goesWell S v2) (fun (v3 : Int32) (S4 : St) =>
    if v3 = 0 then (
      some ((0 : Int32), S4))
    else (
      gd (inb p1 8) (
      gd (inb p1 8) (
      bv (si S4 19 p1.toNatClampNeg ((gi S4 19 p1.toNatClampNeg) + p2)) (fun (S8 : St) =>
      bn1 (fX9_wanted S8) (fun (v10 : Int32) =>
      some (v10, S8)))))))))
def fX9_why (S : St) (p1 : Int32) (p2 : Int32) (p3 : Int32) (p4 : Int32) : Option ((Int32 × St)) :=
  bn1 (fX9_isPart S p1) (fun (v1 : Int32) =>
  bn1 (jn0 (
    some (0 : Int32)) (fun J14 =>
    if v1 = 0 then (
      J14)
    else (
      bn1 (fX9_isTool S p2) (fun (v16 : Int32) =>
      if v16 = 0 then (
        J14)
      else (
        gd (inb p1 8) (
        bn1 (fX9_in p4 (0 : Int32) ((gi S 3 p1.toNatClampNeg) - (2 : Int32))) (fun (v19 : Int32) =>
        if v19 = 0 then (
          J14)
        else (
          some (1 : Int32))))))))) (fun (v2 : Int32) =>
    bn1 (if v2 = 0 then (
      some (1 : Int32))
    else (
      bn1 (fX9_isDone S p1 p3 p4) (fun (v11 : Int32) =>
      if v11 = 0 then (
        some (2 : Int32))
      else (
        some (0 : Int32))))) (fun (v3 : Int32) =>
      bn2 (fX9_goesWell S v3) (fun (v4 : Int32) (S5 : St) =>
      if v4 = 0 then (
        some ((0 : Int32), S5))
      else (
        bn2 (fX9_reason S5 p1 p2 p3 p4) (fun (v7 : Int32) (S8 : St) =>
        some (v7, S8)))))))
def fX9_nest_L128 (p4 : Int32) (p2 : Int32) (p3 : Int32) (p1 : Int32) (next25 : Int64 → Int64 → Int32 → St → Option ((Int64 × St))) (w21 : Int64) (w22 : Int64) (v23 : Int32) (S24 : St) : Option ((Int64 × St)) :=
  if v23 = (-1 : Int32) then (
    if p4 = 0 then (
      some ((Int32.toInt64 (gi S24 0 38)), S24))
    else (
      if p4 = (1 : Int32) then (
        some ((Int32.toInt64 (gi S24 0 40)), S24))
      else (
        if p4 = (2 : Int32) then (
          some (w21, S24))
        else (
          some (((((Int32.toInt64 (gi S24 0 38)) * (Int32.toInt64 p2)) * (Int32.toInt64 p3)) - w22), S24)))))
  else (
    bn1 (fX9_longer S24 v23 p1) (fun (v30 : Int32) =>
    bn1 (fX9_shorter S24 v23 p1) (fun (v31 : Int32) =>
    jn1 (fun (S32 : St) =>
      some ((-1 : Int64), S32)) (fun J33 =>
      if p2 < v30 then (
        J33 S24)
      else (
        if v31 ≤ p3 then (
          bn2 (fX9_rowFor S24 v30 v31 p2 p3) (fun (v36 : Int32) (S37 : St) =>
          gd (inb v36 40) (
          bn1 (if (gi S37 32 v36.toNatClampNeg) = v31 then (
            some v31)
          else (
            some (0 : Int32))) (fun (v39 : Int32) =>
            bv ((w21 + (((2 : Int64) * (Int32.toInt64 (v30 + v31))) - (Int32.toInt64 v39)))) (fun (w40 : Int64) =>
            bv ((w22 + ((Int32.toInt64 v30) * (Int32.toInt64 v31)))) (fun (w42 : Int64) =>
            gd (inb v36 40) (
            gd (inb v36 40) (
            bv (si S37 31 v36.toNatClampNeg ((gi S37 31 v36.toNatClampNeg) - v30)) (fun (S46 : St) =>
            gd (inb v36 40) (
            bv (si S46 32 v36.toNatClampNeg v31) (fun (S49 : St) =>
            gd (inb v23 8) (
            gd (inb v23 8) (
            bv (si S49 27 v23.toNatClampNeg ((gi S49 27 v23.toNatClampNeg) + (1 : Int32))) (fun (S53 : St) =>
            bn1 (fX9_nextPiece S53 p1) (fun (v55 : Int32) =>
            next25 w40 w42 v55 S53)))))))))))))))
        else (
          J33 S24))))))
def fX9_nest_L94 (next14 : Int32 → St → Option (St)) (v12 : Int32) (S13 : St) : Option (St) :=
  if (8 : Int32) ≤ v12 then (
    some S13)
  else (
    gd (inb v12 8) (
    bv (si S13 27 v12.toNatClampNeg (0 : Int32)) (fun (S61 : St) =>
    bv (v12 + 1) (fun (v63 : Int32) =>
    next14 v63 S61))))
def fX9_nest (S : St) (p1 : Int32) (p2 : Int32) (p3 : Int32) (p4 : Int32) : Option ((Int64 × St)) :=
  bn1 (fX9_isTool S p1) (fun (v1 : Int32) =>
  bn1 (fX9_in p2 (50 : Int32) (3000 : Int32)) (fun (v2 : Int32) =>
  bn1 (jn0 (
    some (0 : Int32)) (fun J69 =>
    if v2 = 0 then (
      J69)
    else (
      bn1 (fX9_in p3 (50 : Int32) (1500 : Int32)) (fun (v71 : Int32) =>
      if v71 = 0 then (
        J69)
      else (
        if p2 < p3 then (
          J69)
        else (
          bn1 (fX9_in p4 (0 : Int32) (3 : Int32)) (fun (v74 : Int32) =>
          if v74 = 0 then (
            J69)
          else (
            some (1 : Int32))))))))) (fun (v3 : Int32) =>
    bn1 (if v1 = 0 then (
      some (1 : Int32))
    else (
      if v3 = 0 then (
        some (2 : Int32))
      else (
        some (0 : Int32)))) (fun (v4 : Int32) =>
      bn2 (fX9_goesWell S v4) (fun (v5 : Int32) (S6 : St) =>
      if v5 = 0 then (
        some ((0 : Int64), S6))
      else (
        bv (si S6 0 38 (0 : Int32)) (fun (S8 : St) =>
        bv (si S8 0 40 (0 : Int32)) (fun (S10 : St) =>
        bn1 (lq2 (fX9_nest_L94) 200 (0 : Int32) S10) (fun (S15 : St) =>
          bv ((0 : Int64)) (fun (w16 : Int64) =>
          bv ((0 : Int64)) (fun (w18 : Int64) =>
          bn1 (fX9_nextPiece S15 p1) (fun (v20 : Int32) =>
          lq4 (fX9_nest_L128 p4 p2 p3 p1) 200 w16 w18 v20 S15))))))))))))
def fX9_turns (S : St) (p1 : Int32) (p2 : Int32) : Option ((Int32 × St)) :=
  bn1 (fX9_findOrders S p1 p2) (fun (S1 : St) =>
  gd (inb (6 : Int32) 224) (
  if (99 : Int32) ≤ (gi S1 26 (6 : Int32).toNatClampNeg) then (
    some ((-1 : Int32), S1))
  else (
    gd (inb (6 : Int32) 224) (
    some ((gi S1 26 (6 : Int32).toNatClampNeg), S1)))))
def fX9_flips (S : St) (p1 : Int32) (p2 : Int32) : Option ((Int32 × St)) :=
  bn1 (fX9_isPart S p1) (fun (v1 : Int32) =>
  bn1 (jn0 (
    some (1 : Int32)) (fun J9 =>
    if v1 = 0 then (
      J9)
    else (
      bn1 (fX9_isTool S p2) (fun (v11 : Int32) =>
      if v11 = 0 then (
        J9)
      else (
        some (0 : Int32)))))) (fun (v2 : Int32) =>
    bn2 (fX9_goesWell S v2) (fun (v3 : Int32) (S4 : St) =>
    if v3 = 0 then (
      some ((0 : Int32), S4))
    else (
      bn2 (fX9_turns S4 p1 p2) (fun (v6 : Int32) (S7 : St) =>
      some (v6, S7))))))
def fX9_flipsAnew (S : St) (p1 : Int32) (p2 : Int32) : Option ((Int32 × St)) :=
  bn1 (fX9_isPart S p1) (fun (v1 : Int32) =>
  bn1 (jn0 (
    some (1 : Int32)) (fun J9 =>
    if v1 = 0 then (
      J9)
    else (
      bn1 (fX9_isTool S p2) (fun (v11 : Int32) =>
      if v11 = 0 then (
        J9)
      else (
        some (0 : Int32)))))) (fun (v2 : Int32) =>
    bn2 (fX9_goesWell S v2) (fun (v3 : Int32) (S4 : St) =>
    if v3 = 0 then (
      some ((0 : Int32), S4))
    else (
      bn2 (fX9_turns S4 p1 p2) (fun (v6 : Int32) (S7 : St) =>
      some (v6, S7))))))
def fX9_ordered_L87 (v11 : Int32) (p1 : Int32) (p2 : Int32) (v12 : Int32) (next26 : Int32 → Int32 → St → Option (Int32 × St)) (v23 : Int32) (v24 : Int32) (S25 : St) : Option (Int32 × St) :=
  if v24 < 0 then (
    some (v23, S25))
  else (
    bn2 (jn1 (fun (S48 : St) =>
      some ((0 : Int32), S48)) (fun J49 =>
      if ((v11 >>> (v24 &&& 31)) &&& (1 : Int32)) = 0 then (
        bn2 (fX9_reason S25 p1 p2 v11 v24) (fun (v51 : Int32) (S52 : St) =>
        if v51 = 0 then (
          some ((1 : Int32), S52))
        else (
          J49 S52)))
      else (
        J49 S25))) (fun (v35 : Int32) (S36 : St) =>
      bn1 (jn0 (
        some v23) (fun J41 =>
        if v35 = 0 then (
          J41)
        else (
          bn1 (fX9_turn S36 p1 v12 v24) (fun (v43 : Int32) =>
          gd (inb (((7 : Int32) * (v11 ||| ((1 : Int32) <<< (v24 &&& 31)))) + v24) 224) (
          gd (inb (((7 : Int32) * v11) + v12) 224) (
          if (v43 + (gi S36 26 (((7 : Int32) * (v11 ||| ((1 : Int32) <<< (v24 &&& 31)))) + v24).toNatClampNeg)) = (gi S36 26 (((7 : Int32) * v11) + v12).toNatClampNeg) then (
            some v24)
          else (
            J41))))))) (fun (v37 : Int32) =>
        bv (v24 + (-1)) (fun (v38 : Int32) =>
        next26 v37 v38 S36))))
def fX9_ordered_L68 (p3 : Int32) (p1 : Int32) (p2 : Int32) (next15 : Int32 → Int32 → Int32 → St → Option (Int32 × St)) (v11 : Int32) (v12 : Int32) (v13 : Int32) (S14 : St) : Option (Int32 × St) :=
  if p3 < v13 then (
    some (v12, S14))
  else (
    gd (inb p1 8) (
    bv (((gi S14 3 p1.toNatClampNeg) - (2 : Int32))) (fun (v21 : Int32) =>
    bn2 (lq3 (fX9_ordered_L87 v11 p1 p2 v12) 200 (-1 : Int32) v21 S14) (fun (v27 : Int32) (S28 : St) =>
      bv ((v11 ||| ((1 : Int32) <<< (v27 &&& 31)))) (fun (v29 : Int32) =>
      bv (v13 + 1) (fun (v31 : Int32) =>
      next15 v29 v27 v31 S28))))))
def fX9_ordered (S : St) (p1 : Int32) (p2 : Int32) (p3 : Int32) : Option ((Int32 × St)) :=
  bn1 (fX9_isPart S p1) (fun (v1 : Int32) =>
  bn1 (jn0 (
    some (1 : Int32)) (fun J55 =>
    if v1 = 0 then (
      J55)
    else (
      bn1 (fX9_isTool S p2) (fun (v57 : Int32) =>
      if v57 = 0 then (
        J55)
      else (
        if p3 < 0 then (
          J55)
        else (
          some (0 : Int32))))))) (fun (v2 : Int32) =>
    bn2 (fX9_goesWell S v2) (fun (v3 : Int32) (S4 : St) =>
    if v3 = 0 then (
      some ((0 : Int32), S4))
    else (
      bn2 (fX9_turns S4 p1 p2) (fun (v6 : Int32) (S7 : St) =>
      if v6 = (-1 : Int32) then (
        some ((-1 : Int32), S7))
      else (
        gd (inb p1 8) (
        if p3 < ((gi S7 3 p1.toNatClampNeg) - (1 : Int32)) then (
          bn2 (lq4 (fX9_ordered_L68 p3 p1 p2) 200 (0 : Int32) (6 : Int32) (0 : Int32) S7) (fun (v16 : Int32) (S17 : St) =>
            some (v16, S17)))
        else (
          some ((-1 : Int32), S7)))))))))
def fX9_work (S : St) (p1 : Int32) : Option ((Int32 × St)) :=
  bn1 (fX9_isBatch S p1) (fun (v1 : Int32) =>
  bn2 (jn1 (fun (S17 : St) =>
    some ((0 : Int32), S17)) (fun J18 =>
    if v1 = 0 then (
      J18 S)
    else (
      gd (inb p1 20) (
      jn1 (fun (S21 : St) =>
        some ((1 : Int32), S21)) (fun J22 =>
        if (gi S 23 p1.toNatClampNeg) = (1 : Int32) then (
          J22 S)
        else (
          gd (inb p1 20) (
          if (gi S 23 p1.toNatClampNeg) = 0 then (
            gd (inb p1 20) (
            gd (inb p1 20) (
            bn2 (fX9_turns S (gi S 20 p1.toNatClampNeg) (gi S 21 p1.toNatClampNeg)) (fun (v28 : Int32) (S29 : St) =>
            if v28 = (-1 : Int32) then (
              J18 S29)
            else (
              J22 S29)))))
          else (
            J18 S)))))))) (fun (v2 : Int32) (S3 : St) =>
    bn1 (if v1 = 0 then (
      some (1 : Int32))
    else (
      if v2 = 0 then (
        some (2 : Int32))
      else (
        some (0 : Int32)))) (fun (v4 : Int32) =>
      bn2 (fX9_goesWell S3 v4) (fun (v5 : Int32) (S6 : St) =>
      if v5 = 0 then (
        some ((0 : Int32), S6))
      else (
        gd (inb p1 20) (
        gd (inb p1 20) (
        bv (si S6 23 p1.toNatClampNeg ((gi S6 23 p1.toNatClampNeg) + (1 : Int32))) (fun (S10 : St) =>
        gd (inb p1 20) (
        some ((gi S10 23 p1.toNatClampNeg), S10))))))))))
