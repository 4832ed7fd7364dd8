/-- StampTales$Atlas.clear -/
def D_X0_clear (x0 : Bool) (μ : Mi) : Option Mi :=
  some (wr (wr (wr μ 0 x0 0 0) 0 x0 1 0) 0 x0 2 0)
/-- StampTales$Atlas.takeOver -/
def F_X0_takeOver_145 (k145 : (Int → Mi → Option Mi)) (x2 : Int) (μ : Mi) : Option Mi :=
  if 16 ≤ (w32 x2) then
    some (cpy (cpy μ 19 16) 20 16)
  else
    if 0 ≤ (w32 x2) ∧ (w32 x2) < 16 then
    if 0 ≤ (w32 x2) ∧ (w32 x2) < 16 then
    if isB (rd μ 18 true (ix x2)) then
    k145 (x2 + 1) (wr μ 18 false (ix x2) (rd μ 18 true (ix x2)))
    else none
    else none
    else none
def B_X0_takeOver_145 (n : Nat) : Int → Mi → Option Mi := lp (F_X0_takeOver_145) (fun _ _ => none) n
theorem B_X0_takeOver_145_s (n : Nat) (x2 : Int) (μ : Mi) : B_X0_takeOver_145 (n + 1) x2 μ = F_X0_takeOver_145 (B_X0_takeOver_145 n) x2 μ := rfl
def D_X0_takeOver (μ : Mi) : Option Mi :=
  B_X0_takeOver_145 FU 0 (cpy (cpy (cpy (cpy (cpy (cpy (cpy (cpy (wr (wr (wr μ 0 false 0 (rd μ 0 true 0)) 0 false 1 (rd μ 0 true 1)) 0 false 2 (rd μ 0 true 2)) 10 4) 11 8) 12 8) 13 16) 14 16) 15 16) 16 16) 17 16)
/-- StampTales$Atlas.addLand -/
def D_X0_addLand (x0 : Bool) (x1 : Int) (μ : Mi) : Option Mi :=
  if 4 ≤ (w32 (rd μ 0 x0 0)) then
    some μ
  else
    if 0 ≤ (w32 (rd μ 0 x0 0)) ∧ (w32 (rd μ 0 x0 0)) < 4 then
    some (wr (wr μ 10 x0 (ix (rd μ 0 x0 0)) x1) 0 x0 0 ((rd μ 0 x0 0) + 1))
    else none
/-- StampTales$Atlas.addTown -/
def D_X0_addTown (x0 : Bool) (x1 : Int) (x2 : Int) (μ : Mi) : Option Mi :=
  if 8 ≤ (w32 (rd μ 0 x0 1)) then
    some μ
  else
    if 0 ≤ (w32 (rd μ 0 x0 1)) ∧ (w32 (rd μ 0 x0 1)) < 8 then
    if 0 ≤ (w32 (rd μ 0 x0 1)) ∧ (w32 (rd μ 0 x0 1)) < 8 then
    some (wr (wr (wr μ 11 x0 (ix (rd μ 0 x0 1)) x1) 12 x0 (ix (rd μ 0 x0 1)) x2) 0 x0 1 ((rd μ 0 x0 1) + 1))
    else none
    else none
/-- StampTales$Atlas.stampingLand -/
def D_X0_stampingLand (x0 : Bool) (x1 : Int) (x2 : Int) (x3 : Int) (μ : Mi) : Option Int :=
  if 0 ≤ (w32 x1) ∧ (w32 x1) < 8 then
  if 0 ≤ (w32 x2) ∧ (w32 x2) < 8 then
  if (w32 (rd μ 11 x0 (ix x1))) = (w32 (rd μ 11 x0 (ix x2))) then
    some (-1)
  else
    if 0 ≤ (w32 (rd μ 11 x0 (ix x1))) ∧ (w32 (rd μ 11 x0 (ix x1))) < 4 then
    if (w32 (iand (rd μ 10 x0 (ix (rd μ 11 x0 (ix x1)))) x3)) = 0 then
      some (-1)
    else
      some (rd μ 11 x0 (ix x1))
    else none
  else none
  else none
/-- StampTales$Atlas.addLink -/
def D_X0_addLink (x0 : Bool) (x1 : Int) (x2 : Int) (x3 : Int) (x4 : Int) (x5 : Int) (x6 : Int) (μ : Mi) : Option Mi :=
  if 16 ≤ (w32 (rd μ 0 x0 2)) then
    some μ
  else
    if 0 ≤ (w32 (rd μ 0 x0 2)) ∧ (w32 (rd μ 0 x0 2)) < 16 then
    if 0 ≤ (w32 (rd μ 0 x0 2)) ∧ (w32 (rd μ 0 x0 2)) < 16 then
    if 0 ≤ (w32 (rd μ 0 x0 2)) ∧ (w32 (rd μ 0 x0 2)) < 16 then
    if isB x3 then
    if 0 ≤ (w32 (rd μ 0 x0 2)) ∧ (w32 (rd μ 0 x0 2)) < 16 then
    if 0 ≤ (w32 (rd μ 0 x0 2)) ∧ (w32 (rd μ 0 x0 2)) < 16 then
    if 0 ≤ (w32 (rd μ 0 x0 2)) ∧ (w32 (rd μ 0 x0 2)) < 16 then
    bp (D_X0_stampingLand x0 x1 x2 2 (wr (wr (wr (wr (wr (wr μ 13 x0 (ix (rd μ 0 x0 2)) x1) 14 x0 (ix (rd μ 0 x0 2)) x2) 18 x0 (ix (rd μ 0 x0 2)) x3) 15 x0 (ix (rd μ 0 x0 2)) x4) 16 x0 (ix (rd μ 0 x0 2)) x5) 17 x0 (ix (rd μ 0 x0 2)) x6)) fun r1 =>
    if 0 ≤ (w32 (rd μ 0 x0 2)) ∧ (w32 (rd μ 0 x0 2)) < 16 then
    bp (D_X0_stampingLand x0 x2 x1 1 (wr (wr (wr (wr (wr (wr (wr μ 13 x0 (ix (rd μ 0 x0 2)) x1) 14 x0 (ix (rd μ 0 x0 2)) x2) 18 x0 (ix (rd μ 0 x0 2)) x3) 15 x0 (ix (rd μ 0 x0 2)) x4) 16 x0 (ix (rd μ 0 x0 2)) x5) 17 x0 (ix (rd μ 0 x0 2)) x6) 19 x0 (ix (rd μ 0 x0 2)) r1)) fun r2 =>
    if 0 ≤ (w32 (rd μ 0 x0 2)) ∧ (w32 (rd μ 0 x0 2)) < 16 then
    some (wr (wr (wr (wr (wr (wr (wr (wr (wr μ 13 x0 (ix (rd μ 0 x0 2)) x1) 14 x0 (ix (rd μ 0 x0 2)) x2) 18 x0 (ix (rd μ 0 x0 2)) x3) 15 x0 (ix (rd μ 0 x0 2)) x4) 16 x0 (ix (rd μ 0 x0 2)) x5) 17 x0 (ix (rd μ 0 x0 2)) x6) 19 x0 (ix (rd μ 0 x0 2)) r1) 20 x0 (ix (rd μ 0 x0 2)) r2) 0 x0 2 ((rd μ 0 x0 2) + 1))
    else none
    else none
    else none
    else none
    else none
    else none
    else none
    else none
    else none
/-- StampTales$Atlas.hasLand -/
def D_X0_hasLand (x0 : Bool) (x1 : Int) (μ : Mi) : Int :=
  if (w32 x1) < 0 then
    0
  else
    if (w32 (rd μ 0 x0 0)) ≤ (w32 x1) then
      0
    else
      1
/-- StampTales$Atlas.hasTown -/
def D_X0_hasTown (x0 : Bool) (x1 : Int) (μ : Mi) : Int :=
  if (w32 x1) < 0 then
    0
  else
    if (w32 (rd μ 0 x0 1)) ≤ (w32 x1) then
      0
    else
      1
/-- StampTales$Atlas.hasLink -/
def D_X0_hasLink (x0 : Bool) (x1 : Int) (μ : Mi) : Int :=
  if (w32 x1) < 0 then
    0
  else
    if (w32 (rd μ 0 x0 2)) ≤ (w32 x1) then
      0
    else
      1
/-- StampTales$Atlas.leavesAt -/
def B_X0_leavesAt_23 (s0 : Int) (s1 : Int) (μ : Mi) : Option Int :=
  if ¬ (w32 s1) = (w32 s0) then
    some 0
  else
    some 1
def D_X0_leavesAt (x0 : Bool) (x1 : Int) (x2 : Int) (μ : Mi) : Option Int :=
  if 0 ≤ (w32 x1) ∧ (w32 x1) < 16 then
  if 0 ≤ (w32 x1) ∧ (w32 x1) < 16 then
  if (w32 (rd μ 18 x0 (ix x1))) = 0 then
    B_X0_leavesAt_23 x2 (rd μ 15 x0 (ix x1)) μ
  else
    B_X0_leavesAt_23 (irem x2 24) (rd μ 15 x0 (ix x1)) μ
  else none
  else none
/-- StampTales$Atlas.dayAt -/
def D_X0_dayAt (x0 : Bool) (x1 : Int) (x2 : Int) (μ : Mi) : Option Int :=
  if 0 ≤ (w32 x2) ∧ (w32 x2) < 8 then
  some ((idiv ((x1 + (rd μ 12 x0 (ix x2))) + 24) 24) - 1)
  else none
/-- StampTales$Man.settle -/
def D_X2_settle (x0 : Bool) (x1 : Int) (x2 : Int) (x3 : Int) (μ : Mi) : Option Mi :=
  some (wr (wr (wr (wr μ 2 x0 0 x1) 2 x0 1 x2) 2 x0 2 x3) 2 x0 4 1)
/-- StampTales$Man.startAnew -/
def D_X2_startAnew (x0 : Bool) (μ : Mi) : Option Mi :=
  bm (D_X2_settle x0 0 0 96 (wr μ 2 x0 3 0)) fun m1 =>
  some m1
/-- StampTales$Man.howMany -/
def B_X2_howMany_25 (k4 : (Bool → Int → Int → Int → Mi → Option Int)) (x0 : Bool) (x1 : Int) (x2 : Int) (x3 : Int) (μ : Mi) : Option Int :=
  k4 x0 x1 x2 (x3 + 1) μ
def F_X2_howMany_4 (k4 : (Bool → Int → Int → Int → Mi → Option Int)) (x0 : Bool) (x1 : Int) (x2 : Int) (x3 : Int) (μ : Mi) : Option Int :=
  if (w32 (rd μ 2 x0 3)) ≤ (w32 x3) then
    some x2
  else
    if 0 ≤ (w32 x3) ∧ (w32 x3) < 8 then
    if ¬ (w32 (rd μ 24 x0 (ix x3))) = (w32 x1) then
      B_X2_howMany_25 k4 x0 x1 x2 x3 μ
    else
      B_X2_howMany_25 k4 x0 x1 (x2 + 1) x3 μ
    else none
def B_X2_howMany_4 (n : Nat) : Bool → Int → Int → Int → Mi → Option Int := lp (F_X2_howMany_4) (fun _ _ _ _ _ => none) n
theorem B_X2_howMany_4_s (n : Nat) (x0 : Bool) (x1 : Int) (x2 : Int) (x3 : Int) (μ : Mi) : B_X2_howMany_4 (n + 1) x0 x1 x2 x3 μ = F_X2_howMany_4 (B_X2_howMany_4 n) x0 x1 x2 x3 μ := rfl
def D_X2_howMany (x0 : Bool) (x1 : Int) (μ : Mi) : Option Int :=
  B_X2_howMany_4 FU x0 x1 0 0 μ
/-- StampTales$Man.mostOf -/
def D_X2_mostOf (x0 : Int) : Int :=
  if ¬ (w32 x0) = 0 then
    if ¬ (w32 x0) = 2 then
      8
    else
      2
  else
    6
/-- StampTales$Man.add -/
def D_X2_add (x0 : Bool) (x1 : Int) (x2 : Int) (x3 : Int) (x4 : Int) (μ : Mi) : Option (Int × Mi) :=
  if 8 ≤ (w32 (rd μ 2 x0 3)) then
    some ((-1), μ)
  else
    bp (D_X2_howMany x0 x1 μ) fun r1 =>
    if (w32 r1) < (w32 (D_X2_mostOf x1)) then
      if 0 ≤ (w32 (rd μ 2 x0 3)) ∧ (w32 (rd μ 2 x0 3)) < 8 then
      if 0 ≤ (w32 (rd μ 2 x0 3)) ∧ (w32 (rd μ 2 x0 3)) < 8 then
      if 0 ≤ (w32 (rd μ 2 x0 3)) ∧ (w32 (rd μ 2 x0 3)) < 8 then
      if 0 ≤ (w32 (rd μ 2 x0 3)) ∧ (w32 (rd μ 2 x0 3)) < 8 then
      if 0 ≤ (w32 (rd μ 2 x0 3)) ∧ (w32 (rd μ 2 x0 3)) < 8 then
      if 0 ≤ (w32 (rd μ 2 x0 3)) ∧ (w32 (rd μ 2 x0 3)) < 8 then
      some ((((rd μ 2 x0 3) + 1) - 1), (wr (wr (wr (wr (wr (wr (wr (wr μ 24 x0 (ix (rd μ 2 x0 3)) x1) 25 x0 (ix (rd μ 2 x0 3)) x2) 26 x0 (ix (rd μ 2 x0 3)) x3) 27 x0 (ix (rd μ 2 x0 3)) x4) 28 x0 (ix (rd μ 2 x0 3)) 0) 29 x0 (ix (rd μ 2 x0 3)) 0) 2 x0 3 ((rd μ 2 x0 3) + 1)) 2 x0 4 1))
      else none
      else none
      else none
      else none
      else none
      else none
    else
      some ((-1), μ)
/-- StampTales$Man.has -/
def D_X2_has (x0 : Bool) (x1 : Int) (μ : Mi) : Int :=
  if (w32 x1) < 0 then
    0
  else
    if (w32 (rd μ 2 x0 3)) ≤ (w32 x1) then
      0
    else
      1
/-- StampTales$Man.setDoubted -/
def D_X2_setDoubted (x0 : Bool) (x1 : Int) (x2 : Int) (μ : Mi) : Option (Int × Mi) :=
  if (w32 (D_X2_has x0 x1 μ)) = 0 then
    some (0, μ)
  else
    if 0 ≤ (w32 x1) ∧ (w32 x1) < 8 then
    if ¬ (w32 (rd μ 29 x0 (ix x1))) = (w32 x2) then
      if 0 ≤ (w32 x1) ∧ (w32 x1) < 8 then
      if isB x2 then
      some (1, (wr (wr μ 29 x0 (ix x1) x2) 2 x0 4 1))
      else none
      else none
    else
      some (0, μ)
    else none
/-- StampTales$Man.dropLast -/
def D_X2_dropLast (x0 : Bool) (μ : Mi) : Option (Int × Mi) :=
  if ¬ (w32 (rd μ 2 x0 3)) = 0 then
    some (((rd μ 2 x0 3) - 1), (wr (wr μ 2 x0 3 ((rd μ 2 x0 3) - 1)) 2 x0 4 1))
  else
    some ((-1), μ)
/-- StampTales$Man.counts -/
def D_X2_counts (x0 : Bool) (x1 : Int) (x2 : Int) (μ : Mi) : Option Int :=
  if (w32 (D_X2_has x0 x1 μ)) = 0 then
    some 0
  else
    if 0 ≤ (w32 x1) ∧ (w32 x1) < 8 then
    if ¬ (w32 (rd μ 24 x0 (ix x1))) = (w32 x2) then
      some 0
    else
      if 0 ≤ (w32 x1) ∧ (w32 x1) < 8 then
      if ¬ (w32 (rd μ 29 x0 (ix x1))) = 0 then
        some 0
      else
        some 1
      else none
    else none
/-- StampTales$Man.stampFits -/
def D_X2_stampFits (x0 : Bool) (x1 : Int) (x2 : Int) (x3 : Int) (x4 : Int) (μ : Mi) : Option Int :=
  if (w32 x1) < 0 then
    some 0
  else
    if (w32 (rd μ 2 x0 3)) ≤ (w32 x1) then
      some 0
    else
      if 0 ≤ (w32 x1) ∧ (w32 x1) < 8 then
      if ¬ (w32 (rd μ 25 x0 (ix x1))) = (w32 x2) then
        some 0
      else
        if 0 ≤ (w32 x1) ∧ (w32 x1) < 8 then
        if ¬ (w32 (rd μ 28 x0 (ix x1))) = (w32 x3) then
          some 0
        else
          if 0 ≤ (w32 x1) ∧ (w32 x1) < 8 then
          if (w32 x4) < (w32 (rd μ 26 x0 (ix x1))) then
            some 0
          else
            if 0 ≤ (w32 x1) ∧ (w32 x1) < 8 then
            if (w32 (rd μ 27 x0 (ix x1))) < (w32 x4) then
              some 0
            else
              some 1
            else none
          else none
        else none
      else none
/-- java/lang/Math.min -/
def D_J9_min_7cf53 (x0 : Int) (x1 : Int) : Int :=
  if (w32 x1) < (w32 x0) then
    x1
  else
    x0
/-- StampTales$Reader.isLetter -/
def D_X3_isLetter (x1 : Int) (μ : Mi) : Option Int :=
  if 0 ≤ (w32 x1) ∧ (w32 x1) < 500 then
  if (w32 (rd μ 41 false (ix x1))) < 97 then
    some 0
  else
    if 0 ≤ (w32 x1) ∧ (w32 x1) < 500 then
    if 122 < (w32 (rd μ 41 false (ix x1))) then
      some 0
    else
      some 1
    else none
  else none
/-- StampTales$Reader.isDigit -/
def D_X3_isDigit (x1 : Int) (μ : Mi) : Option Int :=
  if 0 ≤ (w32 x1) ∧ (w32 x1) < 500 then
  if (w32 (rd μ 41 false (ix x1))) < 48 then
    some 0
  else
    if 0 ≤ (w32 x1) ∧ (w32 x1) < 500 then
    if 57 < (w32 (rd μ 41 false (ix x1))) then
      some 0
    else
      some 1
    else none
  else none
/-- StampTales$Reader.takeNumber -/
def F_X3_takeNumber_10 (k10 : (Mi → Option Mi)) (μ : Mi) : Option Mi :=
  if (w32 (rd μ 3 false 4)) ≤ (w32 (rd μ 3 false 6)) then
    some μ
  else
    bp (D_X3_isDigit (rd μ 3 false 6) μ) fun r1 =>
    if (w32 r1) = 0 then
      some μ
    else
      if 0 ≤ (w32 (rd μ 3 false 6)) ∧ (w32 (rd μ 3 false 6)) < 500 then
      k10 (wr (wr μ 3 false 8 (D_J9_min_7cf53 1000 (((rd μ 3 false 8) * 10) + ((rd μ 41 false (ix (rd μ 3 false 6))) - 48)))) 3 false 6 ((rd μ 3 false 6) + 1))
      else none
def B_X3_takeNumber_10 (n : Nat) : Mi → Option Mi := lp (F_X3_takeNumber_10) (fun _ => none) n
theorem B_X3_takeNumber_10_s (n : Nat) (μ : Mi) : B_X3_takeNumber_10 (n + 1) μ = F_X3_takeNumber_10 (B_X3_takeNumber_10 n) μ := rfl
def D_X3_takeNumber (μ : Mi) : Option Mi :=
  B_X3_takeNumber_10 FU (wr (wr μ 3 false 7 2) 3 false 8 0)
/-- StampTales$Reader.takeWord -/
def F_X3_takeWord_10 (k10 : (Mi → Option Mi)) (μ : Mi) : Option Mi :=
  if (w32 (rd μ 3 false 4)) ≤ (w32 (rd μ 3 false 6)) then
    some μ
  else
    bp (D_X3_isLetter (rd μ 3 false 6) μ) fun r1 =>
    if (w32 r1) = 0 then
      some μ
    else
      if 0 ≤ (w32 (rd μ 3 false 6)) ∧ (w32 (rd μ 3 false 6)) < 500 then
      k10 (wr (wl μ 3 false 9 (((rl μ 3 false 9) * 32) + (w32 (((rd μ 41 false (ix (rd μ 3 false 6))) - 97) + 1)))) 3 false 6 ((rd μ 3 false 6) + 1))
      else none
def B_X3_takeWord_10 (n : Nat) : Mi → Option Mi := lp (F_X3_takeWord_10) (fun _ => none) n
theorem B_X3_takeWord_10_s (n : Nat) (μ : Mi) : B_X3_takeWord_10 (n + 1) μ = F_X3_takeWord_10 (B_X3_takeWord_10 n) μ := rfl
def D_X3_takeWord (μ : Mi) : Option Mi :=
  B_X3_takeWord_10 FU (wl (wr μ 3 false 7 1) 3 false 9 0)
/-- StampTales$Reader.next -/
def B_X3_next_143 (s0 : Int) (μ : Mi) : Option Mi :=
  some (wr (wr μ 3 false 7 s0) 3 false 6 ((rd μ 3 false 6) + 1))
def B_X3_next_60 (μ : Mi) : Option Mi :=
  if (w32 (rd μ 3 false 5)) < (w32 (rd μ 3 false 4)) then
    bp (D_X3_isLetter (rd μ 3 false 5) (wr μ 3 false 6 (rd μ 3 false 5))) fun r1 =>
    if (w32 r1) = 0 then
      bp (D_X3_isDigit (rd μ 3 false 5) (wr μ 3 false 6 (rd μ 3 false 5))) fun r2 =>
      if (w32 r2) = 0 then
        if 0 ≤ (w32 (rd μ 3 false 5)) ∧ (w32 (rd μ 3 false 5)) < 500 then
        if ¬ (w32 (rd μ 41 false (ix (rd μ 3 false 5)))) = 59 then
          B_X3_next_143 4 (wr μ 3 false 6 (rd μ 3 false 5))
        else
          B_X3_next_143 3 (wr μ 3 false 6 (rd μ 3 false 5))
        else none
      else
        bm (D_X3_takeNumber (wr μ 3 false 6 (rd μ 3 false 5))) fun m3 =>
        some m3
    else
      bm (D_X3_takeWord (wr μ 3 false 6 (rd μ 3 false 5))) fun m2 =>
      some m2
  else
    some (wr (wr μ 3 false 6 (rd μ 3 false 5)) 3 false 7 0)
def B_X3_next_47 (k8 : (Mi → Option Mi)) (μ : Mi) : Option Mi :=
  k8 (wr μ 3 false 5 ((rd μ 3 false 5) + 1))
def F_X3_next_8 (k8 : (Mi → Option Mi)) (μ : Mi) : Option Mi :=
  if (w32 (rd μ 3 false 4)) ≤ (w32 (rd μ 3 false 5)) then
    B_X3_next_60 μ
  else
    if 0 ≤ (w32 (rd μ 3 false 5)) ∧ (w32 (rd μ 3 false 5)) < 500 then
    if (w32 (rd μ 41 false (ix (rd μ 3 false 5)))) = 32 then
      B_X3_next_47 k8 μ
    else
      if 0 ≤ (w32 (rd μ 3 false 5)) ∧ (w32 (rd μ 3 false 5)) < 500 then
      if ¬ (w32 (rd μ 41 false (ix (rd μ 3 false 5)))) = 10 then
        B_X3_next_60 μ
      else
        B_X3_next_47 k8 μ
      else none
    else none
def B_X3_next_8 (n : Nat) : Mi → Option Mi := lp (F_X3_next_8) (fun _ => none) n
theorem B_X3_next_8_s (n : Nat) (μ : Mi) : B_X3_next_8 (n + 1) μ = F_X3_next_8 (B_X3_next_8 n) μ := rfl
def D_X3_next (μ : Mi) : Option Mi :=
  B_X3_next_8 FU (wr μ 3 false 5 (rd μ 3 false 6))
/-- StampTales$Reader.isWord -/
def F_X3_isWord_28 (k28 : (Nat → Int → Mi → Option Int)) (x1 : Nat) (x2 : Int) (μ : Mi) : Option Int :=
  if (w32 (sN x1)) ≤ (w32 x2) then
    some 1
  else
    if 0 ≤ (w32 ((rd μ 3 false 5) + x2)) ∧ (w32 ((rd μ 3 false 5) + x2)) < 500 then
    if 0 ≤ (w32 x2) ∧ (w32 x2) < sN x1 then
    if (w32 (rd μ 41 false (ix ((rd μ 3 false 5) + x2)))) = (w32 (sC x1 (ix x2))) then
      k28 x1 (x2 + 1) μ
    else
      some 0
    else none
    else none
def B_X3_isWord_28 (n : Nat) : Nat → Int → Mi → Option Int := lp (F_X3_isWord_28) (fun _ _ _ => none) n
theorem B_X3_isWord_28_s (n : Nat) (x1 : Nat) (x2 : Int) (μ : Mi) : B_X3_isWord_28 (n + 1) x1 x2 μ = F_X3_isWord_28 (B_X3_isWord_28 n) x1 x2 μ := rfl
def D_X3_isWord (x1 : Nat) (μ : Mi) : Option Int :=
  if ¬ (w32 (rd μ 3 false 7)) = 1 then
    some 0
  else
    if (w32 ((rd μ 3 false 6) - (rd μ 3 false 5))) = (w32 (sN x1)) then
      B_X3_isWord_28 FU x1 0 μ
    else
      some 0
/-- StampTales$Reader.placeOfName -/
def B_X3_placeOfName_r31_48 (k2 : (Int → Int → Mi → Option Int)) (x2 : Int) (x3 : Int) (μ : Mi) : Option Int :=
  k2 x2 (x3 + 1) μ
def F_X3_placeOfName_r31_2 (k2 : (Int → Int → Mi → Option Int)) (x2 : Int) (x3 : Int) (μ : Mi) : Option Int :=
  if (w32 x2) ≤ (w32 x3) then
    some (-1)
  else
    if 8 ≤ (w32 x3) then
      some (-1)
    else
      if ¬ (w32 (rd μ 3 false 7)) = 1 then
        B_X3_placeOfName_r31_48 k2 x2 x3 μ
      else
        if 8 < (w32 ((rd μ 3 false 6) - (rd μ 3 false 5))) then
          B_X3_placeOfName_r31_48 k2 x2 x3 μ
        else
          if 0 ≤ (w32 x3) ∧ (w32 x3) < 8 then
          if ¬ (w32 (lcmp (rl μ 31 false (ix x3)) (rl μ 3 false 9))) = 0 then
            B_X3_placeOfName_r31_48 k2 x2 x3 μ
          else
            some x3
          else none
def B_X3_placeOfName_r31_2 (n : Nat) : Int → Int → Mi → Option Int := lp (F_X3_placeOfName_r31_2) (fun _ _ _ => none) n
theorem B_X3_placeOfName_r31_2_s (n : Nat) (x2 : Int) (x3 : Int) (μ : Mi) : B_X3_placeOfName_r31_2 (n + 1) x2 x3 μ = F_X3_placeOfName_r31_2 (B_X3_placeOfName_r31_2 n) x2 x3 μ := rfl
def D_X3_placeOfName_r31 (x2 : Int) (μ : Mi) : Option Int :=
  B_X3_placeOfName_r31_2 FU x2 0 μ
/-- StampTales$Reader.townOfWord -/
def D_X3_townOfWord (μ : Mi) : Option Int :=
  bp (D_X3_placeOfName_r31 (rd μ 0 true 1) μ) fun r1 =>
  some r1
/-- StampTales$Reader.passWord -/
def D_X3_passWord (x1 : Nat) (μ : Mi) : Option (Int × Mi) :=
  bp (D_X3_isWord x1 μ) fun r1 =>
  if ¬ (w32 r1) = 0 then
    bm (D_X3_next μ) fun m2 =>
    some (1, m2)
  else
    some (0, μ)
/-- StampTales$Reader.isNumber -/
def D_X3_isNumber (x1 : Int) (x2 : Int) (μ : Mi) : Int :=
  if ¬ (w32 (rd μ 3 false 7)) = 2 then
    0
  else
    if (w32 (rd μ 3 false 8)) < (w32 x1) then
      0
    else
      if (w32 x2) < (w32 (rd μ 3 false 8)) then
        0
      else
        1
/-- StampTales$Reader.readLink -/
def B_X3_readLink_75 (x1 : Int) (x2 : Int) (x3 : Int) (s0 : Int) (s1 : Int) (μ : Mi) : Option (Int × Mi) :=
  if ¬ (w32 (D_X3_isNumber s1 s0 μ)) = 0 then
    bm (D_X3_next μ) fun m2 =>
    bd (D_X3_passWord 12 m2) fun r3 m3 =>
    if (w32 r3) = 0 then
      some (0, m3)
    else
      if ¬ (w32 (D_X3_isNumber 1 48 m3)) = 0 then
        bm (D_X3_next m3) fun m5 =>
        bd (D_X3_passWord 13 m5) fun r6 m6 =>
        if (w32 r6) = 0 then
          some (0, m6)
        else
          if ¬ (w32 (D_X3_isNumber 0 99 m6)) = 0 then
            bm (D_X3_next m6) fun m8 =>
            if (w32 (rd m8 3 false 7)) = 3 then
              bm (D_X3_next m8) fun m9 =>
              bm (D_X0_addLink true x2 x3 x1 (rd μ 3 false 8) (rd m3 3 false 8) (rd m6 3 false 8) m9) fun m10 =>
              some (1, m10)
            else
              some (0, m8)
          else
            some (0, m6)
      else
        some (0, m3)
  else
    some (0, μ)
def D_X3_readLink (x1 : Int) (μ : Mi) : Option (Int × Mi) :=
  if (w32 (rd μ 0 true 2)) < 16 then
    bm (D_X3_next μ) fun m1 =>
    bp (D_X3_townOfWord m1) fun r2 =>
    if 0 ≤ (w32 r2) then
      bm (D_X3_next m1) fun m3 =>
      bp (D_X3_townOfWord m3) fun r4 =>
      if (w32 r4) < 0 then
        some (0, m3)
      else
        if ¬ (w32 r4) = (w32 r2) then
          bm (D_X3_next m3) fun m5 =>
          bd (D_X3_passWord 11 m5) fun r6 m6 =>
          if (w32 r6) = 0 then
            some (0, m6)
          else
            if (w32 x1) = 0 then
              B_X3_readLink_75 x1 r2 r4 95 0 m6
            else
              B_X3_readLink_75 x1 r2 r4 23 0 m6
        else
          some (0, m3)
    else
      some (0, m1)
  else
    some (0, μ)
/-- StampTales$Reader.isKept -/
def D_X3_isKept (μ : Mi) : Option Int :=
  bp (D_X3_isWord 0 μ) fun r1 =>
  if ¬ (w32 r1) = 0 then
    some 1
  else
    bp (D_X3_isWord 2 μ) fun r2 =>
    if ¬ (w32 r2) = 0 then
      some 1
    else
      bp (D_X3_isWord 3 μ) fun r3 =>
      if ¬ (w32 r3) = 0 then
        some 1
      else
        bp (D_X3_isWord 4 μ) fun r4 =>
        if ¬ (w32 r4) = 0 then
          some 1
        else
          bp (D_X3_isWord 5 μ) fun r5 =>
          if ¬ (w32 r5) = 0 then
            some 1
          else
            bp (D_X3_isWord 1 μ) fun r6 =>
            if ¬ (w32 r6) = 0 then
              some 1
            else
              bp (D_X3_isWord 6 μ) fun r7 =>
              if ¬ (w32 r7) = 0 then
                some 1
              else
                bp (D_X3_isWord 7 μ) fun r8 =>
                if ¬ (w32 r8) = 0 then
                  some 1
                else
                  bp (D_X3_isWord 8 μ) fun r9 =>
                  if ¬ (w32 r9) = 0 then
                    some 1
                  else
                    bp (D_X3_isWord 9 μ) fun r10 =>
                    if ¬ (w32 r10) = 0 then
                      some 1
                    else
                      bp (D_X3_isWord 10 μ) fun r11 =>
                      if ¬ (w32 r11) = 0 then
                        some 1
                      else
                        bp (D_X3_isWord 11 μ) fun r12 =>
                        if ¬ (w32 r12) = 0 then
                          some 1
                        else
                          bp (D_X3_isWord 12 μ) fun r13 =>
                          if ¬ (w32 r13) = 0 then
                            some 1
                          else
                            bp (D_X3_isWord 13 μ) fun r14 =>
                            if (w32 r14) = 0 then
                              some 0
                            else
                              some 1
/-- StampTales$Reader.placeOfName -/
def B_X3_placeOfName_r30_48 (k2 : (Int → Int → Mi → Option Int)) (x2 : Int) (x3 : Int) (μ : Mi) : Option Int :=
  k2 x2 (x3 + 1) μ
def F_X3_placeOfName_r30_2 (k2 : (Int → Int → Mi → Option Int)) (x2 : Int) (x3 : Int) (μ : Mi) : Option Int :=
  if (w32 x2) ≤ (w32 x3) then
    some (-1)
  else
    if 4 ≤ (w32 x3) then
      some (-1)
    else
      if ¬ (w32 (rd μ 3 false 7)) = 1 then
        B_X3_placeOfName_r30_48 k2 x2 x3 μ
      else
        if 8 < (w32 ((rd μ 3 false 6) - (rd μ 3 false 5))) then
          B_X3_placeOfName_r30_48 k2 x2 x3 μ
        else
          if 0 ≤ (w32 x3) ∧ (w32 x3) < 4 then
          if ¬ (w32 (lcmp (rl μ 30 false (ix x3)) (rl μ 3 false 9))) = 0 then
            B_X3_placeOfName_r30_48 k2 x2 x3 μ
          else
            some x3
          else none
def B_X3_placeOfName_r30_2 (n : Nat) : Int → Int → Mi → Option Int := lp (F_X3_placeOfName_r30_2) (fun _ _ _ => none) n
theorem B_X3_placeOfName_r30_2_s (n : Nat) (x2 : Int) (x3 : Int) (μ : Mi) : B_X3_placeOfName_r30_2 (n + 1) x2 x3 μ = F_X3_placeOfName_r30_2 (B_X3_placeOfName_r30_2 n) x2 x3 μ := rfl
def D_X3_placeOfName_r30 (x2 : Int) (μ : Mi) : Option Int :=
  B_X3_placeOfName_r30_2 FU x2 0 μ
/-- StampTales$Reader.landOfWord -/
def D_X3_landOfWord (μ : Mi) : Option Int :=
  bp (D_X3_placeOfName_r30 (rd μ 0 true 0) μ) fun r1 =>
  some r1
/-- StampTales$Reader.isNewName -/
def D_X3_isNewName (μ : Mi) : Option Int :=
  if ¬ (w32 (rd μ 3 false 7)) = 1 then
    some 0
  else
    if 8 < (w32 ((rd μ 3 false 6) - (rd μ 3 false 5))) then
      some 0
    else
      bp (D_X3_isKept μ) fun r1 =>
      if ¬ (w32 r1) = 0 then
        some 0
      else
        bp (D_X3_landOfWord μ) fun r2 =>
        if 0 ≤ (w32 r2) then
          some 0
        else
          bp (D_X3_townOfWord μ) fun r3 =>
          if 0 ≤ (w32 r3) then
            some 0
          else
            some 1
/-- StampTales$Reader.readTown -/
def B_X3_readTown_128 (x1 : Int) (x3 : Int) (x4 : Int) (μ : Mi) : Option (Int × Mi) :=
  if (w32 (rd μ 3 false 7)) = 3 then
    bm (D_X3_next μ) fun m1 =>
    if 0 ≤ (w32 (rd m1 0 true 1)) ∧ (w32 (rd m1 0 true 1)) < 8 then
    bm (D_X0_addTown true x3 x4 (wl m1 31 false (ix (rd m1 0 true 1)) x1)) fun m2 =>
    some (1, m2)
    else none
  else
    some (0, μ)
def B_X3_readTown_92 (x1 : Int) (x3 : Int) (x4 : Int) (s0 : Int) (μ : Mi) : Option (Int × Mi) :=
  if (w32 s0) = 0 then
    B_X3_readTown_128 x1 x3 x4 μ
  else
    bm (D_X3_next μ) fun m1 =>
    if ¬ (w32 (D_X3_isNumber 0 12 m1)) = 0 then
      bm (D_X3_next m1) fun m3 =>
      B_X3_readTown_128 x1 x3 (s0 * (rd m1 3 false 8)) m3
    else
      some (0, m1)
def D_X3_readTown (μ : Mi) : Option (Int × Mi) :=
  if (w32 (rd μ 0 true 1)) < 8 then
    bm (D_X3_next μ) fun m1 =>
    bp (D_X3_isNewName m1) fun r2 =>
    if ¬ (w32 r2) = 0 then
      bm (D_X3_next m1) fun m3 =>
      bd (D_X3_passWord 6 m3) fun r4 m4 =>
      if ¬ (w32 r4) = 0 then
        bp (D_X3_landOfWord m4) fun r5 =>
        if 0 ≤ (w32 r5) then
          bm (D_X3_next m4) fun m6 =>
          bp (D_X3_isWord 7 m6) fun r7 =>
          if (w32 r7) = 0 then
            bp (D_X3_isWord 8 m6) fun r8 =>
            if (w32 r8) = 0 then
              B_X3_readTown_92 (rl m1 3 false 9) r5 0 0 m6
            else
              B_X3_readTown_92 (rl m1 3 false 9) r5 0 (-1) m6
          else
            B_X3_readTown_92 (rl m1 3 false 9) r5 0 1 m6
        else
          some (0, m4)
      else
        some (0, m4)
    else
      some (0, m1)
  else
    some (0, μ)
/-- StampTales$Reader.howOfWord -/
def D_X3_howOfWord (μ : Mi) : Option Int :=
  bp (D_X3_isWord 2 μ) fun r1 =>
  if (w32 r1) = 0 then
    bp (D_X3_isWord 3 μ) fun r2 =>
    if (w32 r2) = 0 then
      bp (D_X3_isWord 4 μ) fun r3 =>
      if (w32 r3) = 0 then
        bp (D_X3_isWord 5 μ) fun r4 =>
        if (w32 r4) = 0 then
          some (-1)
        else
          some 0
      else
        some 3
    else
      some 2
  else
    some 1
/-- StampTales$Reader.readLand -/
def D_X3_readLand (μ : Mi) : Option (Int × Mi) :=
  if (w32 (rd μ 0 true 0)) < 4 then
    bm (D_X3_next μ) fun m1 =>
    bp (D_X3_isNewName m1) fun r2 =>
    if ¬ (w32 r2) = 0 then
      bm (D_X3_next m1) fun m3 =>
      bp (D_X3_howOfWord m3) fun r4 =>
      if 0 ≤ (w32 r4) then
        bm (D_X3_next m3) fun m5 =>
        if (w32 (rd m5 3 false 7)) = 3 then
          bm (D_X3_next m5) fun m6 =>
          if 0 ≤ (w32 (rd m6 0 true 0)) ∧ (w32 (rd m6 0 true 0)) < 4 then
          bm (D_X0_addLand true r4 (wl m6 30 false (ix (rd m6 0 true 0)) (rl m1 3 false 9))) fun m7 =>
          some (1, m7)
          else none
        else
          some (0, m5)
      else
        some (0, m3)
    else
      some (0, m1)
  else
    some (0, μ)
/-- StampTales$Reader.readLine -/
def D_X3_readLine (μ : Mi) : Option (Int × Mi) :=
  bp (D_X3_isWord 0 μ) fun r1 =>
  if (w32 r1) = 0 then
    bp (D_X3_isWord 1 μ) fun r2 =>
    if (w32 r2) = 0 then
      bp (D_X3_isWord 9 μ) fun r3 =>
      if (w32 r3) = 0 then
        bp (D_X3_isWord 10 μ) fun r4 =>
        if (w32 r4) = 0 then
          some (0, μ)
        else
          bd (D_X3_readLink 0 μ) fun r5 m5 =>
          if (w32 r5) = 0 then
            some (0, m5)
          else
            some (1, m5)
      else
        bd (D_X3_readLink 1 μ) fun r4 m4 =>
        if isB r4 then some (r4, m4) else none
    else
      bd (D_X3_readTown μ) fun r3 m3 =>
      if isB r3 then some (r3, m3) else none
  else
    bd (D_X3_readLand μ) fun r2 m2 =>
    if isB r2 then some (r2, m2) else none
/-- StampTales$Reader.faultOf -/
def B_X3_faultOf_63 (μ : Mi) : Option (Int × Mi) :=
  if ¬ (w32 (rd μ 0 true 1)) = 0 then
    some ((-1), μ)
  else
    some ((rd μ 3 false 4), μ)
def F_X3_faultOf_31 (k31 : (Int → Mi → Option (Int × Mi))) (x2 : Int) (μ : Mi) : Option (Int × Mi) :=
  if 500 ≤ (w32 x2) then
    B_X3_faultOf_63 μ
  else
    if (w32 (rd μ 3 false 7)) = 0 then
      B_X3_faultOf_63 μ
    else
      bd (D_X3_readLine μ) fun r1 m1 =>
      if ¬ (w32 r1) = 0 then
        k31 (x2 + 1) m1
      else
        some ((rd m1 3 false 5), m1)
def B_X3_faultOf_31 (n : Nat) : Int → Mi → Option (Int × Mi) := lp (F_X3_faultOf_31) (fun _ _ => none) n
theorem B_X3_faultOf_31_s (n : Nat) (x2 : Int) (μ : Mi) : B_X3_faultOf_31 (n + 1) x2 μ = F_X3_faultOf_31 (B_X3_faultOf_31 n) x2 μ := rfl
def D_X3_faultOf (x1 : Int) (μ : Mi) : Option (Int × Mi) :=
  bm (D_X0_clear true (wr (wr μ 3 false 4 (D_J9_min_7cf53 x1 500)) 3 false 6 0)) fun m2 =>
  bm (D_X3_next m2) fun m3 =>
  B_X3_faultOf_31 FU 0 m3
/-- StampTales$Search.mustLearn -/
def B_X4_mustLearn_45 (x0 : Bool) (x1 : Int) (s0 : Int) (μ : Mi) : Option (Int × Mi) :=
  if isB s0 then some (s0, (wr μ 1 x0 0 (ior (rd μ 1 x0 0) (ishl 1 x1)))) else none
def B_X4_mustLearn_26 (x0 : Bool) (x1 : Int) (μ : Mi) : Option (Int × Mi) :=
  if ¬ (w32 (iand (ishr (rd μ 1 x0 0) x1) 1)) = 0 then
    B_X4_mustLearn_45 x0 x1 0 μ
  else
    B_X4_mustLearn_45 x0 x1 1 μ
def D_X4_mustLearn (x0 : Bool) (x1 : Int) (μ : Mi) : Option (Int × Mi) :=
  if (w32 (rd μ 2 x0 4)) = 0 then
    B_X4_mustLearn_26 x0 x1 μ
  else
    B_X4_mustLearn_26 x0 x1 (wr (wr μ 2 x0 4 0) 1 x0 0 0)
/-- StampTales$Search.cellOf -/
def D_X4_cellOf (x0 : Int) (x1 : Int) (x2 : Int) (x3 : Int) : Int :=
  ((((x0 * 256) + (x1 * 32)) + (x2 * 4)) + x3)
/-- StampTales$Search.listCells -/
def B_X4_listCells_81 (k7 : (Bool → Int → Mi → Option Mi)) (k23 : (Bool → Int → Int → Mi → Option Mi)) (x0 : Bool) (x1 : Int) (x2 : Int) (μ : Mi) : Option Mi :=
  k23 x0 x1 (x2 + (-1)) μ
def F_X4_listCells_29 (k7 : (Bool → Int → Mi → Option Mi)) (k23 : (Bool → Int → Int → Mi → Option Mi)) (k29 : (Bool → Int → Int → Int → Mi → Option Mi)) (x0 : Bool) (x1 : Int) (x2 : Int) (x3 : Int) (μ : Mi) : Option Mi :=
  if (w32 (ishl 1 (rd μ 4 x0 10))) ≤ (w32 x3) then
    B_X4_listCells_81 k7 k23 x0 x1 x2 μ
  else
    if 256 ≤ (w32 (rd μ 4 x0 8)) then
      B_X4_listCells_81 k7 k23 x0 x1 x2 μ
    else
      if 0 ≤ (w32 (rd μ 4 x0 8)) ∧ (w32 (rd μ 4 x0 8)) < 256 then
      k29 x0 x1 x2 (x3 + 1) (wr (wr μ 33 x0 (ix (rd μ 4 x0 8)) (D_X4_cellOf 0 x1 x2 x3)) 4 x0 8 ((rd μ 4 x0 8) + 1))
      else none
def B_X4_listCells_29 (k7 : (Bool → Int → Mi → Option Mi)) (k23 : (Bool → Int → Int → Mi → Option Mi)) (n : Nat) : Bool → Int → Int → Int → Mi → Option Mi := lp (F_X4_listCells_29 k7 k23) (fun _ _ _ _ _ => none) n
theorem B_X4_listCells_29_s (k7 : (Bool → Int → Mi → Option Mi)) (k23 : (Bool → Int → Int → Mi → Option Mi)) (n : Nat) (x0 : Bool) (x1 : Int) (x2 : Int) (x3 : Int) (μ : Mi) : B_X4_listCells_29 k7 k23 (n + 1) x0 x1 x2 x3 μ = F_X4_listCells_29 k7 k23 (B_X4_listCells_29 k7 k23 n) x0 x1 x2 x3 μ := rfl
def F_X4_listCells_23 (k7 : (Bool → Int → Mi → Option Mi)) (k23 : (Bool → Int → Int → Mi → Option Mi)) (x0 : Bool) (x1 : Int) (x2 : Int) (μ : Mi) : Option Mi :=
  if (w32 x2) < 0 then
    k7 x0 (x1 + 1) μ
  else
    B_X4_listCells_29 k7 k23 FU x0 x1 x2 0 μ
def B_X4_listCells_23 (k7 : (Bool → Int → Mi → Option Mi)) (n : Nat) : Bool → Int → Int → Mi → Option Mi := lp (F_X4_listCells_23 k7) (fun _ _ _ _ => none) n
theorem B_X4_listCells_23_s (k7 : (Bool → Int → Mi → Option Mi)) (n : Nat) (x0 : Bool) (x1 : Int) (x2 : Int) (μ : Mi) : B_X4_listCells_23 k7 (n + 1) x0 x1 x2 μ = F_X4_listCells_23 k7 (B_X4_listCells_23 k7 n) x0 x1 x2 μ := rfl
def F_X4_listCells_7 (k7 : (Bool → Int → Mi → Option Mi)) (x0 : Bool) (x1 : Int) (μ : Mi) : Option Mi :=
  if (w32 (rd μ 0 false 1)) ≤ (w32 x1) then
    some μ
  else
    B_X4_listCells_23 k7 FU x0 x1 (rd μ 4 x0 9) μ
def B_X4_listCells_7 (n : Nat) : Bool → Int → Mi → Option Mi := lp (F_X4_listCells_7) (fun _ _ _ => none) n
theorem B_X4_listCells_7_s (n : Nat) (x0 : Bool) (x1 : Int) (μ : Mi) : B_X4_listCells_7 (n + 1) x0 x1 μ = F_X4_listCells_7 (B_X4_listCells_7 n) x0 x1 μ := rfl
def D_X4_listCells (x0 : Bool) (μ : Mi) : Option Mi :=
  B_X4_listCells_7 FU x0 0 (wr μ 4 x0 8 0)
/-- StampTales$Search.linksLeaving -/
def B_X4_linksLeaving_54 (k4 : (Bool → Int → Int → Int → Mi → Option Int)) (x0 : Bool) (x1 : Int) (x2 : Int) (x3 : Int) (μ : Mi) : Option Int :=
  k4 x0 x1 x2 (x3 + 1) μ
def F_X4_linksLeaving_4 (k4 : (Bool → Int → Int → Int → Mi → Option Int)) (x0 : Bool) (x1 : Int) (x2 : Int) (x3 : Int) (μ : Mi) : Option Int :=
  if (w32 (rd μ 0 false 2)) ≤ (w32 x3) then
    some x2
  else
    bp (D_X0_leavesAt false x3 x1 μ) fun r1 =>
    if (w32 r1) = 0 then
      B_X4_linksLeaving_54 k4 x0 x1 x2 x3 μ
    else
      if 0 ≤ (w32 x3) ∧ (w32 x3) < 16 then
      if (w32 (rd μ 2 x0 2)) < (w32 (x1 + (rd μ 16 false (ix x3)))) then
        B_X4_linksLeaving_54 k4 x0 x1 x2 x3 μ
      else
        B_X4_linksLeaving_54 k4 x0 x1 (ior x2 (ishl 1 x3)) x3 μ
      else none
def B_X4_linksLeaving_4 (n : Nat) : Bool → Int → Int → Int → Mi → Option Int := lp (F_X4_linksLeaving_4) (fun _ _ _ _ _ => none) n
theorem B_X4_linksLeaving_4_s (n : Nat) (x0 : Bool) (x1 : Int) (x2 : Int) (x3 : Int) (μ : Mi) : B_X4_linksLeaving_4 (n + 1) x0 x1 x2 x3 μ = F_X4_linksLeaving_4 (B_X4_linksLeaving_4 n) x0 x1 x2 x3 μ := rfl
def D_X4_linksLeaving (x0 : Bool) (x1 : Int) (μ : Mi) : Option Int :=
  B_X4_linksLeaving_4 FU x0 x1 0 0 μ
/-- StampTales$Search.prepare -/
def F_X4_prepare_186 (k186 : (Bool → Int → Mi → Option Mi)) (x0 : Bool) (x2 : Int) (μ : Mi) : Option Mi :=
  if 96 < (w32 x2) then
    bm (D_X4_listCells x0 μ) fun m1 =>
    some m1
  else
    bp (D_X4_linksLeaving x0 x2 μ) fun r1 =>
    if 0 ≤ (w32 x2) ∧ (w32 x2) < 97 then
    k186 x0 (x2 + 1) (wr μ 34 x0 (ix x2) r1)
    else none
def B_X4_prepare_186 (n : Nat) : Bool → Int → Mi → Option Mi := lp (F_X4_prepare_186) (fun _ _ _ => none) n
theorem B_X4_prepare_186_s (n : Nat) (x0 : Bool) (x2 : Int) (μ : Mi) : B_X4_prepare_186 (n + 1) x0 x2 μ = F_X4_prepare_186 (B_X4_prepare_186 n) x0 x2 μ := rfl
def B_X4_prepare_178 (k17 : (Bool → Int → Int → Mi → Option Mi)) (x0 : Bool) (x1 : Int) (x2 : Int) (μ : Mi) : Option Mi :=
  k17 x0 x1 (x2 + 1) μ
def B_X4_prepare_131 (k17 : (Bool → Int → Int → Mi → Option Mi)) (x0 : Bool) (x1 : Int) (x2 : Int) (x3 : Int) (μ : Mi) : Option Mi :=
  if ¬ (w32 x3) = 0 then
    B_X4_prepare_178 k17 x0 x1 x2 μ
  else
    bp (D_X2_counts x0 x2 1 μ) fun r1 =>
    if (w32 r1) = 0 then
      B_X4_prepare_178 k17 x0 x1 x2 μ
    else
      if 0 ≤ (w32 x2) ∧ (w32 x2) < 8 then
      if (w32 (rd μ 2 x0 2)) < (w32 (rd μ 26 x0 (ix x2))) then
        B_X4_prepare_178 k17 x0 x1 x2 μ
      else
        B_X4_prepare_178 k17 x0 x1 x2 (wr μ 4 x0 11 (ior (rd μ 4 x0 11) (ishl 1 x2)))
      else none
def B_X4_prepare_87 (k17 : (Bool → Int → Int → Mi → Option Mi)) (x0 : Bool) (x1 : Int) (x2 : Int) (x3 : Int) (μ : Mi) : Option Mi :=
  if ¬ (w32 x3) = 0 then
    B_X4_prepare_131 k17 x0 x1 x2 x3 μ
  else
    bp (D_X2_counts x0 x2 2 μ) fun r1 =>
    if (w32 r1) = 0 then
      B_X4_prepare_131 k17 x0 x1 x2 x3 μ
    else
      if 2 ≤ (w32 (rd μ 4 x0 10)) then
        B_X4_prepare_131 k17 x0 x1 x2 x3 μ
      else
        if 0 ≤ (w32 (rd μ 4 x0 10)) ∧ (w32 (rd μ 4 x0 10)) < 2 then
        B_X4_prepare_131 k17 x0 x1 x2 x3 (wr (wr μ 36 x0 (ix (rd μ 4 x0 10)) x2) 4 x0 10 ((rd μ 4 x0 10) + 1))
        else none
def B_X4_prepare_41 (k17 : (Bool → Int → Int → Mi → Option Mi)) (x0 : Bool) (x1 : Int) (x2 : Int) (s0 : Int) (μ : Mi) : Option Mi :=
  if ¬ (w32 s0) = 0 then
    B_X4_prepare_87 k17 x0 x1 x2 s0 μ
  else
    bp (D_X2_counts x0 x2 0 μ) fun r1 =>
    if (w32 r1) = 0 then
      B_X4_prepare_87 k17 x0 x1 x2 s0 μ
    else
      if 6 ≤ (w32 (rd μ 4 x0 9)) then
        B_X4_prepare_87 k17 x0 x1 x2 s0 μ
      else
        if 0 ≤ (w32 (rd μ 4 x0 9)) ∧ (w32 (rd μ 4 x0 9)) < 6 then
        B_X4_prepare_87 k17 x0 x1 x2 s0 (wr (wr μ 35 x0 (ix (rd μ 4 x0 9)) x2) 4 x0 9 ((rd μ 4 x0 9) + 1))
        else none
def F_X4_prepare_17 (k17 : (Bool → Int → Int → Mi → Option Mi)) (x0 : Bool) (x1 : Int) (x2 : Int) (μ : Mi) : Option Mi :=
  if (w32 (rd μ 2 x0 3)) ≤ (w32 x2) then
    B_X4_prepare_186 FU x0 0 μ
  else
    if (w32 (iand (ishr x1 x2) 1)) = 0 then
      B_X4_prepare_41 k17 x0 x1 x2 0 μ
    else
      B_X4_prepare_41 k17 x0 x1 x2 1 μ
def B_X4_prepare_17 (n : Nat) : Bool → Int → Int → Mi → Option Mi := lp (F_X4_prepare_17) (fun _ _ _ _ => none) n
theorem B_X4_prepare_17_s (n : Nat) (x0 : Bool) (x1 : Int) (x2 : Int) (μ : Mi) : B_X4_prepare_17 (n + 1) x0 x1 x2 μ = F_X4_prepare_17 (B_X4_prepare_17 n) x0 x1 x2 μ := rfl
def D_X4_prepare (x0 : Bool) (x1 : Int) (μ : Mi) : Option Mi :=
  B_X4_prepare_17 FU x0 x1 0 (wr (wr (wr μ 4 x0 9 0) 4 x0 10 0) 4 x0 11 0)
/-- StampTales$Search.mostSlept -/
def D_X4_mostSlept (x0 : Bool) (x1 : Int) (μ : Mi) : Int :=
  if 8 ≤ (w32 (irem x1 24)) then
    0
  else
    (D_J9_min_7cf53 (rd μ 2 x0 1) (irem x1 24))
/-- java/lang/Math.max -/
def D_J9_max_7cf53 (x0 : Int) (x1 : Int) : Int :=
  if (w32 x0) < (w32 x1) then
    x1
  else
    x0
/-- StampTales$Search.index -/
def D_X4_index (x0 : Int) (x1 : Int) : Int :=
  ((((((idiv x0 24) * 52) + (irem x0 24)) + (4 * (D_J9_max_7cf53 0 ((D_J9_min_7cf53 (irem x0 24) 8) - 1)))) * 256) + x1)
/-- StampTales$Search.townOf -/
def D_X4_townOf (x0 : Int) : Int :=
  (irem (idiv x0 32) 8)
/-- StampTales$Search.seenAt -/
def B_X4_seenAt_72 (k5 : (Bool → Int → Int → Int → Int → Mi → Option Int)) (x0 : Bool) (x1 : Int) (x2 : Int) (x3 : Int) (x4 : Int) (μ : Mi) : Option Int :=
  k5 x0 x1 x2 x3 (x4 + 1) μ
def F_X4_seenAt_5 (k5 : (Bool → Int → Int → Int → Int → Mi → Option Int)) (x0 : Bool) (x1 : Int) (x2 : Int) (x3 : Int) (x4 : Int) (μ : Mi) : Option Int :=
  if (w32 (rd μ 4 x0 10)) ≤ (w32 x4) then
    some x3
  else
    if 0 ≤ (w32 x4) ∧ (w32 x4) < 2 then
    if 0 ≤ (w32 (rd μ 36 x0 (ix x4))) ∧ (w32 (rd μ 36 x0 (ix x4))) < 8 then
    if ¬ (w32 (rd μ 25 x0 (ix (rd μ 36 x0 (ix x4))))) = (w32 x2) then
      B_X4_seenAt_72 k5 x0 x1 x2 x3 x4 μ
    else
      if 0 ≤ (w32 (rd μ 36 x0 (ix x4))) ∧ (w32 (rd μ 36 x0 (ix x4))) < 8 then
      if (w32 x1) < (w32 (rd μ 26 x0 (ix (rd μ 36 x0 (ix x4))))) then
        B_X4_seenAt_72 k5 x0 x1 x2 x3 x4 μ
      else
        if 0 ≤ (w32 (rd μ 36 x0 (ix x4))) ∧ (w32 (rd μ 36 x0 (ix x4))) < 8 then
        if (w32 (rd μ 27 x0 (ix (rd μ 36 x0 (ix x4))))) < (w32 x1) then
          B_X4_seenAt_72 k5 x0 x1 x2 x3 x4 μ
        else
          B_X4_seenAt_72 k5 x0 x1 x2 (ior x3 (ishl 1 x4)) x4 μ
        else none
      else none
    else none
    else none
def B_X4_seenAt_5 (n : Nat) : Bool → Int → Int → Int → Int → Mi → Option Int := lp (F_X4_seenAt_5) (fun _ _ _ _ _ _ => none) n
theorem B_X4_seenAt_5_s (n : Nat) (x0 : Bool) (x1 : Int) (x2 : Int) (x3 : Int) (x4 : Int) (μ : Mi) : B_X4_seenAt_5 (n + 1) x0 x1 x2 x3 x4 μ = F_X4_seenAt_5 (B_X4_seenAt_5 n) x0 x1 x2 x3 x4 μ := rfl
def D_X4_seenAt (x0 : Bool) (x1 : Int) (x2 : Int) (μ : Mi) : Option Int :=
  B_X4_seenAt_5 FU x0 x1 x2 0 0 μ
/-- StampTales$Search.afterStay -/
def B_X4_afterStay_57 (x0 : Bool) (x1 : Int) (x2 : Int) (x3 : Int) (μ : Mi) : Option Int :=
  if 0 ≤ (w32 x3) then
    bp (D_X4_seenAt x0 (x1 + 1) (D_X4_townOf x2) μ) fun r2 =>
    some (ior ((x3 * 256) + (irem x2 256)) r2)
  else
    some (-1)
def B_X4_afterStay_56 (x0 : Bool) (x1 : Int) (x2 : Int) (s0 : Int) (μ : Mi) : Option Int :=
  B_X4_afterStay_57 x0 x1 x2 s0 μ
def B_X4_afterStay_33 (x0 : Bool) (x1 : Int) (x2 : Int) (x3 : Int) (x4 : Int) (μ : Mi) : Option Int :=
  if ¬ (w32 x4) = 7 then
    B_X4_afterStay_57 x0 x1 x2 x3 μ
  else
    if (w32 (rd μ 2 x0 1)) ≤ (w32 x3) then
      B_X4_afterStay_56 x0 x1 x2 0 μ
    else
      B_X4_afterStay_56 x0 x1 x2 (-1) μ
def D_X4_afterStay (x0 : Bool) (x1 : Int) (x2 : Int) (μ : Mi) : Option Int :=
  if 8 ≤ (w32 (irem x1 24)) then
    B_X4_afterStay_33 x0 x1 x2 (idiv x2 256) (irem x1 24) μ
  else
    B_X4_afterStay_33 x0 x1 x2 (D_J9_min_7cf53 (rd μ 2 x0 1) ((idiv x2 256) + 1)) (irem x1 24) μ
/-- StampTales$Search.valueByStay -/
def D_X4_valueByStay (x0 : Bool) (x1 : Int) (x2 : Int) (μ : Mi) : Option Int :=
  bp (D_X4_afterStay x0 x1 x2 μ) fun r1 =>
  if 0 ≤ (w32 r1) then
    if 0 ≤ (w32 (D_X4_index (x1 + 1) r1)) ∧ (w32 (D_X4_index (x1 + 1) r1)) < 53504 then
    some (rd μ 32 false (ix (D_X4_index (x1 + 1) r1)))
    else none
  else
    some (-1)
/-- StampTales$Search.stampsOf -/
def D_X4_stampsOf (x0 : Int) : Int :=
  (idiv (irem x0 32) 4)
/-- java/lang/Integer.bitCount -/
def D_J6_bitCount_0f7a4 (x0 : Int) : Int :=
  (iand (((iand (((iand (x0 - (iand (iushr x0 1) 1431655765)) 858993459) + (iand (iushr (x0 - (iand (iushr x0 1) 1431655765)) 2) 858993459)) + (iushr ((iand (x0 - (iand (iushr x0 1) 1431655765)) 858993459) + (iand (iushr (x0 - (iand (iushr x0 1) 1431655765)) 2) 858993459)) 4)) 252645135) + (iushr (iand (((iand (x0 - (iand (iushr x0 1) 1431655765)) 858993459) + (iand (iushr (x0 - (iand (iushr x0 1) 1431655765)) 2) 858993459)) + (iushr ((iand (x0 - (iand (iushr x0 1) 1431655765)) 858993459) + (iand (iushr (x0 - (iand (iushr x0 1) 1431655765)) 2) 858993459)) 4)) 252645135) 8)) + (iushr ((iand (((iand (x0 - (iand (iushr x0 1) 1431655765)) 858993459) + (iand (iushr (x0 - (iand (iushr x0 1) 1431655765)) 2) 858993459)) + (iushr ((iand (x0 - (iand (iushr x0 1) 1431655765)) 858993459) + (iand (iushr (x0 - (iand (iushr x0 1) 1431655765)) 2) 858993459)) 4)) 252645135) + (iushr (iand (((iand (x0 - (iand (iushr x0 1) 1431655765)) 858993459) + (iand (iushr (x0 - (iand (iushr x0 1) 1431655765)) 2) 858993459)) + (iushr ((iand (x0 - (iand (iushr x0 1) 1431655765)) 858993459) + (iand (iushr (x0 - (iand (iushr x0 1) 1431655765)) 2) 858993459)) 4)) 252645135) 8)) 16)) 63)
/-- StampTales$Search.charge -/
def D_X4_charge (x0 : Bool) (x1 : Int) (x2 : Int) (μ : Mi) : Int :=
  if (w32 x1) < 0 then
    x1
  else
    if ¬ (w32 x2) = 0 then
      if ¬ (w32 (rd μ 4 x0 12)) = 5 then
        (-1)
      else
        ((x1 + ((D_J6_bitCount_0f7a4 x2) * 256)) + x2)
    else
      x1
/-- StampTales$Search.valueAtEnd -/
def B_X4_valueAtEnd_64 (x2 : Int) (s0 : Int) (x0 : Bool) (μ : Mi) : Option Int :=
  some (D_X4_charge x0 s0 x2 μ)
def B_X4_valueAtEnd_44 (k17 : (Bool → Int → Int → Int → Mi → Option Int)) (x0 : Bool) (x1 : Int) (x2 : Int) (x3 : Int) (μ : Mi) : Option Int :=
  k17 x0 x1 x2 (x3 + 1) μ
def F_X4_valueAtEnd_17 (k17 : (Bool → Int → Int → Int → Mi → Option Int)) (x0 : Bool) (x1 : Int) (x2 : Int) (x3 : Int) (μ : Mi) : Option Int :=
  if (w32 (rd μ 4 x0 10)) ≤ (w32 x3) then
    if ¬ (w32 (rd μ 4 x0 12)) = 4 then
      B_X4_valueAtEnd_64 x2 0 x0 μ
    else
      B_X4_valueAtEnd_64 x2 1 x0 μ
  else
    if ¬ (w32 (iand (ishr x1 x3) 1)) = 0 then
      B_X4_valueAtEnd_44 k17 x0 x1 x2 x3 μ
    else
      if 0 ≤ (w32 x3) ∧ (w32 x3) < 2 then
      B_X4_valueAtEnd_44 k17 x0 x1 (ior x2 (ishl 1 (rd μ 36 x0 (ix x3)))) x3 μ
      else none
def B_X4_valueAtEnd_17 (n : Nat) : Bool → Int → Int → Int → Mi → Option Int := lp (F_X4_valueAtEnd_17) (fun _ _ _ _ _ => none) n
theorem B_X4_valueAtEnd_17_s (n : Nat) (x0 : Bool) (x1 : Int) (x2 : Int) (x3 : Int) (μ : Mi) : B_X4_valueAtEnd_17 (n + 1) x0 x1 x2 x3 μ = F_X4_valueAtEnd_17 (B_X4_valueAtEnd_17 n) x0 x1 x2 x3 μ := rfl
def D_X4_valueAtEnd (x0 : Bool) (x1 : Int) (μ : Mi) : Option Int :=
  if (w32 (rd μ 4 x0 9)) ≤ (w32 (D_X4_stampsOf x1)) then
    B_X4_valueAtEnd_17 FU x0 x1 0 0 μ
  else
    some (-1)
/-- StampTales$Search.canTake -/
def D_X4_canTake (x0 : Bool) (x1 : Int) (x2 : Int) (x3 : Int) (μ : Mi) : Option Int :=
  if 0 ≤ (w32 x2) ∧ (w32 x2) < 97 then
  if (w32 (iand (ishr (rd μ 34 x0 (ix x2)) x1) 1)) = 0 then
    some 0
  else
    if 0 ≤ (w32 x1) ∧ (w32 x1) < 16 then
    if ¬ (w32 (rd μ 13 false (ix x1))) = (w32 (D_X4_townOf x3)) then
      some 0
    else
      some 1
    else none
  else none
/-- StampTales$Search.papersBetween -/
def B_X4_papersBetween_84 (k5 : (Bool → Int → Int → Int → Int → Mi → Option Int)) (x0 : Bool) (x1 : Int) (x2 : Int) (x3 : Int) (x4 : Int) (μ : Mi) : Option Int :=
  k5 x0 x1 x2 x3 (x4 + 1) μ
def F_X4_papersBetween_5 (k5 : (Bool → Int → Int → Int → Int → Mi → Option Int)) (x0 : Bool) (x1 : Int) (x2 : Int) (x3 : Int) (x4 : Int) (μ : Mi) : Option Int :=
  if (w32 (rd μ 2 x0 3)) ≤ (w32 x4) then
    some x3
  else
    if (w32 (ishr (rd μ 4 x0 11) x4)) = 0 then
      some x3
    else
      if (w32 (iand (ishr (rd μ 4 x0 11) x4) 1)) = 0 then
        B_X4_papersBetween_84 k5 x0 x1 x2 x3 x4 μ
      else
        if 0 ≤ (w32 x4) ∧ (w32 x4) < 8 then
        if (w32 (rd μ 26 x0 (ix x4))) ≤ (w32 x2) then
          B_X4_papersBetween_84 k5 x0 x1 x2 x3 x4 μ
        else
          if 0 ≤ (w32 x4) ∧ (w32 x4) < 8 then
          if 0 ≤ (w32 x1) ∧ (w32 x1) < 16 then
          if (w32 (x2 + (rd μ 16 false (ix x1)))) ≤ (w32 (rd μ 26 x0 (ix x4))) then
            B_X4_papersBetween_84 k5 x0 x1 x2 x3 x4 μ
          else
            B_X4_papersBetween_84 k5 x0 x1 x2 (ior x3 (ishl 1 x4)) x4 μ
          else none
          else none
        else none
def B_X4_papersBetween_5 (n : Nat) : Bool → Int → Int → Int → Int → Mi → Option Int := lp (F_X4_papersBetween_5) (fun _ _ _ _ _ _ => none) n
theorem B_X4_papersBetween_5_s (n : Nat) (x0 : Bool) (x1 : Int) (x2 : Int) (x3 : Int) (x4 : Int) (μ : Mi) : B_X4_papersBetween_5 (n + 1) x0 x1 x2 x3 x4 μ = F_X4_papersBetween_5 (B_X4_papersBetween_5 n) x0 x1 x2 x3 x4 μ := rfl
def D_X4_papersBetween (x0 : Bool) (x1 : Int) (x2 : Int) (μ : Mi) : Option Int :=
  B_X4_papersBetween_5 FU x0 x1 x2 0 0 μ
/-- StampTales$Search.weightOf -/
def B_X4_weightOf_15 (x0 : Bool) (x1 : Int) (μ : Mi) : Option Int :=
  if 0 ≤ (w32 x1) ∧ (w32 x1) < 16 then
  some (rd μ 17 false (ix x1))
  else none
def D_X4_weightOf (x0 : Bool) (x1 : Int) (μ : Mi) : Option Int :=
  if (w32 (rd μ 4 x0 12)) = 0 then
    B_X4_weightOf_15 x0 x1 μ
  else
    if ¬ (w32 (rd μ 4 x0 12)) = 1 then
      if (w32 (rd μ 4 x0 12)) = 2 then
        some 1
      else
        if ¬ (w32 (rd μ 4 x0 12)) = 3 then
          some 0
        else
          some 1
    else
      B_X4_weightOf_15 x0 x1 μ
/-- StampTales$Search.sleptAfter -/
def B_X4_sleptAfter_90 (x6 : Int) (s0 : Int) (μ : Mi) : Int :=
  if ¬ (w32 x6) = 0 then
    (-1)
  else
    if (w32 s0) = 0 then
      0
    else
      (-1)
def B_X4_sleptAfter_89 (x6 : Int) (μ : Mi) : Int :=
  B_X4_sleptAfter_90 x6 0 μ
def B_X4_sleptAfter_61 (x0 : Bool) (x2 : Int) (x4 : Int) (s0 : Int) (μ : Mi) : Int :=
  if (w32 (rd μ 2 x0 1)) ≤ 0 then
    B_X4_sleptAfter_89 s0 μ
  else
    if (w32 x2) < (w32 ((x4 + 24) + 8)) then
      B_X4_sleptAfter_89 s0 μ
    else
      B_X4_sleptAfter_90 s0 1 μ
def B_X4_sleptAfter_60 (x0 : Bool) (x2 : Int) (x4 : Int) (μ : Mi) : Int :=
  B_X4_sleptAfter_61 x0 x2 x4 0 μ
def B_X4_sleptAfter_40 (x0 : Bool) (x2 : Int) (x3 : Int) (x4 : Int) (x5 : Int) (μ : Mi) : Int :=
  if (w32 x5) = 0 then
    B_X4_sleptAfter_60 x0 x2 x4 μ
  else
    if (w32 (rd μ 2 x0 1)) ≤ (w32 x3) then
      B_X4_sleptAfter_60 x0 x2 x4 μ
    else
      B_X4_sleptAfter_61 x0 x2 x4 1 μ
def B_X4_sleptAfter_22 (x0 : Bool) (x2 : Int) (x3 : Int) (x4 : Int) (s0 : Int) (μ : Mi) : Int :=
  if (w32 s0) = 0 then
    B_X4_sleptAfter_40 x0 x2 x3 x4 s0 μ
  else
    if (w32 (x4 + 8)) ≤ (w32 x2) then
      B_X4_sleptAfter_40 x0 x2 x3 x4 s0 μ
    else
      x3
def D_X4_sleptAfter (x0 : Bool) (x1 : Int) (x2 : Int) (x3 : Int) (μ : Mi) : Int :=
  if (w32 ((x1 - (irem x1 24)) + 8)) ≤ (w32 x1) then
    B_X4_sleptAfter_22 x0 x2 x3 (x1 - (irem x1 24)) 0 μ
  else
    B_X4_sleptAfter_22 x0 x2 x3 (x1 - (irem x1 24)) 1 μ
/-- StampTales$Search.afterLink -/
def B_X4_afterLink_206 (x0 : Bool) (x1 : Int) (x3 : Int) (x5 : Int) (x6 : Int) (x7 : Int) (μ : Mi) : Option Int :=
  if 0 ≤ (w32 x1) ∧ (w32 x1) < 16 then
  if 0 ≤ (w32 x1) ∧ (w32 x1) < 16 then
  bp (D_X4_seenAt x0 x5 (rd μ 14 false (ix x1)) μ) fun r1 =>
  some (D_X4_cellOf x6 (rd μ 14 false (ix x1)) x7 (ior (iand x3 3) r1))
  else none
  else none
def B_X4_afterLink_159 (x0 : Bool) (x1 : Int) (x3 : Int) (x5 : Int) (x6 : Int) (x7 : Int) (s0 : Int) (μ : Mi) : Option Int :=
  if 0 ≤ (w32 x1) ∧ (w32 x1) < 16 then
  if 0 ≤ (w32 x1) ∧ (w32 x1) < 16 then
  bp (D_X0_dayAt false x5 (rd μ 14 false (ix x1)) μ) fun r1 =>
  bp (D_X2_stampFits x0 s0 (rd μ 20 false (ix x1)) 0 r1 μ) fun r2 =>
  if ¬ (w32 r2) = 0 then
    B_X4_afterLink_206 x0 x1 x3 x5 x6 (x7 + 1) μ
  else
    some (-1)
  else none
  else none
def B_X4_afterLink_119 (x0 : Bool) (x1 : Int) (x3 : Int) (x4 : Int) (x5 : Int) (x6 : Int) (x7 : Int) (μ : Mi) : Option Int :=
  if 0 ≤ (w32 x1) ∧ (w32 x1) < 16 then
  if (w32 (rd μ 20 false (ix x1))) = (-1) then
    B_X4_afterLink_206 x0 x1 x3 x5 x6 (x7 + x4) μ
  else
    if (w32 (rd μ 4 x0 9)) ≤ (w32 (x7 + x4)) then
      B_X4_afterLink_159 x0 x1 x3 x5 x6 (x7 + x4) (-1) μ
    else
      if 0 ≤ (w32 (x7 + x4)) ∧ (w32 (x7 + x4)) < 6 then
      B_X4_afterLink_159 x0 x1 x3 x5 x6 (x7 + x4) (rd μ 35 x0 (ix (x7 + x4))) μ
      else none
  else none
def B_X4_afterLink_73 (x0 : Bool) (x1 : Int) (x2 : Int) (x3 : Int) (x4 : Int) (x5 : Int) (x6 : Int) (x7 : Int) (s0 : Int) (μ : Mi) : Option Int :=
  if 0 ≤ (w32 x1) ∧ (w32 x1) < 16 then
  if 0 ≤ (w32 x1) ∧ (w32 x1) < 16 then
  bp (D_X0_dayAt false x2 (rd μ 13 false (ix x1)) μ) fun r1 =>
  bp (D_X2_stampFits x0 s0 (rd μ 19 false (ix x1)) 1 r1 μ) fun r2 =>
  if ¬ (w32 r2) = 0 then
    B_X4_afterLink_119 x0 x1 x3 x4 x5 x6 (x7 + 1) μ
  else
    some (-1)
  else none
  else none
def D_X4_afterLink (x0 : Bool) (x1 : Int) (x2 : Int) (x3 : Int) (x4 : Int) (μ : Mi) : Option Int :=
  if 0 ≤ (w32 x1) ∧ (w32 x1) < 16 then
  if 0 ≤ (w32 (D_X4_sleptAfter x0 x2 (x2 + (rd μ 16 false (ix x1))) (idiv x3 256) μ)) then
    if 0 ≤ (w32 x1) ∧ (w32 x1) < 16 then
    if (w32 (rd μ 19 false (ix x1))) = (-1) then
      B_X4_afterLink_119 x0 x1 x3 x4 (x2 + (rd μ 16 false (ix x1))) (D_X4_sleptAfter x0 x2 (x2 + (rd μ 16 false (ix x1))) (idiv x3 256) μ) (D_X4_stampsOf x3) μ
    else
      if (w32 (rd μ 4 x0 9)) ≤ (w32 (D_X4_stampsOf x3)) then
        B_X4_afterLink_73 x0 x1 x2 x3 x4 (x2 + (rd μ 16 false (ix x1))) (D_X4_sleptAfter x0 x2 (x2 + (rd μ 16 false (ix x1))) (idiv x3 256) μ) (D_X4_stampsOf x3) (-1) μ
      else
        if 0 ≤ (w32 (D_X4_stampsOf x3)) ∧ (w32 (D_X4_stampsOf x3)) < 6 then
        B_X4_afterLink_73 x0 x1 x2 x3 x4 (x2 + (rd μ 16 false (ix x1))) (D_X4_sleptAfter x0 x2 (x2 + (rd μ 16 false (ix x1))) (idiv x3 256) μ) (D_X4_stampsOf x3) (rd μ 35 x0 (ix (D_X4_stampsOf x3))) μ
        else none
    else none
  else
    some (-1)
  else none
/-- StampTales$Search.join -/
def B_X4_join_8 (x1 : Int) (x2 : Int) (μ : Mi) : Int :=
  (D_J9_max_7cf53 x1 x2)
def B_X4_join_47 (x1 : Int) (x2 : Int) (μ : Mi) : Int :=
  (D_J9_max_7cf53 x1 x2)
def D_X4_join (x0 : Bool) (x1 : Int) (x2 : Int) (μ : Mi) : Int :=
  if (w32 x1) < 0 then
    B_X4_join_8 x1 x2 μ
  else
    if 0 ≤ (w32 x2) then
      if ¬ (w32 (rd μ 4 x0 12)) = 4 then
        if (w32 (rd μ 4 x0 12)) = 1 then
          B_X4_join_47 x1 x2 μ
        else
          if ¬ (w32 (rd μ 4 x0 12)) = 3 then
            (D_J9_min_7cf53 x1 x2)
          else
            B_X4_join_47 x1 x2 μ
      else
        (D_J9_min_7cf53 1000000000 (x1 + x2))
    else
      B_X4_join_8 x1 x2 μ
/-- StampTales$Search.valueByLink -/
def B_X4_valueByLink_156 (k72 : (Bool → Int → Int → Int → Int → Int → Int → Int → Int → Mi → Option Int)) (x0 : Bool) (x1 : Int) (x2 : Int) (x3 : Int) (x4 : Int) (x5 : Int) (x6 : Int) (x7 : Int) (x8 : Int) (μ : Mi) : Option Int :=
  k72 x0 x1 x2 x3 x4 x5 x6 x7 (x8 + 1) μ
def B_X4_valueByLink_133 (k72 : (Bool → Int → Int → Int → Int → Int → Int → Int → Int → Mi → Option Int)) (x0 : Bool) (x1 : Int) (x2 : Int) (x3 : Int) (x4 : Int) (x5 : Int) (x6 : Int) (x7 : Int) (x8 : Int) (μ : Mi) : Option Int :=
  if (w32 (rd μ 4 x0 9)) ≤ (w32 x8) then
    B_X4_valueByLink_156 k72 x0 x1 x2 x3 x4 x5 x6 x7 x8 μ
  else
    if 0 ≤ (w32 x8) ∧ (w32 x8) < 6 then
    B_X4_valueByLink_156 k72 x0 x1 x2 x3 (ior x4 (ishl 1 (rd μ 35 x0 (ix x8)))) x5 x6 x7 x8 μ
    else none
def F_X4_valueByLink_72 (k72 : (Bool → Int → Int → Int → Int → Int → Int → Int → Int → Mi → Option Int)) (x0 : Bool) (x1 : Int) (x2 : Int) (x3 : Int) (x4 : Int) (x5 : Int) (x6 : Int) (x7 : Int) (x8 : Int) (μ : Mi) : Option Int :=
  if (w32 x6) < (w32 x8) then
    if 0 ≤ (w32 x7) then
      bp (D_X4_weightOf x0 x1 μ) fun r1 =>
      some (x7 + r1)
    else
      some (-1)
  else
    bp (D_X4_afterLink x0 x1 x2 x3 (x8 - x5) μ) fun r1 =>
    if (w32 r1) < 0 then
      B_X4_valueByLink_133 k72 x0 x1 x2 x3 x4 x5 x6 x7 x8 μ
    else
      if 0 ≤ (w32 x1) ∧ (w32 x1) < 16 then
      if 0 ≤ (w32 (D_X4_index (x2 + (rd μ 16 false (ix x1))) r1)) ∧ (w32 (D_X4_index (x2 + (rd μ 16 false (ix x1))) r1)) < 53504 then
      B_X4_valueByLink_133 k72 x0 x1 x2 x3 x4 x5 x6 (D_X4_join x0 x7 (D_X4_charge x0 (rd μ 32 false (ix (D_X4_index (x2 + (rd μ 16 false (ix x1))) r1))) x4 μ) μ) x8 μ
      else none
      else none
def B_X4_valueByLink_72 (n : Nat) : Bool → Int → Int → Int → Int → Int → Int → Int → Int → Mi → Option Int := lp (F_X4_valueByLink_72) (fun _ _ _ _ _ _ _ _ _ _ => none) n
theorem B_X4_valueByLink_72_s (n : Nat) (x0 : Bool) (x1 : Int) (x2 : Int) (x3 : Int) (x4 : Int) (x5 : Int) (x6 : Int) (x7 : Int) (x8 : Int) (μ : Mi) : B_X4_valueByLink_72 (n + 1) x0 x1 x2 x3 x4 x5 x6 x7 x8 μ = F_X4_valueByLink_72 (B_X4_valueByLink_72 n) x0 x1 x2 x3 x4 x5 x6 x7 x8 μ := rfl
def B_X4_valueByLink_63 (x0 : Bool) (x1 : Int) (x2 : Int) (x3 : Int) (x4 : Int) (x5 : Int) (s0 : Int) (μ : Mi) : Option Int :=
  B_X4_valueByLink_72 FU x0 x1 x2 x3 x4 x5 s0 (-1) x5 μ
def B_X4_valueByLink_61 (x0 : Bool) (x1 : Int) (x2 : Int) (x3 : Int) (x4 : Int) (x5 : Int) (μ : Mi) : Option Int :=
  B_X4_valueByLink_63 x0 x1 x2 x3 x4 x5 x5 μ
def B_X4_valueByLink_30 (x0 : Bool) (x1 : Int) (x2 : Int) (x3 : Int) (x4 : Int) (s0 : Int) (s1 : Int) (μ : Mi) : Option Int :=
  if ¬ (w32 (rd μ 4 x0 12)) = 5 then
    B_X4_valueByLink_61 x0 x1 x2 x3 x4 (s1 + s0) μ
  else
    if 0 ≤ (w32 x1) ∧ (w32 x1) < 16 then
    if (w32 (rd μ 20 false (ix x1))) = (-1) then
      B_X4_valueByLink_61 x0 x1 x2 x3 x4 (s1 + s0) μ
    else
      B_X4_valueByLink_63 x0 x1 x2 x3 x4 (s1 + s0) (rd μ 4 x0 9) μ
    else none
def D_X4_valueByLink (x0 : Bool) (x1 : Int) (x2 : Int) (x3 : Int) (μ : Mi) : Option Int :=
  bp (D_X4_papersBetween x0 x1 x2 μ) fun r1 =>
  if 0 ≤ (w32 x1) ∧ (w32 x1) < 16 then
  if ¬ (w32 (rd μ 19 false (ix x1))) = (-1) then
    B_X4_valueByLink_30 x0 x1 x2 x3 r1 1 (D_X4_stampsOf x3) μ
  else
    B_X4_valueByLink_30 x0 x1 x2 x3 r1 0 (D_X4_stampsOf x3) μ
  else none
/-- StampTales$Search.papersMissed -/
def B_X4_papersMissed_74 (k5 : (Bool → Int → Int → Int → Int → Mi → Option Int)) (x0 : Bool) (x1 : Int) (x2 : Int) (x3 : Int) (x4 : Int) (μ : Mi) : Option Int :=
  k5 x0 x1 x2 x3 (x4 + 1) μ
def F_X4_papersMissed_5 (k5 : (Bool → Int → Int → Int → Int → Mi → Option Int)) (x0 : Bool) (x1 : Int) (x2 : Int) (x3 : Int) (x4 : Int) (μ : Mi) : Option Int :=
  if (w32 (rd μ 2 x0 3)) ≤ (w32 x4) then
    some x3
  else
    if (w32 (ishr (rd μ 4 x0 11) x4)) = 0 then
      some x3
    else
      if (w32 (iand (ishr (rd μ 4 x0 11) x4) 1)) = 0 then
        B_X4_papersMissed_74 k5 x0 x1 x2 x3 x4 μ
      else
        if 0 ≤ (w32 x4) ∧ (w32 x4) < 8 then
        if ¬ (w32 (rd μ 26 x0 (ix x4))) = (w32 x1) then
          B_X4_papersMissed_74 k5 x0 x1 x2 x3 x4 μ
        else
          if 0 ≤ (w32 x4) ∧ (w32 x4) < 8 then
          if (w32 (rd μ 25 x0 (ix x4))) = (w32 x2) then
            B_X4_papersMissed_74 k5 x0 x1 x2 x3 x4 μ
          else
            B_X4_papersMissed_74 k5 x0 x1 x2 (ior x3 (ishl 1 x4)) x4 μ
          else none
        else none
def B_X4_papersMissed_5 (n : Nat) : Bool → Int → Int → Int → Int → Mi → Option Int := lp (F_X4_papersMissed_5) (fun _ _ _ _ _ _ => none) n
theorem B_X4_papersMissed_5_s (n : Nat) (x0 : Bool) (x1 : Int) (x2 : Int) (x3 : Int) (x4 : Int) (μ : Mi) : B_X4_papersMissed_5 (n + 1) x0 x1 x2 x3 x4 μ = F_X4_papersMissed_5 (B_X4_papersMissed_5 n) x0 x1 x2 x3 x4 μ := rfl
def D_X4_papersMissed (x0 : Bool) (x1 : Int) (x2 : Int) (μ : Mi) : Option Int :=
  B_X4_papersMissed_5 FU x0 x1 x2 0 0 μ
/-- StampTales$Search.valueOf -/
def B_X4_valueOf_84 (x0 : Bool) (x1 : Int) (x2 : Int) (x3 : Int) (μ : Mi) : Option Int :=
  bp (D_X4_papersMissed x0 x1 (D_X4_townOf x2) μ) fun r2 =>
  if ¬ (w32 (rd μ 4 x0 12)) = 5 then
    some (D_X4_charge x0 x3 r2 μ)
  else
    if (w32 (rd μ 4 x0 9)) ≤ (w32 (D_X4_stampsOf x2)) then
      some (D_X4_charge x0 x3 r2 μ)
    else
      if 0 ≤ (w32 (D_X4_index x1 (x2 + 4))) ∧ (w32 (D_X4_index x1 (x2 + 4))) < 53504 then
      if 0 ≤ (w32 (D_X4_stampsOf x2)) ∧ (w32 (D_X4_stampsOf x2)) < 6 then
      some (D_X4_join x0 (D_X4_charge x0 x3 r2 μ) (D_X4_charge x0 (rd μ 32 false (ix (D_X4_index x1 (x2 + 4)))) (ishl 1 (rd μ 35 x0 (ix (D_X4_stampsOf x2)))) μ) μ)
      else none
      else none
def B_X4_valueOf_78 (k29 : (Bool → Int → Int → Int → Int → Mi → Option Int)) (x0 : Bool) (x1 : Int) (x2 : Int) (x3 : Int) (x4 : Int) (μ : Mi) : Option Int :=
  k29 x0 x1 x2 x3 (x4 + 1) μ
def F_X4_valueOf_29 (k29 : (Bool → Int → Int → Int → Int → Mi → Option Int)) (x0 : Bool) (x1 : Int) (x2 : Int) (x3 : Int) (x4 : Int) (μ : Mi) : Option Int :=
  if (w32 (rd μ 0 false 2)) ≤ (w32 x4) then
    B_X4_valueOf_84 x0 x1 x2 x3 μ
  else
    if 0 ≤ (w32 x1) ∧ (w32 x1) < 97 then
    if (w32 (ishr (rd μ 34 x0 (ix x1)) x4)) = 0 then
      B_X4_valueOf_84 x0 x1 x2 x3 μ
    else
      bp (D_X4_canTake x0 x4 x1 x2 μ) fun r1 =>
      if (w32 r1) = 0 then
        B_X4_valueOf_78 k29 x0 x1 x2 x3 x4 μ
      else
        bp (D_X4_valueByLink x0 x4 x1 x2 μ) fun r2 =>
        B_X4_valueOf_78 k29 x0 x1 x2 (D_X4_join x0 x3 r2 μ) x4 μ
    else none
def B_X4_valueOf_29 (n : Nat) : Bool → Int → Int → Int → Int → Mi → Option Int := lp (F_X4_valueOf_29) (fun _ _ _ _ _ _ => none) n
theorem B_X4_valueOf_29_s (n : Nat) (x0 : Bool) (x1 : Int) (x2 : Int) (x3 : Int) (x4 : Int) (μ : Mi) : B_X4_valueOf_29 (n + 1) x0 x1 x2 x3 x4 μ = F_X4_valueOf_29 (B_X4_valueOf_29 n) x0 x1 x2 x3 x4 μ := rfl
def B_X4_valueOf_25 (x0 : Bool) (x1 : Int) (x2 : Int) (s0 : Int) (μ : Mi) : Option Int :=
  B_X4_valueOf_29 FU x0 x1 x2 s0 0 μ
def D_X4_valueOf (x0 : Bool) (x1 : Int) (x2 : Int) (μ : Mi) : Option Int :=
  if ¬ (w32 x1) = (w32 (rd μ 2 x0 2)) then
    bp (D_X4_valueByStay x0 x1 x2 μ) fun r1 =>
    B_X4_valueOf_25 x0 x1 x2 r1 μ
  else
    bp (D_X4_valueAtEnd x0 x2 μ) fun r1 =>
    B_X4_valueOf_25 x0 x1 x2 r1 μ
/-- StampTales$Search.fill -/
def F_X4_fill_35 (k13 : (Bool → Int → Mi → Option Mi)) (k26 : (Bool → Int → Int → Int → Mi → Option Mi)) (k35 : (Bool → Int → Int → Int → Int → Mi → Option Mi)) (x0 : Bool) (x2 : Int) (x3 : Int) (x4 : Int) (x5 : Int) (μ : Mi) : Option Mi :=
  if (w32 (rd μ 4 x0 8)) ≤ (w32 x5) then
    k26 x0 x2 x3 (x4 + 1) μ
  else
    if 0 ≤ (w32 x5) ∧ (w32 x5) < 256 then
    bp (D_X4_valueOf x0 x2 ((x4 * 256) + (rd μ 33 x0 (ix x5))) μ) fun r2 =>
    if 0 ≤ (w32 (D_X4_index x2 ((x4 * 256) + (rd μ 33 x0 (ix x5))))) ∧ (w32 (D_X4_index x2 ((x4 * 256) + (rd μ 33 x0 (ix x5))))) < 53504 then
    k35 x0 x2 x3 x4 (x5 + 1) (wr μ 32 false (ix (D_X4_index x2 ((x4 * 256) + (rd μ 33 x0 (ix x5))))) r2)
    else none
    else none
def B_X4_fill_35 (k13 : (Bool → Int → Mi → Option Mi)) (k26 : (Bool → Int → Int → Int → Mi → Option Mi)) (n : Nat) : Bool → Int → Int → Int → Int → Mi → Option Mi := lp (F_X4_fill_35 k13 k26) (fun _ _ _ _ _ _ => none) n
theorem B_X4_fill_35_s (k13 : (Bool → Int → Mi → Option Mi)) (k26 : (Bool → Int → Int → Int → Mi → Option Mi)) (n : Nat) (x0 : Bool) (x2 : Int) (x3 : Int) (x4 : Int) (x5 : Int) (μ : Mi) : B_X4_fill_35 k13 k26 (n + 1) x0 x2 x3 x4 x5 μ = F_X4_fill_35 k13 k26 (B_X4_fill_35 k13 k26 n) x0 x2 x3 x4 x5 μ := rfl
def F_X4_fill_26 (k13 : (Bool → Int → Mi → Option Mi)) (k26 : (Bool → Int → Int → Int → Mi → Option Mi)) (x0 : Bool) (x2 : Int) (x3 : Int) (x4 : Int) (μ : Mi) : Option Mi :=
  if (w32 x3) < (w32 x4) then
    k13 x0 (x2 + (-1)) μ
  else
    B_X4_fill_35 k13 k26 FU x0 x2 x3 x4 0 μ
def B_X4_fill_26 (k13 : (Bool → Int → Mi → Option Mi)) (n : Nat) : Bool → Int → Int → Int → Mi → Option Mi := lp (F_X4_fill_26 k13) (fun _ _ _ _ _ => none) n
theorem B_X4_fill_26_s (k13 : (Bool → Int → Mi → Option Mi)) (n : Nat) (x0 : Bool) (x2 : Int) (x3 : Int) (x4 : Int) (μ : Mi) : B_X4_fill_26 k13 (n + 1) x0 x2 x3 x4 μ = F_X4_fill_26 k13 (B_X4_fill_26 k13 n) x0 x2 x3 x4 μ := rfl
def F_X4_fill_13 (k13 : (Bool → Int → Mi → Option Mi)) (x0 : Bool) (x2 : Int) (μ : Mi) : Option Mi :=
  if (w32 x2) < 0 then
    some μ
  else
    B_X4_fill_26 k13 FU x0 x2 (D_X4_mostSlept x0 x2 μ) 0 μ
def B_X4_fill_13 (n : Nat) : Bool → Int → Mi → Option Mi := lp (F_X4_fill_13) (fun _ _ _ => none) n
theorem B_X4_fill_13_s (n : Nat) (x0 : Bool) (x2 : Int) (μ : Mi) : B_X4_fill_13 (n + 1) x0 x2 μ = F_X4_fill_13 (B_X4_fill_13 n) x0 x2 μ := rfl
def D_X4_fill (x0 : Bool) (x1 : Int) (μ : Mi) : Option Mi :=
  B_X4_fill_13 FU x0 (rd μ 2 x0 2) (wr μ 4 x0 12 x1)
/-- StampTales$Search.startCell -/
def D_X4_startCell (x0 : Bool) (μ : Mi) : Option Int :=
  bp (D_X4_seenAt x0 0 (rd μ 2 x0 0) μ) fun r1 =>
  some (D_X4_cellOf 0 (rd μ 2 x0 0) 0 r1)
/-- StampTales$Search.valueAtStart -/
def D_X4_valueAtStart (x0 : Bool) (μ : Mi) : Option Int :=
  bp (D_X4_startCell x0 μ) fun r1 =>
  if 0 ≤ (w32 (D_X4_index 0 r1)) ∧ (w32 (D_X4_index 0 r1)) < 53504 then
  some (rd μ 32 false (ix (D_X4_index 0 r1)))
  else none
/-- StampTales$Search.reach -/
def D_X4_reach (x0 : Bool) (x1 : Int) (x2 : Int) (μ : Mi) : Option (Int × Mi) :=
  if (w32 x2) < 0 then
    some (0, μ)
  else
    if 0 ≤ (w32 (D_X4_index x1 x2)) ∧ (w32 (D_X4_index x1 x2)) < 53504 then
    if 0 ≤ (w32 (rd μ 32 false (ix (D_X4_index x1 x2)))) then
      if 0 ≤ (w32 (D_X4_index x1 x2)) ∧ (w32 (D_X4_index x1 x2)) < 53504 then
      if 0 ≤ (w32 (D_X4_index x1 x2)) ∧ (w32 (D_X4_index x1 x2)) < 53504 then
      some (1, (wr μ 32 false (ix (D_X4_index x1 x2)) (ior (rd μ 32 false (ix (D_X4_index x1 x2))) 1073741824)))
      else none
      else none
    else
      some (0, μ)
    else none
/-- StampTales$Search.goOnFrom -/
def B_X4_goOnFrom_140 (k46 : (Bool → Int → Int → Int → Mi → Option Mi)) (x0 : Bool) (x1 : Int) (x2 : Int) (x3 : Int) (μ : Mi) : Option Mi :=
  k46 x0 x1 x2 (x3 + 1) μ
def F_X4_goOnFrom_111 (k46 : (Bool → Int → Int → Int → Mi → Option Mi)) (k111 : (Bool → Int → Int → Int → Int → Int → Mi → Option Mi)) (x0 : Bool) (x1 : Int) (x2 : Int) (x3 : Int) (x4 : Int) (x5 : Int) (μ : Mi) : Option Mi :=
  if (w32 x4) ≤ (w32 x5) then
    B_X4_goOnFrom_140 k46 x0 x1 x2 x3 μ
  else
    if 0 ≤ (w32 x5) ∧ (w32 x5) < 97 then
    if 0 ≤ (w32 x5) ∧ (w32 x5) < 97 then
    k111 x0 x1 x2 x3 x4 (x5 + 1) (wr μ 21 x0 (ix x5) (ior (rd μ 21 x0 (ix x5)) 256))
    else none
    else none
def B_X4_goOnFrom_111 (k46 : (Bool → Int → Int → Int → Mi → Option Mi)) (n : Nat) : Bool → Int → Int → Int → Int → Int → Mi → Option Mi := lp (F_X4_goOnFrom_111 k46) (fun _ _ _ _ _ _ _ => none) n
theorem B_X4_goOnFrom_111_s (k46 : (Bool → Int → Int → Int → Mi → Option Mi)) (n : Nat) (x0 : Bool) (x1 : Int) (x2 : Int) (x3 : Int) (x4 : Int) (x5 : Int) (μ : Mi) : B_X4_goOnFrom_111 k46 (n + 1) x0 x1 x2 x3 x4 x5 μ = F_X4_goOnFrom_111 k46 (B_X4_goOnFrom_111 k46 n) x0 x1 x2 x3 x4 x5 μ := rfl
def F_X4_goOnFrom_46 (k46 : (Bool → Int → Int → Int → Mi → Option Mi)) (x0 : Bool) (x1 : Int) (x2 : Int) (x3 : Int) (μ : Mi) : Option Mi :=
  if (w32 (rd μ 0 false 2)) ≤ (w32 x3) then
    some μ
  else
    bp (D_X4_canTake x0 x3 x1 x2 μ) fun r1 =>
    if (w32 r1) = 0 then
      B_X4_goOnFrom_140 k46 x0 x1 x2 x3 μ
    else
      bp (D_X4_papersBetween x0 x3 x1 μ) fun r2 =>
      if ¬ (w32 r2) = 0 then
        B_X4_goOnFrom_140 k46 x0 x1 x2 x3 μ
      else
        if 0 ≤ (w32 x3) ∧ (w32 x3) < 16 then
        bp (D_X4_afterLink x0 x3 x1 x2 0 μ) fun r3 =>
        bd (D_X4_reach x0 (x1 + (rd μ 16 false (ix x3))) r3 μ) fun r4 m4 =>
        if (w32 r4) = 0 then
          B_X4_goOnFrom_140 k46 x0 x1 x2 x3 m4
        else
          B_X4_goOnFrom_111 k46 FU x0 x1 x2 x3 (x1 + (rd μ 16 false (ix x3))) (x1 + 1) m4
        else none
def B_X4_goOnFrom_46 (n : Nat) : Bool → Int → Int → Int → Mi → Option Mi := lp (F_X4_goOnFrom_46) (fun _ _ _ _ _ => none) n
theorem B_X4_goOnFrom_46_s (n : Nat) (x0 : Bool) (x1 : Int) (x2 : Int) (x3 : Int) (μ : Mi) : B_X4_goOnFrom_46 (n + 1) x0 x1 x2 x3 μ = F_X4_goOnFrom_46 (B_X4_goOnFrom_46 n) x0 x1 x2 x3 μ := rfl
def D_X4_goOnFrom (x0 : Bool) (x1 : Int) (x2 : Int) (μ : Mi) : Option Mi :=
  if 0 ≤ (w32 x1) ∧ (w32 x1) < 97 then
  if 0 ≤ (w32 x1) ∧ (w32 x1) < 97 then
  if (w32 x1) < (w32 (rd μ 2 x0 2)) then
    bp (D_X4_afterStay x0 x1 x2 (wr μ 21 x0 (ix x1) (ior (rd μ 21 x0 (ix x1)) (ishl 1 (D_X4_townOf x2))))) fun r2 =>
    bd (D_X4_reach x0 (x1 + 1) r2 (wr μ 21 x0 (ix x1) (ior (rd μ 21 x0 (ix x1)) (ishl 1 (D_X4_townOf x2))))) fun r3 m3 =>
    B_X4_goOnFrom_46 FU x0 x1 x2 0 m3
  else
    some (wr μ 21 x0 (ix x1) (ior (rd μ 21 x0 (ix x1)) (ishl 1 (D_X4_townOf x2))))
  else none
  else none
/-- StampTales$Search.learnWhere -/
def B_X4_learnWhere_144 (k70 : (Bool → Int → Mi → Option Mi)) (k89 : (Bool → Int → Int → Int → Mi → Option Mi)) (k97 : (Bool → Int → Int → Int → Int → Mi → Option Mi)) (x0 : Bool) (x1 : Int) (x2 : Int) (x3 : Int) (x4 : Int) (μ : Mi) : Option Mi :=
  k97 x0 x1 x2 x3 (x4 + 1) μ
def F_X4_learnWhere_97 (k70 : (Bool → Int → Mi → Option Mi)) (k89 : (Bool → Int → Int → Int → Mi → Option Mi)) (k97 : (Bool → Int → Int → Int → Int → Mi → Option Mi)) (x0 : Bool) (x1 : Int) (x2 : Int) (x3 : Int) (x4 : Int) (μ : Mi) : Option Mi :=
  if (w32 (rd μ 4 x0 8)) ≤ (w32 x4) then
    k89 x0 x1 x2 (x3 + 1) μ
  else
    if 0 ≤ (w32 x4) ∧ (w32 x4) < 256 then
    if 0 ≤ (w32 (D_X4_index x1 ((x3 * 256) + (rd μ 33 x0 (ix x4))))) ∧ (w32 (D_X4_index x1 ((x3 * 256) + (rd μ 33 x0 (ix x4))))) < 53504 then
    if (w32 (rd μ 32 false (ix (D_X4_index x1 ((x3 * 256) + (rd μ 33 x0 (ix x4))))))) < 1073741824 then
      B_X4_learnWhere_144 k70 k89 k97 x0 x1 x2 x3 x4 μ
    else
      bm (D_X4_goOnFrom x0 x1 ((x3 * 256) + (rd μ 33 x0 (ix x4))) μ) fun m2 =>
      B_X4_learnWhere_144 k70 k89 k97 x0 x1 x2 x3 x4 m2
    else none
    else none
def B_X4_learnWhere_97 (k70 : (Bool → Int → Mi → Option Mi)) (k89 : (Bool → Int → Int → Int → Mi → Option Mi)) (n : Nat) : Bool → Int → Int → Int → Int → Mi → Option Mi := lp (F_X4_learnWhere_97 k70 k89) (fun _ _ _ _ _ _ => none) n
theorem B_X4_learnWhere_97_s (k70 : (Bool → Int → Mi → Option Mi)) (k89 : (Bool → Int → Int → Int → Mi → Option Mi)) (n : Nat) (x0 : Bool) (x1 : Int) (x2 : Int) (x3 : Int) (x4 : Int) (μ : Mi) : B_X4_learnWhere_97 k70 k89 (n + 1) x0 x1 x2 x3 x4 μ = F_X4_learnWhere_97 k70 k89 (B_X4_learnWhere_97 k70 k89 n) x0 x1 x2 x3 x4 μ := rfl
def F_X4_learnWhere_89 (k70 : (Bool → Int → Mi → Option Mi)) (k89 : (Bool → Int → Int → Int → Mi → Option Mi)) (x0 : Bool) (x1 : Int) (x2 : Int) (x3 : Int) (μ : Mi) : Option Mi :=
  if (w32 x2) < (w32 x3) then
    k70 x0 (x1 + 1) μ
  else
    B_X4_learnWhere_97 k70 k89 FU x0 x1 x2 x3 0 μ
def B_X4_learnWhere_89 (k70 : (Bool → Int → Mi → Option Mi)) (n : Nat) : Bool → Int → Int → Int → Mi → Option Mi := lp (F_X4_learnWhere_89 k70) (fun _ _ _ _ _ => none) n
theorem B_X4_learnWhere_89_s (k70 : (Bool → Int → Mi → Option Mi)) (n : Nat) (x0 : Bool) (x1 : Int) (x2 : Int) (x3 : Int) (μ : Mi) : B_X4_learnWhere_89 k70 (n + 1) x0 x1 x2 x3 μ = F_X4_learnWhere_89 k70 (B_X4_learnWhere_89 k70 n) x0 x1 x2 x3 μ := rfl
def F_X4_learnWhere_70 (k70 : (Bool → Int → Mi → Option Mi)) (x0 : Bool) (x1 : Int) (μ : Mi) : Option Mi :=
  if (w32 (rd μ 2 x0 2)) < (w32 x1) then
    some μ
  else
    B_X4_learnWhere_89 k70 FU x0 x1 (D_X4_mostSlept x0 x1 μ) 0 μ
def B_X4_learnWhere_70 (n : Nat) : Bool → Int → Mi → Option Mi := lp (F_X4_learnWhere_70) (fun _ _ _ => none) n
theorem B_X4_learnWhere_70_s (n : Nat) (x0 : Bool) (x1 : Int) (μ : Mi) : B_X4_learnWhere_70 (n + 1) x0 x1 μ = F_X4_learnWhere_70 (B_X4_learnWhere_70 n) x0 x1 μ := rfl
def F_X4_learnWhere_36 (k36 : (Bool → Int → Mi → Option Mi)) (x0 : Bool) (x1 : Int) (μ : Mi) : Option Mi :=
  if 96 < (w32 x1) then
    bp (D_X4_startCell x0 μ) fun r1 =>
    bd (D_X4_reach x0 0 r1 μ) fun r2 m2 =>
    B_X4_learnWhere_70 FU x0 0 m2
  else
    if 0 ≤ (w32 x1) ∧ (w32 x1) < 97 then
    k36 x0 (x1 + 1) (wr μ 21 x0 (ix x1) 0)
    else none
def B_X4_learnWhere_36 (n : Nat) : Bool → Int → Mi → Option Mi := lp (F_X4_learnWhere_36) (fun _ _ _ => none) n
theorem B_X4_learnWhere_36_s (n : Nat) (x0 : Bool) (x1 : Int) (μ : Mi) : B_X4_learnWhere_36 (n + 1) x0 x1 μ = F_X4_learnWhere_36 (B_X4_learnWhere_36 n) x0 x1 μ := rfl
def D_X4_learnWhere (x0 : Bool) (μ : Mi) : Option Mi :=
  bd (D_X4_mustLearn x0 4 μ) fun r1 m1 =>
  if ¬ (w32 r1) = 0 then
    bm (D_X4_prepare x0 0 m1) fun m2 =>
    bm (D_X4_fill x0 4 m2) fun m3 =>
    bp (D_X4_valueAtStart x0 m3) fun r4 =>
    B_X4_learnWhere_36 FU x0 0 (wr m3 1 x0 1 (D_J9_max_7cf53 0 r4))
  else
    some m1
/-- StampTales$Search.howManyWays -/
def D_X4_howManyWays (x0 : Bool) (μ : Mi) : Option (Int × Mi) :=
  bm (D_X4_learnWhere x0 μ) fun m1 =>
  some ((rd m1 1 x0 1), m1)
/-- StampTales$Search.whereAt -/
def D_X4_whereAt (x0 : Bool) (x1 : Int) (μ : Mi) : Option (Int × Mi) :=
  bm (D_X4_learnWhere x0 μ) fun m1 =>
  if (w32 x1) < 0 then
    some ((-1), m1)
  else
    if 96 < (w32 x1) then
      some ((-1), m1)
    else
      if 0 ≤ (w32 x1) ∧ (w32 x1) < 97 then
      some ((rd m1 21 x0 (ix x1)), m1)
      else none
/-- StampTales$Search.extremeOf -/
def B_X4_extremeOf_42 (x0 : Bool) (x1 : Int) (μ : Mi) : Option (Int × Mi) :=
  if 0 ≤ (w32 x1) ∧ (w32 x1) < 4 then
  some ((rd μ 22 x0 (ix x1)), μ)
  else none
def D_X4_extremeOf (x0 : Bool) (x1 : Int) (μ : Mi) : Option (Int × Mi) :=
  if (w32 x1) < 0 then
    some ((-1), μ)
  else
    if (w32 x1) ≤ 3 then
      bd (D_X4_mustLearn x0 x1 μ) fun r1 m1 =>
      if (w32 r1) = 0 then
        B_X4_extremeOf_42 x0 x1 m1
      else
        bm (D_X4_prepare x0 0 m1) fun m2 =>
        bm (D_X4_fill x0 x1 m2) fun m3 =>
        bp (D_X4_valueAtStart x0 m3) fun r4 =>
        if 0 ≤ (w32 x1) ∧ (w32 x1) < 4 then
        B_X4_extremeOf_42 x0 x1 (wr m3 22 x0 (ix x1) r4)
        else none
    else
      some ((-1), μ)
/-- StampTales$Search.firstMove -/
def B_X4_firstMove_84 (k46 : (Bool → Int → Int → Int → Int → Mi → Option Int)) (x0 : Bool) (x1 : Int) (x2 : Int) (x3 : Int) (x5 : Int) (μ : Mi) : Option Int :=
  k46 x0 x1 x2 x3 (x5 + 1) μ
def F_X4_firstMove_46 (k46 : (Bool → Int → Int → Int → Int → Mi → Option Int)) (x0 : Bool) (x1 : Int) (x2 : Int) (x3 : Int) (x5 : Int) (μ : Mi) : Option Int :=
  if (w32 (rd μ 0 false 2)) ≤ (w32 x5) then
    some (-1)
  else
    bp (D_X4_canTake x0 x5 x1 x2 μ) fun r1 =>
    if (w32 r1) = 0 then
      B_X4_firstMove_84 k46 x0 x1 x2 x3 x5 μ
    else
      bp (D_X4_valueByLink x0 x5 x1 x2 μ) fun r2 =>
      if ¬ (w32 r2) = (w32 x3) then
        B_X4_firstMove_84 k46 x0 x1 x2 x3 x5 μ
      else
        some x5
def B_X4_firstMove_46 (n : Nat) : Bool → Int → Int → Int → Int → Mi → Option Int := lp (F_X4_firstMove_46) (fun _ _ _ _ _ _ => none) n
theorem B_X4_firstMove_46_s (n : Nat) (x0 : Bool) (x1 : Int) (x2 : Int) (x3 : Int) (x5 : Int) (μ : Mi) : B_X4_firstMove_46 (n + 1) x0 x1 x2 x3 x5 μ = F_X4_firstMove_46 (B_X4_firstMove_46 n) x0 x1 x2 x3 x5 μ := rfl
def B_X4_firstMove_43 (x0 : Bool) (x1 : Int) (x2 : Int) (x3 : Int) (μ : Mi) : Option Int :=
  B_X4_firstMove_46 FU x0 x1 x2 x3 0 μ
def D_X4_firstMove (x0 : Bool) (x1 : Int) (x2 : Int) (μ : Mi) : Option Int :=
  if 0 ≤ (w32 (D_X4_index x1 x2)) ∧ (w32 (D_X4_index x1 x2)) < 53504 then
  bp (D_X4_afterStay x0 x1 x2 μ) fun r2 =>
  if (w32 r2) < 0 then
    B_X4_firstMove_43 x0 x1 x2 (rd μ 32 false (ix (D_X4_index x1 x2))) μ
  else
    if 0 ≤ (w32 (D_X4_index (x1 + 1) r2)) ∧ (w32 (D_X4_index (x1 + 1) r2)) < 53504 then
    if ¬ (w32 (rd μ 32 false (ix (D_X4_index (x1 + 1) r2)))) = (w32 (rd μ 32 false (ix (D_X4_index x1 x2)))) then
      B_X4_firstMove_43 x0 x1 x2 (rd μ 32 false (ix (D_X4_index x1 x2))) μ
    else
      some (-1)
    else none
  else none
/-- StampTales$Search.followTale -/
def B_X4_followTale_143 (k28 : (Bool → Int → Int → Int → Mi → Option Mi)) (x0 : Bool) (x1 : Int) (x2 : Int) (x3 : Int) (μ : Mi) : Option Mi :=
  k28 x0 x1 x2 (x3 + 1) μ
def F_X4_followTale_28 (k28 : (Bool → Int → Int → Int → Mi → Option Mi)) (x0 : Bool) (x1 : Int) (x2 : Int) (x3 : Int) (μ : Mi) : Option Mi :=
  if 96 ≤ (w32 x3) then
    some μ
  else
    if (w32 (rd μ 2 x0 2)) ≤ (w32 x2) then
      some μ
    else
      if (w32 (rd μ 1 x0 2)) < 0 then
        some μ
      else
        if (w32 x1) < 0 then
          some μ
        else
          bp (D_X4_firstMove x0 x2 x1 μ) fun r1 =>
          if 0 ≤ (w32 r1) then
            if 0 ≤ (w32 (rd μ 1 x0 2)) ∧ (w32 (rd μ 1 x0 2)) < 96 then
            bp (D_X4_afterLink x0 r1 x2 x1 0 (wr (wr μ 23 x0 (ix (rd μ 1 x0 2)) ((r1 * 100) + x2)) 1 x0 2 ((rd μ 1 x0 2) + 1))) fun r2 =>
            if 0 ≤ (w32 r1) ∧ (w32 r1) < 16 then
            B_X4_followTale_143 k28 x0 r2 (x2 + (rd μ 16 false (ix r1))) x3 (wr (wr μ 23 x0 (ix (rd μ 1 x0 2)) ((r1 * 100) + x2)) 1 x0 2 ((rd μ 1 x0 2) + 1))
            else none
            else none
          else
            bp (D_X4_afterStay x0 x2 x1 μ) fun r2 =>
            B_X4_followTale_143 k28 x0 r2 (x2 + 1) x3 μ
def B_X4_followTale_28 (n : Nat) : Bool → Int → Int → Int → Mi → Option Mi := lp (F_X4_followTale_28) (fun _ _ _ _ _ => none) n
theorem B_X4_followTale_28_s (n : Nat) (x0 : Bool) (x1 : Int) (x2 : Int) (x3 : Int) (μ : Mi) : B_X4_followTale_28 (n + 1) x0 x1 x2 x3 μ = F_X4_followTale_28 (B_X4_followTale_28 n) x0 x1 x2 x3 μ := rfl
def B_X4_followTale_23 (x0 : Bool) (x1 : Int) (x2 : Int) (s0 : Int) (μ : Mi) : Option Mi :=
  B_X4_followTale_28 FU x0 x1 x2 0 (wr μ 1 x0 2 s0)
def D_X4_followTale (x0 : Bool) (μ : Mi) : Option Mi :=
  bp (D_X4_startCell x0 μ) fun r1 =>
  bp (D_X4_valueAtStart x0 μ) fun r2 =>
  if 0 ≤ (w32 r2) then
    B_X4_followTale_23 x0 r1 0 0 μ
  else
    B_X4_followTale_23 x0 r1 0 (-1) μ
/-- StampTales$Search.taleAt -/
def B_X4_taleAt_23 (x0 : Bool) (x1 : Int) (μ : Mi) : Option (Int × Mi) :=
  if ¬ (w32 x1) = (-1) then
    if (w32 x1) < 0 then
      some ((-1), μ)
    else
      if (w32 (rd μ 1 x0 2)) ≤ (w32 x1) then
        some ((-1), μ)
      else
        if 0 ≤ (w32 x1) ∧ (w32 x1) < 96 then
        some ((rd μ 23 x0 (ix x1)), μ)
        else none
  else
    some ((rd μ 1 x0 2), μ)
def D_X4_taleAt (x0 : Bool) (x1 : Int) (μ : Mi) : Option (Int × Mi) :=
  bd (D_X4_mustLearn x0 6 μ) fun r1 m1 =>
  if (w32 r1) = 0 then
    B_X4_taleAt_23 x0 x1 m1
  else
    bm (D_X4_prepare x0 0 m1) fun m2 =>
    bm (D_X4_fill x0 0 m2) fun m3 =>
    bm (D_X4_followTale x0 m3) fun m4 =>
    B_X4_taleAt_23 x0 x1 m4
/-- StampTales$Search.fewestToDoubt -/
def B_X4_fewestToDoubt_43 (x0 : Bool) (μ : Mi) : Option (Int × Mi) :=
  some ((rd μ 1 x0 3), μ)
def B_X4_fewestToDoubt_40 (x0 : Bool) (s0 : Int) (μ : Mi) : Option (Int × Mi) :=
  B_X4_fewestToDoubt_43 x0 (wr μ 1 x0 3 s0)
def D_X4_fewestToDoubt (x0 : Bool) (μ : Mi) : Option (Int × Mi) :=
  bd (D_X4_mustLearn x0 5 μ) fun r1 m1 =>
  if (w32 r1) = 0 then
    B_X4_fewestToDoubt_43 x0 m1
  else
    bm (D_X4_prepare x0 0 m1) fun m2 =>
    bm (D_X4_fill x0 5 m2) fun m3 =>
    bp (D_X4_valueAtStart x0 m3) fun r4 =>
    if 0 ≤ (w32 r4) then
      B_X4_fewestToDoubt_40 x0 (irem r4 256) m3
    else
      B_X4_fewestToDoubt_40 x0 (-1) m3
/-- StampTales$Search.freestWithout -/
def B_X4_freestWithout_93 (x0 : Bool) (μ : Mi) : Option (Int × Mi) :=
  some ((rd μ 1 x0 4), μ)
def B_X4_freestWithout_87 (k31 : (Bool → Int → Int → Mi → Option (Int × Mi))) (x0 : Bool) (x1 : Int) (x2 : Int) (μ : Mi) : Option (Int × Mi) :=
  k31 x0 x1 (x2 + 1) μ
def F_X4_freestWithout_31 (k31 : (Bool → Int → Int → Mi → Option (Int × Mi))) (x0 : Bool) (x1 : Int) (x2 : Int) (μ : Mi) : Option (Int × Mi) :=
  if (w32 (rd μ 2 x0 3)) ≤ (w32 x2) then
    B_X4_freestWithout_93 x0 μ
  else
    if 0 ≤ (w32 x2) ∧ (w32 x2) < 8 then
    if ¬ (w32 (rd μ 29 x0 (ix x2))) = 0 then
      B_X4_freestWithout_87 k31 x0 x1 x2 μ
    else
      bm (D_X4_prepare x0 (ishl 1 x2) μ) fun m1 =>
      bm (D_X4_fill x0 4 m1) fun m2 =>
      bp (D_X4_valueAtStart x0 m2) fun r3 =>
      if (w32 r3) ≤ (w32 x1) then
        B_X4_freestWithout_87 k31 x0 x1 x2 m2
      else
        bp (D_X4_valueAtStart x0 m2) fun r4 =>
        B_X4_freestWithout_87 k31 x0 r4 x2 (wr m2 1 x0 4 x2)
    else none
def B_X4_freestWithout_31 (n : Nat) : Bool → Int → Int → Mi → Option (Int × Mi) := lp (F_X4_freestWithout_31) (fun _ _ _ _ => none) n
theorem B_X4_freestWithout_31_s (n : Nat) (x0 : Bool) (x1 : Int) (x2 : Int) (μ : Mi) : B_X4_freestWithout_31 (n + 1) x0 x1 x2 μ = F_X4_freestWithout_31 (B_X4_freestWithout_31 n) x0 x1 x2 μ := rfl
def D_X4_freestWithout (x0 : Bool) (μ : Mi) : Option (Int × Mi) :=
  bm (D_X4_learnWhere x0 μ) fun m1 =>
  bd (D_X4_mustLearn x0 7 m1) fun r2 m2 =>
  if (w32 r2) = 0 then
    B_X4_freestWithout_93 x0 m2
  else
    B_X4_freestWithout_31 FU x0 (rd m2 1 x0 1) 0 (wr m2 1 x0 4 (-1))
/-- StampTales$Story.add -/
def D_X5_add (x1 : Int) (x2 : Int) (μ : Mi) : Option (Int × Mi) :=
  if (w32 (rd μ 5 false 0)) < 20 then
    if 0 ≤ (w32 (rd μ 5 false 0)) ∧ (w32 (rd μ 5 false 0)) < 20 then
    if 0 ≤ (w32 (rd μ 5 false 0)) ∧ (w32 (rd μ 5 false 0)) < 20 then
    some (((rd μ 5 false 0) + 1), (wr (wr (wr μ 37 false (ix (rd μ 5 false 0)) x1) 38 false (ix (rd μ 5 false 0)) x2) 5 false 0 ((rd μ 5 false 0) + 1)))
    else none
    else none
  else
    some ((-1), μ)
/-- StampTales$Story.stay -/
def F_X5_stay_3 (k3 : (Int → Int → Int → Mi → Option Mi)) (x2 : Int) (x3 : Int) (x4 : Int) (μ : Mi) : Option Mi :=
  if (w32 x2) < (w32 x4) then
    some μ
  else
    if 0 ≤ (w32 x4) ∧ (w32 x4) < 97 then
    if 0 ≤ (w32 x4) ∧ (w32 x4) < 97 then
    k3 x2 x3 (x4 + 1) (wr (wr μ 39 false (ix x4) x3) 40 false (ix x4) 1)
    else none
    else none
def B_X5_stay_3 (n : Nat) : Int → Int → Int → Mi → Option Mi := lp (F_X5_stay_3) (fun _ _ _ _ => none) n
theorem B_X5_stay_3_s (n : Nat) (x2 : Int) (x3 : Int) (x4 : Int) (μ : Mi) : B_X5_stay_3 (n + 1) x2 x3 x4 μ = F_X5_stay_3 (B_X5_stay_3 n) x2 x3 x4 μ := rfl
def D_X5_stay (x1 : Int) (x2 : Int) (x3 : Int) (μ : Mi) : Option Mi :=
  B_X5_stay_3 FU x2 x3 x1 μ
/-- StampTales$Story.wrongLeg -/
def F_X5_wrongLeg_120 (k10 : (Bool → Int → Int → Int → Mi → Option (Int × Mi))) (k120 : (Bool → Int → Int → Int → Int → Mi → Option (Int × Mi))) (x1 : Bool) (x4 : Int) (x5 : Int) (x7 : Int) (x8 : Int) (μ : Mi) : Option (Int × Mi) :=
  if (w32 x7) ≤ (w32 x8) then
    if 0 ≤ (w32 x5) ∧ (w32 x5) < 16 then
    k10 x1 (rd μ 14 false (ix x5)) x7 (x4 + 1) μ
    else none
  else
    if 0 ≤ (w32 x8) ∧ (w32 x8) < 97 then
    if 0 ≤ (w32 x8) ∧ (w32 x8) < 97 then
    k120 x1 x4 x5 x7 (x8 + 1) (wr (wr μ 39 false (ix x8) (-1)) 40 false (ix x8) 0)
    else none
    else none
def B_X5_wrongLeg_120 (k10 : (Bool → Int → Int → Int → Mi → Option (Int × Mi))) (n : Nat) : Bool → Int → Int → Int → Int → Mi → Option (Int × Mi) := lp (F_X5_wrongLeg_120 k10) (fun _ _ _ _ _ _ => none) n
theorem B_X5_wrongLeg_120_s (k10 : (Bool → Int → Int → Int → Mi → Option (Int × Mi))) (n : Nat) (x1 : Bool) (x4 : Int) (x5 : Int) (x7 : Int) (x8 : Int) (μ : Mi) : B_X5_wrongLeg_120 k10 (n + 1) x1 x4 x5 x7 x8 μ = F_X5_wrongLeg_120 k10 (B_X5_wrongLeg_120 k10 n) x1 x4 x5 x7 x8 μ := rfl
def F_X5_wrongLeg_10 (k10 : (Bool → Int → Int → Int → Mi → Option (Int × Mi))) (x1 : Bool) (x2 : Int) (x3 : Int) (x4 : Int) (μ : Mi) : Option (Int × Mi) :=
  if (w32 (rd μ 5 false 0)) ≤ (w32 x4) then
    bm (D_X5_stay x3 (rd μ 2 x1 2) x2 μ) fun m1 =>
    some ((-1), m1)
  else
    if 0 ≤ (w32 x4) ∧ (w32 x4) < 20 then
    if 0 ≤ (w32 x4) ∧ (w32 x4) < 20 then
    if 0 ≤ (w32 (rd μ 37 false (ix x4))) ∧ (w32 (rd μ 37 false (ix x4))) < 16 then
    if (w32 (rd μ 38 false (ix x4))) < (w32 x3) then
      some (x4, μ)
    else
      if 0 ≤ (w32 (rd μ 37 false (ix x4))) ∧ (w32 (rd μ 37 false (ix x4))) < 16 then
      if ¬ (w32 (rd μ 13 false (ix (rd μ 37 false (ix x4))))) = (w32 x2) then
        some (x4, μ)
      else
        bp (D_X0_leavesAt false (rd μ 37 false (ix x4)) (rd μ 38 false (ix x4)) μ) fun r1 =>
        if (w32 r1) = 0 then
          some (x4, μ)
        else
          if (w32 ((rd μ 38 false (ix x4)) + (rd μ 16 false (ix (rd μ 37 false (ix x4)))))) ≤ (w32 (rd μ 2 x1 2)) then
            bm (D_X5_stay x3 (rd μ 38 false (ix x4)) x2 μ) fun m2 =>
            if 0 ≤ (w32 (rd μ 38 false (ix x4))) ∧ (w32 (rd μ 38 false (ix x4))) < 97 then
            B_X5_wrongLeg_120 k10 FU x1 x4 (rd μ 37 false (ix x4)) ((rd μ 38 false (ix x4)) + (rd μ 16 false (ix (rd μ 37 false (ix x4))))) ((rd μ 38 false (ix x4)) + 1) (wr m2 40 false (ix (rd μ 38 false (ix x4))) 0)
            else none
          else
            some (x4, μ)
      else none
    else none
    else none
    else none
def B_X5_wrongLeg_10 (n : Nat) : Bool → Int → Int → Int → Mi → Option (Int × Mi) := lp (F_X5_wrongLeg_10) (fun _ _ _ _ _ => none) n
theorem B_X5_wrongLeg_10_s (n : Nat) (x1 : Bool) (x2 : Int) (x3 : Int) (x4 : Int) (μ : Mi) : B_X5_wrongLeg_10 (n + 1) x1 x2 x3 x4 μ = F_X5_wrongLeg_10 (B_X5_wrongLeg_10 n) x1 x2 x3 x4 μ := rfl
def D_X5_wrongLeg (x1 : Bool) (μ : Mi) : Option (Int × Mi) :=
  B_X5_wrongLeg_10 FU x1 (rd μ 2 x1 0) 0 0 μ
/-- StampTales$Story.sleeplessDay -/
def B_X5_sleeplessDay_46 (k2 : (Bool → Int → Mi → Option Int)) (k21 : (Bool → Int → Int → Int → Mi → Option Int)) (x1 : Bool) (x2 : Int) (x3 : Int) (x4 : Int) (μ : Mi) : Option Int :=
  k21 x1 x2 x3 (x4 + 1) μ
def F_X5_sleeplessDay_21 (k2 : (Bool → Int → Mi → Option Int)) (k21 : (Bool → Int → Int → Int → Mi → Option Int)) (x1 : Bool) (x2 : Int) (x3 : Int) (x4 : Int) (μ : Mi) : Option Int :=
  if 8 ≤ (w32 x4) then
    if (w32 (rd μ 2 x1 1)) ≤ (w32 x3) then
      k2 x1 (x2 + 1) μ
    else
      some x2
  else
    if 0 ≤ (w32 ((x2 * 24) + x4)) ∧ (w32 ((x2 * 24) + x4)) < 97 then
    if (w32 (rd μ 40 false (ix ((x2 * 24) + x4)))) = 0 then
      B_X5_sleeplessDay_46 k2 k21 x1 x2 x3 x4 μ
    else
      B_X5_sleeplessDay_46 k2 k21 x1 x2 (x3 + 1) x4 μ
    else none
def B_X5_sleeplessDay_21 (k2 : (Bool → Int → Mi → Option Int)) (n : Nat) : Bool → Int → Int → Int → Mi → Option Int := lp (F_X5_sleeplessDay_21 k2) (fun _ _ _ _ _ => none) n
theorem B_X5_sleeplessDay_21_s (k2 : (Bool → Int → Mi → Option Int)) (n : Nat) (x1 : Bool) (x2 : Int) (x3 : Int) (x4 : Int) (μ : Mi) : B_X5_sleeplessDay_21 k2 (n + 1) x1 x2 x3 x4 μ = F_X5_sleeplessDay_21 k2 (B_X5_sleeplessDay_21 k2 n) x1 x2 x3 x4 μ := rfl
def F_X5_sleeplessDay_2 (k2 : (Bool → Int → Mi → Option Int)) (x1 : Bool) (x2 : Int) (μ : Mi) : Option Int :=
  if (w32 (rd μ 2 x1 2)) < (w32 ((x2 * 24) + 8)) then
    some (-1)
  else
    B_X5_sleeplessDay_21 k2 FU x1 x2 0 0 μ
def B_X5_sleeplessDay_2 (n : Nat) : Bool → Int → Mi → Option Int := lp (F_X5_sleeplessDay_2) (fun _ _ _ => none) n
theorem B_X5_sleeplessDay_2_s (n : Nat) (x1 : Bool) (x2 : Int) (μ : Mi) : B_X5_sleeplessDay_2 (n + 1) x1 x2 μ = F_X5_sleeplessDay_2 (B_X5_sleeplessDay_2 n) x1 x2 μ := rfl
def D_X5_sleeplessDay (x1 : Bool) (μ : Mi) : Option Int :=
  B_X5_sleeplessDay_2 FU x1 0 μ
/-- StampTales$Story.stampBehind -/
def F_X5_stampBehind_4 (k4 : (Bool → Int → Mi → Option Int)) (x0 : Bool) (x2 : Int) (μ : Mi) : Option Int :=
  if (w32 (rd μ 2 x0 3)) ≤ (w32 x2) then
    some (-1)
  else
    bp (D_X2_counts x0 x2 0 μ) fun r1 =>
    if (w32 r1) = 0 then
      k4 x0 (x2 + 1) μ
    else
      some x2
def B_X5_stampBehind_4 (n : Nat) : Bool → Int → Mi → Option Int := lp (F_X5_stampBehind_4) (fun _ _ _ => none) n
theorem B_X5_stampBehind_4_s (n : Nat) (x0 : Bool) (x2 : Int) (μ : Mi) : B_X5_stampBehind_4 (n + 1) x0 x2 μ = F_X5_stampBehind_4 (B_X5_stampBehind_4 n) x0 x2 μ := rfl
def D_X5_stampBehind (x0 : Bool) (x1 : Int) (μ : Mi) : Option Int :=
  B_X5_stampBehind_4 FU x0 (x1 + 1) μ
/-- StampTales$Story.wrongStamp -/
def B_X5_wrongStamp_179 (k11 : (Bool → Int → Int → Int → Mi → Option Int)) (x1 : Bool) (x2 : Int) (x3 : Int) (x4 : Int) (μ : Mi) : Option Int :=
  k11 x1 x2 x3 (x4 + 1) μ
def B_X5_wrongStamp_116 (k11 : (Bool → Int → Int → Int → Mi → Option Int)) (x1 : Bool) (x2 : Int) (x3 : Int) (x4 : Int) (x5 : Int) (x7 : Int) (μ : Mi) : Option Int :=
  if 0 ≤ (w32 x5) ∧ (w32 x5) < 16 then
  if (w32 (rd μ 20 false (ix x5))) = (-1) then
    B_X5_wrongStamp_179 k11 x1 x2 x3 x4 μ
  else
    if 0 ≤ (w32 x5) ∧ (w32 x5) < 16 then
    if 0 ≤ (w32 x5) ∧ (w32 x5) < 16 then
    bp (D_X0_dayAt false x7 (rd μ 14 false (ix x5)) μ) fun r1 =>
    bp (D_X2_stampFits x1 x3 (rd μ 20 false (ix x5)) 0 r1 μ) fun r2 =>
    if ¬ (w32 r2) = 0 then
      bp (D_X5_stampBehind x1 x3 μ) fun r3 =>
      B_X5_wrongStamp_179 k11 x1 (x2 + 1) r3 x4 μ
    else
      some x2
    else none
    else none
  else none
def F_X5_wrongStamp_11 (k11 : (Bool → Int → Int → Int → Mi → Option Int)) (x1 : Bool) (x2 : Int) (x3 : Int) (x4 : Int) (μ : Mi) : Option Int :=
  if (w32 (rd μ 5 false 0)) ≤ (w32 x4) then
    if ¬ (w32 x3) = (-1) then
      some x2
    else
      some (-1)
  else
    if 0 ≤ (w32 x4) ∧ (w32 x4) < 20 then
    if 0 ≤ (w32 x4) ∧ (w32 x4) < 20 then
    if 0 ≤ (w32 (rd μ 37 false (ix x4))) ∧ (w32 (rd μ 37 false (ix x4))) < 16 then
    if 0 ≤ (w32 (rd μ 37 false (ix x4))) ∧ (w32 (rd μ 37 false (ix x4))) < 16 then
    if (w32 (rd μ 19 false (ix (rd μ 37 false (ix x4))))) = (-1) then
      B_X5_wrongStamp_116 k11 x1 x2 x3 x4 (rd μ 37 false (ix x4)) ((rd μ 38 false (ix x4)) + (rd μ 16 false (ix (rd μ 37 false (ix x4))))) μ
    else
      if 0 ≤ (w32 (rd μ 37 false (ix x4))) ∧ (w32 (rd μ 37 false (ix x4))) < 16 then
      if 0 ≤ (w32 (rd μ 37 false (ix x4))) ∧ (w32 (rd μ 37 false (ix x4))) < 16 then
      bp (D_X0_dayAt false (rd μ 38 false (ix x4)) (rd μ 13 false (ix (rd μ 37 false (ix x4)))) μ) fun r1 =>
      bp (D_X2_stampFits x1 x3 (rd μ 19 false (ix (rd μ 37 false (ix x4)))) 1 r1 μ) fun r2 =>
      if ¬ (w32 r2) = 0 then
        bp (D_X5_stampBehind x1 x3 μ) fun r3 =>
        B_X5_wrongStamp_116 k11 x1 (x2 + 1) r3 x4 (rd μ 37 false (ix x4)) ((rd μ 38 false (ix x4)) + (rd μ 16 false (ix (rd μ 37 false (ix x4))))) μ
      else
        some x2
      else none
      else none
    else none
    else none
    else none
    else none
def B_X5_wrongStamp_11 (n : Nat) : Bool → Int → Int → Int → Mi → Option Int := lp (F_X5_wrongStamp_11) (fun _ _ _ _ _ => none) n
theorem B_X5_wrongStamp_11_s (n : Nat) (x1 : Bool) (x2 : Int) (x3 : Int) (x4 : Int) (μ : Mi) : B_X5_wrongStamp_11 (n + 1) x1 x2 x3 x4 μ = F_X5_wrongStamp_11 (B_X5_wrongStamp_11 n) x1 x2 x3 x4 μ := rfl
def D_X5_wrongStamp (x1 : Bool) (μ : Mi) : Option Int :=
  bp (D_X5_stampBehind x1 (-1) μ) fun r1 =>
  B_X5_wrongStamp_11 FU x1 0 r1 0 μ
/-- StampTales$Story.missedPaper -/
def B_X5_missedPaper_54 (k2 : (Bool → Int → Mi → Option Int)) (x1 : Bool) (x2 : Int) (μ : Mi) : Option Int :=
  k2 x1 (x2 + 1) μ
def F_X5_missedPaper_2 (k2 : (Bool → Int → Mi → Option Int)) (x1 : Bool) (x2 : Int) (μ : Mi) : Option Int :=
  if (w32 (rd μ 2 x1 3)) ≤ (w32 x2) then
    some (-1)
  else
    bp (D_X2_counts x1 x2 1 μ) fun r1 =>
    if (w32 r1) = 0 then
      B_X5_missedPaper_54 k2 x1 x2 μ
    else
      if 0 ≤ (w32 x2) ∧ (w32 x2) < 8 then
      if (w32 (rd μ 2 x1 2)) < (w32 (rd μ 26 x1 (ix x2))) then
        B_X5_missedPaper_54 k2 x1 x2 μ
      else
        if 0 ≤ (w32 x2) ∧ (w32 x2) < 8 then
        if 0 ≤ (w32 (rd μ 26 x1 (ix x2))) ∧ (w32 (rd μ 26 x1 (ix x2))) < 97 then
        if 0 ≤ (w32 x2) ∧ (w32 x2) < 8 then
        if (w32 (rd μ 39 false (ix (rd μ 26 x1 (ix x2))))) = (w32 (rd μ 25 x1 (ix x2))) then
          B_X5_missedPaper_54 k2 x1 x2 μ
        else
          some x2
        else none
        else none
        else none
      else none
def B_X5_missedPaper_2 (n : Nat) : Bool → Int → Mi → Option Int := lp (F_X5_missedPaper_2) (fun _ _ _ => none) n
theorem B_X5_missedPaper_2_s (n : Nat) (x1 : Bool) (x2 : Int) (μ : Mi) : B_X5_missedPaper_2 (n + 1) x1 x2 μ = F_X5_missedPaper_2 (B_X5_missedPaper_2 n) x1 x2 μ := rfl
def D_X5_missedPaper (x1 : Bool) (μ : Mi) : Option Int :=
  B_X5_missedPaper_2 FU x1 0 μ
/-- StampTales$Story.isSeen -/
def F_X5_isSeen_22 (k22 : (Bool → Int → Int → Int → Mi → Option Int)) (x1 : Bool) (x2 : Int) (x3 : Int) (x4 : Int) (μ : Mi) : Option Int :=
  if (w32 x3) < (w32 x4) then
    some 0
  else
    if 0 ≤ (w32 x4) ∧ (w32 x4) < 97 then
    if 0 ≤ (w32 x2) ∧ (w32 x2) < 8 then
    if ¬ (w32 (rd μ 39 false (ix x4))) = (w32 (rd μ 25 x1 (ix x2))) then
      k22 x1 x2 x3 (x4 + 1) μ
    else
      some 1
    else none
    else none
def B_X5_isSeen_22 (n : Nat) : Bool → Int → Int → Int → Mi → Option Int := lp (F_X5_isSeen_22) (fun _ _ _ _ _ => none) n
theorem B_X5_isSeen_22_s (n : Nat) (x1 : Bool) (x2 : Int) (x3 : Int) (x4 : Int) (μ : Mi) : B_X5_isSeen_22 (n + 1) x1 x2 x3 x4 μ = F_X5_isSeen_22 (B_X5_isSeen_22 n) x1 x2 x3 x4 μ := rfl
def D_X5_isSeen (x1 : Bool) (x2 : Int) (μ : Mi) : Option Int :=
  if 0 ≤ (w32 x2) ∧ (w32 x2) < 8 then
  if 0 ≤ (w32 x2) ∧ (w32 x2) < 8 then
  B_X5_isSeen_22 FU x1 x2 (D_J9_min_7cf53 (rd μ 27 x1 (ix x2)) (rd μ 2 x1 2)) (rd μ 26 x1 (ix x2)) μ
  else none
  else none
/-- StampTales$Story.missedLook -/
def B_X5_missedLook_30 (k2 : (Bool → Int → Mi → Option Int)) (x1 : Bool) (x2 : Int) (μ : Mi) : Option Int :=
  k2 x1 (x2 + 1) μ
def F_X5_missedLook_2 (k2 : (Bool → Int → Mi → Option Int)) (x1 : Bool) (x2 : Int) (μ : Mi) : Option Int :=
  if (w32 (rd μ 2 x1 3)) ≤ (w32 x2) then
    some (-1)
  else
    bp (D_X2_counts x1 x2 2 μ) fun r1 =>
    if (w32 r1) = 0 then
      B_X5_missedLook_30 k2 x1 x2 μ
    else
      bp (D_X5_isSeen x1 x2 μ) fun r2 =>
      if ¬ (w32 r2) = 0 then
        B_X5_missedLook_30 k2 x1 x2 μ
      else
        some x2
def B_X5_missedLook_2 (n : Nat) : Bool → Int → Mi → Option Int := lp (F_X5_missedLook_2) (fun _ _ _ => none) n
theorem B_X5_missedLook_2_s (n : Nat) (x1 : Bool) (x2 : Int) (μ : Mi) : B_X5_missedLook_2 (n + 1) x1 x2 μ = F_X5_missedLook_2 (B_X5_missedLook_2 n) x1 x2 μ := rfl
def D_X5_missedLook (x1 : Bool) (μ : Mi) : Option Int :=
  B_X5_missedLook_2 FU x1 0 μ
/-- StampTales$Story.barOf -/
def D_X5_barOf (x1 : Bool) (μ : Mi) : Option (Int × Mi) :=
  bd (D_X5_wrongLeg x1 μ) fun r1 m1 =>
  if (w32 r1) = (-1) then
    bp (D_X5_sleeplessDay x1 m1) fun r2 =>
    if (w32 r2) = (-1) then
      bp (D_X5_wrongStamp x1 m1) fun r3 =>
      if (w32 r3) = (-1) then
        bp (D_X5_missedPaper x1 m1) fun r4 =>
        if (w32 r4) = (-1) then
          bp (D_X5_missedLook x1 m1) fun r5 =>
          if ¬ (w32 r5) = (-1) then
            some ((500 + r5), m1)
          else
            some (0, m1)
        else
          some ((400 + r4), m1)
      else
        some ((300 + r3), m1)
    else
      some ((200 + r2), m1)
  else
    some ((100 + r1), m1)
/-- StampTales.append -/
def F_X6_append_3 (k3 : (Int → Int → Mi → Option Mi)) (x1 : Int) (x2 : Int) (μ : Mi) : Option Mi :=
  if (w32 x2) < 0 then
    some μ
  else
    if 500 ≤ (w32 (rd μ 6 false 1)) then
      some μ
    else
      if 0 ≤ (w32 (rd μ 6 false 1)) ∧ (w32 (rd μ 6 false 1)) < 500 then
      k3 x1 (x2 + (-8)) (wr (wr μ 41 false (ix (rd μ 6 false 1)) (i2b (i2b (ishr x1 x2)))) 6 false 1 ((rd μ 6 false 1) + 1))
      else none
def B_X6_append_3 (n : Nat) : Int → Int → Mi → Option Mi := lp (F_X6_append_3) (fun _ _ _ => none) n
theorem B_X6_append_3_s (n : Nat) (x1 : Int) (x2 : Int) (μ : Mi) : B_X6_append_3 (n + 1) x1 x2 μ = F_X6_append_3 (B_X6_append_3 n) x1 x2 μ := rfl
def D_X6_append (x1 : Int) (μ : Mi) : Option Mi :=
  B_X6_append_3 FU x1 24 μ
/-- StampTales.feed -/
def D_X6_feed (x1 : Int) (x2 : Int) (x3 : Int) (x4 : Int) (x5 : Int) (μ : Mi) : Option (Int × Mi) :=
  if (w32 ((rd μ 6 false 1) + 20)) ≤ 500 then
    bm (D_X6_append x1 μ) fun m1 =>
    bm (D_X6_append x2 m1) fun m2 =>
    bm (D_X6_append x3 m2) fun m3 =>
    bm (D_X6_append x4 m3) fun m4 =>
    bm (D_X6_append x5 m4) fun m5 =>
    some ((rd m5 6 false 1), m5)
  else
    some ((-1), μ)
/-- StampTales.end -/
def D_X6_end (x1 : Int) (μ : Mi) : Option (Int × Mi) :=
  if (w32 x1) < 0 then
    some (0, μ)
  else
    if (w32 x1) ≤ (w32 (rd μ 6 false 1)) then
      some (1, (wr μ 6 false 1 x1))
    else
      some (0, μ)
/-- StampTales.fault -/
def D_X6_fault (μ : Mi) : Option (Int × Mi) :=
  bd (D_X3_faultOf (rd μ 6 false 1) μ) fun r1 m1 =>
  some (r1, m1)
/-- StampTales.map -/
def D_X6_map (μ : Mi) : Option (Int × Mi) :=
  bd (D_X3_faultOf (rd μ 6 false 1) μ) fun r1 m1 =>
  if (w32 r1) = (-1) then
    bm (D_X0_takeOver m1) fun m2 =>
    bm (D_X2_startAnew false (wr m2 6 false 1 0)) fun m3 =>
    bm (D_X2_startAnew true m3) fun m4 =>
    some ((rd m4 0 false 1), (wr m4 5 false 0 0))
  else
    some ((-1), m1)
/-- StampTales.isMan -/
def D_X6_isMan (x1 : Int) (μ : Mi) : Int :=
  if (w32 (rd μ 0 false 1)) ≤ 0 then
    0
  else
    if (w32 x1) = 0 then
      1
    else
      if ¬ (w32 x1) = 1 then
        0
      else
        1
/-- StampTales.searchOf -/
def D_X6_searchOf (x1 : Int) (μ : Mi) : Bool :=
  if ¬ (w32 x1) = 0 then
    true
  else
    false
/-- StampTales.man -/
def D_X6_man (x1 : Int) (x2 : Int) (x3 : Int) (x4 : Int) (μ : Mi) : Option (Int × Mi) :=
  if (w32 (D_X6_isMan x1 μ)) = 0 then
    some (0, μ)
  else
    if (w32 (D_X0_hasTown false x2 μ)) = 0 then
      some (0, μ)
    else
      if (w32 x3) < 0 then
        some (0, μ)
      else
        if 4 < (w32 x3) then
          some (0, μ)
        else
          if (w32 x4) < 1 then
            some (0, μ)
          else
            if (w32 x4) ≤ 96 then
              bm (D_X2_settle (D_X6_searchOf x1 μ) x2 x3 x4 μ) fun m4 =>
              some (1, m4)
            else
              some (0, μ)
/-- StampTales.stamp -/
def D_X6_stamp (x1 : Int) (x2 : Int) (x3 : Int) (x4 : Int) (x5 : Int) (μ : Mi) : Option (Int × Mi) :=
  if (w32 (D_X6_isMan x1 μ)) = 0 then
    some ((-1), μ)
  else
    if (w32 (D_X0_hasLand false x2 μ)) = 0 then
      some ((-1), μ)
    else
      if (w32 x4) < (-1) then
        some ((-1), μ)
      else
        if (w32 x5) < (w32 x4) then
          some ((-1), μ)
        else
          if (w32 x5) ≤ 5 then
            bd (D_X2_add (D_X6_searchOf x1 μ) 0 x2 x4 x5 μ) fun r4 m4 =>
            if (w32 r4) < 0 then
              some (r4, m4)
            else
              if 0 ≤ (w32 r4) ∧ (w32 r4) < 8 then
              if isB x3 then
              some (r4, (wr m4 28 (D_X6_searchOf x1 μ) (ix r4) x3))
              else none
              else none
          else
            some ((-1), μ)
/-- StampTales.isHour -/
def D_X6_isHour (x0 : Int) : Int :=
  if (w32 x0) < 0 then
    0
  else
    if 96 < (w32 x0) then
      0
    else
      1
/-- StampTales.paper -/
def D_X6_paper (x1 : Int) (x2 : Int) (x3 : Int) (μ : Mi) : Option (Int × Mi) :=
  if (w32 (D_X6_isMan x1 μ)) = 0 then
    some ((-1), μ)
  else
    if (w32 (D_X0_hasTown false x2 μ)) = 0 then
      some ((-1), μ)
    else
      if ¬ (w32 (D_X6_isHour x3)) = 0 then
        bd (D_X2_add (D_X6_searchOf x1 μ) 1 x2 x3 x3 μ) fun r5 m5 =>
        some (r5, m5)
      else
        some ((-1), μ)
/-- StampTales.look -/
def D_X6_look (x1 : Int) (x2 : Int) (x3 : Int) (x4 : Int) (μ : Mi) : Option (Int × Mi) :=
  if (w32 (D_X6_isMan x1 μ)) = 0 then
    some ((-1), μ)
  else
    if (w32 (D_X0_hasTown false x2 μ)) = 0 then
      some ((-1), μ)
    else
      if (w32 (D_X6_isHour x3)) = 0 then
        some ((-1), μ)
      else
        if (w32 (D_X6_isHour x4)) = 0 then
          some ((-1), μ)
        else
          if (w32 x3) ≤ (w32 x4) then
            bd (D_X2_add (D_X6_searchOf x1 μ) 2 x2 x3 x4 μ) fun r6 m6 =>
            some (r6, m6)
          else
            some ((-1), μ)
/-- StampTales.doubt -/
def D_X6_doubt (x1 : Int) (x2 : Int) (x3 : Int) (μ : Mi) : Option (Int × Mi) :=
  if (w32 (D_X6_isMan x1 μ)) = 0 then
    some (0, μ)
  else
    bd (D_X2_setDoubted (D_X6_searchOf x1 μ) x2 x3 μ) fun r3 m3 =>
    if (w32 r3) = 0 then
      some (0, m3)
    else
      some (1, m3)
/-- StampTales.undo -/
def D_X6_undo (x1 : Int) (μ : Mi) : Option (Int × Mi) :=
  if (w32 (D_X6_isMan x1 μ)) = 0 then
    some ((-1), μ)
  else
    bd (D_X2_dropLast (D_X6_searchOf x1 μ) μ) fun r3 m3 =>
    some (r3, m3)
/-- StampTales.link -/
def D_X6_link (x1 : Int) (x2 : Int) (μ : Mi) : Option Int :=
  if ¬ (w32 (D_X0_hasLink false x1 μ)) = 0 then
    if (w32 x2) = 0 then
      if 0 ≤ (w32 x1) ∧ (w32 x1) < 16 then
      some (rd μ 13 false (ix x1))
      else none
    else if (w32 x2) = 1 then
      if 0 ≤ (w32 x1) ∧ (w32 x1) < 16 then
      some (rd μ 14 false (ix x1))
      else none
    else if (w32 x2) = 2 then
      if 0 ≤ (w32 x1) ∧ (w32 x1) < 16 then
      some (rd μ 15 false (ix x1))
      else none
    else if (w32 x2) = 3 then
      if 0 ≤ (w32 x1) ∧ (w32 x1) < 16 then
      some (rd μ 16 false (ix x1))
      else none
    else if (w32 x2) = 4 then
      if 0 ≤ (w32 x1) ∧ (w32 x1) < 16 then
      some (rd μ 17 false (ix x1))
      else none
    else if (w32 x2) = 5 then
      if 0 ≤ (w32 x1) ∧ (w32 x1) < 16 then
      if (w32 (rd μ 18 false (ix x1))) = 0 then
        some 0
      else
        some 1
      else none
    else
      some (-1)
  else
    some (-1)
/-- StampTales.town -/
def D_X6_town (x1 : Int) (x2 : Int) (μ : Mi) : Option Int :=
  if ¬ (w32 (D_X0_hasTown false x1 μ)) = 0 then
    if (w32 x2) = 0 then
      if 0 ≤ (w32 x1) ∧ (w32 x1) < 8 then
      some (rd μ 11 false (ix x1))
      else none
    else if (w32 x2) = 1 then
      if 0 ≤ (w32 x1) ∧ (w32 x1) < 8 then
      some (rd μ 12 false (ix x1))
      else none
    else
      some (-99)
  else
    some (-99)
/-- StampTales.trace -/
def D_X6_trace (x1 : Int) (x2 : Int) (x3 : Int) (μ : Mi) : Option Int :=
  if (w32 (D_X6_isMan x1 μ)) = 0 then
    some (-99)
  else
    if ¬ (w32 (D_X2_has (D_X6_searchOf x1 μ) x2 μ)) = 0 then
      if (w32 x3) = 0 then
        if 0 ≤ (w32 x2) ∧ (w32 x2) < 8 then
        some (rd μ 24 (D_X6_searchOf x1 μ) (ix x2))
        else none
      else if (w32 x3) = 1 then
        if 0 ≤ (w32 x2) ∧ (w32 x2) < 8 then
        some (rd μ 25 (D_X6_searchOf x1 μ) (ix x2))
        else none
      else if (w32 x3) = 2 then
        if 0 ≤ (w32 x2) ∧ (w32 x2) < 8 then
        some (rd μ 26 (D_X6_searchOf x1 μ) (ix x2))
        else none
      else if (w32 x3) = 3 then
        if 0 ≤ (w32 x2) ∧ (w32 x2) < 8 then
        some (rd μ 27 (D_X6_searchOf x1 μ) (ix x2))
        else none
      else if (w32 x3) = 4 then
        if 0 ≤ (w32 x2) ∧ (w32 x2) < 8 then
        if (w32 (rd μ 28 (D_X6_searchOf x1 μ) (ix x2))) = 0 then
          some 0
        else
          some 1
        else none
      else if (w32 x3) = 5 then
        if 0 ≤ (w32 x2) ∧ (w32 x2) < 8 then
        if (w32 (rd μ 29 (D_X6_searchOf x1 μ) (ix x2))) = 0 then
          some 0
        else
          some 1
        else none
      else
        some (-99)
    else
      some (-99)
/-- StampTales.ways -/
def D_X6_ways (x1 : Int) (μ : Mi) : Option (Int × Mi) :=
  if (w32 (D_X6_isMan x1 μ)) = 0 then
    some ((-1), μ)
  else
    bd (D_X4_howManyWays (D_X6_searchOf x1 μ) μ) fun r3 m3 =>
    some (r3, m3)
/-- StampTales.isTimeOf -/
def D_X6_isTimeOf (x1 : Int) (x2 : Int) (μ : Mi) : Int :=
  if (w32 (D_X6_isMan x1 μ)) = 0 then
    0
  else
    if (w32 x2) < 0 then
      0
    else
      if (w32 (rd μ 2 (D_X6_searchOf x1 μ) 2)) < (w32 x2) then
        0
      else
        1
/-- StampTales.may -/
def D_X6_may (x1 : Int) (x2 : Int) (μ : Mi) : Option (Int × Mi) :=
  if (w32 (D_X6_isTimeOf x1 x2 μ)) = 0 then
    some ((-1), μ)
  else
    bd (D_X4_whereAt (D_X6_searchOf x1 μ) x2 μ) fun r3 m3 =>
    some (r3, m3)
/-- StampTales.isOneTown -/
def D_X6_isOneTown (x0 : Int) : Int :=
  if ¬ (w32 (D_J6_bitCount_0f7a4 x0)) = 1 then
    0
  else
    if (w32 x0) = 256 then
      0
    else
      1
/-- java/lang/Integer.numberOfTrailingZeros -/
def B_J6_numberOfTrailingZeros_0f7a4_74 (x0 : Int) (x1 : Int) : Int :=
  (x1 + (iushr x0 1))
def B_J6_numberOfTrailingZeros_0f7a4_62 (x0 : Int) (x1 : Int) : Int :=
  if (w32 x0) ≤ 4 then
    B_J6_numberOfTrailingZeros_0f7a4_74 x0 x1
  else
    B_J6_numberOfTrailingZeros_0f7a4_74 (iushr x0 2) (x1 + 2)
def B_J6_numberOfTrailingZeros_0f7a4_49 (x0 : Int) (x1 : Int) : Int :=
  if (w32 x0) ≤ 16 then
    B_J6_numberOfTrailingZeros_0f7a4_62 x0 x1
  else
    B_J6_numberOfTrailingZeros_0f7a4_62 (iushr x0 4) (x1 + 4)
def B_J6_numberOfTrailingZeros_0f7a4_34 (x0 : Int) (x1 : Int) : Int :=
  if (w32 x0) ≤ 256 then
    B_J6_numberOfTrailingZeros_0f7a4_49 x0 x1
  else
    B_J6_numberOfTrailingZeros_0f7a4_49 (iushr x0 8) (x1 + 8)
def D_J6_numberOfTrailingZeros_0f7a4 (x0 : Int) : Int :=
  if 0 < (w32 (iand (ixor x0 (-1)) (x0 - 1))) then
    if (w32 (iand (ixor x0 (-1)) (x0 - 1))) ≤ 65536 then
      B_J6_numberOfTrailingZeros_0f7a4_34 (iand (ixor x0 (-1)) (x0 - 1)) 1
    else
      B_J6_numberOfTrailingZeros_0f7a4_34 (iushr (iand (ixor x0 (-1)) (x0 - 1)) 16) (1 + 16)
  else
    (iand (iand (ixor x0 (-1)) (x0 - 1)) 32)
/-- StampTales.surely -/
def D_X6_surely (x1 : Int) (x2 : Int) (μ : Mi) : Option (Int × Mi) :=
  if ¬ (w32 (D_X6_isTimeOf x1 x2 μ)) = 0 then
    bd (D_X4_whereAt (D_X6_searchOf x1 μ) x2 μ) fun r3 m3 =>
    if (w32 (D_X6_isOneTown r3)) = 0 then
      some ((-1), m3)
    else
      some ((D_J6_numberOfTrailingZeros_0f7a4 r3), m3)
  else
    some ((-1), μ)
/-- StampTales.extreme -/
def D_X6_extreme (x1 : Int) (x2 : Int) (μ : Mi) : Option (Int × Mi) :=
  if (w32 (D_X6_isMan x1 μ)) = 0 then
    some ((-1), μ)
  else
    if (w32 x2) < 0 then
      some ((-1), μ)
    else
      if (w32 x2) ≤ 3 then
        bd (D_X4_extremeOf (D_X6_searchOf x1 μ) x2 μ) fun r3 m3 =>
        some (r3, m3)
      else
        some ((-1), μ)
/-- StampTales.tale -/
def D_X6_tale (x1 : Int) (x2 : Int) (μ : Mi) : Option (Int × Mi) :=
  if (w32 (D_X6_isMan x1 μ)) = 0 then
    some ((-1), μ)
  else
    if (w32 x2) < (-1) then
      some ((-1), μ)
    else
      bd (D_X4_taleAt (D_X6_searchOf x1 μ) x2 μ) fun r3 m3 =>
      some (r3, m3)
/-- StampTales.toDoubt -/
def D_X6_toDoubt (x1 : Int) (μ : Mi) : Option (Int × Mi) :=
  if (w32 (D_X6_isMan x1 μ)) = 0 then
    some ((-1), μ)
  else
    bd (D_X4_fewestToDoubt (D_X6_searchOf x1 μ) μ) fun r3 m3 =>
    some (r3, m3)
/-- StampTales.away -/
def D_X6_away (x1 : Int) (μ : Mi) : Option (Int × Mi) :=
  if (w32 (D_X6_isMan x1 μ)) = 0 then
    some ((-1), μ)
  else
    bd (D_X4_freestWithout (D_X6_searchOf x1 μ) μ) fun r3 m3 =>
    some (r3, m3)
/-- StampTales.met -/
def D_X6_met (x1 : Int) (x2 : Int) (μ : Mi) : Option (Int × Mi) :=
  if (w32 (D_X6_isTimeOf 0 x1 μ)) = 0 then
    some ((-1), μ)
  else
    if ¬ (w32 (D_X6_isTimeOf 1 x1 μ)) = 0 then
      bd (D_X4_whereAt false x1 μ) fun r3 m3 =>
      bd (D_X4_whereAt true x1 m3) fun r4 m4 =>
      if (w32 x2) = 0 then
        some ((iand (iand r3 r4) (-257)), m4)
      else
        if ¬ (w32 r3) = (w32 r4) then
          some (0, m4)
        else
          if (w32 (D_X6_isOneTown r3)) = 0 then
            some (0, m4)
          else
            some (r3, m4)
    else
      some ((-1), μ)
/-- StampTales.leg -/
def D_X6_leg (x1 : Int) (x2 : Int) (μ : Mi) : Option (Int × Mi) :=
  if (w32 (D_X0_hasLink false x1 μ)) = 0 then
    some ((-1), μ)
  else
    if ¬ (w32 (D_X6_isHour x2)) = 0 then
      bd (D_X5_add x1 x2 μ) fun r3 m3 =>
      some (r3, m3)
    else
      some ((-1), μ)
/-- StampTales.forget -/
def D_X6_forget (μ : Mi) : Option (Int × Mi) :=
  some ((rd μ 5 false 0), (wr μ 5 false 0 0))
/-- StampTales.barred -/
def D_X6_barred (x1 : Int) (μ : Mi) : Option (Int × Mi) :=
  if (w32 (D_X6_isMan x1 μ)) = 0 then
    some ((-1), μ)
  else
    bd (D_X5_barOf (D_X6_searchOf x1 μ) μ) fun r3 m3 =>
    some (r3, m3)
/-- StampTales.count -/
def D_X6_count (x1 : Int) (μ : Mi) : Int :=
  if (w32 x1) = 0 then
    (rd μ 0 false 0)
  else if (w32 x1) = 1 then
    (rd μ 0 false 1)
  else if (w32 x1) = 2 then
    (rd μ 0 false 2)
  else if (w32 x1) = 3 then
    (rd μ 2 false 3)
  else if (w32 x1) = 4 then
    (rd μ 2 true 3)
  else if (w32 x1) = 5 then
    (rd μ 5 false 0)
  else if (w32 x1) = 6 then
    (rd μ 6 false 1)
  else
    (-1)
/-- StampTalesModel.in -/
def D_X7_in (x0 : Int) (x1 : Int) (x2 : Int) : Int :=
  if (w32 x0) < (w32 x1) then
    0
  else
    if (w32 x2) < (w32 x0) then
      0
    else
      1
/-- StampTalesModel.feed -/
def B_X7_feed_71 (k18 : (Int → Int → Int → Int → Int → Int → Mi → Option (Int × Mi))) (x1 : Int) (x2 : Int) (x3 : Int) (x4 : Int) (x5 : Int) (x6 : Int) (s0 : Int) (μ : Mi) : Option (Int × Mi) :=
  if 0 ≤ (w32 (rd μ 7 false 1)) ∧ (w32 (rd μ 7 false 1)) < 500 then
  k18 x1 x2 x3 x4 x5 (x6 + 1) (wr (wr μ 42 false (ix (rd μ 7 false 1)) (i2b (i2b (ishr s0 (24 - (8 * (irem x6 4))))))) 7 false 1 ((rd μ 7 false 1) + 1))
  else none
def F_X7_feed_18 (k18 : (Int → Int → Int → Int → Int → Int → Mi → Option (Int × Mi))) (x1 : Int) (x2 : Int) (x3 : Int) (x4 : Int) (x5 : Int) (x6 : Int) (μ : Mi) : Option (Int × Mi) :=
  if 20 ≤ (w32 x6) then
    some ((rd μ 7 false 1), μ)
  else
    if 4 ≤ (w32 x6) then
      if 8 ≤ (w32 x6) then
        if 12 ≤ (w32 x6) then
          if 16 ≤ (w32 x6) then
            B_X7_feed_71 k18 x1 x2 x3 x4 x5 x6 x5 μ
          else
            B_X7_feed_71 k18 x1 x2 x3 x4 x5 x6 x4 μ
        else
          B_X7_feed_71 k18 x1 x2 x3 x4 x5 x6 x3 μ
      else
        B_X7_feed_71 k18 x1 x2 x3 x4 x5 x6 x2 μ
    else
      B_X7_feed_71 k18 x1 x2 x3 x4 x5 x6 x1 μ
def B_X7_feed_18 (n : Nat) : Int → Int → Int → Int → Int → Int → Mi → Option (Int × Mi) := lp (F_X7_feed_18) (fun _ _ _ _ _ _ _ => none) n
theorem B_X7_feed_18_s (n : Nat) (x1 : Int) (x2 : Int) (x3 : Int) (x4 : Int) (x5 : Int) (x6 : Int) (μ : Mi) : B_X7_feed_18 (n + 1) x1 x2 x3 x4 x5 x6 μ = F_X7_feed_18 (B_X7_feed_18 n) x1 x2 x3 x4 x5 x6 μ := rfl
def D_X7_feed (x1 : Int) (x2 : Int) (x3 : Int) (x4 : Int) (x5 : Int) (μ : Mi) : Option (Int × Mi) :=
  if (w32 ((rd μ 7 false 1) + 20)) ≤ 500 then
    B_X7_feed_18 FU x1 x2 x3 x4 x5 0 μ
  else
    some ((-1), μ)
/-- StampTalesModel.end -/
def D_X7_end (x1 : Int) (μ : Mi) : Option (Int × Mi) :=
  if ¬ (w32 (D_X7_in x1 0 (rd μ 7 false 1))) = 0 then
    some (1, (wr μ 7 false 1 x1))
  else
    some (0, μ)
/-- StampTalesModel.isLetter -/
def D_X7_isLetter (x0 : Int) : Int :=
  if (w32 x0) < 97 then
    0
  else
    if 122 < (w32 x0) then
      0
    else
      1
/-- StampTalesModel.isDigit -/
def D_X7_isDigit (x0 : Int) : Int :=
  if (w32 x0) < 48 then
    0
  else
    if 57 < (w32 x0) then
      0
    else
      1
/-- StampTalesModel.next -/
def B_X7_next_312 (s0 : Int) (μ : Mi) : Option Mi :=
  some (wr (wr μ 7 false 3 s0) 7 false 2 ((rd μ 7 false 2) + 1))
def B_X7_next_292 (μ : Mi) : Option Mi :=
  some (wr μ 7 false 3 2)
def B_X7_next_276 (k208 : (Mi → Option Mi)) (s0 : Int) (μ : Mi) : Option Mi :=
  k208 (wr (wl μ 7 false 5 s0) 7 false 2 ((rd μ 7 false 2) + 1))
def F_X7_next_208 (k208 : (Mi → Option Mi)) (μ : Mi) : Option Mi :=
  if (w32 (rd μ 7 false 1)) ≤ (w32 (rd μ 7 false 2)) then
    B_X7_next_292 μ
  else
    if 0 ≤ (w32 (rd μ 7 false 2)) ∧ (w32 (rd μ 7 false 2)) < 500 then
    if (w32 (D_X7_isDigit (rd μ 42 false (ix (rd μ 7 false 2))))) = 0 then
      B_X7_next_292 μ
    else
      if (w32 (lcmp (rl μ 7 false 5) 999)) ≤ 0 then
        if 0 ≤ (w32 (rd μ 7 false 2)) ∧ (w32 (rd μ 7 false 2)) < 500 then
        B_X7_next_276 k208 (((10 * (rl μ 7 false 5)) + (w32 (rd μ 42 false (ix (rd μ 7 false 2))))) - 48) μ
        else none
      else
        B_X7_next_276 k208 (rl μ 7 false 5) μ
    else none
def B_X7_next_208 (n : Nat) : Mi → Option Mi := lp (F_X7_next_208) (fun _ => none) n
theorem B_X7_next_208_s (n : Nat) (μ : Mi) : B_X7_next_208 (n + 1) μ = F_X7_next_208 (B_X7_next_208 n) μ := rfl
def B_X7_next_193 (μ : Mi) : Option Mi :=
  some (wr μ 7 false 3 1)
def B_X7_next_174 (μ : Mi) : Option Mi :=
  if (w32 ((rd μ 7 false 2) - (rd μ 7 false 4))) ≤ 8 then
    B_X7_next_193 μ
  else
    B_X7_next_193 (wl μ 7 false 5 0)
def B_X7_next_161 (k99 : (Mi → Option Mi)) (μ : Mi) : Option Mi :=
  k99 (wr μ 7 false 2 ((rd μ 7 false 2) + 1))
def F_X7_next_99 (k99 : (Mi → Option Mi)) (μ : Mi) : Option Mi :=
  if (w32 (rd μ 7 false 1)) ≤ (w32 (rd μ 7 false 2)) then
    B_X7_next_174 μ
  else
    if 0 ≤ (w32 (rd μ 7 false 2)) ∧ (w32 (rd μ 7 false 2)) < 500 then
    if (w32 (D_X7_isLetter (rd μ 42 false (ix (rd μ 7 false 2))))) = 0 then
      B_X7_next_174 μ
    else
      if 8 ≤ (w32 ((rd μ 7 false 2) - (rd μ 7 false 4))) then
        B_X7_next_161 k99 μ
      else
        if 0 ≤ (w32 (rd μ 7 false 2)) ∧ (w32 (rd μ 7 false 2)) < 500 then
        B_X7_next_161 k99 (wl μ 7 false 5 (lor (lshl (rl μ 7 false 5) 8) (w32 (rd μ 42 false (ix (rd μ 7 false 2))))))
        else none
    else none
def B_X7_next_99 (n : Nat) : Mi → Option Mi := lp (F_X7_next_99) (fun _ => none) n
theorem B_X7_next_99_s (n : Nat) (μ : Mi) : B_X7_next_99 (n + 1) μ = F_X7_next_99 (B_X7_next_99 n) μ := rfl
def B_X7_next_52 (μ : Mi) : Option Mi :=
  if ¬ (w32 (rd μ 7 false 2)) = (w32 (rd μ 7 false 1)) then
    if 0 ≤ (w32 (rd μ 7 false 2)) ∧ (w32 (rd μ 7 false 2)) < 500 then
    if (w32 (D_X7_isLetter (rd μ 42 false (ix (rd μ 7 false 2))))) = 0 then
      if (w32 (D_X7_isDigit (rd μ 42 false (ix (rd μ 7 false 2))))) = 0 then
        if ¬ (w32 (rd μ 42 false (ix (rd μ 7 false 2)))) = 59 then
          B_X7_next_312 4 (wr (wl (wr μ 7 false 4 (rd μ 7 false 2)) 7 false 5 0) 7 false 3 0)
        else
          B_X7_next_312 3 (wr (wl (wr μ 7 false 4 (rd μ 7 false 2)) 7 false 5 0) 7 false 3 0)
      else
        B_X7_next_208 FU (wr (wl (wr μ 7 false 4 (rd μ 7 false 2)) 7 false 5 0) 7 false 3 0)
    else
      B_X7_next_99 FU (wr (wl (wr μ 7 false 4 (rd μ 7 false 2)) 7 false 5 0) 7 false 3 0)
    else none
  else
    some (wr (wl (wr μ 7 false 4 (rd μ 7 false 2)) 7 false 5 0) 7 false 3 0)
def B_X7_next_39 (k0 : (Mi → Option Mi)) (μ : Mi) : Option Mi :=
  k0 (wr μ 7 false 2 ((rd μ 7 false 2) + 1))
def F_X7_next_0 (k0 : (Mi → Option Mi)) (μ : Mi) : Option Mi :=
  if (w32 (rd μ 7 false 1)) ≤ (w32 (rd μ 7 false 2)) then
    B_X7_next_52 μ
  else
    if 0 ≤ (w32 (rd μ 7 false 2)) ∧ (w32 (rd μ 7 false 2)) < 500 then
    if (w32 (rd μ 42 false (ix (rd μ 7 false 2)))) = 32 then
      B_X7_next_39 k0 μ
    else
      if 0 ≤ (w32 (rd μ 7 false 2)) ∧ (w32 (rd μ 7 false 2)) < 500 then
      if ¬ (w32 (rd μ 42 false (ix (rd μ 7 false 2)))) = 10 then
        B_X7_next_52 μ
      else
        B_X7_next_39 k0 μ
      else none
    else none
def B_X7_next_0 (n : Nat) : Mi → Option Mi := lp (F_X7_next_0) (fun _ => none) n
theorem B_X7_next_0_s (n : Nat) (μ : Mi) : B_X7_next_0 (n + 1) μ = F_X7_next_0 (B_X7_next_0 n) μ := rfl
def D_X7_next (μ : Mi) : Option Mi := B_X7_next_0 FU μ
/-- StampTalesModel.packed -/
def F_X7_packed_4 (k4 : (Nat → Int → Int → Option Int)) (x0 : Nat) (x1 : Int) (x3 : Int) : Option Int :=
  if (w32 (sN x0)) ≤ (w32 x3) then
    some x1
  else
    if 0 ≤ (w32 x3) ∧ (w32 x3) < sN x0 then
    k4 x0 (lor (lshl x1 8) (w32 (sC x0 (ix x3)))) (x3 + 1)
    else none
def B_X7_packed_4 (n : Nat) : Nat → Int → Int → Option Int := lp (F_X7_packed_4) (fun _ _ _ => none) n
theorem B_X7_packed_4_s (n : Nat) (x0 : Nat) (x1 : Int) (x3 : Int) : B_X7_packed_4 (n + 1) x0 x1 x3 = F_X7_packed_4 (B_X7_packed_4 n) x0 x1 x3 := rfl
def D_X7_packed (x0 : Nat) : Option Int :=
  B_X7_packed_4 FU x0 0 0
/-- StampTalesModel.isWord -/
def D_X7_isWord (x1 : Nat) (μ : Mi) : Option Int :=
  if ¬ (w32 (rd μ 7 false 3)) = 1 then
    some 0
  else
    bp (D_X7_packed x1) fun r1 =>
    if ¬ (w32 (lcmp (rl μ 7 false 5) r1)) = 0 then
      some 0
    else
      some 1
/-- StampTalesModel.isName -/
def D_X7_isName (μ : Mi) : Option Int :=
  if ¬ (w32 (rd μ 7 false 3)) = 1 then
    some 0
  else
    if (w32 (lcmp (rl μ 7 false 5) 0)) = 0 then
      some 0
    else
      bp (D_X7_isWord 0 μ) fun r1 =>
      if ¬ (w32 r1) = 0 then
        some 0
      else
        bp (D_X7_isWord 1 μ) fun r2 =>
        if ¬ (w32 r2) = 0 then
          some 0
        else
          bp (D_X7_isWord 2 μ) fun r3 =>
          if ¬ (w32 r3) = 0 then
            some 0
          else
            bp (D_X7_isWord 3 μ) fun r4 =>
            if ¬ (w32 r4) = 0 then
              some 0
            else
              bp (D_X7_isWord 4 μ) fun r5 =>
              if ¬ (w32 r5) = 0 then
                some 0
              else
                bp (D_X7_isWord 5 μ) fun r6 =>
                if ¬ (w32 r6) = 0 then
                  some 0
                else
                  bp (D_X7_isWord 6 μ) fun r7 =>
                  if (w32 r7) = 0 then
                    bp (D_X7_isWord 7 μ) fun r8 =>
                    if ¬ (w32 r8) = 0 then
                      some 0
                    else
                      bp (D_X7_isWord 8 μ) fun r9 =>
                      if ¬ (w32 r9) = 0 then
                        some 0
                      else
                        bp (D_X7_isWord 9 μ) fun r10 =>
                        if ¬ (w32 r10) = 0 then
                          some 0
                        else
                          bp (D_X7_isWord 10 μ) fun r11 =>
                          if ¬ (w32 r11) = 0 then
                            some 0
                          else
                            bp (D_X7_isWord 11 μ) fun r12 =>
                            if ¬ (w32 r12) = 0 then
                              some 0
                            else
                              bp (D_X7_isWord 12 μ) fun r13 =>
                              if ¬ (w32 r13) = 0 then
                                some 0
                              else
                                bp (D_X7_isWord 13 μ) fun r14 =>
                                if ¬ (w32 r14) = 0 then
                                  some 0
                                else
                                  some 1
                  else
                    some 0
/-- StampTalesModel.word -/
def D_X7_word (x1 : Nat) (μ : Mi) : Option (Int × Mi) :=
  bp (D_X7_isWord x1 μ) fun r1 =>
  if ¬ (w32 r1) = 0 then
    bm (D_X7_next μ) fun m2 =>
    some (1, m2)
  else
    some (0, μ)
/-- StampTalesModel.closes -/
def D_X7_closes (μ : Mi) : Option (Int × Mi) :=
  if (w32 (rd μ 7 false 3)) = 3 then
    bm (D_X7_next μ) fun m1 =>
    some (1, m1)
  else
    some (0, μ)
/-- StampTalesModel.number -/
def D_X7_number (x1 : Int) (x2 : Int) (μ : Mi) : Option (Int × Mi) :=
  if ¬ (w32 (rd μ 7 false 3)) = 2 then
    some (0, μ)
  else
    if (w32 (lcmp (rl μ 7 false 5) (w32 x1))) < 0 then
      some (0, μ)
    else
      if (w32 (lcmp (rl μ 7 false 5) (w32 x2))) ≤ 0 then
        bm (D_X7_next (wr μ 7 false 35 (rl μ 7 false 5))) fun m1 =>
        some (1, m1)
      else
        some (0, μ)
/-- StampTalesModel.landHere -/
def F_X7_landHere_2 (k2 : (Int → Mi → Option Int)) (x1 : Int) (μ : Mi) : Option Int :=
  if (w32 (rd μ 7 false 6)) ≤ (w32 x1) then
    some (-1)
  else
    bp (D_X7_isName μ) fun r1 =>
    if (w32 r1) = 0 then
      some (-1)
    else
      if 0 ≤ (w32 x1) ∧ (w32 x1) < 4 then
      if ¬ (w32 (lcmp (rl μ 43 false (ix x1)) (rl μ 7 false 5))) = 0 then
        k2 (x1 + 1) μ
      else
        some x1
      else none
def B_X7_landHere_2 (n : Nat) : Int → Mi → Option Int := lp (F_X7_landHere_2) (fun _ _ => none) n
theorem B_X7_landHere_2_s (n : Nat) (x1 : Int) (μ : Mi) : B_X7_landHere_2 (n + 1) x1 μ = F_X7_landHere_2 (B_X7_landHere_2 n) x1 μ := rfl
def D_X7_landHere (μ : Mi) : Option Int :=
  B_X7_landHere_2 FU 0 μ
/-- StampTalesModel.townHere -/
def F_X7_townHere_2 (k2 : (Int → Mi → Option Int)) (x1 : Int) (μ : Mi) : Option Int :=
  if (w32 (rd μ 7 false 9)) ≤ (w32 x1) then
    some (-1)
  else
    bp (D_X7_isName μ) fun r1 =>
    if (w32 r1) = 0 then
      some (-1)
    else
      if 0 ≤ (w32 x1) ∧ (w32 x1) < 8 then
      if ¬ (w32 (lcmp (rl μ 45 false (ix x1)) (rl μ 7 false 5))) = 0 then
        k2 (x1 + 1) μ
      else
        some x1
      else none
def B_X7_townHere_2 (n : Nat) : Int → Mi → Option Int := lp (F_X7_townHere_2) (fun _ _ => none) n
theorem B_X7_townHere_2_s (n : Nat) (x1 : Int) (μ : Mi) : B_X7_townHere_2 (n + 1) x1 μ = F_X7_townHere_2 (B_X7_townHere_2 n) x1 μ := rfl
def D_X7_townHere (μ : Mi) : Option Int :=
  B_X7_townHere_2 FU 0 μ
/-- StampTalesModel.isNew -/
def D_X7_isNew (μ : Mi) : Option Int :=
  bp (D_X7_isName μ) fun r1 =>
  if (w32 r1) = 0 then
    some 0
  else
    bp (D_X7_landHere μ) fun r2 =>
    if ¬ (w32 r2) = (-1) then
      some 0
    else
      bp (D_X7_townHere μ) fun r3 =>
      if ¬ (w32 r3) = (-1) then
        some 0
      else
        some 1
/-- StampTalesModel.landLine -/
def B_X7_landLine_93 (s0 : Int) (μ : Mi) : Option (Int × Mi) :=
  if ¬ (w32 s0) = (-1) then
    if 0 ≤ (w32 (rd μ 7 false 6)) ∧ (w32 (rd μ 7 false 6)) < 4 then
    bm (D_X7_next (wr (wr μ 44 false (ix (rd μ 7 false 6)) s0) 7 false 6 ((rd μ 7 false 6) + 1))) fun m1 =>
    bd (D_X7_closes m1) fun r2 m2 =>
    if isB r2 then some (r2, m2) else none
    else none
  else
    some (0, μ)
def D_X7_landLine (μ : Mi) : Option (Int × Mi) :=
  if ¬ (w32 (rd μ 7 false 6)) = 4 then
    bm (D_X7_next μ) fun m1 =>
    bp (D_X7_isNew m1) fun r2 =>
    if ¬ (w32 r2) = 0 then
      if 0 ≤ (w32 (rd m1 7 false 6)) ∧ (w32 (rd m1 7 false 6)) < 4 then
      bm (D_X7_next (wl m1 43 false (ix (rd m1 7 false 6)) (rl m1 7 false 5))) fun m3 =>
      bp (D_X7_isWord 2 m3) fun r4 =>
      if (w32 r4) = 0 then
        bp (D_X7_isWord 3 m3) fun r5 =>
        if (w32 r5) = 0 then
          bp (D_X7_isWord 4 m3) fun r6 =>
          if (w32 r6) = 0 then
            bp (D_X7_isWord 5 m3) fun r7 =>
            if (w32 r7) = 0 then
              B_X7_landLine_93 (-1) m3
            else
              B_X7_landLine_93 0 m3
          else
            B_X7_landLine_93 3 m3
        else
          B_X7_landLine_93 2 m3
      else
        B_X7_landLine_93 1 m3
      else none
    else
      some (0, m1)
  else
    some (0, μ)
/-- StampTalesModel.townLine -/
def B_X7_townLine_152 (x1 : Int) (μ : Mi) : Option (Int × Mi) :=
  if 0 ≤ (w32 (rd μ 7 false 9)) ∧ (w32 (rd μ 7 false 9)) < 8 then
  bd (D_X7_closes (wr (wl μ 45 false (ix (rd μ 7 false 9)) x1) 7 false 9 ((rd μ 7 false 9) + 1))) fun r1 m1 =>
  if isB r1 then some (r1, m1) else none
  else none
def B_X7_townLine_151 (x1 : Int) (s0 : Int) (s1 : Int) (μ : Mi) : Option (Int × Mi) :=
  if 0 ≤ (w32 s1) ∧ (w32 s1) < 8 then
  B_X7_townLine_152 x1 (wr μ 47 false (ix s1) s0)
  else none
def B_X7_townLine_104 (x1 : Int) (μ : Mi) : Option (Int × Mi) :=
  bp (D_X7_isWord 7 μ) fun r1 =>
  bm (D_X7_next μ) fun m2 =>
  bd (D_X7_number 0 12 m2) fun r3 m3 =>
  if ¬ (w32 r3) = 0 then
    if (w32 r1) = 0 then
      B_X7_townLine_151 x1 (-(rd m3 7 false 35)) (rd m3 7 false 9) m3
    else
      B_X7_townLine_151 x1 (rd m3 7 false 35) (rd m3 7 false 9) m3
  else
    some (0, m3)
def D_X7_townLine (μ : Mi) : Option (Int × Mi) :=
  if ¬ (w32 (rd μ 7 false 9)) = 8 then
    bm (D_X7_next μ) fun m1 =>
    bp (D_X7_isNew m1) fun r2 =>
    if ¬ (w32 r2) = 0 then
      bm (D_X7_next m1) fun m3 =>
      bd (D_X7_word 6 m3) fun r4 m4 =>
      if ¬ (w32 r4) = 0 then
        bp (D_X7_landHere m4) fun r5 =>
        if 0 ≤ (w32 (rd m4 7 false 9)) ∧ (w32 (rd m4 7 false 9)) < 8 then
        if 0 ≤ (w32 (rd m4 7 false 9)) ∧ (w32 (rd m4 7 false 9)) < 8 then
        if ¬ (w32 r5) = (-1) then
          bm (D_X7_next (wr m4 46 false (ix (rd m4 7 false 9)) r5)) fun m6 =>
          if 0 ≤ (w32 (rd m6 7 false 9)) ∧ (w32 (rd m6 7 false 9)) < 8 then
          bp (D_X7_isWord 7 (wr m6 47 false (ix (rd m6 7 false 9)) 0)) fun r7 =>
          if ¬ (w32 r7) = 0 then
            B_X7_townLine_104 (rl m1 7 false 5) (wr m6 47 false (ix (rd m6 7 false 9)) 0)
          else
            bp (D_X7_isWord 8 (wr m6 47 false (ix (rd m6 7 false 9)) 0)) fun r8 =>
            if (w32 r8) = 0 then
              B_X7_townLine_152 (rl m1 7 false 5) (wr m6 47 false (ix (rd m6 7 false 9)) 0)
            else
              B_X7_townLine_104 (rl m1 7 false 5) (wr m6 47 false (ix (rd m6 7 false 9)) 0)
          else none
        else
          some (0, (wr m4 46 false (ix (rd m4 7 false 9)) r5))
        else none
        else none
      else
        some (0, m4)
    else
      some (0, m1)
  else
    some (0, μ)
/-- StampTalesModel.linkLine -/
def B_X7_linkLine_220 (s0 : Int) (s1 : Int) (μ : Mi) : Option (Int × Mi) :=
  if 0 ≤ (w32 s1) ∧ (w32 s1) < 96 then
  bd (D_X7_closes (wr (wr μ 48 false (ix s1) s0) 7 false 13 ((rd μ 7 false 13) + 1))) fun r1 m1 =>
  if isB r1 then some (r1, m1) else none
  else none
def B_X7_linkLine_118 (x1 : Int) (x2 : Int) (s0 : Int) (s1 : Int) (μ : Mi) : Option (Int × Mi) :=
  bd (D_X7_number s1 s0 μ) fun r1 m1 =>
  if ¬ (w32 r1) = 0 then
    if 0 ≤ (w32 (x2 + 2)) ∧ (w32 (x2 + 2)) < 96 then
    bd (D_X7_word 12 (wr m1 48 false (ix (x2 + 2)) (rd m1 7 false 35))) fun r2 m2 =>
    if (w32 r2) = 0 then
      some (0, m2)
    else
      bd (D_X7_number 1 48 m2) fun r3 m3 =>
      if ¬ (w32 r3) = 0 then
        if 0 ≤ (w32 (x2 + 3)) ∧ (w32 (x2 + 3)) < 96 then
        bd (D_X7_word 13 (wr m3 48 false (ix (x2 + 3)) (rd m3 7 false 35))) fun r4 m4 =>
        if (w32 r4) = 0 then
          some (0, m4)
        else
          bd (D_X7_number 0 99 m4) fun r5 m5 =>
          if ¬ (w32 r5) = 0 then
            if 0 ≤ (w32 (x2 + 4)) ∧ (w32 (x2 + 4)) < 96 then
            if (w32 x1) = 0 then
              B_X7_linkLine_220 0 (x2 + 5) (wr m5 48 false (ix (x2 + 4)) (rd m5 7 false 35))
            else
              B_X7_linkLine_220 1 (x2 + 5) (wr m5 48 false (ix (x2 + 4)) (rd m5 7 false 35))
            else none
          else
            some (0, m5)
        else none
      else
        some (0, m3)
    else none
  else
    some (0, m1)
def D_X7_linkLine (x1 : Int) (μ : Mi) : Option (Int × Mi) :=
  if ¬ (w32 (rd μ 7 false 13)) = 16 then
    bm (D_X7_next μ) fun m1 =>
    bp (D_X7_townHere m1) fun r2 =>
    if 0 ≤ (w32 (6 * (rd μ 7 false 13))) ∧ (w32 (6 * (rd μ 7 false 13))) < 96 then
    if 0 ≤ (w32 (6 * (rd μ 7 false 13))) ∧ (w32 (6 * (rd μ 7 false 13))) < 96 then
    if ¬ (w32 r2) = (-1) then
      bm (D_X7_next (wr m1 48 false (ix (6 * (rd μ 7 false 13))) r2)) fun m3 =>
      bp (D_X7_townHere m3) fun r4 =>
      if 0 ≤ (w32 ((6 * (rd μ 7 false 13)) + 1)) ∧ (w32 ((6 * (rd μ 7 false 13)) + 1)) < 96 then
      if 0 ≤ (w32 ((6 * (rd μ 7 false 13)) + 1)) ∧ (w32 ((6 * (rd μ 7 false 13)) + 1)) < 96 then
      if (w32 r4) = (-1) then
        some (0, (wr m3 48 false (ix ((6 * (rd μ 7 false 13)) + 1)) r4))
      else
        if 0 ≤ (w32 ((6 * (rd μ 7 false 13)) + 1)) ∧ (w32 ((6 * (rd μ 7 false 13)) + 1)) < 96 then
        if 0 ≤ (w32 (6 * (rd μ 7 false 13))) ∧ (w32 (6 * (rd μ 7 false 13))) < 96 then
        if ¬ (w32 r4) = (w32 (rd (wr m3 48 false (ix ((6 * (rd μ 7 false 13)) + 1)) r4) 48 false (ix (6 * (rd μ 7 false 13))))) then
          bm (D_X7_next (wr m3 48 false (ix ((6 * (rd μ 7 false 13)) + 1)) r4)) fun m5 =>
          bd (D_X7_word 11 m5) fun r6 m6 =>
          if (w32 r6) = 0 then
            some (0, m6)
          else
            if (w32 x1) = 0 then
              B_X7_linkLine_118 x1 (6 * (rd μ 7 false 13)) 95 0 m6
            else
              B_X7_linkLine_118 x1 (6 * (rd μ 7 false 13)) 23 0 m6
        else
          some (0, (wr m3 48 false (ix ((6 * (rd μ 7 false 13)) + 1)) r4))
        else none
        else none
      else none
      else none
    else
      some (0, (wr m1 48 false (ix (6 * (rd μ 7 false 13))) r2))
    else none
    else none
  else
    some (0, μ)
/-- StampTalesModel.line -/
def B_X7_line_46 (μ : Mi) : Option (Int × Mi) :=
  bp (D_X7_isWord 9 μ) fun r1 =>
  bd (D_X7_linkLine r1 μ) fun r2 m2 =>
  if (w32 r2) = 0 then
    some (0, m2)
  else
    some (1, m2)
def D_X7_line (μ : Mi) : Option (Int × Mi) :=
  bp (D_X7_isWord 0 μ) fun r1 =>
  if (w32 r1) = 0 then
    bp (D_X7_isWord 1 μ) fun r2 =>
    if (w32 r2) = 0 then
      bp (D_X7_isWord 9 μ) fun r3 =>
      if ¬ (w32 r3) = 0 then
        B_X7_line_46 μ
      else
        bp (D_X7_isWord 10 μ) fun r4 =>
        if (w32 r4) = 0 then
          some (0, μ)
        else
          B_X7_line_46 μ
    else
      bd (D_X7_townLine μ) fun r3 m3 =>
      if isB r3 then some (r3, m3) else none
  else
    bd (D_X7_landLine μ) fun r2 m2 =>
    if isB r2 then some (r2, m2) else none
/-- StampTalesModel.fault -/
def F_X7_fault_24 (k24 : (Mi → Option (Int × Mi))) (μ : Mi) : Option (Int × Mi) :=
  if (w32 (rd μ 7 false 3)) = 0 then
    if ¬ (w32 (rd μ 7 false 9)) = 0 then
      some ((-1), μ)
    else
      some ((rd μ 7 false 4), μ)
  else
    bd (D_X7_line μ) fun r1 m1 =>
    if ¬ (w32 r1) = 0 then
      k24 m1
    else
      some ((rd m1 7 false 4), m1)
def B_X7_fault_24 (n : Nat) : Mi → Option (Int × Mi) := lp (F_X7_fault_24) (fun _ => none) n
theorem B_X7_fault_24_s (n : Nat) (μ : Mi) : B_X7_fault_24 (n + 1) μ = F_X7_fault_24 (B_X7_fault_24 n) μ := rfl
def D_X7_fault (μ : Mi) : Option (Int × Mi) :=
  bm (D_X7_next (wr (wr (wr (wr μ 7 false 6 0) 7 false 9 0) 7 false 13 0) 7 false 2 0)) fun m1 =>
  B_X7_fault_24 FU m1
/-- StampTalesModel.map -/
def F_X7_map_125 (k125 : (Int → Mi → Option (Int × Mi))) (x1 : Int) (μ : Mi) : Option (Int × Mi) :=
  if 2 ≤ (w32 x1) then
    some ((rd μ 7 false 17), (wr (wr μ 7 false 32 0) 7 false 1 0))
  else
    if 0 ≤ (w32 x1) ∧ (w32 x1) < 2 then
    if 0 ≤ (w32 x1) ∧ (w32 x1) < 2 then
    if 0 ≤ (w32 x1) ∧ (w32 x1) < 2 then
    if 0 ≤ (w32 x1) ∧ (w32 x1) < 2 then
    k125 (x1 + 1) (wr (wr (wr (wr μ 53 false (ix x1) 0) 54 false (ix x1) 0) 55 false (ix x1) 96) 56 false (ix x1) 0)
    else none
    else none
    else none
    else none
def B_X7_map_125 (n : Nat) : Int → Mi → Option (Int × Mi) := lp (F_X7_map_125) (fun _ _ => none) n
theorem B_X7_map_125_s (n : Nat) (x1 : Int) (μ : Mi) : B_X7_map_125 (n + 1) x1 μ = F_X7_map_125 (B_X7_map_125 n) x1 μ := rfl
def F_X7_map_99 (k99 : (Int → Mi → Option (Int × Mi))) (x1 : Int) (μ : Mi) : Option (Int × Mi) :=
  if 96 ≤ (w32 x1) then
    B_X7_map_125 FU 0 μ
  else
    if 0 ≤ (w32 x1) ∧ (w32 x1) < 96 then
    if 0 ≤ (w32 x1) ∧ (w32 x1) < 96 then
    k99 (x1 + 1) (wr μ 52 false (ix x1) (rd μ 48 false (ix x1)))
    else none
    else none
def B_X7_map_99 (n : Nat) : Int → Mi → Option (Int × Mi) := lp (F_X7_map_99) (fun _ _ => none) n
theorem B_X7_map_99_s (n : Nat) (x1 : Int) (μ : Mi) : B_X7_map_99 (n + 1) x1 μ = F_X7_map_99 (B_X7_map_99 n) x1 μ := rfl
def F_X7_map_61 (k61 : (Int → Mi → Option (Int × Mi))) (x1 : Int) (μ : Mi) : Option (Int × Mi) :=
  if 8 ≤ (w32 x1) then
    B_X7_map_99 FU 0 μ
  else
    if 0 ≤ (w32 x1) ∧ (w32 x1) < 8 then
    if 0 ≤ (w32 x1) ∧ (w32 x1) < 8 then
    if 0 ≤ (w32 x1) ∧ (w32 x1) < 8 then
    if 0 ≤ (w32 x1) ∧ (w32 x1) < 8 then
    k61 (x1 + 1) (wr (wr μ 50 false (ix x1) (rd μ 46 false (ix x1))) 51 false (ix x1) (rd μ 47 false (ix x1)))
    else none
    else none
    else none
    else none
def B_X7_map_61 (n : Nat) : Int → Mi → Option (Int × Mi) := lp (F_X7_map_61) (fun _ _ => none) n
theorem B_X7_map_61_s (n : Nat) (x1 : Int) (μ : Mi) : B_X7_map_61 (n + 1) x1 μ = F_X7_map_61 (B_X7_map_61 n) x1 μ := rfl
def F_X7_map_36 (k36 : (Int → Mi → Option (Int × Mi))) (x1 : Int) (μ : Mi) : Option (Int × Mi) :=
  if 4 ≤ (w32 x1) then
    B_X7_map_61 FU 0 μ
  else
    if 0 ≤ (w32 x1) ∧ (w32 x1) < 4 then
    if 0 ≤ (w32 x1) ∧ (w32 x1) < 4 then
    k36 (x1 + 1) (wr μ 49 false (ix x1) (rd μ 44 false (ix x1)))
    else none
    else none
def B_X7_map_36 (n : Nat) : Int → Mi → Option (Int × Mi) := lp (F_X7_map_36) (fun _ _ => none) n
theorem B_X7_map_36_s (n : Nat) (x1 : Int) (μ : Mi) : B_X7_map_36 (n + 1) x1 μ = F_X7_map_36 (B_X7_map_36 n) x1 μ := rfl
def D_X7_map (μ : Mi) : Option (Int × Mi) :=
  bd (D_X7_fault μ) fun r1 m1 =>
  if (w32 r1) = (-1) then
    B_X7_map_36 FU 0 (wr (wr (wr m1 7 false 15 (rd m1 7 false 6)) 7 false 17 (rd m1 7 false 9)) 7 false 20 (rd m1 7 false 13))
  else
    some ((-1), m1)
/-- StampTalesModel.isMan -/
def D_X7_isMan (x1 : Int) (μ : Mi) : Int :=
  if (w32 (rd μ 7 false 17)) ≤ 0 then
    0
  else
    if (w32 (D_X7_in x1 0 1)) = 0 then
      0
    else
      1
/-- StampTalesModel.isTown -/
def D_X7_isTown (x1 : Int) (μ : Mi) : Option Int :=
  if isB (D_X7_in x1 0 ((rd μ 7 false 17) - 1)) then some (D_X7_in x1 0 ((rd μ 7 false 17) - 1)) else none
/-- StampTalesModel.isLink -/
def D_X7_isLink (x1 : Int) (μ : Mi) : Option Int :=
  if isB (D_X7_in x1 0 ((rd μ 7 false 20) - 1)) then some (D_X7_in x1 0 ((rd μ 7 false 20) - 1)) else none
/-- StampTalesModel.isTrace -/
def D_X7_isTrace (x1 : Int) (x2 : Int) (μ : Mi) : Option Int :=
  if (w32 (D_X7_isMan x1 μ)) = 0 then
    some 0
  else
    if 0 ≤ (w32 x1) ∧ (w32 x1) < 2 then
    if (w32 (D_X7_in x2 0 ((rd μ 56 false (ix x1)) - 1))) = 0 then
      some 0
    else
      some 1
    else none
/-- StampTalesModel.ofLink -/
def D_X7_ofLink (x1 : Int) (x2 : Int) (μ : Mi) : Option Int :=
  if 0 ≤ (w32 ((6 * x1) + x2)) ∧ (w32 ((6 * x1) + x2)) < 96 then
  some (rd μ 52 false (ix ((6 * x1) + x2)))
  else none
/-- StampTalesModel.man -/
def D_X7_man (x1 : Int) (x2 : Int) (x3 : Int) (x4 : Int) (μ : Mi) : Option (Int × Mi) :=
  if (w32 (D_X7_isMan x1 μ)) = 0 then
    some (0, μ)
  else
    bp (D_X7_isTown x2 μ) fun r2 =>
    if (w32 r2) = 0 then
      some (0, μ)
    else
      if (w32 (D_X7_in x3 0 4)) = 0 then
        some (0, μ)
      else
        if ¬ (w32 (D_X7_in x4 1 96)) = 0 then
          if 0 ≤ (w32 x1) ∧ (w32 x1) < 2 then
          if 0 ≤ (w32 x1) ∧ (w32 x1) < 2 then
          if 0 ≤ (w32 x1) ∧ (w32 x1) < 2 then
          some (1, (wr (wr (wr μ 53 false (ix x1) x2) 54 false (ix x1) x3) 55 false (ix x1) x4))
          else none
          else none
          else none
        else
          some (0, μ)
/-- StampTalesModel.many -/
def B_X7_many_38 (k5 : (Int → Int → Int → Int → Mi → Option Int)) (x1 : Int) (x2 : Int) (x4 : Int) (s0 : Int) (s1 : Int) (μ : Mi) : Option Int :=
  k5 x1 x2 (s1 + s0) (x4 + 1) μ
def F_X7_many_5 (k5 : (Int → Int → Int → Int → Mi → Option Int)) (x1 : Int) (x2 : Int) (x3 : Int) (x4 : Int) (μ : Mi) : Option Int :=
  if 0 ≤ (w32 x1) ∧ (w32 x1) < 2 then
  if (w32 (rd μ 56 false (ix x1))) ≤ (w32 x4) then
    some x3
  else
    if 0 ≤ (w32 ((8 * x1) + x4)) ∧ (w32 ((8 * x1) + x4)) < 16 then
    if ¬ (w32 (rd μ 57 false (ix ((8 * x1) + x4)))) = (w32 x2) then
      B_X7_many_38 k5 x1 x2 x4 0 x3 μ
    else
      B_X7_many_38 k5 x1 x2 x4 1 x3 μ
    else none
  else none
def B_X7_many_5 (n : Nat) : Int → Int → Int → Int → Mi → Option Int := lp (F_X7_many_5) (fun _ _ _ _ _ => none) n
theorem B_X7_many_5_s (n : Nat) (x1 : Int) (x2 : Int) (x3 : Int) (x4 : Int) (μ : Mi) : B_X7_many_5 (n + 1) x1 x2 x3 x4 μ = F_X7_many_5 (B_X7_many_5 n) x1 x2 x3 x4 μ := rfl
def D_X7_many (x1 : Int) (x2 : Int) (μ : Mi) : Option Int :=
  B_X7_many_5 FU x1 x2 0 0 μ
/-- StampTalesModel.left -/
def D_X7_left (x1 : Int) (x2 : Int) (x3 : Int) (x4 : Int) (x5 : Int) (x6 : Int) (μ : Mi) : Option (Int × Mi) :=
  if 0 ≤ (w32 x1) ∧ (w32 x1) < 2 then
  if ¬ (w32 (rd μ 56 false (ix x1))) = 8 then
    if 0 ≤ (w32 x1) ∧ (w32 x1) < 2 then
    if 0 ≤ (w32 ((8 * x1) + (rd μ 56 false (ix x1)))) ∧ (w32 ((8 * x1) + (rd μ 56 false (ix x1)))) < 16 then
    if 0 ≤ (w32 ((8 * x1) + (rd μ 56 false (ix x1)))) ∧ (w32 ((8 * x1) + (rd μ 56 false (ix x1)))) < 16 then
    if 0 ≤ (w32 ((8 * x1) + (rd μ 56 false (ix x1)))) ∧ (w32 ((8 * x1) + (rd μ 56 false (ix x1)))) < 16 then
    if 0 ≤ (w32 ((8 * x1) + (rd μ 56 false (ix x1)))) ∧ (w32 ((8 * x1) + (rd μ 56 false (ix x1)))) < 16 then
    if 0 ≤ (w32 ((8 * x1) + (rd μ 56 false (ix x1)))) ∧ (w32 ((8 * x1) + (rd μ 56 false (ix x1)))) < 16 then
    if 0 ≤ (w32 ((8 * x1) + (rd μ 56 false (ix x1)))) ∧ (w32 ((8 * x1) + (rd μ 56 false (ix x1)))) < 16 then
    if 0 ≤ (w32 x1) ∧ (w32 x1) < 2 then
    if 0 ≤ (w32 x1) ∧ (w32 x1) < 2 then
    if 0 ≤ (w32 x1) ∧ (w32 x1) < 2 then
    some ((((rd μ 56 false (ix x1)) + 1) - 1), (wr (wr (wr (wr (wr (wr (wr μ 57 false (ix ((8 * x1) + (rd μ 56 false (ix x1)))) x2) 58 false (ix ((8 * x1) + (rd μ 56 false (ix x1)))) x3) 59 false (ix ((8 * x1) + (rd μ 56 false (ix x1)))) x4) 60 false (ix ((8 * x1) + (rd μ 56 false (ix x1)))) x5) 61 false (ix ((8 * x1) + (rd μ 56 false (ix x1)))) x6) 62 false (ix ((8 * x1) + (rd μ 56 false (ix x1)))) 0) 56 false (ix x1) ((rd μ 56 false (ix x1)) + 1)))
    else none
    else none
    else none
    else none
    else none
    else none
    else none
    else none
    else none
    else none
  else
    some ((-1), μ)
  else none
/-- StampTalesModel.stamp -/
def B_X7_stamp_73 (s0 : Int) (s1 : Int) (s2 : Int) (s3 : Int) (s4 : Int) (s5 : Int) (μ : Mi) : Option (Int × Mi) :=
  bd (D_X7_left s5 s4 s3 s2 s1 s0 μ) fun r1 m1 =>
  some (r1, m1)
def D_X7_stamp (x1 : Int) (x2 : Int) (x3 : Int) (x4 : Int) (x5 : Int) (μ : Mi) : Option (Int × Mi) :=
  if (w32 (D_X7_isMan x1 μ)) = 0 then
    some ((-1), μ)
  else
    if (w32 (D_X7_in x2 0 ((rd μ 7 false 15) - 1))) = 0 then
      some ((-1), μ)
    else
      if (w32 (D_X7_in x4 (-1) 5)) = 0 then
        some ((-1), μ)
      else
        if (w32 (D_X7_in x5 x4 5)) = 0 then
          some ((-1), μ)
        else
          bp (D_X7_many x1 0 μ) fun r5 =>
          if ¬ (w32 r5) = 6 then
            if (w32 x3) = 0 then
              B_X7_stamp_73 0 x5 x4 x2 0 x1 μ
            else
              B_X7_stamp_73 1 x5 x4 x2 0 x1 μ
          else
            some ((-1), μ)
/-- StampTalesModel.paper -/
def D_X7_paper (x1 : Int) (x2 : Int) (x3 : Int) (μ : Mi) : Option (Int × Mi) :=
  if (w32 (D_X7_isMan x1 μ)) = 0 then
    some ((-1), μ)
  else
    bp (D_X7_isTown x2 μ) fun r2 =>
    if (w32 r2) = 0 then
      some ((-1), μ)
    else
      if (w32 (D_X7_in x3 0 96)) = 0 then
        some ((-1), μ)
      else
        bd (D_X7_left x1 1 x2 x3 x3 0 μ) fun r4 m4 =>
        some (r4, m4)
/-- StampTalesModel.look -/
def D_X7_look (x1 : Int) (x2 : Int) (x3 : Int) (x4 : Int) (μ : Mi) : Option (Int × Mi) :=
  if (w32 (D_X7_isMan x1 μ)) = 0 then
    some ((-1), μ)
  else
    bp (D_X7_isTown x2 μ) fun r2 =>
    if (w32 r2) = 0 then
      some ((-1), μ)
    else
      if (w32 (D_X7_in x3 0 96)) = 0 then
        some ((-1), μ)
      else
        if (w32 (D_X7_in x4 x3 96)) = 0 then
          some ((-1), μ)
        else
          bp (D_X7_many x1 2 μ) fun r5 =>
          if 2 ≤ (w32 r5) then
            some ((-1), μ)
          else
            bd (D_X7_left x1 2 x2 x3 x4 0 μ) fun r6 m6 =>
            some (r6, m6)
/-- StampTalesModel.doubt -/
def D_X7_doubt (x1 : Int) (x2 : Int) (x3 : Int) (μ : Mi) : Option (Int × Mi) :=
  bp (D_X7_isTrace x1 x2 μ) fun r1 =>
  if (w32 r1) = 0 then
    some (0, μ)
  else
    if 0 ≤ (w32 ((8 * x1) + x2)) ∧ (w32 ((8 * x1) + x2)) < 16 then
    if ¬ (w32 (rd μ 62 false (ix ((8 * x1) + x2)))) = (w32 x3) then
      if 0 ≤ (w32 ((8 * x1) + x2)) ∧ (w32 ((8 * x1) + x2)) < 16 then
      if isB x3 then
      some (1, (wr μ 62 false (ix ((8 * x1) + x2)) x3))
      else none
      else none
    else
      some (0, μ)
    else none
/-- StampTalesModel.undo -/
def D_X7_undo (x1 : Int) (μ : Mi) : Option (Int × Mi) :=
  if (w32 (D_X7_isMan x1 μ)) = 0 then
    some ((-1), μ)
  else
    if 0 ≤ (w32 x1) ∧ (w32 x1) < 2 then
    if ¬ (w32 (rd μ 56 false (ix x1))) = 0 then
      if 0 ≤ (w32 x1) ∧ (w32 x1) < 2 then
      if 0 ≤ (w32 x1) ∧ (w32 x1) < 2 then
      if 0 ≤ (w32 x1) ∧ (w32 x1) < 2 then
      some (((rd μ 56 false (ix x1)) - 1), (wr μ 56 false (ix x1) ((rd μ 56 false (ix x1)) - 1)))
      else none
      else none
      else none
    else
      some ((-1), μ)
    else none
/-- StampTalesModel.link -/
def D_X7_link (x1 : Int) (x2 : Int) (μ : Mi) : Option Int :=
  bp (D_X7_isLink x1 μ) fun r1 =>
  if (w32 r1) = 0 then
    some (-1)
  else
    if (w32 (D_X7_in x2 0 5)) = 0 then
      some (-1)
    else
      bp (D_X7_ofLink x1 x2 μ) fun r3 =>
      some r3
/-- StampTalesModel.town -/
def D_X7_town (x1 : Int) (x2 : Int) (μ : Mi) : Option Int :=
  bp (D_X7_isTown x1 μ) fun r1 =>
  if (w32 r1) = 0 then
    some (-99)
  else
    if ¬ (w32 (D_X7_in x2 0 1)) = 0 then
      if ¬ (w32 x2) = 0 then
        if 0 ≤ (w32 x1) ∧ (w32 x1) < 8 then
        some (rd μ 51 false (ix x1))
        else none
      else
        if 0 ≤ (w32 x1) ∧ (w32 x1) < 8 then
        some (rd μ 50 false (ix x1))
        else none
    else
      some (-99)
/-- StampTalesModel.trace -/
def D_X7_trace (x1 : Int) (x2 : Int) (x3 : Int) (μ : Mi) : Option Int :=
  bp (D_X7_isTrace x1 x2 μ) fun r1 =>
  if ¬ (w32 r1) = 0 then
    if (w32 x3) = 0 then
      if 0 ≤ (w32 ((8 * x1) + x2)) ∧ (w32 ((8 * x1) + x2)) < 16 then
      some (rd μ 57 false (ix ((8 * x1) + x2)))
      else none
    else if (w32 x3) = 1 then
      if 0 ≤ (w32 ((8 * x1) + x2)) ∧ (w32 ((8 * x1) + x2)) < 16 then
      some (rd μ 58 false (ix ((8 * x1) + x2)))
      else none
    else if (w32 x3) = 2 then
      if 0 ≤ (w32 ((8 * x1) + x2)) ∧ (w32 ((8 * x1) + x2)) < 16 then
      some (rd μ 59 false (ix ((8 * x1) + x2)))
      else none
    else if (w32 x3) = 3 then
      if 0 ≤ (w32 ((8 * x1) + x2)) ∧ (w32 ((8 * x1) + x2)) < 16 then
      some (rd μ 60 false (ix ((8 * x1) + x2)))
      else none
    else if (w32 x3) = 4 then
      if 0 ≤ (w32 ((8 * x1) + x2)) ∧ (w32 ((8 * x1) + x2)) < 16 then
      some (rd μ 61 false (ix ((8 * x1) + x2)))
      else none
    else if (w32 x3) = 5 then
      if 0 ≤ (w32 ((8 * x1) + x2)) ∧ (w32 ((8 * x1) + x2)) < 16 then
      if (w32 (rd μ 62 false (ix ((8 * x1) + x2)))) = 0 then
        some 0
      else
        some 1
      else none
    else
      some (-99)
  else
    some (-99)
/-- StampTalesModel.sets -/
def B_X7_sets_262 (k38 : (Int → Int → Int → Mi → Option Mi)) (x1 : Int) (x2 : Int) (x3 : Int) (μ : Mi) : Option Mi :=
  k38 x1 x2 (x3 + 1) μ
def B_X7_sets_261 (k38 : (Int → Int → Int → Mi → Option Mi)) (x1 : Int) (x2 : Int) (x3 : Int) (s0 : Int) (s1 : Int) (μ : Mi) : Option Mi :=
  if 0 ≤ (w32 s1) ∧ (w32 s1) < 97 then
  B_X7_sets_262 k38 x1 x2 x3 (wr μ 66 false (ix s1) s0)
  else none
def B_X7_sets_249 (k38 : (Int → Int → Int → Mi → Option Mi)) (x1 : Int) (x2 : Int) (x3 : Int) (x4 : Int) (s0 : Int) (μ : Mi) : Option Mi :=
  if 0 ≤ (w32 x4) ∧ (w32 x4) < 16 then
  B_X7_sets_261 k38 x1 x2 x3 (rd μ 58 false (ix x4)) s0 μ
  else none
def F_X7_sets_38 (k38 : (Int → Int → Int → Mi → Option Mi)) (x1 : Int) (x2 : Int) (x3 : Int) (μ : Mi) : Option Mi :=
  if 0 ≤ (w32 x1) ∧ (w32 x1) < 2 then
  if (w32 (rd μ 56 false (ix x1))) ≤ (w32 x3) then
    some μ
  else
    if 0 ≤ (w32 ((8 * x1) + x3)) ∧ (w32 ((8 * x1) + x3)) < 16 then
    if ¬ (w32 (rd μ 62 false (ix ((8 * x1) + x3)))) = 0 then
      B_X7_sets_262 k38 x1 x2 x3 μ
    else
      if ¬ (w32 (iand (ishr x2 x3) 1)) = 1 then
        if 0 ≤ (w32 ((8 * x1) + x3)) ∧ (w32 ((8 * x1) + x3)) < 16 then
        if ¬ (w32 (rd μ 57 false (ix ((8 * x1) + x3)))) = 0 then
          if 0 ≤ (w32 ((8 * x1) + x3)) ∧ (w32 ((8 * x1) + x3)) < 16 then
          if ¬ (w32 (rd μ 57 false (ix ((8 * x1) + x3)))) = 2 then
            if 0 ≤ (w32 ((8 * x1) + x3)) ∧ (w32 ((8 * x1) + x3)) < 16 then
            if 0 ≤ (w32 x1) ∧ (w32 x1) < 2 then
            if (w32 (rd μ 55 false (ix x1))) < (w32 (rd μ 59 false (ix ((8 * x1) + x3)))) then
              B_X7_sets_262 k38 x1 x2 x3 μ
            else
              if 0 ≤ (w32 ((8 * x1) + x3)) ∧ (w32 ((8 * x1) + x3)) < 16 then
              if 0 ≤ (w32 ((8 * x1) + x3)) ∧ (w32 ((8 * x1) + x3)) < 16 then
              if 0 ≤ (w32 (rd μ 59 false (ix ((8 * x1) + x3)))) ∧ (w32 (rd μ 59 false (ix ((8 * x1) + x3)))) < 97 then
              if (w32 (rd μ 66 false (ix (rd μ 59 false (ix ((8 * x1) + x3)))))) = (-1) then
                B_X7_sets_249 k38 x1 x2 x3 ((8 * x1) + x3) (rd μ 59 false (ix ((8 * x1) + x3))) μ
              else
                if 0 ≤ (w32 ((8 * x1) + x3)) ∧ (w32 ((8 * x1) + x3)) < 16 then
                if 0 ≤ (w32 (rd μ 59 false (ix ((8 * x1) + x3)))) ∧ (w32 (rd μ 59 false (ix ((8 * x1) + x3)))) < 97 then
                if 0 ≤ (w32 ((8 * x1) + x3)) ∧ (w32 ((8 * x1) + x3)) < 16 then
                if ¬ (w32 (rd μ 66 false (ix (rd μ 59 false (ix ((8 * x1) + x3)))))) = (w32 (rd μ 58 false (ix ((8 * x1) + x3)))) then
                  B_X7_sets_261 k38 x1 x2 x3 8 (rd μ 59 false (ix ((8 * x1) + x3))) μ
                else
                  B_X7_sets_249 k38 x1 x2 x3 ((8 * x1) + x3) (rd μ 59 false (ix ((8 * x1) + x3))) μ
                else none
                else none
                else none
              else none
              else none
              else none
            else none
            else none
          else
            if 0 ≤ (w32 ((8 * x1) + x3)) ∧ (w32 ((8 * x1) + x3)) < 16 then
            if 0 ≤ (w32 (rd μ 7 false 40)) ∧ (w32 (rd μ 7 false 40)) < 2 then
            if 0 ≤ (w32 ((8 * x1) + x3)) ∧ (w32 ((8 * x1) + x3)) < 16 then
            if 0 ≤ (w32 (rd μ 7 false 40)) ∧ (w32 (rd μ 7 false 40)) < 2 then
            if 0 ≤ (w32 ((8 * x1) + x3)) ∧ (w32 ((8 * x1) + x3)) < 16 then
            if 0 ≤ (w32 (rd μ 7 false 40)) ∧ (w32 (rd μ 7 false 40)) < 2 then
            B_X7_sets_262 k38 x1 x2 x3 (wr (wr (wr (wr μ 67 false (ix (rd μ 7 false 40)) (rd μ 58 false (ix ((8 * x1) + x3)))) 68 false (ix (rd μ 7 false 40)) (rd μ 59 false (ix ((8 * x1) + x3)))) 69 false (ix (rd μ 7 false 40)) (rd μ 60 false (ix ((8 * x1) + x3)))) 7 false 40 ((rd μ 7 false 40) + 1))
            else none
            else none
            else none
            else none
            else none
            else none
          else none
        else
          if 0 ≤ (w32 (rd μ 7 false 37)) ∧ (w32 (rd μ 7 false 37)) < 6 then
          B_X7_sets_262 k38 x1 x2 x3 (wr (wr μ 65 false (ix (rd μ 7 false 37)) ((8 * x1) + x3)) 7 false 37 ((rd μ 7 false 37) + 1))
          else none
        else none
      else
        B_X7_sets_262 k38 x1 x2 x3 μ
    else none
  else none
def B_X7_sets_38 (n : Nat) : Int → Int → Int → Mi → Option Mi := lp (F_X7_sets_38) (fun _ _ _ _ => none) n
theorem B_X7_sets_38_s (n : Nat) (x1 : Int) (x2 : Int) (x3 : Int) (μ : Mi) : B_X7_sets_38 (n + 1) x1 x2 x3 μ = F_X7_sets_38 (B_X7_sets_38 n) x1 x2 x3 μ := rfl
def F_X7_sets_17 (k17 : (Int → Int → Int → Mi → Option Mi)) (x1 : Int) (x2 : Int) (x3 : Int) (μ : Mi) : Option Mi :=
  if 96 < (w32 x3) then
    B_X7_sets_38 FU x1 x2 0 μ
  else
    if 0 ≤ (w32 x3) ∧ (w32 x3) < 97 then
    k17 x1 x2 (x3 + 1) (wr μ 66 false (ix x3) (-1))
    else none
def B_X7_sets_17 (n : Nat) : Int → Int → Int → Mi → Option Mi := lp (F_X7_sets_17) (fun _ _ _ _ => none) n
theorem B_X7_sets_17_s (n : Nat) (x1 : Int) (x2 : Int) (x3 : Int) (μ : Mi) : B_X7_sets_17 (n + 1) x1 x2 x3 μ = F_X7_sets_17 (B_X7_sets_17 n) x1 x2 x3 μ := rfl
def D_X7_sets (x1 : Int) (x2 : Int) (μ : Mi) : Option Mi :=
  B_X7_sets_17 FU x1 x2 0 (wr (wr (wr μ 7 false 36 x1) 7 false 37 0) 7 false 40 0)
/-- StampTalesModel.stateOf -/
def D_X7_stateOf (x0 : Int) (x1 : Int) (x2 : Int) (x3 : Int) : Int :=
  ((((((x0 * 7) + x1) * 4) + x2) * 5) + x3)
/-- StampTalesModel.comesTo -/
def B_X7_comesTo_79 (k29 : (Int → Int → Int → Int → Int → Int → Mi → Option Int)) (x1 : Int) (x2 : Int) (x3 : Int) (x5 : Int) (x6 : Int) (x7 : Int) (μ : Mi) : Option Int :=
  k29 x1 x2 x3 x5 x6 (x7 + 1) μ
def F_X7_comesTo_29 (k29 : (Int → Int → Int → Int → Int → Int → Mi → Option Int)) (x1 : Int) (x2 : Int) (x3 : Int) (x5 : Int) (x6 : Int) (x7 : Int) (μ : Mi) : Option Int :=
  if (w32 (rd μ 7 false 40)) ≤ (w32 x7) then
    some (D_X7_stateOf x2 x3 x6 x5)
  else
    if 0 ≤ (w32 x7) ∧ (w32 x7) < 2 then
    if ¬ (w32 (rd μ 67 false (ix x7))) = (w32 x2) then
      B_X7_comesTo_79 k29 x1 x2 x3 x5 x6 x7 μ
    else
      if 0 ≤ (w32 x7) ∧ (w32 x7) < 2 then
      if 0 ≤ (w32 x7) ∧ (w32 x7) < 2 then
      if (w32 (D_X7_in x1 (rd μ 68 false (ix x7)) (rd μ 69 false (ix x7)))) = 0 then
        B_X7_comesTo_79 k29 x1 x2 x3 x5 x6 x7 μ
      else
        B_X7_comesTo_79 k29 x1 x2 x3 x5 (ior x6 (ishl 1 x7)) x7 μ
      else none
      else none
    else none
def B_X7_comesTo_29 (n : Nat) : Int → Int → Int → Int → Int → Int → Mi → Option Int := lp (F_X7_comesTo_29) (fun _ _ _ _ _ _ _ => none) n
theorem B_X7_comesTo_29_s (n : Nat) (x1 : Int) (x2 : Int) (x3 : Int) (x5 : Int) (x6 : Int) (x7 : Int) (μ : Mi) : B_X7_comesTo_29 (n + 1) x1 x2 x3 x5 x6 x7 μ = F_X7_comesTo_29 (B_X7_comesTo_29 n) x1 x2 x3 x5 x6 x7 μ := rfl
def B_X7_comesTo_22 (x1 : Int) (x2 : Int) (x3 : Int) (x4 : Int) (x5 : Int) (μ : Mi) : Option Int :=
  B_X7_comesTo_29 FU x1 x2 x3 x5 x4 0 μ
def D_X7_comesTo (x1 : Int) (x2 : Int) (x3 : Int) (x4 : Int) (x5 : Int) (μ : Mi) : Option Int :=
  if 0 ≤ (w32 x1) ∧ (w32 x1) < 97 then
  if (w32 (rd μ 66 false (ix x1))) = (-1) then
    B_X7_comesTo_22 x1 x2 x3 x4 x5 μ
  else
    if 0 ≤ (w32 x1) ∧ (w32 x1) < 97 then
    if (w32 (rd μ 66 false (ix x1))) = (w32 x2) then
      B_X7_comesTo_22 x1 x2 x3 x4 x5 μ
    else
      some (-1)
    else none
  else none
/-- java/lang/Math.floorDiv -/
def D_J9_floorDiv_7cf53 (x0 : Int) (x1 : Int) : Option Int :=
  if (w32 x1) = 0 then none else
  if 0 ≤ (w32 (ixor x0 x1)) then
    some (idiv x0 x1)
  else
    if (w32 ((idiv x0 x1) * x1)) = (w32 x0) then
      some (idiv x0 x1)
    else
      some ((idiv x0 x1) - 1)
/-- StampTalesModel.stamped -/
def D_X7_stamped (x1 : Int) (x2 : Int) (x3 : Int) (x4 : Int) (x5 : Int) (μ : Mi) : Option Int :=
  if 0 ≤ (w32 x2) ∧ (w32 x2) < 4 then
  if ¬ (w32 (iand (ishr (rd μ 49 false (ix x2)) x3) 1)) = 0 then
    if 0 ≤ (w32 x5) ∧ (w32 x5) < 8 then
    bp (D_J9_floorDiv_7cf53 (x4 + (rd μ 51 false (ix x5))) 24) fun r1 =>
    if ¬ (w32 x1) = (w32 (rd μ 7 false 37)) then
      if 0 ≤ (w32 x1) ∧ (w32 x1) < 6 then
      if 0 ≤ (w32 (rd μ 65 false (ix x1))) ∧ (w32 (rd μ 65 false (ix x1))) < 16 then
      if ¬ (w32 (rd μ 58 false (ix (rd μ 65 false (ix x1))))) = (w32 x2) then
        some (-1)
      else
        if 0 ≤ (w32 (rd μ 65 false (ix x1))) ∧ (w32 (rd μ 65 false (ix x1))) < 16 then
        if ¬ (w32 (rd μ 61 false (ix (rd μ 65 false (ix x1))))) = (w32 x3) then
          some (-1)
        else
          if 0 ≤ (w32 (rd μ 65 false (ix x1))) ∧ (w32 (rd μ 65 false (ix x1))) < 16 then
          if 0 ≤ (w32 (rd μ 65 false (ix x1))) ∧ (w32 (rd μ 65 false (ix x1))) < 16 then
          if (w32 (D_X7_in r1 (rd μ 59 false (ix (rd μ 65 false (ix x1)))) (rd μ 60 false (ix (rd μ 65 false (ix x1)))))) = 0 then
            some (-1)
          else
            some (x1 + 1)
          else none
          else none
        else none
      else none
      else none
    else
      some (-1)
    else none
  else
    some x1
  else none
/-- StampTalesModel.goes -/
def B_X7_goes_398 (s0 : Int) (s1 : Int) (s2 : Int) (s3 : Int) (s4 : Int) (μ : Mi) : Option (Int × Mi) :=
  bp (D_X7_comesTo s4 s3 s2 s1 s0 μ) fun r1 =>
  some (r1, μ)
def B_X7_goes_376 (x4 : Int) (x5 : Int) (x6 : Int) (x9 : Int) (x10 : Int) (μ : Mi) : Option (Int × Mi) :=
  if (w32 x10) = 0 then
    B_X7_goes_398 0 x5 x6 x9 (rd μ 7 false 44) μ
  else
    B_X7_goes_398 x4 x5 x6 x9 (rd μ 7 false 44) μ
def B_X7_goes_368 (x4 : Int) (x5 : Int) (x6 : Int) (x9 : Int) (x10 : Int) (μ : Mi) : Option (Int × Mi) :=
  if ¬ (w32 x6) = (-1) then
    B_X7_goes_376 x4 x5 x6 x9 x10 μ
  else
    some ((-1), μ)
def B_X7_goes_302 (x1 : Int) (x4 : Int) (x5 : Int) (x6 : Int) (x7 : Int) (x9 : Int) (s0 : Int) (μ : Mi) : Option (Int × Mi) :=
  if 0 ≤ (w32 x9) ∧ (w32 x9) < 8 then
  if 0 ≤ (w32 x7) ∧ (w32 x7) < 8 then
  if (w32 (rd μ 50 false (ix x9))) = (w32 (rd μ 50 false (ix x7))) then
    B_X7_goes_376 x4 x5 x6 x9 s0 μ
  else
    if 0 ≤ (w32 x7) ∧ (w32 x7) < 8 then
    bp (D_X7_stamped x6 (rd μ 50 false (ix x7)) 1 x1 x7 μ) fun r1 =>
    if (w32 r1) = (-1) then
      B_X7_goes_368 x4 x5 r1 x9 s0 μ
    else
      if 0 ≤ (w32 x9) ∧ (w32 x9) < 8 then
      bp (D_X7_stamped r1 (rd μ 50 false (ix x9)) 0 (rd μ 7 false 44) x9 μ) fun r2 =>
      B_X7_goes_368 x4 x5 r2 x9 s0 μ
      else none
    else none
  else none
  else none
def B_X7_goes_301 (x1 : Int) (x4 : Int) (x5 : Int) (x6 : Int) (x7 : Int) (x9 : Int) (μ : Mi) : Option (Int × Mi) :=
  B_X7_goes_302 x1 x4 x5 x6 x7 x9 0 μ
def B_X7_goes_265 (k206 : (Int → Int → Int → Int → Int → Int → Int → Mi → Option (Int × Mi))) (x1 : Int) (x4 : Int) (x5 : Int) (x6 : Int) (x7 : Int) (x9 : Int) (x10 : Int) (μ : Mi) : Option (Int × Mi) :=
  k206 x1 x4 x5 x6 x7 x9 (x10 + 1) μ
def B_X7_goes_251 (k206 : (Int → Int → Int → Int → Int → Int → Int → Mi → Option (Int × Mi))) (x1 : Int) (x4 : Int) (x5 : Int) (x6 : Int) (x7 : Int) (x9 : Int) (x10 : Int) (s0 : Int) (μ : Mi) : Option (Int × Mi) :=
  if 0 ≤ (w32 (rd μ 7 false 36)) ∧ (w32 (rd μ 7 false 36)) < 2 then
  if (w32 (rd μ 54 false (ix (rd μ 7 false 36)))) ≤ (w32 s0) then
    B_X7_goes_265 k206 x1 x4 x5 x6 x7 x9 x10 μ
  else
    some ((-1), μ)
  else none
def F_X7_goes_206 (k206 : (Int → Int → Int → Int → Int → Int → Int → Mi → Option (Int × Mi))) (x1 : Int) (x4 : Int) (x5 : Int) (x6 : Int) (x7 : Int) (x9 : Int) (x10 : Int) (μ : Mi) : Option (Int × Mi) :=
  if (w32 (rd μ 7 false 44)) < (w32 ((24 * x10) + 8)) then
    if ¬ (w32 (idiv (rd μ 7 false 44) 24)) = (w32 (idiv x1 24)) then
      B_X7_goes_301 x1 x4 x5 x6 x7 x9 μ
    else
      if 8 ≤ (w32 (irem (rd μ 7 false 44) 24)) then
        B_X7_goes_301 x1 x4 x5 x6 x7 x9 μ
      else
        B_X7_goes_302 x1 x4 x5 x6 x7 x9 1 μ
  else
    if (w32 x1) < (w32 ((24 * x10) + 8)) then
      if ¬ (w32 x10) = (w32 (idiv x1 24)) then
        B_X7_goes_251 k206 x1 x4 x5 x6 x7 x9 x10 0 μ
      else
        B_X7_goes_251 k206 x1 x4 x5 x6 x7 x9 x10 x4 μ
    else
      B_X7_goes_265 k206 x1 x4 x5 x6 x7 x9 x10 μ
def B_X7_goes_206 (n : Nat) : Int → Int → Int → Int → Int → Int → Int → Mi → Option (Int × Mi) := lp (F_X7_goes_206) (fun _ _ _ _ _ _ _ _ => none) n
theorem B_X7_goes_206_s (n : Nat) (x1 : Int) (x4 : Int) (x5 : Int) (x6 : Int) (x7 : Int) (x9 : Int) (x10 : Int) (μ : Mi) : B_X7_goes_206 (n + 1) x1 x4 x5 x6 x7 x9 x10 μ = F_X7_goes_206 (B_X7_goes_206 n) x1 x4 x5 x6 x7 x9 x10 μ := rfl
def B_X7_goes_200 (x1 : Int) (x4 : Int) (x5 : Int) (x6 : Int) (x7 : Int) (x9 : Int) (μ : Mi) : Option (Int × Mi) :=
  B_X7_goes_206 FU x1 x4 x5 x6 x7 x9 (idiv x1 24) μ
def F_X7_goes_149 (k149 : (Int → Int → Int → Int → Int → Int → Int → Int → Mi → Option (Int × Mi))) (x1 : Int) (x4 : Int) (x5 : Int) (x6 : Int) (x7 : Int) (x8 : Int) (x9 : Int) (x10 : Int) (μ : Mi) : Option (Int × Mi) :=
  if (w32 (rd μ 7 false 44)) ≤ (w32 x10) then
    if (w32 x8) = 0 then
      B_X7_goes_200 x1 x4 x5 x6 x7 x9 μ
    else
      if 8 ≤ (w32 (irem x1 24)) then
        B_X7_goes_200 x1 x4 x5 x6 x7 x9 μ
      else
        if 4 ≤ (w32 x4) then
          B_X7_goes_200 x1 x4 x5 x6 x7 x9 μ
        else
          B_X7_goes_200 x1 (x4 + 1) x5 x6 x7 x9 μ
  else
    if 0 ≤ (w32 x10) ∧ (w32 x10) < 97 then
    if (w32 (rd μ 66 false (ix x10))) = (-1) then
      k149 x1 x4 x5 x6 x7 x8 x9 (x10 + 1) μ
    else
      some ((-1), μ)
    else none
def B_X7_goes_149 (n : Nat) : Int → Int → Int → Int → Int → Int → Int → Int → Mi → Option (Int × Mi) := lp (F_X7_goes_149) (fun _ _ _ _ _ _ _ _ _ => none) n
theorem B_X7_goes_149_s (n : Nat) (x1 : Int) (x4 : Int) (x5 : Int) (x6 : Int) (x7 : Int) (x8 : Int) (x9 : Int) (x10 : Int) (μ : Mi) : B_X7_goes_149 (n + 1) x1 x4 x5 x6 x7 x8 x9 x10 μ = F_X7_goes_149 (B_X7_goes_149 n) x1 x4 x5 x6 x7 x8 x9 x10 μ := rfl
def B_X7_goes_142 (x1 : Int) (x4 : Int) (x5 : Int) (x6 : Int) (x7 : Int) (x8 : Int) (s0 : Int) (μ : Mi) : Option (Int × Mi) :=
  B_X7_goes_149 FU x1 x4 x5 x6 x7 x8 s0 (x1 + 1) μ
def B_X7_goes_105 (x1 : Int) (x3 : Int) (x4 : Int) (x5 : Int) (x6 : Int) (x7 : Int) (x8 : Int) (s0 : Int) (μ : Mi) : Option (Int × Mi) :=
  if 0 ≤ (w32 (rd μ 7 false 36)) ∧ (w32 (rd μ 7 false 36)) < 2 then
  if (w32 s0) ≤ (w32 (rd μ 55 false (ix (rd μ 7 false 36)))) then
    if (w32 x8) = 0 then
      bp (D_X7_ofLink x3 1 (wr μ 7 false 44 s0)) fun r1 =>
      B_X7_goes_142 x1 x4 x5 x6 x7 x8 r1 (wr μ 7 false 44 s0)
    else
      B_X7_goes_142 x1 x4 x5 x6 x7 x8 x7 (wr μ 7 false 44 s0)
  else
    some ((-1), (wr μ 7 false 44 s0))
  else none
def B_X7_goes_85 (x1 : Int) (x3 : Int) (x4 : Int) (x5 : Int) (x6 : Int) (x7 : Int) (x8 : Int) (μ : Mi) : Option (Int × Mi) :=
  if (w32 x8) = 0 then
    bp (D_X7_ofLink x3 3 μ) fun r1 =>
    B_X7_goes_105 x1 x3 x4 x5 x6 x7 x8 (x1 + r1) μ
  else
    B_X7_goes_105 x1 x3 x4 x5 x6 x7 x8 (x1 + 1) μ
def B_X7_goes_80 (x1 : Int) (x3 : Int) (x4 : Int) (x5 : Int) (x6 : Int) (x7 : Int) (x8 : Int) (s0 : Int) (s1 : Int) (μ : Mi) : Option (Int × Mi) :=
  if (w32 s1) = (w32 s0) then
    B_X7_goes_85 x1 x3 x4 x5 x6 x7 x8 μ
  else
    some ((-1), μ)
def B_X7_goes_38 (x1 : Int) (x3 : Int) (x4 : Int) (x5 : Int) (x6 : Int) (x7 : Int) (s0 : Int) (μ : Mi) : Option (Int × Mi) :=
  if ¬ (w32 s0) = 0 then
    B_X7_goes_85 x1 x3 x4 x5 x6 x7 s0 μ
  else
    bp (D_X7_ofLink x3 0 μ) fun r1 =>
    if ¬ (w32 r1) = (w32 x7) then
      some ((-1), μ)
    else
      bp (D_X7_ofLink x3 2 μ) fun r2 =>
      bp (D_X7_ofLink x3 5 μ) fun r3 =>
      if ¬ (w32 r3) = 1 then
        B_X7_goes_80 x1 x3 x4 x5 x6 x7 s0 x1 r2 μ
      else
        B_X7_goes_80 x1 x3 x4 x5 x6 x7 s0 (irem x1 24) r2 μ
def D_X7_goes (x1 : Int) (x2 : Int) (x3 : Int) (μ : Mi) : Option (Int × Mi) :=
  if ¬ (w32 x3) = (-1) then
    B_X7_goes_38 x1 x3 (irem x2 5) (irem (idiv x2 5) 4) (irem (idiv x2 20) 7) (idiv x2 140) 0 μ
  else
    B_X7_goes_38 x1 x3 (irem x2 5) (irem (idiv x2 5) 4) (irem (idiv x2 20) 7) (idiv x2 140) 1 μ
/-- StampTalesModel.start -/
def D_X7_start (μ : Mi) : Option Int :=
  if 0 ≤ (w32 (rd μ 7 false 36)) ∧ (w32 (rd μ 7 false 36)) < 2 then
  bp (D_X7_comesTo 0 (rd μ 53 false (ix (rd μ 7 false 36))) 0 0 0 μ) fun r1 =>
  some r1
  else none
/-- StampTalesModel.ends -/
def D_X7_ends (x1 : Int) (μ : Mi) : Int :=
  if ¬ (w32 (irem (idiv x1 5) 4)) = (w32 ((ishl 1 (rd μ 7 false 40)) - 1)) then
    0
  else
    if ¬ (w32 (irem (idiv x1 20) 7)) = (w32 (rd μ 7 false 37)) then
      0
    else
      1
/-- StampTalesModel.finds -/
def B_X7_finds_204 (k164 : (Int → Mi → Option (Int × Mi))) (x2 : Int) (μ : Mi) : Option (Int × Mi) :=
  k164 (x2 + 1) μ
def F_X7_finds_164 (k164 : (Int → Mi → Option (Int × Mi))) (x2 : Int) (μ : Mi) : Option (Int × Mi) :=
  if 1120 ≤ (w32 x2) then
    some (0, μ)
  else
    if 0 ≤ (w32 (rd μ 7 false 36)) ∧ (w32 (rd μ 7 false 36)) < 2 then
    if 0 ≤ (w32 (((rd μ 55 false (ix (rd μ 7 false 36))) * 1120) + x2)) ∧ (w32 (((rd μ 55 false (ix (rd μ 7 false 36))) * 1120) + x2)) < 108640 then
    if (w32 (rd μ 72 false (ix (((rd μ 55 false (ix (rd μ 7 false 36))) * 1120) + x2)))) = 0 then
      B_X7_finds_204 k164 x2 μ
    else
      if (w32 (D_X7_ends x2 μ)) = 0 then
        B_X7_finds_204 k164 x2 μ
      else
        some (1, μ)
    else none
    else none
def B_X7_finds_164 (n : Nat) : Int → Mi → Option (Int × Mi) := lp (F_X7_finds_164) (fun _ _ => none) n
theorem B_X7_finds_164_s (n : Nat) (x2 : Int) (μ : Mi) : B_X7_finds_164 (n + 1) x2 μ = F_X7_finds_164 (B_X7_finds_164 n) x2 μ := rfl
def B_X7_finds_150 (k59 : (Int → Mi → Option (Int × Mi))) (k74 : (Int → Int → Mi → Option (Int × Mi))) (x2 : Int) (x3 : Int) (μ : Mi) : Option (Int × Mi) :=
  k74 x2 (x3 + 1) μ
def B_X7_finds_144 (k59 : (Int → Mi → Option (Int × Mi))) (k74 : (Int → Int → Mi → Option (Int × Mi))) (k102 : (Int → Int → Int → Mi → Option (Int × Mi))) (x2 : Int) (x3 : Int) (x4 : Int) (μ : Mi) : Option (Int × Mi) :=
  k102 x2 x3 (x4 + 1) μ
def F_X7_finds_102 (k59 : (Int → Mi → Option (Int × Mi))) (k74 : (Int → Int → Mi → Option (Int × Mi))) (k102 : (Int → Int → Int → Mi → Option (Int × Mi))) (x2 : Int) (x3 : Int) (x4 : Int) (μ : Mi) : Option (Int × Mi) :=
  if (w32 (rd μ 7 false 20)) ≤ (w32 x4) then
    B_X7_finds_150 k59 k74 x2 x3 μ
  else
    bd (D_X7_goes x2 x3 x4 μ) fun r1 m1 =>
    if (w32 r1) = (-1) then
      B_X7_finds_144 k59 k74 k102 x2 x3 x4 m1
    else
      if 0 ≤ (w32 (((rd m1 7 false 44) * 1120) + r1)) ∧ (w32 (((rd m1 7 false 44) * 1120) + r1)) < 108640 then
      B_X7_finds_144 k59 k74 k102 x2 x3 x4 (wr m1 72 false (ix (((rd m1 7 false 44) * 1120) + r1)) 1)
      else none
def B_X7_finds_102 (k59 : (Int → Mi → Option (Int × Mi))) (k74 : (Int → Int → Mi → Option (Int × Mi))) (n : Nat) : Int → Int → Int → Mi → Option (Int × Mi) := lp (F_X7_finds_102 k59 k74) (fun _ _ _ _ => none) n
theorem B_X7_finds_102_s (k59 : (Int → Mi → Option (Int × Mi))) (k74 : (Int → Int → Mi → Option (Int × Mi))) (n : Nat) (x2 : Int) (x3 : Int) (x4 : Int) (μ : Mi) : B_X7_finds_102 k59 k74 (n + 1) x2 x3 x4 μ = F_X7_finds_102 k59 k74 (B_X7_finds_102 k59 k74 n) x2 x3 x4 μ := rfl
def F_X7_finds_74 (k59 : (Int → Mi → Option (Int × Mi))) (k74 : (Int → Int → Mi → Option (Int × Mi))) (x2 : Int) (x3 : Int) (μ : Mi) : Option (Int × Mi) :=
  if 1120 ≤ (w32 x3) then
    k59 (x2 + 1) μ
  else
    if 0 ≤ (w32 ((x2 * 1120) + x3)) ∧ (w32 ((x2 * 1120) + x3)) < 108640 then
    if ¬ (w32 (rd μ 72 false (ix ((x2 * 1120) + x3)))) = 0 then
      B_X7_finds_102 k59 k74 FU x2 x3 (-1) μ
    else
      B_X7_finds_150 k59 k74 x2 x3 μ
    else none
def B_X7_finds_74 (k59 : (Int → Mi → Option (Int × Mi))) (n : Nat) : Int → Int → Mi → Option (Int × Mi) := lp (F_X7_finds_74 k59) (fun _ _ _ => none) n
theorem B_X7_finds_74_s (k59 : (Int → Mi → Option (Int × Mi))) (n : Nat) (x2 : Int) (x3 : Int) (μ : Mi) : B_X7_finds_74 k59 (n + 1) x2 x3 μ = F_X7_finds_74 k59 (B_X7_finds_74 k59 n) x2 x3 μ := rfl
def F_X7_finds_59 (k59 : (Int → Mi → Option (Int × Mi))) (x2 : Int) (μ : Mi) : Option (Int × Mi) :=
  if 0 ≤ (w32 (rd μ 7 false 36)) ∧ (w32 (rd μ 7 false 36)) < 2 then
  if (w32 (rd μ 55 false (ix (rd μ 7 false 36)))) ≤ (w32 x2) then
    B_X7_finds_164 FU 0 μ
  else
    B_X7_finds_74 k59 FU x2 0 μ
  else none
def B_X7_finds_59 (n : Nat) : Int → Mi → Option (Int × Mi) := lp (F_X7_finds_59) (fun _ _ => none) n
theorem B_X7_finds_59_s (n : Nat) (x2 : Int) (μ : Mi) : B_X7_finds_59 (n + 1) x2 μ = F_X7_finds_59 (B_X7_finds_59 n) x2 μ := rfl
def F_X7_finds_2 (k2 : (Int → Mi → Option (Int × Mi))) (x1 : Int) (μ : Mi) : Option (Int × Mi) :=
  if 0 ≤ (w32 (rd μ 7 false 36)) ∧ (w32 (rd μ 7 false 36)) < 2 then
  if (w32 ((((rd μ 55 false (ix (rd μ 7 false 36))) * 1120) + 1120) - 1)) < (w32 x1) then
    bp (D_X7_start μ) fun r1 =>
    if ¬ (w32 r1) = (-1) then
      if 0 ≤ (w32 r1) ∧ (w32 r1) < 108640 then
      B_X7_finds_59 FU 0 (wr μ 72 false (ix r1) 1)
      else none
    else
      some (0, μ)
  else
    if 0 ≤ (w32 x1) ∧ (w32 x1) < 108640 then
    k2 (x1 + 1) (wr μ 72 false (ix x1) 0)
    else none
  else none
def B_X7_finds_2 (n : Nat) : Int → Mi → Option (Int × Mi) := lp (F_X7_finds_2) (fun _ _ => none) n
theorem B_X7_finds_2_s (n : Nat) (x1 : Int) (μ : Mi) : B_X7_finds_2 (n + 1) x1 μ = F_X7_finds_2 (B_X7_finds_2 n) x1 μ := rfl
def D_X7_finds (μ : Mi) : Option (Int × Mi) :=
  B_X7_finds_2 FU 0 μ
/-- StampTalesModel.counts -/
def B_X7_counts_185 (k19 : (Int → Mi → Option (Int × Mi))) (k25 : (Int → Int → Mi → Option (Int × Mi))) (x1 : Int) (x2 : Int) (μ : Mi) : Option (Int × Mi) :=
  k25 x1 (x2 + 1) μ
def B_X7_counts_179 (k19 : (Int → Mi → Option (Int × Mi))) (k25 : (Int → Int → Mi → Option (Int × Mi))) (k97 : (Int → Int → Int → Int → Mi → Option (Int × Mi))) (x1 : Int) (x2 : Int) (x3 : Int) (x4 : Int) (μ : Mi) : Option (Int × Mi) :=
  k97 x1 x2 x3 (x4 + 1) μ
def B_X7_counts_178 (k19 : (Int → Mi → Option (Int × Mi))) (k25 : (Int → Int → Mi → Option (Int × Mi))) (k97 : (Int → Int → Int → Int → Mi → Option (Int × Mi))) (x1 : Int) (x2 : Int) (x3 : Int) (x4 : Int) (s0 : Int) (s1 : Int) (μ : Mi) : Option (Int × Mi) :=
  if 0 ≤ (w32 s1) ∧ (w32 s1) < 108640 then
  B_X7_counts_179 k19 k25 k97 x1 x2 x3 x4 (wr μ 70 false (ix s1) s0)
  else none
def F_X7_counts_97 (k19 : (Int → Mi → Option (Int × Mi))) (k25 : (Int → Int → Mi → Option (Int × Mi))) (k97 : (Int → Int → Int → Int → Mi → Option (Int × Mi))) (x1 : Int) (x2 : Int) (x3 : Int) (x4 : Int) (μ : Mi) : Option (Int × Mi) :=
  if (w32 (rd μ 7 false 20)) ≤ (w32 x4) then
    B_X7_counts_185 k19 k25 x1 x2 μ
  else
    bd (D_X7_goes x1 x2 x4 μ) fun r1 m1 =>
    if ¬ (w32 r1) = (-1) then
      if 0 ≤ (w32 (((rd m1 7 false 44) * 1120) + r1)) ∧ (w32 (((rd m1 7 false 44) * 1120) + r1)) < 108640 then
      if 0 ≤ (w32 x3) ∧ (w32 x3) < 108640 then
      if (w32 (rd m1 70 false (ix x3))) ≤ (w32 (1000000000 - (rd m1 70 false (ix (((rd m1 7 false 44) * 1120) + r1))))) then
        if 0 ≤ (w32 x3) ∧ (w32 x3) < 108640 then
        B_X7_counts_178 k19 k25 k97 x1 x2 x3 x4 ((rd m1 70 false (ix x3)) + (rd m1 70 false (ix (((rd m1 7 false 44) * 1120) + r1)))) x3 m1
        else none
      else
        B_X7_counts_178 k19 k25 k97 x1 x2 x3 x4 1000000000 x3 m1
      else none
      else none
    else
      B_X7_counts_179 k19 k25 k97 x1 x2 x3 x4 m1
def B_X7_counts_97 (k19 : (Int → Mi → Option (Int × Mi))) (k25 : (Int → Int → Mi → Option (Int × Mi))) (n : Nat) : Int → Int → Int → Int → Mi → Option (Int × Mi) := lp (F_X7_counts_97 k19 k25) (fun _ _ _ _ _ => none) n
theorem B_X7_counts_97_s (k19 : (Int → Mi → Option (Int × Mi))) (k25 : (Int → Int → Mi → Option (Int × Mi))) (n : Nat) (x1 : Int) (x2 : Int) (x3 : Int) (x4 : Int) (μ : Mi) : B_X7_counts_97 k19 k25 (n + 1) x1 x2 x3 x4 μ = F_X7_counts_97 k19 k25 (B_X7_counts_97 k19 k25 n) x1 x2 x3 x4 μ := rfl
def B_X7_counts_90 (k19 : (Int → Mi → Option (Int × Mi))) (k25 : (Int → Int → Mi → Option (Int × Mi))) (x1 : Int) (x2 : Int) (s0 : Int) (s1 : Int) (μ : Mi) : Option (Int × Mi) :=
  if 0 ≤ (w32 s1) ∧ (w32 s1) < 108640 then
  B_X7_counts_185 k19 k25 x1 x2 (wr μ 70 false (ix s1) s0)
  else none
def F_X7_counts_25 (k19 : (Int → Mi → Option (Int × Mi))) (k25 : (Int → Int → Mi → Option (Int × Mi))) (x1 : Int) (x2 : Int) (μ : Mi) : Option (Int × Mi) :=
  if 1120 ≤ (w32 x2) then
    k19 (x1 + (-1)) μ
  else
    if 0 ≤ (w32 ((x1 * 1120) + x2)) ∧ (w32 ((x1 * 1120) + x2)) < 108640 then
    if 0 ≤ (w32 ((x1 * 1120) + x2)) ∧ (w32 ((x1 * 1120) + x2)) < 108640 then
    if ¬ (w32 (rd μ 72 false (ix ((x1 * 1120) + x2)))) = 0 then
      if 0 ≤ (w32 (rd μ 7 false 36)) ∧ (w32 (rd μ 7 false 36)) < 2 then
      if ¬ (w32 x1) = (w32 (rd μ 55 false (ix (rd μ 7 false 36)))) then
        B_X7_counts_97 k19 k25 FU x1 x2 ((x1 * 1120) + x2) (-1) (wr μ 70 false (ix ((x1 * 1120) + x2)) 0)
      else
        if (w32 (D_X7_ends x2 (wr μ 70 false (ix ((x1 * 1120) + x2)) 0))) = 0 then
          B_X7_counts_90 k19 k25 x1 x2 0 ((x1 * 1120) + x2) (wr μ 70 false (ix ((x1 * 1120) + x2)) 0)
        else
          B_X7_counts_90 k19 k25 x1 x2 1 ((x1 * 1120) + x2) (wr μ 70 false (ix ((x1 * 1120) + x2)) 0)
      else none
    else
      B_X7_counts_185 k19 k25 x1 x2 (wr μ 70 false (ix ((x1 * 1120) + x2)) 0)
    else none
    else none
def B_X7_counts_25 (k19 : (Int → Mi → Option (Int × Mi))) (n : Nat) : Int → Int → Mi → Option (Int × Mi) := lp (F_X7_counts_25 k19) (fun _ _ _ => none) n
theorem B_X7_counts_25_s (k19 : (Int → Mi → Option (Int × Mi))) (n : Nat) (x1 : Int) (x2 : Int) (μ : Mi) : B_X7_counts_25 k19 (n + 1) x1 x2 μ = F_X7_counts_25 k19 (B_X7_counts_25 k19 n) x1 x2 μ := rfl
def F_X7_counts_19 (k19 : (Int → Mi → Option (Int × Mi))) (x1 : Int) (μ : Mi) : Option (Int × Mi) :=
  if (w32 x1) < 0 then
    bp (D_X7_start μ) fun r1 =>
    if 0 ≤ (w32 r1) ∧ (w32 r1) < 108640 then
    some ((rd μ 70 false (ix r1)), μ)
    else none
  else
    B_X7_counts_25 k19 FU x1 0 μ
def B_X7_counts_19 (n : Nat) : Int → Mi → Option (Int × Mi) := lp (F_X7_counts_19) (fun _ _ => none) n
theorem B_X7_counts_19_s (n : Nat) (x1 : Int) (μ : Mi) : B_X7_counts_19 (n + 1) x1 μ = F_X7_counts_19 (B_X7_counts_19 n) x1 μ := rfl
def D_X7_counts (μ : Mi) : Option (Int × Mi) :=
  bd (D_X7_finds μ) fun r1 m1 =>
  if ¬ (w32 r1) = 0 then
    if 0 ≤ (w32 (rd m1 7 false 36)) ∧ (w32 (rd m1 7 false 36)) < 2 then
    B_X7_counts_19 FU (rd m1 55 false (ix (rd m1 7 false 36))) m1
    else none
  else
    some (0, m1)
/-- StampTalesModel.ways -/
def D_X7_ways (x1 : Int) (μ : Mi) : Option (Int × Mi) :=
  if ¬ (w32 (D_X7_isMan x1 μ)) = 0 then
    bm (D_X7_sets x1 0 μ) fun m2 =>
    bd (D_X7_counts m2) fun r3 m3 =>
    some (r3, m3)
  else
    some ((-1), μ)
/-- StampTalesModel.mayBits -/
def B_X7_mayBits_199 (k80 : (Int → Int → Int → Mi → Option (Int × Mi))) (x2 : Int) (x3 : Int) (x4 : Int) (μ : Mi) : Option (Int × Mi) :=
  k80 x2 x3 (x4 + 1) μ
def B_X7_mayBits_193 (k80 : (Int → Int → Int → Mi → Option (Int × Mi))) (k89 : (Int → Int → Int → Int → Mi → Option (Int × Mi))) (x2 : Int) (x3 : Int) (x4 : Int) (x5 : Int) (μ : Mi) : Option (Int × Mi) :=
  k89 x2 x3 x4 (x5 + 1) μ
def B_X7_mayBits_187 (k80 : (Int → Int → Int → Mi → Option (Int × Mi))) (k89 : (Int → Int → Int → Int → Mi → Option (Int × Mi))) (k127 : (Int → Int → Int → Int → Int → Mi → Option (Int × Mi))) (x2 : Int) (x3 : Int) (x4 : Int) (x5 : Int) (x6 : Int) (μ : Mi) : Option (Int × Mi) :=
  k127 x2 x3 x4 x5 (x6 + 1) μ
def F_X7_mayBits_127 (k80 : (Int → Int → Int → Mi → Option (Int × Mi))) (k89 : (Int → Int → Int → Int → Mi → Option (Int × Mi))) (k127 : (Int → Int → Int → Int → Int → Mi → Option (Int × Mi))) (x2 : Int) (x3 : Int) (x4 : Int) (x5 : Int) (x6 : Int) (μ : Mi) : Option (Int × Mi) :=
  if (w32 (rd μ 7 false 20)) ≤ (w32 x6) then
    B_X7_mayBits_193 k80 k89 x2 x3 x4 x5 μ
  else
    bd (D_X7_goes x4 x5 x6 μ) fun r1 m1 =>
    if (w32 r1) = (-1) then
      B_X7_mayBits_187 k80 k89 k127 x2 x3 x4 x5 x6 m1
    else
      if (w32 (rd m1 7 false 44)) ≤ (w32 x2) then
        B_X7_mayBits_187 k80 k89 k127 x2 x3 x4 x5 x6 m1
      else
        if 0 ≤ (w32 (((rd m1 7 false 44) * 1120) + r1)) ∧ (w32 (((rd m1 7 false 44) * 1120) + r1)) < 108640 then
        if (w32 (rd m1 70 false (ix (((rd m1 7 false 44) * 1120) + r1)))) ≤ 0 then
          B_X7_mayBits_187 k80 k89 k127 x2 x3 x4 x5 x6 m1
        else
          B_X7_mayBits_187 k80 k89 k127 x2 (ior x3 256) x4 x5 x6 m1
        else none
def B_X7_mayBits_127 (k80 : (Int → Int → Int → Mi → Option (Int × Mi))) (k89 : (Int → Int → Int → Int → Mi → Option (Int × Mi))) (n : Nat) : Int → Int → Int → Int → Int → Mi → Option (Int × Mi) := lp (F_X7_mayBits_127 k80 k89) (fun _ _ _ _ _ _ => none) n
theorem B_X7_mayBits_127_s (k80 : (Int → Int → Int → Mi → Option (Int × Mi))) (k89 : (Int → Int → Int → Int → Mi → Option (Int × Mi))) (n : Nat) (x2 : Int) (x3 : Int) (x4 : Int) (x5 : Int) (x6 : Int) (μ : Mi) : B_X7_mayBits_127 k80 k89 (n + 1) x2 x3 x4 x5 x6 μ = F_X7_mayBits_127 k80 k89 (B_X7_mayBits_127 k80 k89 n) x2 x3 x4 x5 x6 μ := rfl
def F_X7_mayBits_89 (k80 : (Int → Int → Int → Mi → Option (Int × Mi))) (k89 : (Int → Int → Int → Int → Mi → Option (Int × Mi))) (x2 : Int) (x3 : Int) (x4 : Int) (x5 : Int) (μ : Mi) : Option (Int × Mi) :=
  if 1120 ≤ (w32 x5) then
    B_X7_mayBits_199 k80 x2 x3 x4 μ
  else
    if 256 ≤ (w32 x3) then
      B_X7_mayBits_199 k80 x2 x3 x4 μ
    else
      if 0 ≤ (w32 ((x4 * 1120) + x5)) ∧ (w32 ((x4 * 1120) + x5)) < 108640 then
      if ¬ (w32 (rd μ 72 false (ix ((x4 * 1120) + x5)))) = 0 then
        B_X7_mayBits_127 k80 k89 FU x2 x3 x4 x5 0 μ
      else
        B_X7_mayBits_193 k80 k89 x2 x3 x4 x5 μ
      else none
def B_X7_mayBits_89 (k80 : (Int → Int → Int → Mi → Option (Int × Mi))) (n : Nat) : Int → Int → Int → Int → Mi → Option (Int × Mi) := lp (F_X7_mayBits_89 k80) (fun _ _ _ _ _ => none) n
theorem B_X7_mayBits_89_s (k80 : (Int → Int → Int → Mi → Option (Int × Mi))) (n : Nat) (x2 : Int) (x3 : Int) (x4 : Int) (x5 : Int) (μ : Mi) : B_X7_mayBits_89 k80 (n + 1) x2 x3 x4 x5 μ = F_X7_mayBits_89 k80 (B_X7_mayBits_89 k80 n) x2 x3 x4 x5 μ := rfl
def F_X7_mayBits_80 (k80 : (Int → Int → Int → Mi → Option (Int × Mi))) (x2 : Int) (x3 : Int) (x4 : Int) (μ : Mi) : Option (Int × Mi) :=
  if (w32 x2) ≤ (w32 x4) then
    some (x3, μ)
  else
    B_X7_mayBits_89 k80 FU x2 x3 x4 0 μ
def B_X7_mayBits_80 (n : Nat) : Int → Int → Int → Mi → Option (Int × Mi) := lp (F_X7_mayBits_80) (fun _ _ _ _ => none) n
theorem B_X7_mayBits_80_s (n : Nat) (x2 : Int) (x3 : Int) (x4 : Int) (μ : Mi) : B_X7_mayBits_80 (n + 1) x2 x3 x4 μ = F_X7_mayBits_80 (B_X7_mayBits_80 n) x2 x3 x4 μ := rfl
def B_X7_mayBits_71 (k20 : (Int → Int → Int → Mi → Option (Int × Mi))) (x2 : Int) (x3 : Int) (x4 : Int) (μ : Mi) : Option (Int × Mi) :=
  k20 x2 x3 (x4 + 1) μ
def F_X7_mayBits_20 (k20 : (Int → Int → Int → Mi → Option (Int × Mi))) (x2 : Int) (x3 : Int) (x4 : Int) (μ : Mi) : Option (Int × Mi) :=
  if 1120 ≤ (w32 x4) then
    B_X7_mayBits_80 FU x2 x3 0 μ
  else
    if 0 ≤ (w32 ((x2 * 1120) + x4)) ∧ (w32 ((x2 * 1120) + x4)) < 108640 then
    if (w32 (rd μ 72 false (ix ((x2 * 1120) + x4)))) = 0 then
      B_X7_mayBits_71 k20 x2 x3 x4 μ
    else
      if 0 ≤ (w32 ((x2 * 1120) + x4)) ∧ (w32 ((x2 * 1120) + x4)) < 108640 then
      if (w32 (rd μ 70 false (ix ((x2 * 1120) + x4)))) ≤ 0 then
        B_X7_mayBits_71 k20 x2 x3 x4 μ
      else
        B_X7_mayBits_71 k20 x2 (ior x3 (ishl 1 (idiv x4 140))) x4 μ
      else none
    else none
def B_X7_mayBits_20 (n : Nat) : Int → Int → Int → Mi → Option (Int × Mi) := lp (F_X7_mayBits_20) (fun _ _ _ _ => none) n
theorem B_X7_mayBits_20_s (n : Nat) (x2 : Int) (x3 : Int) (x4 : Int) (μ : Mi) : B_X7_mayBits_20 (n + 1) x2 x3 x4 μ = F_X7_mayBits_20 (B_X7_mayBits_20 n) x2 x3 x4 μ := rfl
def D_X7_mayBits (x1 : Int) (x2 : Int) (μ : Mi) : Option (Int × Mi) :=
  bm (D_X7_sets x1 0 μ) fun m1 =>
  bd (D_X7_counts m1) fun r2 m2 =>
  if ¬ (w32 r2) = 0 then
    B_X7_mayBits_20 FU x2 0 0 m2
  else
    some (0, m2)
/-- StampTalesModel.ones -/
def F_X7_ones_4 (k4 : (Int → Int → Int → Option Int)) (x0 : Int) (x1 : Int) (x2 : Int) : Option Int :=
  if 16 ≤ (w32 x2) then
    some x1
  else
    k4 x0 (x1 + (iand (ishr x0 x2) 1)) (x2 + 1)
def B_X7_ones_4 (n : Nat) : Int → Int → Int → Option Int := lp (F_X7_ones_4) (fun _ _ _ => none) n
theorem B_X7_ones_4_s (n : Nat) (x0 : Int) (x1 : Int) (x2 : Int) : B_X7_ones_4 (n + 1) x0 x1 x2 = F_X7_ones_4 (B_X7_ones_4 n) x0 x1 x2 := rfl
def D_X7_ones (x0 : Int) : Option Int :=
  B_X7_ones_4 FU x0 0 0
/-- StampTalesModel.may -/
def D_X7_may (x1 : Int) (x2 : Int) (μ : Mi) : Option (Int × Mi) :=
  if (w32 (D_X7_isMan x1 μ)) = 0 then
    some ((-1), μ)
  else
    if 0 ≤ (w32 x1) ∧ (w32 x1) < 2 then
    if (w32 (D_X7_in x2 0 (rd μ 55 false (ix x1)))) = 0 then
      some ((-1), μ)
    else
      bd (D_X7_mayBits x1 x2 μ) fun r3 m3 =>
      some (r3, m3)
    else none
/-- StampTalesModel.surely -/
def F_X7_surely_51 (k51 : (Int → Int → Mi → Option (Int × Mi))) (x3 : Int) (x4 : Int) (μ : Mi) : Option (Int × Mi) :=
  if (w32 (ishr x3 x4)) = 1 then
    some (x4, μ)
  else
    k51 x3 (x4 + 1) μ
def B_X7_surely_51 (n : Nat) : Int → Int → Mi → Option (Int × Mi) := lp (F_X7_surely_51) (fun _ _ _ => none) n
theorem B_X7_surely_51_s (n : Nat) (x3 : Int) (x4 : Int) (μ : Mi) : B_X7_surely_51 (n + 1) x3 x4 μ = F_X7_surely_51 (B_X7_surely_51 n) x3 x4 μ := rfl
def D_X7_surely (x1 : Int) (x2 : Int) (μ : Mi) : Option (Int × Mi) :=
  if (w32 (D_X7_isMan x1 μ)) = 0 then
    some ((-1), μ)
  else
    if 0 ≤ (w32 x1) ∧ (w32 x1) < 2 then
    if ¬ (w32 (D_X7_in x2 0 (rd μ 55 false (ix x1)))) = 0 then
      bd (D_X7_mayBits x1 x2 μ) fun r3 m3 =>
      bp (D_X7_ones r3) fun r4 =>
      if ¬ (w32 r4) = 1 then
        some ((-1), m3)
      else
        if ¬ (w32 r3) = 256 then
          B_X7_surely_51 FU r3 0 m3
        else
          some ((-1), m3)
    else
      some ((-1), μ)
    else none
/-- StampTalesModel.price -/
def D_X7_price (x1 : Int) (x2 : Int) (μ : Mi) : Option Int :=
  if ¬ (w32 x1) = (-1) then
    if (w32 x2) = 0 then
      some 1
    else
      bp (D_X7_ofLink x1 4 μ) fun r1 =>
      some r1
  else
    some 0
/-- StampTalesModel.leasts -/
def B_X7_leasts_211 (k10 : (Int → Int → Int → Mi → Option (Int × Mi))) (k17 : (Int → Int → Int → Int → Mi → Option (Int × Mi))) (x1 : Int) (x2 : Int) (x3 : Int) (x4 : Int) (μ : Mi) : Option (Int × Mi) :=
  k17 x1 x2 x3 (x4 + 1) μ
def B_X7_leasts_205 (k10 : (Int → Int → Int → Mi → Option (Int × Mi))) (k17 : (Int → Int → Int → Int → Mi → Option (Int × Mi))) (k95 : (Int → Int → Int → Int → Int → Int → Mi → Option (Int × Mi))) (x1 : Int) (x2 : Int) (x3 : Int) (x4 : Int) (x5 : Int) (x6 : Int) (μ : Mi) : Option (Int × Mi) :=
  k95 x1 x2 x3 x4 x5 (x6 + 1) μ
def B_X7_leasts_204 (k10 : (Int → Int → Int → Mi → Option (Int × Mi))) (k17 : (Int → Int → Int → Int → Mi → Option (Int × Mi))) (k95 : (Int → Int → Int → Int → Int → Int → Mi → Option (Int × Mi))) (x1 : Int) (x2 : Int) (x3 : Int) (x4 : Int) (x5 : Int) (x6 : Int) (s0 : Int) (s1 : Int) (μ : Mi) : Option (Int × Mi) :=
  if 0 ≤ (w32 s1) ∧ (w32 s1) < 108640 then
  B_X7_leasts_205 k10 k17 k95 x1 x2 x3 x4 x5 x6 (wr μ 71 false (ix s1) s0)
  else none
def F_X7_leasts_95 (k10 : (Int → Int → Int → Mi → Option (Int × Mi))) (k17 : (Int → Int → Int → Int → Mi → Option (Int × Mi))) (k95 : (Int → Int → Int → Int → Int → Int → Mi → Option (Int × Mi))) (x1 : Int) (x2 : Int) (x3 : Int) (x4 : Int) (x5 : Int) (x6 : Int) (μ : Mi) : Option (Int × Mi) :=
  if (w32 (rd μ 7 false 20)) ≤ (w32 x6) then
    B_X7_leasts_211 k10 k17 x1 x2 x3 x4 μ
  else
    bd (D_X7_goes x3 x4 x6 μ) fun r1 m1 =>
    if (w32 r1) = (-1) then
      B_X7_leasts_205 k10 k17 k95 x1 x2 x3 x4 x5 x6 m1
    else
      if 0 ≤ (w32 (((rd m1 7 false 44) * 1120) + r1)) ∧ (w32 (((rd m1 7 false 44) * 1120) + r1)) < 108640 then
      if ¬ (w32 (rd m1 71 false (ix (((rd m1 7 false 44) * 1120) + r1)))) = 1000000 then
        if 0 ≤ (w32 (((rd m1 7 false 44) * 1120) + r1)) ∧ (w32 (((rd m1 7 false 44) * 1120) + r1)) < 108640 then
        bp (D_X7_price x6 x1 m1) fun r2 =>
        if 0 ≤ (w32 x5) ∧ (w32 x5) < 108640 then
        if (w32 (rd m1 71 false (ix x5))) ≤ (w32 ((rd m1 71 false (ix (((rd m1 7 false 44) * 1120) + r1))) + (x2 * r2))) then
          if 0 ≤ (w32 x5) ∧ (w32 x5) < 108640 then
          B_X7_leasts_204 k10 k17 k95 x1 x2 x3 x4 x5 x6 (rd m1 71 false (ix x5)) x5 m1
          else none
        else
          B_X7_leasts_204 k10 k17 k95 x1 x2 x3 x4 x5 x6 ((rd m1 71 false (ix (((rd m1 7 false 44) * 1120) + r1))) + (x2 * r2)) x5 m1
        else none
        else none
      else
        B_X7_leasts_205 k10 k17 k95 x1 x2 x3 x4 x5 x6 m1
      else none
def B_X7_leasts_95 (k10 : (Int → Int → Int → Mi → Option (Int × Mi))) (k17 : (Int → Int → Int → Int → Mi → Option (Int × Mi))) (n : Nat) : Int → Int → Int → Int → Int → Int → Mi → Option (Int × Mi) := lp (F_X7_leasts_95 k10 k17) (fun _ _ _ _ _ _ _ => none) n
theorem B_X7_leasts_95_s (k10 : (Int → Int → Int → Mi → Option (Int × Mi))) (k17 : (Int → Int → Int → Int → Mi → Option (Int × Mi))) (n : Nat) (x1 : Int) (x2 : Int) (x3 : Int) (x4 : Int) (x5 : Int) (x6 : Int) (μ : Mi) : B_X7_leasts_95 k10 k17 (n + 1) x1 x2 x3 x4 x5 x6 μ = F_X7_leasts_95 k10 k17 (B_X7_leasts_95 k10 k17 n) x1 x2 x3 x4 x5 x6 μ := rfl
def F_X7_leasts_17 (k10 : (Int → Int → Int → Mi → Option (Int × Mi))) (k17 : (Int → Int → Int → Int → Mi → Option (Int × Mi))) (x1 : Int) (x2 : Int) (x3 : Int) (x4 : Int) (μ : Mi) : Option (Int × Mi) :=
  if 1120 ≤ (w32 x4) then
    k10 x1 x2 (x3 + (-1)) μ
  else
    if 0 ≤ (w32 ((x3 * 1120) + x4)) ∧ (w32 ((x3 * 1120) + x4)) < 108640 then
    if 0 ≤ (w32 ((x3 * 1120) + x4)) ∧ (w32 ((x3 * 1120) + x4)) < 108640 then
    if (w32 (rd μ 72 false (ix ((x3 * 1120) + x4)))) = 0 then
      B_X7_leasts_211 k10 k17 x1 x2 x3 x4 (wr μ 71 false (ix ((x3 * 1120) + x4)) 1000000)
    else
      if 0 ≤ (w32 ((x3 * 1120) + x4)) ∧ (w32 ((x3 * 1120) + x4)) < 108640 then
      if ¬ (w32 (rd μ 70 false (ix ((x3 * 1120) + x4)))) = 0 then
        if 0 ≤ (w32 (rd μ 7 false 36)) ∧ (w32 (rd μ 7 false 36)) < 2 then
        if ¬ (w32 x3) = (w32 (rd μ 55 false (ix (rd μ 7 false 36)))) then
          B_X7_leasts_95 k10 k17 FU x1 x2 x3 x4 ((x3 * 1120) + x4) (-1) (wr μ 71 false (ix ((x3 * 1120) + x4)) 1000000)
        else
          if 0 ≤ (w32 ((x3 * 1120) + x4)) ∧ (w32 ((x3 * 1120) + x4)) < 108640 then
          B_X7_leasts_211 k10 k17 x1 x2 x3 x4 (wr (wr μ 71 false (ix ((x3 * 1120) + x4)) 1000000) 71 false (ix ((x3 * 1120) + x4)) 0)
          else none
        else none
      else
        B_X7_leasts_211 k10 k17 x1 x2 x3 x4 (wr μ 71 false (ix ((x3 * 1120) + x4)) 1000000)
      else none
    else none
    else none
def B_X7_leasts_17 (k10 : (Int → Int → Int → Mi → Option (Int × Mi))) (n : Nat) : Int → Int → Int → Int → Mi → Option (Int × Mi) := lp (F_X7_leasts_17 k10) (fun _ _ _ _ _ => none) n
theorem B_X7_leasts_17_s (k10 : (Int → Int → Int → Mi → Option (Int × Mi))) (n : Nat) (x1 : Int) (x2 : Int) (x3 : Int) (x4 : Int) (μ : Mi) : B_X7_leasts_17 k10 (n + 1) x1 x2 x3 x4 μ = F_X7_leasts_17 k10 (B_X7_leasts_17 k10 n) x1 x2 x3 x4 μ := rfl
def F_X7_leasts_10 (k10 : (Int → Int → Int → Mi → Option (Int × Mi))) (x1 : Int) (x2 : Int) (x3 : Int) (μ : Mi) : Option (Int × Mi) :=
  if (w32 x3) < 0 then
    bp (D_X7_start μ) fun r1 =>
    if 0 ≤ (w32 r1) ∧ (w32 r1) < 108640 then
    some ((x2 * (rd μ 71 false (ix r1))), μ)
    else none
  else
    B_X7_leasts_17 k10 FU x1 x2 x3 0 μ
def B_X7_leasts_10 (n : Nat) : Int → Int → Int → Mi → Option (Int × Mi) := lp (F_X7_leasts_10) (fun _ _ _ _ => none) n
theorem B_X7_leasts_10_s (n : Nat) (x1 : Int) (x2 : Int) (x3 : Int) (μ : Mi) : B_X7_leasts_10 (n + 1) x1 x2 x3 μ = F_X7_leasts_10 (B_X7_leasts_10 n) x1 x2 x3 μ := rfl
def D_X7_leasts (x1 : Int) (x2 : Int) (μ : Mi) : Option (Int × Mi) :=
  if 0 ≤ (w32 (rd μ 7 false 36)) ∧ (w32 (rd μ 7 false 36)) < 2 then
  B_X7_leasts_10 FU x1 x2 (rd μ 55 false (ix (rd μ 7 false 36))) μ
  else none
/-- StampTalesModel.extreme -/
def B_X7_extreme_58 (s0 : Int) (s1 : Int) (μ : Mi) : Option (Int × Mi) :=
  bd (D_X7_leasts s1 s0 μ) fun r1 m1 =>
  some (r1, m1)
def B_X7_extreme_47 (x2 : Int) (s0 : Int) (μ : Mi) : Option (Int × Mi) :=
  if ¬ (w32 (irem x2 2)) = 0 then
    B_X7_extreme_58 (-1) s0 μ
  else
    B_X7_extreme_58 1 s0 μ
def D_X7_extreme (x1 : Int) (x2 : Int) (μ : Mi) : Option (Int × Mi) :=
  if (w32 (D_X7_isMan x1 μ)) = 0 then
    some ((-1), μ)
  else
    if ¬ (w32 (D_X7_in x2 0 3)) = 0 then
      bm (D_X7_sets x1 0 μ) fun m3 =>
      bd (D_X7_counts m3) fun r4 m4 =>
      if ¬ (w32 r4) = 0 then
        if 2 ≤ (w32 x2) then
          B_X7_extreme_47 x2 0 m4
        else
          B_X7_extreme_47 x2 1 m4
      else
        some ((-1), m4)
    else
      some ((-1), μ)
/-- StampTalesModel.tale -/
def B_X7_tale_146 (k48 : (Int → Int → Int → Int → Mi → Option (Int × Mi))) (k77 : (Int → Int → Int → Int → Int → Int → Mi → Option (Int × Mi))) (x2 : Int) (x3 : Int) (x4 : Int) (x5 : Int) (x6 : Int) (μ : Mi) : Option (Int × Mi) :=
  bd (D_X7_goes x4 x5 (x6 + 1) μ) fun r1 m1 =>
  k77 x2 x3 x4 x5 (x6 + 1) r1 m1
def B_X7_tale_187 (k48 : (Int → Int → Int → Int → Mi → Option (Int × Mi))) (x2 : Int) (x3 : Int) (x7 : Int) (μ : Mi) : Option (Int × Mi) :=
  k48 x2 x3 (rd μ 7 false 44) x7 μ
def F_X7_tale_77 (k48 : (Int → Int → Int → Int → Mi → Option (Int × Mi))) (k77 : (Int → Int → Int → Int → Int → Int → Mi → Option (Int × Mi))) (x2 : Int) (x3 : Int) (x4 : Int) (x5 : Int) (x6 : Int) (x7 : Int) (μ : Mi) : Option (Int × Mi) :=
  if (w32 x7) = (-1) then
    B_X7_tale_146 k48 k77 x2 x3 x4 x5 x6 μ
  else
    if 0 ≤ (w32 (((rd μ 7 false 44) * 1120) + x7)) ∧ (w32 (((rd μ 7 false 44) * 1120) + x7)) < 108640 then
    if (w32 (rd μ 71 false (ix (((rd μ 7 false 44) * 1120) + x7)))) = 1000000 then
      B_X7_tale_146 k48 k77 x2 x3 x4 x5 x6 μ
    else
      if 0 ≤ (w32 (((rd μ 7 false 44) * 1120) + x7)) ∧ (w32 (((rd μ 7 false 44) * 1120) + x7)) < 108640 then
      bp (D_X7_price x6 1 μ) fun r1 =>
      if 0 ≤ (w32 ((x4 * 1120) + x5)) ∧ (w32 ((x4 * 1120) + x5)) < 108640 then
      if (w32 ((rd μ 71 false (ix (((rd μ 7 false 44) * 1120) + x7))) + r1)) = (w32 (rd μ 71 false (ix ((x4 * 1120) + x5)))) then
        if (w32 x6) = (-1) then
          B_X7_tale_187 k48 x2 x3 x7 μ
        else
          if ¬ (w32 x3) = (w32 x2) then
            B_X7_tale_187 k48 x2 (x3 + 1) x7 μ
          else
            some (((100 * x6) + x4), μ)
      else
        B_X7_tale_146 k48 k77 x2 x3 x4 x5 x6 μ
      else none
      else none
    else none
def B_X7_tale_77 (k48 : (Int → Int → Int → Int → Mi → Option (Int × Mi))) (n : Nat) : Int → Int → Int → Int → Int → Int → Mi → Option (Int × Mi) := lp (F_X7_tale_77 k48) (fun _ _ _ _ _ _ _ => none) n
theorem B_X7_tale_77_s (k48 : (Int → Int → Int → Int → Mi → Option (Int × Mi))) (n : Nat) (x2 : Int) (x3 : Int) (x4 : Int) (x5 : Int) (x6 : Int) (x7 : Int) (μ : Mi) : B_X7_tale_77 k48 (n + 1) x2 x3 x4 x5 x6 x7 μ = F_X7_tale_77 k48 (B_X7_tale_77 k48 n) x2 x3 x4 x5 x6 x7 μ := rfl
def F_X7_tale_48 (k48 : (Int → Int → Int → Int → Mi → Option (Int × Mi))) (x2 : Int) (x3 : Int) (x4 : Int) (x5 : Int) (μ : Mi) : Option (Int × Mi) :=
  if 0 ≤ (w32 (rd μ 7 false 36)) ∧ (w32 (rd μ 7 false 36)) < 2 then
  if (w32 (rd μ 55 false (ix (rd μ 7 false 36)))) ≤ (w32 x4) then
    if ¬ (w32 x2) = (-1) then
      some ((-1), μ)
    else
      some (x3, μ)
  else
    bd (D_X7_goes x4 x5 (-1) μ) fun r1 m1 =>
    B_X7_tale_77 k48 FU x2 x3 x4 x5 (-1) r1 m1
  else none
def B_X7_tale_48 (n : Nat) : Int → Int → Int → Int → Mi → Option (Int × Mi) := lp (F_X7_tale_48) (fun _ _ _ _ _ => none) n
theorem B_X7_tale_48_s (n : Nat) (x2 : Int) (x3 : Int) (x4 : Int) (x5 : Int) (μ : Mi) : B_X7_tale_48 (n + 1) x2 x3 x4 x5 μ = F_X7_tale_48 (B_X7_tale_48 n) x2 x3 x4 x5 μ := rfl
def D_X7_tale (x1 : Int) (x2 : Int) (μ : Mi) : Option (Int × Mi) :=
  if (w32 (D_X7_isMan x1 μ)) = 0 then
    some ((-1), μ)
  else
    if (-1) ≤ (w32 x2) then
      bm (D_X7_sets x1 0 μ) fun m2 =>
      bd (D_X7_counts m2) fun r3 m3 =>
      if ¬ (w32 r3) = 0 then
        bd (D_X7_leasts 1 1 m3) fun r4 m4 =>
        bp (D_X7_start m4) fun r5 =>
        B_X7_tale_48 FU x2 0 0 r5 m4
      else
        some ((-1), m3)
    else
      some ((-1), μ)
/-- StampTalesModel.toDoubt -/
def B_X7_toDoubt_118 (k56 : (Int → Int → Int → Mi → Option (Int × Mi))) (k69 : (Int → Int → Int → Int → Mi → Option (Int × Mi))) (x1 : Int) (x2 : Int) (x3 : Int) (x4 : Int) (μ : Mi) : Option (Int × Mi) :=
  k69 x1 x2 x3 (x4 + 1) μ
def F_X7_toDoubt_69 (k56 : (Int → Int → Int → Mi → Option (Int × Mi))) (k69 : (Int → Int → Int → Int → Mi → Option (Int × Mi))) (x1 : Int) (x2 : Int) (x3 : Int) (x4 : Int) (μ : Mi) : Option (Int × Mi) :=
  if 0 ≤ (w32 x1) ∧ (w32 x1) < 2 then
  if (w32 (ishl 1 (rd μ 56 false (ix x1)))) ≤ (w32 x4) then
    k56 x1 x2 (x3 + 1) μ
  else
    bp (D_X7_ones x4) fun r1 =>
    if ¬ (w32 r1) = (w32 x3) then
      B_X7_toDoubt_118 k56 k69 x1 x2 x3 x4 μ
    else
      if (w32 (iand x4 x2)) = 0 then
        bm (D_X7_sets x1 x4 μ) fun m2 =>
        bd (D_X7_finds m2) fun r3 m3 =>
        if (w32 r3) = 0 then
          B_X7_toDoubt_118 k56 k69 x1 x2 x3 x4 m3
        else
          some (x4, m3)
      else
        B_X7_toDoubt_118 k56 k69 x1 x2 x3 x4 μ
  else none
def B_X7_toDoubt_69 (k56 : (Int → Int → Int → Mi → Option (Int × Mi))) (n : Nat) : Int → Int → Int → Int → Mi → Option (Int × Mi) := lp (F_X7_toDoubt_69 k56) (fun _ _ _ _ _ => none) n
theorem B_X7_toDoubt_69_s (k56 : (Int → Int → Int → Mi → Option (Int × Mi))) (n : Nat) (x1 : Int) (x2 : Int) (x3 : Int) (x4 : Int) (μ : Mi) : B_X7_toDoubt_69 k56 (n + 1) x1 x2 x3 x4 μ = F_X7_toDoubt_69 k56 (B_X7_toDoubt_69 k56 n) x1 x2 x3 x4 μ := rfl
def F_X7_toDoubt_56 (k56 : (Int → Int → Int → Mi → Option (Int × Mi))) (x1 : Int) (x2 : Int) (x3 : Int) (μ : Mi) : Option (Int × Mi) :=
  if 0 ≤ (w32 x1) ∧ (w32 x1) < 2 then
  if (w32 (rd μ 56 false (ix x1))) < (w32 x3) then
    some ((-1), μ)
  else
    B_X7_toDoubt_69 k56 FU x1 x2 x3 0 μ
  else none
def B_X7_toDoubt_56 (n : Nat) : Int → Int → Int → Mi → Option (Int × Mi) := lp (F_X7_toDoubt_56) (fun _ _ _ _ => none) n
theorem B_X7_toDoubt_56_s (n : Nat) (x1 : Int) (x2 : Int) (x3 : Int) (μ : Mi) : B_X7_toDoubt_56 (n + 1) x1 x2 x3 μ = F_X7_toDoubt_56 (B_X7_toDoubt_56 n) x1 x2 x3 μ := rfl
def B_X7_toDoubt_46 (k14 : (Int → Int → Int → Mi → Option (Int × Mi))) (x1 : Int) (x3 : Int) (s0 : Int) (s1 : Int) (μ : Mi) : Option (Int × Mi) :=
  k14 x1 (ior s1 s0) (x3 + 1) μ
def F_X7_toDoubt_14 (k14 : (Int → Int → Int → Mi → Option (Int × Mi))) (x1 : Int) (x2 : Int) (x3 : Int) (μ : Mi) : Option (Int × Mi) :=
  if 0 ≤ (w32 x1) ∧ (w32 x1) < 2 then
  if (w32 (rd μ 56 false (ix x1))) ≤ (w32 x3) then
    B_X7_toDoubt_56 FU x1 x2 0 μ
  else
    if 0 ≤ (w32 ((8 * x1) + x3)) ∧ (w32 ((8 * x1) + x3)) < 16 then
    if (w32 (rd μ 62 false (ix ((8 * x1) + x3)))) = 0 then
      B_X7_toDoubt_46 k14 x1 x3 0 x2 μ
    else
      B_X7_toDoubt_46 k14 x1 x3 (ishl 1 x3) x2 μ
    else none
  else none
def B_X7_toDoubt_14 (n : Nat) : Int → Int → Int → Mi → Option (Int × Mi) := lp (F_X7_toDoubt_14) (fun _ _ _ _ => none) n
theorem B_X7_toDoubt_14_s (n : Nat) (x1 : Int) (x2 : Int) (x3 : Int) (μ : Mi) : B_X7_toDoubt_14 (n + 1) x1 x2 x3 μ = F_X7_toDoubt_14 (B_X7_toDoubt_14 n) x1 x2 x3 μ := rfl
def D_X7_toDoubt (x1 : Int) (μ : Mi) : Option (Int × Mi) :=
  if ¬ (w32 (D_X7_isMan x1 μ)) = 0 then
    B_X7_toDoubt_14 FU x1 0 0 μ
  else
    some ((-1), μ)
/-- StampTalesModel.away -/
def B_X7_away_85 (k26 : (Int → Int → Int → Int → Mi → Option (Int × Mi))) (x1 : Int) (x2 : Int) (x3 : Int) (x4 : Int) (μ : Mi) : Option (Int × Mi) :=
  k26 x1 x2 x3 (x4 + 1) μ
def F_X7_away_26 (k26 : (Int → Int → Int → Int → Mi → Option (Int × Mi))) (x1 : Int) (x2 : Int) (x3 : Int) (x4 : Int) (μ : Mi) : Option (Int × Mi) :=
  if 0 ≤ (w32 x1) ∧ (w32 x1) < 2 then
  if (w32 (rd μ 56 false (ix x1))) ≤ (w32 x4) then
    some (x3, μ)
  else
    if 0 ≤ (w32 ((8 * x1) + x4)) ∧ (w32 ((8 * x1) + x4)) < 16 then
    if (w32 (rd μ 62 false (ix ((8 * x1) + x4)))) = 0 then
      bm (D_X7_sets x1 (ishl 1 x4) μ) fun m1 =>
      bd (D_X7_counts m1) fun r2 m2 =>
      if (w32 x2) < (w32 r2) then
        B_X7_away_85 k26 x1 r2 x4 x4 m2
      else
        B_X7_away_85 k26 x1 x2 x3 x4 m2
    else
      B_X7_away_85 k26 x1 x2 x3 x4 μ
    else none
  else none
def B_X7_away_26 (n : Nat) : Int → Int → Int → Int → Mi → Option (Int × Mi) := lp (F_X7_away_26) (fun _ _ _ _ _ => none) n
theorem B_X7_away_26_s (n : Nat) (x1 : Int) (x2 : Int) (x3 : Int) (x4 : Int) (μ : Mi) : B_X7_away_26 (n + 1) x1 x2 x3 x4 μ = F_X7_away_26 (B_X7_away_26 n) x1 x2 x3 x4 μ := rfl
def D_X7_away (x1 : Int) (μ : Mi) : Option (Int × Mi) :=
  if ¬ (w32 (D_X7_isMan x1 μ)) = 0 then
    bm (D_X7_sets x1 0 μ) fun m2 =>
    bd (D_X7_counts m2) fun r3 m3 =>
    B_X7_away_26 FU x1 r3 (-1) 0 m3
  else
    some ((-1), μ)
/-- StampTalesModel.met -/
def D_X7_met (x1 : Int) (x2 : Int) (μ : Mi) : Option (Int × Mi) :=
  if (w32 (rd μ 7 false 17)) = 0 then
    some ((-1), μ)
  else
    if (w32 (D_X7_in x1 0 (rd μ 55 false 0))) = 0 then
      some ((-1), μ)
    else
      if (w32 x1) ≤ (w32 (rd μ 55 false 1)) then
        if ¬ (w32 x2) = 0 then
          bd (D_X7_surely 0 x1 μ) fun r2 m2 =>
          if (w32 r2) = (-1) then
            some (0, m2)
          else
            bd (D_X7_surely 1 x1 m2) fun r3 m3 =>
            if ¬ (w32 r2) = (w32 r3) then
              some (0, m3)
            else
              some ((ishl 1 r2), m3)
        else
          bd (D_X7_mayBits 0 x1 μ) fun r2 m2 =>
          bd (D_X7_mayBits 1 x1 m2) fun r3 m3 =>
          some ((iand (iand r2 r3) 255), m3)
      else
        some ((-1), μ)
/-- StampTalesModel.leg -/
def D_X7_leg (x1 : Int) (x2 : Int) (μ : Mi) : Option (Int × Mi) :=
  bp (D_X7_isLink x1 μ) fun r1 =>
  if (w32 r1) = 0 then
    some ((-1), μ)
  else
    if (w32 (D_X7_in x2 0 96)) = 0 then
      some ((-1), μ)
    else
      if ¬ (w32 (rd μ 7 false 32)) = 20 then
        if 0 ≤ (w32 (rd μ 7 false 32)) ∧ (w32 (rd μ 7 false 32)) < 20 then
        if 0 ≤ (w32 (rd μ 7 false 32)) ∧ (w32 (rd μ 7 false 32)) < 20 then
        some (((rd μ 7 false 32) + 1), (wr (wr (wr μ 63 false (ix (rd μ 7 false 32)) x1) 64 false (ix (rd μ 7 false 32)) x2) 7 false 32 ((rd μ 7 false 32) + 1)))
        else none
        else none
      else
        some ((-1), μ)
/-- StampTalesModel.forget -/
def D_X7_forget (μ : Mi) : Option (Int × Mi) :=
  some ((rd μ 7 false 32), (wr μ 7 false 32 0))
/-- StampTalesModel.follows -/
def B_X7_follows_255 (x2 : Int) (μ : Mi) : Option (Int × Mi) :=
  if 0 ≤ (w32 (rd μ 7 false 36)) ∧ (w32 (rd μ 7 false 36)) < 2 then
  if 0 ≤ (w32 (rd μ 55 false (ix (rd μ 7 false 36)))) ∧ (w32 (rd μ 55 false (ix (rd μ 7 false 36)))) < 97 then
  some ((-1), (wr μ 73 false (ix (rd μ 55 false (ix (rd μ 7 false 36)))) x2))
  else none
  else none
def F_X7_follows_211 (k14 : (Int → Int → Int → Mi → Option (Int × Mi))) (k211 : (Int → Int → Int → Mi → Option (Int × Mi))) (x1 : Int) (x3 : Int) (x5 : Int) (μ : Mi) : Option (Int × Mi) :=
  if (w32 x5) ≤ (w32 x1) then
    if 0 ≤ (w32 x3) ∧ (w32 x3) < 20 then
    bp (D_X7_ofLink (rd μ 63 false (ix x3)) 1 μ) fun r1 =>
    k14 x1 r1 (x3 + 1) μ
    else none
  else
    if 0 ≤ (w32 x1) ∧ (w32 x1) < 97 then
    if 0 ≤ (w32 x1) ∧ (w32 x1) < 97 then
    k211 (x1 + 1) x3 x5 (wr (wr μ 73 false (ix x1) (-1)) 74 false (ix x1) 0)
    else none
    else none
def B_X7_follows_211 (k14 : (Int → Int → Int → Mi → Option (Int × Mi))) (n : Nat) : Int → Int → Int → Mi → Option (Int × Mi) := lp (F_X7_follows_211 k14) (fun _ _ _ _ => none) n
theorem B_X7_follows_211_s (k14 : (Int → Int → Int → Mi → Option (Int × Mi))) (n : Nat) (x1 : Int) (x3 : Int) (x5 : Int) (μ : Mi) : B_X7_follows_211 k14 (n + 1) x1 x3 x5 μ = F_X7_follows_211 k14 (B_X7_follows_211 k14 n) x1 x3 x5 μ := rfl
def F_X7_follows_142 (k14 : (Int → Int → Int → Mi → Option (Int × Mi))) (k142 : (Int → Int → Int → Int → Mi → Option (Int × Mi))) (x1 : Int) (x2 : Int) (x3 : Int) (x4 : Int) (μ : Mi) : Option (Int × Mi) :=
  if (w32 x4) ≤ (w32 x1) then
    if ¬ (w32 x3) = (w32 (rd μ 7 false 32)) then
      if 0 ≤ (w32 x1) ∧ (w32 x1) < 97 then
      if 0 ≤ (w32 x1) ∧ (w32 x1) < 97 then
      if 0 ≤ (w32 x3) ∧ (w32 x3) < 20 then
      bp (D_X7_ofLink (rd μ 63 false (ix x3)) 3 (wr (wr μ 73 false (ix x1) x2) 74 false (ix x1) 0)) fun r1 =>
      B_X7_follows_211 k14 FU (x1 + 1) x3 (x1 + r1) (wr (wr μ 73 false (ix x1) x2) 74 false (ix x1) 0)
      else none
      else none
      else none
    else
      B_X7_follows_255 x2 μ
  else
    if 0 ≤ (w32 x1) ∧ (w32 x1) < 97 then
    if 0 ≤ (w32 x1) ∧ (w32 x1) < 97 then
    k142 (x1 + 1) x2 x3 x4 (wr (wr μ 73 false (ix x1) x2) 74 false (ix x1) 1)
    else none
    else none
def B_X7_follows_142 (k14 : (Int → Int → Int → Mi → Option (Int × Mi))) (n : Nat) : Int → Int → Int → Int → Mi → Option (Int × Mi) := lp (F_X7_follows_142 k14) (fun _ _ _ _ _ => none) n
theorem B_X7_follows_142_s (k14 : (Int → Int → Int → Mi → Option (Int × Mi))) (n : Nat) (x1 : Int) (x2 : Int) (x3 : Int) (x4 : Int) (μ : Mi) : B_X7_follows_142 k14 (n + 1) x1 x2 x3 x4 μ = F_X7_follows_142 k14 (B_X7_follows_142 k14 n) x1 x2 x3 x4 μ := rfl
def B_X7_follows_87 (k14 : (Int → Int → Int → Mi → Option (Int × Mi))) (x1 : Int) (x2 : Int) (x3 : Int) (x4 : Int) (x5 : Int) (s0 : Int) (μ : Mi) : Option (Int × Mi) :=
  if (w32 x4) < (w32 x1) then
    some (x3, μ)
  else
    bp (D_X7_ofLink x5 0 μ) fun r1 =>
    if ¬ (w32 r1) = (w32 x2) then
      some (x3, μ)
    else
      bp (D_X7_ofLink x5 2 μ) fun r2 =>
      if ¬ (w32 r2) = (w32 s0) then
        some (x3, μ)
      else
        bp (D_X7_ofLink x5 3 μ) fun r3 =>
        if 0 ≤ (w32 (rd μ 7 false 36)) ∧ (w32 (rd μ 7 false 36)) < 2 then
        if (w32 (x4 + r3)) ≤ (w32 (rd μ 55 false (ix (rd μ 7 false 36)))) then
          B_X7_follows_142 k14 FU x1 x2 x3 x4 μ
        else
          some (x3, μ)
        else none
def B_X7_follows_48 (k14 : (Int → Int → Int → Mi → Option (Int × Mi))) (x1 : Int) (x2 : Int) (x3 : Int) (s0 : Int) (μ : Mi) : Option (Int × Mi) :=
  if (w32 (rd μ 7 false 32)) ≤ (w32 x3) then
    B_X7_follows_142 k14 FU x1 x2 x3 s0 μ
  else
    if 0 ≤ (w32 x3) ∧ (w32 x3) < 20 then
    bp (D_X7_ofLink (rd μ 63 false (ix x3)) 5 μ) fun r1 =>
    if ¬ (w32 r1) = 1 then
      B_X7_follows_87 k14 x1 x2 x3 s0 (rd μ 63 false (ix x3)) s0 μ
    else
      B_X7_follows_87 k14 x1 x2 x3 s0 (rd μ 63 false (ix x3)) (irem s0 24) μ
    else none
def F_X7_follows_14 (k14 : (Int → Int → Int → Mi → Option (Int × Mi))) (x1 : Int) (x2 : Int) (x3 : Int) (μ : Mi) : Option (Int × Mi) :=
  if (w32 (rd μ 7 false 32)) < (w32 x3) then
    B_X7_follows_255 x2 μ
  else
    if ¬ (w32 x3) = (w32 (rd μ 7 false 32)) then
      if 0 ≤ (w32 x3) ∧ (w32 x3) < 20 then
      B_X7_follows_48 k14 x1 x2 x3 (rd μ 64 false (ix x3)) μ
      else none
    else
      if 0 ≤ (w32 (rd μ 7 false 36)) ∧ (w32 (rd μ 7 false 36)) < 2 then
      B_X7_follows_48 k14 x1 x2 x3 (rd μ 55 false (ix (rd μ 7 false 36))) μ
      else none
def B_X7_follows_14 (n : Nat) : Int → Int → Int → Mi → Option (Int × Mi) := lp (F_X7_follows_14) (fun _ _ _ _ => none) n
theorem B_X7_follows_14_s (n : Nat) (x1 : Int) (x2 : Int) (x3 : Int) (μ : Mi) : B_X7_follows_14 (n + 1) x1 x2 x3 μ = F_X7_follows_14 (B_X7_follows_14 n) x1 x2 x3 μ := rfl
def D_X7_follows (μ : Mi) : Option (Int × Mi) :=
  if 0 ≤ (w32 (rd μ 7 false 36)) ∧ (w32 (rd μ 7 false 36)) < 2 then
  B_X7_follows_14 FU 0 (rd μ 53 false (ix (rd μ 7 false 36))) 0 μ
  else none
/-- StampTalesModel.sleepless -/
def B_X7_sleepless_54 (k2 : (Int → Mi → Option Int)) (k28 : (Int → Int → Int → Mi → Option Int)) (x1 : Int) (x3 : Int) (s0 : Int) (s1 : Int) (μ : Mi) : Option Int :=
  k28 x1 (s1 + s0) (x3 + 1) μ
def F_X7_sleepless_28 (k2 : (Int → Mi → Option Int)) (k28 : (Int → Int → Int → Mi → Option Int)) (x1 : Int) (x2 : Int) (x3 : Int) (μ : Mi) : Option Int :=
  if (w32 ((24 * x1) + 8)) ≤ (w32 x3) then
    if 0 ≤ (w32 (rd μ 7 false 36)) ∧ (w32 (rd μ 7 false 36)) < 2 then
    if (w32 (rd μ 54 false (ix (rd μ 7 false 36)))) ≤ (w32 x2) then
      k2 (x1 + 1) μ
    else
      some x1
    else none
  else
    if 0 ≤ (w32 x3) ∧ (w32 x3) < 97 then
    if (w32 (rd μ 74 false (ix x3))) = 0 then
      B_X7_sleepless_54 k2 k28 x1 x3 0 x2 μ
    else
      B_X7_sleepless_54 k2 k28 x1 x3 1 x2 μ
    else none
def B_X7_sleepless_28 (k2 : (Int → Mi → Option Int)) (n : Nat) : Int → Int → Int → Mi → Option Int := lp (F_X7_sleepless_28 k2) (fun _ _ _ _ => none) n
theorem B_X7_sleepless_28_s (k2 : (Int → Mi → Option Int)) (n : Nat) (x1 : Int) (x2 : Int) (x3 : Int) (μ : Mi) : B_X7_sleepless_28 k2 (n + 1) x1 x2 x3 μ = F_X7_sleepless_28 k2 (B_X7_sleepless_28 k2 n) x1 x2 x3 μ := rfl
def F_X7_sleepless_2 (k2 : (Int → Mi → Option Int)) (x1 : Int) (μ : Mi) : Option Int :=
  if 0 ≤ (w32 (rd μ 7 false 36)) ∧ (w32 (rd μ 7 false 36)) < 2 then
  if (w32 (rd μ 55 false (ix (rd μ 7 false 36)))) < (w32 ((24 * x1) + 8)) then
    some (-1)
  else
    B_X7_sleepless_28 k2 FU x1 0 (24 * x1) μ
  else none
def B_X7_sleepless_2 (n : Nat) : Int → Mi → Option Int := lp (F_X7_sleepless_2) (fun _ _ => none) n
theorem B_X7_sleepless_2_s (n : Nat) (x1 : Int) (μ : Mi) : B_X7_sleepless_2 (n + 1) x1 μ = F_X7_sleepless_2 (B_X7_sleepless_2 n) x1 μ := rfl
def D_X7_sleepless (μ : Mi) : Option Int :=
  B_X7_sleepless_2 FU 0 μ
/-- StampTalesModel.wrongStamp -/
def B_X7_wrongStamp_141 (k4 : (Int → Int → Mi → Option Int)) (x1 : Int) (x2 : Int) (μ : Mi) : Option Int :=
  k4 x1 (x2 + 1) μ
def B_X7_wrongStamp_122 (k4 : (Int → Int → Mi → Option Int)) (k40 : (Int → Int → Int → Int → Int → Mi → Option Int)) (x1 : Int) (x2 : Int) (x3 : Int) (x4 : Int) (x5 : Int) (s0 : Int) (μ : Mi) : Option Int :=
  if ¬ (w32 s0) = (-1) then
    k40 s0 x2 x3 x4 (x5 + 1) μ
  else
    some x1
def F_X7_wrongStamp_40 (k4 : (Int → Int → Mi → Option Int)) (k40 : (Int → Int → Int → Int → Int → Mi → Option Int)) (x1 : Int) (x2 : Int) (x3 : Int) (x4 : Int) (x5 : Int) (μ : Mi) : Option Int :=
  if 2 ≤ (w32 x5) then
    B_X7_wrongStamp_141 k4 x1 x2 μ
  else
    if 0 ≤ (w32 x3) ∧ (w32 x3) < 8 then
    if 0 ≤ (w32 x4) ∧ (w32 x4) < 8 then
    if (w32 (rd μ 50 false (ix x3))) = (w32 (rd μ 50 false (ix x4))) then
      B_X7_wrongStamp_141 k4 x1 x2 μ
    else
      if ¬ (w32 x5) = 0 then
        if 0 ≤ (w32 x4) ∧ (w32 x4) < 8 then
        if 0 ≤ (w32 x2) ∧ (w32 x2) < 20 then
        if 0 ≤ (w32 x2) ∧ (w32 x2) < 20 then
        bp (D_X7_ofLink (rd μ 63 false (ix x2)) 3 μ) fun r1 =>
        bp (D_X7_stamped x1 (rd μ 50 false (ix x4)) 0 ((rd μ 64 false (ix x2)) + r1) x4 μ) fun r2 =>
        B_X7_wrongStamp_122 k4 k40 x1 x2 x3 x4 x5 r2 μ
        else none
        else none
        else none
      else
        if 0 ≤ (w32 x3) ∧ (w32 x3) < 8 then
        if 0 ≤ (w32 x2) ∧ (w32 x2) < 20 then
        bp (D_X7_stamped x1 (rd μ 50 false (ix x3)) 1 (rd μ 64 false (ix x2)) x3 μ) fun r1 =>
        B_X7_wrongStamp_122 k4 k40 x1 x2 x3 x4 x5 r1 μ
        else none
        else none
    else none
    else none
def B_X7_wrongStamp_40 (k4 : (Int → Int → Mi → Option Int)) (n : Nat) : Int → Int → Int → Int → Int → Mi → Option Int := lp (F_X7_wrongStamp_40 k4) (fun _ _ _ _ _ _ => none) n
theorem B_X7_wrongStamp_40_s (k4 : (Int → Int → Mi → Option Int)) (n : Nat) (x1 : Int) (x2 : Int) (x3 : Int) (x4 : Int) (x5 : Int) (μ : Mi) : B_X7_wrongStamp_40 k4 (n + 1) x1 x2 x3 x4 x5 μ = F_X7_wrongStamp_40 k4 (B_X7_wrongStamp_40 k4 n) x1 x2 x3 x4 x5 μ := rfl
def F_X7_wrongStamp_4 (k4 : (Int → Int → Mi → Option Int)) (x1 : Int) (x2 : Int) (μ : Mi) : Option Int :=
  if (w32 (rd μ 7 false 32)) ≤ (w32 x2) then
    if ¬ (w32 x1) = (w32 (rd μ 7 false 37)) then
      some x1
    else
      some (-1)
  else
    if 0 ≤ (w32 x2) ∧ (w32 x2) < 20 then
    bp (D_X7_ofLink (rd μ 63 false (ix x2)) 0 μ) fun r1 =>
    if 0 ≤ (w32 x2) ∧ (w32 x2) < 20 then
    bp (D_X7_ofLink (rd μ 63 false (ix x2)) 1 μ) fun r2 =>
    B_X7_wrongStamp_40 k4 FU x1 x2 r1 r2 0 μ
    else none
    else none
def B_X7_wrongStamp_4 (n : Nat) : Int → Int → Mi → Option Int := lp (F_X7_wrongStamp_4) (fun _ _ _ => none) n
theorem B_X7_wrongStamp_4_s (n : Nat) (x1 : Int) (x2 : Int) (μ : Mi) : B_X7_wrongStamp_4 (n + 1) x1 x2 μ = F_X7_wrongStamp_4 (B_X7_wrongStamp_4 n) x1 x2 μ := rfl
def D_X7_wrongStamp (μ : Mi) : Option Int :=
  B_X7_wrongStamp_4 FU 0 0 μ
/-- StampTalesModel.barred -/
def B_X7_barred_225 (k65 : (Int → Int → Mi → Option (Int × Mi))) (k73 : (Int → Int → Int → Mi → Option (Int × Mi))) (x1 : Int) (x3 : Int) (x4 : Int) (μ : Mi) : Option (Int × Mi) :=
  k73 x1 x3 (x4 + 1) μ
def B_X7_barred_208 (k65 : (Int → Int → Mi → Option (Int × Mi))) (k73 : (Int → Int → Int → Mi → Option (Int × Mi))) (x1 : Int) (x3 : Int) (x4 : Int) (x6 : Int) (μ : Mi) : Option (Int × Mi) :=
  if ¬ (w32 x6) = 0 then
    B_X7_barred_225 k65 k73 x1 x3 x4 μ
  else
    some (((300 + (100 * x3)) + x4), μ)
def B_X7_barred_200 (k65 : (Int → Int → Mi → Option (Int × Mi))) (k73 : (Int → Int → Int → Mi → Option (Int × Mi))) (k150 : (Int → Int → Int → Int → Int → Int → Mi → Option (Int × Mi))) (x1 : Int) (x3 : Int) (x4 : Int) (x5 : Int) (x7 : Int) (s0 : Int) (μ : Mi) : Option (Int × Mi) :=
  k150 x1 x3 x4 x5 s0 (x7 + 1) μ
def B_X7_barred_195 (k65 : (Int → Int → Mi → Option (Int × Mi))) (k73 : (Int → Int → Int → Mi → Option (Int × Mi))) (k150 : (Int → Int → Int → Int → Int → Int → Mi → Option (Int × Mi))) (x1 : Int) (x3 : Int) (x4 : Int) (x5 : Int) (x7 : Int) (μ : Mi) : Option (Int × Mi) :=
  B_X7_barred_200 k65 k73 k150 x1 x3 x4 x5 x7 1 μ
def F_X7_barred_150 (k65 : (Int → Int → Mi → Option (Int × Mi))) (k73 : (Int → Int → Int → Mi → Option (Int × Mi))) (k150 : (Int → Int → Int → Int → Int → Int → Mi → Option (Int × Mi))) (x1 : Int) (x3 : Int) (x4 : Int) (x5 : Int) (x6 : Int) (x7 : Int) (μ : Mi) : Option (Int × Mi) :=
  if 0 ≤ (w32 x5) ∧ (w32 x5) < 16 then
  if (w32 (rd μ 60 false (ix x5))) < (w32 x7) then
    B_X7_barred_208 k65 k73 x1 x3 x4 x6 μ
  else
    if 0 ≤ (w32 x1) ∧ (w32 x1) < 2 then
    if (w32 (rd μ 55 false (ix x1))) < (w32 x7) then
      B_X7_barred_208 k65 k73 x1 x3 x4 x6 μ
    else
      if ¬ (w32 x6) = 0 then
        B_X7_barred_195 k65 k73 k150 x1 x3 x4 x5 x7 μ
      else
        if 0 ≤ (w32 x7) ∧ (w32 x7) < 97 then
        if 0 ≤ (w32 x5) ∧ (w32 x5) < 16 then
        if ¬ (w32 (rd μ 73 false (ix x7))) = (w32 (rd μ 58 false (ix x5))) then
          B_X7_barred_200 k65 k73 k150 x1 x3 x4 x5 x7 0 μ
        else
          B_X7_barred_195 k65 k73 k150 x1 x3 x4 x5 x7 μ
        else none
        else none
    else none
  else none
def B_X7_barred_150 (k65 : (Int → Int → Mi → Option (Int × Mi))) (k73 : (Int → Int → Int → Mi → Option (Int × Mi))) (n : Nat) : Int → Int → Int → Int → Int → Int → Mi → Option (Int × Mi) := lp (F_X7_barred_150 k65 k73) (fun _ _ _ _ _ _ _ => none) n
theorem B_X7_barred_150_s (k65 : (Int → Int → Mi → Option (Int × Mi))) (k73 : (Int → Int → Int → Mi → Option (Int × Mi))) (n : Nat) (x1 : Int) (x3 : Int) (x4 : Int) (x5 : Int) (x6 : Int) (x7 : Int) (μ : Mi) : B_X7_barred_150 k65 k73 (n + 1) x1 x3 x4 x5 x6 x7 μ = F_X7_barred_150 k65 k73 (B_X7_barred_150 k65 k73 n) x1 x3 x4 x5 x6 x7 μ := rfl
def B_X7_barred_138 (k65 : (Int → Int → Mi → Option (Int × Mi))) (k73 : (Int → Int → Int → Mi → Option (Int × Mi))) (x1 : Int) (x3 : Int) (x4 : Int) (x5 : Int) (μ : Mi) : Option (Int × Mi) :=
  if 0 ≤ (w32 x5) ∧ (w32 x5) < 16 then
  B_X7_barred_150 k65 k73 FU x1 x3 x4 x5 0 (rd μ 59 false (ix x5)) μ
  else none
def F_X7_barred_73 (k65 : (Int → Int → Mi → Option (Int × Mi))) (k73 : (Int → Int → Int → Mi → Option (Int × Mi))) (x1 : Int) (x3 : Int) (x4 : Int) (μ : Mi) : Option (Int × Mi) :=
  if 0 ≤ (w32 x1) ∧ (w32 x1) < 2 then
  if (w32 (rd μ 56 false (ix x1))) ≤ (w32 x4) then
    k65 x1 (x3 + 1) μ
  else
    if 0 ≤ (w32 ((8 * x1) + x4)) ∧ (w32 ((8 * x1) + x4)) < 16 then
    if ¬ (w32 (rd μ 62 false (ix ((8 * x1) + x4)))) = 0 then
      B_X7_barred_225 k65 k73 x1 x3 x4 μ
    else
      if 0 ≤ (w32 ((8 * x1) + x4)) ∧ (w32 ((8 * x1) + x4)) < 16 then
      if ¬ (w32 (rd μ 57 false (ix ((8 * x1) + x4)))) = (w32 x3) then
        B_X7_barred_225 k65 k73 x1 x3 x4 μ
      else
        if ¬ (w32 x3) = 1 then
          B_X7_barred_138 k65 k73 x1 x3 x4 ((8 * x1) + x4) μ
        else
          if 0 ≤ (w32 ((8 * x1) + x4)) ∧ (w32 ((8 * x1) + x4)) < 16 then
          if 0 ≤ (w32 x1) ∧ (w32 x1) < 2 then
          if (w32 (rd μ 59 false (ix ((8 * x1) + x4)))) ≤ (w32 (rd μ 55 false (ix x1))) then
            B_X7_barred_138 k65 k73 x1 x3 x4 ((8 * x1) + x4) μ
          else
            B_X7_barred_225 k65 k73 x1 x3 x4 μ
          else none
          else none
      else none
    else none
  else none
def B_X7_barred_73 (k65 : (Int → Int → Mi → Option (Int × Mi))) (n : Nat) : Int → Int → Int → Mi → Option (Int × Mi) := lp (F_X7_barred_73 k65) (fun _ _ _ _ => none) n
theorem B_X7_barred_73_s (k65 : (Int → Int → Mi → Option (Int × Mi))) (n : Nat) (x1 : Int) (x3 : Int) (x4 : Int) (μ : Mi) : B_X7_barred_73 k65 (n + 1) x1 x3 x4 μ = F_X7_barred_73 k65 (B_X7_barred_73 k65 n) x1 x3 x4 μ := rfl
def F_X7_barred_65 (k65 : (Int → Int → Mi → Option (Int × Mi))) (x1 : Int) (x3 : Int) (μ : Mi) : Option (Int × Mi) :=
  if 2 < (w32 x3) then
    some (0, μ)
  else
    B_X7_barred_73 k65 FU x1 x3 0 μ
def B_X7_barred_65 (n : Nat) : Int → Int → Mi → Option (Int × Mi) := lp (F_X7_barred_65) (fun _ _ _ => none) n
theorem B_X7_barred_65_s (n : Nat) (x1 : Int) (x3 : Int) (μ : Mi) : B_X7_barred_65 (n + 1) x1 x3 μ = F_X7_barred_65 (B_X7_barred_65 n) x1 x3 μ := rfl
def D_X7_barred (x1 : Int) (μ : Mi) : Option (Int × Mi) :=
  if ¬ (w32 (D_X7_isMan x1 μ)) = 0 then
    bm (D_X7_sets x1 0 μ) fun m2 =>
    bd (D_X7_follows m2) fun r3 m3 =>
    if (w32 r3) = (-1) then
      bp (D_X7_sleepless m3) fun r4 =>
      if (w32 r4) = (-1) then
        bp (D_X7_wrongStamp m3) fun r5 =>
        if (w32 r5) = (-1) then
          B_X7_barred_65 FU x1 1 m3
        else
          some ((300 + r5), m3)
      else
        some ((200 + r4), m3)
    else
      some ((100 + r3), m3)
  else
    some ((-1), μ)
/-- StampTalesModel.count -/
def D_X7_count (x1 : Int) (μ : Mi) : Int :=
  if (w32 x1) = 0 then
    (rd μ 7 false 15)
  else if (w32 x1) = 1 then
    (rd μ 7 false 17)
  else if (w32 x1) = 2 then
    (rd μ 7 false 20)
  else if (w32 x1) = 3 then
    (rd μ 56 false 0)
  else if (w32 x1) = 4 then
    (rd μ 56 false 1)
  else if (w32 x1) = 5 then
    (rd μ 7 false 32)
  else if (w32 x1) = 6 then
    (rd μ 7 false 1)
  else
    (-1)
