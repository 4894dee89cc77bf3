/-! The row of numbers that whole speaks of, as a program on numbers alone (no machine in it): a middle between the class and the law. -/
def f_X7_thrown (v : MV) : Option (Int32) :=
  some v.2.2.2.2.2.2.2.1
def f_X7_in (p0 : Int32) (p1 : Int32) (p2 : Int32) : Option (Bool) :=
  if p0 < p1 then
    some false
  else
    if p2 < p0 then
      some false
    else
      some true
def f_X7_fails (v : MV) (p0 : Int32) : Option (Int32 × MV) :=
  some (0, (v.1, v.2.1, v.2.2.1, v.2.2.2.1, v.2.2.2.2.1, v.2.2.2.2.2.1, v.2.2.2.2.2.2.1, p0, v.2.2.2.2.2.2.2.2.1, v.2.2.2.2.2.2.2.2.2.1, v.2.2.2.2.2.2.2.2.2.2))
def f_X7_tells (v : MV) (p0 : Int32) : Option (Int32 × MV) :=
  some (p0, (v.1, v.2.1, v.2.2.1, v.2.2.2.1, v.2.2.2.2.1, v.2.2.2.2.2.1, v.2.2.2.2.2.2.1, 0, v.2.2.2.2.2.2.2.2.1, v.2.2.2.2.2.2.2.2.2.1, v.2.2.2.2.2.2.2.2.2.2))
def s_X7_copies_2 (G0 : FF) (G1 : FF) (x : Int32 × FF) : Option ((Int32 × FF) ⊕ (Int32 × FF)) :=
  if 220 ≤ x.1 then
    some (.inr (x.1, x.2))
  else
    if zin x.1 220 = true then
    if zin x.1 220 = true then
    some (.inl ((x.1 + 1), (upd x.2 x.1.toNatClampNeg (G0 x.1.toNatClampNeg))))
    else none
    else none
def f_X7_copies (G0 : FF) (G1 : FF) : Option (FF) :=
  (zloop (s_X7_copies_2 G0 G1) 4096 (0, G1)).bind (fun u4 =>
  some u4.2)
def s_X7_save_56 (v : MV) (x : Int32 × FF) : Option ((Int32 × FF) ⊕ (Int32 × FF)) :=
  if 220 ≤ x.1 then
    some (.inr (x.1, x.2))
  else
    if zin x.1 220 = true then
    if zin ((220 * v.2.2.2.2.1) + x.1) 880 = true then
    some (.inl ((x.1 + 1), (upd x.2 (((220 * v.2.2.2.2.1) + x.1).toNatClampNeg) (v.1 x.1.toNatClampNeg))))
    else none
    else none
def s_X7_save_15 (v : MV) (x : Int32 × FF) : Option ((Int32 × FF) ⊕ (Int32 × FF)) :=
  if 660 ≤ x.1 then
    some (.inr (x.1, x.2))
  else
    if zin (x.1 + 220) 880 = true then
    if zin x.1 880 = true then
    some (.inl ((x.1 + 1), (upd x.2 x.1.toNatClampNeg (x.2 (x.1 + 220).toNatClampNeg))))
    else none
    else none
def f_X7_save (v : MV) : Option (MV) :=
  if v.2.2.2.2.1 = 4 then
    (zloop (s_X7_save_15 (v.1, v.2.1, v.2.2.1, v.2.2.2.1, v.2.2.2.2.1, v.2.2.2.2.2.1, v.2.2.2.2.2.2.1, 0, v.2.2.2.2.2.2.2.2.1, v.2.2.2.2.2.2.2.2.2.1, v.2.2.2.2.2.2.2.2.2.2)) 4096 (0, v.2.1)).bind (fun u9 =>
    (zloop (s_X7_save_56 (v.1, u9.2, v.2.2.1, v.2.2.2.1, (v.2.2.2.2.1 - 1), v.2.2.2.2.2.1, v.2.2.2.2.2.2.1, 0, v.2.2.2.2.2.2.2.2.1, v.2.2.2.2.2.2.2.2.2.1, v.2.2.2.2.2.2.2.2.2.2)) 4096 (0, u9.2)).bind (fun u10 =>
    some (v.1, u10.2, v.2.2.1, v.2.2.2.1, ((v.2.2.2.2.1 - 1) + 1), v.2.2.2.2.2.1, v.2.2.2.2.2.2.1, 0, v.2.2.2.2.2.2.2.2.1, v.2.2.2.2.2.2.2.2.2.1, v.2.2.2.2.2.2.2.2.2.2)))
  else
    (zloop (s_X7_save_56 (v.1, v.2.1, v.2.2.1, v.2.2.2.1, v.2.2.2.2.1, v.2.2.2.2.2.1, v.2.2.2.2.2.2.1, 0, v.2.2.2.2.2.2.2.2.1, v.2.2.2.2.2.2.2.2.2.1, v.2.2.2.2.2.2.2.2.2.2)) 4096 (0, v.2.1)).bind (fun u5 =>
    some (v.1, u5.2, v.2.2.1, v.2.2.2.1, (v.2.2.2.2.1 + 1), v.2.2.2.2.2.1, v.2.2.2.2.2.2.1, 0, v.2.2.2.2.2.2.2.2.1, v.2.2.2.2.2.2.2.2.2.1, v.2.2.2.2.2.2.2.2.2.2))
def f_X7_isElement (v : MV) (p0 : Int32) : Option (Bool) :=
  if p0 < 0 then
    some false
  else
    if (v.1 7) ≤ p0 then
      some false
    else
      some true
def f_X7_isFiller (v : MV) (p0 : Int32) : Option (Bool) :=
  if p0 < 0 then
    some false
  else
    if (v.1 8) ≤ p0 then
      some false
    else
      some true
def f_X7_of (v : MV) (p0 : Int32) (p1 : Int32) : Option (Int32) :=
  if zin ((10 + (5 * p0)) + p1) 220 = true then
  some (v.1 ((10 + (5 * p0)) + p1).toNatClampNeg)
  else none
def f_X7_ofFiller (v : MV) (p0 : Int32) (p1 : Int32) : Option (Int32) :=
  if zin ((70 + (3 * p0)) + p1) 220 = true then
  some (v.1 ((70 + (3 * p0)) + p1).toNatClampNeg)
  else none
def f_X7_waits (v : MV) (p0 : Int32) : Option (Bool) :=
  (f_X7_of v p0 3).bind (fun u1 =>
  if u1 = 0 then
    some true
  else
    some false)
def f_X7_isFixed (v : MV) (p0 : Int32) : Option (Bool) :=
  (f_X7_of v p0 1).bind (fun u1 =>
  if u1 = (-1) then
    some false
  else
    some true)
def s_X7_nextFixed_2 (v : MV) (x : Int32) : Option ((Int32) ⊕ (Int32)) :=
  if (v.1 7) ≤ x then
    some (.inr x)
  else
    (f_X7_waits v x).bind (fun u2 =>
    if (zb u2) = 0 then
      some (.inl (x + 1))
    else
      (f_X7_isFixed v x).bind (fun u4 =>
      if (zb u4) = 0 then
        some (.inl (x + 1))
      else
        some (.inr x)))
def f_X7_nextFixed (v : MV) (p0 : Int32) : Option (Int32) :=
  (zloop (s_X7_nextFixed_2 v) 4096 p0).bind (fun u6 =>
  some u6)
def f_X7_timeAt (v : MV) (p0 : Int32) : Option (Int32) :=
  if p0 = (v.1 7) then
    some 3600
  else
    (f_X7_of v p0 1).bind (fun u2 =>
    some u2)
def f_X7_goal (v : MV) : Option (Int32) :=
  (f_X7_nextFixed v 0).bind (fun u1 =>
  (f_X7_timeAt v u1).bind (fun u2 =>
  some u2))
def f_X7_isInSection (v : MV) (p0 : Int32) : Option (Bool) :=
  (f_X7_waits v p0).bind (fun u1 =>
  if (zb u1) = 0 then
    some false
  else
    (f_X7_nextFixed v 0).bind (fun u3 =>
    if u3 ≤ p0 then
      some false
    else
      some true))
def s_X7_sectionLength_4 (v : MV) (i1 : Int32) (x : Int32 × Int32) : Option ((Int32 × Int32) ⊕ (Int32 × Int32)) :=
  if i1 ≤ x.2 then
    some (.inr (x.1, x.2))
  else
    (f_X7_waits v x.2).bind (fun u2 =>
    if (zb u2) = 0 then
      some (.inl ((x.1 + 0), (x.2 + 1)))
    else
      (f_X7_of v x.2 0).bind (fun u4 =>
      some (.inl ((x.1 + u4), (x.2 + 1)))))
def f_X7_sectionLength (v : MV) (p0 : Int32) : Option (Int32) :=
  (zloop (s_X7_sectionLength_4 v p0) 4096 (0, 0)).bind (fun u5 =>
  some u5.1)
def s_X7_lowest_4 (v : MV) (i1 : Int32) (x : Int32 × Int32) : Option ((Int32 × Int32) ⊕ (Int32 × Int32)) :=
  if i1 ≤ x.2 then
    some (.inr (x.1, x.2))
  else
    (f_X7_waits v x.2).bind (fun u2 =>
    if (zb u2) = 0 then
      some (.inl (x.1, (x.2 + 1)))
    else
      (f_X7_of v x.2 2).bind (fun u4 =>
      if 9 ≤ u4 then
        some (.inl (x.1, (x.2 + 1)))
      else
        if x.1 = (-1) then
          some (.inl (x.2, (x.2 + 1)))
        else
          (f_X7_of v x.2 2).bind (fun u7 =>
          (f_X7_of v x.1 2).bind (fun u8 =>
          if u8 < u7 then
            some (.inl (x.1, (x.2 + 1)))
          else
            some (.inl (x.2, (x.2 + 1)))))))
def f_X7_lowest (v : MV) (p0 : Int32) : Option (Int32) :=
  (zloop (s_X7_lowest_4 v p0) 4096 ((-1), 0)).bind (fun u10 =>
  some u10.1)
def s_X7_firstWaiting_2 (v : MV) (i1 : Int32) (x : Int32) : Option ((Int32) ⊕ (Int32)) :=
  if i1 ≤ x then
    some (.inr x)
  else
    (f_X7_waits v x).bind (fun u2 =>
    if (zb u2) = 0 then
      some (.inl (x + 1))
    else
      some (.inr x))
def f_X7_firstWaiting (v : MV) (p0 : Int32) : Option (Int32) :=
  (zloop (s_X7_firstWaiting_2 v p0) 4096 0).bind (fun u4 =>
  if u4 = p0 then
    some (-1)
  else
    some u4)
def f_X7_logs (v : MV) (p0 : Int32) (p1 : Int32) : Option (MV) :=
  if zin (100 + (3 * (v.1 9))) 220 = true then
  if zin ((100 + (3 * (v.1 9))) + 1) 220 = true then
  if zin ((100 + (3 * (v.1 9))) + 2) 220 = true then
  some ((upd (upd (upd (upd v.1 ((100 + (3 * (v.1 9))).toNatClampNeg) (v.1 0)) (((100 + (3 * (v.1 9))) + 1).toNatClampNeg) p0) (((100 + (3 * (v.1 9))) + 2).toNatClampNeg) p1) 9 (((upd (upd (upd v.1 ((100 + (3 * (v.1 9))).toNatClampNeg) (v.1 0)) (((100 + (3 * (v.1 9))) + 1).toNatClampNeg) p0) (((100 + (3 * (v.1 9))) + 2).toNatClampNeg) p1) 9) + 1)), v.2.1, v.2.2.1, v.2.2.2.1, v.2.2.2.2.1, v.2.2.2.2.2.1, v.2.2.2.2.2.2.1, v.2.2.2.2.2.2.2.1, v.2.2.2.2.2.2.2.2.1, v.2.2.2.2.2.2.2.2.2.1, v.2.2.2.2.2.2.2.2.2.2)
  else none
  else none
  else none
def f_X7_lets (v : MV) (p0 : Int32) : Option (MV) :=
  if zin ((10 + (5 * p0)) + 3) 220 = true then
  (f_X7_logs ((upd v.1 (((10 + (5 * p0)) + 3).toNatClampNeg) 3), v.2.1, v.2.2.1, v.2.2.2.1, v.2.2.2.2.1, v.2.2.2.2.2.1, v.2.2.2.2.2.2.1, v.2.2.2.2.2.2.2.1, v.2.2.2.2.2.2.2.2.1, v.2.2.2.2.2.2.2.2.2.1, v.2.2.2.2.2.2.2.2.2.2) 3 p0).bind (fun u2 =>
  some u2)
  else none
def f_X7_goesOnAir (v : MV) (p0 : Int32) (p1 : Int32) (p2 : Int32) : Option (MV) :=
  (f_X7_logs ((upd (upd (upd v.1 2 p0) 3 p1) 4 (((upd (upd v.1 2 p0) 3 p1) 0) + p2)), v.2.1, v.2.2.1, v.2.2.2.1, v.2.2.2.2.1, v.2.2.2.2.2.1, v.2.2.2.2.2.2.1, v.2.2.2.2.2.2.2.1, v.2.2.2.2.2.2.2.2.1, v.2.2.2.2.2.2.2.2.2.1, v.2.2.2.2.2.2.2.2.2.2) (p0 - 1) p1).bind (fun u1 =>
  some u1)
def f_X7_beginsElement (v : MV) (p0 : Int32) : Option (MV) :=
  if zin ((10 + (5 * p0)) + 3) 220 = true then
  if zin ((10 + (5 * p0)) + 4) 220 = true then
  (f_X7_of ((upd (upd v.1 (((10 + (5 * p0)) + 3).toNatClampNeg) 1) (((10 + (5 * p0)) + 4).toNatClampNeg) ((upd v.1 (((10 + (5 * p0)) + 3).toNatClampNeg) 1) 0)), v.2.1, v.2.2.1, v.2.2.2.1, v.2.2.2.2.1, v.2.2.2.2.2.1, v.2.2.2.2.2.2.1, v.2.2.2.2.2.2.2.1, v.2.2.2.2.2.2.2.2.1, v.2.2.2.2.2.2.2.2.2.1, v.2.2.2.2.2.2.2.2.2.2) p0 0).bind (fun u3 =>
  (f_X7_goesOnAir ((upd (upd v.1 (((10 + (5 * p0)) + 3).toNatClampNeg) 1) (((10 + (5 * p0)) + 4).toNatClampNeg) ((upd v.1 (((10 + (5 * p0)) + 3).toNatClampNeg) 1) 0)), v.2.1, v.2.2.1, v.2.2.2.1, v.2.2.2.2.1, v.2.2.2.2.2.1, v.2.2.2.2.2.2.1, v.2.2.2.2.2.2.2.1, v.2.2.2.2.2.2.2.2.1, v.2.2.2.2.2.2.2.2.2.1, v.2.2.2.2.2.2.2.2.2.2) 1 p0 u3).bind (fun u4 =>
  some u4))
  else none
  else none
def f_X7_beginsFiller (v : MV) (p0 : Int32) : Option (MV) :=
  if zin ((70 + (3 * p0)) + 1) 220 = true then
  if zin ((70 + (3 * p0)) + 2) 220 = true then
  (f_X7_ofFiller ((upd (upd v.1 (((70 + (3 * p0)) + 1).toNatClampNeg) 1) (((70 + (3 * p0)) + 2).toNatClampNeg) ((upd v.1 (((70 + (3 * p0)) + 1).toNatClampNeg) 1) 0)), v.2.1, v.2.2.1, v.2.2.2.1, v.2.2.2.2.1, v.2.2.2.2.2.1, v.2.2.2.2.2.2.1, v.2.2.2.2.2.2.2.1, v.2.2.2.2.2.2.2.2.1, v.2.2.2.2.2.2.2.2.2.1, v.2.2.2.2.2.2.2.2.2.2) p0 0).bind (fun u3 =>
  (f_X7_goesOnAir ((upd (upd v.1 (((70 + (3 * p0)) + 1).toNatClampNeg) 1) (((70 + (3 * p0)) + 2).toNatClampNeg) ((upd v.1 (((70 + (3 * p0)) + 1).toNatClampNeg) 1) 0)), v.2.1, v.2.2.1, v.2.2.2.1, v.2.2.2.2.1, v.2.2.2.2.2.1, v.2.2.2.2.2.2.1, v.2.2.2.2.2.2.2.1, v.2.2.2.2.2.2.2.2.1, v.2.2.2.2.2.2.2.2.2.1, v.2.2.2.2.2.2.2.2.2.2) 2 p0 u3).bind (fun u4 =>
  some u4))
  else none
  else none
def s_X7_ones_4 (i0 : Int32) (x : Int32 × Int32) : Option ((Int32 × Int32) ⊕ (Int32 × Int32)) :=
  if 10 ≤ x.2 then
    some (.inr (x.1, x.2))
  else
    some (.inl ((x.1 + ((i0 >>> (x.2 &&& 31)) &&& 1)), (x.2 + 1)))
def f_X7_ones (p0 : Int32) : Option (Int32) :=
  (zloop (s_X7_ones_4 p0) 4096 (0, 0)).bind (fun u2 =>
  some u2.1)
def s_X7_waitingFillers_4 (v : MV) (x : Int32 × Int32) : Option ((Int32 × Int32) ⊕ (Int32 × Int32)) :=
  if (v.1 8) ≤ x.2 then
    some (.inr (x.1, x.2))
  else
    (f_X7_ofFiller v x.2 1).bind (fun u2 =>
    if u2 = 0 then
      some (.inl ((x.1 ||| (1 <<< (x.2 &&& 31))), (x.2 + 1)))
    else
      some (.inl ((x.1 ||| 0), (x.2 + 1))))
def f_X7_waitingFillers (v : MV) : Option (Int32) :=
  (zloop (s_X7_waitingFillers_4 v) 4096 (0, 0)).bind (fun u4 =>
  some u4.1)
def s_X7_lengthOf_4 (v : MV) (i1 : Int32) (x : Int32 × Int32) : Option ((Int32 × Int32) ⊕ (Int32 × Int32)) :=
  if (v.1 8) ≤ x.2 then
    some (.inr (x.1, x.2))
  else
    if ((i1 >>> (x.2 &&& 31)) &&& 1) = 1 then
      (f_X7_ofFiller v x.2 0).bind (fun u3 =>
      some (.inl ((x.1 + u3), (x.2 + 1))))
    else
      some (.inl ((x.1 + 0), (x.2 + 1)))
def f_X7_lengthOf (v : MV) (p0 : Int32) : Option (Int32) :=
  (zloop (s_X7_lengthOf_4 v p0) 4096 (0, 0)).bind (fun u4 =>
  some u4.1)
def s_X7_chosen_13 (v : MV) (i1 : Int32) (i2 : Int32) (x : Int32 × Int32 × Int32) : Option ((Int32 × Int32 × Int32) ⊕ (Int32 × Int32 × Int32)) :=
  if i2 < x.2.2 then
    some (.inr (x.1, x.2.1, x.2.2))
  else
    if (x.2.2 &&& (i2 ^^^ (-1))) = 0 then
      (f_X7_lengthOf v x.2.2).bind (fun u4 =>
      if i1 < u4 then
        some (.inl (x.1, x.2.1, (x.2.2 + 1)))
      else
        if x.2.1 < u4 then
          some (.inl (x.2.2, u4, (x.2.2 + 1)))
        else
          if u4 = x.2.1 then
            (f_X7_ones x.2.2).bind (fun u8 =>
            (f_X7_ones x.1).bind (fun u9 =>
            if u9 ≤ u8 then
              some (.inl (x.1, x.2.1, (x.2.2 + 1)))
            else
              some (.inl (x.2.2, u4, (x.2.2 + 1)))))
          else
            some (.inl (x.1, x.2.1, (x.2.2 + 1))))
    else
      some (.inl (x.1, x.2.1, (x.2.2 + 1)))
def f_X7_chosen (v : MV) (p0 : Int32) : Option (Int32) :=
  (f_X7_waitingFillers v).bind (fun u1 =>
  (zloop (s_X7_chosen_13 v p0 u1) 4096 (0, 0, 1)).bind (fun u11 =>
  some u11.1))
def s_X7_lowestOf_2 (i0 : Int32) (x : Int32) : Option ((Int32) ⊕ (Int32)) :=
  if ((i0 >>> (x &&& 31)) &&& 1) = 0 then
    some (.inl (x + 1))
  else
    some (.inr x)
def f_X7_lowestOf (p0 : Int32) : Option (Int32) :=
  (zloop (s_X7_lowestOf_2 p0) 4096 0).bind (fun u2 =>
  some u2)
def s_X7_finds_18 (v : MV) (i1 : Int32) (i2 : Int32) (x : Int32 × MV) : Option ((Int32 × MV) ⊕ (Int32 × MV)) :=
  if x.1 = (-1) then
    some (.inr (x.1, x.2))
  else
    (f_X7_sectionLength x.2 i1).bind (fun u5 =>
    if ((x.2.1 0) + u5) ≤ i2 then
      some (.inr (x.1, x.2))
    else
      (f_X7_lets x.2 x.1).bind (fun u7 =>
      (f_X7_lowest u7 i1).bind (fun u8 =>
      some (.inl (u8, u7)))))
def f_X7_finds (v : MV) : Option (MV) :=
  (f_X7_nextFixed v 0).bind (fun u1 =>
  (f_X7_timeAt v u1).bind (fun u2 =>
  (f_X7_lowest v u1).bind (fun u3 =>
  (zloop (s_X7_finds_18 v u1 u2) 4096 (u3, v)).bind (fun u9 =>
  (f_X7_firstWaiting u9.2 u1).bind (fun u10 =>
  if u10 = (-1) then
    if u2 ≤ (u9.2.1 0) then
      if (u9.2.1 7) ≤ u1 then
        some ((upd u9.2.1 1 1), u9.2.2.1, u9.2.2.2.1, u9.2.2.2.2.1, u9.2.2.2.2.2.1, u9.2.2.2.2.2.2.1, u9.2.2.2.2.2.2.2.1, u9.2.2.2.2.2.2.2.2.1, u9.2.2.2.2.2.2.2.2.2.1, u9.2.2.2.2.2.2.2.2.2.2.1, u9.2.2.2.2.2.2.2.2.2.2.2)
      else
        (f_X7_beginsElement u9.2 u1).bind (fun u14 =>
        some u14)
    else
      (f_X7_chosen u9.2 (u2 - (u9.2.1 0))).bind (fun u15 =>
      if u15 = 0 then
        (f_X7_goesOnAir u9.2 3 (-1) (u2 - (u9.2.1 0))).bind (fun u19 =>
        some u19)
      else
        (f_X7_lowestOf u15).bind (fun u17 =>
        (f_X7_beginsFiller u9.2 u17).bind (fun u18 =>
        some u18)))
  else
    (f_X7_beginsElement u9.2 u10).bind (fun u20 =>
    some u20))))))
def f_X7_endsOnAir (v : MV) : Option (MV) :=
  if (v.1 2) = 1 then
    if zin ((10 + (5 * (v.1 3))) + 3) 220 = true then
    if ((upd v.1 (((10 + (5 * (v.1 3))) + 3).toNatClampNeg) 2) 2) = 2 then
      if zin ((70 + (3 * ((upd v.1 (((10 + (5 * (v.1 3))) + 3).toNatClampNeg) 2) 3))) + 1) 220 = true then
      some ((upd (upd (upd (upd (upd v.1 (((10 + (5 * (v.1 3))) + 3).toNatClampNeg) 2) (((70 + (3 * ((upd v.1 (((10 + (5 * (v.1 3))) + 3).toNatClampNeg) 2) 3))) + 1).toNatClampNeg) 2) 2 0) 3 0) 4 0), v.2.1, v.2.2.1, v.2.2.2.1, v.2.2.2.2.1, v.2.2.2.2.2.1, v.2.2.2.2.2.2.1, v.2.2.2.2.2.2.2.1, v.2.2.2.2.2.2.2.2.1, v.2.2.2.2.2.2.2.2.2.1, v.2.2.2.2.2.2.2.2.2.2)
      else none
    else
      some ((upd (upd (upd (upd v.1 (((10 + (5 * (v.1 3))) + 3).toNatClampNeg) 2) 2 0) 3 0) 4 0), v.2.1, v.2.2.1, v.2.2.2.1, v.2.2.2.2.1, v.2.2.2.2.2.1, v.2.2.2.2.2.2.1, v.2.2.2.2.2.2.2.1, v.2.2.2.2.2.2.2.2.1, v.2.2.2.2.2.2.2.2.2.1, v.2.2.2.2.2.2.2.2.2.2)
    else none
  else
    if (v.1 2) = 2 then
      if zin ((70 + (3 * (v.1 3))) + 1) 220 = true then
      some ((upd (upd (upd (upd v.1 (((70 + (3 * (v.1 3))) + 1).toNatClampNeg) 2) 2 0) 3 0) 4 0), v.2.1, v.2.2.1, v.2.2.2.1, v.2.2.2.2.1, v.2.2.2.2.2.1, v.2.2.2.2.2.2.1, v.2.2.2.2.2.2.2.1, v.2.2.2.2.2.2.2.2.1, v.2.2.2.2.2.2.2.2.2.1, v.2.2.2.2.2.2.2.2.2.2)
      else none
    else
      some ((upd (upd (upd v.1 2 0) 3 0) 4 0), v.2.1, v.2.2.1, v.2.2.2.1, v.2.2.2.2.1, v.2.2.2.2.2.1, v.2.2.2.2.2.2.1, v.2.2.2.2.2.2.2.1, v.2.2.2.2.2.2.2.2.1, v.2.2.2.2.2.2.2.2.2.1, v.2.2.2.2.2.2.2.2.2.2)
def s_X7_goesOn_2 (v : MV) (i1 : Int32) (x : Int32 × MV) : Option ((Int32 × MV) ⊕ (Int32 × MV)) :=
  if x.1 ≤ 0 then
    some (.inr (x.1, x.2))
  else
    if (x.2.1 1) = 0 then
      if (x.2.1 2) = 0 then
        (f_X7_finds x.2).bind (fun u16 =>
        if (u16.1 1) = 0 then
          if x.1 ≤ ((u16.1 4) - (u16.1 0)) then
            if ((upd u16.1 0 ((u16.1 0) + x.1)) 2) = 3 then
              if ((upd (upd u16.1 0 ((u16.1 0) + x.1)) 5 (((upd u16.1 0 ((u16.1 0) + x.1)) 5) + x.1)) 0) = ((upd (upd u16.1 0 ((u16.1 0) + x.1)) 5 (((upd u16.1 0 ((u16.1 0) + x.1)) 5) + x.1)) 4) then
                (f_X7_endsOnAir ((upd (upd u16.1 0 ((u16.1 0) + x.1)) 5 (((upd u16.1 0 ((u16.1 0) + x.1)) 5) + x.1)), u16.2.1, u16.2.2.1, u16.2.2.2.1, u16.2.2.2.2.1, u16.2.2.2.2.2.1, u16.2.2.2.2.2.2.1, u16.2.2.2.2.2.2.2.1, u16.2.2.2.2.2.2.2.2.1, u16.2.2.2.2.2.2.2.2.2.1, u16.2.2.2.2.2.2.2.2.2.2)).bind (fun u23 =>
                some (.inl ((x.1 - x.1), u23)))
              else
                some (.inl ((x.1 - x.1), ((upd (upd u16.1 0 ((u16.1 0) + x.1)) 5 (((upd u16.1 0 ((u16.1 0) + x.1)) 5) + x.1)), u16.2.1, u16.2.2.1, u16.2.2.2.1, u16.2.2.2.2.1, u16.2.2.2.2.2.1, u16.2.2.2.2.2.2.1, u16.2.2.2.2.2.2.2.1, u16.2.2.2.2.2.2.2.2.1, u16.2.2.2.2.2.2.2.2.2.1, u16.2.2.2.2.2.2.2.2.2.2)))
            else
              if ((upd (upd u16.1 0 ((u16.1 0) + x.1)) 5 (((upd u16.1 0 ((u16.1 0) + x.1)) 5) + 0)) 0) = ((upd (upd u16.1 0 ((u16.1 0) + x.1)) 5 (((upd u16.1 0 ((u16.1 0) + x.1)) 5) + 0)) 4) then
                (f_X7_endsOnAir ((upd (upd u16.1 0 ((u16.1 0) + x.1)) 5 (((upd u16.1 0 ((u16.1 0) + x.1)) 5) + 0)), u16.2.1, u16.2.2.1, u16.2.2.2.1, u16.2.2.2.2.1, u16.2.2.2.2.2.1, u16.2.2.2.2.2.2.1, u16.2.2.2.2.2.2.2.1, u16.2.2.2.2.2.2.2.2.1, u16.2.2.2.2.2.2.2.2.2.1, u16.2.2.2.2.2.2.2.2.2.2)).bind (fun u21 =>
                some (.inl ((x.1 - x.1), u21)))
              else
                some (.inl ((x.1 - x.1), ((upd (upd u16.1 0 ((u16.1 0) + x.1)) 5 (((upd u16.1 0 ((u16.1 0) + x.1)) 5) + 0)), u16.2.1, u16.2.2.1, u16.2.2.2.1, u16.2.2.2.2.1, u16.2.2.2.2.2.1, u16.2.2.2.2.2.2.1, u16.2.2.2.2.2.2.2.1, u16.2.2.2.2.2.2.2.2.1, u16.2.2.2.2.2.2.2.2.2.1, u16.2.2.2.2.2.2.2.2.2.2)))
          else
            if ((upd u16.1 0 ((u16.1 0) + ((u16.1 4) - (u16.1 0)))) 2) = 3 then
              if ((upd (upd u16.1 0 ((u16.1 0) + ((u16.1 4) - (u16.1 0)))) 5 (((upd u16.1 0 ((u16.1 0) + ((u16.1 4) - (u16.1 0)))) 5) + ((u16.1 4) - (u16.1 0)))) 0) = ((upd (upd u16.1 0 ((u16.1 0) + ((u16.1 4) - (u16.1 0)))) 5 (((upd u16.1 0 ((u16.1 0) + ((u16.1 4) - (u16.1 0)))) 5) + ((u16.1 4) - (u16.1 0)))) 4) then
                (f_X7_endsOnAir ((upd (upd u16.1 0 ((u16.1 0) + ((u16.1 4) - (u16.1 0)))) 5 (((upd u16.1 0 ((u16.1 0) + ((u16.1 4) - (u16.1 0)))) 5) + ((u16.1 4) - (u16.1 0)))), u16.2.1, u16.2.2.1, u16.2.2.2.1, u16.2.2.2.2.1, u16.2.2.2.2.2.1, u16.2.2.2.2.2.2.1, u16.2.2.2.2.2.2.2.1, u16.2.2.2.2.2.2.2.2.1, u16.2.2.2.2.2.2.2.2.2.1, u16.2.2.2.2.2.2.2.2.2.2)).bind (fun u28 =>
                some (.inl ((x.1 - ((u16.1 4) - (u16.1 0))), u28)))
              else
                some (.inl ((x.1 - ((u16.1 4) - (u16.1 0))), ((upd (upd u16.1 0 ((u16.1 0) + ((u16.1 4) - (u16.1 0)))) 5 (((upd u16.1 0 ((u16.1 0) + ((u16.1 4) - (u16.1 0)))) 5) + ((u16.1 4) - (u16.1 0)))), u16.2.1, u16.2.2.1, u16.2.2.2.1, u16.2.2.2.2.1, u16.2.2.2.2.2.1, u16.2.2.2.2.2.2.1, u16.2.2.2.2.2.2.2.1, u16.2.2.2.2.2.2.2.2.1, u16.2.2.2.2.2.2.2.2.2.1, u16.2.2.2.2.2.2.2.2.2.2)))
            else
              if ((upd (upd u16.1 0 ((u16.1 0) + ((u16.1 4) - (u16.1 0)))) 5 (((upd u16.1 0 ((u16.1 0) + ((u16.1 4) - (u16.1 0)))) 5) + 0)) 0) = ((upd (upd u16.1 0 ((u16.1 0) + ((u16.1 4) - (u16.1 0)))) 5 (((upd u16.1 0 ((u16.1 0) + ((u16.1 4) - (u16.1 0)))) 5) + 0)) 4) then
                (f_X7_endsOnAir ((upd (upd u16.1 0 ((u16.1 0) + ((u16.1 4) - (u16.1 0)))) 5 (((upd u16.1 0 ((u16.1 0) + ((u16.1 4) - (u16.1 0)))) 5) + 0)), u16.2.1, u16.2.2.1, u16.2.2.2.1, u16.2.2.2.2.1, u16.2.2.2.2.2.1, u16.2.2.2.2.2.2.1, u16.2.2.2.2.2.2.2.1, u16.2.2.2.2.2.2.2.2.1, u16.2.2.2.2.2.2.2.2.2.1, u16.2.2.2.2.2.2.2.2.2.2)).bind (fun u26 =>
                some (.inl ((x.1 - ((u16.1 4) - (u16.1 0))), u26)))
              else
                some (.inl ((x.1 - ((u16.1 4) - (u16.1 0))), ((upd (upd u16.1 0 ((u16.1 0) + ((u16.1 4) - (u16.1 0)))) 5 (((upd u16.1 0 ((u16.1 0) + ((u16.1 4) - (u16.1 0)))) 5) + 0)), u16.2.1, u16.2.2.1, u16.2.2.2.1, u16.2.2.2.2.1, u16.2.2.2.2.2.1, u16.2.2.2.2.2.2.1, u16.2.2.2.2.2.2.2.1, u16.2.2.2.2.2.2.2.2.1, u16.2.2.2.2.2.2.2.2.2.1, u16.2.2.2.2.2.2.2.2.2.2)))
        else
          some (.inl (x.1, u16)))
      else
        if (x.2.1 1) = 0 then
          if x.1 ≤ ((x.2.1 4) - (x.2.1 0)) then
            if ((upd x.2.1 0 ((x.2.1 0) + x.1)) 2) = 3 then
              if ((upd (upd x.2.1 0 ((x.2.1 0) + x.1)) 5 (((upd x.2.1 0 ((x.2.1 0) + x.1)) 5) + x.1)) 0) = ((upd (upd x.2.1 0 ((x.2.1 0) + x.1)) 5 (((upd x.2.1 0 ((x.2.1 0) + x.1)) 5) + x.1)) 4) then
                (f_X7_endsOnAir ((upd (upd x.2.1 0 ((x.2.1 0) + x.1)) 5 (((upd x.2.1 0 ((x.2.1 0) + x.1)) 5) + x.1)), x.2.2.1, x.2.2.2.1, x.2.2.2.2.1, x.2.2.2.2.2.1, x.2.2.2.2.2.2.1, x.2.2.2.2.2.2.2.1, x.2.2.2.2.2.2.2.2.1, x.2.2.2.2.2.2.2.2.2.1, x.2.2.2.2.2.2.2.2.2.2.1, x.2.2.2.2.2.2.2.2.2.2.2)).bind (fun u10 =>
                some (.inl ((x.1 - x.1), u10)))
              else
                some (.inl ((x.1 - x.1), ((upd (upd x.2.1 0 ((x.2.1 0) + x.1)) 5 (((upd x.2.1 0 ((x.2.1 0) + x.1)) 5) + x.1)), x.2.2.1, x.2.2.2.1, x.2.2.2.2.1, x.2.2.2.2.2.1, x.2.2.2.2.2.2.1, x.2.2.2.2.2.2.2.1, x.2.2.2.2.2.2.2.2.1, x.2.2.2.2.2.2.2.2.2.1, x.2.2.2.2.2.2.2.2.2.2.1, x.2.2.2.2.2.2.2.2.2.2.2)))
            else
              if ((upd (upd x.2.1 0 ((x.2.1 0) + x.1)) 5 (((upd x.2.1 0 ((x.2.1 0) + x.1)) 5) + 0)) 0) = ((upd (upd x.2.1 0 ((x.2.1 0) + x.1)) 5 (((upd x.2.1 0 ((x.2.1 0) + x.1)) 5) + 0)) 4) then
                (f_X7_endsOnAir ((upd (upd x.2.1 0 ((x.2.1 0) + x.1)) 5 (((upd x.2.1 0 ((x.2.1 0) + x.1)) 5) + 0)), x.2.2.1, x.2.2.2.1, x.2.2.2.2.1, x.2.2.2.2.2.1, x.2.2.2.2.2.2.1, x.2.2.2.2.2.2.2.1, x.2.2.2.2.2.2.2.2.1, x.2.2.2.2.2.2.2.2.2.1, x.2.2.2.2.2.2.2.2.2.2.1, x.2.2.2.2.2.2.2.2.2.2.2)).bind (fun u8 =>
                some (.inl ((x.1 - x.1), u8)))
              else
                some (.inl ((x.1 - x.1), ((upd (upd x.2.1 0 ((x.2.1 0) + x.1)) 5 (((upd x.2.1 0 ((x.2.1 0) + x.1)) 5) + 0)), x.2.2.1, x.2.2.2.1, x.2.2.2.2.1, x.2.2.2.2.2.1, x.2.2.2.2.2.2.1, x.2.2.2.2.2.2.2.1, x.2.2.2.2.2.2.2.2.1, x.2.2.2.2.2.2.2.2.2.1, x.2.2.2.2.2.2.2.2.2.2.1, x.2.2.2.2.2.2.2.2.2.2.2)))
          else
            if ((upd x.2.1 0 ((x.2.1 0) + ((x.2.1 4) - (x.2.1 0)))) 2) = 3 then
              if ((upd (upd x.2.1 0 ((x.2.1 0) + ((x.2.1 4) - (x.2.1 0)))) 5 (((upd x.2.1 0 ((x.2.1 0) + ((x.2.1 4) - (x.2.1 0)))) 5) + ((x.2.1 4) - (x.2.1 0)))) 0) = ((upd (upd x.2.1 0 ((x.2.1 0) + ((x.2.1 4) - (x.2.1 0)))) 5 (((upd x.2.1 0 ((x.2.1 0) + ((x.2.1 4) - (x.2.1 0)))) 5) + ((x.2.1 4) - (x.2.1 0)))) 4) then
                (f_X7_endsOnAir ((upd (upd x.2.1 0 ((x.2.1 0) + ((x.2.1 4) - (x.2.1 0)))) 5 (((upd x.2.1 0 ((x.2.1 0) + ((x.2.1 4) - (x.2.1 0)))) 5) + ((x.2.1 4) - (x.2.1 0)))), x.2.2.1, x.2.2.2.1, x.2.2.2.2.1, x.2.2.2.2.2.1, x.2.2.2.2.2.2.1, x.2.2.2.2.2.2.2.1, x.2.2.2.2.2.2.2.2.1, x.2.2.2.2.2.2.2.2.2.1, x.2.2.2.2.2.2.2.2.2.2.1, x.2.2.2.2.2.2.2.2.2.2.2)).bind (fun u15 =>
                some (.inl ((x.1 - ((x.2.1 4) - (x.2.1 0))), u15)))
              else
                some (.inl ((x.1 - ((x.2.1 4) - (x.2.1 0))), ((upd (upd x.2.1 0 ((x.2.1 0) + ((x.2.1 4) - (x.2.1 0)))) 5 (((upd x.2.1 0 ((x.2.1 0) + ((x.2.1 4) - (x.2.1 0)))) 5) + ((x.2.1 4) - (x.2.1 0)))), x.2.2.1, x.2.2.2.1, x.2.2.2.2.1, x.2.2.2.2.2.1, x.2.2.2.2.2.2.1, x.2.2.2.2.2.2.2.1, x.2.2.2.2.2.2.2.2.1, x.2.2.2.2.2.2.2.2.2.1, x.2.2.2.2.2.2.2.2.2.2.1, x.2.2.2.2.2.2.2.2.2.2.2)))
            else
              if ((upd (upd x.2.1 0 ((x.2.1 0) + ((x.2.1 4) - (x.2.1 0)))) 5 (((upd x.2.1 0 ((x.2.1 0) + ((x.2.1 4) - (x.2.1 0)))) 5) + 0)) 0) = ((upd (upd x.2.1 0 ((x.2.1 0) + ((x.2.1 4) - (x.2.1 0)))) 5 (((upd x.2.1 0 ((x.2.1 0) + ((x.2.1 4) - (x.2.1 0)))) 5) + 0)) 4) then
                (f_X7_endsOnAir ((upd (upd x.2.1 0 ((x.2.1 0) + ((x.2.1 4) - (x.2.1 0)))) 5 (((upd x.2.1 0 ((x.2.1 0) + ((x.2.1 4) - (x.2.1 0)))) 5) + 0)), x.2.2.1, x.2.2.2.1, x.2.2.2.2.1, x.2.2.2.2.2.1, x.2.2.2.2.2.2.1, x.2.2.2.2.2.2.2.1, x.2.2.2.2.2.2.2.2.1, x.2.2.2.2.2.2.2.2.2.1, x.2.2.2.2.2.2.2.2.2.2.1, x.2.2.2.2.2.2.2.2.2.2.2)).bind (fun u13 =>
                some (.inl ((x.1 - ((x.2.1 4) - (x.2.1 0))), u13)))
              else
                some (.inl ((x.1 - ((x.2.1 4) - (x.2.1 0))), ((upd (upd x.2.1 0 ((x.2.1 0) + ((x.2.1 4) - (x.2.1 0)))) 5 (((upd x.2.1 0 ((x.2.1 0) + ((x.2.1 4) - (x.2.1 0)))) 5) + 0)), x.2.2.1, x.2.2.2.1, x.2.2.2.2.1, x.2.2.2.2.2.1, x.2.2.2.2.2.2.1, x.2.2.2.2.2.2.2.1, x.2.2.2.2.2.2.2.2.1, x.2.2.2.2.2.2.2.2.2.1, x.2.2.2.2.2.2.2.2.2.2.1, x.2.2.2.2.2.2.2.2.2.2.2)))
        else
          some (.inl (x.1, x.2))
    else
      some (.inr (x.1, x.2))
def f_X7_goesOn (v : MV) (p0 : Int32) : Option (Int32 × MV) :=
  (zloop (s_X7_goesOn_2 v p0) 4096 (p0, v)).bind (fun u29 =>
  some ((p0 - u29.1), u29.2))
def f_X7_foresees (v : MV) : Option (MV) :=
  (f_X7_copies v.1 v.2.2.1).bind (fun u1 =>
  (f_X7_goesOn (v.1, v.2.1, u1, v.2.2.2.1, v.2.2.2.2.1, v.2.2.2.2.2.1, v.2.2.2.2.2.2.1, v.2.2.2.2.2.2.2.1, v.2.2.2.2.2.2.2.2.1, v.2.2.2.2.2.2.2.2.2.1, v.2.2.2.2.2.2.2.2.2.2) 100000000).bind (fun u2 =>
  (f_X7_copies u2.2.1 u2.2.2.2.2.1).bind (fun u3 =>
  (f_X7_copies u2.2.2.2.1 u2.2.1).bind (fun u4 =>
  some (u4, u2.2.2.1, u2.2.2.2.1, u3, u2.2.2.2.2.2.1, u2.2.2.2.2.2.2.1, u2.2.2.2.2.2.2.2.1, u2.2.2.2.2.2.2.2.2.1, u2.2.2.2.2.2.2.2.2.2.1, u2.2.2.2.2.2.2.2.2.2.2.1, u2.2.2.2.2.2.2.2.2.2.2.2)))))
def f_X7_putElement (v : MV) (p0 : Int32) (p1 : Int32) (p2 : Int32) : Option (MV) :=
  if zin ((10 + (5 * (v.1 7))) + 0) 220 = true then
  if zin ((10 + (5 * (v.1 7))) + 1) 220 = true then
  if zin ((10 + (5 * (v.1 7))) + 2) 220 = true then
  if zin ((10 + (5 * (v.1 7))) + 3) 220 = true then
  if zin ((10 + (5 * (v.1 7))) + 4) 220 = true then
  some ((upd (upd (upd (upd (upd (upd v.1 (((10 + (5 * (v.1 7))) + 0).toNatClampNeg) p0) (((10 + (5 * (v.1 7))) + 1).toNatClampNeg) p1) (((10 + (5 * (v.1 7))) + 2).toNatClampNeg) p2) (((10 + (5 * (v.1 7))) + 3).toNatClampNeg) 0) (((10 + (5 * (v.1 7))) + 4).toNatClampNeg) (-1)) 7 (((upd (upd (upd (upd (upd v.1 (((10 + (5 * (v.1 7))) + 0).toNatClampNeg) p0) (((10 + (5 * (v.1 7))) + 1).toNatClampNeg) p1) (((10 + (5 * (v.1 7))) + 2).toNatClampNeg) p2) (((10 + (5 * (v.1 7))) + 3).toNatClampNeg) 0) (((10 + (5 * (v.1 7))) + 4).toNatClampNeg) (-1)) 7) + 1)), v.2.1, v.2.2.1, v.2.2.2.1, v.2.2.2.2.1, v.2.2.2.2.2.1, v.2.2.2.2.2.2.1, v.2.2.2.2.2.2.2.1, v.2.2.2.2.2.2.2.2.1, v.2.2.2.2.2.2.2.2.2.1, v.2.2.2.2.2.2.2.2.2.2)
  else none
  else none
  else none
  else none
  else none
def f_X7_putFiller (v : MV) (p0 : Int32) : Option (MV) :=
  if zin ((70 + (3 * (v.1 8))) + 0) 220 = true then
  if zin ((70 + (3 * (v.1 8))) + 1) 220 = true then
  if zin ((70 + (3 * (v.1 8))) + 2) 220 = true then
  some ((upd (upd (upd (upd v.1 (((70 + (3 * (v.1 8))) + 0).toNatClampNeg) p0) (((70 + (3 * (v.1 8))) + 1).toNatClampNeg) 0) (((70 + (3 * (v.1 8))) + 2).toNatClampNeg) (-1)) 8 (((upd (upd (upd v.1 (((70 + (3 * (v.1 8))) + 0).toNatClampNeg) p0) (((70 + (3 * (v.1 8))) + 1).toNatClampNeg) 0) (((70 + (3 * (v.1 8))) + 2).toNatClampNeg) (-1)) 8) + 1)), v.2.1, v.2.2.1, v.2.2.2.1, v.2.2.2.2.1, v.2.2.2.2.2.1, v.2.2.2.2.2.2.1, v.2.2.2.2.2.2.2.1, v.2.2.2.2.2.2.2.2.1, v.2.2.2.2.2.2.2.2.2.1, v.2.2.2.2.2.2.2.2.2.2)
  else none
  else none
  else none
def f_X7_addElement (v : MV) (p0 : Int32) (p1 : Int32) (p2 : Int32) : Option (Int32 × MV) :=
  (f_X7_in p0 1 1800).bind (fun u1 =>
  if (zb u1) = 0 then
    (f_X7_fails v 1).bind (fun u3 =>
    some (u3.1, u3.2))
  else
    (f_X7_in p1 (-1) 3599).bind (fun u4 =>
    if (zb u4) = 0 then
      (f_X7_fails v 1).bind (fun u6 =>
      some (u6.1, u6.2))
    else
      (f_X7_in p2 0 9).bind (fun u7 =>
      if (zb u7) = 0 then
        (f_X7_fails v 1).bind (fun u15 =>
        some (u15.1, u15.2))
      else
        if (v.1 7) = 12 then
          (f_X7_fails v 2).bind (fun u10 =>
          some (u10.1, u10.2))
        else
          if (v.1 1) = 1 then
            (f_X7_fails v 2).bind (fun u14 =>
            some (u14.1, u14.2))
          else
            (f_X7_save v).bind (fun u12 =>
            (f_X7_putElement u12 p0 p1 p2).bind (fun u13 =>
            some (((u13.1 7) - 1), u13))))))
def f_X7_addFiller (v : MV) (p0 : Int32) : Option (Int32 × MV) :=
  (f_X7_in p0 1 900).bind (fun u1 =>
  if (zb u1) = 0 then
    (f_X7_fails v 1).bind (fun u9 =>
    some (u9.1, u9.2))
  else
    if (v.1 8) = 10 then
      (f_X7_fails v 2).bind (fun u4 =>
      some (u4.1, u4.2))
    else
      if (v.1 1) = 1 then
        (f_X7_fails v 2).bind (fun u8 =>
        some (u8.1, u8.2))
      else
        (f_X7_save v).bind (fun u6 =>
        (f_X7_putFiller u6 p0).bind (fun u7 =>
        some (((u7.1 8) - 1), u7))))
def f_X7_canBe (v : MV) (p0 : Int32) (p1 : Int32) : Option (Bool) :=
  (f_X7_in p1 1 3600).bind (fun u1 =>
  if (zb u1) = 0 then
    some false
  else
    (f_X7_of v p0 3).bind (fun u3 =>
    if 2 ≤ u3 then
      some false
    else
      (f_X7_of v p0 3).bind (fun u5 =>
      if u5 = 0 then
        some true
      else
        (f_X7_of v p0 4).bind (fun u7 =>
        if (u7 + p1) < (v.1 0) then
          some false
        else
          some true))))
def f_X7_stretch (v : MV) (p0 : Int32) (p1 : Int32) : Option (Int32 × MV) :=
  (f_X7_isElement v p0).bind (fun u1 =>
  if (zb u1) = 0 then
    (f_X7_fails v 1).bind (fun u17 =>
    some (u17.1, u17.2))
  else
    (f_X7_in p1 (-1800) 1800).bind (fun u3 =>
    if (zb u3) = 0 then
      (f_X7_fails v 2).bind (fun u16 =>
      some (u16.1, u16.2))
    else
      (f_X7_of v p0 0).bind (fun u5 =>
      (f_X7_canBe v p0 (u5 + p1)).bind (fun u6 =>
      if (zb u6) = 0 then
        (f_X7_fails v 3).bind (fun u15 =>
        some (u15.1, u15.2))
      else
        (f_X7_save v).bind (fun u8 =>
        if zin ((10 + (5 * p0)) + 0) 220 = true then
        (f_X7_of ((upd u8.1 (((10 + (5 * p0)) + 0).toNatClampNeg) (u5 + p1)), u8.2.1, u8.2.2.1, u8.2.2.2.1, u8.2.2.2.2.1, u8.2.2.2.2.2.1, u8.2.2.2.2.2.2.1, u8.2.2.2.2.2.2.2.1, u8.2.2.2.2.2.2.2.2.1, u8.2.2.2.2.2.2.2.2.2.1, u8.2.2.2.2.2.2.2.2.2.2) p0 3).bind (fun u10 =>
        if u10 = 1 then
          (f_X7_of ((upd u8.1 (((10 + (5 * p0)) + 0).toNatClampNeg) (u5 + p1)), u8.2.1, u8.2.2.1, u8.2.2.2.1, u8.2.2.2.2.1, u8.2.2.2.2.2.1, u8.2.2.2.2.2.2.1, u8.2.2.2.2.2.2.2.1, u8.2.2.2.2.2.2.2.2.1, u8.2.2.2.2.2.2.2.2.2.1, u8.2.2.2.2.2.2.2.2.2.2) p0 4).bind (fun u12 =>
          if ((upd (upd u8.1 (((10 + (5 * p0)) + 0).toNatClampNeg) (u5 + p1)) 4 (u12 + (u5 + p1))) 4) = ((upd (upd u8.1 (((10 + (5 * p0)) + 0).toNatClampNeg) (u5 + p1)) 4 (u12 + (u5 + p1))) 0) then
            (f_X7_endsOnAir ((upd (upd u8.1 (((10 + (5 * p0)) + 0).toNatClampNeg) (u5 + p1)) 4 (u12 + (u5 + p1))), u8.2.1, u8.2.2.1, u8.2.2.2.1, u8.2.2.2.2.1, u8.2.2.2.2.2.1, u8.2.2.2.2.2.2.1, u8.2.2.2.2.2.2.2.1, u8.2.2.2.2.2.2.2.2.1, u8.2.2.2.2.2.2.2.2.2.1, u8.2.2.2.2.2.2.2.2.2.2)).bind (fun u14 =>
            some ((u5 + p1), u14))
          else
            some ((u5 + p1), ((upd (upd u8.1 (((10 + (5 * p0)) + 0).toNatClampNeg) (u5 + p1)) 4 (u12 + (u5 + p1))), u8.2.1, u8.2.2.1, u8.2.2.2.1, u8.2.2.2.2.1, u8.2.2.2.2.2.1, u8.2.2.2.2.2.2.1, u8.2.2.2.2.2.2.2.1, u8.2.2.2.2.2.2.2.2.1, u8.2.2.2.2.2.2.2.2.2.1, u8.2.2.2.2.2.2.2.2.2.2)))
        else
          some ((u5 + p1), ((upd u8.1 (((10 + (5 * p0)) + 0).toNatClampNeg) (u5 + p1)), u8.2.1, u8.2.2.1, u8.2.2.2.1, u8.2.2.2.2.1, u8.2.2.2.2.2.1, u8.2.2.2.2.2.2.1, u8.2.2.2.2.2.2.2.1, u8.2.2.2.2.2.2.2.2.1, u8.2.2.2.2.2.2.2.2.2.1, u8.2.2.2.2.2.2.2.2.2.2)))
        else none)))))
def s_X7_inStatus_4 (v : MV) (i1 : Int32) (x : Int32 × Int32) : Option ((Int32 × Int32) ⊕ (Int32 × Int32)) :=
  if (v.1 7) ≤ x.2 then
    some (.inr (x.1, x.2))
  else
    (f_X7_of v x.2 3).bind (fun u2 =>
    if u2 = i1 then
      some (.inl ((x.1 + 1), (x.2 + 1)))
    else
      some (.inl ((x.1 + 0), (x.2 + 1))))
def f_X7_inStatus (v : MV) (p0 : Int32) : Option (Int32) :=
  (zloop (s_X7_inStatus_4 v p0) 4096 (0, 0)).bind (fun u4 =>
  some u4.1)
def f_X7_drop (v : MV) (p0 : Int32) : Option (Int32 × MV) :=
  (f_X7_isElement v p0).bind (fun u1 =>
  if (zb u1) = 0 then
    (f_X7_fails v 1).bind (fun u9 =>
    some (u9.1, u9.2))
  else
    (f_X7_waits v p0).bind (fun u3 =>
    if (zb u3) = 0 then
      (f_X7_fails v 2).bind (fun u8 =>
      some (u8.1, u8.2))
    else
      (f_X7_save v).bind (fun u5 =>
      (f_X7_lets u5 p0).bind (fun u6 =>
      (f_X7_inStatus u6 0).bind (fun u7 =>
      some (u7, u6))))))
def f_X7_pass (v : MV) (p0 : Int32) : Option (Int32 × MV) :=
  (f_X7_in p0 1 3600).bind (fun u1 =>
  if (zb u1) = 0 then
    (f_X7_fails v 1).bind (fun u5 =>
    some (u5.1, u5.2))
  else
    (f_X7_save v).bind (fun u3 =>
    (f_X7_goesOn u3 p0).bind (fun u4 =>
    some (u4.1, u4.2))))
def f_X7_finish (v : MV) : Option (Int32 × MV) :=
  (f_X7_save v).bind (fun u1 =>
  (f_X7_goesOn u1 100000000).bind (fun u2 =>
  some (((u2.2.1 0) - 3600), u2.2)))
def s_X7_begins_38 (v : MV) (x : Int32 × FF) : Option ((Int32 × FF) ⊕ (Int32 × FF)) :=
  if (x.2 7) ≤ x.1 then
    some (.inr (x.1, x.2))
  else
    if zin ((10 + (5 * x.1)) + 3) 220 = true then
    if zin ((10 + (5 * x.1)) + 4) 220 = true then
    some (.inl ((x.1 + 1), (upd (upd x.2 (((10 + (5 * x.1)) + 3).toNatClampNeg) 0) (((10 + (5 * x.1)) + 4).toNatClampNeg) (-1))))
    else none
    else none
def s_X7_begins_85 (v : MV) (x : Int32 × FF) : Option ((Int32 × FF) ⊕ (Int32 × FF)) :=
  if (x.2 8) ≤ x.1 then
    some (.inr (x.1, x.2))
  else
    if zin ((70 + (3 * x.1)) + 1) 220 = true then
    if zin ((70 + (3 * x.1)) + 2) 220 = true then
    some (.inl ((x.1 + 1), (upd (upd x.2 (((70 + (3 * x.1)) + 1).toNatClampNeg) 0) (((70 + (3 * x.1)) + 2).toNatClampNeg) (-1))))
    else none
    else none
def f_X7_begins (v : MV) : Option (MV) :=
  (zloop (s_X7_begins_38 ((upd (upd (upd (upd (upd v.1 0 0) 1 0) 2 0) 5 0) 9 0), v.2.1, v.2.2.1, v.2.2.2.1, v.2.2.2.2.1, v.2.2.2.2.2.1, v.2.2.2.2.2.2.1, v.2.2.2.2.2.2.2.1, v.2.2.2.2.2.2.2.2.1, v.2.2.2.2.2.2.2.2.2.1, v.2.2.2.2.2.2.2.2.2.2)) 4096 (0, (upd (upd (upd (upd (upd v.1 0 0) 1 0) 2 0) 5 0) 9 0))).bind (fun u4 =>
  (zloop (s_X7_begins_85 (u4.2, v.2.1, v.2.2.1, v.2.2.2.1, v.2.2.2.2.1, v.2.2.2.2.2.1, v.2.2.2.2.2.2.1, v.2.2.2.2.2.2.2.1, v.2.2.2.2.2.2.2.2.1, v.2.2.2.2.2.2.2.2.2.1, v.2.2.2.2.2.2.2.2.2.2)) 4096 (0, u4.2)).bind (fun u8 =>
  some (u8.2, v.2.1, v.2.2.1, v.2.2.2.1, v.2.2.2.2.1, v.2.2.2.2.2.1, v.2.2.2.2.2.2.1, v.2.2.2.2.2.2.2.1, v.2.2.2.2.2.2.2.2.1, v.2.2.2.2.2.2.2.2.2.1, v.2.2.2.2.2.2.2.2.2.2)))
def f_X7_again (v : MV) : Option (Int32 × MV) :=
  if (v.1 1) = 0 then
    (f_X7_fails v 1).bind (fun u4 =>
    some (u4.1, u4.2))
  else
    (f_X7_save v).bind (fun u2 =>
    (f_X7_begins u2).bind (fun u3 =>
    some (((upd u3.1 6 ((u3.1 6) + 1)) 6), ((upd u3.1 6 ((u3.1 6) + 1)), u3.2.1, u3.2.2.1, u3.2.2.2.1, u3.2.2.2.2.1, u3.2.2.2.2.2.1, u3.2.2.2.2.2.2.1, u3.2.2.2.2.2.2.2.1, u3.2.2.2.2.2.2.2.2.1, u3.2.2.2.2.2.2.2.2.2.1, u3.2.2.2.2.2.2.2.2.2.2))))
def f_X7_latenessOf (v : MV) (p0 : Int32) : Option (Int32) :=
  (f_X7_isFixed v p0).bind (fun u1 =>
  if (zb u1) = 0 then
    some (-1)
  else
    (f_X7_of v p0 4).bind (fun u3 =>
    if u3 = (-1) then
      some (-1)
    else
      (f_X7_of v p0 4).bind (fun u5 =>
      (f_X7_of v p0 1).bind (fun u6 =>
      some (u5 - u6)))))
def f_X7_elementOf (v : MV) (p0 : Int32) (p1 : Int32) : Option (Int32) :=
  if 5 ≤ p1 then
    if p1 = 5 then
      (f_X7_latenessOf v p0).bind (fun u5 =>
      some u5)
    else
      (f_X7_isInSection v p0).bind (fun u3 =>
      if (zb u3) = 0 then
        some 0
      else
        some 1)
  else
    (f_X7_of v p0 p1).bind (fun u6 =>
    some u6)
def f_X7_element (v : MV) (p0 : Int32) (p1 : Int32) : Option (Int32 × MV) :=
  (f_X7_isElement v p0).bind (fun u1 =>
  if (zb u1) = 0 then
    (f_X7_fails v 1).bind (fun u8 =>
    some (u8.1, u8.2))
  else
    (f_X7_in p1 0 6).bind (fun u3 =>
    if (zb u3) = 0 then
      (f_X7_fails v 2).bind (fun u5 =>
      some (u5.1, u5.2))
    else
      (f_X7_elementOf v p0 p1).bind (fun u6 =>
      (f_X7_tells v u6).bind (fun u7 =>
      some (u7.1, u7.2)))))
def f_X7_filler (v : MV) (p0 : Int32) (p1 : Int32) : Option (Int32 × MV) :=
  (f_X7_isFiller v p0).bind (fun u1 =>
  if (zb u1) = 0 then
    (f_X7_fails v 1).bind (fun u8 =>
    some (u8.1, u8.2))
  else
    (f_X7_in p1 0 2).bind (fun u3 =>
    if (zb u3) = 0 then
      (f_X7_fails v 2).bind (fun u5 =>
      some (u5.1, u5.2))
    else
      (f_X7_ofFiller v p0 p1).bind (fun u6 =>
      (f_X7_tells v u6).bind (fun u7 =>
      some (u7.1, u7.2)))))
def s_X7_greatest_4 (v : MV) (x : Int32 × Int32) : Option ((Int32 × Int32) ⊕ (Int32 × Int32)) :=
  if (v.1 7) ≤ x.2 then
    some (.inr (x.1, x.2))
  else
    (f_X7_latenessOf v x.2).bind (fun u2 =>
    if u2 ≤ x.1 then
      some (.inl (x.1, (x.2 + 1)))
    else
      (f_X7_latenessOf v x.2).bind (fun u4 =>
      some (.inl (u4, (x.2 + 1)))))
def f_X7_greatest (v : MV) : Option (Int32) :=
  (zloop (s_X7_greatest_4 v) 4096 (0, 0)).bind (fun u5 =>
  some u5.1)
def f_X7_valueOf (v : MV) (p0 : Int32) : Option (Int32) :=
  if p0 = 0 then
    some (v.1 7)
  else
    if p0 = 1 then
      some (v.1 8)
    else
      if p0 = 2 then
        some (v.1 0)
      else
        if p0 = 3 then
          some (v.1 1)
        else
          if p0 = 4 then
            (f_X7_inStatus v 0).bind (fun u1 =>
            some u1)
          else
            if p0 = 5 then
              (f_X7_inStatus v 3).bind (fun u2 =>
              some u2)
            else
              if p0 = 6 then
                (f_X7_waitingFillers v).bind (fun u3 =>
                (f_X7_ones u3).bind (fun u4 =>
                some u4))
              else
                if p0 = 7 then
                  some (v.1 5)
                else
                  if p0 = 8 then
                    (f_X7_goal v).bind (fun u5 =>
                    some u5)
                  else
                    if p0 = 9 then
                      if (v.1 1) = 1 then
                        some ((v.1 0) - 3600)
                      else
                        some (-1)
                    else
                      if p0 = 10 then
                        (f_X7_greatest v).bind (fun u7 =>
                        some u7)
                      else
                        if p0 = 11 then
                          some (v.1 9)
                        else
                          if p0 = 12 then
                            some (v.1 6)
                          else
                            if (v.1 2) = 0 then
                              some 0
                            else
                              some ((v.1 4) - (v.1 0))
def f_X7_value (v : MV) (p0 : Int32) : Option (Int32 × MV) :=
  (f_X7_in p0 0 13).bind (fun u1 =>
  if (zb u1) = 0 then
    (f_X7_fails v 1).bind (fun u3 =>
    some (u3.1, u3.2))
  else
    (f_X7_valueOf v p0).bind (fun u4 =>
    (f_X7_tells v u4).bind (fun u5 =>
    some (u5.1, u5.2))))
def f_X7_entry (v : MV) (p0 : Int32) (p1 : Int32) : Option (Int32 × MV) :=
  if p0 < 0 then
    (f_X7_fails v 1).bind (fun u2 =>
    some (u2.1, u2.2))
  else
    if p0 < (v.1 9) then
      (f_X7_in p1 0 2).bind (fun u4 =>
      if (zb u4) = 0 then
        (f_X7_fails v 2).bind (fun u6 =>
        some (u6.1, u6.2))
      else
        if zin ((100 + (3 * p0)) + p1) 220 = true then
        (f_X7_tells v (v.1 ((100 + (3 * p0)) + p1).toNatClampNeg)).bind (fun u8 =>
        some (u8.1, u8.2))
        else none)
    else
      (f_X7_fails v 1).bind (fun u9 =>
      some (u9.1, u9.2))
def s_X7_backOf_25 (v : MV) (i2 : Int32) (x : Int32 × Int32) : Option ((Int32 × Int32) ⊕ (Int32 × Int32)) :=
  if i2 ≤ x.2 then
    some (.inr (x.1, x.2))
  else
    (f_X7_waits v x.2).bind (fun u5 =>
    if (zb u5) = 0 then
      some (.inl ((x.1 + 0), (x.2 + 1)))
    else
      (f_X7_of v x.2 0).bind (fun u7 =>
      some (.inl ((x.1 + u7), (x.2 + 1)))))
def f_X7_backOf (v : MV) (p0 : Int32) : Option (Int32) :=
  (f_X7_waits v p0).bind (fun u1 =>
  if (zb u1) = 0 then
    some (-10000)
  else
    (f_X7_nextFixed v (p0 + 1)).bind (fun u3 =>
    (zloop (s_X7_backOf_25 v u3) 4096 (0, p0)).bind (fun u8 =>
    (f_X7_timeAt v u3).bind (fun u9 =>
    some (u9 - u8.1)))))
def f_X7_backTime (v : MV) (p0 : Int32) : Option (Int32 × MV) :=
  (f_X7_isElement v p0).bind (fun u1 =>
  if (zb u1) = 0 then
    (f_X7_fails v 1).bind (fun u3 =>
    some (u3.1, u3.2))
  else
    (f_X7_backOf v p0).bind (fun u4 =>
    (f_X7_tells v u4).bind (fun u5 =>
    some (u5.1, u5.2))))
