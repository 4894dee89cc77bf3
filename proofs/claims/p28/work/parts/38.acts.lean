theorem hd_L_acts : yL_acts.cls ≠ "java/lang/invoke/MethodHandle" ∧ yL_acts.cls ≠ "java/lang/invoke/VarHandle" ∧ (parseMethodDescriptor yL_acts.desc).map (fun d => d.parameters.length) = some 6 := by decide +kernel
def k_L_acts_92 (G0 : FF) (G1 : FF) (G2 : FF) (G3 : FF) (v : CV) (u2 : Int32) (u1 : Int32) (p0 : Int32) : Option (Bool × FF × FF × FF × FF × CV) :=
  (if (u1 - u1 / 5 * 5) = 0 then
    some 1800
  else
    some 700 : Option Int32).bind (fun u5 =>
  if u5 = 0 then none else (
  (if ((u1 / 7) - (u1 / 7) / 3 * 3) ≤ 0 then
    some ((u1 / 21) - (u1 / 21) / 3600 * 3600)
  else
    some (-1) : Option Int32).bind (fun u8 =>
  if (G0 3) = 1 then
    (fa_L_adds v (1 + (u1 - u1 / u5 * u5)) u8 ((u1 / 3) - (u1 / 3) / 10 * 10)).bind (fun u21 =>
    if u21.1 = (-2000003) then
      some (true, G0, G1, G2, G3, u21.2)
    else
      none)
  else
    if (G0 0) = 6 then
      (fa_L_adds v (1 + (u1 - u1 / u5 * u5)) u8 10).bind (fun u19 =>
      if u19.1 = (-2000002) then
        some (true, G0, G1, G2, G3, u19.2)
      else
        none)
    else
      if zin (5 * (G0 0)) 30 = true then
      if zin ((5 * (G0 0)) + 1) 30 = true then
      if zin ((5 * (G0 0)) + 2) 30 = true then
      if zin ((5 * (G0 0)) + 3) 30 = true then
      if zin ((5 * (G0 0)) + 4) 30 = true then
      (fn_X6_addElement v (1 + (u1 - u1 / u5 * u5)) u8 ((u1 / 3) - (u1 / 3) / 10 * 10)).bind (fun u17 =>
      if u17.1 = (((G0 0) + 1) - 1) then
        some (true, (upd G0 0 ((G0 0) + 1)), (upd (upd (upd (upd (upd G1 ((5 * (G0 0)).toNatClampNeg) (1 + (u1 - u1 / u5 * u5))) (((5 * (G0 0)) + 1).toNatClampNeg) u8) (((5 * (G0 0)) + 2).toNatClampNeg) ((u1 / 3) - (u1 / 3) / 10 * 10)) (((5 * (G0 0)) + 3).toNatClampNeg) 0) (((5 * (G0 0)) + 4).toNatClampNeg) (-1)), G2, G3, u17.2)
      else
        none)
      else none
      else none
      else none
      else none
      else none)))
def k_L_acts_288 (G0 : FF) (G1 : FF) (G2 : FF) (G3 : FF) (v : CV) (u2 : Int32) (u1 : Int32) (p0 : Int32) : Option (Bool × FF × FF × FF × FF × CV) :=
  if (G0 3) = 1 then
    (fa_L_fills v (1 + (u1 - u1 / 900 * 900))).bind (fun u34 =>
    if u34.1 = (-2000003) then
      some (true, G0, G1, G2, G3, u34.2)
    else
      none)
  else
    if (G0 1) = 5 then
      (fa_L_fills v 901).bind (fun u32 =>
      if u32.1 = (-2000002) then
        some (true, G0, G1, G2, G3, u32.2)
      else
        none)
    else
      if zin (3 * (G0 1)) 15 = true then
      if zin ((3 * (G0 1)) + 1) 15 = true then
      if zin ((3 * (G0 1)) + 2) 15 = true then
      (fn_X6_addFiller v (1 + (u1 - u1 / 900 * 900))).bind (fun u30 =>
      if u30.1 = (((G0 1) + 1) - 1) then
        some (true, (upd G0 1 ((G0 1) + 1)), G1, (upd (upd (upd G2 ((3 * (G0 1)).toNatClampNeg) (1 + (u1 - u1 / 900 * 900))) (((3 * (G0 1)) + 1).toNatClampNeg) 0) (((3 * (G0 1)) + 2).toNatClampNeg) (-1)), G3, u30.2)
      else
        none)
      else none
      else none
      else none
def k_L_acts_403 (G0 : FF) (G1 : FF) (G2 : FF) (G3 : FF) (v : CV) (u2 : Int32) (u1 : Int32) (p0 : Int32) : Option (Bool × FF × FF × FF × FF × CV) :=
  (if (u1 - u1 / 2 * 2) = 0 then
    some 3601
  else
    some 201 : Option Int32).bind (fun u36 =>
  if u36 = 0 then none else (
  (if (u1 - u1 / 2 * 2) = 0 then
    some 1800
  else
    some 100 : Option Int32).bind (fun u39 =>
  if (G0 0) = 0 then
    (fa_L_stretches v 0 (((u1 / 6) - (u1 / 6) / u36 * u36) - u39)).bind (fun u88 =>
    if u88.1 = (-2000001) then
      some (true, G0, G1, G2, G3, u88.2)
    else
      none)
  else
    if zin (5 * u2) 30 = true then
    if zin ((5 * u2) + 3) 30 = true then
    (if (G1 ((5 * u2) + 3).toNatClampNeg) = 1 then
      some 1
    else
      some 0 : Option Int32).bind (fun u44 =>
    if ((G1 (5 * u2).toNatClampNeg) + (((u1 / 6) - (u1 / 6) / u36 * u36) - u39)) < 1 then
      (fa_L_stretches v u2 (((u1 / 6) - (u1 / 6) / u36 * u36) - u39)).bind (fun u47 =>
      if u47.1 = (-2000003) then
        some (true, G0, G1, G2, G3, u47.2)
      else
        none)
    else
      if 3600 < ((G1 (5 * u2).toNatClampNeg) + (((u1 / 6) - (u1 / 6) / u36 * u36) - u39)) then
        (fa_L_stretches v u2 (((u1 / 6) - (u1 / 6) / u36 * u36) - u39)).bind (fun u50 =>
        if u50.1 = (-2000003) then
          some (true, G0, G1, G2, G3, u50.2)
        else
          none)
      else
        if zin ((5 * u2) + 3) 30 = true then
        if 1 < (G1 ((5 * u2) + 3).toNatClampNeg) then
          (fa_L_stretches v u2 (((u1 / 6) - (u1 / 6) / u36 * u36) - u39)).bind (fun u54 =>
          if u54.1 = (-2000003) then
            some (true, G0, G1, G2, G3, u54.2)
          else
            none)
        else
          if u44 = 0 then
            if zin (5 * u2) 30 = true then
            (if u44 = 0 then
              some 0
            else
              some (((u1 / 6) - (u1 / 6) / u36 * u36) - u39) : Option Int32).bind (fun u58 =>
            if u44 = 0 then
              (fn_X6_stretch v u2 (((u1 / 6) - (u1 / 6) / u36 * u36) - u39)).bind (fun u61 =>
              if u61.1 = ((G1 (5 * u2).toNatClampNeg) + (((u1 / 6) - (u1 / 6) / u36 * u36) - u39)) then
                some (true, (upd G0 5 ((G0 5) + u58)), (upd G1 ((5 * u2).toNatClampNeg) ((G1 (5 * u2).toNatClampNeg) + (((u1 / 6) - (u1 / 6) / u36 * u36) - u39))), G2, G3, u61.2)
              else
                none)
            else
              if ((G0 5) + u58) = 0 then
                (f_L_done (upd G0 5 ((G0 5) + u58)) (upd G1 ((5 * u2).toNatClampNeg) ((G1 (5 * u2).toNatClampNeg) + (((u1 / 6) - (u1 / 6) / u36 * u36) - u39))) G2).bind (fun u66 =>
                (fn_X6_stretch v u2 (((u1 / 6) - (u1 / 6) / u36 * u36) - u39)).bind (fun u67 =>
                if u67.1 = ((G1 (5 * u2).toNatClampNeg) + (((u1 / 6) - (u1 / 6) / u36 * u36) - u39)) then
                  some (true, u66.1, u66.2.1, u66.2.2, G3, u67.2)
                else
                  none))
              else
                (fn_X6_stretch v u2 (((u1 / 6) - (u1 / 6) / u36 * u36) - u39)).bind (fun u64 =>
                if u64.1 = ((G1 (5 * u2).toNatClampNeg) + (((u1 / 6) - (u1 / 6) / u36 * u36) - u39)) then
                  some (true, (upd G0 5 ((G0 5) + u58)), (upd G1 ((5 * u2).toNatClampNeg) ((G1 (5 * u2).toNatClampNeg) + (((u1 / 6) - (u1 / 6) / u36 * u36) - u39))), G2, G3, u64.2)
                else
                  none))
            else none
          else
            if zin ((5 * u2) + 4) 30 = true then
            if (G0 2) ≤ ((G1 ((5 * u2) + 4).toNatClampNeg) + ((G1 (5 * u2).toNatClampNeg) + (((u1 / 6) - (u1 / 6) / u36 * u36) - u39))) then
              if zin (5 * u2) 30 = true then
              (if u44 = 0 then
                some 0
              else
                some (((u1 / 6) - (u1 / 6) / u36 * u36) - u39) : Option Int32).bind (fun u73 =>
              if u44 = 0 then
                (fn_X6_stretch v u2 (((u1 / 6) - (u1 / 6) / u36 * u36) - u39)).bind (fun u76 =>
                if u76.1 = ((G1 (5 * u2).toNatClampNeg) + (((u1 / 6) - (u1 / 6) / u36 * u36) - u39)) then
                  some (true, (upd G0 5 ((G0 5) + u73)), (upd G1 ((5 * u2).toNatClampNeg) ((G1 (5 * u2).toNatClampNeg) + (((u1 / 6) - (u1 / 6) / u36 * u36) - u39))), G2, G3, u76.2)
                else
                  none)
              else
                if ((G0 5) + u73) = 0 then
                  (f_L_done (upd G0 5 ((G0 5) + u73)) (upd G1 ((5 * u2).toNatClampNeg) ((G1 (5 * u2).toNatClampNeg) + (((u1 / 6) - (u1 / 6) / u36 * u36) - u39))) G2).bind (fun u81 =>
                  (fn_X6_stretch v u2 (((u1 / 6) - (u1 / 6) / u36 * u36) - u39)).bind (fun u82 =>
                  if u82.1 = ((G1 (5 * u2).toNatClampNeg) + (((u1 / 6) - (u1 / 6) / u36 * u36) - u39)) then
                    some (true, u81.1, u81.2.1, u81.2.2, G3, u82.2)
                  else
                    none))
                else
                  (fn_X6_stretch v u2 (((u1 / 6) - (u1 / 6) / u36 * u36) - u39)).bind (fun u79 =>
                  if u79.1 = ((G1 (5 * u2).toNatClampNeg) + (((u1 / 6) - (u1 / 6) / u36 * u36) - u39)) then
                    some (true, (upd G0 5 ((G0 5) + u73)), (upd G1 ((5 * u2).toNatClampNeg) ((G1 (5 * u2).toNatClampNeg) + (((u1 / 6) - (u1 / 6) / u36 * u36) - u39))), G2, G3, u79.2)
                  else
                    none))
              else none
            else
              (fa_L_stretches v u2 (((u1 / 6) - (u1 / 6) / u36 * u36) - u39)).bind (fun u85 =>
              if u85.1 = (-2000003) then
                some (true, G0, G1, G2, G3, u85.2)
              else
                none)
            else none
        else none)
    else none
    else none)))
def k_L_acts_625 (G0 : FF) (G1 : FF) (G2 : FF) (G3 : FF) (v : CV) (u2 : Int32) (u1 : Int32) (p0 : Int32) : Option (Bool × FF × FF × FF × FF × CV) :=
  if (G0 0) = 0 then
    (fa_L_drops v u2).bind (fun u93 =>
    if (G0 0) = 0 then
      if u93.1 = (-2000001) then
        some (true, G0, G1, G2, G3, u93.2)
      else
        none
    else
      if u93.1 = (-2000003) then
        some (true, G0, G1, G2, G3, u93.2)
      else
        none)
  else
    if zin ((5 * u2) + 3) 30 = true then
    if (G1 ((5 * u2) + 3).toNatClampNeg) = 0 then
      if zin ((5 * u2) + 3) 30 = true then
      (f_L_notes G0 G3 3 u2).bind (fun u100 =>
      (fn_X6_drop v u2).bind (fun u101 =>
      (f_L_inStatus u100.1 (upd G1 (((5 * u2) + 3).toNatClampNeg) 3) 0).bind (fun u102 =>
      if u101.1 = u102 then
        some (true, u100.1, (upd G1 (((5 * u2) + 3).toNatClampNeg) 3), G2, u100.2, u101.2)
      else
        none)))
      else none
    else
      (fa_L_drops v u2).bind (fun u104 =>
      if (G0 0) = 0 then
        if u104.1 = (-2000001) then
          some (true, G0, G1, G2, G3, u104.2)
        else
          none
      else
        if u104.1 = (-2000003) then
          some (true, G0, G1, G2, G3, u104.2)
        else
          none)
    else none
def s_L_acts_726 (G0 : FF) (G1 : FF) (G2 : FF) (G3 : FF) (v : CV) (i15 : Int32) (x : Int32 × FF × FF) : Option ((Int32 × FF × FF) ⊕ (Int32 × FF × FF)) :=
  if 30 ≤ x.1 then
    some (.inr (x.1, x.2.1, x.2.2))
  else
    if i15 = 0 then
      some (.inr (x.1, x.2.1, x.2.2))
    else
      (if (x.1 - x.1 / 5 * 5) = 3 then
        some 0
      else
        if (x.1 - x.1 / 5 * 5) = 4 then
          some (-1)
        else
          if zin x.1 30 = true then
          some (x.2.1 x.1.toNatClampNeg)
          else none : Option Int32).bind (fun u112 =>
      if zin x.1 30 = true then
      (if ((x.1 / 2) - (x.1 / 2) / 3 * 3) = 1 then
        some 0
      else
        if ((x.1 / 2) - (x.1 / 2) / 3 * 3) = 2 then
          some (-1)
        else
          if zin (x.1 / 2) 15 = true then
          some (x.2.2 (x.1 / 2).toNatClampNeg)
          else none : Option Int32).bind (fun u115 =>
      if zin (x.1 / 2) 15 = true then
      some (.inl ((x.1 + 1), (upd x.2.1 x.1.toNatClampNeg u112), (upd x.2.2 ((x.1 / 2).toNatClampNeg) u115)))
      else none)
      else none)
def k_L_acts_709 (G0 : FF) (G1 : FF) (G2 : FF) (G3 : FF) (v : CV) (u2 : Int32) (u1 : Int32) (p0 : Int32) : Option (Bool × FF × FF × FF × FF × CV) :=
  (if (G0 3) = 1 then
    some 1
  else
    some 0 : Option Int32).bind (fun u108 =>
  (zloop (s_L_acts_726 G0 G1 G2 G3 v u108) 4096 (0, G1, G2)).bind (fun u124 =>
  (if u108 = 0 then
    some (G0 2)
  else
    some 0 : Option Int32).bind (fun u125 =>
  (if u108 = 0 then
    some (G0 6)
  else
    some 0 : Option Int32).bind (fun u127 =>
  (if u108 = 0 then
    some 0
  else
    some 1 : Option Int32).bind (fun u129 =>
  (if u108 = 0 then
    some (G0 8)
  else
    some 0 : Option Int32).bind (fun u131 =>
  (fa_L_agains v).bind (fun u133 =>
  if u108 = 0 then
    if u133.1 = (-2000003) then
      some (true, (upd (upd (upd (upd (upd G0 2 u125) 3 0) 6 u127) 7 ((G0 7) + u129)) 8 u131), u124.2.1, u124.2.2, G3, u133.2)
    else
      none
  else
    if u133.1 = ((G0 7) + u129) then
      some (true, (upd (upd (upd (upd (upd G0 2 u125) 3 0) 6 u127) 7 ((G0 7) + u129)) 8 u131), u124.2.1, u124.2.2, G3, u133.2)
    else
      none)))))))
def k_L_acts_913 (G0 : FF) (G1 : FF) (G2 : FF) (G3 : FF) (v : CV) (u2 : Int32) (u1 : Int32) (p0 : Int32) : Option (Bool × FF × FF × FF × FF × CV) :=
  if (u1 - u1 / 3 * 3) ≤ 0 then
    (f_L_goes G0 G1 G2 G3 1000000).bind (fun u143 =>
    (f_X6_finish v).bind (fun u144 =>
    if u144.1 = ((u143.2.1 2) - 3600) then
      some (true, u143.2.1, u143.2.2.1, u143.2.2.2.1, u143.2.2.2.2, u144.2)
    else
      none))
  else
    (fa_L_passes v 0).bind (fun u146 =>
    if u146.1 = (-2000002) then
      (fa_L_passes u146.2 3601).bind (fun u148 =>
      if u148.1 = (-2000002) then
        some (true, G0, G1, G2, G3, u148.2)
      else
        none)
    else
      none)
def k_L_acts_980 (G0 : FF) (G1 : FF) (G2 : FF) (G3 : FF) (v : CV) (u2 : Int32) (u1 : Int32) (p0 : Int32) : Option (Bool × FF × FF × FF × FF × CV) :=
  (if (u1 - u1 / 4 * 4) = 0 then
    some 3600
  else
    some 500 : Option Int32).bind (fun u150 =>
  if u150 = 0 then none else (
  (f_L_goes G0 G1 G2 G3 (1 + (u1 - u1 / u150 * u150))).bind (fun u153 =>
  (fn_X6_pass v (1 + (u1 - u1 / u150 * u150))).bind (fun u154 =>
  if u154.1 = u153.1 then
    some (true, u153.2.1, u153.2.2.1, u153.2.2.2.1, u153.2.2.2.2, u154.2)
  else
    none))))
def f_L_acts (G0 : FF) (G1 : FF) (G2 : FF) (G3 : FF) (v : CV) (p0 : Int32) : Option (Bool × FF × FF × FF × FF × CV) :=
  (f_L_low (p0 >>> (5 &&& 31)) 10000000).bind (fun u1 =>
  (if (G0 0) = 0 then
    some 0
  else
    if (G0 0) = 0 then none else (
    some (u1 - u1 / (G0 0) * (G0 0))) : Option Int32).bind (fun u2 =>
  (f_L_low p0 18).bind (fun u4 =>
  if u4 = 0 then
    k_L_acts_92 G0 G1 G2 G3 v u2 u1 p0
  else
    if u4 = 1 then
      k_L_acts_92 G0 G1 G2 G3 v u2 u1 p0
    else
      if u4 = 2 then
        k_L_acts_92 G0 G1 G2 G3 v u2 u1 p0
      else
        if u4 = 3 then
          k_L_acts_288 G0 G1 G2 G3 v u2 u1 p0
        else
          if u4 = 4 then
            k_L_acts_288 G0 G1 G2 G3 v u2 u1 p0
          else
            if u4 = 5 then
              k_L_acts_403 G0 G1 G2 G3 v u2 u1 p0
            else
              if u4 = 6 then
                k_L_acts_403 G0 G1 G2 G3 v u2 u1 p0
              else
                if u4 = 7 then
                  k_L_acts_625 G0 G1 G2 G3 v u2 u1 p0
                else
                  if u4 = 8 then
                    k_L_acts_709 G0 G1 G2 G3 v u2 u1 p0
                  else
                    if u4 = 9 then
                      k_L_acts_913 G0 G1 G2 G3 v u2 u1 p0
                    else
                      k_L_acts_980 G0 G1 G2 G3 v u2 u1 p0)))
set_option maxHeartbeats 4000000 in
set_option maxRecDepth 100000 in
theorem c_L_acts (l : Launch) (hst9 : l.stackTraces = false) (g : zG) (b0 : Nat) (b1 : Nat) (b2 : Nat) (b3 : Nat) (a : Nat → Nat) (G0 : FF) (G1 : FF) (G2 : FF) (G3 : FF) (v : CV) (p0 : Int32) (r : Bool × FF × FF × FF × FF × CV) (hf : f_L_acts G0 G1 G2 G3 v p0 = some r) : zMB zNF zNM l yL_acts (zw yL_acts cL_acts 19 (some .boolean)) ({ frames := 8, cells := 2, slots := 12, locals := 184 } : Room) g [.ref (a 0), .ref b0, .ref b1, .ref b2, .ref b3, .int p0] ([(b0, .inl (g.2.1, 9, .inl G0))] ++ [(b1, .inl (g.2.1, 30, .inl G1))] ++ [(b2, .inl (g.2.1, 15, .inl G2))] ++ [(b3, .inl (g.2.1, 63, .inl G3))] ++ zX6 g a v) (zb r.1) ([(b0, .inl (g.2.1, 9, .inl r.2.1))] ++ [(b1, .inl (g.2.1, 30, .inl r.2.2.1))] ++ [(b2, .inl (g.2.1, 15, .inl r.2.2.2.1))] ++ [(b3, .inl (g.2.1, 63, .inl r.2.2.2.2.1))] ++ zX6 g a r.2.2.2.2.2) 2 12 := by
  intro sz
  refine Met.ofW (cc := cL_acts) (maxL := 19) (ret := (some .boolean)) (by decide) rfl ?_
  intro p e s m args below meth c s₁ B hml hv
  obtain ⟨rfl, ⟨⟨hsz, hP, hK, hD0⟩, hKx, hZs⟩, hNc⟩ := hv
  have hx := B.exec
  have hb := B.bytes
  have hr0 := B.returns
  have hts := atoms_spec (ws := (zw yL_acts cL_acts 19 (some .boolean))) B.pre
  have hw0 : ∀ w ∈ zW, w.before ([.ref (a 0), .ref b0, .ref b1, .ref b2, .ref b3, .int p0] : List Value).toArray s = true := fun w h => hts w (List.mem_cons_of_mem _ h)
  have hown : s.vm.findClass RL = some m.cls := findClass_of_methodNamed B.named
  have hlocks := B.notSynchronized
  subst hsz
  have hD := hD0.self (sz := s.heap.size)
  generalize hAe : va_A ([(b0, .inl (g.2.1, 9, .inl G0))] ++ [(b1, .inl (g.2.1, 30, .inl G1))] ++ [(b2, .inl (g.2.1, 15, .inl G2))] ++ [(b3, .inl (g.2.1, 63, .inl G3))] ++ zX6 g a v) s.heap.size = A at hD hZs ⊢
  have hA : ∀ q : Nat, s.heap.size ≤ q → A q := fun q h => by rw [← hAe]; exact Or.inr h
  have hS : va_S A s.heap s.heap [] := va_S.rf
  have lp726 : ∀ (G0 : FF) (G1 : FF) (G2 : FF) (G3 : FF) (v : CV) (i15 : Int32), ∀ (n : Nat) (x : Int32 × FF × FF) (rr : Int32 × FF × FF), zloop (s_L_acts_726 G0 G1 G2 G3 v i15) n x = some rr → (∀ (H : Heap) (locs : List Loc), va_P g.1 vwCl ([(b0, .inl (g.2.1, 9, .inl G0))] ++ [(b1, .inl (g.2.1, 30, .inl rr.2.1))] ++ [(b2, .inl (g.2.1, 15, .inl rr.2.2))] ++ [(b3, .inl (g.2.1, 63, .inl G3))] ++ zX6 g a v) H → va_D A ([(b0, .inl (g.2.1, 9, .inl G0))] ++ [(b1, .inl (g.2.1, 30, .inl rr.2.1))] ++ [(b2, .inl (g.2.1, 15, .inl rr.2.2))] ++ [(b3, .inl (g.2.1, 63, .inl G3))] ++ zX6 g a v) → va_S A s.heap H locs → ∀ ls : Array Slot, lv_has ls 19 [(0, .ref (a 0)), (1, .ref b0), (15, .int i15)] → W p l e (headSpec (zw yL_acts cL_acts 19 (some .boolean)) ({ frames := 8, cells := 2, slots := 12, locals := 184 } : Room)).room s m ([.ref (a 0), .ref b0, .ref b1, .ref b2, .ref b3, .int p0] : List Value).toArray below meth c H locs 0 0 (MQ below (va_Qi (fun (x : Int32) (_ : Unit) => x = zb r.1) (fun _ => zEnd g A ([(b0, .inl (g.2.1, 9, .inl r.2.1))] ++ [(b1, .inl (g.2.1, 30, .inl r.2.2.1))] ++ [(b2, .inl (g.2.1, 15, .inl r.2.2.2.1))] ++ [(b3, .inl (g.2.1, 63, .inl r.2.2.2.2.1))] ++ zX6 g a r.2.2.2.2.2)) A) ([.ref (a 0), .ref b0, .ref b1, .ref b2, .ref b3, .int p0] : List Value).toArray s 2 12 A) (F0 m 816 ls [])) → ∀ (H : Heap) (locs : List Loc), va_P g.1 vwCl ([(b0, .inl (g.2.1, 9, .inl G0))] ++ [(b1, .inl (g.2.1, 30, .inl x.2.1))] ++ [(b2, .inl (g.2.1, 15, .inl x.2.2))] ++ [(b3, .inl (g.2.1, 63, .inl G3))] ++ zX6 g a v) H → va_D A ([(b0, .inl (g.2.1, 9, .inl G0))] ++ [(b1, .inl (g.2.1, 30, .inl x.2.1))] ++ [(b2, .inl (g.2.1, 15, .inl x.2.2))] ++ [(b3, .inl (g.2.1, 63, .inl G3))] ++ zX6 g a v) → va_S A s.heap H locs → ∀ ls : Array Slot, lv_has ls 19 [(0, .ref (a 0)), (1, .ref b0), (2, .ref b1), (3, .ref b2), (15, .int i15), (16, .int x.1)] → W p l e (headSpec (zw yL_acts cL_acts 19 (some .boolean)) ({ frames := 8, cells := 2, slots := 12, locals := 184 } : Room)).room s m ([.ref (a 0), .ref b0, .ref b1, .ref b2, .ref b3, .int p0] : List Value).toArray below meth c H locs 0 0 (MQ below (va_Qi (fun (x : Int32) (_ : Unit) => x = zb r.1) (fun _ => zEnd g A ([(b0, .inl (g.2.1, 9, .inl r.2.1))] ++ [(b1, .inl (g.2.1, 30, .inl r.2.2.1))] ++ [(b2, .inl (g.2.1, 15, .inl r.2.2.2.1))] ++ [(b3, .inl (g.2.1, 63, .inl r.2.2.2.2.1))] ++ zX6 g a r.2.2.2.2.2)) A) ([.ref (a 0), .ref b0, .ref b1, .ref b2, .ref b3, .int p0] : List Value).toArray s 2 12 A) (F0 m 726 ls []) := by
    intro G0 G1 G2 G3 v i15
    refine zloop_ind ?_
    intro x y rr hf ih hr hQ H locs hP hD hS ls hl
    unfold s_L_acts_726 at hf
    refine lv_iload hx hb dL_acts_726 (lv_at hl 5 rfl) ?_
    refine lv_bipush (v := 30) hx hb dL_acts_728 (by decide) ?_
    refine lv_icmp_ge (tgt := 816) hx hb dL_acts_730 (by decide) (fun c110 => ?_) (fun c110 => ?_)
    · have hf := oi hf c110
      have hR : (x.1, x.2.1, x.2.2) = rr := hr _ (Option.some.inj hf).symm
      subst hR
      exact hQ _ _ hP hD hS _ (lv_sub hl [0, 1, 4] rfl)
    · have hf := oe hf c110
      refine lv_iload hx hb dL_acts_733 (lv_at hl 4 rfl) ?_
      refine lv_if_eq (tgt := 816) hx hb dL_acts_735 (by decide) (fun c111 => ?_) (fun c111 => ?_)
      · have hf := oi hf c111
        have hR : (x.1, x.2.1, x.2.2) = rr := hr _ (Option.some.inj hf).symm
        subst hR
        exact hQ _ _ hP hD hS _ (lv_sub hl [0, 1, 4] rfl)
      · have hf := oe hf c111
        refine lv_aload_n hx hb dL_acts_738 rfl (lv_at hl 2 rfl) ?_
        refine lv_iload hx hb dL_acts_739 (lv_at hl 5 rfl) ?_
        refine lv_iload hx hb dL_acts_741 (lv_at hl 5 rfl) ?_
        refine lv_iconst (v := 5) hx hb dL_acts_743 (by decide) ?_
        refine lv_irem hx hb dL_acts_744 (by decide) ?_
        refine lv_iconst (v := 3) hx hb dL_acts_745 (by decide) ?_
        obtain ⟨u112, hu112, hf⟩ := ob hf
        have j113 : ∀ (H : Heap) (locs : List Loc), va_P g.1 vwCl ([(b0, .inl (g.2.1, 9, .inl G0))] ++ [(b1, .inl (g.2.1, 30, .inl x.2.1))] ++ [(b2, .inl (g.2.1, 15, .inl x.2.2))] ++ [(b3, .inl (g.2.1, 63, .inl G3))] ++ zX6 g a v) H → va_D A ([(b0, .inl (g.2.1, 9, .inl G0))] ++ [(b1, .inl (g.2.1, 30, .inl x.2.1))] ++ [(b2, .inl (g.2.1, 15, .inl x.2.2))] ++ [(b3, .inl (g.2.1, 63, .inl G3))] ++ zX6 g a v) → va_S A s.heap H locs → W p l e (headSpec (zw yL_acts cL_acts 19 (some .boolean)) ({ frames := 8, cells := 2, slots := 12, locals := 184 } : Room)).room s m ([.ref (a 0), .ref b0, .ref b1, .ref b2, .ref b3, .int p0] : List Value).toArray below meth c H locs 0 0 (MQ below (va_Qi (fun (x : Int32) (_ : Unit) => x = zb r.1) (fun _ => zEnd g A ([(b0, .inl (g.2.1, 9, .inl r.2.1))] ++ [(b1, .inl (g.2.1, 30, .inl r.2.2.1))] ++ [(b2, .inl (g.2.1, 15, .inl r.2.2.2.1))] ++ [(b3, .inl (g.2.1, 63, .inl r.2.2.2.2.1))] ++ zX6 g a r.2.2.2.2.2)) A) ([.ref (a 0), .ref b0, .ref b1, .ref b2, .ref b3, .int p0] : List Value).toArray s 2 12 A) (F0 m 769 ls [.int u112, .int x.1, .ref b1]) := by
          intro H locs hP hD hS
          obtain ⟨h114, hf⟩ := og hf
          refine zast (D := g.1) (f := x.2.1) (k := x.1.toNatClampNeg) (x := u112) hx hb hK.1 hP hD hS 1 0 rfl rfl (zin_vp h114) rfl dL_acts_769 (fun H locs hP hD hS => ?_)
          have hP : va_P g.1 vwCl ([(b0, .inl (g.2.1, 9, .inl G0))] ++ [(b1, .inl (g.2.1, 30, .inl (upd x.2.1 x.1.toNatClampNeg u112)))] ++ [(b2, .inl (g.2.1, 15, .inl x.2.2))] ++ [(b3, .inl (g.2.1, 63, .inl G3))] ++ zX6 g a v) H := hP
          have hD : va_D A ([(b0, .inl (g.2.1, 9, .inl G0))] ++ [(b1, .inl (g.2.1, 30, .inl (upd x.2.1 x.1.toNatClampNeg u112)))] ++ [(b2, .inl (g.2.1, 15, .inl x.2.2))] ++ [(b3, .inl (g.2.1, 63, .inl G3))] ++ zX6 g a v) := hD
          refine lv_aload_n hx hb dL_acts_770 rfl (lv_at hl 3 rfl) ?_
          refine lv_iload hx hb dL_acts_771 (lv_at hl 5 rfl) ?_
          refine lv_iconst (v := 2) hx hb dL_acts_773 (by decide) ?_
          refine lv_idiv hx hb dL_acts_774 (by decide) ?_
          refine lv_iload hx hb dL_acts_775 (lv_at hl 5 rfl) ?_
          refine lv_iconst (v := 2) hx hb dL_acts_777 (by decide) ?_
          refine lv_idiv hx hb dL_acts_778 (by decide) ?_
          refine lv_iconst (v := 3) hx hb dL_acts_779 (by decide) ?_
          refine lv_irem hx hb dL_acts_780 (by decide) ?_
          refine lv_iconst (v := 1) hx hb dL_acts_781 (by decide) ?_
          obtain ⟨u115, hu115, hf⟩ := ob hf
          have j116 : ∀ (H : Heap) (locs : List Loc), va_P g.1 vwCl ([(b0, .inl (g.2.1, 9, .inl G0))] ++ [(b1, .inl (g.2.1, 30, .inl (upd x.2.1 x.1.toNatClampNeg u112)))] ++ [(b2, .inl (g.2.1, 15, .inl x.2.2))] ++ [(b3, .inl (g.2.1, 63, .inl G3))] ++ zX6 g a v) H → va_D A ([(b0, .inl (g.2.1, 9, .inl G0))] ++ [(b1, .inl (g.2.1, 30, .inl (upd x.2.1 x.1.toNatClampNeg u112)))] ++ [(b2, .inl (g.2.1, 15, .inl x.2.2))] ++ [(b3, .inl (g.2.1, 63, .inl G3))] ++ zX6 g a v) → va_S A s.heap H locs → W p l e (headSpec (zw yL_acts cL_acts 19 (some .boolean)) ({ frames := 8, cells := 2, slots := 12, locals := 184 } : Room)).room s m ([.ref (a 0), .ref b0, .ref b1, .ref b2, .ref b3, .int p0] : List Value).toArray below meth c H locs 0 0 (MQ below (va_Qi (fun (x : Int32) (_ : Unit) => x = zb r.1) (fun _ => zEnd g A ([(b0, .inl (g.2.1, 9, .inl r.2.1))] ++ [(b1, .inl (g.2.1, 30, .inl r.2.2.1))] ++ [(b2, .inl (g.2.1, 15, .inl r.2.2.2.1))] ++ [(b3, .inl (g.2.1, 63, .inl r.2.2.2.2.1))] ++ zX6 g a r.2.2.2.2.2)) A) ([.ref (a 0), .ref b0, .ref b1, .ref b2, .ref b3, .int p0] : List Value).toArray s 2 12 A) (F0 m 809 ls [.int u115, .int (x.1 / 2), .ref b2]) := by
            intro H locs hP hD hS
            obtain ⟨h117, hf⟩ := og hf
            refine zast (D := g.1) (f := x.2.2) (k := (x.1 / 2).toNatClampNeg) (x := u115) hx hb hK.1 hP hD hS 2 0 rfl rfl (zin_vp h117) rfl dL_acts_809 (fun H locs hP hD hS => ?_)
            have hP : va_P g.1 vwCl ([(b0, .inl (g.2.1, 9, .inl G0))] ++ [(b1, .inl (g.2.1, 30, .inl (upd x.2.1 x.1.toNatClampNeg u112)))] ++ [(b2, .inl (g.2.1, 15, .inl (upd x.2.2 ((x.1 / 2).toNatClampNeg) u115)))] ++ [(b3, .inl (g.2.1, 63, .inl G3))] ++ zX6 g a v) H := hP
            have hD : va_D A ([(b0, .inl (g.2.1, 9, .inl G0))] ++ [(b1, .inl (g.2.1, 30, .inl (upd x.2.1 x.1.toNatClampNeg u112)))] ++ [(b2, .inl (g.2.1, 15, .inl (upd x.2.2 ((x.1 / 2).toNatClampNeg) u115)))] ++ [(b3, .inl (g.2.1, 63, .inl G3))] ++ zX6 g a v) := hD
            refine lv_iinc (v := (x.1 + 1)) (lv' := [(16, .int (x.1 + 1)), (0, .ref (a 0)), (1, .ref b0), (2, .ref b1), (3, .ref b2), (15, .int i15)]) hx hb dL_acts_810 hl (k := 5) rfl rfl (by decide) rfl (fun ls hl => ?_)
            refine lv_goto (tgt := 726) hx hb dL_acts_813 (by decide) ?_
            exact ih ((x.1 + 1), (upd x.2.1 x.1.toNatClampNeg u112), (upd x.2.2 ((x.1 / 2).toNatClampNeg) u115)) (Option.some.inj hf).symm hQ _ _ hP hD hS _ (lv_sub hl [1, 2, 3, 4, 5, 0] rfl)
          have hf := hu115
          refine lv_icmp_ne (tgt := 789) hx hb dL_acts_782 (by decide) (fun c118 => ?_) (fun c118 => ?_)
          · have hf := oe hf c118
            refine lv_iload hx hb dL_acts_789 (lv_at hl 5 rfl) ?_
            refine lv_iconst (v := 2) hx hb dL_acts_791 (by decide) ?_
            refine lv_idiv hx hb dL_acts_792 (by decide) ?_
            refine lv_iconst (v := 3) hx hb dL_acts_793 (by decide) ?_
            refine lv_irem hx hb dL_acts_794 (by decide) ?_
            refine lv_iconst (v := 2) hx hb dL_acts_795 (by decide) ?_
            refine lv_icmp_ne (tgt := 803) hx hb dL_acts_796 (by decide) (fun c119 => ?_) (fun c119 => ?_)
            · have hf := oe hf c119
              refine lv_aload_n hx hb dL_acts_803 rfl (lv_at hl 3 rfl) ?_
              refine lv_iload hx hb dL_acts_804 (lv_at hl 5 rfl) ?_
              refine lv_iconst (v := 2) hx hb dL_acts_806 (by decide) ?_
              refine lv_idiv hx hb dL_acts_807 (by decide) ?_
              obtain ⟨h120, hf⟩ := og hf
              refine zald (D := g.1) (f := x.2.2) (k := (x.1 / 2).toNatClampNeg) hx hb hK.1 hP 2 0 rfl rfl (zin_vp h120) rfl dL_acts_808 ?_
              exact zeqi (Option.some.inj hf) (j116 _ _ hP hD hS)
            · have hf := oi hf c119
              refine lv_iconst (v := (-1)) hx hb dL_acts_799 (by decide) ?_
              refine lv_goto (tgt := 809) hx hb dL_acts_800 (by decide) ?_
              exact zeqi (Option.some.inj hf) (j116 _ _ hP hD hS)
          · have hf := oi hf c118
            refine lv_iconst (v := 0) hx hb dL_acts_785 (by decide) ?_
            refine lv_goto (tgt := 809) hx hb dL_acts_786 (by decide) ?_
            exact zeqi (Option.some.inj hf) (j116 _ _ hP hD hS)
        have hf := hu112
        refine lv_icmp_ne (tgt := 753) hx hb dL_acts_746 (by decide) (fun c121 => ?_) (fun c121 => ?_)
        · have hf := oe hf c121
          refine lv_iload hx hb dL_acts_753 (lv_at hl 5 rfl) ?_
          refine lv_iconst (v := 5) hx hb dL_acts_755 (by decide) ?_
          refine lv_irem hx hb dL_acts_756 (by decide) ?_
          refine lv_iconst (v := 4) hx hb dL_acts_757 (by decide) ?_
          refine lv_icmp_ne (tgt := 765) hx hb dL_acts_758 (by decide) (fun c122 => ?_) (fun c122 => ?_)
          · have hf := oe hf c122
            refine lv_aload_n hx hb dL_acts_765 rfl (lv_at hl 2 rfl) ?_
            refine lv_iload hx hb dL_acts_766 (lv_at hl 5 rfl) ?_
            obtain ⟨h123, hf⟩ := og hf
            refine zald (D := g.1) (f := x.2.1) (k := x.1.toNatClampNeg) hx hb hK.1 hP 1 0 rfl rfl (zin_vp h123) rfl dL_acts_768 ?_
            exact zeqi (Option.some.inj hf) (j113 _ _ hP hD hS)
          · have hf := oi hf c122
            refine lv_iconst (v := (-1)) hx hb dL_acts_761 (by decide) ?_
            refine lv_goto (tgt := 769) hx hb dL_acts_762 (by decide) ?_
            exact zeqi (Option.some.inj hf) (j113 _ _ hP hD hS)
        · have hf := oi hf c121
          refine lv_iconst (v := 0) hx hb dL_acts_749 (by decide) ?_
          refine lv_goto (tgt := 769) hx hb dL_acts_750 (by decide) ?_
          exact zeqi (Option.some.inj hf) (j113 _ _ hP hD hS)
  unfold f_L_acts at hf
  have hl := lv_entry ([.ref (a 0), .ref b0, .ref b1, .ref b2, .ref b3, .int p0]) (n := 19) (Nat.le_of_ble_eq_true rfl)
  rw [lg_entry_eq]
  generalize (lg_sl ([.ref (a 0), .ref b0, .ref b1, .ref b2, .ref b3, .int p0]) ++ List.replicate (19 - (lg_sl ([.ref (a 0), .ref b0, .ref b1, .ref b2, .ref b3, .int p0])).length) Slot.unset).toArray = ls at hl ⊢
  have hl : lv_has ls 19 [(0, .ref (a 0)), (1, .ref b0), (2, .ref b1), (3, .ref b2), (4, .ref b3), (5, .int p0)] := hl
  refine lv_iload hx hb dL_acts_0 (lv_at hl 5 rfl) ?_
  refine lv_iconst (v := 5) hx hb dL_acts_2 (by decide) ?_
  refine lv_ishr hx hb dL_acts_3 ?_
  refine lv_ldc (v := 10000000) hx hb hown (hw0 _ zm1_229) dL_acts_4 ?_
  obtain ⟨u1, hu1, hf⟩ := ob hf
  refine zk_iR (va_runS (As := [.int (p0 >>> (5 &&& 31)), .int 10000000]) (rest := []) ⟨hx, hb, hml, hown, hts⟩ (c_L_low l g (p0 >>> (5 &&& 31)) 10000000 _ hu1 _) (zcS hw0 zm1_222 zm1_224 zm1_0 zm1_223 hd_L_low rfl rfl ⟨Nat.le_of_ble_eq_true rfl, Nat.le_of_ble_eq_true rfl⟩) ⟨zblind, zpre hK hP hD [] rfl rfl⟩ rfl rfl hl.1 rfl (lv_room (Nat.le_of_ble_eq_true rfl)) dL_acts_6 ⟨Nat.zero_le _, Nat.zero_le _⟩) hP hD hS hA [] rfl (fun H locs hP hD hS => ?_)
  refine lv_istore (lv' := [(6, .int u1), (0, .ref (a 0)), (1, .ref b0), (2, .ref b1), (3, .ref b2), (4, .ref b3), (5, .int p0)]) hx hb dL_acts_9 hl (by decide) rfl (fun ls hl => ?_)
  refine lv_aload_n hx hb dL_acts_11 rfl (lv_at hl 2 rfl) ?_
  refine lv_iconst (v := 0) hx hb dL_acts_12 (by decide) ?_
  refine zald (D := g.1) (f := G0) (k := 0) hx hb hK.1 hP 0 0 rfl rfl (zin_vp (i := 0) (n := 9) rfl) rfl dL_acts_13 ?_
  obtain ⟨u2, hu2, hf⟩ := ob hf
  have j3 : ∀ (H : Heap) (locs : List Loc), va_P g.1 vwCl ([(b0, .inl (g.2.1, 9, .inl G0))] ++ [(b1, .inl (g.2.1, 30, .inl G1))] ++ [(b2, .inl (g.2.1, 15, .inl G2))] ++ [(b3, .inl (g.2.1, 63, .inl G3))] ++ zX6 g a v) H → va_D A ([(b0, .inl (g.2.1, 9, .inl G0))] ++ [(b1, .inl (g.2.1, 30, .inl G1))] ++ [(b2, .inl (g.2.1, 15, .inl G2))] ++ [(b3, .inl (g.2.1, 63, .inl G3))] ++ zX6 g a v) → va_S A s.heap H locs → W p l e (headSpec (zw yL_acts cL_acts 19 (some .boolean)) ({ frames := 8, cells := 2, slots := 12, locals := 184 } : Room)).room s m ([.ref (a 0), .ref b0, .ref b1, .ref b2, .ref b3, .int p0] : List Value).toArray below meth c H locs 0 0 (MQ below (va_Qi (fun (x : Int32) (_ : Unit) => x = zb r.1) (fun _ => zEnd g A ([(b0, .inl (g.2.1, 9, .inl r.2.1))] ++ [(b1, .inl (g.2.1, 30, .inl r.2.2.1))] ++ [(b2, .inl (g.2.1, 15, .inl r.2.2.2.1))] ++ [(b3, .inl (g.2.1, 63, .inl r.2.2.2.2.1))] ++ zX6 g a r.2.2.2.2.2)) A) ([.ref (a 0), .ref b0, .ref b1, .ref b2, .ref b3, .int p0] : List Value).toArray s 2 12 A) (F0 m 27 ls [.int u2]) := by
    intro H locs hP hD hS
    refine lv_istore (lv' := [(7, .int u2), (6, .int u1), (0, .ref (a 0)), (1, .ref b0), (2, .ref b1), (3, .ref b2), (4, .ref b3), (5, .int p0)]) hx hb dL_acts_27 hl (by decide) rfl (fun ls hl => ?_)
    refine lv_iload hx hb dL_acts_29 (lv_at hl 7 rfl) ?_
    refine lv_bipush (v := 18) hx hb dL_acts_31 (by decide) ?_
    obtain ⟨u4, hu4, hf⟩ := ob hf
    refine zk_iR (va_runS (As := [.int p0, .int 18]) (rest := []) ⟨hx, hb, hml, hown, hts⟩ (c_L_low l g p0 18 _ hu4 _) (zcS hw0 zm1_222 zm1_224 zm1_0 zm1_223 hd_L_low rfl rfl ⟨Nat.le_of_ble_eq_true rfl, Nat.le_of_ble_eq_true rfl⟩) ⟨zblind, zpre hK hP hD [] rfl rfl⟩ rfl rfl hl.1 rfl (lv_room (Nat.le_of_ble_eq_true rfl)) dL_acts_33 ⟨Nat.zero_le _, Nat.zero_le _⟩) hP hD hS hA [] rfl (fun H locs hP hD hS => ?_)
    have hk92 : k_L_acts_92 G0 G1 G2 G3 v u2 u1 p0 = some r → W p l e (headSpec (zw yL_acts cL_acts 19 (some .boolean)) ({ frames := 8, cells := 2, slots := 12, locals := 184 } : Room)).room s m ([.ref (a 0), .ref b0, .ref b1, .ref b2, .ref b3, .int p0] : List Value).toArray below meth c H locs 0 0 (MQ below (va_Qi (fun (x : Int32) (_ : Unit) => x = zb r.1) (fun _ => zEnd g A ([(b0, .inl (g.2.1, 9, .inl r.2.1))] ++ [(b1, .inl (g.2.1, 30, .inl r.2.2.1))] ++ [(b2, .inl (g.2.1, 15, .inl r.2.2.2.1))] ++ [(b3, .inl (g.2.1, 63, .inl r.2.2.2.2.1))] ++ zX6 g a r.2.2.2.2.2)) A) ([.ref (a 0), .ref b0, .ref b1, .ref b2, .ref b3, .int p0] : List Value).toArray s 2 12 A) (F0 m 92 ls []) := by
      intro hf
      unfold k_L_acts_92 at hf
      refine lv_iconst (v := 1) hx hb dL_acts_92 (by decide) ?_
      refine lv_iload hx hb dL_acts_93 (lv_at hl 1 rfl) ?_
      refine lv_iload hx hb dL_acts_95 (lv_at hl 1 rfl) ?_
      refine lv_iconst (v := 5) hx hb dL_acts_97 (by decide) ?_
      refine lv_irem hx hb dL_acts_98 (by decide) ?_
      obtain ⟨u5, hu5, hf⟩ := ob hf
      have j6 : ∀ (H : Heap) (locs : List Loc), va_P g.1 vwCl ([(b0, .inl (g.2.1, 9, .inl G0))] ++ [(b1, .inl (g.2.1, 30, .inl G1))] ++ [(b2, .inl (g.2.1, 15, .inl G2))] ++ [(b3, .inl (g.2.1, 63, .inl G3))] ++ zX6 g a v) H → va_D A ([(b0, .inl (g.2.1, 9, .inl G0))] ++ [(b1, .inl (g.2.1, 30, .inl G1))] ++ [(b2, .inl (g.2.1, 15, .inl G2))] ++ [(b3, .inl (g.2.1, 63, .inl G3))] ++ zX6 g a v) → va_S A s.heap H locs → W p l e (headSpec (zw yL_acts cL_acts 19 (some .boolean)) ({ frames := 8, cells := 2, slots := 12, locals := 184 } : Room)).room s m ([.ref (a 0), .ref b0, .ref b1, .ref b2, .ref b3, .int p0] : List Value).toArray below meth c H locs 0 0 (MQ below (va_Qi (fun (x : Int32) (_ : Unit) => x = zb r.1) (fun _ => zEnd g A ([(b0, .inl (g.2.1, 9, .inl r.2.1))] ++ [(b1, .inl (g.2.1, 30, .inl r.2.2.1))] ++ [(b2, .inl (g.2.1, 15, .inl r.2.2.2.1))] ++ [(b3, .inl (g.2.1, 63, .inl r.2.2.2.2.1))] ++ zX6 g a r.2.2.2.2.2)) A) ([.ref (a 0), .ref b0, .ref b1, .ref b2, .ref b3, .int p0] : List Value).toArray s 2 12 A) (F0 m 111 ls [.int u5, .int u1, .int 1]) := by
        intro H locs hP hD hS
        obtain ⟨h7, hf⟩ := onn hf
        refine lv_irem hx hb dL_acts_111 h7 ?_
        refine lv_iadd hx hb dL_acts_112 ?_
        refine lv_istore (lv' := [(8, .int (1 + (u1 - u1 / u5 * u5))), (7, .int u2), (6, .int u1), (0, .ref (a 0)), (1, .ref b0), (2, .ref b1), (3, .ref b2), (4, .ref b3), (5, .int p0)]) hx hb dL_acts_113 hl (by decide) rfl (fun ls hl => ?_)
        refine lv_iload hx hb dL_acts_115 (lv_at hl 2 rfl) ?_
        refine lv_bipush (v := 7) hx hb dL_acts_117 (by decide) ?_
        refine lv_idiv hx hb dL_acts_119 (by decide) ?_
        refine lv_iconst (v := 3) hx hb dL_acts_120 (by decide) ?_
        refine lv_irem hx hb dL_acts_121 (by decide) ?_
        obtain ⟨u8, hu8, hf⟩ := ob hf
        have j9 : ∀ (H : Heap) (locs : List Loc), va_P g.1 vwCl ([(b0, .inl (g.2.1, 9, .inl G0))] ++ [(b1, .inl (g.2.1, 30, .inl G1))] ++ [(b2, .inl (g.2.1, 15, .inl G2))] ++ [(b3, .inl (g.2.1, 63, .inl G3))] ++ zX6 g a v) H → va_D A ([(b0, .inl (g.2.1, 9, .inl G0))] ++ [(b1, .inl (g.2.1, 30, .inl G1))] ++ [(b2, .inl (g.2.1, 15, .inl G2))] ++ [(b3, .inl (g.2.1, 63, .inl G3))] ++ zX6 g a v) → va_S A s.heap H locs → W p l e (headSpec (zw yL_acts cL_acts 19 (some .boolean)) ({ frames := 8, cells := 2, slots := 12, locals := 184 } : Room)).room s m ([.ref (a 0), .ref b0, .ref b1, .ref b2, .ref b3, .int p0] : List Value).toArray below meth c H locs 0 0 (MQ below (va_Qi (fun (x : Int32) (_ : Unit) => x = zb r.1) (fun _ => zEnd g A ([(b0, .inl (g.2.1, 9, .inl r.2.1))] ++ [(b1, .inl (g.2.1, 30, .inl r.2.2.1))] ++ [(b2, .inl (g.2.1, 15, .inl r.2.2.2.1))] ++ [(b3, .inl (g.2.1, 63, .inl r.2.2.2.2.1))] ++ zX6 g a r.2.2.2.2.2)) A) ([.ref (a 0), .ref b0, .ref b1, .ref b2, .ref b3, .int p0] : List Value).toArray s 2 12 A) (F0 m 138 ls [.int u8]) := by
          intro H locs hP hD hS
          refine lv_istore (lv' := [(9, .int u8), (8, .int (1 + (u1 - u1 / u5 * u5))), (7, .int u2), (6, .int u1), (0, .ref (a 0)), (1, .ref b0), (2, .ref b1), (3, .ref b2), (4, .ref b3), (5, .int p0)]) hx hb dL_acts_138 hl (by decide) rfl (fun ls hl => ?_)
          refine lv_iload hx hb dL_acts_140 (lv_at hl 3 rfl) ?_
          refine lv_iconst (v := 3) hx hb dL_acts_142 (by decide) ?_
          refine lv_idiv hx hb dL_acts_143 (by decide) ?_
          refine lv_bipush (v := 10) hx hb dL_acts_144 (by decide) ?_
          refine lv_irem hx hb dL_acts_146 (by decide) ?_
          refine lv_istore (lv' := [(10, .int ((u1 / 3) - (u1 / 3) / 10 * 10)), (9, .int u8), (8, .int (1 + (u1 - u1 / u5 * u5))), (7, .int u2), (6, .int u1), (0, .ref (a 0)), (1, .ref b0), (2, .ref b1), (3, .ref b2), (4, .ref b3), (5, .int p0)]) hx hb dL_acts_147 hl (by decide) rfl (fun ls hl => ?_)
          refine lv_aload_n hx hb dL_acts_149 rfl (lv_at hl 6 rfl) ?_
          refine lv_iconst (v := 3) hx hb dL_acts_150 (by decide) ?_
          refine zald (D := g.1) (f := G0) (k := 3) hx hb hK.1 hP 0 0 rfl rfl (zin_vp (i := 3) (n := 9) rfl) rfl dL_acts_151 ?_
          refine lv_iconst (v := 1) hx hb dL_acts_152 (by decide) ?_
          refine lv_icmp_ne (tgt := 177) hx hb dL_acts_153 (by decide) (fun c10 => ?_) (fun c10 => ?_)
          · have hf := oe hf c10
            refine lv_aload_n hx hb dL_acts_177 rfl (lv_at hl 6 rfl) ?_
            refine lv_iconst (v := 0) hx hb dL_acts_178 (by decide) ?_
            refine zald (D := g.1) (f := G0) (k := 0) hx hb hK.1 hP 0 0 rfl rfl (zin_vp (i := 0) (n := 9) rfl) rfl dL_acts_179 ?_
            refine lv_bipush (v := 6) hx hb dL_acts_180 (by decide) ?_
            refine lv_icmp_ne (tgt := 206) hx hb dL_acts_182 (by decide) (fun c11 => ?_) (fun c11 => ?_)
            · have hf := oe hf c11
              refine lv_aload_n hx hb dL_acts_206 rfl (lv_at hl 7 rfl) ?_
              refine lv_iconst (v := 5) hx hb dL_acts_207 (by decide) ?_
              refine lv_aload_n hx hb dL_acts_208 rfl (lv_at hl 6 rfl) ?_
              refine lv_iconst (v := 0) hx hb dL_acts_209 (by decide) ?_
              refine zald (D := g.1) (f := G0) (k := 0) hx hb hK.1 hP 0 0 rfl rfl (zin_vp (i := 0) (n := 9) rfl) rfl dL_acts_210 ?_
              refine lv_imul hx hb dL_acts_211 ?_
              refine lv_iload hx hb dL_acts_212 (lv_at hl 2 rfl) ?_
              obtain ⟨h12, hf⟩ := og hf
              refine zast (D := g.1) (f := G1) (k := (5 * (G0 0)).toNatClampNeg) (x := (1 + (u1 - u1 / u5 * u5))) hx hb hK.1 hP hD hS 1 0 rfl rfl (zin_vp h12) rfl dL_acts_214 (fun H locs hP hD hS => ?_)
              have hP : va_P g.1 vwCl ([(b0, .inl (g.2.1, 9, .inl G0))] ++ [(b1, .inl (g.2.1, 30, .inl (upd G1 ((5 * (G0 0)).toNatClampNeg) (1 + (u1 - u1 / u5 * u5)))))] ++ [(b2, .inl (g.2.1, 15, .inl G2))] ++ [(b3, .inl (g.2.1, 63, .inl G3))] ++ zX6 g a v) H := hP
              have hD : va_D A ([(b0, .inl (g.2.1, 9, .inl G0))] ++ [(b1, .inl (g.2.1, 30, .inl (upd G1 ((5 * (G0 0)).toNatClampNeg) (1 + (u1 - u1 / u5 * u5)))))] ++ [(b2, .inl (g.2.1, 15, .inl G2))] ++ [(b3, .inl (g.2.1, 63, .inl G3))] ++ zX6 g a v) := hD
              refine lv_aload_n hx hb dL_acts_215 rfl (lv_at hl 7 rfl) ?_
              refine lv_iconst (v := 5) hx hb dL_acts_216 (by decide) ?_
              refine lv_aload_n hx hb dL_acts_217 rfl (lv_at hl 6 rfl) ?_
              refine lv_iconst (v := 0) hx hb dL_acts_218 (by decide) ?_
              refine zald (D := g.1) (f := G0) (k := 0) hx hb hK.1 hP 0 0 rfl rfl (zin_vp (i := 0) (n := 9) rfl) rfl dL_acts_219 ?_
              refine lv_imul hx hb dL_acts_220 ?_
              refine lv_iconst (v := 1) hx hb dL_acts_221 (by decide) ?_
              refine lv_iadd hx hb dL_acts_222 ?_
              refine lv_iload hx hb dL_acts_223 (lv_at hl 1 rfl) ?_
              obtain ⟨h13, hf⟩ := og hf
              refine zast (D := g.1) (f := (upd G1 ((5 * (G0 0)).toNatClampNeg) (1 + (u1 - u1 / u5 * u5)))) (k := ((5 * (G0 0)) + 1).toNatClampNeg) (x := u8) hx hb hK.1 hP hD hS 1 0 rfl rfl (zin_vp h13) rfl dL_acts_225 (fun H locs hP hD hS => ?_)
              have hP : va_P g.1 vwCl ([(b0, .inl (g.2.1, 9, .inl G0))] ++ [(b1, .inl (g.2.1, 30, .inl (upd (upd G1 ((5 * (G0 0)).toNatClampNeg) (1 + (u1 - u1 / u5 * u5))) (((5 * (G0 0)) + 1).toNatClampNeg) u8)))] ++ [(b2, .inl (g.2.1, 15, .inl G2))] ++ [(b3, .inl (g.2.1, 63, .inl G3))] ++ zX6 g a v) H := hP
              have hD : va_D A ([(b0, .inl (g.2.1, 9, .inl G0))] ++ [(b1, .inl (g.2.1, 30, .inl (upd (upd G1 ((5 * (G0 0)).toNatClampNeg) (1 + (u1 - u1 / u5 * u5))) (((5 * (G0 0)) + 1).toNatClampNeg) u8)))] ++ [(b2, .inl (g.2.1, 15, .inl G2))] ++ [(b3, .inl (g.2.1, 63, .inl G3))] ++ zX6 g a v) := hD
              refine lv_aload_n hx hb dL_acts_226 rfl (lv_at hl 7 rfl) ?_
              refine lv_iconst (v := 5) hx hb dL_acts_227 (by decide) ?_
              refine lv_aload_n hx hb dL_acts_228 rfl (lv_at hl 6 rfl) ?_
              refine lv_iconst (v := 0) hx hb dL_acts_229 (by decide) ?_
              refine zald (D := g.1) (f := G0) (k := 0) hx hb hK.1 hP 0 0 rfl rfl (zin_vp (i := 0) (n := 9) rfl) rfl dL_acts_230 ?_
              refine lv_imul hx hb dL_acts_231 ?_
              refine lv_iconst (v := 2) hx hb dL_acts_232 (by decide) ?_
              refine lv_iadd hx hb dL_acts_233 ?_
              refine lv_iload hx hb dL_acts_234 (lv_at hl 0 rfl) ?_
              obtain ⟨h14, hf⟩ := og hf
              refine zast (D := g.1) (f := (upd (upd G1 ((5 * (G0 0)).toNatClampNeg) (1 + (u1 - u1 / u5 * u5))) (((5 * (G0 0)) + 1).toNatClampNeg) u8)) (k := ((5 * (G0 0)) + 2).toNatClampNeg) (x := ((u1 / 3) - (u1 / 3) / 10 * 10)) hx hb hK.1 hP hD hS 1 0 rfl rfl (zin_vp h14) rfl dL_acts_236 (fun H locs hP hD hS => ?_)
              have hP : va_P g.1 vwCl ([(b0, .inl (g.2.1, 9, .inl G0))] ++ [(b1, .inl (g.2.1, 30, .inl (upd (upd (upd G1 ((5 * (G0 0)).toNatClampNeg) (1 + (u1 - u1 / u5 * u5))) (((5 * (G0 0)) + 1).toNatClampNeg) u8) (((5 * (G0 0)) + 2).toNatClampNeg) ((u1 / 3) - (u1 / 3) / 10 * 10))))] ++ [(b2, .inl (g.2.1, 15, .inl G2))] ++ [(b3, .inl (g.2.1, 63, .inl G3))] ++ zX6 g a v) H := hP
              have hD : va_D A ([(b0, .inl (g.2.1, 9, .inl G0))] ++ [(b1, .inl (g.2.1, 30, .inl (upd (upd (upd G1 ((5 * (G0 0)).toNatClampNeg) (1 + (u1 - u1 / u5 * u5))) (((5 * (G0 0)) + 1).toNatClampNeg) u8) (((5 * (G0 0)) + 2).toNatClampNeg) ((u1 / 3) - (u1 / 3) / 10 * 10))))] ++ [(b2, .inl (g.2.1, 15, .inl G2))] ++ [(b3, .inl (g.2.1, 63, .inl G3))] ++ zX6 g a v) := hD
              refine lv_aload_n hx hb dL_acts_237 rfl (lv_at hl 7 rfl) ?_
              refine lv_iconst (v := 5) hx hb dL_acts_238 (by decide) ?_
              refine lv_aload_n hx hb dL_acts_239 rfl (lv_at hl 6 rfl) ?_
              refine lv_iconst (v := 0) hx hb dL_acts_240 (by decide) ?_
              refine zald (D := g.1) (f := G0) (k := 0) hx hb hK.1 hP 0 0 rfl rfl (zin_vp (i := 0) (n := 9) rfl) rfl dL_acts_241 ?_
              refine lv_imul hx hb dL_acts_242 ?_
              refine lv_iconst (v := 3) hx hb dL_acts_243 (by decide) ?_
              refine lv_iadd hx hb dL_acts_244 ?_
              refine lv_iconst (v := 0) hx hb dL_acts_245 (by decide) ?_
              obtain ⟨h15, hf⟩ := og hf
              refine zast (D := g.1) (f := (upd (upd (upd G1 ((5 * (G0 0)).toNatClampNeg) (1 + (u1 - u1 / u5 * u5))) (((5 * (G0 0)) + 1).toNatClampNeg) u8) (((5 * (G0 0)) + 2).toNatClampNeg) ((u1 / 3) - (u1 / 3) / 10 * 10))) (k := ((5 * (G0 0)) + 3).toNatClampNeg) (x := 0) hx hb hK.1 hP hD hS 1 0 rfl rfl (zin_vp h15) rfl dL_acts_246 (fun H locs hP hD hS => ?_)
              have hP : va_P g.1 vwCl ([(b0, .inl (g.2.1, 9, .inl G0))] ++ [(b1, .inl (g.2.1, 30, .inl (upd (upd (upd (upd G1 ((5 * (G0 0)).toNatClampNeg) (1 + (u1 - u1 / u5 * u5))) (((5 * (G0 0)) + 1).toNatClampNeg) u8) (((5 * (G0 0)) + 2).toNatClampNeg) ((u1 / 3) - (u1 / 3) / 10 * 10)) (((5 * (G0 0)) + 3).toNatClampNeg) 0)))] ++ [(b2, .inl (g.2.1, 15, .inl G2))] ++ [(b3, .inl (g.2.1, 63, .inl G3))] ++ zX6 g a v) H := hP
              have hD : va_D A ([(b0, .inl (g.2.1, 9, .inl G0))] ++ [(b1, .inl (g.2.1, 30, .inl (upd (upd (upd (upd G1 ((5 * (G0 0)).toNatClampNeg) (1 + (u1 - u1 / u5 * u5))) (((5 * (G0 0)) + 1).toNatClampNeg) u8) (((5 * (G0 0)) + 2).toNatClampNeg) ((u1 / 3) - (u1 / 3) / 10 * 10)) (((5 * (G0 0)) + 3).toNatClampNeg) 0)))] ++ [(b2, .inl (g.2.1, 15, .inl G2))] ++ [(b3, .inl (g.2.1, 63, .inl G3))] ++ zX6 g a v) := hD
              refine lv_aload_n hx hb dL_acts_247 rfl (lv_at hl 7 rfl) ?_
              refine lv_iconst (v := 5) hx hb dL_acts_248 (by decide) ?_
              refine lv_aload_n hx hb dL_acts_249 rfl (lv_at hl 6 rfl) ?_
              refine lv_iconst (v := 0) hx hb dL_acts_250 (by decide) ?_
              refine zald (D := g.1) (f := G0) (k := 0) hx hb hK.1 hP 0 0 rfl rfl (zin_vp (i := 0) (n := 9) rfl) rfl dL_acts_251 ?_
              refine lv_imul hx hb dL_acts_252 ?_
              refine lv_iconst (v := 4) hx hb dL_acts_253 (by decide) ?_
              refine lv_iadd hx hb dL_acts_254 ?_
              refine lv_iconst (v := (-1)) hx hb dL_acts_255 (by decide) ?_
              obtain ⟨h16, hf⟩ := og hf
              refine zast (D := g.1) (f := (upd (upd (upd (upd G1 ((5 * (G0 0)).toNatClampNeg) (1 + (u1 - u1 / u5 * u5))) (((5 * (G0 0)) + 1).toNatClampNeg) u8) (((5 * (G0 0)) + 2).toNatClampNeg) ((u1 / 3) - (u1 / 3) / 10 * 10)) (((5 * (G0 0)) + 3).toNatClampNeg) 0)) (k := ((5 * (G0 0)) + 4).toNatClampNeg) (x := (-1)) hx hb hK.1 hP hD hS 1 0 rfl rfl (zin_vp h16) rfl dL_acts_256 (fun H locs hP hD hS => ?_)
              have hP : va_P g.1 vwCl ([(b0, .inl (g.2.1, 9, .inl G0))] ++ [(b1, .inl (g.2.1, 30, .inl (upd (upd (upd (upd (upd G1 ((5 * (G0 0)).toNatClampNeg) (1 + (u1 - u1 / u5 * u5))) (((5 * (G0 0)) + 1).toNatClampNeg) u8) (((5 * (G0 0)) + 2).toNatClampNeg) ((u1 / 3) - (u1 / 3) / 10 * 10)) (((5 * (G0 0)) + 3).toNatClampNeg) 0) (((5 * (G0 0)) + 4).toNatClampNeg) (-1))))] ++ [(b2, .inl (g.2.1, 15, .inl G2))] ++ [(b3, .inl (g.2.1, 63, .inl G3))] ++ zX6 g a v) H := hP
              have hD : va_D A ([(b0, .inl (g.2.1, 9, .inl G0))] ++ [(b1, .inl (g.2.1, 30, .inl (upd (upd (upd (upd (upd G1 ((5 * (G0 0)).toNatClampNeg) (1 + (u1 - u1 / u5 * u5))) (((5 * (G0 0)) + 1).toNatClampNeg) u8) (((5 * (G0 0)) + 2).toNatClampNeg) ((u1 / 3) - (u1 / 3) / 10 * 10)) (((5 * (G0 0)) + 3).toNatClampNeg) 0) (((5 * (G0 0)) + 4).toNatClampNeg) (-1))))] ++ [(b2, .inl (g.2.1, 15, .inl G2))] ++ [(b3, .inl (g.2.1, 63, .inl G3))] ++ zX6 g a v) := hD
              refine lv_aload_n hx hb dL_acts_257 rfl (lv_at hl 6 rfl) ?_
              refine lv_iconst (v := 0) hx hb dL_acts_258 (by decide) ?_
              refine lv_dup2_11 hx hb dL_acts_259 rfl rfl ?_
              refine zald (D := g.1) (f := G0) (k := 0) hx hb hK.1 hP 0 0 rfl rfl (zin_vp (i := 0) (n := 9) rfl) rfl dL_acts_260 ?_
              refine lv_iconst (v := 1) hx hb dL_acts_261 (by decide) ?_
              refine lv_iadd hx hb dL_acts_262 ?_
              refine zast (D := g.1) (f := G0) (k := 0) (x := ((G0 0) + 1)) hx hb hK.1 hP hD hS 0 0 rfl rfl (zin_vp (i := 0) (n := 9) rfl) rfl dL_acts_263 (fun H locs hP hD hS => ?_)
              have hP : va_P g.1 vwCl ([(b0, .inl (g.2.1, 9, .inl (upd G0 0 ((G0 0) + 1))))] ++ [(b1, .inl (g.2.1, 30, .inl (upd (upd (upd (upd (upd G1 ((5 * (G0 0)).toNatClampNeg) (1 + (u1 - u1 / u5 * u5))) (((5 * (G0 0)) + 1).toNatClampNeg) u8) (((5 * (G0 0)) + 2).toNatClampNeg) ((u1 / 3) - (u1 / 3) / 10 * 10)) (((5 * (G0 0)) + 3).toNatClampNeg) 0) (((5 * (G0 0)) + 4).toNatClampNeg) (-1))))] ++ [(b2, .inl (g.2.1, 15, .inl G2))] ++ [(b3, .inl (g.2.1, 63, .inl G3))] ++ zX6 g a v) H := hP
              have hD : va_D A ([(b0, .inl (g.2.1, 9, .inl (upd G0 0 ((G0 0) + 1))))] ++ [(b1, .inl (g.2.1, 30, .inl (upd (upd (upd (upd (upd G1 ((5 * (G0 0)).toNatClampNeg) (1 + (u1 - u1 / u5 * u5))) (((5 * (G0 0)) + 1).toNatClampNeg) u8) (((5 * (G0 0)) + 2).toNatClampNeg) ((u1 / 3) - (u1 / 3) / 10 * 10)) (((5 * (G0 0)) + 3).toNatClampNeg) 0) (((5 * (G0 0)) + 4).toNatClampNeg) (-1))))] ++ [(b2, .inl (g.2.1, 15, .inl G2))] ++ [(b3, .inl (g.2.1, 63, .inl G3))] ++ zX6 g a v) := hD
              refine lv_aload_n hx hb dL_acts_264 rfl (lv_at hl 5 rfl) ?_
              refine lv_iload hx hb dL_acts_265 (lv_at hl 2 rfl) ?_
              refine lv_iload hx hb dL_acts_267 (lv_at hl 1 rfl) ?_
              refine lv_iload hx hb dL_acts_269 (lv_at hl 0 rfl) ?_
              obtain ⟨u17, hu17, hf⟩ := ob hf
              refine zkQ_i (zrun_w (vx_runSX (As := [.ref (a 0), .int (1 + (u1 - u1 / u5 * u5)), .int u8, .int ((u1 / 3) - (u1 / 3) / 10 * 10)]) (rest := []) ⟨hx, hb, hml, hown, hts⟩ (co_L_adds l g a v (1 + (u1 - u1 / u5 * u5)) u8 ((u1 / 3) - (u1 / 3) / 10 * 10) _ hu17 _) (zcSX hw0 zm1_230 zmH1_232 zm1_0 zm1_231 hd_L_adds rfl rfl ⟨Nat.le_of_ble_eq_true rfl, Nat.le_of_ble_eq_true rfl⟩) ⟨zblind, zpreQ hK hP hD⟩ rfl rfl hl.1 rfl (lv_room (Nat.le_of_ble_eq_true rfl)) dL_acts_271 ⟨Nat.le_of_ble_eq_true rfl, Nat.le_of_ble_eq_true rfl⟩)) hP hD hS hA rfl (fun H locs hP hD hS => ?_)
              have hP : va_P g.1 vwCl ([(b0, .inl (g.2.1, 9, .inl (upd G0 0 ((G0 0) + 1))))] ++ [(b1, .inl (g.2.1, 30, .inl (upd (upd (upd (upd (upd G1 ((5 * (G0 0)).toNatClampNeg) (1 + (u1 - u1 / u5 * u5))) (((5 * (G0 0)) + 1).toNatClampNeg) u8) (((5 * (G0 0)) + 2).toNatClampNeg) ((u1 / 3) - (u1 / 3) / 10 * 10)) (((5 * (G0 0)) + 3).toNatClampNeg) 0) (((5 * (G0 0)) + 4).toNatClampNeg) (-1))))] ++ [(b2, .inl (g.2.1, 15, .inl G2))] ++ [(b3, .inl (g.2.1, 63, .inl G3))] ++ zX6 g a u17.2) H := hP
              have hD : va_D A ([(b0, .inl (g.2.1, 9, .inl (upd G0 0 ((G0 0) + 1))))] ++ [(b1, .inl (g.2.1, 30, .inl (upd (upd (upd (upd (upd G1 ((5 * (G0 0)).toNatClampNeg) (1 + (u1 - u1 / u5 * u5))) (((5 * (G0 0)) + 1).toNatClampNeg) u8) (((5 * (G0 0)) + 2).toNatClampNeg) ((u1 / 3) - (u1 / 3) / 10 * 10)) (((5 * (G0 0)) + 3).toNatClampNeg) 0) (((5 * (G0 0)) + 4).toNatClampNeg) (-1))))] ++ [(b2, .inl (g.2.1, 15, .inl G2))] ++ [(b3, .inl (g.2.1, 63, .inl G3))] ++ zX6 g a u17.2) := hD
              refine lv_aload_n hx hb dL_acts_274 rfl (lv_at hl 6 rfl) ?_
              refine lv_iconst (v := 0) hx hb dL_acts_275 (by decide) ?_
              refine zald (D := g.1) (f := (upd G0 0 ((G0 0) + 1))) (k := 0) hx hb hK.1 hP 0 0 rfl rfl (zin_vp (i := 0) (n := 9) rfl) rfl dL_acts_276 ?_
              refine zeqi (y := ((G0 0) + 1)) rfl ?_
              refine lv_iconst (v := 1) hx hb dL_acts_277 (by decide) ?_
              refine lv_isub hx hb dL_acts_278 ?_
              refine lv_icmp_ne (tgt := 286) hx hb dL_acts_279 (by decide) (fun c18 => ?_) (fun c18 => ?_)
              · have hf := oe hf c18
                exact absurd hf (by simp)
              · have hf := oi hf c18
                refine lv_iconst (v := 1) hx hb dL_acts_282 (by decide) ?_
                refine lv_goto (tgt := 287) hx hb dL_acts_283 (by decide) ?_
                have hR : (true, (upd G0 0 ((G0 0) + 1)), (upd (upd (upd (upd (upd G1 ((5 * (G0 0)).toNatClampNeg) (1 + (u1 - u1 / u5 * u5))) (((5 * (G0 0)) + 1).toNatClampNeg) u8) (((5 * (G0 0)) + 2).toNatClampNeg) ((u1 / 3) - (u1 / 3) / 10 * 10)) (((5 * (G0 0)) + 3).toNatClampNeg) 0) (((5 * (G0 0)) + 4).toNatClampNeg) (-1)), G2, G3, u17.2) = r := Option.some.inj hf
                rw [← hR]
                refine W.widen (k := 2) (n := 12) (Nat.le_of_ble_eq_true rfl) (Nat.le_of_ble_eq_true rfl) ?_
                exact W.zret (v := zb true) hx hb hr0 (zb_nar true) (fun t ht hW => ⟨⟨zb true, (), rfl, rfl, by rw [ht]; exact hP, hD⟩, hS.F ht⟩) hS.2.2 dL_acts_287
            · have hf := oi hf c11
              refine lv_aload_n hx hb dL_acts_185 rfl (lv_at hl 5 rfl) ?_
              refine lv_iload hx hb dL_acts_186 (lv_at hl 2 rfl) ?_
              refine lv_iload hx hb dL_acts_188 (lv_at hl 1 rfl) ?_
              refine lv_bipush (v := 10) hx hb dL_acts_190 (by decide) ?_
              obtain ⟨u19, hu19, hf⟩ := ob hf
              refine zkQ_i (zrun_w (vx_runSX (As := [.ref (a 0), .int (1 + (u1 - u1 / u5 * u5)), .int u8, .int 10]) (rest := []) ⟨hx, hb, hml, hown, hts⟩ (ca_L_adds l hst9 g a v (1 + (u1 - u1 / u5 * u5)) u8 10 _ hu19 _) (zcSX hw0 zm1_230 zmH1_232 zm1_0 zm1_231 hd_L_adds rfl rfl ⟨Nat.le_of_ble_eq_true rfl, Nat.le_of_ble_eq_true rfl⟩) ⟨zblindL, zpreWQ hK hKx hZs hNc hP hD hS hA⟩ rfl rfl hl.1 rfl (lv_room (Nat.le_of_ble_eq_true rfl)) dL_acts_192 ⟨Nat.le_of_ble_eq_true rfl, Nat.le_of_ble_eq_true rfl⟩)) hP hD hS hA rfl (fun H locs hP hD hS => ?_)
              have hP : va_P g.1 vwCl ([(b0, .inl (g.2.1, 9, .inl G0))] ++ [(b1, .inl (g.2.1, 30, .inl G1))] ++ [(b2, .inl (g.2.1, 15, .inl G2))] ++ [(b3, .inl (g.2.1, 63, .inl G3))] ++ zX6 g a u19.2) H := hP
              have hD : va_D A ([(b0, .inl (g.2.1, 9, .inl G0))] ++ [(b1, .inl (g.2.1, 30, .inl G1))] ++ [(b2, .inl (g.2.1, 15, .inl G2))] ++ [(b3, .inl (g.2.1, 63, .inl G3))] ++ zX6 g a u19.2) := hD
              refine lv_ldc (v := -2000002) hx hb hown (hw0 _ zm2_118) dL_acts_195 ?_
              refine lv_icmp_ne (tgt := 204) hx hb dL_acts_197 (by decide) (fun c20 => ?_) (fun c20 => ?_)
              · have hf := oe hf c20
                exact absurd hf (by simp)
              · have hf := oi hf c20
                refine lv_iconst (v := 1) hx hb dL_acts_200 (by decide) ?_
                refine lv_goto (tgt := 205) hx hb dL_acts_201 (by decide) ?_
                have hR : (true, G0, G1, G2, G3, u19.2) = r := Option.some.inj hf
                rw [← hR]
                refine W.widen (k := 2) (n := 12) (Nat.le_of_ble_eq_true rfl) (Nat.le_of_ble_eq_true rfl) ?_
                exact W.zret (v := zb true) hx hb hr0 (zb_nar true) (fun t ht hW => ⟨⟨zb true, (), rfl, rfl, by rw [ht]; exact hP, hD⟩, hS.F ht⟩) hS.2.2 dL_acts_205
          · have hf := oi hf c10
            refine lv_aload_n hx hb dL_acts_156 rfl (lv_at hl 5 rfl) ?_
            refine lv_iload hx hb dL_acts_157 (lv_at hl 2 rfl) ?_
            refine lv_iload hx hb dL_acts_159 (lv_at hl 1 rfl) ?_
            refine lv_iload hx hb dL_acts_161 (lv_at hl 0 rfl) ?_
            obtain ⟨u21, hu21, hf⟩ := ob hf
            refine zkQ_i (zrun_w (vx_runSX (As := [.ref (a 0), .int (1 + (u1 - u1 / u5 * u5)), .int u8, .int ((u1 / 3) - (u1 / 3) / 10 * 10)]) (rest := []) ⟨hx, hb, hml, hown, hts⟩ (ca_L_adds l hst9 g a v (1 + (u1 - u1 / u5 * u5)) u8 ((u1 / 3) - (u1 / 3) / 10 * 10) _ hu21 _) (zcSX hw0 zm1_230 zmH1_232 zm1_0 zm1_231 hd_L_adds rfl rfl ⟨Nat.le_of_ble_eq_true rfl, Nat.le_of_ble_eq_true rfl⟩) ⟨zblindL, zpreWQ hK hKx hZs hNc hP hD hS hA⟩ rfl rfl hl.1 rfl (lv_room (Nat.le_of_ble_eq_true rfl)) dL_acts_163 ⟨Nat.le_of_ble_eq_true rfl, Nat.le_of_ble_eq_true rfl⟩)) hP hD hS hA rfl (fun H locs hP hD hS => ?_)
            have hP : va_P g.1 vwCl ([(b0, .inl (g.2.1, 9, .inl G0))] ++ [(b1, .inl (g.2.1, 30, .inl G1))] ++ [(b2, .inl (g.2.1, 15, .inl G2))] ++ [(b3, .inl (g.2.1, 63, .inl G3))] ++ zX6 g a u21.2) H := hP
            have hD : va_D A ([(b0, .inl (g.2.1, 9, .inl G0))] ++ [(b1, .inl (g.2.1, 30, .inl G1))] ++ [(b2, .inl (g.2.1, 15, .inl G2))] ++ [(b3, .inl (g.2.1, 63, .inl G3))] ++ zX6 g a u21.2) := hD
            refine lv_ldc (v := -2000003) hx hb hown (hw0 _ zm2_119) dL_acts_166 ?_
            refine lv_icmp_ne (tgt := 175) hx hb dL_acts_168 (by decide) (fun c22 => ?_) (fun c22 => ?_)
            · have hf := oe hf c22
              exact absurd hf (by simp)
            · have hf := oi hf c22
              refine lv_iconst (v := 1) hx hb dL_acts_171 (by decide) ?_
              refine lv_goto (tgt := 176) hx hb dL_acts_172 (by decide) ?_
              have hR : (true, G0, G1, G2, G3, u21.2) = r := Option.some.inj hf
              rw [← hR]
              refine W.widen (k := 2) (n := 12) (Nat.le_of_ble_eq_true rfl) (Nat.le_of_ble_eq_true rfl) ?_
              exact W.zret (v := zb true) hx hb hr0 (zb_nar true) (fun t ht hW => ⟨⟨zb true, (), rfl, rfl, by rw [ht]; exact hP, hD⟩, hS.F ht⟩) hS.2.2 dL_acts_176
        have hf := hu8
        refine lv_if_le (tgt := 129) hx hb dL_acts_122 (by decide) (fun c23 => ?_) (fun c23 => ?_)
        · have hf := oi hf c23
          refine lv_iload hx hb dL_acts_129 (lv_at hl 2 rfl) ?_
          refine lv_bipush (v := 21) hx hb dL_acts_131 (by decide) ?_
          refine lv_idiv hx hb dL_acts_133 (by decide) ?_
          refine lv_sipush (v := 3600) hx hb dL_acts_134 (by decide) ?_
          refine lv_irem hx hb dL_acts_137 (by decide) ?_
          exact zeqi (Option.some.inj hf) (j9 _ _ hP hD hS)
        · have hf := oe hf c23
          refine lv_iconst (v := (-1)) hx hb dL_acts_125 (by decide) ?_
          refine lv_goto (tgt := 138) hx hb dL_acts_126 (by decide) ?_
          exact zeqi (Option.some.inj hf) (j9 _ _ hP hD hS)
      have hf := hu5
      refine lv_if_ne (tgt := 108) hx hb dL_acts_99 (by decide) (fun c24 => ?_) (fun c24 => ?_)
      · have hf := oe hf c24
        refine lv_sipush (v := 700) hx hb dL_acts_108 (by decide) ?_
        exact zeqi (Option.some.inj hf) (j6 _ _ hP hD hS)
      · have hf := oi hf c24
        refine lv_sipush (v := 1800) hx hb dL_acts_102 (by decide) ?_
        refine lv_goto (tgt := 111) hx hb dL_acts_105 (by decide) ?_
        exact zeqi (Option.some.inj hf) (j6 _ _ hP hD hS)
    have hk288 : k_L_acts_288 G0 G1 G2 G3 v u2 u1 p0 = some r → W p l e (headSpec (zw yL_acts cL_acts 19 (some .boolean)) ({ frames := 8, cells := 2, slots := 12, locals := 184 } : Room)).room s m ([.ref (a 0), .ref b0, .ref b1, .ref b2, .ref b3, .int p0] : List Value).toArray below meth c H locs 0 0 (MQ below (va_Qi (fun (x : Int32) (_ : Unit) => x = zb r.1) (fun _ => zEnd g A ([(b0, .inl (g.2.1, 9, .inl r.2.1))] ++ [(b1, .inl (g.2.1, 30, .inl r.2.2.1))] ++ [(b2, .inl (g.2.1, 15, .inl r.2.2.2.1))] ++ [(b3, .inl (g.2.1, 63, .inl r.2.2.2.2.1))] ++ zX6 g a r.2.2.2.2.2)) A) ([.ref (a 0), .ref b0, .ref b1, .ref b2, .ref b3, .int p0] : List Value).toArray s 2 12 A) (F0 m 288 ls []) := by
      intro hf
      unfold k_L_acts_288 at hf
      refine lv_iconst (v := 1) hx hb dL_acts_288 (by decide) ?_
      refine lv_iload hx hb dL_acts_289 (lv_at hl 1 rfl) ?_
      refine lv_sipush (v := 900) hx hb dL_acts_291 (by decide) ?_
      refine lv_irem hx hb dL_acts_294 (by decide) ?_
      refine lv_iadd hx hb dL_acts_295 ?_
      refine lv_istore (lv' := [(11, .int (1 + (u1 - u1 / 900 * 900))), (7, .int u2), (6, .int u1), (0, .ref (a 0)), (1, .ref b0), (2, .ref b1), (3, .ref b2), (4, .ref b3), (5, .int p0)]) hx hb dL_acts_296 hl (by decide) rfl (fun ls hl => ?_)
      refine lv_aload_n hx hb dL_acts_298 rfl (lv_at hl 4 rfl) ?_
      refine lv_iconst (v := 3) hx hb dL_acts_299 (by decide) ?_
      refine zald (D := g.1) (f := G0) (k := 3) hx hb hK.1 hP 0 0 rfl rfl (zin_vp (i := 3) (n := 9) rfl) rfl dL_acts_300 ?_
      refine lv_iconst (v := 1) hx hb dL_acts_301 (by decide) ?_
      refine lv_icmp_ne (tgt := 322) hx hb dL_acts_302 (by decide) (fun c25 => ?_) (fun c25 => ?_)
      · have hf := oe hf c25
        refine lv_aload_n hx hb dL_acts_322 rfl (lv_at hl 4 rfl) ?_
        refine lv_iconst (v := 1) hx hb dL_acts_323 (by decide) ?_
        refine zald (D := g.1) (f := G0) (k := 1) hx hb hK.1 hP 0 0 rfl rfl (zin_vp (i := 1) (n := 9) rfl) rfl dL_acts_324 ?_
        refine lv_iconst (v := 5) hx hb dL_acts_325 (by decide) ?_
        refine lv_icmp_ne (tgt := 347) hx hb dL_acts_326 (by decide) (fun c26 => ?_) (fun c26 => ?_)
        · have hf := oe hf c26
          refine lv_aload_n hx hb dL_acts_347 rfl (lv_at hl 6 rfl) ?_
          refine lv_iconst (v := 3) hx hb dL_acts_348 (by decide) ?_
          refine lv_aload_n hx hb dL_acts_349 rfl (lv_at hl 4 rfl) ?_
          refine lv_iconst (v := 1) hx hb dL_acts_350 (by decide) ?_
          refine zald (D := g.1) (f := G0) (k := 1) hx hb hK.1 hP 0 0 rfl rfl (zin_vp (i := 1) (n := 9) rfl) rfl dL_acts_351 ?_
          refine lv_imul hx hb dL_acts_352 ?_
          refine lv_iload hx hb dL_acts_353 (lv_at hl 0 rfl) ?_
          obtain ⟨h27, hf⟩ := og hf
          refine zast (D := g.1) (f := G2) (k := (3 * (G0 1)).toNatClampNeg) (x := (1 + (u1 - u1 / 900 * 900))) hx hb hK.1 hP hD hS 2 0 rfl rfl (zin_vp h27) rfl dL_acts_355 (fun H locs hP hD hS => ?_)
          have hP : va_P g.1 vwCl ([(b0, .inl (g.2.1, 9, .inl G0))] ++ [(b1, .inl (g.2.1, 30, .inl G1))] ++ [(b2, .inl (g.2.1, 15, .inl (upd G2 ((3 * (G0 1)).toNatClampNeg) (1 + (u1 - u1 / 900 * 900)))))] ++ [(b3, .inl (g.2.1, 63, .inl G3))] ++ zX6 g a v) H := hP
          have hD : va_D A ([(b0, .inl (g.2.1, 9, .inl G0))] ++ [(b1, .inl (g.2.1, 30, .inl G1))] ++ [(b2, .inl (g.2.1, 15, .inl (upd G2 ((3 * (G0 1)).toNatClampNeg) (1 + (u1 - u1 / 900 * 900)))))] ++ [(b3, .inl (g.2.1, 63, .inl G3))] ++ zX6 g a v) := hD
          refine lv_aload_n hx hb dL_acts_356 rfl (lv_at hl 6 rfl) ?_
          refine lv_iconst (v := 3) hx hb dL_acts_357 (by decide) ?_
          refine lv_aload_n hx hb dL_acts_358 rfl (lv_at hl 4 rfl) ?_
          refine lv_iconst (v := 1) hx hb dL_acts_359 (by decide) ?_
          refine zald (D := g.1) (f := G0) (k := 1) hx hb hK.1 hP 0 0 rfl rfl (zin_vp (i := 1) (n := 9) rfl) rfl dL_acts_360 ?_
          refine lv_imul hx hb dL_acts_361 ?_
          refine lv_iconst (v := 1) hx hb dL_acts_362 (by decide) ?_
          refine lv_iadd hx hb dL_acts_363 ?_
          refine lv_iconst (v := 0) hx hb dL_acts_364 (by decide) ?_
          obtain ⟨h28, hf⟩ := og hf
          refine zast (D := g.1) (f := (upd G2 ((3 * (G0 1)).toNatClampNeg) (1 + (u1 - u1 / 900 * 900)))) (k := ((3 * (G0 1)) + 1).toNatClampNeg) (x := 0) hx hb hK.1 hP hD hS 2 0 rfl rfl (zin_vp h28) rfl dL_acts_365 (fun H locs hP hD hS => ?_)
          have hP : va_P g.1 vwCl ([(b0, .inl (g.2.1, 9, .inl G0))] ++ [(b1, .inl (g.2.1, 30, .inl G1))] ++ [(b2, .inl (g.2.1, 15, .inl (upd (upd G2 ((3 * (G0 1)).toNatClampNeg) (1 + (u1 - u1 / 900 * 900))) (((3 * (G0 1)) + 1).toNatClampNeg) 0)))] ++ [(b3, .inl (g.2.1, 63, .inl G3))] ++ zX6 g a v) H := hP
          have hD : va_D A ([(b0, .inl (g.2.1, 9, .inl G0))] ++ [(b1, .inl (g.2.1, 30, .inl G1))] ++ [(b2, .inl (g.2.1, 15, .inl (upd (upd G2 ((3 * (G0 1)).toNatClampNeg) (1 + (u1 - u1 / 900 * 900))) (((3 * (G0 1)) + 1).toNatClampNeg) 0)))] ++ [(b3, .inl (g.2.1, 63, .inl G3))] ++ zX6 g a v) := hD
          refine lv_aload_n hx hb dL_acts_366 rfl (lv_at hl 6 rfl) ?_
          refine lv_iconst (v := 3) hx hb dL_acts_367 (by decide) ?_
          refine lv_aload_n hx hb dL_acts_368 rfl (lv_at hl 4 rfl) ?_
          refine lv_iconst (v := 1) hx hb dL_acts_369 (by decide) ?_
          refine zald (D := g.1) (f := G0) (k := 1) hx hb hK.1 hP 0 0 rfl rfl (zin_vp (i := 1) (n := 9) rfl) rfl dL_acts_370 ?_
          refine lv_imul hx hb dL_acts_371 ?_
          refine lv_iconst (v := 2) hx hb dL_acts_372 (by decide) ?_
          refine lv_iadd hx hb dL_acts_373 ?_
          refine lv_iconst (v := (-1)) hx hb dL_acts_374 (by decide) ?_
          obtain ⟨h29, hf⟩ := og hf
          refine zast (D := g.1) (f := (upd (upd G2 ((3 * (G0 1)).toNatClampNeg) (1 + (u1 - u1 / 900 * 900))) (((3 * (G0 1)) + 1).toNatClampNeg) 0)) (k := ((3 * (G0 1)) + 2).toNatClampNeg) (x := (-1)) hx hb hK.1 hP hD hS 2 0 rfl rfl (zin_vp h29) rfl dL_acts_375 (fun H locs hP hD hS => ?_)
          have hP : va_P g.1 vwCl ([(b0, .inl (g.2.1, 9, .inl G0))] ++ [(b1, .inl (g.2.1, 30, .inl G1))] ++ [(b2, .inl (g.2.1, 15, .inl (upd (upd (upd G2 ((3 * (G0 1)).toNatClampNeg) (1 + (u1 - u1 / 900 * 900))) (((3 * (G0 1)) + 1).toNatClampNeg) 0) (((3 * (G0 1)) + 2).toNatClampNeg) (-1))))] ++ [(b3, .inl (g.2.1, 63, .inl G3))] ++ zX6 g a v) H := hP
          have hD : va_D A ([(b0, .inl (g.2.1, 9, .inl G0))] ++ [(b1, .inl (g.2.1, 30, .inl G1))] ++ [(b2, .inl (g.2.1, 15, .inl (upd (upd (upd G2 ((3 * (G0 1)).toNatClampNeg) (1 + (u1 - u1 / 900 * 900))) (((3 * (G0 1)) + 1).toNatClampNeg) 0) (((3 * (G0 1)) + 2).toNatClampNeg) (-1))))] ++ [(b3, .inl (g.2.1, 63, .inl G3))] ++ zX6 g a v) := hD
          refine lv_aload_n hx hb dL_acts_376 rfl (lv_at hl 4 rfl) ?_
          refine lv_iconst (v := 1) hx hb dL_acts_377 (by decide) ?_
          refine lv_dup2_11 hx hb dL_acts_378 rfl rfl ?_
          refine zald (D := g.1) (f := G0) (k := 1) hx hb hK.1 hP 0 0 rfl rfl (zin_vp (i := 1) (n := 9) rfl) rfl dL_acts_379 ?_
          refine lv_iconst (v := 1) hx hb dL_acts_380 (by decide) ?_
          refine lv_iadd hx hb dL_acts_381 ?_
          refine zast (D := g.1) (f := G0) (k := 1) (x := ((G0 1) + 1)) hx hb hK.1 hP hD hS 0 0 rfl rfl (zin_vp (i := 1) (n := 9) rfl) rfl dL_acts_382 (fun H locs hP hD hS => ?_)
          have hP : va_P g.1 vwCl ([(b0, .inl (g.2.1, 9, .inl (upd G0 1 ((G0 1) + 1))))] ++ [(b1, .inl (g.2.1, 30, .inl G1))] ++ [(b2, .inl (g.2.1, 15, .inl (upd (upd (upd G2 ((3 * (G0 1)).toNatClampNeg) (1 + (u1 - u1 / 900 * 900))) (((3 * (G0 1)) + 1).toNatClampNeg) 0) (((3 * (G0 1)) + 2).toNatClampNeg) (-1))))] ++ [(b3, .inl (g.2.1, 63, .inl G3))] ++ zX6 g a v) H := hP
          have hD : va_D A ([(b0, .inl (g.2.1, 9, .inl (upd G0 1 ((G0 1) + 1))))] ++ [(b1, .inl (g.2.1, 30, .inl G1))] ++ [(b2, .inl (g.2.1, 15, .inl (upd (upd (upd G2 ((3 * (G0 1)).toNatClampNeg) (1 + (u1 - u1 / 900 * 900))) (((3 * (G0 1)) + 1).toNatClampNeg) 0) (((3 * (G0 1)) + 2).toNatClampNeg) (-1))))] ++ [(b3, .inl (g.2.1, 63, .inl G3))] ++ zX6 g a v) := hD
          refine lv_aload_n hx hb dL_acts_383 rfl (lv_at hl 3 rfl) ?_
          refine lv_iload hx hb dL_acts_384 (lv_at hl 0 rfl) ?_
          obtain ⟨u30, hu30, hf⟩ := ob hf
          refine zkQ_i (zrun_w (vx_runSX (As := [.ref (a 0), .int (1 + (u1 - u1 / 900 * 900))]) (rest := []) ⟨hx, hb, hml, hown, hts⟩ (co_L_fills l g a v (1 + (u1 - u1 / 900 * 900)) _ hu30 _) (zcSX hw0 zm2_120 zmH2_122 zm1_0 zm2_121 hd_L_fills rfl rfl ⟨Nat.le_of_ble_eq_true rfl, Nat.le_of_ble_eq_true rfl⟩) ⟨zblind, zpreQ hK hP hD⟩ rfl rfl hl.1 rfl (lv_room (Nat.le_of_ble_eq_true rfl)) dL_acts_386 ⟨Nat.le_of_ble_eq_true rfl, Nat.le_of_ble_eq_true rfl⟩)) hP hD hS hA rfl (fun H locs hP hD hS => ?_)
          have hP : va_P g.1 vwCl ([(b0, .inl (g.2.1, 9, .inl (upd G0 1 ((G0 1) + 1))))] ++ [(b1, .inl (g.2.1, 30, .inl G1))] ++ [(b2, .inl (g.2.1, 15, .inl (upd (upd (upd G2 ((3 * (G0 1)).toNatClampNeg) (1 + (u1 - u1 / 900 * 900))) (((3 * (G0 1)) + 1).toNatClampNeg) 0) (((3 * (G0 1)) + 2).toNatClampNeg) (-1))))] ++ [(b3, .inl (g.2.1, 63, .inl G3))] ++ zX6 g a u30.2) H := hP
          have hD : va_D A ([(b0, .inl (g.2.1, 9, .inl (upd G0 1 ((G0 1) + 1))))] ++ [(b1, .inl (g.2.1, 30, .inl G1))] ++ [(b2, .inl (g.2.1, 15, .inl (upd (upd (upd G2 ((3 * (G0 1)).toNatClampNeg) (1 + (u1 - u1 / 900 * 900))) (((3 * (G0 1)) + 1).toNatClampNeg) 0) (((3 * (G0 1)) + 2).toNatClampNeg) (-1))))] ++ [(b3, .inl (g.2.1, 63, .inl G3))] ++ zX6 g a u30.2) := hD
          refine lv_aload_n hx hb dL_acts_389 rfl (lv_at hl 4 rfl) ?_
          refine lv_iconst (v := 1) hx hb dL_acts_390 (by decide) ?_
          refine zald (D := g.1) (f := (upd G0 1 ((G0 1) + 1))) (k := 1) hx hb hK.1 hP 0 0 rfl rfl (zin_vp (i := 1) (n := 9) rfl) rfl dL_acts_391 ?_
          refine zeqi (y := ((G0 1) + 1)) rfl ?_
          refine lv_iconst (v := 1) hx hb dL_acts_392 (by decide) ?_
          refine lv_isub hx hb dL_acts_393 ?_
          refine lv_icmp_ne (tgt := 401) hx hb dL_acts_394 (by decide) (fun c31 => ?_) (fun c31 => ?_)
          · have hf := oe hf c31
            exact absurd hf (by simp)
          · have hf := oi hf c31
            refine lv_iconst (v := 1) hx hb dL_acts_397 (by decide) ?_
            refine lv_goto (tgt := 402) hx hb dL_acts_398 (by decide) ?_
            have hR : (true, (upd G0 1 ((G0 1) + 1)), G1, (upd (upd (upd G2 ((3 * (G0 1)).toNatClampNeg) (1 + (u1 - u1 / 900 * 900))) (((3 * (G0 1)) + 1).toNatClampNeg) 0) (((3 * (G0 1)) + 2).toNatClampNeg) (-1)), G3, u30.2) = r := Option.some.inj hf
            rw [← hR]
            refine W.widen (k := 2) (n := 12) (Nat.le_of_ble_eq_true rfl) (Nat.le_of_ble_eq_true rfl) ?_
            exact W.zret (v := zb true) hx hb hr0 (zb_nar true) (fun t ht hW => ⟨⟨zb true, (), rfl, rfl, by rw [ht]; exact hP, hD⟩, hS.F ht⟩) hS.2.2 dL_acts_402
        · have hf := oi hf c26
          refine lv_aload_n hx hb dL_acts_329 rfl (lv_at hl 3 rfl) ?_
          refine lv_sipush (v := 901) hx hb dL_acts_330 (by decide) ?_
          obtain ⟨u32, hu32, hf⟩ := ob hf
          refine zkQ_i (zrun_w (vx_runSX (As := [.ref (a 0), .int 901]) (rest := []) ⟨hx, hb, hml, hown, hts⟩ (ca_L_fills l hst9 g a v 901 _ hu32 _) (zcSX hw0 zm2_120 zmH2_122 zm1_0 zm2_121 hd_L_fills rfl rfl ⟨Nat.le_of_ble_eq_true rfl, Nat.le_of_ble_eq_true rfl⟩) ⟨zblindL, zpreWQ hK hKx hZs hNc hP hD hS hA⟩ rfl rfl hl.1 rfl (lv_room (Nat.le_of_ble_eq_true rfl)) dL_acts_333 ⟨Nat.le_of_ble_eq_true rfl, Nat.le_of_ble_eq_true rfl⟩)) hP hD hS hA rfl (fun H locs hP hD hS => ?_)
          have hP : va_P g.1 vwCl ([(b0, .inl (g.2.1, 9, .inl G0))] ++ [(b1, .inl (g.2.1, 30, .inl G1))] ++ [(b2, .inl (g.2.1, 15, .inl G2))] ++ [(b3, .inl (g.2.1, 63, .inl G3))] ++ zX6 g a u32.2) H := hP
          have hD : va_D A ([(b0, .inl (g.2.1, 9, .inl G0))] ++ [(b1, .inl (g.2.1, 30, .inl G1))] ++ [(b2, .inl (g.2.1, 15, .inl G2))] ++ [(b3, .inl (g.2.1, 63, .inl G3))] ++ zX6 g a u32.2) := hD
          refine lv_ldc (v := -2000002) hx hb hown (hw0 _ zm2_118) dL_acts_336 ?_
          refine lv_icmp_ne (tgt := 345) hx hb dL_acts_338 (by decide) (fun c33 => ?_) (fun c33 => ?_)
          · have hf := oe hf c33
            exact absurd hf (by simp)
          · have hf := oi hf c33
            refine lv_iconst (v := 1) hx hb dL_acts_341 (by decide) ?_
            refine lv_goto (tgt := 346) hx hb dL_acts_342 (by decide) ?_
            have hR : (true, G0, G1, G2, G3, u32.2) = r := Option.some.inj hf
            rw [← hR]
            refine W.widen (k := 2) (n := 12) (Nat.le_of_ble_eq_true rfl) (Nat.le_of_ble_eq_true rfl) ?_
            exact W.zret (v := zb true) hx hb hr0 (zb_nar true) (fun t ht hW => ⟨⟨zb true, (), rfl, rfl, by rw [ht]; exact hP, hD⟩, hS.F ht⟩) hS.2.2 dL_acts_346
      · have hf := oi hf c25
        refine lv_aload_n hx hb dL_acts_305 rfl (lv_at hl 3 rfl) ?_
        refine lv_iload hx hb dL_acts_306 (lv_at hl 0 rfl) ?_
        obtain ⟨u34, hu34, hf⟩ := ob hf
        refine zkQ_i (zrun_w (vx_runSX (As := [.ref (a 0), .int (1 + (u1 - u1 / 900 * 900))]) (rest := []) ⟨hx, hb, hml, hown, hts⟩ (ca_L_fills l hst9 g a v (1 + (u1 - u1 / 900 * 900)) _ hu34 _) (zcSX hw0 zm2_120 zmH2_122 zm1_0 zm2_121 hd_L_fills rfl rfl ⟨Nat.le_of_ble_eq_true rfl, Nat.le_of_ble_eq_true rfl⟩) ⟨zblindL, zpreWQ hK hKx hZs hNc hP hD hS hA⟩ rfl rfl hl.1 rfl (lv_room (Nat.le_of_ble_eq_true rfl)) dL_acts_308 ⟨Nat.le_of_ble_eq_true rfl, Nat.le_of_ble_eq_true rfl⟩)) hP hD hS hA rfl (fun H locs hP hD hS => ?_)
        have hP : va_P g.1 vwCl ([(b0, .inl (g.2.1, 9, .inl G0))] ++ [(b1, .inl (g.2.1, 30, .inl G1))] ++ [(b2, .inl (g.2.1, 15, .inl G2))] ++ [(b3, .inl (g.2.1, 63, .inl G3))] ++ zX6 g a u34.2) H := hP
        have hD : va_D A ([(b0, .inl (g.2.1, 9, .inl G0))] ++ [(b1, .inl (g.2.1, 30, .inl G1))] ++ [(b2, .inl (g.2.1, 15, .inl G2))] ++ [(b3, .inl (g.2.1, 63, .inl G3))] ++ zX6 g a u34.2) := hD
        refine lv_ldc (v := -2000003) hx hb hown (hw0 _ zm2_119) dL_acts_311 ?_
        refine lv_icmp_ne (tgt := 320) hx hb dL_acts_313 (by decide) (fun c35 => ?_) (fun c35 => ?_)
        · have hf := oe hf c35
          exact absurd hf (by simp)
        · have hf := oi hf c35
          refine lv_iconst (v := 1) hx hb dL_acts_316 (by decide) ?_
          refine lv_goto (tgt := 321) hx hb dL_acts_317 (by decide) ?_
          have hR : (true, G0, G1, G2, G3, u34.2) = r := Option.some.inj hf
          rw [← hR]
          refine W.widen (k := 2) (n := 12) (Nat.le_of_ble_eq_true rfl) (Nat.le_of_ble_eq_true rfl) ?_
          exact W.zret (v := zb true) hx hb hr0 (zb_nar true) (fun t ht hW => ⟨⟨zb true, (), rfl, rfl, by rw [ht]; exact hP, hD⟩, hS.F ht⟩) hS.2.2 dL_acts_321
    have hk403 : k_L_acts_403 G0 G1 G2 G3 v u2 u1 p0 = some r → W p l e (headSpec (zw yL_acts cL_acts 19 (some .boolean)) ({ frames := 8, cells := 2, slots := 12, locals := 184 } : Room)).room s m ([.ref (a 0), .ref b0, .ref b1, .ref b2, .ref b3, .int p0] : List Value).toArray below meth c H locs 0 0 (MQ below (va_Qi (fun (x : Int32) (_ : Unit) => x = zb r.1) (fun _ => zEnd g A ([(b0, .inl (g.2.1, 9, .inl r.2.1))] ++ [(b1, .inl (g.2.1, 30, .inl r.2.2.1))] ++ [(b2, .inl (g.2.1, 15, .inl r.2.2.2.1))] ++ [(b3, .inl (g.2.1, 63, .inl r.2.2.2.2.1))] ++ zX6 g a r.2.2.2.2.2)) A) ([.ref (a 0), .ref b0, .ref b1, .ref b2, .ref b3, .int p0] : List Value).toArray s 2 12 A) (F0 m 403 ls []) := by
      intro hf
      unfold k_L_acts_403 at hf
      refine lv_iload hx hb dL_acts_403 (lv_at hl 1 rfl) ?_
      refine lv_bipush (v := 6) hx hb dL_acts_405 (by decide) ?_
      refine lv_idiv hx hb dL_acts_407 (by decide) ?_
      refine lv_iload hx hb dL_acts_408 (lv_at hl 1 rfl) ?_
      refine lv_iconst (v := 2) hx hb dL_acts_410 (by decide) ?_
      refine lv_irem hx hb dL_acts_411 (by decide) ?_
      obtain ⟨u36, hu36, hf⟩ := ob hf
      have j37 : ∀ (H : Heap) (locs : List Loc), va_P g.1 vwCl ([(b0, .inl (g.2.1, 9, .inl G0))] ++ [(b1, .inl (g.2.1, 30, .inl G1))] ++ [(b2, .inl (g.2.1, 15, .inl G2))] ++ [(b3, .inl (g.2.1, 63, .inl G3))] ++ zX6 g a v) H → va_D A ([(b0, .inl (g.2.1, 9, .inl G0))] ++ [(b1, .inl (g.2.1, 30, .inl G1))] ++ [(b2, .inl (g.2.1, 15, .inl G2))] ++ [(b3, .inl (g.2.1, 63, .inl G3))] ++ zX6 g a v) → va_S A s.heap H locs → W p l e (headSpec (zw yL_acts cL_acts 19 (some .boolean)) ({ frames := 8, cells := 2, slots := 12, locals := 184 } : Room)).room s m ([.ref (a 0), .ref b0, .ref b1, .ref b2, .ref b3, .int p0] : List Value).toArray below meth c H locs 0 0 (MQ below (va_Qi (fun (x : Int32) (_ : Unit) => x = zb r.1) (fun _ => zEnd g A ([(b0, .inl (g.2.1, 9, .inl r.2.1))] ++ [(b1, .inl (g.2.1, 30, .inl r.2.2.1))] ++ [(b2, .inl (g.2.1, 15, .inl r.2.2.2.1))] ++ [(b3, .inl (g.2.1, 63, .inl r.2.2.2.2.1))] ++ zX6 g a r.2.2.2.2.2)) A) ([.ref (a 0), .ref b0, .ref b1, .ref b2, .ref b3, .int p0] : List Value).toArray s 2 12 A) (F0 m 424 ls [.int u36, .int (u1 / 6)]) := by
        intro H locs hP hD hS
        obtain ⟨h38, hf⟩ := onn hf
        refine lv_irem hx hb dL_acts_424 h38 ?_
        refine lv_iload hx hb dL_acts_425 (lv_at hl 1 rfl) ?_
        refine lv_iconst (v := 2) hx hb dL_acts_427 (by decide) ?_
        refine lv_irem hx hb dL_acts_428 (by decide) ?_
        obtain ⟨u39, hu39, hf⟩ := ob hf
        have j40 : ∀ (H : Heap) (locs : List Loc), va_P g.1 vwCl ([(b0, .inl (g.2.1, 9, .inl G0))] ++ [(b1, .inl (g.2.1, 30, .inl G1))] ++ [(b2, .inl (g.2.1, 15, .inl G2))] ++ [(b3, .inl (g.2.1, 63, .inl G3))] ++ zX6 g a v) H → va_D A ([(b0, .inl (g.2.1, 9, .inl G0))] ++ [(b1, .inl (g.2.1, 30, .inl G1))] ++ [(b2, .inl (g.2.1, 15, .inl G2))] ++ [(b3, .inl (g.2.1, 63, .inl G3))] ++ zX6 g a v) → va_S A s.heap H locs → W p l e (headSpec (zw yL_acts cL_acts 19 (some .boolean)) ({ frames := 8, cells := 2, slots := 12, locals := 184 } : Room)).room s m ([.ref (a 0), .ref b0, .ref b1, .ref b2, .ref b3, .int p0] : List Value).toArray below meth c H locs 0 0 (MQ below (va_Qi (fun (x : Int32) (_ : Unit) => x = zb r.1) (fun _ => zEnd g A ([(b0, .inl (g.2.1, 9, .inl r.2.1))] ++ [(b1, .inl (g.2.1, 30, .inl r.2.2.1))] ++ [(b2, .inl (g.2.1, 15, .inl r.2.2.2.1))] ++ [(b3, .inl (g.2.1, 63, .inl r.2.2.2.2.1))] ++ zX6 g a r.2.2.2.2.2)) A) ([.ref (a 0), .ref b0, .ref b1, .ref b2, .ref b3, .int p0] : List Value).toArray s 2 12 A) (F0 m 440 ls [.int u39, .int ((u1 / 6) - (u1 / 6) / u36 * u36)]) := by
          intro H locs hP hD hS
          refine lv_isub hx hb dL_acts_440 ?_
          refine lv_istore (lv' := [(12, .int (((u1 / 6) - (u1 / 6) / u36 * u36) - u39)), (7, .int u2), (6, .int u1), (0, .ref (a 0)), (1, .ref b0), (2, .ref b1), (3, .ref b2), (4, .ref b3), (5, .int p0)]) hx hb dL_acts_441 hl (by decide) rfl (fun ls hl => ?_)
          refine lv_aload_n hx hb dL_acts_443 rfl (lv_at hl 4 rfl) ?_
          refine lv_iconst (v := 0) hx hb dL_acts_444 (by decide) ?_
          refine zald (D := g.1) (f := G0) (k := 0) hx hb hK.1 hP 0 0 rfl rfl (zin_vp (i := 0) (n := 9) rfl) rfl dL_acts_445 ?_
          refine lv_if_ne (tgt := 467) hx hb dL_acts_446 (by decide) (fun c41 => ?_) (fun c41 => ?_)
          · have hf := oe hf c41
            refine lv_aload_n hx hb dL_acts_467 rfl (lv_at hl 5 rfl) ?_
            refine lv_iconst (v := 5) hx hb dL_acts_468 (by decide) ?_
            refine lv_iload hx hb dL_acts_469 (lv_at hl 1 rfl) ?_
            refine lv_imul hx hb dL_acts_471 ?_
            obtain ⟨h42, hf⟩ := og hf
            refine zald (D := g.1) (f := G1) (k := (5 * u2).toNatClampNeg) hx hb hK.1 hP 1 0 rfl rfl (zin_vp h42) rfl dL_acts_472 ?_
            refine lv_iload hx hb dL_acts_473 (lv_at hl 0 rfl) ?_
            refine lv_iadd hx hb dL_acts_475 ?_
            refine lv_istore (lv' := [(13, .int ((G1 (5 * u2).toNatClampNeg) + (((u1 / 6) - (u1 / 6) / u36 * u36) - u39))), (12, .int (((u1 / 6) - (u1 / 6) / u36 * u36) - u39)), (7, .int u2), (6, .int u1), (0, .ref (a 0)), (1, .ref b0), (2, .ref b1), (3, .ref b2), (4, .ref b3), (5, .int p0)]) hx hb dL_acts_476 hl (by decide) rfl (fun ls hl => ?_)
            refine lv_aload_n hx hb dL_acts_478 rfl (lv_at hl 6 rfl) ?_
            refine lv_iconst (v := 5) hx hb dL_acts_479 (by decide) ?_
            refine lv_iload hx hb dL_acts_480 (lv_at hl 2 rfl) ?_
            refine lv_imul hx hb dL_acts_482 ?_
            refine lv_iconst (v := 3) hx hb dL_acts_483 (by decide) ?_
            refine lv_iadd hx hb dL_acts_484 ?_
            obtain ⟨h43, hf⟩ := og hf
            refine zald (D := g.1) (f := G1) (k := ((5 * u2) + 3).toNatClampNeg) hx hb hK.1 hP 1 0 rfl rfl (zin_vp h43) rfl dL_acts_485 ?_
            refine lv_iconst (v := 1) hx hb dL_acts_486 (by decide) ?_
            obtain ⟨u44, hu44, hf⟩ := ob hf
            have j45 : ∀ (H : Heap) (locs : List Loc), va_P g.1 vwCl ([(b0, .inl (g.2.1, 9, .inl G0))] ++ [(b1, .inl (g.2.1, 30, .inl G1))] ++ [(b2, .inl (g.2.1, 15, .inl G2))] ++ [(b3, .inl (g.2.1, 63, .inl G3))] ++ zX6 g a v) H → va_D A ([(b0, .inl (g.2.1, 9, .inl G0))] ++ [(b1, .inl (g.2.1, 30, .inl G1))] ++ [(b2, .inl (g.2.1, 15, .inl G2))] ++ [(b3, .inl (g.2.1, 63, .inl G3))] ++ zX6 g a v) → va_S A s.heap H locs → W p l e (headSpec (zw yL_acts cL_acts 19 (some .boolean)) ({ frames := 8, cells := 2, slots := 12, locals := 184 } : Room)).room s m ([.ref (a 0), .ref b0, .ref b1, .ref b2, .ref b3, .int p0] : List Value).toArray below meth c H locs 0 0 (MQ below (va_Qi (fun (x : Int32) (_ : Unit) => x = zb r.1) (fun _ => zEnd g A ([(b0, .inl (g.2.1, 9, .inl r.2.1))] ++ [(b1, .inl (g.2.1, 30, .inl r.2.2.1))] ++ [(b2, .inl (g.2.1, 15, .inl r.2.2.2.1))] ++ [(b3, .inl (g.2.1, 63, .inl r.2.2.2.2.1))] ++ zX6 g a r.2.2.2.2.2)) A) ([.ref (a 0), .ref b0, .ref b1, .ref b2, .ref b3, .int p0] : List Value).toArray s 2 12 A) (F0 m 495 ls [.int u44]) := by
              intro H locs hP hD hS
              refine lv_istore (lv' := [(14, .int u44), (13, .int ((G1 (5 * u2).toNatClampNeg) + (((u1 / 6) - (u1 / 6) / u36 * u36) - u39))), (12, .int (((u1 / 6) - (u1 / 6) / u36 * u36) - u39)), (7, .int u2), (6, .int u1), (0, .ref (a 0)), (1, .ref b0), (2, .ref b1), (3, .ref b2), (4, .ref b3), (5, .int p0)]) hx hb dL_acts_495 hl (by decide) rfl (fun ls hl => ?_)
              refine lv_iload hx hb dL_acts_497 (lv_at hl 1 rfl) ?_
              refine lv_iconst (v := 1) hx hb dL_acts_499 (by decide) ?_
              refine lv_icmp_lt (tgt := 545) hx hb dL_acts_500 (by decide) (fun c46 => ?_) (fun c46 => ?_)
              · have hf := oi hf c46
                refine lv_aload_n hx hb dL_acts_545 rfl (lv_at hl 5 rfl) ?_
                refine lv_iload hx hb dL_acts_546 (lv_at hl 3 rfl) ?_
                refine lv_iload hx hb dL_acts_548 (lv_at hl 2 rfl) ?_
                obtain ⟨u47, hu47, hf⟩ := ob hf
                refine zkQ_i (zrun_w (vx_runSX (As := [.ref (a 0), .int u2, .int (((u1 / 6) - (u1 / 6) / u36 * u36) - u39)]) (rest := []) ⟨hx, hb, hml, hown, hts⟩ (ca_L_stretches l hst9 g a v u2 (((u1 / 6) - (u1 / 6) / u36 * u36) - u39) _ hu47 _) (zcSX hw0 zm2_132 zmH2_134 zm1_0 zm2_133 hd_L_stretches rfl rfl ⟨Nat.le_of_ble_eq_true rfl, Nat.le_of_ble_eq_true rfl⟩) ⟨zblindL, zpreWQ hK hKx hZs hNc hP hD hS hA⟩ rfl rfl hl.1 rfl (lv_room (Nat.le_of_ble_eq_true rfl)) dL_acts_550 ⟨Nat.le_of_ble_eq_true rfl, Nat.le_of_ble_eq_true rfl⟩)) hP hD hS hA rfl (fun H locs hP hD hS => ?_)
                have hP : va_P g.1 vwCl ([(b0, .inl (g.2.1, 9, .inl G0))] ++ [(b1, .inl (g.2.1, 30, .inl G1))] ++ [(b2, .inl (g.2.1, 15, .inl G2))] ++ [(b3, .inl (g.2.1, 63, .inl G3))] ++ zX6 g a u47.2) H := hP
                have hD : va_D A ([(b0, .inl (g.2.1, 9, .inl G0))] ++ [(b1, .inl (g.2.1, 30, .inl G1))] ++ [(b2, .inl (g.2.1, 15, .inl G2))] ++ [(b3, .inl (g.2.1, 63, .inl G3))] ++ zX6 g a u47.2) := hD
                refine lv_ldc (v := -2000003) hx hb hown (hw0 _ zm2_119) dL_acts_553 ?_
                refine lv_icmp_ne (tgt := 562) hx hb dL_acts_555 (by decide) (fun c48 => ?_) (fun c48 => ?_)
                · have hf := oe hf c48
                  exact absurd hf (by simp)
                · have hf := oi hf c48
                  refine lv_iconst (v := 1) hx hb dL_acts_558 (by decide) ?_
                  refine lv_goto (tgt := 563) hx hb dL_acts_559 (by decide) ?_
                  have hR : (true, G0, G1, G2, G3, u47.2) = r := Option.some.inj hf
                  rw [← hR]
                  refine W.widen (k := 2) (n := 12) (Nat.le_of_ble_eq_true rfl) (Nat.le_of_ble_eq_true rfl) ?_
                  exact W.zret (v := zb true) hx hb hr0 (zb_nar true) (fun t ht hW => ⟨⟨zb true, (), rfl, rfl, by rw [ht]; exact hP, hD⟩, hS.F ht⟩) hS.2.2 dL_acts_563
              · have hf := oe hf c46
                refine lv_iload hx hb dL_acts_503 (lv_at hl 1 rfl) ?_
                refine lv_sipush (v := 3600) hx hb dL_acts_505 (by decide) ?_
                refine lv_icmp_gt (tgt := 545) hx hb dL_acts_508 (by decide) (fun c49 => ?_) (fun c49 => ?_)
                · have hf := oi hf c49
                  refine lv_aload_n hx hb dL_acts_545 rfl (lv_at hl 5 rfl) ?_
                  refine lv_iload hx hb dL_acts_546 (lv_at hl 3 rfl) ?_
                  refine lv_iload hx hb dL_acts_548 (lv_at hl 2 rfl) ?_
                  obtain ⟨u50, hu50, hf⟩ := ob hf
                  refine zkQ_i (zrun_w (vx_runSX (As := [.ref (a 0), .int u2, .int (((u1 / 6) - (u1 / 6) / u36 * u36) - u39)]) (rest := []) ⟨hx, hb, hml, hown, hts⟩ (ca_L_stretches l hst9 g a v u2 (((u1 / 6) - (u1 / 6) / u36 * u36) - u39) _ hu50 _) (zcSX hw0 zm2_132 zmH2_134 zm1_0 zm2_133 hd_L_stretches rfl rfl ⟨Nat.le_of_ble_eq_true rfl, Nat.le_of_ble_eq_true rfl⟩) ⟨zblindL, zpreWQ hK hKx hZs hNc hP hD hS hA⟩ rfl rfl hl.1 rfl (lv_room (Nat.le_of_ble_eq_true rfl)) dL_acts_550 ⟨Nat.le_of_ble_eq_true rfl, Nat.le_of_ble_eq_true rfl⟩)) hP hD hS hA rfl (fun H locs hP hD hS => ?_)
                  have hP : va_P g.1 vwCl ([(b0, .inl (g.2.1, 9, .inl G0))] ++ [(b1, .inl (g.2.1, 30, .inl G1))] ++ [(b2, .inl (g.2.1, 15, .inl G2))] ++ [(b3, .inl (g.2.1, 63, .inl G3))] ++ zX6 g a u50.2) H := hP
                  have hD : va_D A ([(b0, .inl (g.2.1, 9, .inl G0))] ++ [(b1, .inl (g.2.1, 30, .inl G1))] ++ [(b2, .inl (g.2.1, 15, .inl G2))] ++ [(b3, .inl (g.2.1, 63, .inl G3))] ++ zX6 g a u50.2) := hD
                  refine lv_ldc (v := -2000003) hx hb hown (hw0 _ zm2_119) dL_acts_553 ?_
                  refine lv_icmp_ne (tgt := 562) hx hb dL_acts_555 (by decide) (fun c51 => ?_) (fun c51 => ?_)
                  · have hf := oe hf c51
                    exact absurd hf (by simp)
                  · have hf := oi hf c51
                    refine lv_iconst (v := 1) hx hb dL_acts_558 (by decide) ?_
                    refine lv_goto (tgt := 563) hx hb dL_acts_559 (by decide) ?_
                    have hR : (true, G0, G1, G2, G3, u50.2) = r := Option.some.inj hf
                    rw [← hR]
                    refine W.widen (k := 2) (n := 12) (Nat.le_of_ble_eq_true rfl) (Nat.le_of_ble_eq_true rfl) ?_
                    exact W.zret (v := zb true) hx hb hr0 (zb_nar true) (fun t ht hW => ⟨⟨zb true, (), rfl, rfl, by rw [ht]; exact hP, hD⟩, hS.F ht⟩) hS.2.2 dL_acts_563
                · have hf := oe hf c49
                  refine lv_aload_n hx hb dL_acts_511 rfl (lv_at hl 7 rfl) ?_
                  refine lv_iconst (v := 5) hx hb dL_acts_512 (by decide) ?_
                  refine lv_iload hx hb dL_acts_513 (lv_at hl 3 rfl) ?_
                  refine lv_imul hx hb dL_acts_515 ?_
                  refine lv_iconst (v := 3) hx hb dL_acts_516 (by decide) ?_
                  refine lv_iadd hx hb dL_acts_517 ?_
                  obtain ⟨h52, hf⟩ := og hf
                  refine zald (D := g.1) (f := G1) (k := ((5 * u2) + 3).toNatClampNeg) hx hb hK.1 hP 1 0 rfl rfl (zin_vp h52) rfl dL_acts_518 ?_
                  refine lv_iconst (v := 1) hx hb dL_acts_519 (by decide) ?_
                  refine lv_icmp_gt (tgt := 545) hx hb dL_acts_520 (by decide) (fun c53 => ?_) (fun c53 => ?_)
                  · have hf := oi hf c53
                    refine lv_aload_n hx hb dL_acts_545 rfl (lv_at hl 5 rfl) ?_
                    refine lv_iload hx hb dL_acts_546 (lv_at hl 3 rfl) ?_
                    refine lv_iload hx hb dL_acts_548 (lv_at hl 2 rfl) ?_
                    obtain ⟨u54, hu54, hf⟩ := ob hf
                    refine zkQ_i (zrun_w (vx_runSX (As := [.ref (a 0), .int u2, .int (((u1 / 6) - (u1 / 6) / u36 * u36) - u39)]) (rest := []) ⟨hx, hb, hml, hown, hts⟩ (ca_L_stretches l hst9 g a v u2 (((u1 / 6) - (u1 / 6) / u36 * u36) - u39) _ hu54 _) (zcSX hw0 zm2_132 zmH2_134 zm1_0 zm2_133 hd_L_stretches rfl rfl ⟨Nat.le_of_ble_eq_true rfl, Nat.le_of_ble_eq_true rfl⟩) ⟨zblindL, zpreWQ hK hKx hZs hNc hP hD hS hA⟩ rfl rfl hl.1 rfl (lv_room (Nat.le_of_ble_eq_true rfl)) dL_acts_550 ⟨Nat.le_of_ble_eq_true rfl, Nat.le_of_ble_eq_true rfl⟩)) hP hD hS hA rfl (fun H locs hP hD hS => ?_)
                    have hP : va_P g.1 vwCl ([(b0, .inl (g.2.1, 9, .inl G0))] ++ [(b1, .inl (g.2.1, 30, .inl G1))] ++ [(b2, .inl (g.2.1, 15, .inl G2))] ++ [(b3, .inl (g.2.1, 63, .inl G3))] ++ zX6 g a u54.2) H := hP
                    have hD : va_D A ([(b0, .inl (g.2.1, 9, .inl G0))] ++ [(b1, .inl (g.2.1, 30, .inl G1))] ++ [(b2, .inl (g.2.1, 15, .inl G2))] ++ [(b3, .inl (g.2.1, 63, .inl G3))] ++ zX6 g a u54.2) := hD
                    refine lv_ldc (v := -2000003) hx hb hown (hw0 _ zm2_119) dL_acts_553 ?_
                    refine lv_icmp_ne (tgt := 562) hx hb dL_acts_555 (by decide) (fun c55 => ?_) (fun c55 => ?_)
                    · have hf := oe hf c55
                      exact absurd hf (by simp)
                    · have hf := oi hf c55
                      refine lv_iconst (v := 1) hx hb dL_acts_558 (by decide) ?_
                      refine lv_goto (tgt := 563) hx hb dL_acts_559 (by decide) ?_
                      have hR : (true, G0, G1, G2, G3, u54.2) = r := Option.some.inj hf
                      rw [← hR]
                      refine W.widen (k := 2) (n := 12) (Nat.le_of_ble_eq_true rfl) (Nat.le_of_ble_eq_true rfl) ?_
                      exact W.zret (v := zb true) hx hb hr0 (zb_nar true) (fun t ht hW => ⟨⟨zb true, (), rfl, rfl, by rw [ht]; exact hP, hD⟩, hS.F ht⟩) hS.2.2 dL_acts_563
                  · have hf := oe hf c53
                    refine lv_iload hx hb dL_acts_523 (lv_at hl 0 rfl) ?_
                    refine lv_if_eq (tgt := 564) hx hb dL_acts_525 (by decide) (fun c56 => ?_) (fun c56 => ?_)
                    · have hf := oi hf c56
                      refine lv_aload_n hx hb dL_acts_564 rfl (lv_at hl 7 rfl) ?_
                      refine lv_iconst (v := 5) hx hb dL_acts_565 (by decide) ?_
                      refine lv_iload hx hb dL_acts_566 (lv_at hl 3 rfl) ?_
                      refine lv_imul hx hb dL_acts_568 ?_
                      refine lv_iload hx hb dL_acts_569 (lv_at hl 1 rfl) ?_
                      obtain ⟨h57, hf⟩ := og hf
                      refine zast (D := g.1) (f := G1) (k := (5 * u2).toNatClampNeg) (x := ((G1 (5 * u2).toNatClampNeg) + (((u1 / 6) - (u1 / 6) / u36 * u36) - u39))) hx hb hK.1 hP hD hS 1 0 rfl rfl (zin_vp h57) rfl dL_acts_571 (fun H locs hP hD hS => ?_)
                      have hP : va_P g.1 vwCl ([(b0, .inl (g.2.1, 9, .inl G0))] ++ [(b1, .inl (g.2.1, 30, .inl (upd G1 ((5 * u2).toNatClampNeg) ((G1 (5 * u2).toNatClampNeg) + (((u1 / 6) - (u1 / 6) / u36 * u36) - u39)))))] ++ [(b2, .inl (g.2.1, 15, .inl G2))] ++ [(b3, .inl (g.2.1, 63, .inl G3))] ++ zX6 g a v) H := hP
                      have hD : va_D A ([(b0, .inl (g.2.1, 9, .inl G0))] ++ [(b1, .inl (g.2.1, 30, .inl (upd G1 ((5 * u2).toNatClampNeg) ((G1 (5 * u2).toNatClampNeg) + (((u1 / 6) - (u1 / 6) / u36 * u36) - u39)))))] ++ [(b2, .inl (g.2.1, 15, .inl G2))] ++ [(b3, .inl (g.2.1, 63, .inl G3))] ++ zX6 g a v) := hD
                      refine lv_aload_n hx hb dL_acts_572 rfl (lv_at hl 6 rfl) ?_
                      refine lv_iconst (v := 5) hx hb dL_acts_573 (by decide) ?_
                      refine lv_dup2_11 hx hb dL_acts_574 rfl rfl ?_
                      refine zald (D := g.1) (f := G0) (k := 5) hx hb hK.1 hP 0 0 rfl rfl (zin_vp (i := 5) (n := 9) rfl) rfl dL_acts_575 ?_
                      refine lv_iload hx hb dL_acts_576 (lv_at hl 0 rfl) ?_
                      obtain ⟨u58, hu58, hf⟩ := ob hf
                      have j59 : ∀ (H : Heap) (locs : List Loc), va_P g.1 vwCl ([(b0, .inl (g.2.1, 9, .inl G0))] ++ [(b1, .inl (g.2.1, 30, .inl (upd G1 ((5 * u2).toNatClampNeg) ((G1 (5 * u2).toNatClampNeg) + (((u1 / 6) - (u1 / 6) / u36 * u36) - u39)))))] ++ [(b2, .inl (g.2.1, 15, .inl G2))] ++ [(b3, .inl (g.2.1, 63, .inl G3))] ++ zX6 g a v) H → va_D A ([(b0, .inl (g.2.1, 9, .inl G0))] ++ [(b1, .inl (g.2.1, 30, .inl (upd G1 ((5 * u2).toNatClampNeg) ((G1 (5 * u2).toNatClampNeg) + (((u1 / 6) - (u1 / 6) / u36 * u36) - u39)))))] ++ [(b2, .inl (g.2.1, 15, .inl G2))] ++ [(b3, .inl (g.2.1, 63, .inl G3))] ++ zX6 g a v) → va_S A s.heap H locs → W p l e (headSpec (zw yL_acts cL_acts 19 (some .boolean)) ({ frames := 8, cells := 2, slots := 12, locals := 184 } : Room)).room s m ([.ref (a 0), .ref b0, .ref b1, .ref b2, .ref b3, .int p0] : List Value).toArray below meth c H locs 0 0 (MQ below (va_Qi (fun (x : Int32) (_ : Unit) => x = zb r.1) (fun _ => zEnd g A ([(b0, .inl (g.2.1, 9, .inl r.2.1))] ++ [(b1, .inl (g.2.1, 30, .inl r.2.2.1))] ++ [(b2, .inl (g.2.1, 15, .inl r.2.2.2.1))] ++ [(b3, .inl (g.2.1, 63, .inl r.2.2.2.2.1))] ++ zX6 g a r.2.2.2.2.2)) A) ([.ref (a 0), .ref b0, .ref b1, .ref b2, .ref b3, .int p0] : List Value).toArray s 2 12 A) (F0 m 587 ls [.int u58, .int (G0 5), .int 5, .ref b0]) := by
                        intro H locs hP hD hS
                        refine lv_iadd hx hb dL_acts_587 ?_
                        refine zast (D := g.1) (f := G0) (k := 5) (x := ((G0 5) + u58)) hx hb hK.1 hP hD hS 0 0 rfl rfl (zin_vp (i := 5) (n := 9) rfl) rfl dL_acts_588 (fun H locs hP hD hS => ?_)
                        have hP : va_P g.1 vwCl ([(b0, .inl (g.2.1, 9, .inl (upd G0 5 ((G0 5) + u58))))] ++ [(b1, .inl (g.2.1, 30, .inl (upd G1 ((5 * u2).toNatClampNeg) ((G1 (5 * u2).toNatClampNeg) + (((u1 / 6) - (u1 / 6) / u36 * u36) - u39)))))] ++ [(b2, .inl (g.2.1, 15, .inl G2))] ++ [(b3, .inl (g.2.1, 63, .inl G3))] ++ zX6 g a v) H := hP
                        have hD : va_D A ([(b0, .inl (g.2.1, 9, .inl (upd G0 5 ((G0 5) + u58))))] ++ [(b1, .inl (g.2.1, 30, .inl (upd G1 ((5 * u2).toNatClampNeg) ((G1 (5 * u2).toNatClampNeg) + (((u1 / 6) - (u1 / 6) / u36 * u36) - u39)))))] ++ [(b2, .inl (g.2.1, 15, .inl G2))] ++ [(b3, .inl (g.2.1, 63, .inl G3))] ++ zX6 g a v) := hD
                        refine lv_iload hx hb dL_acts_589 (lv_at hl 0 rfl) ?_
                        refine lv_if_eq (tgt := 606) hx hb dL_acts_591 (by decide) (fun c60 => ?_) (fun c60 => ?_)
                        · have hf := oi hf c60
                          refine lv_aload_n hx hb dL_acts_606 rfl (lv_at hl 5 rfl) ?_
                          refine lv_iload hx hb dL_acts_607 (lv_at hl 3 rfl) ?_
                          refine lv_iload hx hb dL_acts_609 (lv_at hl 2 rfl) ?_
                          obtain ⟨u61, hu61, hf⟩ := ob hf
                          refine zkQ_i (zrun_w (vx_runSX (As := [.ref (a 0), .int u2, .int (((u1 / 6) - (u1 / 6) / u36 * u36) - u39)]) (rest := []) ⟨hx, hb, hml, hown, hts⟩ (co_L_stretches l g a v u2 (((u1 / 6) - (u1 / 6) / u36 * u36) - u39) _ hu61 _) (zcSX hw0 zm2_132 zmH2_134 zm1_0 zm2_133 hd_L_stretches rfl rfl ⟨Nat.le_of_ble_eq_true rfl, Nat.le_of_ble_eq_true rfl⟩) ⟨zblind, zpreQ hK hP hD⟩ rfl rfl hl.1 rfl (lv_room (Nat.le_of_ble_eq_true rfl)) dL_acts_611 ⟨Nat.le_of_ble_eq_true rfl, Nat.le_of_ble_eq_true rfl⟩)) hP hD hS hA rfl (fun H locs hP hD hS => ?_)
                          have hP : va_P g.1 vwCl ([(b0, .inl (g.2.1, 9, .inl (upd G0 5 ((G0 5) + u58))))] ++ [(b1, .inl (g.2.1, 30, .inl (upd G1 ((5 * u2).toNatClampNeg) ((G1 (5 * u2).toNatClampNeg) + (((u1 / 6) - (u1 / 6) / u36 * u36) - u39)))))] ++ [(b2, .inl (g.2.1, 15, .inl G2))] ++ [(b3, .inl (g.2.1, 63, .inl G3))] ++ zX6 g a u61.2) H := hP
                          have hD : va_D A ([(b0, .inl (g.2.1, 9, .inl (upd G0 5 ((G0 5) + u58))))] ++ [(b1, .inl (g.2.1, 30, .inl (upd G1 ((5 * u2).toNatClampNeg) ((G1 (5 * u2).toNatClampNeg) + (((u1 / 6) - (u1 / 6) / u36 * u36) - u39)))))] ++ [(b2, .inl (g.2.1, 15, .inl G2))] ++ [(b3, .inl (g.2.1, 63, .inl G3))] ++ zX6 g a u61.2) := hD
                          refine lv_iload hx hb dL_acts_614 (lv_at hl 1 rfl) ?_
                          refine lv_icmp_ne (tgt := 623) hx hb dL_acts_616 (by decide) (fun c62 => ?_) (fun c62 => ?_)
                          · have hf := oe hf c62
                            exact absurd hf (by simp)
                          · have hf := oi hf c62
                            refine lv_iconst (v := 1) hx hb dL_acts_619 (by decide) ?_
                            refine lv_goto (tgt := 624) hx hb dL_acts_620 (by decide) ?_
                            have hR : (true, (upd G0 5 ((G0 5) + u58)), (upd G1 ((5 * u2).toNatClampNeg) ((G1 (5 * u2).toNatClampNeg) + (((u1 / 6) - (u1 / 6) / u36 * u36) - u39))), G2, G3, u61.2) = r := Option.some.inj hf
                            rw [← hR]
                            refine W.widen (k := 2) (n := 12) (Nat.le_of_ble_eq_true rfl) (Nat.le_of_ble_eq_true rfl) ?_
                            exact W.zret (v := zb true) hx hb hr0 (zb_nar true) (fun t ht hW => ⟨⟨zb true, (), rfl, rfl, by rw [ht]; exact hP, hD⟩, hS.F ht⟩) hS.2.2 dL_acts_624
                        · have hf := oe hf c60
                          refine lv_aload_n hx hb dL_acts_594 rfl (lv_at hl 6 rfl) ?_
                          refine lv_iconst (v := 5) hx hb dL_acts_595 (by decide) ?_
                          refine zald (D := g.1) (f := (upd G0 5 ((G0 5) + u58))) (k := 5) hx hb hK.1 hP 0 0 rfl rfl (zin_vp (i := 5) (n := 9) rfl) rfl dL_acts_596 ?_
                          refine zeqi (y := ((G0 5) + u58)) rfl ?_
                          refine lv_if_ne (tgt := 606) hx hb dL_acts_597 (by decide) (fun c63 => ?_) (fun c63 => ?_)
                          · have hf := oe hf c63
                            refine lv_aload_n hx hb dL_acts_606 rfl (lv_at hl 5 rfl) ?_
                            refine lv_iload hx hb dL_acts_607 (lv_at hl 3 rfl) ?_
                            refine lv_iload hx hb dL_acts_609 (lv_at hl 2 rfl) ?_
                            obtain ⟨u64, hu64, hf⟩ := ob hf
                            refine zkQ_i (zrun_w (vx_runSX (As := [.ref (a 0), .int u2, .int (((u1 / 6) - (u1 / 6) / u36 * u36) - u39)]) (rest := []) ⟨hx, hb, hml, hown, hts⟩ (co_L_stretches l g a v u2 (((u1 / 6) - (u1 / 6) / u36 * u36) - u39) _ hu64 _) (zcSX hw0 zm2_132 zmH2_134 zm1_0 zm2_133 hd_L_stretches rfl rfl ⟨Nat.le_of_ble_eq_true rfl, Nat.le_of_ble_eq_true rfl⟩) ⟨zblind, zpreQ hK hP hD⟩ rfl rfl hl.1 rfl (lv_room (Nat.le_of_ble_eq_true rfl)) dL_acts_611 ⟨Nat.le_of_ble_eq_true rfl, Nat.le_of_ble_eq_true rfl⟩)) hP hD hS hA rfl (fun H locs hP hD hS => ?_)
                            have hP : va_P g.1 vwCl ([(b0, .inl (g.2.1, 9, .inl (upd G0 5 ((G0 5) + u58))))] ++ [(b1, .inl (g.2.1, 30, .inl (upd G1 ((5 * u2).toNatClampNeg) ((G1 (5 * u2).toNatClampNeg) + (((u1 / 6) - (u1 / 6) / u36 * u36) - u39)))))] ++ [(b2, .inl (g.2.1, 15, .inl G2))] ++ [(b3, .inl (g.2.1, 63, .inl G3))] ++ zX6 g a u64.2) H := hP
                            have hD : va_D A ([(b0, .inl (g.2.1, 9, .inl (upd G0 5 ((G0 5) + u58))))] ++ [(b1, .inl (g.2.1, 30, .inl (upd G1 ((5 * u2).toNatClampNeg) ((G1 (5 * u2).toNatClampNeg) + (((u1 / 6) - (u1 / 6) / u36 * u36) - u39)))))] ++ [(b2, .inl (g.2.1, 15, .inl G2))] ++ [(b3, .inl (g.2.1, 63, .inl G3))] ++ zX6 g a u64.2) := hD
                            refine lv_iload hx hb dL_acts_614 (lv_at hl 1 rfl) ?_
                            refine lv_icmp_ne (tgt := 623) hx hb dL_acts_616 (by decide) (fun c65 => ?_) (fun c65 => ?_)
                            · have hf := oe hf c65
                              exact absurd hf (by simp)
                            · have hf := oi hf c65
                              refine lv_iconst (v := 1) hx hb dL_acts_619 (by decide) ?_
                              refine lv_goto (tgt := 624) hx hb dL_acts_620 (by decide) ?_
                              have hR : (true, (upd G0 5 ((G0 5) + u58)), (upd G1 ((5 * u2).toNatClampNeg) ((G1 (5 * u2).toNatClampNeg) + (((u1 / 6) - (u1 / 6) / u36 * u36) - u39))), G2, G3, u64.2) = r := Option.some.inj hf
                              rw [← hR]
                              refine W.widen (k := 2) (n := 12) (Nat.le_of_ble_eq_true rfl) (Nat.le_of_ble_eq_true rfl) ?_
                              exact W.zret (v := zb true) hx hb hr0 (zb_nar true) (fun t ht hW => ⟨⟨zb true, (), rfl, rfl, by rw [ht]; exact hP, hD⟩, hS.F ht⟩) hS.2.2 dL_acts_624
                          · have hf := oi hf c63
                            refine lv_aload_n hx hb dL_acts_600 rfl (lv_at hl 6 rfl) ?_
                            refine lv_aload_n hx hb dL_acts_601 rfl (lv_at hl 7 rfl) ?_
                            refine lv_aload_n hx hb dL_acts_602 rfl (lv_at hl 8 rfl) ?_
                            obtain ⟨u66, hu66, hf⟩ := ob hf
                            refine zk_v (va_runS (As := [.ref b0, .ref b1, .ref b2]) (rest := []) ⟨hx, hb, hml, hown, hts⟩ (c_L_done l g b0 b1 b2 (upd G0 5 ((G0 5) + u58)) (upd G1 ((5 * u2).toNatClampNeg) ((G1 (5 * u2).toNatClampNeg) + (((u1 / 6) - (u1 / 6) / u36 * u36) - u39))) G2 _ hu66 _) (zcS hw0 zm2_198 zm2_200 zm1_0 zm2_199 hd_L_done rfl rfl ⟨Nat.le_of_ble_eq_true rfl, Nat.le_of_ble_eq_true rfl⟩) ⟨zblind, zpre hK hP hD [0, 1, 2] rfl rfl⟩ rfl rfl hl.1 rfl (lv_room (Nat.le_of_ble_eq_true rfl)) dL_acts_603 ⟨Nat.zero_le _, Nat.zero_le _⟩) hP hD hS hA [0, 1, 2] rfl rfl (fun H locs hP hD hS => ?_)
                            have hP : va_P g.1 vwCl ([(b0, .inl (g.2.1, 9, .inl u66.1))] ++ [(b1, .inl (g.2.1, 30, .inl u66.2.1))] ++ [(b2, .inl (g.2.1, 15, .inl u66.2.2))] ++ [(b3, .inl (g.2.1, 63, .inl G3))] ++ zX6 g a v) H := hP
                            have hD : va_D A ([(b0, .inl (g.2.1, 9, .inl u66.1))] ++ [(b1, .inl (g.2.1, 30, .inl u66.2.1))] ++ [(b2, .inl (g.2.1, 15, .inl u66.2.2))] ++ [(b3, .inl (g.2.1, 63, .inl G3))] ++ zX6 g a v) := hD
                            refine lv_aload_n hx hb dL_acts_606 rfl (lv_at hl 5 rfl) ?_
                            refine lv_iload hx hb dL_acts_607 (lv_at hl 3 rfl) ?_
                            refine lv_iload hx hb dL_acts_609 (lv_at hl 2 rfl) ?_
                            obtain ⟨u67, hu67, hf⟩ := ob hf
                            refine zkQ_i (zrun_w (vx_runSX (As := [.ref (a 0), .int u2, .int (((u1 / 6) - (u1 / 6) / u36 * u36) - u39)]) (rest := []) ⟨hx, hb, hml, hown, hts⟩ (co_L_stretches l g a v u2 (((u1 / 6) - (u1 / 6) / u36 * u36) - u39) _ hu67 _) (zcSX hw0 zm2_132 zmH2_134 zm1_0 zm2_133 hd_L_stretches rfl rfl ⟨Nat.le_of_ble_eq_true rfl, Nat.le_of_ble_eq_true rfl⟩) ⟨zblind, zpreQ hK hP hD⟩ rfl rfl hl.1 rfl (lv_room (Nat.le_of_ble_eq_true rfl)) dL_acts_611 ⟨Nat.le_of_ble_eq_true rfl, Nat.le_of_ble_eq_true rfl⟩)) hP hD hS hA rfl (fun H locs hP hD hS => ?_)
                            have hP : va_P g.1 vwCl ([(b0, .inl (g.2.1, 9, .inl u66.1))] ++ [(b1, .inl (g.2.1, 30, .inl u66.2.1))] ++ [(b2, .inl (g.2.1, 15, .inl u66.2.2))] ++ [(b3, .inl (g.2.1, 63, .inl G3))] ++ zX6 g a u67.2) H := hP
                            have hD : va_D A ([(b0, .inl (g.2.1, 9, .inl u66.1))] ++ [(b1, .inl (g.2.1, 30, .inl u66.2.1))] ++ [(b2, .inl (g.2.1, 15, .inl u66.2.2))] ++ [(b3, .inl (g.2.1, 63, .inl G3))] ++ zX6 g a u67.2) := hD
                            refine lv_iload hx hb dL_acts_614 (lv_at hl 1 rfl) ?_
                            refine lv_icmp_ne (tgt := 623) hx hb dL_acts_616 (by decide) (fun c68 => ?_) (fun c68 => ?_)
                            · have hf := oe hf c68
                              exact absurd hf (by simp)
                            · have hf := oi hf c68
                              refine lv_iconst (v := 1) hx hb dL_acts_619 (by decide) ?_
                              refine lv_goto (tgt := 624) hx hb dL_acts_620 (by decide) ?_
                              have hR : (true, u66.1, u66.2.1, u66.2.2, G3, u67.2) = r := Option.some.inj hf
                              rw [← hR]
                              refine W.widen (k := 2) (n := 12) (Nat.le_of_ble_eq_true rfl) (Nat.le_of_ble_eq_true rfl) ?_
                              exact W.zret (v := zb true) hx hb hr0 (zb_nar true) (fun t ht hW => ⟨⟨zb true, (), rfl, rfl, by rw [ht]; exact hP, hD⟩, hS.F ht⟩) hS.2.2 dL_acts_624
                      have hf := hu58
                      refine lv_if_eq (tgt := 586) hx hb dL_acts_578 (by decide) (fun c69 => ?_) (fun c69 => ?_)
                      · have hf := oi hf c69
                        refine lv_iconst (v := 0) hx hb dL_acts_586 (by decide) ?_
                        exact zeqi (Option.some.inj hf) (j59 _ _ hP hD hS)
                      · have hf := oe hf c69
                        refine lv_iload hx hb dL_acts_581 (lv_at hl 2 rfl) ?_
                        refine lv_goto (tgt := 587) hx hb dL_acts_583 (by decide) ?_
                        exact zeqi (Option.some.inj hf) (j59 _ _ hP hD hS)
                    · have hf := oe hf c56
                      refine lv_aload_n hx hb dL_acts_528 rfl (lv_at hl 7 rfl) ?_
                      refine lv_iconst (v := 5) hx hb dL_acts_529 (by decide) ?_
                      refine lv_iload hx hb dL_acts_530 (lv_at hl 3 rfl) ?_
                      refine lv_imul hx hb dL_acts_532 ?_
                      refine lv_iconst (v := 4) hx hb dL_acts_533 (by decide) ?_
                      refine lv_iadd hx hb dL_acts_534 ?_
                      obtain ⟨h70, hf⟩ := og hf
                      refine zald (D := g.1) (f := G1) (k := ((5 * u2) + 4).toNatClampNeg) hx hb hK.1 hP 1 0 rfl rfl (zin_vp h70) rfl dL_acts_535 ?_
                      refine lv_iload hx hb dL_acts_536 (lv_at hl 1 rfl) ?_
                      refine lv_iadd hx hb dL_acts_538 ?_
                      refine lv_aload_n hx hb dL_acts_539 rfl (lv_at hl 6 rfl) ?_
                      refine lv_iconst (v := 2) hx hb dL_acts_540 (by decide) ?_
                      refine zald (D := g.1) (f := G0) (k := 2) hx hb hK.1 hP 0 0 rfl rfl (zin_vp (i := 2) (n := 9) rfl) rfl dL_acts_541 ?_
                      refine lv_icmp_ge (tgt := 564) hx hb dL_acts_542 (by decide) (fun c71 => ?_) (fun c71 => ?_)
                      · have hf := oi hf c71
                        refine lv_aload_n hx hb dL_acts_564 rfl (lv_at hl 7 rfl) ?_
                        refine lv_iconst (v := 5) hx hb dL_acts_565 (by decide) ?_
                        refine lv_iload hx hb dL_acts_566 (lv_at hl 3 rfl) ?_
                        refine lv_imul hx hb dL_acts_568 ?_
                        refine lv_iload hx hb dL_acts_569 (lv_at hl 1 rfl) ?_
                        obtain ⟨h72, hf⟩ := og hf
                        refine zast (D := g.1) (f := G1) (k := (5 * u2).toNatClampNeg) (x := ((G1 (5 * u2).toNatClampNeg) + (((u1 / 6) - (u1 / 6) / u36 * u36) - u39))) hx hb hK.1 hP hD hS 1 0 rfl rfl (zin_vp h72) rfl dL_acts_571 (fun H locs hP hD hS => ?_)
                        have hP : va_P g.1 vwCl ([(b0, .inl (g.2.1, 9, .inl G0))] ++ [(b1, .inl (g.2.1, 30, .inl (upd G1 ((5 * u2).toNatClampNeg) ((G1 (5 * u2).toNatClampNeg) + (((u1 / 6) - (u1 / 6) / u36 * u36) - u39)))))] ++ [(b2, .inl (g.2.1, 15, .inl G2))] ++ [(b3, .inl (g.2.1, 63, .inl G3))] ++ zX6 g a v) H := hP
                        have hD : va_D A ([(b0, .inl (g.2.1, 9, .inl G0))] ++ [(b1, .inl (g.2.1, 30, .inl (upd G1 ((5 * u2).toNatClampNeg) ((G1 (5 * u2).toNatClampNeg) + (((u1 / 6) - (u1 / 6) / u36 * u36) - u39)))))] ++ [(b2, .inl (g.2.1, 15, .inl G2))] ++ [(b3, .inl (g.2.1, 63, .inl G3))] ++ zX6 g a v) := hD
                        refine lv_aload_n hx hb dL_acts_572 rfl (lv_at hl 6 rfl) ?_
                        refine lv_iconst (v := 5) hx hb dL_acts_573 (by decide) ?_
                        refine lv_dup2_11 hx hb dL_acts_574 rfl rfl ?_
                        refine zald (D := g.1) (f := G0) (k := 5) hx hb hK.1 hP 0 0 rfl rfl (zin_vp (i := 5) (n := 9) rfl) rfl dL_acts_575 ?_
                        refine lv_iload hx hb dL_acts_576 (lv_at hl 0 rfl) ?_
                        obtain ⟨u73, hu73, hf⟩ := ob hf
                        have j74 : ∀ (H : Heap) (locs : List Loc), va_P g.1 vwCl ([(b0, .inl (g.2.1, 9, .inl G0))] ++ [(b1, .inl (g.2.1, 30, .inl (upd G1 ((5 * u2).toNatClampNeg) ((G1 (5 * u2).toNatClampNeg) + (((u1 / 6) - (u1 / 6) / u36 * u36) - u39)))))] ++ [(b2, .inl (g.2.1, 15, .inl G2))] ++ [(b3, .inl (g.2.1, 63, .inl G3))] ++ zX6 g a v) H → va_D A ([(b0, .inl (g.2.1, 9, .inl G0))] ++ [(b1, .inl (g.2.1, 30, .inl (upd G1 ((5 * u2).toNatClampNeg) ((G1 (5 * u2).toNatClampNeg) + (((u1 / 6) - (u1 / 6) / u36 * u36) - u39)))))] ++ [(b2, .inl (g.2.1, 15, .inl G2))] ++ [(b3, .inl (g.2.1, 63, .inl G3))] ++ zX6 g a v) → va_S A s.heap H locs → W p l e (headSpec (zw yL_acts cL_acts 19 (some .boolean)) ({ frames := 8, cells := 2, slots := 12, locals := 184 } : Room)).room s m ([.ref (a 0), .ref b0, .ref b1, .ref b2, .ref b3, .int p0] : List Value).toArray below meth c H locs 0 0 (MQ below (va_Qi (fun (x : Int32) (_ : Unit) => x = zb r.1) (fun _ => zEnd g A ([(b0, .inl (g.2.1, 9, .inl r.2.1))] ++ [(b1, .inl (g.2.1, 30, .inl r.2.2.1))] ++ [(b2, .inl (g.2.1, 15, .inl r.2.2.2.1))] ++ [(b3, .inl (g.2.1, 63, .inl r.2.2.2.2.1))] ++ zX6 g a r.2.2.2.2.2)) A) ([.ref (a 0), .ref b0, .ref b1, .ref b2, .ref b3, .int p0] : List Value).toArray s 2 12 A) (F0 m 587 ls [.int u73, .int (G0 5), .int 5, .ref b0]) := by
                          intro H locs hP hD hS
                          refine lv_iadd hx hb dL_acts_587 ?_
                          refine zast (D := g.1) (f := G0) (k := 5) (x := ((G0 5) + u73)) hx hb hK.1 hP hD hS 0 0 rfl rfl (zin_vp (i := 5) (n := 9) rfl) rfl dL_acts_588 (fun H locs hP hD hS => ?_)
                          have hP : va_P g.1 vwCl ([(b0, .inl (g.2.1, 9, .inl (upd G0 5 ((G0 5) + u73))))] ++ [(b1, .inl (g.2.1, 30, .inl (upd G1 ((5 * u2).toNatClampNeg) ((G1 (5 * u2).toNatClampNeg) + (((u1 / 6) - (u1 / 6) / u36 * u36) - u39)))))] ++ [(b2, .inl (g.2.1, 15, .inl G2))] ++ [(b3, .inl (g.2.1, 63, .inl G3))] ++ zX6 g a v) H := hP
                          have hD : va_D A ([(b0, .inl (g.2.1, 9, .inl (upd G0 5 ((G0 5) + u73))))] ++ [(b1, .inl (g.2.1, 30, .inl (upd G1 ((5 * u2).toNatClampNeg) ((G1 (5 * u2).toNatClampNeg) + (((u1 / 6) - (u1 / 6) / u36 * u36) - u39)))))] ++ [(b2, .inl (g.2.1, 15, .inl G2))] ++ [(b3, .inl (g.2.1, 63, .inl G3))] ++ zX6 g a v) := hD
                          refine lv_iload hx hb dL_acts_589 (lv_at hl 0 rfl) ?_
                          refine lv_if_eq (tgt := 606) hx hb dL_acts_591 (by decide) (fun c75 => ?_) (fun c75 => ?_)
                          · have hf := oi hf c75
                            refine lv_aload_n hx hb dL_acts_606 rfl (lv_at hl 5 rfl) ?_
                            refine lv_iload hx hb dL_acts_607 (lv_at hl 3 rfl) ?_
                            refine lv_iload hx hb dL_acts_609 (lv_at hl 2 rfl) ?_
                            obtain ⟨u76, hu76, hf⟩ := ob hf
                            refine zkQ_i (zrun_w (vx_runSX (As := [.ref (a 0), .int u2, .int (((u1 / 6) - (u1 / 6) / u36 * u36) - u39)]) (rest := []) ⟨hx, hb, hml, hown, hts⟩ (co_L_stretches l g a v u2 (((u1 / 6) - (u1 / 6) / u36 * u36) - u39) _ hu76 _) (zcSX hw0 zm2_132 zmH2_134 zm1_0 zm2_133 hd_L_stretches rfl rfl ⟨Nat.le_of_ble_eq_true rfl, Nat.le_of_ble_eq_true rfl⟩) ⟨zblind, zpreQ hK hP hD⟩ rfl rfl hl.1 rfl (lv_room (Nat.le_of_ble_eq_true rfl)) dL_acts_611 ⟨Nat.le_of_ble_eq_true rfl, Nat.le_of_ble_eq_true rfl⟩)) hP hD hS hA rfl (fun H locs hP hD hS => ?_)
                            have hP : va_P g.1 vwCl ([(b0, .inl (g.2.1, 9, .inl (upd G0 5 ((G0 5) + u73))))] ++ [(b1, .inl (g.2.1, 30, .inl (upd G1 ((5 * u2).toNatClampNeg) ((G1 (5 * u2).toNatClampNeg) + (((u1 / 6) - (u1 / 6) / u36 * u36) - u39)))))] ++ [(b2, .inl (g.2.1, 15, .inl G2))] ++ [(b3, .inl (g.2.1, 63, .inl G3))] ++ zX6 g a u76.2) H := hP
                            have hD : va_D A ([(b0, .inl (g.2.1, 9, .inl (upd G0 5 ((G0 5) + u73))))] ++ [(b1, .inl (g.2.1, 30, .inl (upd G1 ((5 * u2).toNatClampNeg) ((G1 (5 * u2).toNatClampNeg) + (((u1 / 6) - (u1 / 6) / u36 * u36) - u39)))))] ++ [(b2, .inl (g.2.1, 15, .inl G2))] ++ [(b3, .inl (g.2.1, 63, .inl G3))] ++ zX6 g a u76.2) := hD
                            refine lv_iload hx hb dL_acts_614 (lv_at hl 1 rfl) ?_
                            refine lv_icmp_ne (tgt := 623) hx hb dL_acts_616 (by decide) (fun c77 => ?_) (fun c77 => ?_)
                            · have hf := oe hf c77
                              exact absurd hf (by simp)
                            · have hf := oi hf c77
                              refine lv_iconst (v := 1) hx hb dL_acts_619 (by decide) ?_
                              refine lv_goto (tgt := 624) hx hb dL_acts_620 (by decide) ?_
                              have hR : (true, (upd G0 5 ((G0 5) + u73)), (upd G1 ((5 * u2).toNatClampNeg) ((G1 (5 * u2).toNatClampNeg) + (((u1 / 6) - (u1 / 6) / u36 * u36) - u39))), G2, G3, u76.2) = r := Option.some.inj hf
                              rw [← hR]
                              refine W.widen (k := 2) (n := 12) (Nat.le_of_ble_eq_true rfl) (Nat.le_of_ble_eq_true rfl) ?_
                              exact W.zret (v := zb true) hx hb hr0 (zb_nar true) (fun t ht hW => ⟨⟨zb true, (), rfl, rfl, by rw [ht]; exact hP, hD⟩, hS.F ht⟩) hS.2.2 dL_acts_624
                          · have hf := oe hf c75
                            refine lv_aload_n hx hb dL_acts_594 rfl (lv_at hl 6 rfl) ?_
                            refine lv_iconst (v := 5) hx hb dL_acts_595 (by decide) ?_
                            refine zald (D := g.1) (f := (upd G0 5 ((G0 5) + u73))) (k := 5) hx hb hK.1 hP 0 0 rfl rfl (zin_vp (i := 5) (n := 9) rfl) rfl dL_acts_596 ?_
                            refine zeqi (y := ((G0 5) + u73)) rfl ?_
                            refine lv_if_ne (tgt := 606) hx hb dL_acts_597 (by decide) (fun c78 => ?_) (fun c78 => ?_)
                            · have hf := oe hf c78
                              refine lv_aload_n hx hb dL_acts_606 rfl (lv_at hl 5 rfl) ?_
                              refine lv_iload hx hb dL_acts_607 (lv_at hl 3 rfl) ?_
                              refine lv_iload hx hb dL_acts_609 (lv_at hl 2 rfl) ?_
                              obtain ⟨u79, hu79, hf⟩ := ob hf
                              refine zkQ_i (zrun_w (vx_runSX (As := [.ref (a 0), .int u2, .int (((u1 / 6) - (u1 / 6) / u36 * u36) - u39)]) (rest := []) ⟨hx, hb, hml, hown, hts⟩ (co_L_stretches l g a v u2 (((u1 / 6) - (u1 / 6) / u36 * u36) - u39) _ hu79 _) (zcSX hw0 zm2_132 zmH2_134 zm1_0 zm2_133 hd_L_stretches rfl rfl ⟨Nat.le_of_ble_eq_true rfl, Nat.le_of_ble_eq_true rfl⟩) ⟨zblind, zpreQ hK hP hD⟩ rfl rfl hl.1 rfl (lv_room (Nat.le_of_ble_eq_true rfl)) dL_acts_611 ⟨Nat.le_of_ble_eq_true rfl, Nat.le_of_ble_eq_true rfl⟩)) hP hD hS hA rfl (fun H locs hP hD hS => ?_)
                              have hP : va_P g.1 vwCl ([(b0, .inl (g.2.1, 9, .inl (upd G0 5 ((G0 5) + u73))))] ++ [(b1, .inl (g.2.1, 30, .inl (upd G1 ((5 * u2).toNatClampNeg) ((G1 (5 * u2).toNatClampNeg) + (((u1 / 6) - (u1 / 6) / u36 * u36) - u39)))))] ++ [(b2, .inl (g.2.1, 15, .inl G2))] ++ [(b3, .inl (g.2.1, 63, .inl G3))] ++ zX6 g a u79.2) H := hP
                              have hD : va_D A ([(b0, .inl (g.2.1, 9, .inl (upd G0 5 ((G0 5) + u73))))] ++ [(b1, .inl (g.2.1, 30, .inl (upd G1 ((5 * u2).toNatClampNeg) ((G1 (5 * u2).toNatClampNeg) + (((u1 / 6) - (u1 / 6) / u36 * u36) - u39)))))] ++ [(b2, .inl (g.2.1, 15, .inl G2))] ++ [(b3, .inl (g.2.1, 63, .inl G3))] ++ zX6 g a u79.2) := hD
                              refine lv_iload hx hb dL_acts_614 (lv_at hl 1 rfl) ?_
                              refine lv_icmp_ne (tgt := 623) hx hb dL_acts_616 (by decide) (fun c80 => ?_) (fun c80 => ?_)
                              · have hf := oe hf c80
                                exact absurd hf (by simp)
                              · have hf := oi hf c80
                                refine lv_iconst (v := 1) hx hb dL_acts_619 (by decide) ?_
                                refine lv_goto (tgt := 624) hx hb dL_acts_620 (by decide) ?_
                                have hR : (true, (upd G0 5 ((G0 5) + u73)), (upd G1 ((5 * u2).toNatClampNeg) ((G1 (5 * u2).toNatClampNeg) + (((u1 / 6) - (u1 / 6) / u36 * u36) - u39))), G2, G3, u79.2) = r := Option.some.inj hf
                                rw [← hR]
                                refine W.widen (k := 2) (n := 12) (Nat.le_of_ble_eq_true rfl) (Nat.le_of_ble_eq_true rfl) ?_
                                exact W.zret (v := zb true) hx hb hr0 (zb_nar true) (fun t ht hW => ⟨⟨zb true, (), rfl, rfl, by rw [ht]; exact hP, hD⟩, hS.F ht⟩) hS.2.2 dL_acts_624
                            · have hf := oi hf c78
                              refine lv_aload_n hx hb dL_acts_600 rfl (lv_at hl 6 rfl) ?_
                              refine lv_aload_n hx hb dL_acts_601 rfl (lv_at hl 7 rfl) ?_
                              refine lv_aload_n hx hb dL_acts_602 rfl (lv_at hl 8 rfl) ?_
                              obtain ⟨u81, hu81, hf⟩ := ob hf
                              refine zk_v (va_runS (As := [.ref b0, .ref b1, .ref b2]) (rest := []) ⟨hx, hb, hml, hown, hts⟩ (c_L_done l g b0 b1 b2 (upd G0 5 ((G0 5) + u73)) (upd G1 ((5 * u2).toNatClampNeg) ((G1 (5 * u2).toNatClampNeg) + (((u1 / 6) - (u1 / 6) / u36 * u36) - u39))) G2 _ hu81 _) (zcS hw0 zm2_198 zm2_200 zm1_0 zm2_199 hd_L_done rfl rfl ⟨Nat.le_of_ble_eq_true rfl, Nat.le_of_ble_eq_true rfl⟩) ⟨zblind, zpre hK hP hD [0, 1, 2] rfl rfl⟩ rfl rfl hl.1 rfl (lv_room (Nat.le_of_ble_eq_true rfl)) dL_acts_603 ⟨Nat.zero_le _, Nat.zero_le _⟩) hP hD hS hA [0, 1, 2] rfl rfl (fun H locs hP hD hS => ?_)
                              have hP : va_P g.1 vwCl ([(b0, .inl (g.2.1, 9, .inl u81.1))] ++ [(b1, .inl (g.2.1, 30, .inl u81.2.1))] ++ [(b2, .inl (g.2.1, 15, .inl u81.2.2))] ++ [(b3, .inl (g.2.1, 63, .inl G3))] ++ zX6 g a v) H := hP
                              have hD : va_D A ([(b0, .inl (g.2.1, 9, .inl u81.1))] ++ [(b1, .inl (g.2.1, 30, .inl u81.2.1))] ++ [(b2, .inl (g.2.1, 15, .inl u81.2.2))] ++ [(b3, .inl (g.2.1, 63, .inl G3))] ++ zX6 g a v) := hD
                              refine lv_aload_n hx hb dL_acts_606 rfl (lv_at hl 5 rfl) ?_
                              refine lv_iload hx hb dL_acts_607 (lv_at hl 3 rfl) ?_
                              refine lv_iload hx hb dL_acts_609 (lv_at hl 2 rfl) ?_
                              obtain ⟨u82, hu82, hf⟩ := ob hf
                              refine zkQ_i (zrun_w (vx_runSX (As := [.ref (a 0), .int u2, .int (((u1 / 6) - (u1 / 6) / u36 * u36) - u39)]) (rest := []) ⟨hx, hb, hml, hown, hts⟩ (co_L_stretches l g a v u2 (((u1 / 6) - (u1 / 6) / u36 * u36) - u39) _ hu82 _) (zcSX hw0 zm2_132 zmH2_134 zm1_0 zm2_133 hd_L_stretches rfl rfl ⟨Nat.le_of_ble_eq_true rfl, Nat.le_of_ble_eq_true rfl⟩) ⟨zblind, zpreQ hK hP hD⟩ rfl rfl hl.1 rfl (lv_room (Nat.le_of_ble_eq_true rfl)) dL_acts_611 ⟨Nat.le_of_ble_eq_true rfl, Nat.le_of_ble_eq_true rfl⟩)) hP hD hS hA rfl (fun H locs hP hD hS => ?_)
                              have hP : va_P g.1 vwCl ([(b0, .inl (g.2.1, 9, .inl u81.1))] ++ [(b1, .inl (g.2.1, 30, .inl u81.2.1))] ++ [(b2, .inl (g.2.1, 15, .inl u81.2.2))] ++ [(b3, .inl (g.2.1, 63, .inl G3))] ++ zX6 g a u82.2) H := hP
                              have hD : va_D A ([(b0, .inl (g.2.1, 9, .inl u81.1))] ++ [(b1, .inl (g.2.1, 30, .inl u81.2.1))] ++ [(b2, .inl (g.2.1, 15, .inl u81.2.2))] ++ [(b3, .inl (g.2.1, 63, .inl G3))] ++ zX6 g a u82.2) := hD
                              refine lv_iload hx hb dL_acts_614 (lv_at hl 1 rfl) ?_
                              refine lv_icmp_ne (tgt := 623) hx hb dL_acts_616 (by decide) (fun c83 => ?_) (fun c83 => ?_)
                              · have hf := oe hf c83
                                exact absurd hf (by simp)
                              · have hf := oi hf c83
                                refine lv_iconst (v := 1) hx hb dL_acts_619 (by decide) ?_
                                refine lv_goto (tgt := 624) hx hb dL_acts_620 (by decide) ?_
                                have hR : (true, u81.1, u81.2.1, u81.2.2, G3, u82.2) = r := Option.some.inj hf
                                rw [← hR]
                                refine W.widen (k := 2) (n := 12) (Nat.le_of_ble_eq_true rfl) (Nat.le_of_ble_eq_true rfl) ?_
                                exact W.zret (v := zb true) hx hb hr0 (zb_nar true) (fun t ht hW => ⟨⟨zb true, (), rfl, rfl, by rw [ht]; exact hP, hD⟩, hS.F ht⟩) hS.2.2 dL_acts_624
                        have hf := hu73
                        refine lv_if_eq (tgt := 586) hx hb dL_acts_578 (by decide) (fun c84 => ?_) (fun c84 => ?_)
                        · have hf := oi hf c84
                          refine lv_iconst (v := 0) hx hb dL_acts_586 (by decide) ?_
                          exact zeqi (Option.some.inj hf) (j74 _ _ hP hD hS)
                        · have hf := oe hf c84
                          refine lv_iload hx hb dL_acts_581 (lv_at hl 2 rfl) ?_
                          refine lv_goto (tgt := 587) hx hb dL_acts_583 (by decide) ?_
                          exact zeqi (Option.some.inj hf) (j74 _ _ hP hD hS)
                      · have hf := oe hf c71
                        refine lv_aload_n hx hb dL_acts_545 rfl (lv_at hl 5 rfl) ?_
                        refine lv_iload hx hb dL_acts_546 (lv_at hl 3 rfl) ?_
                        refine lv_iload hx hb dL_acts_548 (lv_at hl 2 rfl) ?_
                        obtain ⟨u85, hu85, hf⟩ := ob hf
                        refine zkQ_i (zrun_w (vx_runSX (As := [.ref (a 0), .int u2, .int (((u1 / 6) - (u1 / 6) / u36 * u36) - u39)]) (rest := []) ⟨hx, hb, hml, hown, hts⟩ (ca_L_stretches l hst9 g a v u2 (((u1 / 6) - (u1 / 6) / u36 * u36) - u39) _ hu85 _) (zcSX hw0 zm2_132 zmH2_134 zm1_0 zm2_133 hd_L_stretches rfl rfl ⟨Nat.le_of_ble_eq_true rfl, Nat.le_of_ble_eq_true rfl⟩) ⟨zblindL, zpreWQ hK hKx hZs hNc hP hD hS hA⟩ rfl rfl hl.1 rfl (lv_room (Nat.le_of_ble_eq_true rfl)) dL_acts_550 ⟨Nat.le_of_ble_eq_true rfl, Nat.le_of_ble_eq_true rfl⟩)) hP hD hS hA rfl (fun H locs hP hD hS => ?_)
                        have hP : va_P g.1 vwCl ([(b0, .inl (g.2.1, 9, .inl G0))] ++ [(b1, .inl (g.2.1, 30, .inl G1))] ++ [(b2, .inl (g.2.1, 15, .inl G2))] ++ [(b3, .inl (g.2.1, 63, .inl G3))] ++ zX6 g a u85.2) H := hP
                        have hD : va_D A ([(b0, .inl (g.2.1, 9, .inl G0))] ++ [(b1, .inl (g.2.1, 30, .inl G1))] ++ [(b2, .inl (g.2.1, 15, .inl G2))] ++ [(b3, .inl (g.2.1, 63, .inl G3))] ++ zX6 g a u85.2) := hD
                        refine lv_ldc (v := -2000003) hx hb hown (hw0 _ zm2_119) dL_acts_553 ?_
                        refine lv_icmp_ne (tgt := 562) hx hb dL_acts_555 (by decide) (fun c86 => ?_) (fun c86 => ?_)
                        · have hf := oe hf c86
                          exact absurd hf (by simp)
                        · have hf := oi hf c86
                          refine lv_iconst (v := 1) hx hb dL_acts_558 (by decide) ?_
                          refine lv_goto (tgt := 563) hx hb dL_acts_559 (by decide) ?_
                          have hR : (true, G0, G1, G2, G3, u85.2) = r := Option.some.inj hf
                          rw [← hR]
                          refine W.widen (k := 2) (n := 12) (Nat.le_of_ble_eq_true rfl) (Nat.le_of_ble_eq_true rfl) ?_
                          exact W.zret (v := zb true) hx hb hr0 (zb_nar true) (fun t ht hW => ⟨⟨zb true, (), rfl, rfl, by rw [ht]; exact hP, hD⟩, hS.F ht⟩) hS.2.2 dL_acts_563
            have hf := hu44
            refine lv_icmp_ne (tgt := 494) hx hb dL_acts_487 (by decide) (fun c87 => ?_) (fun c87 => ?_)
            · have hf := oe hf c87
              refine lv_iconst (v := 0) hx hb dL_acts_494 (by decide) ?_
              exact zeqi (Option.some.inj hf) (j45 _ _ hP hD hS)
            · have hf := oi hf c87
              refine lv_iconst (v := 1) hx hb dL_acts_490 (by decide) ?_
              refine lv_goto (tgt := 495) hx hb dL_acts_491 (by decide) ?_
              exact zeqi (Option.some.inj hf) (j45 _ _ hP hD hS)
          · have hf := oi hf c41
            refine lv_aload_n hx hb dL_acts_449 rfl (lv_at hl 3 rfl) ?_
            refine lv_iconst (v := 0) hx hb dL_acts_450 (by decide) ?_
            refine lv_iload hx hb dL_acts_451 (lv_at hl 0 rfl) ?_
            obtain ⟨u88, hu88, hf⟩ := ob hf
            refine zkQ_i (zrun_w (vx_runSX (As := [.ref (a 0), .int 0, .int (((u1 / 6) - (u1 / 6) / u36 * u36) - u39)]) (rest := []) ⟨hx, hb, hml, hown, hts⟩ (ca_L_stretches l hst9 g a v 0 (((u1 / 6) - (u1 / 6) / u36 * u36) - u39) _ hu88 _) (zcSX hw0 zm2_132 zmH2_134 zm1_0 zm2_133 hd_L_stretches rfl rfl ⟨Nat.le_of_ble_eq_true rfl, Nat.le_of_ble_eq_true rfl⟩) ⟨zblindL, zpreWQ hK hKx hZs hNc hP hD hS hA⟩ rfl rfl hl.1 rfl (lv_room (Nat.le_of_ble_eq_true rfl)) dL_acts_453 ⟨Nat.le_of_ble_eq_true rfl, Nat.le_of_ble_eq_true rfl⟩)) hP hD hS hA rfl (fun H locs hP hD hS => ?_)
            have hP : va_P g.1 vwCl ([(b0, .inl (g.2.1, 9, .inl G0))] ++ [(b1, .inl (g.2.1, 30, .inl G1))] ++ [(b2, .inl (g.2.1, 15, .inl G2))] ++ [(b3, .inl (g.2.1, 63, .inl G3))] ++ zX6 g a u88.2) H := hP
            have hD : va_D A ([(b0, .inl (g.2.1, 9, .inl G0))] ++ [(b1, .inl (g.2.1, 30, .inl G1))] ++ [(b2, .inl (g.2.1, 15, .inl G2))] ++ [(b3, .inl (g.2.1, 63, .inl G3))] ++ zX6 g a u88.2) := hD
            refine lv_ldc (v := -2000001) hx hb hown (hw0 _ zm2_197) dL_acts_456 ?_
            refine lv_icmp_ne (tgt := 465) hx hb dL_acts_458 (by decide) (fun c89 => ?_) (fun c89 => ?_)
            · have hf := oe hf c89
              exact absurd hf (by simp)
            · have hf := oi hf c89
              refine lv_iconst (v := 1) hx hb dL_acts_461 (by decide) ?_
              refine lv_goto (tgt := 466) hx hb dL_acts_462 (by decide) ?_
              have hR : (true, G0, G1, G2, G3, u88.2) = r := Option.some.inj hf
              rw [← hR]
              refine W.widen (k := 2) (n := 12) (Nat.le_of_ble_eq_true rfl) (Nat.le_of_ble_eq_true rfl) ?_
              exact W.zret (v := zb true) hx hb hr0 (zb_nar true) (fun t ht hW => ⟨⟨zb true, (), rfl, rfl, by rw [ht]; exact hP, hD⟩, hS.F ht⟩) hS.2.2 dL_acts_466
        have hf := hu39
        refine lv_if_ne (tgt := 438) hx hb dL_acts_429 (by decide) (fun c90 => ?_) (fun c90 => ?_)
        · have hf := oe hf c90
          refine lv_bipush (v := 100) hx hb dL_acts_438 (by decide) ?_
          exact zeqi (Option.some.inj hf) (j40 _ _ hP hD hS)
        · have hf := oi hf c90
          refine lv_sipush (v := 1800) hx hb dL_acts_432 (by decide) ?_
          refine lv_goto (tgt := 440) hx hb dL_acts_435 (by decide) ?_
          exact zeqi (Option.some.inj hf) (j40 _ _ hP hD hS)
      have hf := hu36
      refine lv_if_ne (tgt := 421) hx hb dL_acts_412 (by decide) (fun c91 => ?_) (fun c91 => ?_)
      · have hf := oe hf c91
        refine lv_sipush (v := 201) hx hb dL_acts_421 (by decide) ?_
        exact zeqi (Option.some.inj hf) (j37 _ _ hP hD hS)
      · have hf := oi hf c91
        refine lv_sipush (v := 3601) hx hb dL_acts_415 (by decide) ?_
        refine lv_goto (tgt := 424) hx hb dL_acts_418 (by decide) ?_
        exact zeqi (Option.some.inj hf) (j37 _ _ hP hD hS)
    have hk625 : k_L_acts_625 G0 G1 G2 G3 v u2 u1 p0 = some r → W p l e (headSpec (zw yL_acts cL_acts 19 (some .boolean)) ({ frames := 8, cells := 2, slots := 12, locals := 184 } : Room)).room s m ([.ref (a 0), .ref b0, .ref b1, .ref b2, .ref b3, .int p0] : List Value).toArray below meth c H locs 0 0 (MQ below (va_Qi (fun (x : Int32) (_ : Unit) => x = zb r.1) (fun _ => zEnd g A ([(b0, .inl (g.2.1, 9, .inl r.2.1))] ++ [(b1, .inl (g.2.1, 30, .inl r.2.2.1))] ++ [(b2, .inl (g.2.1, 15, .inl r.2.2.2.1))] ++ [(b3, .inl (g.2.1, 63, .inl r.2.2.2.2.1))] ++ zX6 g a r.2.2.2.2.2)) A) ([.ref (a 0), .ref b0, .ref b1, .ref b2, .ref b3, .int p0] : List Value).toArray s 2 12 A) (F0 m 625 ls []) := by
      intro hf
      unfold k_L_acts_625 at hf
      refine lv_aload_n hx hb dL_acts_625 rfl (lv_at hl 3 rfl) ?_
      refine lv_iconst (v := 0) hx hb dL_acts_626 (by decide) ?_
      refine zald (D := g.1) (f := G0) (k := 0) hx hb hK.1 hP 0 0 rfl rfl (zin_vp (i := 0) (n := 9) rfl) rfl dL_acts_627 ?_
      refine lv_if_eq (tgt := 642) hx hb dL_acts_628 (by decide) (fun c92 => ?_) (fun c92 => ?_)
      · have hf := oi hf c92
        refine lv_aload_n hx hb dL_acts_642 rfl (lv_at hl 2 rfl) ?_
        refine lv_iload hx hb dL_acts_643 (lv_at hl 0 rfl) ?_
        obtain ⟨u93, hu93, hf⟩ := ob hf
        refine zkQ_i (zrun_w (vx_runSX (As := [.ref (a 0), .int u2]) (rest := []) ⟨hx, hb, hml, hown, hts⟩ (ca_L_drops l hst9 g a v u2 _ hu93 _) (zcSX hw0 zm2_201 zmH2_203 zm1_0 zm2_202 hd_L_drops rfl rfl ⟨Nat.le_of_ble_eq_true rfl, Nat.le_of_ble_eq_true rfl⟩) ⟨zblindL, zpreWQ hK hKx hZs hNc hP hD hS hA⟩ rfl rfl hl.1 rfl (lv_room (Nat.le_of_ble_eq_true rfl)) dL_acts_645 ⟨Nat.le_of_ble_eq_true rfl, Nat.le_of_ble_eq_true rfl⟩)) hP hD hS hA rfl (fun H locs hP hD hS => ?_)
        have hP : va_P g.1 vwCl ([(b0, .inl (g.2.1, 9, .inl G0))] ++ [(b1, .inl (g.2.1, 30, .inl G1))] ++ [(b2, .inl (g.2.1, 15, .inl G2))] ++ [(b3, .inl (g.2.1, 63, .inl G3))] ++ zX6 g a u93.2) H := hP
        have hD : va_D A ([(b0, .inl (g.2.1, 9, .inl G0))] ++ [(b1, .inl (g.2.1, 30, .inl G1))] ++ [(b2, .inl (g.2.1, 15, .inl G2))] ++ [(b3, .inl (g.2.1, 63, .inl G3))] ++ zX6 g a u93.2) := hD
        refine lv_aload_n hx hb dL_acts_648 rfl (lv_at hl 3 rfl) ?_
        refine lv_iconst (v := 0) hx hb dL_acts_649 (by decide) ?_
        refine zald (D := g.1) (f := G0) (k := 0) hx hb hK.1 hP 0 0 rfl rfl (zin_vp (i := 0) (n := 9) rfl) rfl dL_acts_650 ?_
        refine lv_if_ne (tgt := 659) hx hb dL_acts_651 (by decide) (fun c94 => ?_) (fun c94 => ?_)
        · have hf := oe hf c94
          refine lv_ldc (v := -2000003) hx hb hown (hw0 _ zm2_119) dL_acts_659 ?_
          refine lv_icmp_ne (tgt := 668) hx hb dL_acts_661 (by decide) (fun c95 => ?_) (fun c95 => ?_)
          · have hf := oe hf c95
            exact absurd hf (by simp)
          · have hf := oi hf c95
            refine lv_iconst (v := 1) hx hb dL_acts_664 (by decide) ?_
            refine lv_goto (tgt := 669) hx hb dL_acts_665 (by decide) ?_
            have hR : (true, G0, G1, G2, G3, u93.2) = r := Option.some.inj hf
            rw [← hR]
            refine W.widen (k := 2) (n := 12) (Nat.le_of_ble_eq_true rfl) (Nat.le_of_ble_eq_true rfl) ?_
            exact W.zret (v := zb true) hx hb hr0 (zb_nar true) (fun t ht hW => ⟨⟨zb true, (), rfl, rfl, by rw [ht]; exact hP, hD⟩, hS.F ht⟩) hS.2.2 dL_acts_669
        · have hf := oi hf c94
          refine lv_ldc (v := -2000001) hx hb hown (hw0 _ zm2_197) dL_acts_654 ?_
          refine lv_goto (tgt := 661) hx hb dL_acts_656 (by decide) ?_
          refine lv_icmp_ne (tgt := 668) hx hb dL_acts_661 (by decide) (fun c96 => ?_) (fun c96 => ?_)
          · have hf := oe hf c96
            exact absurd hf (by simp)
          · have hf := oi hf c96
            refine lv_iconst (v := 1) hx hb dL_acts_664 (by decide) ?_
            refine lv_goto (tgt := 669) hx hb dL_acts_665 (by decide) ?_
            have hR : (true, G0, G1, G2, G3, u93.2) = r := Option.some.inj hf
            rw [← hR]
            refine W.widen (k := 2) (n := 12) (Nat.le_of_ble_eq_true rfl) (Nat.le_of_ble_eq_true rfl) ?_
            exact W.zret (v := zb true) hx hb hr0 (zb_nar true) (fun t ht hW => ⟨⟨zb true, (), rfl, rfl, by rw [ht]; exact hP, hD⟩, hS.F ht⟩) hS.2.2 dL_acts_669
      · have hf := oe hf c92
        refine lv_aload_n hx hb dL_acts_631 rfl (lv_at hl 4 rfl) ?_
        refine lv_iconst (v := 5) hx hb dL_acts_632 (by decide) ?_
        refine lv_iload hx hb dL_acts_633 (lv_at hl 0 rfl) ?_
        refine lv_imul hx hb dL_acts_635 ?_
        refine lv_iconst (v := 3) hx hb dL_acts_636 (by decide) ?_
        refine lv_iadd hx hb dL_acts_637 ?_
        obtain ⟨h97, hf⟩ := og hf
        refine zald (D := g.1) (f := G1) (k := ((5 * u2) + 3).toNatClampNeg) hx hb hK.1 hP 1 0 rfl rfl (zin_vp h97) rfl dL_acts_638 ?_
        refine lv_if_eq (tgt := 670) hx hb dL_acts_639 (by decide) (fun c98 => ?_) (fun c98 => ?_)
        · have hf := oi hf c98
          refine lv_aload_n hx hb dL_acts_670 rfl (lv_at hl 4 rfl) ?_
          refine lv_iconst (v := 5) hx hb dL_acts_671 (by decide) ?_
          refine lv_iload hx hb dL_acts_672 (lv_at hl 0 rfl) ?_
          refine lv_imul hx hb dL_acts_674 ?_
          refine lv_iconst (v := 3) hx hb dL_acts_675 (by decide) ?_
          refine lv_iadd hx hb dL_acts_676 ?_
          refine lv_iconst (v := 3) hx hb dL_acts_677 (by decide) ?_
          obtain ⟨h99, hf⟩ := og hf
          refine zast (D := g.1) (f := G1) (k := ((5 * u2) + 3).toNatClampNeg) (x := 3) hx hb hK.1 hP hD hS 1 0 rfl rfl (zin_vp h99) rfl dL_acts_678 (fun H locs hP hD hS => ?_)
          have hP : va_P g.1 vwCl ([(b0, .inl (g.2.1, 9, .inl G0))] ++ [(b1, .inl (g.2.1, 30, .inl (upd G1 (((5 * u2) + 3).toNatClampNeg) 3)))] ++ [(b2, .inl (g.2.1, 15, .inl G2))] ++ [(b3, .inl (g.2.1, 63, .inl G3))] ++ zX6 g a v) H := hP
          have hD : va_D A ([(b0, .inl (g.2.1, 9, .inl G0))] ++ [(b1, .inl (g.2.1, 30, .inl (upd G1 (((5 * u2) + 3).toNatClampNeg) 3)))] ++ [(b2, .inl (g.2.1, 15, .inl G2))] ++ [(b3, .inl (g.2.1, 63, .inl G3))] ++ zX6 g a v) := hD
          refine lv_aload_n hx hb dL_acts_679 rfl (lv_at hl 3 rfl) ?_
          refine lv_aload hx hb dL_acts_680 (lv_at hl 6 rfl) ?_
          refine lv_iconst (v := 3) hx hb dL_acts_682 (by decide) ?_
          refine lv_iload hx hb dL_acts_683 (lv_at hl 0 rfl) ?_
          obtain ⟨u100, hu100, hf⟩ := ob hf
          refine zk_v (va_runS (As := [.ref b0, .ref b3, .int 3, .int u2]) (rest := []) ⟨hx, hb, hml, hown, hts⟩ (c_L_notes l g b0 b3 G0 G3 3 u2 _ hu100 _) (zcS hw0 zm2_222 zm2_224 zm1_0 zm2_223 hd_L_notes rfl rfl ⟨Nat.le_of_ble_eq_true rfl, Nat.le_of_ble_eq_true rfl⟩) ⟨zblind, zpre hK hP hD [0, 3] rfl rfl⟩ rfl rfl hl.1 rfl (lv_room (Nat.le_of_ble_eq_true rfl)) dL_acts_685 ⟨Nat.zero_le _, Nat.zero_le _⟩) hP hD hS hA [0, 3] rfl rfl (fun H locs hP hD hS => ?_)
          have hP : va_P g.1 vwCl ([(b0, .inl (g.2.1, 9, .inl u100.1))] ++ [(b1, .inl (g.2.1, 30, .inl (upd G1 (((5 * u2) + 3).toNatClampNeg) 3)))] ++ [(b2, .inl (g.2.1, 15, .inl G2))] ++ [(b3, .inl (g.2.1, 63, .inl u100.2))] ++ zX6 g a v) H := hP
          have hD : va_D A ([(b0, .inl (g.2.1, 9, .inl u100.1))] ++ [(b1, .inl (g.2.1, 30, .inl (upd G1 (((5 * u2) + 3).toNatClampNeg) 3)))] ++ [(b2, .inl (g.2.1, 15, .inl G2))] ++ [(b3, .inl (g.2.1, 63, .inl u100.2))] ++ zX6 g a v) := hD
          refine lv_aload_n hx hb dL_acts_688 rfl (lv_at hl 2 rfl) ?_
          refine lv_iload hx hb dL_acts_689 (lv_at hl 0 rfl) ?_
          obtain ⟨u101, hu101, hf⟩ := ob hf
          refine zkQ_i (zrun_w (vx_runSX (As := [.ref (a 0), .int u2]) (rest := []) ⟨hx, hb, hml, hown, hts⟩ (co_L_drops l g a v u2 _ hu101 _) (zcSX hw0 zm2_201 zmH2_203 zm1_0 zm2_202 hd_L_drops rfl rfl ⟨Nat.le_of_ble_eq_true rfl, Nat.le_of_ble_eq_true rfl⟩) ⟨zblind, zpreQ hK hP hD⟩ rfl rfl hl.1 rfl (lv_room (Nat.le_of_ble_eq_true rfl)) dL_acts_691 ⟨Nat.le_of_ble_eq_true rfl, Nat.le_of_ble_eq_true rfl⟩)) hP hD hS hA rfl (fun H locs hP hD hS => ?_)
          have hP : va_P g.1 vwCl ([(b0, .inl (g.2.1, 9, .inl u100.1))] ++ [(b1, .inl (g.2.1, 30, .inl (upd G1 (((5 * u2) + 3).toNatClampNeg) 3)))] ++ [(b2, .inl (g.2.1, 15, .inl G2))] ++ [(b3, .inl (g.2.1, 63, .inl u100.2))] ++ zX6 g a u101.2) H := hP
          have hD : va_D A ([(b0, .inl (g.2.1, 9, .inl u100.1))] ++ [(b1, .inl (g.2.1, 30, .inl (upd G1 (((5 * u2) + 3).toNatClampNeg) 3)))] ++ [(b2, .inl (g.2.1, 15, .inl G2))] ++ [(b3, .inl (g.2.1, 63, .inl u100.2))] ++ zX6 g a u101.2) := hD
          refine lv_aload_n hx hb dL_acts_694 rfl (lv_at hl 3 rfl) ?_
          refine lv_aload_n hx hb dL_acts_695 rfl (lv_at hl 4 rfl) ?_
          refine lv_iconst (v := 0) hx hb dL_acts_696 (by decide) ?_
          obtain ⟨u102, hu102, hf⟩ := ob hf
          refine zk_iR (va_runS (As := [.ref b0, .ref b1, .int 0]) (rest := [.int u101.1]) ⟨hx, hb, hml, hown, hts⟩ (c_L_inStatus l g b0 b1 u100.1 (upd G1 (((5 * u2) + 3).toNatClampNeg) 3) 0 _ hu102 _) (zcS hw0 zm2_225 zm2_227 zm1_0 zm2_226 hd_L_inStatus rfl rfl ⟨Nat.le_of_ble_eq_true rfl, Nat.le_of_ble_eq_true rfl⟩) ⟨zblind, zpre hK hP hD [0, 1] rfl rfl⟩ rfl rfl hl.1 rfl (lv_room (Nat.le_of_ble_eq_true rfl)) dL_acts_697 ⟨Nat.zero_le _, Nat.zero_le _⟩) hP hD hS hA [0, 1] rfl (fun H locs hP hD hS => ?_)
          refine lv_icmp_ne (tgt := 707) hx hb dL_acts_700 (by decide) (fun c103 => ?_) (fun c103 => ?_)
          · have hf := oe hf c103
            exact absurd hf (by simp)
          · have hf := oi hf c103
            refine lv_iconst (v := 1) hx hb dL_acts_703 (by decide) ?_
            refine lv_goto (tgt := 708) hx hb dL_acts_704 (by decide) ?_
            have hR : (true, u100.1, (upd G1 (((5 * u2) + 3).toNatClampNeg) 3), G2, u100.2, u101.2) = r := Option.some.inj hf
            rw [← hR]
            refine W.widen (k := 2) (n := 12) (Nat.le_of_ble_eq_true rfl) (Nat.le_of_ble_eq_true rfl) ?_
            exact W.zret (v := zb true) hx hb hr0 (zb_nar true) (fun t ht hW => ⟨⟨zb true, (), rfl, rfl, by rw [ht]; exact hP, hD⟩, hS.F ht⟩) hS.2.2 dL_acts_708
        · have hf := oe hf c98
          refine lv_aload_n hx hb dL_acts_642 rfl (lv_at hl 2 rfl) ?_
          refine lv_iload hx hb dL_acts_643 (lv_at hl 0 rfl) ?_
          obtain ⟨u104, hu104, hf⟩ := ob hf
          refine zkQ_i (zrun_w (vx_runSX (As := [.ref (a 0), .int u2]) (rest := []) ⟨hx, hb, hml, hown, hts⟩ (ca_L_drops l hst9 g a v u2 _ hu104 _) (zcSX hw0 zm2_201 zmH2_203 zm1_0 zm2_202 hd_L_drops rfl rfl ⟨Nat.le_of_ble_eq_true rfl, Nat.le_of_ble_eq_true rfl⟩) ⟨zblindL, zpreWQ hK hKx hZs hNc hP hD hS hA⟩ rfl rfl hl.1 rfl (lv_room (Nat.le_of_ble_eq_true rfl)) dL_acts_645 ⟨Nat.le_of_ble_eq_true rfl, Nat.le_of_ble_eq_true rfl⟩)) hP hD hS hA rfl (fun H locs hP hD hS => ?_)
          have hP : va_P g.1 vwCl ([(b0, .inl (g.2.1, 9, .inl G0))] ++ [(b1, .inl (g.2.1, 30, .inl G1))] ++ [(b2, .inl (g.2.1, 15, .inl G2))] ++ [(b3, .inl (g.2.1, 63, .inl G3))] ++ zX6 g a u104.2) H := hP
          have hD : va_D A ([(b0, .inl (g.2.1, 9, .inl G0))] ++ [(b1, .inl (g.2.1, 30, .inl G1))] ++ [(b2, .inl (g.2.1, 15, .inl G2))] ++ [(b3, .inl (g.2.1, 63, .inl G3))] ++ zX6 g a u104.2) := hD
          refine lv_aload_n hx hb dL_acts_648 rfl (lv_at hl 3 rfl) ?_
          refine lv_iconst (v := 0) hx hb dL_acts_649 (by decide) ?_
          refine zald (D := g.1) (f := G0) (k := 0) hx hb hK.1 hP 0 0 rfl rfl (zin_vp (i := 0) (n := 9) rfl) rfl dL_acts_650 ?_
          refine lv_if_ne (tgt := 659) hx hb dL_acts_651 (by decide) (fun c105 => ?_) (fun c105 => ?_)
          · have hf := oe hf c105
            refine lv_ldc (v := -2000003) hx hb hown (hw0 _ zm2_119) dL_acts_659 ?_
            refine lv_icmp_ne (tgt := 668) hx hb dL_acts_661 (by decide) (fun c106 => ?_) (fun c106 => ?_)
            · have hf := oe hf c106
              exact absurd hf (by simp)
            · have hf := oi hf c106
              refine lv_iconst (v := 1) hx hb dL_acts_664 (by decide) ?_
              refine lv_goto (tgt := 669) hx hb dL_acts_665 (by decide) ?_
              have hR : (true, G0, G1, G2, G3, u104.2) = r := Option.some.inj hf
              rw [← hR]
              refine W.widen (k := 2) (n := 12) (Nat.le_of_ble_eq_true rfl) (Nat.le_of_ble_eq_true rfl) ?_
              exact W.zret (v := zb true) hx hb hr0 (zb_nar true) (fun t ht hW => ⟨⟨zb true, (), rfl, rfl, by rw [ht]; exact hP, hD⟩, hS.F ht⟩) hS.2.2 dL_acts_669
          · have hf := oi hf c105
            refine lv_ldc (v := -2000001) hx hb hown (hw0 _ zm2_197) dL_acts_654 ?_
            refine lv_goto (tgt := 661) hx hb dL_acts_656 (by decide) ?_
            refine lv_icmp_ne (tgt := 668) hx hb dL_acts_661 (by decide) (fun c107 => ?_) (fun c107 => ?_)
            · have hf := oe hf c107
              exact absurd hf (by simp)
            · have hf := oi hf c107
              refine lv_iconst (v := 1) hx hb dL_acts_664 (by decide) ?_
              refine lv_goto (tgt := 669) hx hb dL_acts_665 (by decide) ?_
              have hR : (true, G0, G1, G2, G3, u104.2) = r := Option.some.inj hf
              rw [← hR]
              refine W.widen (k := 2) (n := 12) (Nat.le_of_ble_eq_true rfl) (Nat.le_of_ble_eq_true rfl) ?_
              exact W.zret (v := zb true) hx hb hr0 (zb_nar true) (fun t ht hW => ⟨⟨zb true, (), rfl, rfl, by rw [ht]; exact hP, hD⟩, hS.F ht⟩) hS.2.2 dL_acts_669
    have hk709 : k_L_acts_709 G0 G1 G2 G3 v u2 u1 p0 = some r → W p l e (headSpec (zw yL_acts cL_acts 19 (some .boolean)) ({ frames := 8, cells := 2, slots := 12, locals := 184 } : Room)).room s m ([.ref (a 0), .ref b0, .ref b1, .ref b2, .ref b3, .int p0] : List Value).toArray below meth c H locs 0 0 (MQ below (va_Qi (fun (x : Int32) (_ : Unit) => x = zb r.1) (fun _ => zEnd g A ([(b0, .inl (g.2.1, 9, .inl r.2.1))] ++ [(b1, .inl (g.2.1, 30, .inl r.2.2.1))] ++ [(b2, .inl (g.2.1, 15, .inl r.2.2.2.1))] ++ [(b3, .inl (g.2.1, 63, .inl r.2.2.2.2.1))] ++ zX6 g a r.2.2.2.2.2)) A) ([.ref (a 0), .ref b0, .ref b1, .ref b2, .ref b3, .int p0] : List Value).toArray s 2 12 A) (F0 m 709 ls []) := by
      intro hf
      unfold k_L_acts_709 at hf
      refine lv_aload_n hx hb dL_acts_709 rfl (lv_at hl 3 rfl) ?_
      refine lv_iconst (v := 3) hx hb dL_acts_710 (by decide) ?_
      refine zald (D := g.1) (f := G0) (k := 3) hx hb hK.1 hP 0 0 rfl rfl (zin_vp (i := 3) (n := 9) rfl) rfl dL_acts_711 ?_
      refine lv_iconst (v := 1) hx hb dL_acts_712 (by decide) ?_
      obtain ⟨u108, hu108, hf⟩ := ob hf
      have j109 : ∀ (H : Heap) (locs : List Loc), va_P g.1 vwCl ([(b0, .inl (g.2.1, 9, .inl G0))] ++ [(b1, .inl (g.2.1, 30, .inl G1))] ++ [(b2, .inl (g.2.1, 15, .inl G2))] ++ [(b3, .inl (g.2.1, 63, .inl G3))] ++ zX6 g a v) H → va_D A ([(b0, .inl (g.2.1, 9, .inl G0))] ++ [(b1, .inl (g.2.1, 30, .inl G1))] ++ [(b2, .inl (g.2.1, 15, .inl G2))] ++ [(b3, .inl (g.2.1, 63, .inl G3))] ++ zX6 g a v) → va_S A s.heap H locs → W p l e (headSpec (zw yL_acts cL_acts 19 (some .boolean)) ({ frames := 8, cells := 2, slots := 12, locals := 184 } : Room)).room s m ([.ref (a 0), .ref b0, .ref b1, .ref b2, .ref b3, .int p0] : List Value).toArray below meth c H locs 0 0 (MQ below (va_Qi (fun (x : Int32) (_ : Unit) => x = zb r.1) (fun _ => zEnd g A ([(b0, .inl (g.2.1, 9, .inl r.2.1))] ++ [(b1, .inl (g.2.1, 30, .inl r.2.2.1))] ++ [(b2, .inl (g.2.1, 15, .inl r.2.2.2.1))] ++ [(b3, .inl (g.2.1, 63, .inl r.2.2.2.2.1))] ++ zX6 g a r.2.2.2.2.2)) A) ([.ref (a 0), .ref b0, .ref b1, .ref b2, .ref b3, .int p0] : List Value).toArray s 2 12 A) (F0 m 721 ls [.int u108]) := by
        intro H locs hP hD hS
        refine lv_istore (lv' := [(15, .int u108), (7, .int u2), (6, .int u1), (0, .ref (a 0)), (1, .ref b0), (2, .ref b1), (3, .ref b2), (4, .ref b3), (5, .int p0)]) hx hb dL_acts_721 hl (by decide) rfl (fun ls hl => ?_)
        refine lv_iconst (v := 0) hx hb dL_acts_723 (by decide) ?_
        refine lv_istore (lv' := [(16, .int 0), (15, .int u108), (7, .int u2), (6, .int u1), (0, .ref (a 0)), (1, .ref b0), (2, .ref b1), (3, .ref b2), (4, .ref b3), (5, .int p0)]) hx hb dL_acts_724 hl (by decide) rfl (fun ls hl => ?_)
        obtain ⟨u124, hu124, hf⟩ := ob hf
        refine lp726 G0 G1 G2 G3 v u108 _ _ u124 hu124 (fun H locs hP hD hS ls hl => ?_) _ _ hP hD hS _ (lv_sub hl [4, 5, 6, 7, 1, 0] rfl)
        have hl : lv_has ls 19 [(0, .ref (a 0)), (1, .ref b0), (15, .int u108)] := hl
        have hP : va_P g.1 vwCl ([(b0, .inl (g.2.1, 9, .inl G0))] ++ [(b1, .inl (g.2.1, 30, .inl u124.2.1))] ++ [(b2, .inl (g.2.1, 15, .inl u124.2.2))] ++ [(b3, .inl (g.2.1, 63, .inl G3))] ++ zX6 g a v) H := hP
        have hD : va_D A ([(b0, .inl (g.2.1, 9, .inl G0))] ++ [(b1, .inl (g.2.1, 30, .inl u124.2.1))] ++ [(b2, .inl (g.2.1, 15, .inl u124.2.2))] ++ [(b3, .inl (g.2.1, 63, .inl G3))] ++ zX6 g a v) := hD
        refine lv_aload_n hx hb dL_acts_816 rfl (lv_at hl 1 rfl) ?_
        refine lv_iconst (v := 2) hx hb dL_acts_817 (by decide) ?_
        refine lv_iload hx hb dL_acts_818 (lv_at hl 2 rfl) ?_
        obtain ⟨u125, hu125, hf⟩ := ob hf
        have j126 : ∀ (H : Heap) (locs : List Loc), va_P g.1 vwCl ([(b0, .inl (g.2.1, 9, .inl G0))] ++ [(b1, .inl (g.2.1, 30, .inl u124.2.1))] ++ [(b2, .inl (g.2.1, 15, .inl u124.2.2))] ++ [(b3, .inl (g.2.1, 63, .inl G3))] ++ zX6 g a v) H → va_D A ([(b0, .inl (g.2.1, 9, .inl G0))] ++ [(b1, .inl (g.2.1, 30, .inl u124.2.1))] ++ [(b2, .inl (g.2.1, 15, .inl u124.2.2))] ++ [(b3, .inl (g.2.1, 63, .inl G3))] ++ zX6 g a v) → va_S A s.heap H locs → W p l e (headSpec (zw yL_acts cL_acts 19 (some .boolean)) ({ frames := 8, cells := 2, slots := 12, locals := 184 } : Room)).room s m ([.ref (a 0), .ref b0, .ref b1, .ref b2, .ref b3, .int p0] : List Value).toArray below meth c H locs 0 0 (MQ below (va_Qi (fun (x : Int32) (_ : Unit) => x = zb r.1) (fun _ => zEnd g A ([(b0, .inl (g.2.1, 9, .inl r.2.1))] ++ [(b1, .inl (g.2.1, 30, .inl r.2.2.1))] ++ [(b2, .inl (g.2.1, 15, .inl r.2.2.2.1))] ++ [(b3, .inl (g.2.1, 63, .inl r.2.2.2.2.1))] ++ zX6 g a r.2.2.2.2.2)) A) ([.ref (a 0), .ref b0, .ref b1, .ref b2, .ref b3, .int p0] : List Value).toArray s 2 12 A) (F0 m 830 ls [.int u125, .int 2, .ref b0]) := by
          intro H locs hP hD hS
          refine zast (D := g.1) (f := G0) (k := 2) (x := u125) hx hb hK.1 hP hD hS 0 0 rfl rfl (zin_vp (i := 2) (n := 9) rfl) rfl dL_acts_830 (fun H locs hP hD hS => ?_)
          have hP : va_P g.1 vwCl ([(b0, .inl (g.2.1, 9, .inl (upd G0 2 u125)))] ++ [(b1, .inl (g.2.1, 30, .inl u124.2.1))] ++ [(b2, .inl (g.2.1, 15, .inl u124.2.2))] ++ [(b3, .inl (g.2.1, 63, .inl G3))] ++ zX6 g a v) H := hP
          have hD : va_D A ([(b0, .inl (g.2.1, 9, .inl (upd G0 2 u125)))] ++ [(b1, .inl (g.2.1, 30, .inl u124.2.1))] ++ [(b2, .inl (g.2.1, 15, .inl u124.2.2))] ++ [(b3, .inl (g.2.1, 63, .inl G3))] ++ zX6 g a v) := hD
          refine lv_aload_n hx hb dL_acts_831 rfl (lv_at hl 1 rfl) ?_
          refine lv_iconst (v := 3) hx hb dL_acts_832 (by decide) ?_
          refine lv_iconst (v := 0) hx hb dL_acts_833 (by decide) ?_
          refine zast (D := g.1) (f := (upd G0 2 u125)) (k := 3) (x := 0) hx hb hK.1 hP hD hS 0 0 rfl rfl (zin_vp (i := 3) (n := 9) rfl) rfl dL_acts_834 (fun H locs hP hD hS => ?_)
          have hP : va_P g.1 vwCl ([(b0, .inl (g.2.1, 9, .inl (upd (upd G0 2 u125) 3 0)))] ++ [(b1, .inl (g.2.1, 30, .inl u124.2.1))] ++ [(b2, .inl (g.2.1, 15, .inl u124.2.2))] ++ [(b3, .inl (g.2.1, 63, .inl G3))] ++ zX6 g a v) H := hP
          have hD : va_D A ([(b0, .inl (g.2.1, 9, .inl (upd (upd G0 2 u125) 3 0)))] ++ [(b1, .inl (g.2.1, 30, .inl u124.2.1))] ++ [(b2, .inl (g.2.1, 15, .inl u124.2.2))] ++ [(b3, .inl (g.2.1, 63, .inl G3))] ++ zX6 g a v) := hD
          refine lv_aload_n hx hb dL_acts_835 rfl (lv_at hl 1 rfl) ?_
          refine lv_bipush (v := 6) hx hb dL_acts_836 (by decide) ?_
          refine lv_iload hx hb dL_acts_838 (lv_at hl 2 rfl) ?_
          obtain ⟨u127, hu127, hf⟩ := ob hf
          have j128 : ∀ (H : Heap) (locs : List Loc), va_P g.1 vwCl ([(b0, .inl (g.2.1, 9, .inl (upd (upd G0 2 u125) 3 0)))] ++ [(b1, .inl (g.2.1, 30, .inl u124.2.1))] ++ [(b2, .inl (g.2.1, 15, .inl u124.2.2))] ++ [(b3, .inl (g.2.1, 63, .inl G3))] ++ zX6 g a v) H → va_D A ([(b0, .inl (g.2.1, 9, .inl (upd (upd G0 2 u125) 3 0)))] ++ [(b1, .inl (g.2.1, 30, .inl u124.2.1))] ++ [(b2, .inl (g.2.1, 15, .inl u124.2.2))] ++ [(b3, .inl (g.2.1, 63, .inl G3))] ++ zX6 g a v) → va_S A s.heap H locs → W p l e (headSpec (zw yL_acts cL_acts 19 (some .boolean)) ({ frames := 8, cells := 2, slots := 12, locals := 184 } : Room)).room s m ([.ref (a 0), .ref b0, .ref b1, .ref b2, .ref b3, .int p0] : List Value).toArray below meth c H locs 0 0 (MQ below (va_Qi (fun (x : Int32) (_ : Unit) => x = zb r.1) (fun _ => zEnd g A ([(b0, .inl (g.2.1, 9, .inl r.2.1))] ++ [(b1, .inl (g.2.1, 30, .inl r.2.2.1))] ++ [(b2, .inl (g.2.1, 15, .inl r.2.2.2.1))] ++ [(b3, .inl (g.2.1, 63, .inl r.2.2.2.2.1))] ++ zX6 g a r.2.2.2.2.2)) A) ([.ref (a 0), .ref b0, .ref b1, .ref b2, .ref b3, .int p0] : List Value).toArray s 2 12 A) (F0 m 851 ls [.int u127, .int 6, .ref b0]) := by
            intro H locs hP hD hS
            refine zast (D := g.1) (f := (upd (upd G0 2 u125) 3 0)) (k := 6) (x := u127) hx hb hK.1 hP hD hS 0 0 rfl rfl (zin_vp (i := 6) (n := 9) rfl) rfl dL_acts_851 (fun H locs hP hD hS => ?_)
            have hP : va_P g.1 vwCl ([(b0, .inl (g.2.1, 9, .inl (upd (upd (upd G0 2 u125) 3 0) 6 u127)))] ++ [(b1, .inl (g.2.1, 30, .inl u124.2.1))] ++ [(b2, .inl (g.2.1, 15, .inl u124.2.2))] ++ [(b3, .inl (g.2.1, 63, .inl G3))] ++ zX6 g a v) H := hP
            have hD : va_D A ([(b0, .inl (g.2.1, 9, .inl (upd (upd (upd G0 2 u125) 3 0) 6 u127)))] ++ [(b1, .inl (g.2.1, 30, .inl u124.2.1))] ++ [(b2, .inl (g.2.1, 15, .inl u124.2.2))] ++ [(b3, .inl (g.2.1, 63, .inl G3))] ++ zX6 g a v) := hD
            refine lv_aload_n hx hb dL_acts_852 rfl (lv_at hl 1 rfl) ?_
            refine lv_bipush (v := 7) hx hb dL_acts_853 (by decide) ?_
            refine lv_dup2_11 hx hb dL_acts_855 rfl rfl ?_
            refine zald (D := g.1) (f := (upd (upd (upd G0 2 u125) 3 0) 6 u127)) (k := 7) hx hb hK.1 hP 0 0 rfl rfl (zin_vp (i := 7) (n := 9) rfl) rfl dL_acts_856 ?_
            refine zeqi (y := (G0 7)) rfl ?_
            refine lv_iload hx hb dL_acts_857 (lv_at hl 2 rfl) ?_
            obtain ⟨u129, hu129, hf⟩ := ob hf
            have j130 : ∀ (H : Heap) (locs : List Loc), va_P g.1 vwCl ([(b0, .inl (g.2.1, 9, .inl (upd (upd (upd G0 2 u125) 3 0) 6 u127)))] ++ [(b1, .inl (g.2.1, 30, .inl u124.2.1))] ++ [(b2, .inl (g.2.1, 15, .inl u124.2.2))] ++ [(b3, .inl (g.2.1, 63, .inl G3))] ++ zX6 g a v) H → va_D A ([(b0, .inl (g.2.1, 9, .inl (upd (upd (upd G0 2 u125) 3 0) 6 u127)))] ++ [(b1, .inl (g.2.1, 30, .inl u124.2.1))] ++ [(b2, .inl (g.2.1, 15, .inl u124.2.2))] ++ [(b3, .inl (g.2.1, 63, .inl G3))] ++ zX6 g a v) → va_S A s.heap H locs → W p l e (headSpec (zw yL_acts cL_acts 19 (some .boolean)) ({ frames := 8, cells := 2, slots := 12, locals := 184 } : Room)).room s m ([.ref (a 0), .ref b0, .ref b1, .ref b2, .ref b3, .int p0] : List Value).toArray below meth c H locs 0 0 (MQ below (va_Qi (fun (x : Int32) (_ : Unit) => x = zb r.1) (fun _ => zEnd g A ([(b0, .inl (g.2.1, 9, .inl r.2.1))] ++ [(b1, .inl (g.2.1, 30, .inl r.2.2.1))] ++ [(b2, .inl (g.2.1, 15, .inl r.2.2.2.1))] ++ [(b3, .inl (g.2.1, 63, .inl r.2.2.2.2.1))] ++ zX6 g a r.2.2.2.2.2)) A) ([.ref (a 0), .ref b0, .ref b1, .ref b2, .ref b3, .int p0] : List Value).toArray s 2 12 A) (F0 m 867 ls [.int u129, .int (G0 7), .int 7, .ref b0]) := by
              intro H locs hP hD hS
              refine lv_iadd hx hb dL_acts_867 ?_
              refine zast (D := g.1) (f := (upd (upd (upd G0 2 u125) 3 0) 6 u127)) (k := 7) (x := ((G0 7) + u129)) hx hb hK.1 hP hD hS 0 0 rfl rfl (zin_vp (i := 7) (n := 9) rfl) rfl dL_acts_868 (fun H locs hP hD hS => ?_)
              have hP : va_P g.1 vwCl ([(b0, .inl (g.2.1, 9, .inl (upd (upd (upd (upd G0 2 u125) 3 0) 6 u127) 7 ((G0 7) + u129))))] ++ [(b1, .inl (g.2.1, 30, .inl u124.2.1))] ++ [(b2, .inl (g.2.1, 15, .inl u124.2.2))] ++ [(b3, .inl (g.2.1, 63, .inl G3))] ++ zX6 g a v) H := hP
              have hD : va_D A ([(b0, .inl (g.2.1, 9, .inl (upd (upd (upd (upd G0 2 u125) 3 0) 6 u127) 7 ((G0 7) + u129))))] ++ [(b1, .inl (g.2.1, 30, .inl u124.2.1))] ++ [(b2, .inl (g.2.1, 15, .inl u124.2.2))] ++ [(b3, .inl (g.2.1, 63, .inl G3))] ++ zX6 g a v) := hD
              refine lv_aload_n hx hb dL_acts_869 rfl (lv_at hl 1 rfl) ?_
              refine lv_bipush (v := 8) hx hb dL_acts_870 (by decide) ?_
              refine lv_iload hx hb dL_acts_872 (lv_at hl 2 rfl) ?_
              obtain ⟨u131, hu131, hf⟩ := ob hf
              have j132 : ∀ (H : Heap) (locs : List Loc), va_P g.1 vwCl ([(b0, .inl (g.2.1, 9, .inl (upd (upd (upd (upd G0 2 u125) 3 0) 6 u127) 7 ((G0 7) + u129))))] ++ [(b1, .inl (g.2.1, 30, .inl u124.2.1))] ++ [(b2, .inl (g.2.1, 15, .inl u124.2.2))] ++ [(b3, .inl (g.2.1, 63, .inl G3))] ++ zX6 g a v) H → va_D A ([(b0, .inl (g.2.1, 9, .inl (upd (upd (upd (upd G0 2 u125) 3 0) 6 u127) 7 ((G0 7) + u129))))] ++ [(b1, .inl (g.2.1, 30, .inl u124.2.1))] ++ [(b2, .inl (g.2.1, 15, .inl u124.2.2))] ++ [(b3, .inl (g.2.1, 63, .inl G3))] ++ zX6 g a v) → va_S A s.heap H locs → W p l e (headSpec (zw yL_acts cL_acts 19 (some .boolean)) ({ frames := 8, cells := 2, slots := 12, locals := 184 } : Room)).room s m ([.ref (a 0), .ref b0, .ref b1, .ref b2, .ref b3, .int p0] : List Value).toArray below meth c H locs 0 0 (MQ below (va_Qi (fun (x : Int32) (_ : Unit) => x = zb r.1) (fun _ => zEnd g A ([(b0, .inl (g.2.1, 9, .inl r.2.1))] ++ [(b1, .inl (g.2.1, 30, .inl r.2.2.1))] ++ [(b2, .inl (g.2.1, 15, .inl r.2.2.2.1))] ++ [(b3, .inl (g.2.1, 63, .inl r.2.2.2.2.1))] ++ zX6 g a r.2.2.2.2.2)) A) ([.ref (a 0), .ref b0, .ref b1, .ref b2, .ref b3, .int p0] : List Value).toArray s 2 12 A) (F0 m 885 ls [.int u131, .int 8, .ref b0]) := by
                intro H locs hP hD hS
                refine zast (D := g.1) (f := (upd (upd (upd (upd G0 2 u125) 3 0) 6 u127) 7 ((G0 7) + u129))) (k := 8) (x := u131) hx hb hK.1 hP hD hS 0 0 rfl rfl (zin_vp (i := 8) (n := 9) rfl) rfl dL_acts_885 (fun H locs hP hD hS => ?_)
                have hP : va_P g.1 vwCl ([(b0, .inl (g.2.1, 9, .inl (upd (upd (upd (upd (upd G0 2 u125) 3 0) 6 u127) 7 ((G0 7) + u129)) 8 u131)))] ++ [(b1, .inl (g.2.1, 30, .inl u124.2.1))] ++ [(b2, .inl (g.2.1, 15, .inl u124.2.2))] ++ [(b3, .inl (g.2.1, 63, .inl G3))] ++ zX6 g a v) H := hP
                have hD : va_D A ([(b0, .inl (g.2.1, 9, .inl (upd (upd (upd (upd (upd G0 2 u125) 3 0) 6 u127) 7 ((G0 7) + u129)) 8 u131)))] ++ [(b1, .inl (g.2.1, 30, .inl u124.2.1))] ++ [(b2, .inl (g.2.1, 15, .inl u124.2.2))] ++ [(b3, .inl (g.2.1, 63, .inl G3))] ++ zX6 g a v) := hD
                refine lv_aload_n hx hb dL_acts_886 rfl (lv_at hl 0 rfl) ?_
                obtain ⟨u133, hu133, hf⟩ := ob hf
                refine zkQ_i (zrun_w (vx_runSX (As := [.ref (a 0)]) (rest := []) ⟨hx, hb, hml, hown, hts⟩ (ca_L_agains l hst9 g a v _ hu133 _) (zcSX hw0 zm2_228 zmH2_230 zm1_0 zm2_229 hd_L_agains rfl rfl ⟨Nat.le_of_ble_eq_true rfl, Nat.le_of_ble_eq_true rfl⟩) ⟨zblindL, zpreWQ hK hKx hZs hNc hP hD hS hA⟩ rfl rfl hl.1 rfl (lv_room (Nat.le_of_ble_eq_true rfl)) dL_acts_887 ⟨Nat.le_of_ble_eq_true rfl, Nat.le_of_ble_eq_true rfl⟩)) hP hD hS hA rfl (fun H locs hP hD hS => ?_)
                have hP : va_P g.1 vwCl ([(b0, .inl (g.2.1, 9, .inl (upd (upd (upd (upd (upd G0 2 u125) 3 0) 6 u127) 7 ((G0 7) + u129)) 8 u131)))] ++ [(b1, .inl (g.2.1, 30, .inl u124.2.1))] ++ [(b2, .inl (g.2.1, 15, .inl u124.2.2))] ++ [(b3, .inl (g.2.1, 63, .inl G3))] ++ zX6 g a u133.2) H := hP
                have hD : va_D A ([(b0, .inl (g.2.1, 9, .inl (upd (upd (upd (upd (upd G0 2 u125) 3 0) 6 u127) 7 ((G0 7) + u129)) 8 u131)))] ++ [(b1, .inl (g.2.1, 30, .inl u124.2.1))] ++ [(b2, .inl (g.2.1, 15, .inl u124.2.2))] ++ [(b3, .inl (g.2.1, 63, .inl G3))] ++ zX6 g a u133.2) := hD
                refine lv_iload hx hb dL_acts_890 (lv_at hl 2 rfl) ?_
                refine lv_if_eq (tgt := 902) hx hb dL_acts_892 (by decide) (fun c134 => ?_) (fun c134 => ?_)
                · have hf := oi hf c134
                  refine lv_ldc (v := -2000003) hx hb hown (hw0 _ zm2_119) dL_acts_902 ?_
                  refine lv_icmp_ne (tgt := 911) hx hb dL_acts_904 (by decide) (fun c135 => ?_) (fun c135 => ?_)
                  · have hf := oe hf c135
                    exact absurd hf (by simp)
                  · have hf := oi hf c135
                    refine lv_iconst (v := 1) hx hb dL_acts_907 (by decide) ?_
                    refine lv_goto (tgt := 912) hx hb dL_acts_908 (by decide) ?_
                    have hR : (true, (upd (upd (upd (upd (upd G0 2 u125) 3 0) 6 u127) 7 ((G0 7) + u129)) 8 u131), u124.2.1, u124.2.2, G3, u133.2) = r := Option.some.inj hf
                    rw [← hR]
                    refine W.widen (k := 2) (n := 12) (Nat.le_of_ble_eq_true rfl) (Nat.le_of_ble_eq_true rfl) ?_
                    exact W.zret (v := zb true) hx hb hr0 (zb_nar true) (fun t ht hW => ⟨⟨zb true, (), rfl, rfl, by rw [ht]; exact hP, hD⟩, hS.F ht⟩) hS.2.2 dL_acts_912
                · have hf := oe hf c134
                  refine lv_aload_n hx hb dL_acts_895 rfl (lv_at hl 1 rfl) ?_
                  refine lv_bipush (v := 7) hx hb dL_acts_896 (by decide) ?_
                  refine zald (D := g.1) (f := (upd (upd (upd (upd (upd G0 2 u125) 3 0) 6 u127) 7 ((G0 7) + u129)) 8 u131)) (k := 7) hx hb hK.1 hP 0 0 rfl rfl (zin_vp (i := 7) (n := 9) rfl) rfl dL_acts_898 ?_
                  refine zeqi (y := ((G0 7) + u129)) rfl ?_
                  refine lv_goto (tgt := 904) hx hb dL_acts_899 (by decide) ?_
                  refine lv_icmp_ne (tgt := 911) hx hb dL_acts_904 (by decide) (fun c136 => ?_) (fun c136 => ?_)
                  · have hf := oe hf c136
                    exact absurd hf (by simp)
                  · have hf := oi hf c136
                    refine lv_iconst (v := 1) hx hb dL_acts_907 (by decide) ?_
                    refine lv_goto (tgt := 912) hx hb dL_acts_908 (by decide) ?_
                    have hR : (true, (upd (upd (upd (upd (upd G0 2 u125) 3 0) 6 u127) 7 ((G0 7) + u129)) 8 u131), u124.2.1, u124.2.2, G3, u133.2) = r := Option.some.inj hf
                    rw [← hR]
                    refine W.widen (k := 2) (n := 12) (Nat.le_of_ble_eq_true rfl) (Nat.le_of_ble_eq_true rfl) ?_
                    exact W.zret (v := zb true) hx hb hr0 (zb_nar true) (fun t ht hW => ⟨⟨zb true, (), rfl, rfl, by rw [ht]; exact hP, hD⟩, hS.F ht⟩) hS.2.2 dL_acts_912
              have hf := hu131
              refine lv_if_eq (tgt := 881) hx hb dL_acts_874 (by decide) (fun c137 => ?_) (fun c137 => ?_)
              · have hf := oi hf c137
                refine lv_aload_n hx hb dL_acts_881 rfl (lv_at hl 1 rfl) ?_
                refine lv_bipush (v := 8) hx hb dL_acts_882 (by decide) ?_
                refine zald (D := g.1) (f := (upd (upd (upd (upd G0 2 u125) 3 0) 6 u127) 7 ((G0 7) + u129))) (k := 8) hx hb hK.1 hP 0 0 rfl rfl (zin_vp (i := 8) (n := 9) rfl) rfl dL_acts_884 ?_
                refine zeqi (y := (G0 8)) rfl ?_
                exact zeqi (Option.some.inj hf) (j132 _ _ hP hD hS)
              · have hf := oe hf c137
                refine lv_iconst (v := 0) hx hb dL_acts_877 (by decide) ?_
                refine lv_goto (tgt := 885) hx hb dL_acts_878 (by decide) ?_
                exact zeqi (Option.some.inj hf) (j132 _ _ hP hD hS)
            have hf := hu129
            refine lv_if_eq (tgt := 866) hx hb dL_acts_859 (by decide) (fun c138 => ?_) (fun c138 => ?_)
            · have hf := oi hf c138
              refine lv_iconst (v := 0) hx hb dL_acts_866 (by decide) ?_
              exact zeqi (Option.some.inj hf) (j130 _ _ hP hD hS)
            · have hf := oe hf c138
              refine lv_iconst (v := 1) hx hb dL_acts_862 (by decide) ?_
              refine lv_goto (tgt := 867) hx hb dL_acts_863 (by decide) ?_
              exact zeqi (Option.some.inj hf) (j130 _ _ hP hD hS)
          have hf := hu127
          refine lv_if_eq (tgt := 847) hx hb dL_acts_840 (by decide) (fun c139 => ?_) (fun c139 => ?_)
          · have hf := oi hf c139
            refine lv_aload_n hx hb dL_acts_847 rfl (lv_at hl 1 rfl) ?_
            refine lv_bipush (v := 6) hx hb dL_acts_848 (by decide) ?_
            refine zald (D := g.1) (f := (upd (upd G0 2 u125) 3 0)) (k := 6) hx hb hK.1 hP 0 0 rfl rfl (zin_vp (i := 6) (n := 9) rfl) rfl dL_acts_850 ?_
            refine zeqi (y := (G0 6)) rfl ?_
            exact zeqi (Option.some.inj hf) (j128 _ _ hP hD hS)
          · have hf := oe hf c139
            refine lv_iconst (v := 0) hx hb dL_acts_843 (by decide) ?_
            refine lv_goto (tgt := 851) hx hb dL_acts_844 (by decide) ?_
            exact zeqi (Option.some.inj hf) (j128 _ _ hP hD hS)
        have hf := hu125
        refine lv_if_eq (tgt := 827) hx hb dL_acts_820 (by decide) (fun c140 => ?_) (fun c140 => ?_)
        · have hf := oi hf c140
          refine lv_aload_n hx hb dL_acts_827 rfl (lv_at hl 1 rfl) ?_
          refine lv_iconst (v := 2) hx hb dL_acts_828 (by decide) ?_
          refine zald (D := g.1) (f := G0) (k := 2) hx hb hK.1 hP 0 0 rfl rfl (zin_vp (i := 2) (n := 9) rfl) rfl dL_acts_829 ?_
          exact zeqi (Option.some.inj hf) (j126 _ _ hP hD hS)
        · have hf := oe hf c140
          refine lv_iconst (v := 0) hx hb dL_acts_823 (by decide) ?_
          refine lv_goto (tgt := 830) hx hb dL_acts_824 (by decide) ?_
          exact zeqi (Option.some.inj hf) (j126 _ _ hP hD hS)
      have hf := hu108
      refine lv_icmp_ne (tgt := 720) hx hb dL_acts_713 (by decide) (fun c141 => ?_) (fun c141 => ?_)
      · have hf := oe hf c141
        refine lv_iconst (v := 0) hx hb dL_acts_720 (by decide) ?_
        exact zeqi (Option.some.inj hf) (j109 _ _ hP hD hS)
      · have hf := oi hf c141
        refine lv_iconst (v := 1) hx hb dL_acts_716 (by decide) ?_
        refine lv_goto (tgt := 721) hx hb dL_acts_717 (by decide) ?_
        exact zeqi (Option.some.inj hf) (j109 _ _ hP hD hS)
    have hk913 : k_L_acts_913 G0 G1 G2 G3 v u2 u1 p0 = some r → W p l e (headSpec (zw yL_acts cL_acts 19 (some .boolean)) ({ frames := 8, cells := 2, slots := 12, locals := 184 } : Room)).room s m ([.ref (a 0), .ref b0, .ref b1, .ref b2, .ref b3, .int p0] : List Value).toArray below meth c H locs 0 0 (MQ below (va_Qi (fun (x : Int32) (_ : Unit) => x = zb r.1) (fun _ => zEnd g A ([(b0, .inl (g.2.1, 9, .inl r.2.1))] ++ [(b1, .inl (g.2.1, 30, .inl r.2.2.1))] ++ [(b2, .inl (g.2.1, 15, .inl r.2.2.2.1))] ++ [(b3, .inl (g.2.1, 63, .inl r.2.2.2.2.1))] ++ zX6 g a r.2.2.2.2.2)) A) ([.ref (a 0), .ref b0, .ref b1, .ref b2, .ref b3, .int p0] : List Value).toArray s 2 12 A) (F0 m 913 ls []) := by
      intro hf
      unfold k_L_acts_913 at hf
      refine lv_iload hx hb dL_acts_913 (lv_at hl 1 rfl) ?_
      refine lv_iconst (v := 3) hx hb dL_acts_915 (by decide) ?_
      refine lv_irem hx hb dL_acts_916 (by decide) ?_
      refine lv_if_le (tgt := 948) hx hb dL_acts_917 (by decide) (fun c142 => ?_) (fun c142 => ?_)
      · have hf := oi hf c142
        refine lv_aload_n hx hb dL_acts_948 rfl (lv_at hl 3 rfl) ?_
        refine lv_aload_n hx hb dL_acts_949 rfl (lv_at hl 4 rfl) ?_
        refine lv_aload_n hx hb dL_acts_950 rfl (lv_at hl 5 rfl) ?_
        refine lv_aload hx hb dL_acts_951 (lv_at hl 6 rfl) ?_
        refine lv_ldc (v := 1000000) hx hb hown (hw0 _ zm3_105) dL_acts_953 ?_
        obtain ⟨u143, hu143, hf⟩ := ob hf
        refine zk_i (va_runS (As := [.ref b0, .ref b1, .ref b2, .ref b3, .int 1000000]) (rest := []) ⟨hx, hb, hml, hown, hts⟩ (c_L_goes l g b0 b1 b2 b3 G0 G1 G2 G3 1000000 _ hu143 _) (zcS hw0 zm3_106 zm3_108 zm1_0 zm3_107 hd_L_goes rfl rfl ⟨Nat.le_of_ble_eq_true rfl, Nat.le_of_ble_eq_true rfl⟩) ⟨zblind, zpre hK hP hD [0, 1, 2, 3] rfl rfl⟩ rfl rfl hl.1 rfl (lv_room (Nat.le_of_ble_eq_true rfl)) dL_acts_955 ⟨Nat.zero_le _, Nat.zero_le _⟩) hP hD hS hA [0, 1, 2, 3] rfl rfl (fun H locs hP hD hS => ?_)
        have hP : va_P g.1 vwCl ([(b0, .inl (g.2.1, 9, .inl u143.2.1))] ++ [(b1, .inl (g.2.1, 30, .inl u143.2.2.1))] ++ [(b2, .inl (g.2.1, 15, .inl u143.2.2.2.1))] ++ [(b3, .inl (g.2.1, 63, .inl u143.2.2.2.2))] ++ zX6 g a v) H := hP
        have hD : va_D A ([(b0, .inl (g.2.1, 9, .inl u143.2.1))] ++ [(b1, .inl (g.2.1, 30, .inl u143.2.2.1))] ++ [(b2, .inl (g.2.1, 15, .inl u143.2.2.2.1))] ++ [(b3, .inl (g.2.1, 63, .inl u143.2.2.2.2))] ++ zX6 g a v) := hD
        refine lv_istore (lv' := [(16, .int u143.1), (7, .int u2), (6, .int u1), (0, .ref (a 0)), (1, .ref b0), (2, .ref b1), (3, .ref b2), (4, .ref b3), (5, .int p0)]) hx hb dL_acts_958 hl (by decide) rfl (fun ls hl => ?_)
        refine lv_aload_n hx hb dL_acts_960 rfl (lv_at hl 3 rfl) ?_
        obtain ⟨u144, hu144, hf⟩ := ob hf
        refine zkQ_i (va_runV (As := []) (rest := []) ⟨hx, hb, hml, hown, hts⟩ (c_X6_finish l g a v _ hu144 _) (zcVg hw0 zm3_131 zm3_134 zm1_1 zm3_132 zm3_133 hd_X6_finish rfl rfl ⟨Nat.le_of_ble_eq_true rfl, Nat.le_of_ble_eq_true rfl⟩) ⟨zblind, zrecvQ hK hP (ci := 6) rfl rfl, zpreQ hK hP hD⟩ rfl rfl hl.1 rfl (lv_room (Nat.le_of_ble_eq_true rfl)) dL_acts_961 ⟨Nat.le_of_ble_eq_true rfl, Nat.le_of_ble_eq_true rfl⟩) hP hD hS hA rfl (fun H locs hP hD hS => ?_)
        have hP : va_P g.1 vwCl ([(b0, .inl (g.2.1, 9, .inl u143.2.1))] ++ [(b1, .inl (g.2.1, 30, .inl u143.2.2.1))] ++ [(b2, .inl (g.2.1, 15, .inl u143.2.2.2.1))] ++ [(b3, .inl (g.2.1, 63, .inl u143.2.2.2.2))] ++ zX6 g a u144.2) H := hP
        have hD : va_D A ([(b0, .inl (g.2.1, 9, .inl u143.2.1))] ++ [(b1, .inl (g.2.1, 30, .inl u143.2.2.1))] ++ [(b2, .inl (g.2.1, 15, .inl u143.2.2.2.1))] ++ [(b3, .inl (g.2.1, 63, .inl u143.2.2.2.2))] ++ zX6 g a u144.2) := hD
        refine lv_aload_n hx hb dL_acts_964 rfl (lv_at hl 4 rfl) ?_
        refine lv_iconst (v := 2) hx hb dL_acts_965 (by decide) ?_
        refine zald (D := g.1) (f := u143.2.1) (k := 2) hx hb hK.1 hP 0 0 rfl rfl (zin_vp (i := 2) (n := 9) rfl) rfl dL_acts_966 ?_
        refine lv_sipush (v := 3600) hx hb dL_acts_967 (by decide) ?_
        refine lv_isub hx hb dL_acts_970 ?_
        refine lv_icmp_ne (tgt := 978) hx hb dL_acts_971 (by decide) (fun c145 => ?_) (fun c145 => ?_)
        · have hf := oe hf c145
          exact absurd hf (by simp)
        · have hf := oi hf c145
          refine lv_iconst (v := 1) hx hb dL_acts_974 (by decide) ?_
          refine lv_goto (tgt := 979) hx hb dL_acts_975 (by decide) ?_
          have hR : (true, u143.2.1, u143.2.2.1, u143.2.2.2.1, u143.2.2.2.2, u144.2) = r := Option.some.inj hf
          rw [← hR]
          refine W.widen (k := 2) (n := 12) (Nat.le_of_ble_eq_true rfl) (Nat.le_of_ble_eq_true rfl) ?_
          exact W.zret (v := zb true) hx hb hr0 (zb_nar true) (fun t ht hW => ⟨⟨zb true, (), rfl, rfl, by rw [ht]; exact hP, hD⟩, hS.F ht⟩) hS.2.2 dL_acts_979
      · have hf := oe hf c142
        refine lv_aload_n hx hb dL_acts_920 rfl (lv_at hl 2 rfl) ?_
        refine lv_iconst (v := 0) hx hb dL_acts_921 (by decide) ?_
        obtain ⟨u146, hu146, hf⟩ := ob hf
        refine zkQ_i (zrun_w (vx_runSX (As := [.ref (a 0), .int 0]) (rest := []) ⟨hx, hb, hml, hown, hts⟩ (ca_L_passes l hst9 g a v 0 _ hu146 _) (zcSX hw0 zm3_8 zmH3_10 zm1_0 zm3_9 hd_L_passes rfl rfl ⟨Nat.le_of_ble_eq_true rfl, Nat.le_of_ble_eq_true rfl⟩) ⟨zblindL, zpreWQ hK hKx hZs hNc hP hD hS hA⟩ rfl rfl hl.1 rfl (lv_room (Nat.le_of_ble_eq_true rfl)) dL_acts_922 ⟨Nat.le_of_ble_eq_true rfl, Nat.le_of_ble_eq_true rfl⟩)) hP hD hS hA rfl (fun H locs hP hD hS => ?_)
        have hP : va_P g.1 vwCl ([(b0, .inl (g.2.1, 9, .inl G0))] ++ [(b1, .inl (g.2.1, 30, .inl G1))] ++ [(b2, .inl (g.2.1, 15, .inl G2))] ++ [(b3, .inl (g.2.1, 63, .inl G3))] ++ zX6 g a u146.2) H := hP
        have hD : va_D A ([(b0, .inl (g.2.1, 9, .inl G0))] ++ [(b1, .inl (g.2.1, 30, .inl G1))] ++ [(b2, .inl (g.2.1, 15, .inl G2))] ++ [(b3, .inl (g.2.1, 63, .inl G3))] ++ zX6 g a u146.2) := hD
        refine lv_ldc (v := -2000002) hx hb hown (hw0 _ zm2_118) dL_acts_925 ?_
        refine lv_icmp_ne (tgt := 946) hx hb dL_acts_927 (by decide) (fun c147 => ?_) (fun c147 => ?_)
        · have hf := oe hf c147
          exact absurd hf (by simp)
        · have hf := oi hf c147
          refine lv_aload_n hx hb dL_acts_930 rfl (lv_at hl 2 rfl) ?_
          refine lv_sipush (v := 3601) hx hb dL_acts_931 (by decide) ?_
          obtain ⟨u148, hu148, hf⟩ := ob hf
          refine zkQ_i (zrun_w (vx_runSX (As := [.ref (a 0), .int 3601]) (rest := []) ⟨hx, hb, hml, hown, hts⟩ (ca_L_passes l hst9 g a u146.2 3601 _ hu148 _) (zcSX hw0 zm3_8 zmH3_10 zm1_0 zm3_9 hd_L_passes rfl rfl ⟨Nat.le_of_ble_eq_true rfl, Nat.le_of_ble_eq_true rfl⟩) ⟨zblindL, zpreWQ hK hKx hZs hNc hP hD hS hA⟩ rfl rfl hl.1 rfl (lv_room (Nat.le_of_ble_eq_true rfl)) dL_acts_934 ⟨Nat.le_of_ble_eq_true rfl, Nat.le_of_ble_eq_true rfl⟩)) hP hD hS hA rfl (fun H locs hP hD hS => ?_)
          have hP : va_P g.1 vwCl ([(b0, .inl (g.2.1, 9, .inl G0))] ++ [(b1, .inl (g.2.1, 30, .inl G1))] ++ [(b2, .inl (g.2.1, 15, .inl G2))] ++ [(b3, .inl (g.2.1, 63, .inl G3))] ++ zX6 g a u148.2) H := hP
          have hD : va_D A ([(b0, .inl (g.2.1, 9, .inl G0))] ++ [(b1, .inl (g.2.1, 30, .inl G1))] ++ [(b2, .inl (g.2.1, 15, .inl G2))] ++ [(b3, .inl (g.2.1, 63, .inl G3))] ++ zX6 g a u148.2) := hD
          refine lv_ldc (v := -2000002) hx hb hown (hw0 _ zm2_118) dL_acts_937 ?_
          refine lv_icmp_ne (tgt := 946) hx hb dL_acts_939 (by decide) (fun c149 => ?_) (fun c149 => ?_)
          · have hf := oe hf c149
            exact absurd hf (by simp)
          · have hf := oi hf c149
            refine lv_iconst (v := 1) hx hb dL_acts_942 (by decide) ?_
            refine lv_goto (tgt := 947) hx hb dL_acts_943 (by decide) ?_
            have hR : (true, G0, G1, G2, G3, u148.2) = r := Option.some.inj hf
            rw [← hR]
            refine W.widen (k := 2) (n := 12) (Nat.le_of_ble_eq_true rfl) (Nat.le_of_ble_eq_true rfl) ?_
            exact W.zret (v := zb true) hx hb hr0 (zb_nar true) (fun t ht hW => ⟨⟨zb true, (), rfl, rfl, by rw [ht]; exact hP, hD⟩, hS.F ht⟩) hS.2.2 dL_acts_947
    have hk980 : k_L_acts_980 G0 G1 G2 G3 v u2 u1 p0 = some r → W p l e (headSpec (zw yL_acts cL_acts 19 (some .boolean)) ({ frames := 8, cells := 2, slots := 12, locals := 184 } : Room)).room s m ([.ref (a 0), .ref b0, .ref b1, .ref b2, .ref b3, .int p0] : List Value).toArray below meth c H locs 0 0 (MQ below (va_Qi (fun (x : Int32) (_ : Unit) => x = zb r.1) (fun _ => zEnd g A ([(b0, .inl (g.2.1, 9, .inl r.2.1))] ++ [(b1, .inl (g.2.1, 30, .inl r.2.2.1))] ++ [(b2, .inl (g.2.1, 15, .inl r.2.2.2.1))] ++ [(b3, .inl (g.2.1, 63, .inl r.2.2.2.2.1))] ++ zX6 g a r.2.2.2.2.2)) A) ([.ref (a 0), .ref b0, .ref b1, .ref b2, .ref b3, .int p0] : List Value).toArray s 2 12 A) (F0 m 980 ls []) := by
      intro hf
      unfold k_L_acts_980 at hf
      refine lv_iconst (v := 1) hx hb dL_acts_980 (by decide) ?_
      refine lv_iload hx hb dL_acts_981 (lv_at hl 1 rfl) ?_
      refine lv_iload hx hb dL_acts_983 (lv_at hl 1 rfl) ?_
      refine lv_iconst (v := 4) hx hb dL_acts_985 (by decide) ?_
      refine lv_irem hx hb dL_acts_986 (by decide) ?_
      obtain ⟨u150, hu150, hf⟩ := ob hf
      have j151 : ∀ (H : Heap) (locs : List Loc), va_P g.1 vwCl ([(b0, .inl (g.2.1, 9, .inl G0))] ++ [(b1, .inl (g.2.1, 30, .inl G1))] ++ [(b2, .inl (g.2.1, 15, .inl G2))] ++ [(b3, .inl (g.2.1, 63, .inl G3))] ++ zX6 g a v) H → va_D A ([(b0, .inl (g.2.1, 9, .inl G0))] ++ [(b1, .inl (g.2.1, 30, .inl G1))] ++ [(b2, .inl (g.2.1, 15, .inl G2))] ++ [(b3, .inl (g.2.1, 63, .inl G3))] ++ zX6 g a v) → va_S A s.heap H locs → W p l e (headSpec (zw yL_acts cL_acts 19 (some .boolean)) ({ frames := 8, cells := 2, slots := 12, locals := 184 } : Room)).room s m ([.ref (a 0), .ref b0, .ref b1, .ref b2, .ref b3, .int p0] : List Value).toArray below meth c H locs 0 0 (MQ below (va_Qi (fun (x : Int32) (_ : Unit) => x = zb r.1) (fun _ => zEnd g A ([(b0, .inl (g.2.1, 9, .inl r.2.1))] ++ [(b1, .inl (g.2.1, 30, .inl r.2.2.1))] ++ [(b2, .inl (g.2.1, 15, .inl r.2.2.2.1))] ++ [(b3, .inl (g.2.1, 63, .inl r.2.2.2.2.1))] ++ zX6 g a r.2.2.2.2.2)) A) ([.ref (a 0), .ref b0, .ref b1, .ref b2, .ref b3, .int p0] : List Value).toArray s 2 12 A) (F0 m 999 ls [.int u150, .int u1, .int 1]) := by
        intro H locs hP hD hS
        obtain ⟨h152, hf⟩ := onn hf
        refine lv_irem hx hb dL_acts_999 h152 ?_
        refine lv_iadd hx hb dL_acts_1000 ?_
        refine lv_istore (lv' := [(17, .int (1 + (u1 - u1 / u150 * u150))), (7, .int u2), (6, .int u1), (0, .ref (a 0)), (1, .ref b0), (2, .ref b1), (3, .ref b2), (4, .ref b3), (5, .int p0)]) hx hb dL_acts_1001 hl (by decide) rfl (fun ls hl => ?_)
        refine lv_aload_n hx hb dL_acts_1003 rfl (lv_at hl 4 rfl) ?_
        refine lv_aload_n hx hb dL_acts_1004 rfl (lv_at hl 5 rfl) ?_
        refine lv_aload_n hx hb dL_acts_1005 rfl (lv_at hl 6 rfl) ?_
        refine lv_aload hx hb dL_acts_1006 (lv_at hl 7 rfl) ?_
        refine lv_iload hx hb dL_acts_1008 (lv_at hl 0 rfl) ?_
        obtain ⟨u153, hu153, hf⟩ := ob hf
        refine zk_i (va_runS (As := [.ref b0, .ref b1, .ref b2, .ref b3, .int (1 + (u1 - u1 / u150 * u150))]) (rest := []) ⟨hx, hb, hml, hown, hts⟩ (c_L_goes l g b0 b1 b2 b3 G0 G1 G2 G3 (1 + (u1 - u1 / u150 * u150)) _ hu153 _) (zcS hw0 zm3_106 zm3_108 zm1_0 zm3_107 hd_L_goes rfl rfl ⟨Nat.le_of_ble_eq_true rfl, Nat.le_of_ble_eq_true rfl⟩) ⟨zblind, zpre hK hP hD [0, 1, 2, 3] rfl rfl⟩ rfl rfl hl.1 rfl (lv_room (Nat.le_of_ble_eq_true rfl)) dL_acts_1010 ⟨Nat.zero_le _, Nat.zero_le _⟩) hP hD hS hA [0, 1, 2, 3] rfl rfl (fun H locs hP hD hS => ?_)
        have hP : va_P g.1 vwCl ([(b0, .inl (g.2.1, 9, .inl u153.2.1))] ++ [(b1, .inl (g.2.1, 30, .inl u153.2.2.1))] ++ [(b2, .inl (g.2.1, 15, .inl u153.2.2.2.1))] ++ [(b3, .inl (g.2.1, 63, .inl u153.2.2.2.2))] ++ zX6 g a v) H := hP
        have hD : va_D A ([(b0, .inl (g.2.1, 9, .inl u153.2.1))] ++ [(b1, .inl (g.2.1, 30, .inl u153.2.2.1))] ++ [(b2, .inl (g.2.1, 15, .inl u153.2.2.2.1))] ++ [(b3, .inl (g.2.1, 63, .inl u153.2.2.2.2))] ++ zX6 g a v) := hD
        refine lv_istore (lv' := [(18, .int u153.1), (17, .int (1 + (u1 - u1 / u150 * u150))), (7, .int u2), (6, .int u1), (0, .ref (a 0)), (1, .ref b0), (2, .ref b1), (3, .ref b2), (4, .ref b3), (5, .int p0)]) hx hb dL_acts_1013 hl (by decide) rfl (fun ls hl => ?_)
        refine lv_aload_n hx hb dL_acts_1015 rfl (lv_at hl 4 rfl) ?_
        refine lv_iload hx hb dL_acts_1016 (lv_at hl 1 rfl) ?_
        obtain ⟨u154, hu154, hf⟩ := ob hf
        refine zkQ_i (zrun_w (vx_runSX (As := [.ref (a 0), .int (1 + (u1 - u1 / u150 * u150))]) (rest := []) ⟨hx, hb, hml, hown, hts⟩ (co_L_passes l g a v (1 + (u1 - u1 / u150 * u150)) _ hu154 _) (zcSX hw0 zm3_8 zmH3_10 zm1_0 zm3_9 hd_L_passes rfl rfl ⟨Nat.le_of_ble_eq_true rfl, Nat.le_of_ble_eq_true rfl⟩) ⟨zblind, zpreQ hK hP hD⟩ rfl rfl hl.1 rfl (lv_room (Nat.le_of_ble_eq_true rfl)) dL_acts_1018 ⟨Nat.le_of_ble_eq_true rfl, Nat.le_of_ble_eq_true rfl⟩)) hP hD hS hA rfl (fun H locs hP hD hS => ?_)
        have hP : va_P g.1 vwCl ([(b0, .inl (g.2.1, 9, .inl u153.2.1))] ++ [(b1, .inl (g.2.1, 30, .inl u153.2.2.1))] ++ [(b2, .inl (g.2.1, 15, .inl u153.2.2.2.1))] ++ [(b3, .inl (g.2.1, 63, .inl u153.2.2.2.2))] ++ zX6 g a u154.2) H := hP
        have hD : va_D A ([(b0, .inl (g.2.1, 9, .inl u153.2.1))] ++ [(b1, .inl (g.2.1, 30, .inl u153.2.2.1))] ++ [(b2, .inl (g.2.1, 15, .inl u153.2.2.2.1))] ++ [(b3, .inl (g.2.1, 63, .inl u153.2.2.2.2))] ++ zX6 g a u154.2) := hD
        refine lv_iload hx hb dL_acts_1021 (lv_at hl 0 rfl) ?_
        refine lv_icmp_ne (tgt := 1030) hx hb dL_acts_1023 (by decide) (fun c155 => ?_) (fun c155 => ?_)
        · have hf := oe hf c155
          exact absurd hf (by simp)
        · have hf := oi hf c155
          refine lv_iconst (v := 1) hx hb dL_acts_1026 (by decide) ?_
          refine lv_goto (tgt := 1031) hx hb dL_acts_1027 (by decide) ?_
          have hR : (true, u153.2.1, u153.2.2.1, u153.2.2.2.1, u153.2.2.2.2, u154.2) = r := Option.some.inj hf
          rw [← hR]
          refine W.widen (k := 2) (n := 12) (Nat.le_of_ble_eq_true rfl) (Nat.le_of_ble_eq_true rfl) ?_
          exact W.zret (v := zb true) hx hb hr0 (zb_nar true) (fun t ht hW => ⟨⟨zb true, (), rfl, rfl, by rw [ht]; exact hP, hD⟩, hS.F ht⟩) hS.2.2 dL_acts_1031
      have hf := hu150
      refine lv_if_ne (tgt := 996) hx hb dL_acts_987 (by decide) (fun c156 => ?_) (fun c156 => ?_)
      · have hf := oe hf c156
        refine lv_sipush (v := 500) hx hb dL_acts_996 (by decide) ?_
        exact zeqi (Option.some.inj hf) (j151 _ _ hP hD hS)
      · have hf := oi hf c156
        refine lv_sipush (v := 3600) hx hb dL_acts_990 (by decide) ?_
        refine lv_goto (tgt := 999) hx hb dL_acts_993 (by decide) ?_
        exact zeqi (Option.some.inj hf) (j151 _ _ hP hD hS)
    by_cases c157 : u4 = 0
    · have hf := oi hf c157
      refine lv_tableIn (tgt := 92) hx hb dL_acts_36 (off := 56) (by rw [c157]; decide) (by rw [c157]; decide) (by first | (rw [c157]; done) | (rw [c157]; rfl)) (by decide) ?_
      exact hk92 hf
    · have hf := oe hf c157
      by_cases c158 : u4 = 1
      · have hf := oi hf c158
        refine lv_tableIn (tgt := 92) hx hb dL_acts_36 (off := 56) (by rw [c158]; decide) (by rw [c158]; decide) (by first | (rw [c158]; done) | (rw [c158]; rfl)) (by decide) ?_
        exact hk92 hf
      · have hf := oe hf c158
        by_cases c159 : u4 = 2
        · have hf := oi hf c159
          refine lv_tableIn (tgt := 92) hx hb dL_acts_36 (off := 56) (by rw [c159]; decide) (by rw [c159]; decide) (by first | (rw [c159]; done) | (rw [c159]; rfl)) (by decide) ?_
          exact hk92 hf
        · have hf := oe hf c159
          by_cases c160 : u4 = 3
          · have hf := oi hf c160
            refine lv_tableIn (tgt := 288) hx hb dL_acts_36 (off := 252) (by rw [c160]; decide) (by rw [c160]; decide) (by first | (rw [c160]; done) | (rw [c160]; rfl)) (by decide) ?_
            exact hk288 hf
          · have hf := oe hf c160
            by_cases c161 : u4 = 4
            · have hf := oi hf c161
              refine lv_tableIn (tgt := 288) hx hb dL_acts_36 (off := 252) (by rw [c161]; decide) (by rw [c161]; decide) (by first | (rw [c161]; done) | (rw [c161]; rfl)) (by decide) ?_
              exact hk288 hf
            · have hf := oe hf c161
              by_cases c162 : u4 = 5
              · have hf := oi hf c162
                refine lv_tableIn (tgt := 403) hx hb dL_acts_36 (off := 367) (by rw [c162]; decide) (by rw [c162]; decide) (by first | (rw [c162]; done) | (rw [c162]; rfl)) (by decide) ?_
                exact hk403 hf
              · have hf := oe hf c162
                by_cases c163 : u4 = 6
                · have hf := oi hf c163
                  refine lv_tableIn (tgt := 403) hx hb dL_acts_36 (off := 367) (by rw [c163]; decide) (by rw [c163]; decide) (by first | (rw [c163]; done) | (rw [c163]; rfl)) (by decide) ?_
                  exact hk403 hf
                · have hf := oe hf c163
                  by_cases c164 : u4 = 7
                  · have hf := oi hf c164
                    refine lv_tableIn (tgt := 625) hx hb dL_acts_36 (off := 589) (by rw [c164]; decide) (by rw [c164]; decide) (by first | (rw [c164]; done) | (rw [c164]; rfl)) (by decide) ?_
                    exact hk625 hf
                  · have hf := oe hf c164
                    by_cases c165 : u4 = 8
                    · have hf := oi hf c165
                      refine lv_tableIn (tgt := 709) hx hb dL_acts_36 (off := 673) (by rw [c165]; decide) (by rw [c165]; decide) (by first | (rw [c165]; done) | (rw [c165]; rfl)) (by decide) ?_
                      exact hk709 hf
                    · have hf := oe hf c165
                      by_cases c166 : u4 = 9
                      · have hf := oi hf c166
                        refine lv_tableIn (tgt := 913) hx hb dL_acts_36 (off := 877) (by rw [c166]; decide) (by rw [c166]; decide) (by first | (rw [c166]; done) | (rw [c166]; rfl)) (by decide) ?_
                        exact hk913 hf
                      · have hf := oe hf c166
                        refine lv_tableOut (tgt := 980) hx hb dL_acts_36 (zsw 9 (by decide) (fun k hk => by rcases (show k = 0 ∨ k = 1 ∨ k = 2 ∨ k = 3 ∨ k = 4 ∨ k = 5 ∨ k = 6 ∨ k = 7 ∨ k = 8 ∨ k = 9 by omega) with rfl | rfl | rfl | rfl | rfl | rfl | rfl | rfl | rfl | rfl <;> assumption)) (by decide) ?_
                        exact hk980 hf
  have hf := hu2
  refine lv_if_ne (tgt := 21) hx hb dL_acts_14 (by decide) (fun c167 => ?_) (fun c167 => ?_)
  · have hf := oe hf c167
    refine lv_iload hx hb dL_acts_21 (lv_at hl 0 rfl) ?_
    refine lv_aload_n hx hb dL_acts_23 rfl (lv_at hl 2 rfl) ?_
    refine lv_iconst (v := 0) hx hb dL_acts_24 (by decide) ?_
    refine zald (D := g.1) (f := G0) (k := 0) hx hb hK.1 hP 0 0 rfl rfl (zin_vp (i := 0) (n := 9) rfl) rfl dL_acts_25 ?_
    obtain ⟨h168, hf⟩ := onn hf
    refine lv_irem hx hb dL_acts_26 h168 ?_
    exact zeqi (Option.some.inj hf) (j3 _ _ hP hD hS)
  · have hf := oi hf c167
    refine lv_iconst (v := 0) hx hb dL_acts_17 (by decide) ?_
    refine lv_goto (tgt := 27) hx hb dL_acts_18 (by decide) ?_
    exact zeqi (Option.some.inj hf) (j3 _ _ hP hD hS)
