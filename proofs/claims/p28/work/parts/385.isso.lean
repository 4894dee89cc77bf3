theorem hd_L_isSo : yL_isSo.cls ≠ "java/lang/invoke/MethodHandle" ∧ yL_isSo.cls ≠ "java/lang/invoke/VarHandle" ∧ (parseMethodDescriptor yL_isSo.desc).map (fun d => d.parameters.length) = some 5 := by decide +kernel
def s_L_isSo_65 (G0 : FF) (G1 : FF) (G2 : FF) (G3 : FF) (v : CV) (i5 : Int32) (x : Int32 × Int32 × Int32) : Option ((Int32 × Int32 × Int32) ⊕ (Int32 × Int32 × Int32)) :=
  if (G0 0) ≤ x.2.2 then
    some (.inr (x.1, x.2.1, x.2.2))
  else
    if x.2.1 = 0 then
      some (.inr (x.1, x.2.1, x.2.2))
    else
      if zin ((5 * x.2.2) + 4) 30 = true then
      if zin ((5 * x.2.2) + 1) 30 = true then
      (if (G1 ((5 * x.2.2) + 1).toNatClampNeg) < 0 then
        some (-1)
      else
        if 0 ≤ (G1 ((5 * x.2.2) + 4).toNatClampNeg) then
          if zin ((5 * x.2.2) + 1) 30 = true then
          some ((G1 ((5 * x.2.2) + 4).toNatClampNeg) - (G1 ((5 * x.2.2) + 1).toNatClampNeg))
          else none
        else
          some (-1) : Option Int32).bind (fun u14 =>
      (if u14 ≤ x.1 then
        some x.1
      else
        some u14 : Option Int32).bind (fun u16 =>
      (f_L_fixed G0 G1 (x.2.2 + 1)).bind (fun u18 =>
      if zin ((5 * x.2.2) + 3) 30 = true then
      (if (G1 ((5 * x.2.2) + 3).toNatClampNeg) = 0 then
        (f_L_timeAt G0 G1 u18).bind (fun u48 =>
        (f_L_sum G1 x.2.2 u18).bind (fun u49 =>
        some (u48 - u49)))
      else
        some (-10000) : Option Int32).bind (fun u20 =>
      (fn_X6_element v x.2.2 0).bind (fun u22 =>
      if zin (5 * x.2.2) 30 = true then
      if u22 = (G1 (5 * x.2.2).toNatClampNeg) then
        (fn_X6_element v x.2.2 1).bind (fun u25 =>
        if zin ((5 * x.2.2) + 1) 30 = true then
        if u25 = (G1 ((5 * x.2.2) + 1).toNatClampNeg) then
          (fn_X6_element v x.2.2 2).bind (fun u28 =>
          if zin ((5 * x.2.2) + 2) 30 = true then
          if u28 = (G1 ((5 * x.2.2) + 2).toNatClampNeg) then
            (fn_X6_element v x.2.2 3).bind (fun u31 =>
            if zin ((5 * x.2.2) + 3) 30 = true then
            if u31 = (G1 ((5 * x.2.2) + 3).toNatClampNeg) then
              (fn_X6_element v x.2.2 4).bind (fun u34 =>
              if u34 = (G1 ((5 * x.2.2) + 4).toNatClampNeg) then
                (fn_X6_element v x.2.2 5).bind (fun u36 =>
                if u36 = u14 then
                  (fn_X6_element v x.2.2 6).bind (fun u38 =>
                  if zin ((5 * x.2.2) + 3) 30 = true then
                  (if (G1 ((5 * x.2.2) + 3).toNatClampNeg) = 0 then
                    if i5 ≤ x.2.2 then
                      some 0
                    else
                      some 1
                  else
                    some 0 : Option Int32).bind (fun u40 =>
                  if u38 = u40 then
                    (fn_X6_backTime v x.2.2).bind (fun u43 =>
                    if u43 = u20 then
                      some (.inl (u16, 1, (x.2.2 + 1)))
                    else
                      none)
                  else
                    none)
                  else none)
                else
                  none)
              else
                none)
            else
              none
            else none)
          else
            none
          else none)
        else
          none
        else none)
      else
        none
      else none))
      else none)))
      else none
      else none
def s_L_isSo_341 (G0 : FF) (G1 : FF) (G2 : FF) (G3 : FF) (v : CV) (i5 : Int32) (i6 : Int32) (x : Int32 × Int32 × Int32) : Option ((Int32 × Int32 × Int32) ⊕ (Int32 × Int32 × Int32)) :=
  if (G0 1) ≤ x.2.2 then
    some (.inr (x.1, x.2.1, x.2.2))
  else
    if x.1 = 0 then
      some (.inr (x.1, x.2.1, x.2.2))
    else
      if zin ((3 * x.2.2) + 1) 15 = true then
      (if (G2 ((3 * x.2.2) + 1).toNatClampNeg) = 0 then
        some 1
      else
        some 0 : Option Int32).bind (fun u58 =>
      (fn_X6_filler v x.2.2 0).bind (fun u60 =>
      if zin (3 * x.2.2) 15 = true then
      if u60 = (G2 (3 * x.2.2).toNatClampNeg) then
        (fn_X6_filler v x.2.2 1).bind (fun u63 =>
        if zin ((3 * x.2.2) + 1) 15 = true then
        if u63 = (G2 ((3 * x.2.2) + 1).toNatClampNeg) then
          (fn_X6_filler v x.2.2 2).bind (fun u66 =>
          if zin ((3 * x.2.2) + 2) 15 = true then
          if u66 = (G2 ((3 * x.2.2) + 2).toNatClampNeg) then
            some (.inl (1, (x.2.1 + u58), (x.2.2 + 1)))
          else
            none
          else none)
        else
          none
        else none)
      else
        none
      else none))
      else none
def s_L_isSo_443 (G0 : FF) (G1 : FF) (G2 : FF) (G3 : FF) (v : CV) (i5 : Int32) (i6 : Int32) (i8 : Int32) (x : Int32 × Int32) : Option ((Int32 × Int32) ⊕ (Int32 × Int32)) :=
  if (G0 8) ≤ x.2 then
    some (.inr (x.1, x.2))
  else
    if 21 ≤ x.2 then
      some (.inr (x.1, x.2))
    else
      if x.1 = 0 then
        some (.inr (x.1, x.2))
      else
        (fn_X6_entry v x.2 0).bind (fun u74 =>
        if zin (3 * x.2) 63 = true then
        if u74 = (G3 (3 * x.2).toNatClampNeg) then
          (fn_X6_entry v x.2 1).bind (fun u77 =>
          if zin ((3 * x.2) + 1) 63 = true then
          if u77 = (G3 ((3 * x.2) + 1).toNatClampNeg) then
            (fn_X6_entry v x.2 2).bind (fun u80 =>
            if zin ((3 * x.2) + 2) 63 = true then
            if u80 = (G3 ((3 * x.2) + 2).toNatClampNeg) then
              some (.inl (1, (x.2 + 1)))
            else
              none
            else none)
          else
            none
          else none)
        else
          none
        else none)
def f_L_isSo (G0 : FF) (G1 : FF) (G2 : FF) (G3 : FF) (v : CV) : Option (Bool) :=
  (f_L_fixed G0 G1 0).bind (fun u1 =>
  (fn_X6_value v 0).bind (fun u2 =>
  if u2 = (G0 0) then
    (fn_X6_value v 1).bind (fun u4 =>
    if u4 = (G0 1) then
      (fn_X6_value v 2).bind (fun u6 =>
      if u6 = (G0 2) then
        (fn_X6_value v 3).bind (fun u8 =>
        if u8 = (G0 3) then
          (zloop (s_L_isSo_65 G0 G1 G2 G3 v u1) 4096 (0, 1, 0)).bind (fun u54 =>
          (zloop (s_L_isSo_341 G0 G1 G2 G3 v u1 u54.1) 4096 (u54.2.1, 0, 0)).bind (fun u70 =>
          (zloop (s_L_isSo_443 G0 G1 G2 G3 v u1 u54.1 u70.2.1) 4096 (u70.1, 0)).bind (fun u83 =>
          if u83.1 = 0 then
            none
          else
            (fn_X6_value v 4).bind (fun u85 =>
            (f_L_inStatus G0 G1 0).bind (fun u86 =>
            if u85 = u86 then
              (fn_X6_value v 5).bind (fun u88 =>
              (f_L_inStatus G0 G1 3).bind (fun u89 =>
              if u88 = u89 then
                (fn_X6_value v 6).bind (fun u91 =>
                if u91 = u70.2.1 then
                  (fn_X6_value v 7).bind (fun u93 =>
                  if u93 = (G0 6) then
                    (fn_X6_value v 8).bind (fun u95 =>
                    (f_L_timeAt G0 G1 u1).bind (fun u96 =>
                    if u95 = u96 then
                      (fn_X6_value v 9).bind (fun u98 =>
                      (if (G0 3) = 1 then
                        some ((G0 2) - 3600)
                      else
                        some (-1) : Option Int32).bind (fun u99 =>
                      if u98 = u99 then
                        (fn_X6_value v 10).bind (fun u102 =>
                        if u102 = u54.1 then
                          (fn_X6_value v 11).bind (fun u104 =>
                          if u104 = (G0 8) then
                            (fn_X6_value v 12).bind (fun u106 =>
                            if u106 = (G0 7) then
                              (fn_X6_value v 13).bind (fun u108 =>
                              if u108 = (G0 5) then
                                (if (G0 2) = 0 then
                                  some FP.dconst1
                                else
                                  if zn64 (FP.ddiv (FP.i2d ((G0 2) - (G0 6))) (FP.i2d (G0 2))) = true then
                                  some (FP.ddiv (FP.i2d ((G0 2) - (G0 6))) (FP.i2d (G0 2)))
                                  else none : Option UInt64).bind (fun u110 =>
                                (f_X6_sounding v).bind (fun u112 =>
                                if (Op.cmpValue (FP.dcmp u112 u110) CmpOp.l) = 0 then
                                  (fa_L_elementOf v (G0 0) 0).bind (fun u114 =>
                                  if u114 = (-2000001) then
                                    (fa_L_fillerOf v (G0 1) 0).bind (fun u116 =>
                                    if u116 = (-2000001) then
                                      (fa_L_entryOf v (G0 8) 0).bind (fun u118 =>
                                      if u118 = (-2000001) then
                                        (fa_L_backOf v (-1)).bind (fun u120 =>
                                        if u120 = (-2000001) then
                                          some true
                                        else
                                          none)
                                      else
                                        none)
                                    else
                                      none)
                                  else
                                    none)
                                else
                                  none))
                              else
                                none)
                            else
                              none)
                          else
                            none)
                        else
                          none)
                      else
                        none))
                    else
                      none))
                  else
                    none)
                else
                  none)
              else
                none))
            else
              none)))))
        else
          none)
      else
        none)
    else
      none)
  else
    none))
set_option maxHeartbeats 4000000 in
set_option maxRecDepth 100000 in
theorem c_L_isSo (l : Launch) (hst9 : l.stackTraces = false) (g : zG) (b0 : Nat) (b1 : Nat) (b2 : Nat) (b3 : Nat) (a : Nat → Nat) (G0 : FF) (G1 : FF) (G2 : FF) (G3 : FF) (v : CV) (r : Bool) (hf : f_L_isSo G0 G1 G2 G3 v = some r) : zMB zNF zNM l yL_isSo (zw yL_isSo cL_isSo 13 (some .boolean)) ({ frames := 8, cells := 4, slots := 24, locals := 152 } : Room) g [.ref (a 0), .ref b0, .ref b1, .ref b2, .ref b3] ([(b0, .inl (g.2.1, 9, .inl G0))] ++ [(b1, .inl (g.2.1, 30, .inl G1))] ++ [(b2, .inl (g.2.1, 15, .inl G2))] ++ [(b3, .inl (g.2.1, 63, .inl G3))] ++ zX6 g a v) (zb r) ([(b0, .inl (g.2.1, 9, .inl G0))] ++ [(b1, .inl (g.2.1, 30, .inl G1))] ++ [(b2, .inl (g.2.1, 15, .inl G2))] ++ [(b3, .inl (g.2.1, 63, .inl G3))] ++ zX6 g a v) 4 24 := by
  intro sz
  refine Met.ofW (cc := cL_isSo) (maxL := 13) (ret := (some .boolean)) (by decide) rfl ?_
  intro p e s m args below meth c s₁ B hml hv
  obtain ⟨rfl, ⟨⟨hsz, hP, hK, hD0⟩, hKx, hZs⟩, hNc⟩ := hv
  have hx := B.exec
  have hb := B.bytes
  have hr0 := B.returns
  have hts := atoms_spec (ws := (zw yL_isSo cL_isSo 13 (some .boolean))) B.pre
  have hw0 : ∀ w ∈ zW, w.before ([.ref (a 0), .ref b0, .ref b1, .ref b2, .ref b3] : List Value).toArray s = true := fun w h => hts w (List.mem_cons_of_mem _ h)
  have hown : s.vm.findClass RL = some m.cls := findClass_of_methodNamed B.named
  have hlocks := B.notSynchronized
  subst hsz
  have hD := hD0.self (sz := s.heap.size)
  generalize hAe : va_A ([(b0, .inl (g.2.1, 9, .inl G0))] ++ [(b1, .inl (g.2.1, 30, .inl G1))] ++ [(b2, .inl (g.2.1, 15, .inl G2))] ++ [(b3, .inl (g.2.1, 63, .inl G3))] ++ zX6 g a v) s.heap.size = A at hD hZs ⊢
  have hA : ∀ q : Nat, s.heap.size ≤ q → A q := fun q h => by rw [← hAe]; exact Or.inr h
  have hS : va_S A s.heap s.heap [] := va_S.rf
  have lp65 : ∀ (G0 : FF) (G1 : FF) (G2 : FF) (G3 : FF) (v : CV) (i5 : Int32), ∀ (n : Nat) (x : Int32 × Int32 × Int32) (rr : Int32 × Int32 × Int32), zloop (s_L_isSo_65 G0 G1 G2 G3 v i5) n x = some rr → (∀ (H : Heap) (locs : List Loc), va_P g.1 vwCl ([(b0, .inl (g.2.1, 9, .inl G0))] ++ [(b1, .inl (g.2.1, 30, .inl G1))] ++ [(b2, .inl (g.2.1, 15, .inl G2))] ++ [(b3, .inl (g.2.1, 63, .inl G3))] ++ zX6 g a v) H → va_D A ([(b0, .inl (g.2.1, 9, .inl G0))] ++ [(b1, .inl (g.2.1, 30, .inl G1))] ++ [(b2, .inl (g.2.1, 15, .inl G2))] ++ [(b3, .inl (g.2.1, 63, .inl G3))] ++ zX6 g a v) → va_S A s.heap H locs → ∀ ls : Array Slot, lv_has ls 13 [(0, .ref (a 0)), (1, .ref b0), (2, .ref b1), (3, .ref b2), (4, .ref b3), (5, .int i5), (6, .int rr.1), (7, .int rr.2.1)] → W p l e (headSpec (zw yL_isSo cL_isSo 13 (some .boolean)) ({ frames := 8, cells := 4, slots := 24, locals := 152 } : Room)).room s m ([.ref (a 0), .ref b0, .ref b1, .ref b2, .ref b3] : List Value).toArray below meth c H locs 0 0 (MQ below (va_Qi (fun (x : Int32) (_ : Unit) => x = zb r) (fun _ => zEnd g A ([(b0, .inl (g.2.1, 9, .inl G0))] ++ [(b1, .inl (g.2.1, 30, .inl G1))] ++ [(b2, .inl (g.2.1, 15, .inl G2))] ++ [(b3, .inl (g.2.1, 63, .inl G3))] ++ zX6 g a v)) A) ([.ref (a 0), .ref b0, .ref b1, .ref b2, .ref b3] : List Value).toArray s 4 24 A) (F0 m 335 ls [])) → ∀ (H : Heap) (locs : List Loc), va_P g.1 vwCl ([(b0, .inl (g.2.1, 9, .inl G0))] ++ [(b1, .inl (g.2.1, 30, .inl G1))] ++ [(b2, .inl (g.2.1, 15, .inl G2))] ++ [(b3, .inl (g.2.1, 63, .inl G3))] ++ zX6 g a v) H → va_D A ([(b0, .inl (g.2.1, 9, .inl G0))] ++ [(b1, .inl (g.2.1, 30, .inl G1))] ++ [(b2, .inl (g.2.1, 15, .inl G2))] ++ [(b3, .inl (g.2.1, 63, .inl G3))] ++ zX6 g a v) → va_S A s.heap H locs → ∀ ls : Array Slot, lv_has ls 13 [(0, .ref (a 0)), (1, .ref b0), (2, .ref b1), (3, .ref b2), (4, .ref b3), (5, .int i5), (6, .int x.1), (7, .int x.2.1), (8, .int x.2.2)] → W p l e (headSpec (zw yL_isSo cL_isSo 13 (some .boolean)) ({ frames := 8, cells := 4, slots := 24, locals := 152 } : Room)).room s m ([.ref (a 0), .ref b0, .ref b1, .ref b2, .ref b3] : List Value).toArray below meth c H locs 0 0 (MQ below (va_Qi (fun (x : Int32) (_ : Unit) => x = zb r) (fun _ => zEnd g A ([(b0, .inl (g.2.1, 9, .inl G0))] ++ [(b1, .inl (g.2.1, 30, .inl G1))] ++ [(b2, .inl (g.2.1, 15, .inl G2))] ++ [(b3, .inl (g.2.1, 63, .inl G3))] ++ zX6 g a v)) A) ([.ref (a 0), .ref b0, .ref b1, .ref b2, .ref b3] : List Value).toArray s 4 24 A) (F0 m 65 ls []) := by
    intro G0 G1 G2 G3 v i5
    refine zloop_ind ?_
    intro x y rr hf ih hr hQ H locs hP hD hS ls hl
    unfold s_L_isSo_65 at hf
    refine lv_iload hx hb dL_isSo_65 (lv_at hl 8 rfl) ?_
    refine lv_aload_n hx hb dL_isSo_67 rfl (lv_at hl 1 rfl) ?_
    refine lv_iconst (v := 0) hx hb dL_isSo_68 (by decide) ?_
    refine zald (D := g.1) (f := G0) (k := 0) hx hb hK.1 hP 0 0 rfl rfl (zin_vp (i := 0) (n := 9) rfl) rfl dL_isSo_69 ?_
    refine lv_icmp_ge (tgt := 335) hx hb dL_isSo_70 (by decide) (fun c10 => ?_) (fun c10 => ?_)
    · have hf := oi hf c10
      have hR : (x.1, x.2.1, x.2.2) = rr := hr _ (Option.some.inj hf).symm
      subst hR
      exact hQ _ _ hP hD hS _ (lv_sub hl [0, 1, 2, 3, 4, 5, 6, 7] rfl)
    · have hf := oe hf c10
      refine lv_iload hx hb dL_isSo_73 (lv_at hl 7 rfl) ?_
      refine lv_if_eq (tgt := 335) hx hb dL_isSo_75 (by decide) (fun c11 => ?_) (fun c11 => ?_)
      · have hf := oi hf c11
        have hR : (x.1, x.2.1, x.2.2) = rr := hr _ (Option.some.inj hf).symm
        subst hR
        exact hQ _ _ hP hD hS _ (lv_sub hl [0, 1, 2, 3, 4, 5, 6, 7] rfl)
      · have hf := oe hf c11
        refine lv_aload_n hx hb dL_isSo_78 rfl (lv_at hl 2 rfl) ?_
        refine lv_iconst (v := 5) hx hb dL_isSo_79 (by decide) ?_
        refine lv_iload hx hb dL_isSo_80 (lv_at hl 8 rfl) ?_
        refine lv_imul hx hb dL_isSo_82 ?_
        refine lv_iconst (v := 4) hx hb dL_isSo_83 (by decide) ?_
        refine lv_iadd hx hb dL_isSo_84 ?_
        obtain ⟨h12, hf⟩ := og hf
        refine zald (D := g.1) (f := G1) (k := ((5 * x.2.2) + 4).toNatClampNeg) hx hb hK.1 hP 1 0 rfl rfl (zin_vp h12) rfl dL_isSo_85 ?_
        refine lv_istore (lv' := [(9, .int (G1 ((5 * x.2.2) + 4).toNatClampNeg)), (0, .ref (a 0)), (1, .ref b0), (2, .ref b1), (3, .ref b2), (4, .ref b3), (5, .int i5), (6, .int x.1), (7, .int x.2.1), (8, .int x.2.2)]) hx hb dL_isSo_86 hl (by decide) rfl (fun ls hl => ?_)
        refine lv_aload_n hx hb dL_isSo_88 rfl (lv_at hl 3 rfl) ?_
        refine lv_iconst (v := 5) hx hb dL_isSo_89 (by decide) ?_
        refine lv_iload hx hb dL_isSo_90 (lv_at hl 9 rfl) ?_
        refine lv_imul hx hb dL_isSo_92 ?_
        refine lv_iconst (v := 1) hx hb dL_isSo_93 (by decide) ?_
        refine lv_iadd hx hb dL_isSo_94 ?_
        obtain ⟨h13, hf⟩ := og hf
        refine zald (D := g.1) (f := G1) (k := ((5 * x.2.2) + 1).toNatClampNeg) hx hb hK.1 hP 1 0 rfl rfl (zin_vp h13) rfl dL_isSo_95 ?_
        obtain ⟨u14, hu14, hf⟩ := ob hf
        have j15 : ∀ (H : Heap) (locs : List Loc), va_P g.1 vwCl ([(b0, .inl (g.2.1, 9, .inl G0))] ++ [(b1, .inl (g.2.1, 30, .inl G1))] ++ [(b2, .inl (g.2.1, 15, .inl G2))] ++ [(b3, .inl (g.2.1, 63, .inl G3))] ++ zX6 g a v) H → va_D A ([(b0, .inl (g.2.1, 9, .inl G0))] ++ [(b1, .inl (g.2.1, 30, .inl G1))] ++ [(b2, .inl (g.2.1, 15, .inl G2))] ++ [(b3, .inl (g.2.1, 63, .inl G3))] ++ zX6 g a v) → va_S A s.heap H locs → W p l e (headSpec (zw yL_isSo cL_isSo 13 (some .boolean)) ({ frames := 8, cells := 4, slots := 24, locals := 152 } : Room)).room s m ([.ref (a 0), .ref b0, .ref b1, .ref b2, .ref b3] : List Value).toArray below meth c H locs 0 0 (MQ below (va_Qi (fun (x : Int32) (_ : Unit) => x = zb r) (fun _ => zEnd g A ([(b0, .inl (g.2.1, 9, .inl G0))] ++ [(b1, .inl (g.2.1, 30, .inl G1))] ++ [(b2, .inl (g.2.1, 15, .inl G2))] ++ [(b3, .inl (g.2.1, 63, .inl G3))] ++ zX6 g a v)) A) ([.ref (a 0), .ref b0, .ref b1, .ref b2, .ref b3] : List Value).toArray s 4 24 A) (F0 m 119 ls [.int u14]) := by
          intro H locs hP hD hS
          refine lv_istore (lv' := [(10, .int u14), (9, .int (G1 ((5 * x.2.2) + 4).toNatClampNeg)), (0, .ref (a 0)), (1, .ref b0), (2, .ref b1), (3, .ref b2), (4, .ref b3), (5, .int i5), (6, .int x.1), (7, .int x.2.1), (8, .int x.2.2)]) hx hb dL_isSo_119 hl (by decide) rfl (fun ls hl => ?_)
          refine lv_iload hx hb dL_isSo_121 (lv_at hl 0 rfl) ?_
          refine lv_iload hx hb dL_isSo_123 (lv_at hl 8 rfl) ?_
          obtain ⟨u16, hu16, hf⟩ := ob hf
          have j17 : ∀ (H : Heap) (locs : List Loc), va_P g.1 vwCl ([(b0, .inl (g.2.1, 9, .inl G0))] ++ [(b1, .inl (g.2.1, 30, .inl G1))] ++ [(b2, .inl (g.2.1, 15, .inl G2))] ++ [(b3, .inl (g.2.1, 63, .inl G3))] ++ zX6 g a v) H → va_D A ([(b0, .inl (g.2.1, 9, .inl G0))] ++ [(b1, .inl (g.2.1, 30, .inl G1))] ++ [(b2, .inl (g.2.1, 15, .inl G2))] ++ [(b3, .inl (g.2.1, 63, .inl G3))] ++ zX6 g a v) → va_S A s.heap H locs → W p l e (headSpec (zw yL_isSo cL_isSo 13 (some .boolean)) ({ frames := 8, cells := 4, slots := 24, locals := 152 } : Room)).room s m ([.ref (a 0), .ref b0, .ref b1, .ref b2, .ref b3] : List Value).toArray below meth c H locs 0 0 (MQ below (va_Qi (fun (x : Int32) (_ : Unit) => x = zb r) (fun _ => zEnd g A ([(b0, .inl (g.2.1, 9, .inl G0))] ++ [(b1, .inl (g.2.1, 30, .inl G1))] ++ [(b2, .inl (g.2.1, 15, .inl G2))] ++ [(b3, .inl (g.2.1, 63, .inl G3))] ++ zX6 g a v)) A) ([.ref (a 0), .ref b0, .ref b1, .ref b2, .ref b3] : List Value).toArray s 4 24 A) (F0 m 135 ls [.int u16]) := by
            intro H locs hP hD hS
            refine lv_istore (lv' := [(6, .int u16), (10, .int u14), (9, .int (G1 ((5 * x.2.2) + 4).toNatClampNeg)), (0, .ref (a 0)), (1, .ref b0), (2, .ref b1), (3, .ref b2), (4, .ref b3), (5, .int i5), (7, .int x.2.1), (8, .int x.2.2)]) hx hb dL_isSo_135 hl (by decide) rfl (fun ls hl => ?_)
            refine lv_aload_n hx hb dL_isSo_137 rfl (lv_at hl 4 rfl) ?_
            refine lv_aload_n hx hb dL_isSo_138 rfl (lv_at hl 5 rfl) ?_
            refine lv_iload hx hb dL_isSo_139 (lv_at hl 10 rfl) ?_
            refine lv_iconst (v := 1) hx hb dL_isSo_141 (by decide) ?_
            refine lv_iadd hx hb dL_isSo_142 ?_
            obtain ⟨u18, hu18, hf⟩ := ob hf
            refine zk_iR (va_runS (As := [.ref b0, .ref b1, .int (x.2.2 + 1)]) (rest := []) ⟨hx, hb, hml, hown, hts⟩ (c_L_fixed l g b0 b1 G0 G1 (x.2.2 + 1) _ hu18 _) (zcS hw0 zm3_112 zm3_114 zm1_0 zm3_113 hd_L_fixed rfl rfl ⟨Nat.le_of_ble_eq_true rfl, Nat.le_of_ble_eq_true rfl⟩) ⟨zblind, zpre hK hP hD [0, 1] rfl rfl⟩ rfl rfl hl.1 rfl (lv_room (Nat.le_of_ble_eq_true rfl)) dL_isSo_143 ⟨Nat.zero_le _, Nat.zero_le _⟩) hP hD hS hA [0, 1] rfl (fun H locs hP hD hS => ?_)
            refine lv_istore (lv' := [(11, .int u18), (6, .int u16), (10, .int u14), (9, .int (G1 ((5 * x.2.2) + 4).toNatClampNeg)), (0, .ref (a 0)), (1, .ref b0), (2, .ref b1), (3, .ref b2), (4, .ref b3), (5, .int i5), (7, .int x.2.1), (8, .int x.2.2)]) hx hb dL_isSo_146 hl (by decide) rfl (fun ls hl => ?_)
            refine lv_aload_n hx hb dL_isSo_148 rfl (lv_at hl 6 rfl) ?_
            refine lv_iconst (v := 5) hx hb dL_isSo_149 (by decide) ?_
            refine lv_iload hx hb dL_isSo_150 (lv_at hl 11 rfl) ?_
            refine lv_imul hx hb dL_isSo_152 ?_
            refine lv_iconst (v := 3) hx hb dL_isSo_153 (by decide) ?_
            refine lv_iadd hx hb dL_isSo_154 ?_
            obtain ⟨h19, hf⟩ := og hf
            refine zald (D := g.1) (f := G1) (k := ((5 * x.2.2) + 3).toNatClampNeg) hx hb hK.1 hP 1 0 rfl rfl (zin_vp h19) rfl dL_isSo_155 ?_
            obtain ⟨u20, hu20, hf⟩ := ob hf
            have j21 : ∀ (H : Heap) (locs : List Loc), va_P g.1 vwCl ([(b0, .inl (g.2.1, 9, .inl G0))] ++ [(b1, .inl (g.2.1, 30, .inl G1))] ++ [(b2, .inl (g.2.1, 15, .inl G2))] ++ [(b3, .inl (g.2.1, 63, .inl G3))] ++ zX6 g a v) H → va_D A ([(b0, .inl (g.2.1, 9, .inl G0))] ++ [(b1, .inl (g.2.1, 30, .inl G1))] ++ [(b2, .inl (g.2.1, 15, .inl G2))] ++ [(b3, .inl (g.2.1, 63, .inl G3))] ++ zX6 g a v) → va_S A s.heap H locs → W p l e (headSpec (zw yL_isSo cL_isSo 13 (some .boolean)) ({ frames := 8, cells := 4, slots := 24, locals := 152 } : Room)).room s m ([.ref (a 0), .ref b0, .ref b1, .ref b2, .ref b3] : List Value).toArray below meth c H locs 0 0 (MQ below (va_Qi (fun (x : Int32) (_ : Unit) => x = zb r) (fun _ => zEnd g A ([(b0, .inl (g.2.1, 9, .inl G0))] ++ [(b1, .inl (g.2.1, 30, .inl G1))] ++ [(b2, .inl (g.2.1, 15, .inl G2))] ++ [(b3, .inl (g.2.1, 63, .inl G3))] ++ zX6 g a v)) A) ([.ref (a 0), .ref b0, .ref b1, .ref b2, .ref b3] : List Value).toArray s 4 24 A) (F0 m 181 ls [.int u20]) := by
              intro H locs hP hD hS
              refine lv_istore (lv' := [(12, .int u20), (11, .int u18), (6, .int u16), (10, .int u14), (9, .int (G1 ((5 * x.2.2) + 4).toNatClampNeg)), (0, .ref (a 0)), (1, .ref b0), (2, .ref b1), (3, .ref b2), (4, .ref b3), (5, .int i5), (7, .int x.2.1), (8, .int x.2.2)]) hx hb dL_isSo_181 hl (by decide) rfl (fun ls hl => ?_)
              refine lv_aload_n hx hb dL_isSo_183 rfl (lv_at hl 5 rfl) ?_
              refine lv_iload hx hb dL_isSo_184 (lv_at hl 12 rfl) ?_
              refine lv_iconst (v := 0) hx hb dL_isSo_186 (by decide) ?_
              obtain ⟨u22, hu22, hf⟩ := ob hf
              refine zkQ_i (zrun_w (vx_runSX (As := [.ref (a 0), .int x.2.2, .int 0]) (rest := []) ⟨hx, hb, hml, hown, hts⟩ (co_L_elementOf l g a v x.2.2 0 _ hu22 _) (zcSX hw0 zm3_156 zmH3_158 zm1_0 zm3_157 hd_L_elementOf rfl rfl ⟨Nat.le_of_ble_eq_true rfl, Nat.le_of_ble_eq_true rfl⟩) ⟨zblind, zpreQ hK hP hD⟩ rfl rfl hl.1 rfl (lv_room (Nat.le_of_ble_eq_true rfl)) dL_isSo_187 ⟨Nat.le_of_ble_eq_true rfl, Nat.le_of_ble_eq_true rfl⟩)) hP hD hS hA rfl (fun H locs hP hD hS => ?_)
              have hP : va_P g.1 vwCl ([(b0, .inl (g.2.1, 9, .inl G0))] ++ [(b1, .inl (g.2.1, 30, .inl G1))] ++ [(b2, .inl (g.2.1, 15, .inl G2))] ++ [(b3, .inl (g.2.1, 63, .inl G3))] ++ zX6 g a v) H := hP
              have hD : va_D A ([(b0, .inl (g.2.1, 9, .inl G0))] ++ [(b1, .inl (g.2.1, 30, .inl G1))] ++ [(b2, .inl (g.2.1, 15, .inl G2))] ++ [(b3, .inl (g.2.1, 63, .inl G3))] ++ zX6 g a v) := hD
              refine lv_aload_n hx hb dL_isSo_190 rfl (lv_at hl 7 rfl) ?_
              refine lv_iconst (v := 5) hx hb dL_isSo_191 (by decide) ?_
              refine lv_iload hx hb dL_isSo_192 (lv_at hl 12 rfl) ?_
              refine lv_imul hx hb dL_isSo_194 ?_
              obtain ⟨h23, hf⟩ := og hf
              refine zald (D := g.1) (f := G1) (k := (5 * x.2.2).toNatClampNeg) hx hb hK.1 hP 1 0 rfl rfl (zin_vp h23) rfl dL_isSo_195 ?_
              refine lv_icmp_ne (tgt := 326) hx hb dL_isSo_196 (by decide) (fun c24 => ?_) (fun c24 => ?_)
              · have hf := oe hf c24
                exact absurd hf (by simp)
              · have hf := oi hf c24
                refine lv_aload_n hx hb dL_isSo_199 rfl (lv_at hl 5 rfl) ?_
                refine lv_iload hx hb dL_isSo_200 (lv_at hl 12 rfl) ?_
                refine lv_iconst (v := 1) hx hb dL_isSo_202 (by decide) ?_
                obtain ⟨u25, hu25, hf⟩ := ob hf
                refine zkQ_i (zrun_w (vx_runSX (As := [.ref (a 0), .int x.2.2, .int 1]) (rest := []) ⟨hx, hb, hml, hown, hts⟩ (co_L_elementOf l g a v x.2.2 1 _ hu25 _) (zcSX hw0 zm3_156 zmH3_158 zm1_0 zm3_157 hd_L_elementOf rfl rfl ⟨Nat.le_of_ble_eq_true rfl, Nat.le_of_ble_eq_true rfl⟩) ⟨zblind, zpreQ hK hP hD⟩ rfl rfl hl.1 rfl (lv_room (Nat.le_of_ble_eq_true rfl)) dL_isSo_203 ⟨Nat.le_of_ble_eq_true rfl, Nat.le_of_ble_eq_true rfl⟩)) hP hD hS hA rfl (fun H locs hP hD hS => ?_)
                have hP : va_P g.1 vwCl ([(b0, .inl (g.2.1, 9, .inl G0))] ++ [(b1, .inl (g.2.1, 30, .inl G1))] ++ [(b2, .inl (g.2.1, 15, .inl G2))] ++ [(b3, .inl (g.2.1, 63, .inl G3))] ++ zX6 g a v) H := hP
                have hD : va_D A ([(b0, .inl (g.2.1, 9, .inl G0))] ++ [(b1, .inl (g.2.1, 30, .inl G1))] ++ [(b2, .inl (g.2.1, 15, .inl G2))] ++ [(b3, .inl (g.2.1, 63, .inl G3))] ++ zX6 g a v) := hD
                refine lv_aload_n hx hb dL_isSo_206 rfl (lv_at hl 7 rfl) ?_
                refine lv_iconst (v := 5) hx hb dL_isSo_207 (by decide) ?_
                refine lv_iload hx hb dL_isSo_208 (lv_at hl 12 rfl) ?_
                refine lv_imul hx hb dL_isSo_210 ?_
                refine lv_iconst (v := 1) hx hb dL_isSo_211 (by decide) ?_
                refine lv_iadd hx hb dL_isSo_212 ?_
                obtain ⟨h26, hf⟩ := og hf
                refine zald (D := g.1) (f := G1) (k := ((5 * x.2.2) + 1).toNatClampNeg) hx hb hK.1 hP 1 0 rfl rfl (zin_vp h26) rfl dL_isSo_213 ?_
                refine lv_icmp_ne (tgt := 326) hx hb dL_isSo_214 (by decide) (fun c27 => ?_) (fun c27 => ?_)
                · have hf := oe hf c27
                  exact absurd hf (by simp)
                · have hf := oi hf c27
                  refine lv_aload_n hx hb dL_isSo_217 rfl (lv_at hl 5 rfl) ?_
                  refine lv_iload hx hb dL_isSo_218 (lv_at hl 12 rfl) ?_
                  refine lv_iconst (v := 2) hx hb dL_isSo_220 (by decide) ?_
                  obtain ⟨u28, hu28, hf⟩ := ob hf
                  refine zkQ_i (zrun_w (vx_runSX (As := [.ref (a 0), .int x.2.2, .int 2]) (rest := []) ⟨hx, hb, hml, hown, hts⟩ (co_L_elementOf l g a v x.2.2 2 _ hu28 _) (zcSX hw0 zm3_156 zmH3_158 zm1_0 zm3_157 hd_L_elementOf rfl rfl ⟨Nat.le_of_ble_eq_true rfl, Nat.le_of_ble_eq_true rfl⟩) ⟨zblind, zpreQ hK hP hD⟩ rfl rfl hl.1 rfl (lv_room (Nat.le_of_ble_eq_true rfl)) dL_isSo_221 ⟨Nat.le_of_ble_eq_true rfl, Nat.le_of_ble_eq_true rfl⟩)) hP hD hS hA rfl (fun H locs hP hD hS => ?_)
                  have hP : va_P g.1 vwCl ([(b0, .inl (g.2.1, 9, .inl G0))] ++ [(b1, .inl (g.2.1, 30, .inl G1))] ++ [(b2, .inl (g.2.1, 15, .inl G2))] ++ [(b3, .inl (g.2.1, 63, .inl G3))] ++ zX6 g a v) H := hP
                  have hD : va_D A ([(b0, .inl (g.2.1, 9, .inl G0))] ++ [(b1, .inl (g.2.1, 30, .inl G1))] ++ [(b2, .inl (g.2.1, 15, .inl G2))] ++ [(b3, .inl (g.2.1, 63, .inl G3))] ++ zX6 g a v) := hD
                  refine lv_aload_n hx hb dL_isSo_224 rfl (lv_at hl 7 rfl) ?_
                  refine lv_iconst (v := 5) hx hb dL_isSo_225 (by decide) ?_
                  refine lv_iload hx hb dL_isSo_226 (lv_at hl 12 rfl) ?_
                  refine lv_imul hx hb dL_isSo_228 ?_
                  refine lv_iconst (v := 2) hx hb dL_isSo_229 (by decide) ?_
                  refine lv_iadd hx hb dL_isSo_230 ?_
                  obtain ⟨h29, hf⟩ := og hf
                  refine zald (D := g.1) (f := G1) (k := ((5 * x.2.2) + 2).toNatClampNeg) hx hb hK.1 hP 1 0 rfl rfl (zin_vp h29) rfl dL_isSo_231 ?_
                  refine lv_icmp_ne (tgt := 326) hx hb dL_isSo_232 (by decide) (fun c30 => ?_) (fun c30 => ?_)
                  · have hf := oe hf c30
                    exact absurd hf (by simp)
                  · have hf := oi hf c30
                    refine lv_aload_n hx hb dL_isSo_235 rfl (lv_at hl 5 rfl) ?_
                    refine lv_iload hx hb dL_isSo_236 (lv_at hl 12 rfl) ?_
                    refine lv_iconst (v := 3) hx hb dL_isSo_238 (by decide) ?_
                    obtain ⟨u31, hu31, hf⟩ := ob hf
                    refine zkQ_i (zrun_w (vx_runSX (As := [.ref (a 0), .int x.2.2, .int 3]) (rest := []) ⟨hx, hb, hml, hown, hts⟩ (co_L_elementOf l g a v x.2.2 3 _ hu31 _) (zcSX hw0 zm3_156 zmH3_158 zm1_0 zm3_157 hd_L_elementOf rfl rfl ⟨Nat.le_of_ble_eq_true rfl, Nat.le_of_ble_eq_true rfl⟩) ⟨zblind, zpreQ hK hP hD⟩ rfl rfl hl.1 rfl (lv_room (Nat.le_of_ble_eq_true rfl)) dL_isSo_239 ⟨Nat.le_of_ble_eq_true rfl, Nat.le_of_ble_eq_true rfl⟩)) hP hD hS hA rfl (fun H locs hP hD hS => ?_)
                    have hP : va_P g.1 vwCl ([(b0, .inl (g.2.1, 9, .inl G0))] ++ [(b1, .inl (g.2.1, 30, .inl G1))] ++ [(b2, .inl (g.2.1, 15, .inl G2))] ++ [(b3, .inl (g.2.1, 63, .inl G3))] ++ zX6 g a v) H := hP
                    have hD : va_D A ([(b0, .inl (g.2.1, 9, .inl G0))] ++ [(b1, .inl (g.2.1, 30, .inl G1))] ++ [(b2, .inl (g.2.1, 15, .inl G2))] ++ [(b3, .inl (g.2.1, 63, .inl G3))] ++ zX6 g a v) := hD
                    refine lv_aload_n hx hb dL_isSo_242 rfl (lv_at hl 7 rfl) ?_
                    refine lv_iconst (v := 5) hx hb dL_isSo_243 (by decide) ?_
                    refine lv_iload hx hb dL_isSo_244 (lv_at hl 12 rfl) ?_
                    refine lv_imul hx hb dL_isSo_246 ?_
                    refine lv_iconst (v := 3) hx hb dL_isSo_247 (by decide) ?_
                    refine lv_iadd hx hb dL_isSo_248 ?_
                    obtain ⟨h32, hf⟩ := og hf
                    refine zald (D := g.1) (f := G1) (k := ((5 * x.2.2) + 3).toNatClampNeg) hx hb hK.1 hP 1 0 rfl rfl (zin_vp h32) rfl dL_isSo_249 ?_
                    refine lv_icmp_ne (tgt := 326) hx hb dL_isSo_250 (by decide) (fun c33 => ?_) (fun c33 => ?_)
                    · have hf := oe hf c33
                      exact absurd hf (by simp)
                    · have hf := oi hf c33
                      refine lv_aload_n hx hb dL_isSo_253 rfl (lv_at hl 5 rfl) ?_
                      refine lv_iload hx hb dL_isSo_254 (lv_at hl 12 rfl) ?_
                      refine lv_iconst (v := 4) hx hb dL_isSo_256 (by decide) ?_
                      obtain ⟨u34, hu34, hf⟩ := ob hf
                      refine zkQ_i (zrun_w (vx_runSX (As := [.ref (a 0), .int x.2.2, .int 4]) (rest := []) ⟨hx, hb, hml, hown, hts⟩ (co_L_elementOf l g a v x.2.2 4 _ hu34 _) (zcSX hw0 zm3_156 zmH3_158 zm1_0 zm3_157 hd_L_elementOf rfl rfl ⟨Nat.le_of_ble_eq_true rfl, Nat.le_of_ble_eq_true rfl⟩) ⟨zblind, zpreQ hK hP hD⟩ rfl rfl hl.1 rfl (lv_room (Nat.le_of_ble_eq_true rfl)) dL_isSo_257 ⟨Nat.le_of_ble_eq_true rfl, Nat.le_of_ble_eq_true rfl⟩)) hP hD hS hA rfl (fun H locs hP hD hS => ?_)
                      have hP : va_P g.1 vwCl ([(b0, .inl (g.2.1, 9, .inl G0))] ++ [(b1, .inl (g.2.1, 30, .inl G1))] ++ [(b2, .inl (g.2.1, 15, .inl G2))] ++ [(b3, .inl (g.2.1, 63, .inl G3))] ++ zX6 g a v) H := hP
                      have hD : va_D A ([(b0, .inl (g.2.1, 9, .inl G0))] ++ [(b1, .inl (g.2.1, 30, .inl G1))] ++ [(b2, .inl (g.2.1, 15, .inl G2))] ++ [(b3, .inl (g.2.1, 63, .inl G3))] ++ zX6 g a v) := hD
                      refine lv_iload hx hb dL_isSo_260 (lv_at hl 4 rfl) ?_
                      refine lv_icmp_ne (tgt := 326) hx hb dL_isSo_262 (by decide) (fun c35 => ?_) (fun c35 => ?_)
                      · have hf := oe hf c35
                        exact absurd hf (by simp)
                      · have hf := oi hf c35
                        refine lv_aload_n hx hb dL_isSo_265 rfl (lv_at hl 5 rfl) ?_
                        refine lv_iload hx hb dL_isSo_266 (lv_at hl 12 rfl) ?_
                        refine lv_iconst (v := 5) hx hb dL_isSo_268 (by decide) ?_
                        obtain ⟨u36, hu36, hf⟩ := ob hf
                        refine zkQ_i (zrun_w (vx_runSX (As := [.ref (a 0), .int x.2.2, .int 5]) (rest := []) ⟨hx, hb, hml, hown, hts⟩ (co_L_elementOf l g a v x.2.2 5 _ hu36 _) (zcSX hw0 zm3_156 zmH3_158 zm1_0 zm3_157 hd_L_elementOf rfl rfl ⟨Nat.le_of_ble_eq_true rfl, Nat.le_of_ble_eq_true rfl⟩) ⟨zblind, zpreQ hK hP hD⟩ rfl rfl hl.1 rfl (lv_room (Nat.le_of_ble_eq_true rfl)) dL_isSo_269 ⟨Nat.le_of_ble_eq_true rfl, Nat.le_of_ble_eq_true rfl⟩)) hP hD hS hA rfl (fun H locs hP hD hS => ?_)
                        have hP : va_P g.1 vwCl ([(b0, .inl (g.2.1, 9, .inl G0))] ++ [(b1, .inl (g.2.1, 30, .inl G1))] ++ [(b2, .inl (g.2.1, 15, .inl G2))] ++ [(b3, .inl (g.2.1, 63, .inl G3))] ++ zX6 g a v) H := hP
                        have hD : va_D A ([(b0, .inl (g.2.1, 9, .inl G0))] ++ [(b1, .inl (g.2.1, 30, .inl G1))] ++ [(b2, .inl (g.2.1, 15, .inl G2))] ++ [(b3, .inl (g.2.1, 63, .inl G3))] ++ zX6 g a v) := hD
                        refine lv_iload hx hb dL_isSo_272 (lv_at hl 3 rfl) ?_
                        refine lv_icmp_ne (tgt := 326) hx hb dL_isSo_274 (by decide) (fun c37 => ?_) (fun c37 => ?_)
                        · have hf := oe hf c37
                          exact absurd hf (by simp)
                        · have hf := oi hf c37
                          refine lv_aload_n hx hb dL_isSo_277 rfl (lv_at hl 5 rfl) ?_
                          refine lv_iload hx hb dL_isSo_278 (lv_at hl 12 rfl) ?_
                          refine lv_bipush (v := 6) hx hb dL_isSo_280 (by decide) ?_
                          obtain ⟨u38, hu38, hf⟩ := ob hf
                          refine zkQ_i (zrun_w (vx_runSX (As := [.ref (a 0), .int x.2.2, .int 6]) (rest := []) ⟨hx, hb, hml, hown, hts⟩ (co_L_elementOf l g a v x.2.2 6 _ hu38 _) (zcSX hw0 zm3_156 zmH3_158 zm1_0 zm3_157 hd_L_elementOf rfl rfl ⟨Nat.le_of_ble_eq_true rfl, Nat.le_of_ble_eq_true rfl⟩) ⟨zblind, zpreQ hK hP hD⟩ rfl rfl hl.1 rfl (lv_room (Nat.le_of_ble_eq_true rfl)) dL_isSo_282 ⟨Nat.le_of_ble_eq_true rfl, Nat.le_of_ble_eq_true rfl⟩)) hP hD hS hA rfl (fun H locs hP hD hS => ?_)
                          have hP : va_P g.1 vwCl ([(b0, .inl (g.2.1, 9, .inl G0))] ++ [(b1, .inl (g.2.1, 30, .inl G1))] ++ [(b2, .inl (g.2.1, 15, .inl G2))] ++ [(b3, .inl (g.2.1, 63, .inl G3))] ++ zX6 g a v) H := hP
                          have hD : va_D A ([(b0, .inl (g.2.1, 9, .inl G0))] ++ [(b1, .inl (g.2.1, 30, .inl G1))] ++ [(b2, .inl (g.2.1, 15, .inl G2))] ++ [(b3, .inl (g.2.1, 63, .inl G3))] ++ zX6 g a v) := hD
                          refine lv_aload_n hx hb dL_isSo_285 rfl (lv_at hl 7 rfl) ?_
                          refine lv_iconst (v := 5) hx hb dL_isSo_286 (by decide) ?_
                          refine lv_iload hx hb dL_isSo_287 (lv_at hl 12 rfl) ?_
                          refine lv_imul hx hb dL_isSo_289 ?_
                          refine lv_iconst (v := 3) hx hb dL_isSo_290 (by decide) ?_
                          refine lv_iadd hx hb dL_isSo_291 ?_
                          obtain ⟨h39, hf⟩ := og hf
                          refine zald (D := g.1) (f := G1) (k := ((5 * x.2.2) + 3).toNatClampNeg) hx hb hK.1 hP 1 0 rfl rfl (zin_vp h39) rfl dL_isSo_292 ?_
                          obtain ⟨u40, hu40, hf⟩ := ob hf
                          have j41 : ∀ (H : Heap) (locs : List Loc), va_P g.1 vwCl ([(b0, .inl (g.2.1, 9, .inl G0))] ++ [(b1, .inl (g.2.1, 30, .inl G1))] ++ [(b2, .inl (g.2.1, 15, .inl G2))] ++ [(b3, .inl (g.2.1, 63, .inl G3))] ++ zX6 g a v) H → va_D A ([(b0, .inl (g.2.1, 9, .inl G0))] ++ [(b1, .inl (g.2.1, 30, .inl G1))] ++ [(b2, .inl (g.2.1, 15, .inl G2))] ++ [(b3, .inl (g.2.1, 63, .inl G3))] ++ zX6 g a v) → va_S A s.heap H locs → W p l e (headSpec (zw yL_isSo cL_isSo 13 (some .boolean)) ({ frames := 8, cells := 4, slots := 24, locals := 152 } : Room)).room s m ([.ref (a 0), .ref b0, .ref b1, .ref b2, .ref b3] : List Value).toArray below meth c H locs 0 0 (MQ below (va_Qi (fun (x : Int32) (_ : Unit) => x = zb r) (fun _ => zEnd g A ([(b0, .inl (g.2.1, 9, .inl G0))] ++ [(b1, .inl (g.2.1, 30, .inl G1))] ++ [(b2, .inl (g.2.1, 15, .inl G2))] ++ [(b3, .inl (g.2.1, 63, .inl G3))] ++ zX6 g a v)) A) ([.ref (a 0), .ref b0, .ref b1, .ref b2, .ref b3] : List Value).toArray s 4 24 A) (F0 m 308 ls [.int u40, .int u38]) := by
                            intro H locs hP hD hS
                            refine lv_icmp_ne (tgt := 326) hx hb dL_isSo_308 (by decide) (fun c42 => ?_) (fun c42 => ?_)
                            · have hf := oe hf c42
                              exact absurd hf (by simp)
                            · have hf := oi hf c42
                              refine lv_aload_n hx hb dL_isSo_311 rfl (lv_at hl 5 rfl) ?_
                              refine lv_iload hx hb dL_isSo_312 (lv_at hl 12 rfl) ?_
                              obtain ⟨u43, hu43, hf⟩ := ob hf
                              refine zkQ_i (zrun_w (vx_runSX (As := [.ref (a 0), .int x.2.2]) (rest := []) ⟨hx, hb, hml, hown, hts⟩ (co_L_backOf l g a v x.2.2 _ hu43 _) (zcSX hw0 zm3_173 zmH3_175 zm1_0 zm3_174 hd_L_backOf rfl rfl ⟨Nat.le_of_ble_eq_true rfl, Nat.le_of_ble_eq_true rfl⟩) ⟨zblind, zpreQ hK hP hD⟩ rfl rfl hl.1 rfl (lv_room (Nat.le_of_ble_eq_true rfl)) dL_isSo_314 ⟨Nat.le_of_ble_eq_true rfl, Nat.le_of_ble_eq_true rfl⟩)) hP hD hS hA rfl (fun H locs hP hD hS => ?_)
                              have hP : va_P g.1 vwCl ([(b0, .inl (g.2.1, 9, .inl G0))] ++ [(b1, .inl (g.2.1, 30, .inl G1))] ++ [(b2, .inl (g.2.1, 15, .inl G2))] ++ [(b3, .inl (g.2.1, 63, .inl G3))] ++ zX6 g a v) H := hP
                              have hD : va_D A ([(b0, .inl (g.2.1, 9, .inl G0))] ++ [(b1, .inl (g.2.1, 30, .inl G1))] ++ [(b2, .inl (g.2.1, 15, .inl G2))] ++ [(b3, .inl (g.2.1, 63, .inl G3))] ++ zX6 g a v) := hD
                              refine lv_iload hx hb dL_isSo_317 (lv_at hl 0 rfl) ?_
                              refine lv_icmp_ne (tgt := 326) hx hb dL_isSo_319 (by decide) (fun c44 => ?_) (fun c44 => ?_)
                              · have hf := oe hf c44
                                exact absurd hf (by simp)
                              · have hf := oi hf c44
                                refine lv_iconst (v := 1) hx hb dL_isSo_322 (by decide) ?_
                                refine lv_goto (tgt := 327) hx hb dL_isSo_323 (by decide) ?_
                                refine lv_istore (lv' := [(7, .int 1), (12, .int u20), (11, .int u18), (6, .int u16), (10, .int u14), (9, .int (G1 ((5 * x.2.2) + 4).toNatClampNeg)), (0, .ref (a 0)), (1, .ref b0), (2, .ref b1), (3, .ref b2), (4, .ref b3), (5, .int i5), (8, .int x.2.2)]) hx hb dL_isSo_327 hl (by decide) rfl (fun ls hl => ?_)
                                refine lv_iinc (v := (x.2.2 + 1)) (lv' := [(8, .int (x.2.2 + 1)), (7, .int 1), (12, .int u20), (11, .int u18), (6, .int u16), (10, .int u14), (9, .int (G1 ((5 * x.2.2) + 4).toNatClampNeg)), (0, .ref (a 0)), (1, .ref b0), (2, .ref b1), (3, .ref b2), (4, .ref b3), (5, .int i5)]) hx hb dL_isSo_329 hl (k := 12) rfl rfl (by decide) rfl (fun ls hl => ?_)
                                refine lv_goto (tgt := 65) hx hb dL_isSo_332 (by decide) ?_
                                exact ih (u16, 1, (x.2.2 + 1)) (Option.some.inj hf).symm hQ _ _ hP hD hS _ (lv_sub hl [7, 8, 9, 10, 11, 12, 4, 1, 0] rfl)
                          have hf := hu40
                          refine lv_if_ne (tgt := 307) hx hb dL_isSo_293 (by decide) (fun c45 => ?_) (fun c45 => ?_)
                          · have hf := oe hf c45
                            refine lv_iconst (v := 0) hx hb dL_isSo_307 (by decide) ?_
                            exact zeqi (Option.some.inj hf) (j41 _ _ hP hD hS)
                          · have hf := oi hf c45
                            refine lv_iload hx hb dL_isSo_296 (lv_at hl 12 rfl) ?_
                            refine lv_iload hx hb dL_isSo_298 (lv_at hl 10 rfl) ?_
                            refine lv_icmp_ge (tgt := 307) hx hb dL_isSo_300 (by decide) (fun c46 => ?_) (fun c46 => ?_)
                            · have hf := oi hf c46
                              refine lv_iconst (v := 0) hx hb dL_isSo_307 (by decide) ?_
                              exact zeqi (Option.some.inj hf) (j41 _ _ hP hD hS)
                            · have hf := oe hf c46
                              refine lv_iconst (v := 1) hx hb dL_isSo_303 (by decide) ?_
                              refine lv_goto (tgt := 308) hx hb dL_isSo_304 (by decide) ?_
                              exact zeqi (Option.some.inj hf) (j41 _ _ hP hD hS)
            have hf := hu20
            refine lv_if_ne (tgt := 178) hx hb dL_isSo_156 (by decide) (fun c47 => ?_) (fun c47 => ?_)
            · have hf := oe hf c47
              refine lv_sipush (v := (-10000)) hx hb dL_isSo_178 (by decide) ?_
              exact zeqi (Option.some.inj hf) (j21 _ _ hP hD hS)
            · have hf := oi hf c47
              refine lv_aload_n hx hb dL_isSo_159 rfl (lv_at hl 5 rfl) ?_
              refine lv_aload_n hx hb dL_isSo_160 rfl (lv_at hl 6 rfl) ?_
              refine lv_iload hx hb dL_isSo_161 (lv_at hl 0 rfl) ?_
              obtain ⟨u48, hu48, hf⟩ := ob hf
              refine zk_iR (va_runS (As := [.ref b0, .ref b1, .int u18]) (rest := []) ⟨hx, hb, hml, hown, hts⟩ (c_L_timeAt l g b0 b1 G0 G1 u18 _ hu48 _) (zcS hw0 zm3_115 zm3_117 zm1_0 zm3_116 hd_L_timeAt rfl rfl ⟨Nat.le_of_ble_eq_true rfl, Nat.le_of_ble_eq_true rfl⟩) ⟨zblind, zpre hK hP hD [0, 1] rfl rfl⟩ rfl rfl hl.1 rfl (lv_room (Nat.le_of_ble_eq_true rfl)) dL_isSo_163 ⟨Nat.zero_le _, Nat.zero_le _⟩) hP hD hS hA [0, 1] rfl (fun H locs hP hD hS => ?_)
              refine lv_aload_n hx hb dL_isSo_166 rfl (lv_at hl 6 rfl) ?_
              refine lv_iload hx hb dL_isSo_167 (lv_at hl 11 rfl) ?_
              refine lv_iload hx hb dL_isSo_169 (lv_at hl 0 rfl) ?_
              obtain ⟨u49, hu49, hf⟩ := ob hf
              refine zk_iR (va_runS (As := [.ref b1, .int x.2.2, .int u18]) (rest := [.int u48]) ⟨hx, hb, hml, hown, hts⟩ (c_L_sum l g b1 G1 x.2.2 u18 _ hu49 _) (zcS hw0 zm3_118 zm3_120 zm1_0 zm3_119 hd_L_sum rfl rfl ⟨Nat.le_of_ble_eq_true rfl, Nat.le_of_ble_eq_true rfl⟩) ⟨zblind, zpre hK hP hD [1] rfl rfl⟩ rfl rfl hl.1 rfl (lv_room (Nat.le_of_ble_eq_true rfl)) dL_isSo_171 ⟨Nat.zero_le _, Nat.zero_le _⟩) hP hD hS hA [1] rfl (fun H locs hP hD hS => ?_)
              refine lv_isub hx hb dL_isSo_174 ?_
              refine lv_goto (tgt := 181) hx hb dL_isSo_175 (by decide) ?_
              exact zeqi (Option.some.inj hf) (j21 _ _ hP hD hS)
          have hf := hu16
          refine lv_icmp_le (tgt := 133) hx hb dL_isSo_125 (by decide) (fun c50 => ?_) (fun c50 => ?_)
          · have hf := oi hf c50
            refine lv_iload hx hb dL_isSo_133 (lv_at hl 8 rfl) ?_
            exact zeqi (Option.some.inj hf) (j17 _ _ hP hD hS)
          · have hf := oe hf c50
            refine lv_iload hx hb dL_isSo_128 (lv_at hl 0 rfl) ?_
            refine lv_goto (tgt := 135) hx hb dL_isSo_130 (by decide) ?_
            exact zeqi (Option.some.inj hf) (j17 _ _ hP hD hS)
        have hf := hu14
        refine lv_if_lt (tgt := 104) hx hb dL_isSo_96 (by decide) (fun c51 => ?_) (fun c51 => ?_)
        · have hf := oi hf c51
          refine lv_iconst (v := (-1)) hx hb dL_isSo_104 (by decide) ?_
          refine lv_goto (tgt := 119) hx hb dL_isSo_105 (by decide) ?_
          exact zeqi (Option.some.inj hf) (j15 _ _ hP hD hS)
        · have hf := oe hf c51
          refine lv_iload hx hb dL_isSo_99 (lv_at hl 0 rfl) ?_
          refine lv_if_ge (tgt := 108) hx hb dL_isSo_101 (by decide) (fun c52 => ?_) (fun c52 => ?_)
          · have hf := oi hf c52
            refine lv_iload hx hb dL_isSo_108 (lv_at hl 0 rfl) ?_
            refine lv_aload_n hx hb dL_isSo_110 rfl (lv_at hl 3 rfl) ?_
            refine lv_iconst (v := 5) hx hb dL_isSo_111 (by decide) ?_
            refine lv_iload hx hb dL_isSo_112 (lv_at hl 9 rfl) ?_
            refine lv_imul hx hb dL_isSo_114 ?_
            refine lv_iconst (v := 1) hx hb dL_isSo_115 (by decide) ?_
            refine lv_iadd hx hb dL_isSo_116 ?_
            obtain ⟨h53, hf⟩ := og hf
            refine zald (D := g.1) (f := G1) (k := ((5 * x.2.2) + 1).toNatClampNeg) hx hb hK.1 hP 1 0 rfl rfl (zin_vp h53) rfl dL_isSo_117 ?_
            refine lv_isub hx hb dL_isSo_118 ?_
            exact zeqi (Option.some.inj hf) (j15 _ _ hP hD hS)
          · have hf := oe hf c52
            refine lv_iconst (v := (-1)) hx hb dL_isSo_104 (by decide) ?_
            refine lv_goto (tgt := 119) hx hb dL_isSo_105 (by decide) ?_
            exact zeqi (Option.some.inj hf) (j15 _ _ hP hD hS)
  have lp341 : ∀ (G0 : FF) (G1 : FF) (G2 : FF) (G3 : FF) (v : CV) (i5 : Int32) (i6 : Int32), ∀ (n : Nat) (x : Int32 × Int32 × Int32) (rr : Int32 × Int32 × Int32), zloop (s_L_isSo_341 G0 G1 G2 G3 v i5 i6) n x = some rr → (∀ (H : Heap) (locs : List Loc), va_P g.1 vwCl ([(b0, .inl (g.2.1, 9, .inl G0))] ++ [(b1, .inl (g.2.1, 30, .inl G1))] ++ [(b2, .inl (g.2.1, 15, .inl G2))] ++ [(b3, .inl (g.2.1, 63, .inl G3))] ++ zX6 g a v) H → va_D A ([(b0, .inl (g.2.1, 9, .inl G0))] ++ [(b1, .inl (g.2.1, 30, .inl G1))] ++ [(b2, .inl (g.2.1, 15, .inl G2))] ++ [(b3, .inl (g.2.1, 63, .inl G3))] ++ zX6 g a v) → va_S A s.heap H locs → ∀ ls : Array Slot, lv_has ls 13 [(0, .ref (a 0)), (1, .ref b0), (2, .ref b1), (4, .ref b3), (5, .int i5), (6, .int i6), (7, .int rr.1), (8, .int rr.2.1)] → W p l e (headSpec (zw yL_isSo cL_isSo 13 (some .boolean)) ({ frames := 8, cells := 4, slots := 24, locals := 152 } : Room)).room s m ([.ref (a 0), .ref b0, .ref b1, .ref b2, .ref b3] : List Value).toArray below meth c H locs 0 0 (MQ below (va_Qi (fun (x : Int32) (_ : Unit) => x = zb r) (fun _ => zEnd g A ([(b0, .inl (g.2.1, 9, .inl G0))] ++ [(b1, .inl (g.2.1, 30, .inl G1))] ++ [(b2, .inl (g.2.1, 15, .inl G2))] ++ [(b3, .inl (g.2.1, 63, .inl G3))] ++ zX6 g a v)) A) ([.ref (a 0), .ref b0, .ref b1, .ref b2, .ref b3] : List Value).toArray s 4 24 A) (F0 m 440 ls [])) → ∀ (H : Heap) (locs : List Loc), va_P g.1 vwCl ([(b0, .inl (g.2.1, 9, .inl G0))] ++ [(b1, .inl (g.2.1, 30, .inl G1))] ++ [(b2, .inl (g.2.1, 15, .inl G2))] ++ [(b3, .inl (g.2.1, 63, .inl G3))] ++ zX6 g a v) H → va_D A ([(b0, .inl (g.2.1, 9, .inl G0))] ++ [(b1, .inl (g.2.1, 30, .inl G1))] ++ [(b2, .inl (g.2.1, 15, .inl G2))] ++ [(b3, .inl (g.2.1, 63, .inl G3))] ++ zX6 g a v) → va_S A s.heap H locs → ∀ ls : Array Slot, lv_has ls 13 [(0, .ref (a 0)), (1, .ref b0), (2, .ref b1), (3, .ref b2), (4, .ref b3), (5, .int i5), (6, .int i6), (7, .int x.1), (8, .int x.2.1), (9, .int x.2.2)] → W p l e (headSpec (zw yL_isSo cL_isSo 13 (some .boolean)) ({ frames := 8, cells := 4, slots := 24, locals := 152 } : Room)).room s m ([.ref (a 0), .ref b0, .ref b1, .ref b2, .ref b3] : List Value).toArray below meth c H locs 0 0 (MQ below (va_Qi (fun (x : Int32) (_ : Unit) => x = zb r) (fun _ => zEnd g A ([(b0, .inl (g.2.1, 9, .inl G0))] ++ [(b1, .inl (g.2.1, 30, .inl G1))] ++ [(b2, .inl (g.2.1, 15, .inl G2))] ++ [(b3, .inl (g.2.1, 63, .inl G3))] ++ zX6 g a v)) A) ([.ref (a 0), .ref b0, .ref b1, .ref b2, .ref b3] : List Value).toArray s 4 24 A) (F0 m 341 ls []) := by
    intro G0 G1 G2 G3 v i5 i6
    refine zloop_ind ?_
    intro x y rr hf ih hr hQ H locs hP hD hS ls hl
    unfold s_L_isSo_341 at hf
    refine lv_iload hx hb dL_isSo_341 (lv_at hl 9 rfl) ?_
    refine lv_aload_n hx hb dL_isSo_343 rfl (lv_at hl 1 rfl) ?_
    refine lv_iconst (v := 1) hx hb dL_isSo_344 (by decide) ?_
    refine zald (D := g.1) (f := G0) (k := 1) hx hb hK.1 hP 0 0 rfl rfl (zin_vp (i := 1) (n := 9) rfl) rfl dL_isSo_345 ?_
    refine lv_icmp_ge (tgt := 440) hx hb dL_isSo_346 (by decide) (fun c55 => ?_) (fun c55 => ?_)
    · have hf := oi hf c55
      have hR : (x.1, x.2.1, x.2.2) = rr := hr _ (Option.some.inj hf).symm
      subst hR
      exact hQ _ _ hP hD hS _ (lv_sub hl [0, 1, 2, 4, 5, 6, 7, 8] rfl)
    · have hf := oe hf c55
      refine lv_iload hx hb dL_isSo_349 (lv_at hl 7 rfl) ?_
      refine lv_if_eq (tgt := 440) hx hb dL_isSo_351 (by decide) (fun c56 => ?_) (fun c56 => ?_)
      · have hf := oi hf c56
        have hR : (x.1, x.2.1, x.2.2) = rr := hr _ (Option.some.inj hf).symm
        subst hR
        exact hQ _ _ hP hD hS _ (lv_sub hl [0, 1, 2, 4, 5, 6, 7, 8] rfl)
      · have hf := oe hf c56
        refine lv_iload hx hb dL_isSo_354 (lv_at hl 8 rfl) ?_
        refine lv_aload_n hx hb dL_isSo_356 rfl (lv_at hl 3 rfl) ?_
        refine lv_iconst (v := 3) hx hb dL_isSo_357 (by decide) ?_
        refine lv_iload hx hb dL_isSo_358 (lv_at hl 9 rfl) ?_
        refine lv_imul hx hb dL_isSo_360 ?_
        refine lv_iconst (v := 1) hx hb dL_isSo_361 (by decide) ?_
        refine lv_iadd hx hb dL_isSo_362 ?_
        obtain ⟨h57, hf⟩ := og hf
        refine zald (D := g.1) (f := G2) (k := ((3 * x.2.2) + 1).toNatClampNeg) hx hb hK.1 hP 2 0 rfl rfl (zin_vp h57) rfl dL_isSo_363 ?_
        obtain ⟨u58, hu58, hf⟩ := ob hf
        have j59 : ∀ (H : Heap) (locs : List Loc), va_P g.1 vwCl ([(b0, .inl (g.2.1, 9, .inl G0))] ++ [(b1, .inl (g.2.1, 30, .inl G1))] ++ [(b2, .inl (g.2.1, 15, .inl G2))] ++ [(b3, .inl (g.2.1, 63, .inl G3))] ++ zX6 g a v) H → va_D A ([(b0, .inl (g.2.1, 9, .inl G0))] ++ [(b1, .inl (g.2.1, 30, .inl G1))] ++ [(b2, .inl (g.2.1, 15, .inl G2))] ++ [(b3, .inl (g.2.1, 63, .inl G3))] ++ zX6 g a v) → va_S A s.heap H locs → W p l e (headSpec (zw yL_isSo cL_isSo 13 (some .boolean)) ({ frames := 8, cells := 4, slots := 24, locals := 152 } : Room)).room s m ([.ref (a 0), .ref b0, .ref b1, .ref b2, .ref b3] : List Value).toArray below meth c H locs 0 0 (MQ below (va_Qi (fun (x : Int32) (_ : Unit) => x = zb r) (fun _ => zEnd g A ([(b0, .inl (g.2.1, 9, .inl G0))] ++ [(b1, .inl (g.2.1, 30, .inl G1))] ++ [(b2, .inl (g.2.1, 15, .inl G2))] ++ [(b3, .inl (g.2.1, 63, .inl G3))] ++ zX6 g a v)) A) ([.ref (a 0), .ref b0, .ref b1, .ref b2, .ref b3] : List Value).toArray s 4 24 A) (F0 m 372 ls [.int u58, .int x.2.1]) := by
          intro H locs hP hD hS
          refine lv_iadd hx hb dL_isSo_372 ?_
          refine lv_istore (lv' := [(8, .int (x.2.1 + u58)), (0, .ref (a 0)), (1, .ref b0), (2, .ref b1), (3, .ref b2), (4, .ref b3), (5, .int i5), (6, .int i6), (7, .int x.1), (9, .int x.2.2)]) hx hb dL_isSo_373 hl (by decide) rfl (fun ls hl => ?_)
          refine lv_aload_n hx hb dL_isSo_375 rfl (lv_at hl 1 rfl) ?_
          refine lv_iload hx hb dL_isSo_376 (lv_at hl 9 rfl) ?_
          refine lv_iconst (v := 0) hx hb dL_isSo_378 (by decide) ?_
          obtain ⟨u60, hu60, hf⟩ := ob hf
          refine zkQ_i (zrun_w (vx_runSX (As := [.ref (a 0), .int x.2.2, .int 0]) (rest := []) ⟨hx, hb, hml, hown, hts⟩ (co_L_fillerOf l g a v x.2.2 0 _ hu60 _) (zcSX hw0 zm3_184 zmH3_186 zm1_0 zm3_185 hd_L_fillerOf rfl rfl ⟨Nat.le_of_ble_eq_true rfl, Nat.le_of_ble_eq_true rfl⟩) ⟨zblind, zpreQ hK hP hD⟩ rfl rfl hl.1 rfl (lv_room (Nat.le_of_ble_eq_true rfl)) dL_isSo_379 ⟨Nat.le_of_ble_eq_true rfl, Nat.le_of_ble_eq_true rfl⟩)) hP hD hS hA rfl (fun H locs hP hD hS => ?_)
          have hP : va_P g.1 vwCl ([(b0, .inl (g.2.1, 9, .inl G0))] ++ [(b1, .inl (g.2.1, 30, .inl G1))] ++ [(b2, .inl (g.2.1, 15, .inl G2))] ++ [(b3, .inl (g.2.1, 63, .inl G3))] ++ zX6 g a v) H := hP
          have hD : va_D A ([(b0, .inl (g.2.1, 9, .inl G0))] ++ [(b1, .inl (g.2.1, 30, .inl G1))] ++ [(b2, .inl (g.2.1, 15, .inl G2))] ++ [(b3, .inl (g.2.1, 63, .inl G3))] ++ zX6 g a v) := hD
          refine lv_aload_n hx hb dL_isSo_382 rfl (lv_at hl 4 rfl) ?_
          refine lv_iconst (v := 3) hx hb dL_isSo_383 (by decide) ?_
          refine lv_iload hx hb dL_isSo_384 (lv_at hl 9 rfl) ?_
          refine lv_imul hx hb dL_isSo_386 ?_
          obtain ⟨h61, hf⟩ := og hf
          refine zald (D := g.1) (f := G2) (k := (3 * x.2.2).toNatClampNeg) hx hb hK.1 hP 2 0 rfl rfl (zin_vp h61) rfl dL_isSo_387 ?_
          refine lv_icmp_ne (tgt := 431) hx hb dL_isSo_388 (by decide) (fun c62 => ?_) (fun c62 => ?_)
          · have hf := oe hf c62
            exact absurd hf (by simp)
          · have hf := oi hf c62
            refine lv_aload_n hx hb dL_isSo_391 rfl (lv_at hl 1 rfl) ?_
            refine lv_iload hx hb dL_isSo_392 (lv_at hl 9 rfl) ?_
            refine lv_iconst (v := 1) hx hb dL_isSo_394 (by decide) ?_
            obtain ⟨u63, hu63, hf⟩ := ob hf
            refine zkQ_i (zrun_w (vx_runSX (As := [.ref (a 0), .int x.2.2, .int 1]) (rest := []) ⟨hx, hb, hml, hown, hts⟩ (co_L_fillerOf l g a v x.2.2 1 _ hu63 _) (zcSX hw0 zm3_184 zmH3_186 zm1_0 zm3_185 hd_L_fillerOf rfl rfl ⟨Nat.le_of_ble_eq_true rfl, Nat.le_of_ble_eq_true rfl⟩) ⟨zblind, zpreQ hK hP hD⟩ rfl rfl hl.1 rfl (lv_room (Nat.le_of_ble_eq_true rfl)) dL_isSo_395 ⟨Nat.le_of_ble_eq_true rfl, Nat.le_of_ble_eq_true rfl⟩)) hP hD hS hA rfl (fun H locs hP hD hS => ?_)
            have hP : va_P g.1 vwCl ([(b0, .inl (g.2.1, 9, .inl G0))] ++ [(b1, .inl (g.2.1, 30, .inl G1))] ++ [(b2, .inl (g.2.1, 15, .inl G2))] ++ [(b3, .inl (g.2.1, 63, .inl G3))] ++ zX6 g a v) H := hP
            have hD : va_D A ([(b0, .inl (g.2.1, 9, .inl G0))] ++ [(b1, .inl (g.2.1, 30, .inl G1))] ++ [(b2, .inl (g.2.1, 15, .inl G2))] ++ [(b3, .inl (g.2.1, 63, .inl G3))] ++ zX6 g a v) := hD
            refine lv_aload_n hx hb dL_isSo_398 rfl (lv_at hl 4 rfl) ?_
            refine lv_iconst (v := 3) hx hb dL_isSo_399 (by decide) ?_
            refine lv_iload hx hb dL_isSo_400 (lv_at hl 9 rfl) ?_
            refine lv_imul hx hb dL_isSo_402 ?_
            refine lv_iconst (v := 1) hx hb dL_isSo_403 (by decide) ?_
            refine lv_iadd hx hb dL_isSo_404 ?_
            obtain ⟨h64, hf⟩ := og hf
            refine zald (D := g.1) (f := G2) (k := ((3 * x.2.2) + 1).toNatClampNeg) hx hb hK.1 hP 2 0 rfl rfl (zin_vp h64) rfl dL_isSo_405 ?_
            refine lv_icmp_ne (tgt := 431) hx hb dL_isSo_406 (by decide) (fun c65 => ?_) (fun c65 => ?_)
            · have hf := oe hf c65
              exact absurd hf (by simp)
            · have hf := oi hf c65
              refine lv_aload_n hx hb dL_isSo_409 rfl (lv_at hl 1 rfl) ?_
              refine lv_iload hx hb dL_isSo_410 (lv_at hl 9 rfl) ?_
              refine lv_iconst (v := 2) hx hb dL_isSo_412 (by decide) ?_
              obtain ⟨u66, hu66, hf⟩ := ob hf
              refine zkQ_i (zrun_w (vx_runSX (As := [.ref (a 0), .int x.2.2, .int 2]) (rest := []) ⟨hx, hb, hml, hown, hts⟩ (co_L_fillerOf l g a v x.2.2 2 _ hu66 _) (zcSX hw0 zm3_184 zmH3_186 zm1_0 zm3_185 hd_L_fillerOf rfl rfl ⟨Nat.le_of_ble_eq_true rfl, Nat.le_of_ble_eq_true rfl⟩) ⟨zblind, zpreQ hK hP hD⟩ rfl rfl hl.1 rfl (lv_room (Nat.le_of_ble_eq_true rfl)) dL_isSo_413 ⟨Nat.le_of_ble_eq_true rfl, Nat.le_of_ble_eq_true rfl⟩)) hP hD hS hA rfl (fun H locs hP hD hS => ?_)
              have hP : va_P g.1 vwCl ([(b0, .inl (g.2.1, 9, .inl G0))] ++ [(b1, .inl (g.2.1, 30, .inl G1))] ++ [(b2, .inl (g.2.1, 15, .inl G2))] ++ [(b3, .inl (g.2.1, 63, .inl G3))] ++ zX6 g a v) H := hP
              have hD : va_D A ([(b0, .inl (g.2.1, 9, .inl G0))] ++ [(b1, .inl (g.2.1, 30, .inl G1))] ++ [(b2, .inl (g.2.1, 15, .inl G2))] ++ [(b3, .inl (g.2.1, 63, .inl G3))] ++ zX6 g a v) := hD
              refine lv_aload_n hx hb dL_isSo_416 rfl (lv_at hl 4 rfl) ?_
              refine lv_iconst (v := 3) hx hb dL_isSo_417 (by decide) ?_
              refine lv_iload hx hb dL_isSo_418 (lv_at hl 9 rfl) ?_
              refine lv_imul hx hb dL_isSo_420 ?_
              refine lv_iconst (v := 2) hx hb dL_isSo_421 (by decide) ?_
              refine lv_iadd hx hb dL_isSo_422 ?_
              obtain ⟨h67, hf⟩ := og hf
              refine zald (D := g.1) (f := G2) (k := ((3 * x.2.2) + 2).toNatClampNeg) hx hb hK.1 hP 2 0 rfl rfl (zin_vp h67) rfl dL_isSo_423 ?_
              refine lv_icmp_ne (tgt := 431) hx hb dL_isSo_424 (by decide) (fun c68 => ?_) (fun c68 => ?_)
              · have hf := oe hf c68
                exact absurd hf (by simp)
              · have hf := oi hf c68
                refine lv_iconst (v := 1) hx hb dL_isSo_427 (by decide) ?_
                refine lv_goto (tgt := 432) hx hb dL_isSo_428 (by decide) ?_
                refine lv_istore (lv' := [(7, .int 1), (8, .int (x.2.1 + u58)), (0, .ref (a 0)), (1, .ref b0), (2, .ref b1), (3, .ref b2), (4, .ref b3), (5, .int i5), (6, .int i6), (9, .int x.2.2)]) hx hb dL_isSo_432 hl (by decide) rfl (fun ls hl => ?_)
                refine lv_iinc (v := (x.2.2 + 1)) (lv' := [(9, .int (x.2.2 + 1)), (7, .int 1), (8, .int (x.2.1 + u58)), (0, .ref (a 0)), (1, .ref b0), (2, .ref b1), (3, .ref b2), (4, .ref b3), (5, .int i5), (6, .int i6)]) hx hb dL_isSo_434 hl (k := 9) rfl rfl (by decide) rfl (fun ls hl => ?_)
                refine lv_goto (tgt := 341) hx hb dL_isSo_437 (by decide) ?_
                exact ih (1, (x.2.1 + u58), (x.2.2 + 1)) (Option.some.inj hf).symm hQ _ _ hP hD hS _ (lv_sub hl [3, 4, 5, 6, 7, 8, 9, 1, 2, 0] rfl)
        have hf := hu58
        refine lv_if_ne (tgt := 371) hx hb dL_isSo_364 (by decide) (fun c69 => ?_) (fun c69 => ?_)
        · have hf := oe hf c69
          refine lv_iconst (v := 0) hx hb dL_isSo_371 (by decide) ?_
          exact zeqi (Option.some.inj hf) (j59 _ _ hP hD hS)
        · have hf := oi hf c69
          refine lv_iconst (v := 1) hx hb dL_isSo_367 (by decide) ?_
          refine lv_goto (tgt := 372) hx hb dL_isSo_368 (by decide) ?_
          exact zeqi (Option.some.inj hf) (j59 _ _ hP hD hS)
  have lp443 : ∀ (G0 : FF) (G1 : FF) (G2 : FF) (G3 : FF) (v : CV) (i5 : Int32) (i6 : Int32) (i8 : Int32), ∀ (n : Nat) (x : Int32 × Int32) (rr : Int32 × Int32), zloop (s_L_isSo_443 G0 G1 G2 G3 v i5 i6 i8) n x = some rr → (∀ (H : Heap) (locs : List Loc), va_P g.1 vwCl ([(b0, .inl (g.2.1, 9, .inl G0))] ++ [(b1, .inl (g.2.1, 30, .inl G1))] ++ [(b2, .inl (g.2.1, 15, .inl G2))] ++ [(b3, .inl (g.2.1, 63, .inl G3))] ++ zX6 g a v) H → va_D A ([(b0, .inl (g.2.1, 9, .inl G0))] ++ [(b1, .inl (g.2.1, 30, .inl G1))] ++ [(b2, .inl (g.2.1, 15, .inl G2))] ++ [(b3, .inl (g.2.1, 63, .inl G3))] ++ zX6 g a v) → va_S A s.heap H locs → ∀ ls : Array Slot, lv_has ls 13 [(0, .ref (a 0)), (1, .ref b0), (2, .ref b1), (5, .int i5), (6, .int i6), (7, .int rr.1), (8, .int i8)] → W p l e (headSpec (zw yL_isSo cL_isSo 13 (some .boolean)) ({ frames := 8, cells := 4, slots := 24, locals := 152 } : Room)).room s m ([.ref (a 0), .ref b0, .ref b1, .ref b2, .ref b3] : List Value).toArray below meth c H locs 0 0 (MQ below (va_Qi (fun (x : Int32) (_ : Unit) => x = zb r) (fun _ => zEnd g A ([(b0, .inl (g.2.1, 9, .inl G0))] ++ [(b1, .inl (g.2.1, 30, .inl G1))] ++ [(b2, .inl (g.2.1, 15, .inl G2))] ++ [(b3, .inl (g.2.1, 63, .inl G3))] ++ zX6 g a v)) A) ([.ref (a 0), .ref b0, .ref b1, .ref b2, .ref b3] : List Value).toArray s 4 24 A) (F0 m 532 ls [])) → ∀ (H : Heap) (locs : List Loc), va_P g.1 vwCl ([(b0, .inl (g.2.1, 9, .inl G0))] ++ [(b1, .inl (g.2.1, 30, .inl G1))] ++ [(b2, .inl (g.2.1, 15, .inl G2))] ++ [(b3, .inl (g.2.1, 63, .inl G3))] ++ zX6 g a v) H → va_D A ([(b0, .inl (g.2.1, 9, .inl G0))] ++ [(b1, .inl (g.2.1, 30, .inl G1))] ++ [(b2, .inl (g.2.1, 15, .inl G2))] ++ [(b3, .inl (g.2.1, 63, .inl G3))] ++ zX6 g a v) → va_S A s.heap H locs → ∀ ls : Array Slot, lv_has ls 13 [(0, .ref (a 0)), (1, .ref b0), (2, .ref b1), (4, .ref b3), (5, .int i5), (6, .int i6), (7, .int x.1), (8, .int i8), (9, .int x.2)] → W p l e (headSpec (zw yL_isSo cL_isSo 13 (some .boolean)) ({ frames := 8, cells := 4, slots := 24, locals := 152 } : Room)).room s m ([.ref (a 0), .ref b0, .ref b1, .ref b2, .ref b3] : List Value).toArray below meth c H locs 0 0 (MQ below (va_Qi (fun (x : Int32) (_ : Unit) => x = zb r) (fun _ => zEnd g A ([(b0, .inl (g.2.1, 9, .inl G0))] ++ [(b1, .inl (g.2.1, 30, .inl G1))] ++ [(b2, .inl (g.2.1, 15, .inl G2))] ++ [(b3, .inl (g.2.1, 63, .inl G3))] ++ zX6 g a v)) A) ([.ref (a 0), .ref b0, .ref b1, .ref b2, .ref b3] : List Value).toArray s 4 24 A) (F0 m 443 ls []) := by
    intro G0 G1 G2 G3 v i5 i6 i8
    refine zloop_ind ?_
    intro x y rr hf ih hr hQ H locs hP hD hS ls hl
    unfold s_L_isSo_443 at hf
    refine lv_iload hx hb dL_isSo_443 (lv_at hl 8 rfl) ?_
    refine lv_aload_n hx hb dL_isSo_445 rfl (lv_at hl 1 rfl) ?_
    refine lv_bipush (v := 8) hx hb dL_isSo_446 (by decide) ?_
    refine zald (D := g.1) (f := G0) (k := 8) hx hb hK.1 hP 0 0 rfl rfl (zin_vp (i := 8) (n := 9) rfl) rfl dL_isSo_448 ?_
    refine lv_icmp_ge (tgt := 532) hx hb dL_isSo_449 (by decide) (fun c71 => ?_) (fun c71 => ?_)
    · have hf := oi hf c71
      have hR : (x.1, x.2) = rr := hr _ (Option.some.inj hf).symm
      subst hR
      exact hQ _ _ hP hD hS _ (lv_sub hl [0, 1, 2, 4, 5, 6, 7] rfl)
    · have hf := oe hf c71
      refine lv_iload hx hb dL_isSo_452 (lv_at hl 8 rfl) ?_
      refine lv_bipush (v := 21) hx hb dL_isSo_454 (by decide) ?_
      refine lv_icmp_ge (tgt := 532) hx hb dL_isSo_456 (by decide) (fun c72 => ?_) (fun c72 => ?_)
      · have hf := oi hf c72
        have hR : (x.1, x.2) = rr := hr _ (Option.some.inj hf).symm
        subst hR
        exact hQ _ _ hP hD hS _ (lv_sub hl [0, 1, 2, 4, 5, 6, 7] rfl)
      · have hf := oe hf c72
        refine lv_iload hx hb dL_isSo_459 (lv_at hl 6 rfl) ?_
        refine lv_if_eq (tgt := 532) hx hb dL_isSo_461 (by decide) (fun c73 => ?_) (fun c73 => ?_)
        · have hf := oi hf c73
          have hR : (x.1, x.2) = rr := hr _ (Option.some.inj hf).symm
          subst hR
          exact hQ _ _ hP hD hS _ (lv_sub hl [0, 1, 2, 4, 5, 6, 7] rfl)
        · have hf := oe hf c73
          refine lv_aload_n hx hb dL_isSo_464 rfl (lv_at hl 0 rfl) ?_
          refine lv_iload hx hb dL_isSo_465 (lv_at hl 8 rfl) ?_
          refine lv_iconst (v := 0) hx hb dL_isSo_467 (by decide) ?_
          obtain ⟨u74, hu74, hf⟩ := ob hf
          refine zkQ_i (zrun_w (vx_runSX (As := [.ref (a 0), .int x.2, .int 0]) (rest := []) ⟨hx, hb, hml, hown, hts⟩ (co_L_entryOf l g a v x.2 0 _ hu74 _) (zcSX hw0 zm3_198 zmH3_200 zm1_0 zm3_199 hd_L_entryOf rfl rfl ⟨Nat.le_of_ble_eq_true rfl, Nat.le_of_ble_eq_true rfl⟩) ⟨zblind, zpreQ hK hP hD⟩ rfl rfl hl.1 rfl (lv_room (Nat.le_of_ble_eq_true rfl)) dL_isSo_468 ⟨Nat.le_of_ble_eq_true rfl, Nat.le_of_ble_eq_true rfl⟩)) hP hD hS hA rfl (fun H locs hP hD hS => ?_)
          have hP : va_P g.1 vwCl ([(b0, .inl (g.2.1, 9, .inl G0))] ++ [(b1, .inl (g.2.1, 30, .inl G1))] ++ [(b2, .inl (g.2.1, 15, .inl G2))] ++ [(b3, .inl (g.2.1, 63, .inl G3))] ++ zX6 g a v) H := hP
          have hD : va_D A ([(b0, .inl (g.2.1, 9, .inl G0))] ++ [(b1, .inl (g.2.1, 30, .inl G1))] ++ [(b2, .inl (g.2.1, 15, .inl G2))] ++ [(b3, .inl (g.2.1, 63, .inl G3))] ++ zX6 g a v) := hD
          refine lv_aload hx hb dL_isSo_471 (lv_at hl 3 rfl) ?_
          refine lv_iconst (v := 3) hx hb dL_isSo_473 (by decide) ?_
          refine lv_iload hx hb dL_isSo_474 (lv_at hl 8 rfl) ?_
          refine lv_imul hx hb dL_isSo_476 ?_
          obtain ⟨h75, hf⟩ := og hf
          refine zald (D := g.1) (f := G3) (k := (3 * x.2).toNatClampNeg) hx hb hK.1 hP 3 0 rfl rfl (zin_vp h75) rfl dL_isSo_477 ?_
          refine lv_icmp_ne (tgt := 523) hx hb dL_isSo_478 (by decide) (fun c76 => ?_) (fun c76 => ?_)
          · have hf := oe hf c76
            exact absurd hf (by simp)
          · have hf := oi hf c76
            refine lv_aload_n hx hb dL_isSo_481 rfl (lv_at hl 0 rfl) ?_
            refine lv_iload hx hb dL_isSo_482 (lv_at hl 8 rfl) ?_
            refine lv_iconst (v := 1) hx hb dL_isSo_484 (by decide) ?_
            obtain ⟨u77, hu77, hf⟩ := ob hf
            refine zkQ_i (zrun_w (vx_runSX (As := [.ref (a 0), .int x.2, .int 1]) (rest := []) ⟨hx, hb, hml, hown, hts⟩ (co_L_entryOf l g a v x.2 1 _ hu77 _) (zcSX hw0 zm3_198 zmH3_200 zm1_0 zm3_199 hd_L_entryOf rfl rfl ⟨Nat.le_of_ble_eq_true rfl, Nat.le_of_ble_eq_true rfl⟩) ⟨zblind, zpreQ hK hP hD⟩ rfl rfl hl.1 rfl (lv_room (Nat.le_of_ble_eq_true rfl)) dL_isSo_485 ⟨Nat.le_of_ble_eq_true rfl, Nat.le_of_ble_eq_true rfl⟩)) hP hD hS hA rfl (fun H locs hP hD hS => ?_)
            have hP : va_P g.1 vwCl ([(b0, .inl (g.2.1, 9, .inl G0))] ++ [(b1, .inl (g.2.1, 30, .inl G1))] ++ [(b2, .inl (g.2.1, 15, .inl G2))] ++ [(b3, .inl (g.2.1, 63, .inl G3))] ++ zX6 g a v) H := hP
            have hD : va_D A ([(b0, .inl (g.2.1, 9, .inl G0))] ++ [(b1, .inl (g.2.1, 30, .inl G1))] ++ [(b2, .inl (g.2.1, 15, .inl G2))] ++ [(b3, .inl (g.2.1, 63, .inl G3))] ++ zX6 g a v) := hD
            refine lv_aload hx hb dL_isSo_488 (lv_at hl 3 rfl) ?_
            refine lv_iconst (v := 3) hx hb dL_isSo_490 (by decide) ?_
            refine lv_iload hx hb dL_isSo_491 (lv_at hl 8 rfl) ?_
            refine lv_imul hx hb dL_isSo_493 ?_
            refine lv_iconst (v := 1) hx hb dL_isSo_494 (by decide) ?_
            refine lv_iadd hx hb dL_isSo_495 ?_
            obtain ⟨h78, hf⟩ := og hf
            refine zald (D := g.1) (f := G3) (k := ((3 * x.2) + 1).toNatClampNeg) hx hb hK.1 hP 3 0 rfl rfl (zin_vp h78) rfl dL_isSo_496 ?_
            refine lv_icmp_ne (tgt := 523) hx hb dL_isSo_497 (by decide) (fun c79 => ?_) (fun c79 => ?_)
            · have hf := oe hf c79
              exact absurd hf (by simp)
            · have hf := oi hf c79
              refine lv_aload_n hx hb dL_isSo_500 rfl (lv_at hl 0 rfl) ?_
              refine lv_iload hx hb dL_isSo_501 (lv_at hl 8 rfl) ?_
              refine lv_iconst (v := 2) hx hb dL_isSo_503 (by decide) ?_
              obtain ⟨u80, hu80, hf⟩ := ob hf
              refine zkQ_i (zrun_w (vx_runSX (As := [.ref (a 0), .int x.2, .int 2]) (rest := []) ⟨hx, hb, hml, hown, hts⟩ (co_L_entryOf l g a v x.2 2 _ hu80 _) (zcSX hw0 zm3_198 zmH3_200 zm1_0 zm3_199 hd_L_entryOf rfl rfl ⟨Nat.le_of_ble_eq_true rfl, Nat.le_of_ble_eq_true rfl⟩) ⟨zblind, zpreQ hK hP hD⟩ rfl rfl hl.1 rfl (lv_room (Nat.le_of_ble_eq_true rfl)) dL_isSo_504 ⟨Nat.le_of_ble_eq_true rfl, Nat.le_of_ble_eq_true rfl⟩)) hP hD hS hA rfl (fun H locs hP hD hS => ?_)
              have hP : va_P g.1 vwCl ([(b0, .inl (g.2.1, 9, .inl G0))] ++ [(b1, .inl (g.2.1, 30, .inl G1))] ++ [(b2, .inl (g.2.1, 15, .inl G2))] ++ [(b3, .inl (g.2.1, 63, .inl G3))] ++ zX6 g a v) H := hP
              have hD : va_D A ([(b0, .inl (g.2.1, 9, .inl G0))] ++ [(b1, .inl (g.2.1, 30, .inl G1))] ++ [(b2, .inl (g.2.1, 15, .inl G2))] ++ [(b3, .inl (g.2.1, 63, .inl G3))] ++ zX6 g a v) := hD
              refine lv_aload hx hb dL_isSo_507 (lv_at hl 3 rfl) ?_
              refine lv_iconst (v := 3) hx hb dL_isSo_509 (by decide) ?_
              refine lv_iload hx hb dL_isSo_510 (lv_at hl 8 rfl) ?_
              refine lv_imul hx hb dL_isSo_512 ?_
              refine lv_iconst (v := 2) hx hb dL_isSo_513 (by decide) ?_
              refine lv_iadd hx hb dL_isSo_514 ?_
              obtain ⟨h81, hf⟩ := og hf
              refine zald (D := g.1) (f := G3) (k := ((3 * x.2) + 2).toNatClampNeg) hx hb hK.1 hP 3 0 rfl rfl (zin_vp h81) rfl dL_isSo_515 ?_
              refine lv_icmp_ne (tgt := 523) hx hb dL_isSo_516 (by decide) (fun c82 => ?_) (fun c82 => ?_)
              · have hf := oe hf c82
                exact absurd hf (by simp)
              · have hf := oi hf c82
                refine lv_iconst (v := 1) hx hb dL_isSo_519 (by decide) ?_
                refine lv_goto (tgt := 524) hx hb dL_isSo_520 (by decide) ?_
                refine lv_istore (lv' := [(7, .int 1), (0, .ref (a 0)), (1, .ref b0), (2, .ref b1), (4, .ref b3), (5, .int i5), (6, .int i6), (8, .int i8), (9, .int x.2)]) hx hb dL_isSo_524 hl (by decide) rfl (fun ls hl => ?_)
                refine lv_iinc (v := (x.2 + 1)) (lv' := [(9, .int (x.2 + 1)), (7, .int 1), (0, .ref (a 0)), (1, .ref b0), (2, .ref b1), (4, .ref b3), (5, .int i5), (6, .int i6), (8, .int i8)]) hx hb dL_isSo_526 hl (k := 8) rfl rfl (by decide) rfl (fun ls hl => ?_)
                refine lv_goto (tgt := 443) hx hb dL_isSo_529 (by decide) ?_
                exact ih (1, (x.2 + 1)) (Option.some.inj hf).symm hQ _ _ hP hD hS _ (lv_sub hl [2, 3, 4, 5, 6, 7, 1, 8, 0] rfl)
  unfold f_L_isSo at hf
  have hl := lv_entry ([.ref (a 0), .ref b0, .ref b1, .ref b2, .ref b3]) (n := 13) (Nat.le_of_ble_eq_true rfl)
  rw [lg_entry_eq]
  generalize (lg_sl ([.ref (a 0), .ref b0, .ref b1, .ref b2, .ref b3]) ++ List.replicate (13 - (lg_sl ([.ref (a 0), .ref b0, .ref b1, .ref b2, .ref b3])).length) Slot.unset).toArray = ls at hl ⊢
  have hl : lv_has ls 13 [(0, .ref (a 0)), (1, .ref b0), (2, .ref b1), (3, .ref b2), (4, .ref b3)] := hl
  refine lv_aload_n hx hb dL_isSo_0 rfl (lv_at hl 1 rfl) ?_
  refine lv_aload_n hx hb dL_isSo_1 rfl (lv_at hl 2 rfl) ?_
  refine lv_iconst (v := 0) hx hb dL_isSo_2 (by decide) ?_
  obtain ⟨u1, hu1, hf⟩ := ob hf
  refine zk_iR (va_runS (As := [.ref b0, .ref b1, .int 0]) (rest := []) ⟨hx, hb, hml, hown, hts⟩ (c_L_fixed l g b0 b1 G0 G1 0 _ hu1 _) (zcS hw0 zm3_112 zm3_114 zm1_0 zm3_113 hd_L_fixed rfl rfl ⟨Nat.le_of_ble_eq_true rfl, Nat.le_of_ble_eq_true rfl⟩) ⟨zblind, zpre hK hP hD [0, 1] rfl rfl⟩ rfl rfl hl.1 rfl (lv_room (Nat.le_of_ble_eq_true rfl)) dL_isSo_3 ⟨Nat.zero_le _, Nat.zero_le _⟩) hP hD hS hA [0, 1] rfl (fun H locs hP hD hS => ?_)
  refine lv_istore (lv' := [(5, .int u1), (0, .ref (a 0)), (1, .ref b0), (2, .ref b1), (3, .ref b2), (4, .ref b3)]) hx hb dL_isSo_6 hl (by decide) rfl (fun ls hl => ?_)
  refine lv_iconst (v := 0) hx hb dL_isSo_8 (by decide) ?_
  refine lv_istore (lv' := [(6, .int 0), (5, .int u1), (0, .ref (a 0)), (1, .ref b0), (2, .ref b1), (3, .ref b2), (4, .ref b3)]) hx hb dL_isSo_9 hl (by decide) rfl (fun ls hl => ?_)
  refine lv_aload_n hx hb dL_isSo_11 rfl (lv_at hl 2 rfl) ?_
  refine lv_iconst (v := 0) hx hb dL_isSo_12 (by decide) ?_
  obtain ⟨u2, hu2, hf⟩ := ob hf
  refine zkQ_i (zrun_w (vx_runSX (As := [.ref (a 0), .int 0]) (rest := []) ⟨hx, hb, hml, hown, hts⟩ (co_L_valueOf l g a v 0 _ hu2 _) (zcSX hw0 zm3_136 zmH3_138 zm1_0 zm3_137 hd_L_valueOf rfl rfl ⟨Nat.le_of_ble_eq_true rfl, Nat.le_of_ble_eq_true rfl⟩) ⟨zblind, zpreQ hK hP hD⟩ rfl rfl hl.1 rfl (lv_room (Nat.le_of_ble_eq_true rfl)) dL_isSo_13 ⟨Nat.le_of_ble_eq_true rfl, Nat.le_of_ble_eq_true rfl⟩)) hP hD hS hA rfl (fun H locs hP hD hS => ?_)
  have hP : va_P g.1 vwCl ([(b0, .inl (g.2.1, 9, .inl G0))] ++ [(b1, .inl (g.2.1, 30, .inl G1))] ++ [(b2, .inl (g.2.1, 15, .inl G2))] ++ [(b3, .inl (g.2.1, 63, .inl G3))] ++ zX6 g a v) H := hP
  have hD : va_D A ([(b0, .inl (g.2.1, 9, .inl G0))] ++ [(b1, .inl (g.2.1, 30, .inl G1))] ++ [(b2, .inl (g.2.1, 15, .inl G2))] ++ [(b3, .inl (g.2.1, 63, .inl G3))] ++ zX6 g a v) := hD
  refine lv_aload_n hx hb dL_isSo_16 rfl (lv_at hl 3 rfl) ?_
  refine lv_iconst (v := 0) hx hb dL_isSo_17 (by decide) ?_
  refine zald (D := g.1) (f := G0) (k := 0) hx hb hK.1 hP 0 0 rfl rfl (zin_vp (i := 0) (n := 9) rfl) rfl dL_isSo_18 ?_
  refine lv_icmp_ne (tgt := 59) hx hb dL_isSo_19 (by decide) (fun c3 => ?_) (fun c3 => ?_)
  · have hf := oe hf c3
    exact absurd hf (by simp)
  · have hf := oi hf c3
    refine lv_aload_n hx hb dL_isSo_22 rfl (lv_at hl 2 rfl) ?_
    refine lv_iconst (v := 1) hx hb dL_isSo_23 (by decide) ?_
    obtain ⟨u4, hu4, hf⟩ := ob hf
    refine zkQ_i (zrun_w (vx_runSX (As := [.ref (a 0), .int 1]) (rest := []) ⟨hx, hb, hml, hown, hts⟩ (co_L_valueOf l g a v 1 _ hu4 _) (zcSX hw0 zm3_136 zmH3_138 zm1_0 zm3_137 hd_L_valueOf rfl rfl ⟨Nat.le_of_ble_eq_true rfl, Nat.le_of_ble_eq_true rfl⟩) ⟨zblind, zpreQ hK hP hD⟩ rfl rfl hl.1 rfl (lv_room (Nat.le_of_ble_eq_true rfl)) dL_isSo_24 ⟨Nat.le_of_ble_eq_true rfl, Nat.le_of_ble_eq_true rfl⟩)) hP hD hS hA rfl (fun H locs hP hD hS => ?_)
    have hP : va_P g.1 vwCl ([(b0, .inl (g.2.1, 9, .inl G0))] ++ [(b1, .inl (g.2.1, 30, .inl G1))] ++ [(b2, .inl (g.2.1, 15, .inl G2))] ++ [(b3, .inl (g.2.1, 63, .inl G3))] ++ zX6 g a v) H := hP
    have hD : va_D A ([(b0, .inl (g.2.1, 9, .inl G0))] ++ [(b1, .inl (g.2.1, 30, .inl G1))] ++ [(b2, .inl (g.2.1, 15, .inl G2))] ++ [(b3, .inl (g.2.1, 63, .inl G3))] ++ zX6 g a v) := hD
    refine lv_aload_n hx hb dL_isSo_27 rfl (lv_at hl 3 rfl) ?_
    refine lv_iconst (v := 1) hx hb dL_isSo_28 (by decide) ?_
    refine zald (D := g.1) (f := G0) (k := 1) hx hb hK.1 hP 0 0 rfl rfl (zin_vp (i := 1) (n := 9) rfl) rfl dL_isSo_29 ?_
    refine lv_icmp_ne (tgt := 59) hx hb dL_isSo_30 (by decide) (fun c5 => ?_) (fun c5 => ?_)
    · have hf := oe hf c5
      exact absurd hf (by simp)
    · have hf := oi hf c5
      refine lv_aload_n hx hb dL_isSo_33 rfl (lv_at hl 2 rfl) ?_
      refine lv_iconst (v := 2) hx hb dL_isSo_34 (by decide) ?_
      obtain ⟨u6, hu6, hf⟩ := ob hf
      refine zkQ_i (zrun_w (vx_runSX (As := [.ref (a 0), .int 2]) (rest := []) ⟨hx, hb, hml, hown, hts⟩ (co_L_valueOf l g a v 2 _ hu6 _) (zcSX hw0 zm3_136 zmH3_138 zm1_0 zm3_137 hd_L_valueOf rfl rfl ⟨Nat.le_of_ble_eq_true rfl, Nat.le_of_ble_eq_true rfl⟩) ⟨zblind, zpreQ hK hP hD⟩ rfl rfl hl.1 rfl (lv_room (Nat.le_of_ble_eq_true rfl)) dL_isSo_35 ⟨Nat.le_of_ble_eq_true rfl, Nat.le_of_ble_eq_true rfl⟩)) hP hD hS hA rfl (fun H locs hP hD hS => ?_)
      have hP : va_P g.1 vwCl ([(b0, .inl (g.2.1, 9, .inl G0))] ++ [(b1, .inl (g.2.1, 30, .inl G1))] ++ [(b2, .inl (g.2.1, 15, .inl G2))] ++ [(b3, .inl (g.2.1, 63, .inl G3))] ++ zX6 g a v) H := hP
      have hD : va_D A ([(b0, .inl (g.2.1, 9, .inl G0))] ++ [(b1, .inl (g.2.1, 30, .inl G1))] ++ [(b2, .inl (g.2.1, 15, .inl G2))] ++ [(b3, .inl (g.2.1, 63, .inl G3))] ++ zX6 g a v) := hD
      refine lv_aload_n hx hb dL_isSo_38 rfl (lv_at hl 3 rfl) ?_
      refine lv_iconst (v := 2) hx hb dL_isSo_39 (by decide) ?_
      refine zald (D := g.1) (f := G0) (k := 2) hx hb hK.1 hP 0 0 rfl rfl (zin_vp (i := 2) (n := 9) rfl) rfl dL_isSo_40 ?_
      refine lv_icmp_ne (tgt := 59) hx hb dL_isSo_41 (by decide) (fun c7 => ?_) (fun c7 => ?_)
      · have hf := oe hf c7
        exact absurd hf (by simp)
      · have hf := oi hf c7
        refine lv_aload_n hx hb dL_isSo_44 rfl (lv_at hl 2 rfl) ?_
        refine lv_iconst (v := 3) hx hb dL_isSo_45 (by decide) ?_
        obtain ⟨u8, hu8, hf⟩ := ob hf
        refine zkQ_i (zrun_w (vx_runSX (As := [.ref (a 0), .int 3]) (rest := []) ⟨hx, hb, hml, hown, hts⟩ (co_L_valueOf l g a v 3 _ hu8 _) (zcSX hw0 zm3_136 zmH3_138 zm1_0 zm3_137 hd_L_valueOf rfl rfl ⟨Nat.le_of_ble_eq_true rfl, Nat.le_of_ble_eq_true rfl⟩) ⟨zblind, zpreQ hK hP hD⟩ rfl rfl hl.1 rfl (lv_room (Nat.le_of_ble_eq_true rfl)) dL_isSo_46 ⟨Nat.le_of_ble_eq_true rfl, Nat.le_of_ble_eq_true rfl⟩)) hP hD hS hA rfl (fun H locs hP hD hS => ?_)
        have hP : va_P g.1 vwCl ([(b0, .inl (g.2.1, 9, .inl G0))] ++ [(b1, .inl (g.2.1, 30, .inl G1))] ++ [(b2, .inl (g.2.1, 15, .inl G2))] ++ [(b3, .inl (g.2.1, 63, .inl G3))] ++ zX6 g a v) H := hP
        have hD : va_D A ([(b0, .inl (g.2.1, 9, .inl G0))] ++ [(b1, .inl (g.2.1, 30, .inl G1))] ++ [(b2, .inl (g.2.1, 15, .inl G2))] ++ [(b3, .inl (g.2.1, 63, .inl G3))] ++ zX6 g a v) := hD
        refine lv_aload_n hx hb dL_isSo_49 rfl (lv_at hl 3 rfl) ?_
        refine lv_iconst (v := 3) hx hb dL_isSo_50 (by decide) ?_
        refine zald (D := g.1) (f := G0) (k := 3) hx hb hK.1 hP 0 0 rfl rfl (zin_vp (i := 3) (n := 9) rfl) rfl dL_isSo_51 ?_
        refine lv_icmp_ne (tgt := 59) hx hb dL_isSo_52 (by decide) (fun c9 => ?_) (fun c9 => ?_)
        · have hf := oe hf c9
          exact absurd hf (by simp)
        · have hf := oi hf c9
          refine lv_iconst (v := 1) hx hb dL_isSo_55 (by decide) ?_
          refine lv_goto (tgt := 60) hx hb dL_isSo_56 (by decide) ?_
          refine lv_istore (lv' := [(7, .int 1), (6, .int 0), (5, .int u1), (0, .ref (a 0)), (1, .ref b0), (2, .ref b1), (3, .ref b2), (4, .ref b3)]) hx hb dL_isSo_60 hl (by decide) rfl (fun ls hl => ?_)
          refine lv_iconst (v := 0) hx hb dL_isSo_62 (by decide) ?_
          refine lv_istore (lv' := [(8, .int 0), (7, .int 1), (6, .int 0), (5, .int u1), (0, .ref (a 0)), (1, .ref b0), (2, .ref b1), (3, .ref b2), (4, .ref b3)]) hx hb dL_isSo_63 hl (by decide) rfl (fun ls hl => ?_)
          obtain ⟨u54, hu54, hf⟩ := ob hf
          refine lp65 G0 G1 G2 G3 v u1 _ _ u54 hu54 (fun H locs hP hD hS ls hl => ?_) _ _ hP hD hS _ (lv_sub hl [4, 5, 6, 7, 8, 3, 2, 1, 0] rfl)
          have hl : lv_has ls 13 [(0, .ref (a 0)), (1, .ref b0), (2, .ref b1), (3, .ref b2), (4, .ref b3), (5, .int u1), (6, .int u54.1), (7, .int u54.2.1)] := hl
          have hP : va_P g.1 vwCl ([(b0, .inl (g.2.1, 9, .inl G0))] ++ [(b1, .inl (g.2.1, 30, .inl G1))] ++ [(b2, .inl (g.2.1, 15, .inl G2))] ++ [(b3, .inl (g.2.1, 63, .inl G3))] ++ zX6 g a v) H := hP
          have hD : va_D A ([(b0, .inl (g.2.1, 9, .inl G0))] ++ [(b1, .inl (g.2.1, 30, .inl G1))] ++ [(b2, .inl (g.2.1, 15, .inl G2))] ++ [(b3, .inl (g.2.1, 63, .inl G3))] ++ zX6 g a v) := hD
          refine lv_iconst (v := 0) hx hb dL_isSo_335 (by decide) ?_
          refine lv_istore (lv' := [(8, .int 0), (0, .ref (a 0)), (1, .ref b0), (2, .ref b1), (3, .ref b2), (4, .ref b3), (5, .int u1), (6, .int u54.1), (7, .int u54.2.1)]) hx hb dL_isSo_336 hl (by decide) rfl (fun ls hl => ?_)
          refine lv_iconst (v := 0) hx hb dL_isSo_338 (by decide) ?_
          refine lv_istore (lv' := [(9, .int 0), (8, .int 0), (0, .ref (a 0)), (1, .ref b0), (2, .ref b1), (3, .ref b2), (4, .ref b3), (5, .int u1), (6, .int u54.1), (7, .int u54.2.1)]) hx hb dL_isSo_339 hl (by decide) rfl (fun ls hl => ?_)
          obtain ⟨u70, hu70, hf⟩ := ob hf
          refine lp341 G0 G1 G2 G3 v u1 u54.1 _ _ u70 hu70 (fun H locs hP hD hS ls hl => ?_) _ _ hP hD hS _ (lv_sub hl [2, 3, 4, 5, 6, 7, 8, 9, 1, 0] rfl)
          have hl : lv_has ls 13 [(0, .ref (a 0)), (1, .ref b0), (2, .ref b1), (4, .ref b3), (5, .int u1), (6, .int u54.1), (7, .int u70.1), (8, .int u70.2.1)] := hl
          have hP : va_P g.1 vwCl ([(b0, .inl (g.2.1, 9, .inl G0))] ++ [(b1, .inl (g.2.1, 30, .inl G1))] ++ [(b2, .inl (g.2.1, 15, .inl G2))] ++ [(b3, .inl (g.2.1, 63, .inl G3))] ++ zX6 g a v) H := hP
          have hD : va_D A ([(b0, .inl (g.2.1, 9, .inl G0))] ++ [(b1, .inl (g.2.1, 30, .inl G1))] ++ [(b2, .inl (g.2.1, 15, .inl G2))] ++ [(b3, .inl (g.2.1, 63, .inl G3))] ++ zX6 g a v) := hD
          refine lv_iconst (v := 0) hx hb dL_isSo_440 (by decide) ?_
          refine lv_istore (lv' := [(9, .int 0), (0, .ref (a 0)), (1, .ref b0), (2, .ref b1), (4, .ref b3), (5, .int u1), (6, .int u54.1), (7, .int u70.1), (8, .int u70.2.1)]) hx hb dL_isSo_441 hl (by decide) rfl (fun ls hl => ?_)
          obtain ⟨u83, hu83, hf⟩ := ob hf
          refine lp443 G0 G1 G2 G3 v u1 u54.1 u70.2.1 _ _ u83 hu83 (fun H locs hP hD hS ls hl => ?_) _ _ hP hD hS _ (lv_sub hl [1, 2, 3, 4, 5, 6, 7, 8, 0] rfl)
          have hl : lv_has ls 13 [(0, .ref (a 0)), (1, .ref b0), (2, .ref b1), (5, .int u1), (6, .int u54.1), (7, .int u83.1), (8, .int u70.2.1)] := hl
          have hP : va_P g.1 vwCl ([(b0, .inl (g.2.1, 9, .inl G0))] ++ [(b1, .inl (g.2.1, 30, .inl G1))] ++ [(b2, .inl (g.2.1, 15, .inl G2))] ++ [(b3, .inl (g.2.1, 63, .inl G3))] ++ zX6 g a v) H := hP
          have hD : va_D A ([(b0, .inl (g.2.1, 9, .inl G0))] ++ [(b1, .inl (g.2.1, 30, .inl G1))] ++ [(b2, .inl (g.2.1, 15, .inl G2))] ++ [(b3, .inl (g.2.1, 63, .inl G3))] ++ zX6 g a v) := hD
          refine lv_iload hx hb dL_isSo_532 (lv_at hl 5 rfl) ?_
          refine lv_if_eq (tgt := 685) hx hb dL_isSo_534 (by decide) (fun c84 => ?_) (fun c84 => ?_)
          · have hf := oi hf c84
            exact absurd hf (by simp)
          · have hf := oe hf c84
            refine lv_aload_n hx hb dL_isSo_537 rfl (lv_at hl 0 rfl) ?_
            refine lv_iconst (v := 4) hx hb dL_isSo_538 (by decide) ?_
            obtain ⟨u85, hu85, hf⟩ := ob hf
            refine zkQ_i (zrun_w (vx_runSX (As := [.ref (a 0), .int 4]) (rest := []) ⟨hx, hb, hml, hown, hts⟩ (co_L_valueOf l g a v 4 _ hu85 _) (zcSX hw0 zm3_136 zmH3_138 zm1_0 zm3_137 hd_L_valueOf rfl rfl ⟨Nat.le_of_ble_eq_true rfl, Nat.le_of_ble_eq_true rfl⟩) ⟨zblind, zpreQ hK hP hD⟩ rfl rfl hl.1 rfl (lv_room (Nat.le_of_ble_eq_true rfl)) dL_isSo_539 ⟨Nat.le_of_ble_eq_true rfl, Nat.le_of_ble_eq_true rfl⟩)) hP hD hS hA rfl (fun H locs hP hD hS => ?_)
            have hP : va_P g.1 vwCl ([(b0, .inl (g.2.1, 9, .inl G0))] ++ [(b1, .inl (g.2.1, 30, .inl G1))] ++ [(b2, .inl (g.2.1, 15, .inl G2))] ++ [(b3, .inl (g.2.1, 63, .inl G3))] ++ zX6 g a v) H := hP
            have hD : va_D A ([(b0, .inl (g.2.1, 9, .inl G0))] ++ [(b1, .inl (g.2.1, 30, .inl G1))] ++ [(b2, .inl (g.2.1, 15, .inl G2))] ++ [(b3, .inl (g.2.1, 63, .inl G3))] ++ zX6 g a v) := hD
            refine lv_aload_n hx hb dL_isSo_542 rfl (lv_at hl 1 rfl) ?_
            refine lv_aload_n hx hb dL_isSo_543 rfl (lv_at hl 2 rfl) ?_
            refine lv_iconst (v := 0) hx hb dL_isSo_544 (by decide) ?_
            obtain ⟨u86, hu86, hf⟩ := ob hf
            refine zk_iR (va_runS (As := [.ref b0, .ref b1, .int 0]) (rest := [.int u85]) ⟨hx, hb, hml, hown, hts⟩ (c_L_inStatus l g b0 b1 G0 G1 0 _ hu86 _) (zcS hw0 zm2_225 zm2_227 zm1_0 zm2_226 hd_L_inStatus rfl rfl ⟨Nat.le_of_ble_eq_true rfl, Nat.le_of_ble_eq_true rfl⟩) ⟨zblind, zpre hK hP hD [0, 1] rfl rfl⟩ rfl rfl hl.1 rfl (lv_room (Nat.le_of_ble_eq_true rfl)) dL_isSo_545 ⟨Nat.zero_le _, Nat.zero_le _⟩) hP hD hS hA [0, 1] rfl (fun H locs hP hD hS => ?_)
            refine lv_icmp_ne (tgt := 685) hx hb dL_isSo_548 (by decide) (fun c87 => ?_) (fun c87 => ?_)
            · have hf := oe hf c87
              exact absurd hf (by simp)
            · have hf := oi hf c87
              refine lv_aload_n hx hb dL_isSo_551 rfl (lv_at hl 0 rfl) ?_
              refine lv_iconst (v := 5) hx hb dL_isSo_552 (by decide) ?_
              obtain ⟨u88, hu88, hf⟩ := ob hf
              refine zkQ_i (zrun_w (vx_runSX (As := [.ref (a 0), .int 5]) (rest := []) ⟨hx, hb, hml, hown, hts⟩ (co_L_valueOf l g a v 5 _ hu88 _) (zcSX hw0 zm3_136 zmH3_138 zm1_0 zm3_137 hd_L_valueOf rfl rfl ⟨Nat.le_of_ble_eq_true rfl, Nat.le_of_ble_eq_true rfl⟩) ⟨zblind, zpreQ hK hP hD⟩ rfl rfl hl.1 rfl (lv_room (Nat.le_of_ble_eq_true rfl)) dL_isSo_553 ⟨Nat.le_of_ble_eq_true rfl, Nat.le_of_ble_eq_true rfl⟩)) hP hD hS hA rfl (fun H locs hP hD hS => ?_)
              have hP : va_P g.1 vwCl ([(b0, .inl (g.2.1, 9, .inl G0))] ++ [(b1, .inl (g.2.1, 30, .inl G1))] ++ [(b2, .inl (g.2.1, 15, .inl G2))] ++ [(b3, .inl (g.2.1, 63, .inl G3))] ++ zX6 g a v) H := hP
              have hD : va_D A ([(b0, .inl (g.2.1, 9, .inl G0))] ++ [(b1, .inl (g.2.1, 30, .inl G1))] ++ [(b2, .inl (g.2.1, 15, .inl G2))] ++ [(b3, .inl (g.2.1, 63, .inl G3))] ++ zX6 g a v) := hD
              refine lv_aload_n hx hb dL_isSo_556 rfl (lv_at hl 1 rfl) ?_
              refine lv_aload_n hx hb dL_isSo_557 rfl (lv_at hl 2 rfl) ?_
              refine lv_iconst (v := 3) hx hb dL_isSo_558 (by decide) ?_
              obtain ⟨u89, hu89, hf⟩ := ob hf
              refine zk_iR (va_runS (As := [.ref b0, .ref b1, .int 3]) (rest := [.int u88]) ⟨hx, hb, hml, hown, hts⟩ (c_L_inStatus l g b0 b1 G0 G1 3 _ hu89 _) (zcS hw0 zm2_225 zm2_227 zm1_0 zm2_226 hd_L_inStatus rfl rfl ⟨Nat.le_of_ble_eq_true rfl, Nat.le_of_ble_eq_true rfl⟩) ⟨zblind, zpre hK hP hD [0, 1] rfl rfl⟩ rfl rfl hl.1 rfl (lv_room (Nat.le_of_ble_eq_true rfl)) dL_isSo_559 ⟨Nat.zero_le _, Nat.zero_le _⟩) hP hD hS hA [0, 1] rfl (fun H locs hP hD hS => ?_)
              refine lv_icmp_ne (tgt := 685) hx hb dL_isSo_562 (by decide) (fun c90 => ?_) (fun c90 => ?_)
              · have hf := oe hf c90
                exact absurd hf (by simp)
              · have hf := oi hf c90
                refine lv_aload_n hx hb dL_isSo_565 rfl (lv_at hl 0 rfl) ?_
                refine lv_bipush (v := 6) hx hb dL_isSo_566 (by decide) ?_
                obtain ⟨u91, hu91, hf⟩ := ob hf
                refine zkQ_i (zrun_w (vx_runSX (As := [.ref (a 0), .int 6]) (rest := []) ⟨hx, hb, hml, hown, hts⟩ (co_L_valueOf l g a v 6 _ hu91 _) (zcSX hw0 zm3_136 zmH3_138 zm1_0 zm3_137 hd_L_valueOf rfl rfl ⟨Nat.le_of_ble_eq_true rfl, Nat.le_of_ble_eq_true rfl⟩) ⟨zblind, zpreQ hK hP hD⟩ rfl rfl hl.1 rfl (lv_room (Nat.le_of_ble_eq_true rfl)) dL_isSo_568 ⟨Nat.le_of_ble_eq_true rfl, Nat.le_of_ble_eq_true rfl⟩)) hP hD hS hA rfl (fun H locs hP hD hS => ?_)
                have hP : va_P g.1 vwCl ([(b0, .inl (g.2.1, 9, .inl G0))] ++ [(b1, .inl (g.2.1, 30, .inl G1))] ++ [(b2, .inl (g.2.1, 15, .inl G2))] ++ [(b3, .inl (g.2.1, 63, .inl G3))] ++ zX6 g a v) H := hP
                have hD : va_D A ([(b0, .inl (g.2.1, 9, .inl G0))] ++ [(b1, .inl (g.2.1, 30, .inl G1))] ++ [(b2, .inl (g.2.1, 15, .inl G2))] ++ [(b3, .inl (g.2.1, 63, .inl G3))] ++ zX6 g a v) := hD
                refine lv_iload hx hb dL_isSo_571 (lv_at hl 6 rfl) ?_
                refine lv_icmp_ne (tgt := 685) hx hb dL_isSo_573 (by decide) (fun c92 => ?_) (fun c92 => ?_)
                · have hf := oe hf c92
                  exact absurd hf (by simp)
                · have hf := oi hf c92
                  refine lv_aload_n hx hb dL_isSo_576 rfl (lv_at hl 0 rfl) ?_
                  refine lv_bipush (v := 7) hx hb dL_isSo_577 (by decide) ?_
                  obtain ⟨u93, hu93, hf⟩ := ob hf
                  refine zkQ_i (zrun_w (vx_runSX (As := [.ref (a 0), .int 7]) (rest := []) ⟨hx, hb, hml, hown, hts⟩ (co_L_valueOf l g a v 7 _ hu93 _) (zcSX hw0 zm3_136 zmH3_138 zm1_0 zm3_137 hd_L_valueOf rfl rfl ⟨Nat.le_of_ble_eq_true rfl, Nat.le_of_ble_eq_true rfl⟩) ⟨zblind, zpreQ hK hP hD⟩ rfl rfl hl.1 rfl (lv_room (Nat.le_of_ble_eq_true rfl)) dL_isSo_579 ⟨Nat.le_of_ble_eq_true rfl, Nat.le_of_ble_eq_true rfl⟩)) hP hD hS hA rfl (fun H locs hP hD hS => ?_)
                  have hP : va_P g.1 vwCl ([(b0, .inl (g.2.1, 9, .inl G0))] ++ [(b1, .inl (g.2.1, 30, .inl G1))] ++ [(b2, .inl (g.2.1, 15, .inl G2))] ++ [(b3, .inl (g.2.1, 63, .inl G3))] ++ zX6 g a v) H := hP
                  have hD : va_D A ([(b0, .inl (g.2.1, 9, .inl G0))] ++ [(b1, .inl (g.2.1, 30, .inl G1))] ++ [(b2, .inl (g.2.1, 15, .inl G2))] ++ [(b3, .inl (g.2.1, 63, .inl G3))] ++ zX6 g a v) := hD
                  refine lv_aload_n hx hb dL_isSo_582 rfl (lv_at hl 1 rfl) ?_
                  refine lv_bipush (v := 6) hx hb dL_isSo_583 (by decide) ?_
                  refine zald (D := g.1) (f := G0) (k := 6) hx hb hK.1 hP 0 0 rfl rfl (zin_vp (i := 6) (n := 9) rfl) rfl dL_isSo_585 ?_
                  refine lv_icmp_ne (tgt := 685) hx hb dL_isSo_586 (by decide) (fun c94 => ?_) (fun c94 => ?_)
                  · have hf := oe hf c94
                    exact absurd hf (by simp)
                  · have hf := oi hf c94
                    refine lv_aload_n hx hb dL_isSo_589 rfl (lv_at hl 0 rfl) ?_
                    refine lv_bipush (v := 8) hx hb dL_isSo_590 (by decide) ?_
                    obtain ⟨u95, hu95, hf⟩ := ob hf
                    refine zkQ_i (zrun_w (vx_runSX (As := [.ref (a 0), .int 8]) (rest := []) ⟨hx, hb, hml, hown, hts⟩ (co_L_valueOf l g a v 8 _ hu95 _) (zcSX hw0 zm3_136 zmH3_138 zm1_0 zm3_137 hd_L_valueOf rfl rfl ⟨Nat.le_of_ble_eq_true rfl, Nat.le_of_ble_eq_true rfl⟩) ⟨zblind, zpreQ hK hP hD⟩ rfl rfl hl.1 rfl (lv_room (Nat.le_of_ble_eq_true rfl)) dL_isSo_592 ⟨Nat.le_of_ble_eq_true rfl, Nat.le_of_ble_eq_true rfl⟩)) hP hD hS hA rfl (fun H locs hP hD hS => ?_)
                    have hP : va_P g.1 vwCl ([(b0, .inl (g.2.1, 9, .inl G0))] ++ [(b1, .inl (g.2.1, 30, .inl G1))] ++ [(b2, .inl (g.2.1, 15, .inl G2))] ++ [(b3, .inl (g.2.1, 63, .inl G3))] ++ zX6 g a v) H := hP
                    have hD : va_D A ([(b0, .inl (g.2.1, 9, .inl G0))] ++ [(b1, .inl (g.2.1, 30, .inl G1))] ++ [(b2, .inl (g.2.1, 15, .inl G2))] ++ [(b3, .inl (g.2.1, 63, .inl G3))] ++ zX6 g a v) := hD
                    refine lv_aload_n hx hb dL_isSo_595 rfl (lv_at hl 1 rfl) ?_
                    refine lv_aload_n hx hb dL_isSo_596 rfl (lv_at hl 2 rfl) ?_
                    refine lv_iload hx hb dL_isSo_597 (lv_at hl 3 rfl) ?_
                    obtain ⟨u96, hu96, hf⟩ := ob hf
                    refine zk_iR (va_runS (As := [.ref b0, .ref b1, .int u1]) (rest := [.int u95]) ⟨hx, hb, hml, hown, hts⟩ (c_L_timeAt l g b0 b1 G0 G1 u1 _ hu96 _) (zcS hw0 zm3_115 zm3_117 zm1_0 zm3_116 hd_L_timeAt rfl rfl ⟨Nat.le_of_ble_eq_true rfl, Nat.le_of_ble_eq_true rfl⟩) ⟨zblind, zpre hK hP hD [0, 1] rfl rfl⟩ rfl rfl hl.1 rfl (lv_room (Nat.le_of_ble_eq_true rfl)) dL_isSo_599 ⟨Nat.zero_le _, Nat.zero_le _⟩) hP hD hS hA [0, 1] rfl (fun H locs hP hD hS => ?_)
                    refine lv_icmp_ne (tgt := 685) hx hb dL_isSo_602 (by decide) (fun c97 => ?_) (fun c97 => ?_)
                    · have hf := oe hf c97
                      exact absurd hf (by simp)
                    · have hf := oi hf c97
                      refine lv_aload_n hx hb dL_isSo_605 rfl (lv_at hl 0 rfl) ?_
                      refine lv_bipush (v := 9) hx hb dL_isSo_606 (by decide) ?_
                      obtain ⟨u98, hu98, hf⟩ := ob hf
                      refine zkQ_i (zrun_w (vx_runSX (As := [.ref (a 0), .int 9]) (rest := []) ⟨hx, hb, hml, hown, hts⟩ (co_L_valueOf l g a v 9 _ hu98 _) (zcSX hw0 zm3_136 zmH3_138 zm1_0 zm3_137 hd_L_valueOf rfl rfl ⟨Nat.le_of_ble_eq_true rfl, Nat.le_of_ble_eq_true rfl⟩) ⟨zblind, zpreQ hK hP hD⟩ rfl rfl hl.1 rfl (lv_room (Nat.le_of_ble_eq_true rfl)) dL_isSo_608 ⟨Nat.le_of_ble_eq_true rfl, Nat.le_of_ble_eq_true rfl⟩)) hP hD hS hA rfl (fun H locs hP hD hS => ?_)
                      have hP : va_P g.1 vwCl ([(b0, .inl (g.2.1, 9, .inl G0))] ++ [(b1, .inl (g.2.1, 30, .inl G1))] ++ [(b2, .inl (g.2.1, 15, .inl G2))] ++ [(b3, .inl (g.2.1, 63, .inl G3))] ++ zX6 g a v) H := hP
                      have hD : va_D A ([(b0, .inl (g.2.1, 9, .inl G0))] ++ [(b1, .inl (g.2.1, 30, .inl G1))] ++ [(b2, .inl (g.2.1, 15, .inl G2))] ++ [(b3, .inl (g.2.1, 63, .inl G3))] ++ zX6 g a v) := hD
                      refine lv_aload_n hx hb dL_isSo_611 rfl (lv_at hl 1 rfl) ?_
                      refine lv_iconst (v := 3) hx hb dL_isSo_612 (by decide) ?_
                      refine zald (D := g.1) (f := G0) (k := 3) hx hb hK.1 hP 0 0 rfl rfl (zin_vp (i := 3) (n := 9) rfl) rfl dL_isSo_613 ?_
                      refine lv_iconst (v := 1) hx hb dL_isSo_614 (by decide) ?_
                      obtain ⟨u99, hu99, hf⟩ := ob hf
                      have j100 : ∀ (H : Heap) (locs : List Loc), va_P g.1 vwCl ([(b0, .inl (g.2.1, 9, .inl G0))] ++ [(b1, .inl (g.2.1, 30, .inl G1))] ++ [(b2, .inl (g.2.1, 15, .inl G2))] ++ [(b3, .inl (g.2.1, 63, .inl G3))] ++ zX6 g a v) H → va_D A ([(b0, .inl (g.2.1, 9, .inl G0))] ++ [(b1, .inl (g.2.1, 30, .inl G1))] ++ [(b2, .inl (g.2.1, 15, .inl G2))] ++ [(b3, .inl (g.2.1, 63, .inl G3))] ++ zX6 g a v) → va_S A s.heap H locs → W p l e (headSpec (zw yL_isSo cL_isSo 13 (some .boolean)) ({ frames := 8, cells := 4, slots := 24, locals := 152 } : Room)).room s m ([.ref (a 0), .ref b0, .ref b1, .ref b2, .ref b3] : List Value).toArray below meth c H locs 0 0 (MQ below (va_Qi (fun (x : Int32) (_ : Unit) => x = zb r) (fun _ => zEnd g A ([(b0, .inl (g.2.1, 9, .inl G0))] ++ [(b1, .inl (g.2.1, 30, .inl G1))] ++ [(b2, .inl (g.2.1, 15, .inl G2))] ++ [(b3, .inl (g.2.1, 63, .inl G3))] ++ zX6 g a v)) A) ([.ref (a 0), .ref b0, .ref b1, .ref b2, .ref b3] : List Value).toArray s 4 24 A) (F0 m 629 ls [.int u99, .int u98]) := by
                        intro H locs hP hD hS
                        refine lv_icmp_ne (tgt := 685) hx hb dL_isSo_629 (by decide) (fun c101 => ?_) (fun c101 => ?_)
                        · have hf := oe hf c101
                          exact absurd hf (by simp)
                        · have hf := oi hf c101
                          refine lv_aload_n hx hb dL_isSo_632 rfl (lv_at hl 0 rfl) ?_
                          refine lv_bipush (v := 10) hx hb dL_isSo_633 (by decide) ?_
                          obtain ⟨u102, hu102, hf⟩ := ob hf
                          refine zkQ_i (zrun_w (vx_runSX (As := [.ref (a 0), .int 10]) (rest := []) ⟨hx, hb, hml, hown, hts⟩ (co_L_valueOf l g a v 10 _ hu102 _) (zcSX hw0 zm3_136 zmH3_138 zm1_0 zm3_137 hd_L_valueOf rfl rfl ⟨Nat.le_of_ble_eq_true rfl, Nat.le_of_ble_eq_true rfl⟩) ⟨zblind, zpreQ hK hP hD⟩ rfl rfl hl.1 rfl (lv_room (Nat.le_of_ble_eq_true rfl)) dL_isSo_635 ⟨Nat.le_of_ble_eq_true rfl, Nat.le_of_ble_eq_true rfl⟩)) hP hD hS hA rfl (fun H locs hP hD hS => ?_)
                          have hP : va_P g.1 vwCl ([(b0, .inl (g.2.1, 9, .inl G0))] ++ [(b1, .inl (g.2.1, 30, .inl G1))] ++ [(b2, .inl (g.2.1, 15, .inl G2))] ++ [(b3, .inl (g.2.1, 63, .inl G3))] ++ zX6 g a v) H := hP
                          have hD : va_D A ([(b0, .inl (g.2.1, 9, .inl G0))] ++ [(b1, .inl (g.2.1, 30, .inl G1))] ++ [(b2, .inl (g.2.1, 15, .inl G2))] ++ [(b3, .inl (g.2.1, 63, .inl G3))] ++ zX6 g a v) := hD
                          refine lv_iload hx hb dL_isSo_638 (lv_at hl 4 rfl) ?_
                          refine lv_icmp_ne (tgt := 685) hx hb dL_isSo_640 (by decide) (fun c103 => ?_) (fun c103 => ?_)
                          · have hf := oe hf c103
                            exact absurd hf (by simp)
                          · have hf := oi hf c103
                            refine lv_aload_n hx hb dL_isSo_643 rfl (lv_at hl 0 rfl) ?_
                            refine lv_bipush (v := 11) hx hb dL_isSo_644 (by decide) ?_
                            obtain ⟨u104, hu104, hf⟩ := ob hf
                            refine zkQ_i (zrun_w (vx_runSX (As := [.ref (a 0), .int 11]) (rest := []) ⟨hx, hb, hml, hown, hts⟩ (co_L_valueOf l g a v 11 _ hu104 _) (zcSX hw0 zm3_136 zmH3_138 zm1_0 zm3_137 hd_L_valueOf rfl rfl ⟨Nat.le_of_ble_eq_true rfl, Nat.le_of_ble_eq_true rfl⟩) ⟨zblind, zpreQ hK hP hD⟩ rfl rfl hl.1 rfl (lv_room (Nat.le_of_ble_eq_true rfl)) dL_isSo_646 ⟨Nat.le_of_ble_eq_true rfl, Nat.le_of_ble_eq_true rfl⟩)) hP hD hS hA rfl (fun H locs hP hD hS => ?_)
                            have hP : va_P g.1 vwCl ([(b0, .inl (g.2.1, 9, .inl G0))] ++ [(b1, .inl (g.2.1, 30, .inl G1))] ++ [(b2, .inl (g.2.1, 15, .inl G2))] ++ [(b3, .inl (g.2.1, 63, .inl G3))] ++ zX6 g a v) H := hP
                            have hD : va_D A ([(b0, .inl (g.2.1, 9, .inl G0))] ++ [(b1, .inl (g.2.1, 30, .inl G1))] ++ [(b2, .inl (g.2.1, 15, .inl G2))] ++ [(b3, .inl (g.2.1, 63, .inl G3))] ++ zX6 g a v) := hD
                            refine lv_aload_n hx hb dL_isSo_649 rfl (lv_at hl 1 rfl) ?_
                            refine lv_bipush (v := 8) hx hb dL_isSo_650 (by decide) ?_
                            refine zald (D := g.1) (f := G0) (k := 8) hx hb hK.1 hP 0 0 rfl rfl (zin_vp (i := 8) (n := 9) rfl) rfl dL_isSo_652 ?_
                            refine lv_icmp_ne (tgt := 685) hx hb dL_isSo_653 (by decide) (fun c105 => ?_) (fun c105 => ?_)
                            · have hf := oe hf c105
                              exact absurd hf (by simp)
                            · have hf := oi hf c105
                              refine lv_aload_n hx hb dL_isSo_656 rfl (lv_at hl 0 rfl) ?_
                              refine lv_bipush (v := 12) hx hb dL_isSo_657 (by decide) ?_
                              obtain ⟨u106, hu106, hf⟩ := ob hf
                              refine zkQ_i (zrun_w (vx_runSX (As := [.ref (a 0), .int 12]) (rest := []) ⟨hx, hb, hml, hown, hts⟩ (co_L_valueOf l g a v 12 _ hu106 _) (zcSX hw0 zm3_136 zmH3_138 zm1_0 zm3_137 hd_L_valueOf rfl rfl ⟨Nat.le_of_ble_eq_true rfl, Nat.le_of_ble_eq_true rfl⟩) ⟨zblind, zpreQ hK hP hD⟩ rfl rfl hl.1 rfl (lv_room (Nat.le_of_ble_eq_true rfl)) dL_isSo_659 ⟨Nat.le_of_ble_eq_true rfl, Nat.le_of_ble_eq_true rfl⟩)) hP hD hS hA rfl (fun H locs hP hD hS => ?_)
                              have hP : va_P g.1 vwCl ([(b0, .inl (g.2.1, 9, .inl G0))] ++ [(b1, .inl (g.2.1, 30, .inl G1))] ++ [(b2, .inl (g.2.1, 15, .inl G2))] ++ [(b3, .inl (g.2.1, 63, .inl G3))] ++ zX6 g a v) H := hP
                              have hD : va_D A ([(b0, .inl (g.2.1, 9, .inl G0))] ++ [(b1, .inl (g.2.1, 30, .inl G1))] ++ [(b2, .inl (g.2.1, 15, .inl G2))] ++ [(b3, .inl (g.2.1, 63, .inl G3))] ++ zX6 g a v) := hD
                              refine lv_aload_n hx hb dL_isSo_662 rfl (lv_at hl 1 rfl) ?_
                              refine lv_bipush (v := 7) hx hb dL_isSo_663 (by decide) ?_
                              refine zald (D := g.1) (f := G0) (k := 7) hx hb hK.1 hP 0 0 rfl rfl (zin_vp (i := 7) (n := 9) rfl) rfl dL_isSo_665 ?_
                              refine lv_icmp_ne (tgt := 685) hx hb dL_isSo_666 (by decide) (fun c107 => ?_) (fun c107 => ?_)
                              · have hf := oe hf c107
                                exact absurd hf (by simp)
                              · have hf := oi hf c107
                                refine lv_aload_n hx hb dL_isSo_669 rfl (lv_at hl 0 rfl) ?_
                                refine lv_bipush (v := 13) hx hb dL_isSo_670 (by decide) ?_
                                obtain ⟨u108, hu108, hf⟩ := ob hf
                                refine zkQ_i (zrun_w (vx_runSX (As := [.ref (a 0), .int 13]) (rest := []) ⟨hx, hb, hml, hown, hts⟩ (co_L_valueOf l g a v 13 _ hu108 _) (zcSX hw0 zm3_136 zmH3_138 zm1_0 zm3_137 hd_L_valueOf rfl rfl ⟨Nat.le_of_ble_eq_true rfl, Nat.le_of_ble_eq_true rfl⟩) ⟨zblind, zpreQ hK hP hD⟩ rfl rfl hl.1 rfl (lv_room (Nat.le_of_ble_eq_true rfl)) dL_isSo_672 ⟨Nat.le_of_ble_eq_true rfl, Nat.le_of_ble_eq_true rfl⟩)) hP hD hS hA rfl (fun H locs hP hD hS => ?_)
                                have hP : va_P g.1 vwCl ([(b0, .inl (g.2.1, 9, .inl G0))] ++ [(b1, .inl (g.2.1, 30, .inl G1))] ++ [(b2, .inl (g.2.1, 15, .inl G2))] ++ [(b3, .inl (g.2.1, 63, .inl G3))] ++ zX6 g a v) H := hP
                                have hD : va_D A ([(b0, .inl (g.2.1, 9, .inl G0))] ++ [(b1, .inl (g.2.1, 30, .inl G1))] ++ [(b2, .inl (g.2.1, 15, .inl G2))] ++ [(b3, .inl (g.2.1, 63, .inl G3))] ++ zX6 g a v) := hD
                                refine lv_aload_n hx hb dL_isSo_675 rfl (lv_at hl 1 rfl) ?_
                                refine lv_iconst (v := 5) hx hb dL_isSo_676 (by decide) ?_
                                refine zald (D := g.1) (f := G0) (k := 5) hx hb hK.1 hP 0 0 rfl rfl (zin_vp (i := 5) (n := 9) rfl) rfl dL_isSo_677 ?_
                                refine lv_icmp_ne (tgt := 685) hx hb dL_isSo_678 (by decide) (fun c109 => ?_) (fun c109 => ?_)
                                · have hf := oe hf c109
                                  exact absurd hf (by simp)
                                · have hf := oi hf c109
                                  refine lv_iconst (v := 1) hx hb dL_isSo_681 (by decide) ?_
                                  refine lv_goto (tgt := 686) hx hb dL_isSo_682 (by decide) ?_
                                  refine lv_istore (lv' := [(7, .int 1), (0, .ref (a 0)), (1, .ref b0), (2, .ref b1), (5, .int u1), (6, .int u54.1), (8, .int u70.2.1)]) hx hb dL_isSo_686 hl (by decide) rfl (fun ls hl => ?_)
                                  refine lv_aload_n hx hb dL_isSo_688 rfl (lv_at hl 2 rfl) ?_
                                  refine lv_iconst (v := 2) hx hb dL_isSo_689 (by decide) ?_
                                  refine zald (D := g.1) (f := G0) (k := 2) hx hb hK.1 hP 0 0 rfl rfl (zin_vp (i := 2) (n := 9) rfl) rfl dL_isSo_690 ?_
                                  obtain ⟨u110, hu110, hf⟩ := ob hf
                                  have j111 : ∀ (H : Heap) (locs : List Loc), va_P g.1 vwCl ([(b0, .inl (g.2.1, 9, .inl G0))] ++ [(b1, .inl (g.2.1, 30, .inl G1))] ++ [(b2, .inl (g.2.1, 15, .inl G2))] ++ [(b3, .inl (g.2.1, 63, .inl G3))] ++ zX6 g a v) H → va_D A ([(b0, .inl (g.2.1, 9, .inl G0))] ++ [(b1, .inl (g.2.1, 30, .inl G1))] ++ [(b2, .inl (g.2.1, 15, .inl G2))] ++ [(b3, .inl (g.2.1, 63, .inl G3))] ++ zX6 g a v) → va_S A s.heap H locs → W p l e (headSpec (zw yL_isSo cL_isSo 13 (some .boolean)) ({ frames := 8, cells := 4, slots := 24, locals := 152 } : Room)).room s m ([.ref (a 0), .ref b0, .ref b1, .ref b2, .ref b3] : List Value).toArray below meth c H locs 0 0 (MQ below (va_Qi (fun (x : Int32) (_ : Unit) => x = zb r) (fun _ => zEnd g A ([(b0, .inl (g.2.1, 9, .inl G0))] ++ [(b1, .inl (g.2.1, 30, .inl G1))] ++ [(b2, .inl (g.2.1, 15, .inl G2))] ++ [(b3, .inl (g.2.1, 63, .inl G3))] ++ zX6 g a v)) A) ([.ref (a 0), .ref b0, .ref b1, .ref b2, .ref b3] : List Value).toArray s 4 24 A) (F0 m 712 ls [.double u110]) := by
                                    intro H locs hP hD hS
                                    refine lv_dstore (lv' := [(9, .double u110), (7, .int 1), (0, .ref (a 0)), (1, .ref b0), (2, .ref b1), (5, .int u1), (6, .int u54.1), (8, .int u70.2.1)]) hx hb dL_isSo_712 hl (by decide) rfl (fun ls hl => ?_)
                                    refine lv_iload hx hb dL_isSo_714 (lv_at hl 1 rfl) ?_
                                    refine lv_if_eq (tgt := 783) hx hb dL_isSo_716 (by decide) (fun c9 => absurd c9 (by decide)) (fun _ => ?_)
                                    refine lv_aload_n hx hb dL_isSo_719 rfl (lv_at hl 2 rfl) ?_
                                    obtain ⟨u112, hu112, hf⟩ := ob hf
                                    refine zkQ_f (va_runV (As := []) (rest := []) ⟨hx, hb, hml, hown, hts⟩ (c_X6_sounding l g a v _ hu112 _) (zcVg hw0 zm3_215 zm3_218 zm1_1 zm3_216 zm3_217 hd_X6_sounding rfl rfl ⟨Nat.le_of_ble_eq_true rfl, Nat.le_of_ble_eq_true rfl⟩) ⟨zblind, zrecvQ hK hP (ci := 6) rfl rfl, zpreQ hK hP hD⟩ rfl rfl hl.1 rfl (lv_room (Nat.le_of_ble_eq_true rfl)) dL_isSo_720 ⟨Nat.le_of_ble_eq_true rfl, Nat.le_of_ble_eq_true rfl⟩) hP hD hS hA rfl (fun H locs hP hD hS => ?_)
                                    have hP : va_P g.1 vwCl ([(b0, .inl (g.2.1, 9, .inl G0))] ++ [(b1, .inl (g.2.1, 30, .inl G1))] ++ [(b2, .inl (g.2.1, 15, .inl G2))] ++ [(b3, .inl (g.2.1, 63, .inl G3))] ++ zX6 g a v) H := hP
                                    have hD : va_D A ([(b0, .inl (g.2.1, 9, .inl G0))] ++ [(b1, .inl (g.2.1, 30, .inl G1))] ++ [(b2, .inl (g.2.1, 15, .inl G2))] ++ [(b3, .inl (g.2.1, 63, .inl G3))] ++ zX6 g a v) := hD
                                    refine lv_dload hx hb dL_isSo_723 (lv_at hl 0 rfl) ?_
                                    refine lv_dcmp hx hb dL_isSo_725 ?_
                                    refine lv_if_ne (tgt := 783) hx hb dL_isSo_726 (by decide) (fun c113 => ?_) (fun c113 => ?_)
                                    · have hf := oe hf c113
                                      exact absurd hf (by simp)
                                    · have hf := oi hf c113
                                      refine lv_aload_n hx hb dL_isSo_729 rfl (lv_at hl 2 rfl) ?_
                                      refine lv_aload_n hx hb dL_isSo_730 rfl (lv_at hl 3 rfl) ?_
                                      refine lv_iconst (v := 0) hx hb dL_isSo_731 (by decide) ?_
                                      refine zald (D := g.1) (f := G0) (k := 0) hx hb hK.1 hP 0 0 rfl rfl (zin_vp (i := 0) (n := 9) rfl) rfl dL_isSo_732 ?_
                                      refine lv_iconst (v := 0) hx hb dL_isSo_733 (by decide) ?_
                                      obtain ⟨u114, hu114, hf⟩ := ob hf
                                      refine zkQ_i (zrun_w (vx_runSX (As := [.ref (a 0), .int (G0 0), .int 0]) (rest := []) ⟨hx, hb, hml, hown, hts⟩ (ca_L_elementOf l hst9 g a v (G0 0) 0 _ hu114 _) (zcSX hw0 zm3_156 zmH3_158 zm1_0 zm3_157 hd_L_elementOf rfl rfl ⟨Nat.le_of_ble_eq_true rfl, Nat.le_of_ble_eq_true rfl⟩) ⟨zblindL, zpreWQ hK hKx hZs hNc hP hD hS hA⟩ rfl rfl hl.1 rfl (lv_room (Nat.le_of_ble_eq_true rfl)) dL_isSo_734 ⟨Nat.le_of_ble_eq_true rfl, Nat.le_of_ble_eq_true rfl⟩)) hP hD hS hA rfl (fun H locs hP hD hS => ?_)
                                      have hP : va_P g.1 vwCl ([(b0, .inl (g.2.1, 9, .inl G0))] ++ [(b1, .inl (g.2.1, 30, .inl G1))] ++ [(b2, .inl (g.2.1, 15, .inl G2))] ++ [(b3, .inl (g.2.1, 63, .inl G3))] ++ zX6 g a v) H := hP
                                      have hD : va_D A ([(b0, .inl (g.2.1, 9, .inl G0))] ++ [(b1, .inl (g.2.1, 30, .inl G1))] ++ [(b2, .inl (g.2.1, 15, .inl G2))] ++ [(b3, .inl (g.2.1, 63, .inl G3))] ++ zX6 g a v) := hD
                                      refine lv_ldc (v := -2000001) hx hb hown (hw0 _ zm2_197) dL_isSo_737 ?_
                                      refine lv_icmp_ne (tgt := 783) hx hb dL_isSo_739 (by decide) (fun c115 => ?_) (fun c115 => ?_)
                                      · have hf := oe hf c115
                                        exact absurd hf (by simp)
                                      · have hf := oi hf c115
                                        refine lv_aload_n hx hb dL_isSo_742 rfl (lv_at hl 2 rfl) ?_
                                        refine lv_aload_n hx hb dL_isSo_743 rfl (lv_at hl 3 rfl) ?_
                                        refine lv_iconst (v := 1) hx hb dL_isSo_744 (by decide) ?_
                                        refine zald (D := g.1) (f := G0) (k := 1) hx hb hK.1 hP 0 0 rfl rfl (zin_vp (i := 1) (n := 9) rfl) rfl dL_isSo_745 ?_
                                        refine lv_iconst (v := 0) hx hb dL_isSo_746 (by decide) ?_
                                        obtain ⟨u116, hu116, hf⟩ := ob hf
                                        refine zkQ_i (zrun_w (vx_runSX (As := [.ref (a 0), .int (G0 1), .int 0]) (rest := []) ⟨hx, hb, hml, hown, hts⟩ (ca_L_fillerOf l hst9 g a v (G0 1) 0 _ hu116 _) (zcSX hw0 zm3_184 zmH3_186 zm1_0 zm3_185 hd_L_fillerOf rfl rfl ⟨Nat.le_of_ble_eq_true rfl, Nat.le_of_ble_eq_true rfl⟩) ⟨zblindL, zpreWQ hK hKx hZs hNc hP hD hS hA⟩ rfl rfl hl.1 rfl (lv_room (Nat.le_of_ble_eq_true rfl)) dL_isSo_747 ⟨Nat.le_of_ble_eq_true rfl, Nat.le_of_ble_eq_true rfl⟩)) hP hD hS hA rfl (fun H locs hP hD hS => ?_)
                                        have hP : va_P g.1 vwCl ([(b0, .inl (g.2.1, 9, .inl G0))] ++ [(b1, .inl (g.2.1, 30, .inl G1))] ++ [(b2, .inl (g.2.1, 15, .inl G2))] ++ [(b3, .inl (g.2.1, 63, .inl G3))] ++ zX6 g a v) H := hP
                                        have hD : va_D A ([(b0, .inl (g.2.1, 9, .inl G0))] ++ [(b1, .inl (g.2.1, 30, .inl G1))] ++ [(b2, .inl (g.2.1, 15, .inl G2))] ++ [(b3, .inl (g.2.1, 63, .inl G3))] ++ zX6 g a v) := hD
                                        refine lv_ldc (v := -2000001) hx hb hown (hw0 _ zm2_197) dL_isSo_750 ?_
                                        refine lv_icmp_ne (tgt := 783) hx hb dL_isSo_752 (by decide) (fun c117 => ?_) (fun c117 => ?_)
                                        · have hf := oe hf c117
                                          exact absurd hf (by simp)
                                        · have hf := oi hf c117
                                          refine lv_aload_n hx hb dL_isSo_755 rfl (lv_at hl 2 rfl) ?_
                                          refine lv_aload_n hx hb dL_isSo_756 rfl (lv_at hl 3 rfl) ?_
                                          refine lv_bipush (v := 8) hx hb dL_isSo_757 (by decide) ?_
                                          refine zald (D := g.1) (f := G0) (k := 8) hx hb hK.1 hP 0 0 rfl rfl (zin_vp (i := 8) (n := 9) rfl) rfl dL_isSo_759 ?_
                                          refine lv_iconst (v := 0) hx hb dL_isSo_760 (by decide) ?_
                                          obtain ⟨u118, hu118, hf⟩ := ob hf
                                          refine zkQ_i (zrun_w (vx_runSX (As := [.ref (a 0), .int (G0 8), .int 0]) (rest := []) ⟨hx, hb, hml, hown, hts⟩ (ca_L_entryOf l hst9 g a v (G0 8) 0 _ hu118 _) (zcSX hw0 zm3_198 zmH3_200 zm1_0 zm3_199 hd_L_entryOf rfl rfl ⟨Nat.le_of_ble_eq_true rfl, Nat.le_of_ble_eq_true rfl⟩) ⟨zblindL, zpreWQ hK hKx hZs hNc hP hD hS hA⟩ rfl rfl hl.1 rfl (lv_room (Nat.le_of_ble_eq_true rfl)) dL_isSo_761 ⟨Nat.le_of_ble_eq_true rfl, Nat.le_of_ble_eq_true rfl⟩)) hP hD hS hA rfl (fun H locs hP hD hS => ?_)
                                          have hP : va_P g.1 vwCl ([(b0, .inl (g.2.1, 9, .inl G0))] ++ [(b1, .inl (g.2.1, 30, .inl G1))] ++ [(b2, .inl (g.2.1, 15, .inl G2))] ++ [(b3, .inl (g.2.1, 63, .inl G3))] ++ zX6 g a v) H := hP
                                          have hD : va_D A ([(b0, .inl (g.2.1, 9, .inl G0))] ++ [(b1, .inl (g.2.1, 30, .inl G1))] ++ [(b2, .inl (g.2.1, 15, .inl G2))] ++ [(b3, .inl (g.2.1, 63, .inl G3))] ++ zX6 g a v) := hD
                                          refine lv_ldc (v := -2000001) hx hb hown (hw0 _ zm2_197) dL_isSo_764 ?_
                                          refine lv_icmp_ne (tgt := 783) hx hb dL_isSo_766 (by decide) (fun c119 => ?_) (fun c119 => ?_)
                                          · have hf := oe hf c119
                                            exact absurd hf (by simp)
                                          · have hf := oi hf c119
                                            refine lv_aload_n hx hb dL_isSo_769 rfl (lv_at hl 2 rfl) ?_
                                            refine lv_iconst (v := (-1)) hx hb dL_isSo_770 (by decide) ?_
                                            obtain ⟨u120, hu120, hf⟩ := ob hf
                                            refine zkQ_i (zrun_w (vx_runSX (As := [.ref (a 0), .int (-1)]) (rest := []) ⟨hx, hb, hml, hown, hts⟩ (ca_L_backOf l hst9 g a v (-1) _ hu120 _) (zcSX hw0 zm3_173 zmH3_175 zm1_0 zm3_174 hd_L_backOf rfl rfl ⟨Nat.le_of_ble_eq_true rfl, Nat.le_of_ble_eq_true rfl⟩) ⟨zblindL, zpreWQ hK hKx hZs hNc hP hD hS hA⟩ rfl rfl hl.1 rfl (lv_room (Nat.le_of_ble_eq_true rfl)) dL_isSo_771 ⟨Nat.le_of_ble_eq_true rfl, Nat.le_of_ble_eq_true rfl⟩)) hP hD hS hA rfl (fun H locs hP hD hS => ?_)
                                            have hP : va_P g.1 vwCl ([(b0, .inl (g.2.1, 9, .inl G0))] ++ [(b1, .inl (g.2.1, 30, .inl G1))] ++ [(b2, .inl (g.2.1, 15, .inl G2))] ++ [(b3, .inl (g.2.1, 63, .inl G3))] ++ zX6 g a v) H := hP
                                            have hD : va_D A ([(b0, .inl (g.2.1, 9, .inl G0))] ++ [(b1, .inl (g.2.1, 30, .inl G1))] ++ [(b2, .inl (g.2.1, 15, .inl G2))] ++ [(b3, .inl (g.2.1, 63, .inl G3))] ++ zX6 g a v) := hD
                                            refine lv_ldc (v := -2000001) hx hb hown (hw0 _ zm2_197) dL_isSo_774 ?_
                                            refine lv_icmp_ne (tgt := 783) hx hb dL_isSo_776 (by decide) (fun c121 => ?_) (fun c121 => ?_)
                                            · have hf := oe hf c121
                                              exact absurd hf (by simp)
                                            · have hf := oi hf c121
                                              refine lv_iconst (v := 1) hx hb dL_isSo_779 (by decide) ?_
                                              refine lv_goto (tgt := 784) hx hb dL_isSo_780 (by decide) ?_
                                              have hR : true = r := Option.some.inj hf
                                              rw [← hR]
                                              refine W.widen (k := 4) (n := 24) (Nat.le_of_ble_eq_true rfl) (Nat.le_of_ble_eq_true rfl) ?_
                                              exact W.zret (v := zb true) hx hb hr0 (zb_nar true) (fun t ht hW => ⟨⟨zb true, (), rfl, rfl, by rw [ht]; exact hP, hD⟩, hS.F ht⟩) hS.2.2 dL_isSo_784
                                  have hf := hu110
                                  refine lv_if_ne (tgt := 698) hx hb dL_isSo_691 (by decide) (fun c122 => ?_) (fun c122 => ?_)
                                  · have hf := oe hf c122
                                    refine lv_aload_n hx hb dL_isSo_698 rfl (lv_at hl 2 rfl) ?_
                                    refine lv_iconst (v := 2) hx hb dL_isSo_699 (by decide) ?_
                                    refine zald (D := g.1) (f := G0) (k := 2) hx hb hK.1 hP 0 0 rfl rfl (zin_vp (i := 2) (n := 9) rfl) rfl dL_isSo_700 ?_
                                    refine lv_aload_n hx hb dL_isSo_701 rfl (lv_at hl 2 rfl) ?_
                                    refine lv_bipush (v := 6) hx hb dL_isSo_702 (by decide) ?_
                                    refine zald (D := g.1) (f := G0) (k := 6) hx hb hK.1 hP 0 0 rfl rfl (zin_vp (i := 6) (n := 9) rfl) rfl dL_isSo_704 ?_
                                    refine lv_isub hx hb dL_isSo_705 ?_
                                    refine lv_i2d hx hb dL_isSo_706 ?_
                                    refine lv_aload_n hx hb dL_isSo_707 rfl (lv_at hl 2 rfl) ?_
                                    refine lv_iconst (v := 2) hx hb dL_isSo_708 (by decide) ?_
                                    refine zald (D := g.1) (f := G0) (k := 2) hx hb hK.1 hP 0 0 rfl rfl (zin_vp (i := 2) (n := 9) rfl) rfl dL_isSo_709 ?_
                                    refine lv_i2d hx hb dL_isSo_710 ?_
                                    obtain ⟨h123, hf⟩ := og hf
                                    refine lv_ddiv hx hb dL_isSo_711 (zn64_n h123) ?_
                                    exact zeqf (Option.some.inj hf) (j111 _ _ hP hD hS)
                                  · have hf := oi hf c122
                                    refine lv_dconst1 hx hb dL_isSo_694 ?_
                                    refine lv_goto (tgt := 712) hx hb dL_isSo_695 (by decide) ?_
                                    exact zeqf (Option.some.inj hf) (j111 _ _ hP hD hS)
                      have hf := hu99
                      refine lv_icmp_ne (tgt := 628) hx hb dL_isSo_615 (by decide) (fun c124 => ?_) (fun c124 => ?_)
                      · have hf := oe hf c124
                        refine lv_iconst (v := (-1)) hx hb dL_isSo_628 (by decide) ?_
                        exact zeqi (Option.some.inj hf) (j100 _ _ hP hD hS)
                      · have hf := oi hf c124
                        refine lv_aload_n hx hb dL_isSo_618 rfl (lv_at hl 1 rfl) ?_
                        refine lv_iconst (v := 2) hx hb dL_isSo_619 (by decide) ?_
                        refine zald (D := g.1) (f := G0) (k := 2) hx hb hK.1 hP 0 0 rfl rfl (zin_vp (i := 2) (n := 9) rfl) rfl dL_isSo_620 ?_
                        refine lv_sipush (v := 3600) hx hb dL_isSo_621 (by decide) ?_
                        refine lv_isub hx hb dL_isSo_624 ?_
                        refine lv_goto (tgt := 629) hx hb dL_isSo_625 (by decide) ?_
                        exact zeqi (Option.some.inj hf) (j100 _ _ hP hD hS)
