theorem hd_L_next : yL_next.cls ≠ "java/lang/invoke/MethodHandle" ∧ yL_next.cls ≠ "java/lang/invoke/VarHandle" ∧ (parseMethodDescriptor yL_next.desc).map (fun d => d.parameters.length) = some 4 := by decide +kernel
def s_L_next_50 (G0 : FF) (G1 : FF) (G2 : FF) (G3 : FF) (i4 : Int32) (i5 : Int32) (x : Int32 × Int32) : Option ((Int32 × Int32) ⊕ (Int32 × Int32)) :=
  if x.2 < 0 then
    some (.inr (x.1, x.2))
  else
    if zin ((5 * x.2) + 3) 30 = true then
    if (G1 ((5 * x.2) + 3).toNatClampNeg) = 0 then
      if zin ((5 * x.2) + 2) 30 = true then
      if 0 ≤ x.1 then
        if zin ((5 * x.1) + 2) 30 = true then
        if (G1 ((5 * x.1) + 2).toNatClampNeg) ≤ (G1 ((5 * x.2) + 2).toNatClampNeg) then
          some (.inl (x.1, (x.2 + (-1))))
        else
          some (.inl (x.2, (x.2 + (-1))))
        else none
      else
        if 9 ≤ (G1 ((5 * x.2) + 2).toNatClampNeg) then
          some (.inl (x.1, (x.2 + (-1))))
        else
          some (.inl (x.2, (x.2 + (-1))))
      else none
    else
      some (.inl (x.1, (x.2 + (-1))))
    else none
def s_L_next_20 (G0 : FF) (G1 : FF) (G2 : FF) (G3 : FF) (i4 : Int32) (i5 : Int32) (x : Int32 × FF × FF × FF) : Option ((Int32 × FF × FF × FF) ⊕ (Int32 × FF × FF × FF)) :=
  if x.1 = 0 then
    some (.inr (x.1, x.2.1, x.2.2.1, x.2.2.2))
  else
    (f_L_sum x.2.2.1 0 i4).bind (fun u4 =>
    if ((x.2.1 2) + u4) ≤ i5 then
      some (.inr (x.1, x.2.1, x.2.2.1, x.2.2.2))
    else
      (zloop (s_L_next_50 x.2.1 x.2.2.1 G2 x.2.2.2 i4 i5) 10000 ((-1), (i4 - 1))).bind (fun u14 =>
      if u14.1 < 0 then
        some (.inl (0, x.2.1, x.2.2.1, x.2.2.2))
      else
        if zin ((5 * u14.1) + 3) 30 = true then
        (f_L_notes x.2.1 x.2.2.2 3 u14.1).bind (fun u17 =>
        some (.inl (1, u17.1, (upd x.2.2.1 (((5 * u14.1) + 3).toNatClampNeg) 3), u17.2)))
        else none))
def s_L_next_150 (G0 : FF) (G1 : FF) (G2 : FF) (G3 : FF) (i4 : Int32) (i5 : Int32) (x : Int32) : Option ((Int32) ⊕ (Int32)) :=
  if i4 ≤ x then
    some (.inr x)
  else
    if zin ((5 * x) + 3) 30 = true then
    if (G1 ((5 * x) + 3).toNatClampNeg) = 0 then
      some (.inr x)
    else
      some (.inl (x + 1))
    else none
def s_L_next_248 (G0 : FF) (G1 : FF) (G2 : FF) (G3 : FF) (i8 : Int32) (x : Int32) : Option ((Int32) ⊕ (Int32)) :=
  if ((i8 >>> (x &&& 31)) &&& 1) = 0 then
    some (.inl (x + 1))
  else
    some (.inr x)
def f_L_next (G0 : FF) (G1 : FF) (G2 : FF) (G3 : FF) : Option (FF × FF × FF × FF) :=
  (f_L_fixed G0 G1 0).bind (fun u1 =>
  (f_L_timeAt G0 G1 u1).bind (fun u2 =>
  (zloop (s_L_next_20 G0 G1 G2 G3 u1 u2) 10000 (1, G0, G1, G3)).bind (fun u18 =>
  (zloop (s_L_next_150 u18.2.1 u18.2.2.1 G2 u18.2.2.2 u1 u2) 10000 0).bind (fun u22 =>
  (if u22 < u1 then
    some 0
  else
    if (u18.2.1 2) < u2 then
      (f_L_choice u18.2.1 G2 (u2 - (u18.2.1 2))).bind (fun u49 =>
      some u49)
    else
      some 0 : Option Int32).bind (fun u23 =>
  if (u18.2.1 0) ≤ u22 then
    if u23 ≤ 0 then
      if u2 ≤ (u18.2.1 2) then
        some ((upd u18.2.1 3 1), u18.2.2.1, G2, u18.2.2.2)
      else
        (f_L_notes (upd (upd u18.2.1 4 40) 5 (u2 - (u18.2.1 2))) u18.2.2.2 2 (-1)).bind (fun u28 =>
        some (u28.1, u18.2.2.1, G2, u28.2))
    else
      (zloop (s_L_next_248 u18.2.1 u18.2.2.1 G2 u18.2.2.2 u23) 10000 0).bind (fun u30 =>
      if zin ((3 * u30) + 1) 15 = true then
      if zin ((3 * u30) + 2) 15 = true then
      if zin (3 * u30) 15 = true then
      (f_L_notes (upd (upd u18.2.1 4 (21 + u30)) 5 ((upd (upd G2 (((3 * u30) + 1).toNatClampNeg) 1) (((3 * u30) + 2).toNatClampNeg) (u18.2.1 2)) (3 * u30).toNatClampNeg)) u18.2.2.2 1 u30).bind (fun u34 =>
      some (u34.1, u18.2.2.1, (upd (upd G2 (((3 * u30) + 1).toNatClampNeg) 1) (((3 * u30) + 2).toNatClampNeg) (u18.2.1 2)), u34.2))
      else none
      else none
      else none)
  else
    if u22 < u1 then
      (f_L_begins u18.2.1 u18.2.2.1 u18.2.2.2 u22).bind (fun u36 =>
      some (u36.1, u36.2.1, G2, u36.2.2))
    else
      if (u18.2.1 2) < u2 then
        if u23 ≤ 0 then
          if u2 ≤ (u18.2.1 2) then
            some ((upd u18.2.1 3 1), u18.2.2.1, G2, u18.2.2.2)
          else
            (f_L_notes (upd (upd u18.2.1 4 40) 5 (u2 - (u18.2.1 2))) u18.2.2.2 2 (-1)).bind (fun u40 =>
            some (u40.1, u18.2.2.1, G2, u40.2))
        else
          (zloop (s_L_next_248 u18.2.1 u18.2.2.1 G2 u18.2.2.2 u23) 10000 0).bind (fun u41 =>
          if zin ((3 * u41) + 1) 15 = true then
          if zin ((3 * u41) + 2) 15 = true then
          if zin (3 * u41) 15 = true then
          (f_L_notes (upd (upd u18.2.1 4 (21 + u41)) 5 ((upd (upd G2 (((3 * u41) + 1).toNatClampNeg) 1) (((3 * u41) + 2).toNatClampNeg) (u18.2.1 2)) (3 * u41).toNatClampNeg)) u18.2.2.2 1 u41).bind (fun u45 =>
          some (u45.1, u18.2.2.1, (upd (upd G2 (((3 * u41) + 1).toNatClampNeg) 1) (((3 * u41) + 2).toNatClampNeg) (u18.2.1 2)), u45.2))
          else none
          else none
          else none)
      else
        (f_L_begins u18.2.1 u18.2.2.1 u18.2.2.2 u22).bind (fun u46 =>
        some (u46.1, u46.2.1, G2, u46.2.2)))))))
set_option maxHeartbeats 4000000 in
set_option maxRecDepth 100000 in
theorem c_L_next (l : Launch) (g : zG) (b0 : Nat) (b1 : Nat) (b2 : Nat) (b3 : Nat) (G0 : FF) (G1 : FF) (G2 : FF) (G3 : FF) (r : FF × FF × FF × FF) (hf : f_L_next G0 G1 G2 G3 = some r) : zMv zNF zNM l yL_next (zw yL_next cL_next 10 none) ({ frames := 2, cells := 0, slots := 0, locals := 52 } : Room) g [.ref b0, .ref b1, .ref b2, .ref b3] ([(b0, .inl (g.2.1, 9, .inl G0))] ++ [(b1, .inl (g.2.1, 30, .inl G1))] ++ [(b2, .inl (g.2.1, 15, .inl G2))] ++ [(b3, .inl (g.2.1, 63, .inl G3))]) ([(b0, .inl (g.2.1, 9, .inl r.1))] ++ [(b1, .inl (g.2.1, 30, .inl r.2.1))] ++ [(b2, .inl (g.2.1, 15, .inl r.2.2.1))] ++ [(b3, .inl (g.2.1, 63, .inl r.2.2.2))]) := by
  intro sz
  refine Met.ofW (cc := cL_next) (maxL := 10) (ret := none) (by decide) rfl ?_
  intro p e s m args below meth c s₁ B hml hv
  obtain ⟨rfl, hsz, hP, hK, hD0⟩ := hv
  have hx := B.exec
  have hb := B.bytes
  have hr0 := B.returns
  have hts := atoms_spec (ws := (zw yL_next cL_next 10 none)) B.pre
  have hw0 : ∀ w ∈ zW, w.before ([.ref b0, .ref b1, .ref b2, .ref b3] : List Value).toArray s = true := fun w h => hts w (List.mem_cons_of_mem _ h)
  have hown : s.vm.findClass RL = some m.cls := findClass_of_methodNamed B.named
  have hlocks := B.notSynchronized
  subst hsz
  have hD := hD0.self (sz := s.heap.size)
  generalize hAe : va_A ([(b0, .inl (g.2.1, 9, .inl G0))] ++ [(b1, .inl (g.2.1, 30, .inl G1))] ++ [(b2, .inl (g.2.1, 15, .inl G2))] ++ [(b3, .inl (g.2.1, 63, .inl G3))]) s.heap.size = A at hD ⊢
  have hA : ∀ q : Nat, s.heap.size ≤ q → A q := fun q h => by rw [← hAe]; exact Or.inr h
  have hS : va_S A s.heap s.heap [] := va_S.rf
  have lp50 : ∀ (G0 : FF) (G1 : FF) (G2 : FF) (G3 : FF) (i4 : Int32) (i5 : Int32), ∀ (n : Nat) (x : Int32 × Int32) (rr : Int32 × Int32), zloop (s_L_next_50 G0 G1 G2 G3 i4 i5) n x = some rr → (∀ (H : Heap) (locs : List Loc), va_P g.1 vwCl ([(b0, .inl (g.2.1, 9, .inl G0))] ++ [(b1, .inl (g.2.1, 30, .inl G1))] ++ [(b2, .inl (g.2.1, 15, .inl G2))] ++ [(b3, .inl (g.2.1, 63, .inl G3))]) H → va_D A ([(b0, .inl (g.2.1, 9, .inl G0))] ++ [(b1, .inl (g.2.1, 30, .inl G1))] ++ [(b2, .inl (g.2.1, 15, .inl G2))] ++ [(b3, .inl (g.2.1, 63, .inl G3))]) → va_S A s.heap H locs → ∀ ls : Array Slot, lv_has ls 10 [(0, .ref b0), (1, .ref b1), (2, .ref b2), (3, .ref b3), (4, .int i4), (5, .int i5), (7, .int rr.1)] → W p l e (headSpec (zw yL_next cL_next 10 none) ({ frames := 2, cells := 0, slots := 0, locals := 52 } : Room)).room s m ([.ref b0, .ref b1, .ref b2, .ref b3] : List Value).toArray below meth c H locs 0 0 (MQ below (va_Qv (fun (_ : Unit) => True) (fun _ => zEnd g A ([(b0, .inl (g.2.1, 9, .inl r.1))] ++ [(b1, .inl (g.2.1, 30, .inl r.2.1))] ++ [(b2, .inl (g.2.1, 15, .inl r.2.2.1))] ++ [(b3, .inl (g.2.1, 63, .inl r.2.2.2))])) A) ([.ref b0, .ref b1, .ref b2, .ref b3] : List Value).toArray s 0 0 A) (F0 m 110 ls [])) → ∀ (H : Heap) (locs : List Loc), va_P g.1 vwCl ([(b0, .inl (g.2.1, 9, .inl G0))] ++ [(b1, .inl (g.2.1, 30, .inl G1))] ++ [(b2, .inl (g.2.1, 15, .inl G2))] ++ [(b3, .inl (g.2.1, 63, .inl G3))]) H → va_D A ([(b0, .inl (g.2.1, 9, .inl G0))] ++ [(b1, .inl (g.2.1, 30, .inl G1))] ++ [(b2, .inl (g.2.1, 15, .inl G2))] ++ [(b3, .inl (g.2.1, 63, .inl G3))]) → va_S A s.heap H locs → ∀ ls : Array Slot, lv_has ls 10 [(0, .ref b0), (1, .ref b1), (2, .ref b2), (3, .ref b3), (4, .int i4), (5, .int i5), (7, .int x.1), (8, .int x.2)] → W p l e (headSpec (zw yL_next cL_next 10 none) ({ frames := 2, cells := 0, slots := 0, locals := 52 } : Room)).room s m ([.ref b0, .ref b1, .ref b2, .ref b3] : List Value).toArray below meth c H locs 0 0 (MQ below (va_Qv (fun (_ : Unit) => True) (fun _ => zEnd g A ([(b0, .inl (g.2.1, 9, .inl r.1))] ++ [(b1, .inl (g.2.1, 30, .inl r.2.1))] ++ [(b2, .inl (g.2.1, 15, .inl r.2.2.1))] ++ [(b3, .inl (g.2.1, 63, .inl r.2.2.2))])) A) ([.ref b0, .ref b1, .ref b2, .ref b3] : List Value).toArray s 0 0 A) (F0 m 50 ls []) := by
    intro G0 G1 G2 G3 i4 i5
    refine zloop_ind ?_
    intro x y rr hf ih hr hQ H locs hP hD hS ls hl
    unfold s_L_next_50 at hf
    refine lv_iload hx hb dL_next_50 (lv_at hl 7 rfl) ?_
    refine lv_if_lt (tgt := 110) hx hb dL_next_52 (by decide) (fun c6 => ?_) (fun c6 => ?_)
    · have hf := oi hf c6
      have hR : (x.1, x.2) = rr := hr _ (Option.some.inj hf).symm
      subst hR
      exact hQ _ _ hP hD hS _ (lv_sub hl [0, 1, 2, 3, 4, 5, 6] rfl)
    · have hf := oe hf c6
      refine lv_aload_n hx hb dL_next_55 rfl (lv_at hl 1 rfl) ?_
      refine lv_iconst (v := 5) hx hb dL_next_56 (by decide) ?_
      refine lv_iload hx hb dL_next_57 (lv_at hl 7 rfl) ?_
      refine lv_imul hx hb dL_next_59 ?_
      refine lv_iconst (v := 3) hx hb dL_next_60 (by decide) ?_
      refine lv_iadd hx hb dL_next_61 ?_
      obtain ⟨h7, hf⟩ := og hf
      refine zald (D := g.1) (f := G1) (k := ((5 * x.2) + 3).toNatClampNeg) hx hb hK.1 hP 1 0 rfl rfl (zin_vp h7) rfl dL_next_62 ?_
      refine lv_if_ne (tgt := 100) hx hb dL_next_63 (by decide) (fun c8 => ?_) (fun c8 => ?_)
      · have hf := oe hf c8
        refine lv_iload hx hb dL_next_100 (lv_at hl 6 rfl) ?_
        refine lv_istore (lv' := [(7, .int x.1), (0, .ref b0), (1, .ref b1), (2, .ref b2), (3, .ref b3), (4, .int i4), (5, .int i5), (8, .int x.2)]) hx hb dL_next_102 hl (by decide) rfl (fun ls hl => ?_)
        refine lv_iinc (v := (x.2 + (-1))) (lv' := [(8, .int (x.2 + (-1))), (7, .int x.1), (0, .ref b0), (1, .ref b1), (2, .ref b2), (3, .ref b3), (4, .int i4), (5, .int i5)]) hx hb dL_next_104 hl (k := 7) rfl rfl (by decide) rfl (fun ls hl => ?_)
        refine lv_goto (tgt := 50) hx hb dL_next_107 (by decide) ?_
        exact ih (x.1, (x.2 + (-1))) (Option.some.inj hf).symm hQ _ _ hP hD hS _ (lv_sub hl [2, 3, 4, 5, 6, 7, 1, 0] rfl)
      · have hf := oi hf c8
        refine lv_aload_n hx hb dL_next_66 rfl (lv_at hl 1 rfl) ?_
        refine lv_iconst (v := 5) hx hb dL_next_67 (by decide) ?_
        refine lv_iload hx hb dL_next_68 (lv_at hl 7 rfl) ?_
        refine lv_imul hx hb dL_next_70 ?_
        refine lv_iconst (v := 2) hx hb dL_next_71 (by decide) ?_
        refine lv_iadd hx hb dL_next_72 ?_
        obtain ⟨h9, hf⟩ := og hf
        refine zald (D := g.1) (f := G1) (k := ((5 * x.2) + 2).toNatClampNeg) hx hb hK.1 hP 1 0 rfl rfl (zin_vp h9) rfl dL_next_73 ?_
        refine lv_iload hx hb dL_next_74 (lv_at hl 6 rfl) ?_
        refine lv_if_ge (tgt := 84) hx hb dL_next_76 (by decide) (fun c10 => ?_) (fun c10 => ?_)
        · have hf := oi hf c10
          refine lv_aload_n hx hb dL_next_84 rfl (lv_at hl 1 rfl) ?_
          refine lv_iconst (v := 5) hx hb dL_next_85 (by decide) ?_
          refine lv_iload hx hb dL_next_86 (lv_at hl 6 rfl) ?_
          refine lv_imul hx hb dL_next_88 ?_
          refine lv_iconst (v := 2) hx hb dL_next_89 (by decide) ?_
          refine lv_iadd hx hb dL_next_90 ?_
          obtain ⟨h11, hf⟩ := og hf
          refine zald (D := g.1) (f := G1) (k := ((5 * x.1) + 2).toNatClampNeg) hx hb hK.1 hP 1 0 rfl rfl (zin_vp h11) rfl dL_next_91 ?_
          refine lv_icmp_ge (tgt := 100) hx hb dL_next_92 (by decide) (fun c12 => ?_) (fun c12 => ?_)
          · have hf := oi hf c12
            refine lv_iload hx hb dL_next_100 (lv_at hl 6 rfl) ?_
            refine lv_istore (lv' := [(7, .int x.1), (0, .ref b0), (1, .ref b1), (2, .ref b2), (3, .ref b3), (4, .int i4), (5, .int i5), (8, .int x.2)]) hx hb dL_next_102 hl (by decide) rfl (fun ls hl => ?_)
            refine lv_iinc (v := (x.2 + (-1))) (lv' := [(8, .int (x.2 + (-1))), (7, .int x.1), (0, .ref b0), (1, .ref b1), (2, .ref b2), (3, .ref b3), (4, .int i4), (5, .int i5)]) hx hb dL_next_104 hl (k := 7) rfl rfl (by decide) rfl (fun ls hl => ?_)
            refine lv_goto (tgt := 50) hx hb dL_next_107 (by decide) ?_
            exact ih (x.1, (x.2 + (-1))) (Option.some.inj hf).symm hQ _ _ hP hD hS _ (lv_sub hl [2, 3, 4, 5, 6, 7, 1, 0] rfl)
          · have hf := oe hf c12
            refine lv_iload hx hb dL_next_95 (lv_at hl 7 rfl) ?_
            refine lv_goto (tgt := 102) hx hb dL_next_97 (by decide) ?_
            refine lv_istore (lv' := [(7, .int x.2), (0, .ref b0), (1, .ref b1), (2, .ref b2), (3, .ref b3), (4, .int i4), (5, .int i5), (8, .int x.2)]) hx hb dL_next_102 hl (by decide) rfl (fun ls hl => ?_)
            refine lv_iinc (v := (x.2 + (-1))) (lv' := [(8, .int (x.2 + (-1))), (7, .int x.2), (0, .ref b0), (1, .ref b1), (2, .ref b2), (3, .ref b3), (4, .int i4), (5, .int i5)]) hx hb dL_next_104 hl (k := 7) rfl rfl (by decide) rfl (fun ls hl => ?_)
            refine lv_goto (tgt := 50) hx hb dL_next_107 (by decide) ?_
            exact ih (x.2, (x.2 + (-1))) (Option.some.inj hf).symm hQ _ _ hP hD hS _ (lv_sub hl [2, 3, 4, 5, 6, 7, 1, 0] rfl)
        · have hf := oe hf c10
          refine lv_bipush (v := 9) hx hb dL_next_79 (by decide) ?_
          refine lv_goto (tgt := 92) hx hb dL_next_81 (by decide) ?_
          refine lv_icmp_ge (tgt := 100) hx hb dL_next_92 (by decide) (fun c13 => ?_) (fun c13 => ?_)
          · have hf := oi hf c13
            refine lv_iload hx hb dL_next_100 (lv_at hl 6 rfl) ?_
            refine lv_istore (lv' := [(7, .int x.1), (0, .ref b0), (1, .ref b1), (2, .ref b2), (3, .ref b3), (4, .int i4), (5, .int i5), (8, .int x.2)]) hx hb dL_next_102 hl (by decide) rfl (fun ls hl => ?_)
            refine lv_iinc (v := (x.2 + (-1))) (lv' := [(8, .int (x.2 + (-1))), (7, .int x.1), (0, .ref b0), (1, .ref b1), (2, .ref b2), (3, .ref b3), (4, .int i4), (5, .int i5)]) hx hb dL_next_104 hl (k := 7) rfl rfl (by decide) rfl (fun ls hl => ?_)
            refine lv_goto (tgt := 50) hx hb dL_next_107 (by decide) ?_
            exact ih (x.1, (x.2 + (-1))) (Option.some.inj hf).symm hQ _ _ hP hD hS _ (lv_sub hl [2, 3, 4, 5, 6, 7, 1, 0] rfl)
          · have hf := oe hf c13
            refine lv_iload hx hb dL_next_95 (lv_at hl 7 rfl) ?_
            refine lv_goto (tgt := 102) hx hb dL_next_97 (by decide) ?_
            refine lv_istore (lv' := [(7, .int x.2), (0, .ref b0), (1, .ref b1), (2, .ref b2), (3, .ref b3), (4, .int i4), (5, .int i5), (8, .int x.2)]) hx hb dL_next_102 hl (by decide) rfl (fun ls hl => ?_)
            refine lv_iinc (v := (x.2 + (-1))) (lv' := [(8, .int (x.2 + (-1))), (7, .int x.2), (0, .ref b0), (1, .ref b1), (2, .ref b2), (3, .ref b3), (4, .int i4), (5, .int i5)]) hx hb dL_next_104 hl (k := 7) rfl rfl (by decide) rfl (fun ls hl => ?_)
            refine lv_goto (tgt := 50) hx hb dL_next_107 (by decide) ?_
            exact ih (x.2, (x.2 + (-1))) (Option.some.inj hf).symm hQ _ _ hP hD hS _ (lv_sub hl [2, 3, 4, 5, 6, 7, 1, 0] rfl)
  have lp20 : ∀ (G0 : FF) (G1 : FF) (G2 : FF) (G3 : FF) (i4 : Int32) (i5 : Int32), ∀ (n : Nat) (x : Int32 × FF × FF × FF) (rr : Int32 × FF × FF × FF), zloop (s_L_next_20 G0 G1 G2 G3 i4 i5) n x = some rr → (∀ (H : Heap) (locs : List Loc), va_P g.1 vwCl ([(b0, .inl (g.2.1, 9, .inl rr.2.1))] ++ [(b1, .inl (g.2.1, 30, .inl rr.2.2.1))] ++ [(b2, .inl (g.2.1, 15, .inl G2))] ++ [(b3, .inl (g.2.1, 63, .inl rr.2.2.2))]) H → va_D A ([(b0, .inl (g.2.1, 9, .inl rr.2.1))] ++ [(b1, .inl (g.2.1, 30, .inl rr.2.2.1))] ++ [(b2, .inl (g.2.1, 15, .inl G2))] ++ [(b3, .inl (g.2.1, 63, .inl rr.2.2.2))]) → va_S A s.heap H locs → ∀ ls : Array Slot, lv_has ls 10 [(0, .ref b0), (1, .ref b1), (2, .ref b2), (3, .ref b3), (4, .int i4), (5, .int i5)] → W p l e (headSpec (zw yL_next cL_next 10 none) ({ frames := 2, cells := 0, slots := 0, locals := 52 } : Room)).room s m ([.ref b0, .ref b1, .ref b2, .ref b3] : List Value).toArray below meth c H locs 0 0 (MQ below (va_Qv (fun (_ : Unit) => True) (fun _ => zEnd g A ([(b0, .inl (g.2.1, 9, .inl r.1))] ++ [(b1, .inl (g.2.1, 30, .inl r.2.1))] ++ [(b2, .inl (g.2.1, 15, .inl r.2.2.1))] ++ [(b3, .inl (g.2.1, 63, .inl r.2.2.2))])) A) ([.ref b0, .ref b1, .ref b2, .ref b3] : List Value).toArray s 0 0 A) (F0 m 147 ls [])) → ∀ (H : Heap) (locs : List Loc), va_P g.1 vwCl ([(b0, .inl (g.2.1, 9, .inl x.2.1))] ++ [(b1, .inl (g.2.1, 30, .inl x.2.2.1))] ++ [(b2, .inl (g.2.1, 15, .inl G2))] ++ [(b3, .inl (g.2.1, 63, .inl x.2.2.2))]) H → va_D A ([(b0, .inl (g.2.1, 9, .inl x.2.1))] ++ [(b1, .inl (g.2.1, 30, .inl x.2.2.1))] ++ [(b2, .inl (g.2.1, 15, .inl G2))] ++ [(b3, .inl (g.2.1, 63, .inl x.2.2.2))]) → va_S A s.heap H locs → ∀ ls : Array Slot, lv_has ls 10 [(0, .ref b0), (1, .ref b1), (2, .ref b2), (3, .ref b3), (4, .int i4), (5, .int i5), (6, .int x.1)] → W p l e (headSpec (zw yL_next cL_next 10 none) ({ frames := 2, cells := 0, slots := 0, locals := 52 } : Room)).room s m ([.ref b0, .ref b1, .ref b2, .ref b3] : List Value).toArray below meth c H locs 0 0 (MQ below (va_Qv (fun (_ : Unit) => True) (fun _ => zEnd g A ([(b0, .inl (g.2.1, 9, .inl r.1))] ++ [(b1, .inl (g.2.1, 30, .inl r.2.1))] ++ [(b2, .inl (g.2.1, 15, .inl r.2.2.1))] ++ [(b3, .inl (g.2.1, 63, .inl r.2.2.2))])) A) ([.ref b0, .ref b1, .ref b2, .ref b3] : List Value).toArray s 0 0 A) (F0 m 20 ls []) := by
    intro G0 G1 G2 G3 i4 i5
    refine zloop_ind ?_
    intro x y rr hf ih hr hQ H locs hP hD hS ls hl
    unfold s_L_next_20 at hf
    refine lv_iload hx hb dL_next_20 (lv_at hl 6 rfl) ?_
    refine lv_if_eq (tgt := 147) hx hb dL_next_22 (by decide) (fun c3 => ?_) (fun c3 => ?_)
    · have hf := oi hf c3
      have hR : (x.1, x.2.1, x.2.2.1, x.2.2.2) = rr := hr _ (Option.some.inj hf).symm
      subst hR
      exact hQ _ _ hP hD hS _ (lv_sub hl [0, 1, 2, 3, 4, 5] rfl)
    · have hf := oe hf c3
      refine lv_aload_n hx hb dL_next_25 rfl (lv_at hl 0 rfl) ?_
      refine lv_iconst (v := 2) hx hb dL_next_26 (by decide) ?_
      refine zald (D := g.1) (f := x.2.1) (k := 2) hx hb hK.1 hP 0 0 rfl rfl (zin_vp (i := 2) (n := 9) rfl) rfl dL_next_27 ?_
      refine lv_aload_n hx hb dL_next_28 rfl (lv_at hl 1 rfl) ?_
      refine lv_iconst (v := 0) hx hb dL_next_29 (by decide) ?_
      refine lv_iload hx hb dL_next_30 (lv_at hl 4 rfl) ?_
      obtain ⟨u4, hu4, hf⟩ := ob hf
      refine zk_iR (va_runS (As := [.ref b1, .int 0, .int i4]) (rest := [.int (x.2.1 2)]) ⟨hx, hb, hml, hown, hts⟩ (c_L_sum l g b1 x.2.2.1 0 i4 _ hu4 _) (zcS hw0 zm3_118 zm3_120 zm1_0 zm3_119 hd_L_sum rfl rfl ⟨Nat.le_of_ble_eq_true rfl, Nat.le_of_ble_eq_true rfl⟩) ⟨zblind, zpre hK hP hD [1] rfl rfl⟩ rfl rfl hl.1 rfl (lv_room (Nat.le_of_ble_eq_true rfl)) dL_next_32 ⟨Nat.zero_le _, Nat.zero_le _⟩) hP hD hS hA [1] rfl (fun H locs hP hD hS => ?_)
      refine lv_iadd hx hb dL_next_35 ?_
      refine lv_iload hx hb dL_next_36 (lv_at hl 5 rfl) ?_
      refine lv_icmp_le (tgt := 147) hx hb dL_next_38 (by decide) (fun c5 => ?_) (fun c5 => ?_)
      · have hf := oi hf c5
        have hR : (x.1, x.2.1, x.2.2.1, x.2.2.2) = rr := hr _ (Option.some.inj hf).symm
        subst hR
        exact hQ _ _ hP hD hS _ (lv_sub hl [0, 1, 2, 3, 4, 5] rfl)
      · have hf := oe hf c5
        refine lv_iconst (v := (-1)) hx hb dL_next_41 (by decide) ?_
        refine lv_istore (lv' := [(7, .int (-1)), (0, .ref b0), (1, .ref b1), (2, .ref b2), (3, .ref b3), (4, .int i4), (5, .int i5), (6, .int x.1)]) hx hb dL_next_42 hl (by decide) rfl (fun ls hl => ?_)
        refine lv_iload hx hb dL_next_44 (lv_at hl 5 rfl) ?_
        refine lv_iconst (v := 1) hx hb dL_next_46 (by decide) ?_
        refine lv_isub hx hb dL_next_47 ?_
        refine lv_istore (lv' := [(8, .int (i4 - 1)), (7, .int (-1)), (0, .ref b0), (1, .ref b1), (2, .ref b2), (3, .ref b3), (4, .int i4), (5, .int i5), (6, .int x.1)]) hx hb dL_next_48 hl (by decide) rfl (fun ls hl => ?_)
        obtain ⟨u14, hu14, hf⟩ := ob hf
        refine lp50 x.2.1 x.2.2.1 G2 x.2.2.2 i4 i5 _ _ u14 hu14 (fun H locs hP hD hS ls hl => ?_) _ _ hP hD hS _ (lv_sub hl [2, 3, 4, 5, 6, 7, 1, 0] rfl)
        have hl : lv_has ls 10 [(0, .ref b0), (1, .ref b1), (2, .ref b2), (3, .ref b3), (4, .int i4), (5, .int i5), (7, .int u14.1)] := hl
        have hP : va_P g.1 vwCl ([(b0, .inl (g.2.1, 9, .inl x.2.1))] ++ [(b1, .inl (g.2.1, 30, .inl x.2.2.1))] ++ [(b2, .inl (g.2.1, 15, .inl G2))] ++ [(b3, .inl (g.2.1, 63, .inl x.2.2.2))]) H := hP
        have hD : va_D A ([(b0, .inl (g.2.1, 9, .inl x.2.1))] ++ [(b1, .inl (g.2.1, 30, .inl x.2.2.1))] ++ [(b2, .inl (g.2.1, 15, .inl G2))] ++ [(b3, .inl (g.2.1, 63, .inl x.2.2.2))]) := hD
        refine lv_iload hx hb dL_next_110 (lv_at hl 6 rfl) ?_
        refine lv_if_lt (tgt := 119) hx hb dL_next_112 (by decide) (fun c15 => ?_) (fun c15 => ?_)
        · have hf := oi hf c15
          refine lv_iconst (v := 0) hx hb dL_next_119 (by decide) ?_
          refine lv_istore (lv' := [(6, .int 0), (0, .ref b0), (1, .ref b1), (2, .ref b2), (3, .ref b3), (4, .int i4), (5, .int i5), (7, .int u14.1)]) hx hb dL_next_120 hl (by decide) rfl (fun ls hl => ?_)
          refine lv_iload hx hb dL_next_122 (lv_at hl 0 rfl) ?_
          refine lv_if_eq (tgt := 144) hx hb dL_next_124 (by decide) (fun _ => ?_) (fun c9 => absurd c9 (by decide))
          refine lv_goto (tgt := 20) hx hb dL_next_144 (by decide) ?_
          exact ih (0, x.2.1, x.2.2.1, x.2.2.2) (Option.some.inj hf).symm hQ _ _ hP hD hS _ (lv_sub hl [1, 2, 3, 4, 5, 6, 0] rfl)
        · have hf := oe hf c15
          refine lv_iconst (v := 1) hx hb dL_next_115 (by decide) ?_
          refine lv_goto (tgt := 120) hx hb dL_next_116 (by decide) ?_
          refine lv_istore (lv' := [(6, .int 1), (0, .ref b0), (1, .ref b1), (2, .ref b2), (3, .ref b3), (4, .int i4), (5, .int i5), (7, .int u14.1)]) hx hb dL_next_120 hl (by decide) rfl (fun ls hl => ?_)
          refine lv_iload hx hb dL_next_122 (lv_at hl 0 rfl) ?_
          refine lv_if_eq (tgt := 144) hx hb dL_next_124 (by decide) (fun c9 => absurd c9 (by decide)) (fun _ => ?_)
          refine lv_aload_n hx hb dL_next_127 rfl (lv_at hl 2 rfl) ?_
          refine lv_iconst (v := 5) hx hb dL_next_128 (by decide) ?_
          refine lv_iload hx hb dL_next_129 (lv_at hl 7 rfl) ?_
          refine lv_imul hx hb dL_next_131 ?_
          refine lv_iconst (v := 3) hx hb dL_next_132 (by decide) ?_
          refine lv_iadd hx hb dL_next_133 ?_
          refine lv_iconst (v := 3) hx hb dL_next_134 (by decide) ?_
          obtain ⟨h16, hf⟩ := og hf
          refine zast (D := g.1) (f := x.2.2.1) (k := ((5 * u14.1) + 3).toNatClampNeg) (x := 3) hx hb hK.1 hP hD hS 1 0 rfl rfl (zin_vp h16) rfl dL_next_135 (fun H locs hP hD hS => ?_)
          have hP : va_P g.1 vwCl ([(b0, .inl (g.2.1, 9, .inl x.2.1))] ++ [(b1, .inl (g.2.1, 30, .inl (upd x.2.2.1 (((5 * u14.1) + 3).toNatClampNeg) 3)))] ++ [(b2, .inl (g.2.1, 15, .inl G2))] ++ [(b3, .inl (g.2.1, 63, .inl x.2.2.2))]) H := hP
          have hD : va_D A ([(b0, .inl (g.2.1, 9, .inl x.2.1))] ++ [(b1, .inl (g.2.1, 30, .inl (upd x.2.2.1 (((5 * u14.1) + 3).toNatClampNeg) 3)))] ++ [(b2, .inl (g.2.1, 15, .inl G2))] ++ [(b3, .inl (g.2.1, 63, .inl x.2.2.2))]) := hD
          refine lv_aload_n hx hb dL_next_136 rfl (lv_at hl 1 rfl) ?_
          refine lv_aload_n hx hb dL_next_137 rfl (lv_at hl 4 rfl) ?_
          refine lv_iconst (v := 3) hx hb dL_next_138 (by decide) ?_
          refine lv_iload hx hb dL_next_139 (lv_at hl 7 rfl) ?_
          obtain ⟨u17, hu17, hf⟩ := ob hf
          refine zk_v (va_runS (As := [.ref b0, .ref b3, .int 3, .int u14.1]) (rest := []) ⟨hx, hb, hml, hown, hts⟩ (c_L_notes l g b0 b3 x.2.1 x.2.2.2 3 u14.1 _ hu17 _) (zcS hw0 zm2_222 zm2_224 zm1_0 zm2_223 hd_L_notes rfl rfl ⟨Nat.le_of_ble_eq_true rfl, Nat.le_of_ble_eq_true rfl⟩) ⟨zblind, zpre hK hP hD [0, 3] rfl rfl⟩ rfl rfl hl.1 rfl (lv_room (Nat.le_of_ble_eq_true rfl)) dL_next_141 ⟨Nat.zero_le _, Nat.zero_le _⟩) hP hD hS hA [0, 3] rfl rfl (fun H locs hP hD hS => ?_)
          have hP : va_P g.1 vwCl ([(b0, .inl (g.2.1, 9, .inl u17.1))] ++ [(b1, .inl (g.2.1, 30, .inl (upd x.2.2.1 (((5 * u14.1) + 3).toNatClampNeg) 3)))] ++ [(b2, .inl (g.2.1, 15, .inl G2))] ++ [(b3, .inl (g.2.1, 63, .inl u17.2))]) H := hP
          have hD : va_D A ([(b0, .inl (g.2.1, 9, .inl u17.1))] ++ [(b1, .inl (g.2.1, 30, .inl (upd x.2.2.1 (((5 * u14.1) + 3).toNatClampNeg) 3)))] ++ [(b2, .inl (g.2.1, 15, .inl G2))] ++ [(b3, .inl (g.2.1, 63, .inl u17.2))]) := hD
          refine lv_goto (tgt := 20) hx hb dL_next_144 (by decide) ?_
          exact ih (1, u17.1, (upd x.2.2.1 (((5 * u14.1) + 3).toNatClampNeg) 3), u17.2) (Option.some.inj hf).symm hQ _ _ hP hD hS _ (lv_sub hl [1, 2, 3, 4, 5, 6, 0] rfl)
  have lp150 : ∀ (G0 : FF) (G1 : FF) (G2 : FF) (G3 : FF) (i4 : Int32) (i5 : Int32), ∀ (n : Nat) (x : Int32) (rr : Int32), zloop (s_L_next_150 G0 G1 G2 G3 i4 i5) n x = some rr → (∀ (H : Heap) (locs : List Loc), va_P g.1 vwCl ([(b0, .inl (g.2.1, 9, .inl G0))] ++ [(b1, .inl (g.2.1, 30, .inl G1))] ++ [(b2, .inl (g.2.1, 15, .inl G2))] ++ [(b3, .inl (g.2.1, 63, .inl G3))]) H → va_D A ([(b0, .inl (g.2.1, 9, .inl G0))] ++ [(b1, .inl (g.2.1, 30, .inl G1))] ++ [(b2, .inl (g.2.1, 15, .inl G2))] ++ [(b3, .inl (g.2.1, 63, .inl G3))]) → va_S A s.heap H locs → ∀ ls : Array Slot, lv_has ls 10 [(0, .ref b0), (1, .ref b1), (2, .ref b2), (3, .ref b3), (4, .int i4), (5, .int i5), (7, .int rr)] → W p l e (headSpec (zw yL_next cL_next 10 none) ({ frames := 2, cells := 0, slots := 0, locals := 52 } : Room)).room s m ([.ref b0, .ref b1, .ref b2, .ref b3] : List Value).toArray below meth c H locs 0 0 (MQ below (va_Qv (fun (_ : Unit) => True) (fun _ => zEnd g A ([(b0, .inl (g.2.1, 9, .inl r.1))] ++ [(b1, .inl (g.2.1, 30, .inl r.2.1))] ++ [(b2, .inl (g.2.1, 15, .inl r.2.2.1))] ++ [(b3, .inl (g.2.1, 63, .inl r.2.2.2))])) A) ([.ref b0, .ref b1, .ref b2, .ref b3] : List Value).toArray s 0 0 A) (F0 m 174 ls [])) → ∀ (H : Heap) (locs : List Loc), va_P g.1 vwCl ([(b0, .inl (g.2.1, 9, .inl G0))] ++ [(b1, .inl (g.2.1, 30, .inl G1))] ++ [(b2, .inl (g.2.1, 15, .inl G2))] ++ [(b3, .inl (g.2.1, 63, .inl G3))]) H → va_D A ([(b0, .inl (g.2.1, 9, .inl G0))] ++ [(b1, .inl (g.2.1, 30, .inl G1))] ++ [(b2, .inl (g.2.1, 15, .inl G2))] ++ [(b3, .inl (g.2.1, 63, .inl G3))]) → va_S A s.heap H locs → ∀ ls : Array Slot, lv_has ls 10 [(0, .ref b0), (1, .ref b1), (2, .ref b2), (3, .ref b3), (4, .int i4), (5, .int i5), (7, .int x)] → W p l e (headSpec (zw yL_next cL_next 10 none) ({ frames := 2, cells := 0, slots := 0, locals := 52 } : Room)).room s m ([.ref b0, .ref b1, .ref b2, .ref b3] : List Value).toArray below meth c H locs 0 0 (MQ below (va_Qv (fun (_ : Unit) => True) (fun _ => zEnd g A ([(b0, .inl (g.2.1, 9, .inl r.1))] ++ [(b1, .inl (g.2.1, 30, .inl r.2.1))] ++ [(b2, .inl (g.2.1, 15, .inl r.2.2.1))] ++ [(b3, .inl (g.2.1, 63, .inl r.2.2.2))])) A) ([.ref b0, .ref b1, .ref b2, .ref b3] : List Value).toArray s 0 0 A) (F0 m 150 ls []) := by
    intro G0 G1 G2 G3 i4 i5
    refine zloop_ind ?_
    intro x y rr hf ih hr hQ H locs hP hD hS ls hl
    unfold s_L_next_150 at hf
    refine lv_iload hx hb dL_next_150 (lv_at hl 6 rfl) ?_
    refine lv_iload hx hb dL_next_152 (lv_at hl 4 rfl) ?_
    refine lv_icmp_ge (tgt := 174) hx hb dL_next_154 (by decide) (fun c19 => ?_) (fun c19 => ?_)
    · have hf := oi hf c19
      have hR : x = rr := hr _ (Option.some.inj hf).symm
      subst hR
      exact hQ _ _ hP hD hS _ (lv_sub hl [0, 1, 2, 3, 4, 5, 6] rfl)
    · have hf := oe hf c19
      refine lv_aload_n hx hb dL_next_157 rfl (lv_at hl 1 rfl) ?_
      refine lv_iconst (v := 5) hx hb dL_next_158 (by decide) ?_
      refine lv_iload hx hb dL_next_159 (lv_at hl 6 rfl) ?_
      refine lv_imul hx hb dL_next_161 ?_
      refine lv_iconst (v := 3) hx hb dL_next_162 (by decide) ?_
      refine lv_iadd hx hb dL_next_163 ?_
      obtain ⟨h20, hf⟩ := og hf
      refine zald (D := g.1) (f := G1) (k := ((5 * x) + 3).toNatClampNeg) hx hb hK.1 hP 1 0 rfl rfl (zin_vp h20) rfl dL_next_164 ?_
      refine lv_if_eq (tgt := 174) hx hb dL_next_165 (by decide) (fun c21 => ?_) (fun c21 => ?_)
      · have hf := oi hf c21
        have hR : x = rr := hr _ (Option.some.inj hf).symm
        subst hR
        exact hQ _ _ hP hD hS _ (lv_sub hl [0, 1, 2, 3, 4, 5, 6] rfl)
      · have hf := oe hf c21
        refine lv_iinc (v := (x + 1)) (lv' := [(7, .int (x + 1)), (0, .ref b0), (1, .ref b1), (2, .ref b2), (3, .ref b3), (4, .int i4), (5, .int i5)]) hx hb dL_next_168 hl (k := 6) rfl rfl (by decide) rfl (fun ls hl => ?_)
        refine lv_goto (tgt := 150) hx hb dL_next_171 (by decide) ?_
        exact ih (x + 1) (Option.some.inj hf).symm hQ _ _ hP hD hS _ (lv_sub hl [1, 2, 3, 4, 5, 6, 0] rfl)
  have lp248 : ∀ (G0 : FF) (G1 : FF) (G2 : FF) (G3 : FF) (i8 : Int32), ∀ (n : Nat) (x : Int32) (rr : Int32), zloop (s_L_next_248 G0 G1 G2 G3 i8) n x = some rr → (∀ (H : Heap) (locs : List Loc), va_P g.1 vwCl ([(b0, .inl (g.2.1, 9, .inl G0))] ++ [(b1, .inl (g.2.1, 30, .inl G1))] ++ [(b2, .inl (g.2.1, 15, .inl G2))] ++ [(b3, .inl (g.2.1, 63, .inl G3))]) H → va_D A ([(b0, .inl (g.2.1, 9, .inl G0))] ++ [(b1, .inl (g.2.1, 30, .inl G1))] ++ [(b2, .inl (g.2.1, 15, .inl G2))] ++ [(b3, .inl (g.2.1, 63, .inl G3))]) → va_S A s.heap H locs → ∀ ls : Array Slot, lv_has ls 10 [(0, .ref b0), (2, .ref b2), (3, .ref b3), (9, .int rr)] → W p l e (headSpec (zw yL_next cL_next 10 none) ({ frames := 2, cells := 0, slots := 0, locals := 52 } : Room)).room s m ([.ref b0, .ref b1, .ref b2, .ref b3] : List Value).toArray below meth c H locs 0 0 (MQ below (va_Qv (fun (_ : Unit) => True) (fun _ => zEnd g A ([(b0, .inl (g.2.1, 9, .inl r.1))] ++ [(b1, .inl (g.2.1, 30, .inl r.2.1))] ++ [(b2, .inl (g.2.1, 15, .inl r.2.2.1))] ++ [(b3, .inl (g.2.1, 63, .inl r.2.2.2))])) A) ([.ref b0, .ref b1, .ref b2, .ref b3] : List Value).toArray s 0 0 A) (F0 m 264 ls [])) → ∀ (H : Heap) (locs : List Loc), va_P g.1 vwCl ([(b0, .inl (g.2.1, 9, .inl G0))] ++ [(b1, .inl (g.2.1, 30, .inl G1))] ++ [(b2, .inl (g.2.1, 15, .inl G2))] ++ [(b3, .inl (g.2.1, 63, .inl G3))]) H → va_D A ([(b0, .inl (g.2.1, 9, .inl G0))] ++ [(b1, .inl (g.2.1, 30, .inl G1))] ++ [(b2, .inl (g.2.1, 15, .inl G2))] ++ [(b3, .inl (g.2.1, 63, .inl G3))]) → va_S A s.heap H locs → ∀ ls : Array Slot, lv_has ls 10 [(0, .ref b0), (2, .ref b2), (3, .ref b3), (8, .int i8), (9, .int x)] → W p l e (headSpec (zw yL_next cL_next 10 none) ({ frames := 2, cells := 0, slots := 0, locals := 52 } : Room)).room s m ([.ref b0, .ref b1, .ref b2, .ref b3] : List Value).toArray below meth c H locs 0 0 (MQ below (va_Qv (fun (_ : Unit) => True) (fun _ => zEnd g A ([(b0, .inl (g.2.1, 9, .inl r.1))] ++ [(b1, .inl (g.2.1, 30, .inl r.2.1))] ++ [(b2, .inl (g.2.1, 15, .inl r.2.2.1))] ++ [(b3, .inl (g.2.1, 63, .inl r.2.2.2))])) A) ([.ref b0, .ref b1, .ref b2, .ref b3] : List Value).toArray s 0 0 A) (F0 m 248 ls []) := by
    intro G0 G1 G2 G3 i8
    refine zloop_ind ?_
    intro x y rr hf ih hr hQ H locs hP hD hS ls hl
    unfold s_L_next_248 at hf
    refine lv_iload hx hb dL_next_248 (lv_at hl 3 rfl) ?_
    refine lv_iload hx hb dL_next_250 (lv_at hl 4 rfl) ?_
    refine lv_ishr hx hb dL_next_252 ?_
    refine lv_iconst (v := 1) hx hb dL_next_253 (by decide) ?_
    refine lv_iand hx hb dL_next_254 ?_
    refine lv_if_ne (tgt := 264) hx hb dL_next_255 (by decide) (fun c29 => ?_) (fun c29 => ?_)
    · have hf := oe hf c29
      have hR : x = rr := hr _ (Option.some.inj hf).symm
      subst hR
      exact hQ _ _ hP hD hS _ (lv_sub hl [0, 1, 2, 4] rfl)
    · have hf := oi hf c29
      refine lv_iinc (v := (x + 1)) (lv' := [(9, .int (x + 1)), (0, .ref b0), (2, .ref b2), (3, .ref b3), (8, .int i8)]) hx hb dL_next_258 hl (k := 4) rfl rfl (by decide) rfl (fun ls hl => ?_)
      refine lv_goto (tgt := 248) hx hb dL_next_261 (by decide) ?_
      exact ih (x + 1) (Option.some.inj hf).symm hQ _ _ hP hD hS _ (lv_sub hl [1, 2, 3, 4, 0] rfl)
  unfold f_L_next at hf
  have hl := lv_entry ([.ref b0, .ref b1, .ref b2, .ref b3]) (n := 10) (Nat.le_of_ble_eq_true rfl)
  rw [lg_entry_eq]
  generalize (lg_sl ([.ref b0, .ref b1, .ref b2, .ref b3]) ++ List.replicate (10 - (lg_sl ([.ref b0, .ref b1, .ref b2, .ref b3])).length) Slot.unset).toArray = ls at hl ⊢
  have hl : lv_has ls 10 [(0, .ref b0), (1, .ref b1), (2, .ref b2), (3, .ref b3)] := hl
  refine lv_aload_n hx hb dL_next_0 rfl (lv_at hl 0 rfl) ?_
  refine lv_aload_n hx hb dL_next_1 rfl (lv_at hl 1 rfl) ?_
  refine lv_iconst (v := 0) hx hb dL_next_2 (by decide) ?_
  obtain ⟨u1, hu1, hf⟩ := ob hf
  refine zk_iR (va_runS (As := [.ref b0, .ref b1, .int 0]) (rest := []) ⟨hx, hb, hml, hown, hts⟩ (c_L_fixed l g b0 b1 G0 G1 0 _ hu1 _) (zcS hw0 zm3_112 zm3_114 zm1_0 zm3_113 hd_L_fixed rfl rfl ⟨Nat.le_of_ble_eq_true rfl, Nat.le_of_ble_eq_true rfl⟩) ⟨zblind, zpre hK hP hD [0, 1] rfl rfl⟩ rfl rfl hl.1 rfl (lv_room (Nat.le_of_ble_eq_true rfl)) dL_next_3 ⟨Nat.zero_le _, Nat.zero_le _⟩) hP hD hS hA [0, 1] rfl (fun H locs hP hD hS => ?_)
  refine lv_istore (lv' := [(4, .int u1), (0, .ref b0), (1, .ref b1), (2, .ref b2), (3, .ref b3)]) hx hb dL_next_6 hl (by decide) rfl (fun ls hl => ?_)
  refine lv_aload_n hx hb dL_next_8 rfl (lv_at hl 1 rfl) ?_
  refine lv_aload_n hx hb dL_next_9 rfl (lv_at hl 2 rfl) ?_
  refine lv_iload hx hb dL_next_10 (lv_at hl 0 rfl) ?_
  obtain ⟨u2, hu2, hf⟩ := ob hf
  refine zk_iR (va_runS (As := [.ref b0, .ref b1, .int u1]) (rest := []) ⟨hx, hb, hml, hown, hts⟩ (c_L_timeAt l g b0 b1 G0 G1 u1 _ hu2 _) (zcS hw0 zm3_115 zm3_117 zm1_0 zm3_116 hd_L_timeAt rfl rfl ⟨Nat.le_of_ble_eq_true rfl, Nat.le_of_ble_eq_true rfl⟩) ⟨zblind, zpre hK hP hD [0, 1] rfl rfl⟩ rfl rfl hl.1 rfl (lv_room (Nat.le_of_ble_eq_true rfl)) dL_next_12 ⟨Nat.zero_le _, Nat.zero_le _⟩) hP hD hS hA [0, 1] rfl (fun H locs hP hD hS => ?_)
  refine lv_istore (lv' := [(5, .int u2), (4, .int u1), (0, .ref b0), (1, .ref b1), (2, .ref b2), (3, .ref b3)]) hx hb dL_next_15 hl (by decide) rfl (fun ls hl => ?_)
  refine lv_iconst (v := 1) hx hb dL_next_17 (by decide) ?_
  refine lv_istore (lv' := [(6, .int 1), (5, .int u2), (4, .int u1), (0, .ref b0), (1, .ref b1), (2, .ref b2), (3, .ref b3)]) hx hb dL_next_18 hl (by decide) rfl (fun ls hl => ?_)
  obtain ⟨u18, hu18, hf⟩ := ob hf
  refine lp20 G0 G1 G2 G3 u1 u2 _ _ u18 hu18 (fun H locs hP hD hS ls hl => ?_) _ _ hP hD hS _ (lv_sub hl [3, 4, 5, 6, 2, 1, 0] rfl)
  have hl : lv_has ls 10 [(0, .ref b0), (1, .ref b1), (2, .ref b2), (3, .ref b3), (4, .int u1), (5, .int u2)] := hl
  have hP : va_P g.1 vwCl ([(b0, .inl (g.2.1, 9, .inl u18.2.1))] ++ [(b1, .inl (g.2.1, 30, .inl u18.2.2.1))] ++ [(b2, .inl (g.2.1, 15, .inl G2))] ++ [(b3, .inl (g.2.1, 63, .inl u18.2.2.2))]) H := hP
  have hD : va_D A ([(b0, .inl (g.2.1, 9, .inl u18.2.1))] ++ [(b1, .inl (g.2.1, 30, .inl u18.2.2.1))] ++ [(b2, .inl (g.2.1, 15, .inl G2))] ++ [(b3, .inl (g.2.1, 63, .inl u18.2.2.2))]) := hD
  refine lv_iconst (v := 0) hx hb dL_next_147 (by decide) ?_
  refine lv_istore (lv' := [(7, .int 0), (0, .ref b0), (1, .ref b1), (2, .ref b2), (3, .ref b3), (4, .int u1), (5, .int u2)]) hx hb dL_next_148 hl (by decide) rfl (fun ls hl => ?_)
  obtain ⟨u22, hu22, hf⟩ := ob hf
  refine lp150 u18.2.1 u18.2.2.1 G2 u18.2.2.2 u1 u2 _ _ u22 hu22 (fun H locs hP hD hS ls hl => ?_) _ _ hP hD hS _ (lv_sub hl [1, 2, 3, 4, 5, 6, 0] rfl)
  have hl : lv_has ls 10 [(0, .ref b0), (1, .ref b1), (2, .ref b2), (3, .ref b3), (4, .int u1), (5, .int u2), (7, .int u22)] := hl
  have hP : va_P g.1 vwCl ([(b0, .inl (g.2.1, 9, .inl u18.2.1))] ++ [(b1, .inl (g.2.1, 30, .inl u18.2.2.1))] ++ [(b2, .inl (g.2.1, 15, .inl G2))] ++ [(b3, .inl (g.2.1, 63, .inl u18.2.2.2))]) H := hP
  have hD : va_D A ([(b0, .inl (g.2.1, 9, .inl u18.2.1))] ++ [(b1, .inl (g.2.1, 30, .inl u18.2.2.1))] ++ [(b2, .inl (g.2.1, 15, .inl G2))] ++ [(b3, .inl (g.2.1, 63, .inl u18.2.2.2))]) := hD
  refine lv_iload hx hb dL_next_174 (lv_at hl 6 rfl) ?_
  refine lv_iload hx hb dL_next_176 (lv_at hl 4 rfl) ?_
  obtain ⟨u23, hu23, hf⟩ := ob hf
  have j24 : ∀ (H : Heap) (locs : List Loc), va_P g.1 vwCl ([(b0, .inl (g.2.1, 9, .inl u18.2.1))] ++ [(b1, .inl (g.2.1, 30, .inl u18.2.2.1))] ++ [(b2, .inl (g.2.1, 15, .inl G2))] ++ [(b3, .inl (g.2.1, 63, .inl u18.2.2.2))]) H → va_D A ([(b0, .inl (g.2.1, 9, .inl u18.2.1))] ++ [(b1, .inl (g.2.1, 30, .inl u18.2.2.1))] ++ [(b2, .inl (g.2.1, 15, .inl G2))] ++ [(b3, .inl (g.2.1, 63, .inl u18.2.2.2))]) → va_S A s.heap H locs → W p l e (headSpec (zw yL_next cL_next 10 none) ({ frames := 2, cells := 0, slots := 0, locals := 52 } : Room)).room s m ([.ref b0, .ref b1, .ref b2, .ref b3] : List Value).toArray below meth c H locs 0 0 (MQ below (va_Qv (fun (_ : Unit) => True) (fun _ => zEnd g A ([(b0, .inl (g.2.1, 9, .inl r.1))] ++ [(b1, .inl (g.2.1, 30, .inl r.2.1))] ++ [(b2, .inl (g.2.1, 15, .inl r.2.2.1))] ++ [(b3, .inl (g.2.1, 63, .inl r.2.2.2))])) A) ([.ref b0, .ref b1, .ref b2, .ref b3] : List Value).toArray s 0 0 A) (F0 m 204 ls [.int u23]) := by
    intro H locs hP hD hS
    refine lv_istore (lv' := [(8, .int u23), (0, .ref b0), (1, .ref b1), (2, .ref b2), (3, .ref b3), (4, .int u1), (5, .int u2), (7, .int u22)]) hx hb dL_next_204 hl (by decide) rfl (fun ls hl => ?_)
    refine lv_iload hx hb dL_next_206 (lv_at hl 7 rfl) ?_
    refine lv_aload_n hx hb dL_next_208 rfl (lv_at hl 1 rfl) ?_
    refine lv_iconst (v := 0) hx hb dL_next_209 (by decide) ?_
    refine zald (D := g.1) (f := u18.2.1) (k := 0) hx hb hK.1 hP 0 0 rfl rfl (zin_vp (i := 0) (n := 9) rfl) rfl dL_next_210 ?_
    refine lv_icmp_ge (tgt := 240) hx hb dL_next_211 (by decide) (fun c25 => ?_) (fun c25 => ?_)
    · have hf := oi hf c25
      refine lv_iload hx hb dL_next_240 (lv_at hl 0 rfl) ?_
      refine lv_if_le (tgt := 312) hx hb dL_next_242 (by decide) (fun c26 => ?_) (fun c26 => ?_)
      · have hf := oi hf c26
        refine lv_iload hx hb dL_next_312 (lv_at hl 6 rfl) ?_
        refine lv_aload_n hx hb dL_next_314 rfl (lv_at hl 1 rfl) ?_
        refine lv_iconst (v := 2) hx hb dL_next_315 (by decide) ?_
        refine zald (D := g.1) (f := u18.2.1) (k := 2) hx hb hK.1 hP 0 0 rfl rfl (zin_vp (i := 2) (n := 9) rfl) rfl dL_next_316 ?_
        refine lv_icmp_le (tgt := 344) hx hb dL_next_317 (by decide) (fun c27 => ?_) (fun c27 => ?_)
        · have hf := oi hf c27
          refine lv_aload_n hx hb dL_next_344 rfl (lv_at hl 1 rfl) ?_
          refine lv_iconst (v := 3) hx hb dL_next_345 (by decide) ?_
          refine lv_iconst (v := 1) hx hb dL_next_346 (by decide) ?_
          refine zast (D := g.1) (f := u18.2.1) (k := 3) (x := 1) hx hb hK.1 hP hD hS 0 0 rfl rfl (zin_vp (i := 3) (n := 9) rfl) rfl dL_next_347 (fun H locs hP hD hS => ?_)
          have hP : va_P g.1 vwCl ([(b0, .inl (g.2.1, 9, .inl (upd u18.2.1 3 1)))] ++ [(b1, .inl (g.2.1, 30, .inl u18.2.2.1))] ++ [(b2, .inl (g.2.1, 15, .inl G2))] ++ [(b3, .inl (g.2.1, 63, .inl u18.2.2.2))]) H := hP
          have hD : va_D A ([(b0, .inl (g.2.1, 9, .inl (upd u18.2.1 3 1)))] ++ [(b1, .inl (g.2.1, 30, .inl u18.2.2.1))] ++ [(b2, .inl (g.2.1, 15, .inl G2))] ++ [(b3, .inl (g.2.1, 63, .inl u18.2.2.2))]) := hD
          have hR : ((upd u18.2.1 3 1), u18.2.2.1, G2, u18.2.2.2) = r := Option.some.inj hf
          rw [← hR]
          exact W.vret hx hb hr0 (fun t ht hW => ⟨⟨(), rfl, trivial, by rw [ht]; exact hP, hD⟩, hS.F ht⟩) hS.2.2 dL_next_348
        · have hf := oe hf c27
          refine lv_aload_n hx hb dL_next_320 rfl (lv_at hl 1 rfl) ?_
          refine lv_iconst (v := 4) hx hb dL_next_321 (by decide) ?_
          refine lv_bipush (v := 40) hx hb dL_next_322 (by decide) ?_
          refine zast (D := g.1) (f := u18.2.1) (k := 4) (x := 40) hx hb hK.1 hP hD hS 0 0 rfl rfl (zin_vp (i := 4) (n := 9) rfl) rfl dL_next_324 (fun H locs hP hD hS => ?_)
          have hP : va_P g.1 vwCl ([(b0, .inl (g.2.1, 9, .inl (upd u18.2.1 4 40)))] ++ [(b1, .inl (g.2.1, 30, .inl u18.2.2.1))] ++ [(b2, .inl (g.2.1, 15, .inl G2))] ++ [(b3, .inl (g.2.1, 63, .inl u18.2.2.2))]) H := hP
          have hD : va_D A ([(b0, .inl (g.2.1, 9, .inl (upd u18.2.1 4 40)))] ++ [(b1, .inl (g.2.1, 30, .inl u18.2.2.1))] ++ [(b2, .inl (g.2.1, 15, .inl G2))] ++ [(b3, .inl (g.2.1, 63, .inl u18.2.2.2))]) := hD
          refine lv_aload_n hx hb dL_next_325 rfl (lv_at hl 1 rfl) ?_
          refine lv_iconst (v := 5) hx hb dL_next_326 (by decide) ?_
          refine lv_iload hx hb dL_next_327 (lv_at hl 6 rfl) ?_
          refine lv_aload_n hx hb dL_next_329 rfl (lv_at hl 1 rfl) ?_
          refine lv_iconst (v := 2) hx hb dL_next_330 (by decide) ?_
          refine zald (D := g.1) (f := (upd u18.2.1 4 40)) (k := 2) hx hb hK.1 hP 0 0 rfl rfl (zin_vp (i := 2) (n := 9) rfl) rfl dL_next_331 ?_
          refine zeqi (y := (u18.2.1 2)) rfl ?_
          refine lv_isub hx hb dL_next_332 ?_
          refine zast (D := g.1) (f := (upd u18.2.1 4 40)) (k := 5) (x := (u2 - (u18.2.1 2))) hx hb hK.1 hP hD hS 0 0 rfl rfl (zin_vp (i := 5) (n := 9) rfl) rfl dL_next_333 (fun H locs hP hD hS => ?_)
          have hP : va_P g.1 vwCl ([(b0, .inl (g.2.1, 9, .inl (upd (upd u18.2.1 4 40) 5 (u2 - (u18.2.1 2)))))] ++ [(b1, .inl (g.2.1, 30, .inl u18.2.2.1))] ++ [(b2, .inl (g.2.1, 15, .inl G2))] ++ [(b3, .inl (g.2.1, 63, .inl u18.2.2.2))]) H := hP
          have hD : va_D A ([(b0, .inl (g.2.1, 9, .inl (upd (upd u18.2.1 4 40) 5 (u2 - (u18.2.1 2)))))] ++ [(b1, .inl (g.2.1, 30, .inl u18.2.2.1))] ++ [(b2, .inl (g.2.1, 15, .inl G2))] ++ [(b3, .inl (g.2.1, 63, .inl u18.2.2.2))]) := hD
          refine lv_aload_n hx hb dL_next_334 rfl (lv_at hl 1 rfl) ?_
          refine lv_aload_n hx hb dL_next_335 rfl (lv_at hl 4 rfl) ?_
          refine lv_iconst (v := 2) hx hb dL_next_336 (by decide) ?_
          refine lv_iconst (v := (-1)) hx hb dL_next_337 (by decide) ?_
          obtain ⟨u28, hu28, hf⟩ := ob hf
          refine zk_v (va_runS (As := [.ref b0, .ref b3, .int 2, .int (-1)]) (rest := []) ⟨hx, hb, hml, hown, hts⟩ (c_L_notes l g b0 b3 (upd (upd u18.2.1 4 40) 5 (u2 - (u18.2.1 2))) u18.2.2.2 2 (-1) _ hu28 _) (zcS hw0 zm2_222 zm2_224 zm1_0 zm2_223 hd_L_notes rfl rfl ⟨Nat.le_of_ble_eq_true rfl, Nat.le_of_ble_eq_true rfl⟩) ⟨zblind, zpre hK hP hD [0, 3] rfl rfl⟩ rfl rfl hl.1 rfl (lv_room (Nat.le_of_ble_eq_true rfl)) dL_next_338 ⟨Nat.zero_le _, Nat.zero_le _⟩) hP hD hS hA [0, 3] rfl rfl (fun H locs hP hD hS => ?_)
          have hP : va_P g.1 vwCl ([(b0, .inl (g.2.1, 9, .inl u28.1))] ++ [(b1, .inl (g.2.1, 30, .inl u18.2.2.1))] ++ [(b2, .inl (g.2.1, 15, .inl G2))] ++ [(b3, .inl (g.2.1, 63, .inl u28.2))]) H := hP
          have hD : va_D A ([(b0, .inl (g.2.1, 9, .inl u28.1))] ++ [(b1, .inl (g.2.1, 30, .inl u18.2.2.1))] ++ [(b2, .inl (g.2.1, 15, .inl G2))] ++ [(b3, .inl (g.2.1, 63, .inl u28.2))]) := hD
          refine lv_goto (tgt := 348) hx hb dL_next_341 (by decide) ?_
          have hR : (u28.1, u18.2.2.1, G2, u28.2) = r := Option.some.inj hf
          rw [← hR]
          exact W.vret hx hb hr0 (fun t ht hW => ⟨⟨(), rfl, trivial, by rw [ht]; exact hP, hD⟩, hS.F ht⟩) hS.2.2 dL_next_348
      · have hf := oe hf c26
        refine lv_iconst (v := 0) hx hb dL_next_245 (by decide) ?_
        refine lv_istore (lv' := [(9, .int 0), (8, .int u23), (0, .ref b0), (1, .ref b1), (2, .ref b2), (3, .ref b3), (4, .int u1), (5, .int u2), (7, .int u22)]) hx hb dL_next_246 hl (by decide) rfl (fun ls hl => ?_)
        obtain ⟨u30, hu30, hf⟩ := ob hf
        refine lp248 u18.2.1 u18.2.2.1 G2 u18.2.2.2 u23 _ _ u30 hu30 (fun H locs hP hD hS ls hl => ?_) _ _ hP hD hS _ (lv_sub hl [2, 4, 5, 1, 0] rfl)
        have hl : lv_has ls 10 [(0, .ref b0), (2, .ref b2), (3, .ref b3), (9, .int u30)] := hl
        have hP : va_P g.1 vwCl ([(b0, .inl (g.2.1, 9, .inl u18.2.1))] ++ [(b1, .inl (g.2.1, 30, .inl u18.2.2.1))] ++ [(b2, .inl (g.2.1, 15, .inl G2))] ++ [(b3, .inl (g.2.1, 63, .inl u18.2.2.2))]) H := hP
        have hD : va_D A ([(b0, .inl (g.2.1, 9, .inl u18.2.1))] ++ [(b1, .inl (g.2.1, 30, .inl u18.2.2.1))] ++ [(b2, .inl (g.2.1, 15, .inl G2))] ++ [(b3, .inl (g.2.1, 63, .inl u18.2.2.2))]) := hD
        refine lv_aload_n hx hb dL_next_264 rfl (lv_at hl 1 rfl) ?_
        refine lv_iconst (v := 3) hx hb dL_next_265 (by decide) ?_
        refine lv_iload hx hb dL_next_266 (lv_at hl 3 rfl) ?_
        refine lv_imul hx hb dL_next_268 ?_
        refine lv_iconst (v := 1) hx hb dL_next_269 (by decide) ?_
        refine lv_iadd hx hb dL_next_270 ?_
        refine lv_iconst (v := 1) hx hb dL_next_271 (by decide) ?_
        obtain ⟨h31, hf⟩ := og hf
        refine zast (D := g.1) (f := G2) (k := ((3 * u30) + 1).toNatClampNeg) (x := 1) hx hb hK.1 hP hD hS 2 0 rfl rfl (zin_vp h31) rfl dL_next_272 (fun H locs hP hD hS => ?_)
        have hP : va_P g.1 vwCl ([(b0, .inl (g.2.1, 9, .inl u18.2.1))] ++ [(b1, .inl (g.2.1, 30, .inl u18.2.2.1))] ++ [(b2, .inl (g.2.1, 15, .inl (upd G2 (((3 * u30) + 1).toNatClampNeg) 1)))] ++ [(b3, .inl (g.2.1, 63, .inl u18.2.2.2))]) H := hP
        have hD : va_D A ([(b0, .inl (g.2.1, 9, .inl u18.2.1))] ++ [(b1, .inl (g.2.1, 30, .inl u18.2.2.1))] ++ [(b2, .inl (g.2.1, 15, .inl (upd G2 (((3 * u30) + 1).toNatClampNeg) 1)))] ++ [(b3, .inl (g.2.1, 63, .inl u18.2.2.2))]) := hD
        refine lv_aload_n hx hb dL_next_273 rfl (lv_at hl 1 rfl) ?_
        refine lv_iconst (v := 3) hx hb dL_next_274 (by decide) ?_
        refine lv_iload hx hb dL_next_275 (lv_at hl 3 rfl) ?_
        refine lv_imul hx hb dL_next_277 ?_
        refine lv_iconst (v := 2) hx hb dL_next_278 (by decide) ?_
        refine lv_iadd hx hb dL_next_279 ?_
        refine lv_aload_n hx hb dL_next_280 rfl (lv_at hl 0 rfl) ?_
        refine lv_iconst (v := 2) hx hb dL_next_281 (by decide) ?_
        refine zald (D := g.1) (f := u18.2.1) (k := 2) hx hb hK.1 hP 0 0 rfl rfl (zin_vp (i := 2) (n := 9) rfl) rfl dL_next_282 ?_
        obtain ⟨h32, hf⟩ := og hf
        refine zast (D := g.1) (f := (upd G2 (((3 * u30) + 1).toNatClampNeg) 1)) (k := ((3 * u30) + 2).toNatClampNeg) (x := (u18.2.1 2)) hx hb hK.1 hP hD hS 2 0 rfl rfl (zin_vp h32) rfl dL_next_283 (fun H locs hP hD hS => ?_)
        have hP : va_P g.1 vwCl ([(b0, .inl (g.2.1, 9, .inl u18.2.1))] ++ [(b1, .inl (g.2.1, 30, .inl u18.2.2.1))] ++ [(b2, .inl (g.2.1, 15, .inl (upd (upd G2 (((3 * u30) + 1).toNatClampNeg) 1) (((3 * u30) + 2).toNatClampNeg) (u18.2.1 2))))] ++ [(b3, .inl (g.2.1, 63, .inl u18.2.2.2))]) H := hP
        have hD : va_D A ([(b0, .inl (g.2.1, 9, .inl u18.2.1))] ++ [(b1, .inl (g.2.1, 30, .inl u18.2.2.1))] ++ [(b2, .inl (g.2.1, 15, .inl (upd (upd G2 (((3 * u30) + 1).toNatClampNeg) 1) (((3 * u30) + 2).toNatClampNeg) (u18.2.1 2))))] ++ [(b3, .inl (g.2.1, 63, .inl u18.2.2.2))]) := hD
        refine lv_aload_n hx hb dL_next_284 rfl (lv_at hl 0 rfl) ?_
        refine lv_iconst (v := 4) hx hb dL_next_285 (by decide) ?_
        refine lv_bipush (v := 21) hx hb dL_next_286 (by decide) ?_
        refine lv_iload hx hb dL_next_288 (lv_at hl 3 rfl) ?_
        refine lv_iadd hx hb dL_next_290 ?_
        refine zast (D := g.1) (f := u18.2.1) (k := 4) (x := (21 + u30)) hx hb hK.1 hP hD hS 0 0 rfl rfl (zin_vp (i := 4) (n := 9) rfl) rfl dL_next_291 (fun H locs hP hD hS => ?_)
        have hP : va_P g.1 vwCl ([(b0, .inl (g.2.1, 9, .inl (upd u18.2.1 4 (21 + u30))))] ++ [(b1, .inl (g.2.1, 30, .inl u18.2.2.1))] ++ [(b2, .inl (g.2.1, 15, .inl (upd (upd G2 (((3 * u30) + 1).toNatClampNeg) 1) (((3 * u30) + 2).toNatClampNeg) (u18.2.1 2))))] ++ [(b3, .inl (g.2.1, 63, .inl u18.2.2.2))]) H := hP
        have hD : va_D A ([(b0, .inl (g.2.1, 9, .inl (upd u18.2.1 4 (21 + u30))))] ++ [(b1, .inl (g.2.1, 30, .inl u18.2.2.1))] ++ [(b2, .inl (g.2.1, 15, .inl (upd (upd G2 (((3 * u30) + 1).toNatClampNeg) 1) (((3 * u30) + 2).toNatClampNeg) (u18.2.1 2))))] ++ [(b3, .inl (g.2.1, 63, .inl u18.2.2.2))]) := hD
        refine lv_aload_n hx hb dL_next_292 rfl (lv_at hl 0 rfl) ?_
        refine lv_iconst (v := 5) hx hb dL_next_293 (by decide) ?_
        refine lv_aload_n hx hb dL_next_294 rfl (lv_at hl 1 rfl) ?_
        refine lv_iconst (v := 3) hx hb dL_next_295 (by decide) ?_
        refine lv_iload hx hb dL_next_296 (lv_at hl 3 rfl) ?_
        refine lv_imul hx hb dL_next_298 ?_
        obtain ⟨h33, hf⟩ := og hf
        refine zald (D := g.1) (f := (upd (upd G2 (((3 * u30) + 1).toNatClampNeg) 1) (((3 * u30) + 2).toNatClampNeg) (u18.2.1 2))) (k := (3 * u30).toNatClampNeg) hx hb hK.1 hP 2 0 rfl rfl (zin_vp h33) rfl dL_next_299 ?_
        refine zast (D := g.1) (f := (upd u18.2.1 4 (21 + u30))) (k := 5) (x := ((upd (upd G2 (((3 * u30) + 1).toNatClampNeg) 1) (((3 * u30) + 2).toNatClampNeg) (u18.2.1 2)) (3 * u30).toNatClampNeg)) hx hb hK.1 hP hD hS 0 0 rfl rfl (zin_vp (i := 5) (n := 9) rfl) rfl dL_next_300 (fun H locs hP hD hS => ?_)
        have hP : va_P g.1 vwCl ([(b0, .inl (g.2.1, 9, .inl (upd (upd u18.2.1 4 (21 + u30)) 5 ((upd (upd G2 (((3 * u30) + 1).toNatClampNeg) 1) (((3 * u30) + 2).toNatClampNeg) (u18.2.1 2)) (3 * u30).toNatClampNeg))))] ++ [(b1, .inl (g.2.1, 30, .inl u18.2.2.1))] ++ [(b2, .inl (g.2.1, 15, .inl (upd (upd G2 (((3 * u30) + 1).toNatClampNeg) 1) (((3 * u30) + 2).toNatClampNeg) (u18.2.1 2))))] ++ [(b3, .inl (g.2.1, 63, .inl u18.2.2.2))]) H := hP
        have hD : va_D A ([(b0, .inl (g.2.1, 9, .inl (upd (upd u18.2.1 4 (21 + u30)) 5 ((upd (upd G2 (((3 * u30) + 1).toNatClampNeg) 1) (((3 * u30) + 2).toNatClampNeg) (u18.2.1 2)) (3 * u30).toNatClampNeg))))] ++ [(b1, .inl (g.2.1, 30, .inl u18.2.2.1))] ++ [(b2, .inl (g.2.1, 15, .inl (upd (upd G2 (((3 * u30) + 1).toNatClampNeg) 1) (((3 * u30) + 2).toNatClampNeg) (u18.2.1 2))))] ++ [(b3, .inl (g.2.1, 63, .inl u18.2.2.2))]) := hD
        refine lv_aload_n hx hb dL_next_301 rfl (lv_at hl 0 rfl) ?_
        refine lv_aload_n hx hb dL_next_302 rfl (lv_at hl 2 rfl) ?_
        refine lv_iconst (v := 1) hx hb dL_next_303 (by decide) ?_
        refine lv_iload hx hb dL_next_304 (lv_at hl 3 rfl) ?_
        obtain ⟨u34, hu34, hf⟩ := ob hf
        refine zk_v (va_runS (As := [.ref b0, .ref b3, .int 1, .int u30]) (rest := []) ⟨hx, hb, hml, hown, hts⟩ (c_L_notes l g b0 b3 (upd (upd u18.2.1 4 (21 + u30)) 5 ((upd (upd G2 (((3 * u30) + 1).toNatClampNeg) 1) (((3 * u30) + 2).toNatClampNeg) (u18.2.1 2)) (3 * u30).toNatClampNeg)) u18.2.2.2 1 u30 _ hu34 _) (zcS hw0 zm2_222 zm2_224 zm1_0 zm2_223 hd_L_notes rfl rfl ⟨Nat.le_of_ble_eq_true rfl, Nat.le_of_ble_eq_true rfl⟩) ⟨zblind, zpre hK hP hD [0, 3] rfl rfl⟩ rfl rfl hl.1 rfl (lv_room (Nat.le_of_ble_eq_true rfl)) dL_next_306 ⟨Nat.zero_le _, Nat.zero_le _⟩) hP hD hS hA [0, 3] rfl rfl (fun H locs hP hD hS => ?_)
        have hP : va_P g.1 vwCl ([(b0, .inl (g.2.1, 9, .inl u34.1))] ++ [(b1, .inl (g.2.1, 30, .inl u18.2.2.1))] ++ [(b2, .inl (g.2.1, 15, .inl (upd (upd G2 (((3 * u30) + 1).toNatClampNeg) 1) (((3 * u30) + 2).toNatClampNeg) (u18.2.1 2))))] ++ [(b3, .inl (g.2.1, 63, .inl u34.2))]) H := hP
        have hD : va_D A ([(b0, .inl (g.2.1, 9, .inl u34.1))] ++ [(b1, .inl (g.2.1, 30, .inl u18.2.2.1))] ++ [(b2, .inl (g.2.1, 15, .inl (upd (upd G2 (((3 * u30) + 1).toNatClampNeg) 1) (((3 * u30) + 2).toNatClampNeg) (u18.2.1 2))))] ++ [(b3, .inl (g.2.1, 63, .inl u34.2))]) := hD
        refine lv_goto (tgt := 348) hx hb dL_next_309 (by decide) ?_
        have hR : (u34.1, u18.2.2.1, (upd (upd G2 (((3 * u30) + 1).toNatClampNeg) 1) (((3 * u30) + 2).toNatClampNeg) (u18.2.1 2)), u34.2) = r := Option.some.inj hf
        rw [← hR]
        exact W.vret hx hb hr0 (fun t ht hW => ⟨⟨(), rfl, trivial, by rw [ht]; exact hP, hD⟩, hS.F ht⟩) hS.2.2 dL_next_348
    · have hf := oe hf c25
      refine lv_iload hx hb dL_next_214 (lv_at hl 7 rfl) ?_
      refine lv_iload hx hb dL_next_216 (lv_at hl 5 rfl) ?_
      refine lv_icmp_lt (tgt := 229) hx hb dL_next_218 (by decide) (fun c35 => ?_) (fun c35 => ?_)
      · have hf := oi hf c35
        refine lv_aload_n hx hb dL_next_229 rfl (lv_at hl 1 rfl) ?_
        refine lv_aload_n hx hb dL_next_230 rfl (lv_at hl 2 rfl) ?_
        refine lv_aload_n hx hb dL_next_231 rfl (lv_at hl 4 rfl) ?_
        refine lv_iload hx hb dL_next_232 (lv_at hl 7 rfl) ?_
        obtain ⟨u36, hu36, hf⟩ := ob hf
        refine zk_v (va_runS (As := [.ref b0, .ref b1, .ref b3, .int u22]) (rest := []) ⟨hx, hb, hml, hown, hts⟩ (c_L_begins l g b0 b1 b3 u18.2.1 u18.2.2.1 u18.2.2.2 u22 _ hu36 _) (zcS hw0 zm3_128 zm3_130 zm1_0 zm3_129 hd_L_begins rfl rfl ⟨Nat.le_of_ble_eq_true rfl, Nat.le_of_ble_eq_true rfl⟩) ⟨zblind, zpre hK hP hD [0, 1, 3] rfl rfl⟩ rfl rfl hl.1 rfl (lv_room (Nat.le_of_ble_eq_true rfl)) dL_next_234 ⟨Nat.zero_le _, Nat.zero_le _⟩) hP hD hS hA [0, 1, 3] rfl rfl (fun H locs hP hD hS => ?_)
        have hP : va_P g.1 vwCl ([(b0, .inl (g.2.1, 9, .inl u36.1))] ++ [(b1, .inl (g.2.1, 30, .inl u36.2.1))] ++ [(b2, .inl (g.2.1, 15, .inl G2))] ++ [(b3, .inl (g.2.1, 63, .inl u36.2.2))]) H := hP
        have hD : va_D A ([(b0, .inl (g.2.1, 9, .inl u36.1))] ++ [(b1, .inl (g.2.1, 30, .inl u36.2.1))] ++ [(b2, .inl (g.2.1, 15, .inl G2))] ++ [(b3, .inl (g.2.1, 63, .inl u36.2.2))]) := hD
        refine lv_goto (tgt := 348) hx hb dL_next_237 (by decide) ?_
        have hR : (u36.1, u36.2.1, G2, u36.2.2) = r := Option.some.inj hf
        rw [← hR]
        exact W.vret hx hb hr0 (fun t ht hW => ⟨⟨(), rfl, trivial, by rw [ht]; exact hP, hD⟩, hS.F ht⟩) hS.2.2 dL_next_348
      · have hf := oe hf c35
        refine lv_iload hx hb dL_next_221 (lv_at hl 6 rfl) ?_
        refine lv_aload_n hx hb dL_next_223 rfl (lv_at hl 1 rfl) ?_
        refine lv_iconst (v := 2) hx hb dL_next_224 (by decide) ?_
        refine zald (D := g.1) (f := u18.2.1) (k := 2) hx hb hK.1 hP 0 0 rfl rfl (zin_vp (i := 2) (n := 9) rfl) rfl dL_next_225 ?_
        refine lv_icmp_gt (tgt := 240) hx hb dL_next_226 (by decide) (fun c37 => ?_) (fun c37 => ?_)
        · have hf := oi hf c37
          refine lv_iload hx hb dL_next_240 (lv_at hl 0 rfl) ?_
          refine lv_if_le (tgt := 312) hx hb dL_next_242 (by decide) (fun c38 => ?_) (fun c38 => ?_)
          · have hf := oi hf c38
            refine lv_iload hx hb dL_next_312 (lv_at hl 6 rfl) ?_
            refine lv_aload_n hx hb dL_next_314 rfl (lv_at hl 1 rfl) ?_
            refine lv_iconst (v := 2) hx hb dL_next_315 (by decide) ?_
            refine zald (D := g.1) (f := u18.2.1) (k := 2) hx hb hK.1 hP 0 0 rfl rfl (zin_vp (i := 2) (n := 9) rfl) rfl dL_next_316 ?_
            refine lv_icmp_le (tgt := 344) hx hb dL_next_317 (by decide) (fun c39 => ?_) (fun c39 => ?_)
            · have hf := oi hf c39
              refine lv_aload_n hx hb dL_next_344 rfl (lv_at hl 1 rfl) ?_
              refine lv_iconst (v := 3) hx hb dL_next_345 (by decide) ?_
              refine lv_iconst (v := 1) hx hb dL_next_346 (by decide) ?_
              refine zast (D := g.1) (f := u18.2.1) (k := 3) (x := 1) hx hb hK.1 hP hD hS 0 0 rfl rfl (zin_vp (i := 3) (n := 9) rfl) rfl dL_next_347 (fun H locs hP hD hS => ?_)
              have hP : va_P g.1 vwCl ([(b0, .inl (g.2.1, 9, .inl (upd u18.2.1 3 1)))] ++ [(b1, .inl (g.2.1, 30, .inl u18.2.2.1))] ++ [(b2, .inl (g.2.1, 15, .inl G2))] ++ [(b3, .inl (g.2.1, 63, .inl u18.2.2.2))]) H := hP
              have hD : va_D A ([(b0, .inl (g.2.1, 9, .inl (upd u18.2.1 3 1)))] ++ [(b1, .inl (g.2.1, 30, .inl u18.2.2.1))] ++ [(b2, .inl (g.2.1, 15, .inl G2))] ++ [(b3, .inl (g.2.1, 63, .inl u18.2.2.2))]) := hD
              have hR : ((upd u18.2.1 3 1), u18.2.2.1, G2, u18.2.2.2) = r := Option.some.inj hf
              rw [← hR]
              exact W.vret hx hb hr0 (fun t ht hW => ⟨⟨(), rfl, trivial, by rw [ht]; exact hP, hD⟩, hS.F ht⟩) hS.2.2 dL_next_348
            · have hf := oe hf c39
              refine lv_aload_n hx hb dL_next_320 rfl (lv_at hl 1 rfl) ?_
              refine lv_iconst (v := 4) hx hb dL_next_321 (by decide) ?_
              refine lv_bipush (v := 40) hx hb dL_next_322 (by decide) ?_
              refine zast (D := g.1) (f := u18.2.1) (k := 4) (x := 40) hx hb hK.1 hP hD hS 0 0 rfl rfl (zin_vp (i := 4) (n := 9) rfl) rfl dL_next_324 (fun H locs hP hD hS => ?_)
              have hP : va_P g.1 vwCl ([(b0, .inl (g.2.1, 9, .inl (upd u18.2.1 4 40)))] ++ [(b1, .inl (g.2.1, 30, .inl u18.2.2.1))] ++ [(b2, .inl (g.2.1, 15, .inl G2))] ++ [(b3, .inl (g.2.1, 63, .inl u18.2.2.2))]) H := hP
              have hD : va_D A ([(b0, .inl (g.2.1, 9, .inl (upd u18.2.1 4 40)))] ++ [(b1, .inl (g.2.1, 30, .inl u18.2.2.1))] ++ [(b2, .inl (g.2.1, 15, .inl G2))] ++ [(b3, .inl (g.2.1, 63, .inl u18.2.2.2))]) := hD
              refine lv_aload_n hx hb dL_next_325 rfl (lv_at hl 1 rfl) ?_
              refine lv_iconst (v := 5) hx hb dL_next_326 (by decide) ?_
              refine lv_iload hx hb dL_next_327 (lv_at hl 6 rfl) ?_
              refine lv_aload_n hx hb dL_next_329 rfl (lv_at hl 1 rfl) ?_
              refine lv_iconst (v := 2) hx hb dL_next_330 (by decide) ?_
              refine zald (D := g.1) (f := (upd u18.2.1 4 40)) (k := 2) hx hb hK.1 hP 0 0 rfl rfl (zin_vp (i := 2) (n := 9) rfl) rfl dL_next_331 ?_
              refine zeqi (y := (u18.2.1 2)) rfl ?_
              refine lv_isub hx hb dL_next_332 ?_
              refine zast (D := g.1) (f := (upd u18.2.1 4 40)) (k := 5) (x := (u2 - (u18.2.1 2))) hx hb hK.1 hP hD hS 0 0 rfl rfl (zin_vp (i := 5) (n := 9) rfl) rfl dL_next_333 (fun H locs hP hD hS => ?_)
              have hP : va_P g.1 vwCl ([(b0, .inl (g.2.1, 9, .inl (upd (upd u18.2.1 4 40) 5 (u2 - (u18.2.1 2)))))] ++ [(b1, .inl (g.2.1, 30, .inl u18.2.2.1))] ++ [(b2, .inl (g.2.1, 15, .inl G2))] ++ [(b3, .inl (g.2.1, 63, .inl u18.2.2.2))]) H := hP
              have hD : va_D A ([(b0, .inl (g.2.1, 9, .inl (upd (upd u18.2.1 4 40) 5 (u2 - (u18.2.1 2)))))] ++ [(b1, .inl (g.2.1, 30, .inl u18.2.2.1))] ++ [(b2, .inl (g.2.1, 15, .inl G2))] ++ [(b3, .inl (g.2.1, 63, .inl u18.2.2.2))]) := hD
              refine lv_aload_n hx hb dL_next_334 rfl (lv_at hl 1 rfl) ?_
              refine lv_aload_n hx hb dL_next_335 rfl (lv_at hl 4 rfl) ?_
              refine lv_iconst (v := 2) hx hb dL_next_336 (by decide) ?_
              refine lv_iconst (v := (-1)) hx hb dL_next_337 (by decide) ?_
              obtain ⟨u40, hu40, hf⟩ := ob hf
              refine zk_v (va_runS (As := [.ref b0, .ref b3, .int 2, .int (-1)]) (rest := []) ⟨hx, hb, hml, hown, hts⟩ (c_L_notes l g b0 b3 (upd (upd u18.2.1 4 40) 5 (u2 - (u18.2.1 2))) u18.2.2.2 2 (-1) _ hu40 _) (zcS hw0 zm2_222 zm2_224 zm1_0 zm2_223 hd_L_notes rfl rfl ⟨Nat.le_of_ble_eq_true rfl, Nat.le_of_ble_eq_true rfl⟩) ⟨zblind, zpre hK hP hD [0, 3] rfl rfl⟩ rfl rfl hl.1 rfl (lv_room (Nat.le_of_ble_eq_true rfl)) dL_next_338 ⟨Nat.zero_le _, Nat.zero_le _⟩) hP hD hS hA [0, 3] rfl rfl (fun H locs hP hD hS => ?_)
              have hP : va_P g.1 vwCl ([(b0, .inl (g.2.1, 9, .inl u40.1))] ++ [(b1, .inl (g.2.1, 30, .inl u18.2.2.1))] ++ [(b2, .inl (g.2.1, 15, .inl G2))] ++ [(b3, .inl (g.2.1, 63, .inl u40.2))]) H := hP
              have hD : va_D A ([(b0, .inl (g.2.1, 9, .inl u40.1))] ++ [(b1, .inl (g.2.1, 30, .inl u18.2.2.1))] ++ [(b2, .inl (g.2.1, 15, .inl G2))] ++ [(b3, .inl (g.2.1, 63, .inl u40.2))]) := hD
              refine lv_goto (tgt := 348) hx hb dL_next_341 (by decide) ?_
              have hR : (u40.1, u18.2.2.1, G2, u40.2) = r := Option.some.inj hf
              rw [← hR]
              exact W.vret hx hb hr0 (fun t ht hW => ⟨⟨(), rfl, trivial, by rw [ht]; exact hP, hD⟩, hS.F ht⟩) hS.2.2 dL_next_348
          · have hf := oe hf c38
            refine lv_iconst (v := 0) hx hb dL_next_245 (by decide) ?_
            refine lv_istore (lv' := [(9, .int 0), (8, .int u23), (0, .ref b0), (1, .ref b1), (2, .ref b2), (3, .ref b3), (4, .int u1), (5, .int u2), (7, .int u22)]) hx hb dL_next_246 hl (by decide) rfl (fun ls hl => ?_)
            obtain ⟨u41, hu41, hf⟩ := ob hf
            refine lp248 u18.2.1 u18.2.2.1 G2 u18.2.2.2 u23 _ _ u41 hu41 (fun H locs hP hD hS ls hl => ?_) _ _ hP hD hS _ (lv_sub hl [2, 4, 5, 1, 0] rfl)
            have hl : lv_has ls 10 [(0, .ref b0), (2, .ref b2), (3, .ref b3), (9, .int u41)] := hl
            have hP : va_P g.1 vwCl ([(b0, .inl (g.2.1, 9, .inl u18.2.1))] ++ [(b1, .inl (g.2.1, 30, .inl u18.2.2.1))] ++ [(b2, .inl (g.2.1, 15, .inl G2))] ++ [(b3, .inl (g.2.1, 63, .inl u18.2.2.2))]) H := hP
            have hD : va_D A ([(b0, .inl (g.2.1, 9, .inl u18.2.1))] ++ [(b1, .inl (g.2.1, 30, .inl u18.2.2.1))] ++ [(b2, .inl (g.2.1, 15, .inl G2))] ++ [(b3, .inl (g.2.1, 63, .inl u18.2.2.2))]) := hD
            refine lv_aload_n hx hb dL_next_264 rfl (lv_at hl 1 rfl) ?_
            refine lv_iconst (v := 3) hx hb dL_next_265 (by decide) ?_
            refine lv_iload hx hb dL_next_266 (lv_at hl 3 rfl) ?_
            refine lv_imul hx hb dL_next_268 ?_
            refine lv_iconst (v := 1) hx hb dL_next_269 (by decide) ?_
            refine lv_iadd hx hb dL_next_270 ?_
            refine lv_iconst (v := 1) hx hb dL_next_271 (by decide) ?_
            obtain ⟨h42, hf⟩ := og hf
            refine zast (D := g.1) (f := G2) (k := ((3 * u41) + 1).toNatClampNeg) (x := 1) hx hb hK.1 hP hD hS 2 0 rfl rfl (zin_vp h42) rfl dL_next_272 (fun H locs hP hD hS => ?_)
            have hP : va_P g.1 vwCl ([(b0, .inl (g.2.1, 9, .inl u18.2.1))] ++ [(b1, .inl (g.2.1, 30, .inl u18.2.2.1))] ++ [(b2, .inl (g.2.1, 15, .inl (upd G2 (((3 * u41) + 1).toNatClampNeg) 1)))] ++ [(b3, .inl (g.2.1, 63, .inl u18.2.2.2))]) H := hP
            have hD : va_D A ([(b0, .inl (g.2.1, 9, .inl u18.2.1))] ++ [(b1, .inl (g.2.1, 30, .inl u18.2.2.1))] ++ [(b2, .inl (g.2.1, 15, .inl (upd G2 (((3 * u41) + 1).toNatClampNeg) 1)))] ++ [(b3, .inl (g.2.1, 63, .inl u18.2.2.2))]) := hD
            refine lv_aload_n hx hb dL_next_273 rfl (lv_at hl 1 rfl) ?_
            refine lv_iconst (v := 3) hx hb dL_next_274 (by decide) ?_
            refine lv_iload hx hb dL_next_275 (lv_at hl 3 rfl) ?_
            refine lv_imul hx hb dL_next_277 ?_
            refine lv_iconst (v := 2) hx hb dL_next_278 (by decide) ?_
            refine lv_iadd hx hb dL_next_279 ?_
            refine lv_aload_n hx hb dL_next_280 rfl (lv_at hl 0 rfl) ?_
            refine lv_iconst (v := 2) hx hb dL_next_281 (by decide) ?_
            refine zald (D := g.1) (f := u18.2.1) (k := 2) hx hb hK.1 hP 0 0 rfl rfl (zin_vp (i := 2) (n := 9) rfl) rfl dL_next_282 ?_
            obtain ⟨h43, hf⟩ := og hf
            refine zast (D := g.1) (f := (upd G2 (((3 * u41) + 1).toNatClampNeg) 1)) (k := ((3 * u41) + 2).toNatClampNeg) (x := (u18.2.1 2)) hx hb hK.1 hP hD hS 2 0 rfl rfl (zin_vp h43) rfl dL_next_283 (fun H locs hP hD hS => ?_)
            have hP : va_P g.1 vwCl ([(b0, .inl (g.2.1, 9, .inl u18.2.1))] ++ [(b1, .inl (g.2.1, 30, .inl u18.2.2.1))] ++ [(b2, .inl (g.2.1, 15, .inl (upd (upd G2 (((3 * u41) + 1).toNatClampNeg) 1) (((3 * u41) + 2).toNatClampNeg) (u18.2.1 2))))] ++ [(b3, .inl (g.2.1, 63, .inl u18.2.2.2))]) H := hP
            have hD : va_D A ([(b0, .inl (g.2.1, 9, .inl u18.2.1))] ++ [(b1, .inl (g.2.1, 30, .inl u18.2.2.1))] ++ [(b2, .inl (g.2.1, 15, .inl (upd (upd G2 (((3 * u41) + 1).toNatClampNeg) 1) (((3 * u41) + 2).toNatClampNeg) (u18.2.1 2))))] ++ [(b3, .inl (g.2.1, 63, .inl u18.2.2.2))]) := hD
            refine lv_aload_n hx hb dL_next_284 rfl (lv_at hl 0 rfl) ?_
            refine lv_iconst (v := 4) hx hb dL_next_285 (by decide) ?_
            refine lv_bipush (v := 21) hx hb dL_next_286 (by decide) ?_
            refine lv_iload hx hb dL_next_288 (lv_at hl 3 rfl) ?_
            refine lv_iadd hx hb dL_next_290 ?_
            refine zast (D := g.1) (f := u18.2.1) (k := 4) (x := (21 + u41)) hx hb hK.1 hP hD hS 0 0 rfl rfl (zin_vp (i := 4) (n := 9) rfl) rfl dL_next_291 (fun H locs hP hD hS => ?_)
            have hP : va_P g.1 vwCl ([(b0, .inl (g.2.1, 9, .inl (upd u18.2.1 4 (21 + u41))))] ++ [(b1, .inl (g.2.1, 30, .inl u18.2.2.1))] ++ [(b2, .inl (g.2.1, 15, .inl (upd (upd G2 (((3 * u41) + 1).toNatClampNeg) 1) (((3 * u41) + 2).toNatClampNeg) (u18.2.1 2))))] ++ [(b3, .inl (g.2.1, 63, .inl u18.2.2.2))]) H := hP
            have hD : va_D A ([(b0, .inl (g.2.1, 9, .inl (upd u18.2.1 4 (21 + u41))))] ++ [(b1, .inl (g.2.1, 30, .inl u18.2.2.1))] ++ [(b2, .inl (g.2.1, 15, .inl (upd (upd G2 (((3 * u41) + 1).toNatClampNeg) 1) (((3 * u41) + 2).toNatClampNeg) (u18.2.1 2))))] ++ [(b3, .inl (g.2.1, 63, .inl u18.2.2.2))]) := hD
            refine lv_aload_n hx hb dL_next_292 rfl (lv_at hl 0 rfl) ?_
            refine lv_iconst (v := 5) hx hb dL_next_293 (by decide) ?_
            refine lv_aload_n hx hb dL_next_294 rfl (lv_at hl 1 rfl) ?_
            refine lv_iconst (v := 3) hx hb dL_next_295 (by decide) ?_
            refine lv_iload hx hb dL_next_296 (lv_at hl 3 rfl) ?_
            refine lv_imul hx hb dL_next_298 ?_
            obtain ⟨h44, hf⟩ := og hf
            refine zald (D := g.1) (f := (upd (upd G2 (((3 * u41) + 1).toNatClampNeg) 1) (((3 * u41) + 2).toNatClampNeg) (u18.2.1 2))) (k := (3 * u41).toNatClampNeg) hx hb hK.1 hP 2 0 rfl rfl (zin_vp h44) rfl dL_next_299 ?_
            refine zast (D := g.1) (f := (upd u18.2.1 4 (21 + u41))) (k := 5) (x := ((upd (upd G2 (((3 * u41) + 1).toNatClampNeg) 1) (((3 * u41) + 2).toNatClampNeg) (u18.2.1 2)) (3 * u41).toNatClampNeg)) hx hb hK.1 hP hD hS 0 0 rfl rfl (zin_vp (i := 5) (n := 9) rfl) rfl dL_next_300 (fun H locs hP hD hS => ?_)
            have hP : va_P g.1 vwCl ([(b0, .inl (g.2.1, 9, .inl (upd (upd u18.2.1 4 (21 + u41)) 5 ((upd (upd G2 (((3 * u41) + 1).toNatClampNeg) 1) (((3 * u41) + 2).toNatClampNeg) (u18.2.1 2)) (3 * u41).toNatClampNeg))))] ++ [(b1, .inl (g.2.1, 30, .inl u18.2.2.1))] ++ [(b2, .inl (g.2.1, 15, .inl (upd (upd G2 (((3 * u41) + 1).toNatClampNeg) 1) (((3 * u41) + 2).toNatClampNeg) (u18.2.1 2))))] ++ [(b3, .inl (g.2.1, 63, .inl u18.2.2.2))]) H := hP
            have hD : va_D A ([(b0, .inl (g.2.1, 9, .inl (upd (upd u18.2.1 4 (21 + u41)) 5 ((upd (upd G2 (((3 * u41) + 1).toNatClampNeg) 1) (((3 * u41) + 2).toNatClampNeg) (u18.2.1 2)) (3 * u41).toNatClampNeg))))] ++ [(b1, .inl (g.2.1, 30, .inl u18.2.2.1))] ++ [(b2, .inl (g.2.1, 15, .inl (upd (upd G2 (((3 * u41) + 1).toNatClampNeg) 1) (((3 * u41) + 2).toNatClampNeg) (u18.2.1 2))))] ++ [(b3, .inl (g.2.1, 63, .inl u18.2.2.2))]) := hD
            refine lv_aload_n hx hb dL_next_301 rfl (lv_at hl 0 rfl) ?_
            refine lv_aload_n hx hb dL_next_302 rfl (lv_at hl 2 rfl) ?_
            refine lv_iconst (v := 1) hx hb dL_next_303 (by decide) ?_
            refine lv_iload hx hb dL_next_304 (lv_at hl 3 rfl) ?_
            obtain ⟨u45, hu45, hf⟩ := ob hf
            refine zk_v (va_runS (As := [.ref b0, .ref b3, .int 1, .int u41]) (rest := []) ⟨hx, hb, hml, hown, hts⟩ (c_L_notes l g b0 b3 (upd (upd u18.2.1 4 (21 + u41)) 5 ((upd (upd G2 (((3 * u41) + 1).toNatClampNeg) 1) (((3 * u41) + 2).toNatClampNeg) (u18.2.1 2)) (3 * u41).toNatClampNeg)) u18.2.2.2 1 u41 _ hu45 _) (zcS hw0 zm2_222 zm2_224 zm1_0 zm2_223 hd_L_notes rfl rfl ⟨Nat.le_of_ble_eq_true rfl, Nat.le_of_ble_eq_true rfl⟩) ⟨zblind, zpre hK hP hD [0, 3] rfl rfl⟩ rfl rfl hl.1 rfl (lv_room (Nat.le_of_ble_eq_true rfl)) dL_next_306 ⟨Nat.zero_le _, Nat.zero_le _⟩) hP hD hS hA [0, 3] rfl rfl (fun H locs hP hD hS => ?_)
            have hP : va_P g.1 vwCl ([(b0, .inl (g.2.1, 9, .inl u45.1))] ++ [(b1, .inl (g.2.1, 30, .inl u18.2.2.1))] ++ [(b2, .inl (g.2.1, 15, .inl (upd (upd G2 (((3 * u41) + 1).toNatClampNeg) 1) (((3 * u41) + 2).toNatClampNeg) (u18.2.1 2))))] ++ [(b3, .inl (g.2.1, 63, .inl u45.2))]) H := hP
            have hD : va_D A ([(b0, .inl (g.2.1, 9, .inl u45.1))] ++ [(b1, .inl (g.2.1, 30, .inl u18.2.2.1))] ++ [(b2, .inl (g.2.1, 15, .inl (upd (upd G2 (((3 * u41) + 1).toNatClampNeg) 1) (((3 * u41) + 2).toNatClampNeg) (u18.2.1 2))))] ++ [(b3, .inl (g.2.1, 63, .inl u45.2))]) := hD
            refine lv_goto (tgt := 348) hx hb dL_next_309 (by decide) ?_
            have hR : (u45.1, u18.2.2.1, (upd (upd G2 (((3 * u41) + 1).toNatClampNeg) 1) (((3 * u41) + 2).toNatClampNeg) (u18.2.1 2)), u45.2) = r := Option.some.inj hf
            rw [← hR]
            exact W.vret hx hb hr0 (fun t ht hW => ⟨⟨(), rfl, trivial, by rw [ht]; exact hP, hD⟩, hS.F ht⟩) hS.2.2 dL_next_348
        · have hf := oe hf c37
          refine lv_aload_n hx hb dL_next_229 rfl (lv_at hl 1 rfl) ?_
          refine lv_aload_n hx hb dL_next_230 rfl (lv_at hl 2 rfl) ?_
          refine lv_aload_n hx hb dL_next_231 rfl (lv_at hl 4 rfl) ?_
          refine lv_iload hx hb dL_next_232 (lv_at hl 7 rfl) ?_
          obtain ⟨u46, hu46, hf⟩ := ob hf
          refine zk_v (va_runS (As := [.ref b0, .ref b1, .ref b3, .int u22]) (rest := []) ⟨hx, hb, hml, hown, hts⟩ (c_L_begins l g b0 b1 b3 u18.2.1 u18.2.2.1 u18.2.2.2 u22 _ hu46 _) (zcS hw0 zm3_128 zm3_130 zm1_0 zm3_129 hd_L_begins rfl rfl ⟨Nat.le_of_ble_eq_true rfl, Nat.le_of_ble_eq_true rfl⟩) ⟨zblind, zpre hK hP hD [0, 1, 3] rfl rfl⟩ rfl rfl hl.1 rfl (lv_room (Nat.le_of_ble_eq_true rfl)) dL_next_234 ⟨Nat.zero_le _, Nat.zero_le _⟩) hP hD hS hA [0, 1, 3] rfl rfl (fun H locs hP hD hS => ?_)
          have hP : va_P g.1 vwCl ([(b0, .inl (g.2.1, 9, .inl u46.1))] ++ [(b1, .inl (g.2.1, 30, .inl u46.2.1))] ++ [(b2, .inl (g.2.1, 15, .inl G2))] ++ [(b3, .inl (g.2.1, 63, .inl u46.2.2))]) H := hP
          have hD : va_D A ([(b0, .inl (g.2.1, 9, .inl u46.1))] ++ [(b1, .inl (g.2.1, 30, .inl u46.2.1))] ++ [(b2, .inl (g.2.1, 15, .inl G2))] ++ [(b3, .inl (g.2.1, 63, .inl u46.2.2))]) := hD
          refine lv_goto (tgt := 348) hx hb dL_next_237 (by decide) ?_
          have hR : (u46.1, u46.2.1, G2, u46.2.2) = r := Option.some.inj hf
          rw [← hR]
          exact W.vret hx hb hr0 (fun t ht hW => ⟨⟨(), rfl, trivial, by rw [ht]; exact hP, hD⟩, hS.F ht⟩) hS.2.2 dL_next_348
  have hf := hu23
  refine lv_icmp_lt (tgt := 189) hx hb dL_next_178 (by decide) (fun c47 => ?_) (fun c47 => ?_)
  · have hf := oi hf c47
    refine lv_iconst (v := 0) hx hb dL_next_189 (by decide) ?_
    refine lv_goto (tgt := 204) hx hb dL_next_190 (by decide) ?_
    exact zeqi (Option.some.inj hf) (j24 _ _ hP hD hS)
  · have hf := oe hf c47
    refine lv_iload hx hb dL_next_181 (lv_at hl 5 rfl) ?_
    refine lv_aload_n hx hb dL_next_183 rfl (lv_at hl 0 rfl) ?_
    refine lv_iconst (v := 2) hx hb dL_next_184 (by decide) ?_
    refine zald (D := g.1) (f := u18.2.1) (k := 2) hx hb hK.1 hP 0 0 rfl rfl (zin_vp (i := 2) (n := 9) rfl) rfl dL_next_185 ?_
    refine lv_icmp_gt (tgt := 193) hx hb dL_next_186 (by decide) (fun c48 => ?_) (fun c48 => ?_)
    · have hf := oi hf c48
      refine lv_aload_n hx hb dL_next_193 rfl (lv_at hl 0 rfl) ?_
      refine lv_aload_n hx hb dL_next_194 rfl (lv_at hl 2 rfl) ?_
      refine lv_iload hx hb dL_next_195 (lv_at hl 5 rfl) ?_
      refine lv_aload_n hx hb dL_next_197 rfl (lv_at hl 0 rfl) ?_
      refine lv_iconst (v := 2) hx hb dL_next_198 (by decide) ?_
      refine zald (D := g.1) (f := u18.2.1) (k := 2) hx hb hK.1 hP 0 0 rfl rfl (zin_vp (i := 2) (n := 9) rfl) rfl dL_next_199 ?_
      refine lv_isub hx hb dL_next_200 ?_
      obtain ⟨u49, hu49, hf⟩ := ob hf
      refine zk_iR (va_runS (As := [.ref b0, .ref b2, .int (u2 - (u18.2.1 2))]) (rest := []) ⟨hx, hb, hml, hown, hts⟩ (c_L_choice l g b0 b2 u18.2.1 G2 (u2 - (u18.2.1 2)) _ hu49 _) (zcS hw0 zm3_121 zm3_123 zm1_0 zm3_122 hd_L_choice rfl rfl ⟨Nat.le_of_ble_eq_true rfl, Nat.le_of_ble_eq_true rfl⟩) ⟨zblind, zpre hK hP hD [0, 2] rfl rfl⟩ rfl rfl hl.1 rfl (lv_room (Nat.le_of_ble_eq_true rfl)) dL_next_201 ⟨Nat.zero_le _, Nat.zero_le _⟩) hP hD hS hA [0, 2] rfl (fun H locs hP hD hS => ?_)
      exact zeqi (Option.some.inj hf) (j24 _ _ hP hD hS)
    · have hf := oe hf c48
      refine lv_iconst (v := 0) hx hb dL_next_189 (by decide) ?_
      refine lv_goto (tgt := 204) hx hb dL_next_190 (by decide) ?_
      exact zeqi (Option.some.inj hf) (j24 _ _ hP hD hS)
