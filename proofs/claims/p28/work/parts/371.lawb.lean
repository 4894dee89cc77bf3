theorem hd_L_notes : yL_notes.cls ≠ "java/lang/invoke/MethodHandle" ∧ yL_notes.cls ≠ "java/lang/invoke/VarHandle" ∧ (parseMethodDescriptor yL_notes.desc).map (fun d => d.parameters.length) = some 4 := by decide +kernel
def f_L_notes (G0 : FF) (G1 : FF) (p0 : Int32) (p1 : Int32) : Option (FF × FF) :=
  if 21 ≤ (G0 8) then
    some ((upd G0 8 ((G0 8) + 1)), G1)
  else
    if zin (3 * (G0 8)) 63 = true then
    if zin ((3 * (G0 8)) + 1) 63 = true then
    if zin ((3 * (G0 8)) + 2) 63 = true then
    some ((upd G0 8 ((G0 8) + 1)), (upd (upd (upd G1 ((3 * (G0 8)).toNatClampNeg) (G0 2)) (((3 * (G0 8)) + 1).toNatClampNeg) p0) (((3 * (G0 8)) + 2).toNatClampNeg) p1))
    else none
    else none
    else none
set_option maxHeartbeats 4000000 in
set_option maxRecDepth 100000 in
theorem c_L_notes (l : Launch) (g : zG) (b0 : Nat) (b1 : Nat) (G0 : FF) (G1 : FF) (p0 : Int32) (p1 : Int32) (r : FF × FF) (hf : f_L_notes G0 G1 p0 p1 = some r) : zMv zNF zNM l yL_notes (zw yL_notes cL_notes 4 none) ({ frames := 0, cells := 0, slots := 0, locals := 0 } : Room) g [.ref b0, .ref b1, .int p0, .int p1] ([(b0, .inl (g.2.1, 9, .inl G0))] ++ [(b1, .inl (g.2.1, 63, .inl G1))]) ([(b0, .inl (g.2.1, 9, .inl r.1))] ++ [(b1, .inl (g.2.1, 63, .inl r.2))]) := by
  intro sz
  refine Met.ofW (cc := cL_notes) (maxL := 4) (ret := none) (by decide) rfl ?_
  intro p e s m args below meth c s₁ B hml hv
  obtain ⟨rfl, hsz, hP, hK, hD0⟩ := hv
  have hx := B.exec
  have hb := B.bytes
  have hr0 := B.returns
  have hts := atoms_spec (ws := (zw yL_notes cL_notes 4 none)) B.pre
  have hw0 : ∀ w ∈ zW, w.before ([.ref b0, .ref b1, .int p0, .int p1] : List Value).toArray s = true := fun w h => hts w (List.mem_cons_of_mem _ h)
  have hown : s.vm.findClass RL = some m.cls := findClass_of_methodNamed B.named
  have hlocks := B.notSynchronized
  subst hsz
  have hD := hD0.self (sz := s.heap.size)
  generalize hAe : va_A ([(b0, .inl (g.2.1, 9, .inl G0))] ++ [(b1, .inl (g.2.1, 63, .inl G1))]) s.heap.size = A at hD ⊢
  have hA : ∀ q : Nat, s.heap.size ≤ q → A q := fun q h => by rw [← hAe]; exact Or.inr h
  have hS : va_S A s.heap s.heap [] := va_S.rf
  unfold f_L_notes at hf
  have hl := lv_entry ([.ref b0, .ref b1, .int p0, .int p1]) (n := 4) (Nat.le_of_ble_eq_true rfl)
  rw [lg_entry_eq]
  generalize (lg_sl ([.ref b0, .ref b1, .int p0, .int p1]) ++ List.replicate (4 - (lg_sl ([.ref b0, .ref b1, .int p0, .int p1])).length) Slot.unset).toArray = ls at hl ⊢
  have hl : lv_has ls 4 [(0, .ref b0), (1, .ref b1), (2, .int p0), (3, .int p1)] := hl
  refine lv_aload_n hx hb dL_notes_0 rfl (lv_at hl 0 rfl) ?_
  refine lv_bipush (v := 8) hx hb dL_notes_1 (by decide) ?_
  refine zald (D := g.1) (f := G0) (k := 8) hx hb hK.1 hP 0 0 rfl rfl (zin_vp (i := 8) (n := 9) rfl) rfl dL_notes_3 ?_
  refine lv_bipush (v := 21) hx hb dL_notes_4 (by decide) ?_
  refine lv_icmp_ge (tgt := 42) hx hb dL_notes_6 (by decide) (fun c1 => ?_) (fun c1 => ?_)
  · have hf := oi hf c1
    refine lv_aload_n hx hb dL_notes_42 rfl (lv_at hl 0 rfl) ?_
    refine lv_bipush (v := 8) hx hb dL_notes_43 (by decide) ?_
    refine lv_dup2_11 hx hb dL_notes_45 rfl rfl ?_
    refine zald (D := g.1) (f := G0) (k := 8) hx hb hK.1 hP 0 0 rfl rfl (zin_vp (i := 8) (n := 9) rfl) rfl dL_notes_46 ?_
    refine lv_iconst (v := 1) hx hb dL_notes_47 (by decide) ?_
    refine lv_iadd hx hb dL_notes_48 ?_
    refine zast (D := g.1) (f := G0) (k := 8) (x := ((G0 8) + 1)) hx hb hK.1 hP hD hS 0 0 rfl rfl (zin_vp (i := 8) (n := 9) rfl) rfl dL_notes_49 (fun H locs hP hD hS => ?_)
    have hP : va_P g.1 vwCl ([(b0, .inl (g.2.1, 9, .inl (upd G0 8 ((G0 8) + 1))))] ++ [(b1, .inl (g.2.1, 63, .inl G1))]) H := hP
    have hD : va_D A ([(b0, .inl (g.2.1, 9, .inl (upd G0 8 ((G0 8) + 1))))] ++ [(b1, .inl (g.2.1, 63, .inl G1))]) := hD
    have hR : ((upd G0 8 ((G0 8) + 1)), G1) = r := Option.some.inj hf
    rw [← hR]
    exact W.vret hx hb hr0 (fun t ht hW => ⟨⟨(), rfl, trivial, by rw [ht]; exact hP, hD⟩, hS.F ht⟩) hS.2.2 dL_notes_50
  · have hf := oe hf c1
    refine lv_aload_n hx hb dL_notes_9 rfl (lv_at hl 1 rfl) ?_
    refine lv_iconst (v := 3) hx hb dL_notes_10 (by decide) ?_
    refine lv_aload_n hx hb dL_notes_11 rfl (lv_at hl 0 rfl) ?_
    refine lv_bipush (v := 8) hx hb dL_notes_12 (by decide) ?_
    refine zald (D := g.1) (f := G0) (k := 8) hx hb hK.1 hP 0 0 rfl rfl (zin_vp (i := 8) (n := 9) rfl) rfl dL_notes_14 ?_
    refine lv_imul hx hb dL_notes_15 ?_
    refine lv_aload_n hx hb dL_notes_16 rfl (lv_at hl 0 rfl) ?_
    refine lv_iconst (v := 2) hx hb dL_notes_17 (by decide) ?_
    refine zald (D := g.1) (f := G0) (k := 2) hx hb hK.1 hP 0 0 rfl rfl (zin_vp (i := 2) (n := 9) rfl) rfl dL_notes_18 ?_
    obtain ⟨h2, hf⟩ := og hf
    refine zast (D := g.1) (f := G1) (k := (3 * (G0 8)).toNatClampNeg) (x := (G0 2)) hx hb hK.1 hP hD hS 1 0 rfl rfl (zin_vp h2) rfl dL_notes_19 (fun H locs hP hD hS => ?_)
    have hP : va_P g.1 vwCl ([(b0, .inl (g.2.1, 9, .inl G0))] ++ [(b1, .inl (g.2.1, 63, .inl (upd G1 ((3 * (G0 8)).toNatClampNeg) (G0 2))))]) H := hP
    have hD : va_D A ([(b0, .inl (g.2.1, 9, .inl G0))] ++ [(b1, .inl (g.2.1, 63, .inl (upd G1 ((3 * (G0 8)).toNatClampNeg) (G0 2))))]) := hD
    refine lv_aload_n hx hb dL_notes_20 rfl (lv_at hl 1 rfl) ?_
    refine lv_iconst (v := 3) hx hb dL_notes_21 (by decide) ?_
    refine lv_aload_n hx hb dL_notes_22 rfl (lv_at hl 0 rfl) ?_
    refine lv_bipush (v := 8) hx hb dL_notes_23 (by decide) ?_
    refine zald (D := g.1) (f := G0) (k := 8) hx hb hK.1 hP 0 0 rfl rfl (zin_vp (i := 8) (n := 9) rfl) rfl dL_notes_25 ?_
    refine lv_imul hx hb dL_notes_26 ?_
    refine lv_iconst (v := 1) hx hb dL_notes_27 (by decide) ?_
    refine lv_iadd hx hb dL_notes_28 ?_
    refine lv_iload_n hx hb dL_notes_29 rfl (lv_at hl 2 rfl) ?_
    obtain ⟨h3, hf⟩ := og hf
    refine zast (D := g.1) (f := (upd G1 ((3 * (G0 8)).toNatClampNeg) (G0 2))) (k := ((3 * (G0 8)) + 1).toNatClampNeg) (x := p0) hx hb hK.1 hP hD hS 1 0 rfl rfl (zin_vp h3) rfl dL_notes_30 (fun H locs hP hD hS => ?_)
    have hP : va_P g.1 vwCl ([(b0, .inl (g.2.1, 9, .inl G0))] ++ [(b1, .inl (g.2.1, 63, .inl (upd (upd G1 ((3 * (G0 8)).toNatClampNeg) (G0 2)) (((3 * (G0 8)) + 1).toNatClampNeg) p0)))]) H := hP
    have hD : va_D A ([(b0, .inl (g.2.1, 9, .inl G0))] ++ [(b1, .inl (g.2.1, 63, .inl (upd (upd G1 ((3 * (G0 8)).toNatClampNeg) (G0 2)) (((3 * (G0 8)) + 1).toNatClampNeg) p0)))]) := hD
    refine lv_aload_n hx hb dL_notes_31 rfl (lv_at hl 1 rfl) ?_
    refine lv_iconst (v := 3) hx hb dL_notes_32 (by decide) ?_
    refine lv_aload_n hx hb dL_notes_33 rfl (lv_at hl 0 rfl) ?_
    refine lv_bipush (v := 8) hx hb dL_notes_34 (by decide) ?_
    refine zald (D := g.1) (f := G0) (k := 8) hx hb hK.1 hP 0 0 rfl rfl (zin_vp (i := 8) (n := 9) rfl) rfl dL_notes_36 ?_
    refine lv_imul hx hb dL_notes_37 ?_
    refine lv_iconst (v := 2) hx hb dL_notes_38 (by decide) ?_
    refine lv_iadd hx hb dL_notes_39 ?_
    refine lv_iload_n hx hb dL_notes_40 rfl (lv_at hl 3 rfl) ?_
    obtain ⟨h4, hf⟩ := og hf
    refine zast (D := g.1) (f := (upd (upd G1 ((3 * (G0 8)).toNatClampNeg) (G0 2)) (((3 * (G0 8)) + 1).toNatClampNeg) p0)) (k := ((3 * (G0 8)) + 2).toNatClampNeg) (x := p1) hx hb hK.1 hP hD hS 1 0 rfl rfl (zin_vp h4) rfl dL_notes_41 (fun H locs hP hD hS => ?_)
    have hP : va_P g.1 vwCl ([(b0, .inl (g.2.1, 9, .inl G0))] ++ [(b1, .inl (g.2.1, 63, .inl (upd (upd (upd G1 ((3 * (G0 8)).toNatClampNeg) (G0 2)) (((3 * (G0 8)) + 1).toNatClampNeg) p0) (((3 * (G0 8)) + 2).toNatClampNeg) p1)))]) H := hP
    have hD : va_D A ([(b0, .inl (g.2.1, 9, .inl G0))] ++ [(b1, .inl (g.2.1, 63, .inl (upd (upd (upd G1 ((3 * (G0 8)).toNatClampNeg) (G0 2)) (((3 * (G0 8)) + 1).toNatClampNeg) p0) (((3 * (G0 8)) + 2).toNatClampNeg) p1)))]) := hD
    refine lv_aload_n hx hb dL_notes_42 rfl (lv_at hl 0 rfl) ?_
    refine lv_bipush (v := 8) hx hb dL_notes_43 (by decide) ?_
    refine lv_dup2_11 hx hb dL_notes_45 rfl rfl ?_
    refine zald (D := g.1) (f := G0) (k := 8) hx hb hK.1 hP 0 0 rfl rfl (zin_vp (i := 8) (n := 9) rfl) rfl dL_notes_46 ?_
    refine lv_iconst (v := 1) hx hb dL_notes_47 (by decide) ?_
    refine lv_iadd hx hb dL_notes_48 ?_
    refine zast (D := g.1) (f := G0) (k := 8) (x := ((G0 8) + 1)) hx hb hK.1 hP hD hS 0 0 rfl rfl (zin_vp (i := 8) (n := 9) rfl) rfl dL_notes_49 (fun H locs hP hD hS => ?_)
    have hP : va_P g.1 vwCl ([(b0, .inl (g.2.1, 9, .inl (upd G0 8 ((G0 8) + 1))))] ++ [(b1, .inl (g.2.1, 63, .inl (upd (upd (upd G1 ((3 * (G0 8)).toNatClampNeg) (G0 2)) (((3 * (G0 8)) + 1).toNatClampNeg) p0) (((3 * (G0 8)) + 2).toNatClampNeg) p1)))]) H := hP
    have hD : va_D A ([(b0, .inl (g.2.1, 9, .inl (upd G0 8 ((G0 8) + 1))))] ++ [(b1, .inl (g.2.1, 63, .inl (upd (upd (upd G1 ((3 * (G0 8)).toNatClampNeg) (G0 2)) (((3 * (G0 8)) + 1).toNatClampNeg) p0) (((3 * (G0 8)) + 2).toNatClampNeg) p1)))]) := hD
    have hR : ((upd G0 8 ((G0 8) + 1)), (upd (upd (upd G1 ((3 * (G0 8)).toNatClampNeg) (G0 2)) (((3 * (G0 8)) + 1).toNatClampNeg) p0) (((3 * (G0 8)) + 2).toNatClampNeg) p1)) = r := Option.some.inj hf
    rw [← hR]
    exact W.vret hx hb hr0 (fun t ht hW => ⟨⟨(), rfl, trivial, by rw [ht]; exact hP, hD⟩, hS.F ht⟩) hS.2.2 dL_notes_50
theorem hd_L_begins : yL_begins.cls ≠ "java/lang/invoke/MethodHandle" ∧ yL_begins.cls ≠ "java/lang/invoke/VarHandle" ∧ (parseMethodDescriptor yL_begins.desc).map (fun d => d.parameters.length) = some 4 := by decide +kernel
def f_L_begins (G0 : FF) (G1 : FF) (G2 : FF) (p0 : Int32) : Option (FF × FF × FF) :=
  if zin ((5 * p0) + 3) 30 = true then
  if zin ((5 * p0) + 4) 30 = true then
  if zin (5 * p0) 30 = true then
  (f_L_notes (upd (upd G0 4 (1 + p0)) 5 ((upd (upd G1 (((5 * p0) + 3).toNatClampNeg) 1) (((5 * p0) + 4).toNatClampNeg) (G0 2)) (5 * p0).toNatClampNeg)) G2 0 p0).bind (fun u4 =>
  some (u4.1, (upd (upd G1 (((5 * p0) + 3).toNatClampNeg) 1) (((5 * p0) + 4).toNatClampNeg) (G0 2)), u4.2))
  else none
  else none
  else none
set_option maxHeartbeats 4000000 in
set_option maxRecDepth 100000 in
theorem c_L_begins (l : Launch) (g : zG) (b0 : Nat) (b1 : Nat) (b2 : Nat) (G0 : FF) (G1 : FF) (G2 : FF) (p0 : Int32) (r : FF × FF × FF) (hf : f_L_begins G0 G1 G2 p0 = some r) : zMv zNF zNM l yL_begins (zw yL_begins cL_begins 4 none) ({ frames := 1, cells := 0, slots := 0, locals := 23 } : Room) g [.ref b0, .ref b1, .ref b2, .int p0] ([(b0, .inl (g.2.1, 9, .inl G0))] ++ [(b1, .inl (g.2.1, 30, .inl G1))] ++ [(b2, .inl (g.2.1, 63, .inl G2))]) ([(b0, .inl (g.2.1, 9, .inl r.1))] ++ [(b1, .inl (g.2.1, 30, .inl r.2.1))] ++ [(b2, .inl (g.2.1, 63, .inl r.2.2))]) := by
  intro sz
  refine Met.ofW (cc := cL_begins) (maxL := 4) (ret := none) (by decide) rfl ?_
  intro p e s m args below meth c s₁ B hml hv
  obtain ⟨rfl, hsz, hP, hK, hD0⟩ := hv
  have hx := B.exec
  have hb := B.bytes
  have hr0 := B.returns
  have hts := atoms_spec (ws := (zw yL_begins cL_begins 4 none)) B.pre
  have hw0 : ∀ w ∈ zW, w.before ([.ref b0, .ref b1, .ref b2, .int p0] : List Value).toArray s = true := fun w h => hts w (List.mem_cons_of_mem _ h)
  have hown : s.vm.findClass RL = some m.cls := findClass_of_methodNamed B.named
  have hlocks := B.notSynchronized
  subst hsz
  have hD := hD0.self (sz := s.heap.size)
  generalize hAe : va_A ([(b0, .inl (g.2.1, 9, .inl G0))] ++ [(b1, .inl (g.2.1, 30, .inl G1))] ++ [(b2, .inl (g.2.1, 63, .inl G2))]) s.heap.size = A at hD ⊢
  have hA : ∀ q : Nat, s.heap.size ≤ q → A q := fun q h => by rw [← hAe]; exact Or.inr h
  have hS : va_S A s.heap s.heap [] := va_S.rf
  unfold f_L_begins at hf
  have hl := lv_entry ([.ref b0, .ref b1, .ref b2, .int p0]) (n := 4) (Nat.le_of_ble_eq_true rfl)
  rw [lg_entry_eq]
  generalize (lg_sl ([.ref b0, .ref b1, .ref b2, .int p0]) ++ List.replicate (4 - (lg_sl ([.ref b0, .ref b1, .ref b2, .int p0])).length) Slot.unset).toArray = ls at hl ⊢
  have hl : lv_has ls 4 [(0, .ref b0), (1, .ref b1), (2, .ref b2), (3, .int p0)] := hl
  refine lv_aload_n hx hb dL_begins_0 rfl (lv_at hl 1 rfl) ?_
  refine lv_iconst (v := 5) hx hb dL_begins_1 (by decide) ?_
  refine lv_iload_n hx hb dL_begins_2 rfl (lv_at hl 3 rfl) ?_
  refine lv_imul hx hb dL_begins_3 ?_
  refine lv_iconst (v := 3) hx hb dL_begins_4 (by decide) ?_
  refine lv_iadd hx hb dL_begins_5 ?_
  refine lv_iconst (v := 1) hx hb dL_begins_6 (by decide) ?_
  obtain ⟨h1, hf⟩ := og hf
  refine zast (D := g.1) (f := G1) (k := ((5 * p0) + 3).toNatClampNeg) (x := 1) hx hb hK.1 hP hD hS 1 0 rfl rfl (zin_vp h1) rfl dL_begins_7 (fun H locs hP hD hS => ?_)
  have hP : va_P g.1 vwCl ([(b0, .inl (g.2.1, 9, .inl G0))] ++ [(b1, .inl (g.2.1, 30, .inl (upd G1 (((5 * p0) + 3).toNatClampNeg) 1)))] ++ [(b2, .inl (g.2.1, 63, .inl G2))]) H := hP
  have hD : va_D A ([(b0, .inl (g.2.1, 9, .inl G0))] ++ [(b1, .inl (g.2.1, 30, .inl (upd G1 (((5 * p0) + 3).toNatClampNeg) 1)))] ++ [(b2, .inl (g.2.1, 63, .inl G2))]) := hD
  refine lv_aload_n hx hb dL_begins_8 rfl (lv_at hl 1 rfl) ?_
  refine lv_iconst (v := 5) hx hb dL_begins_9 (by decide) ?_
  refine lv_iload_n hx hb dL_begins_10 rfl (lv_at hl 3 rfl) ?_
  refine lv_imul hx hb dL_begins_11 ?_
  refine lv_iconst (v := 4) hx hb dL_begins_12 (by decide) ?_
  refine lv_iadd hx hb dL_begins_13 ?_
  refine lv_aload_n hx hb dL_begins_14 rfl (lv_at hl 0 rfl) ?_
  refine lv_iconst (v := 2) hx hb dL_begins_15 (by decide) ?_
  refine zald (D := g.1) (f := G0) (k := 2) hx hb hK.1 hP 0 0 rfl rfl (zin_vp (i := 2) (n := 9) rfl) rfl dL_begins_16 ?_
  obtain ⟨h2, hf⟩ := og hf
  refine zast (D := g.1) (f := (upd G1 (((5 * p0) + 3).toNatClampNeg) 1)) (k := ((5 * p0) + 4).toNatClampNeg) (x := (G0 2)) hx hb hK.1 hP hD hS 1 0 rfl rfl (zin_vp h2) rfl dL_begins_17 (fun H locs hP hD hS => ?_)
  have hP : va_P g.1 vwCl ([(b0, .inl (g.2.1, 9, .inl G0))] ++ [(b1, .inl (g.2.1, 30, .inl (upd (upd G1 (((5 * p0) + 3).toNatClampNeg) 1) (((5 * p0) + 4).toNatClampNeg) (G0 2))))] ++ [(b2, .inl (g.2.1, 63, .inl G2))]) H := hP
  have hD : va_D A ([(b0, .inl (g.2.1, 9, .inl G0))] ++ [(b1, .inl (g.2.1, 30, .inl (upd (upd G1 (((5 * p0) + 3).toNatClampNeg) 1) (((5 * p0) + 4).toNatClampNeg) (G0 2))))] ++ [(b2, .inl (g.2.1, 63, .inl G2))]) := hD
  refine lv_aload_n hx hb dL_begins_18 rfl (lv_at hl 0 rfl) ?_
  refine lv_iconst (v := 4) hx hb dL_begins_19 (by decide) ?_
  refine lv_iconst (v := 1) hx hb dL_begins_20 (by decide) ?_
  refine lv_iload_n hx hb dL_begins_21 rfl (lv_at hl 3 rfl) ?_
  refine lv_iadd hx hb dL_begins_22 ?_
  refine zast (D := g.1) (f := G0) (k := 4) (x := (1 + p0)) hx hb hK.1 hP hD hS 0 0 rfl rfl (zin_vp (i := 4) (n := 9) rfl) rfl dL_begins_23 (fun H locs hP hD hS => ?_)
  have hP : va_P g.1 vwCl ([(b0, .inl (g.2.1, 9, .inl (upd G0 4 (1 + p0))))] ++ [(b1, .inl (g.2.1, 30, .inl (upd (upd G1 (((5 * p0) + 3).toNatClampNeg) 1) (((5 * p0) + 4).toNatClampNeg) (G0 2))))] ++ [(b2, .inl (g.2.1, 63, .inl G2))]) H := hP
  have hD : va_D A ([(b0, .inl (g.2.1, 9, .inl (upd G0 4 (1 + p0))))] ++ [(b1, .inl (g.2.1, 30, .inl (upd (upd G1 (((5 * p0) + 3).toNatClampNeg) 1) (((5 * p0) + 4).toNatClampNeg) (G0 2))))] ++ [(b2, .inl (g.2.1, 63, .inl G2))]) := hD
  refine lv_aload_n hx hb dL_begins_24 rfl (lv_at hl 0 rfl) ?_
  refine lv_iconst (v := 5) hx hb dL_begins_25 (by decide) ?_
  refine lv_aload_n hx hb dL_begins_26 rfl (lv_at hl 1 rfl) ?_
  refine lv_iconst (v := 5) hx hb dL_begins_27 (by decide) ?_
  refine lv_iload_n hx hb dL_begins_28 rfl (lv_at hl 3 rfl) ?_
  refine lv_imul hx hb dL_begins_29 ?_
  obtain ⟨h3, hf⟩ := og hf
  refine zald (D := g.1) (f := (upd (upd G1 (((5 * p0) + 3).toNatClampNeg) 1) (((5 * p0) + 4).toNatClampNeg) (G0 2))) (k := (5 * p0).toNatClampNeg) hx hb hK.1 hP 1 0 rfl rfl (zin_vp h3) rfl dL_begins_30 ?_
  refine zast (D := g.1) (f := (upd G0 4 (1 + p0))) (k := 5) (x := ((upd (upd G1 (((5 * p0) + 3).toNatClampNeg) 1) (((5 * p0) + 4).toNatClampNeg) (G0 2)) (5 * p0).toNatClampNeg)) hx hb hK.1 hP hD hS 0 0 rfl rfl (zin_vp (i := 5) (n := 9) rfl) rfl dL_begins_31 (fun H locs hP hD hS => ?_)
  have hP : va_P g.1 vwCl ([(b0, .inl (g.2.1, 9, .inl (upd (upd G0 4 (1 + p0)) 5 ((upd (upd G1 (((5 * p0) + 3).toNatClampNeg) 1) (((5 * p0) + 4).toNatClampNeg) (G0 2)) (5 * p0).toNatClampNeg))))] ++ [(b1, .inl (g.2.1, 30, .inl (upd (upd G1 (((5 * p0) + 3).toNatClampNeg) 1) (((5 * p0) + 4).toNatClampNeg) (G0 2))))] ++ [(b2, .inl (g.2.1, 63, .inl G2))]) H := hP
  have hD : va_D A ([(b0, .inl (g.2.1, 9, .inl (upd (upd G0 4 (1 + p0)) 5 ((upd (upd G1 (((5 * p0) + 3).toNatClampNeg) 1) (((5 * p0) + 4).toNatClampNeg) (G0 2)) (5 * p0).toNatClampNeg))))] ++ [(b1, .inl (g.2.1, 30, .inl (upd (upd G1 (((5 * p0) + 3).toNatClampNeg) 1) (((5 * p0) + 4).toNatClampNeg) (G0 2))))] ++ [(b2, .inl (g.2.1, 63, .inl G2))]) := hD
  refine lv_aload_n hx hb dL_begins_32 rfl (lv_at hl 0 rfl) ?_
  refine lv_aload_n hx hb dL_begins_33 rfl (lv_at hl 2 rfl) ?_
  refine lv_iconst (v := 0) hx hb dL_begins_34 (by decide) ?_
  refine lv_iload_n hx hb dL_begins_35 rfl (lv_at hl 3 rfl) ?_
  obtain ⟨u4, hu4, hf⟩ := ob hf
  refine zk_v (va_runS (As := [.ref b0, .ref b2, .int 0, .int p0]) (rest := []) ⟨hx, hb, hml, hown, hts⟩ (c_L_notes l g b0 b2 (upd (upd G0 4 (1 + p0)) 5 ((upd (upd G1 (((5 * p0) + 3).toNatClampNeg) 1) (((5 * p0) + 4).toNatClampNeg) (G0 2)) (5 * p0).toNatClampNeg)) G2 0 p0 _ hu4 _) (zcS hw0 zm2_222 zm2_224 zm1_0 zm2_223 hd_L_notes rfl rfl ⟨Nat.le_of_ble_eq_true rfl, Nat.le_of_ble_eq_true rfl⟩) ⟨zblind, zpre hK hP hD [0, 2] rfl rfl⟩ rfl rfl hl.1 rfl (lv_room (Nat.le_of_ble_eq_true rfl)) dL_begins_36 ⟨Nat.zero_le _, Nat.zero_le _⟩) hP hD hS hA [0, 2] rfl rfl (fun H locs hP hD hS => ?_)
  have hP : va_P g.1 vwCl ([(b0, .inl (g.2.1, 9, .inl u4.1))] ++ [(b1, .inl (g.2.1, 30, .inl (upd (upd G1 (((5 * p0) + 3).toNatClampNeg) 1) (((5 * p0) + 4).toNatClampNeg) (G0 2))))] ++ [(b2, .inl (g.2.1, 63, .inl u4.2))]) H := hP
  have hD : va_D A ([(b0, .inl (g.2.1, 9, .inl u4.1))] ++ [(b1, .inl (g.2.1, 30, .inl (upd (upd G1 (((5 * p0) + 3).toNatClampNeg) 1) (((5 * p0) + 4).toNatClampNeg) (G0 2))))] ++ [(b2, .inl (g.2.1, 63, .inl u4.2))]) := hD
  have hR : (u4.1, (upd (upd G1 (((5 * p0) + 3).toNatClampNeg) 1) (((5 * p0) + 4).toNatClampNeg) (G0 2)), u4.2) = r := Option.some.inj hf
  rw [← hR]
  exact W.vret hx hb hr0 (fun t ht hW => ⟨⟨(), rfl, trivial, by rw [ht]; exact hP, hD⟩, hS.F ht⟩) hS.2.2 dL_begins_39
