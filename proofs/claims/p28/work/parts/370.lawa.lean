theorem hd_L_low : yL_low.cls ≠ "java/lang/invoke/MethodHandle" ∧ yL_low.cls ≠ "java/lang/invoke/VarHandle" ∧ (parseMethodDescriptor yL_low.desc).map (fun d => d.parameters.length) = some 2 := by decide +kernel
def f_L_low (p0 : Int32) (p1 : Int32) : Option (Int32) :=
  if p1 = 0 then none else (
  some ((p0 &&& 2147483647) - (p0 &&& 2147483647) / p1 * p1))
set_option maxHeartbeats 4000000 in
set_option maxRecDepth 100000 in
theorem c_L_low (l : Launch) (g : zG) (p0 : Int32) (p1 : Int32) (r : Int32) (hf : f_L_low p0 p1 = some r) : zMi zNF zNM l yL_low (zw yL_low cL_low 2 (some .int)) ({ frames := 0, cells := 0, slots := 0, locals := 0 } : Room) g [.int p0, .int p1] ([] : va_W) r ([] : va_W) := by
  intro sz
  refine Met.ofW (cc := cL_low) (maxL := 2) (ret := (some .int)) (by decide) rfl ?_
  intro p e s m args below meth c s₁ B hml hv
  obtain ⟨rfl, hsz, hP, hK, hD0⟩ := hv
  have hx := B.exec
  have hb := B.bytes
  have hr0 := B.returns
  have hts := atoms_spec (ws := (zw yL_low cL_low 2 (some .int))) B.pre
  have hw0 : ∀ w ∈ zW, w.before ([.int p0, .int p1] : List Value).toArray s = true := fun w h => hts w (List.mem_cons_of_mem _ h)
  have hown : s.vm.findClass RL = some m.cls := findClass_of_methodNamed B.named
  have hlocks := B.notSynchronized
  subst hsz
  have hD := hD0.self (sz := s.heap.size)
  generalize hAe : va_A ([] : va_W) s.heap.size = A at hD ⊢
  have hA : ∀ q : Nat, s.heap.size ≤ q → A q := fun q h => by rw [← hAe]; exact Or.inr h
  have hS : va_S A s.heap s.heap [] := va_S.rf
  unfold f_L_low at hf
  have hl := lv_entry ([.int p0, .int p1]) (n := 2) (Nat.le_of_ble_eq_true rfl)
  rw [lg_entry_eq]
  generalize (lg_sl ([.int p0, .int p1]) ++ List.replicate (2 - (lg_sl ([.int p0, .int p1])).length) Slot.unset).toArray = ls at hl ⊢
  have hl : lv_has ls 2 [(0, .int p0), (1, .int p1)] := hl
  refine lv_iload_n hx hb dL_low_0 rfl (lv_at hl 0 rfl) ?_
  refine lv_ldc (v := 2147483647) hx hb hown (hw0 _ zm1_225) dL_low_1 ?_
  refine lv_iand hx hb dL_low_3 ?_
  refine lv_iload_n hx hb dL_low_4 rfl (lv_at hl 1 rfl) ?_
  obtain ⟨h1, hf⟩ := onn hf
  refine lv_irem hx hb dL_low_5 h1 ?_
  have hR : ((p0 &&& 2147483647) - (p0 &&& 2147483647) / p1 * p1) = r := Option.some.inj hf
  rw [← hR]
  exact W.iret (v := ((p0 &&& 2147483647) - (p0 &&& 2147483647) / p1 * p1)) hx hb hr0 (fun t ht hW => ⟨⟨((p0 &&& 2147483647) - (p0 &&& 2147483647) / p1 * p1), (), rfl, rfl, by rw [ht]; exact hP, hD⟩, hS.F ht⟩) hS.2.2 dL_low_6
theorem hd_L_fixed : yL_fixed.cls ≠ "java/lang/invoke/MethodHandle" ∧ yL_fixed.cls ≠ "java/lang/invoke/VarHandle" ∧ (parseMethodDescriptor yL_fixed.desc).map (fun d => d.parameters.length) = some 3 := by decide +kernel
def s_L_fixed_2 (G0 : FF) (G1 : FF) (x : Int32) : Option ((Int32) ⊕ (Int32)) :=
  if (G0 0) ≤ x then
    some (.inr x)
  else
    if zin ((5 * x) + 3) 30 = true then
    if (G1 ((5 * x) + 3).toNatClampNeg) = 0 then
      if zin ((5 * x) + 1) 30 = true then
      if 0 ≤ (G1 ((5 * x) + 1).toNatClampNeg) then
        some (.inr x)
      else
        some (.inl (x + 1))
      else none
    else
      some (.inl (x + 1))
    else none
def f_L_fixed (G0 : FF) (G1 : FF) (p0 : Int32) : Option (Int32) :=
  (zloop (s_L_fixed_2 G0 G1) 4096 p0).bind (fun u6 =>
  some u6)
set_option maxHeartbeats 4000000 in
set_option maxRecDepth 100000 in
theorem c_L_fixed (l : Launch) (g : zG) (b0 : Nat) (b1 : Nat) (G0 : FF) (G1 : FF) (p0 : Int32) (r : Int32) (hf : f_L_fixed G0 G1 p0 = some r) : zMi zNF zNM l yL_fixed (zw yL_fixed cL_fixed 4 (some .int)) ({ frames := 0, cells := 0, slots := 0, locals := 0 } : Room) g [.ref b0, .ref b1, .int p0] ([(b0, .inl (g.2.1, 9, .inl G0))] ++ [(b1, .inl (g.2.1, 30, .inl G1))]) r ([(b0, .inl (g.2.1, 9, .inl G0))] ++ [(b1, .inl (g.2.1, 30, .inl G1))]) := by
  intro sz
  refine Met.ofW (cc := cL_fixed) (maxL := 4) (ret := (some .int)) (by decide) rfl ?_
  intro p e s m args below meth c s₁ B hml hv
  obtain ⟨rfl, hsz, hP, hK, hD0⟩ := hv
  have hx := B.exec
  have hb := B.bytes
  have hr0 := B.returns
  have hts := atoms_spec (ws := (zw yL_fixed cL_fixed 4 (some .int))) B.pre
  have hw0 : ∀ w ∈ zW, w.before ([.ref b0, .ref b1, .int p0] : List Value).toArray s = true := fun w h => hts w (List.mem_cons_of_mem _ h)
  have hown : s.vm.findClass RL = some m.cls := findClass_of_methodNamed B.named
  have hlocks := B.notSynchronized
  subst hsz
  have hD := hD0.self (sz := s.heap.size)
  generalize hAe : va_A ([(b0, .inl (g.2.1, 9, .inl G0))] ++ [(b1, .inl (g.2.1, 30, .inl G1))]) s.heap.size = A at hD ⊢
  have hA : ∀ q : Nat, s.heap.size ≤ q → A q := fun q h => by rw [← hAe]; exact Or.inr h
  have hS : va_S A s.heap s.heap [] := va_S.rf
  have lp2 : ∀ (G0 : FF) (G1 : FF), ∀ (n : Nat) (x : Int32) (rr : Int32), zloop (s_L_fixed_2 G0 G1) n x = some rr → (∀ (H : Heap) (locs : List Loc), va_P g.1 vwCl ([(b0, .inl (g.2.1, 9, .inl G0))] ++ [(b1, .inl (g.2.1, 30, .inl G1))]) H → va_D A ([(b0, .inl (g.2.1, 9, .inl G0))] ++ [(b1, .inl (g.2.1, 30, .inl G1))]) → va_S A s.heap H locs → ∀ ls : Array Slot, lv_has ls 4 [(3, .int rr)] → W p l e (headSpec (zw yL_fixed cL_fixed 4 (some .int)) ({ frames := 0, cells := 0, slots := 0, locals := 0 } : Room)).room s m ([.ref b0, .ref b1, .int p0] : List Value).toArray below meth c H locs 0 0 (MQ below (va_Qi (fun (x : Int32) (_ : Unit) => x = r) (fun _ => zEnd g A ([(b0, .inl (g.2.1, 9, .inl G0))] ++ [(b1, .inl (g.2.1, 30, .inl G1))])) A) ([.ref b0, .ref b1, .int p0] : List Value).toArray s 0 0 A) (F0 m 35 ls [])) → ∀ (H : Heap) (locs : List Loc), va_P g.1 vwCl ([(b0, .inl (g.2.1, 9, .inl G0))] ++ [(b1, .inl (g.2.1, 30, .inl G1))]) H → va_D A ([(b0, .inl (g.2.1, 9, .inl G0))] ++ [(b1, .inl (g.2.1, 30, .inl G1))]) → va_S A s.heap H locs → ∀ ls : Array Slot, lv_has ls 4 [(0, .ref b0), (1, .ref b1), (3, .int x)] → W p l e (headSpec (zw yL_fixed cL_fixed 4 (some .int)) ({ frames := 0, cells := 0, slots := 0, locals := 0 } : Room)).room s m ([.ref b0, .ref b1, .int p0] : List Value).toArray below meth c H locs 0 0 (MQ below (va_Qi (fun (x : Int32) (_ : Unit) => x = r) (fun _ => zEnd g A ([(b0, .inl (g.2.1, 9, .inl G0))] ++ [(b1, .inl (g.2.1, 30, .inl G1))])) A) ([.ref b0, .ref b1, .int p0] : List Value).toArray s 0 0 A) (F0 m 2 ls []) := by
    intro G0 G1
    refine zloop_ind ?_
    intro x y rr hf ih hr hQ H locs hP hD hS ls hl
    unfold s_L_fixed_2 at hf
    refine lv_iload_n hx hb dL_fixed_2 rfl (lv_at hl 2 rfl) ?_
    refine lv_aload_n hx hb dL_fixed_3 rfl (lv_at hl 0 rfl) ?_
    refine lv_iconst (v := 0) hx hb dL_fixed_4 (by decide) ?_
    refine zald (D := g.1) (f := G0) (k := 0) hx hb hK.1 hP 0 0 rfl rfl (zin_vp (i := 0) (n := 9) rfl) rfl dL_fixed_5 ?_
    refine lv_icmp_ge (tgt := 35) hx hb dL_fixed_6 (by decide) (fun c1 => ?_) (fun c1 => ?_)
    · have hf := oi hf c1
      have hR : x = rr := hr _ (Option.some.inj hf).symm
      subst hR
      exact hQ _ _ hP hD hS _ (lv_sub hl [2] rfl)
    · have hf := oe hf c1
      refine lv_aload_n hx hb dL_fixed_9 rfl (lv_at hl 1 rfl) ?_
      refine lv_iconst (v := 5) hx hb dL_fixed_10 (by decide) ?_
      refine lv_iload_n hx hb dL_fixed_11 rfl (lv_at hl 2 rfl) ?_
      refine lv_imul hx hb dL_fixed_12 ?_
      refine lv_iconst (v := 3) hx hb dL_fixed_13 (by decide) ?_
      refine lv_iadd hx hb dL_fixed_14 ?_
      obtain ⟨h2, hf⟩ := og hf
      refine zald (D := g.1) (f := G1) (k := ((5 * x) + 3).toNatClampNeg) hx hb hK.1 hP 1 0 rfl rfl (zin_vp h2) rfl dL_fixed_15 ?_
      refine lv_if_ne (tgt := 29) hx hb dL_fixed_16 (by decide) (fun c3 => ?_) (fun c3 => ?_)
      · have hf := oe hf c3
        refine lv_iinc (v := (x + 1)) (lv' := [(3, .int (x + 1)), (0, .ref b0), (1, .ref b1)]) hx hb dL_fixed_29 hl (k := 2) rfl rfl (by decide) rfl (fun ls hl => ?_)
        refine lv_goto (tgt := 2) hx hb dL_fixed_32 (by decide) ?_
        exact ih (x + 1) (Option.some.inj hf).symm hQ _ _ hP hD hS _ (lv_sub hl [1, 2, 0] rfl)
      · have hf := oi hf c3
        refine lv_aload_n hx hb dL_fixed_19 rfl (lv_at hl 1 rfl) ?_
        refine lv_iconst (v := 5) hx hb dL_fixed_20 (by decide) ?_
        refine lv_iload_n hx hb dL_fixed_21 rfl (lv_at hl 2 rfl) ?_
        refine lv_imul hx hb dL_fixed_22 ?_
        refine lv_iconst (v := 1) hx hb dL_fixed_23 (by decide) ?_
        refine lv_iadd hx hb dL_fixed_24 ?_
        obtain ⟨h4, hf⟩ := og hf
        refine zald (D := g.1) (f := G1) (k := ((5 * x) + 1).toNatClampNeg) hx hb hK.1 hP 1 0 rfl rfl (zin_vp h4) rfl dL_fixed_25 ?_
        refine lv_if_ge (tgt := 35) hx hb dL_fixed_26 (by decide) (fun c5 => ?_) (fun c5 => ?_)
        · have hf := oi hf c5
          have hR : x = rr := hr _ (Option.some.inj hf).symm
          subst hR
          exact hQ _ _ hP hD hS _ (lv_sub hl [2] rfl)
        · have hf := oe hf c5
          refine lv_iinc (v := (x + 1)) (lv' := [(3, .int (x + 1)), (0, .ref b0), (1, .ref b1)]) hx hb dL_fixed_29 hl (k := 2) rfl rfl (by decide) rfl (fun ls hl => ?_)
          refine lv_goto (tgt := 2) hx hb dL_fixed_32 (by decide) ?_
          exact ih (x + 1) (Option.some.inj hf).symm hQ _ _ hP hD hS _ (lv_sub hl [1, 2, 0] rfl)
  unfold f_L_fixed at hf
  have hl := lv_entry ([.ref b0, .ref b1, .int p0]) (n := 4) (Nat.le_of_ble_eq_true rfl)
  rw [lg_entry_eq]
  generalize (lg_sl ([.ref b0, .ref b1, .int p0]) ++ List.replicate (4 - (lg_sl ([.ref b0, .ref b1, .int p0])).length) Slot.unset).toArray = ls at hl ⊢
  have hl : lv_has ls 4 [(0, .ref b0), (1, .ref b1), (2, .int p0)] := hl
  refine lv_iload_n hx hb dL_fixed_0 rfl (lv_at hl 2 rfl) ?_
  refine lv_istore_n (lv' := [(3, .int p0), (0, .ref b0), (1, .ref b1), (2, .int p0)]) hx hb dL_fixed_1 rfl hl (by decide) rfl (fun ls hl => ?_)
  obtain ⟨u6, hu6, hf⟩ := ob hf
  refine lp2 G0 G1 _ _ u6 hu6 (fun H locs hP hD hS ls hl => ?_) _ _ hP hD hS _ (lv_sub hl [1, 2, 0] rfl)
  have hl : lv_has ls 4 [(3, .int u6)] := hl
  have hP : va_P g.1 vwCl ([(b0, .inl (g.2.1, 9, .inl G0))] ++ [(b1, .inl (g.2.1, 30, .inl G1))]) H := hP
  have hD : va_D A ([(b0, .inl (g.2.1, 9, .inl G0))] ++ [(b1, .inl (g.2.1, 30, .inl G1))]) := hD
  refine lv_iload_n hx hb dL_fixed_35 rfl (lv_at hl 0 rfl) ?_
  have hR : u6 = r := Option.some.inj hf
  rw [← hR]
  exact W.iret (v := u6) hx hb hr0 (fun t ht hW => ⟨⟨u6, (), rfl, rfl, by rw [ht]; exact hP, hD⟩, hS.F ht⟩) hS.2.2 dL_fixed_36
theorem hd_L_timeAt : yL_timeAt.cls ≠ "java/lang/invoke/MethodHandle" ∧ yL_timeAt.cls ≠ "java/lang/invoke/VarHandle" ∧ (parseMethodDescriptor yL_timeAt.desc).map (fun d => d.parameters.length) = some 3 := by decide +kernel
def f_L_timeAt (G0 : FF) (G1 : FF) (p0 : Int32) : Option (Int32) :=
  if (G0 0) ≤ p0 then
    some 3600
  else
    if zin ((5 * p0) + 1) 30 = true then
    some (G1 ((5 * p0) + 1).toNatClampNeg)
    else none
set_option maxHeartbeats 4000000 in
set_option maxRecDepth 100000 in
theorem c_L_timeAt (l : Launch) (g : zG) (b0 : Nat) (b1 : Nat) (G0 : FF) (G1 : FF) (p0 : Int32) (r : Int32) (hf : f_L_timeAt G0 G1 p0 = some r) : zMi zNF zNM l yL_timeAt (zw yL_timeAt cL_timeAt 3 (some .int)) ({ frames := 0, cells := 0, slots := 0, locals := 0 } : Room) g [.ref b0, .ref b1, .int p0] ([(b0, .inl (g.2.1, 9, .inl G0))] ++ [(b1, .inl (g.2.1, 30, .inl G1))]) r ([(b0, .inl (g.2.1, 9, .inl G0))] ++ [(b1, .inl (g.2.1, 30, .inl G1))]) := by
  intro sz
  refine Met.ofW (cc := cL_timeAt) (maxL := 3) (ret := (some .int)) (by decide) rfl ?_
  intro p e s m args below meth c s₁ B hml hv
  obtain ⟨rfl, hsz, hP, hK, hD0⟩ := hv
  have hx := B.exec
  have hb := B.bytes
  have hr0 := B.returns
  have hts := atoms_spec (ws := (zw yL_timeAt cL_timeAt 3 (some .int))) B.pre
  have hw0 : ∀ w ∈ zW, w.before ([.ref b0, .ref b1, .int p0] : List Value).toArray s = true := fun w h => hts w (List.mem_cons_of_mem _ h)
  have hown : s.vm.findClass RL = some m.cls := findClass_of_methodNamed B.named
  have hlocks := B.notSynchronized
  subst hsz
  have hD := hD0.self (sz := s.heap.size)
  generalize hAe : va_A ([(b0, .inl (g.2.1, 9, .inl G0))] ++ [(b1, .inl (g.2.1, 30, .inl G1))]) s.heap.size = A at hD ⊢
  have hA : ∀ q : Nat, s.heap.size ≤ q → A q := fun q h => by rw [← hAe]; exact Or.inr h
  have hS : va_S A s.heap s.heap [] := va_S.rf
  unfold f_L_timeAt at hf
  have hl := lv_entry ([.ref b0, .ref b1, .int p0]) (n := 3) (Nat.le_of_ble_eq_true rfl)
  rw [lg_entry_eq]
  generalize (lg_sl ([.ref b0, .ref b1, .int p0]) ++ List.replicate (3 - (lg_sl ([.ref b0, .ref b1, .int p0])).length) Slot.unset).toArray = ls at hl ⊢
  have hl : lv_has ls 3 [(0, .ref b0), (1, .ref b1), (2, .int p0)] := hl
  refine lv_iload_n hx hb dL_timeAt_0 rfl (lv_at hl 2 rfl) ?_
  refine lv_aload_n hx hb dL_timeAt_1 rfl (lv_at hl 0 rfl) ?_
  refine lv_iconst (v := 0) hx hb dL_timeAt_2 (by decide) ?_
  refine zald (D := g.1) (f := G0) (k := 0) hx hb hK.1 hP 0 0 rfl rfl (zin_vp (i := 0) (n := 9) rfl) rfl dL_timeAt_3 ?_
  refine lv_icmp_ge (tgt := 17) hx hb dL_timeAt_4 (by decide) (fun c1 => ?_) (fun c1 => ?_)
  · have hf := oi hf c1
    refine lv_sipush (v := 3600) hx hb dL_timeAt_17 (by decide) ?_
    have hR : 3600 = r := Option.some.inj hf
    rw [← hR]
    exact W.iret (v := 3600) hx hb hr0 (fun t ht hW => ⟨⟨3600, (), rfl, rfl, by rw [ht]; exact hP, hD⟩, hS.F ht⟩) hS.2.2 dL_timeAt_20
  · have hf := oe hf c1
    refine lv_aload_n hx hb dL_timeAt_7 rfl (lv_at hl 1 rfl) ?_
    refine lv_iconst (v := 5) hx hb dL_timeAt_8 (by decide) ?_
    refine lv_iload_n hx hb dL_timeAt_9 rfl (lv_at hl 2 rfl) ?_
    refine lv_imul hx hb dL_timeAt_10 ?_
    refine lv_iconst (v := 1) hx hb dL_timeAt_11 (by decide) ?_
    refine lv_iadd hx hb dL_timeAt_12 ?_
    obtain ⟨h2, hf⟩ := og hf
    refine zald (D := g.1) (f := G1) (k := ((5 * p0) + 1).toNatClampNeg) hx hb hK.1 hP 1 0 rfl rfl (zin_vp h2) rfl dL_timeAt_13 ?_
    refine lv_goto (tgt := 20) hx hb dL_timeAt_14 (by decide) ?_
    have hR : (G1 ((5 * p0) + 1).toNatClampNeg) = r := Option.some.inj hf
    rw [← hR]
    exact W.iret (v := (G1 ((5 * p0) + 1).toNatClampNeg)) hx hb hr0 (fun t ht hW => ⟨⟨(G1 ((5 * p0) + 1).toNatClampNeg), (), rfl, rfl, by rw [ht]; exact hP, hD⟩, hS.F ht⟩) hS.2.2 dL_timeAt_20
theorem hd_L_sum : yL_sum.cls ≠ "java/lang/invoke/MethodHandle" ∧ yL_sum.cls ≠ "java/lang/invoke/VarHandle" ∧ (parseMethodDescriptor yL_sum.desc).map (fun d => d.parameters.length) = some 3 := by decide +kernel
def s_L_sum_5 (G0 : FF) (i2 : Int32) (x : Int32 × Int32) : Option ((Int32 × Int32) ⊕ (Int32 × Int32)) :=
  if i2 ≤ x.2 then
    some (.inr (x.1, x.2))
  else
    if zin ((5 * x.2) + 3) 30 = true then
    (if (G0 ((5 * x.2) + 3).toNatClampNeg) = 0 then
      if zin (5 * x.2) 30 = true then
      some (G0 (5 * x.2).toNatClampNeg)
      else none
    else
      some 0 : Option Int32).bind (fun u3 =>
    some (.inl ((x.1 + u3), (x.2 + 1))))
    else none
def f_L_sum (G0 : FF) (p0 : Int32) (p1 : Int32) : Option (Int32) :=
  (zloop (s_L_sum_5 G0 p1) 4096 (0, p0)).bind (fun u7 =>
  some u7.1)
set_option maxHeartbeats 4000000 in
set_option maxRecDepth 100000 in
theorem c_L_sum (l : Launch) (g : zG) (b0 : Nat) (G0 : FF) (p0 : Int32) (p1 : Int32) (r : Int32) (hf : f_L_sum G0 p0 p1 = some r) : zMi zNF zNM l yL_sum (zw yL_sum cL_sum 5 (some .int)) ({ frames := 0, cells := 0, slots := 0, locals := 0 } : Room) g [.ref b0, .int p0, .int p1] ([(b0, .inl (g.2.1, 30, .inl G0))]) r ([(b0, .inl (g.2.1, 30, .inl G0))]) := by
  intro sz
  refine Met.ofW (cc := cL_sum) (maxL := 5) (ret := (some .int)) (by decide) rfl ?_
  intro p e s m args below meth c s₁ B hml hv
  obtain ⟨rfl, hsz, hP, hK, hD0⟩ := hv
  have hx := B.exec
  have hb := B.bytes
  have hr0 := B.returns
  have hts := atoms_spec (ws := (zw yL_sum cL_sum 5 (some .int))) B.pre
  have hw0 : ∀ w ∈ zW, w.before ([.ref b0, .int p0, .int p1] : List Value).toArray s = true := fun w h => hts w (List.mem_cons_of_mem _ h)
  have hown : s.vm.findClass RL = some m.cls := findClass_of_methodNamed B.named
  have hlocks := B.notSynchronized
  subst hsz
  have hD := hD0.self (sz := s.heap.size)
  generalize hAe : va_A ([(b0, .inl (g.2.1, 30, .inl G0))]) s.heap.size = A at hD ⊢
  have hA : ∀ q : Nat, s.heap.size ≤ q → A q := fun q h => by rw [← hAe]; exact Or.inr h
  have hS : va_S A s.heap s.heap [] := va_S.rf
  have lp5 : ∀ (G0 : FF) (i2 : Int32), ∀ (n : Nat) (x : Int32 × Int32) (rr : Int32 × Int32), zloop (s_L_sum_5 G0 i2) n x = some rr → (∀ (H : Heap) (locs : List Loc), va_P g.1 vwCl ([(b0, .inl (g.2.1, 30, .inl G0))]) H → va_D A ([(b0, .inl (g.2.1, 30, .inl G0))]) → va_S A s.heap H locs → ∀ ls : Array Slot, lv_has ls 5 [(3, .int rr.1)] → W p l e (headSpec (zw yL_sum cL_sum 5 (some .int)) ({ frames := 0, cells := 0, slots := 0, locals := 0 } : Room)).room s m ([.ref b0, .int p0, .int p1] : List Value).toArray below meth c H locs 0 0 (MQ below (va_Qi (fun (x : Int32) (_ : Unit) => x = r) (fun _ => zEnd g A ([(b0, .inl (g.2.1, 30, .inl G0))])) A) ([.ref b0, .int p0, .int p1] : List Value).toArray s 0 0 A) (F0 m 41 ls [])) → ∀ (H : Heap) (locs : List Loc), va_P g.1 vwCl ([(b0, .inl (g.2.1, 30, .inl G0))]) H → va_D A ([(b0, .inl (g.2.1, 30, .inl G0))]) → va_S A s.heap H locs → ∀ ls : Array Slot, lv_has ls 5 [(0, .ref b0), (2, .int i2), (3, .int x.1), (4, .int x.2)] → W p l e (headSpec (zw yL_sum cL_sum 5 (some .int)) ({ frames := 0, cells := 0, slots := 0, locals := 0 } : Room)).room s m ([.ref b0, .int p0, .int p1] : List Value).toArray below meth c H locs 0 0 (MQ below (va_Qi (fun (x : Int32) (_ : Unit) => x = r) (fun _ => zEnd g A ([(b0, .inl (g.2.1, 30, .inl G0))])) A) ([.ref b0, .int p0, .int p1] : List Value).toArray s 0 0 A) (F0 m 5 ls []) := by
    intro G0 i2
    refine zloop_ind ?_
    intro x y rr hf ih hr hQ H locs hP hD hS ls hl
    unfold s_L_sum_5 at hf
    refine lv_iload hx hb dL_sum_5 (lv_at hl 3 rfl) ?_
    refine lv_iload_n hx hb dL_sum_7 rfl (lv_at hl 1 rfl) ?_
    refine lv_icmp_ge (tgt := 41) hx hb dL_sum_8 (by decide) (fun c1 => ?_) (fun c1 => ?_)
    · have hf := oi hf c1
      have hR : (x.1, x.2) = rr := hr _ (Option.some.inj hf).symm
      subst hR
      exact hQ _ _ hP hD hS _ (lv_sub hl [2] rfl)
    · have hf := oe hf c1
      refine lv_iload_n hx hb dL_sum_11 rfl (lv_at hl 2 rfl) ?_
      refine lv_aload_n hx hb dL_sum_12 rfl (lv_at hl 0 rfl) ?_
      refine lv_iconst (v := 5) hx hb dL_sum_13 (by decide) ?_
      refine lv_iload hx hb dL_sum_14 (lv_at hl 3 rfl) ?_
      refine lv_imul hx hb dL_sum_16 ?_
      refine lv_iconst (v := 3) hx hb dL_sum_17 (by decide) ?_
      refine lv_iadd hx hb dL_sum_18 ?_
      obtain ⟨h2, hf⟩ := og hf
      refine zald (D := g.1) (f := G0) (k := ((5 * x.2) + 3).toNatClampNeg) hx hb hK.1 hP 0 0 rfl rfl (zin_vp h2) rfl dL_sum_19 ?_
      obtain ⟨u3, hu3, hf⟩ := ob hf
      have j4 : ∀ (H : Heap) (locs : List Loc), va_P g.1 vwCl ([(b0, .inl (g.2.1, 30, .inl G0))]) H → va_D A ([(b0, .inl (g.2.1, 30, .inl G0))]) → va_S A s.heap H locs → W p l e (headSpec (zw yL_sum cL_sum 5 (some .int)) ({ frames := 0, cells := 0, slots := 0, locals := 0 } : Room)).room s m ([.ref b0, .int p0, .int p1] : List Value).toArray below meth c H locs 0 0 (MQ below (va_Qi (fun (x : Int32) (_ : Unit) => x = r) (fun _ => zEnd g A ([(b0, .inl (g.2.1, 30, .inl G0))])) A) ([.ref b0, .int p0, .int p1] : List Value).toArray s 0 0 A) (F0 m 33 ls [.int u3, .int x.1]) := by
        intro H locs hP hD hS
        refine lv_iadd hx hb dL_sum_33 ?_
        refine lv_istore_n (lv' := [(3, .int (x.1 + u3)), (0, .ref b0), (2, .int i2), (4, .int x.2)]) hx hb dL_sum_34 rfl hl (by decide) rfl (fun ls hl => ?_)
        refine lv_iinc (v := (x.2 + 1)) (lv' := [(4, .int (x.2 + 1)), (3, .int (x.1 + u3)), (0, .ref b0), (2, .int i2)]) hx hb dL_sum_35 hl (k := 3) rfl rfl (by decide) rfl (fun ls hl => ?_)
        refine lv_goto (tgt := 5) hx hb dL_sum_38 (by decide) ?_
        exact ih ((x.1 + u3), (x.2 + 1)) (Option.some.inj hf).symm hQ _ _ hP hD hS _ (lv_sub hl [2, 3, 1, 0] rfl)
      have hf := hu3
      refine lv_if_ne (tgt := 32) hx hb dL_sum_20 (by decide) (fun c5 => ?_) (fun c5 => ?_)
      · have hf := oe hf c5
        refine lv_iconst (v := 0) hx hb dL_sum_32 (by decide) ?_
        exact zeqi (Option.some.inj hf) (j4 _ _ hP hD hS)
      · have hf := oi hf c5
        refine lv_aload_n hx hb dL_sum_23 rfl (lv_at hl 0 rfl) ?_
        refine lv_iconst (v := 5) hx hb dL_sum_24 (by decide) ?_
        refine lv_iload hx hb dL_sum_25 (lv_at hl 3 rfl) ?_
        refine lv_imul hx hb dL_sum_27 ?_
        obtain ⟨h6, hf⟩ := og hf
        refine zald (D := g.1) (f := G0) (k := (5 * x.2).toNatClampNeg) hx hb hK.1 hP 0 0 rfl rfl (zin_vp h6) rfl dL_sum_28 ?_
        refine lv_goto (tgt := 33) hx hb dL_sum_29 (by decide) ?_
        exact zeqi (Option.some.inj hf) (j4 _ _ hP hD hS)
  unfold f_L_sum at hf
  have hl := lv_entry ([.ref b0, .int p0, .int p1]) (n := 5) (Nat.le_of_ble_eq_true rfl)
  rw [lg_entry_eq]
  generalize (lg_sl ([.ref b0, .int p0, .int p1]) ++ List.replicate (5 - (lg_sl ([.ref b0, .int p0, .int p1])).length) Slot.unset).toArray = ls at hl ⊢
  have hl : lv_has ls 5 [(0, .ref b0), (1, .int p0), (2, .int p1)] := hl
  refine lv_iconst (v := 0) hx hb dL_sum_0 (by decide) ?_
  refine lv_istore_n (lv' := [(3, .int 0), (0, .ref b0), (1, .int p0), (2, .int p1)]) hx hb dL_sum_1 rfl hl (by decide) rfl (fun ls hl => ?_)
  refine lv_iload_n hx hb dL_sum_2 rfl (lv_at hl 2 rfl) ?_
  refine lv_istore (lv' := [(4, .int p0), (3, .int 0), (0, .ref b0), (1, .int p0), (2, .int p1)]) hx hb dL_sum_3 hl (by decide) rfl (fun ls hl => ?_)
  obtain ⟨u7, hu7, hf⟩ := ob hf
  refine lp5 G0 p1 _ _ u7 hu7 (fun H locs hP hD hS ls hl => ?_) _ _ hP hD hS _ (lv_sub hl [2, 4, 1, 0] rfl)
  have hl : lv_has ls 5 [(3, .int u7.1)] := hl
  have hP : va_P g.1 vwCl ([(b0, .inl (g.2.1, 30, .inl G0))]) H := hP
  have hD : va_D A ([(b0, .inl (g.2.1, 30, .inl G0))]) := hD
  refine lv_iload_n hx hb dL_sum_41 rfl (lv_at hl 0 rfl) ?_
  have hR : u7.1 = r := Option.some.inj hf
  rw [← hR]
  exact W.iret (v := u7.1) hx hb hr0 (fun t ht hW => ⟨⟨u7.1, (), rfl, rfl, by rw [ht]; exact hP, hD⟩, hS.F ht⟩) hS.2.2 dL_sum_42
theorem hd_L_total : yL_total.cls ≠ "java/lang/invoke/MethodHandle" ∧ yL_total.cls ≠ "java/lang/invoke/VarHandle" ∧ (parseMethodDescriptor yL_total.desc).map (fun d => d.parameters.length) = some 3 := by decide +kernel
def s_L_total_5 (G0 : FF) (G1 : FF) (i2 : Int32) (x : Int32 × Int32) : Option ((Int32 × Int32) ⊕ (Int32 × Int32)) :=
  if (G0 1) ≤ x.2 then
    some (.inr (x.1, x.2))
  else
    (if ((i2 >>> (x.2 &&& 31)) &&& 1) = 0 then
      some 0
    else
      if zin ((3 * x.2) + 1) 15 = true then
      if (G1 ((3 * x.2) + 1).toNatClampNeg) = 0 then
        if zin (3 * x.2) 15 = true then
        some (G1 (3 * x.2).toNatClampNeg)
        else none
      else
        some 100000
      else none : Option Int32).bind (fun u2 =>
    some (.inl ((x.1 + u2), (x.2 + 1))))
def f_L_total (G0 : FF) (G1 : FF) (p0 : Int32) : Option (Int32) :=
  (zloop (s_L_total_5 G0 G1 p0) 4096 (0, 0)).bind (fun u8 =>
  some u8.1)
set_option maxHeartbeats 4000000 in
set_option maxRecDepth 100000 in
theorem c_L_total (l : Launch) (g : zG) (b0 : Nat) (b1 : Nat) (G0 : FF) (G1 : FF) (p0 : Int32) (r : Int32) (hf : f_L_total G0 G1 p0 = some r) : zMi zNF zNM l yL_total (zw yL_total cL_total 5 (some .int)) ({ frames := 0, cells := 0, slots := 0, locals := 0 } : Room) g [.ref b0, .ref b1, .int p0] ([(b0, .inl (g.2.1, 9, .inl G0))] ++ [(b1, .inl (g.2.1, 15, .inl G1))]) r ([(b0, .inl (g.2.1, 9, .inl G0))] ++ [(b1, .inl (g.2.1, 15, .inl G1))]) := by
  intro sz
  refine Met.ofW (cc := cL_total) (maxL := 5) (ret := (some .int)) (by decide) rfl ?_
  intro p e s m args below meth c s₁ B hml hv
  obtain ⟨rfl, hsz, hP, hK, hD0⟩ := hv
  have hx := B.exec
  have hb := B.bytes
  have hr0 := B.returns
  have hts := atoms_spec (ws := (zw yL_total cL_total 5 (some .int))) B.pre
  have hw0 : ∀ w ∈ zW, w.before ([.ref b0, .ref b1, .int p0] : List Value).toArray s = true := fun w h => hts w (List.mem_cons_of_mem _ h)
  have hown : s.vm.findClass RL = some m.cls := findClass_of_methodNamed B.named
  have hlocks := B.notSynchronized
  subst hsz
  have hD := hD0.self (sz := s.heap.size)
  generalize hAe : va_A ([(b0, .inl (g.2.1, 9, .inl G0))] ++ [(b1, .inl (g.2.1, 15, .inl G1))]) s.heap.size = A at hD ⊢
  have hA : ∀ q : Nat, s.heap.size ≤ q → A q := fun q h => by rw [← hAe]; exact Or.inr h
  have hS : va_S A s.heap s.heap [] := va_S.rf
  have lp5 : ∀ (G0 : FF) (G1 : FF) (i2 : Int32), ∀ (n : Nat) (x : Int32 × Int32) (rr : Int32 × Int32), zloop (s_L_total_5 G0 G1 i2) n x = some rr → (∀ (H : Heap) (locs : List Loc), va_P g.1 vwCl ([(b0, .inl (g.2.1, 9, .inl G0))] ++ [(b1, .inl (g.2.1, 15, .inl G1))]) H → va_D A ([(b0, .inl (g.2.1, 9, .inl G0))] ++ [(b1, .inl (g.2.1, 15, .inl G1))]) → va_S A s.heap H locs → ∀ ls : Array Slot, lv_has ls 5 [(3, .int rr.1)] → W p l e (headSpec (zw yL_total cL_total 5 (some .int)) ({ frames := 0, cells := 0, slots := 0, locals := 0 } : Room)).room s m ([.ref b0, .ref b1, .int p0] : List Value).toArray below meth c H locs 0 0 (MQ below (va_Qi (fun (x : Int32) (_ : Unit) => x = r) (fun _ => zEnd g A ([(b0, .inl (g.2.1, 9, .inl G0))] ++ [(b1, .inl (g.2.1, 15, .inl G1))])) A) ([.ref b0, .ref b1, .int p0] : List Value).toArray s 0 0 A) (F0 m 57 ls [])) → ∀ (H : Heap) (locs : List Loc), va_P g.1 vwCl ([(b0, .inl (g.2.1, 9, .inl G0))] ++ [(b1, .inl (g.2.1, 15, .inl G1))]) H → va_D A ([(b0, .inl (g.2.1, 9, .inl G0))] ++ [(b1, .inl (g.2.1, 15, .inl G1))]) → va_S A s.heap H locs → ∀ ls : Array Slot, lv_has ls 5 [(0, .ref b0), (1, .ref b1), (2, .int i2), (3, .int x.1), (4, .int x.2)] → W p l e (headSpec (zw yL_total cL_total 5 (some .int)) ({ frames := 0, cells := 0, slots := 0, locals := 0 } : Room)).room s m ([.ref b0, .ref b1, .int p0] : List Value).toArray below meth c H locs 0 0 (MQ below (va_Qi (fun (x : Int32) (_ : Unit) => x = r) (fun _ => zEnd g A ([(b0, .inl (g.2.1, 9, .inl G0))] ++ [(b1, .inl (g.2.1, 15, .inl G1))])) A) ([.ref b0, .ref b1, .int p0] : List Value).toArray s 0 0 A) (F0 m 5 ls []) := by
    intro G0 G1 i2
    refine zloop_ind ?_
    intro x y rr hf ih hr hQ H locs hP hD hS ls hl
    unfold s_L_total_5 at hf
    refine lv_iload hx hb dL_total_5 (lv_at hl 4 rfl) ?_
    refine lv_aload_n hx hb dL_total_7 rfl (lv_at hl 0 rfl) ?_
    refine lv_iconst (v := 1) hx hb dL_total_8 (by decide) ?_
    refine zald (D := g.1) (f := G0) (k := 1) hx hb hK.1 hP 0 0 rfl rfl (zin_vp (i := 1) (n := 9) rfl) rfl dL_total_9 ?_
    refine lv_icmp_ge (tgt := 57) hx hb dL_total_10 (by decide) (fun c1 => ?_) (fun c1 => ?_)
    · have hf := oi hf c1
      have hR : (x.1, x.2) = rr := hr _ (Option.some.inj hf).symm
      subst hR
      exact hQ _ _ hP hD hS _ (lv_sub hl [3] rfl)
    · have hf := oe hf c1
      refine lv_iload_n hx hb dL_total_13 rfl (lv_at hl 3 rfl) ?_
      refine lv_iload_n hx hb dL_total_14 rfl (lv_at hl 2 rfl) ?_
      refine lv_iload hx hb dL_total_15 (lv_at hl 4 rfl) ?_
      refine lv_ishr hx hb dL_total_17 ?_
      refine lv_iconst (v := 1) hx hb dL_total_18 (by decide) ?_
      refine lv_iand hx hb dL_total_19 ?_
      obtain ⟨u2, hu2, hf⟩ := ob hf
      have j3 : ∀ (H : Heap) (locs : List Loc), va_P g.1 vwCl ([(b0, .inl (g.2.1, 9, .inl G0))] ++ [(b1, .inl (g.2.1, 15, .inl G1))]) H → va_D A ([(b0, .inl (g.2.1, 9, .inl G0))] ++ [(b1, .inl (g.2.1, 15, .inl G1))]) → va_S A s.heap H locs → W p l e (headSpec (zw yL_total cL_total 5 (some .int)) ({ frames := 0, cells := 0, slots := 0, locals := 0 } : Room)).room s m ([.ref b0, .ref b1, .int p0] : List Value).toArray below meth c H locs 0 0 (MQ below (va_Qi (fun (x : Int32) (_ : Unit) => x = r) (fun _ => zEnd g A ([(b0, .inl (g.2.1, 9, .inl G0))] ++ [(b1, .inl (g.2.1, 15, .inl G1))])) A) ([.ref b0, .ref b1, .int p0] : List Value).toArray s 0 0 A) (F0 m 49 ls [.int u2, .int x.1]) := by
        intro H locs hP hD hS
        refine lv_iadd hx hb dL_total_49 ?_
        refine lv_istore_n (lv' := [(3, .int (x.1 + u2)), (0, .ref b0), (1, .ref b1), (2, .int i2), (4, .int x.2)]) hx hb dL_total_50 rfl hl (by decide) rfl (fun ls hl => ?_)
        refine lv_iinc (v := (x.2 + 1)) (lv' := [(4, .int (x.2 + 1)), (3, .int (x.1 + u2)), (0, .ref b0), (1, .ref b1), (2, .int i2)]) hx hb dL_total_51 hl (k := 4) rfl rfl (by decide) rfl (fun ls hl => ?_)
        refine lv_goto (tgt := 5) hx hb dL_total_54 (by decide) ?_
        exact ih ((x.1 + u2), (x.2 + 1)) (Option.some.inj hf).symm hQ _ _ hP hD hS _ (lv_sub hl [2, 3, 4, 1, 0] rfl)
      have hf := hu2
      refine lv_if_ne (tgt := 27) hx hb dL_total_20 (by decide) (fun c4 => ?_) (fun c4 => ?_)
      · have hf := oe hf c4
        refine lv_aload_n hx hb dL_total_27 rfl (lv_at hl 1 rfl) ?_
        refine lv_iconst (v := 3) hx hb dL_total_28 (by decide) ?_
        refine lv_iload hx hb dL_total_29 (lv_at hl 4 rfl) ?_
        refine lv_imul hx hb dL_total_31 ?_
        refine lv_iconst (v := 1) hx hb dL_total_32 (by decide) ?_
        refine lv_iadd hx hb dL_total_33 ?_
        obtain ⟨h5, hf⟩ := og hf
        refine zald (D := g.1) (f := G1) (k := ((3 * x.2) + 1).toNatClampNeg) hx hb hK.1 hP 1 0 rfl rfl (zin_vp h5) rfl dL_total_34 ?_
        refine lv_if_ne (tgt := 47) hx hb dL_total_35 (by decide) (fun c6 => ?_) (fun c6 => ?_)
        · have hf := oe hf c6
          refine lv_ldc (v := 100000) hx hb hown (hw0 _ zm3_127) dL_total_47 ?_
          exact zeqi (Option.some.inj hf) (j3 _ _ hP hD hS)
        · have hf := oi hf c6
          refine lv_aload_n hx hb dL_total_38 rfl (lv_at hl 1 rfl) ?_
          refine lv_iconst (v := 3) hx hb dL_total_39 (by decide) ?_
          refine lv_iload hx hb dL_total_40 (lv_at hl 4 rfl) ?_
          refine lv_imul hx hb dL_total_42 ?_
          obtain ⟨h7, hf⟩ := og hf
          refine zald (D := g.1) (f := G1) (k := (3 * x.2).toNatClampNeg) hx hb hK.1 hP 1 0 rfl rfl (zin_vp h7) rfl dL_total_43 ?_
          refine lv_goto (tgt := 49) hx hb dL_total_44 (by decide) ?_
          exact zeqi (Option.some.inj hf) (j3 _ _ hP hD hS)
      · have hf := oi hf c4
        refine lv_iconst (v := 0) hx hb dL_total_23 (by decide) ?_
        refine lv_goto (tgt := 49) hx hb dL_total_24 (by decide) ?_
        exact zeqi (Option.some.inj hf) (j3 _ _ hP hD hS)
  unfold f_L_total at hf
  have hl := lv_entry ([.ref b0, .ref b1, .int p0]) (n := 5) (Nat.le_of_ble_eq_true rfl)
  rw [lg_entry_eq]
  generalize (lg_sl ([.ref b0, .ref b1, .int p0]) ++ List.replicate (5 - (lg_sl ([.ref b0, .ref b1, .int p0])).length) Slot.unset).toArray = ls at hl ⊢
  have hl : lv_has ls 5 [(0, .ref b0), (1, .ref b1), (2, .int p0)] := hl
  refine lv_iconst (v := 0) hx hb dL_total_0 (by decide) ?_
  refine lv_istore_n (lv' := [(3, .int 0), (0, .ref b0), (1, .ref b1), (2, .int p0)]) hx hb dL_total_1 rfl hl (by decide) rfl (fun ls hl => ?_)
  refine lv_iconst (v := 0) hx hb dL_total_2 (by decide) ?_
  refine lv_istore (lv' := [(4, .int 0), (3, .int 0), (0, .ref b0), (1, .ref b1), (2, .int p0)]) hx hb dL_total_3 hl (by decide) rfl (fun ls hl => ?_)
  obtain ⟨u8, hu8, hf⟩ := ob hf
  refine lp5 G0 G1 p0 _ _ u8 hu8 (fun H locs hP hD hS ls hl => ?_) _ _ hP hD hS _ (lv_sub hl [2, 3, 4, 1, 0] rfl)
  have hl : lv_has ls 5 [(3, .int u8.1)] := hl
  have hP : va_P g.1 vwCl ([(b0, .inl (g.2.1, 9, .inl G0))] ++ [(b1, .inl (g.2.1, 15, .inl G1))]) H := hP
  have hD : va_D A ([(b0, .inl (g.2.1, 9, .inl G0))] ++ [(b1, .inl (g.2.1, 15, .inl G1))]) := hD
  refine lv_iload_n hx hb dL_total_57 rfl (lv_at hl 0 rfl) ?_
  have hR : u8.1 = r := Option.some.inj hf
  rw [← hR]
  exact W.iret (v := u8.1) hx hb hr0 (fun t ht hW => ⟨⟨u8.1, (), rfl, rfl, by rw [ht]; exact hP, hD⟩, hS.F ht⟩) hS.2.2 dL_total_58
theorem hd_L_choice : yL_choice.cls ≠ "java/lang/invoke/MethodHandle" ∧ yL_choice.cls ≠ "java/lang/invoke/VarHandle" ∧ (parseMethodDescriptor yL_choice.desc).map (fun d => d.parameters.length) = some 3 := by decide +kernel
def s_L_choice_33 (G0 : FF) (G1 : FF) (i2 : Int32) (i3 : Int32) (i4 : Int32) (i5 : Int32) (i6 : Int32) (x : Int32 × Int32) : Option ((Int32 × Int32) ⊕ (Int32 × Int32)) :=
  if (G0 1) ≤ x.2 then
    some (.inr (x.1, x.2))
  else
    some (.inl ((x.1 + ((i5 >>> (x.2 &&& 31)) &&& 1)), (x.2 + 1)))
def s_L_choice_8 (G0 : FF) (G1 : FF) (i2 : Int32) (x : Int32 × Int32 × Int32) : Option ((Int32 × Int32 × Int32) ⊕ (Int32 × Int32 × Int32)) :=
  if (1 <<< ((G0 1) &&& 31)) ≤ x.2.2 then
    some (.inr (x.1, x.2.1, x.2.2))
  else
    (f_L_total G0 G1 x.2.2).bind (fun u2 =>
    (zloop (s_L_choice_33 G0 G1 i2 x.1 x.2.1 x.2.2 u2) 4096 (0, 0)).bind (fun u4 =>
    (if i2 < u2 then
      some 0
    else
      some ((1000000 + (10 * u2)) - u4.1) : Option Int32).bind (fun u5 =>
    (if u5 ≤ x.2.1 then
      some x.1
    else
      some x.2.2 : Option Int32).bind (fun u7 =>
    (if u5 ≤ x.2.1 then
      some x.2.1
    else
      some u5 : Option Int32).bind (fun u9 =>
    some (.inl (u7, u9, (x.2.2 + 1))))))))
def f_L_choice (G0 : FF) (G1 : FF) (p0 : Int32) : Option (Int32) :=
  (zloop (s_L_choice_8 G0 G1 p0) 4096 (0, 0, 1)).bind (fun u14 =>
  some u14.1)
set_option maxHeartbeats 4000000 in
set_option maxRecDepth 100000 in
theorem c_L_choice (l : Launch) (g : zG) (b0 : Nat) (b1 : Nat) (G0 : FF) (G1 : FF) (p0 : Int32) (r : Int32) (hf : f_L_choice G0 G1 p0 = some r) : zMi zNF zNM l yL_choice (zw yL_choice cL_choice 9 (some .int)) ({ frames := 1, cells := 0, slots := 0, locals := 24 } : Room) g [.ref b0, .ref b1, .int p0] ([(b0, .inl (g.2.1, 9, .inl G0))] ++ [(b1, .inl (g.2.1, 15, .inl G1))]) r ([(b0, .inl (g.2.1, 9, .inl G0))] ++ [(b1, .inl (g.2.1, 15, .inl G1))]) := by
  intro sz
  refine Met.ofW (cc := cL_choice) (maxL := 9) (ret := (some .int)) (by decide) rfl ?_
  intro p e s m args below meth c s₁ B hml hv
  obtain ⟨rfl, hsz, hP, hK, hD0⟩ := hv
  have hx := B.exec
  have hb := B.bytes
  have hr0 := B.returns
  have hts := atoms_spec (ws := (zw yL_choice cL_choice 9 (some .int))) B.pre
  have hw0 : ∀ w ∈ zW, w.before ([.ref b0, .ref b1, .int p0] : List Value).toArray s = true := fun w h => hts w (List.mem_cons_of_mem _ h)
  have hown : s.vm.findClass RL = some m.cls := findClass_of_methodNamed B.named
  have hlocks := B.notSynchronized
  subst hsz
  have hD := hD0.self (sz := s.heap.size)
  generalize hAe : va_A ([(b0, .inl (g.2.1, 9, .inl G0))] ++ [(b1, .inl (g.2.1, 15, .inl G1))]) s.heap.size = A at hD ⊢
  have hA : ∀ q : Nat, s.heap.size ≤ q → A q := fun q h => by rw [← hAe]; exact Or.inr h
  have hS : va_S A s.heap s.heap [] := va_S.rf
  have lp33 : ∀ (G0 : FF) (G1 : FF) (i2 : Int32) (i3 : Int32) (i4 : Int32) (i5 : Int32) (i6 : Int32), ∀ (n : Nat) (x : Int32 × Int32) (rr : Int32 × Int32), zloop (s_L_choice_33 G0 G1 i2 i3 i4 i5 i6) n x = some rr → (∀ (H : Heap) (locs : List Loc), va_P g.1 vwCl ([(b0, .inl (g.2.1, 9, .inl G0))] ++ [(b1, .inl (g.2.1, 15, .inl G1))]) H → va_D A ([(b0, .inl (g.2.1, 9, .inl G0))] ++ [(b1, .inl (g.2.1, 15, .inl G1))]) → va_S A s.heap H locs → ∀ ls : Array Slot, lv_has ls 9 [(0, .ref b0), (1, .ref b1), (2, .int i2), (3, .int i3), (4, .int i4), (5, .int i5), (6, .int i6), (7, .int rr.1)] → W p l e (headSpec (zw yL_choice cL_choice 9 (some .int)) ({ frames := 1, cells := 0, slots := 0, locals := 24 } : Room)).room s m ([.ref b0, .ref b1, .int p0] : List Value).toArray below meth c H locs 0 0 (MQ below (va_Qi (fun (x : Int32) (_ : Unit) => x = r) (fun _ => zEnd g A ([(b0, .inl (g.2.1, 9, .inl G0))] ++ [(b1, .inl (g.2.1, 15, .inl G1))])) A) ([.ref b0, .ref b1, .int p0] : List Value).toArray s 0 0 A) (F0 m 59 ls [])) → ∀ (H : Heap) (locs : List Loc), va_P g.1 vwCl ([(b0, .inl (g.2.1, 9, .inl G0))] ++ [(b1, .inl (g.2.1, 15, .inl G1))]) H → va_D A ([(b0, .inl (g.2.1, 9, .inl G0))] ++ [(b1, .inl (g.2.1, 15, .inl G1))]) → va_S A s.heap H locs → ∀ ls : Array Slot, lv_has ls 9 [(0, .ref b0), (1, .ref b1), (2, .int i2), (3, .int i3), (4, .int i4), (5, .int i5), (6, .int i6), (7, .int x.1), (8, .int x.2)] → W p l e (headSpec (zw yL_choice cL_choice 9 (some .int)) ({ frames := 1, cells := 0, slots := 0, locals := 24 } : Room)).room s m ([.ref b0, .ref b1, .int p0] : List Value).toArray below meth c H locs 0 0 (MQ below (va_Qi (fun (x : Int32) (_ : Unit) => x = r) (fun _ => zEnd g A ([(b0, .inl (g.2.1, 9, .inl G0))] ++ [(b1, .inl (g.2.1, 15, .inl G1))])) A) ([.ref b0, .ref b1, .int p0] : List Value).toArray s 0 0 A) (F0 m 33 ls []) := by
    intro G0 G1 i2 i3 i4 i5 i6
    refine zloop_ind ?_
    intro x y rr hf ih hr hQ H locs hP hD hS ls hl
    unfold s_L_choice_33 at hf
    refine lv_iload hx hb dL_choice_33 (lv_at hl 8 rfl) ?_
    refine lv_aload_n hx hb dL_choice_35 rfl (lv_at hl 0 rfl) ?_
    refine lv_iconst (v := 1) hx hb dL_choice_36 (by decide) ?_
    refine zald (D := g.1) (f := G0) (k := 1) hx hb hK.1 hP 0 0 rfl rfl (zin_vp (i := 1) (n := 9) rfl) rfl dL_choice_37 ?_
    refine lv_icmp_ge (tgt := 59) hx hb dL_choice_38 (by decide) (fun c3 => ?_) (fun c3 => ?_)
    · have hf := oi hf c3
      have hR : (x.1, x.2) = rr := hr _ (Option.some.inj hf).symm
      subst hR
      exact hQ _ _ hP hD hS _ (lv_sub hl [0, 1, 2, 3, 4, 5, 6, 7] rfl)
    · have hf := oe hf c3
      refine lv_iload hx hb dL_choice_41 (lv_at hl 7 rfl) ?_
      refine lv_iload hx hb dL_choice_43 (lv_at hl 5 rfl) ?_
      refine lv_iload hx hb dL_choice_45 (lv_at hl 8 rfl) ?_
      refine lv_ishr hx hb dL_choice_47 ?_
      refine lv_iconst (v := 1) hx hb dL_choice_48 (by decide) ?_
      refine lv_iand hx hb dL_choice_49 ?_
      refine lv_iadd hx hb dL_choice_50 ?_
      refine lv_istore (lv' := [(7, .int (x.1 + ((i5 >>> (x.2 &&& 31)) &&& 1))), (0, .ref b0), (1, .ref b1), (2, .int i2), (3, .int i3), (4, .int i4), (5, .int i5), (6, .int i6), (8, .int x.2)]) hx hb dL_choice_51 hl (by decide) rfl (fun ls hl => ?_)
      refine lv_iinc (v := (x.2 + 1)) (lv' := [(8, .int (x.2 + 1)), (7, .int (x.1 + ((i5 >>> (x.2 &&& 31)) &&& 1))), (0, .ref b0), (1, .ref b1), (2, .int i2), (3, .int i3), (4, .int i4), (5, .int i5), (6, .int i6)]) hx hb dL_choice_53 hl (k := 8) rfl rfl (by decide) rfl (fun ls hl => ?_)
      refine lv_goto (tgt := 33) hx hb dL_choice_56 (by decide) ?_
      exact ih ((x.1 + ((i5 >>> (x.2 &&& 31)) &&& 1)), (x.2 + 1)) (Option.some.inj hf).symm hQ _ _ hP hD hS _ (lv_sub hl [2, 3, 4, 5, 6, 7, 8, 1, 0] rfl)
  have lp8 : ∀ (G0 : FF) (G1 : FF) (i2 : Int32), ∀ (n : Nat) (x : Int32 × Int32 × Int32) (rr : Int32 × Int32 × Int32), zloop (s_L_choice_8 G0 G1 i2) n x = some rr → (∀ (H : Heap) (locs : List Loc), va_P g.1 vwCl ([(b0, .inl (g.2.1, 9, .inl G0))] ++ [(b1, .inl (g.2.1, 15, .inl G1))]) H → va_D A ([(b0, .inl (g.2.1, 9, .inl G0))] ++ [(b1, .inl (g.2.1, 15, .inl G1))]) → va_S A s.heap H locs → ∀ ls : Array Slot, lv_has ls 9 [(3, .int rr.1)] → W p l e (headSpec (zw yL_choice cL_choice 9 (some .int)) ({ frames := 1, cells := 0, slots := 0, locals := 24 } : Room)).room s m ([.ref b0, .ref b1, .int p0] : List Value).toArray below meth c H locs 0 0 (MQ below (va_Qi (fun (x : Int32) (_ : Unit) => x = r) (fun _ => zEnd g A ([(b0, .inl (g.2.1, 9, .inl G0))] ++ [(b1, .inl (g.2.1, 15, .inl G1))])) A) ([.ref b0, .ref b1, .int p0] : List Value).toArray s 0 0 A) (F0 m 118 ls [])) → ∀ (H : Heap) (locs : List Loc), va_P g.1 vwCl ([(b0, .inl (g.2.1, 9, .inl G0))] ++ [(b1, .inl (g.2.1, 15, .inl G1))]) H → va_D A ([(b0, .inl (g.2.1, 9, .inl G0))] ++ [(b1, .inl (g.2.1, 15, .inl G1))]) → va_S A s.heap H locs → ∀ ls : Array Slot, lv_has ls 9 [(0, .ref b0), (1, .ref b1), (2, .int i2), (3, .int x.1), (4, .int x.2.1), (5, .int x.2.2)] → W p l e (headSpec (zw yL_choice cL_choice 9 (some .int)) ({ frames := 1, cells := 0, slots := 0, locals := 24 } : Room)).room s m ([.ref b0, .ref b1, .int p0] : List Value).toArray below meth c H locs 0 0 (MQ below (va_Qi (fun (x : Int32) (_ : Unit) => x = r) (fun _ => zEnd g A ([(b0, .inl (g.2.1, 9, .inl G0))] ++ [(b1, .inl (g.2.1, 15, .inl G1))])) A) ([.ref b0, .ref b1, .int p0] : List Value).toArray s 0 0 A) (F0 m 8 ls []) := by
    intro G0 G1 i2
    refine zloop_ind ?_
    intro x y rr hf ih hr hQ H locs hP hD hS ls hl
    unfold s_L_choice_8 at hf
    refine lv_iload hx hb dL_choice_8 (lv_at hl 5 rfl) ?_
    refine lv_iconst (v := 1) hx hb dL_choice_10 (by decide) ?_
    refine lv_aload_n hx hb dL_choice_11 rfl (lv_at hl 0 rfl) ?_
    refine lv_iconst (v := 1) hx hb dL_choice_12 (by decide) ?_
    refine zald (D := g.1) (f := G0) (k := 1) hx hb hK.1 hP 0 0 rfl rfl (zin_vp (i := 1) (n := 9) rfl) rfl dL_choice_13 ?_
    refine lv_ishl hx hb dL_choice_14 ?_
    refine lv_icmp_ge (tgt := 118) hx hb dL_choice_15 (by decide) (fun c1 => ?_) (fun c1 => ?_)
    · have hf := oi hf c1
      have hR : (x.1, x.2.1, x.2.2) = rr := hr _ (Option.some.inj hf).symm
      subst hR
      exact hQ _ _ hP hD hS _ (lv_sub hl [3] rfl)
    · have hf := oe hf c1
      refine lv_aload_n hx hb dL_choice_18 rfl (lv_at hl 0 rfl) ?_
      refine lv_aload_n hx hb dL_choice_19 rfl (lv_at hl 1 rfl) ?_
      refine lv_iload hx hb dL_choice_20 (lv_at hl 5 rfl) ?_
      obtain ⟨u2, hu2, hf⟩ := ob hf
      refine zk_iA (va_runS (As := [.ref b0, .ref b1, .int x.2.2]) (rest := []) ⟨hx, hb, hml, hown, hts⟩ (c_L_total l g b0 b1 G0 G1 x.2.2 _ hu2 _) (zcS hw0 zm3_124 zm3_126 zm1_0 zm3_125 hd_L_total rfl rfl ⟨Nat.le_of_ble_eq_true rfl, Nat.le_of_ble_eq_true rfl⟩) ⟨zblind, zpreA hK hP hD⟩ rfl rfl hl.1 rfl (lv_room (Nat.le_of_ble_eq_true rfl)) dL_choice_22 ⟨Nat.zero_le _, Nat.zero_le _⟩) hP hD hS hA (fun H locs hP hD hS => ?_)
      refine lv_istore (lv' := [(6, .int u2), (0, .ref b0), (1, .ref b1), (2, .int i2), (3, .int x.1), (4, .int x.2.1), (5, .int x.2.2)]) hx hb dL_choice_25 hl (by decide) rfl (fun ls hl => ?_)
      refine lv_iconst (v := 0) hx hb dL_choice_27 (by decide) ?_
      refine lv_istore (lv' := [(7, .int 0), (6, .int u2), (0, .ref b0), (1, .ref b1), (2, .int i2), (3, .int x.1), (4, .int x.2.1), (5, .int x.2.2)]) hx hb dL_choice_28 hl (by decide) rfl (fun ls hl => ?_)
      refine lv_iconst (v := 0) hx hb dL_choice_30 (by decide) ?_
      refine lv_istore (lv' := [(8, .int 0), (7, .int 0), (6, .int u2), (0, .ref b0), (1, .ref b1), (2, .int i2), (3, .int x.1), (4, .int x.2.1), (5, .int x.2.2)]) hx hb dL_choice_31 hl (by decide) rfl (fun ls hl => ?_)
      obtain ⟨u4, hu4, hf⟩ := ob hf
      refine lp33 G0 G1 i2 x.1 x.2.1 x.2.2 u2 _ _ u4 hu4 (fun H locs hP hD hS ls hl => ?_) _ _ hP hD hS _ (lv_sub hl [3, 4, 5, 6, 7, 8, 2, 1, 0] rfl)
      have hl : lv_has ls 9 [(0, .ref b0), (1, .ref b1), (2, .int i2), (3, .int x.1), (4, .int x.2.1), (5, .int x.2.2), (6, .int u2), (7, .int u4.1)] := hl
      have hP : va_P g.1 vwCl ([(b0, .inl (g.2.1, 9, .inl G0))] ++ [(b1, .inl (g.2.1, 15, .inl G1))]) H := hP
      have hD : va_D A ([(b0, .inl (g.2.1, 9, .inl G0))] ++ [(b1, .inl (g.2.1, 15, .inl G1))]) := hD
      refine lv_iload hx hb dL_choice_59 (lv_at hl 6 rfl) ?_
      refine lv_iload_n hx hb dL_choice_61 rfl (lv_at hl 2 rfl) ?_
      obtain ⟨u5, hu5, hf⟩ := ob hf
      have j6 : ∀ (H : Heap) (locs : List Loc), va_P g.1 vwCl ([(b0, .inl (g.2.1, 9, .inl G0))] ++ [(b1, .inl (g.2.1, 15, .inl G1))]) H → va_D A ([(b0, .inl (g.2.1, 9, .inl G0))] ++ [(b1, .inl (g.2.1, 15, .inl G1))]) → va_S A s.heap H locs → W p l e (headSpec (zw yL_choice cL_choice 9 (some .int)) ({ frames := 1, cells := 0, slots := 0, locals := 24 } : Room)).room s m ([.ref b0, .ref b1, .int p0] : List Value).toArray below meth c H locs 0 0 (MQ below (va_Qi (fun (x : Int32) (_ : Unit) => x = r) (fun _ => zEnd g A ([(b0, .inl (g.2.1, 9, .inl G0))] ++ [(b1, .inl (g.2.1, 15, .inl G1))])) A) ([.ref b0, .ref b1, .int p0] : List Value).toArray s 0 0 A) (F0 m 80 ls [.int u5]) := by
        intro H locs hP hD hS
        refine lv_istore (lv' := [(8, .int u5), (0, .ref b0), (1, .ref b1), (2, .int i2), (3, .int x.1), (4, .int x.2.1), (5, .int x.2.2), (6, .int u2), (7, .int u4.1)]) hx hb dL_choice_80 hl (by decide) rfl (fun ls hl => ?_)
        refine lv_iload hx hb dL_choice_82 (lv_at hl 0 rfl) ?_
        refine lv_iload hx hb dL_choice_84 (lv_at hl 5 rfl) ?_
        obtain ⟨u7, hu7, hf⟩ := ob hf
        have j8 : ∀ (H : Heap) (locs : List Loc), va_P g.1 vwCl ([(b0, .inl (g.2.1, 9, .inl G0))] ++ [(b1, .inl (g.2.1, 15, .inl G1))]) H → va_D A ([(b0, .inl (g.2.1, 9, .inl G0))] ++ [(b1, .inl (g.2.1, 15, .inl G1))]) → va_S A s.heap H locs → W p l e (headSpec (zw yL_choice cL_choice 9 (some .int)) ({ frames := 1, cells := 0, slots := 0, locals := 24 } : Room)).room s m ([.ref b0, .ref b1, .int p0] : List Value).toArray below meth c H locs 0 0 (MQ below (va_Qi (fun (x : Int32) (_ : Unit) => x = r) (fun _ => zEnd g A ([(b0, .inl (g.2.1, 9, .inl G0))] ++ [(b1, .inl (g.2.1, 15, .inl G1))])) A) ([.ref b0, .ref b1, .int p0] : List Value).toArray s 0 0 A) (F0 m 95 ls [.int u7]) := by
          intro H locs hP hD hS
          refine lv_istore_n (lv' := [(3, .int u7), (8, .int u5), (0, .ref b0), (1, .ref b1), (2, .int i2), (4, .int x.2.1), (5, .int x.2.2), (6, .int u2), (7, .int u4.1)]) hx hb dL_choice_95 rfl hl (by decide) rfl (fun ls hl => ?_)
          refine lv_iload hx hb dL_choice_96 (lv_at hl 1 rfl) ?_
          obtain ⟨u9, hu9, hf⟩ := ob hf
          have j10 : ∀ (H : Heap) (locs : List Loc), va_P g.1 vwCl ([(b0, .inl (g.2.1, 9, .inl G0))] ++ [(b1, .inl (g.2.1, 15, .inl G1))]) H → va_D A ([(b0, .inl (g.2.1, 9, .inl G0))] ++ [(b1, .inl (g.2.1, 15, .inl G1))]) → va_S A s.heap H locs → W p l e (headSpec (zw yL_choice cL_choice 9 (some .int)) ({ frames := 1, cells := 0, slots := 0, locals := 24 } : Room)).room s m ([.ref b0, .ref b1, .int p0] : List Value).toArray below meth c H locs 0 0 (MQ below (va_Qi (fun (x : Int32) (_ : Unit) => x = r) (fun _ => zEnd g A ([(b0, .inl (g.2.1, 9, .inl G0))] ++ [(b1, .inl (g.2.1, 15, .inl G1))])) A) ([.ref b0, .ref b1, .int p0] : List Value).toArray s 0 0 A) (F0 m 110 ls [.int u9]) := by
            intro H locs hP hD hS
            refine lv_istore (lv' := [(4, .int u9), (3, .int u7), (8, .int u5), (0, .ref b0), (1, .ref b1), (2, .int i2), (5, .int x.2.2), (6, .int u2), (7, .int u4.1)]) hx hb dL_choice_110 hl (by decide) rfl (fun ls hl => ?_)
            refine lv_iinc (v := (x.2.2 + 1)) (lv' := [(5, .int (x.2.2 + 1)), (4, .int u9), (3, .int u7), (8, .int u5), (0, .ref b0), (1, .ref b1), (2, .int i2), (6, .int u2), (7, .int u4.1)]) hx hb dL_choice_112 hl (k := 6) rfl rfl (by decide) rfl (fun ls hl => ?_)
            refine lv_goto (tgt := 8) hx hb dL_choice_115 (by decide) ?_
            exact ih (u7, u9, (x.2.2 + 1)) (Option.some.inj hf).symm hQ _ _ hP hD hS _ (lv_sub hl [4, 5, 6, 2, 1, 0] rfl)
          have hf := hu9
          refine lv_iload hx hb dL_choice_98 (lv_at hl 5 rfl) ?_
          refine lv_icmp_le (tgt := 108) hx hb dL_choice_100 (by decide) (fun c11 => ?_) (fun c11 => ?_)
          · have hf := oi hf c11
            refine lv_iload hx hb dL_choice_108 (lv_at hl 5 rfl) ?_
            exact zeqi (Option.some.inj hf) (j10 _ _ hP hD hS)
          · have hf := oe hf c11
            refine lv_iload hx hb dL_choice_103 (lv_at hl 1 rfl) ?_
            refine lv_goto (tgt := 110) hx hb dL_choice_105 (by decide) ?_
            exact zeqi (Option.some.inj hf) (j10 _ _ hP hD hS)
        have hf := hu7
        refine lv_icmp_le (tgt := 94) hx hb dL_choice_86 (by decide) (fun c12 => ?_) (fun c12 => ?_)
        · have hf := oi hf c12
          refine lv_iload_n hx hb dL_choice_94 rfl (lv_at hl 4 rfl) ?_
          exact zeqi (Option.some.inj hf) (j8 _ _ hP hD hS)
        · have hf := oe hf c12
          refine lv_iload hx hb dL_choice_89 (lv_at hl 6 rfl) ?_
          refine lv_goto (tgt := 95) hx hb dL_choice_91 (by decide) ?_
          exact zeqi (Option.some.inj hf) (j8 _ _ hP hD hS)
      have hf := hu5
      refine lv_icmp_gt (tgt := 79) hx hb dL_choice_62 (by decide) (fun c13 => ?_) (fun c13 => ?_)
      · have hf := oi hf c13
        refine lv_iconst (v := 0) hx hb dL_choice_79 (by decide) ?_
        exact zeqi (Option.some.inj hf) (j6 _ _ hP hD hS)
      · have hf := oe hf c13
        refine lv_ldc (v := 1000000) hx hb hown (hw0 _ zm3_105) dL_choice_65 ?_
        refine lv_bipush (v := 10) hx hb dL_choice_67 (by decide) ?_
        refine lv_iload hx hb dL_choice_69 (lv_at hl 6 rfl) ?_
        refine lv_imul hx hb dL_choice_71 ?_
        refine lv_iadd hx hb dL_choice_72 ?_
        refine lv_iload hx hb dL_choice_73 (lv_at hl 7 rfl) ?_
        refine lv_isub hx hb dL_choice_75 ?_
        refine lv_goto (tgt := 80) hx hb dL_choice_76 (by decide) ?_
        exact zeqi (Option.some.inj hf) (j6 _ _ hP hD hS)
  unfold f_L_choice at hf
  have hl := lv_entry ([.ref b0, .ref b1, .int p0]) (n := 9) (Nat.le_of_ble_eq_true rfl)
  rw [lg_entry_eq]
  generalize (lg_sl ([.ref b0, .ref b1, .int p0]) ++ List.replicate (9 - (lg_sl ([.ref b0, .ref b1, .int p0])).length) Slot.unset).toArray = ls at hl ⊢
  have hl : lv_has ls 9 [(0, .ref b0), (1, .ref b1), (2, .int p0)] := hl
  refine lv_iconst (v := 0) hx hb dL_choice_0 (by decide) ?_
  refine lv_istore_n (lv' := [(3, .int 0), (0, .ref b0), (1, .ref b1), (2, .int p0)]) hx hb dL_choice_1 rfl hl (by decide) rfl (fun ls hl => ?_)
  refine lv_iconst (v := 0) hx hb dL_choice_2 (by decide) ?_
  refine lv_istore (lv' := [(4, .int 0), (3, .int 0), (0, .ref b0), (1, .ref b1), (2, .int p0)]) hx hb dL_choice_3 hl (by decide) rfl (fun ls hl => ?_)
  refine lv_iconst (v := 1) hx hb dL_choice_5 (by decide) ?_
  refine lv_istore (lv' := [(5, .int 1), (4, .int 0), (3, .int 0), (0, .ref b0), (1, .ref b1), (2, .int p0)]) hx hb dL_choice_6 hl (by decide) rfl (fun ls hl => ?_)
  obtain ⟨u14, hu14, hf⟩ := ob hf
  refine lp8 G0 G1 p0 _ _ u14 hu14 (fun H locs hP hD hS ls hl => ?_) _ _ hP hD hS _ (lv_sub hl [3, 4, 5, 2, 1, 0] rfl)
  have hl : lv_has ls 9 [(3, .int u14.1)] := hl
  have hP : va_P g.1 vwCl ([(b0, .inl (g.2.1, 9, .inl G0))] ++ [(b1, .inl (g.2.1, 15, .inl G1))]) H := hP
  have hD : va_D A ([(b0, .inl (g.2.1, 9, .inl G0))] ++ [(b1, .inl (g.2.1, 15, .inl G1))]) := hD
  refine lv_iload_n hx hb dL_choice_118 rfl (lv_at hl 0 rfl) ?_
  have hR : u14.1 = r := Option.some.inj hf
  rw [← hR]
  exact W.iret (v := u14.1) hx hb hr0 (fun t ht hW => ⟨⟨u14.1, (), rfl, rfl, by rw [ht]; exact hP, hD⟩, hS.F ht⟩) hS.2.2 dL_choice_119
