theorem hd_X7_thrown : yX7_thrown.cls ≠ "java/lang/invoke/MethodHandle" ∧ yX7_thrown.cls ≠ "java/lang/invoke/VarHandle" ∧ (parseMethodDescriptor yX7_thrown.desc).map (fun d => d.parameters.length) = some 0 := by decide +kernel
def f_X7_thrown (v : MV) : Option (Int32) :=
  some v.2.2.2.2.2.2.2.1
set_option maxHeartbeats 4000000 in
set_option maxRecDepth 100000 in
theorem c_X7_thrown (l : Launch) (g : zG) (a : Nat → Nat) (v : MV) (r : Int32) (hf : f_X7_thrown v = some r) : zMi zNF zNM l yX7_thrown (zw yX7_thrown cX7_thrown 1 (some .int)) ({ frames := 0, cells := 0, slots := 0, locals := 0 } : Room) g [.ref (a 0)] (zX7 g a v) r (zX7 g a v) := by
  intro sz
  refine Met.ofW (cc := cX7_thrown) (maxL := 1) (ret := (some .int)) (by decide) rfl ?_
  intro p e s m args below meth c s₁ B hml hv
  obtain ⟨rfl, hsz, hP, hK, hD0⟩ := hv
  have hx := B.exec
  have hb := B.bytes
  have hr0 := B.returns
  have hts := atoms_spec (ws := (zw yX7_thrown cX7_thrown 1 (some .int))) B.pre
  have hw0 : ∀ w ∈ zW, w.before ([.ref (a 0)] : List Value).toArray s = true := fun w h => hts w (List.mem_cons_of_mem _ h)
  have hown : s.vm.findClass RX7 = some m.cls := findClass_of_methodNamed B.named
  have hlocks := B.notSynchronized
  subst hsz
  have hD := hD0.self (sz := s.heap.size)
  generalize hAe : va_A (zX7 g a v) s.heap.size = A at hD ⊢
  have hA : ∀ q : Nat, s.heap.size ≤ q → A q := fun q h => by rw [← hAe]; exact Or.inr h
  have hS : va_S A s.heap s.heap [] := va_S.rf
  unfold f_X7_thrown at hf
  have hl := lv_entry ([.ref (a 0)]) (n := 1) (Nat.le_of_ble_eq_true rfl)
  rw [lg_entry_eq]
  generalize (lg_sl ([.ref (a 0)]) ++ List.replicate (1 - (lg_sl ([.ref (a 0)])).length) Slot.unset).toArray = ls at hl ⊢
  have hl : lv_has ls 1 [(0, .ref (a 0))] := hl
  refine lv_aload_n hx hb dX7_thrown_0 rfl (lv_at hl 0 rfl) ?_
  refine va_get (D := g.1) (ci := 7) (v := .int v.2.2.2.2.2.2.2.1) (C := RX7) (T := TX7) (N := 11) hx hb hw0 ziX7 hown hK.1 hP 0 rfl rfl 7 (by decide) (hw0 _ zm4_78) (fun _ h9 => h9) rfl dX7_thrown_1 ?_
  have hR : v.2.2.2.2.2.2.2.1 = r := Option.some.inj hf
  subst hR
  exact W.iret (v := v.2.2.2.2.2.2.2.1) hx hb hr0 (fun t ht hW => ⟨⟨v.2.2.2.2.2.2.2.1, (), rfl, rfl, by rw [ht]; exact hP, hD⟩, hS.F ht⟩) hS.2.2 dX7_thrown_4
theorem hd_X7_in : yX7_in.cls ≠ "java/lang/invoke/MethodHandle" ∧ yX7_in.cls ≠ "java/lang/invoke/VarHandle" ∧ (parseMethodDescriptor yX7_in.desc).map (fun d => d.parameters.length) = some 3 := by decide +kernel
def f_X7_in (p0 : Int32) (p1 : Int32) (p2 : Int32) : Option (Bool) :=
  if p0 < p1 then
    some false
  else
    if p2 < p0 then
      some false
    else
      some true
set_option maxHeartbeats 4000000 in
set_option maxRecDepth 100000 in
theorem c_X7_in (l : Launch) (g : zG) (p0 : Int32) (p1 : Int32) (p2 : Int32) (r : Bool) (hf : f_X7_in p0 p1 p2 = some r) : zMi zNF zNM l yX7_in (zw yX7_in cX7_in 3 (some .boolean)) ({ frames := 0, cells := 0, slots := 0, locals := 0 } : Room) g [.int p0, .int p1, .int p2] ([] : va_W) (zb r) ([] : va_W) := by
  intro sz
  refine Met.ofW (cc := cX7_in) (maxL := 3) (ret := (some .boolean)) (by decide) rfl ?_
  intro p e s m args below meth c s₁ B hml hv
  obtain ⟨rfl, hsz, hP, hK, hD0⟩ := hv
  have hx := B.exec
  have hb := B.bytes
  have hr0 := B.returns
  have hts := atoms_spec (ws := (zw yX7_in cX7_in 3 (some .boolean))) B.pre
  have hw0 : ∀ w ∈ zW, w.before ([.int p0, .int p1, .int p2] : List Value).toArray s = true := fun w h => hts w (List.mem_cons_of_mem _ h)
  have hown : s.vm.findClass RX7 = some m.cls := findClass_of_methodNamed B.named
  have hlocks := B.notSynchronized
  subst hsz
  have hD := hD0.self (sz := s.heap.size)
  generalize hAe : va_A ([] : va_W) s.heap.size = A at hD ⊢
  have hA : ∀ q : Nat, s.heap.size ≤ q → A q := fun q h => by rw [← hAe]; exact Or.inr h
  have hS : va_S A s.heap s.heap [] := va_S.rf
  unfold f_X7_in at hf
  have hl := lv_entry ([.int p0, .int p1, .int p2]) (n := 3) (Nat.le_of_ble_eq_true rfl)
  rw [lg_entry_eq]
  generalize (lg_sl ([.int p0, .int p1, .int p2]) ++ List.replicate (3 - (lg_sl ([.int p0, .int p1, .int p2])).length) Slot.unset).toArray = ls at hl ⊢
  have hl : lv_has ls 3 [(0, .int p0), (1, .int p1), (2, .int p2)] := hl
  refine lv_iload_n hx hb dX7_in_0 rfl (lv_at hl 0 rfl) ?_
  refine lv_iload_n hx hb dX7_in_1 rfl (lv_at hl 1 rfl) ?_
  refine lv_icmp_lt (tgt := 14) hx hb dX7_in_2 (by decide) (fun c1 => ?_) (fun c1 => ?_)
  · have hf := oi hf c1
    refine lv_iconst (v := 0) hx hb dX7_in_14 (by decide) ?_
    have hR : false = r := Option.some.inj hf
    subst hR
    exact W.zret (v := zb false) hx hb hr0 (zb_nar false) (fun t ht hW => ⟨⟨zb false, (), rfl, rfl, by rw [ht]; exact hP, hD⟩, hS.F ht⟩) hS.2.2 dX7_in_15
  · have hf := oe hf c1
    refine lv_iload_n hx hb dX7_in_5 rfl (lv_at hl 0 rfl) ?_
    refine lv_iload_n hx hb dX7_in_6 rfl (lv_at hl 2 rfl) ?_
    refine lv_icmp_gt (tgt := 14) hx hb dX7_in_7 (by decide) (fun c2 => ?_) (fun c2 => ?_)
    · have hf := oi hf c2
      refine lv_iconst (v := 0) hx hb dX7_in_14 (by decide) ?_
      have hR : false = r := Option.some.inj hf
      subst hR
      exact W.zret (v := zb false) hx hb hr0 (zb_nar false) (fun t ht hW => ⟨⟨zb false, (), rfl, rfl, by rw [ht]; exact hP, hD⟩, hS.F ht⟩) hS.2.2 dX7_in_15
    · have hf := oe hf c2
      refine lv_iconst (v := 1) hx hb dX7_in_10 (by decide) ?_
      refine lv_goto (tgt := 15) hx hb dX7_in_11 (by decide) ?_
      have hR : true = r := Option.some.inj hf
      subst hR
      exact W.zret (v := zb true) hx hb hr0 (zb_nar true) (fun t ht hW => ⟨⟨zb true, (), rfl, rfl, by rw [ht]; exact hP, hD⟩, hS.F ht⟩) hS.2.2 dX7_in_15
theorem hd_X7_fails : yX7_fails.cls ≠ "java/lang/invoke/MethodHandle" ∧ yX7_fails.cls ≠ "java/lang/invoke/VarHandle" ∧ (parseMethodDescriptor yX7_fails.desc).map (fun d => d.parameters.length) = some 1 := by decide +kernel
def f_X7_fails (v : MV) (p0 : Int32) : Option (Int32 × MV) :=
  some (0, (v.1, v.2.1, v.2.2.1, v.2.2.2.1, v.2.2.2.2.1, v.2.2.2.2.2.1, v.2.2.2.2.2.2.1, p0, v.2.2.2.2.2.2.2.2.1, v.2.2.2.2.2.2.2.2.2.1, v.2.2.2.2.2.2.2.2.2.2))
set_option maxHeartbeats 4000000 in
set_option maxRecDepth 100000 in
theorem c_X7_fails (l : Launch) (g : zG) (a : Nat → Nat) (v : MV) (p0 : Int32) (r : Int32 × MV) (hf : f_X7_fails v p0 = some r) : zMi zNF zNM l yX7_fails (zw yX7_fails cX7_fails 2 (some .int)) ({ frames := 0, cells := 0, slots := 0, locals := 0 } : Room) g [.ref (a 0), .int p0] (zX7 g a v) r.1 (zX7 g a r.2) := by
  intro sz
  refine Met.ofW (cc := cX7_fails) (maxL := 2) (ret := (some .int)) (by decide) rfl ?_
  intro p e s m args below meth c s₁ B hml hv
  obtain ⟨rfl, hsz, hP, hK, hD0⟩ := hv
  have hx := B.exec
  have hb := B.bytes
  have hr0 := B.returns
  have hts := atoms_spec (ws := (zw yX7_fails cX7_fails 2 (some .int))) B.pre
  have hw0 : ∀ w ∈ zW, w.before ([.ref (a 0), .int p0] : List Value).toArray s = true := fun w h => hts w (List.mem_cons_of_mem _ h)
  have hown : s.vm.findClass RX7 = some m.cls := findClass_of_methodNamed B.named
  have hlocks := B.notSynchronized
  subst hsz
  have hD := hD0.self (sz := s.heap.size)
  generalize hAe : va_A (zX7 g a v) s.heap.size = A at hD ⊢
  have hA : ∀ q : Nat, s.heap.size ≤ q → A q := fun q h => by rw [← hAe]; exact Or.inr h
  have hS : va_S A s.heap s.heap [] := va_S.rf
  unfold f_X7_fails at hf
  have hl := lv_entry ([.ref (a 0), .int p0]) (n := 2) (Nat.le_of_ble_eq_true rfl)
  rw [lg_entry_eq]
  generalize (lg_sl ([.ref (a 0), .int p0]) ++ List.replicate (2 - (lg_sl ([.ref (a 0), .int p0])).length) Slot.unset).toArray = ls at hl ⊢
  have hl : lv_has ls 2 [(0, .ref (a 0)), (1, .int p0)] := hl
  refine lv_aload_n hx hb dX7_fails_0 rfl (lv_at hl 0 rfl) ?_
  refine lv_iload_n hx hb dX7_fails_1 rfl (lv_at hl 1 rfl) ?_
  refine va_put (D := g.1) (ci := 7) (v := .int p0) (ty := .int) (C := RX7) (T := TX7) (N := 11) hx hb hw0 ziX7 tyX7 tyX7_ok nmX7 hown hK.1 hP hD hS 0 rfl rfl 7 (by decide) (hw0 _ zm4_78) (fun _ h9 => h9) rfl (tyX7_ok 7 (by decide)) rfl rfl (Nat.le_of_ble_eq_true rfl) dX7_fails_2 (fun H locs hP hD hS => ?_)
  have hP : va_P g.1 vwCl (zX7 g a (v.1, v.2.1, v.2.2.1, v.2.2.2.1, v.2.2.2.2.1, v.2.2.2.2.2.1, v.2.2.2.2.2.2.1, p0, v.2.2.2.2.2.2.2.2.1, v.2.2.2.2.2.2.2.2.2.1, v.2.2.2.2.2.2.2.2.2.2)) H := hP
  have hD : va_D A (zX7 g a (v.1, v.2.1, v.2.2.1, v.2.2.2.1, v.2.2.2.2.1, v.2.2.2.2.2.1, v.2.2.2.2.2.2.1, p0, v.2.2.2.2.2.2.2.2.1, v.2.2.2.2.2.2.2.2.2.1, v.2.2.2.2.2.2.2.2.2.2)) := hD
  refine lv_iconst (v := 0) hx hb dX7_fails_5 (by decide) ?_
  have hR : (0, (v.1, v.2.1, v.2.2.1, v.2.2.2.1, v.2.2.2.2.1, v.2.2.2.2.2.1, v.2.2.2.2.2.2.1, p0, v.2.2.2.2.2.2.2.2.1, v.2.2.2.2.2.2.2.2.2.1, v.2.2.2.2.2.2.2.2.2.2)) = r := Option.some.inj hf
  subst hR
  exact W.iret (v := 0) hx hb hr0 (fun t ht hW => ⟨⟨0, (), rfl, rfl, by rw [ht]; exact hP, hD⟩, hS.F ht⟩) hS.2.2 dX7_fails_6
theorem hd_X7_tells : yX7_tells.cls ≠ "java/lang/invoke/MethodHandle" ∧ yX7_tells.cls ≠ "java/lang/invoke/VarHandle" ∧ (parseMethodDescriptor yX7_tells.desc).map (fun d => d.parameters.length) = some 1 := by decide +kernel
def f_X7_tells (v : MV) (p0 : Int32) : Option (Int32 × MV) :=
  some (p0, (v.1, v.2.1, v.2.2.1, v.2.2.2.1, v.2.2.2.2.1, v.2.2.2.2.2.1, v.2.2.2.2.2.2.1, 0, v.2.2.2.2.2.2.2.2.1, v.2.2.2.2.2.2.2.2.2.1, v.2.2.2.2.2.2.2.2.2.2))
set_option maxHeartbeats 4000000 in
set_option maxRecDepth 100000 in
theorem c_X7_tells (l : Launch) (g : zG) (a : Nat → Nat) (v : MV) (p0 : Int32) (r : Int32 × MV) (hf : f_X7_tells v p0 = some r) : zMi zNF zNM l yX7_tells (zw yX7_tells cX7_tells 2 (some .int)) ({ frames := 0, cells := 0, slots := 0, locals := 0 } : Room) g [.ref (a 0), .int p0] (zX7 g a v) r.1 (zX7 g a r.2) := by
  intro sz
  refine Met.ofW (cc := cX7_tells) (maxL := 2) (ret := (some .int)) (by decide) rfl ?_
  intro p e s m args below meth c s₁ B hml hv
  obtain ⟨rfl, hsz, hP, hK, hD0⟩ := hv
  have hx := B.exec
  have hb := B.bytes
  have hr0 := B.returns
  have hts := atoms_spec (ws := (zw yX7_tells cX7_tells 2 (some .int))) B.pre
  have hw0 : ∀ w ∈ zW, w.before ([.ref (a 0), .int p0] : List Value).toArray s = true := fun w h => hts w (List.mem_cons_of_mem _ h)
  have hown : s.vm.findClass RX7 = some m.cls := findClass_of_methodNamed B.named
  have hlocks := B.notSynchronized
  subst hsz
  have hD := hD0.self (sz := s.heap.size)
  generalize hAe : va_A (zX7 g a v) s.heap.size = A at hD ⊢
  have hA : ∀ q : Nat, s.heap.size ≤ q → A q := fun q h => by rw [← hAe]; exact Or.inr h
  have hS : va_S A s.heap s.heap [] := va_S.rf
  unfold f_X7_tells at hf
  have hl := lv_entry ([.ref (a 0), .int p0]) (n := 2) (Nat.le_of_ble_eq_true rfl)
  rw [lg_entry_eq]
  generalize (lg_sl ([.ref (a 0), .int p0]) ++ List.replicate (2 - (lg_sl ([.ref (a 0), .int p0])).length) Slot.unset).toArray = ls at hl ⊢
  have hl : lv_has ls 2 [(0, .ref (a 0)), (1, .int p0)] := hl
  refine lv_aload_n hx hb dX7_tells_0 rfl (lv_at hl 0 rfl) ?_
  refine lv_iconst (v := 0) hx hb dX7_tells_1 (by decide) ?_
  refine va_put (D := g.1) (ci := 7) (v := .int 0) (ty := .int) (C := RX7) (T := TX7) (N := 11) hx hb hw0 ziX7 tyX7 tyX7_ok nmX7 hown hK.1 hP hD hS 0 rfl rfl 7 (by decide) (hw0 _ zm4_78) (fun _ h9 => h9) rfl (tyX7_ok 7 (by decide)) rfl rfl (Nat.le_of_ble_eq_true rfl) dX7_tells_2 (fun H locs hP hD hS => ?_)
  have hP : va_P g.1 vwCl (zX7 g a (v.1, v.2.1, v.2.2.1, v.2.2.2.1, v.2.2.2.2.1, v.2.2.2.2.2.1, v.2.2.2.2.2.2.1, 0, v.2.2.2.2.2.2.2.2.1, v.2.2.2.2.2.2.2.2.2.1, v.2.2.2.2.2.2.2.2.2.2)) H := hP
  have hD : va_D A (zX7 g a (v.1, v.2.1, v.2.2.1, v.2.2.2.1, v.2.2.2.2.1, v.2.2.2.2.2.1, v.2.2.2.2.2.2.1, 0, v.2.2.2.2.2.2.2.2.1, v.2.2.2.2.2.2.2.2.2.1, v.2.2.2.2.2.2.2.2.2.2)) := hD
  refine lv_iload_n hx hb dX7_tells_5 rfl (lv_at hl 1 rfl) ?_
  have hR : (p0, (v.1, v.2.1, v.2.2.1, v.2.2.2.1, v.2.2.2.2.1, v.2.2.2.2.2.1, v.2.2.2.2.2.2.1, 0, v.2.2.2.2.2.2.2.2.1, v.2.2.2.2.2.2.2.2.2.1, v.2.2.2.2.2.2.2.2.2.2)) = r := Option.some.inj hf
  subst hR
  exact W.iret (v := p0) hx hb hr0 (fun t ht hW => ⟨⟨p0, (), rfl, rfl, by rw [ht]; exact hP, hD⟩, hS.F ht⟩) hS.2.2 dX7_tells_6
theorem hd_X7_copies : yX7_copies.cls ≠ "java/lang/invoke/MethodHandle" ∧ yX7_copies.cls ≠ "java/lang/invoke/VarHandle" ∧ (parseMethodDescriptor yX7_copies.desc).map (fun d => d.parameters.length) = some 2 := by decide +kernel
def s_X7_copies_2 (G0 : FF) (G1 : FF) (x : Int32 × FF) : Option ((Int32 × FF) ⊕ (Int32 × FF)) :=
  if 220 ≤ x.1 then
    some (.inr (x.1, x.2))
  else
    if zin x.1 220 = true then
    if zin x.1 220 = true then
    some (.inl ((x.1 + 1), (upd x.2 x.1.toNatClampNeg (G0 x.1.toNatClampNeg))))
    else none
    else none
def f_X7_copies (G0 : FF) (G1 : FF) : Option (FF) :=
  (zloop (s_X7_copies_2 G0 G1) 4096 (0, G1)).bind (fun u4 =>
  some u4.2)
set_option maxHeartbeats 4000000 in
set_option maxRecDepth 100000 in
theorem c_X7_copies (l : Launch) (g : zG) (b0 : Nat) (b1 : Nat) (G0 : FF) (G1 : FF) (r : FF) (hf : f_X7_copies G0 G1 = some r) : zMv zNF zNM l yX7_copies (zw yX7_copies cX7_copies 3 none) ({ frames := 0, cells := 0, slots := 0, locals := 0 } : Room) g [.ref b0, .ref b1] ([(b0, .inl (g.2.1, 220, .inl G0))] ++ [(b1, .inl (g.2.1, 220, .inl G1))]) ([(b0, .inl (g.2.1, 220, .inl G0))] ++ [(b1, .inl (g.2.1, 220, .inl r))]) := by
  intro sz
  refine Met.ofW (cc := cX7_copies) (maxL := 3) (ret := none) (by decide) rfl ?_
  intro p e s m args below meth c s₁ B hml hv
  obtain ⟨rfl, hsz, hP, hK, hD0⟩ := hv
  have hx := B.exec
  have hb := B.bytes
  have hr0 := B.returns
  have hts := atoms_spec (ws := (zw yX7_copies cX7_copies 3 none)) B.pre
  have hw0 : ∀ w ∈ zW, w.before ([.ref b0, .ref b1] : List Value).toArray s = true := fun w h => hts w (List.mem_cons_of_mem _ h)
  have hown : s.vm.findClass RX7 = some m.cls := findClass_of_methodNamed B.named
  have hlocks := B.notSynchronized
  subst hsz
  have hD := hD0.self (sz := s.heap.size)
  generalize hAe : va_A ([(b0, .inl (g.2.1, 220, .inl G0))] ++ [(b1, .inl (g.2.1, 220, .inl G1))]) s.heap.size = A at hD ⊢
  have hA : ∀ q : Nat, s.heap.size ≤ q → A q := fun q h => by rw [← hAe]; exact Or.inr h
  have hS : va_S A s.heap s.heap [] := va_S.rf
  have lp2 : ∀ (G0 : FF) (G1 : FF), ∀ (n : Nat) (x : Int32 × FF) (rr : Int32 × FF), zloop (s_X7_copies_2 G0 G1) n x = some rr → (∀ (H : Heap) (locs : List Loc), va_P g.1 vwCl ([(b0, .inl (g.2.1, 220, .inl G0))] ++ [(b1, .inl (g.2.1, 220, .inl rr.2))]) H → va_D A ([(b0, .inl (g.2.1, 220, .inl G0))] ++ [(b1, .inl (g.2.1, 220, .inl rr.2))]) → va_S A s.heap H locs → ∀ ls : Array Slot, lv_has ls 3 [] → W p l e (headSpec (zw yX7_copies cX7_copies 3 none) ({ frames := 0, cells := 0, slots := 0, locals := 0 } : Room)).room s m ([.ref b0, .ref b1] : List Value).toArray below meth c H locs 0 0 (MQ below (va_Qv (fun (_ : Unit) => True) (fun _ => zEnd g A ([(b0, .inl (g.2.1, 220, .inl G0))] ++ [(b1, .inl (g.2.1, 220, .inl r))])) A) ([.ref b0, .ref b1] : List Value).toArray s 0 0 A) (F0 m 21 ls [])) → ∀ (H : Heap) (locs : List Loc), va_P g.1 vwCl ([(b0, .inl (g.2.1, 220, .inl G0))] ++ [(b1, .inl (g.2.1, 220, .inl x.2))]) H → va_D A ([(b0, .inl (g.2.1, 220, .inl G0))] ++ [(b1, .inl (g.2.1, 220, .inl x.2))]) → va_S A s.heap H locs → ∀ ls : Array Slot, lv_has ls 3 [(0, .ref b0), (1, .ref b1), (2, .int x.1)] → W p l e (headSpec (zw yX7_copies cX7_copies 3 none) ({ frames := 0, cells := 0, slots := 0, locals := 0 } : Room)).room s m ([.ref b0, .ref b1] : List Value).toArray below meth c H locs 0 0 (MQ below (va_Qv (fun (_ : Unit) => True) (fun _ => zEnd g A ([(b0, .inl (g.2.1, 220, .inl G0))] ++ [(b1, .inl (g.2.1, 220, .inl r))])) A) ([.ref b0, .ref b1] : List Value).toArray s 0 0 A) (F0 m 2 ls []) := by
    intro G0 G1
    refine zloop_ind ?_
    intro x y rr hf ih hr hQ H locs hP hD hS ls hl
    unfold s_X7_copies_2 at hf
    refine lv_iload_n hx hb dX7_copies_2 rfl (lv_at hl 2 rfl) ?_
    refine lv_sipush (v := 220) hx hb dX7_copies_3 (by decide) ?_
    refine lv_icmp_ge (tgt := 21) hx hb dX7_copies_6 (by decide) (fun c1 => ?_) (fun c1 => ?_)
    · have hf := oi hf c1
      have hR : (x.1, x.2) = rr := hr _ (Option.some.inj hf).symm
      subst hR
      exact hQ _ _ hP hD hS _ (lv_sub hl [] rfl)
    · have hf := oe hf c1
      refine lv_aload_n hx hb dX7_copies_9 rfl (lv_at hl 1 rfl) ?_
      refine lv_iload_n hx hb dX7_copies_10 rfl (lv_at hl 2 rfl) ?_
      refine lv_aload_n hx hb dX7_copies_11 rfl (lv_at hl 0 rfl) ?_
      refine lv_iload_n hx hb dX7_copies_12 rfl (lv_at hl 2 rfl) ?_
      obtain ⟨h2, hf⟩ := og hf
      refine zald (D := g.1) (f := G0) (k := x.1.toNatClampNeg) hx hb hK.1 hP 0 0 rfl rfl (zin_vp h2) rfl dX7_copies_13 ?_
      obtain ⟨h3, hf⟩ := og hf
      refine zast (D := g.1) (f := x.2) (k := x.1.toNatClampNeg) (x := (G0 x.1.toNatClampNeg)) hx hb hK.1 hP hD hS 1 0 rfl rfl (zin_vp h3) rfl dX7_copies_14 (fun H locs hP hD hS => ?_)
      have hP : va_P g.1 vwCl ([(b0, .inl (g.2.1, 220, .inl G0))] ++ [(b1, .inl (g.2.1, 220, .inl (upd x.2 x.1.toNatClampNeg (G0 x.1.toNatClampNeg))))]) H := hP
      have hD : va_D A ([(b0, .inl (g.2.1, 220, .inl G0))] ++ [(b1, .inl (g.2.1, 220, .inl (upd x.2 x.1.toNatClampNeg (G0 x.1.toNatClampNeg))))]) := hD
      refine lv_iinc (v := (x.1 + 1)) (lv' := [(2, .int (x.1 + 1)), (0, .ref b0), (1, .ref b1)]) hx hb dX7_copies_15 hl (k := 2) rfl rfl (by decide) rfl (fun ls hl => ?_)
      refine lv_goto (tgt := 2) hx hb dX7_copies_18 (by decide) ?_
      exact ih ((x.1 + 1), (upd x.2 x.1.toNatClampNeg (G0 x.1.toNatClampNeg))) (Option.some.inj hf).symm hQ _ _ hP hD hS _ (lv_sub hl [1, 2, 0] rfl)
  unfold f_X7_copies at hf
  have hl := lv_entry ([.ref b0, .ref b1]) (n := 3) (Nat.le_of_ble_eq_true rfl)
  rw [lg_entry_eq]
  generalize (lg_sl ([.ref b0, .ref b1]) ++ List.replicate (3 - (lg_sl ([.ref b0, .ref b1])).length) Slot.unset).toArray = ls at hl ⊢
  have hl : lv_has ls 3 [(0, .ref b0), (1, .ref b1)] := hl
  refine lv_iconst (v := 0) hx hb dX7_copies_0 (by decide) ?_
  refine lv_istore_n (lv' := [(2, .int 0), (0, .ref b0), (1, .ref b1)]) hx hb dX7_copies_1 rfl hl (by decide) rfl (fun ls hl => ?_)
  obtain ⟨u4, hu4, hf⟩ := ob hf
  refine lp2 G0 G1 _ _ u4 hu4 (fun H locs hP hD hS ls hl => ?_) _ _ hP hD hS _ (lv_sub hl [1, 2, 0] rfl)
  have hl : lv_has ls 3 [] := hl
  have hP : va_P g.1 vwCl ([(b0, .inl (g.2.1, 220, .inl G0))] ++ [(b1, .inl (g.2.1, 220, .inl u4.2))]) H := hP
  have hD : va_D A ([(b0, .inl (g.2.1, 220, .inl G0))] ++ [(b1, .inl (g.2.1, 220, .inl u4.2))]) := hD
  have hR : u4.2 = r := Option.some.inj hf
  subst hR
  exact W.vret hx hb hr0 (fun t ht hW => ⟨⟨(), rfl, trivial, by rw [ht]; exact hP, hD⟩, hS.F ht⟩) hS.2.2 dX7_copies_21
theorem hd_X7_save : yX7_save.cls ≠ "java/lang/invoke/MethodHandle" ∧ yX7_save.cls ≠ "java/lang/invoke/VarHandle" ∧ (parseMethodDescriptor yX7_save.desc).map (fun d => d.parameters.length) = some 0 := by decide +kernel
def s_X7_save_56 (v : MV) (x : Int32 × FF) : Option ((Int32 × FF) ⊕ (Int32 × FF)) :=
  if 220 ≤ x.1 then
    some (.inr (x.1, x.2))
  else
    if zin x.1 220 = true then
    if zin ((220 * v.2.2.2.2.1) + x.1) 880 = true then
    some (.inl ((x.1 + 1), (upd x.2 (((220 * v.2.2.2.2.1) + x.1).toNatClampNeg) (v.1 x.1.toNatClampNeg))))
    else none
    else none
def s_X7_save_15 (v : MV) (x : Int32 × FF) : Option ((Int32 × FF) ⊕ (Int32 × FF)) :=
  if 660 ≤ x.1 then
    some (.inr (x.1, x.2))
  else
    if zin (x.1 + 220) 880 = true then
    if zin x.1 880 = true then
    some (.inl ((x.1 + 1), (upd x.2 x.1.toNatClampNeg (x.2 (x.1 + 220).toNatClampNeg))))
    else none
    else none
def f_X7_save (v : MV) : Option (MV) :=
  if v.2.2.2.2.1 = 4 then
    (zloop (s_X7_save_15 (v.1, v.2.1, v.2.2.1, v.2.2.2.1, v.2.2.2.2.1, v.2.2.2.2.2.1, v.2.2.2.2.2.2.1, 0, v.2.2.2.2.2.2.2.2.1, v.2.2.2.2.2.2.2.2.2.1, v.2.2.2.2.2.2.2.2.2.2)) 4096 (0, v.2.1)).bind (fun u9 =>
    (zloop (s_X7_save_56 (v.1, u9.2, v.2.2.1, v.2.2.2.1, (v.2.2.2.2.1 - 1), v.2.2.2.2.2.1, v.2.2.2.2.2.2.1, 0, v.2.2.2.2.2.2.2.2.1, v.2.2.2.2.2.2.2.2.2.1, v.2.2.2.2.2.2.2.2.2.2)) 4096 (0, u9.2)).bind (fun u10 =>
    some (v.1, u10.2, v.2.2.1, v.2.2.2.1, ((v.2.2.2.2.1 - 1) + 1), v.2.2.2.2.2.1, v.2.2.2.2.2.2.1, 0, v.2.2.2.2.2.2.2.2.1, v.2.2.2.2.2.2.2.2.2.1, v.2.2.2.2.2.2.2.2.2.2)))
  else
    (zloop (s_X7_save_56 (v.1, v.2.1, v.2.2.1, v.2.2.2.1, v.2.2.2.2.1, v.2.2.2.2.2.1, v.2.2.2.2.2.2.1, 0, v.2.2.2.2.2.2.2.2.1, v.2.2.2.2.2.2.2.2.2.1, v.2.2.2.2.2.2.2.2.2.2)) 4096 (0, v.2.1)).bind (fun u5 =>
    some (v.1, u5.2, v.2.2.1, v.2.2.2.1, (v.2.2.2.2.1 + 1), v.2.2.2.2.2.1, v.2.2.2.2.2.2.1, 0, v.2.2.2.2.2.2.2.2.1, v.2.2.2.2.2.2.2.2.2.1, v.2.2.2.2.2.2.2.2.2.2))
set_option maxHeartbeats 4000000 in
set_option maxRecDepth 100000 in
theorem c_X7_save (l : Launch) (g : zG) (a : Nat → Nat) (v : MV) (r : MV) (hf : f_X7_save v = some r) : zMv zNF zNM l yX7_save (zw yX7_save cX7_save 2 none) ({ frames := 0, cells := 0, slots := 0, locals := 0 } : Room) g [.ref (a 0)] (zX7 g a v) (zX7 g a r) := by
  intro sz
  refine Met.ofW (cc := cX7_save) (maxL := 2) (ret := none) (by decide) rfl ?_
  intro p e s m args below meth c s₁ B hml hv
  obtain ⟨rfl, hsz, hP, hK, hD0⟩ := hv
  have hx := B.exec
  have hb := B.bytes
  have hr0 := B.returns
  have hts := atoms_spec (ws := (zw yX7_save cX7_save 2 none)) B.pre
  have hw0 : ∀ w ∈ zW, w.before ([.ref (a 0)] : List Value).toArray s = true := fun w h => hts w (List.mem_cons_of_mem _ h)
  have hown : s.vm.findClass RX7 = some m.cls := findClass_of_methodNamed B.named
  have hlocks := B.notSynchronized
  subst hsz
  have hD := hD0.self (sz := s.heap.size)
  generalize hAe : va_A (zX7 g a v) s.heap.size = A at hD ⊢
  have hA : ∀ q : Nat, s.heap.size ≤ q → A q := fun q h => by rw [← hAe]; exact Or.inr h
  have hS : va_S A s.heap s.heap [] := va_S.rf
  have lp56 : ∀ (v : MV), ∀ (n : Nat) (x : Int32 × FF) (rr : Int32 × FF), zloop (s_X7_save_56 v) n x = some rr → (∀ (H : Heap) (locs : List Loc), va_P g.1 vwCl (zX7 g a (v.1, rr.2, v.2.2.1, v.2.2.2.1, v.2.2.2.2.1, v.2.2.2.2.2.1, v.2.2.2.2.2.2.1, v.2.2.2.2.2.2.2.1, v.2.2.2.2.2.2.2.2.1, v.2.2.2.2.2.2.2.2.2.1, v.2.2.2.2.2.2.2.2.2.2)) H → va_D A (zX7 g a (v.1, rr.2, v.2.2.1, v.2.2.2.1, v.2.2.2.2.1, v.2.2.2.2.2.1, v.2.2.2.2.2.2.1, v.2.2.2.2.2.2.2.1, v.2.2.2.2.2.2.2.2.1, v.2.2.2.2.2.2.2.2.2.1, v.2.2.2.2.2.2.2.2.2.2)) → va_S A s.heap H locs → ∀ ls : Array Slot, lv_has ls 2 [(0, .ref (a 0))] → W p l e (headSpec (zw yX7_save cX7_save 2 none) ({ frames := 0, cells := 0, slots := 0, locals := 0 } : Room)).room s m ([.ref (a 0)] : List Value).toArray below meth c H locs 0 0 (MQ below (va_Qv (fun (_ : Unit) => True) (fun _ => zEnd g A (zX7 g a r)) A) ([.ref (a 0)] : List Value).toArray s 0 0 A) (F0 m 90 ls [])) → ∀ (H : Heap) (locs : List Loc), va_P g.1 vwCl (zX7 g a (v.1, x.2, v.2.2.1, v.2.2.2.1, v.2.2.2.2.1, v.2.2.2.2.2.1, v.2.2.2.2.2.2.1, v.2.2.2.2.2.2.2.1, v.2.2.2.2.2.2.2.2.1, v.2.2.2.2.2.2.2.2.2.1, v.2.2.2.2.2.2.2.2.2.2)) H → va_D A (zX7 g a (v.1, x.2, v.2.2.1, v.2.2.2.1, v.2.2.2.2.1, v.2.2.2.2.2.1, v.2.2.2.2.2.2.1, v.2.2.2.2.2.2.2.1, v.2.2.2.2.2.2.2.2.1, v.2.2.2.2.2.2.2.2.2.1, v.2.2.2.2.2.2.2.2.2.2)) → va_S A s.heap H locs → ∀ ls : Array Slot, lv_has ls 2 [(0, .ref (a 0)), (1, .int x.1)] → W p l e (headSpec (zw yX7_save cX7_save 2 none) ({ frames := 0, cells := 0, slots := 0, locals := 0 } : Room)).room s m ([.ref (a 0)] : List Value).toArray below meth c H locs 0 0 (MQ below (va_Qv (fun (_ : Unit) => True) (fun _ => zEnd g A (zX7 g a r)) A) ([.ref (a 0)] : List Value).toArray s 0 0 A) (F0 m 56 ls []) := by
    intro v
    refine zloop_ind ?_
    intro x y rr hf ih hr hQ H locs hP hD hS ls hl
    unfold s_X7_save_56 at hf
    refine lv_iload_n hx hb dX7_save_56 rfl (lv_at hl 1 rfl) ?_
    refine lv_sipush (v := 220) hx hb dX7_save_57 (by decide) ?_
    refine lv_icmp_ge (tgt := 90) hx hb dX7_save_60 (by decide) (fun c2 => ?_) (fun c2 => ?_)
    · have hf := oi hf c2
      have hR : (x.1, x.2) = rr := hr _ (Option.some.inj hf).symm
      subst hR
      exact hQ _ _ hP hD hS _ (lv_sub hl [0] rfl)
    · have hf := oe hf c2
      refine lv_aload_n hx hb dX7_save_63 rfl (lv_at hl 0 rfl) ?_
      refine va_get (D := g.1) (ci := 7) (v := .ref (a 2)) (C := RX7) (T := TX7) (N := 11) hx hb hw0 ziX7 hown hK.1 hP 0 rfl rfl 1 (by decide) (hw0 _ zm4_72) (fun _ h9 => h9) rfl dX7_save_64 ?_
      refine lv_sipush (v := 220) hx hb dX7_save_67 (by decide) ?_
      refine lv_aload_n hx hb dX7_save_70 rfl (lv_at hl 0 rfl) ?_
      refine va_get (D := g.1) (ci := 7) (v := .int v.2.2.2.2.1) (C := RX7) (T := TX7) (N := 11) hx hb hw0 ziX7 hown hK.1 hP 0 rfl rfl 4 (by decide) (hw0 _ zm4_75) (fun _ h9 => h9) rfl dX7_save_71 ?_
      refine lv_imul hx hb dX7_save_74 ?_
      refine lv_iload_n hx hb dX7_save_75 rfl (lv_at hl 1 rfl) ?_
      refine lv_iadd hx hb dX7_save_76 ?_
      refine lv_aload_n hx hb dX7_save_77 rfl (lv_at hl 0 rfl) ?_
      refine va_get (D := g.1) (ci := 7) (v := .ref (a 1)) (C := RX7) (T := TX7) (N := 11) hx hb hw0 ziX7 hown hK.1 hP 0 rfl rfl 0 (by decide) (hw0 _ zm4_71) (fun _ h9 => h9) rfl dX7_save_78 ?_
      refine lv_iload_n hx hb dX7_save_81 rfl (lv_at hl 1 rfl) ?_
      obtain ⟨h3, hf⟩ := og hf
      refine zald (D := g.1) (f := v.1) (k := x.1.toNatClampNeg) hx hb hK.1 hP 1 0 rfl rfl (zin_vp h3) rfl dX7_save_82 ?_
      obtain ⟨h4, hf⟩ := og hf
      refine zast (D := g.1) (f := x.2) (k := ((220 * v.2.2.2.2.1) + x.1).toNatClampNeg) (x := (v.1 x.1.toNatClampNeg)) hx hb hK.1 hP hD hS 2 0 rfl rfl (zin_vp h4) rfl dX7_save_83 (fun H locs hP hD hS => ?_)
      have hP : va_P g.1 vwCl (zX7 g a (v.1, (upd x.2 (((220 * v.2.2.2.2.1) + x.1).toNatClampNeg) (v.1 x.1.toNatClampNeg)), v.2.2.1, v.2.2.2.1, v.2.2.2.2.1, v.2.2.2.2.2.1, v.2.2.2.2.2.2.1, v.2.2.2.2.2.2.2.1, v.2.2.2.2.2.2.2.2.1, v.2.2.2.2.2.2.2.2.2.1, v.2.2.2.2.2.2.2.2.2.2)) H := hP
      have hD : va_D A (zX7 g a (v.1, (upd x.2 (((220 * v.2.2.2.2.1) + x.1).toNatClampNeg) (v.1 x.1.toNatClampNeg)), v.2.2.1, v.2.2.2.1, v.2.2.2.2.1, v.2.2.2.2.2.1, v.2.2.2.2.2.2.1, v.2.2.2.2.2.2.2.1, v.2.2.2.2.2.2.2.2.1, v.2.2.2.2.2.2.2.2.2.1, v.2.2.2.2.2.2.2.2.2.2)) := hD
      refine lv_iinc (v := (x.1 + 1)) (lv' := [(1, .int (x.1 + 1)), (0, .ref (a 0))]) hx hb dX7_save_84 hl (k := 1) rfl rfl (by decide) rfl (fun ls hl => ?_)
      refine lv_goto (tgt := 56) hx hb dX7_save_87 (by decide) ?_
      exact ih ((x.1 + 1), (upd x.2 (((220 * v.2.2.2.2.1) + x.1).toNatClampNeg) (v.1 x.1.toNatClampNeg))) (Option.some.inj hf).symm hQ _ _ hP hD hS _ (lv_sub hl [1, 0] rfl)
  have lp15 : ∀ (v : MV), ∀ (n : Nat) (x : Int32 × FF) (rr : Int32 × FF), zloop (s_X7_save_15 v) n x = some rr → (∀ (H : Heap) (locs : List Loc), va_P g.1 vwCl (zX7 g a (v.1, rr.2, v.2.2.1, v.2.2.2.1, v.2.2.2.2.1, v.2.2.2.2.2.1, v.2.2.2.2.2.2.1, v.2.2.2.2.2.2.2.1, v.2.2.2.2.2.2.2.2.1, v.2.2.2.2.2.2.2.2.2.1, v.2.2.2.2.2.2.2.2.2.2)) H → va_D A (zX7 g a (v.1, rr.2, v.2.2.1, v.2.2.2.1, v.2.2.2.2.1, v.2.2.2.2.2.1, v.2.2.2.2.2.2.1, v.2.2.2.2.2.2.2.1, v.2.2.2.2.2.2.2.2.1, v.2.2.2.2.2.2.2.2.2.1, v.2.2.2.2.2.2.2.2.2.2)) → va_S A s.heap H locs → ∀ ls : Array Slot, lv_has ls 2 [(0, .ref (a 0))] → W p l e (headSpec (zw yX7_save cX7_save 2 none) ({ frames := 0, cells := 0, slots := 0, locals := 0 } : Room)).room s m ([.ref (a 0)] : List Value).toArray below meth c H locs 0 0 (MQ below (va_Qv (fun (_ : Unit) => True) (fun _ => zEnd g A (zX7 g a r)) A) ([.ref (a 0)] : List Value).toArray s 0 0 A) (F0 m 44 ls [])) → ∀ (H : Heap) (locs : List Loc), va_P g.1 vwCl (zX7 g a (v.1, x.2, v.2.2.1, v.2.2.2.1, v.2.2.2.2.1, v.2.2.2.2.2.1, v.2.2.2.2.2.2.1, v.2.2.2.2.2.2.2.1, v.2.2.2.2.2.2.2.2.1, v.2.2.2.2.2.2.2.2.2.1, v.2.2.2.2.2.2.2.2.2.2)) H → va_D A (zX7 g a (v.1, x.2, v.2.2.1, v.2.2.2.1, v.2.2.2.2.1, v.2.2.2.2.2.1, v.2.2.2.2.2.2.1, v.2.2.2.2.2.2.2.1, v.2.2.2.2.2.2.2.2.1, v.2.2.2.2.2.2.2.2.2.1, v.2.2.2.2.2.2.2.2.2.2)) → va_S A s.heap H locs → ∀ ls : Array Slot, lv_has ls 2 [(0, .ref (a 0)), (1, .int x.1)] → W p l e (headSpec (zw yX7_save cX7_save 2 none) ({ frames := 0, cells := 0, slots := 0, locals := 0 } : Room)).room s m ([.ref (a 0)] : List Value).toArray below meth c H locs 0 0 (MQ below (va_Qv (fun (_ : Unit) => True) (fun _ => zEnd g A (zX7 g a r)) A) ([.ref (a 0)] : List Value).toArray s 0 0 A) (F0 m 15 ls []) := by
    intro v
    refine zloop_ind ?_
    intro x y rr hf ih hr hQ H locs hP hD hS ls hl
    unfold s_X7_save_15 at hf
    refine lv_iload_n hx hb dX7_save_15 rfl (lv_at hl 1 rfl) ?_
    refine lv_sipush (v := 660) hx hb dX7_save_16 (by decide) ?_
    refine lv_icmp_ge (tgt := 44) hx hb dX7_save_19 (by decide) (fun c6 => ?_) (fun c6 => ?_)
    · have hf := oi hf c6
      have hR : (x.1, x.2) = rr := hr _ (Option.some.inj hf).symm
      subst hR
      exact hQ _ _ hP hD hS _ (lv_sub hl [0] rfl)
    · have hf := oe hf c6
      refine lv_aload_n hx hb dX7_save_22 rfl (lv_at hl 0 rfl) ?_
      refine va_get (D := g.1) (ci := 7) (v := .ref (a 2)) (C := RX7) (T := TX7) (N := 11) hx hb hw0 ziX7 hown hK.1 hP 0 rfl rfl 1 (by decide) (hw0 _ zm4_72) (fun _ h9 => h9) rfl dX7_save_23 ?_
      refine lv_iload_n hx hb dX7_save_26 rfl (lv_at hl 1 rfl) ?_
      refine lv_aload_n hx hb dX7_save_27 rfl (lv_at hl 0 rfl) ?_
      refine va_get (D := g.1) (ci := 7) (v := .ref (a 2)) (C := RX7) (T := TX7) (N := 11) hx hb hw0 ziX7 hown hK.1 hP 0 rfl rfl 1 (by decide) (hw0 _ zm4_72) (fun _ h9 => h9) rfl dX7_save_28 ?_
      refine lv_iload_n hx hb dX7_save_31 rfl (lv_at hl 1 rfl) ?_
      refine lv_sipush (v := 220) hx hb dX7_save_32 (by decide) ?_
      refine lv_iadd hx hb dX7_save_35 ?_
      obtain ⟨h7, hf⟩ := og hf
      refine zald (D := g.1) (f := x.2) (k := (x.1 + 220).toNatClampNeg) hx hb hK.1 hP 2 0 rfl rfl (zin_vp h7) rfl dX7_save_36 ?_
      obtain ⟨h8, hf⟩ := og hf
      refine zast (D := g.1) (f := x.2) (k := x.1.toNatClampNeg) (x := (x.2 (x.1 + 220).toNatClampNeg)) hx hb hK.1 hP hD hS 2 0 rfl rfl (zin_vp h8) rfl dX7_save_37 (fun H locs hP hD hS => ?_)
      have hP : va_P g.1 vwCl (zX7 g a (v.1, (upd x.2 x.1.toNatClampNeg (x.2 (x.1 + 220).toNatClampNeg)), v.2.2.1, v.2.2.2.1, v.2.2.2.2.1, v.2.2.2.2.2.1, v.2.2.2.2.2.2.1, v.2.2.2.2.2.2.2.1, v.2.2.2.2.2.2.2.2.1, v.2.2.2.2.2.2.2.2.2.1, v.2.2.2.2.2.2.2.2.2.2)) H := hP
      have hD : va_D A (zX7 g a (v.1, (upd x.2 x.1.toNatClampNeg (x.2 (x.1 + 220).toNatClampNeg)), v.2.2.1, v.2.2.2.1, v.2.2.2.2.1, v.2.2.2.2.2.1, v.2.2.2.2.2.2.1, v.2.2.2.2.2.2.2.1, v.2.2.2.2.2.2.2.2.1, v.2.2.2.2.2.2.2.2.2.1, v.2.2.2.2.2.2.2.2.2.2)) := hD
      refine lv_iinc (v := (x.1 + 1)) (lv' := [(1, .int (x.1 + 1)), (0, .ref (a 0))]) hx hb dX7_save_38 hl (k := 1) rfl rfl (by decide) rfl (fun ls hl => ?_)
      refine lv_goto (tgt := 15) hx hb dX7_save_41 (by decide) ?_
      exact ih ((x.1 + 1), (upd x.2 x.1.toNatClampNeg (x.2 (x.1 + 220).toNatClampNeg))) (Option.some.inj hf).symm hQ _ _ hP hD hS _ (lv_sub hl [1, 0] rfl)
  unfold f_X7_save at hf
  have hl := lv_entry ([.ref (a 0)]) (n := 2) (Nat.le_of_ble_eq_true rfl)
  rw [lg_entry_eq]
  generalize (lg_sl ([.ref (a 0)]) ++ List.replicate (2 - (lg_sl ([.ref (a 0)])).length) Slot.unset).toArray = ls at hl ⊢
  have hl : lv_has ls 2 [(0, .ref (a 0))] := hl
  refine lv_aload_n hx hb dX7_save_0 rfl (lv_at hl 0 rfl) ?_
  refine lv_iconst (v := 0) hx hb dX7_save_1 (by decide) ?_
  refine va_put (D := g.1) (ci := 7) (v := .int 0) (ty := .int) (C := RX7) (T := TX7) (N := 11) hx hb hw0 ziX7 tyX7 tyX7_ok nmX7 hown hK.1 hP hD hS 0 rfl rfl 7 (by decide) (hw0 _ zm4_78) (fun _ h9 => h9) rfl (tyX7_ok 7 (by decide)) rfl rfl (Nat.le_of_ble_eq_true rfl) dX7_save_2 (fun H locs hP hD hS => ?_)
  have hP : va_P g.1 vwCl (zX7 g a (v.1, v.2.1, v.2.2.1, v.2.2.2.1, v.2.2.2.2.1, v.2.2.2.2.2.1, v.2.2.2.2.2.2.1, 0, v.2.2.2.2.2.2.2.2.1, v.2.2.2.2.2.2.2.2.2.1, v.2.2.2.2.2.2.2.2.2.2)) H := hP
  have hD : va_D A (zX7 g a (v.1, v.2.1, v.2.2.1, v.2.2.2.1, v.2.2.2.2.1, v.2.2.2.2.2.1, v.2.2.2.2.2.2.1, 0, v.2.2.2.2.2.2.2.2.1, v.2.2.2.2.2.2.2.2.2.1, v.2.2.2.2.2.2.2.2.2.2)) := hD
  refine lv_aload_n hx hb dX7_save_5 rfl (lv_at hl 0 rfl) ?_
  refine va_get (D := g.1) (ci := 7) (v := .int v.2.2.2.2.1) (C := RX7) (T := TX7) (N := 11) hx hb hw0 ziX7 hown hK.1 hP 0 rfl rfl 4 (by decide) (hw0 _ zm4_75) (fun _ h9 => h9) rfl dX7_save_6 ?_
  refine lv_iconst (v := 4) hx hb dX7_save_9 (by decide) ?_
  refine lv_icmp_ne (tgt := 54) hx hb dX7_save_10 (by decide) (fun c1 => ?_) (fun c1 => ?_)
  · have hf := oe hf c1
    refine lv_iconst (v := 0) hx hb dX7_save_54 (by decide) ?_
    refine lv_istore_n (lv' := [(1, .int 0), (0, .ref (a 0))]) hx hb dX7_save_55 rfl hl (by decide) rfl (fun ls hl => ?_)
    obtain ⟨u5, hu5, hf⟩ := ob hf
    refine lp56 (v.1, v.2.1, v.2.2.1, v.2.2.2.1, v.2.2.2.2.1, v.2.2.2.2.2.1, v.2.2.2.2.2.2.1, 0, v.2.2.2.2.2.2.2.2.1, v.2.2.2.2.2.2.2.2.2.1, v.2.2.2.2.2.2.2.2.2.2) _ _ u5 hu5 (fun H locs hP hD hS ls hl => ?_) _ _ hP hD hS _ (lv_sub hl [1, 0] rfl)
    have hl : lv_has ls 2 [(0, .ref (a 0))] := hl
    have hP : va_P g.1 vwCl (zX7 g a (v.1, u5.2, v.2.2.1, v.2.2.2.1, v.2.2.2.2.1, v.2.2.2.2.2.1, v.2.2.2.2.2.2.1, 0, v.2.2.2.2.2.2.2.2.1, v.2.2.2.2.2.2.2.2.2.1, v.2.2.2.2.2.2.2.2.2.2)) H := hP
    have hD : va_D A (zX7 g a (v.1, u5.2, v.2.2.1, v.2.2.2.1, v.2.2.2.2.1, v.2.2.2.2.2.1, v.2.2.2.2.2.2.1, 0, v.2.2.2.2.2.2.2.2.1, v.2.2.2.2.2.2.2.2.2.1, v.2.2.2.2.2.2.2.2.2.2)) := hD
    refine lv_aload_n hx hb dX7_save_90 rfl (lv_at hl 0 rfl) ?_
    refine lv_dup hx hb dX7_save_91 rfl ?_
    refine va_get (D := g.1) (ci := 7) (v := .int v.2.2.2.2.1) (C := RX7) (T := TX7) (N := 11) hx hb hw0 ziX7 hown hK.1 hP 0 rfl rfl 4 (by decide) (hw0 _ zm4_75) (fun _ h9 => h9) rfl dX7_save_92 ?_
    refine lv_iconst (v := 1) hx hb dX7_save_95 (by decide) ?_
    refine lv_iadd hx hb dX7_save_96 ?_
    refine va_put (D := g.1) (ci := 7) (v := .int (v.2.2.2.2.1 + 1)) (ty := .int) (C := RX7) (T := TX7) (N := 11) hx hb hw0 ziX7 tyX7 tyX7_ok nmX7 hown hK.1 hP hD hS 0 rfl rfl 4 (by decide) (hw0 _ zm4_75) (fun _ h9 => h9) rfl (tyX7_ok 4 (by decide)) rfl rfl (Nat.le_of_ble_eq_true rfl) dX7_save_97 (fun H locs hP hD hS => ?_)
    have hP : va_P g.1 vwCl (zX7 g a (v.1, u5.2, v.2.2.1, v.2.2.2.1, (v.2.2.2.2.1 + 1), v.2.2.2.2.2.1, v.2.2.2.2.2.2.1, 0, v.2.2.2.2.2.2.2.2.1, v.2.2.2.2.2.2.2.2.2.1, v.2.2.2.2.2.2.2.2.2.2)) H := hP
    have hD : va_D A (zX7 g a (v.1, u5.2, v.2.2.1, v.2.2.2.1, (v.2.2.2.2.1 + 1), v.2.2.2.2.2.1, v.2.2.2.2.2.2.1, 0, v.2.2.2.2.2.2.2.2.1, v.2.2.2.2.2.2.2.2.2.1, v.2.2.2.2.2.2.2.2.2.2)) := hD
    have hR : (v.1, u5.2, v.2.2.1, v.2.2.2.1, (v.2.2.2.2.1 + 1), v.2.2.2.2.2.1, v.2.2.2.2.2.2.1, 0, v.2.2.2.2.2.2.2.2.1, v.2.2.2.2.2.2.2.2.2.1, v.2.2.2.2.2.2.2.2.2.2) = r := Option.some.inj hf
    subst hR
    exact W.vret hx hb hr0 (fun t ht hW => ⟨⟨(), rfl, trivial, by rw [ht]; exact hP, hD⟩, hS.F ht⟩) hS.2.2 dX7_save_100
  · have hf := oi hf c1
    refine lv_iconst (v := 0) hx hb dX7_save_13 (by decide) ?_
    refine lv_istore_n (lv' := [(1, .int 0), (0, .ref (a 0))]) hx hb dX7_save_14 rfl hl (by decide) rfl (fun ls hl => ?_)
    obtain ⟨u9, hu9, hf⟩ := ob hf
    refine lp15 (v.1, v.2.1, v.2.2.1, v.2.2.2.1, v.2.2.2.2.1, v.2.2.2.2.2.1, v.2.2.2.2.2.2.1, 0, v.2.2.2.2.2.2.2.2.1, v.2.2.2.2.2.2.2.2.2.1, v.2.2.2.2.2.2.2.2.2.2) _ _ u9 hu9 (fun H locs hP hD hS ls hl => ?_) _ _ hP hD hS _ (lv_sub hl [1, 0] rfl)
    have hl : lv_has ls 2 [(0, .ref (a 0))] := hl
    have hP : va_P g.1 vwCl (zX7 g a (v.1, u9.2, v.2.2.1, v.2.2.2.1, v.2.2.2.2.1, v.2.2.2.2.2.1, v.2.2.2.2.2.2.1, 0, v.2.2.2.2.2.2.2.2.1, v.2.2.2.2.2.2.2.2.2.1, v.2.2.2.2.2.2.2.2.2.2)) H := hP
    have hD : va_D A (zX7 g a (v.1, u9.2, v.2.2.1, v.2.2.2.1, v.2.2.2.2.1, v.2.2.2.2.2.1, v.2.2.2.2.2.2.1, 0, v.2.2.2.2.2.2.2.2.1, v.2.2.2.2.2.2.2.2.2.1, v.2.2.2.2.2.2.2.2.2.2)) := hD
    refine lv_aload_n hx hb dX7_save_44 rfl (lv_at hl 0 rfl) ?_
    refine lv_dup hx hb dX7_save_45 rfl ?_
    refine va_get (D := g.1) (ci := 7) (v := .int v.2.2.2.2.1) (C := RX7) (T := TX7) (N := 11) hx hb hw0 ziX7 hown hK.1 hP 0 rfl rfl 4 (by decide) (hw0 _ zm4_75) (fun _ h9 => h9) rfl dX7_save_46 ?_
    refine lv_iconst (v := 1) hx hb dX7_save_49 (by decide) ?_
    refine lv_isub hx hb dX7_save_50 ?_
    refine va_put (D := g.1) (ci := 7) (v := .int (v.2.2.2.2.1 - 1)) (ty := .int) (C := RX7) (T := TX7) (N := 11) hx hb hw0 ziX7 tyX7 tyX7_ok nmX7 hown hK.1 hP hD hS 0 rfl rfl 4 (by decide) (hw0 _ zm4_75) (fun _ h9 => h9) rfl (tyX7_ok 4 (by decide)) rfl rfl (Nat.le_of_ble_eq_true rfl) dX7_save_51 (fun H locs hP hD hS => ?_)
    have hP : va_P g.1 vwCl (zX7 g a (v.1, u9.2, v.2.2.1, v.2.2.2.1, (v.2.2.2.2.1 - 1), v.2.2.2.2.2.1, v.2.2.2.2.2.2.1, 0, v.2.2.2.2.2.2.2.2.1, v.2.2.2.2.2.2.2.2.2.1, v.2.2.2.2.2.2.2.2.2.2)) H := hP
    have hD : va_D A (zX7 g a (v.1, u9.2, v.2.2.1, v.2.2.2.1, (v.2.2.2.2.1 - 1), v.2.2.2.2.2.1, v.2.2.2.2.2.2.1, 0, v.2.2.2.2.2.2.2.2.1, v.2.2.2.2.2.2.2.2.2.1, v.2.2.2.2.2.2.2.2.2.2)) := hD
    refine lv_iconst (v := 0) hx hb dX7_save_54 (by decide) ?_
    refine lv_istore_n (lv' := [(1, .int 0), (0, .ref (a 0))]) hx hb dX7_save_55 rfl hl (by decide) rfl (fun ls hl => ?_)
    obtain ⟨u10, hu10, hf⟩ := ob hf
    refine lp56 (v.1, u9.2, v.2.2.1, v.2.2.2.1, (v.2.2.2.2.1 - 1), v.2.2.2.2.2.1, v.2.2.2.2.2.2.1, 0, v.2.2.2.2.2.2.2.2.1, v.2.2.2.2.2.2.2.2.2.1, v.2.2.2.2.2.2.2.2.2.2) _ _ u10 hu10 (fun H locs hP hD hS ls hl => ?_) _ _ hP hD hS _ (lv_sub hl [1, 0] rfl)
    have hl : lv_has ls 2 [(0, .ref (a 0))] := hl
    have hP : va_P g.1 vwCl (zX7 g a (v.1, u10.2, v.2.2.1, v.2.2.2.1, (v.2.2.2.2.1 - 1), v.2.2.2.2.2.1, v.2.2.2.2.2.2.1, 0, v.2.2.2.2.2.2.2.2.1, v.2.2.2.2.2.2.2.2.2.1, v.2.2.2.2.2.2.2.2.2.2)) H := hP
    have hD : va_D A (zX7 g a (v.1, u10.2, v.2.2.1, v.2.2.2.1, (v.2.2.2.2.1 - 1), v.2.2.2.2.2.1, v.2.2.2.2.2.2.1, 0, v.2.2.2.2.2.2.2.2.1, v.2.2.2.2.2.2.2.2.2.1, v.2.2.2.2.2.2.2.2.2.2)) := hD
    refine lv_aload_n hx hb dX7_save_90 rfl (lv_at hl 0 rfl) ?_
    refine lv_dup hx hb dX7_save_91 rfl ?_
    refine va_get (D := g.1) (ci := 7) (v := .int (v.2.2.2.2.1 - 1)) (C := RX7) (T := TX7) (N := 11) hx hb hw0 ziX7 hown hK.1 hP 0 rfl rfl 4 (by decide) (hw0 _ zm4_75) (fun _ h9 => h9) rfl dX7_save_92 ?_
    refine lv_iconst (v := 1) hx hb dX7_save_95 (by decide) ?_
    refine lv_iadd hx hb dX7_save_96 ?_
    refine va_put (D := g.1) (ci := 7) (v := .int ((v.2.2.2.2.1 - 1) + 1)) (ty := .int) (C := RX7) (T := TX7) (N := 11) hx hb hw0 ziX7 tyX7 tyX7_ok nmX7 hown hK.1 hP hD hS 0 rfl rfl 4 (by decide) (hw0 _ zm4_75) (fun _ h9 => h9) rfl (tyX7_ok 4 (by decide)) rfl rfl (Nat.le_of_ble_eq_true rfl) dX7_save_97 (fun H locs hP hD hS => ?_)
    have hP : va_P g.1 vwCl (zX7 g a (v.1, u10.2, v.2.2.1, v.2.2.2.1, ((v.2.2.2.2.1 - 1) + 1), v.2.2.2.2.2.1, v.2.2.2.2.2.2.1, 0, v.2.2.2.2.2.2.2.2.1, v.2.2.2.2.2.2.2.2.2.1, v.2.2.2.2.2.2.2.2.2.2)) H := hP
    have hD : va_D A (zX7 g a (v.1, u10.2, v.2.2.1, v.2.2.2.1, ((v.2.2.2.2.1 - 1) + 1), v.2.2.2.2.2.1, v.2.2.2.2.2.2.1, 0, v.2.2.2.2.2.2.2.2.1, v.2.2.2.2.2.2.2.2.2.1, v.2.2.2.2.2.2.2.2.2.2)) := hD
    have hR : (v.1, u10.2, v.2.2.1, v.2.2.2.1, ((v.2.2.2.2.1 - 1) + 1), v.2.2.2.2.2.1, v.2.2.2.2.2.2.1, 0, v.2.2.2.2.2.2.2.2.1, v.2.2.2.2.2.2.2.2.2.1, v.2.2.2.2.2.2.2.2.2.2) = r := Option.some.inj hf
    subst hR
    exact W.vret hx hb hr0 (fun t ht hW => ⟨⟨(), rfl, trivial, by rw [ht]; exact hP, hD⟩, hS.F ht⟩) hS.2.2 dX7_save_100
theorem hd_X7_isElement : yX7_isElement.cls ≠ "java/lang/invoke/MethodHandle" ∧ yX7_isElement.cls ≠ "java/lang/invoke/VarHandle" ∧ (parseMethodDescriptor yX7_isElement.desc).map (fun d => d.parameters.length) = some 1 := by decide +kernel
def f_X7_isElement (v : MV) (p0 : Int32) : Option (Bool) :=
  if p0 < 0 then
    some false
  else
    if (v.1 7) ≤ p0 then
      some false
    else
      some true
set_option maxHeartbeats 4000000 in
set_option maxRecDepth 100000 in
theorem c_X7_isElement (l : Launch) (g : zG) (a : Nat → Nat) (v : MV) (p0 : Int32) (r : Bool) (hf : f_X7_isElement v p0 = some r) : zMi zNF zNM l yX7_isElement (zw yX7_isElement cX7_isElement 2 (some .boolean)) ({ frames := 0, cells := 0, slots := 0, locals := 0 } : Room) g [.ref (a 0), .int p0] (zX7 g a v) (zb r) (zX7 g a v) := by
  intro sz
  refine Met.ofW (cc := cX7_isElement) (maxL := 2) (ret := (some .boolean)) (by decide) rfl ?_
  intro p e s m args below meth c s₁ B hml hv
  obtain ⟨rfl, hsz, hP, hK, hD0⟩ := hv
  have hx := B.exec
  have hb := B.bytes
  have hr0 := B.returns
  have hts := atoms_spec (ws := (zw yX7_isElement cX7_isElement 2 (some .boolean))) B.pre
  have hw0 : ∀ w ∈ zW, w.before ([.ref (a 0), .int p0] : List Value).toArray s = true := fun w h => hts w (List.mem_cons_of_mem _ h)
  have hown : s.vm.findClass RX7 = some m.cls := findClass_of_methodNamed B.named
  have hlocks := B.notSynchronized
  subst hsz
  have hD := hD0.self (sz := s.heap.size)
  generalize hAe : va_A (zX7 g a v) s.heap.size = A at hD ⊢
  have hA : ∀ q : Nat, s.heap.size ≤ q → A q := fun q h => by rw [← hAe]; exact Or.inr h
  have hS : va_S A s.heap s.heap [] := va_S.rf
  unfold f_X7_isElement at hf
  have hl := lv_entry ([.ref (a 0), .int p0]) (n := 2) (Nat.le_of_ble_eq_true rfl)
  rw [lg_entry_eq]
  generalize (lg_sl ([.ref (a 0), .int p0]) ++ List.replicate (2 - (lg_sl ([.ref (a 0), .int p0])).length) Slot.unset).toArray = ls at hl ⊢
  have hl : lv_has ls 2 [(0, .ref (a 0)), (1, .int p0)] := hl
  refine lv_iload_n hx hb dX7_isElement_0 rfl (lv_at hl 1 rfl) ?_
  refine lv_if_lt (tgt := 19) hx hb dX7_isElement_1 (by decide) (fun c1 => ?_) (fun c1 => ?_)
  · have hf := oi hf c1
    refine lv_iconst (v := 0) hx hb dX7_isElement_19 (by decide) ?_
    have hR : false = r := Option.some.inj hf
    subst hR
    exact W.zret (v := zb false) hx hb hr0 (zb_nar false) (fun t ht hW => ⟨⟨zb false, (), rfl, rfl, by rw [ht]; exact hP, hD⟩, hS.F ht⟩) hS.2.2 dX7_isElement_20
  · have hf := oe hf c1
    refine lv_iload_n hx hb dX7_isElement_4 rfl (lv_at hl 1 rfl) ?_
    refine lv_aload_n hx hb dX7_isElement_5 rfl (lv_at hl 0 rfl) ?_
    refine va_get (D := g.1) (ci := 7) (v := .ref (a 1)) (C := RX7) (T := TX7) (N := 11) hx hb hw0 ziX7 hown hK.1 hP 0 rfl rfl 0 (by decide) (hw0 _ zm4_71) (fun _ h9 => h9) rfl dX7_isElement_6 ?_
    refine lv_bipush (v := 7) hx hb dX7_isElement_9 (by decide) ?_
    refine zald (D := g.1) (f := v.1) (k := 7) hx hb hK.1 hP 1 0 rfl rfl (zin_vp (i := 7) (n := 220) rfl) rfl dX7_isElement_11 ?_
    refine lv_icmp_ge (tgt := 19) hx hb dX7_isElement_12 (by decide) (fun c2 => ?_) (fun c2 => ?_)
    · have hf := oi hf c2
      refine lv_iconst (v := 0) hx hb dX7_isElement_19 (by decide) ?_
      have hR : false = r := Option.some.inj hf
      subst hR
      exact W.zret (v := zb false) hx hb hr0 (zb_nar false) (fun t ht hW => ⟨⟨zb false, (), rfl, rfl, by rw [ht]; exact hP, hD⟩, hS.F ht⟩) hS.2.2 dX7_isElement_20
    · have hf := oe hf c2
      refine lv_iconst (v := 1) hx hb dX7_isElement_15 (by decide) ?_
      refine lv_goto (tgt := 20) hx hb dX7_isElement_16 (by decide) ?_
      have hR : true = r := Option.some.inj hf
      subst hR
      exact W.zret (v := zb true) hx hb hr0 (zb_nar true) (fun t ht hW => ⟨⟨zb true, (), rfl, rfl, by rw [ht]; exact hP, hD⟩, hS.F ht⟩) hS.2.2 dX7_isElement_20
theorem hd_X7_isFiller : yX7_isFiller.cls ≠ "java/lang/invoke/MethodHandle" ∧ yX7_isFiller.cls ≠ "java/lang/invoke/VarHandle" ∧ (parseMethodDescriptor yX7_isFiller.desc).map (fun d => d.parameters.length) = some 1 := by decide +kernel
def f_X7_isFiller (v : MV) (p0 : Int32) : Option (Bool) :=
  if p0 < 0 then
    some false
  else
    if (v.1 8) ≤ p0 then
      some false
    else
      some true
set_option maxHeartbeats 4000000 in
set_option maxRecDepth 100000 in
theorem c_X7_isFiller (l : Launch) (g : zG) (a : Nat → Nat) (v : MV) (p0 : Int32) (r : Bool) (hf : f_X7_isFiller v p0 = some r) : zMi zNF zNM l yX7_isFiller (zw yX7_isFiller cX7_isFiller 2 (some .boolean)) ({ frames := 0, cells := 0, slots := 0, locals := 0 } : Room) g [.ref (a 0), .int p0] (zX7 g a v) (zb r) (zX7 g a v) := by
  intro sz
  refine Met.ofW (cc := cX7_isFiller) (maxL := 2) (ret := (some .boolean)) (by decide) rfl ?_
  intro p e s m args below meth c s₁ B hml hv
  obtain ⟨rfl, hsz, hP, hK, hD0⟩ := hv
  have hx := B.exec
  have hb := B.bytes
  have hr0 := B.returns
  have hts := atoms_spec (ws := (zw yX7_isFiller cX7_isFiller 2 (some .boolean))) B.pre
  have hw0 : ∀ w ∈ zW, w.before ([.ref (a 0), .int p0] : List Value).toArray s = true := fun w h => hts w (List.mem_cons_of_mem _ h)
  have hown : s.vm.findClass RX7 = some m.cls := findClass_of_methodNamed B.named
  have hlocks := B.notSynchronized
  subst hsz
  have hD := hD0.self (sz := s.heap.size)
  generalize hAe : va_A (zX7 g a v) s.heap.size = A at hD ⊢
  have hA : ∀ q : Nat, s.heap.size ≤ q → A q := fun q h => by rw [← hAe]; exact Or.inr h
  have hS : va_S A s.heap s.heap [] := va_S.rf
  unfold f_X7_isFiller at hf
  have hl := lv_entry ([.ref (a 0), .int p0]) (n := 2) (Nat.le_of_ble_eq_true rfl)
  rw [lg_entry_eq]
  generalize (lg_sl ([.ref (a 0), .int p0]) ++ List.replicate (2 - (lg_sl ([.ref (a 0), .int p0])).length) Slot.unset).toArray = ls at hl ⊢
  have hl : lv_has ls 2 [(0, .ref (a 0)), (1, .int p0)] := hl
  refine lv_iload_n hx hb dX7_isFiller_0 rfl (lv_at hl 1 rfl) ?_
  refine lv_if_lt (tgt := 19) hx hb dX7_isFiller_1 (by decide) (fun c1 => ?_) (fun c1 => ?_)
  · have hf := oi hf c1
    refine lv_iconst (v := 0) hx hb dX7_isFiller_19 (by decide) ?_
    have hR : false = r := Option.some.inj hf
    subst hR
    exact W.zret (v := zb false) hx hb hr0 (zb_nar false) (fun t ht hW => ⟨⟨zb false, (), rfl, rfl, by rw [ht]; exact hP, hD⟩, hS.F ht⟩) hS.2.2 dX7_isFiller_20
  · have hf := oe hf c1
    refine lv_iload_n hx hb dX7_isFiller_4 rfl (lv_at hl 1 rfl) ?_
    refine lv_aload_n hx hb dX7_isFiller_5 rfl (lv_at hl 0 rfl) ?_
    refine va_get (D := g.1) (ci := 7) (v := .ref (a 1)) (C := RX7) (T := TX7) (N := 11) hx hb hw0 ziX7 hown hK.1 hP 0 rfl rfl 0 (by decide) (hw0 _ zm4_71) (fun _ h9 => h9) rfl dX7_isFiller_6 ?_
    refine lv_bipush (v := 8) hx hb dX7_isFiller_9 (by decide) ?_
    refine zald (D := g.1) (f := v.1) (k := 8) hx hb hK.1 hP 1 0 rfl rfl (zin_vp (i := 8) (n := 220) rfl) rfl dX7_isFiller_11 ?_
    refine lv_icmp_ge (tgt := 19) hx hb dX7_isFiller_12 (by decide) (fun c2 => ?_) (fun c2 => ?_)
    · have hf := oi hf c2
      refine lv_iconst (v := 0) hx hb dX7_isFiller_19 (by decide) ?_
      have hR : false = r := Option.some.inj hf
      subst hR
      exact W.zret (v := zb false) hx hb hr0 (zb_nar false) (fun t ht hW => ⟨⟨zb false, (), rfl, rfl, by rw [ht]; exact hP, hD⟩, hS.F ht⟩) hS.2.2 dX7_isFiller_20
    · have hf := oe hf c2
      refine lv_iconst (v := 1) hx hb dX7_isFiller_15 (by decide) ?_
      refine lv_goto (tgt := 20) hx hb dX7_isFiller_16 (by decide) ?_
      have hR : true = r := Option.some.inj hf
      subst hR
      exact W.zret (v := zb true) hx hb hr0 (zb_nar true) (fun t ht hW => ⟨⟨zb true, (), rfl, rfl, by rw [ht]; exact hP, hD⟩, hS.F ht⟩) hS.2.2 dX7_isFiller_20
theorem hd_X7_of : yX7_of.cls ≠ "java/lang/invoke/MethodHandle" ∧ yX7_of.cls ≠ "java/lang/invoke/VarHandle" ∧ (parseMethodDescriptor yX7_of.desc).map (fun d => d.parameters.length) = some 2 := by decide +kernel
def f_X7_of (v : MV) (p0 : Int32) (p1 : Int32) : Option (Int32) :=
  if zin ((10 + (5 * p0)) + p1) 220 = true then
  some (v.1 ((10 + (5 * p0)) + p1).toNatClampNeg)
  else none
set_option maxHeartbeats 4000000 in
set_option maxRecDepth 100000 in
theorem c_X7_of (l : Launch) (g : zG) (a : Nat → Nat) (v : MV) (p0 : Int32) (p1 : Int32) (r : Int32) (hf : f_X7_of v p0 p1 = some r) : zMi zNF zNM l yX7_of (zw yX7_of cX7_of 3 (some .int)) ({ frames := 0, cells := 0, slots := 0, locals := 0 } : Room) g [.ref (a 0), .int p0, .int p1] (zX7 g a v) r (zX7 g a v) := by
  intro sz
  refine Met.ofW (cc := cX7_of) (maxL := 3) (ret := (some .int)) (by decide) rfl ?_
  intro p e s m args below meth c s₁ B hml hv
  obtain ⟨rfl, hsz, hP, hK, hD0⟩ := hv
  have hx := B.exec
  have hb := B.bytes
  have hr0 := B.returns
  have hts := atoms_spec (ws := (zw yX7_of cX7_of 3 (some .int))) B.pre
  have hw0 : ∀ w ∈ zW, w.before ([.ref (a 0), .int p0, .int p1] : List Value).toArray s = true := fun w h => hts w (List.mem_cons_of_mem _ h)
  have hown : s.vm.findClass RX7 = some m.cls := findClass_of_methodNamed B.named
  have hlocks := B.notSynchronized
  subst hsz
  have hD := hD0.self (sz := s.heap.size)
  generalize hAe : va_A (zX7 g a v) s.heap.size = A at hD ⊢
  have hA : ∀ q : Nat, s.heap.size ≤ q → A q := fun q h => by rw [← hAe]; exact Or.inr h
  have hS : va_S A s.heap s.heap [] := va_S.rf
  unfold f_X7_of at hf
  have hl := lv_entry ([.ref (a 0), .int p0, .int p1]) (n := 3) (Nat.le_of_ble_eq_true rfl)
  rw [lg_entry_eq]
  generalize (lg_sl ([.ref (a 0), .int p0, .int p1]) ++ List.replicate (3 - (lg_sl ([.ref (a 0), .int p0, .int p1])).length) Slot.unset).toArray = ls at hl ⊢
  have hl : lv_has ls 3 [(0, .ref (a 0)), (1, .int p0), (2, .int p1)] := hl
  refine lv_aload_n hx hb dX7_of_0 rfl (lv_at hl 0 rfl) ?_
  refine va_get (D := g.1) (ci := 7) (v := .ref (a 1)) (C := RX7) (T := TX7) (N := 11) hx hb hw0 ziX7 hown hK.1 hP 0 rfl rfl 0 (by decide) (hw0 _ zm4_71) (fun _ h9 => h9) rfl dX7_of_1 ?_
  refine lv_bipush (v := 10) hx hb dX7_of_4 (by decide) ?_
  refine lv_iconst (v := 5) hx hb dX7_of_6 (by decide) ?_
  refine lv_iload_n hx hb dX7_of_7 rfl (lv_at hl 1 rfl) ?_
  refine lv_imul hx hb dX7_of_8 ?_
  refine lv_iadd hx hb dX7_of_9 ?_
  refine lv_iload_n hx hb dX7_of_10 rfl (lv_at hl 2 rfl) ?_
  refine lv_iadd hx hb dX7_of_11 ?_
  obtain ⟨h1, hf⟩ := og hf
  refine zald (D := g.1) (f := v.1) (k := ((10 + (5 * p0)) + p1).toNatClampNeg) hx hb hK.1 hP 1 0 rfl rfl (zin_vp h1) rfl dX7_of_12 ?_
  have hR : (v.1 ((10 + (5 * p0)) + p1).toNatClampNeg) = r := Option.some.inj hf
  subst hR
  exact W.iret (v := (v.1 ((10 + (5 * p0)) + p1).toNatClampNeg)) hx hb hr0 (fun t ht hW => ⟨⟨(v.1 ((10 + (5 * p0)) + p1).toNatClampNeg), (), rfl, rfl, by rw [ht]; exact hP, hD⟩, hS.F ht⟩) hS.2.2 dX7_of_13
theorem hd_X7_ofFiller : yX7_ofFiller.cls ≠ "java/lang/invoke/MethodHandle" ∧ yX7_ofFiller.cls ≠ "java/lang/invoke/VarHandle" ∧ (parseMethodDescriptor yX7_ofFiller.desc).map (fun d => d.parameters.length) = some 2 := by decide +kernel
def f_X7_ofFiller (v : MV) (p0 : Int32) (p1 : Int32) : Option (Int32) :=
  if zin ((70 + (3 * p0)) + p1) 220 = true then
  some (v.1 ((70 + (3 * p0)) + p1).toNatClampNeg)
  else none
set_option maxHeartbeats 4000000 in
set_option maxRecDepth 100000 in
theorem c_X7_ofFiller (l : Launch) (g : zG) (a : Nat → Nat) (v : MV) (p0 : Int32) (p1 : Int32) (r : Int32) (hf : f_X7_ofFiller v p0 p1 = some r) : zMi zNF zNM l yX7_ofFiller (zw yX7_ofFiller cX7_ofFiller 3 (some .int)) ({ frames := 0, cells := 0, slots := 0, locals := 0 } : Room) g [.ref (a 0), .int p0, .int p1] (zX7 g a v) r (zX7 g a v) := by
  intro sz
  refine Met.ofW (cc := cX7_ofFiller) (maxL := 3) (ret := (some .int)) (by decide) rfl ?_
  intro p e s m args below meth c s₁ B hml hv
  obtain ⟨rfl, hsz, hP, hK, hD0⟩ := hv
  have hx := B.exec
  have hb := B.bytes
  have hr0 := B.returns
  have hts := atoms_spec (ws := (zw yX7_ofFiller cX7_ofFiller 3 (some .int))) B.pre
  have hw0 : ∀ w ∈ zW, w.before ([.ref (a 0), .int p0, .int p1] : List Value).toArray s = true := fun w h => hts w (List.mem_cons_of_mem _ h)
  have hown : s.vm.findClass RX7 = some m.cls := findClass_of_methodNamed B.named
  have hlocks := B.notSynchronized
  subst hsz
  have hD := hD0.self (sz := s.heap.size)
  generalize hAe : va_A (zX7 g a v) s.heap.size = A at hD ⊢
  have hA : ∀ q : Nat, s.heap.size ≤ q → A q := fun q h => by rw [← hAe]; exact Or.inr h
  have hS : va_S A s.heap s.heap [] := va_S.rf
  unfold f_X7_ofFiller at hf
  have hl := lv_entry ([.ref (a 0), .int p0, .int p1]) (n := 3) (Nat.le_of_ble_eq_true rfl)
  rw [lg_entry_eq]
  generalize (lg_sl ([.ref (a 0), .int p0, .int p1]) ++ List.replicate (3 - (lg_sl ([.ref (a 0), .int p0, .int p1])).length) Slot.unset).toArray = ls at hl ⊢
  have hl : lv_has ls 3 [(0, .ref (a 0)), (1, .int p0), (2, .int p1)] := hl
  refine lv_aload_n hx hb dX7_ofFiller_0 rfl (lv_at hl 0 rfl) ?_
  refine va_get (D := g.1) (ci := 7) (v := .ref (a 1)) (C := RX7) (T := TX7) (N := 11) hx hb hw0 ziX7 hown hK.1 hP 0 rfl rfl 0 (by decide) (hw0 _ zm4_71) (fun _ h9 => h9) rfl dX7_ofFiller_1 ?_
  refine lv_bipush (v := 70) hx hb dX7_ofFiller_4 (by decide) ?_
  refine lv_iconst (v := 3) hx hb dX7_ofFiller_6 (by decide) ?_
  refine lv_iload_n hx hb dX7_ofFiller_7 rfl (lv_at hl 1 rfl) ?_
  refine lv_imul hx hb dX7_ofFiller_8 ?_
  refine lv_iadd hx hb dX7_ofFiller_9 ?_
  refine lv_iload_n hx hb dX7_ofFiller_10 rfl (lv_at hl 2 rfl) ?_
  refine lv_iadd hx hb dX7_ofFiller_11 ?_
  obtain ⟨h1, hf⟩ := og hf
  refine zald (D := g.1) (f := v.1) (k := ((70 + (3 * p0)) + p1).toNatClampNeg) hx hb hK.1 hP 1 0 rfl rfl (zin_vp h1) rfl dX7_ofFiller_12 ?_
  have hR : (v.1 ((70 + (3 * p0)) + p1).toNatClampNeg) = r := Option.some.inj hf
  subst hR
  exact W.iret (v := (v.1 ((70 + (3 * p0)) + p1).toNatClampNeg)) hx hb hr0 (fun t ht hW => ⟨⟨(v.1 ((70 + (3 * p0)) + p1).toNatClampNeg), (), rfl, rfl, by rw [ht]; exact hP, hD⟩, hS.F ht⟩) hS.2.2 dX7_ofFiller_13
theorem hd_X7_waits : yX7_waits.cls ≠ "java/lang/invoke/MethodHandle" ∧ yX7_waits.cls ≠ "java/lang/invoke/VarHandle" ∧ (parseMethodDescriptor yX7_waits.desc).map (fun d => d.parameters.length) = some 1 := by decide +kernel
def f_X7_waits (v : MV) (p0 : Int32) : Option (Bool) :=
  (f_X7_of v p0 3).bind (fun u1 =>
  if u1 = 0 then
    some true
  else
    some false)
set_option maxHeartbeats 4000000 in
set_option maxRecDepth 100000 in
theorem c_X7_waits (l : Launch) (g : zG) (a : Nat → Nat) (v : MV) (p0 : Int32) (r : Bool) (hf : f_X7_waits v p0 = some r) : zMi zNF zNM l yX7_waits (zw yX7_waits cX7_waits 2 (some .boolean)) ({ frames := 1, cells := 0, slots := 0, locals := 22 } : Room) g [.ref (a 0), .int p0] (zX7 g a v) (zb r) (zX7 g a v) := by
  intro sz
  refine Met.ofW (cc := cX7_waits) (maxL := 2) (ret := (some .boolean)) (by decide) rfl ?_
  intro p e s m args below meth c s₁ B hml hv
  obtain ⟨rfl, hsz, hP, hK, hD0⟩ := hv
  have hx := B.exec
  have hb := B.bytes
  have hr0 := B.returns
  have hts := atoms_spec (ws := (zw yX7_waits cX7_waits 2 (some .boolean))) B.pre
  have hw0 : ∀ w ∈ zW, w.before ([.ref (a 0), .int p0] : List Value).toArray s = true := fun w h => hts w (List.mem_cons_of_mem _ h)
  have hown : s.vm.findClass RX7 = some m.cls := findClass_of_methodNamed B.named
  have hlocks := B.notSynchronized
  subst hsz
  have hD := hD0.self (sz := s.heap.size)
  generalize hAe : va_A (zX7 g a v) s.heap.size = A at hD ⊢
  have hA : ∀ q : Nat, s.heap.size ≤ q → A q := fun q h => by rw [← hAe]; exact Or.inr h
  have hS : va_S A s.heap s.heap [] := va_S.rf
  unfold f_X7_waits at hf
  have hl := lv_entry ([.ref (a 0), .int p0]) (n := 2) (Nat.le_of_ble_eq_true rfl)
  rw [lg_entry_eq]
  generalize (lg_sl ([.ref (a 0), .int p0]) ++ List.replicate (2 - (lg_sl ([.ref (a 0), .int p0])).length) Slot.unset).toArray = ls at hl ⊢
  have hl : lv_has ls 2 [(0, .ref (a 0)), (1, .int p0)] := hl
  refine lv_aload_n hx hb dX7_waits_0 rfl (lv_at hl 0 rfl) ?_
  refine lv_iload_n hx hb dX7_waits_1 rfl (lv_at hl 1 rfl) ?_
  refine lv_iconst (v := 3) hx hb dX7_waits_2 (by decide) ?_
  obtain ⟨u1, hu1, hf⟩ := ob hf
  refine zk_iA (va_runV (As := [.int p0, .int 3]) (rest := []) ⟨hx, hb, hml, hown, hts⟩ (c_X7_of l g a v p0 3 _ hu1 _) (zcV hw0 zm4_144 zm4_147 zm1_8 zm4_146 zs5_6 hd_X7_of rfl rfl ⟨Nat.le_of_ble_eq_true rfl, Nat.le_of_ble_eq_true rfl⟩) ⟨zblind, zrecvA hK hP (ci := 7) rfl rfl, zpreA hK hP hD⟩ rfl rfl hl.1 rfl (lv_room (Nat.le_of_ble_eq_true rfl)) dX7_waits_3 ⟨Nat.zero_le _, Nat.zero_le _⟩) hP hD hS hA (fun H locs hP hD hS => ?_)
  refine lv_if_ne (tgt := 13) hx hb dX7_waits_6 (by decide) (fun c2 => ?_) (fun c2 => ?_)
  · have hf := oe hf c2
    refine lv_iconst (v := 0) hx hb dX7_waits_13 (by decide) ?_
    have hR : false = r := Option.some.inj hf
    subst hR
    exact W.zret (v := zb false) hx hb hr0 (zb_nar false) (fun t ht hW => ⟨⟨zb false, (), rfl, rfl, by rw [ht]; exact hP, hD⟩, hS.F ht⟩) hS.2.2 dX7_waits_14
  · have hf := oi hf c2
    refine lv_iconst (v := 1) hx hb dX7_waits_9 (by decide) ?_
    refine lv_goto (tgt := 14) hx hb dX7_waits_10 (by decide) ?_
    have hR : true = r := Option.some.inj hf
    subst hR
    exact W.zret (v := zb true) hx hb hr0 (zb_nar true) (fun t ht hW => ⟨⟨zb true, (), rfl, rfl, by rw [ht]; exact hP, hD⟩, hS.F ht⟩) hS.2.2 dX7_waits_14
theorem hd_X7_isFixed : yX7_isFixed.cls ≠ "java/lang/invoke/MethodHandle" ∧ yX7_isFixed.cls ≠ "java/lang/invoke/VarHandle" ∧ (parseMethodDescriptor yX7_isFixed.desc).map (fun d => d.parameters.length) = some 1 := by decide +kernel
def f_X7_isFixed (v : MV) (p0 : Int32) : Option (Bool) :=
  (f_X7_of v p0 1).bind (fun u1 =>
  if u1 = (-1) then
    some false
  else
    some true)
set_option maxHeartbeats 4000000 in
set_option maxRecDepth 100000 in
theorem c_X7_isFixed (l : Launch) (g : zG) (a : Nat → Nat) (v : MV) (p0 : Int32) (r : Bool) (hf : f_X7_isFixed v p0 = some r) : zMi zNF zNM l yX7_isFixed (zw yX7_isFixed cX7_isFixed 2 (some .boolean)) ({ frames := 1, cells := 0, slots := 0, locals := 22 } : Room) g [.ref (a 0), .int p0] (zX7 g a v) (zb r) (zX7 g a v) := by
  intro sz
  refine Met.ofW (cc := cX7_isFixed) (maxL := 2) (ret := (some .boolean)) (by decide) rfl ?_
  intro p e s m args below meth c s₁ B hml hv
  obtain ⟨rfl, hsz, hP, hK, hD0⟩ := hv
  have hx := B.exec
  have hb := B.bytes
  have hr0 := B.returns
  have hts := atoms_spec (ws := (zw yX7_isFixed cX7_isFixed 2 (some .boolean))) B.pre
  have hw0 : ∀ w ∈ zW, w.before ([.ref (a 0), .int p0] : List Value).toArray s = true := fun w h => hts w (List.mem_cons_of_mem _ h)
  have hown : s.vm.findClass RX7 = some m.cls := findClass_of_methodNamed B.named
  have hlocks := B.notSynchronized
  subst hsz
  have hD := hD0.self (sz := s.heap.size)
  generalize hAe : va_A (zX7 g a v) s.heap.size = A at hD ⊢
  have hA : ∀ q : Nat, s.heap.size ≤ q → A q := fun q h => by rw [← hAe]; exact Or.inr h
  have hS : va_S A s.heap s.heap [] := va_S.rf
  unfold f_X7_isFixed at hf
  have hl := lv_entry ([.ref (a 0), .int p0]) (n := 2) (Nat.le_of_ble_eq_true rfl)
  rw [lg_entry_eq]
  generalize (lg_sl ([.ref (a 0), .int p0]) ++ List.replicate (2 - (lg_sl ([.ref (a 0), .int p0])).length) Slot.unset).toArray = ls at hl ⊢
  have hl : lv_has ls 2 [(0, .ref (a 0)), (1, .int p0)] := hl
  refine lv_aload_n hx hb dX7_isFixed_0 rfl (lv_at hl 0 rfl) ?_
  refine lv_iload_n hx hb dX7_isFixed_1 rfl (lv_at hl 1 rfl) ?_
  refine lv_iconst (v := 1) hx hb dX7_isFixed_2 (by decide) ?_
  obtain ⟨u1, hu1, hf⟩ := ob hf
  refine zk_iA (va_runV (As := [.int p0, .int 1]) (rest := []) ⟨hx, hb, hml, hown, hts⟩ (c_X7_of l g a v p0 1 _ hu1 _) (zcV hw0 zm4_144 zm4_147 zm1_8 zm4_146 zs5_6 hd_X7_of rfl rfl ⟨Nat.le_of_ble_eq_true rfl, Nat.le_of_ble_eq_true rfl⟩) ⟨zblind, zrecvA hK hP (ci := 7) rfl rfl, zpreA hK hP hD⟩ rfl rfl hl.1 rfl (lv_room (Nat.le_of_ble_eq_true rfl)) dX7_isFixed_3 ⟨Nat.zero_le _, Nat.zero_le _⟩) hP hD hS hA (fun H locs hP hD hS => ?_)
  refine lv_iconst (v := (-1)) hx hb dX7_isFixed_6 (by decide) ?_
  refine lv_icmp_eq (tgt := 14) hx hb dX7_isFixed_7 (by decide) (fun c2 => ?_) (fun c2 => ?_)
  · have hf := oi hf c2
    refine lv_iconst (v := 0) hx hb dX7_isFixed_14 (by decide) ?_
    have hR : false = r := Option.some.inj hf
    subst hR
    exact W.zret (v := zb false) hx hb hr0 (zb_nar false) (fun t ht hW => ⟨⟨zb false, (), rfl, rfl, by rw [ht]; exact hP, hD⟩, hS.F ht⟩) hS.2.2 dX7_isFixed_15
  · have hf := oe hf c2
    refine lv_iconst (v := 1) hx hb dX7_isFixed_10 (by decide) ?_
    refine lv_goto (tgt := 15) hx hb dX7_isFixed_11 (by decide) ?_
    have hR : true = r := Option.some.inj hf
    subst hR
    exact W.zret (v := zb true) hx hb hr0 (zb_nar true) (fun t ht hW => ⟨⟨zb true, (), rfl, rfl, by rw [ht]; exact hP, hD⟩, hS.F ht⟩) hS.2.2 dX7_isFixed_15
theorem hd_X7_nextFixed : yX7_nextFixed.cls ≠ "java/lang/invoke/MethodHandle" ∧ yX7_nextFixed.cls ≠ "java/lang/invoke/VarHandle" ∧ (parseMethodDescriptor yX7_nextFixed.desc).map (fun d => d.parameters.length) = some 1 := by decide +kernel
def s_X7_nextFixed_2 (v : MV) (x : Int32) : Option ((Int32) ⊕ (Int32)) :=
  if (v.1 7) ≤ x then
    some (.inr x)
  else
    (f_X7_waits v x).bind (fun u2 =>
    if (zb u2) = 0 then
      some (.inl (x + 1))
    else
      (f_X7_isFixed v x).bind (fun u4 =>
      if (zb u4) = 0 then
        some (.inl (x + 1))
      else
        some (.inr x)))
def f_X7_nextFixed (v : MV) (p0 : Int32) : Option (Int32) :=
  (zloop (s_X7_nextFixed_2 v) 4096 p0).bind (fun u6 =>
  some u6)
set_option maxHeartbeats 4000000 in
set_option maxRecDepth 100000 in
theorem c_X7_nextFixed (l : Launch) (g : zG) (a : Nat → Nat) (v : MV) (p0 : Int32) (r : Int32) (hf : f_X7_nextFixed v p0 = some r) : zMi zNF zNM l yX7_nextFixed (zw yX7_nextFixed cX7_nextFixed 3 (some .int)) ({ frames := 2, cells := 0, slots := 0, locals := 43 } : Room) g [.ref (a 0), .int p0] (zX7 g a v) r (zX7 g a v) := by
  intro sz
  refine Met.ofW (cc := cX7_nextFixed) (maxL := 3) (ret := (some .int)) (by decide) rfl ?_
  intro p e s m args below meth c s₁ B hml hv
  obtain ⟨rfl, hsz, hP, hK, hD0⟩ := hv
  have hx := B.exec
  have hb := B.bytes
  have hr0 := B.returns
  have hts := atoms_spec (ws := (zw yX7_nextFixed cX7_nextFixed 3 (some .int))) B.pre
  have hw0 : ∀ w ∈ zW, w.before ([.ref (a 0), .int p0] : List Value).toArray s = true := fun w h => hts w (List.mem_cons_of_mem _ h)
  have hown : s.vm.findClass RX7 = some m.cls := findClass_of_methodNamed B.named
  have hlocks := B.notSynchronized
  subst hsz
  have hD := hD0.self (sz := s.heap.size)
  generalize hAe : va_A (zX7 g a v) s.heap.size = A at hD ⊢
  have hA : ∀ q : Nat, s.heap.size ≤ q → A q := fun q h => by rw [← hAe]; exact Or.inr h
  have hS : va_S A s.heap s.heap [] := va_S.rf
  have lp2 : ∀ (v : MV), ∀ (n : Nat) (x : Int32) (rr : Int32), zloop (s_X7_nextFixed_2 v) n x = some rr → (∀ (H : Heap) (locs : List Loc), va_P g.1 vwCl (zX7 g a v) H → va_D A (zX7 g a v) → va_S A s.heap H locs → ∀ ls : Array Slot, lv_has ls 3 [(2, .int rr)] → W p l e (headSpec (zw yX7_nextFixed cX7_nextFixed 3 (some .int)) ({ frames := 2, cells := 0, slots := 0, locals := 43 } : Room)).room s m ([.ref (a 0), .int p0] : List Value).toArray below meth c H locs 0 0 (MQ below (va_Qi (fun (x : Int32) (_ : Unit) => x = r) (fun _ => zEnd g A (zX7 g a v)) A) ([.ref (a 0), .int p0] : List Value).toArray s 0 0 A) (F0 m 35 ls [])) → ∀ (H : Heap) (locs : List Loc), va_P g.1 vwCl (zX7 g a v) H → va_D A (zX7 g a v) → va_S A s.heap H locs → ∀ ls : Array Slot, lv_has ls 3 [(0, .ref (a 0)), (2, .int x)] → W p l e (headSpec (zw yX7_nextFixed cX7_nextFixed 3 (some .int)) ({ frames := 2, cells := 0, slots := 0, locals := 43 } : Room)).room s m ([.ref (a 0), .int p0] : List Value).toArray below meth c H locs 0 0 (MQ below (va_Qi (fun (x : Int32) (_ : Unit) => x = r) (fun _ => zEnd g A (zX7 g a v)) A) ([.ref (a 0), .int p0] : List Value).toArray s 0 0 A) (F0 m 2 ls []) := by
    intro v
    refine zloop_ind ?_
    intro x y rr hf ih hr hQ H locs hP hD hS ls hl
    unfold s_X7_nextFixed_2 at hf
    refine lv_iload_n hx hb dX7_nextFixed_2 rfl (lv_at hl 1 rfl) ?_
    refine lv_aload_n hx hb dX7_nextFixed_3 rfl (lv_at hl 0 rfl) ?_
    refine va_get (D := g.1) (ci := 7) (v := .ref (a 1)) (C := RX7) (T := TX7) (N := 11) hx hb hw0 ziX7 hown hK.1 hP 0 rfl rfl 0 (by decide) (hw0 _ zm4_71) (fun _ h9 => h9) rfl dX7_nextFixed_4 ?_
    refine lv_bipush (v := 7) hx hb dX7_nextFixed_7 (by decide) ?_
    refine zald (D := g.1) (f := v.1) (k := 7) hx hb hK.1 hP 1 0 rfl rfl (zin_vp (i := 7) (n := 220) rfl) rfl dX7_nextFixed_9 ?_
    refine lv_icmp_ge (tgt := 35) hx hb dX7_nextFixed_10 (by decide) (fun c1 => ?_) (fun c1 => ?_)
    · have hf := oi hf c1
      have hR : x = rr := hr _ (Option.some.inj hf).symm
      subst hR
      exact hQ _ _ hP hD hS _ (lv_sub hl [1] rfl)
    · have hf := oe hf c1
      refine lv_aload_n hx hb dX7_nextFixed_13 rfl (lv_at hl 0 rfl) ?_
      refine lv_iload_n hx hb dX7_nextFixed_14 rfl (lv_at hl 1 rfl) ?_
      obtain ⟨u2, hu2, hf⟩ := ob hf
      refine zk_iA (va_runV (As := [.int x]) (rest := []) ⟨hx, hb, hml, hown, hts⟩ (c_X7_waits l g a v x _ hu2 _) (zcV hw0 zm4_160 zm4_163 zm1_8 zm4_162 zs5_9 hd_X7_waits rfl rfl ⟨Nat.le_of_ble_eq_true rfl, Nat.le_of_ble_eq_true rfl⟩) ⟨zblind, zrecvA hK hP (ci := 7) rfl rfl, zpreA hK hP hD⟩ rfl rfl hl.1 rfl (lv_room (Nat.le_of_ble_eq_true rfl)) dX7_nextFixed_15 ⟨Nat.zero_le _, Nat.zero_le _⟩) hP hD hS hA (fun H locs hP hD hS => ?_)
      refine lv_if_eq (tgt := 29) hx hb dX7_nextFixed_18 (by decide) (fun c3 => ?_) (fun c3 => ?_)
      · have hf := oi hf c3
        refine lv_iinc (v := (x + 1)) (lv' := [(2, .int (x + 1)), (0, .ref (a 0))]) hx hb dX7_nextFixed_29 hl (k := 1) rfl rfl (by decide) rfl (fun ls hl => ?_)
        refine lv_goto (tgt := 2) hx hb dX7_nextFixed_32 (by decide) ?_
        exact ih (x + 1) (Option.some.inj hf).symm hQ _ _ hP hD hS _ (lv_sub hl [1, 0] rfl)
      · have hf := oe hf c3
        refine lv_aload_n hx hb dX7_nextFixed_21 rfl (lv_at hl 0 rfl) ?_
        refine lv_iload_n hx hb dX7_nextFixed_22 rfl (lv_at hl 1 rfl) ?_
        obtain ⟨u4, hu4, hf⟩ := ob hf
        refine zk_iA (va_runV (As := [.int x]) (rest := []) ⟨hx, hb, hml, hown, hts⟩ (c_X7_isFixed l g a v x _ hu4 _) (zcV hw0 zm4_192 zm4_195 zm1_8 zm4_194 zs6_0 hd_X7_isFixed rfl rfl ⟨Nat.le_of_ble_eq_true rfl, Nat.le_of_ble_eq_true rfl⟩) ⟨zblind, zrecvA hK hP (ci := 7) rfl rfl, zpreA hK hP hD⟩ rfl rfl hl.1 rfl (lv_room (Nat.le_of_ble_eq_true rfl)) dX7_nextFixed_23 ⟨Nat.zero_le _, Nat.zero_le _⟩) hP hD hS hA (fun H locs hP hD hS => ?_)
        refine lv_if_ne (tgt := 35) hx hb dX7_nextFixed_26 (by decide) (fun c5 => ?_) (fun c5 => ?_)
        · have hf := oe hf c5
          have hR : x = rr := hr _ (Option.some.inj hf).symm
          subst hR
          exact hQ _ _ hP hD hS _ (lv_sub hl [1] rfl)
        · have hf := oi hf c5
          refine lv_iinc (v := (x + 1)) (lv' := [(2, .int (x + 1)), (0, .ref (a 0))]) hx hb dX7_nextFixed_29 hl (k := 1) rfl rfl (by decide) rfl (fun ls hl => ?_)
          refine lv_goto (tgt := 2) hx hb dX7_nextFixed_32 (by decide) ?_
          exact ih (x + 1) (Option.some.inj hf).symm hQ _ _ hP hD hS _ (lv_sub hl [1, 0] rfl)
  unfold f_X7_nextFixed at hf
  have hl := lv_entry ([.ref (a 0), .int p0]) (n := 3) (Nat.le_of_ble_eq_true rfl)
  rw [lg_entry_eq]
  generalize (lg_sl ([.ref (a 0), .int p0]) ++ List.replicate (3 - (lg_sl ([.ref (a 0), .int p0])).length) Slot.unset).toArray = ls at hl ⊢
  have hl : lv_has ls 3 [(0, .ref (a 0)), (1, .int p0)] := hl
  refine lv_iload_n hx hb dX7_nextFixed_0 rfl (lv_at hl 1 rfl) ?_
  refine lv_istore_n (lv' := [(2, .int p0), (0, .ref (a 0)), (1, .int p0)]) hx hb dX7_nextFixed_1 rfl hl (by decide) rfl (fun ls hl => ?_)
  obtain ⟨u6, hu6, hf⟩ := ob hf
  refine lp2 v _ _ u6 hu6 (fun H locs hP hD hS ls hl => ?_) _ _ hP hD hS _ (lv_sub hl [1, 0] rfl)
  have hl : lv_has ls 3 [(2, .int u6)] := hl
  have hP : va_P g.1 vwCl (zX7 g a v) H := hP
  have hD : va_D A (zX7 g a v) := hD
  refine lv_iload_n hx hb dX7_nextFixed_35 rfl (lv_at hl 0 rfl) ?_
  have hR : u6 = r := Option.some.inj hf
  subst hR
  exact W.iret (v := u6) hx hb hr0 (fun t ht hW => ⟨⟨u6, (), rfl, rfl, by rw [ht]; exact hP, hD⟩, hS.F ht⟩) hS.2.2 dX7_nextFixed_36
theorem hd_X7_timeAt : yX7_timeAt.cls ≠ "java/lang/invoke/MethodHandle" ∧ yX7_timeAt.cls ≠ "java/lang/invoke/VarHandle" ∧ (parseMethodDescriptor yX7_timeAt.desc).map (fun d => d.parameters.length) = some 1 := by decide +kernel
def f_X7_timeAt (v : MV) (p0 : Int32) : Option (Int32) :=
  if p0 = (v.1 7) then
    some 3600
  else
    (f_X7_of v p0 1).bind (fun u2 =>
    some u2)
set_option maxHeartbeats 4000000 in
set_option maxRecDepth 100000 in
theorem c_X7_timeAt (l : Launch) (g : zG) (a : Nat → Nat) (v : MV) (p0 : Int32) (r : Int32) (hf : f_X7_timeAt v p0 = some r) : zMi zNF zNM l yX7_timeAt (zw yX7_timeAt cX7_timeAt 2 (some .int)) ({ frames := 1, cells := 0, slots := 0, locals := 22 } : Room) g [.ref (a 0), .int p0] (zX7 g a v) r (zX7 g a v) := by
  intro sz
  refine Met.ofW (cc := cX7_timeAt) (maxL := 2) (ret := (some .int)) (by decide) rfl ?_
  intro p e s m args below meth c s₁ B hml hv
  obtain ⟨rfl, hsz, hP, hK, hD0⟩ := hv
  have hx := B.exec
  have hb := B.bytes
  have hr0 := B.returns
  have hts := atoms_spec (ws := (zw yX7_timeAt cX7_timeAt 2 (some .int))) B.pre
  have hw0 : ∀ w ∈ zW, w.before ([.ref (a 0), .int p0] : List Value).toArray s = true := fun w h => hts w (List.mem_cons_of_mem _ h)
  have hown : s.vm.findClass RX7 = some m.cls := findClass_of_methodNamed B.named
  have hlocks := B.notSynchronized
  subst hsz
  have hD := hD0.self (sz := s.heap.size)
  generalize hAe : va_A (zX7 g a v) s.heap.size = A at hD ⊢
  have hA : ∀ q : Nat, s.heap.size ≤ q → A q := fun q h => by rw [← hAe]; exact Or.inr h
  have hS : va_S A s.heap s.heap [] := va_S.rf
  unfold f_X7_timeAt at hf
  have hl := lv_entry ([.ref (a 0), .int p0]) (n := 2) (Nat.le_of_ble_eq_true rfl)
  rw [lg_entry_eq]
  generalize (lg_sl ([.ref (a 0), .int p0]) ++ List.replicate (2 - (lg_sl ([.ref (a 0), .int p0])).length) Slot.unset).toArray = ls at hl ⊢
  have hl : lv_has ls 2 [(0, .ref (a 0)), (1, .int p0)] := hl
  refine lv_iload_n hx hb dX7_timeAt_0 rfl (lv_at hl 1 rfl) ?_
  refine lv_aload_n hx hb dX7_timeAt_1 rfl (lv_at hl 0 rfl) ?_
  refine va_get (D := g.1) (ci := 7) (v := .ref (a 1)) (C := RX7) (T := TX7) (N := 11) hx hb hw0 ziX7 hown hK.1 hP 0 rfl rfl 0 (by decide) (hw0 _ zm4_71) (fun _ h9 => h9) rfl dX7_timeAt_2 ?_
  refine lv_bipush (v := 7) hx hb dX7_timeAt_5 (by decide) ?_
  refine zald (D := g.1) (f := v.1) (k := 7) hx hb hK.1 hP 1 0 rfl rfl (zin_vp (i := 7) (n := 220) rfl) rfl dX7_timeAt_7 ?_
  refine lv_icmp_ne (tgt := 17) hx hb dX7_timeAt_8 (by decide) (fun c1 => ?_) (fun c1 => ?_)
  · have hf := oe hf c1
    refine lv_aload_n hx hb dX7_timeAt_17 rfl (lv_at hl 0 rfl) ?_
    refine lv_iload_n hx hb dX7_timeAt_18 rfl (lv_at hl 1 rfl) ?_
    refine lv_iconst (v := 1) hx hb dX7_timeAt_19 (by decide) ?_
    obtain ⟨u2, hu2, hf⟩ := ob hf
    refine zk_iA (va_runV (As := [.int p0, .int 1]) (rest := []) ⟨hx, hb, hml, hown, hts⟩ (c_X7_of l g a v p0 1 _ hu2 _) (zcV hw0 zm4_144 zm4_147 zm1_8 zm4_146 zs5_6 hd_X7_of rfl rfl ⟨Nat.le_of_ble_eq_true rfl, Nat.le_of_ble_eq_true rfl⟩) ⟨zblind, zrecvA hK hP (ci := 7) rfl rfl, zpreA hK hP hD⟩ rfl rfl hl.1 rfl (lv_room (Nat.le_of_ble_eq_true rfl)) dX7_timeAt_20 ⟨Nat.zero_le _, Nat.zero_le _⟩) hP hD hS hA (fun H locs hP hD hS => ?_)
    have hR : u2 = r := Option.some.inj hf
    subst hR
    exact W.iret (v := u2) hx hb hr0 (fun t ht hW => ⟨⟨u2, (), rfl, rfl, by rw [ht]; exact hP, hD⟩, hS.F ht⟩) hS.2.2 dX7_timeAt_23
  · have hf := oi hf c1
    refine lv_sipush (v := 3600) hx hb dX7_timeAt_11 (by decide) ?_
    refine lv_goto (tgt := 23) hx hb dX7_timeAt_14 (by decide) ?_
    have hR : 3600 = r := Option.some.inj hf
    subst hR
    exact W.iret (v := 3600) hx hb hr0 (fun t ht hW => ⟨⟨3600, (), rfl, rfl, by rw [ht]; exact hP, hD⟩, hS.F ht⟩) hS.2.2 dX7_timeAt_23
theorem hd_X7_goal : yX7_goal.cls ≠ "java/lang/invoke/MethodHandle" ∧ yX7_goal.cls ≠ "java/lang/invoke/VarHandle" ∧ (parseMethodDescriptor yX7_goal.desc).map (fun d => d.parameters.length) = some 0 := by decide +kernel
def f_X7_goal (v : MV) : Option (Int32) :=
  (f_X7_nextFixed v 0).bind (fun u1 =>
  (f_X7_timeAt v u1).bind (fun u2 =>
  some u2))
set_option maxHeartbeats 4000000 in
set_option maxRecDepth 100000 in
theorem c_X7_goal (l : Launch) (g : zG) (a : Nat → Nat) (v : MV) (r : Int32) (hf : f_X7_goal v = some r) : zMi zNF zNM l yX7_goal (zw yX7_goal cX7_goal 1 (some .int)) ({ frames := 3, cells := 0, slots := 0, locals := 65 } : Room) g [.ref (a 0)] (zX7 g a v) r (zX7 g a v) := by
  intro sz
  refine Met.ofW (cc := cX7_goal) (maxL := 1) (ret := (some .int)) (by decide) rfl ?_
  intro p e s m args below meth c s₁ B hml hv
  obtain ⟨rfl, hsz, hP, hK, hD0⟩ := hv
  have hx := B.exec
  have hb := B.bytes
  have hr0 := B.returns
  have hts := atoms_spec (ws := (zw yX7_goal cX7_goal 1 (some .int))) B.pre
  have hw0 : ∀ w ∈ zW, w.before ([.ref (a 0)] : List Value).toArray s = true := fun w h => hts w (List.mem_cons_of_mem _ h)
  have hown : s.vm.findClass RX7 = some m.cls := findClass_of_methodNamed B.named
  have hlocks := B.notSynchronized
  subst hsz
  have hD := hD0.self (sz := s.heap.size)
  generalize hAe : va_A (zX7 g a v) s.heap.size = A at hD ⊢
  have hA : ∀ q : Nat, s.heap.size ≤ q → A q := fun q h => by rw [← hAe]; exact Or.inr h
  have hS : va_S A s.heap s.heap [] := va_S.rf
  unfold f_X7_goal at hf
  have hl := lv_entry ([.ref (a 0)]) (n := 1) (Nat.le_of_ble_eq_true rfl)
  rw [lg_entry_eq]
  generalize (lg_sl ([.ref (a 0)]) ++ List.replicate (1 - (lg_sl ([.ref (a 0)])).length) Slot.unset).toArray = ls at hl ⊢
  have hl : lv_has ls 1 [(0, .ref (a 0))] := hl
  refine lv_aload_n hx hb dX7_goal_0 rfl (lv_at hl 0 rfl) ?_
  refine lv_aload_n hx hb dX7_goal_1 rfl (lv_at hl 0 rfl) ?_
  refine lv_iconst (v := 0) hx hb dX7_goal_2 (by decide) ?_
  obtain ⟨u1, hu1, hf⟩ := ob hf
  refine zk_iA (va_runV (As := [.int 0]) (rest := [.ref (a 0)]) ⟨hx, hb, hml, hown, hts⟩ (c_X7_nextFixed l g a v 0 _ hu1 _) (zcV hw0 zm4_188 zm4_191 zm1_8 zm4_190 zs5_15 hd_X7_nextFixed rfl rfl ⟨Nat.le_of_ble_eq_true rfl, Nat.le_of_ble_eq_true rfl⟩) ⟨zblind, zrecvA hK hP (ci := 7) rfl rfl, zpreA hK hP hD⟩ rfl rfl hl.1 rfl (lv_room (Nat.le_of_ble_eq_true rfl)) dX7_goal_3 ⟨Nat.zero_le _, Nat.zero_le _⟩) hP hD hS hA (fun H locs hP hD hS => ?_)
  obtain ⟨u2, hu2, hf⟩ := ob hf
  refine zk_iA (va_runV (As := [.int u1]) (rest := []) ⟨hx, hb, hml, hown, hts⟩ (c_X7_timeAt l g a v u1 _ hu2 _) (zcV hw0 zm4_196 zm4_199 zm1_8 zm4_198 zs6_1 hd_X7_timeAt rfl rfl ⟨Nat.le_of_ble_eq_true rfl, Nat.le_of_ble_eq_true rfl⟩) ⟨zblind, zrecvA hK hP (ci := 7) rfl rfl, zpreA hK hP hD⟩ rfl rfl hl.1 rfl (lv_room (Nat.le_of_ble_eq_true rfl)) dX7_goal_6 ⟨Nat.zero_le _, Nat.zero_le _⟩) hP hD hS hA (fun H locs hP hD hS => ?_)
  have hR : u2 = r := Option.some.inj hf
  subst hR
  exact W.iret (v := u2) hx hb hr0 (fun t ht hW => ⟨⟨u2, (), rfl, rfl, by rw [ht]; exact hP, hD⟩, hS.F ht⟩) hS.2.2 dX7_goal_9
theorem hd_X7_isInSection : yX7_isInSection.cls ≠ "java/lang/invoke/MethodHandle" ∧ yX7_isInSection.cls ≠ "java/lang/invoke/VarHandle" ∧ (parseMethodDescriptor yX7_isInSection.desc).map (fun d => d.parameters.length) = some 1 := by decide +kernel
def f_X7_isInSection (v : MV) (p0 : Int32) : Option (Bool) :=
  (f_X7_waits v p0).bind (fun u1 =>
  if (zb u1) = 0 then
    some false
  else
    (f_X7_nextFixed v 0).bind (fun u3 =>
    if u3 ≤ p0 then
      some false
    else
      some true))
set_option maxHeartbeats 4000000 in
set_option maxRecDepth 100000 in
theorem c_X7_isInSection (l : Launch) (g : zG) (a : Nat → Nat) (v : MV) (p0 : Int32) (r : Bool) (hf : f_X7_isInSection v p0 = some r) : zMi zNF zNM l yX7_isInSection (zw yX7_isInSection cX7_isInSection 2 (some .boolean)) ({ frames := 3, cells := 0, slots := 0, locals := 65 } : Room) g [.ref (a 0), .int p0] (zX7 g a v) (zb r) (zX7 g a v) := by
  intro sz
  refine Met.ofW (cc := cX7_isInSection) (maxL := 2) (ret := (some .boolean)) (by decide) rfl ?_
  intro p e s m args below meth c s₁ B hml hv
  obtain ⟨rfl, hsz, hP, hK, hD0⟩ := hv
  have hx := B.exec
  have hb := B.bytes
  have hr0 := B.returns
  have hts := atoms_spec (ws := (zw yX7_isInSection cX7_isInSection 2 (some .boolean))) B.pre
  have hw0 : ∀ w ∈ zW, w.before ([.ref (a 0), .int p0] : List Value).toArray s = true := fun w h => hts w (List.mem_cons_of_mem _ h)
  have hown : s.vm.findClass RX7 = some m.cls := findClass_of_methodNamed B.named
  have hlocks := B.notSynchronized
  subst hsz
  have hD := hD0.self (sz := s.heap.size)
  generalize hAe : va_A (zX7 g a v) s.heap.size = A at hD ⊢
  have hA : ∀ q : Nat, s.heap.size ≤ q → A q := fun q h => by rw [← hAe]; exact Or.inr h
  have hS : va_S A s.heap s.heap [] := va_S.rf
  unfold f_X7_isInSection at hf
  have hl := lv_entry ([.ref (a 0), .int p0]) (n := 2) (Nat.le_of_ble_eq_true rfl)
  rw [lg_entry_eq]
  generalize (lg_sl ([.ref (a 0), .int p0]) ++ List.replicate (2 - (lg_sl ([.ref (a 0), .int p0])).length) Slot.unset).toArray = ls at hl ⊢
  have hl : lv_has ls 2 [(0, .ref (a 0)), (1, .int p0)] := hl
  refine lv_aload_n hx hb dX7_isInSection_0 rfl (lv_at hl 0 rfl) ?_
  refine lv_iload_n hx hb dX7_isInSection_1 rfl (lv_at hl 1 rfl) ?_
  obtain ⟨u1, hu1, hf⟩ := ob hf
  refine zk_iA (va_runV (As := [.int p0]) (rest := []) ⟨hx, hb, hml, hown, hts⟩ (c_X7_waits l g a v p0 _ hu1 _) (zcV hw0 zm4_160 zm4_163 zm1_8 zm4_162 zs5_9 hd_X7_waits rfl rfl ⟨Nat.le_of_ble_eq_true rfl, Nat.le_of_ble_eq_true rfl⟩) ⟨zblind, zrecvA hK hP (ci := 7) rfl rfl, zpreA hK hP hD⟩ rfl rfl hl.1 rfl (lv_room (Nat.le_of_ble_eq_true rfl)) dX7_isInSection_2 ⟨Nat.zero_le _, Nat.zero_le _⟩) hP hD hS hA (fun H locs hP hD hS => ?_)
  refine lv_if_eq (tgt := 21) hx hb dX7_isInSection_5 (by decide) (fun c2 => ?_) (fun c2 => ?_)
  · have hf := oi hf c2
    refine lv_iconst (v := 0) hx hb dX7_isInSection_21 (by decide) ?_
    have hR : false = r := Option.some.inj hf
    subst hR
    exact W.zret (v := zb false) hx hb hr0 (zb_nar false) (fun t ht hW => ⟨⟨zb false, (), rfl, rfl, by rw [ht]; exact hP, hD⟩, hS.F ht⟩) hS.2.2 dX7_isInSection_22
  · have hf := oe hf c2
    refine lv_iload_n hx hb dX7_isInSection_8 rfl (lv_at hl 1 rfl) ?_
    refine lv_aload_n hx hb dX7_isInSection_9 rfl (lv_at hl 0 rfl) ?_
    refine lv_iconst (v := 0) hx hb dX7_isInSection_10 (by decide) ?_
    obtain ⟨u3, hu3, hf⟩ := ob hf
    refine zk_iA (va_runV (As := [.int 0]) (rest := [.int p0]) ⟨hx, hb, hml, hown, hts⟩ (c_X7_nextFixed l g a v 0 _ hu3 _) (zcV hw0 zm4_188 zm4_191 zm1_8 zm4_190 zs5_15 hd_X7_nextFixed rfl rfl ⟨Nat.le_of_ble_eq_true rfl, Nat.le_of_ble_eq_true rfl⟩) ⟨zblind, zrecvA hK hP (ci := 7) rfl rfl, zpreA hK hP hD⟩ rfl rfl hl.1 rfl (lv_room (Nat.le_of_ble_eq_true rfl)) dX7_isInSection_11 ⟨Nat.zero_le _, Nat.zero_le _⟩) hP hD hS hA (fun H locs hP hD hS => ?_)
    refine lv_icmp_ge (tgt := 21) hx hb dX7_isInSection_14 (by decide) (fun c4 => ?_) (fun c4 => ?_)
    · have hf := oi hf c4
      refine lv_iconst (v := 0) hx hb dX7_isInSection_21 (by decide) ?_
      have hR : false = r := Option.some.inj hf
      subst hR
      exact W.zret (v := zb false) hx hb hr0 (zb_nar false) (fun t ht hW => ⟨⟨zb false, (), rfl, rfl, by rw [ht]; exact hP, hD⟩, hS.F ht⟩) hS.2.2 dX7_isInSection_22
    · have hf := oe hf c4
      refine lv_iconst (v := 1) hx hb dX7_isInSection_17 (by decide) ?_
      refine lv_goto (tgt := 22) hx hb dX7_isInSection_18 (by decide) ?_
      have hR : true = r := Option.some.inj hf
      subst hR
      exact W.zret (v := zb true) hx hb hr0 (zb_nar true) (fun t ht hW => ⟨⟨zb true, (), rfl, rfl, by rw [ht]; exact hP, hD⟩, hS.F ht⟩) hS.2.2 dX7_isInSection_22
theorem hd_X7_sectionLength : yX7_sectionLength.cls ≠ "java/lang/invoke/MethodHandle" ∧ yX7_sectionLength.cls ≠ "java/lang/invoke/VarHandle" ∧ (parseMethodDescriptor yX7_sectionLength.desc).map (fun d => d.parameters.length) = some 1 := by decide +kernel
def s_X7_sectionLength_4 (v : MV) (i1 : Int32) (x : Int32 × Int32) : Option ((Int32 × Int32) ⊕ (Int32 × Int32)) :=
  if i1 ≤ x.2 then
    some (.inr (x.1, x.2))
  else
    (f_X7_waits v x.2).bind (fun u2 =>
    if (zb u2) = 0 then
      some (.inl ((x.1 + 0), (x.2 + 1)))
    else
      (f_X7_of v x.2 0).bind (fun u4 =>
      some (.inl ((x.1 + u4), (x.2 + 1)))))
def f_X7_sectionLength (v : MV) (p0 : Int32) : Option (Int32) :=
  (zloop (s_X7_sectionLength_4 v p0) 4096 (0, 0)).bind (fun u5 =>
  some u5.1)
set_option maxHeartbeats 4000000 in
set_option maxRecDepth 100000 in
theorem c_X7_sectionLength (l : Launch) (g : zG) (a : Nat → Nat) (v : MV) (p0 : Int32) (r : Int32) (hf : f_X7_sectionLength v p0 = some r) : zMi zNF zNM l yX7_sectionLength (zw yX7_sectionLength cX7_sectionLength 4 (some .int)) ({ frames := 2, cells := 0, slots := 0, locals := 43 } : Room) g [.ref (a 0), .int p0] (zX7 g a v) r (zX7 g a v) := by
  intro sz
  refine Met.ofW (cc := cX7_sectionLength) (maxL := 4) (ret := (some .int)) (by decide) rfl ?_
  intro p e s m args below meth c s₁ B hml hv
  obtain ⟨rfl, hsz, hP, hK, hD0⟩ := hv
  have hx := B.exec
  have hb := B.bytes
  have hr0 := B.returns
  have hts := atoms_spec (ws := (zw yX7_sectionLength cX7_sectionLength 4 (some .int))) B.pre
  have hw0 : ∀ w ∈ zW, w.before ([.ref (a 0), .int p0] : List Value).toArray s = true := fun w h => hts w (List.mem_cons_of_mem _ h)
  have hown : s.vm.findClass RX7 = some m.cls := findClass_of_methodNamed B.named
  have hlocks := B.notSynchronized
  subst hsz
  have hD := hD0.self (sz := s.heap.size)
  generalize hAe : va_A (zX7 g a v) s.heap.size = A at hD ⊢
  have hA : ∀ q : Nat, s.heap.size ≤ q → A q := fun q h => by rw [← hAe]; exact Or.inr h
  have hS : va_S A s.heap s.heap [] := va_S.rf
  have lp4 : ∀ (v : MV) (i1 : Int32), ∀ (n : Nat) (x : Int32 × Int32) (rr : Int32 × Int32), zloop (s_X7_sectionLength_4 v i1) n x = some rr → (∀ (H : Heap) (locs : List Loc), va_P g.1 vwCl (zX7 g a v) H → va_D A (zX7 g a v) → va_S A s.heap H locs → ∀ ls : Array Slot, lv_has ls 4 [(2, .int rr.1)] → W p l e (headSpec (zw yX7_sectionLength cX7_sectionLength 4 (some .int)) ({ frames := 2, cells := 0, slots := 0, locals := 43 } : Room)).room s m ([.ref (a 0), .int p0] : List Value).toArray below meth c H locs 0 0 (MQ below (va_Qi (fun (x : Int32) (_ : Unit) => x = r) (fun _ => zEnd g A (zX7 g a v)) A) ([.ref (a 0), .int p0] : List Value).toArray s 0 0 A) (F0 m 36 ls [])) → ∀ (H : Heap) (locs : List Loc), va_P g.1 vwCl (zX7 g a v) H → va_D A (zX7 g a v) → va_S A s.heap H locs → ∀ ls : Array Slot, lv_has ls 4 [(0, .ref (a 0)), (1, .int i1), (2, .int x.1), (3, .int x.2)] → W p l e (headSpec (zw yX7_sectionLength cX7_sectionLength 4 (some .int)) ({ frames := 2, cells := 0, slots := 0, locals := 43 } : Room)).room s m ([.ref (a 0), .int p0] : List Value).toArray below meth c H locs 0 0 (MQ below (va_Qi (fun (x : Int32) (_ : Unit) => x = r) (fun _ => zEnd g A (zX7 g a v)) A) ([.ref (a 0), .int p0] : List Value).toArray s 0 0 A) (F0 m 4 ls []) := by
    intro v i1
    refine zloop_ind ?_
    intro x y rr hf ih hr hQ H locs hP hD hS ls hl
    unfold s_X7_sectionLength_4 at hf
    refine lv_iload_n hx hb dX7_sectionLength_4 rfl (lv_at hl 3 rfl) ?_
    refine lv_iload_n hx hb dX7_sectionLength_5 rfl (lv_at hl 1 rfl) ?_
    refine lv_icmp_ge (tgt := 36) hx hb dX7_sectionLength_6 (by decide) (fun c1 => ?_) (fun c1 => ?_)
    · have hf := oi hf c1
      have hR : (x.1, x.2) = rr := hr _ (Option.some.inj hf).symm
      subst hR
      exact hQ _ _ hP hD hS _ (lv_sub hl [2] rfl)
    · have hf := oe hf c1
      refine lv_iload_n hx hb dX7_sectionLength_9 rfl (lv_at hl 2 rfl) ?_
      refine lv_aload_n hx hb dX7_sectionLength_10 rfl (lv_at hl 0 rfl) ?_
      refine lv_iload_n hx hb dX7_sectionLength_11 rfl (lv_at hl 3 rfl) ?_
      obtain ⟨u2, hu2, hf⟩ := ob hf
      refine zk_iA (va_runV (As := [.int x.2]) (rest := [.int x.1]) ⟨hx, hb, hml, hown, hts⟩ (c_X7_waits l g a v x.2 _ hu2 _) (zcV hw0 zm4_160 zm4_163 zm1_8 zm4_162 zs5_9 hd_X7_waits rfl rfl ⟨Nat.le_of_ble_eq_true rfl, Nat.le_of_ble_eq_true rfl⟩) ⟨zblind, zrecvA hK hP (ci := 7) rfl rfl, zpreA hK hP hD⟩ rfl rfl hl.1 rfl (lv_room (Nat.le_of_ble_eq_true rfl)) dX7_sectionLength_12 ⟨Nat.zero_le _, Nat.zero_le _⟩) hP hD hS hA (fun H locs hP hD hS => ?_)
      refine lv_if_eq (tgt := 27) hx hb dX7_sectionLength_15 (by decide) (fun c3 => ?_) (fun c3 => ?_)
      · have hf := oi hf c3
        refine lv_iconst (v := 0) hx hb dX7_sectionLength_27 (by decide) ?_
        refine lv_iadd hx hb dX7_sectionLength_28 ?_
        refine lv_istore_n (lv' := [(2, .int (x.1 + 0)), (0, .ref (a 0)), (1, .int i1), (3, .int x.2)]) hx hb dX7_sectionLength_29 rfl hl (by decide) rfl (fun ls hl => ?_)
        refine lv_iinc (v := (x.2 + 1)) (lv' := [(3, .int (x.2 + 1)), (2, .int (x.1 + 0)), (0, .ref (a 0)), (1, .int i1)]) hx hb dX7_sectionLength_30 hl (k := 3) rfl rfl (by decide) rfl (fun ls hl => ?_)
        refine lv_goto (tgt := 4) hx hb dX7_sectionLength_33 (by decide) ?_
        exact ih ((x.1 + 0), (x.2 + 1)) (Option.some.inj hf).symm hQ _ _ hP hD hS _ (lv_sub hl [2, 3, 1, 0] rfl)
      · have hf := oe hf c3
        refine lv_aload_n hx hb dX7_sectionLength_18 rfl (lv_at hl 0 rfl) ?_
        refine lv_iload_n hx hb dX7_sectionLength_19 rfl (lv_at hl 3 rfl) ?_
        refine lv_iconst (v := 0) hx hb dX7_sectionLength_20 (by decide) ?_
        obtain ⟨u4, hu4, hf⟩ := ob hf
        refine zk_iA (va_runV (As := [.int x.2, .int 0]) (rest := [.int x.1]) ⟨hx, hb, hml, hown, hts⟩ (c_X7_of l g a v x.2 0 _ hu4 _) (zcV hw0 zm4_144 zm4_147 zm1_8 zm4_146 zs5_6 hd_X7_of rfl rfl ⟨Nat.le_of_ble_eq_true rfl, Nat.le_of_ble_eq_true rfl⟩) ⟨zblind, zrecvA hK hP (ci := 7) rfl rfl, zpreA hK hP hD⟩ rfl rfl hl.1 rfl (lv_room (Nat.le_of_ble_eq_true rfl)) dX7_sectionLength_21 ⟨Nat.zero_le _, Nat.zero_le _⟩) hP hD hS hA (fun H locs hP hD hS => ?_)
        refine lv_goto (tgt := 28) hx hb dX7_sectionLength_24 (by decide) ?_
        refine lv_iadd hx hb dX7_sectionLength_28 ?_
        refine lv_istore_n (lv' := [(2, .int (x.1 + u4)), (0, .ref (a 0)), (1, .int i1), (3, .int x.2)]) hx hb dX7_sectionLength_29 rfl hl (by decide) rfl (fun ls hl => ?_)
        refine lv_iinc (v := (x.2 + 1)) (lv' := [(3, .int (x.2 + 1)), (2, .int (x.1 + u4)), (0, .ref (a 0)), (1, .int i1)]) hx hb dX7_sectionLength_30 hl (k := 3) rfl rfl (by decide) rfl (fun ls hl => ?_)
        refine lv_goto (tgt := 4) hx hb dX7_sectionLength_33 (by decide) ?_
        exact ih ((x.1 + u4), (x.2 + 1)) (Option.some.inj hf).symm hQ _ _ hP hD hS _ (lv_sub hl [2, 3, 1, 0] rfl)
  unfold f_X7_sectionLength at hf
  have hl := lv_entry ([.ref (a 0), .int p0]) (n := 4) (Nat.le_of_ble_eq_true rfl)
  rw [lg_entry_eq]
  generalize (lg_sl ([.ref (a 0), .int p0]) ++ List.replicate (4 - (lg_sl ([.ref (a 0), .int p0])).length) Slot.unset).toArray = ls at hl ⊢
  have hl : lv_has ls 4 [(0, .ref (a 0)), (1, .int p0)] := hl
  refine lv_iconst (v := 0) hx hb dX7_sectionLength_0 (by decide) ?_
  refine lv_istore_n (lv' := [(2, .int 0), (0, .ref (a 0)), (1, .int p0)]) hx hb dX7_sectionLength_1 rfl hl (by decide) rfl (fun ls hl => ?_)
  refine lv_iconst (v := 0) hx hb dX7_sectionLength_2 (by decide) ?_
  refine lv_istore_n (lv' := [(3, .int 0), (2, .int 0), (0, .ref (a 0)), (1, .int p0)]) hx hb dX7_sectionLength_3 rfl hl (by decide) rfl (fun ls hl => ?_)
  obtain ⟨u5, hu5, hf⟩ := ob hf
  refine lp4 v p0 _ _ u5 hu5 (fun H locs hP hD hS ls hl => ?_) _ _ hP hD hS _ (lv_sub hl [2, 3, 1, 0] rfl)
  have hl : lv_has ls 4 [(2, .int u5.1)] := hl
  have hP : va_P g.1 vwCl (zX7 g a v) H := hP
  have hD : va_D A (zX7 g a v) := hD
  refine lv_iload_n hx hb dX7_sectionLength_36 rfl (lv_at hl 0 rfl) ?_
  have hR : u5.1 = r := Option.some.inj hf
  subst hR
  exact W.iret (v := u5.1) hx hb hr0 (fun t ht hW => ⟨⟨u5.1, (), rfl, rfl, by rw [ht]; exact hP, hD⟩, hS.F ht⟩) hS.2.2 dX7_sectionLength_37
theorem hd_X7_lowest : yX7_lowest.cls ≠ "java/lang/invoke/MethodHandle" ∧ yX7_lowest.cls ≠ "java/lang/invoke/VarHandle" ∧ (parseMethodDescriptor yX7_lowest.desc).map (fun d => d.parameters.length) = some 1 := by decide +kernel
def s_X7_lowest_4 (v : MV) (i1 : Int32) (x : Int32 × Int32) : Option ((Int32 × Int32) ⊕ (Int32 × Int32)) :=
  if i1 ≤ x.2 then
    some (.inr (x.1, x.2))
  else
    (f_X7_waits v x.2).bind (fun u2 =>
    if (zb u2) = 0 then
      some (.inl (x.1, (x.2 + 1)))
    else
      (f_X7_of v x.2 2).bind (fun u4 =>
      if 9 ≤ u4 then
        some (.inl (x.1, (x.2 + 1)))
      else
        if x.1 = (-1) then
          some (.inl (x.2, (x.2 + 1)))
        else
          (f_X7_of v x.2 2).bind (fun u7 =>
          (f_X7_of v x.1 2).bind (fun u8 =>
          if u8 < u7 then
            some (.inl (x.1, (x.2 + 1)))
          else
            some (.inl (x.2, (x.2 + 1)))))))
def f_X7_lowest (v : MV) (p0 : Int32) : Option (Int32) :=
  (zloop (s_X7_lowest_4 v p0) 4096 ((-1), 0)).bind (fun u10 =>
  some u10.1)
set_option maxHeartbeats 4000000 in
set_option maxRecDepth 100000 in
theorem c_X7_lowest (l : Launch) (g : zG) (a : Nat → Nat) (v : MV) (p0 : Int32) (r : Int32) (hf : f_X7_lowest v p0 = some r) : zMi zNF zNM l yX7_lowest (zw yX7_lowest cX7_lowest 5 (some .int)) ({ frames := 2, cells := 0, slots := 0, locals := 43 } : Room) g [.ref (a 0), .int p0] (zX7 g a v) r (zX7 g a v) := by
  intro sz
  refine Met.ofW (cc := cX7_lowest) (maxL := 5) (ret := (some .int)) (by decide) rfl ?_
  intro p e s m args below meth c s₁ B hml hv
  obtain ⟨rfl, hsz, hP, hK, hD0⟩ := hv
  have hx := B.exec
  have hb := B.bytes
  have hr0 := B.returns
  have hts := atoms_spec (ws := (zw yX7_lowest cX7_lowest 5 (some .int))) B.pre
  have hw0 : ∀ w ∈ zW, w.before ([.ref (a 0), .int p0] : List Value).toArray s = true := fun w h => hts w (List.mem_cons_of_mem _ h)
  have hown : s.vm.findClass RX7 = some m.cls := findClass_of_methodNamed B.named
  have hlocks := B.notSynchronized
  subst hsz
  have hD := hD0.self (sz := s.heap.size)
  generalize hAe : va_A (zX7 g a v) s.heap.size = A at hD ⊢
  have hA : ∀ q : Nat, s.heap.size ≤ q → A q := fun q h => by rw [← hAe]; exact Or.inr h
  have hS : va_S A s.heap s.heap [] := va_S.rf
  have lp4 : ∀ (v : MV) (i1 : Int32), ∀ (n : Nat) (x : Int32 × Int32) (rr : Int32 × Int32), zloop (s_X7_lowest_4 v i1) n x = some rr → (∀ (H : Heap) (locs : List Loc), va_P g.1 vwCl (zX7 g a v) H → va_D A (zX7 g a v) → va_S A s.heap H locs → ∀ ls : Array Slot, lv_has ls 5 [(2, .int rr.1)] → W p l e (headSpec (zw yX7_lowest cX7_lowest 5 (some .int)) ({ frames := 2, cells := 0, slots := 0, locals := 43 } : Room)).room s m ([.ref (a 0), .int p0] : List Value).toArray below meth c H locs 0 0 (MQ below (va_Qi (fun (x : Int32) (_ : Unit) => x = r) (fun _ => zEnd g A (zX7 g a v)) A) ([.ref (a 0), .int p0] : List Value).toArray s 0 0 A) (F0 m 72 ls [])) → ∀ (H : Heap) (locs : List Loc), va_P g.1 vwCl (zX7 g a v) H → va_D A (zX7 g a v) → va_S A s.heap H locs → ∀ ls : Array Slot, lv_has ls 5 [(0, .ref (a 0)), (1, .int i1), (2, .int x.1), (3, .int x.2)] → W p l e (headSpec (zw yX7_lowest cX7_lowest 5 (some .int)) ({ frames := 2, cells := 0, slots := 0, locals := 43 } : Room)).room s m ([.ref (a 0), .int p0] : List Value).toArray below meth c H locs 0 0 (MQ below (va_Qi (fun (x : Int32) (_ : Unit) => x = r) (fun _ => zEnd g A (zX7 g a v)) A) ([.ref (a 0), .int p0] : List Value).toArray s 0 0 A) (F0 m 4 ls []) := by
    intro v i1
    refine zloop_ind ?_
    intro x y rr hf ih hr hQ H locs hP hD hS ls hl
    unfold s_X7_lowest_4 at hf
    refine lv_iload_n hx hb dX7_lowest_4 rfl (lv_at hl 3 rfl) ?_
    refine lv_iload_n hx hb dX7_lowest_5 rfl (lv_at hl 1 rfl) ?_
    refine lv_icmp_ge (tgt := 72) hx hb dX7_lowest_6 (by decide) (fun c1 => ?_) (fun c1 => ?_)
    · have hf := oi hf c1
      have hR : (x.1, x.2) = rr := hr _ (Option.some.inj hf).symm
      subst hR
      exact hQ _ _ hP hD hS _ (lv_sub hl [2] rfl)
    · have hf := oe hf c1
      refine lv_aload_n hx hb dX7_lowest_9 rfl (lv_at hl 0 rfl) ?_
      refine lv_iload_n hx hb dX7_lowest_10 rfl (lv_at hl 3 rfl) ?_
      obtain ⟨u2, hu2, hf⟩ := ob hf
      refine zk_iA (va_runV (As := [.int x.2]) (rest := []) ⟨hx, hb, hml, hown, hts⟩ (c_X7_waits l g a v x.2 _ hu2 _) (zcV hw0 zm4_160 zm4_163 zm1_8 zm4_162 zs5_9 hd_X7_waits rfl rfl ⟨Nat.le_of_ble_eq_true rfl, Nat.le_of_ble_eq_true rfl⟩) ⟨zblind, zrecvA hK hP (ci := 7) rfl rfl, zpreA hK hP hD⟩ rfl rfl hl.1 rfl (lv_room (Nat.le_of_ble_eq_true rfl)) dX7_lowest_11 ⟨Nat.zero_le _, Nat.zero_le _⟩) hP hD hS hA (fun H locs hP hD hS => ?_)
      refine lv_if_eq (tgt := 32) hx hb dX7_lowest_14 (by decide) (fun c3 => ?_) (fun c3 => ?_)
      · have hf := oi hf c3
        refine lv_iconst (v := 0) hx hb dX7_lowest_32 (by decide) ?_
        refine lv_istore (lv' := [(4, .int 0), (0, .ref (a 0)), (1, .int i1), (2, .int x.1), (3, .int x.2)]) hx hb dX7_lowest_33 hl (by decide) rfl (fun ls hl => ?_)
        refine lv_iload hx hb dX7_lowest_35 (lv_at hl 0 rfl) ?_
        refine lv_if_eq (tgt := 64) hx hb dX7_lowest_37 (by decide) (fun _ => ?_) (fun c9 => absurd c9 (by decide))
        refine lv_iload_n hx hb dX7_lowest_64 rfl (lv_at hl 3 rfl) ?_
        refine lv_istore_n (lv' := [(2, .int x.1), (4, .int 0), (0, .ref (a 0)), (1, .int i1), (3, .int x.2)]) hx hb dX7_lowest_65 rfl hl (by decide) rfl (fun ls hl => ?_)
        refine lv_iinc (v := (x.2 + 1)) (lv' := [(3, .int (x.2 + 1)), (2, .int x.1), (4, .int 0), (0, .ref (a 0)), (1, .int i1)]) hx hb dX7_lowest_66 hl (k := 4) rfl rfl (by decide) rfl (fun ls hl => ?_)
        refine lv_goto (tgt := 4) hx hb dX7_lowest_69 (by decide) ?_
        exact ih (x.1, (x.2 + 1)) (Option.some.inj hf).symm hQ _ _ hP hD hS _ (lv_sub hl [3, 4, 1, 0] rfl)
      · have hf := oe hf c3
        refine lv_aload_n hx hb dX7_lowest_17 rfl (lv_at hl 0 rfl) ?_
        refine lv_iload_n hx hb dX7_lowest_18 rfl (lv_at hl 3 rfl) ?_
        refine lv_iconst (v := 2) hx hb dX7_lowest_19 (by decide) ?_
        obtain ⟨u4, hu4, hf⟩ := ob hf
        refine zk_iA (va_runV (As := [.int x.2, .int 2]) (rest := []) ⟨hx, hb, hml, hown, hts⟩ (c_X7_of l g a v x.2 2 _ hu4 _) (zcV hw0 zm4_144 zm4_147 zm1_8 zm4_146 zs5_6 hd_X7_of rfl rfl ⟨Nat.le_of_ble_eq_true rfl, Nat.le_of_ble_eq_true rfl⟩) ⟨zblind, zrecvA hK hP (ci := 7) rfl rfl, zpreA hK hP hD⟩ rfl rfl hl.1 rfl (lv_room (Nat.le_of_ble_eq_true rfl)) dX7_lowest_20 ⟨Nat.zero_le _, Nat.zero_le _⟩) hP hD hS hA (fun H locs hP hD hS => ?_)
        refine lv_bipush (v := 9) hx hb dX7_lowest_23 (by decide) ?_
        refine lv_icmp_ge (tgt := 32) hx hb dX7_lowest_25 (by decide) (fun c5 => ?_) (fun c5 => ?_)
        · have hf := oi hf c5
          refine lv_iconst (v := 0) hx hb dX7_lowest_32 (by decide) ?_
          refine lv_istore (lv' := [(4, .int 0), (0, .ref (a 0)), (1, .int i1), (2, .int x.1), (3, .int x.2)]) hx hb dX7_lowest_33 hl (by decide) rfl (fun ls hl => ?_)
          refine lv_iload hx hb dX7_lowest_35 (lv_at hl 0 rfl) ?_
          refine lv_if_eq (tgt := 64) hx hb dX7_lowest_37 (by decide) (fun _ => ?_) (fun c9 => absurd c9 (by decide))
          refine lv_iload_n hx hb dX7_lowest_64 rfl (lv_at hl 3 rfl) ?_
          refine lv_istore_n (lv' := [(2, .int x.1), (4, .int 0), (0, .ref (a 0)), (1, .int i1), (3, .int x.2)]) hx hb dX7_lowest_65 rfl hl (by decide) rfl (fun ls hl => ?_)
          refine lv_iinc (v := (x.2 + 1)) (lv' := [(3, .int (x.2 + 1)), (2, .int x.1), (4, .int 0), (0, .ref (a 0)), (1, .int i1)]) hx hb dX7_lowest_66 hl (k := 4) rfl rfl (by decide) rfl (fun ls hl => ?_)
          refine lv_goto (tgt := 4) hx hb dX7_lowest_69 (by decide) ?_
          exact ih (x.1, (x.2 + 1)) (Option.some.inj hf).symm hQ _ _ hP hD hS _ (lv_sub hl [3, 4, 1, 0] rfl)
        · have hf := oe hf c5
          refine lv_iconst (v := 1) hx hb dX7_lowest_28 (by decide) ?_
          refine lv_goto (tgt := 33) hx hb dX7_lowest_29 (by decide) ?_
          refine lv_istore (lv' := [(4, .int 1), (0, .ref (a 0)), (1, .int i1), (2, .int x.1), (3, .int x.2)]) hx hb dX7_lowest_33 hl (by decide) rfl (fun ls hl => ?_)
          refine lv_iload hx hb dX7_lowest_35 (lv_at hl 0 rfl) ?_
          refine lv_if_eq (tgt := 64) hx hb dX7_lowest_37 (by decide) (fun c9 => absurd c9 (by decide)) (fun _ => ?_)
          refine lv_iload_n hx hb dX7_lowest_40 rfl (lv_at hl 3 rfl) ?_
          refine lv_iconst (v := (-1)) hx hb dX7_lowest_41 (by decide) ?_
          refine lv_icmp_eq (tgt := 60) hx hb dX7_lowest_42 (by decide) (fun c6 => ?_) (fun c6 => ?_)
          · have hf := oi hf c6
            refine lv_iload_n hx hb dX7_lowest_60 rfl (lv_at hl 4 rfl) ?_
            refine lv_goto (tgt := 65) hx hb dX7_lowest_61 (by decide) ?_
            refine lv_istore_n (lv' := [(2, .int x.2), (4, .int 1), (0, .ref (a 0)), (1, .int i1), (3, .int x.2)]) hx hb dX7_lowest_65 rfl hl (by decide) rfl (fun ls hl => ?_)
            refine lv_iinc (v := (x.2 + 1)) (lv' := [(3, .int (x.2 + 1)), (2, .int x.2), (4, .int 1), (0, .ref (a 0)), (1, .int i1)]) hx hb dX7_lowest_66 hl (k := 4) rfl rfl (by decide) rfl (fun ls hl => ?_)
            refine lv_goto (tgt := 4) hx hb dX7_lowest_69 (by decide) ?_
            exact ih (x.2, (x.2 + 1)) (Option.some.inj hf).symm hQ _ _ hP hD hS _ (lv_sub hl [3, 4, 1, 0] rfl)
          · have hf := oe hf c6
            refine lv_aload_n hx hb dX7_lowest_45 rfl (lv_at hl 1 rfl) ?_
            refine lv_iload_n hx hb dX7_lowest_46 rfl (lv_at hl 4 rfl) ?_
            refine lv_iconst (v := 2) hx hb dX7_lowest_47 (by decide) ?_
            obtain ⟨u7, hu7, hf⟩ := ob hf
            refine zk_iA (va_runV (As := [.int x.2, .int 2]) (rest := []) ⟨hx, hb, hml, hown, hts⟩ (c_X7_of l g a v x.2 2 _ hu7 _) (zcV hw0 zm4_144 zm4_147 zm1_8 zm4_146 zs5_6 hd_X7_of rfl rfl ⟨Nat.le_of_ble_eq_true rfl, Nat.le_of_ble_eq_true rfl⟩) ⟨zblind, zrecvA hK hP (ci := 7) rfl rfl, zpreA hK hP hD⟩ rfl rfl hl.1 rfl (lv_room (Nat.le_of_ble_eq_true rfl)) dX7_lowest_48 ⟨Nat.zero_le _, Nat.zero_le _⟩) hP hD hS hA (fun H locs hP hD hS => ?_)
            refine lv_aload_n hx hb dX7_lowest_51 rfl (lv_at hl 1 rfl) ?_
            refine lv_iload_n hx hb dX7_lowest_52 rfl (lv_at hl 3 rfl) ?_
            refine lv_iconst (v := 2) hx hb dX7_lowest_53 (by decide) ?_
            obtain ⟨u8, hu8, hf⟩ := ob hf
            refine zk_iA (va_runV (As := [.int x.1, .int 2]) (rest := [.int u7]) ⟨hx, hb, hml, hown, hts⟩ (c_X7_of l g a v x.1 2 _ hu8 _) (zcV hw0 zm4_144 zm4_147 zm1_8 zm4_146 zs5_6 hd_X7_of rfl rfl ⟨Nat.le_of_ble_eq_true rfl, Nat.le_of_ble_eq_true rfl⟩) ⟨zblind, zrecvA hK hP (ci := 7) rfl rfl, zpreA hK hP hD⟩ rfl rfl hl.1 rfl (lv_room (Nat.le_of_ble_eq_true rfl)) dX7_lowest_54 ⟨Nat.zero_le _, Nat.zero_le _⟩) hP hD hS hA (fun H locs hP hD hS => ?_)
            refine lv_icmp_gt (tgt := 64) hx hb dX7_lowest_57 (by decide) (fun c9 => ?_) (fun c9 => ?_)
            · have hf := oi hf c9
              refine lv_iload_n hx hb dX7_lowest_64 rfl (lv_at hl 3 rfl) ?_
              refine lv_istore_n (lv' := [(2, .int x.1), (4, .int 1), (0, .ref (a 0)), (1, .int i1), (3, .int x.2)]) hx hb dX7_lowest_65 rfl hl (by decide) rfl (fun ls hl => ?_)
              refine lv_iinc (v := (x.2 + 1)) (lv' := [(3, .int (x.2 + 1)), (2, .int x.1), (4, .int 1), (0, .ref (a 0)), (1, .int i1)]) hx hb dX7_lowest_66 hl (k := 4) rfl rfl (by decide) rfl (fun ls hl => ?_)
              refine lv_goto (tgt := 4) hx hb dX7_lowest_69 (by decide) ?_
              exact ih (x.1, (x.2 + 1)) (Option.some.inj hf).symm hQ _ _ hP hD hS _ (lv_sub hl [3, 4, 1, 0] rfl)
            · have hf := oe hf c9
              refine lv_iload_n hx hb dX7_lowest_60 rfl (lv_at hl 4 rfl) ?_
              refine lv_goto (tgt := 65) hx hb dX7_lowest_61 (by decide) ?_
              refine lv_istore_n (lv' := [(2, .int x.2), (4, .int 1), (0, .ref (a 0)), (1, .int i1), (3, .int x.2)]) hx hb dX7_lowest_65 rfl hl (by decide) rfl (fun ls hl => ?_)
              refine lv_iinc (v := (x.2 + 1)) (lv' := [(3, .int (x.2 + 1)), (2, .int x.2), (4, .int 1), (0, .ref (a 0)), (1, .int i1)]) hx hb dX7_lowest_66 hl (k := 4) rfl rfl (by decide) rfl (fun ls hl => ?_)
              refine lv_goto (tgt := 4) hx hb dX7_lowest_69 (by decide) ?_
              exact ih (x.2, (x.2 + 1)) (Option.some.inj hf).symm hQ _ _ hP hD hS _ (lv_sub hl [3, 4, 1, 0] rfl)
  unfold f_X7_lowest at hf
  have hl := lv_entry ([.ref (a 0), .int p0]) (n := 5) (Nat.le_of_ble_eq_true rfl)
  rw [lg_entry_eq]
  generalize (lg_sl ([.ref (a 0), .int p0]) ++ List.replicate (5 - (lg_sl ([.ref (a 0), .int p0])).length) Slot.unset).toArray = ls at hl ⊢
  have hl : lv_has ls 5 [(0, .ref (a 0)), (1, .int p0)] := hl
  refine lv_iconst (v := (-1)) hx hb dX7_lowest_0 (by decide) ?_
  refine lv_istore_n (lv' := [(2, .int (-1)), (0, .ref (a 0)), (1, .int p0)]) hx hb dX7_lowest_1 rfl hl (by decide) rfl (fun ls hl => ?_)
  refine lv_iconst (v := 0) hx hb dX7_lowest_2 (by decide) ?_
  refine lv_istore_n (lv' := [(3, .int 0), (2, .int (-1)), (0, .ref (a 0)), (1, .int p0)]) hx hb dX7_lowest_3 rfl hl (by decide) rfl (fun ls hl => ?_)
  obtain ⟨u10, hu10, hf⟩ := ob hf
  refine lp4 v p0 _ _ u10 hu10 (fun H locs hP hD hS ls hl => ?_) _ _ hP hD hS _ (lv_sub hl [2, 3, 1, 0] rfl)
  have hl : lv_has ls 5 [(2, .int u10.1)] := hl
  have hP : va_P g.1 vwCl (zX7 g a v) H := hP
  have hD : va_D A (zX7 g a v) := hD
  refine lv_iload_n hx hb dX7_lowest_72 rfl (lv_at hl 0 rfl) ?_
  have hR : u10.1 = r := Option.some.inj hf
  subst hR
  exact W.iret (v := u10.1) hx hb hr0 (fun t ht hW => ⟨⟨u10.1, (), rfl, rfl, by rw [ht]; exact hP, hD⟩, hS.F ht⟩) hS.2.2 dX7_lowest_73
theorem hd_X7_firstWaiting : yX7_firstWaiting.cls ≠ "java/lang/invoke/MethodHandle" ∧ yX7_firstWaiting.cls ≠ "java/lang/invoke/VarHandle" ∧ (parseMethodDescriptor yX7_firstWaiting.desc).map (fun d => d.parameters.length) = some 1 := by decide +kernel
def s_X7_firstWaiting_2 (v : MV) (i1 : Int32) (x : Int32) : Option ((Int32) ⊕ (Int32)) :=
  if i1 ≤ x then
    some (.inr x)
  else
    (f_X7_waits v x).bind (fun u2 =>
    if (zb u2) = 0 then
      some (.inl (x + 1))
    else
      some (.inr x))
def f_X7_firstWaiting (v : MV) (p0 : Int32) : Option (Int32) :=
  (zloop (s_X7_firstWaiting_2 v p0) 4096 0).bind (fun u4 =>
  if u4 = p0 then
    some (-1)
  else
    some u4)
set_option maxHeartbeats 4000000 in
set_option maxRecDepth 100000 in
theorem c_X7_firstWaiting (l : Launch) (g : zG) (a : Nat → Nat) (v : MV) (p0 : Int32) (r : Int32) (hf : f_X7_firstWaiting v p0 = some r) : zMi zNF zNM l yX7_firstWaiting (zw yX7_firstWaiting cX7_firstWaiting 3 (some .int)) ({ frames := 2, cells := 0, slots := 0, locals := 43 } : Room) g [.ref (a 0), .int p0] (zX7 g a v) r (zX7 g a v) := by
  intro sz
  refine Met.ofW (cc := cX7_firstWaiting) (maxL := 3) (ret := (some .int)) (by decide) rfl ?_
  intro p e s m args below meth c s₁ B hml hv
  obtain ⟨rfl, hsz, hP, hK, hD0⟩ := hv
  have hx := B.exec
  have hb := B.bytes
  have hr0 := B.returns
  have hts := atoms_spec (ws := (zw yX7_firstWaiting cX7_firstWaiting 3 (some .int))) B.pre
  have hw0 : ∀ w ∈ zW, w.before ([.ref (a 0), .int p0] : List Value).toArray s = true := fun w h => hts w (List.mem_cons_of_mem _ h)
  have hown : s.vm.findClass RX7 = some m.cls := findClass_of_methodNamed B.named
  have hlocks := B.notSynchronized
  subst hsz
  have hD := hD0.self (sz := s.heap.size)
  generalize hAe : va_A (zX7 g a v) s.heap.size = A at hD ⊢
  have hA : ∀ q : Nat, s.heap.size ≤ q → A q := fun q h => by rw [← hAe]; exact Or.inr h
  have hS : va_S A s.heap s.heap [] := va_S.rf
  have lp2 : ∀ (v : MV) (i1 : Int32), ∀ (n : Nat) (x : Int32) (rr : Int32), zloop (s_X7_firstWaiting_2 v i1) n x = some rr → (∀ (H : Heap) (locs : List Loc), va_P g.1 vwCl (zX7 g a v) H → va_D A (zX7 g a v) → va_S A s.heap H locs → ∀ ls : Array Slot, lv_has ls 3 [(1, .int i1), (2, .int rr)] → W p l e (headSpec (zw yX7_firstWaiting cX7_firstWaiting 3 (some .int)) ({ frames := 2, cells := 0, slots := 0, locals := 43 } : Room)).room s m ([.ref (a 0), .int p0] : List Value).toArray below meth c H locs 0 0 (MQ below (va_Qi (fun (x : Int32) (_ : Unit) => x = r) (fun _ => zEnd g A (zX7 g a v)) A) ([.ref (a 0), .int p0] : List Value).toArray s 0 0 A) (F0 m 21 ls [])) → ∀ (H : Heap) (locs : List Loc), va_P g.1 vwCl (zX7 g a v) H → va_D A (zX7 g a v) → va_S A s.heap H locs → ∀ ls : Array Slot, lv_has ls 3 [(0, .ref (a 0)), (1, .int i1), (2, .int x)] → W p l e (headSpec (zw yX7_firstWaiting cX7_firstWaiting 3 (some .int)) ({ frames := 2, cells := 0, slots := 0, locals := 43 } : Room)).room s m ([.ref (a 0), .int p0] : List Value).toArray below meth c H locs 0 0 (MQ below (va_Qi (fun (x : Int32) (_ : Unit) => x = r) (fun _ => zEnd g A (zX7 g a v)) A) ([.ref (a 0), .int p0] : List Value).toArray s 0 0 A) (F0 m 2 ls []) := by
    intro v i1
    refine zloop_ind ?_
    intro x y rr hf ih hr hQ H locs hP hD hS ls hl
    unfold s_X7_firstWaiting_2 at hf
    refine lv_iload_n hx hb dX7_firstWaiting_2 rfl (lv_at hl 2 rfl) ?_
    refine lv_iload_n hx hb dX7_firstWaiting_3 rfl (lv_at hl 1 rfl) ?_
    refine lv_icmp_ge (tgt := 21) hx hb dX7_firstWaiting_4 (by decide) (fun c1 => ?_) (fun c1 => ?_)
    · have hf := oi hf c1
      have hR : x = rr := hr _ (Option.some.inj hf).symm
      subst hR
      exact hQ _ _ hP hD hS _ (lv_sub hl [1, 2] rfl)
    · have hf := oe hf c1
      refine lv_aload_n hx hb dX7_firstWaiting_7 rfl (lv_at hl 0 rfl) ?_
      refine lv_iload_n hx hb dX7_firstWaiting_8 rfl (lv_at hl 2 rfl) ?_
      obtain ⟨u2, hu2, hf⟩ := ob hf
      refine zk_iA (va_runV (As := [.int x]) (rest := []) ⟨hx, hb, hml, hown, hts⟩ (c_X7_waits l g a v x _ hu2 _) (zcV hw0 zm4_160 zm4_163 zm1_8 zm4_162 zs5_9 hd_X7_waits rfl rfl ⟨Nat.le_of_ble_eq_true rfl, Nat.le_of_ble_eq_true rfl⟩) ⟨zblind, zrecvA hK hP (ci := 7) rfl rfl, zpreA hK hP hD⟩ rfl rfl hl.1 rfl (lv_room (Nat.le_of_ble_eq_true rfl)) dX7_firstWaiting_9 ⟨Nat.zero_le _, Nat.zero_le _⟩) hP hD hS hA (fun H locs hP hD hS => ?_)
      refine lv_if_ne (tgt := 21) hx hb dX7_firstWaiting_12 (by decide) (fun c3 => ?_) (fun c3 => ?_)
      · have hf := oe hf c3
        have hR : x = rr := hr _ (Option.some.inj hf).symm
        subst hR
        exact hQ _ _ hP hD hS _ (lv_sub hl [1, 2] rfl)
      · have hf := oi hf c3
        refine lv_iinc (v := (x + 1)) (lv' := [(2, .int (x + 1)), (0, .ref (a 0)), (1, .int i1)]) hx hb dX7_firstWaiting_15 hl (k := 2) rfl rfl (by decide) rfl (fun ls hl => ?_)
        refine lv_goto (tgt := 2) hx hb dX7_firstWaiting_18 (by decide) ?_
        exact ih (x + 1) (Option.some.inj hf).symm hQ _ _ hP hD hS _ (lv_sub hl [1, 2, 0] rfl)
  unfold f_X7_firstWaiting at hf
  have hl := lv_entry ([.ref (a 0), .int p0]) (n := 3) (Nat.le_of_ble_eq_true rfl)
  rw [lg_entry_eq]
  generalize (lg_sl ([.ref (a 0), .int p0]) ++ List.replicate (3 - (lg_sl ([.ref (a 0), .int p0])).length) Slot.unset).toArray = ls at hl ⊢
  have hl : lv_has ls 3 [(0, .ref (a 0)), (1, .int p0)] := hl
  refine lv_iconst (v := 0) hx hb dX7_firstWaiting_0 (by decide) ?_
  refine lv_istore_n (lv' := [(2, .int 0), (0, .ref (a 0)), (1, .int p0)]) hx hb dX7_firstWaiting_1 rfl hl (by decide) rfl (fun ls hl => ?_)
  obtain ⟨u4, hu4, hf⟩ := ob hf
  refine lp2 v p0 _ _ u4 hu4 (fun H locs hP hD hS ls hl => ?_) _ _ hP hD hS _ (lv_sub hl [1, 2, 0] rfl)
  have hl : lv_has ls 3 [(1, .int p0), (2, .int u4)] := hl
  have hP : va_P g.1 vwCl (zX7 g a v) H := hP
  have hD : va_D A (zX7 g a v) := hD
  refine lv_iload_n hx hb dX7_firstWaiting_21 rfl (lv_at hl 1 rfl) ?_
  refine lv_iload_n hx hb dX7_firstWaiting_22 rfl (lv_at hl 0 rfl) ?_
  refine lv_icmp_ne (tgt := 30) hx hb dX7_firstWaiting_23 (by decide) (fun c5 => ?_) (fun c5 => ?_)
  · have hf := oe hf c5
    refine lv_iload_n hx hb dX7_firstWaiting_30 rfl (lv_at hl 1 rfl) ?_
    have hR : u4 = r := Option.some.inj hf
    subst hR
    exact W.iret (v := u4) hx hb hr0 (fun t ht hW => ⟨⟨u4, (), rfl, rfl, by rw [ht]; exact hP, hD⟩, hS.F ht⟩) hS.2.2 dX7_firstWaiting_31
  · have hf := oi hf c5
    refine lv_iconst (v := (-1)) hx hb dX7_firstWaiting_26 (by decide) ?_
    refine lv_goto (tgt := 31) hx hb dX7_firstWaiting_27 (by decide) ?_
    have hR : (-1) = r := Option.some.inj hf
    subst hR
    exact W.iret (v := (-1)) hx hb hr0 (fun t ht hW => ⟨⟨(-1), (), rfl, rfl, by rw [ht]; exact hP, hD⟩, hS.F ht⟩) hS.2.2 dX7_firstWaiting_31
theorem hd_X7_logs : yX7_logs.cls ≠ "java/lang/invoke/MethodHandle" ∧ yX7_logs.cls ≠ "java/lang/invoke/VarHandle" ∧ (parseMethodDescriptor yX7_logs.desc).map (fun d => d.parameters.length) = some 2 := by decide +kernel
def f_X7_logs (v : MV) (p0 : Int32) (p1 : Int32) : Option (MV) :=
  if zin (100 + (3 * (v.1 9))) 220 = true then
  if zin ((100 + (3 * (v.1 9))) + 1) 220 = true then
  if zin ((100 + (3 * (v.1 9))) + 2) 220 = true then
  some ((upd (upd (upd (upd v.1 ((100 + (3 * (v.1 9))).toNatClampNeg) (v.1 0)) (((100 + (3 * (v.1 9))) + 1).toNatClampNeg) p0) (((100 + (3 * (v.1 9))) + 2).toNatClampNeg) p1) 9 (((upd (upd (upd v.1 ((100 + (3 * (v.1 9))).toNatClampNeg) (v.1 0)) (((100 + (3 * (v.1 9))) + 1).toNatClampNeg) p0) (((100 + (3 * (v.1 9))) + 2).toNatClampNeg) p1) 9) + 1)), v.2.1, v.2.2.1, v.2.2.2.1, v.2.2.2.2.1, v.2.2.2.2.2.1, v.2.2.2.2.2.2.1, v.2.2.2.2.2.2.2.1, v.2.2.2.2.2.2.2.2.1, v.2.2.2.2.2.2.2.2.2.1, v.2.2.2.2.2.2.2.2.2.2)
  else none
  else none
  else none
set_option maxHeartbeats 4000000 in
set_option maxRecDepth 100000 in
theorem c_X7_logs (l : Launch) (g : zG) (a : Nat → Nat) (v : MV) (p0 : Int32) (p1 : Int32) (r : MV) (hf : f_X7_logs v p0 p1 = some r) : zMv zNF zNM l yX7_logs (zw yX7_logs cX7_logs 4 none) ({ frames := 0, cells := 0, slots := 0, locals := 0 } : Room) g [.ref (a 0), .int p0, .int p1] (zX7 g a v) (zX7 g a r) := by
  intro sz
  refine Met.ofW (cc := cX7_logs) (maxL := 4) (ret := none) (by decide) rfl ?_
  intro p e s m args below meth c s₁ B hml hv
  obtain ⟨rfl, hsz, hP, hK, hD0⟩ := hv
  have hx := B.exec
  have hb := B.bytes
  have hr0 := B.returns
  have hts := atoms_spec (ws := (zw yX7_logs cX7_logs 4 none)) B.pre
  have hw0 : ∀ w ∈ zW, w.before ([.ref (a 0), .int p0, .int p1] : List Value).toArray s = true := fun w h => hts w (List.mem_cons_of_mem _ h)
  have hown : s.vm.findClass RX7 = some m.cls := findClass_of_methodNamed B.named
  have hlocks := B.notSynchronized
  subst hsz
  have hD := hD0.self (sz := s.heap.size)
  generalize hAe : va_A (zX7 g a v) s.heap.size = A at hD ⊢
  have hA : ∀ q : Nat, s.heap.size ≤ q → A q := fun q h => by rw [← hAe]; exact Or.inr h
  have hS : va_S A s.heap s.heap [] := va_S.rf
  unfold f_X7_logs at hf
  have hl := lv_entry ([.ref (a 0), .int p0, .int p1]) (n := 4) (Nat.le_of_ble_eq_true rfl)
  rw [lg_entry_eq]
  generalize (lg_sl ([.ref (a 0), .int p0, .int p1]) ++ List.replicate (4 - (lg_sl ([.ref (a 0), .int p0, .int p1])).length) Slot.unset).toArray = ls at hl ⊢
  have hl : lv_has ls 4 [(0, .ref (a 0)), (1, .int p0), (2, .int p1)] := hl
  refine lv_bipush (v := 100) hx hb dX7_logs_0 (by decide) ?_
  refine lv_iconst (v := 3) hx hb dX7_logs_2 (by decide) ?_
  refine lv_aload_n hx hb dX7_logs_3 rfl (lv_at hl 0 rfl) ?_
  refine va_get (D := g.1) (ci := 7) (v := .ref (a 1)) (C := RX7) (T := TX7) (N := 11) hx hb hw0 ziX7 hown hK.1 hP 0 rfl rfl 0 (by decide) (hw0 _ zm4_71) (fun _ h9 => h9) rfl dX7_logs_4 ?_
  refine lv_bipush (v := 9) hx hb dX7_logs_7 (by decide) ?_
  refine zald (D := g.1) (f := v.1) (k := 9) hx hb hK.1 hP 1 0 rfl rfl (zin_vp (i := 9) (n := 220) rfl) rfl dX7_logs_9 ?_
  refine lv_imul hx hb dX7_logs_10 ?_
  refine lv_iadd hx hb dX7_logs_11 ?_
  refine lv_istore_n (lv' := [(3, .int (100 + (3 * (v.1 9)))), (0, .ref (a 0)), (1, .int p0), (2, .int p1)]) hx hb dX7_logs_12 rfl hl (by decide) rfl (fun ls hl => ?_)
  refine lv_aload_n hx hb dX7_logs_13 rfl (lv_at hl 1 rfl) ?_
  refine va_get (D := g.1) (ci := 7) (v := .ref (a 1)) (C := RX7) (T := TX7) (N := 11) hx hb hw0 ziX7 hown hK.1 hP 0 rfl rfl 0 (by decide) (hw0 _ zm4_71) (fun _ h9 => h9) rfl dX7_logs_14 ?_
  refine lv_iload_n hx hb dX7_logs_17 rfl (lv_at hl 0 rfl) ?_
  refine lv_aload_n hx hb dX7_logs_18 rfl (lv_at hl 1 rfl) ?_
  refine va_get (D := g.1) (ci := 7) (v := .ref (a 1)) (C := RX7) (T := TX7) (N := 11) hx hb hw0 ziX7 hown hK.1 hP 0 rfl rfl 0 (by decide) (hw0 _ zm4_71) (fun _ h9 => h9) rfl dX7_logs_19 ?_
  refine lv_iconst (v := 0) hx hb dX7_logs_22 (by decide) ?_
  refine zald (D := g.1) (f := v.1) (k := 0) hx hb hK.1 hP 1 0 rfl rfl (zin_vp (i := 0) (n := 220) rfl) rfl dX7_logs_23 ?_
  obtain ⟨h1, hf⟩ := og hf
  refine zast (D := g.1) (f := v.1) (k := (100 + (3 * (v.1 9))).toNatClampNeg) (x := (v.1 0)) hx hb hK.1 hP hD hS 1 0 rfl rfl (zin_vp h1) rfl dX7_logs_24 (fun H locs hP hD hS => ?_)
  have hP : va_P g.1 vwCl (zX7 g a ((upd v.1 ((100 + (3 * (v.1 9))).toNatClampNeg) (v.1 0)), v.2.1, v.2.2.1, v.2.2.2.1, v.2.2.2.2.1, v.2.2.2.2.2.1, v.2.2.2.2.2.2.1, v.2.2.2.2.2.2.2.1, v.2.2.2.2.2.2.2.2.1, v.2.2.2.2.2.2.2.2.2.1, v.2.2.2.2.2.2.2.2.2.2)) H := hP
  have hD : va_D A (zX7 g a ((upd v.1 ((100 + (3 * (v.1 9))).toNatClampNeg) (v.1 0)), v.2.1, v.2.2.1, v.2.2.2.1, v.2.2.2.2.1, v.2.2.2.2.2.1, v.2.2.2.2.2.2.1, v.2.2.2.2.2.2.2.1, v.2.2.2.2.2.2.2.2.1, v.2.2.2.2.2.2.2.2.2.1, v.2.2.2.2.2.2.2.2.2.2)) := hD
  refine lv_aload_n hx hb dX7_logs_25 rfl (lv_at hl 1 rfl) ?_
  refine va_get (D := g.1) (ci := 7) (v := .ref (a 1)) (C := RX7) (T := TX7) (N := 11) hx hb hw0 ziX7 hown hK.1 hP 0 rfl rfl 0 (by decide) (hw0 _ zm4_71) (fun _ h9 => h9) rfl dX7_logs_26 ?_
  refine lv_iload_n hx hb dX7_logs_29 rfl (lv_at hl 0 rfl) ?_
  refine lv_iconst (v := 1) hx hb dX7_logs_30 (by decide) ?_
  refine lv_iadd hx hb dX7_logs_31 ?_
  refine lv_iload_n hx hb dX7_logs_32 rfl (lv_at hl 2 rfl) ?_
  obtain ⟨h2, hf⟩ := og hf
  refine zast (D := g.1) (f := (upd v.1 ((100 + (3 * (v.1 9))).toNatClampNeg) (v.1 0))) (k := ((100 + (3 * (v.1 9))) + 1).toNatClampNeg) (x := p0) hx hb hK.1 hP hD hS 1 0 rfl rfl (zin_vp h2) rfl dX7_logs_33 (fun H locs hP hD hS => ?_)
  have hP : va_P g.1 vwCl (zX7 g a ((upd (upd v.1 ((100 + (3 * (v.1 9))).toNatClampNeg) (v.1 0)) (((100 + (3 * (v.1 9))) + 1).toNatClampNeg) p0), v.2.1, v.2.2.1, v.2.2.2.1, v.2.2.2.2.1, v.2.2.2.2.2.1, v.2.2.2.2.2.2.1, v.2.2.2.2.2.2.2.1, v.2.2.2.2.2.2.2.2.1, v.2.2.2.2.2.2.2.2.2.1, v.2.2.2.2.2.2.2.2.2.2)) H := hP
  have hD : va_D A (zX7 g a ((upd (upd v.1 ((100 + (3 * (v.1 9))).toNatClampNeg) (v.1 0)) (((100 + (3 * (v.1 9))) + 1).toNatClampNeg) p0), v.2.1, v.2.2.1, v.2.2.2.1, v.2.2.2.2.1, v.2.2.2.2.2.1, v.2.2.2.2.2.2.1, v.2.2.2.2.2.2.2.1, v.2.2.2.2.2.2.2.2.1, v.2.2.2.2.2.2.2.2.2.1, v.2.2.2.2.2.2.2.2.2.2)) := hD
  refine lv_aload_n hx hb dX7_logs_34 rfl (lv_at hl 1 rfl) ?_
  refine va_get (D := g.1) (ci := 7) (v := .ref (a 1)) (C := RX7) (T := TX7) (N := 11) hx hb hw0 ziX7 hown hK.1 hP 0 rfl rfl 0 (by decide) (hw0 _ zm4_71) (fun _ h9 => h9) rfl dX7_logs_35 ?_
  refine lv_iload_n hx hb dX7_logs_38 rfl (lv_at hl 0 rfl) ?_
  refine lv_iconst (v := 2) hx hb dX7_logs_39 (by decide) ?_
  refine lv_iadd hx hb dX7_logs_40 ?_
  refine lv_iload_n hx hb dX7_logs_41 rfl (lv_at hl 3 rfl) ?_
  obtain ⟨h3, hf⟩ := og hf
  refine zast (D := g.1) (f := (upd (upd v.1 ((100 + (3 * (v.1 9))).toNatClampNeg) (v.1 0)) (((100 + (3 * (v.1 9))) + 1).toNatClampNeg) p0)) (k := ((100 + (3 * (v.1 9))) + 2).toNatClampNeg) (x := p1) hx hb hK.1 hP hD hS 1 0 rfl rfl (zin_vp h3) rfl dX7_logs_42 (fun H locs hP hD hS => ?_)
  have hP : va_P g.1 vwCl (zX7 g a ((upd (upd (upd v.1 ((100 + (3 * (v.1 9))).toNatClampNeg) (v.1 0)) (((100 + (3 * (v.1 9))) + 1).toNatClampNeg) p0) (((100 + (3 * (v.1 9))) + 2).toNatClampNeg) p1), v.2.1, v.2.2.1, v.2.2.2.1, v.2.2.2.2.1, v.2.2.2.2.2.1, v.2.2.2.2.2.2.1, v.2.2.2.2.2.2.2.1, v.2.2.2.2.2.2.2.2.1, v.2.2.2.2.2.2.2.2.2.1, v.2.2.2.2.2.2.2.2.2.2)) H := hP
  have hD : va_D A (zX7 g a ((upd (upd (upd v.1 ((100 + (3 * (v.1 9))).toNatClampNeg) (v.1 0)) (((100 + (3 * (v.1 9))) + 1).toNatClampNeg) p0) (((100 + (3 * (v.1 9))) + 2).toNatClampNeg) p1), v.2.1, v.2.2.1, v.2.2.2.1, v.2.2.2.2.1, v.2.2.2.2.2.1, v.2.2.2.2.2.2.1, v.2.2.2.2.2.2.2.1, v.2.2.2.2.2.2.2.2.1, v.2.2.2.2.2.2.2.2.2.1, v.2.2.2.2.2.2.2.2.2.2)) := hD
  refine lv_aload_n hx hb dX7_logs_43 rfl (lv_at hl 1 rfl) ?_
  refine va_get (D := g.1) (ci := 7) (v := .ref (a 1)) (C := RX7) (T := TX7) (N := 11) hx hb hw0 ziX7 hown hK.1 hP 0 rfl rfl 0 (by decide) (hw0 _ zm4_71) (fun _ h9 => h9) rfl dX7_logs_44 ?_
  refine lv_bipush (v := 9) hx hb dX7_logs_47 (by decide) ?_
  refine lv_dup2_11 hx hb dX7_logs_49 rfl rfl ?_
  refine zald (D := g.1) (f := (upd (upd (upd v.1 ((100 + (3 * (v.1 9))).toNatClampNeg) (v.1 0)) (((100 + (3 * (v.1 9))) + 1).toNatClampNeg) p0) (((100 + (3 * (v.1 9))) + 2).toNatClampNeg) p1)) (k := 9) hx hb hK.1 hP 1 0 rfl rfl (zin_vp (i := 9) (n := 220) rfl) rfl dX7_logs_50 ?_
  refine lv_iconst (v := 1) hx hb dX7_logs_51 (by decide) ?_
  refine lv_iadd hx hb dX7_logs_52 ?_
  refine zast (D := g.1) (f := (upd (upd (upd v.1 ((100 + (3 * (v.1 9))).toNatClampNeg) (v.1 0)) (((100 + (3 * (v.1 9))) + 1).toNatClampNeg) p0) (((100 + (3 * (v.1 9))) + 2).toNatClampNeg) p1)) (k := 9) (x := (((upd (upd (upd v.1 ((100 + (3 * (v.1 9))).toNatClampNeg) (v.1 0)) (((100 + (3 * (v.1 9))) + 1).toNatClampNeg) p0) (((100 + (3 * (v.1 9))) + 2).toNatClampNeg) p1) 9) + 1)) hx hb hK.1 hP hD hS 1 0 rfl rfl (zin_vp (i := 9) (n := 220) rfl) rfl dX7_logs_53 (fun H locs hP hD hS => ?_)
  have hP : va_P g.1 vwCl (zX7 g a ((upd (upd (upd (upd v.1 ((100 + (3 * (v.1 9))).toNatClampNeg) (v.1 0)) (((100 + (3 * (v.1 9))) + 1).toNatClampNeg) p0) (((100 + (3 * (v.1 9))) + 2).toNatClampNeg) p1) 9 (((upd (upd (upd v.1 ((100 + (3 * (v.1 9))).toNatClampNeg) (v.1 0)) (((100 + (3 * (v.1 9))) + 1).toNatClampNeg) p0) (((100 + (3 * (v.1 9))) + 2).toNatClampNeg) p1) 9) + 1)), v.2.1, v.2.2.1, v.2.2.2.1, v.2.2.2.2.1, v.2.2.2.2.2.1, v.2.2.2.2.2.2.1, v.2.2.2.2.2.2.2.1, v.2.2.2.2.2.2.2.2.1, v.2.2.2.2.2.2.2.2.2.1, v.2.2.2.2.2.2.2.2.2.2)) H := hP
  have hD : va_D A (zX7 g a ((upd (upd (upd (upd v.1 ((100 + (3 * (v.1 9))).toNatClampNeg) (v.1 0)) (((100 + (3 * (v.1 9))) + 1).toNatClampNeg) p0) (((100 + (3 * (v.1 9))) + 2).toNatClampNeg) p1) 9 (((upd (upd (upd v.1 ((100 + (3 * (v.1 9))).toNatClampNeg) (v.1 0)) (((100 + (3 * (v.1 9))) + 1).toNatClampNeg) p0) (((100 + (3 * (v.1 9))) + 2).toNatClampNeg) p1) 9) + 1)), v.2.1, v.2.2.1, v.2.2.2.1, v.2.2.2.2.1, v.2.2.2.2.2.1, v.2.2.2.2.2.2.1, v.2.2.2.2.2.2.2.1, v.2.2.2.2.2.2.2.2.1, v.2.2.2.2.2.2.2.2.2.1, v.2.2.2.2.2.2.2.2.2.2)) := hD
  have hR : ((upd (upd (upd (upd v.1 ((100 + (3 * (v.1 9))).toNatClampNeg) (v.1 0)) (((100 + (3 * (v.1 9))) + 1).toNatClampNeg) p0) (((100 + (3 * (v.1 9))) + 2).toNatClampNeg) p1) 9 (((upd (upd (upd v.1 ((100 + (3 * (v.1 9))).toNatClampNeg) (v.1 0)) (((100 + (3 * (v.1 9))) + 1).toNatClampNeg) p0) (((100 + (3 * (v.1 9))) + 2).toNatClampNeg) p1) 9) + 1)), v.2.1, v.2.2.1, v.2.2.2.1, v.2.2.2.2.1, v.2.2.2.2.2.1, v.2.2.2.2.2.2.1, v.2.2.2.2.2.2.2.1, v.2.2.2.2.2.2.2.2.1, v.2.2.2.2.2.2.2.2.2.1, v.2.2.2.2.2.2.2.2.2.2) = r := Option.some.inj hf
  subst hR
  exact W.vret hx hb hr0 (fun t ht hW => ⟨⟨(), rfl, trivial, by rw [ht]; exact hP, hD⟩, hS.F ht⟩) hS.2.2 dX7_logs_54
theorem hd_X7_lets : yX7_lets.cls ≠ "java/lang/invoke/MethodHandle" ∧ yX7_lets.cls ≠ "java/lang/invoke/VarHandle" ∧ (parseMethodDescriptor yX7_lets.desc).map (fun d => d.parameters.length) = some 1 := by decide +kernel
def f_X7_lets (v : MV) (p0 : Int32) : Option (MV) :=
  if zin ((10 + (5 * p0)) + 3) 220 = true then
  (f_X7_logs ((upd v.1 (((10 + (5 * p0)) + 3).toNatClampNeg) 3), v.2.1, v.2.2.1, v.2.2.2.1, v.2.2.2.2.1, v.2.2.2.2.2.1, v.2.2.2.2.2.2.1, v.2.2.2.2.2.2.2.1, v.2.2.2.2.2.2.2.2.1, v.2.2.2.2.2.2.2.2.2.1, v.2.2.2.2.2.2.2.2.2.2) 3 p0).bind (fun u2 =>
  some u2)
  else none
set_option maxHeartbeats 4000000 in
set_option maxRecDepth 100000 in
theorem c_X7_lets (l : Launch) (g : zG) (a : Nat → Nat) (v : MV) (p0 : Int32) (r : MV) (hf : f_X7_lets v p0 = some r) : zMv zNF zNM l yX7_lets (zw yX7_lets cX7_lets 2 none) ({ frames := 1, cells := 0, slots := 0, locals := 23 } : Room) g [.ref (a 0), .int p0] (zX7 g a v) (zX7 g a r) := by
  intro sz
  refine Met.ofW (cc := cX7_lets) (maxL := 2) (ret := none) (by decide) rfl ?_
  intro p e s m args below meth c s₁ B hml hv
  obtain ⟨rfl, hsz, hP, hK, hD0⟩ := hv
  have hx := B.exec
  have hb := B.bytes
  have hr0 := B.returns
  have hts := atoms_spec (ws := (zw yX7_lets cX7_lets 2 none)) B.pre
  have hw0 : ∀ w ∈ zW, w.before ([.ref (a 0), .int p0] : List Value).toArray s = true := fun w h => hts w (List.mem_cons_of_mem _ h)
  have hown : s.vm.findClass RX7 = some m.cls := findClass_of_methodNamed B.named
  have hlocks := B.notSynchronized
  subst hsz
  have hD := hD0.self (sz := s.heap.size)
  generalize hAe : va_A (zX7 g a v) s.heap.size = A at hD ⊢
  have hA : ∀ q : Nat, s.heap.size ≤ q → A q := fun q h => by rw [← hAe]; exact Or.inr h
  have hS : va_S A s.heap s.heap [] := va_S.rf
  unfold f_X7_lets at hf
  have hl := lv_entry ([.ref (a 0), .int p0]) (n := 2) (Nat.le_of_ble_eq_true rfl)
  rw [lg_entry_eq]
  generalize (lg_sl ([.ref (a 0), .int p0]) ++ List.replicate (2 - (lg_sl ([.ref (a 0), .int p0])).length) Slot.unset).toArray = ls at hl ⊢
  have hl : lv_has ls 2 [(0, .ref (a 0)), (1, .int p0)] := hl
  refine lv_aload_n hx hb dX7_lets_0 rfl (lv_at hl 0 rfl) ?_
  refine va_get (D := g.1) (ci := 7) (v := .ref (a 1)) (C := RX7) (T := TX7) (N := 11) hx hb hw0 ziX7 hown hK.1 hP 0 rfl rfl 0 (by decide) (hw0 _ zm4_71) (fun _ h9 => h9) rfl dX7_lets_1 ?_
  refine lv_bipush (v := 10) hx hb dX7_lets_4 (by decide) ?_
  refine lv_iconst (v := 5) hx hb dX7_lets_6 (by decide) ?_
  refine lv_iload_n hx hb dX7_lets_7 rfl (lv_at hl 1 rfl) ?_
  refine lv_imul hx hb dX7_lets_8 ?_
  refine lv_iadd hx hb dX7_lets_9 ?_
  refine lv_iconst (v := 3) hx hb dX7_lets_10 (by decide) ?_
  refine lv_iadd hx hb dX7_lets_11 ?_
  refine lv_iconst (v := 3) hx hb dX7_lets_12 (by decide) ?_
  obtain ⟨h1, hf⟩ := og hf
  refine zast (D := g.1) (f := v.1) (k := ((10 + (5 * p0)) + 3).toNatClampNeg) (x := 3) hx hb hK.1 hP hD hS 1 0 rfl rfl (zin_vp h1) rfl dX7_lets_13 (fun H locs hP hD hS => ?_)
  have hP : va_P g.1 vwCl (zX7 g a ((upd v.1 (((10 + (5 * p0)) + 3).toNatClampNeg) 3), v.2.1, v.2.2.1, v.2.2.2.1, v.2.2.2.2.1, v.2.2.2.2.2.1, v.2.2.2.2.2.2.1, v.2.2.2.2.2.2.2.1, v.2.2.2.2.2.2.2.2.1, v.2.2.2.2.2.2.2.2.2.1, v.2.2.2.2.2.2.2.2.2.2)) H := hP
  have hD : va_D A (zX7 g a ((upd v.1 (((10 + (5 * p0)) + 3).toNatClampNeg) 3), v.2.1, v.2.2.1, v.2.2.2.1, v.2.2.2.2.1, v.2.2.2.2.2.1, v.2.2.2.2.2.2.1, v.2.2.2.2.2.2.2.1, v.2.2.2.2.2.2.2.2.1, v.2.2.2.2.2.2.2.2.2.1, v.2.2.2.2.2.2.2.2.2.2)) := hD
  refine lv_aload_n hx hb dX7_lets_14 rfl (lv_at hl 0 rfl) ?_
  refine lv_iconst (v := 3) hx hb dX7_lets_15 (by decide) ?_
  refine lv_iload_n hx hb dX7_lets_16 rfl (lv_at hl 1 rfl) ?_
  obtain ⟨u2, hu2, hf⟩ := ob hf
  refine zk_vA (va_runV (As := [.int 3, .int p0]) (rest := []) ⟨hx, hb, hml, hown, hts⟩ (c_X7_logs l g a ((upd v.1 (((10 + (5 * p0)) + 3).toNatClampNeg) 3), v.2.1, v.2.2.1, v.2.2.2.1, v.2.2.2.2.1, v.2.2.2.2.2.1, v.2.2.2.2.2.2.1, v.2.2.2.2.2.2.2.1, v.2.2.2.2.2.2.2.2.1, v.2.2.2.2.2.2.2.2.2.1, v.2.2.2.2.2.2.2.2.2.2) 3 p0 _ hu2 _) (zcV hw0 zm4_168 zm4_171 zm1_8 zm4_170 zs5_11 hd_X7_logs rfl rfl ⟨Nat.le_of_ble_eq_true rfl, Nat.le_of_ble_eq_true rfl⟩) ⟨zblind, zrecvA hK hP (ci := 7) rfl rfl, zpreA hK hP hD⟩ rfl rfl hl.1 rfl (lv_room (Nat.le_of_ble_eq_true rfl)) dX7_lets_17 ⟨Nat.zero_le _, Nat.zero_le _⟩) hP hD hS hA (fun H locs hP hD hS => ?_)
  have hP : va_P g.1 vwCl (zX7 g a u2) H := hP
  have hD : va_D A (zX7 g a u2) := hD
  have hR : u2 = r := Option.some.inj hf
  subst hR
  exact W.vret hx hb hr0 (fun t ht hW => ⟨⟨(), rfl, trivial, by rw [ht]; exact hP, hD⟩, hS.F ht⟩) hS.2.2 dX7_lets_20
theorem hd_X7_goesOnAir : yX7_goesOnAir.cls ≠ "java/lang/invoke/MethodHandle" ∧ yX7_goesOnAir.cls ≠ "java/lang/invoke/VarHandle" ∧ (parseMethodDescriptor yX7_goesOnAir.desc).map (fun d => d.parameters.length) = some 3 := by decide +kernel
def f_X7_goesOnAir (v : MV) (p0 : Int32) (p1 : Int32) (p2 : Int32) : Option (MV) :=
  (f_X7_logs ((upd (upd (upd v.1 2 p0) 3 p1) 4 (((upd (upd v.1 2 p0) 3 p1) 0) + p2)), v.2.1, v.2.2.1, v.2.2.2.1, v.2.2.2.2.1, v.2.2.2.2.2.1, v.2.2.2.2.2.2.1, v.2.2.2.2.2.2.2.1, v.2.2.2.2.2.2.2.2.1, v.2.2.2.2.2.2.2.2.2.1, v.2.2.2.2.2.2.2.2.2.2) (p0 - 1) p1).bind (fun u1 =>
  some u1)
set_option maxHeartbeats 4000000 in
set_option maxRecDepth 100000 in
theorem c_X7_goesOnAir (l : Launch) (g : zG) (a : Nat → Nat) (v : MV) (p0 : Int32) (p1 : Int32) (p2 : Int32) (r : MV) (hf : f_X7_goesOnAir v p0 p1 p2 = some r) : zMv zNF zNM l yX7_goesOnAir (zw yX7_goesOnAir cX7_goesOnAir 4 none) ({ frames := 1, cells := 0, slots := 0, locals := 23 } : Room) g [.ref (a 0), .int p0, .int p1, .int p2] (zX7 g a v) (zX7 g a r) := by
  intro sz
  refine Met.ofW (cc := cX7_goesOnAir) (maxL := 4) (ret := none) (by decide) rfl ?_
  intro p e s m args below meth c s₁ B hml hv
  obtain ⟨rfl, hsz, hP, hK, hD0⟩ := hv
  have hx := B.exec
  have hb := B.bytes
  have hr0 := B.returns
  have hts := atoms_spec (ws := (zw yX7_goesOnAir cX7_goesOnAir 4 none)) B.pre
  have hw0 : ∀ w ∈ zW, w.before ([.ref (a 0), .int p0, .int p1, .int p2] : List Value).toArray s = true := fun w h => hts w (List.mem_cons_of_mem _ h)
  have hown : s.vm.findClass RX7 = some m.cls := findClass_of_methodNamed B.named
  have hlocks := B.notSynchronized
  subst hsz
  have hD := hD0.self (sz := s.heap.size)
  generalize hAe : va_A (zX7 g a v) s.heap.size = A at hD ⊢
  have hA : ∀ q : Nat, s.heap.size ≤ q → A q := fun q h => by rw [← hAe]; exact Or.inr h
  have hS : va_S A s.heap s.heap [] := va_S.rf
  unfold f_X7_goesOnAir at hf
  have hl := lv_entry ([.ref (a 0), .int p0, .int p1, .int p2]) (n := 4) (Nat.le_of_ble_eq_true rfl)
  rw [lg_entry_eq]
  generalize (lg_sl ([.ref (a 0), .int p0, .int p1, .int p2]) ++ List.replicate (4 - (lg_sl ([.ref (a 0), .int p0, .int p1, .int p2])).length) Slot.unset).toArray = ls at hl ⊢
  have hl : lv_has ls 4 [(0, .ref (a 0)), (1, .int p0), (2, .int p1), (3, .int p2)] := hl
  refine lv_aload_n hx hb dX7_goesOnAir_0 rfl (lv_at hl 0 rfl) ?_
  refine va_get (D := g.1) (ci := 7) (v := .ref (a 1)) (C := RX7) (T := TX7) (N := 11) hx hb hw0 ziX7 hown hK.1 hP 0 rfl rfl 0 (by decide) (hw0 _ zm4_71) (fun _ h9 => h9) rfl dX7_goesOnAir_1 ?_
  refine lv_iconst (v := 2) hx hb dX7_goesOnAir_4 (by decide) ?_
  refine lv_iload_n hx hb dX7_goesOnAir_5 rfl (lv_at hl 1 rfl) ?_
  refine zast (D := g.1) (f := v.1) (k := 2) (x := p0) hx hb hK.1 hP hD hS 1 0 rfl rfl (zin_vp (i := 2) (n := 220) rfl) rfl dX7_goesOnAir_6 (fun H locs hP hD hS => ?_)
  have hP : va_P g.1 vwCl (zX7 g a ((upd v.1 2 p0), v.2.1, v.2.2.1, v.2.2.2.1, v.2.2.2.2.1, v.2.2.2.2.2.1, v.2.2.2.2.2.2.1, v.2.2.2.2.2.2.2.1, v.2.2.2.2.2.2.2.2.1, v.2.2.2.2.2.2.2.2.2.1, v.2.2.2.2.2.2.2.2.2.2)) H := hP
  have hD : va_D A (zX7 g a ((upd v.1 2 p0), v.2.1, v.2.2.1, v.2.2.2.1, v.2.2.2.2.1, v.2.2.2.2.2.1, v.2.2.2.2.2.2.1, v.2.2.2.2.2.2.2.1, v.2.2.2.2.2.2.2.2.1, v.2.2.2.2.2.2.2.2.2.1, v.2.2.2.2.2.2.2.2.2.2)) := hD
  refine lv_aload_n hx hb dX7_goesOnAir_7 rfl (lv_at hl 0 rfl) ?_
  refine va_get (D := g.1) (ci := 7) (v := .ref (a 1)) (C := RX7) (T := TX7) (N := 11) hx hb hw0 ziX7 hown hK.1 hP 0 rfl rfl 0 (by decide) (hw0 _ zm4_71) (fun _ h9 => h9) rfl dX7_goesOnAir_8 ?_
  refine lv_iconst (v := 3) hx hb dX7_goesOnAir_11 (by decide) ?_
  refine lv_iload_n hx hb dX7_goesOnAir_12 rfl (lv_at hl 2 rfl) ?_
  refine zast (D := g.1) (f := (upd v.1 2 p0)) (k := 3) (x := p1) hx hb hK.1 hP hD hS 1 0 rfl rfl (zin_vp (i := 3) (n := 220) rfl) rfl dX7_goesOnAir_13 (fun H locs hP hD hS => ?_)
  have hP : va_P g.1 vwCl (zX7 g a ((upd (upd v.1 2 p0) 3 p1), v.2.1, v.2.2.1, v.2.2.2.1, v.2.2.2.2.1, v.2.2.2.2.2.1, v.2.2.2.2.2.2.1, v.2.2.2.2.2.2.2.1, v.2.2.2.2.2.2.2.2.1, v.2.2.2.2.2.2.2.2.2.1, v.2.2.2.2.2.2.2.2.2.2)) H := hP
  have hD : va_D A (zX7 g a ((upd (upd v.1 2 p0) 3 p1), v.2.1, v.2.2.1, v.2.2.2.1, v.2.2.2.2.1, v.2.2.2.2.2.1, v.2.2.2.2.2.2.1, v.2.2.2.2.2.2.2.1, v.2.2.2.2.2.2.2.2.1, v.2.2.2.2.2.2.2.2.2.1, v.2.2.2.2.2.2.2.2.2.2)) := hD
  refine lv_aload_n hx hb dX7_goesOnAir_14 rfl (lv_at hl 0 rfl) ?_
  refine va_get (D := g.1) (ci := 7) (v := .ref (a 1)) (C := RX7) (T := TX7) (N := 11) hx hb hw0 ziX7 hown hK.1 hP 0 rfl rfl 0 (by decide) (hw0 _ zm4_71) (fun _ h9 => h9) rfl dX7_goesOnAir_15 ?_
  refine lv_iconst (v := 4) hx hb dX7_goesOnAir_18 (by decide) ?_
  refine lv_aload_n hx hb dX7_goesOnAir_19 rfl (lv_at hl 0 rfl) ?_
  refine va_get (D := g.1) (ci := 7) (v := .ref (a 1)) (C := RX7) (T := TX7) (N := 11) hx hb hw0 ziX7 hown hK.1 hP 0 rfl rfl 0 (by decide) (hw0 _ zm4_71) (fun _ h9 => h9) rfl dX7_goesOnAir_20 ?_
  refine lv_iconst (v := 0) hx hb dX7_goesOnAir_23 (by decide) ?_
  refine zald (D := g.1) (f := (upd (upd v.1 2 p0) 3 p1)) (k := 0) hx hb hK.1 hP 1 0 rfl rfl (zin_vp (i := 0) (n := 220) rfl) rfl dX7_goesOnAir_24 ?_
  refine lv_iload_n hx hb dX7_goesOnAir_25 rfl (lv_at hl 3 rfl) ?_
  refine lv_iadd hx hb dX7_goesOnAir_26 ?_
  refine zast (D := g.1) (f := (upd (upd v.1 2 p0) 3 p1)) (k := 4) (x := (((upd (upd v.1 2 p0) 3 p1) 0) + p2)) hx hb hK.1 hP hD hS 1 0 rfl rfl (zin_vp (i := 4) (n := 220) rfl) rfl dX7_goesOnAir_27 (fun H locs hP hD hS => ?_)
  have hP : va_P g.1 vwCl (zX7 g a ((upd (upd (upd v.1 2 p0) 3 p1) 4 (((upd (upd v.1 2 p0) 3 p1) 0) + p2)), v.2.1, v.2.2.1, v.2.2.2.1, v.2.2.2.2.1, v.2.2.2.2.2.1, v.2.2.2.2.2.2.1, v.2.2.2.2.2.2.2.1, v.2.2.2.2.2.2.2.2.1, v.2.2.2.2.2.2.2.2.2.1, v.2.2.2.2.2.2.2.2.2.2)) H := hP
  have hD : va_D A (zX7 g a ((upd (upd (upd v.1 2 p0) 3 p1) 4 (((upd (upd v.1 2 p0) 3 p1) 0) + p2)), v.2.1, v.2.2.1, v.2.2.2.1, v.2.2.2.2.1, v.2.2.2.2.2.1, v.2.2.2.2.2.2.1, v.2.2.2.2.2.2.2.1, v.2.2.2.2.2.2.2.2.1, v.2.2.2.2.2.2.2.2.2.1, v.2.2.2.2.2.2.2.2.2.2)) := hD
  refine lv_aload_n hx hb dX7_goesOnAir_28 rfl (lv_at hl 0 rfl) ?_
  refine lv_iload_n hx hb dX7_goesOnAir_29 rfl (lv_at hl 1 rfl) ?_
  refine lv_iconst (v := 1) hx hb dX7_goesOnAir_30 (by decide) ?_
  refine lv_isub hx hb dX7_goesOnAir_31 ?_
  refine lv_iload_n hx hb dX7_goesOnAir_32 rfl (lv_at hl 2 rfl) ?_
  obtain ⟨u1, hu1, hf⟩ := ob hf
  refine zk_vA (va_runV (As := [.int (p0 - 1), .int p1]) (rest := []) ⟨hx, hb, hml, hown, hts⟩ (c_X7_logs l g a ((upd (upd (upd v.1 2 p0) 3 p1) 4 (((upd (upd v.1 2 p0) 3 p1) 0) + p2)), v.2.1, v.2.2.1, v.2.2.2.1, v.2.2.2.2.1, v.2.2.2.2.2.1, v.2.2.2.2.2.2.1, v.2.2.2.2.2.2.2.1, v.2.2.2.2.2.2.2.2.1, v.2.2.2.2.2.2.2.2.2.1, v.2.2.2.2.2.2.2.2.2.2) (p0 - 1) p1 _ hu1 _) (zcV hw0 zm4_168 zm4_171 zm1_8 zm4_170 zs5_11 hd_X7_logs rfl rfl ⟨Nat.le_of_ble_eq_true rfl, Nat.le_of_ble_eq_true rfl⟩) ⟨zblind, zrecvA hK hP (ci := 7) rfl rfl, zpreA hK hP hD⟩ rfl rfl hl.1 rfl (lv_room (Nat.le_of_ble_eq_true rfl)) dX7_goesOnAir_33 ⟨Nat.zero_le _, Nat.zero_le _⟩) hP hD hS hA (fun H locs hP hD hS => ?_)
  have hP : va_P g.1 vwCl (zX7 g a u1) H := hP
  have hD : va_D A (zX7 g a u1) := hD
  have hR : u1 = r := Option.some.inj hf
  subst hR
  exact W.vret hx hb hr0 (fun t ht hW => ⟨⟨(), rfl, trivial, by rw [ht]; exact hP, hD⟩, hS.F ht⟩) hS.2.2 dX7_goesOnAir_36
theorem hd_X7_beginsElement : yX7_beginsElement.cls ≠ "java/lang/invoke/MethodHandle" ∧ yX7_beginsElement.cls ≠ "java/lang/invoke/VarHandle" ∧ (parseMethodDescriptor yX7_beginsElement.desc).map (fun d => d.parameters.length) = some 1 := by decide +kernel
def f_X7_beginsElement (v : MV) (p0 : Int32) : Option (MV) :=
  if zin ((10 + (5 * p0)) + 3) 220 = true then
  if zin ((10 + (5 * p0)) + 4) 220 = true then
  (f_X7_of ((upd (upd v.1 (((10 + (5 * p0)) + 3).toNatClampNeg) 1) (((10 + (5 * p0)) + 4).toNatClampNeg) ((upd v.1 (((10 + (5 * p0)) + 3).toNatClampNeg) 1) 0)), v.2.1, v.2.2.1, v.2.2.2.1, v.2.2.2.2.1, v.2.2.2.2.2.1, v.2.2.2.2.2.2.1, v.2.2.2.2.2.2.2.1, v.2.2.2.2.2.2.2.2.1, v.2.2.2.2.2.2.2.2.2.1, v.2.2.2.2.2.2.2.2.2.2) p0 0).bind (fun u3 =>
  (f_X7_goesOnAir ((upd (upd v.1 (((10 + (5 * p0)) + 3).toNatClampNeg) 1) (((10 + (5 * p0)) + 4).toNatClampNeg) ((upd v.1 (((10 + (5 * p0)) + 3).toNatClampNeg) 1) 0)), v.2.1, v.2.2.1, v.2.2.2.1, v.2.2.2.2.1, v.2.2.2.2.2.1, v.2.2.2.2.2.2.1, v.2.2.2.2.2.2.2.1, v.2.2.2.2.2.2.2.2.1, v.2.2.2.2.2.2.2.2.2.1, v.2.2.2.2.2.2.2.2.2.2) 1 p0 u3).bind (fun u4 =>
  some u4))
  else none
  else none
set_option maxHeartbeats 4000000 in
set_option maxRecDepth 100000 in
theorem c_X7_beginsElement (l : Launch) (g : zG) (a : Nat → Nat) (v : MV) (p0 : Int32) (r : MV) (hf : f_X7_beginsElement v p0 = some r) : zMv zNF zNM l yX7_beginsElement (zw yX7_beginsElement cX7_beginsElement 2 none) ({ frames := 2, cells := 0, slots := 0, locals := 46 } : Room) g [.ref (a 0), .int p0] (zX7 g a v) (zX7 g a r) := by
  intro sz
  refine Met.ofW (cc := cX7_beginsElement) (maxL := 2) (ret := none) (by decide) rfl ?_
  intro p e s m args below meth c s₁ B hml hv
  obtain ⟨rfl, hsz, hP, hK, hD0⟩ := hv
  have hx := B.exec
  have hb := B.bytes
  have hr0 := B.returns
  have hts := atoms_spec (ws := (zw yX7_beginsElement cX7_beginsElement 2 none)) B.pre
  have hw0 : ∀ w ∈ zW, w.before ([.ref (a 0), .int p0] : List Value).toArray s = true := fun w h => hts w (List.mem_cons_of_mem _ h)
  have hown : s.vm.findClass RX7 = some m.cls := findClass_of_methodNamed B.named
  have hlocks := B.notSynchronized
  subst hsz
  have hD := hD0.self (sz := s.heap.size)
  generalize hAe : va_A (zX7 g a v) s.heap.size = A at hD ⊢
  have hA : ∀ q : Nat, s.heap.size ≤ q → A q := fun q h => by rw [← hAe]; exact Or.inr h
  have hS : va_S A s.heap s.heap [] := va_S.rf
  unfold f_X7_beginsElement at hf
  have hl := lv_entry ([.ref (a 0), .int p0]) (n := 2) (Nat.le_of_ble_eq_true rfl)
  rw [lg_entry_eq]
  generalize (lg_sl ([.ref (a 0), .int p0]) ++ List.replicate (2 - (lg_sl ([.ref (a 0), .int p0])).length) Slot.unset).toArray = ls at hl ⊢
  have hl : lv_has ls 2 [(0, .ref (a 0)), (1, .int p0)] := hl
  refine lv_aload_n hx hb dX7_beginsElement_0 rfl (lv_at hl 0 rfl) ?_
  refine va_get (D := g.1) (ci := 7) (v := .ref (a 1)) (C := RX7) (T := TX7) (N := 11) hx hb hw0 ziX7 hown hK.1 hP 0 rfl rfl 0 (by decide) (hw0 _ zm4_71) (fun _ h9 => h9) rfl dX7_beginsElement_1 ?_
  refine lv_bipush (v := 10) hx hb dX7_beginsElement_4 (by decide) ?_
  refine lv_iconst (v := 5) hx hb dX7_beginsElement_6 (by decide) ?_
  refine lv_iload_n hx hb dX7_beginsElement_7 rfl (lv_at hl 1 rfl) ?_
  refine lv_imul hx hb dX7_beginsElement_8 ?_
  refine lv_iadd hx hb dX7_beginsElement_9 ?_
  refine lv_iconst (v := 3) hx hb dX7_beginsElement_10 (by decide) ?_
  refine lv_iadd hx hb dX7_beginsElement_11 ?_
  refine lv_iconst (v := 1) hx hb dX7_beginsElement_12 (by decide) ?_
  obtain ⟨h1, hf⟩ := og hf
  refine zast (D := g.1) (f := v.1) (k := ((10 + (5 * p0)) + 3).toNatClampNeg) (x := 1) hx hb hK.1 hP hD hS 1 0 rfl rfl (zin_vp h1) rfl dX7_beginsElement_13 (fun H locs hP hD hS => ?_)
  have hP : va_P g.1 vwCl (zX7 g a ((upd v.1 (((10 + (5 * p0)) + 3).toNatClampNeg) 1), v.2.1, v.2.2.1, v.2.2.2.1, v.2.2.2.2.1, v.2.2.2.2.2.1, v.2.2.2.2.2.2.1, v.2.2.2.2.2.2.2.1, v.2.2.2.2.2.2.2.2.1, v.2.2.2.2.2.2.2.2.2.1, v.2.2.2.2.2.2.2.2.2.2)) H := hP
  have hD : va_D A (zX7 g a ((upd v.1 (((10 + (5 * p0)) + 3).toNatClampNeg) 1), v.2.1, v.2.2.1, v.2.2.2.1, v.2.2.2.2.1, v.2.2.2.2.2.1, v.2.2.2.2.2.2.1, v.2.2.2.2.2.2.2.1, v.2.2.2.2.2.2.2.2.1, v.2.2.2.2.2.2.2.2.2.1, v.2.2.2.2.2.2.2.2.2.2)) := hD
  refine lv_aload_n hx hb dX7_beginsElement_14 rfl (lv_at hl 0 rfl) ?_
  refine va_get (D := g.1) (ci := 7) (v := .ref (a 1)) (C := RX7) (T := TX7) (N := 11) hx hb hw0 ziX7 hown hK.1 hP 0 rfl rfl 0 (by decide) (hw0 _ zm4_71) (fun _ h9 => h9) rfl dX7_beginsElement_15 ?_
  refine lv_bipush (v := 10) hx hb dX7_beginsElement_18 (by decide) ?_
  refine lv_iconst (v := 5) hx hb dX7_beginsElement_20 (by decide) ?_
  refine lv_iload_n hx hb dX7_beginsElement_21 rfl (lv_at hl 1 rfl) ?_
  refine lv_imul hx hb dX7_beginsElement_22 ?_
  refine lv_iadd hx hb dX7_beginsElement_23 ?_
  refine lv_iconst (v := 4) hx hb dX7_beginsElement_24 (by decide) ?_
  refine lv_iadd hx hb dX7_beginsElement_25 ?_
  refine lv_aload_n hx hb dX7_beginsElement_26 rfl (lv_at hl 0 rfl) ?_
  refine va_get (D := g.1) (ci := 7) (v := .ref (a 1)) (C := RX7) (T := TX7) (N := 11) hx hb hw0 ziX7 hown hK.1 hP 0 rfl rfl 0 (by decide) (hw0 _ zm4_71) (fun _ h9 => h9) rfl dX7_beginsElement_27 ?_
  refine lv_iconst (v := 0) hx hb dX7_beginsElement_30 (by decide) ?_
  refine zald (D := g.1) (f := (upd v.1 (((10 + (5 * p0)) + 3).toNatClampNeg) 1)) (k := 0) hx hb hK.1 hP 1 0 rfl rfl (zin_vp (i := 0) (n := 220) rfl) rfl dX7_beginsElement_31 ?_
  obtain ⟨h2, hf⟩ := og hf
  refine zast (D := g.1) (f := (upd v.1 (((10 + (5 * p0)) + 3).toNatClampNeg) 1)) (k := ((10 + (5 * p0)) + 4).toNatClampNeg) (x := ((upd v.1 (((10 + (5 * p0)) + 3).toNatClampNeg) 1) 0)) hx hb hK.1 hP hD hS 1 0 rfl rfl (zin_vp h2) rfl dX7_beginsElement_32 (fun H locs hP hD hS => ?_)
  have hP : va_P g.1 vwCl (zX7 g a ((upd (upd v.1 (((10 + (5 * p0)) + 3).toNatClampNeg) 1) (((10 + (5 * p0)) + 4).toNatClampNeg) ((upd v.1 (((10 + (5 * p0)) + 3).toNatClampNeg) 1) 0)), v.2.1, v.2.2.1, v.2.2.2.1, v.2.2.2.2.1, v.2.2.2.2.2.1, v.2.2.2.2.2.2.1, v.2.2.2.2.2.2.2.1, v.2.2.2.2.2.2.2.2.1, v.2.2.2.2.2.2.2.2.2.1, v.2.2.2.2.2.2.2.2.2.2)) H := hP
  have hD : va_D A (zX7 g a ((upd (upd v.1 (((10 + (5 * p0)) + 3).toNatClampNeg) 1) (((10 + (5 * p0)) + 4).toNatClampNeg) ((upd v.1 (((10 + (5 * p0)) + 3).toNatClampNeg) 1) 0)), v.2.1, v.2.2.1, v.2.2.2.1, v.2.2.2.2.1, v.2.2.2.2.2.1, v.2.2.2.2.2.2.1, v.2.2.2.2.2.2.2.1, v.2.2.2.2.2.2.2.2.1, v.2.2.2.2.2.2.2.2.2.1, v.2.2.2.2.2.2.2.2.2.2)) := hD
  refine lv_aload_n hx hb dX7_beginsElement_33 rfl (lv_at hl 0 rfl) ?_
  refine lv_iconst (v := 1) hx hb dX7_beginsElement_34 (by decide) ?_
  refine lv_iload_n hx hb dX7_beginsElement_35 rfl (lv_at hl 1 rfl) ?_
  refine lv_aload_n hx hb dX7_beginsElement_36 rfl (lv_at hl 0 rfl) ?_
  refine lv_iload_n hx hb dX7_beginsElement_37 rfl (lv_at hl 1 rfl) ?_
  refine lv_iconst (v := 0) hx hb dX7_beginsElement_38 (by decide) ?_
  obtain ⟨u3, hu3, hf⟩ := ob hf
  refine zk_iA (va_runV (As := [.int p0, .int 0]) (rest := [.int p0, .int 1, .ref (a 0)]) ⟨hx, hb, hml, hown, hts⟩ (c_X7_of l g a ((upd (upd v.1 (((10 + (5 * p0)) + 3).toNatClampNeg) 1) (((10 + (5 * p0)) + 4).toNatClampNeg) ((upd v.1 (((10 + (5 * p0)) + 3).toNatClampNeg) 1) 0)), v.2.1, v.2.2.1, v.2.2.2.1, v.2.2.2.2.1, v.2.2.2.2.2.1, v.2.2.2.2.2.2.1, v.2.2.2.2.2.2.2.1, v.2.2.2.2.2.2.2.2.1, v.2.2.2.2.2.2.2.2.2.1, v.2.2.2.2.2.2.2.2.2.2) p0 0 _ hu3 _) (zcV hw0 zm4_144 zm4_147 zm1_8 zm4_146 zs5_6 hd_X7_of rfl rfl ⟨Nat.le_of_ble_eq_true rfl, Nat.le_of_ble_eq_true rfl⟩) ⟨zblind, zrecvA hK hP (ci := 7) rfl rfl, zpreA hK hP hD⟩ rfl rfl hl.1 rfl (lv_room (Nat.le_of_ble_eq_true rfl)) dX7_beginsElement_39 ⟨Nat.zero_le _, Nat.zero_le _⟩) hP hD hS hA (fun H locs hP hD hS => ?_)
  obtain ⟨u4, hu4, hf⟩ := ob hf
  refine zk_vA (va_runV (As := [.int 1, .int p0, .int u3]) (rest := []) ⟨hx, hb, hml, hown, hts⟩ (c_X7_goesOnAir l g a ((upd (upd v.1 (((10 + (5 * p0)) + 3).toNatClampNeg) 1) (((10 + (5 * p0)) + 4).toNatClampNeg) ((upd v.1 (((10 + (5 * p0)) + 3).toNatClampNeg) 1) 0)), v.2.1, v.2.2.1, v.2.2.2.1, v.2.2.2.2.1, v.2.2.2.2.2.1, v.2.2.2.2.2.2.1, v.2.2.2.2.2.2.2.1, v.2.2.2.2.2.2.2.2.1, v.2.2.2.2.2.2.2.2.2.1, v.2.2.2.2.2.2.2.2.2.2) 1 p0 u3 _ hu4 _) (zcV hw0 zm4_216 zm4_219 zm1_8 zm4_218 zs6_6 hd_X7_goesOnAir rfl rfl ⟨Nat.le_of_ble_eq_true rfl, Nat.le_of_ble_eq_true rfl⟩) ⟨zblind, zrecvA hK hP (ci := 7) rfl rfl, zpreA hK hP hD⟩ rfl rfl hl.1 rfl (lv_room (Nat.le_of_ble_eq_true rfl)) dX7_beginsElement_42 ⟨Nat.zero_le _, Nat.zero_le _⟩) hP hD hS hA (fun H locs hP hD hS => ?_)
  have hP : va_P g.1 vwCl (zX7 g a u4) H := hP
  have hD : va_D A (zX7 g a u4) := hD
  have hR : u4 = r := Option.some.inj hf
  subst hR
  exact W.vret hx hb hr0 (fun t ht hW => ⟨⟨(), rfl, trivial, by rw [ht]; exact hP, hD⟩, hS.F ht⟩) hS.2.2 dX7_beginsElement_45
theorem hd_X7_beginsFiller : yX7_beginsFiller.cls ≠ "java/lang/invoke/MethodHandle" ∧ yX7_beginsFiller.cls ≠ "java/lang/invoke/VarHandle" ∧ (parseMethodDescriptor yX7_beginsFiller.desc).map (fun d => d.parameters.length) = some 1 := by decide +kernel
def f_X7_beginsFiller (v : MV) (p0 : Int32) : Option (MV) :=
  if zin ((70 + (3 * p0)) + 1) 220 = true then
  if zin ((70 + (3 * p0)) + 2) 220 = true then
  (f_X7_ofFiller ((upd (upd v.1 (((70 + (3 * p0)) + 1).toNatClampNeg) 1) (((70 + (3 * p0)) + 2).toNatClampNeg) ((upd v.1 (((70 + (3 * p0)) + 1).toNatClampNeg) 1) 0)), v.2.1, v.2.2.1, v.2.2.2.1, v.2.2.2.2.1, v.2.2.2.2.2.1, v.2.2.2.2.2.2.1, v.2.2.2.2.2.2.2.1, v.2.2.2.2.2.2.2.2.1, v.2.2.2.2.2.2.2.2.2.1, v.2.2.2.2.2.2.2.2.2.2) p0 0).bind (fun u3 =>
  (f_X7_goesOnAir ((upd (upd v.1 (((70 + (3 * p0)) + 1).toNatClampNeg) 1) (((70 + (3 * p0)) + 2).toNatClampNeg) ((upd v.1 (((70 + (3 * p0)) + 1).toNatClampNeg) 1) 0)), v.2.1, v.2.2.1, v.2.2.2.1, v.2.2.2.2.1, v.2.2.2.2.2.1, v.2.2.2.2.2.2.1, v.2.2.2.2.2.2.2.1, v.2.2.2.2.2.2.2.2.1, v.2.2.2.2.2.2.2.2.2.1, v.2.2.2.2.2.2.2.2.2.2) 2 p0 u3).bind (fun u4 =>
  some u4))
  else none
  else none
set_option maxHeartbeats 4000000 in
set_option maxRecDepth 100000 in
theorem c_X7_beginsFiller (l : Launch) (g : zG) (a : Nat → Nat) (v : MV) (p0 : Int32) (r : MV) (hf : f_X7_beginsFiller v p0 = some r) : zMv zNF zNM l yX7_beginsFiller (zw yX7_beginsFiller cX7_beginsFiller 2 none) ({ frames := 2, cells := 0, slots := 0, locals := 46 } : Room) g [.ref (a 0), .int p0] (zX7 g a v) (zX7 g a r) := by
  intro sz
  refine Met.ofW (cc := cX7_beginsFiller) (maxL := 2) (ret := none) (by decide) rfl ?_
  intro p e s m args below meth c s₁ B hml hv
  obtain ⟨rfl, hsz, hP, hK, hD0⟩ := hv
  have hx := B.exec
  have hb := B.bytes
  have hr0 := B.returns
  have hts := atoms_spec (ws := (zw yX7_beginsFiller cX7_beginsFiller 2 none)) B.pre
  have hw0 : ∀ w ∈ zW, w.before ([.ref (a 0), .int p0] : List Value).toArray s = true := fun w h => hts w (List.mem_cons_of_mem _ h)
  have hown : s.vm.findClass RX7 = some m.cls := findClass_of_methodNamed B.named
  have hlocks := B.notSynchronized
  subst hsz
  have hD := hD0.self (sz := s.heap.size)
  generalize hAe : va_A (zX7 g a v) s.heap.size = A at hD ⊢
  have hA : ∀ q : Nat, s.heap.size ≤ q → A q := fun q h => by rw [← hAe]; exact Or.inr h
  have hS : va_S A s.heap s.heap [] := va_S.rf
  unfold f_X7_beginsFiller at hf
  have hl := lv_entry ([.ref (a 0), .int p0]) (n := 2) (Nat.le_of_ble_eq_true rfl)
  rw [lg_entry_eq]
  generalize (lg_sl ([.ref (a 0), .int p0]) ++ List.replicate (2 - (lg_sl ([.ref (a 0), .int p0])).length) Slot.unset).toArray = ls at hl ⊢
  have hl : lv_has ls 2 [(0, .ref (a 0)), (1, .int p0)] := hl
  refine lv_aload_n hx hb dX7_beginsFiller_0 rfl (lv_at hl 0 rfl) ?_
  refine va_get (D := g.1) (ci := 7) (v := .ref (a 1)) (C := RX7) (T := TX7) (N := 11) hx hb hw0 ziX7 hown hK.1 hP 0 rfl rfl 0 (by decide) (hw0 _ zm4_71) (fun _ h9 => h9) rfl dX7_beginsFiller_1 ?_
  refine lv_bipush (v := 70) hx hb dX7_beginsFiller_4 (by decide) ?_
  refine lv_iconst (v := 3) hx hb dX7_beginsFiller_6 (by decide) ?_
  refine lv_iload_n hx hb dX7_beginsFiller_7 rfl (lv_at hl 1 rfl) ?_
  refine lv_imul hx hb dX7_beginsFiller_8 ?_
  refine lv_iadd hx hb dX7_beginsFiller_9 ?_
  refine lv_iconst (v := 1) hx hb dX7_beginsFiller_10 (by decide) ?_
  refine lv_iadd hx hb dX7_beginsFiller_11 ?_
  refine lv_iconst (v := 1) hx hb dX7_beginsFiller_12 (by decide) ?_
  obtain ⟨h1, hf⟩ := og hf
  refine zast (D := g.1) (f := v.1) (k := ((70 + (3 * p0)) + 1).toNatClampNeg) (x := 1) hx hb hK.1 hP hD hS 1 0 rfl rfl (zin_vp h1) rfl dX7_beginsFiller_13 (fun H locs hP hD hS => ?_)
  have hP : va_P g.1 vwCl (zX7 g a ((upd v.1 (((70 + (3 * p0)) + 1).toNatClampNeg) 1), v.2.1, v.2.2.1, v.2.2.2.1, v.2.2.2.2.1, v.2.2.2.2.2.1, v.2.2.2.2.2.2.1, v.2.2.2.2.2.2.2.1, v.2.2.2.2.2.2.2.2.1, v.2.2.2.2.2.2.2.2.2.1, v.2.2.2.2.2.2.2.2.2.2)) H := hP
  have hD : va_D A (zX7 g a ((upd v.1 (((70 + (3 * p0)) + 1).toNatClampNeg) 1), v.2.1, v.2.2.1, v.2.2.2.1, v.2.2.2.2.1, v.2.2.2.2.2.1, v.2.2.2.2.2.2.1, v.2.2.2.2.2.2.2.1, v.2.2.2.2.2.2.2.2.1, v.2.2.2.2.2.2.2.2.2.1, v.2.2.2.2.2.2.2.2.2.2)) := hD
  refine lv_aload_n hx hb dX7_beginsFiller_14 rfl (lv_at hl 0 rfl) ?_
  refine va_get (D := g.1) (ci := 7) (v := .ref (a 1)) (C := RX7) (T := TX7) (N := 11) hx hb hw0 ziX7 hown hK.1 hP 0 rfl rfl 0 (by decide) (hw0 _ zm4_71) (fun _ h9 => h9) rfl dX7_beginsFiller_15 ?_
  refine lv_bipush (v := 70) hx hb dX7_beginsFiller_18 (by decide) ?_
  refine lv_iconst (v := 3) hx hb dX7_beginsFiller_20 (by decide) ?_
  refine lv_iload_n hx hb dX7_beginsFiller_21 rfl (lv_at hl 1 rfl) ?_
  refine lv_imul hx hb dX7_beginsFiller_22 ?_
  refine lv_iadd hx hb dX7_beginsFiller_23 ?_
  refine lv_iconst (v := 2) hx hb dX7_beginsFiller_24 (by decide) ?_
  refine lv_iadd hx hb dX7_beginsFiller_25 ?_
  refine lv_aload_n hx hb dX7_beginsFiller_26 rfl (lv_at hl 0 rfl) ?_
  refine va_get (D := g.1) (ci := 7) (v := .ref (a 1)) (C := RX7) (T := TX7) (N := 11) hx hb hw0 ziX7 hown hK.1 hP 0 rfl rfl 0 (by decide) (hw0 _ zm4_71) (fun _ h9 => h9) rfl dX7_beginsFiller_27 ?_
  refine lv_iconst (v := 0) hx hb dX7_beginsFiller_30 (by decide) ?_
  refine zald (D := g.1) (f := (upd v.1 (((70 + (3 * p0)) + 1).toNatClampNeg) 1)) (k := 0) hx hb hK.1 hP 1 0 rfl rfl (zin_vp (i := 0) (n := 220) rfl) rfl dX7_beginsFiller_31 ?_
  obtain ⟨h2, hf⟩ := og hf
  refine zast (D := g.1) (f := (upd v.1 (((70 + (3 * p0)) + 1).toNatClampNeg) 1)) (k := ((70 + (3 * p0)) + 2).toNatClampNeg) (x := ((upd v.1 (((70 + (3 * p0)) + 1).toNatClampNeg) 1) 0)) hx hb hK.1 hP hD hS 1 0 rfl rfl (zin_vp h2) rfl dX7_beginsFiller_32 (fun H locs hP hD hS => ?_)
  have hP : va_P g.1 vwCl (zX7 g a ((upd (upd v.1 (((70 + (3 * p0)) + 1).toNatClampNeg) 1) (((70 + (3 * p0)) + 2).toNatClampNeg) ((upd v.1 (((70 + (3 * p0)) + 1).toNatClampNeg) 1) 0)), v.2.1, v.2.2.1, v.2.2.2.1, v.2.2.2.2.1, v.2.2.2.2.2.1, v.2.2.2.2.2.2.1, v.2.2.2.2.2.2.2.1, v.2.2.2.2.2.2.2.2.1, v.2.2.2.2.2.2.2.2.2.1, v.2.2.2.2.2.2.2.2.2.2)) H := hP
  have hD : va_D A (zX7 g a ((upd (upd v.1 (((70 + (3 * p0)) + 1).toNatClampNeg) 1) (((70 + (3 * p0)) + 2).toNatClampNeg) ((upd v.1 (((70 + (3 * p0)) + 1).toNatClampNeg) 1) 0)), v.2.1, v.2.2.1, v.2.2.2.1, v.2.2.2.2.1, v.2.2.2.2.2.1, v.2.2.2.2.2.2.1, v.2.2.2.2.2.2.2.1, v.2.2.2.2.2.2.2.2.1, v.2.2.2.2.2.2.2.2.2.1, v.2.2.2.2.2.2.2.2.2.2)) := hD
  refine lv_aload_n hx hb dX7_beginsFiller_33 rfl (lv_at hl 0 rfl) ?_
  refine lv_iconst (v := 2) hx hb dX7_beginsFiller_34 (by decide) ?_
  refine lv_iload_n hx hb dX7_beginsFiller_35 rfl (lv_at hl 1 rfl) ?_
  refine lv_aload_n hx hb dX7_beginsFiller_36 rfl (lv_at hl 0 rfl) ?_
  refine lv_iload_n hx hb dX7_beginsFiller_37 rfl (lv_at hl 1 rfl) ?_
  refine lv_iconst (v := 0) hx hb dX7_beginsFiller_38 (by decide) ?_
  obtain ⟨u3, hu3, hf⟩ := ob hf
  refine zk_iA (va_runV (As := [.int p0, .int 0]) (rest := [.int p0, .int 2, .ref (a 0)]) ⟨hx, hb, hml, hown, hts⟩ (c_X7_ofFiller l g a ((upd (upd v.1 (((70 + (3 * p0)) + 1).toNatClampNeg) 1) (((70 + (3 * p0)) + 2).toNatClampNeg) ((upd v.1 (((70 + (3 * p0)) + 1).toNatClampNeg) 1) 0)), v.2.1, v.2.2.1, v.2.2.2.1, v.2.2.2.2.1, v.2.2.2.2.2.1, v.2.2.2.2.2.2.1, v.2.2.2.2.2.2.2.1, v.2.2.2.2.2.2.2.2.1, v.2.2.2.2.2.2.2.2.2.1, v.2.2.2.2.2.2.2.2.2.2) p0 0 _ hu3 _) (zcV hw0 zm4_228 zm4_231 zm1_8 zm4_230 zs6_9 hd_X7_ofFiller rfl rfl ⟨Nat.le_of_ble_eq_true rfl, Nat.le_of_ble_eq_true rfl⟩) ⟨zblind, zrecvA hK hP (ci := 7) rfl rfl, zpreA hK hP hD⟩ rfl rfl hl.1 rfl (lv_room (Nat.le_of_ble_eq_true rfl)) dX7_beginsFiller_39 ⟨Nat.zero_le _, Nat.zero_le _⟩) hP hD hS hA (fun H locs hP hD hS => ?_)
  obtain ⟨u4, hu4, hf⟩ := ob hf
  refine zk_vA (va_runV (As := [.int 2, .int p0, .int u3]) (rest := []) ⟨hx, hb, hml, hown, hts⟩ (c_X7_goesOnAir l g a ((upd (upd v.1 (((70 + (3 * p0)) + 1).toNatClampNeg) 1) (((70 + (3 * p0)) + 2).toNatClampNeg) ((upd v.1 (((70 + (3 * p0)) + 1).toNatClampNeg) 1) 0)), v.2.1, v.2.2.1, v.2.2.2.1, v.2.2.2.2.1, v.2.2.2.2.2.1, v.2.2.2.2.2.2.1, v.2.2.2.2.2.2.2.1, v.2.2.2.2.2.2.2.2.1, v.2.2.2.2.2.2.2.2.2.1, v.2.2.2.2.2.2.2.2.2.2) 2 p0 u3 _ hu4 _) (zcV hw0 zm4_216 zm4_219 zm1_8 zm4_218 zs6_6 hd_X7_goesOnAir rfl rfl ⟨Nat.le_of_ble_eq_true rfl, Nat.le_of_ble_eq_true rfl⟩) ⟨zblind, zrecvA hK hP (ci := 7) rfl rfl, zpreA hK hP hD⟩ rfl rfl hl.1 rfl (lv_room (Nat.le_of_ble_eq_true rfl)) dX7_beginsFiller_42 ⟨Nat.zero_le _, Nat.zero_le _⟩) hP hD hS hA (fun H locs hP hD hS => ?_)
  have hP : va_P g.1 vwCl (zX7 g a u4) H := hP
  have hD : va_D A (zX7 g a u4) := hD
  have hR : u4 = r := Option.some.inj hf
  subst hR
  exact W.vret hx hb hr0 (fun t ht hW => ⟨⟨(), rfl, trivial, by rw [ht]; exact hP, hD⟩, hS.F ht⟩) hS.2.2 dX7_beginsFiller_45
theorem hd_X7_ones : yX7_ones.cls ≠ "java/lang/invoke/MethodHandle" ∧ yX7_ones.cls ≠ "java/lang/invoke/VarHandle" ∧ (parseMethodDescriptor yX7_ones.desc).map (fun d => d.parameters.length) = some 1 := by decide +kernel
def s_X7_ones_4 (i0 : Int32) (x : Int32 × Int32) : Option ((Int32 × Int32) ⊕ (Int32 × Int32)) :=
  if 10 ≤ x.2 then
    some (.inr (x.1, x.2))
  else
    some (.inl ((x.1 + ((i0 >>> (x.2 &&& 31)) &&& 1)), (x.2 + 1)))
def f_X7_ones (p0 : Int32) : Option (Int32) :=
  (zloop (s_X7_ones_4 p0) 4096 (0, 0)).bind (fun u2 =>
  some u2.1)
set_option maxHeartbeats 4000000 in
set_option maxRecDepth 100000 in
theorem c_X7_ones (l : Launch) (g : zG) (p0 : Int32) (r : Int32) (hf : f_X7_ones p0 = some r) : zMi zNF zNM l yX7_ones (zw yX7_ones cX7_ones 3 (some .int)) ({ frames := 0, cells := 0, slots := 0, locals := 0 } : Room) g [.int p0] ([] : va_W) r ([] : va_W) := by
  intro sz
  refine Met.ofW (cc := cX7_ones) (maxL := 3) (ret := (some .int)) (by decide) rfl ?_
  intro p e s m args below meth c s₁ B hml hv
  obtain ⟨rfl, hsz, hP, hK, hD0⟩ := hv
  have hx := B.exec
  have hb := B.bytes
  have hr0 := B.returns
  have hts := atoms_spec (ws := (zw yX7_ones cX7_ones 3 (some .int))) B.pre
  have hw0 : ∀ w ∈ zW, w.before ([.int p0] : List Value).toArray s = true := fun w h => hts w (List.mem_cons_of_mem _ h)
  have hown : s.vm.findClass RX7 = some m.cls := findClass_of_methodNamed B.named
  have hlocks := B.notSynchronized
  subst hsz
  have hD := hD0.self (sz := s.heap.size)
  generalize hAe : va_A ([] : va_W) s.heap.size = A at hD ⊢
  have hA : ∀ q : Nat, s.heap.size ≤ q → A q := fun q h => by rw [← hAe]; exact Or.inr h
  have hS : va_S A s.heap s.heap [] := va_S.rf
  have lp4 : ∀ (i0 : Int32), ∀ (n : Nat) (x : Int32 × Int32) (rr : Int32 × Int32), zloop (s_X7_ones_4 i0) n x = some rr → (∀ (H : Heap) (locs : List Loc), va_P g.1 vwCl ([] : va_W) H → va_D A ([] : va_W) → va_S A s.heap H locs → ∀ ls : Array Slot, lv_has ls 3 [(1, .int rr.1)] → W p l e (headSpec (zw yX7_ones cX7_ones 3 (some .int)) ({ frames := 0, cells := 0, slots := 0, locals := 0 } : Room)).room s m ([.int p0] : List Value).toArray below meth c H locs 0 0 (MQ below (va_Qi (fun (x : Int32) (_ : Unit) => x = r) (fun _ => zEnd g A ([] : va_W)) A) ([.int p0] : List Value).toArray s 0 0 A) (F0 m 24 ls [])) → ∀ (H : Heap) (locs : List Loc), va_P g.1 vwCl ([] : va_W) H → va_D A ([] : va_W) → va_S A s.heap H locs → ∀ ls : Array Slot, lv_has ls 3 [(0, .int i0), (1, .int x.1), (2, .int x.2)] → W p l e (headSpec (zw yX7_ones cX7_ones 3 (some .int)) ({ frames := 0, cells := 0, slots := 0, locals := 0 } : Room)).room s m ([.int p0] : List Value).toArray below meth c H locs 0 0 (MQ below (va_Qi (fun (x : Int32) (_ : Unit) => x = r) (fun _ => zEnd g A ([] : va_W)) A) ([.int p0] : List Value).toArray s 0 0 A) (F0 m 4 ls []) := by
    intro i0
    refine zloop_ind ?_
    intro x y rr hf ih hr hQ H locs hP hD hS ls hl
    unfold s_X7_ones_4 at hf
    refine lv_iload_n hx hb dX7_ones_4 rfl (lv_at hl 2 rfl) ?_
    refine lv_bipush (v := 10) hx hb dX7_ones_5 (by decide) ?_
    refine lv_icmp_ge (tgt := 24) hx hb dX7_ones_7 (by decide) (fun c1 => ?_) (fun c1 => ?_)
    · have hf := oi hf c1
      have hR : (x.1, x.2) = rr := hr _ (Option.some.inj hf).symm
      subst hR
      exact hQ _ _ hP hD hS _ (lv_sub hl [1] rfl)
    · have hf := oe hf c1
      refine lv_iload_n hx hb dX7_ones_10 rfl (lv_at hl 1 rfl) ?_
      refine lv_iload_n hx hb dX7_ones_11 rfl (lv_at hl 0 rfl) ?_
      refine lv_iload_n hx hb dX7_ones_12 rfl (lv_at hl 2 rfl) ?_
      refine lv_ishr hx hb dX7_ones_13 ?_
      refine lv_iconst (v := 1) hx hb dX7_ones_14 (by decide) ?_
      refine lv_iand hx hb dX7_ones_15 ?_
      refine lv_iadd hx hb dX7_ones_16 ?_
      refine lv_istore_n (lv' := [(1, .int (x.1 + ((i0 >>> (x.2 &&& 31)) &&& 1))), (0, .int i0), (2, .int x.2)]) hx hb dX7_ones_17 rfl hl (by decide) rfl (fun ls hl => ?_)
      refine lv_iinc (v := (x.2 + 1)) (lv' := [(2, .int (x.2 + 1)), (1, .int (x.1 + ((i0 >>> (x.2 &&& 31)) &&& 1))), (0, .int i0)]) hx hb dX7_ones_18 hl (k := 2) rfl rfl (by decide) rfl (fun ls hl => ?_)
      refine lv_goto (tgt := 4) hx hb dX7_ones_21 (by decide) ?_
      exact ih ((x.1 + ((i0 >>> (x.2 &&& 31)) &&& 1)), (x.2 + 1)) (Option.some.inj hf).symm hQ _ _ hP hD hS _ (lv_sub hl [2, 1, 0] rfl)
  unfold f_X7_ones at hf
  have hl := lv_entry ([.int p0]) (n := 3) (Nat.le_of_ble_eq_true rfl)
  rw [lg_entry_eq]
  generalize (lg_sl ([.int p0]) ++ List.replicate (3 - (lg_sl ([.int p0])).length) Slot.unset).toArray = ls at hl ⊢
  have hl : lv_has ls 3 [(0, .int p0)] := hl
  refine lv_iconst (v := 0) hx hb dX7_ones_0 (by decide) ?_
  refine lv_istore_n (lv' := [(1, .int 0), (0, .int p0)]) hx hb dX7_ones_1 rfl hl (by decide) rfl (fun ls hl => ?_)
  refine lv_iconst (v := 0) hx hb dX7_ones_2 (by decide) ?_
  refine lv_istore_n (lv' := [(2, .int 0), (1, .int 0), (0, .int p0)]) hx hb dX7_ones_3 rfl hl (by decide) rfl (fun ls hl => ?_)
  obtain ⟨u2, hu2, hf⟩ := ob hf
  refine lp4 p0 _ _ u2 hu2 (fun H locs hP hD hS ls hl => ?_) _ _ hP hD hS _ (lv_sub hl [2, 1, 0] rfl)
  have hl : lv_has ls 3 [(1, .int u2.1)] := hl
  have hP : va_P g.1 vwCl ([] : va_W) H := hP
  have hD : va_D A ([] : va_W) := hD
  refine lv_iload_n hx hb dX7_ones_24 rfl (lv_at hl 0 rfl) ?_
  have hR : u2.1 = r := Option.some.inj hf
  subst hR
  exact W.iret (v := u2.1) hx hb hr0 (fun t ht hW => ⟨⟨u2.1, (), rfl, rfl, by rw [ht]; exact hP, hD⟩, hS.F ht⟩) hS.2.2 dX7_ones_25
theorem hd_X7_waitingFillers : yX7_waitingFillers.cls ≠ "java/lang/invoke/MethodHandle" ∧ yX7_waitingFillers.cls ≠ "java/lang/invoke/VarHandle" ∧ (parseMethodDescriptor yX7_waitingFillers.desc).map (fun d => d.parameters.length) = some 0 := by decide +kernel
def s_X7_waitingFillers_4 (v : MV) (x : Int32 × Int32) : Option ((Int32 × Int32) ⊕ (Int32 × Int32)) :=
  if (v.1 8) ≤ x.2 then
    some (.inr (x.1, x.2))
  else
    (f_X7_ofFiller v x.2 1).bind (fun u2 =>
    if u2 = 0 then
      some (.inl ((x.1 ||| (1 <<< (x.2 &&& 31))), (x.2 + 1)))
    else
      some (.inl ((x.1 ||| 0), (x.2 + 1))))
def f_X7_waitingFillers (v : MV) : Option (Int32) :=
  (zloop (s_X7_waitingFillers_4 v) 4096 (0, 0)).bind (fun u4 =>
  some u4.1)
set_option maxHeartbeats 4000000 in
set_option maxRecDepth 100000 in
theorem c_X7_waitingFillers (l : Launch) (g : zG) (a : Nat → Nat) (v : MV) (r : Int32) (hf : f_X7_waitingFillers v = some r) : zMi zNF zNM l yX7_waitingFillers (zw yX7_waitingFillers cX7_waitingFillers 3 (some .int)) ({ frames := 1, cells := 0, slots := 0, locals := 22 } : Room) g [.ref (a 0)] (zX7 g a v) r (zX7 g a v) := by
  intro sz
  refine Met.ofW (cc := cX7_waitingFillers) (maxL := 3) (ret := (some .int)) (by decide) rfl ?_
  intro p e s m args below meth c s₁ B hml hv
  obtain ⟨rfl, hsz, hP, hK, hD0⟩ := hv
  have hx := B.exec
  have hb := B.bytes
  have hr0 := B.returns
  have hts := atoms_spec (ws := (zw yX7_waitingFillers cX7_waitingFillers 3 (some .int))) B.pre
  have hw0 : ∀ w ∈ zW, w.before ([.ref (a 0)] : List Value).toArray s = true := fun w h => hts w (List.mem_cons_of_mem _ h)
  have hown : s.vm.findClass RX7 = some m.cls := findClass_of_methodNamed B.named
  have hlocks := B.notSynchronized
  subst hsz
  have hD := hD0.self (sz := s.heap.size)
  generalize hAe : va_A (zX7 g a v) s.heap.size = A at hD ⊢
  have hA : ∀ q : Nat, s.heap.size ≤ q → A q := fun q h => by rw [← hAe]; exact Or.inr h
  have hS : va_S A s.heap s.heap [] := va_S.rf
  have lp4 : ∀ (v : MV), ∀ (n : Nat) (x : Int32 × Int32) (rr : Int32 × Int32), zloop (s_X7_waitingFillers_4 v) n x = some rr → (∀ (H : Heap) (locs : List Loc), va_P g.1 vwCl (zX7 g a v) H → va_D A (zX7 g a v) → va_S A s.heap H locs → ∀ ls : Array Slot, lv_has ls 3 [(1, .int rr.1)] → W p l e (headSpec (zw yX7_waitingFillers cX7_waitingFillers 3 (some .int)) ({ frames := 1, cells := 0, slots := 0, locals := 22 } : Room)).room s m ([.ref (a 0)] : List Value).toArray below meth c H locs 0 0 (MQ below (va_Qi (fun (x : Int32) (_ : Unit) => x = r) (fun _ => zEnd g A (zX7 g a v)) A) ([.ref (a 0)] : List Value).toArray s 0 0 A) (F0 m 40 ls [])) → ∀ (H : Heap) (locs : List Loc), va_P g.1 vwCl (zX7 g a v) H → va_D A (zX7 g a v) → va_S A s.heap H locs → ∀ ls : Array Slot, lv_has ls 3 [(0, .ref (a 0)), (1, .int x.1), (2, .int x.2)] → W p l e (headSpec (zw yX7_waitingFillers cX7_waitingFillers 3 (some .int)) ({ frames := 1, cells := 0, slots := 0, locals := 22 } : Room)).room s m ([.ref (a 0)] : List Value).toArray below meth c H locs 0 0 (MQ below (va_Qi (fun (x : Int32) (_ : Unit) => x = r) (fun _ => zEnd g A (zX7 g a v)) A) ([.ref (a 0)] : List Value).toArray s 0 0 A) (F0 m 4 ls []) := by
    intro v
    refine zloop_ind ?_
    intro x y rr hf ih hr hQ H locs hP hD hS ls hl
    unfold s_X7_waitingFillers_4 at hf
    refine lv_iload_n hx hb dX7_waitingFillers_4 rfl (lv_at hl 2 rfl) ?_
    refine lv_aload_n hx hb dX7_waitingFillers_5 rfl (lv_at hl 0 rfl) ?_
    refine va_get (D := g.1) (ci := 7) (v := .ref (a 1)) (C := RX7) (T := TX7) (N := 11) hx hb hw0 ziX7 hown hK.1 hP 0 rfl rfl 0 (by decide) (hw0 _ zm4_71) (fun _ h9 => h9) rfl dX7_waitingFillers_6 ?_
    refine lv_bipush (v := 8) hx hb dX7_waitingFillers_9 (by decide) ?_
    refine zald (D := g.1) (f := v.1) (k := 8) hx hb hK.1 hP 1 0 rfl rfl (zin_vp (i := 8) (n := 220) rfl) rfl dX7_waitingFillers_11 ?_
    refine lv_icmp_ge (tgt := 40) hx hb dX7_waitingFillers_12 (by decide) (fun c1 => ?_) (fun c1 => ?_)
    · have hf := oi hf c1
      have hR : (x.1, x.2) = rr := hr _ (Option.some.inj hf).symm
      subst hR
      exact hQ _ _ hP hD hS _ (lv_sub hl [1] rfl)
    · have hf := oe hf c1
      refine lv_iload_n hx hb dX7_waitingFillers_15 rfl (lv_at hl 1 rfl) ?_
      refine lv_aload_n hx hb dX7_waitingFillers_16 rfl (lv_at hl 0 rfl) ?_
      refine lv_iload_n hx hb dX7_waitingFillers_17 rfl (lv_at hl 2 rfl) ?_
      refine lv_iconst (v := 1) hx hb dX7_waitingFillers_18 (by decide) ?_
      obtain ⟨u2, hu2, hf⟩ := ob hf
      refine zk_iA (va_runV (As := [.int x.2, .int 1]) (rest := [.int x.1]) ⟨hx, hb, hml, hown, hts⟩ (c_X7_ofFiller l g a v x.2 1 _ hu2 _) (zcV hw0 zm4_228 zm4_231 zm1_8 zm4_230 zs6_9 hd_X7_ofFiller rfl rfl ⟨Nat.le_of_ble_eq_true rfl, Nat.le_of_ble_eq_true rfl⟩) ⟨zblind, zrecvA hK hP (ci := 7) rfl rfl, zpreA hK hP hD⟩ rfl rfl hl.1 rfl (lv_room (Nat.le_of_ble_eq_true rfl)) dX7_waitingFillers_19 ⟨Nat.zero_le _, Nat.zero_le _⟩) hP hD hS hA (fun H locs hP hD hS => ?_)
      refine lv_if_ne (tgt := 31) hx hb dX7_waitingFillers_22 (by decide) (fun c3 => ?_) (fun c3 => ?_)
      · have hf := oe hf c3
        refine lv_iconst (v := 0) hx hb dX7_waitingFillers_31 (by decide) ?_
        refine lv_ior hx hb dX7_waitingFillers_32 ?_
        refine lv_istore_n (lv' := [(1, .int (x.1 ||| 0)), (0, .ref (a 0)), (2, .int x.2)]) hx hb dX7_waitingFillers_33 rfl hl (by decide) rfl (fun ls hl => ?_)
        refine lv_iinc (v := (x.2 + 1)) (lv' := [(2, .int (x.2 + 1)), (1, .int (x.1 ||| 0)), (0, .ref (a 0))]) hx hb dX7_waitingFillers_34 hl (k := 2) rfl rfl (by decide) rfl (fun ls hl => ?_)
        refine lv_goto (tgt := 4) hx hb dX7_waitingFillers_37 (by decide) ?_
        exact ih ((x.1 ||| 0), (x.2 + 1)) (Option.some.inj hf).symm hQ _ _ hP hD hS _ (lv_sub hl [2, 1, 0] rfl)
      · have hf := oi hf c3
        refine lv_iconst (v := 1) hx hb dX7_waitingFillers_25 (by decide) ?_
        refine lv_iload_n hx hb dX7_waitingFillers_26 rfl (lv_at hl 2 rfl) ?_
        refine lv_ishl hx hb dX7_waitingFillers_27 ?_
        refine lv_goto (tgt := 32) hx hb dX7_waitingFillers_28 (by decide) ?_
        refine lv_ior hx hb dX7_waitingFillers_32 ?_
        refine lv_istore_n (lv' := [(1, .int (x.1 ||| (1 <<< (x.2 &&& 31)))), (0, .ref (a 0)), (2, .int x.2)]) hx hb dX7_waitingFillers_33 rfl hl (by decide) rfl (fun ls hl => ?_)
        refine lv_iinc (v := (x.2 + 1)) (lv' := [(2, .int (x.2 + 1)), (1, .int (x.1 ||| (1 <<< (x.2 &&& 31)))), (0, .ref (a 0))]) hx hb dX7_waitingFillers_34 hl (k := 2) rfl rfl (by decide) rfl (fun ls hl => ?_)
        refine lv_goto (tgt := 4) hx hb dX7_waitingFillers_37 (by decide) ?_
        exact ih ((x.1 ||| (1 <<< (x.2 &&& 31))), (x.2 + 1)) (Option.some.inj hf).symm hQ _ _ hP hD hS _ (lv_sub hl [2, 1, 0] rfl)
  unfold f_X7_waitingFillers at hf
  have hl := lv_entry ([.ref (a 0)]) (n := 3) (Nat.le_of_ble_eq_true rfl)
  rw [lg_entry_eq]
  generalize (lg_sl ([.ref (a 0)]) ++ List.replicate (3 - (lg_sl ([.ref (a 0)])).length) Slot.unset).toArray = ls at hl ⊢
  have hl : lv_has ls 3 [(0, .ref (a 0))] := hl
  refine lv_iconst (v := 0) hx hb dX7_waitingFillers_0 (by decide) ?_
  refine lv_istore_n (lv' := [(1, .int 0), (0, .ref (a 0))]) hx hb dX7_waitingFillers_1 rfl hl (by decide) rfl (fun ls hl => ?_)
  refine lv_iconst (v := 0) hx hb dX7_waitingFillers_2 (by decide) ?_
  refine lv_istore_n (lv' := [(2, .int 0), (1, .int 0), (0, .ref (a 0))]) hx hb dX7_waitingFillers_3 rfl hl (by decide) rfl (fun ls hl => ?_)
  obtain ⟨u4, hu4, hf⟩ := ob hf
  refine lp4 v _ _ u4 hu4 (fun H locs hP hD hS ls hl => ?_) _ _ hP hD hS _ (lv_sub hl [2, 1, 0] rfl)
  have hl : lv_has ls 3 [(1, .int u4.1)] := hl
  have hP : va_P g.1 vwCl (zX7 g a v) H := hP
  have hD : va_D A (zX7 g a v) := hD
  refine lv_iload_n hx hb dX7_waitingFillers_40 rfl (lv_at hl 0 rfl) ?_
  have hR : u4.1 = r := Option.some.inj hf
  subst hR
  exact W.iret (v := u4.1) hx hb hr0 (fun t ht hW => ⟨⟨u4.1, (), rfl, rfl, by rw [ht]; exact hP, hD⟩, hS.F ht⟩) hS.2.2 dX7_waitingFillers_41
theorem hd_X7_lengthOf : yX7_lengthOf.cls ≠ "java/lang/invoke/MethodHandle" ∧ yX7_lengthOf.cls ≠ "java/lang/invoke/VarHandle" ∧ (parseMethodDescriptor yX7_lengthOf.desc).map (fun d => d.parameters.length) = some 1 := by decide +kernel
def s_X7_lengthOf_4 (v : MV) (i1 : Int32) (x : Int32 × Int32) : Option ((Int32 × Int32) ⊕ (Int32 × Int32)) :=
  if (v.1 8) ≤ x.2 then
    some (.inr (x.1, x.2))
  else
    if ((i1 >>> (x.2 &&& 31)) &&& 1) = 1 then
      (f_X7_ofFiller v x.2 0).bind (fun u3 =>
      some (.inl ((x.1 + u3), (x.2 + 1))))
    else
      some (.inl ((x.1 + 0), (x.2 + 1)))
def f_X7_lengthOf (v : MV) (p0 : Int32) : Option (Int32) :=
  (zloop (s_X7_lengthOf_4 v p0) 4096 (0, 0)).bind (fun u4 =>
  some u4.1)
set_option maxHeartbeats 4000000 in
set_option maxRecDepth 100000 in
theorem c_X7_lengthOf (l : Launch) (g : zG) (a : Nat → Nat) (v : MV) (p0 : Int32) (r : Int32) (hf : f_X7_lengthOf v p0 = some r) : zMi zNF zNM l yX7_lengthOf (zw yX7_lengthOf cX7_lengthOf 4 (some .int)) ({ frames := 1, cells := 0, slots := 0, locals := 22 } : Room) g [.ref (a 0), .int p0] (zX7 g a v) r (zX7 g a v) := by
  intro sz
  refine Met.ofW (cc := cX7_lengthOf) (maxL := 4) (ret := (some .int)) (by decide) rfl ?_
  intro p e s m args below meth c s₁ B hml hv
  obtain ⟨rfl, hsz, hP, hK, hD0⟩ := hv
  have hx := B.exec
  have hb := B.bytes
  have hr0 := B.returns
  have hts := atoms_spec (ws := (zw yX7_lengthOf cX7_lengthOf 4 (some .int))) B.pre
  have hw0 : ∀ w ∈ zW, w.before ([.ref (a 0), .int p0] : List Value).toArray s = true := fun w h => hts w (List.mem_cons_of_mem _ h)
  have hown : s.vm.findClass RX7 = some m.cls := findClass_of_methodNamed B.named
  have hlocks := B.notSynchronized
  subst hsz
  have hD := hD0.self (sz := s.heap.size)
  generalize hAe : va_A (zX7 g a v) s.heap.size = A at hD ⊢
  have hA : ∀ q : Nat, s.heap.size ≤ q → A q := fun q h => by rw [← hAe]; exact Or.inr h
  have hS : va_S A s.heap s.heap [] := va_S.rf
  have lp4 : ∀ (v : MV) (i1 : Int32), ∀ (n : Nat) (x : Int32 × Int32) (rr : Int32 × Int32), zloop (s_X7_lengthOf_4 v i1) n x = some rr → (∀ (H : Heap) (locs : List Loc), va_P g.1 vwCl (zX7 g a v) H → va_D A (zX7 g a v) → va_S A s.heap H locs → ∀ ls : Array Slot, lv_has ls 4 [(2, .int rr.1)] → W p l e (headSpec (zw yX7_lengthOf cX7_lengthOf 4 (some .int)) ({ frames := 1, cells := 0, slots := 0, locals := 22 } : Room)).room s m ([.ref (a 0), .int p0] : List Value).toArray below meth c H locs 0 0 (MQ below (va_Qi (fun (x : Int32) (_ : Unit) => x = r) (fun _ => zEnd g A (zX7 g a v)) A) ([.ref (a 0), .int p0] : List Value).toArray s 0 0 A) (F0 m 43 ls [])) → ∀ (H : Heap) (locs : List Loc), va_P g.1 vwCl (zX7 g a v) H → va_D A (zX7 g a v) → va_S A s.heap H locs → ∀ ls : Array Slot, lv_has ls 4 [(0, .ref (a 0)), (1, .int i1), (2, .int x.1), (3, .int x.2)] → W p l e (headSpec (zw yX7_lengthOf cX7_lengthOf 4 (some .int)) ({ frames := 1, cells := 0, slots := 0, locals := 22 } : Room)).room s m ([.ref (a 0), .int p0] : List Value).toArray below meth c H locs 0 0 (MQ below (va_Qi (fun (x : Int32) (_ : Unit) => x = r) (fun _ => zEnd g A (zX7 g a v)) A) ([.ref (a 0), .int p0] : List Value).toArray s 0 0 A) (F0 m 4 ls []) := by
    intro v i1
    refine zloop_ind ?_
    intro x y rr hf ih hr hQ H locs hP hD hS ls hl
    unfold s_X7_lengthOf_4 at hf
    refine lv_iload_n hx hb dX7_lengthOf_4 rfl (lv_at hl 3 rfl) ?_
    refine lv_aload_n hx hb dX7_lengthOf_5 rfl (lv_at hl 0 rfl) ?_
    refine va_get (D := g.1) (ci := 7) (v := .ref (a 1)) (C := RX7) (T := TX7) (N := 11) hx hb hw0 ziX7 hown hK.1 hP 0 rfl rfl 0 (by decide) (hw0 _ zm4_71) (fun _ h9 => h9) rfl dX7_lengthOf_6 ?_
    refine lv_bipush (v := 8) hx hb dX7_lengthOf_9 (by decide) ?_
    refine zald (D := g.1) (f := v.1) (k := 8) hx hb hK.1 hP 1 0 rfl rfl (zin_vp (i := 8) (n := 220) rfl) rfl dX7_lengthOf_11 ?_
    refine lv_icmp_ge (tgt := 43) hx hb dX7_lengthOf_12 (by decide) (fun c1 => ?_) (fun c1 => ?_)
    · have hf := oi hf c1
      have hR : (x.1, x.2) = rr := hr _ (Option.some.inj hf).symm
      subst hR
      exact hQ _ _ hP hD hS _ (lv_sub hl [2] rfl)
    · have hf := oe hf c1
      refine lv_iload_n hx hb dX7_lengthOf_15 rfl (lv_at hl 2 rfl) ?_
      refine lv_iload_n hx hb dX7_lengthOf_16 rfl (lv_at hl 1 rfl) ?_
      refine lv_iload_n hx hb dX7_lengthOf_17 rfl (lv_at hl 3 rfl) ?_
      refine lv_ishr hx hb dX7_lengthOf_18 ?_
      refine lv_iconst (v := 1) hx hb dX7_lengthOf_19 (by decide) ?_
      refine lv_iand hx hb dX7_lengthOf_20 ?_
      refine lv_iconst (v := 1) hx hb dX7_lengthOf_21 (by decide) ?_
      refine lv_icmp_ne (tgt := 34) hx hb dX7_lengthOf_22 (by decide) (fun c2 => ?_) (fun c2 => ?_)
      · have hf := oe hf c2
        refine lv_iconst (v := 0) hx hb dX7_lengthOf_34 (by decide) ?_
        refine lv_iadd hx hb dX7_lengthOf_35 ?_
        refine lv_istore_n (lv' := [(2, .int (x.1 + 0)), (0, .ref (a 0)), (1, .int i1), (3, .int x.2)]) hx hb dX7_lengthOf_36 rfl hl (by decide) rfl (fun ls hl => ?_)
        refine lv_iinc (v := (x.2 + 1)) (lv' := [(3, .int (x.2 + 1)), (2, .int (x.1 + 0)), (0, .ref (a 0)), (1, .int i1)]) hx hb dX7_lengthOf_37 hl (k := 3) rfl rfl (by decide) rfl (fun ls hl => ?_)
        refine lv_goto (tgt := 4) hx hb dX7_lengthOf_40 (by decide) ?_
        exact ih ((x.1 + 0), (x.2 + 1)) (Option.some.inj hf).symm hQ _ _ hP hD hS _ (lv_sub hl [2, 3, 1, 0] rfl)
      · have hf := oi hf c2
        refine lv_aload_n hx hb dX7_lengthOf_25 rfl (lv_at hl 0 rfl) ?_
        refine lv_iload_n hx hb dX7_lengthOf_26 rfl (lv_at hl 3 rfl) ?_
        refine lv_iconst (v := 0) hx hb dX7_lengthOf_27 (by decide) ?_
        obtain ⟨u3, hu3, hf⟩ := ob hf
        refine zk_iA (va_runV (As := [.int x.2, .int 0]) (rest := [.int x.1]) ⟨hx, hb, hml, hown, hts⟩ (c_X7_ofFiller l g a v x.2 0 _ hu3 _) (zcV hw0 zm4_228 zm4_231 zm1_8 zm4_230 zs6_9 hd_X7_ofFiller rfl rfl ⟨Nat.le_of_ble_eq_true rfl, Nat.le_of_ble_eq_true rfl⟩) ⟨zblind, zrecvA hK hP (ci := 7) rfl rfl, zpreA hK hP hD⟩ rfl rfl hl.1 rfl (lv_room (Nat.le_of_ble_eq_true rfl)) dX7_lengthOf_28 ⟨Nat.zero_le _, Nat.zero_le _⟩) hP hD hS hA (fun H locs hP hD hS => ?_)
        refine lv_goto (tgt := 35) hx hb dX7_lengthOf_31 (by decide) ?_
        refine lv_iadd hx hb dX7_lengthOf_35 ?_
        refine lv_istore_n (lv' := [(2, .int (x.1 + u3)), (0, .ref (a 0)), (1, .int i1), (3, .int x.2)]) hx hb dX7_lengthOf_36 rfl hl (by decide) rfl (fun ls hl => ?_)
        refine lv_iinc (v := (x.2 + 1)) (lv' := [(3, .int (x.2 + 1)), (2, .int (x.1 + u3)), (0, .ref (a 0)), (1, .int i1)]) hx hb dX7_lengthOf_37 hl (k := 3) rfl rfl (by decide) rfl (fun ls hl => ?_)
        refine lv_goto (tgt := 4) hx hb dX7_lengthOf_40 (by decide) ?_
        exact ih ((x.1 + u3), (x.2 + 1)) (Option.some.inj hf).symm hQ _ _ hP hD hS _ (lv_sub hl [2, 3, 1, 0] rfl)
  unfold f_X7_lengthOf at hf
  have hl := lv_entry ([.ref (a 0), .int p0]) (n := 4) (Nat.le_of_ble_eq_true rfl)
  rw [lg_entry_eq]
  generalize (lg_sl ([.ref (a 0), .int p0]) ++ List.replicate (4 - (lg_sl ([.ref (a 0), .int p0])).length) Slot.unset).toArray = ls at hl ⊢
  have hl : lv_has ls 4 [(0, .ref (a 0)), (1, .int p0)] := hl
  refine lv_iconst (v := 0) hx hb dX7_lengthOf_0 (by decide) ?_
  refine lv_istore_n (lv' := [(2, .int 0), (0, .ref (a 0)), (1, .int p0)]) hx hb dX7_lengthOf_1 rfl hl (by decide) rfl (fun ls hl => ?_)
  refine lv_iconst (v := 0) hx hb dX7_lengthOf_2 (by decide) ?_
  refine lv_istore_n (lv' := [(3, .int 0), (2, .int 0), (0, .ref (a 0)), (1, .int p0)]) hx hb dX7_lengthOf_3 rfl hl (by decide) rfl (fun ls hl => ?_)
  obtain ⟨u4, hu4, hf⟩ := ob hf
  refine lp4 v p0 _ _ u4 hu4 (fun H locs hP hD hS ls hl => ?_) _ _ hP hD hS _ (lv_sub hl [2, 3, 1, 0] rfl)
  have hl : lv_has ls 4 [(2, .int u4.1)] := hl
  have hP : va_P g.1 vwCl (zX7 g a v) H := hP
  have hD : va_D A (zX7 g a v) := hD
  refine lv_iload_n hx hb dX7_lengthOf_43 rfl (lv_at hl 0 rfl) ?_
  have hR : u4.1 = r := Option.some.inj hf
  subst hR
  exact W.iret (v := u4.1) hx hb hr0 (fun t ht hW => ⟨⟨u4.1, (), rfl, rfl, by rw [ht]; exact hP, hD⟩, hS.F ht⟩) hS.2.2 dX7_lengthOf_44
theorem hd_X7_chosen : yX7_chosen.cls ≠ "java/lang/invoke/MethodHandle" ∧ yX7_chosen.cls ≠ "java/lang/invoke/VarHandle" ∧ (parseMethodDescriptor yX7_chosen.desc).map (fun d => d.parameters.length) = some 1 := by decide +kernel
def s_X7_chosen_13 (v : MV) (i1 : Int32) (i2 : Int32) (x : Int32 × Int32 × Int32) : Option ((Int32 × Int32 × Int32) ⊕ (Int32 × Int32 × Int32)) :=
  if i2 < x.2.2 then
    some (.inr (x.1, x.2.1, x.2.2))
  else
    if (x.2.2 &&& (i2 ^^^ (-1))) = 0 then
      (f_X7_lengthOf v x.2.2).bind (fun u4 =>
      if i1 < u4 then
        some (.inl (x.1, x.2.1, (x.2.2 + 1)))
      else
        if x.2.1 < u4 then
          some (.inl (x.2.2, u4, (x.2.2 + 1)))
        else
          if u4 = x.2.1 then
            (f_X7_ones x.2.2).bind (fun u8 =>
            (f_X7_ones x.1).bind (fun u9 =>
            if u9 ≤ u8 then
              some (.inl (x.1, x.2.1, (x.2.2 + 1)))
            else
              some (.inl (x.2.2, u4, (x.2.2 + 1)))))
          else
            some (.inl (x.1, x.2.1, (x.2.2 + 1))))
    else
      some (.inl (x.1, x.2.1, (x.2.2 + 1)))
def f_X7_chosen (v : MV) (p0 : Int32) : Option (Int32) :=
  (f_X7_waitingFillers v).bind (fun u1 =>
  (zloop (s_X7_chosen_13 v p0 u1) 4096 (0, 0, 1)).bind (fun u11 =>
  some u11.1))
set_option maxHeartbeats 4000000 in
set_option maxRecDepth 100000 in
theorem c_X7_chosen (l : Launch) (g : zG) (a : Nat → Nat) (v : MV) (p0 : Int32) (r : Int32) (hf : f_X7_chosen v p0 = some r) : zMi zNF zNM l yX7_chosen (zw yX7_chosen cX7_chosen 8 (some .int)) ({ frames := 2, cells := 0, slots := 0, locals := 45 } : Room) g [.ref (a 0), .int p0] (zX7 g a v) r (zX7 g a v) := by
  intro sz
  refine Met.ofW (cc := cX7_chosen) (maxL := 8) (ret := (some .int)) (by decide) rfl ?_
  intro p e s m args below meth c s₁ B hml hv
  obtain ⟨rfl, hsz, hP, hK, hD0⟩ := hv
  have hx := B.exec
  have hb := B.bytes
  have hr0 := B.returns
  have hts := atoms_spec (ws := (zw yX7_chosen cX7_chosen 8 (some .int))) B.pre
  have hw0 : ∀ w ∈ zW, w.before ([.ref (a 0), .int p0] : List Value).toArray s = true := fun w h => hts w (List.mem_cons_of_mem _ h)
  have hown : s.vm.findClass RX7 = some m.cls := findClass_of_methodNamed B.named
  have hlocks := B.notSynchronized
  subst hsz
  have hD := hD0.self (sz := s.heap.size)
  generalize hAe : va_A (zX7 g a v) s.heap.size = A at hD ⊢
  have hA : ∀ q : Nat, s.heap.size ≤ q → A q := fun q h => by rw [← hAe]; exact Or.inr h
  have hS : va_S A s.heap s.heap [] := va_S.rf
  have lp13 : ∀ (v : MV) (i1 : Int32) (i2 : Int32), ∀ (n : Nat) (x : Int32 × Int32 × Int32) (rr : Int32 × Int32 × Int32), zloop (s_X7_chosen_13 v i1 i2) n x = some rr → (∀ (H : Heap) (locs : List Loc), va_P g.1 vwCl (zX7 g a v) H → va_D A (zX7 g a v) → va_S A s.heap H locs → ∀ ls : Array Slot, lv_has ls 8 [(3, .int rr.1)] → W p l e (headSpec (zw yX7_chosen cX7_chosen 8 (some .int)) ({ frames := 2, cells := 0, slots := 0, locals := 45 } : Room)).room s m ([.ref (a 0), .int p0] : List Value).toArray below meth c H locs 0 0 (MQ below (va_Qi (fun (x : Int32) (_ : Unit) => x = r) (fun _ => zEnd g A (zX7 g a v)) A) ([.ref (a 0), .int p0] : List Value).toArray s 0 0 A) (F0 m 107 ls [])) → ∀ (H : Heap) (locs : List Loc), va_P g.1 vwCl (zX7 g a v) H → va_D A (zX7 g a v) → va_S A s.heap H locs → ∀ ls : Array Slot, lv_has ls 8 [(0, .ref (a 0)), (1, .int i1), (2, .int i2), (3, .int x.1), (4, .int x.2.1), (5, .int x.2.2)] → W p l e (headSpec (zw yX7_chosen cX7_chosen 8 (some .int)) ({ frames := 2, cells := 0, slots := 0, locals := 45 } : Room)).room s m ([.ref (a 0), .int p0] : List Value).toArray below meth c H locs 0 0 (MQ below (va_Qi (fun (x : Int32) (_ : Unit) => x = r) (fun _ => zEnd g A (zX7 g a v)) A) ([.ref (a 0), .int p0] : List Value).toArray s 0 0 A) (F0 m 13 ls []) := by
    intro v i1 i2
    refine zloop_ind ?_
    intro x y rr hf ih hr hQ H locs hP hD hS ls hl
    unfold s_X7_chosen_13 at hf
    refine lv_iload hx hb dX7_chosen_13 (lv_at hl 5 rfl) ?_
    refine lv_iload_n hx hb dX7_chosen_15 rfl (lv_at hl 2 rfl) ?_
    refine lv_icmp_gt (tgt := 107) hx hb dX7_chosen_16 (by decide) (fun c2 => ?_) (fun c2 => ?_)
    · have hf := oi hf c2
      have hR : (x.1, x.2.1, x.2.2) = rr := hr _ (Option.some.inj hf).symm
      subst hR
      exact hQ _ _ hP hD hS _ (lv_sub hl [3] rfl)
    · have hf := oe hf c2
      refine lv_iload hx hb dX7_chosen_19 (lv_at hl 5 rfl) ?_
      refine lv_iload_n hx hb dX7_chosen_21 rfl (lv_at hl 2 rfl) ?_
      refine lv_iconst (v := (-1)) hx hb dX7_chosen_22 (by decide) ?_
      refine lv_ixor hx hb dX7_chosen_23 ?_
      refine lv_iand hx hb dX7_chosen_24 ?_
      refine lv_if_ne (tgt := 101) hx hb dX7_chosen_25 (by decide) (fun c3 => ?_) (fun c3 => ?_)
      · have hf := oe hf c3
        refine lv_iinc (v := (x.2.2 + 1)) (lv' := [(5, .int (x.2.2 + 1)), (0, .ref (a 0)), (1, .int i1), (2, .int i2), (3, .int x.1), (4, .int x.2.1)]) hx hb dX7_chosen_101 hl (k := 5) rfl rfl (by decide) rfl (fun ls hl => ?_)
        refine lv_goto (tgt := 13) hx hb dX7_chosen_104 (by decide) ?_
        exact ih (x.1, x.2.1, (x.2.2 + 1)) (Option.some.inj hf).symm hQ _ _ hP hD hS _ (lv_sub hl [1, 2, 3, 4, 5, 0] rfl)
      · have hf := oi hf c3
        refine lv_aload_n hx hb dX7_chosen_28 rfl (lv_at hl 0 rfl) ?_
        refine lv_iload hx hb dX7_chosen_29 (lv_at hl 5 rfl) ?_
        obtain ⟨u4, hu4, hf⟩ := ob hf
        refine zk_iA (va_runV (As := [.int x.2.2]) (rest := []) ⟨hx, hb, hml, hown, hts⟩ (c_X7_lengthOf l g a v x.2.2 _ hu4 _) (zcV hw0 zm4_232 zm4_235 zm1_8 zm4_234 zs6_10 hd_X7_lengthOf rfl rfl ⟨Nat.le_of_ble_eq_true rfl, Nat.le_of_ble_eq_true rfl⟩) ⟨zblind, zrecvA hK hP (ci := 7) rfl rfl, zpreA hK hP hD⟩ rfl rfl hl.1 rfl (lv_room (Nat.le_of_ble_eq_true rfl)) dX7_chosen_31 ⟨Nat.zero_le _, Nat.zero_le _⟩) hP hD hS hA (fun H locs hP hD hS => ?_)
        refine lv_istore (lv' := [(6, .int u4), (0, .ref (a 0)), (1, .int i1), (2, .int i2), (3, .int x.1), (4, .int x.2.1), (5, .int x.2.2)]) hx hb dX7_chosen_34 hl (by decide) rfl (fun ls hl => ?_)
        refine lv_iload hx hb dX7_chosen_36 (lv_at hl 0 rfl) ?_
        refine lv_iload_n hx hb dX7_chosen_38 rfl (lv_at hl 2 rfl) ?_
        refine lv_icmp_gt (tgt := 72) hx hb dX7_chosen_39 (by decide) (fun c5 => ?_) (fun c5 => ?_)
        · have hf := oi hf c5
          refine lv_iconst (v := 0) hx hb dX7_chosen_72 (by decide) ?_
          refine lv_istore (lv' := [(7, .int 0), (6, .int u4), (0, .ref (a 0)), (1, .int i1), (2, .int i2), (3, .int x.1), (4, .int x.2.1), (5, .int x.2.2)]) hx hb dX7_chosen_73 hl (by decide) rfl (fun ls hl => ?_)
          refine lv_iload hx hb dX7_chosen_75 (lv_at hl 0 rfl) ?_
          refine lv_if_eq (tgt := 85) hx hb dX7_chosen_77 (by decide) (fun _ => ?_) (fun c9 => absurd c9 (by decide))
          refine lv_iload_n hx hb dX7_chosen_85 rfl (lv_at hl 5 rfl) ?_
          refine lv_istore_n (lv' := [(3, .int x.1), (7, .int 0), (6, .int u4), (0, .ref (a 0)), (1, .int i1), (2, .int i2), (4, .int x.2.1), (5, .int x.2.2)]) hx hb dX7_chosen_86 rfl hl (by decide) rfl (fun ls hl => ?_)
          refine lv_iload hx hb dX7_chosen_87 (lv_at hl 1 rfl) ?_
          refine lv_if_eq (tgt := 97) hx hb dX7_chosen_89 (by decide) (fun _ => ?_) (fun c9 => absurd c9 (by decide))
          refine lv_iload hx hb dX7_chosen_97 (lv_at hl 6 rfl) ?_
          refine lv_istore (lv' := [(4, .int x.2.1), (3, .int x.1), (7, .int 0), (6, .int u4), (0, .ref (a 0)), (1, .int i1), (2, .int i2), (5, .int x.2.2)]) hx hb dX7_chosen_99 hl (by decide) rfl (fun ls hl => ?_)
          refine lv_iinc (v := (x.2.2 + 1)) (lv' := [(5, .int (x.2.2 + 1)), (4, .int x.2.1), (3, .int x.1), (7, .int 0), (6, .int u4), (0, .ref (a 0)), (1, .int i1), (2, .int i2)]) hx hb dX7_chosen_101 hl (k := 7) rfl rfl (by decide) rfl (fun ls hl => ?_)
          refine lv_goto (tgt := 13) hx hb dX7_chosen_104 (by decide) ?_
          exact ih (x.1, x.2.1, (x.2.2 + 1)) (Option.some.inj hf).symm hQ _ _ hP hD hS _ (lv_sub hl [5, 6, 7, 2, 1, 0] rfl)
        · have hf := oe hf c5
          refine lv_iload hx hb dX7_chosen_42 (lv_at hl 0 rfl) ?_
          refine lv_iload hx hb dX7_chosen_44 (lv_at hl 5 rfl) ?_
          refine lv_icmp_gt (tgt := 68) hx hb dX7_chosen_46 (by decide) (fun c6 => ?_) (fun c6 => ?_)
          · have hf := oi hf c6
            refine lv_iconst (v := 1) hx hb dX7_chosen_68 (by decide) ?_
            refine lv_goto (tgt := 73) hx hb dX7_chosen_69 (by decide) ?_
            refine lv_istore (lv' := [(7, .int 1), (6, .int u4), (0, .ref (a 0)), (1, .int i1), (2, .int i2), (3, .int x.1), (4, .int x.2.1), (5, .int x.2.2)]) hx hb dX7_chosen_73 hl (by decide) rfl (fun ls hl => ?_)
            refine lv_iload hx hb dX7_chosen_75 (lv_at hl 0 rfl) ?_
            refine lv_if_eq (tgt := 85) hx hb dX7_chosen_77 (by decide) (fun c9 => absurd c9 (by decide)) (fun _ => ?_)
            refine lv_iload hx hb dX7_chosen_80 (lv_at hl 7 rfl) ?_
            refine lv_goto (tgt := 86) hx hb dX7_chosen_82 (by decide) ?_
            refine lv_istore_n (lv' := [(3, .int x.2.2), (7, .int 1), (6, .int u4), (0, .ref (a 0)), (1, .int i1), (2, .int i2), (4, .int x.2.1), (5, .int x.2.2)]) hx hb dX7_chosen_86 rfl hl (by decide) rfl (fun ls hl => ?_)
            refine lv_iload hx hb dX7_chosen_87 (lv_at hl 1 rfl) ?_
            refine lv_if_eq (tgt := 97) hx hb dX7_chosen_89 (by decide) (fun c9 => absurd c9 (by decide)) (fun _ => ?_)
            refine lv_iload hx hb dX7_chosen_92 (lv_at hl 2 rfl) ?_
            refine lv_goto (tgt := 99) hx hb dX7_chosen_94 (by decide) ?_
            refine lv_istore (lv' := [(4, .int u4), (3, .int x.2.2), (7, .int 1), (6, .int u4), (0, .ref (a 0)), (1, .int i1), (2, .int i2), (5, .int x.2.2)]) hx hb dX7_chosen_99 hl (by decide) rfl (fun ls hl => ?_)
            refine lv_iinc (v := (x.2.2 + 1)) (lv' := [(5, .int (x.2.2 + 1)), (4, .int u4), (3, .int x.2.2), (7, .int 1), (6, .int u4), (0, .ref (a 0)), (1, .int i1), (2, .int i2)]) hx hb dX7_chosen_101 hl (k := 7) rfl rfl (by decide) rfl (fun ls hl => ?_)
            refine lv_goto (tgt := 13) hx hb dX7_chosen_104 (by decide) ?_
            exact ih (x.2.2, u4, (x.2.2 + 1)) (Option.some.inj hf).symm hQ _ _ hP hD hS _ (lv_sub hl [5, 6, 7, 2, 1, 0] rfl)
          · have hf := oe hf c6
            refine lv_iload hx hb dX7_chosen_49 (lv_at hl 0 rfl) ?_
            refine lv_iload hx hb dX7_chosen_51 (lv_at hl 5 rfl) ?_
            refine lv_icmp_ne (tgt := 72) hx hb dX7_chosen_53 (by decide) (fun c7 => ?_) (fun c7 => ?_)
            · have hf := oe hf c7
              refine lv_iconst (v := 0) hx hb dX7_chosen_72 (by decide) ?_
              refine lv_istore (lv' := [(7, .int 0), (6, .int u4), (0, .ref (a 0)), (1, .int i1), (2, .int i2), (3, .int x.1), (4, .int x.2.1), (5, .int x.2.2)]) hx hb dX7_chosen_73 hl (by decide) rfl (fun ls hl => ?_)
              refine lv_iload hx hb dX7_chosen_75 (lv_at hl 0 rfl) ?_
              refine lv_if_eq (tgt := 85) hx hb dX7_chosen_77 (by decide) (fun _ => ?_) (fun c9 => absurd c9 (by decide))
              refine lv_iload_n hx hb dX7_chosen_85 rfl (lv_at hl 5 rfl) ?_
              refine lv_istore_n (lv' := [(3, .int x.1), (7, .int 0), (6, .int u4), (0, .ref (a 0)), (1, .int i1), (2, .int i2), (4, .int x.2.1), (5, .int x.2.2)]) hx hb dX7_chosen_86 rfl hl (by decide) rfl (fun ls hl => ?_)
              refine lv_iload hx hb dX7_chosen_87 (lv_at hl 1 rfl) ?_
              refine lv_if_eq (tgt := 97) hx hb dX7_chosen_89 (by decide) (fun _ => ?_) (fun c9 => absurd c9 (by decide))
              refine lv_iload hx hb dX7_chosen_97 (lv_at hl 6 rfl) ?_
              refine lv_istore (lv' := [(4, .int x.2.1), (3, .int x.1), (7, .int 0), (6, .int u4), (0, .ref (a 0)), (1, .int i1), (2, .int i2), (5, .int x.2.2)]) hx hb dX7_chosen_99 hl (by decide) rfl (fun ls hl => ?_)
              refine lv_iinc (v := (x.2.2 + 1)) (lv' := [(5, .int (x.2.2 + 1)), (4, .int x.2.1), (3, .int x.1), (7, .int 0), (6, .int u4), (0, .ref (a 0)), (1, .int i1), (2, .int i2)]) hx hb dX7_chosen_101 hl (k := 7) rfl rfl (by decide) rfl (fun ls hl => ?_)
              refine lv_goto (tgt := 13) hx hb dX7_chosen_104 (by decide) ?_
              exact ih (x.1, x.2.1, (x.2.2 + 1)) (Option.some.inj hf).symm hQ _ _ hP hD hS _ (lv_sub hl [5, 6, 7, 2, 1, 0] rfl)
            · have hf := oi hf c7
              refine lv_iload hx hb dX7_chosen_56 (lv_at hl 6 rfl) ?_
              obtain ⟨u8, hu8, hf⟩ := ob hf
              refine zk_iR (va_runS (As := [.int x.2.2]) (rest := []) ⟨hx, hb, hml, hown, hts⟩ (c_X7_ones l g x.2.2 _ hu8 _) (zcS hw0 zm4_236 zm4_238 zm1_8 zm4_237 hd_X7_ones rfl rfl ⟨Nat.le_of_ble_eq_true rfl, Nat.le_of_ble_eq_true rfl⟩) ⟨zblind, zpre hK hP hD [] rfl rfl⟩ rfl rfl hl.1 rfl (lv_room (Nat.le_of_ble_eq_true rfl)) dX7_chosen_58 ⟨Nat.zero_le _, Nat.zero_le _⟩) hP hD hS hA [] rfl (fun H locs hP hD hS => ?_)
              refine lv_iload_n hx hb dX7_chosen_61 rfl (lv_at hl 4 rfl) ?_
              obtain ⟨u9, hu9, hf⟩ := ob hf
              refine zk_iR (va_runS (As := [.int x.1]) (rest := [.int u8]) ⟨hx, hb, hml, hown, hts⟩ (c_X7_ones l g x.1 _ hu9 _) (zcS hw0 zm4_236 zm4_238 zm1_8 zm4_237 hd_X7_ones rfl rfl ⟨Nat.le_of_ble_eq_true rfl, Nat.le_of_ble_eq_true rfl⟩) ⟨zblind, zpre hK hP hD [] rfl rfl⟩ rfl rfl hl.1 rfl (lv_room (Nat.le_of_ble_eq_true rfl)) dX7_chosen_62 ⟨Nat.zero_le _, Nat.zero_le _⟩) hP hD hS hA [] rfl (fun H locs hP hD hS => ?_)
              refine lv_icmp_ge (tgt := 72) hx hb dX7_chosen_65 (by decide) (fun c10 => ?_) (fun c10 => ?_)
              · have hf := oi hf c10
                refine lv_iconst (v := 0) hx hb dX7_chosen_72 (by decide) ?_
                refine lv_istore (lv' := [(7, .int 0), (6, .int u4), (0, .ref (a 0)), (1, .int i1), (2, .int i2), (3, .int x.1), (4, .int x.2.1), (5, .int x.2.2)]) hx hb dX7_chosen_73 hl (by decide) rfl (fun ls hl => ?_)
                refine lv_iload hx hb dX7_chosen_75 (lv_at hl 0 rfl) ?_
                refine lv_if_eq (tgt := 85) hx hb dX7_chosen_77 (by decide) (fun _ => ?_) (fun c9 => absurd c9 (by decide))
                refine lv_iload_n hx hb dX7_chosen_85 rfl (lv_at hl 5 rfl) ?_
                refine lv_istore_n (lv' := [(3, .int x.1), (7, .int 0), (6, .int u4), (0, .ref (a 0)), (1, .int i1), (2, .int i2), (4, .int x.2.1), (5, .int x.2.2)]) hx hb dX7_chosen_86 rfl hl (by decide) rfl (fun ls hl => ?_)
                refine lv_iload hx hb dX7_chosen_87 (lv_at hl 1 rfl) ?_
                refine lv_if_eq (tgt := 97) hx hb dX7_chosen_89 (by decide) (fun _ => ?_) (fun c9 => absurd c9 (by decide))
                refine lv_iload hx hb dX7_chosen_97 (lv_at hl 6 rfl) ?_
                refine lv_istore (lv' := [(4, .int x.2.1), (3, .int x.1), (7, .int 0), (6, .int u4), (0, .ref (a 0)), (1, .int i1), (2, .int i2), (5, .int x.2.2)]) hx hb dX7_chosen_99 hl (by decide) rfl (fun ls hl => ?_)
                refine lv_iinc (v := (x.2.2 + 1)) (lv' := [(5, .int (x.2.2 + 1)), (4, .int x.2.1), (3, .int x.1), (7, .int 0), (6, .int u4), (0, .ref (a 0)), (1, .int i1), (2, .int i2)]) hx hb dX7_chosen_101 hl (k := 7) rfl rfl (by decide) rfl (fun ls hl => ?_)
                refine lv_goto (tgt := 13) hx hb dX7_chosen_104 (by decide) ?_
                exact ih (x.1, x.2.1, (x.2.2 + 1)) (Option.some.inj hf).symm hQ _ _ hP hD hS _ (lv_sub hl [5, 6, 7, 2, 1, 0] rfl)
              · have hf := oe hf c10
                refine lv_iconst (v := 1) hx hb dX7_chosen_68 (by decide) ?_
                refine lv_goto (tgt := 73) hx hb dX7_chosen_69 (by decide) ?_
                refine lv_istore (lv' := [(7, .int 1), (6, .int u4), (0, .ref (a 0)), (1, .int i1), (2, .int i2), (3, .int x.1), (4, .int x.2.1), (5, .int x.2.2)]) hx hb dX7_chosen_73 hl (by decide) rfl (fun ls hl => ?_)
                refine lv_iload hx hb dX7_chosen_75 (lv_at hl 0 rfl) ?_
                refine lv_if_eq (tgt := 85) hx hb dX7_chosen_77 (by decide) (fun c9 => absurd c9 (by decide)) (fun _ => ?_)
                refine lv_iload hx hb dX7_chosen_80 (lv_at hl 7 rfl) ?_
                refine lv_goto (tgt := 86) hx hb dX7_chosen_82 (by decide) ?_
                refine lv_istore_n (lv' := [(3, .int x.2.2), (7, .int 1), (6, .int u4), (0, .ref (a 0)), (1, .int i1), (2, .int i2), (4, .int x.2.1), (5, .int x.2.2)]) hx hb dX7_chosen_86 rfl hl (by decide) rfl (fun ls hl => ?_)
                refine lv_iload hx hb dX7_chosen_87 (lv_at hl 1 rfl) ?_
                refine lv_if_eq (tgt := 97) hx hb dX7_chosen_89 (by decide) (fun c9 => absurd c9 (by decide)) (fun _ => ?_)
                refine lv_iload hx hb dX7_chosen_92 (lv_at hl 2 rfl) ?_
                refine lv_goto (tgt := 99) hx hb dX7_chosen_94 (by decide) ?_
                refine lv_istore (lv' := [(4, .int u4), (3, .int x.2.2), (7, .int 1), (6, .int u4), (0, .ref (a 0)), (1, .int i1), (2, .int i2), (5, .int x.2.2)]) hx hb dX7_chosen_99 hl (by decide) rfl (fun ls hl => ?_)
                refine lv_iinc (v := (x.2.2 + 1)) (lv' := [(5, .int (x.2.2 + 1)), (4, .int u4), (3, .int x.2.2), (7, .int 1), (6, .int u4), (0, .ref (a 0)), (1, .int i1), (2, .int i2)]) hx hb dX7_chosen_101 hl (k := 7) rfl rfl (by decide) rfl (fun ls hl => ?_)
                refine lv_goto (tgt := 13) hx hb dX7_chosen_104 (by decide) ?_
                exact ih (x.2.2, u4, (x.2.2 + 1)) (Option.some.inj hf).symm hQ _ _ hP hD hS _ (lv_sub hl [5, 6, 7, 2, 1, 0] rfl)
  unfold f_X7_chosen at hf
  have hl := lv_entry ([.ref (a 0), .int p0]) (n := 8) (Nat.le_of_ble_eq_true rfl)
  rw [lg_entry_eq]
  generalize (lg_sl ([.ref (a 0), .int p0]) ++ List.replicate (8 - (lg_sl ([.ref (a 0), .int p0])).length) Slot.unset).toArray = ls at hl ⊢
  have hl : lv_has ls 8 [(0, .ref (a 0)), (1, .int p0)] := hl
  refine lv_aload_n hx hb dX7_chosen_0 rfl (lv_at hl 0 rfl) ?_
  obtain ⟨u1, hu1, hf⟩ := ob hf
  refine zk_iA (va_runV (As := []) (rest := []) ⟨hx, hb, hml, hown, hts⟩ (c_X7_waitingFillers l g a v _ hu1 _) (zcV hw0 zm4_224 zm4_227 zm1_8 zm4_226 zs6_8 hd_X7_waitingFillers rfl rfl ⟨Nat.le_of_ble_eq_true rfl, Nat.le_of_ble_eq_true rfl⟩) ⟨zblind, zrecvA hK hP (ci := 7) rfl rfl, zpreA hK hP hD⟩ rfl rfl hl.1 rfl (lv_room (Nat.le_of_ble_eq_true rfl)) dX7_chosen_1 ⟨Nat.zero_le _, Nat.zero_le _⟩) hP hD hS hA (fun H locs hP hD hS => ?_)
  refine lv_istore_n (lv' := [(2, .int u1), (0, .ref (a 0)), (1, .int p0)]) hx hb dX7_chosen_4 rfl hl (by decide) rfl (fun ls hl => ?_)
  refine lv_iconst (v := 0) hx hb dX7_chosen_5 (by decide) ?_
  refine lv_istore_n (lv' := [(3, .int 0), (2, .int u1), (0, .ref (a 0)), (1, .int p0)]) hx hb dX7_chosen_6 rfl hl (by decide) rfl (fun ls hl => ?_)
  refine lv_iconst (v := 0) hx hb dX7_chosen_7 (by decide) ?_
  refine lv_istore (lv' := [(4, .int 0), (3, .int 0), (2, .int u1), (0, .ref (a 0)), (1, .int p0)]) hx hb dX7_chosen_8 hl (by decide) rfl (fun ls hl => ?_)
  refine lv_iconst (v := 1) hx hb dX7_chosen_10 (by decide) ?_
  refine lv_istore (lv' := [(5, .int 1), (4, .int 0), (3, .int 0), (2, .int u1), (0, .ref (a 0)), (1, .int p0)]) hx hb dX7_chosen_11 hl (by decide) rfl (fun ls hl => ?_)
  obtain ⟨u11, hu11, hf⟩ := ob hf
  refine lp13 v p0 u1 _ _ u11 hu11 (fun H locs hP hD hS ls hl => ?_) _ _ hP hD hS _ (lv_sub hl [4, 5, 3, 2, 1, 0] rfl)
  have hl : lv_has ls 8 [(3, .int u11.1)] := hl
  have hP : va_P g.1 vwCl (zX7 g a v) H := hP
  have hD : va_D A (zX7 g a v) := hD
  refine lv_iload_n hx hb dX7_chosen_107 rfl (lv_at hl 0 rfl) ?_
  have hR : u11.1 = r := Option.some.inj hf
  subst hR
  exact W.iret (v := u11.1) hx hb hr0 (fun t ht hW => ⟨⟨u11.1, (), rfl, rfl, by rw [ht]; exact hP, hD⟩, hS.F ht⟩) hS.2.2 dX7_chosen_108
theorem hd_X7_lowestOf : yX7_lowestOf.cls ≠ "java/lang/invoke/MethodHandle" ∧ yX7_lowestOf.cls ≠ "java/lang/invoke/VarHandle" ∧ (parseMethodDescriptor yX7_lowestOf.desc).map (fun d => d.parameters.length) = some 1 := by decide +kernel
def s_X7_lowestOf_2 (i0 : Int32) (x : Int32) : Option ((Int32) ⊕ (Int32)) :=
  if ((i0 >>> (x &&& 31)) &&& 1) = 0 then
    some (.inl (x + 1))
  else
    some (.inr x)
def f_X7_lowestOf (p0 : Int32) : Option (Int32) :=
  (zloop (s_X7_lowestOf_2 p0) 4096 0).bind (fun u2 =>
  some u2)
set_option maxHeartbeats 4000000 in
set_option maxRecDepth 100000 in
theorem c_X7_lowestOf (l : Launch) (g : zG) (p0 : Int32) (r : Int32) (hf : f_X7_lowestOf p0 = some r) : zMi zNF zNM l yX7_lowestOf (zw yX7_lowestOf cX7_lowestOf 2 (some .int)) ({ frames := 0, cells := 0, slots := 0, locals := 0 } : Room) g [.int p0] ([] : va_W) r ([] : va_W) := by
  intro sz
  refine Met.ofW (cc := cX7_lowestOf) (maxL := 2) (ret := (some .int)) (by decide) rfl ?_
  intro p e s m args below meth c s₁ B hml hv
  obtain ⟨rfl, hsz, hP, hK, hD0⟩ := hv
  have hx := B.exec
  have hb := B.bytes
  have hr0 := B.returns
  have hts := atoms_spec (ws := (zw yX7_lowestOf cX7_lowestOf 2 (some .int))) B.pre
  have hw0 : ∀ w ∈ zW, w.before ([.int p0] : List Value).toArray s = true := fun w h => hts w (List.mem_cons_of_mem _ h)
  have hown : s.vm.findClass RX7 = some m.cls := findClass_of_methodNamed B.named
  have hlocks := B.notSynchronized
  subst hsz
  have hD := hD0.self (sz := s.heap.size)
  generalize hAe : va_A ([] : va_W) s.heap.size = A at hD ⊢
  have hA : ∀ q : Nat, s.heap.size ≤ q → A q := fun q h => by rw [← hAe]; exact Or.inr h
  have hS : va_S A s.heap s.heap [] := va_S.rf
  have lp2 : ∀ (i0 : Int32), ∀ (n : Nat) (x : Int32) (rr : Int32), zloop (s_X7_lowestOf_2 i0) n x = some rr → (∀ (H : Heap) (locs : List Loc), va_P g.1 vwCl ([] : va_W) H → va_D A ([] : va_W) → va_S A s.heap H locs → ∀ ls : Array Slot, lv_has ls 2 [(1, .int rr)] → W p l e (headSpec (zw yX7_lowestOf cX7_lowestOf 2 (some .int)) ({ frames := 0, cells := 0, slots := 0, locals := 0 } : Room)).room s m ([.int p0] : List Value).toArray below meth c H locs 0 0 (MQ below (va_Qi (fun (x : Int32) (_ : Unit) => x = r) (fun _ => zEnd g A ([] : va_W)) A) ([.int p0] : List Value).toArray s 0 0 A) (F0 m 16 ls [])) → ∀ (H : Heap) (locs : List Loc), va_P g.1 vwCl ([] : va_W) H → va_D A ([] : va_W) → va_S A s.heap H locs → ∀ ls : Array Slot, lv_has ls 2 [(0, .int i0), (1, .int x)] → W p l e (headSpec (zw yX7_lowestOf cX7_lowestOf 2 (some .int)) ({ frames := 0, cells := 0, slots := 0, locals := 0 } : Room)).room s m ([.int p0] : List Value).toArray below meth c H locs 0 0 (MQ below (va_Qi (fun (x : Int32) (_ : Unit) => x = r) (fun _ => zEnd g A ([] : va_W)) A) ([.int p0] : List Value).toArray s 0 0 A) (F0 m 2 ls []) := by
    intro i0
    refine zloop_ind ?_
    intro x y rr hf ih hr hQ H locs hP hD hS ls hl
    unfold s_X7_lowestOf_2 at hf
    refine lv_iload_n hx hb dX7_lowestOf_2 rfl (lv_at hl 0 rfl) ?_
    refine lv_iload_n hx hb dX7_lowestOf_3 rfl (lv_at hl 1 rfl) ?_
    refine lv_ishr hx hb dX7_lowestOf_4 ?_
    refine lv_iconst (v := 1) hx hb dX7_lowestOf_5 (by decide) ?_
    refine lv_iand hx hb dX7_lowestOf_6 ?_
    refine lv_if_ne (tgt := 16) hx hb dX7_lowestOf_7 (by decide) (fun c1 => ?_) (fun c1 => ?_)
    · have hf := oe hf c1
      have hR : x = rr := hr _ (Option.some.inj hf).symm
      subst hR
      exact hQ _ _ hP hD hS _ (lv_sub hl [1] rfl)
    · have hf := oi hf c1
      refine lv_iinc (v := (x + 1)) (lv' := [(1, .int (x + 1)), (0, .int i0)]) hx hb dX7_lowestOf_10 hl (k := 1) rfl rfl (by decide) rfl (fun ls hl => ?_)
      refine lv_goto (tgt := 2) hx hb dX7_lowestOf_13 (by decide) ?_
      exact ih (x + 1) (Option.some.inj hf).symm hQ _ _ hP hD hS _ (lv_sub hl [1, 0] rfl)
  unfold f_X7_lowestOf at hf
  have hl := lv_entry ([.int p0]) (n := 2) (Nat.le_of_ble_eq_true rfl)
  rw [lg_entry_eq]
  generalize (lg_sl ([.int p0]) ++ List.replicate (2 - (lg_sl ([.int p0])).length) Slot.unset).toArray = ls at hl ⊢
  have hl : lv_has ls 2 [(0, .int p0)] := hl
  refine lv_iconst (v := 0) hx hb dX7_lowestOf_0 (by decide) ?_
  refine lv_istore_n (lv' := [(1, .int 0), (0, .int p0)]) hx hb dX7_lowestOf_1 rfl hl (by decide) rfl (fun ls hl => ?_)
  obtain ⟨u2, hu2, hf⟩ := ob hf
  refine lp2 p0 _ _ u2 hu2 (fun H locs hP hD hS ls hl => ?_) _ _ hP hD hS _ (lv_sub hl [1, 0] rfl)
  have hl : lv_has ls 2 [(1, .int u2)] := hl
  have hP : va_P g.1 vwCl ([] : va_W) H := hP
  have hD : va_D A ([] : va_W) := hD
  refine lv_iload_n hx hb dX7_lowestOf_16 rfl (lv_at hl 0 rfl) ?_
  have hR : u2 = r := Option.some.inj hf
  subst hR
  exact W.iret (v := u2) hx hb hr0 (fun t ht hW => ⟨⟨u2, (), rfl, rfl, by rw [ht]; exact hP, hD⟩, hS.F ht⟩) hS.2.2 dX7_lowestOf_17
theorem hd_X7_finds : yX7_finds.cls ≠ "java/lang/invoke/MethodHandle" ∧ yX7_finds.cls ≠ "java/lang/invoke/VarHandle" ∧ (parseMethodDescriptor yX7_finds.desc).map (fun d => d.parameters.length) = some 0 := by decide +kernel
def s_X7_finds_18 (v : MV) (i1 : Int32) (i2 : Int32) (x : Int32 × MV) : Option ((Int32 × MV) ⊕ (Int32 × MV)) :=
  if x.1 = (-1) then
    some (.inr (x.1, x.2))
  else
    (f_X7_sectionLength x.2 i1).bind (fun u5 =>
    if ((x.2.1 0) + u5) ≤ i2 then
      some (.inr (x.1, x.2))
    else
      (f_X7_lets x.2 x.1).bind (fun u7 =>
      (f_X7_lowest u7 i1).bind (fun u8 =>
      some (.inl (u8, u7)))))
def f_X7_finds (v : MV) : Option (MV) :=
  (f_X7_nextFixed v 0).bind (fun u1 =>
  (f_X7_timeAt v u1).bind (fun u2 =>
  (f_X7_lowest v u1).bind (fun u3 =>
  (zloop (s_X7_finds_18 v u1 u2) 4096 (u3, v)).bind (fun u9 =>
  (f_X7_firstWaiting u9.2 u1).bind (fun u10 =>
  if u10 = (-1) then
    if u2 ≤ (u9.2.1 0) then
      if (u9.2.1 7) ≤ u1 then
        some ((upd u9.2.1 1 1), u9.2.2.1, u9.2.2.2.1, u9.2.2.2.2.1, u9.2.2.2.2.2.1, u9.2.2.2.2.2.2.1, u9.2.2.2.2.2.2.2.1, u9.2.2.2.2.2.2.2.2.1, u9.2.2.2.2.2.2.2.2.2.1, u9.2.2.2.2.2.2.2.2.2.2.1, u9.2.2.2.2.2.2.2.2.2.2.2)
      else
        (f_X7_beginsElement u9.2 u1).bind (fun u14 =>
        some u14)
    else
      (f_X7_chosen u9.2 (u2 - (u9.2.1 0))).bind (fun u15 =>
      if u15 = 0 then
        (f_X7_goesOnAir u9.2 3 (-1) (u2 - (u9.2.1 0))).bind (fun u19 =>
        some u19)
      else
        (f_X7_lowestOf u15).bind (fun u17 =>
        (f_X7_beginsFiller u9.2 u17).bind (fun u18 =>
        some u18)))
  else
    (f_X7_beginsElement u9.2 u10).bind (fun u20 =>
    some u20))))))
set_option maxHeartbeats 4000000 in
set_option maxRecDepth 100000 in
theorem c_X7_finds (l : Launch) (g : zG) (a : Nat → Nat) (v : MV) (r : MV) (hf : f_X7_finds v = some r) : zMv zNF zNM l yX7_finds (zw yX7_finds cX7_finds 6 none) ({ frames := 3, cells := 0, slots := 0, locals := 72 } : Room) g [.ref (a 0)] (zX7 g a v) (zX7 g a r) := by
  intro sz
  refine Met.ofW (cc := cX7_finds) (maxL := 6) (ret := none) (by decide) rfl ?_
  intro p e s m args below meth c s₁ B hml hv
  obtain ⟨rfl, hsz, hP, hK, hD0⟩ := hv
  have hx := B.exec
  have hb := B.bytes
  have hr0 := B.returns
  have hts := atoms_spec (ws := (zw yX7_finds cX7_finds 6 none)) B.pre
  have hw0 : ∀ w ∈ zW, w.before ([.ref (a 0)] : List Value).toArray s = true := fun w h => hts w (List.mem_cons_of_mem _ h)
  have hown : s.vm.findClass RX7 = some m.cls := findClass_of_methodNamed B.named
  have hlocks := B.notSynchronized
  subst hsz
  have hD := hD0.self (sz := s.heap.size)
  generalize hAe : va_A (zX7 g a v) s.heap.size = A at hD ⊢
  have hA : ∀ q : Nat, s.heap.size ≤ q → A q := fun q h => by rw [← hAe]; exact Or.inr h
  have hS : va_S A s.heap s.heap [] := va_S.rf
  have lp18 : ∀ (v : MV) (i1 : Int32) (i2 : Int32), ∀ (n : Nat) (x : Int32 × MV) (rr : Int32 × MV), zloop (s_X7_finds_18 v i1 i2) n x = some rr → (∀ (H : Heap) (locs : List Loc), va_P g.1 vwCl (zX7 g a rr.2) H → va_D A (zX7 g a rr.2) → va_S A s.heap H locs → ∀ ls : Array Slot, lv_has ls 6 [(0, .ref (a 0)), (1, .int i1), (2, .int i2)] → W p l e (headSpec (zw yX7_finds cX7_finds 6 none) ({ frames := 3, cells := 0, slots := 0, locals := 72 } : Room)).room s m ([.ref (a 0)] : List Value).toArray below meth c H locs 0 0 (MQ below (va_Qv (fun (_ : Unit) => True) (fun _ => zEnd g A (zX7 g a r)) A) ([.ref (a 0)] : List Value).toArray s 0 0 A) (F0 m 53 ls [])) → ∀ (H : Heap) (locs : List Loc), va_P g.1 vwCl (zX7 g a x.2) H → va_D A (zX7 g a x.2) → va_S A s.heap H locs → ∀ ls : Array Slot, lv_has ls 6 [(0, .ref (a 0)), (1, .int i1), (2, .int i2), (3, .int x.1)] → W p l e (headSpec (zw yX7_finds cX7_finds 6 none) ({ frames := 3, cells := 0, slots := 0, locals := 72 } : Room)).room s m ([.ref (a 0)] : List Value).toArray below meth c H locs 0 0 (MQ below (va_Qv (fun (_ : Unit) => True) (fun _ => zEnd g A (zX7 g a r)) A) ([.ref (a 0)] : List Value).toArray s 0 0 A) (F0 m 18 ls []) := by
    intro v i1 i2
    refine zloop_ind ?_
    intro x y rr hf ih hr hQ H locs hP hD hS ls hl
    unfold s_X7_finds_18 at hf
    refine lv_iload_n hx hb dX7_finds_18 rfl (lv_at hl 3 rfl) ?_
    refine lv_iconst (v := (-1)) hx hb dX7_finds_19 (by decide) ?_
    refine lv_icmp_eq (tgt := 53) hx hb dX7_finds_20 (by decide) (fun c4 => ?_) (fun c4 => ?_)
    · have hf := oi hf c4
      have hR : (x.1, x.2) = rr := hr _ (Option.some.inj hf).symm
      subst hR
      exact hQ _ _ hP hD hS _ (lv_sub hl [0, 1, 2] rfl)
    · have hf := oe hf c4
      refine lv_aload_n hx hb dX7_finds_23 rfl (lv_at hl 0 rfl) ?_
      refine va_get (D := g.1) (ci := 7) (v := .ref (a 1)) (C := RX7) (T := TX7) (N := 11) hx hb hw0 ziX7 hown hK.1 hP 0 rfl rfl 0 (by decide) (hw0 _ zm4_71) (fun _ h9 => h9) rfl dX7_finds_24 ?_
      refine lv_iconst (v := 0) hx hb dX7_finds_27 (by decide) ?_
      refine zald (D := g.1) (f := x.2.1) (k := 0) hx hb hK.1 hP 1 0 rfl rfl (zin_vp (i := 0) (n := 220) rfl) rfl dX7_finds_28 ?_
      refine lv_aload_n hx hb dX7_finds_29 rfl (lv_at hl 0 rfl) ?_
      refine lv_iload_n hx hb dX7_finds_30 rfl (lv_at hl 1 rfl) ?_
      obtain ⟨u5, hu5, hf⟩ := ob hf
      refine zk_iA (va_runV (As := [.int i1]) (rest := [.int (x.2.1 0)]) ⟨hx, hb, hml, hown, hts⟩ (c_X7_sectionLength l g a x.2 i1 _ hu5 _) (zcV hw0 zm4_204 zm4_207 zm1_8 zm4_206 zs6_3 hd_X7_sectionLength rfl rfl ⟨Nat.le_of_ble_eq_true rfl, Nat.le_of_ble_eq_true rfl⟩) ⟨zblind, zrecvA hK hP (ci := 7) rfl rfl, zpreA hK hP hD⟩ rfl rfl hl.1 rfl (lv_room (Nat.le_of_ble_eq_true rfl)) dX7_finds_31 ⟨Nat.zero_le _, Nat.zero_le _⟩) hP hD hS hA (fun H locs hP hD hS => ?_)
      refine lv_iadd hx hb dX7_finds_34 ?_
      refine lv_iload_n hx hb dX7_finds_35 rfl (lv_at hl 2 rfl) ?_
      refine lv_icmp_le (tgt := 53) hx hb dX7_finds_36 (by decide) (fun c6 => ?_) (fun c6 => ?_)
      · have hf := oi hf c6
        have hR : (x.1, x.2) = rr := hr _ (Option.some.inj hf).symm
        subst hR
        exact hQ _ _ hP hD hS _ (lv_sub hl [0, 1, 2] rfl)
      · have hf := oe hf c6
        refine lv_aload_n hx hb dX7_finds_39 rfl (lv_at hl 0 rfl) ?_
        refine lv_iload_n hx hb dX7_finds_40 rfl (lv_at hl 3 rfl) ?_
        obtain ⟨u7, hu7, hf⟩ := ob hf
        refine zk_vA (va_runV (As := [.int x.1]) (rest := []) ⟨hx, hb, hml, hown, hts⟩ (c_X7_lets l g a x.2 x.1 _ hu7 _) (zcV hw0 zm4_164 zm4_167 zm1_8 zm4_166 zs5_10 hd_X7_lets rfl rfl ⟨Nat.le_of_ble_eq_true rfl, Nat.le_of_ble_eq_true rfl⟩) ⟨zblind, zrecvA hK hP (ci := 7) rfl rfl, zpreA hK hP hD⟩ rfl rfl hl.1 rfl (lv_room (Nat.le_of_ble_eq_true rfl)) dX7_finds_41 ⟨Nat.zero_le _, Nat.zero_le _⟩) hP hD hS hA (fun H locs hP hD hS => ?_)
        have hP : va_P g.1 vwCl (zX7 g a u7) H := hP
        have hD : va_D A (zX7 g a u7) := hD
        refine lv_aload_n hx hb dX7_finds_44 rfl (lv_at hl 0 rfl) ?_
        refine lv_iload_n hx hb dX7_finds_45 rfl (lv_at hl 1 rfl) ?_
        obtain ⟨u8, hu8, hf⟩ := ob hf
        refine zk_iA (va_runV (As := [.int i1]) (rest := []) ⟨hx, hb, hml, hown, hts⟩ (c_X7_lowest l g a u7 i1 _ hu8 _) (zcV hw0 zm4_200 zm4_203 zm1_8 zm4_202 zs6_2 hd_X7_lowest rfl rfl ⟨Nat.le_of_ble_eq_true rfl, Nat.le_of_ble_eq_true rfl⟩) ⟨zblind, zrecvA hK hP (ci := 7) rfl rfl, zpreA hK hP hD⟩ rfl rfl hl.1 rfl (lv_room (Nat.le_of_ble_eq_true rfl)) dX7_finds_46 ⟨Nat.zero_le _, Nat.zero_le _⟩) hP hD hS hA (fun H locs hP hD hS => ?_)
        refine lv_istore_n (lv' := [(3, .int u8), (0, .ref (a 0)), (1, .int i1), (2, .int i2)]) hx hb dX7_finds_49 rfl hl (by decide) rfl (fun ls hl => ?_)
        refine lv_goto (tgt := 18) hx hb dX7_finds_50 (by decide) ?_
        exact ih (u8, u7) (Option.some.inj hf).symm hQ _ _ hP hD hS _ (lv_sub hl [1, 2, 3, 0] rfl)
  unfold f_X7_finds at hf
  have hl := lv_entry ([.ref (a 0)]) (n := 6) (Nat.le_of_ble_eq_true rfl)
  rw [lg_entry_eq]
  generalize (lg_sl ([.ref (a 0)]) ++ List.replicate (6 - (lg_sl ([.ref (a 0)])).length) Slot.unset).toArray = ls at hl ⊢
  have hl : lv_has ls 6 [(0, .ref (a 0))] := hl
  refine lv_aload_n hx hb dX7_finds_0 rfl (lv_at hl 0 rfl) ?_
  refine lv_iconst (v := 0) hx hb dX7_finds_1 (by decide) ?_
  obtain ⟨u1, hu1, hf⟩ := ob hf
  refine zk_iA (va_runV (As := [.int 0]) (rest := []) ⟨hx, hb, hml, hown, hts⟩ (c_X7_nextFixed l g a v 0 _ hu1 _) (zcV hw0 zm4_188 zm4_191 zm1_8 zm4_190 zs5_15 hd_X7_nextFixed rfl rfl ⟨Nat.le_of_ble_eq_true rfl, Nat.le_of_ble_eq_true rfl⟩) ⟨zblind, zrecvA hK hP (ci := 7) rfl rfl, zpreA hK hP hD⟩ rfl rfl hl.1 rfl (lv_room (Nat.le_of_ble_eq_true rfl)) dX7_finds_2 ⟨Nat.zero_le _, Nat.zero_le _⟩) hP hD hS hA (fun H locs hP hD hS => ?_)
  refine lv_istore_n (lv' := [(1, .int u1), (0, .ref (a 0))]) hx hb dX7_finds_5 rfl hl (by decide) rfl (fun ls hl => ?_)
  refine lv_aload_n hx hb dX7_finds_6 rfl (lv_at hl 1 rfl) ?_
  refine lv_iload_n hx hb dX7_finds_7 rfl (lv_at hl 0 rfl) ?_
  obtain ⟨u2, hu2, hf⟩ := ob hf
  refine zk_iA (va_runV (As := [.int u1]) (rest := []) ⟨hx, hb, hml, hown, hts⟩ (c_X7_timeAt l g a v u1 _ hu2 _) (zcV hw0 zm4_196 zm4_199 zm1_8 zm4_198 zs6_1 hd_X7_timeAt rfl rfl ⟨Nat.le_of_ble_eq_true rfl, Nat.le_of_ble_eq_true rfl⟩) ⟨zblind, zrecvA hK hP (ci := 7) rfl rfl, zpreA hK hP hD⟩ rfl rfl hl.1 rfl (lv_room (Nat.le_of_ble_eq_true rfl)) dX7_finds_8 ⟨Nat.zero_le _, Nat.zero_le _⟩) hP hD hS hA (fun H locs hP hD hS => ?_)
  refine lv_istore_n (lv' := [(2, .int u2), (1, .int u1), (0, .ref (a 0))]) hx hb dX7_finds_11 rfl hl (by decide) rfl (fun ls hl => ?_)
  refine lv_aload_n hx hb dX7_finds_12 rfl (lv_at hl 2 rfl) ?_
  refine lv_iload_n hx hb dX7_finds_13 rfl (lv_at hl 1 rfl) ?_
  obtain ⟨u3, hu3, hf⟩ := ob hf
  refine zk_iA (va_runV (As := [.int u1]) (rest := []) ⟨hx, hb, hml, hown, hts⟩ (c_X7_lowest l g a v u1 _ hu3 _) (zcV hw0 zm4_200 zm4_203 zm1_8 zm4_202 zs6_2 hd_X7_lowest rfl rfl ⟨Nat.le_of_ble_eq_true rfl, Nat.le_of_ble_eq_true rfl⟩) ⟨zblind, zrecvA hK hP (ci := 7) rfl rfl, zpreA hK hP hD⟩ rfl rfl hl.1 rfl (lv_room (Nat.le_of_ble_eq_true rfl)) dX7_finds_14 ⟨Nat.zero_le _, Nat.zero_le _⟩) hP hD hS hA (fun H locs hP hD hS => ?_)
  refine lv_istore_n (lv' := [(3, .int u3), (2, .int u2), (1, .int u1), (0, .ref (a 0))]) hx hb dX7_finds_17 rfl hl (by decide) rfl (fun ls hl => ?_)
  obtain ⟨u9, hu9, hf⟩ := ob hf
  refine lp18 v u1 u2 _ _ u9 hu9 (fun H locs hP hD hS ls hl => ?_) _ _ hP hD hS _ (lv_sub hl [3, 2, 1, 0] rfl)
  have hl : lv_has ls 6 [(0, .ref (a 0)), (1, .int u1), (2, .int u2)] := hl
  have hP : va_P g.1 vwCl (zX7 g a u9.2) H := hP
  have hD : va_D A (zX7 g a u9.2) := hD
  refine lv_aload_n hx hb dX7_finds_53 rfl (lv_at hl 0 rfl) ?_
  refine lv_iload_n hx hb dX7_finds_54 rfl (lv_at hl 1 rfl) ?_
  obtain ⟨u10, hu10, hf⟩ := ob hf
  refine zk_iA (va_runV (As := [.int u1]) (rest := []) ⟨hx, hb, hml, hown, hts⟩ (c_X7_firstWaiting l g a u9.2 u1 _ hu10 _) (zcV hw0 zm4_208 zm4_211 zm1_8 zm4_210 zs6_4 hd_X7_firstWaiting rfl rfl ⟨Nat.le_of_ble_eq_true rfl, Nat.le_of_ble_eq_true rfl⟩) ⟨zblind, zrecvA hK hP (ci := 7) rfl rfl, zpreA hK hP hD⟩ rfl rfl hl.1 rfl (lv_room (Nat.le_of_ble_eq_true rfl)) dX7_finds_55 ⟨Nat.zero_le _, Nat.zero_le _⟩) hP hD hS hA (fun H locs hP hD hS => ?_)
  refine lv_istore (lv' := [(4, .int u10), (0, .ref (a 0)), (1, .int u1), (2, .int u2)]) hx hb dX7_finds_58 hl (by decide) rfl (fun ls hl => ?_)
  refine lv_iload hx hb dX7_finds_60 (lv_at hl 0 rfl) ?_
  refine lv_iconst (v := (-1)) hx hb dX7_finds_62 (by decide) ?_
  refine lv_icmp_eq (tgt := 73) hx hb dX7_finds_63 (by decide) (fun c11 => ?_) (fun c11 => ?_)
  · have hf := oi hf c11
    refine lv_iload_n hx hb dX7_finds_73 rfl (lv_at hl 3 rfl) ?_
    refine lv_aload_n hx hb dX7_finds_74 rfl (lv_at hl 1 rfl) ?_
    refine va_get (D := g.1) (ci := 7) (v := .ref (a 1)) (C := RX7) (T := TX7) (N := 11) hx hb hw0 ziX7 hown hK.1 hP 0 rfl rfl 0 (by decide) (hw0 _ zm4_71) (fun _ h9 => h9) rfl dX7_finds_75 ?_
    refine lv_iconst (v := 0) hx hb dX7_finds_78 (by decide) ?_
    refine zald (D := g.1) (f := u9.2.1) (k := 0) hx hb hK.1 hP 1 0 rfl rfl (zin_vp (i := 0) (n := 220) rfl) rfl dX7_finds_79 ?_
    refine lv_icmp_le (tgt := 129) hx hb dX7_finds_80 (by decide) (fun c12 => ?_) (fun c12 => ?_)
    · have hf := oi hf c12
      refine lv_iload_n hx hb dX7_finds_129 rfl (lv_at hl 2 rfl) ?_
      refine lv_aload_n hx hb dX7_finds_130 rfl (lv_at hl 1 rfl) ?_
      refine va_get (D := g.1) (ci := 7) (v := .ref (a 1)) (C := RX7) (T := TX7) (N := 11) hx hb hw0 ziX7 hown hK.1 hP 0 rfl rfl 0 (by decide) (hw0 _ zm4_71) (fun _ h9 => h9) rfl dX7_finds_131 ?_
      refine lv_bipush (v := 7) hx hb dX7_finds_134 (by decide) ?_
      refine zald (D := g.1) (f := u9.2.1) (k := 7) hx hb hK.1 hP 1 0 rfl rfl (zin_vp (i := 7) (n := 220) rfl) rfl dX7_finds_136 ?_
      refine lv_icmp_ge (tgt := 148) hx hb dX7_finds_137 (by decide) (fun c13 => ?_) (fun c13 => ?_)
      · have hf := oi hf c13
        refine lv_aload_n hx hb dX7_finds_148 rfl (lv_at hl 1 rfl) ?_
        refine va_get (D := g.1) (ci := 7) (v := .ref (a 1)) (C := RX7) (T := TX7) (N := 11) hx hb hw0 ziX7 hown hK.1 hP 0 rfl rfl 0 (by decide) (hw0 _ zm4_71) (fun _ h9 => h9) rfl dX7_finds_149 ?_
        refine lv_iconst (v := 1) hx hb dX7_finds_152 (by decide) ?_
        refine lv_iconst (v := 1) hx hb dX7_finds_153 (by decide) ?_
        refine zast (D := g.1) (f := u9.2.1) (k := 1) (x := 1) hx hb hK.1 hP hD hS 1 0 rfl rfl (zin_vp (i := 1) (n := 220) rfl) rfl dX7_finds_154 (fun H locs hP hD hS => ?_)
        have hP : va_P g.1 vwCl (zX7 g a ((upd u9.2.1 1 1), u9.2.2.1, u9.2.2.2.1, u9.2.2.2.2.1, u9.2.2.2.2.2.1, u9.2.2.2.2.2.2.1, u9.2.2.2.2.2.2.2.1, u9.2.2.2.2.2.2.2.2.1, u9.2.2.2.2.2.2.2.2.2.1, u9.2.2.2.2.2.2.2.2.2.2.1, u9.2.2.2.2.2.2.2.2.2.2.2)) H := hP
        have hD : va_D A (zX7 g a ((upd u9.2.1 1 1), u9.2.2.1, u9.2.2.2.1, u9.2.2.2.2.1, u9.2.2.2.2.2.1, u9.2.2.2.2.2.2.1, u9.2.2.2.2.2.2.2.1, u9.2.2.2.2.2.2.2.2.1, u9.2.2.2.2.2.2.2.2.2.1, u9.2.2.2.2.2.2.2.2.2.2.1, u9.2.2.2.2.2.2.2.2.2.2.2)) := hD
        have hR : ((upd u9.2.1 1 1), u9.2.2.1, u9.2.2.2.1, u9.2.2.2.2.1, u9.2.2.2.2.2.1, u9.2.2.2.2.2.2.1, u9.2.2.2.2.2.2.2.1, u9.2.2.2.2.2.2.2.2.1, u9.2.2.2.2.2.2.2.2.2.1, u9.2.2.2.2.2.2.2.2.2.2.1, u9.2.2.2.2.2.2.2.2.2.2.2) = r := Option.some.inj hf
        subst hR
        exact W.vret hx hb hr0 (fun t ht hW => ⟨⟨(), rfl, trivial, by rw [ht]; exact hP, hD⟩, hS.F ht⟩) hS.2.2 dX7_finds_155
      · have hf := oe hf c13
        refine lv_aload_n hx hb dX7_finds_140 rfl (lv_at hl 1 rfl) ?_
        refine lv_iload_n hx hb dX7_finds_141 rfl (lv_at hl 2 rfl) ?_
        obtain ⟨u14, hu14, hf⟩ := ob hf
        refine zk_vA (va_runV (As := [.int u1]) (rest := []) ⟨hx, hb, hml, hown, hts⟩ (c_X7_beginsElement l g a u9.2 u1 _ hu14 _) (zcV hw0 zm4_212 zm4_215 zm1_8 zm4_214 zs6_5 hd_X7_beginsElement rfl rfl ⟨Nat.le_of_ble_eq_true rfl, Nat.le_of_ble_eq_true rfl⟩) ⟨zblind, zrecvA hK hP (ci := 7) rfl rfl, zpreA hK hP hD⟩ rfl rfl hl.1 rfl (lv_room (Nat.le_of_ble_eq_true rfl)) dX7_finds_142 ⟨Nat.zero_le _, Nat.zero_le _⟩) hP hD hS hA (fun H locs hP hD hS => ?_)
        have hP : va_P g.1 vwCl (zX7 g a u14) H := hP
        have hD : va_D A (zX7 g a u14) := hD
        refine lv_goto (tgt := 155) hx hb dX7_finds_145 (by decide) ?_
        have hR : u14 = r := Option.some.inj hf
        subst hR
        exact W.vret hx hb hr0 (fun t ht hW => ⟨⟨(), rfl, trivial, by rw [ht]; exact hP, hD⟩, hS.F ht⟩) hS.2.2 dX7_finds_155
    · have hf := oe hf c12
      refine lv_aload_n hx hb dX7_finds_83 rfl (lv_at hl 1 rfl) ?_
      refine lv_iload_n hx hb dX7_finds_84 rfl (lv_at hl 3 rfl) ?_
      refine lv_aload_n hx hb dX7_finds_85 rfl (lv_at hl 1 rfl) ?_
      refine va_get (D := g.1) (ci := 7) (v := .ref (a 1)) (C := RX7) (T := TX7) (N := 11) hx hb hw0 ziX7 hown hK.1 hP 0 rfl rfl 0 (by decide) (hw0 _ zm4_71) (fun _ h9 => h9) rfl dX7_finds_86 ?_
      refine lv_iconst (v := 0) hx hb dX7_finds_89 (by decide) ?_
      refine zald (D := g.1) (f := u9.2.1) (k := 0) hx hb hK.1 hP 1 0 rfl rfl (zin_vp (i := 0) (n := 220) rfl) rfl dX7_finds_90 ?_
      refine lv_isub hx hb dX7_finds_91 ?_
      obtain ⟨u15, hu15, hf⟩ := ob hf
      refine zk_iA (va_runV (As := [.int (u2 - (u9.2.1 0))]) (rest := []) ⟨hx, hb, hml, hown, hts⟩ (c_X7_chosen l g a u9.2 (u2 - (u9.2.1 0)) _ hu15 _) (zcV hw0 zm4_220 zm4_223 zm1_8 zm4_222 zs6_7 hd_X7_chosen rfl rfl ⟨Nat.le_of_ble_eq_true rfl, Nat.le_of_ble_eq_true rfl⟩) ⟨zblind, zrecvA hK hP (ci := 7) rfl rfl, zpreA hK hP hD⟩ rfl rfl hl.1 rfl (lv_room (Nat.le_of_ble_eq_true rfl)) dX7_finds_92 ⟨Nat.zero_le _, Nat.zero_le _⟩) hP hD hS hA (fun H locs hP hD hS => ?_)
      refine lv_istore (lv' := [(5, .int u15), (4, .int u10), (0, .ref (a 0)), (1, .int u1), (2, .int u2)]) hx hb dX7_finds_95 hl (by decide) rfl (fun ls hl => ?_)
      refine lv_iload hx hb dX7_finds_97 (lv_at hl 0 rfl) ?_
      refine lv_if_ne (tgt := 119) hx hb dX7_finds_99 (by decide) (fun c16 => ?_) (fun c16 => ?_)
      · have hf := oe hf c16
        refine lv_aload_n hx hb dX7_finds_119 rfl (lv_at hl 2 rfl) ?_
        refine lv_iload hx hb dX7_finds_120 (lv_at hl 0 rfl) ?_
        obtain ⟨u17, hu17, hf⟩ := ob hf
        refine zk_iR (va_runS (As := [.int u15]) (rest := [.ref (a 0)]) ⟨hx, hb, hml, hown, hts⟩ (c_X7_lowestOf l g u15 _ hu17 _) (zcS hw0 zm4_239 zm5_1 zm1_8 zm5_0 hd_X7_lowestOf rfl rfl ⟨Nat.le_of_ble_eq_true rfl, Nat.le_of_ble_eq_true rfl⟩) ⟨zblind, zpre hK hP hD [] rfl rfl⟩ rfl rfl hl.1 rfl (lv_room (Nat.le_of_ble_eq_true rfl)) dX7_finds_122 ⟨Nat.zero_le _, Nat.zero_le _⟩) hP hD hS hA [] rfl (fun H locs hP hD hS => ?_)
        obtain ⟨u18, hu18, hf⟩ := ob hf
        refine zk_vA (va_runV (As := [.int u17]) (rest := []) ⟨hx, hb, hml, hown, hts⟩ (c_X7_beginsFiller l g a u9.2 u17 _ hu18 _) (zcV hw0 zm5_2 zm5_5 zm1_8 zm5_4 zs6_11 hd_X7_beginsFiller rfl rfl ⟨Nat.le_of_ble_eq_true rfl, Nat.le_of_ble_eq_true rfl⟩) ⟨zblind, zrecvA hK hP (ci := 7) rfl rfl, zpreA hK hP hD⟩ rfl rfl hl.1 rfl (lv_room (Nat.le_of_ble_eq_true rfl)) dX7_finds_125 ⟨Nat.zero_le _, Nat.zero_le _⟩) hP hD hS hA (fun H locs hP hD hS => ?_)
        have hP : va_P g.1 vwCl (zX7 g a u18) H := hP
        have hD : va_D A (zX7 g a u18) := hD
        have hR : u18 = r := Option.some.inj hf
        subst hR
        exact W.vret hx hb hr0 (fun t ht hW => ⟨⟨(), rfl, trivial, by rw [ht]; exact hP, hD⟩, hS.F ht⟩) hS.2.2 dX7_finds_128
      · have hf := oi hf c16
        refine lv_aload_n hx hb dX7_finds_102 rfl (lv_at hl 2 rfl) ?_
        refine lv_iconst (v := 3) hx hb dX7_finds_103 (by decide) ?_
        refine lv_iconst (v := (-1)) hx hb dX7_finds_104 (by decide) ?_
        refine lv_iload_n hx hb dX7_finds_105 rfl (lv_at hl 4 rfl) ?_
        refine lv_aload_n hx hb dX7_finds_106 rfl (lv_at hl 2 rfl) ?_
        refine va_get (D := g.1) (ci := 7) (v := .ref (a 1)) (C := RX7) (T := TX7) (N := 11) hx hb hw0 ziX7 hown hK.1 hP 0 rfl rfl 0 (by decide) (hw0 _ zm4_71) (fun _ h9 => h9) rfl dX7_finds_107 ?_
        refine lv_iconst (v := 0) hx hb dX7_finds_110 (by decide) ?_
        refine zald (D := g.1) (f := u9.2.1) (k := 0) hx hb hK.1 hP 1 0 rfl rfl (zin_vp (i := 0) (n := 220) rfl) rfl dX7_finds_111 ?_
        refine lv_isub hx hb dX7_finds_112 ?_
        obtain ⟨u19, hu19, hf⟩ := ob hf
        refine zk_vA (va_runV (As := [.int 3, .int (-1), .int (u2 - (u9.2.1 0))]) (rest := []) ⟨hx, hb, hml, hown, hts⟩ (c_X7_goesOnAir l g a u9.2 3 (-1) (u2 - (u9.2.1 0)) _ hu19 _) (zcV hw0 zm4_216 zm4_219 zm1_8 zm4_218 zs6_6 hd_X7_goesOnAir rfl rfl ⟨Nat.le_of_ble_eq_true rfl, Nat.le_of_ble_eq_true rfl⟩) ⟨zblind, zrecvA hK hP (ci := 7) rfl rfl, zpreA hK hP hD⟩ rfl rfl hl.1 rfl (lv_room (Nat.le_of_ble_eq_true rfl)) dX7_finds_113 ⟨Nat.zero_le _, Nat.zero_le _⟩) hP hD hS hA (fun H locs hP hD hS => ?_)
        have hP : va_P g.1 vwCl (zX7 g a u19) H := hP
        have hD : va_D A (zX7 g a u19) := hD
        refine lv_goto (tgt := 128) hx hb dX7_finds_116 (by decide) ?_
        have hR : u19 = r := Option.some.inj hf
        subst hR
        exact W.vret hx hb hr0 (fun t ht hW => ⟨⟨(), rfl, trivial, by rw [ht]; exact hP, hD⟩, hS.F ht⟩) hS.2.2 dX7_finds_128
  · have hf := oe hf c11
    refine lv_aload_n hx hb dX7_finds_66 rfl (lv_at hl 1 rfl) ?_
    refine lv_iload hx hb dX7_finds_67 (lv_at hl 0 rfl) ?_
    obtain ⟨u20, hu20, hf⟩ := ob hf
    refine zk_vA (va_runV (As := [.int u10]) (rest := []) ⟨hx, hb, hml, hown, hts⟩ (c_X7_beginsElement l g a u9.2 u10 _ hu20 _) (zcV hw0 zm4_212 zm4_215 zm1_8 zm4_214 zs6_5 hd_X7_beginsElement rfl rfl ⟨Nat.le_of_ble_eq_true rfl, Nat.le_of_ble_eq_true rfl⟩) ⟨zblind, zrecvA hK hP (ci := 7) rfl rfl, zpreA hK hP hD⟩ rfl rfl hl.1 rfl (lv_room (Nat.le_of_ble_eq_true rfl)) dX7_finds_69 ⟨Nat.zero_le _, Nat.zero_le _⟩) hP hD hS hA (fun H locs hP hD hS => ?_)
    have hP : va_P g.1 vwCl (zX7 g a u20) H := hP
    have hD : va_D A (zX7 g a u20) := hD
    have hR : u20 = r := Option.some.inj hf
    subst hR
    exact W.vret hx hb hr0 (fun t ht hW => ⟨⟨(), rfl, trivial, by rw [ht]; exact hP, hD⟩, hS.F ht⟩) hS.2.2 dX7_finds_72
theorem hd_X7_endsOnAir : yX7_endsOnAir.cls ≠ "java/lang/invoke/MethodHandle" ∧ yX7_endsOnAir.cls ≠ "java/lang/invoke/VarHandle" ∧ (parseMethodDescriptor yX7_endsOnAir.desc).map (fun d => d.parameters.length) = some 0 := by decide +kernel
def f_X7_endsOnAir (v : MV) : Option (MV) :=
  if (v.1 2) = 1 then
    if zin ((10 + (5 * (v.1 3))) + 3) 220 = true then
    if ((upd v.1 (((10 + (5 * (v.1 3))) + 3).toNatClampNeg) 2) 2) = 2 then
      if zin ((70 + (3 * ((upd v.1 (((10 + (5 * (v.1 3))) + 3).toNatClampNeg) 2) 3))) + 1) 220 = true then
      some ((upd (upd (upd (upd (upd v.1 (((10 + (5 * (v.1 3))) + 3).toNatClampNeg) 2) (((70 + (3 * ((upd v.1 (((10 + (5 * (v.1 3))) + 3).toNatClampNeg) 2) 3))) + 1).toNatClampNeg) 2) 2 0) 3 0) 4 0), v.2.1, v.2.2.1, v.2.2.2.1, v.2.2.2.2.1, v.2.2.2.2.2.1, v.2.2.2.2.2.2.1, v.2.2.2.2.2.2.2.1, v.2.2.2.2.2.2.2.2.1, v.2.2.2.2.2.2.2.2.2.1, v.2.2.2.2.2.2.2.2.2.2)
      else none
    else
      some ((upd (upd (upd (upd v.1 (((10 + (5 * (v.1 3))) + 3).toNatClampNeg) 2) 2 0) 3 0) 4 0), v.2.1, v.2.2.1, v.2.2.2.1, v.2.2.2.2.1, v.2.2.2.2.2.1, v.2.2.2.2.2.2.1, v.2.2.2.2.2.2.2.1, v.2.2.2.2.2.2.2.2.1, v.2.2.2.2.2.2.2.2.2.1, v.2.2.2.2.2.2.2.2.2.2)
    else none
  else
    if (v.1 2) = 2 then
      if zin ((70 + (3 * (v.1 3))) + 1) 220 = true then
      some ((upd (upd (upd (upd v.1 (((70 + (3 * (v.1 3))) + 1).toNatClampNeg) 2) 2 0) 3 0) 4 0), v.2.1, v.2.2.1, v.2.2.2.1, v.2.2.2.2.1, v.2.2.2.2.2.1, v.2.2.2.2.2.2.1, v.2.2.2.2.2.2.2.1, v.2.2.2.2.2.2.2.2.1, v.2.2.2.2.2.2.2.2.2.1, v.2.2.2.2.2.2.2.2.2.2)
      else none
    else
      some ((upd (upd (upd v.1 2 0) 3 0) 4 0), v.2.1, v.2.2.1, v.2.2.2.1, v.2.2.2.2.1, v.2.2.2.2.2.1, v.2.2.2.2.2.2.1, v.2.2.2.2.2.2.2.1, v.2.2.2.2.2.2.2.2.1, v.2.2.2.2.2.2.2.2.2.1, v.2.2.2.2.2.2.2.2.2.2)
set_option maxHeartbeats 4000000 in
set_option maxRecDepth 100000 in
theorem c_X7_endsOnAir (l : Launch) (g : zG) (a : Nat → Nat) (v : MV) (r : MV) (hf : f_X7_endsOnAir v = some r) : zMv zNF zNM l yX7_endsOnAir (zw yX7_endsOnAir cX7_endsOnAir 1 none) ({ frames := 0, cells := 0, slots := 0, locals := 0 } : Room) g [.ref (a 0)] (zX7 g a v) (zX7 g a r) := by
  intro sz
  refine Met.ofW (cc := cX7_endsOnAir) (maxL := 1) (ret := none) (by decide) rfl ?_
  intro p e s m args below meth c s₁ B hml hv
  obtain ⟨rfl, hsz, hP, hK, hD0⟩ := hv
  have hx := B.exec
  have hb := B.bytes
  have hr0 := B.returns
  have hts := atoms_spec (ws := (zw yX7_endsOnAir cX7_endsOnAir 1 none)) B.pre
  have hw0 : ∀ w ∈ zW, w.before ([.ref (a 0)] : List Value).toArray s = true := fun w h => hts w (List.mem_cons_of_mem _ h)
  have hown : s.vm.findClass RX7 = some m.cls := findClass_of_methodNamed B.named
  have hlocks := B.notSynchronized
  subst hsz
  have hD := hD0.self (sz := s.heap.size)
  generalize hAe : va_A (zX7 g a v) s.heap.size = A at hD ⊢
  have hA : ∀ q : Nat, s.heap.size ≤ q → A q := fun q h => by rw [← hAe]; exact Or.inr h
  have hS : va_S A s.heap s.heap [] := va_S.rf
  unfold f_X7_endsOnAir at hf
  have hl := lv_entry ([.ref (a 0)]) (n := 1) (Nat.le_of_ble_eq_true rfl)
  rw [lg_entry_eq]
  generalize (lg_sl ([.ref (a 0)]) ++ List.replicate (1 - (lg_sl ([.ref (a 0)])).length) Slot.unset).toArray = ls at hl ⊢
  have hl : lv_has ls 1 [(0, .ref (a 0))] := hl
  refine lv_aload_n hx hb dX7_endsOnAir_0 rfl (lv_at hl 0 rfl) ?_
  refine va_get (D := g.1) (ci := 7) (v := .ref (a 1)) (C := RX7) (T := TX7) (N := 11) hx hb hw0 ziX7 hown hK.1 hP 0 rfl rfl 0 (by decide) (hw0 _ zm4_71) (fun _ h9 => h9) rfl dX7_endsOnAir_1 ?_
  refine lv_iconst (v := 2) hx hb dX7_endsOnAir_4 (by decide) ?_
  refine zald (D := g.1) (f := v.1) (k := 2) hx hb hK.1 hP 1 0 rfl rfl (zin_vp (i := 2) (n := 220) rfl) rfl dX7_endsOnAir_5 ?_
  refine lv_iconst (v := 1) hx hb dX7_endsOnAir_6 (by decide) ?_
  refine lv_icmp_ne (tgt := 29) hx hb dX7_endsOnAir_7 (by decide) (fun c1 => ?_) (fun c1 => ?_)
  · have hf := oe hf c1
    refine lv_aload_n hx hb dX7_endsOnAir_29 rfl (lv_at hl 0 rfl) ?_
    refine va_get (D := g.1) (ci := 7) (v := .ref (a 1)) (C := RX7) (T := TX7) (N := 11) hx hb hw0 ziX7 hown hK.1 hP 0 rfl rfl 0 (by decide) (hw0 _ zm4_71) (fun _ h9 => h9) rfl dX7_endsOnAir_30 ?_
    refine lv_iconst (v := 2) hx hb dX7_endsOnAir_33 (by decide) ?_
    refine zald (D := g.1) (f := v.1) (k := 2) hx hb hK.1 hP 1 0 rfl rfl (zin_vp (i := 2) (n := 220) rfl) rfl dX7_endsOnAir_34 ?_
    refine lv_iconst (v := 2) hx hb dX7_endsOnAir_35 (by decide) ?_
    refine lv_icmp_ne (tgt := 58) hx hb dX7_endsOnAir_36 (by decide) (fun c2 => ?_) (fun c2 => ?_)
    · have hf := oe hf c2
      refine lv_aload_n hx hb dX7_endsOnAir_58 rfl (lv_at hl 0 rfl) ?_
      refine va_get (D := g.1) (ci := 7) (v := .ref (a 1)) (C := RX7) (T := TX7) (N := 11) hx hb hw0 ziX7 hown hK.1 hP 0 rfl rfl 0 (by decide) (hw0 _ zm4_71) (fun _ h9 => h9) rfl dX7_endsOnAir_59 ?_
      refine lv_iconst (v := 2) hx hb dX7_endsOnAir_62 (by decide) ?_
      refine lv_iconst (v := 0) hx hb dX7_endsOnAir_63 (by decide) ?_
      refine zast (D := g.1) (f := v.1) (k := 2) (x := 0) hx hb hK.1 hP hD hS 1 0 rfl rfl (zin_vp (i := 2) (n := 220) rfl) rfl dX7_endsOnAir_64 (fun H locs hP hD hS => ?_)
      have hP : va_P g.1 vwCl (zX7 g a ((upd v.1 2 0), v.2.1, v.2.2.1, v.2.2.2.1, v.2.2.2.2.1, v.2.2.2.2.2.1, v.2.2.2.2.2.2.1, v.2.2.2.2.2.2.2.1, v.2.2.2.2.2.2.2.2.1, v.2.2.2.2.2.2.2.2.2.1, v.2.2.2.2.2.2.2.2.2.2)) H := hP
      have hD : va_D A (zX7 g a ((upd v.1 2 0), v.2.1, v.2.2.1, v.2.2.2.1, v.2.2.2.2.1, v.2.2.2.2.2.1, v.2.2.2.2.2.2.1, v.2.2.2.2.2.2.2.1, v.2.2.2.2.2.2.2.2.1, v.2.2.2.2.2.2.2.2.2.1, v.2.2.2.2.2.2.2.2.2.2)) := hD
      refine lv_aload_n hx hb dX7_endsOnAir_65 rfl (lv_at hl 0 rfl) ?_
      refine va_get (D := g.1) (ci := 7) (v := .ref (a 1)) (C := RX7) (T := TX7) (N := 11) hx hb hw0 ziX7 hown hK.1 hP 0 rfl rfl 0 (by decide) (hw0 _ zm4_71) (fun _ h9 => h9) rfl dX7_endsOnAir_66 ?_
      refine lv_iconst (v := 3) hx hb dX7_endsOnAir_69 (by decide) ?_
      refine lv_iconst (v := 0) hx hb dX7_endsOnAir_70 (by decide) ?_
      refine zast (D := g.1) (f := (upd v.1 2 0)) (k := 3) (x := 0) hx hb hK.1 hP hD hS 1 0 rfl rfl (zin_vp (i := 3) (n := 220) rfl) rfl dX7_endsOnAir_71 (fun H locs hP hD hS => ?_)
      have hP : va_P g.1 vwCl (zX7 g a ((upd (upd v.1 2 0) 3 0), v.2.1, v.2.2.1, v.2.2.2.1, v.2.2.2.2.1, v.2.2.2.2.2.1, v.2.2.2.2.2.2.1, v.2.2.2.2.2.2.2.1, v.2.2.2.2.2.2.2.2.1, v.2.2.2.2.2.2.2.2.2.1, v.2.2.2.2.2.2.2.2.2.2)) H := hP
      have hD : va_D A (zX7 g a ((upd (upd v.1 2 0) 3 0), v.2.1, v.2.2.1, v.2.2.2.1, v.2.2.2.2.1, v.2.2.2.2.2.1, v.2.2.2.2.2.2.1, v.2.2.2.2.2.2.2.1, v.2.2.2.2.2.2.2.2.1, v.2.2.2.2.2.2.2.2.2.1, v.2.2.2.2.2.2.2.2.2.2)) := hD
      refine lv_aload_n hx hb dX7_endsOnAir_72 rfl (lv_at hl 0 rfl) ?_
      refine va_get (D := g.1) (ci := 7) (v := .ref (a 1)) (C := RX7) (T := TX7) (N := 11) hx hb hw0 ziX7 hown hK.1 hP 0 rfl rfl 0 (by decide) (hw0 _ zm4_71) (fun _ h9 => h9) rfl dX7_endsOnAir_73 ?_
      refine lv_iconst (v := 4) hx hb dX7_endsOnAir_76 (by decide) ?_
      refine lv_iconst (v := 0) hx hb dX7_endsOnAir_77 (by decide) ?_
      refine zast (D := g.1) (f := (upd (upd v.1 2 0) 3 0)) (k := 4) (x := 0) hx hb hK.1 hP hD hS 1 0 rfl rfl (zin_vp (i := 4) (n := 220) rfl) rfl dX7_endsOnAir_78 (fun H locs hP hD hS => ?_)
      have hP : va_P g.1 vwCl (zX7 g a ((upd (upd (upd v.1 2 0) 3 0) 4 0), v.2.1, v.2.2.1, v.2.2.2.1, v.2.2.2.2.1, v.2.2.2.2.2.1, v.2.2.2.2.2.2.1, v.2.2.2.2.2.2.2.1, v.2.2.2.2.2.2.2.2.1, v.2.2.2.2.2.2.2.2.2.1, v.2.2.2.2.2.2.2.2.2.2)) H := hP
      have hD : va_D A (zX7 g a ((upd (upd (upd v.1 2 0) 3 0) 4 0), v.2.1, v.2.2.1, v.2.2.2.1, v.2.2.2.2.1, v.2.2.2.2.2.1, v.2.2.2.2.2.2.1, v.2.2.2.2.2.2.2.1, v.2.2.2.2.2.2.2.2.1, v.2.2.2.2.2.2.2.2.2.1, v.2.2.2.2.2.2.2.2.2.2)) := hD
      have hR : ((upd (upd (upd v.1 2 0) 3 0) 4 0), v.2.1, v.2.2.1, v.2.2.2.1, v.2.2.2.2.1, v.2.2.2.2.2.1, v.2.2.2.2.2.2.1, v.2.2.2.2.2.2.2.1, v.2.2.2.2.2.2.2.2.1, v.2.2.2.2.2.2.2.2.2.1, v.2.2.2.2.2.2.2.2.2.2) = r := Option.some.inj hf
      subst hR
      exact W.vret hx hb hr0 (fun t ht hW => ⟨⟨(), rfl, trivial, by rw [ht]; exact hP, hD⟩, hS.F ht⟩) hS.2.2 dX7_endsOnAir_79
    · have hf := oi hf c2
      refine lv_aload_n hx hb dX7_endsOnAir_39 rfl (lv_at hl 0 rfl) ?_
      refine va_get (D := g.1) (ci := 7) (v := .ref (a 1)) (C := RX7) (T := TX7) (N := 11) hx hb hw0 ziX7 hown hK.1 hP 0 rfl rfl 0 (by decide) (hw0 _ zm4_71) (fun _ h9 => h9) rfl dX7_endsOnAir_40 ?_
      refine lv_bipush (v := 70) hx hb dX7_endsOnAir_43 (by decide) ?_
      refine lv_iconst (v := 3) hx hb dX7_endsOnAir_45 (by decide) ?_
      refine lv_aload_n hx hb dX7_endsOnAir_46 rfl (lv_at hl 0 rfl) ?_
      refine va_get (D := g.1) (ci := 7) (v := .ref (a 1)) (C := RX7) (T := TX7) (N := 11) hx hb hw0 ziX7 hown hK.1 hP 0 rfl rfl 0 (by decide) (hw0 _ zm4_71) (fun _ h9 => h9) rfl dX7_endsOnAir_47 ?_
      refine lv_iconst (v := 3) hx hb dX7_endsOnAir_50 (by decide) ?_
      refine zald (D := g.1) (f := v.1) (k := 3) hx hb hK.1 hP 1 0 rfl rfl (zin_vp (i := 3) (n := 220) rfl) rfl dX7_endsOnAir_51 ?_
      refine lv_imul hx hb dX7_endsOnAir_52 ?_
      refine lv_iadd hx hb dX7_endsOnAir_53 ?_
      refine lv_iconst (v := 1) hx hb dX7_endsOnAir_54 (by decide) ?_
      refine lv_iadd hx hb dX7_endsOnAir_55 ?_
      refine lv_iconst (v := 2) hx hb dX7_endsOnAir_56 (by decide) ?_
      obtain ⟨h3, hf⟩ := og hf
      refine zast (D := g.1) (f := v.1) (k := ((70 + (3 * (v.1 3))) + 1).toNatClampNeg) (x := 2) hx hb hK.1 hP hD hS 1 0 rfl rfl (zin_vp h3) rfl dX7_endsOnAir_57 (fun H locs hP hD hS => ?_)
      have hP : va_P g.1 vwCl (zX7 g a ((upd v.1 (((70 + (3 * (v.1 3))) + 1).toNatClampNeg) 2), v.2.1, v.2.2.1, v.2.2.2.1, v.2.2.2.2.1, v.2.2.2.2.2.1, v.2.2.2.2.2.2.1, v.2.2.2.2.2.2.2.1, v.2.2.2.2.2.2.2.2.1, v.2.2.2.2.2.2.2.2.2.1, v.2.2.2.2.2.2.2.2.2.2)) H := hP
      have hD : va_D A (zX7 g a ((upd v.1 (((70 + (3 * (v.1 3))) + 1).toNatClampNeg) 2), v.2.1, v.2.2.1, v.2.2.2.1, v.2.2.2.2.1, v.2.2.2.2.2.1, v.2.2.2.2.2.2.1, v.2.2.2.2.2.2.2.1, v.2.2.2.2.2.2.2.2.1, v.2.2.2.2.2.2.2.2.2.1, v.2.2.2.2.2.2.2.2.2.2)) := hD
      refine lv_aload_n hx hb dX7_endsOnAir_58 rfl (lv_at hl 0 rfl) ?_
      refine va_get (D := g.1) (ci := 7) (v := .ref (a 1)) (C := RX7) (T := TX7) (N := 11) hx hb hw0 ziX7 hown hK.1 hP 0 rfl rfl 0 (by decide) (hw0 _ zm4_71) (fun _ h9 => h9) rfl dX7_endsOnAir_59 ?_
      refine lv_iconst (v := 2) hx hb dX7_endsOnAir_62 (by decide) ?_
      refine lv_iconst (v := 0) hx hb dX7_endsOnAir_63 (by decide) ?_
      refine zast (D := g.1) (f := (upd v.1 (((70 + (3 * (v.1 3))) + 1).toNatClampNeg) 2)) (k := 2) (x := 0) hx hb hK.1 hP hD hS 1 0 rfl rfl (zin_vp (i := 2) (n := 220) rfl) rfl dX7_endsOnAir_64 (fun H locs hP hD hS => ?_)
      have hP : va_P g.1 vwCl (zX7 g a ((upd (upd v.1 (((70 + (3 * (v.1 3))) + 1).toNatClampNeg) 2) 2 0), v.2.1, v.2.2.1, v.2.2.2.1, v.2.2.2.2.1, v.2.2.2.2.2.1, v.2.2.2.2.2.2.1, v.2.2.2.2.2.2.2.1, v.2.2.2.2.2.2.2.2.1, v.2.2.2.2.2.2.2.2.2.1, v.2.2.2.2.2.2.2.2.2.2)) H := hP
      have hD : va_D A (zX7 g a ((upd (upd v.1 (((70 + (3 * (v.1 3))) + 1).toNatClampNeg) 2) 2 0), v.2.1, v.2.2.1, v.2.2.2.1, v.2.2.2.2.1, v.2.2.2.2.2.1, v.2.2.2.2.2.2.1, v.2.2.2.2.2.2.2.1, v.2.2.2.2.2.2.2.2.1, v.2.2.2.2.2.2.2.2.2.1, v.2.2.2.2.2.2.2.2.2.2)) := hD
      refine lv_aload_n hx hb dX7_endsOnAir_65 rfl (lv_at hl 0 rfl) ?_
      refine va_get (D := g.1) (ci := 7) (v := .ref (a 1)) (C := RX7) (T := TX7) (N := 11) hx hb hw0 ziX7 hown hK.1 hP 0 rfl rfl 0 (by decide) (hw0 _ zm4_71) (fun _ h9 => h9) rfl dX7_endsOnAir_66 ?_
      refine lv_iconst (v := 3) hx hb dX7_endsOnAir_69 (by decide) ?_
      refine lv_iconst (v := 0) hx hb dX7_endsOnAir_70 (by decide) ?_
      refine zast (D := g.1) (f := (upd (upd v.1 (((70 + (3 * (v.1 3))) + 1).toNatClampNeg) 2) 2 0)) (k := 3) (x := 0) hx hb hK.1 hP hD hS 1 0 rfl rfl (zin_vp (i := 3) (n := 220) rfl) rfl dX7_endsOnAir_71 (fun H locs hP hD hS => ?_)
      have hP : va_P g.1 vwCl (zX7 g a ((upd (upd (upd v.1 (((70 + (3 * (v.1 3))) + 1).toNatClampNeg) 2) 2 0) 3 0), v.2.1, v.2.2.1, v.2.2.2.1, v.2.2.2.2.1, v.2.2.2.2.2.1, v.2.2.2.2.2.2.1, v.2.2.2.2.2.2.2.1, v.2.2.2.2.2.2.2.2.1, v.2.2.2.2.2.2.2.2.2.1, v.2.2.2.2.2.2.2.2.2.2)) H := hP
      have hD : va_D A (zX7 g a ((upd (upd (upd v.1 (((70 + (3 * (v.1 3))) + 1).toNatClampNeg) 2) 2 0) 3 0), v.2.1, v.2.2.1, v.2.2.2.1, v.2.2.2.2.1, v.2.2.2.2.2.1, v.2.2.2.2.2.2.1, v.2.2.2.2.2.2.2.1, v.2.2.2.2.2.2.2.2.1, v.2.2.2.2.2.2.2.2.2.1, v.2.2.2.2.2.2.2.2.2.2)) := hD
      refine lv_aload_n hx hb dX7_endsOnAir_72 rfl (lv_at hl 0 rfl) ?_
      refine va_get (D := g.1) (ci := 7) (v := .ref (a 1)) (C := RX7) (T := TX7) (N := 11) hx hb hw0 ziX7 hown hK.1 hP 0 rfl rfl 0 (by decide) (hw0 _ zm4_71) (fun _ h9 => h9) rfl dX7_endsOnAir_73 ?_
      refine lv_iconst (v := 4) hx hb dX7_endsOnAir_76 (by decide) ?_
      refine lv_iconst (v := 0) hx hb dX7_endsOnAir_77 (by decide) ?_
      refine zast (D := g.1) (f := (upd (upd (upd v.1 (((70 + (3 * (v.1 3))) + 1).toNatClampNeg) 2) 2 0) 3 0)) (k := 4) (x := 0) hx hb hK.1 hP hD hS 1 0 rfl rfl (zin_vp (i := 4) (n := 220) rfl) rfl dX7_endsOnAir_78 (fun H locs hP hD hS => ?_)
      have hP : va_P g.1 vwCl (zX7 g a ((upd (upd (upd (upd v.1 (((70 + (3 * (v.1 3))) + 1).toNatClampNeg) 2) 2 0) 3 0) 4 0), v.2.1, v.2.2.1, v.2.2.2.1, v.2.2.2.2.1, v.2.2.2.2.2.1, v.2.2.2.2.2.2.1, v.2.2.2.2.2.2.2.1, v.2.2.2.2.2.2.2.2.1, v.2.2.2.2.2.2.2.2.2.1, v.2.2.2.2.2.2.2.2.2.2)) H := hP
      have hD : va_D A (zX7 g a ((upd (upd (upd (upd v.1 (((70 + (3 * (v.1 3))) + 1).toNatClampNeg) 2) 2 0) 3 0) 4 0), v.2.1, v.2.2.1, v.2.2.2.1, v.2.2.2.2.1, v.2.2.2.2.2.1, v.2.2.2.2.2.2.1, v.2.2.2.2.2.2.2.1, v.2.2.2.2.2.2.2.2.1, v.2.2.2.2.2.2.2.2.2.1, v.2.2.2.2.2.2.2.2.2.2)) := hD
      have hR : ((upd (upd (upd (upd v.1 (((70 + (3 * (v.1 3))) + 1).toNatClampNeg) 2) 2 0) 3 0) 4 0), v.2.1, v.2.2.1, v.2.2.2.1, v.2.2.2.2.1, v.2.2.2.2.2.1, v.2.2.2.2.2.2.1, v.2.2.2.2.2.2.2.1, v.2.2.2.2.2.2.2.2.1, v.2.2.2.2.2.2.2.2.2.1, v.2.2.2.2.2.2.2.2.2.2) = r := Option.some.inj hf
      subst hR
      exact W.vret hx hb hr0 (fun t ht hW => ⟨⟨(), rfl, trivial, by rw [ht]; exact hP, hD⟩, hS.F ht⟩) hS.2.2 dX7_endsOnAir_79
  · have hf := oi hf c1
    refine lv_aload_n hx hb dX7_endsOnAir_10 rfl (lv_at hl 0 rfl) ?_
    refine va_get (D := g.1) (ci := 7) (v := .ref (a 1)) (C := RX7) (T := TX7) (N := 11) hx hb hw0 ziX7 hown hK.1 hP 0 rfl rfl 0 (by decide) (hw0 _ zm4_71) (fun _ h9 => h9) rfl dX7_endsOnAir_11 ?_
    refine lv_bipush (v := 10) hx hb dX7_endsOnAir_14 (by decide) ?_
    refine lv_iconst (v := 5) hx hb dX7_endsOnAir_16 (by decide) ?_
    refine lv_aload_n hx hb dX7_endsOnAir_17 rfl (lv_at hl 0 rfl) ?_
    refine va_get (D := g.1) (ci := 7) (v := .ref (a 1)) (C := RX7) (T := TX7) (N := 11) hx hb hw0 ziX7 hown hK.1 hP 0 rfl rfl 0 (by decide) (hw0 _ zm4_71) (fun _ h9 => h9) rfl dX7_endsOnAir_18 ?_
    refine lv_iconst (v := 3) hx hb dX7_endsOnAir_21 (by decide) ?_
    refine zald (D := g.1) (f := v.1) (k := 3) hx hb hK.1 hP 1 0 rfl rfl (zin_vp (i := 3) (n := 220) rfl) rfl dX7_endsOnAir_22 ?_
    refine lv_imul hx hb dX7_endsOnAir_23 ?_
    refine lv_iadd hx hb dX7_endsOnAir_24 ?_
    refine lv_iconst (v := 3) hx hb dX7_endsOnAir_25 (by decide) ?_
    refine lv_iadd hx hb dX7_endsOnAir_26 ?_
    refine lv_iconst (v := 2) hx hb dX7_endsOnAir_27 (by decide) ?_
    obtain ⟨h4, hf⟩ := og hf
    refine zast (D := g.1) (f := v.1) (k := ((10 + (5 * (v.1 3))) + 3).toNatClampNeg) (x := 2) hx hb hK.1 hP hD hS 1 0 rfl rfl (zin_vp h4) rfl dX7_endsOnAir_28 (fun H locs hP hD hS => ?_)
    have hP : va_P g.1 vwCl (zX7 g a ((upd v.1 (((10 + (5 * (v.1 3))) + 3).toNatClampNeg) 2), v.2.1, v.2.2.1, v.2.2.2.1, v.2.2.2.2.1, v.2.2.2.2.2.1, v.2.2.2.2.2.2.1, v.2.2.2.2.2.2.2.1, v.2.2.2.2.2.2.2.2.1, v.2.2.2.2.2.2.2.2.2.1, v.2.2.2.2.2.2.2.2.2.2)) H := hP
    have hD : va_D A (zX7 g a ((upd v.1 (((10 + (5 * (v.1 3))) + 3).toNatClampNeg) 2), v.2.1, v.2.2.1, v.2.2.2.1, v.2.2.2.2.1, v.2.2.2.2.2.1, v.2.2.2.2.2.2.1, v.2.2.2.2.2.2.2.1, v.2.2.2.2.2.2.2.2.1, v.2.2.2.2.2.2.2.2.2.1, v.2.2.2.2.2.2.2.2.2.2)) := hD
    refine lv_aload_n hx hb dX7_endsOnAir_29 rfl (lv_at hl 0 rfl) ?_
    refine va_get (D := g.1) (ci := 7) (v := .ref (a 1)) (C := RX7) (T := TX7) (N := 11) hx hb hw0 ziX7 hown hK.1 hP 0 rfl rfl 0 (by decide) (hw0 _ zm4_71) (fun _ h9 => h9) rfl dX7_endsOnAir_30 ?_
    refine lv_iconst (v := 2) hx hb dX7_endsOnAir_33 (by decide) ?_
    refine zald (D := g.1) (f := (upd v.1 (((10 + (5 * (v.1 3))) + 3).toNatClampNeg) 2)) (k := 2) hx hb hK.1 hP 1 0 rfl rfl (zin_vp (i := 2) (n := 220) rfl) rfl dX7_endsOnAir_34 ?_
    refine lv_iconst (v := 2) hx hb dX7_endsOnAir_35 (by decide) ?_
    refine lv_icmp_ne (tgt := 58) hx hb dX7_endsOnAir_36 (by decide) (fun c5 => ?_) (fun c5 => ?_)
    · have hf := oe hf c5
      refine lv_aload_n hx hb dX7_endsOnAir_58 rfl (lv_at hl 0 rfl) ?_
      refine va_get (D := g.1) (ci := 7) (v := .ref (a 1)) (C := RX7) (T := TX7) (N := 11) hx hb hw0 ziX7 hown hK.1 hP 0 rfl rfl 0 (by decide) (hw0 _ zm4_71) (fun _ h9 => h9) rfl dX7_endsOnAir_59 ?_
      refine lv_iconst (v := 2) hx hb dX7_endsOnAir_62 (by decide) ?_
      refine lv_iconst (v := 0) hx hb dX7_endsOnAir_63 (by decide) ?_
      refine zast (D := g.1) (f := (upd v.1 (((10 + (5 * (v.1 3))) + 3).toNatClampNeg) 2)) (k := 2) (x := 0) hx hb hK.1 hP hD hS 1 0 rfl rfl (zin_vp (i := 2) (n := 220) rfl) rfl dX7_endsOnAir_64 (fun H locs hP hD hS => ?_)
      have hP : va_P g.1 vwCl (zX7 g a ((upd (upd v.1 (((10 + (5 * (v.1 3))) + 3).toNatClampNeg) 2) 2 0), v.2.1, v.2.2.1, v.2.2.2.1, v.2.2.2.2.1, v.2.2.2.2.2.1, v.2.2.2.2.2.2.1, v.2.2.2.2.2.2.2.1, v.2.2.2.2.2.2.2.2.1, v.2.2.2.2.2.2.2.2.2.1, v.2.2.2.2.2.2.2.2.2.2)) H := hP
      have hD : va_D A (zX7 g a ((upd (upd v.1 (((10 + (5 * (v.1 3))) + 3).toNatClampNeg) 2) 2 0), v.2.1, v.2.2.1, v.2.2.2.1, v.2.2.2.2.1, v.2.2.2.2.2.1, v.2.2.2.2.2.2.1, v.2.2.2.2.2.2.2.1, v.2.2.2.2.2.2.2.2.1, v.2.2.2.2.2.2.2.2.2.1, v.2.2.2.2.2.2.2.2.2.2)) := hD
      refine lv_aload_n hx hb dX7_endsOnAir_65 rfl (lv_at hl 0 rfl) ?_
      refine va_get (D := g.1) (ci := 7) (v := .ref (a 1)) (C := RX7) (T := TX7) (N := 11) hx hb hw0 ziX7 hown hK.1 hP 0 rfl rfl 0 (by decide) (hw0 _ zm4_71) (fun _ h9 => h9) rfl dX7_endsOnAir_66 ?_
      refine lv_iconst (v := 3) hx hb dX7_endsOnAir_69 (by decide) ?_
      refine lv_iconst (v := 0) hx hb dX7_endsOnAir_70 (by decide) ?_
      refine zast (D := g.1) (f := (upd (upd v.1 (((10 + (5 * (v.1 3))) + 3).toNatClampNeg) 2) 2 0)) (k := 3) (x := 0) hx hb hK.1 hP hD hS 1 0 rfl rfl (zin_vp (i := 3) (n := 220) rfl) rfl dX7_endsOnAir_71 (fun H locs hP hD hS => ?_)
      have hP : va_P g.1 vwCl (zX7 g a ((upd (upd (upd v.1 (((10 + (5 * (v.1 3))) + 3).toNatClampNeg) 2) 2 0) 3 0), v.2.1, v.2.2.1, v.2.2.2.1, v.2.2.2.2.1, v.2.2.2.2.2.1, v.2.2.2.2.2.2.1, v.2.2.2.2.2.2.2.1, v.2.2.2.2.2.2.2.2.1, v.2.2.2.2.2.2.2.2.2.1, v.2.2.2.2.2.2.2.2.2.2)) H := hP
      have hD : va_D A (zX7 g a ((upd (upd (upd v.1 (((10 + (5 * (v.1 3))) + 3).toNatClampNeg) 2) 2 0) 3 0), v.2.1, v.2.2.1, v.2.2.2.1, v.2.2.2.2.1, v.2.2.2.2.2.1, v.2.2.2.2.2.2.1, v.2.2.2.2.2.2.2.1, v.2.2.2.2.2.2.2.2.1, v.2.2.2.2.2.2.2.2.2.1, v.2.2.2.2.2.2.2.2.2.2)) := hD
      refine lv_aload_n hx hb dX7_endsOnAir_72 rfl (lv_at hl 0 rfl) ?_
      refine va_get (D := g.1) (ci := 7) (v := .ref (a 1)) (C := RX7) (T := TX7) (N := 11) hx hb hw0 ziX7 hown hK.1 hP 0 rfl rfl 0 (by decide) (hw0 _ zm4_71) (fun _ h9 => h9) rfl dX7_endsOnAir_73 ?_
      refine lv_iconst (v := 4) hx hb dX7_endsOnAir_76 (by decide) ?_
      refine lv_iconst (v := 0) hx hb dX7_endsOnAir_77 (by decide) ?_
      refine zast (D := g.1) (f := (upd (upd (upd v.1 (((10 + (5 * (v.1 3))) + 3).toNatClampNeg) 2) 2 0) 3 0)) (k := 4) (x := 0) hx hb hK.1 hP hD hS 1 0 rfl rfl (zin_vp (i := 4) (n := 220) rfl) rfl dX7_endsOnAir_78 (fun H locs hP hD hS => ?_)
      have hP : va_P g.1 vwCl (zX7 g a ((upd (upd (upd (upd v.1 (((10 + (5 * (v.1 3))) + 3).toNatClampNeg) 2) 2 0) 3 0) 4 0), v.2.1, v.2.2.1, v.2.2.2.1, v.2.2.2.2.1, v.2.2.2.2.2.1, v.2.2.2.2.2.2.1, v.2.2.2.2.2.2.2.1, v.2.2.2.2.2.2.2.2.1, v.2.2.2.2.2.2.2.2.2.1, v.2.2.2.2.2.2.2.2.2.2)) H := hP
      have hD : va_D A (zX7 g a ((upd (upd (upd (upd v.1 (((10 + (5 * (v.1 3))) + 3).toNatClampNeg) 2) 2 0) 3 0) 4 0), v.2.1, v.2.2.1, v.2.2.2.1, v.2.2.2.2.1, v.2.2.2.2.2.1, v.2.2.2.2.2.2.1, v.2.2.2.2.2.2.2.1, v.2.2.2.2.2.2.2.2.1, v.2.2.2.2.2.2.2.2.2.1, v.2.2.2.2.2.2.2.2.2.2)) := hD
      have hR : ((upd (upd (upd (upd v.1 (((10 + (5 * (v.1 3))) + 3).toNatClampNeg) 2) 2 0) 3 0) 4 0), v.2.1, v.2.2.1, v.2.2.2.1, v.2.2.2.2.1, v.2.2.2.2.2.1, v.2.2.2.2.2.2.1, v.2.2.2.2.2.2.2.1, v.2.2.2.2.2.2.2.2.1, v.2.2.2.2.2.2.2.2.2.1, v.2.2.2.2.2.2.2.2.2.2) = r := Option.some.inj hf
      subst hR
      exact W.vret hx hb hr0 (fun t ht hW => ⟨⟨(), rfl, trivial, by rw [ht]; exact hP, hD⟩, hS.F ht⟩) hS.2.2 dX7_endsOnAir_79
    · have hf := oi hf c5
      refine lv_aload_n hx hb dX7_endsOnAir_39 rfl (lv_at hl 0 rfl) ?_
      refine va_get (D := g.1) (ci := 7) (v := .ref (a 1)) (C := RX7) (T := TX7) (N := 11) hx hb hw0 ziX7 hown hK.1 hP 0 rfl rfl 0 (by decide) (hw0 _ zm4_71) (fun _ h9 => h9) rfl dX7_endsOnAir_40 ?_
      refine lv_bipush (v := 70) hx hb dX7_endsOnAir_43 (by decide) ?_
      refine lv_iconst (v := 3) hx hb dX7_endsOnAir_45 (by decide) ?_
      refine lv_aload_n hx hb dX7_endsOnAir_46 rfl (lv_at hl 0 rfl) ?_
      refine va_get (D := g.1) (ci := 7) (v := .ref (a 1)) (C := RX7) (T := TX7) (N := 11) hx hb hw0 ziX7 hown hK.1 hP 0 rfl rfl 0 (by decide) (hw0 _ zm4_71) (fun _ h9 => h9) rfl dX7_endsOnAir_47 ?_
      refine lv_iconst (v := 3) hx hb dX7_endsOnAir_50 (by decide) ?_
      refine zald (D := g.1) (f := (upd v.1 (((10 + (5 * (v.1 3))) + 3).toNatClampNeg) 2)) (k := 3) hx hb hK.1 hP 1 0 rfl rfl (zin_vp (i := 3) (n := 220) rfl) rfl dX7_endsOnAir_51 ?_
      refine lv_imul hx hb dX7_endsOnAir_52 ?_
      refine lv_iadd hx hb dX7_endsOnAir_53 ?_
      refine lv_iconst (v := 1) hx hb dX7_endsOnAir_54 (by decide) ?_
      refine lv_iadd hx hb dX7_endsOnAir_55 ?_
      refine lv_iconst (v := 2) hx hb dX7_endsOnAir_56 (by decide) ?_
      obtain ⟨h6, hf⟩ := og hf
      refine zast (D := g.1) (f := (upd v.1 (((10 + (5 * (v.1 3))) + 3).toNatClampNeg) 2)) (k := ((70 + (3 * ((upd v.1 (((10 + (5 * (v.1 3))) + 3).toNatClampNeg) 2) 3))) + 1).toNatClampNeg) (x := 2) hx hb hK.1 hP hD hS 1 0 rfl rfl (zin_vp h6) rfl dX7_endsOnAir_57 (fun H locs hP hD hS => ?_)
      have hP : va_P g.1 vwCl (zX7 g a ((upd (upd v.1 (((10 + (5 * (v.1 3))) + 3).toNatClampNeg) 2) (((70 + (3 * ((upd v.1 (((10 + (5 * (v.1 3))) + 3).toNatClampNeg) 2) 3))) + 1).toNatClampNeg) 2), v.2.1, v.2.2.1, v.2.2.2.1, v.2.2.2.2.1, v.2.2.2.2.2.1, v.2.2.2.2.2.2.1, v.2.2.2.2.2.2.2.1, v.2.2.2.2.2.2.2.2.1, v.2.2.2.2.2.2.2.2.2.1, v.2.2.2.2.2.2.2.2.2.2)) H := hP
      have hD : va_D A (zX7 g a ((upd (upd v.1 (((10 + (5 * (v.1 3))) + 3).toNatClampNeg) 2) (((70 + (3 * ((upd v.1 (((10 + (5 * (v.1 3))) + 3).toNatClampNeg) 2) 3))) + 1).toNatClampNeg) 2), v.2.1, v.2.2.1, v.2.2.2.1, v.2.2.2.2.1, v.2.2.2.2.2.1, v.2.2.2.2.2.2.1, v.2.2.2.2.2.2.2.1, v.2.2.2.2.2.2.2.2.1, v.2.2.2.2.2.2.2.2.2.1, v.2.2.2.2.2.2.2.2.2.2)) := hD
      refine lv_aload_n hx hb dX7_endsOnAir_58 rfl (lv_at hl 0 rfl) ?_
      refine va_get (D := g.1) (ci := 7) (v := .ref (a 1)) (C := RX7) (T := TX7) (N := 11) hx hb hw0 ziX7 hown hK.1 hP 0 rfl rfl 0 (by decide) (hw0 _ zm4_71) (fun _ h9 => h9) rfl dX7_endsOnAir_59 ?_
      refine lv_iconst (v := 2) hx hb dX7_endsOnAir_62 (by decide) ?_
      refine lv_iconst (v := 0) hx hb dX7_endsOnAir_63 (by decide) ?_
      refine zast (D := g.1) (f := (upd (upd v.1 (((10 + (5 * (v.1 3))) + 3).toNatClampNeg) 2) (((70 + (3 * ((upd v.1 (((10 + (5 * (v.1 3))) + 3).toNatClampNeg) 2) 3))) + 1).toNatClampNeg) 2)) (k := 2) (x := 0) hx hb hK.1 hP hD hS 1 0 rfl rfl (zin_vp (i := 2) (n := 220) rfl) rfl dX7_endsOnAir_64 (fun H locs hP hD hS => ?_)
      have hP : va_P g.1 vwCl (zX7 g a ((upd (upd (upd v.1 (((10 + (5 * (v.1 3))) + 3).toNatClampNeg) 2) (((70 + (3 * ((upd v.1 (((10 + (5 * (v.1 3))) + 3).toNatClampNeg) 2) 3))) + 1).toNatClampNeg) 2) 2 0), v.2.1, v.2.2.1, v.2.2.2.1, v.2.2.2.2.1, v.2.2.2.2.2.1, v.2.2.2.2.2.2.1, v.2.2.2.2.2.2.2.1, v.2.2.2.2.2.2.2.2.1, v.2.2.2.2.2.2.2.2.2.1, v.2.2.2.2.2.2.2.2.2.2)) H := hP
      have hD : va_D A (zX7 g a ((upd (upd (upd v.1 (((10 + (5 * (v.1 3))) + 3).toNatClampNeg) 2) (((70 + (3 * ((upd v.1 (((10 + (5 * (v.1 3))) + 3).toNatClampNeg) 2) 3))) + 1).toNatClampNeg) 2) 2 0), v.2.1, v.2.2.1, v.2.2.2.1, v.2.2.2.2.1, v.2.2.2.2.2.1, v.2.2.2.2.2.2.1, v.2.2.2.2.2.2.2.1, v.2.2.2.2.2.2.2.2.1, v.2.2.2.2.2.2.2.2.2.1, v.2.2.2.2.2.2.2.2.2.2)) := hD
      refine lv_aload_n hx hb dX7_endsOnAir_65 rfl (lv_at hl 0 rfl) ?_
      refine va_get (D := g.1) (ci := 7) (v := .ref (a 1)) (C := RX7) (T := TX7) (N := 11) hx hb hw0 ziX7 hown hK.1 hP 0 rfl rfl 0 (by decide) (hw0 _ zm4_71) (fun _ h9 => h9) rfl dX7_endsOnAir_66 ?_
      refine lv_iconst (v := 3) hx hb dX7_endsOnAir_69 (by decide) ?_
      refine lv_iconst (v := 0) hx hb dX7_endsOnAir_70 (by decide) ?_
      refine zast (D := g.1) (f := (upd (upd (upd v.1 (((10 + (5 * (v.1 3))) + 3).toNatClampNeg) 2) (((70 + (3 * ((upd v.1 (((10 + (5 * (v.1 3))) + 3).toNatClampNeg) 2) 3))) + 1).toNatClampNeg) 2) 2 0)) (k := 3) (x := 0) hx hb hK.1 hP hD hS 1 0 rfl rfl (zin_vp (i := 3) (n := 220) rfl) rfl dX7_endsOnAir_71 (fun H locs hP hD hS => ?_)
      have hP : va_P g.1 vwCl (zX7 g a ((upd (upd (upd (upd v.1 (((10 + (5 * (v.1 3))) + 3).toNatClampNeg) 2) (((70 + (3 * ((upd v.1 (((10 + (5 * (v.1 3))) + 3).toNatClampNeg) 2) 3))) + 1).toNatClampNeg) 2) 2 0) 3 0), v.2.1, v.2.2.1, v.2.2.2.1, v.2.2.2.2.1, v.2.2.2.2.2.1, v.2.2.2.2.2.2.1, v.2.2.2.2.2.2.2.1, v.2.2.2.2.2.2.2.2.1, v.2.2.2.2.2.2.2.2.2.1, v.2.2.2.2.2.2.2.2.2.2)) H := hP
      have hD : va_D A (zX7 g a ((upd (upd (upd (upd v.1 (((10 + (5 * (v.1 3))) + 3).toNatClampNeg) 2) (((70 + (3 * ((upd v.1 (((10 + (5 * (v.1 3))) + 3).toNatClampNeg) 2) 3))) + 1).toNatClampNeg) 2) 2 0) 3 0), v.2.1, v.2.2.1, v.2.2.2.1, v.2.2.2.2.1, v.2.2.2.2.2.1, v.2.2.2.2.2.2.1, v.2.2.2.2.2.2.2.1, v.2.2.2.2.2.2.2.2.1, v.2.2.2.2.2.2.2.2.2.1, v.2.2.2.2.2.2.2.2.2.2)) := hD
      refine lv_aload_n hx hb dX7_endsOnAir_72 rfl (lv_at hl 0 rfl) ?_
      refine va_get (D := g.1) (ci := 7) (v := .ref (a 1)) (C := RX7) (T := TX7) (N := 11) hx hb hw0 ziX7 hown hK.1 hP 0 rfl rfl 0 (by decide) (hw0 _ zm4_71) (fun _ h9 => h9) rfl dX7_endsOnAir_73 ?_
      refine lv_iconst (v := 4) hx hb dX7_endsOnAir_76 (by decide) ?_
      refine lv_iconst (v := 0) hx hb dX7_endsOnAir_77 (by decide) ?_
      refine zast (D := g.1) (f := (upd (upd (upd (upd v.1 (((10 + (5 * (v.1 3))) + 3).toNatClampNeg) 2) (((70 + (3 * ((upd v.1 (((10 + (5 * (v.1 3))) + 3).toNatClampNeg) 2) 3))) + 1).toNatClampNeg) 2) 2 0) 3 0)) (k := 4) (x := 0) hx hb hK.1 hP hD hS 1 0 rfl rfl (zin_vp (i := 4) (n := 220) rfl) rfl dX7_endsOnAir_78 (fun H locs hP hD hS => ?_)
      have hP : va_P g.1 vwCl (zX7 g a ((upd (upd (upd (upd (upd v.1 (((10 + (5 * (v.1 3))) + 3).toNatClampNeg) 2) (((70 + (3 * ((upd v.1 (((10 + (5 * (v.1 3))) + 3).toNatClampNeg) 2) 3))) + 1).toNatClampNeg) 2) 2 0) 3 0) 4 0), v.2.1, v.2.2.1, v.2.2.2.1, v.2.2.2.2.1, v.2.2.2.2.2.1, v.2.2.2.2.2.2.1, v.2.2.2.2.2.2.2.1, v.2.2.2.2.2.2.2.2.1, v.2.2.2.2.2.2.2.2.2.1, v.2.2.2.2.2.2.2.2.2.2)) H := hP
      have hD : va_D A (zX7 g a ((upd (upd (upd (upd (upd v.1 (((10 + (5 * (v.1 3))) + 3).toNatClampNeg) 2) (((70 + (3 * ((upd v.1 (((10 + (5 * (v.1 3))) + 3).toNatClampNeg) 2) 3))) + 1).toNatClampNeg) 2) 2 0) 3 0) 4 0), v.2.1, v.2.2.1, v.2.2.2.1, v.2.2.2.2.1, v.2.2.2.2.2.1, v.2.2.2.2.2.2.1, v.2.2.2.2.2.2.2.1, v.2.2.2.2.2.2.2.2.1, v.2.2.2.2.2.2.2.2.2.1, v.2.2.2.2.2.2.2.2.2.2)) := hD
      have hR : ((upd (upd (upd (upd (upd v.1 (((10 + (5 * (v.1 3))) + 3).toNatClampNeg) 2) (((70 + (3 * ((upd v.1 (((10 + (5 * (v.1 3))) + 3).toNatClampNeg) 2) 3))) + 1).toNatClampNeg) 2) 2 0) 3 0) 4 0), v.2.1, v.2.2.1, v.2.2.2.1, v.2.2.2.2.1, v.2.2.2.2.2.1, v.2.2.2.2.2.2.1, v.2.2.2.2.2.2.2.1, v.2.2.2.2.2.2.2.2.1, v.2.2.2.2.2.2.2.2.2.1, v.2.2.2.2.2.2.2.2.2.2) = r := Option.some.inj hf
      subst hR
      exact W.vret hx hb hr0 (fun t ht hW => ⟨⟨(), rfl, trivial, by rw [ht]; exact hP, hD⟩, hS.F ht⟩) hS.2.2 dX7_endsOnAir_79
theorem hd_X7_goesOn : yX7_goesOn.cls ≠ "java/lang/invoke/MethodHandle" ∧ yX7_goesOn.cls ≠ "java/lang/invoke/VarHandle" ∧ (parseMethodDescriptor yX7_goesOn.desc).map (fun d => d.parameters.length) = some 1 := by decide +kernel
def s_X7_goesOn_2 (v : MV) (i1 : Int32) (x : Int32 × MV) : Option ((Int32 × MV) ⊕ (Int32 × MV)) :=
  if x.1 ≤ 0 then
    some (.inr (x.1, x.2))
  else
    if (x.2.1 1) = 0 then
      if (x.2.1 2) = 0 then
        (f_X7_finds x.2).bind (fun u16 =>
        if (u16.1 1) = 0 then
          if x.1 ≤ ((u16.1 4) - (u16.1 0)) then
            if ((upd u16.1 0 ((u16.1 0) + x.1)) 2) = 3 then
              if ((upd (upd u16.1 0 ((u16.1 0) + x.1)) 5 (((upd u16.1 0 ((u16.1 0) + x.1)) 5) + x.1)) 0) = ((upd (upd u16.1 0 ((u16.1 0) + x.1)) 5 (((upd u16.1 0 ((u16.1 0) + x.1)) 5) + x.1)) 4) then
                (f_X7_endsOnAir ((upd (upd u16.1 0 ((u16.1 0) + x.1)) 5 (((upd u16.1 0 ((u16.1 0) + x.1)) 5) + x.1)), u16.2.1, u16.2.2.1, u16.2.2.2.1, u16.2.2.2.2.1, u16.2.2.2.2.2.1, u16.2.2.2.2.2.2.1, u16.2.2.2.2.2.2.2.1, u16.2.2.2.2.2.2.2.2.1, u16.2.2.2.2.2.2.2.2.2.1, u16.2.2.2.2.2.2.2.2.2.2)).bind (fun u23 =>
                some (.inl ((x.1 - x.1), u23)))
              else
                some (.inl ((x.1 - x.1), ((upd (upd u16.1 0 ((u16.1 0) + x.1)) 5 (((upd u16.1 0 ((u16.1 0) + x.1)) 5) + x.1)), u16.2.1, u16.2.2.1, u16.2.2.2.1, u16.2.2.2.2.1, u16.2.2.2.2.2.1, u16.2.2.2.2.2.2.1, u16.2.2.2.2.2.2.2.1, u16.2.2.2.2.2.2.2.2.1, u16.2.2.2.2.2.2.2.2.2.1, u16.2.2.2.2.2.2.2.2.2.2)))
            else
              if ((upd (upd u16.1 0 ((u16.1 0) + x.1)) 5 (((upd u16.1 0 ((u16.1 0) + x.1)) 5) + 0)) 0) = ((upd (upd u16.1 0 ((u16.1 0) + x.1)) 5 (((upd u16.1 0 ((u16.1 0) + x.1)) 5) + 0)) 4) then
                (f_X7_endsOnAir ((upd (upd u16.1 0 ((u16.1 0) + x.1)) 5 (((upd u16.1 0 ((u16.1 0) + x.1)) 5) + 0)), u16.2.1, u16.2.2.1, u16.2.2.2.1, u16.2.2.2.2.1, u16.2.2.2.2.2.1, u16.2.2.2.2.2.2.1, u16.2.2.2.2.2.2.2.1, u16.2.2.2.2.2.2.2.2.1, u16.2.2.2.2.2.2.2.2.2.1, u16.2.2.2.2.2.2.2.2.2.2)).bind (fun u21 =>
                some (.inl ((x.1 - x.1), u21)))
              else
                some (.inl ((x.1 - x.1), ((upd (upd u16.1 0 ((u16.1 0) + x.1)) 5 (((upd u16.1 0 ((u16.1 0) + x.1)) 5) + 0)), u16.2.1, u16.2.2.1, u16.2.2.2.1, u16.2.2.2.2.1, u16.2.2.2.2.2.1, u16.2.2.2.2.2.2.1, u16.2.2.2.2.2.2.2.1, u16.2.2.2.2.2.2.2.2.1, u16.2.2.2.2.2.2.2.2.2.1, u16.2.2.2.2.2.2.2.2.2.2)))
          else
            if ((upd u16.1 0 ((u16.1 0) + ((u16.1 4) - (u16.1 0)))) 2) = 3 then
              if ((upd (upd u16.1 0 ((u16.1 0) + ((u16.1 4) - (u16.1 0)))) 5 (((upd u16.1 0 ((u16.1 0) + ((u16.1 4) - (u16.1 0)))) 5) + ((u16.1 4) - (u16.1 0)))) 0) = ((upd (upd u16.1 0 ((u16.1 0) + ((u16.1 4) - (u16.1 0)))) 5 (((upd u16.1 0 ((u16.1 0) + ((u16.1 4) - (u16.1 0)))) 5) + ((u16.1 4) - (u16.1 0)))) 4) then
                (f_X7_endsOnAir ((upd (upd u16.1 0 ((u16.1 0) + ((u16.1 4) - (u16.1 0)))) 5 (((upd u16.1 0 ((u16.1 0) + ((u16.1 4) - (u16.1 0)))) 5) + ((u16.1 4) - (u16.1 0)))), u16.2.1, u16.2.2.1, u16.2.2.2.1, u16.2.2.2.2.1, u16.2.2.2.2.2.1, u16.2.2.2.2.2.2.1, u16.2.2.2.2.2.2.2.1, u16.2.2.2.2.2.2.2.2.1, u16.2.2.2.2.2.2.2.2.2.1, u16.2.2.2.2.2.2.2.2.2.2)).bind (fun u28 =>
                some (.inl ((x.1 - ((u16.1 4) - (u16.1 0))), u28)))
              else
                some (.inl ((x.1 - ((u16.1 4) - (u16.1 0))), ((upd (upd u16.1 0 ((u16.1 0) + ((u16.1 4) - (u16.1 0)))) 5 (((upd u16.1 0 ((u16.1 0) + ((u16.1 4) - (u16.1 0)))) 5) + ((u16.1 4) - (u16.1 0)))), u16.2.1, u16.2.2.1, u16.2.2.2.1, u16.2.2.2.2.1, u16.2.2.2.2.2.1, u16.2.2.2.2.2.2.1, u16.2.2.2.2.2.2.2.1, u16.2.2.2.2.2.2.2.2.1, u16.2.2.2.2.2.2.2.2.2.1, u16.2.2.2.2.2.2.2.2.2.2)))
            else
              if ((upd (upd u16.1 0 ((u16.1 0) + ((u16.1 4) - (u16.1 0)))) 5 (((upd u16.1 0 ((u16.1 0) + ((u16.1 4) - (u16.1 0)))) 5) + 0)) 0) = ((upd (upd u16.1 0 ((u16.1 0) + ((u16.1 4) - (u16.1 0)))) 5 (((upd u16.1 0 ((u16.1 0) + ((u16.1 4) - (u16.1 0)))) 5) + 0)) 4) then
                (f_X7_endsOnAir ((upd (upd u16.1 0 ((u16.1 0) + ((u16.1 4) - (u16.1 0)))) 5 (((upd u16.1 0 ((u16.1 0) + ((u16.1 4) - (u16.1 0)))) 5) + 0)), u16.2.1, u16.2.2.1, u16.2.2.2.1, u16.2.2.2.2.1, u16.2.2.2.2.2.1, u16.2.2.2.2.2.2.1, u16.2.2.2.2.2.2.2.1, u16.2.2.2.2.2.2.2.2.1, u16.2.2.2.2.2.2.2.2.2.1, u16.2.2.2.2.2.2.2.2.2.2)).bind (fun u26 =>
                some (.inl ((x.1 - ((u16.1 4) - (u16.1 0))), u26)))
              else
                some (.inl ((x.1 - ((u16.1 4) - (u16.1 0))), ((upd (upd u16.1 0 ((u16.1 0) + ((u16.1 4) - (u16.1 0)))) 5 (((upd u16.1 0 ((u16.1 0) + ((u16.1 4) - (u16.1 0)))) 5) + 0)), u16.2.1, u16.2.2.1, u16.2.2.2.1, u16.2.2.2.2.1, u16.2.2.2.2.2.1, u16.2.2.2.2.2.2.1, u16.2.2.2.2.2.2.2.1, u16.2.2.2.2.2.2.2.2.1, u16.2.2.2.2.2.2.2.2.2.1, u16.2.2.2.2.2.2.2.2.2.2)))
        else
          some (.inl (x.1, u16)))
      else
        if (x.2.1 1) = 0 then
          if x.1 ≤ ((x.2.1 4) - (x.2.1 0)) then
            if ((upd x.2.1 0 ((x.2.1 0) + x.1)) 2) = 3 then
              if ((upd (upd x.2.1 0 ((x.2.1 0) + x.1)) 5 (((upd x.2.1 0 ((x.2.1 0) + x.1)) 5) + x.1)) 0) = ((upd (upd x.2.1 0 ((x.2.1 0) + x.1)) 5 (((upd x.2.1 0 ((x.2.1 0) + x.1)) 5) + x.1)) 4) then
                (f_X7_endsOnAir ((upd (upd x.2.1 0 ((x.2.1 0) + x.1)) 5 (((upd x.2.1 0 ((x.2.1 0) + x.1)) 5) + x.1)), x.2.2.1, x.2.2.2.1, x.2.2.2.2.1, x.2.2.2.2.2.1, x.2.2.2.2.2.2.1, x.2.2.2.2.2.2.2.1, x.2.2.2.2.2.2.2.2.1, x.2.2.2.2.2.2.2.2.2.1, x.2.2.2.2.2.2.2.2.2.2.1, x.2.2.2.2.2.2.2.2.2.2.2)).bind (fun u10 =>
                some (.inl ((x.1 - x.1), u10)))
              else
                some (.inl ((x.1 - x.1), ((upd (upd x.2.1 0 ((x.2.1 0) + x.1)) 5 (((upd x.2.1 0 ((x.2.1 0) + x.1)) 5) + x.1)), x.2.2.1, x.2.2.2.1, x.2.2.2.2.1, x.2.2.2.2.2.1, x.2.2.2.2.2.2.1, x.2.2.2.2.2.2.2.1, x.2.2.2.2.2.2.2.2.1, x.2.2.2.2.2.2.2.2.2.1, x.2.2.2.2.2.2.2.2.2.2.1, x.2.2.2.2.2.2.2.2.2.2.2)))
            else
              if ((upd (upd x.2.1 0 ((x.2.1 0) + x.1)) 5 (((upd x.2.1 0 ((x.2.1 0) + x.1)) 5) + 0)) 0) = ((upd (upd x.2.1 0 ((x.2.1 0) + x.1)) 5 (((upd x.2.1 0 ((x.2.1 0) + x.1)) 5) + 0)) 4) then
                (f_X7_endsOnAir ((upd (upd x.2.1 0 ((x.2.1 0) + x.1)) 5 (((upd x.2.1 0 ((x.2.1 0) + x.1)) 5) + 0)), x.2.2.1, x.2.2.2.1, x.2.2.2.2.1, x.2.2.2.2.2.1, x.2.2.2.2.2.2.1, x.2.2.2.2.2.2.2.1, x.2.2.2.2.2.2.2.2.1, x.2.2.2.2.2.2.2.2.2.1, x.2.2.2.2.2.2.2.2.2.2.1, x.2.2.2.2.2.2.2.2.2.2.2)).bind (fun u8 =>
                some (.inl ((x.1 - x.1), u8)))
              else
                some (.inl ((x.1 - x.1), ((upd (upd x.2.1 0 ((x.2.1 0) + x.1)) 5 (((upd x.2.1 0 ((x.2.1 0) + x.1)) 5) + 0)), x.2.2.1, x.2.2.2.1, x.2.2.2.2.1, x.2.2.2.2.2.1, x.2.2.2.2.2.2.1, x.2.2.2.2.2.2.2.1, x.2.2.2.2.2.2.2.2.1, x.2.2.2.2.2.2.2.2.2.1, x.2.2.2.2.2.2.2.2.2.2.1, x.2.2.2.2.2.2.2.2.2.2.2)))
          else
            if ((upd x.2.1 0 ((x.2.1 0) + ((x.2.1 4) - (x.2.1 0)))) 2) = 3 then
              if ((upd (upd x.2.1 0 ((x.2.1 0) + ((x.2.1 4) - (x.2.1 0)))) 5 (((upd x.2.1 0 ((x.2.1 0) + ((x.2.1 4) - (x.2.1 0)))) 5) + ((x.2.1 4) - (x.2.1 0)))) 0) = ((upd (upd x.2.1 0 ((x.2.1 0) + ((x.2.1 4) - (x.2.1 0)))) 5 (((upd x.2.1 0 ((x.2.1 0) + ((x.2.1 4) - (x.2.1 0)))) 5) + ((x.2.1 4) - (x.2.1 0)))) 4) then
                (f_X7_endsOnAir ((upd (upd x.2.1 0 ((x.2.1 0) + ((x.2.1 4) - (x.2.1 0)))) 5 (((upd x.2.1 0 ((x.2.1 0) + ((x.2.1 4) - (x.2.1 0)))) 5) + ((x.2.1 4) - (x.2.1 0)))), x.2.2.1, x.2.2.2.1, x.2.2.2.2.1, x.2.2.2.2.2.1, x.2.2.2.2.2.2.1, x.2.2.2.2.2.2.2.1, x.2.2.2.2.2.2.2.2.1, x.2.2.2.2.2.2.2.2.2.1, x.2.2.2.2.2.2.2.2.2.2.1, x.2.2.2.2.2.2.2.2.2.2.2)).bind (fun u15 =>
                some (.inl ((x.1 - ((x.2.1 4) - (x.2.1 0))), u15)))
              else
                some (.inl ((x.1 - ((x.2.1 4) - (x.2.1 0))), ((upd (upd x.2.1 0 ((x.2.1 0) + ((x.2.1 4) - (x.2.1 0)))) 5 (((upd x.2.1 0 ((x.2.1 0) + ((x.2.1 4) - (x.2.1 0)))) 5) + ((x.2.1 4) - (x.2.1 0)))), x.2.2.1, x.2.2.2.1, x.2.2.2.2.1, x.2.2.2.2.2.1, x.2.2.2.2.2.2.1, x.2.2.2.2.2.2.2.1, x.2.2.2.2.2.2.2.2.1, x.2.2.2.2.2.2.2.2.2.1, x.2.2.2.2.2.2.2.2.2.2.1, x.2.2.2.2.2.2.2.2.2.2.2)))
            else
              if ((upd (upd x.2.1 0 ((x.2.1 0) + ((x.2.1 4) - (x.2.1 0)))) 5 (((upd x.2.1 0 ((x.2.1 0) + ((x.2.1 4) - (x.2.1 0)))) 5) + 0)) 0) = ((upd (upd x.2.1 0 ((x.2.1 0) + ((x.2.1 4) - (x.2.1 0)))) 5 (((upd x.2.1 0 ((x.2.1 0) + ((x.2.1 4) - (x.2.1 0)))) 5) + 0)) 4) then
                (f_X7_endsOnAir ((upd (upd x.2.1 0 ((x.2.1 0) + ((x.2.1 4) - (x.2.1 0)))) 5 (((upd x.2.1 0 ((x.2.1 0) + ((x.2.1 4) - (x.2.1 0)))) 5) + 0)), x.2.2.1, x.2.2.2.1, x.2.2.2.2.1, x.2.2.2.2.2.1, x.2.2.2.2.2.2.1, x.2.2.2.2.2.2.2.1, x.2.2.2.2.2.2.2.2.1, x.2.2.2.2.2.2.2.2.2.1, x.2.2.2.2.2.2.2.2.2.2.1, x.2.2.2.2.2.2.2.2.2.2.2)).bind (fun u13 =>
                some (.inl ((x.1 - ((x.2.1 4) - (x.2.1 0))), u13)))
              else
                some (.inl ((x.1 - ((x.2.1 4) - (x.2.1 0))), ((upd (upd x.2.1 0 ((x.2.1 0) + ((x.2.1 4) - (x.2.1 0)))) 5 (((upd x.2.1 0 ((x.2.1 0) + ((x.2.1 4) - (x.2.1 0)))) 5) + 0)), x.2.2.1, x.2.2.2.1, x.2.2.2.2.1, x.2.2.2.2.2.1, x.2.2.2.2.2.2.1, x.2.2.2.2.2.2.2.1, x.2.2.2.2.2.2.2.2.1, x.2.2.2.2.2.2.2.2.2.1, x.2.2.2.2.2.2.2.2.2.2.1, x.2.2.2.2.2.2.2.2.2.2.2)))
        else
          some (.inl (x.1, x.2))
    else
      some (.inr (x.1, x.2))
def f_X7_goesOn (v : MV) (p0 : Int32) : Option (Int32 × MV) :=
  (zloop (s_X7_goesOn_2 v p0) 4096 (p0, v)).bind (fun u29 =>
  some ((p0 - u29.1), u29.2))
set_option maxHeartbeats 4000000 in
set_option maxRecDepth 100000 in
theorem c_X7_goesOn (l : Launch) (g : zG) (a : Nat → Nat) (v : MV) (p0 : Int32) (r : Int32 × MV) (hf : f_X7_goesOn v p0 = some r) : zMi zNF zNM l yX7_goesOn (zw yX7_goesOn cX7_goesOn 4 (some .int)) ({ frames := 4, cells := 0, slots := 0, locals := 97 } : Room) g [.ref (a 0), .int p0] (zX7 g a v) r.1 (zX7 g a r.2) := by
  intro sz
  refine Met.ofW (cc := cX7_goesOn) (maxL := 4) (ret := (some .int)) (by decide) rfl ?_
  intro p e s m args below meth c s₁ B hml hv
  obtain ⟨rfl, hsz, hP, hK, hD0⟩ := hv
  have hx := B.exec
  have hb := B.bytes
  have hr0 := B.returns
  have hts := atoms_spec (ws := (zw yX7_goesOn cX7_goesOn 4 (some .int))) B.pre
  have hw0 : ∀ w ∈ zW, w.before ([.ref (a 0), .int p0] : List Value).toArray s = true := fun w h => hts w (List.mem_cons_of_mem _ h)
  have hown : s.vm.findClass RX7 = some m.cls := findClass_of_methodNamed B.named
  have hlocks := B.notSynchronized
  subst hsz
  have hD := hD0.self (sz := s.heap.size)
  generalize hAe : va_A (zX7 g a v) s.heap.size = A at hD ⊢
  have hA : ∀ q : Nat, s.heap.size ≤ q → A q := fun q h => by rw [← hAe]; exact Or.inr h
  have hS : va_S A s.heap s.heap [] := va_S.rf
  have lp2 : ∀ (v : MV) (i1 : Int32), ∀ (n : Nat) (x : Int32 × MV) (rr : Int32 × MV), zloop (s_X7_goesOn_2 v i1) n x = some rr → (∀ (H : Heap) (locs : List Loc), va_P g.1 vwCl (zX7 g a rr.2) H → va_D A (zX7 g a rr.2) → va_S A s.heap H locs → ∀ ls : Array Slot, lv_has ls 4 [(1, .int i1), (2, .int rr.1)] → W p l e (headSpec (zw yX7_goesOn cX7_goesOn 4 (some .int)) ({ frames := 4, cells := 0, slots := 0, locals := 97 } : Room)).room s m ([.ref (a 0), .int p0] : List Value).toArray below meth c H locs 0 0 (MQ below (va_Qi (fun (x : Int32) (_ : Unit) => x = r.1) (fun _ => zEnd g A (zX7 g a r.2)) A) ([.ref (a 0), .int p0] : List Value).toArray s 0 0 A) (F0 m 132 ls [])) → ∀ (H : Heap) (locs : List Loc), va_P g.1 vwCl (zX7 g a x.2) H → va_D A (zX7 g a x.2) → va_S A s.heap H locs → ∀ ls : Array Slot, lv_has ls 4 [(0, .ref (a 0)), (1, .int i1), (2, .int x.1)] → W p l e (headSpec (zw yX7_goesOn cX7_goesOn 4 (some .int)) ({ frames := 4, cells := 0, slots := 0, locals := 97 } : Room)).room s m ([.ref (a 0), .int p0] : List Value).toArray below meth c H locs 0 0 (MQ below (va_Qi (fun (x : Int32) (_ : Unit) => x = r.1) (fun _ => zEnd g A (zX7 g a r.2)) A) ([.ref (a 0), .int p0] : List Value).toArray s 0 0 A) (F0 m 2 ls []) := by
    intro v i1
    refine zloop_ind ?_
    intro x y rr hf ih hr hQ H locs hP hD hS ls hl
    unfold s_X7_goesOn_2 at hf
    refine lv_iload_n hx hb dX7_goesOn_2 rfl (lv_at hl 2 rfl) ?_
    refine lv_if_le (tgt := 132) hx hb dX7_goesOn_3 (by decide) (fun c1 => ?_) (fun c1 => ?_)
    · have hf := oi hf c1
      have hR : (x.1, x.2) = rr := hr _ (Option.some.inj hf).symm
      subst hR
      exact hQ _ _ hP hD hS _ (lv_sub hl [1, 2] rfl)
    · have hf := oe hf c1
      refine lv_aload_n hx hb dX7_goesOn_6 rfl (lv_at hl 0 rfl) ?_
      refine va_get (D := g.1) (ci := 7) (v := .ref (a 1)) (C := RX7) (T := TX7) (N := 11) hx hb hw0 ziX7 hown hK.1 hP 0 rfl rfl 0 (by decide) (hw0 _ zm4_71) (fun _ h9 => h9) rfl dX7_goesOn_7 ?_
      refine lv_iconst (v := 1) hx hb dX7_goesOn_10 (by decide) ?_
      refine zald (D := g.1) (f := x.2.1) (k := 1) hx hb hK.1 hP 1 0 rfl rfl (zin_vp (i := 1) (n := 220) rfl) rfl dX7_goesOn_11 ?_
      refine lv_if_ne (tgt := 132) hx hb dX7_goesOn_12 (by decide) (fun c2 => ?_) (fun c2 => ?_)
      · have hf := oe hf c2
        have hR : (x.1, x.2) = rr := hr _ (Option.some.inj hf).symm
        subst hR
        exact hQ _ _ hP hD hS _ (lv_sub hl [1, 2] rfl)
      · have hf := oi hf c2
        refine lv_aload_n hx hb dX7_goesOn_15 rfl (lv_at hl 0 rfl) ?_
        refine va_get (D := g.1) (ci := 7) (v := .ref (a 1)) (C := RX7) (T := TX7) (N := 11) hx hb hw0 ziX7 hown hK.1 hP 0 rfl rfl 0 (by decide) (hw0 _ zm4_71) (fun _ h9 => h9) rfl dX7_goesOn_16 ?_
        refine lv_iconst (v := 2) hx hb dX7_goesOn_19 (by decide) ?_
        refine zald (D := g.1) (f := x.2.1) (k := 2) hx hb hK.1 hP 1 0 rfl rfl (zin_vp (i := 2) (n := 220) rfl) rfl dX7_goesOn_20 ?_
        refine lv_if_ne (tgt := 28) hx hb dX7_goesOn_21 (by decide) (fun c3 => ?_) (fun c3 => ?_)
        · have hf := oe hf c3
          refine lv_aload_n hx hb dX7_goesOn_28 rfl (lv_at hl 0 rfl) ?_
          refine va_get (D := g.1) (ci := 7) (v := .ref (a 1)) (C := RX7) (T := TX7) (N := 11) hx hb hw0 ziX7 hown hK.1 hP 0 rfl rfl 0 (by decide) (hw0 _ zm4_71) (fun _ h9 => h9) rfl dX7_goesOn_29 ?_
          refine lv_iconst (v := 1) hx hb dX7_goesOn_32 (by decide) ?_
          refine zald (D := g.1) (f := x.2.1) (k := 1) hx hb hK.1 hP 1 0 rfl rfl (zin_vp (i := 1) (n := 220) rfl) rfl dX7_goesOn_33 ?_
          refine lv_if_ne (tgt := 2) hx hb dX7_goesOn_34 (by decide) (fun c4 => ?_) (fun c4 => ?_)
          · have hf := oe hf c4
            exact ih (x.1, x.2) (Option.some.inj hf).symm hQ _ _ hP hD hS _ (lv_sub hl [0, 1, 2] rfl)
          · have hf := oi hf c4
            refine lv_aload_n hx hb dX7_goesOn_37 rfl (lv_at hl 0 rfl) ?_
            refine va_get (D := g.1) (ci := 7) (v := .ref (a 1)) (C := RX7) (T := TX7) (N := 11) hx hb hw0 ziX7 hown hK.1 hP 0 rfl rfl 0 (by decide) (hw0 _ zm4_71) (fun _ h9 => h9) rfl dX7_goesOn_38 ?_
            refine lv_iconst (v := 4) hx hb dX7_goesOn_41 (by decide) ?_
            refine zald (D := g.1) (f := x.2.1) (k := 4) hx hb hK.1 hP 1 0 rfl rfl (zin_vp (i := 4) (n := 220) rfl) rfl dX7_goesOn_42 ?_
            refine lv_aload_n hx hb dX7_goesOn_43 rfl (lv_at hl 0 rfl) ?_
            refine va_get (D := g.1) (ci := 7) (v := .ref (a 1)) (C := RX7) (T := TX7) (N := 11) hx hb hw0 ziX7 hown hK.1 hP 0 rfl rfl 0 (by decide) (hw0 _ zm4_71) (fun _ h9 => h9) rfl dX7_goesOn_44 ?_
            refine lv_iconst (v := 0) hx hb dX7_goesOn_47 (by decide) ?_
            refine zald (D := g.1) (f := x.2.1) (k := 0) hx hb hK.1 hP 1 0 rfl rfl (zin_vp (i := 0) (n := 220) rfl) rfl dX7_goesOn_48 ?_
            refine lv_isub hx hb dX7_goesOn_49 ?_
            refine lv_iload_n hx hb dX7_goesOn_50 rfl (lv_at hl 2 rfl) ?_
            refine lv_icmp_ge (tgt := 70) hx hb dX7_goesOn_51 (by decide) (fun c5 => ?_) (fun c5 => ?_)
            · have hf := oi hf c5
              refine lv_iload_n hx hb dX7_goesOn_70 rfl (lv_at hl 2 rfl) ?_
              refine lv_istore_n (lv' := [(3, .int x.1), (0, .ref (a 0)), (1, .int i1), (2, .int x.1)]) hx hb dX7_goesOn_71 rfl hl (by decide) rfl (fun ls hl => ?_)
              refine lv_aload_n hx hb dX7_goesOn_72 rfl (lv_at hl 1 rfl) ?_
              refine va_get (D := g.1) (ci := 7) (v := .ref (a 1)) (C := RX7) (T := TX7) (N := 11) hx hb hw0 ziX7 hown hK.1 hP 0 rfl rfl 0 (by decide) (hw0 _ zm4_71) (fun _ h9 => h9) rfl dX7_goesOn_73 ?_
              refine lv_iconst (v := 0) hx hb dX7_goesOn_76 (by decide) ?_
              refine lv_dup2_11 hx hb dX7_goesOn_77 rfl rfl ?_
              refine zald (D := g.1) (f := x.2.1) (k := 0) hx hb hK.1 hP 1 0 rfl rfl (zin_vp (i := 0) (n := 220) rfl) rfl dX7_goesOn_78 ?_
              refine lv_iload_n hx hb dX7_goesOn_79 rfl (lv_at hl 0 rfl) ?_
              refine lv_iadd hx hb dX7_goesOn_80 ?_
              refine zast (D := g.1) (f := x.2.1) (k := 0) (x := ((x.2.1 0) + x.1)) hx hb hK.1 hP hD hS 1 0 rfl rfl (zin_vp (i := 0) (n := 220) rfl) rfl dX7_goesOn_81 (fun H locs hP hD hS => ?_)
              have hP : va_P g.1 vwCl (zX7 g a ((upd x.2.1 0 ((x.2.1 0) + x.1)), x.2.2.1, x.2.2.2.1, x.2.2.2.2.1, x.2.2.2.2.2.1, x.2.2.2.2.2.2.1, x.2.2.2.2.2.2.2.1, x.2.2.2.2.2.2.2.2.1, x.2.2.2.2.2.2.2.2.2.1, x.2.2.2.2.2.2.2.2.2.2.1, x.2.2.2.2.2.2.2.2.2.2.2)) H := hP
              have hD : va_D A (zX7 g a ((upd x.2.1 0 ((x.2.1 0) + x.1)), x.2.2.1, x.2.2.2.1, x.2.2.2.2.1, x.2.2.2.2.2.1, x.2.2.2.2.2.2.1, x.2.2.2.2.2.2.2.1, x.2.2.2.2.2.2.2.2.1, x.2.2.2.2.2.2.2.2.2.1, x.2.2.2.2.2.2.2.2.2.2.1, x.2.2.2.2.2.2.2.2.2.2.2)) := hD
              refine lv_iload_n hx hb dX7_goesOn_82 rfl (lv_at hl 3 rfl) ?_
              refine lv_iload_n hx hb dX7_goesOn_83 rfl (lv_at hl 0 rfl) ?_
              refine lv_isub hx hb dX7_goesOn_84 ?_
              refine lv_istore_n (lv' := [(2, .int (x.1 - x.1)), (3, .int x.1), (0, .ref (a 0)), (1, .int i1)]) hx hb dX7_goesOn_85 rfl hl (by decide) rfl (fun ls hl => ?_)
              refine lv_aload_n hx hb dX7_goesOn_86 rfl (lv_at hl 2 rfl) ?_
              refine va_get (D := g.1) (ci := 7) (v := .ref (a 1)) (C := RX7) (T := TX7) (N := 11) hx hb hw0 ziX7 hown hK.1 hP 0 rfl rfl 0 (by decide) (hw0 _ zm4_71) (fun _ h9 => h9) rfl dX7_goesOn_87 ?_
              refine lv_iconst (v := 5) hx hb dX7_goesOn_90 (by decide) ?_
              refine lv_dup2_11 hx hb dX7_goesOn_91 rfl rfl ?_
              refine zald (D := g.1) (f := (upd x.2.1 0 ((x.2.1 0) + x.1))) (k := 5) hx hb hK.1 hP 1 0 rfl rfl (zin_vp (i := 5) (n := 220) rfl) rfl dX7_goesOn_92 ?_
              refine lv_aload_n hx hb dX7_goesOn_93 rfl (lv_at hl 2 rfl) ?_
              refine va_get (D := g.1) (ci := 7) (v := .ref (a 1)) (C := RX7) (T := TX7) (N := 11) hx hb hw0 ziX7 hown hK.1 hP 0 rfl rfl 0 (by decide) (hw0 _ zm4_71) (fun _ h9 => h9) rfl dX7_goesOn_94 ?_
              refine lv_iconst (v := 2) hx hb dX7_goesOn_97 (by decide) ?_
              refine zald (D := g.1) (f := (upd x.2.1 0 ((x.2.1 0) + x.1))) (k := 2) hx hb hK.1 hP 1 0 rfl rfl (zin_vp (i := 2) (n := 220) rfl) rfl dX7_goesOn_98 ?_
              refine lv_iconst (v := 3) hx hb dX7_goesOn_99 (by decide) ?_
              refine lv_icmp_ne (tgt := 107) hx hb dX7_goesOn_100 (by decide) (fun c6 => ?_) (fun c6 => ?_)
              · have hf := oe hf c6
                refine lv_iconst (v := 0) hx hb dX7_goesOn_107 (by decide) ?_
                refine lv_iadd hx hb dX7_goesOn_108 ?_
                refine zast (D := g.1) (f := (upd x.2.1 0 ((x.2.1 0) + x.1))) (k := 5) (x := (((upd x.2.1 0 ((x.2.1 0) + x.1)) 5) + 0)) hx hb hK.1 hP hD hS 1 0 rfl rfl (zin_vp (i := 5) (n := 220) rfl) rfl dX7_goesOn_109 (fun H locs hP hD hS => ?_)
                have hP : va_P g.1 vwCl (zX7 g a ((upd (upd x.2.1 0 ((x.2.1 0) + x.1)) 5 (((upd x.2.1 0 ((x.2.1 0) + x.1)) 5) + 0)), x.2.2.1, x.2.2.2.1, x.2.2.2.2.1, x.2.2.2.2.2.1, x.2.2.2.2.2.2.1, x.2.2.2.2.2.2.2.1, x.2.2.2.2.2.2.2.2.1, x.2.2.2.2.2.2.2.2.2.1, x.2.2.2.2.2.2.2.2.2.2.1, x.2.2.2.2.2.2.2.2.2.2.2)) H := hP
                have hD : va_D A (zX7 g a ((upd (upd x.2.1 0 ((x.2.1 0) + x.1)) 5 (((upd x.2.1 0 ((x.2.1 0) + x.1)) 5) + 0)), x.2.2.1, x.2.2.2.1, x.2.2.2.2.1, x.2.2.2.2.2.1, x.2.2.2.2.2.2.1, x.2.2.2.2.2.2.2.1, x.2.2.2.2.2.2.2.2.1, x.2.2.2.2.2.2.2.2.2.1, x.2.2.2.2.2.2.2.2.2.2.1, x.2.2.2.2.2.2.2.2.2.2.2)) := hD
                refine lv_aload_n hx hb dX7_goesOn_110 rfl (lv_at hl 2 rfl) ?_
                refine va_get (D := g.1) (ci := 7) (v := .ref (a 1)) (C := RX7) (T := TX7) (N := 11) hx hb hw0 ziX7 hown hK.1 hP 0 rfl rfl 0 (by decide) (hw0 _ zm4_71) (fun _ h9 => h9) rfl dX7_goesOn_111 ?_
                refine lv_iconst (v := 0) hx hb dX7_goesOn_114 (by decide) ?_
                refine zald (D := g.1) (f := (upd (upd x.2.1 0 ((x.2.1 0) + x.1)) 5 (((upd x.2.1 0 ((x.2.1 0) + x.1)) 5) + 0))) (k := 0) hx hb hK.1 hP 1 0 rfl rfl (zin_vp (i := 0) (n := 220) rfl) rfl dX7_goesOn_115 ?_
                refine lv_aload_n hx hb dX7_goesOn_116 rfl (lv_at hl 2 rfl) ?_
                refine va_get (D := g.1) (ci := 7) (v := .ref (a 1)) (C := RX7) (T := TX7) (N := 11) hx hb hw0 ziX7 hown hK.1 hP 0 rfl rfl 0 (by decide) (hw0 _ zm4_71) (fun _ h9 => h9) rfl dX7_goesOn_117 ?_
                refine lv_iconst (v := 4) hx hb dX7_goesOn_120 (by decide) ?_
                refine zald (D := g.1) (f := (upd (upd x.2.1 0 ((x.2.1 0) + x.1)) 5 (((upd x.2.1 0 ((x.2.1 0) + x.1)) 5) + 0))) (k := 4) hx hb hK.1 hP 1 0 rfl rfl (zin_vp (i := 4) (n := 220) rfl) rfl dX7_goesOn_121 ?_
                refine lv_icmp_ne (tgt := 129) hx hb dX7_goesOn_122 (by decide) (fun c7 => ?_) (fun c7 => ?_)
                · have hf := oe hf c7
                  refine lv_goto (tgt := 2) hx hb dX7_goesOn_129 (by decide) ?_
                  exact ih ((x.1 - x.1), ((upd (upd x.2.1 0 ((x.2.1 0) + x.1)) 5 (((upd x.2.1 0 ((x.2.1 0) + x.1)) 5) + 0)), x.2.2.1, x.2.2.2.1, x.2.2.2.2.1, x.2.2.2.2.2.1, x.2.2.2.2.2.2.1, x.2.2.2.2.2.2.2.1, x.2.2.2.2.2.2.2.2.1, x.2.2.2.2.2.2.2.2.2.1, x.2.2.2.2.2.2.2.2.2.2.1, x.2.2.2.2.2.2.2.2.2.2.2)) (Option.some.inj hf).symm hQ _ _ hP hD hS _ (lv_sub hl [2, 3, 0] rfl)
                · have hf := oi hf c7
                  refine lv_aload_n hx hb dX7_goesOn_125 rfl (lv_at hl 2 rfl) ?_
                  obtain ⟨u8, hu8, hf⟩ := ob hf
                  refine zk_vA (va_runV (As := []) (rest := []) ⟨hx, hb, hml, hown, hts⟩ (c_X7_endsOnAir l g a ((upd (upd x.2.1 0 ((x.2.1 0) + x.1)) 5 (((upd x.2.1 0 ((x.2.1 0) + x.1)) 5) + 0)), x.2.2.1, x.2.2.2.1, x.2.2.2.2.1, x.2.2.2.2.2.1, x.2.2.2.2.2.2.1, x.2.2.2.2.2.2.2.1, x.2.2.2.2.2.2.2.2.1, x.2.2.2.2.2.2.2.2.2.1, x.2.2.2.2.2.2.2.2.2.2.1, x.2.2.2.2.2.2.2.2.2.2.2) _ hu8 _) (zcV hw0 zm4_152 zm4_155 zm1_8 zm4_154 zs5_8 hd_X7_endsOnAir rfl rfl ⟨Nat.le_of_ble_eq_true rfl, Nat.le_of_ble_eq_true rfl⟩) ⟨zblind, zrecvA hK hP (ci := 7) rfl rfl, zpreA hK hP hD⟩ rfl rfl hl.1 rfl (lv_room (Nat.le_of_ble_eq_true rfl)) dX7_goesOn_126 ⟨Nat.zero_le _, Nat.zero_le _⟩) hP hD hS hA (fun H locs hP hD hS => ?_)
                  have hP : va_P g.1 vwCl (zX7 g a u8) H := hP
                  have hD : va_D A (zX7 g a u8) := hD
                  refine lv_goto (tgt := 2) hx hb dX7_goesOn_129 (by decide) ?_
                  exact ih ((x.1 - x.1), u8) (Option.some.inj hf).symm hQ _ _ hP hD hS _ (lv_sub hl [2, 3, 0] rfl)
              · have hf := oi hf c6
                refine lv_iload_n hx hb dX7_goesOn_103 rfl (lv_at hl 1 rfl) ?_
                refine lv_goto (tgt := 108) hx hb dX7_goesOn_104 (by decide) ?_
                refine lv_iadd hx hb dX7_goesOn_108 ?_
                refine zast (D := g.1) (f := (upd x.2.1 0 ((x.2.1 0) + x.1))) (k := 5) (x := (((upd x.2.1 0 ((x.2.1 0) + x.1)) 5) + x.1)) hx hb hK.1 hP hD hS 1 0 rfl rfl (zin_vp (i := 5) (n := 220) rfl) rfl dX7_goesOn_109 (fun H locs hP hD hS => ?_)
                have hP : va_P g.1 vwCl (zX7 g a ((upd (upd x.2.1 0 ((x.2.1 0) + x.1)) 5 (((upd x.2.1 0 ((x.2.1 0) + x.1)) 5) + x.1)), x.2.2.1, x.2.2.2.1, x.2.2.2.2.1, x.2.2.2.2.2.1, x.2.2.2.2.2.2.1, x.2.2.2.2.2.2.2.1, x.2.2.2.2.2.2.2.2.1, x.2.2.2.2.2.2.2.2.2.1, x.2.2.2.2.2.2.2.2.2.2.1, x.2.2.2.2.2.2.2.2.2.2.2)) H := hP
                have hD : va_D A (zX7 g a ((upd (upd x.2.1 0 ((x.2.1 0) + x.1)) 5 (((upd x.2.1 0 ((x.2.1 0) + x.1)) 5) + x.1)), x.2.2.1, x.2.2.2.1, x.2.2.2.2.1, x.2.2.2.2.2.1, x.2.2.2.2.2.2.1, x.2.2.2.2.2.2.2.1, x.2.2.2.2.2.2.2.2.1, x.2.2.2.2.2.2.2.2.2.1, x.2.2.2.2.2.2.2.2.2.2.1, x.2.2.2.2.2.2.2.2.2.2.2)) := hD
                refine lv_aload_n hx hb dX7_goesOn_110 rfl (lv_at hl 2 rfl) ?_
                refine va_get (D := g.1) (ci := 7) (v := .ref (a 1)) (C := RX7) (T := TX7) (N := 11) hx hb hw0 ziX7 hown hK.1 hP 0 rfl rfl 0 (by decide) (hw0 _ zm4_71) (fun _ h9 => h9) rfl dX7_goesOn_111 ?_
                refine lv_iconst (v := 0) hx hb dX7_goesOn_114 (by decide) ?_
                refine zald (D := g.1) (f := (upd (upd x.2.1 0 ((x.2.1 0) + x.1)) 5 (((upd x.2.1 0 ((x.2.1 0) + x.1)) 5) + x.1))) (k := 0) hx hb hK.1 hP 1 0 rfl rfl (zin_vp (i := 0) (n := 220) rfl) rfl dX7_goesOn_115 ?_
                refine lv_aload_n hx hb dX7_goesOn_116 rfl (lv_at hl 2 rfl) ?_
                refine va_get (D := g.1) (ci := 7) (v := .ref (a 1)) (C := RX7) (T := TX7) (N := 11) hx hb hw0 ziX7 hown hK.1 hP 0 rfl rfl 0 (by decide) (hw0 _ zm4_71) (fun _ h9 => h9) rfl dX7_goesOn_117 ?_
                refine lv_iconst (v := 4) hx hb dX7_goesOn_120 (by decide) ?_
                refine zald (D := g.1) (f := (upd (upd x.2.1 0 ((x.2.1 0) + x.1)) 5 (((upd x.2.1 0 ((x.2.1 0) + x.1)) 5) + x.1))) (k := 4) hx hb hK.1 hP 1 0 rfl rfl (zin_vp (i := 4) (n := 220) rfl) rfl dX7_goesOn_121 ?_
                refine lv_icmp_ne (tgt := 129) hx hb dX7_goesOn_122 (by decide) (fun c9 => ?_) (fun c9 => ?_)
                · have hf := oe hf c9
                  refine lv_goto (tgt := 2) hx hb dX7_goesOn_129 (by decide) ?_
                  exact ih ((x.1 - x.1), ((upd (upd x.2.1 0 ((x.2.1 0) + x.1)) 5 (((upd x.2.1 0 ((x.2.1 0) + x.1)) 5) + x.1)), x.2.2.1, x.2.2.2.1, x.2.2.2.2.1, x.2.2.2.2.2.1, x.2.2.2.2.2.2.1, x.2.2.2.2.2.2.2.1, x.2.2.2.2.2.2.2.2.1, x.2.2.2.2.2.2.2.2.2.1, x.2.2.2.2.2.2.2.2.2.2.1, x.2.2.2.2.2.2.2.2.2.2.2)) (Option.some.inj hf).symm hQ _ _ hP hD hS _ (lv_sub hl [2, 3, 0] rfl)
                · have hf := oi hf c9
                  refine lv_aload_n hx hb dX7_goesOn_125 rfl (lv_at hl 2 rfl) ?_
                  obtain ⟨u10, hu10, hf⟩ := ob hf
                  refine zk_vA (va_runV (As := []) (rest := []) ⟨hx, hb, hml, hown, hts⟩ (c_X7_endsOnAir l g a ((upd (upd x.2.1 0 ((x.2.1 0) + x.1)) 5 (((upd x.2.1 0 ((x.2.1 0) + x.1)) 5) + x.1)), x.2.2.1, x.2.2.2.1, x.2.2.2.2.1, x.2.2.2.2.2.1, x.2.2.2.2.2.2.1, x.2.2.2.2.2.2.2.1, x.2.2.2.2.2.2.2.2.1, x.2.2.2.2.2.2.2.2.2.1, x.2.2.2.2.2.2.2.2.2.2.1, x.2.2.2.2.2.2.2.2.2.2.2) _ hu10 _) (zcV hw0 zm4_152 zm4_155 zm1_8 zm4_154 zs5_8 hd_X7_endsOnAir rfl rfl ⟨Nat.le_of_ble_eq_true rfl, Nat.le_of_ble_eq_true rfl⟩) ⟨zblind, zrecvA hK hP (ci := 7) rfl rfl, zpreA hK hP hD⟩ rfl rfl hl.1 rfl (lv_room (Nat.le_of_ble_eq_true rfl)) dX7_goesOn_126 ⟨Nat.zero_le _, Nat.zero_le _⟩) hP hD hS hA (fun H locs hP hD hS => ?_)
                  have hP : va_P g.1 vwCl (zX7 g a u10) H := hP
                  have hD : va_D A (zX7 g a u10) := hD
                  refine lv_goto (tgt := 2) hx hb dX7_goesOn_129 (by decide) ?_
                  exact ih ((x.1 - x.1), u10) (Option.some.inj hf).symm hQ _ _ hP hD hS _ (lv_sub hl [2, 3, 0] rfl)
            · have hf := oe hf c5
              refine lv_aload_n hx hb dX7_goesOn_54 rfl (lv_at hl 0 rfl) ?_
              refine va_get (D := g.1) (ci := 7) (v := .ref (a 1)) (C := RX7) (T := TX7) (N := 11) hx hb hw0 ziX7 hown hK.1 hP 0 rfl rfl 0 (by decide) (hw0 _ zm4_71) (fun _ h9 => h9) rfl dX7_goesOn_55 ?_
              refine lv_iconst (v := 4) hx hb dX7_goesOn_58 (by decide) ?_
              refine zald (D := g.1) (f := x.2.1) (k := 4) hx hb hK.1 hP 1 0 rfl rfl (zin_vp (i := 4) (n := 220) rfl) rfl dX7_goesOn_59 ?_
              refine lv_aload_n hx hb dX7_goesOn_60 rfl (lv_at hl 0 rfl) ?_
              refine va_get (D := g.1) (ci := 7) (v := .ref (a 1)) (C := RX7) (T := TX7) (N := 11) hx hb hw0 ziX7 hown hK.1 hP 0 rfl rfl 0 (by decide) (hw0 _ zm4_71) (fun _ h9 => h9) rfl dX7_goesOn_61 ?_
              refine lv_iconst (v := 0) hx hb dX7_goesOn_64 (by decide) ?_
              refine zald (D := g.1) (f := x.2.1) (k := 0) hx hb hK.1 hP 1 0 rfl rfl (zin_vp (i := 0) (n := 220) rfl) rfl dX7_goesOn_65 ?_
              refine lv_isub hx hb dX7_goesOn_66 ?_
              refine lv_goto (tgt := 71) hx hb dX7_goesOn_67 (by decide) ?_
              refine lv_istore_n (lv' := [(3, .int ((x.2.1 4) - (x.2.1 0))), (0, .ref (a 0)), (1, .int i1), (2, .int x.1)]) hx hb dX7_goesOn_71 rfl hl (by decide) rfl (fun ls hl => ?_)
              refine lv_aload_n hx hb dX7_goesOn_72 rfl (lv_at hl 1 rfl) ?_
              refine va_get (D := g.1) (ci := 7) (v := .ref (a 1)) (C := RX7) (T := TX7) (N := 11) hx hb hw0 ziX7 hown hK.1 hP 0 rfl rfl 0 (by decide) (hw0 _ zm4_71) (fun _ h9 => h9) rfl dX7_goesOn_73 ?_
              refine lv_iconst (v := 0) hx hb dX7_goesOn_76 (by decide) ?_
              refine lv_dup2_11 hx hb dX7_goesOn_77 rfl rfl ?_
              refine zald (D := g.1) (f := x.2.1) (k := 0) hx hb hK.1 hP 1 0 rfl rfl (zin_vp (i := 0) (n := 220) rfl) rfl dX7_goesOn_78 ?_
              refine lv_iload_n hx hb dX7_goesOn_79 rfl (lv_at hl 0 rfl) ?_
              refine lv_iadd hx hb dX7_goesOn_80 ?_
              refine zast (D := g.1) (f := x.2.1) (k := 0) (x := ((x.2.1 0) + ((x.2.1 4) - (x.2.1 0)))) hx hb hK.1 hP hD hS 1 0 rfl rfl (zin_vp (i := 0) (n := 220) rfl) rfl dX7_goesOn_81 (fun H locs hP hD hS => ?_)
              have hP : va_P g.1 vwCl (zX7 g a ((upd x.2.1 0 ((x.2.1 0) + ((x.2.1 4) - (x.2.1 0)))), x.2.2.1, x.2.2.2.1, x.2.2.2.2.1, x.2.2.2.2.2.1, x.2.2.2.2.2.2.1, x.2.2.2.2.2.2.2.1, x.2.2.2.2.2.2.2.2.1, x.2.2.2.2.2.2.2.2.2.1, x.2.2.2.2.2.2.2.2.2.2.1, x.2.2.2.2.2.2.2.2.2.2.2)) H := hP
              have hD : va_D A (zX7 g a ((upd x.2.1 0 ((x.2.1 0) + ((x.2.1 4) - (x.2.1 0)))), x.2.2.1, x.2.2.2.1, x.2.2.2.2.1, x.2.2.2.2.2.1, x.2.2.2.2.2.2.1, x.2.2.2.2.2.2.2.1, x.2.2.2.2.2.2.2.2.1, x.2.2.2.2.2.2.2.2.2.1, x.2.2.2.2.2.2.2.2.2.2.1, x.2.2.2.2.2.2.2.2.2.2.2)) := hD
              refine lv_iload_n hx hb dX7_goesOn_82 rfl (lv_at hl 3 rfl) ?_
              refine lv_iload_n hx hb dX7_goesOn_83 rfl (lv_at hl 0 rfl) ?_
              refine lv_isub hx hb dX7_goesOn_84 ?_
              refine lv_istore_n (lv' := [(2, .int (x.1 - ((x.2.1 4) - (x.2.1 0)))), (3, .int ((x.2.1 4) - (x.2.1 0))), (0, .ref (a 0)), (1, .int i1)]) hx hb dX7_goesOn_85 rfl hl (by decide) rfl (fun ls hl => ?_)
              refine lv_aload_n hx hb dX7_goesOn_86 rfl (lv_at hl 2 rfl) ?_
              refine va_get (D := g.1) (ci := 7) (v := .ref (a 1)) (C := RX7) (T := TX7) (N := 11) hx hb hw0 ziX7 hown hK.1 hP 0 rfl rfl 0 (by decide) (hw0 _ zm4_71) (fun _ h9 => h9) rfl dX7_goesOn_87 ?_
              refine lv_iconst (v := 5) hx hb dX7_goesOn_90 (by decide) ?_
              refine lv_dup2_11 hx hb dX7_goesOn_91 rfl rfl ?_
              refine zald (D := g.1) (f := (upd x.2.1 0 ((x.2.1 0) + ((x.2.1 4) - (x.2.1 0))))) (k := 5) hx hb hK.1 hP 1 0 rfl rfl (zin_vp (i := 5) (n := 220) rfl) rfl dX7_goesOn_92 ?_
              refine lv_aload_n hx hb dX7_goesOn_93 rfl (lv_at hl 2 rfl) ?_
              refine va_get (D := g.1) (ci := 7) (v := .ref (a 1)) (C := RX7) (T := TX7) (N := 11) hx hb hw0 ziX7 hown hK.1 hP 0 rfl rfl 0 (by decide) (hw0 _ zm4_71) (fun _ h9 => h9) rfl dX7_goesOn_94 ?_
              refine lv_iconst (v := 2) hx hb dX7_goesOn_97 (by decide) ?_
              refine zald (D := g.1) (f := (upd x.2.1 0 ((x.2.1 0) + ((x.2.1 4) - (x.2.1 0))))) (k := 2) hx hb hK.1 hP 1 0 rfl rfl (zin_vp (i := 2) (n := 220) rfl) rfl dX7_goesOn_98 ?_
              refine lv_iconst (v := 3) hx hb dX7_goesOn_99 (by decide) ?_
              refine lv_icmp_ne (tgt := 107) hx hb dX7_goesOn_100 (by decide) (fun c11 => ?_) (fun c11 => ?_)
              · have hf := oe hf c11
                refine lv_iconst (v := 0) hx hb dX7_goesOn_107 (by decide) ?_
                refine lv_iadd hx hb dX7_goesOn_108 ?_
                refine zast (D := g.1) (f := (upd x.2.1 0 ((x.2.1 0) + ((x.2.1 4) - (x.2.1 0))))) (k := 5) (x := (((upd x.2.1 0 ((x.2.1 0) + ((x.2.1 4) - (x.2.1 0)))) 5) + 0)) hx hb hK.1 hP hD hS 1 0 rfl rfl (zin_vp (i := 5) (n := 220) rfl) rfl dX7_goesOn_109 (fun H locs hP hD hS => ?_)
                have hP : va_P g.1 vwCl (zX7 g a ((upd (upd x.2.1 0 ((x.2.1 0) + ((x.2.1 4) - (x.2.1 0)))) 5 (((upd x.2.1 0 ((x.2.1 0) + ((x.2.1 4) - (x.2.1 0)))) 5) + 0)), x.2.2.1, x.2.2.2.1, x.2.2.2.2.1, x.2.2.2.2.2.1, x.2.2.2.2.2.2.1, x.2.2.2.2.2.2.2.1, x.2.2.2.2.2.2.2.2.1, x.2.2.2.2.2.2.2.2.2.1, x.2.2.2.2.2.2.2.2.2.2.1, x.2.2.2.2.2.2.2.2.2.2.2)) H := hP
                have hD : va_D A (zX7 g a ((upd (upd x.2.1 0 ((x.2.1 0) + ((x.2.1 4) - (x.2.1 0)))) 5 (((upd x.2.1 0 ((x.2.1 0) + ((x.2.1 4) - (x.2.1 0)))) 5) + 0)), x.2.2.1, x.2.2.2.1, x.2.2.2.2.1, x.2.2.2.2.2.1, x.2.2.2.2.2.2.1, x.2.2.2.2.2.2.2.1, x.2.2.2.2.2.2.2.2.1, x.2.2.2.2.2.2.2.2.2.1, x.2.2.2.2.2.2.2.2.2.2.1, x.2.2.2.2.2.2.2.2.2.2.2)) := hD
                refine lv_aload_n hx hb dX7_goesOn_110 rfl (lv_at hl 2 rfl) ?_
                refine va_get (D := g.1) (ci := 7) (v := .ref (a 1)) (C := RX7) (T := TX7) (N := 11) hx hb hw0 ziX7 hown hK.1 hP 0 rfl rfl 0 (by decide) (hw0 _ zm4_71) (fun _ h9 => h9) rfl dX7_goesOn_111 ?_
                refine lv_iconst (v := 0) hx hb dX7_goesOn_114 (by decide) ?_
                refine zald (D := g.1) (f := (upd (upd x.2.1 0 ((x.2.1 0) + ((x.2.1 4) - (x.2.1 0)))) 5 (((upd x.2.1 0 ((x.2.1 0) + ((x.2.1 4) - (x.2.1 0)))) 5) + 0))) (k := 0) hx hb hK.1 hP 1 0 rfl rfl (zin_vp (i := 0) (n := 220) rfl) rfl dX7_goesOn_115 ?_
                refine lv_aload_n hx hb dX7_goesOn_116 rfl (lv_at hl 2 rfl) ?_
                refine va_get (D := g.1) (ci := 7) (v := .ref (a 1)) (C := RX7) (T := TX7) (N := 11) hx hb hw0 ziX7 hown hK.1 hP 0 rfl rfl 0 (by decide) (hw0 _ zm4_71) (fun _ h9 => h9) rfl dX7_goesOn_117 ?_
                refine lv_iconst (v := 4) hx hb dX7_goesOn_120 (by decide) ?_
                refine zald (D := g.1) (f := (upd (upd x.2.1 0 ((x.2.1 0) + ((x.2.1 4) - (x.2.1 0)))) 5 (((upd x.2.1 0 ((x.2.1 0) + ((x.2.1 4) - (x.2.1 0)))) 5) + 0))) (k := 4) hx hb hK.1 hP 1 0 rfl rfl (zin_vp (i := 4) (n := 220) rfl) rfl dX7_goesOn_121 ?_
                refine lv_icmp_ne (tgt := 129) hx hb dX7_goesOn_122 (by decide) (fun c12 => ?_) (fun c12 => ?_)
                · have hf := oe hf c12
                  refine lv_goto (tgt := 2) hx hb dX7_goesOn_129 (by decide) ?_
                  exact ih ((x.1 - ((x.2.1 4) - (x.2.1 0))), ((upd (upd x.2.1 0 ((x.2.1 0) + ((x.2.1 4) - (x.2.1 0)))) 5 (((upd x.2.1 0 ((x.2.1 0) + ((x.2.1 4) - (x.2.1 0)))) 5) + 0)), x.2.2.1, x.2.2.2.1, x.2.2.2.2.1, x.2.2.2.2.2.1, x.2.2.2.2.2.2.1, x.2.2.2.2.2.2.2.1, x.2.2.2.2.2.2.2.2.1, x.2.2.2.2.2.2.2.2.2.1, x.2.2.2.2.2.2.2.2.2.2.1, x.2.2.2.2.2.2.2.2.2.2.2)) (Option.some.inj hf).symm hQ _ _ hP hD hS _ (lv_sub hl [2, 3, 0] rfl)
                · have hf := oi hf c12
                  refine lv_aload_n hx hb dX7_goesOn_125 rfl (lv_at hl 2 rfl) ?_
                  obtain ⟨u13, hu13, hf⟩ := ob hf
                  refine zk_vA (va_runV (As := []) (rest := []) ⟨hx, hb, hml, hown, hts⟩ (c_X7_endsOnAir l g a ((upd (upd x.2.1 0 ((x.2.1 0) + ((x.2.1 4) - (x.2.1 0)))) 5 (((upd x.2.1 0 ((x.2.1 0) + ((x.2.1 4) - (x.2.1 0)))) 5) + 0)), x.2.2.1, x.2.2.2.1, x.2.2.2.2.1, x.2.2.2.2.2.1, x.2.2.2.2.2.2.1, x.2.2.2.2.2.2.2.1, x.2.2.2.2.2.2.2.2.1, x.2.2.2.2.2.2.2.2.2.1, x.2.2.2.2.2.2.2.2.2.2.1, x.2.2.2.2.2.2.2.2.2.2.2) _ hu13 _) (zcV hw0 zm4_152 zm4_155 zm1_8 zm4_154 zs5_8 hd_X7_endsOnAir rfl rfl ⟨Nat.le_of_ble_eq_true rfl, Nat.le_of_ble_eq_true rfl⟩) ⟨zblind, zrecvA hK hP (ci := 7) rfl rfl, zpreA hK hP hD⟩ rfl rfl hl.1 rfl (lv_room (Nat.le_of_ble_eq_true rfl)) dX7_goesOn_126 ⟨Nat.zero_le _, Nat.zero_le _⟩) hP hD hS hA (fun H locs hP hD hS => ?_)
                  have hP : va_P g.1 vwCl (zX7 g a u13) H := hP
                  have hD : va_D A (zX7 g a u13) := hD
                  refine lv_goto (tgt := 2) hx hb dX7_goesOn_129 (by decide) ?_
                  exact ih ((x.1 - ((x.2.1 4) - (x.2.1 0))), u13) (Option.some.inj hf).symm hQ _ _ hP hD hS _ (lv_sub hl [2, 3, 0] rfl)
              · have hf := oi hf c11
                refine lv_iload_n hx hb dX7_goesOn_103 rfl (lv_at hl 1 rfl) ?_
                refine lv_goto (tgt := 108) hx hb dX7_goesOn_104 (by decide) ?_
                refine lv_iadd hx hb dX7_goesOn_108 ?_
                refine zast (D := g.1) (f := (upd x.2.1 0 ((x.2.1 0) + ((x.2.1 4) - (x.2.1 0))))) (k := 5) (x := (((upd x.2.1 0 ((x.2.1 0) + ((x.2.1 4) - (x.2.1 0)))) 5) + ((x.2.1 4) - (x.2.1 0)))) hx hb hK.1 hP hD hS 1 0 rfl rfl (zin_vp (i := 5) (n := 220) rfl) rfl dX7_goesOn_109 (fun H locs hP hD hS => ?_)
                have hP : va_P g.1 vwCl (zX7 g a ((upd (upd x.2.1 0 ((x.2.1 0) + ((x.2.1 4) - (x.2.1 0)))) 5 (((upd x.2.1 0 ((x.2.1 0) + ((x.2.1 4) - (x.2.1 0)))) 5) + ((x.2.1 4) - (x.2.1 0)))), x.2.2.1, x.2.2.2.1, x.2.2.2.2.1, x.2.2.2.2.2.1, x.2.2.2.2.2.2.1, x.2.2.2.2.2.2.2.1, x.2.2.2.2.2.2.2.2.1, x.2.2.2.2.2.2.2.2.2.1, x.2.2.2.2.2.2.2.2.2.2.1, x.2.2.2.2.2.2.2.2.2.2.2)) H := hP
                have hD : va_D A (zX7 g a ((upd (upd x.2.1 0 ((x.2.1 0) + ((x.2.1 4) - (x.2.1 0)))) 5 (((upd x.2.1 0 ((x.2.1 0) + ((x.2.1 4) - (x.2.1 0)))) 5) + ((x.2.1 4) - (x.2.1 0)))), x.2.2.1, x.2.2.2.1, x.2.2.2.2.1, x.2.2.2.2.2.1, x.2.2.2.2.2.2.1, x.2.2.2.2.2.2.2.1, x.2.2.2.2.2.2.2.2.1, x.2.2.2.2.2.2.2.2.2.1, x.2.2.2.2.2.2.2.2.2.2.1, x.2.2.2.2.2.2.2.2.2.2.2)) := hD
                refine lv_aload_n hx hb dX7_goesOn_110 rfl (lv_at hl 2 rfl) ?_
                refine va_get (D := g.1) (ci := 7) (v := .ref (a 1)) (C := RX7) (T := TX7) (N := 11) hx hb hw0 ziX7 hown hK.1 hP 0 rfl rfl 0 (by decide) (hw0 _ zm4_71) (fun _ h9 => h9) rfl dX7_goesOn_111 ?_
                refine lv_iconst (v := 0) hx hb dX7_goesOn_114 (by decide) ?_
                refine zald (D := g.1) (f := (upd (upd x.2.1 0 ((x.2.1 0) + ((x.2.1 4) - (x.2.1 0)))) 5 (((upd x.2.1 0 ((x.2.1 0) + ((x.2.1 4) - (x.2.1 0)))) 5) + ((x.2.1 4) - (x.2.1 0))))) (k := 0) hx hb hK.1 hP 1 0 rfl rfl (zin_vp (i := 0) (n := 220) rfl) rfl dX7_goesOn_115 ?_
                refine lv_aload_n hx hb dX7_goesOn_116 rfl (lv_at hl 2 rfl) ?_
                refine va_get (D := g.1) (ci := 7) (v := .ref (a 1)) (C := RX7) (T := TX7) (N := 11) hx hb hw0 ziX7 hown hK.1 hP 0 rfl rfl 0 (by decide) (hw0 _ zm4_71) (fun _ h9 => h9) rfl dX7_goesOn_117 ?_
                refine lv_iconst (v := 4) hx hb dX7_goesOn_120 (by decide) ?_
                refine zald (D := g.1) (f := (upd (upd x.2.1 0 ((x.2.1 0) + ((x.2.1 4) - (x.2.1 0)))) 5 (((upd x.2.1 0 ((x.2.1 0) + ((x.2.1 4) - (x.2.1 0)))) 5) + ((x.2.1 4) - (x.2.1 0))))) (k := 4) hx hb hK.1 hP 1 0 rfl rfl (zin_vp (i := 4) (n := 220) rfl) rfl dX7_goesOn_121 ?_
                refine lv_icmp_ne (tgt := 129) hx hb dX7_goesOn_122 (by decide) (fun c14 => ?_) (fun c14 => ?_)
                · have hf := oe hf c14
                  refine lv_goto (tgt := 2) hx hb dX7_goesOn_129 (by decide) ?_
                  exact ih ((x.1 - ((x.2.1 4) - (x.2.1 0))), ((upd (upd x.2.1 0 ((x.2.1 0) + ((x.2.1 4) - (x.2.1 0)))) 5 (((upd x.2.1 0 ((x.2.1 0) + ((x.2.1 4) - (x.2.1 0)))) 5) + ((x.2.1 4) - (x.2.1 0)))), x.2.2.1, x.2.2.2.1, x.2.2.2.2.1, x.2.2.2.2.2.1, x.2.2.2.2.2.2.1, x.2.2.2.2.2.2.2.1, x.2.2.2.2.2.2.2.2.1, x.2.2.2.2.2.2.2.2.2.1, x.2.2.2.2.2.2.2.2.2.2.1, x.2.2.2.2.2.2.2.2.2.2.2)) (Option.some.inj hf).symm hQ _ _ hP hD hS _ (lv_sub hl [2, 3, 0] rfl)
                · have hf := oi hf c14
                  refine lv_aload_n hx hb dX7_goesOn_125 rfl (lv_at hl 2 rfl) ?_
                  obtain ⟨u15, hu15, hf⟩ := ob hf
                  refine zk_vA (va_runV (As := []) (rest := []) ⟨hx, hb, hml, hown, hts⟩ (c_X7_endsOnAir l g a ((upd (upd x.2.1 0 ((x.2.1 0) + ((x.2.1 4) - (x.2.1 0)))) 5 (((upd x.2.1 0 ((x.2.1 0) + ((x.2.1 4) - (x.2.1 0)))) 5) + ((x.2.1 4) - (x.2.1 0)))), x.2.2.1, x.2.2.2.1, x.2.2.2.2.1, x.2.2.2.2.2.1, x.2.2.2.2.2.2.1, x.2.2.2.2.2.2.2.1, x.2.2.2.2.2.2.2.2.1, x.2.2.2.2.2.2.2.2.2.1, x.2.2.2.2.2.2.2.2.2.2.1, x.2.2.2.2.2.2.2.2.2.2.2) _ hu15 _) (zcV hw0 zm4_152 zm4_155 zm1_8 zm4_154 zs5_8 hd_X7_endsOnAir rfl rfl ⟨Nat.le_of_ble_eq_true rfl, Nat.le_of_ble_eq_true rfl⟩) ⟨zblind, zrecvA hK hP (ci := 7) rfl rfl, zpreA hK hP hD⟩ rfl rfl hl.1 rfl (lv_room (Nat.le_of_ble_eq_true rfl)) dX7_goesOn_126 ⟨Nat.zero_le _, Nat.zero_le _⟩) hP hD hS hA (fun H locs hP hD hS => ?_)
                  have hP : va_P g.1 vwCl (zX7 g a u15) H := hP
                  have hD : va_D A (zX7 g a u15) := hD
                  refine lv_goto (tgt := 2) hx hb dX7_goesOn_129 (by decide) ?_
                  exact ih ((x.1 - ((x.2.1 4) - (x.2.1 0))), u15) (Option.some.inj hf).symm hQ _ _ hP hD hS _ (lv_sub hl [2, 3, 0] rfl)
        · have hf := oi hf c3
          refine lv_aload_n hx hb dX7_goesOn_24 rfl (lv_at hl 0 rfl) ?_
          obtain ⟨u16, hu16, hf⟩ := ob hf
          refine zk_vA (va_runV (As := []) (rest := []) ⟨hx, hb, hml, hown, hts⟩ (c_X7_finds l g a x.2 _ hu16 _) (zcV hw0 zm4_184 zm4_187 zm1_8 zm4_186 zs5_14 hd_X7_finds rfl rfl ⟨Nat.le_of_ble_eq_true rfl, Nat.le_of_ble_eq_true rfl⟩) ⟨zblind, zrecvA hK hP (ci := 7) rfl rfl, zpreA hK hP hD⟩ rfl rfl hl.1 rfl (lv_room (Nat.le_of_ble_eq_true rfl)) dX7_goesOn_25 ⟨Nat.zero_le _, Nat.zero_le _⟩) hP hD hS hA (fun H locs hP hD hS => ?_)
          have hP : va_P g.1 vwCl (zX7 g a u16) H := hP
          have hD : va_D A (zX7 g a u16) := hD
          refine lv_aload_n hx hb dX7_goesOn_28 rfl (lv_at hl 0 rfl) ?_
          refine va_get (D := g.1) (ci := 7) (v := .ref (a 1)) (C := RX7) (T := TX7) (N := 11) hx hb hw0 ziX7 hown hK.1 hP 0 rfl rfl 0 (by decide) (hw0 _ zm4_71) (fun _ h9 => h9) rfl dX7_goesOn_29 ?_
          refine lv_iconst (v := 1) hx hb dX7_goesOn_32 (by decide) ?_
          refine zald (D := g.1) (f := u16.1) (k := 1) hx hb hK.1 hP 1 0 rfl rfl (zin_vp (i := 1) (n := 220) rfl) rfl dX7_goesOn_33 ?_
          refine lv_if_ne (tgt := 2) hx hb dX7_goesOn_34 (by decide) (fun c17 => ?_) (fun c17 => ?_)
          · have hf := oe hf c17
            exact ih (x.1, u16) (Option.some.inj hf).symm hQ _ _ hP hD hS _ (lv_sub hl [0, 1, 2] rfl)
          · have hf := oi hf c17
            refine lv_aload_n hx hb dX7_goesOn_37 rfl (lv_at hl 0 rfl) ?_
            refine va_get (D := g.1) (ci := 7) (v := .ref (a 1)) (C := RX7) (T := TX7) (N := 11) hx hb hw0 ziX7 hown hK.1 hP 0 rfl rfl 0 (by decide) (hw0 _ zm4_71) (fun _ h9 => h9) rfl dX7_goesOn_38 ?_
            refine lv_iconst (v := 4) hx hb dX7_goesOn_41 (by decide) ?_
            refine zald (D := g.1) (f := u16.1) (k := 4) hx hb hK.1 hP 1 0 rfl rfl (zin_vp (i := 4) (n := 220) rfl) rfl dX7_goesOn_42 ?_
            refine lv_aload_n hx hb dX7_goesOn_43 rfl (lv_at hl 0 rfl) ?_
            refine va_get (D := g.1) (ci := 7) (v := .ref (a 1)) (C := RX7) (T := TX7) (N := 11) hx hb hw0 ziX7 hown hK.1 hP 0 rfl rfl 0 (by decide) (hw0 _ zm4_71) (fun _ h9 => h9) rfl dX7_goesOn_44 ?_
            refine lv_iconst (v := 0) hx hb dX7_goesOn_47 (by decide) ?_
            refine zald (D := g.1) (f := u16.1) (k := 0) hx hb hK.1 hP 1 0 rfl rfl (zin_vp (i := 0) (n := 220) rfl) rfl dX7_goesOn_48 ?_
            refine lv_isub hx hb dX7_goesOn_49 ?_
            refine lv_iload_n hx hb dX7_goesOn_50 rfl (lv_at hl 2 rfl) ?_
            refine lv_icmp_ge (tgt := 70) hx hb dX7_goesOn_51 (by decide) (fun c18 => ?_) (fun c18 => ?_)
            · have hf := oi hf c18
              refine lv_iload_n hx hb dX7_goesOn_70 rfl (lv_at hl 2 rfl) ?_
              refine lv_istore_n (lv' := [(3, .int x.1), (0, .ref (a 0)), (1, .int i1), (2, .int x.1)]) hx hb dX7_goesOn_71 rfl hl (by decide) rfl (fun ls hl => ?_)
              refine lv_aload_n hx hb dX7_goesOn_72 rfl (lv_at hl 1 rfl) ?_
              refine va_get (D := g.1) (ci := 7) (v := .ref (a 1)) (C := RX7) (T := TX7) (N := 11) hx hb hw0 ziX7 hown hK.1 hP 0 rfl rfl 0 (by decide) (hw0 _ zm4_71) (fun _ h9 => h9) rfl dX7_goesOn_73 ?_
              refine lv_iconst (v := 0) hx hb dX7_goesOn_76 (by decide) ?_
              refine lv_dup2_11 hx hb dX7_goesOn_77 rfl rfl ?_
              refine zald (D := g.1) (f := u16.1) (k := 0) hx hb hK.1 hP 1 0 rfl rfl (zin_vp (i := 0) (n := 220) rfl) rfl dX7_goesOn_78 ?_
              refine lv_iload_n hx hb dX7_goesOn_79 rfl (lv_at hl 0 rfl) ?_
              refine lv_iadd hx hb dX7_goesOn_80 ?_
              refine zast (D := g.1) (f := u16.1) (k := 0) (x := ((u16.1 0) + x.1)) hx hb hK.1 hP hD hS 1 0 rfl rfl (zin_vp (i := 0) (n := 220) rfl) rfl dX7_goesOn_81 (fun H locs hP hD hS => ?_)
              have hP : va_P g.1 vwCl (zX7 g a ((upd u16.1 0 ((u16.1 0) + x.1)), u16.2.1, u16.2.2.1, u16.2.2.2.1, u16.2.2.2.2.1, u16.2.2.2.2.2.1, u16.2.2.2.2.2.2.1, u16.2.2.2.2.2.2.2.1, u16.2.2.2.2.2.2.2.2.1, u16.2.2.2.2.2.2.2.2.2.1, u16.2.2.2.2.2.2.2.2.2.2)) H := hP
              have hD : va_D A (zX7 g a ((upd u16.1 0 ((u16.1 0) + x.1)), u16.2.1, u16.2.2.1, u16.2.2.2.1, u16.2.2.2.2.1, u16.2.2.2.2.2.1, u16.2.2.2.2.2.2.1, u16.2.2.2.2.2.2.2.1, u16.2.2.2.2.2.2.2.2.1, u16.2.2.2.2.2.2.2.2.2.1, u16.2.2.2.2.2.2.2.2.2.2)) := hD
              refine lv_iload_n hx hb dX7_goesOn_82 rfl (lv_at hl 3 rfl) ?_
              refine lv_iload_n hx hb dX7_goesOn_83 rfl (lv_at hl 0 rfl) ?_
              refine lv_isub hx hb dX7_goesOn_84 ?_
              refine lv_istore_n (lv' := [(2, .int (x.1 - x.1)), (3, .int x.1), (0, .ref (a 0)), (1, .int i1)]) hx hb dX7_goesOn_85 rfl hl (by decide) rfl (fun ls hl => ?_)
              refine lv_aload_n hx hb dX7_goesOn_86 rfl (lv_at hl 2 rfl) ?_
              refine va_get (D := g.1) (ci := 7) (v := .ref (a 1)) (C := RX7) (T := TX7) (N := 11) hx hb hw0 ziX7 hown hK.1 hP 0 rfl rfl 0 (by decide) (hw0 _ zm4_71) (fun _ h9 => h9) rfl dX7_goesOn_87 ?_
              refine lv_iconst (v := 5) hx hb dX7_goesOn_90 (by decide) ?_
              refine lv_dup2_11 hx hb dX7_goesOn_91 rfl rfl ?_
              refine zald (D := g.1) (f := (upd u16.1 0 ((u16.1 0) + x.1))) (k := 5) hx hb hK.1 hP 1 0 rfl rfl (zin_vp (i := 5) (n := 220) rfl) rfl dX7_goesOn_92 ?_
              refine lv_aload_n hx hb dX7_goesOn_93 rfl (lv_at hl 2 rfl) ?_
              refine va_get (D := g.1) (ci := 7) (v := .ref (a 1)) (C := RX7) (T := TX7) (N := 11) hx hb hw0 ziX7 hown hK.1 hP 0 rfl rfl 0 (by decide) (hw0 _ zm4_71) (fun _ h9 => h9) rfl dX7_goesOn_94 ?_
              refine lv_iconst (v := 2) hx hb dX7_goesOn_97 (by decide) ?_
              refine zald (D := g.1) (f := (upd u16.1 0 ((u16.1 0) + x.1))) (k := 2) hx hb hK.1 hP 1 0 rfl rfl (zin_vp (i := 2) (n := 220) rfl) rfl dX7_goesOn_98 ?_
              refine lv_iconst (v := 3) hx hb dX7_goesOn_99 (by decide) ?_
              refine lv_icmp_ne (tgt := 107) hx hb dX7_goesOn_100 (by decide) (fun c19 => ?_) (fun c19 => ?_)
              · have hf := oe hf c19
                refine lv_iconst (v := 0) hx hb dX7_goesOn_107 (by decide) ?_
                refine lv_iadd hx hb dX7_goesOn_108 ?_
                refine zast (D := g.1) (f := (upd u16.1 0 ((u16.1 0) + x.1))) (k := 5) (x := (((upd u16.1 0 ((u16.1 0) + x.1)) 5) + 0)) hx hb hK.1 hP hD hS 1 0 rfl rfl (zin_vp (i := 5) (n := 220) rfl) rfl dX7_goesOn_109 (fun H locs hP hD hS => ?_)
                have hP : va_P g.1 vwCl (zX7 g a ((upd (upd u16.1 0 ((u16.1 0) + x.1)) 5 (((upd u16.1 0 ((u16.1 0) + x.1)) 5) + 0)), u16.2.1, u16.2.2.1, u16.2.2.2.1, u16.2.2.2.2.1, u16.2.2.2.2.2.1, u16.2.2.2.2.2.2.1, u16.2.2.2.2.2.2.2.1, u16.2.2.2.2.2.2.2.2.1, u16.2.2.2.2.2.2.2.2.2.1, u16.2.2.2.2.2.2.2.2.2.2)) H := hP
                have hD : va_D A (zX7 g a ((upd (upd u16.1 0 ((u16.1 0) + x.1)) 5 (((upd u16.1 0 ((u16.1 0) + x.1)) 5) + 0)), u16.2.1, u16.2.2.1, u16.2.2.2.1, u16.2.2.2.2.1, u16.2.2.2.2.2.1, u16.2.2.2.2.2.2.1, u16.2.2.2.2.2.2.2.1, u16.2.2.2.2.2.2.2.2.1, u16.2.2.2.2.2.2.2.2.2.1, u16.2.2.2.2.2.2.2.2.2.2)) := hD
                refine lv_aload_n hx hb dX7_goesOn_110 rfl (lv_at hl 2 rfl) ?_
                refine va_get (D := g.1) (ci := 7) (v := .ref (a 1)) (C := RX7) (T := TX7) (N := 11) hx hb hw0 ziX7 hown hK.1 hP 0 rfl rfl 0 (by decide) (hw0 _ zm4_71) (fun _ h9 => h9) rfl dX7_goesOn_111 ?_
                refine lv_iconst (v := 0) hx hb dX7_goesOn_114 (by decide) ?_
                refine zald (D := g.1) (f := (upd (upd u16.1 0 ((u16.1 0) + x.1)) 5 (((upd u16.1 0 ((u16.1 0) + x.1)) 5) + 0))) (k := 0) hx hb hK.1 hP 1 0 rfl rfl (zin_vp (i := 0) (n := 220) rfl) rfl dX7_goesOn_115 ?_
                refine lv_aload_n hx hb dX7_goesOn_116 rfl (lv_at hl 2 rfl) ?_
                refine va_get (D := g.1) (ci := 7) (v := .ref (a 1)) (C := RX7) (T := TX7) (N := 11) hx hb hw0 ziX7 hown hK.1 hP 0 rfl rfl 0 (by decide) (hw0 _ zm4_71) (fun _ h9 => h9) rfl dX7_goesOn_117 ?_
                refine lv_iconst (v := 4) hx hb dX7_goesOn_120 (by decide) ?_
                refine zald (D := g.1) (f := (upd (upd u16.1 0 ((u16.1 0) + x.1)) 5 (((upd u16.1 0 ((u16.1 0) + x.1)) 5) + 0))) (k := 4) hx hb hK.1 hP 1 0 rfl rfl (zin_vp (i := 4) (n := 220) rfl) rfl dX7_goesOn_121 ?_
                refine lv_icmp_ne (tgt := 129) hx hb dX7_goesOn_122 (by decide) (fun c20 => ?_) (fun c20 => ?_)
                · have hf := oe hf c20
                  refine lv_goto (tgt := 2) hx hb dX7_goesOn_129 (by decide) ?_
                  exact ih ((x.1 - x.1), ((upd (upd u16.1 0 ((u16.1 0) + x.1)) 5 (((upd u16.1 0 ((u16.1 0) + x.1)) 5) + 0)), u16.2.1, u16.2.2.1, u16.2.2.2.1, u16.2.2.2.2.1, u16.2.2.2.2.2.1, u16.2.2.2.2.2.2.1, u16.2.2.2.2.2.2.2.1, u16.2.2.2.2.2.2.2.2.1, u16.2.2.2.2.2.2.2.2.2.1, u16.2.2.2.2.2.2.2.2.2.2)) (Option.some.inj hf).symm hQ _ _ hP hD hS _ (lv_sub hl [2, 3, 0] rfl)
                · have hf := oi hf c20
                  refine lv_aload_n hx hb dX7_goesOn_125 rfl (lv_at hl 2 rfl) ?_
                  obtain ⟨u21, hu21, hf⟩ := ob hf
                  refine zk_vA (va_runV (As := []) (rest := []) ⟨hx, hb, hml, hown, hts⟩ (c_X7_endsOnAir l g a ((upd (upd u16.1 0 ((u16.1 0) + x.1)) 5 (((upd u16.1 0 ((u16.1 0) + x.1)) 5) + 0)), u16.2.1, u16.2.2.1, u16.2.2.2.1, u16.2.2.2.2.1, u16.2.2.2.2.2.1, u16.2.2.2.2.2.2.1, u16.2.2.2.2.2.2.2.1, u16.2.2.2.2.2.2.2.2.1, u16.2.2.2.2.2.2.2.2.2.1, u16.2.2.2.2.2.2.2.2.2.2) _ hu21 _) (zcV hw0 zm4_152 zm4_155 zm1_8 zm4_154 zs5_8 hd_X7_endsOnAir rfl rfl ⟨Nat.le_of_ble_eq_true rfl, Nat.le_of_ble_eq_true rfl⟩) ⟨zblind, zrecvA hK hP (ci := 7) rfl rfl, zpreA hK hP hD⟩ rfl rfl hl.1 rfl (lv_room (Nat.le_of_ble_eq_true rfl)) dX7_goesOn_126 ⟨Nat.zero_le _, Nat.zero_le _⟩) hP hD hS hA (fun H locs hP hD hS => ?_)
                  have hP : va_P g.1 vwCl (zX7 g a u21) H := hP
                  have hD : va_D A (zX7 g a u21) := hD
                  refine lv_goto (tgt := 2) hx hb dX7_goesOn_129 (by decide) ?_
                  exact ih ((x.1 - x.1), u21) (Option.some.inj hf).symm hQ _ _ hP hD hS _ (lv_sub hl [2, 3, 0] rfl)
              · have hf := oi hf c19
                refine lv_iload_n hx hb dX7_goesOn_103 rfl (lv_at hl 1 rfl) ?_
                refine lv_goto (tgt := 108) hx hb dX7_goesOn_104 (by decide) ?_
                refine lv_iadd hx hb dX7_goesOn_108 ?_
                refine zast (D := g.1) (f := (upd u16.1 0 ((u16.1 0) + x.1))) (k := 5) (x := (((upd u16.1 0 ((u16.1 0) + x.1)) 5) + x.1)) hx hb hK.1 hP hD hS 1 0 rfl rfl (zin_vp (i := 5) (n := 220) rfl) rfl dX7_goesOn_109 (fun H locs hP hD hS => ?_)
                have hP : va_P g.1 vwCl (zX7 g a ((upd (upd u16.1 0 ((u16.1 0) + x.1)) 5 (((upd u16.1 0 ((u16.1 0) + x.1)) 5) + x.1)), u16.2.1, u16.2.2.1, u16.2.2.2.1, u16.2.2.2.2.1, u16.2.2.2.2.2.1, u16.2.2.2.2.2.2.1, u16.2.2.2.2.2.2.2.1, u16.2.2.2.2.2.2.2.2.1, u16.2.2.2.2.2.2.2.2.2.1, u16.2.2.2.2.2.2.2.2.2.2)) H := hP
                have hD : va_D A (zX7 g a ((upd (upd u16.1 0 ((u16.1 0) + x.1)) 5 (((upd u16.1 0 ((u16.1 0) + x.1)) 5) + x.1)), u16.2.1, u16.2.2.1, u16.2.2.2.1, u16.2.2.2.2.1, u16.2.2.2.2.2.1, u16.2.2.2.2.2.2.1, u16.2.2.2.2.2.2.2.1, u16.2.2.2.2.2.2.2.2.1, u16.2.2.2.2.2.2.2.2.2.1, u16.2.2.2.2.2.2.2.2.2.2)) := hD
                refine lv_aload_n hx hb dX7_goesOn_110 rfl (lv_at hl 2 rfl) ?_
                refine va_get (D := g.1) (ci := 7) (v := .ref (a 1)) (C := RX7) (T := TX7) (N := 11) hx hb hw0 ziX7 hown hK.1 hP 0 rfl rfl 0 (by decide) (hw0 _ zm4_71) (fun _ h9 => h9) rfl dX7_goesOn_111 ?_
                refine lv_iconst (v := 0) hx hb dX7_goesOn_114 (by decide) ?_
                refine zald (D := g.1) (f := (upd (upd u16.1 0 ((u16.1 0) + x.1)) 5 (((upd u16.1 0 ((u16.1 0) + x.1)) 5) + x.1))) (k := 0) hx hb hK.1 hP 1 0 rfl rfl (zin_vp (i := 0) (n := 220) rfl) rfl dX7_goesOn_115 ?_
                refine lv_aload_n hx hb dX7_goesOn_116 rfl (lv_at hl 2 rfl) ?_
                refine va_get (D := g.1) (ci := 7) (v := .ref (a 1)) (C := RX7) (T := TX7) (N := 11) hx hb hw0 ziX7 hown hK.1 hP 0 rfl rfl 0 (by decide) (hw0 _ zm4_71) (fun _ h9 => h9) rfl dX7_goesOn_117 ?_
                refine lv_iconst (v := 4) hx hb dX7_goesOn_120 (by decide) ?_
                refine zald (D := g.1) (f := (upd (upd u16.1 0 ((u16.1 0) + x.1)) 5 (((upd u16.1 0 ((u16.1 0) + x.1)) 5) + x.1))) (k := 4) hx hb hK.1 hP 1 0 rfl rfl (zin_vp (i := 4) (n := 220) rfl) rfl dX7_goesOn_121 ?_
                refine lv_icmp_ne (tgt := 129) hx hb dX7_goesOn_122 (by decide) (fun c22 => ?_) (fun c22 => ?_)
                · have hf := oe hf c22
                  refine lv_goto (tgt := 2) hx hb dX7_goesOn_129 (by decide) ?_
                  exact ih ((x.1 - x.1), ((upd (upd u16.1 0 ((u16.1 0) + x.1)) 5 (((upd u16.1 0 ((u16.1 0) + x.1)) 5) + x.1)), u16.2.1, u16.2.2.1, u16.2.2.2.1, u16.2.2.2.2.1, u16.2.2.2.2.2.1, u16.2.2.2.2.2.2.1, u16.2.2.2.2.2.2.2.1, u16.2.2.2.2.2.2.2.2.1, u16.2.2.2.2.2.2.2.2.2.1, u16.2.2.2.2.2.2.2.2.2.2)) (Option.some.inj hf).symm hQ _ _ hP hD hS _ (lv_sub hl [2, 3, 0] rfl)
                · have hf := oi hf c22
                  refine lv_aload_n hx hb dX7_goesOn_125 rfl (lv_at hl 2 rfl) ?_
                  obtain ⟨u23, hu23, hf⟩ := ob hf
                  refine zk_vA (va_runV (As := []) (rest := []) ⟨hx, hb, hml, hown, hts⟩ (c_X7_endsOnAir l g a ((upd (upd u16.1 0 ((u16.1 0) + x.1)) 5 (((upd u16.1 0 ((u16.1 0) + x.1)) 5) + x.1)), u16.2.1, u16.2.2.1, u16.2.2.2.1, u16.2.2.2.2.1, u16.2.2.2.2.2.1, u16.2.2.2.2.2.2.1, u16.2.2.2.2.2.2.2.1, u16.2.2.2.2.2.2.2.2.1, u16.2.2.2.2.2.2.2.2.2.1, u16.2.2.2.2.2.2.2.2.2.2) _ hu23 _) (zcV hw0 zm4_152 zm4_155 zm1_8 zm4_154 zs5_8 hd_X7_endsOnAir rfl rfl ⟨Nat.le_of_ble_eq_true rfl, Nat.le_of_ble_eq_true rfl⟩) ⟨zblind, zrecvA hK hP (ci := 7) rfl rfl, zpreA hK hP hD⟩ rfl rfl hl.1 rfl (lv_room (Nat.le_of_ble_eq_true rfl)) dX7_goesOn_126 ⟨Nat.zero_le _, Nat.zero_le _⟩) hP hD hS hA (fun H locs hP hD hS => ?_)
                  have hP : va_P g.1 vwCl (zX7 g a u23) H := hP
                  have hD : va_D A (zX7 g a u23) := hD
                  refine lv_goto (tgt := 2) hx hb dX7_goesOn_129 (by decide) ?_
                  exact ih ((x.1 - x.1), u23) (Option.some.inj hf).symm hQ _ _ hP hD hS _ (lv_sub hl [2, 3, 0] rfl)
            · have hf := oe hf c18
              refine lv_aload_n hx hb dX7_goesOn_54 rfl (lv_at hl 0 rfl) ?_
              refine va_get (D := g.1) (ci := 7) (v := .ref (a 1)) (C := RX7) (T := TX7) (N := 11) hx hb hw0 ziX7 hown hK.1 hP 0 rfl rfl 0 (by decide) (hw0 _ zm4_71) (fun _ h9 => h9) rfl dX7_goesOn_55 ?_
              refine lv_iconst (v := 4) hx hb dX7_goesOn_58 (by decide) ?_
              refine zald (D := g.1) (f := u16.1) (k := 4) hx hb hK.1 hP 1 0 rfl rfl (zin_vp (i := 4) (n := 220) rfl) rfl dX7_goesOn_59 ?_
              refine lv_aload_n hx hb dX7_goesOn_60 rfl (lv_at hl 0 rfl) ?_
              refine va_get (D := g.1) (ci := 7) (v := .ref (a 1)) (C := RX7) (T := TX7) (N := 11) hx hb hw0 ziX7 hown hK.1 hP 0 rfl rfl 0 (by decide) (hw0 _ zm4_71) (fun _ h9 => h9) rfl dX7_goesOn_61 ?_
              refine lv_iconst (v := 0) hx hb dX7_goesOn_64 (by decide) ?_
              refine zald (D := g.1) (f := u16.1) (k := 0) hx hb hK.1 hP 1 0 rfl rfl (zin_vp (i := 0) (n := 220) rfl) rfl dX7_goesOn_65 ?_
              refine lv_isub hx hb dX7_goesOn_66 ?_
              refine lv_goto (tgt := 71) hx hb dX7_goesOn_67 (by decide) ?_
              refine lv_istore_n (lv' := [(3, .int ((u16.1 4) - (u16.1 0))), (0, .ref (a 0)), (1, .int i1), (2, .int x.1)]) hx hb dX7_goesOn_71 rfl hl (by decide) rfl (fun ls hl => ?_)
              refine lv_aload_n hx hb dX7_goesOn_72 rfl (lv_at hl 1 rfl) ?_
              refine va_get (D := g.1) (ci := 7) (v := .ref (a 1)) (C := RX7) (T := TX7) (N := 11) hx hb hw0 ziX7 hown hK.1 hP 0 rfl rfl 0 (by decide) (hw0 _ zm4_71) (fun _ h9 => h9) rfl dX7_goesOn_73 ?_
              refine lv_iconst (v := 0) hx hb dX7_goesOn_76 (by decide) ?_
              refine lv_dup2_11 hx hb dX7_goesOn_77 rfl rfl ?_
              refine zald (D := g.1) (f := u16.1) (k := 0) hx hb hK.1 hP 1 0 rfl rfl (zin_vp (i := 0) (n := 220) rfl) rfl dX7_goesOn_78 ?_
              refine lv_iload_n hx hb dX7_goesOn_79 rfl (lv_at hl 0 rfl) ?_
              refine lv_iadd hx hb dX7_goesOn_80 ?_
              refine zast (D := g.1) (f := u16.1) (k := 0) (x := ((u16.1 0) + ((u16.1 4) - (u16.1 0)))) hx hb hK.1 hP hD hS 1 0 rfl rfl (zin_vp (i := 0) (n := 220) rfl) rfl dX7_goesOn_81 (fun H locs hP hD hS => ?_)
              have hP : va_P g.1 vwCl (zX7 g a ((upd u16.1 0 ((u16.1 0) + ((u16.1 4) - (u16.1 0)))), u16.2.1, u16.2.2.1, u16.2.2.2.1, u16.2.2.2.2.1, u16.2.2.2.2.2.1, u16.2.2.2.2.2.2.1, u16.2.2.2.2.2.2.2.1, u16.2.2.2.2.2.2.2.2.1, u16.2.2.2.2.2.2.2.2.2.1, u16.2.2.2.2.2.2.2.2.2.2)) H := hP
              have hD : va_D A (zX7 g a ((upd u16.1 0 ((u16.1 0) + ((u16.1 4) - (u16.1 0)))), u16.2.1, u16.2.2.1, u16.2.2.2.1, u16.2.2.2.2.1, u16.2.2.2.2.2.1, u16.2.2.2.2.2.2.1, u16.2.2.2.2.2.2.2.1, u16.2.2.2.2.2.2.2.2.1, u16.2.2.2.2.2.2.2.2.2.1, u16.2.2.2.2.2.2.2.2.2.2)) := hD
              refine lv_iload_n hx hb dX7_goesOn_82 rfl (lv_at hl 3 rfl) ?_
              refine lv_iload_n hx hb dX7_goesOn_83 rfl (lv_at hl 0 rfl) ?_
              refine lv_isub hx hb dX7_goesOn_84 ?_
              refine lv_istore_n (lv' := [(2, .int (x.1 - ((u16.1 4) - (u16.1 0)))), (3, .int ((u16.1 4) - (u16.1 0))), (0, .ref (a 0)), (1, .int i1)]) hx hb dX7_goesOn_85 rfl hl (by decide) rfl (fun ls hl => ?_)
              refine lv_aload_n hx hb dX7_goesOn_86 rfl (lv_at hl 2 rfl) ?_
              refine va_get (D := g.1) (ci := 7) (v := .ref (a 1)) (C := RX7) (T := TX7) (N := 11) hx hb hw0 ziX7 hown hK.1 hP 0 rfl rfl 0 (by decide) (hw0 _ zm4_71) (fun _ h9 => h9) rfl dX7_goesOn_87 ?_
              refine lv_iconst (v := 5) hx hb dX7_goesOn_90 (by decide) ?_
              refine lv_dup2_11 hx hb dX7_goesOn_91 rfl rfl ?_
              refine zald (D := g.1) (f := (upd u16.1 0 ((u16.1 0) + ((u16.1 4) - (u16.1 0))))) (k := 5) hx hb hK.1 hP 1 0 rfl rfl (zin_vp (i := 5) (n := 220) rfl) rfl dX7_goesOn_92 ?_
              refine lv_aload_n hx hb dX7_goesOn_93 rfl (lv_at hl 2 rfl) ?_
              refine va_get (D := g.1) (ci := 7) (v := .ref (a 1)) (C := RX7) (T := TX7) (N := 11) hx hb hw0 ziX7 hown hK.1 hP 0 rfl rfl 0 (by decide) (hw0 _ zm4_71) (fun _ h9 => h9) rfl dX7_goesOn_94 ?_
              refine lv_iconst (v := 2) hx hb dX7_goesOn_97 (by decide) ?_
              refine zald (D := g.1) (f := (upd u16.1 0 ((u16.1 0) + ((u16.1 4) - (u16.1 0))))) (k := 2) hx hb hK.1 hP 1 0 rfl rfl (zin_vp (i := 2) (n := 220) rfl) rfl dX7_goesOn_98 ?_
              refine lv_iconst (v := 3) hx hb dX7_goesOn_99 (by decide) ?_
              refine lv_icmp_ne (tgt := 107) hx hb dX7_goesOn_100 (by decide) (fun c24 => ?_) (fun c24 => ?_)
              · have hf := oe hf c24
                refine lv_iconst (v := 0) hx hb dX7_goesOn_107 (by decide) ?_
                refine lv_iadd hx hb dX7_goesOn_108 ?_
                refine zast (D := g.1) (f := (upd u16.1 0 ((u16.1 0) + ((u16.1 4) - (u16.1 0))))) (k := 5) (x := (((upd u16.1 0 ((u16.1 0) + ((u16.1 4) - (u16.1 0)))) 5) + 0)) hx hb hK.1 hP hD hS 1 0 rfl rfl (zin_vp (i := 5) (n := 220) rfl) rfl dX7_goesOn_109 (fun H locs hP hD hS => ?_)
                have hP : va_P g.1 vwCl (zX7 g a ((upd (upd u16.1 0 ((u16.1 0) + ((u16.1 4) - (u16.1 0)))) 5 (((upd u16.1 0 ((u16.1 0) + ((u16.1 4) - (u16.1 0)))) 5) + 0)), u16.2.1, u16.2.2.1, u16.2.2.2.1, u16.2.2.2.2.1, u16.2.2.2.2.2.1, u16.2.2.2.2.2.2.1, u16.2.2.2.2.2.2.2.1, u16.2.2.2.2.2.2.2.2.1, u16.2.2.2.2.2.2.2.2.2.1, u16.2.2.2.2.2.2.2.2.2.2)) H := hP
                have hD : va_D A (zX7 g a ((upd (upd u16.1 0 ((u16.1 0) + ((u16.1 4) - (u16.1 0)))) 5 (((upd u16.1 0 ((u16.1 0) + ((u16.1 4) - (u16.1 0)))) 5) + 0)), u16.2.1, u16.2.2.1, u16.2.2.2.1, u16.2.2.2.2.1, u16.2.2.2.2.2.1, u16.2.2.2.2.2.2.1, u16.2.2.2.2.2.2.2.1, u16.2.2.2.2.2.2.2.2.1, u16.2.2.2.2.2.2.2.2.2.1, u16.2.2.2.2.2.2.2.2.2.2)) := hD
                refine lv_aload_n hx hb dX7_goesOn_110 rfl (lv_at hl 2 rfl) ?_
                refine va_get (D := g.1) (ci := 7) (v := .ref (a 1)) (C := RX7) (T := TX7) (N := 11) hx hb hw0 ziX7 hown hK.1 hP 0 rfl rfl 0 (by decide) (hw0 _ zm4_71) (fun _ h9 => h9) rfl dX7_goesOn_111 ?_
                refine lv_iconst (v := 0) hx hb dX7_goesOn_114 (by decide) ?_
                refine zald (D := g.1) (f := (upd (upd u16.1 0 ((u16.1 0) + ((u16.1 4) - (u16.1 0)))) 5 (((upd u16.1 0 ((u16.1 0) + ((u16.1 4) - (u16.1 0)))) 5) + 0))) (k := 0) hx hb hK.1 hP 1 0 rfl rfl (zin_vp (i := 0) (n := 220) rfl) rfl dX7_goesOn_115 ?_
                refine lv_aload_n hx hb dX7_goesOn_116 rfl (lv_at hl 2 rfl) ?_
                refine va_get (D := g.1) (ci := 7) (v := .ref (a 1)) (C := RX7) (T := TX7) (N := 11) hx hb hw0 ziX7 hown hK.1 hP 0 rfl rfl 0 (by decide) (hw0 _ zm4_71) (fun _ h9 => h9) rfl dX7_goesOn_117 ?_
                refine lv_iconst (v := 4) hx hb dX7_goesOn_120 (by decide) ?_
                refine zald (D := g.1) (f := (upd (upd u16.1 0 ((u16.1 0) + ((u16.1 4) - (u16.1 0)))) 5 (((upd u16.1 0 ((u16.1 0) + ((u16.1 4) - (u16.1 0)))) 5) + 0))) (k := 4) hx hb hK.1 hP 1 0 rfl rfl (zin_vp (i := 4) (n := 220) rfl) rfl dX7_goesOn_121 ?_
                refine lv_icmp_ne (tgt := 129) hx hb dX7_goesOn_122 (by decide) (fun c25 => ?_) (fun c25 => ?_)
                · have hf := oe hf c25
                  refine lv_goto (tgt := 2) hx hb dX7_goesOn_129 (by decide) ?_
                  exact ih ((x.1 - ((u16.1 4) - (u16.1 0))), ((upd (upd u16.1 0 ((u16.1 0) + ((u16.1 4) - (u16.1 0)))) 5 (((upd u16.1 0 ((u16.1 0) + ((u16.1 4) - (u16.1 0)))) 5) + 0)), u16.2.1, u16.2.2.1, u16.2.2.2.1, u16.2.2.2.2.1, u16.2.2.2.2.2.1, u16.2.2.2.2.2.2.1, u16.2.2.2.2.2.2.2.1, u16.2.2.2.2.2.2.2.2.1, u16.2.2.2.2.2.2.2.2.2.1, u16.2.2.2.2.2.2.2.2.2.2)) (Option.some.inj hf).symm hQ _ _ hP hD hS _ (lv_sub hl [2, 3, 0] rfl)
                · have hf := oi hf c25
                  refine lv_aload_n hx hb dX7_goesOn_125 rfl (lv_at hl 2 rfl) ?_
                  obtain ⟨u26, hu26, hf⟩ := ob hf
                  refine zk_vA (va_runV (As := []) (rest := []) ⟨hx, hb, hml, hown, hts⟩ (c_X7_endsOnAir l g a ((upd (upd u16.1 0 ((u16.1 0) + ((u16.1 4) - (u16.1 0)))) 5 (((upd u16.1 0 ((u16.1 0) + ((u16.1 4) - (u16.1 0)))) 5) + 0)), u16.2.1, u16.2.2.1, u16.2.2.2.1, u16.2.2.2.2.1, u16.2.2.2.2.2.1, u16.2.2.2.2.2.2.1, u16.2.2.2.2.2.2.2.1, u16.2.2.2.2.2.2.2.2.1, u16.2.2.2.2.2.2.2.2.2.1, u16.2.2.2.2.2.2.2.2.2.2) _ hu26 _) (zcV hw0 zm4_152 zm4_155 zm1_8 zm4_154 zs5_8 hd_X7_endsOnAir rfl rfl ⟨Nat.le_of_ble_eq_true rfl, Nat.le_of_ble_eq_true rfl⟩) ⟨zblind, zrecvA hK hP (ci := 7) rfl rfl, zpreA hK hP hD⟩ rfl rfl hl.1 rfl (lv_room (Nat.le_of_ble_eq_true rfl)) dX7_goesOn_126 ⟨Nat.zero_le _, Nat.zero_le _⟩) hP hD hS hA (fun H locs hP hD hS => ?_)
                  have hP : va_P g.1 vwCl (zX7 g a u26) H := hP
                  have hD : va_D A (zX7 g a u26) := hD
                  refine lv_goto (tgt := 2) hx hb dX7_goesOn_129 (by decide) ?_
                  exact ih ((x.1 - ((u16.1 4) - (u16.1 0))), u26) (Option.some.inj hf).symm hQ _ _ hP hD hS _ (lv_sub hl [2, 3, 0] rfl)
              · have hf := oi hf c24
                refine lv_iload_n hx hb dX7_goesOn_103 rfl (lv_at hl 1 rfl) ?_
                refine lv_goto (tgt := 108) hx hb dX7_goesOn_104 (by decide) ?_
                refine lv_iadd hx hb dX7_goesOn_108 ?_
                refine zast (D := g.1) (f := (upd u16.1 0 ((u16.1 0) + ((u16.1 4) - (u16.1 0))))) (k := 5) (x := (((upd u16.1 0 ((u16.1 0) + ((u16.1 4) - (u16.1 0)))) 5) + ((u16.1 4) - (u16.1 0)))) hx hb hK.1 hP hD hS 1 0 rfl rfl (zin_vp (i := 5) (n := 220) rfl) rfl dX7_goesOn_109 (fun H locs hP hD hS => ?_)
                have hP : va_P g.1 vwCl (zX7 g a ((upd (upd u16.1 0 ((u16.1 0) + ((u16.1 4) - (u16.1 0)))) 5 (((upd u16.1 0 ((u16.1 0) + ((u16.1 4) - (u16.1 0)))) 5) + ((u16.1 4) - (u16.1 0)))), u16.2.1, u16.2.2.1, u16.2.2.2.1, u16.2.2.2.2.1, u16.2.2.2.2.2.1, u16.2.2.2.2.2.2.1, u16.2.2.2.2.2.2.2.1, u16.2.2.2.2.2.2.2.2.1, u16.2.2.2.2.2.2.2.2.2.1, u16.2.2.2.2.2.2.2.2.2.2)) H := hP
                have hD : va_D A (zX7 g a ((upd (upd u16.1 0 ((u16.1 0) + ((u16.1 4) - (u16.1 0)))) 5 (((upd u16.1 0 ((u16.1 0) + ((u16.1 4) - (u16.1 0)))) 5) + ((u16.1 4) - (u16.1 0)))), u16.2.1, u16.2.2.1, u16.2.2.2.1, u16.2.2.2.2.1, u16.2.2.2.2.2.1, u16.2.2.2.2.2.2.1, u16.2.2.2.2.2.2.2.1, u16.2.2.2.2.2.2.2.2.1, u16.2.2.2.2.2.2.2.2.2.1, u16.2.2.2.2.2.2.2.2.2.2)) := hD
                refine lv_aload_n hx hb dX7_goesOn_110 rfl (lv_at hl 2 rfl) ?_
                refine va_get (D := g.1) (ci := 7) (v := .ref (a 1)) (C := RX7) (T := TX7) (N := 11) hx hb hw0 ziX7 hown hK.1 hP 0 rfl rfl 0 (by decide) (hw0 _ zm4_71) (fun _ h9 => h9) rfl dX7_goesOn_111 ?_
                refine lv_iconst (v := 0) hx hb dX7_goesOn_114 (by decide) ?_
                refine zald (D := g.1) (f := (upd (upd u16.1 0 ((u16.1 0) + ((u16.1 4) - (u16.1 0)))) 5 (((upd u16.1 0 ((u16.1 0) + ((u16.1 4) - (u16.1 0)))) 5) + ((u16.1 4) - (u16.1 0))))) (k := 0) hx hb hK.1 hP 1 0 rfl rfl (zin_vp (i := 0) (n := 220) rfl) rfl dX7_goesOn_115 ?_
                refine lv_aload_n hx hb dX7_goesOn_116 rfl (lv_at hl 2 rfl) ?_
                refine va_get (D := g.1) (ci := 7) (v := .ref (a 1)) (C := RX7) (T := TX7) (N := 11) hx hb hw0 ziX7 hown hK.1 hP 0 rfl rfl 0 (by decide) (hw0 _ zm4_71) (fun _ h9 => h9) rfl dX7_goesOn_117 ?_
                refine lv_iconst (v := 4) hx hb dX7_goesOn_120 (by decide) ?_
                refine zald (D := g.1) (f := (upd (upd u16.1 0 ((u16.1 0) + ((u16.1 4) - (u16.1 0)))) 5 (((upd u16.1 0 ((u16.1 0) + ((u16.1 4) - (u16.1 0)))) 5) + ((u16.1 4) - (u16.1 0))))) (k := 4) hx hb hK.1 hP 1 0 rfl rfl (zin_vp (i := 4) (n := 220) rfl) rfl dX7_goesOn_121 ?_
                refine lv_icmp_ne (tgt := 129) hx hb dX7_goesOn_122 (by decide) (fun c27 => ?_) (fun c27 => ?_)
                · have hf := oe hf c27
                  refine lv_goto (tgt := 2) hx hb dX7_goesOn_129 (by decide) ?_
                  exact ih ((x.1 - ((u16.1 4) - (u16.1 0))), ((upd (upd u16.1 0 ((u16.1 0) + ((u16.1 4) - (u16.1 0)))) 5 (((upd u16.1 0 ((u16.1 0) + ((u16.1 4) - (u16.1 0)))) 5) + ((u16.1 4) - (u16.1 0)))), u16.2.1, u16.2.2.1, u16.2.2.2.1, u16.2.2.2.2.1, u16.2.2.2.2.2.1, u16.2.2.2.2.2.2.1, u16.2.2.2.2.2.2.2.1, u16.2.2.2.2.2.2.2.2.1, u16.2.2.2.2.2.2.2.2.2.1, u16.2.2.2.2.2.2.2.2.2.2)) (Option.some.inj hf).symm hQ _ _ hP hD hS _ (lv_sub hl [2, 3, 0] rfl)
                · have hf := oi hf c27
                  refine lv_aload_n hx hb dX7_goesOn_125 rfl (lv_at hl 2 rfl) ?_
                  obtain ⟨u28, hu28, hf⟩ := ob hf
                  refine zk_vA (va_runV (As := []) (rest := []) ⟨hx, hb, hml, hown, hts⟩ (c_X7_endsOnAir l g a ((upd (upd u16.1 0 ((u16.1 0) + ((u16.1 4) - (u16.1 0)))) 5 (((upd u16.1 0 ((u16.1 0) + ((u16.1 4) - (u16.1 0)))) 5) + ((u16.1 4) - (u16.1 0)))), u16.2.1, u16.2.2.1, u16.2.2.2.1, u16.2.2.2.2.1, u16.2.2.2.2.2.1, u16.2.2.2.2.2.2.1, u16.2.2.2.2.2.2.2.1, u16.2.2.2.2.2.2.2.2.1, u16.2.2.2.2.2.2.2.2.2.1, u16.2.2.2.2.2.2.2.2.2.2) _ hu28 _) (zcV hw0 zm4_152 zm4_155 zm1_8 zm4_154 zs5_8 hd_X7_endsOnAir rfl rfl ⟨Nat.le_of_ble_eq_true rfl, Nat.le_of_ble_eq_true rfl⟩) ⟨zblind, zrecvA hK hP (ci := 7) rfl rfl, zpreA hK hP hD⟩ rfl rfl hl.1 rfl (lv_room (Nat.le_of_ble_eq_true rfl)) dX7_goesOn_126 ⟨Nat.zero_le _, Nat.zero_le _⟩) hP hD hS hA (fun H locs hP hD hS => ?_)
                  have hP : va_P g.1 vwCl (zX7 g a u28) H := hP
                  have hD : va_D A (zX7 g a u28) := hD
                  refine lv_goto (tgt := 2) hx hb dX7_goesOn_129 (by decide) ?_
                  exact ih ((x.1 - ((u16.1 4) - (u16.1 0))), u28) (Option.some.inj hf).symm hQ _ _ hP hD hS _ (lv_sub hl [2, 3, 0] rfl)
  unfold f_X7_goesOn at hf
  have hl := lv_entry ([.ref (a 0), .int p0]) (n := 4) (Nat.le_of_ble_eq_true rfl)
  rw [lg_entry_eq]
  generalize (lg_sl ([.ref (a 0), .int p0]) ++ List.replicate (4 - (lg_sl ([.ref (a 0), .int p0])).length) Slot.unset).toArray = ls at hl ⊢
  have hl : lv_has ls 4 [(0, .ref (a 0)), (1, .int p0)] := hl
  refine lv_iload_n hx hb dX7_goesOn_0 rfl (lv_at hl 1 rfl) ?_
  refine lv_istore_n (lv' := [(2, .int p0), (0, .ref (a 0)), (1, .int p0)]) hx hb dX7_goesOn_1 rfl hl (by decide) rfl (fun ls hl => ?_)
  obtain ⟨u29, hu29, hf⟩ := ob hf
  refine lp2 v p0 _ _ u29 hu29 (fun H locs hP hD hS ls hl => ?_) _ _ hP hD hS _ (lv_sub hl [1, 2, 0] rfl)
  have hl : lv_has ls 4 [(1, .int p0), (2, .int u29.1)] := hl
  have hP : va_P g.1 vwCl (zX7 g a u29.2) H := hP
  have hD : va_D A (zX7 g a u29.2) := hD
  refine lv_iload_n hx hb dX7_goesOn_132 rfl (lv_at hl 0 rfl) ?_
  refine lv_iload_n hx hb dX7_goesOn_133 rfl (lv_at hl 1 rfl) ?_
  refine lv_isub hx hb dX7_goesOn_134 ?_
  have hR : ((p0 - u29.1), u29.2) = r := Option.some.inj hf
  subst hR
  exact W.iret (v := (p0 - u29.1)) hx hb hr0 (fun t ht hW => ⟨⟨(p0 - u29.1), (), rfl, rfl, by rw [ht]; exact hP, hD⟩, hS.F ht⟩) hS.2.2 dX7_goesOn_135
theorem hd_X7_foresees : yX7_foresees.cls ≠ "java/lang/invoke/MethodHandle" ∧ yX7_foresees.cls ≠ "java/lang/invoke/VarHandle" ∧ (parseMethodDescriptor yX7_foresees.desc).map (fun d => d.parameters.length) = some 0 := by decide +kernel
def f_X7_foresees (v : MV) : Option (MV) :=
  (f_X7_copies v.1 v.2.2.1).bind (fun u1 =>
  (f_X7_goesOn (v.1, v.2.1, u1, v.2.2.2.1, v.2.2.2.2.1, v.2.2.2.2.2.1, v.2.2.2.2.2.2.1, v.2.2.2.2.2.2.2.1, v.2.2.2.2.2.2.2.2.1, v.2.2.2.2.2.2.2.2.2.1, v.2.2.2.2.2.2.2.2.2.2) 100000000).bind (fun u2 =>
  (f_X7_copies u2.2.1 u2.2.2.2.2.1).bind (fun u3 =>
  (f_X7_copies u2.2.2.2.1 u2.2.1).bind (fun u4 =>
  some (u4, u2.2.2.1, u2.2.2.2.1, u3, u2.2.2.2.2.2.1, u2.2.2.2.2.2.2.1, u2.2.2.2.2.2.2.2.1, u2.2.2.2.2.2.2.2.2.1, u2.2.2.2.2.2.2.2.2.2.1, u2.2.2.2.2.2.2.2.2.2.2.1, u2.2.2.2.2.2.2.2.2.2.2.2)))))
set_option maxHeartbeats 4000000 in
set_option maxRecDepth 100000 in
theorem c_X7_foresees (l : Launch) (g : zG) (a : Nat → Nat) (v : MV) (r : MV) (hf : f_X7_foresees v = some r) : zMv zNF zNM l yX7_foresees (zw yX7_foresees cX7_foresees 2 none) ({ frames := 5, cells := 0, slots := 0, locals := 120 } : Room) g [.ref (a 0)] (zX7 g a v) (zX7 g a r) := by
  intro sz
  refine Met.ofW (cc := cX7_foresees) (maxL := 2) (ret := none) (by decide) rfl ?_
  intro p e s m args below meth c s₁ B hml hv
  obtain ⟨rfl, hsz, hP, hK, hD0⟩ := hv
  have hx := B.exec
  have hb := B.bytes
  have hr0 := B.returns
  have hts := atoms_spec (ws := (zw yX7_foresees cX7_foresees 2 none)) B.pre
  have hw0 : ∀ w ∈ zW, w.before ([.ref (a 0)] : List Value).toArray s = true := fun w h => hts w (List.mem_cons_of_mem _ h)
  have hown : s.vm.findClass RX7 = some m.cls := findClass_of_methodNamed B.named
  have hlocks := B.notSynchronized
  subst hsz
  have hD := hD0.self (sz := s.heap.size)
  generalize hAe : va_A (zX7 g a v) s.heap.size = A at hD ⊢
  have hA : ∀ q : Nat, s.heap.size ≤ q → A q := fun q h => by rw [← hAe]; exact Or.inr h
  have hS : va_S A s.heap s.heap [] := va_S.rf
  unfold f_X7_foresees at hf
  have hl := lv_entry ([.ref (a 0)]) (n := 2) (Nat.le_of_ble_eq_true rfl)
  rw [lg_entry_eq]
  generalize (lg_sl ([.ref (a 0)]) ++ List.replicate (2 - (lg_sl ([.ref (a 0)])).length) Slot.unset).toArray = ls at hl ⊢
  have hl : lv_has ls 2 [(0, .ref (a 0))] := hl
  refine lv_aload_n hx hb dX7_foresees_0 rfl (lv_at hl 0 rfl) ?_
  refine va_get (D := g.1) (ci := 7) (v := .ref (a 1)) (C := RX7) (T := TX7) (N := 11) hx hb hw0 ziX7 hown hK.1 hP 0 rfl rfl 0 (by decide) (hw0 _ zm4_71) (fun _ h9 => h9) rfl dX7_foresees_1 ?_
  refine lv_aload_n hx hb dX7_foresees_4 rfl (lv_at hl 0 rfl) ?_
  refine va_get (D := g.1) (ci := 7) (v := .ref (a 3)) (C := RX7) (T := TX7) (N := 11) hx hb hw0 ziX7 hown hK.1 hP 0 rfl rfl 2 (by decide) (hw0 _ zm4_73) (fun _ h9 => h9) rfl dX7_foresees_5 ?_
  obtain ⟨u1, hu1, hf⟩ := ob hf
  refine zk_v (va_runS (As := [.ref (a 1), .ref (a 3)]) (rest := []) ⟨hx, hb, hml, hown, hts⟩ (c_X7_copies l g (a 1) (a 3) v.1 v.2.2.1 _ hu1 _) (zcS hw0 zm5_83 zm5_85 zm1_8 zm5_84 hd_X7_copies rfl rfl ⟨Nat.le_of_ble_eq_true rfl, Nat.le_of_ble_eq_true rfl⟩) ⟨zblind, zpre hK hP hD [1, 3] rfl rfl⟩ rfl rfl hl.1 rfl (lv_room (Nat.le_of_ble_eq_true rfl)) dX7_foresees_8 ⟨Nat.zero_le _, Nat.zero_le _⟩) hP hD hS hA [1, 3] rfl rfl (fun H locs hP hD hS => ?_)
  have hP : va_P g.1 vwCl (zX7 g a (v.1, v.2.1, u1, v.2.2.2.1, v.2.2.2.2.1, v.2.2.2.2.2.1, v.2.2.2.2.2.2.1, v.2.2.2.2.2.2.2.1, v.2.2.2.2.2.2.2.2.1, v.2.2.2.2.2.2.2.2.2.1, v.2.2.2.2.2.2.2.2.2.2)) H := hP
  have hD : va_D A (zX7 g a (v.1, v.2.1, u1, v.2.2.2.1, v.2.2.2.2.1, v.2.2.2.2.2.1, v.2.2.2.2.2.2.1, v.2.2.2.2.2.2.2.1, v.2.2.2.2.2.2.2.2.1, v.2.2.2.2.2.2.2.2.2.1, v.2.2.2.2.2.2.2.2.2.2)) := hD
  refine lv_aload_n hx hb dX7_foresees_11 rfl (lv_at hl 0 rfl) ?_
  refine lv_ldc (v := 100000000) hx hb hown (hw0 _ zm5_10) dX7_foresees_12 ?_
  obtain ⟨u2, hu2, hf⟩ := ob hf
  refine zk_iA (va_runV (As := [.int 100000000]) (rest := []) ⟨hx, hb, hml, hown, hts⟩ (c_X7_goesOn l g a (v.1, v.2.1, u1, v.2.2.2.1, v.2.2.2.2.1, v.2.2.2.2.2.1, v.2.2.2.2.2.2.1, v.2.2.2.2.2.2.2.1, v.2.2.2.2.2.2.2.2.1, v.2.2.2.2.2.2.2.2.2.1, v.2.2.2.2.2.2.2.2.2.2) 100000000 _ hu2 _) (zcV hw0 zm4_180 zm4_183 zm1_8 zm4_182 zs5_13 hd_X7_goesOn rfl rfl ⟨Nat.le_of_ble_eq_true rfl, Nat.le_of_ble_eq_true rfl⟩) ⟨zblind, zrecvA hK hP (ci := 7) rfl rfl, zpreA hK hP hD⟩ rfl rfl hl.1 rfl (lv_room (Nat.le_of_ble_eq_true rfl)) dX7_foresees_14 ⟨Nat.zero_le _, Nat.zero_le _⟩) hP hD hS hA (fun H locs hP hD hS => ?_)
  have hP : va_P g.1 vwCl (zX7 g a u2.2) H := hP
  have hD : va_D A (zX7 g a u2.2) := hD
  refine lv_istore_n (lv' := [(1, .int u2.1), (0, .ref (a 0))]) hx hb dX7_foresees_17 rfl hl (by decide) rfl (fun ls hl => ?_)
  refine lv_aload_n hx hb dX7_foresees_18 rfl (lv_at hl 1 rfl) ?_
  refine va_get (D := g.1) (ci := 7) (v := .ref (a 1)) (C := RX7) (T := TX7) (N := 11) hx hb hw0 ziX7 hown hK.1 hP 0 rfl rfl 0 (by decide) (hw0 _ zm4_71) (fun _ h9 => h9) rfl dX7_foresees_19 ?_
  refine lv_aload_n hx hb dX7_foresees_22 rfl (lv_at hl 1 rfl) ?_
  refine va_get (D := g.1) (ci := 7) (v := .ref (a 4)) (C := RX7) (T := TX7) (N := 11) hx hb hw0 ziX7 hown hK.1 hP 0 rfl rfl 3 (by decide) (hw0 _ zm4_74) (fun _ h9 => h9) rfl dX7_foresees_23 ?_
  obtain ⟨u3, hu3, hf⟩ := ob hf
  refine zk_v (va_runS (As := [.ref (a 1), .ref (a 4)]) (rest := []) ⟨hx, hb, hml, hown, hts⟩ (c_X7_copies l g (a 1) (a 4) u2.2.1 u2.2.2.2.2.1 _ hu3 _) (zcS hw0 zm5_83 zm5_85 zm1_8 zm5_84 hd_X7_copies rfl rfl ⟨Nat.le_of_ble_eq_true rfl, Nat.le_of_ble_eq_true rfl⟩) ⟨zblind, zpre hK hP hD [1, 4] rfl rfl⟩ rfl rfl hl.1 rfl (lv_room (Nat.le_of_ble_eq_true rfl)) dX7_foresees_26 ⟨Nat.zero_le _, Nat.zero_le _⟩) hP hD hS hA [1, 4] rfl rfl (fun H locs hP hD hS => ?_)
  have hP : va_P g.1 vwCl (zX7 g a (u2.2.1, u2.2.2.1, u2.2.2.2.1, u3, u2.2.2.2.2.2.1, u2.2.2.2.2.2.2.1, u2.2.2.2.2.2.2.2.1, u2.2.2.2.2.2.2.2.2.1, u2.2.2.2.2.2.2.2.2.2.1, u2.2.2.2.2.2.2.2.2.2.2.1, u2.2.2.2.2.2.2.2.2.2.2.2)) H := hP
  have hD : va_D A (zX7 g a (u2.2.1, u2.2.2.1, u2.2.2.2.1, u3, u2.2.2.2.2.2.1, u2.2.2.2.2.2.2.1, u2.2.2.2.2.2.2.2.1, u2.2.2.2.2.2.2.2.2.1, u2.2.2.2.2.2.2.2.2.2.1, u2.2.2.2.2.2.2.2.2.2.2.1, u2.2.2.2.2.2.2.2.2.2.2.2)) := hD
  refine lv_aload_n hx hb dX7_foresees_29 rfl (lv_at hl 1 rfl) ?_
  refine va_get (D := g.1) (ci := 7) (v := .ref (a 3)) (C := RX7) (T := TX7) (N := 11) hx hb hw0 ziX7 hown hK.1 hP 0 rfl rfl 2 (by decide) (hw0 _ zm4_73) (fun _ h9 => h9) rfl dX7_foresees_30 ?_
  refine lv_aload_n hx hb dX7_foresees_33 rfl (lv_at hl 1 rfl) ?_
  refine va_get (D := g.1) (ci := 7) (v := .ref (a 1)) (C := RX7) (T := TX7) (N := 11) hx hb hw0 ziX7 hown hK.1 hP 0 rfl rfl 0 (by decide) (hw0 _ zm4_71) (fun _ h9 => h9) rfl dX7_foresees_34 ?_
  obtain ⟨u4, hu4, hf⟩ := ob hf
  refine zk_v (va_runS (As := [.ref (a 3), .ref (a 1)]) (rest := []) ⟨hx, hb, hml, hown, hts⟩ (c_X7_copies l g (a 3) (a 1) u2.2.2.2.1 u2.2.1 _ hu4 _) (zcS hw0 zm5_83 zm5_85 zm1_8 zm5_84 hd_X7_copies rfl rfl ⟨Nat.le_of_ble_eq_true rfl, Nat.le_of_ble_eq_true rfl⟩) ⟨zblind, zpre hK hP hD [3, 1] rfl rfl⟩ rfl rfl hl.1 rfl (lv_room (Nat.le_of_ble_eq_true rfl)) dX7_foresees_37 ⟨Nat.zero_le _, Nat.zero_le _⟩) hP hD hS hA [3, 1] rfl rfl (fun H locs hP hD hS => ?_)
  have hP : va_P g.1 vwCl (zX7 g a (u4, u2.2.2.1, u2.2.2.2.1, u3, u2.2.2.2.2.2.1, u2.2.2.2.2.2.2.1, u2.2.2.2.2.2.2.2.1, u2.2.2.2.2.2.2.2.2.1, u2.2.2.2.2.2.2.2.2.2.1, u2.2.2.2.2.2.2.2.2.2.2.1, u2.2.2.2.2.2.2.2.2.2.2.2)) H := hP
  have hD : va_D A (zX7 g a (u4, u2.2.2.1, u2.2.2.2.1, u3, u2.2.2.2.2.2.1, u2.2.2.2.2.2.2.1, u2.2.2.2.2.2.2.2.1, u2.2.2.2.2.2.2.2.2.1, u2.2.2.2.2.2.2.2.2.2.1, u2.2.2.2.2.2.2.2.2.2.2.1, u2.2.2.2.2.2.2.2.2.2.2.2)) := hD
  have hR : (u4, u2.2.2.1, u2.2.2.2.1, u3, u2.2.2.2.2.2.1, u2.2.2.2.2.2.2.1, u2.2.2.2.2.2.2.2.1, u2.2.2.2.2.2.2.2.2.1, u2.2.2.2.2.2.2.2.2.2.1, u2.2.2.2.2.2.2.2.2.2.2.1, u2.2.2.2.2.2.2.2.2.2.2.2) = r := Option.some.inj hf
  subst hR
  exact W.vret hx hb hr0 (fun t ht hW => ⟨⟨(), rfl, trivial, by rw [ht]; exact hP, hD⟩, hS.F ht⟩) hS.2.2 dX7_foresees_40
theorem hd_X7_putElement : yX7_putElement.cls ≠ "java/lang/invoke/MethodHandle" ∧ yX7_putElement.cls ≠ "java/lang/invoke/VarHandle" ∧ (parseMethodDescriptor yX7_putElement.desc).map (fun d => d.parameters.length) = some 3 := by decide +kernel
def f_X7_putElement (v : MV) (p0 : Int32) (p1 : Int32) (p2 : Int32) : Option (MV) :=
  if zin ((10 + (5 * (v.1 7))) + 0) 220 = true then
  if zin ((10 + (5 * (v.1 7))) + 1) 220 = true then
  if zin ((10 + (5 * (v.1 7))) + 2) 220 = true then
  if zin ((10 + (5 * (v.1 7))) + 3) 220 = true then
  if zin ((10 + (5 * (v.1 7))) + 4) 220 = true then
  some ((upd (upd (upd (upd (upd (upd v.1 (((10 + (5 * (v.1 7))) + 0).toNatClampNeg) p0) (((10 + (5 * (v.1 7))) + 1).toNatClampNeg) p1) (((10 + (5 * (v.1 7))) + 2).toNatClampNeg) p2) (((10 + (5 * (v.1 7))) + 3).toNatClampNeg) 0) (((10 + (5 * (v.1 7))) + 4).toNatClampNeg) (-1)) 7 (((upd (upd (upd (upd (upd v.1 (((10 + (5 * (v.1 7))) + 0).toNatClampNeg) p0) (((10 + (5 * (v.1 7))) + 1).toNatClampNeg) p1) (((10 + (5 * (v.1 7))) + 2).toNatClampNeg) p2) (((10 + (5 * (v.1 7))) + 3).toNatClampNeg) 0) (((10 + (5 * (v.1 7))) + 4).toNatClampNeg) (-1)) 7) + 1)), v.2.1, v.2.2.1, v.2.2.2.1, v.2.2.2.2.1, v.2.2.2.2.2.1, v.2.2.2.2.2.2.1, v.2.2.2.2.2.2.2.1, v.2.2.2.2.2.2.2.2.1, v.2.2.2.2.2.2.2.2.2.1, v.2.2.2.2.2.2.2.2.2.2)
  else none
  else none
  else none
  else none
  else none
set_option maxHeartbeats 4000000 in
set_option maxRecDepth 100000 in
theorem c_X7_putElement (l : Launch) (g : zG) (a : Nat → Nat) (v : MV) (p0 : Int32) (p1 : Int32) (p2 : Int32) (r : MV) (hf : f_X7_putElement v p0 p1 p2 = some r) : zMv zNF zNM l yX7_putElement (zw yX7_putElement cX7_putElement 5 none) ({ frames := 0, cells := 0, slots := 0, locals := 0 } : Room) g [.ref (a 0), .int p0, .int p1, .int p2] (zX7 g a v) (zX7 g a r) := by
  intro sz
  refine Met.ofW (cc := cX7_putElement) (maxL := 5) (ret := none) (by decide) rfl ?_
  intro p e s m args below meth c s₁ B hml hv
  obtain ⟨rfl, hsz, hP, hK, hD0⟩ := hv
  have hx := B.exec
  have hb := B.bytes
  have hr0 := B.returns
  have hts := atoms_spec (ws := (zw yX7_putElement cX7_putElement 5 none)) B.pre
  have hw0 : ∀ w ∈ zW, w.before ([.ref (a 0), .int p0, .int p1, .int p2] : List Value).toArray s = true := fun w h => hts w (List.mem_cons_of_mem _ h)
  have hown : s.vm.findClass RX7 = some m.cls := findClass_of_methodNamed B.named
  have hlocks := B.notSynchronized
  subst hsz
  have hD := hD0.self (sz := s.heap.size)
  generalize hAe : va_A (zX7 g a v) s.heap.size = A at hD ⊢
  have hA : ∀ q : Nat, s.heap.size ≤ q → A q := fun q h => by rw [← hAe]; exact Or.inr h
  have hS : va_S A s.heap s.heap [] := va_S.rf
  unfold f_X7_putElement at hf
  have hl := lv_entry ([.ref (a 0), .int p0, .int p1, .int p2]) (n := 5) (Nat.le_of_ble_eq_true rfl)
  rw [lg_entry_eq]
  generalize (lg_sl ([.ref (a 0), .int p0, .int p1, .int p2]) ++ List.replicate (5 - (lg_sl ([.ref (a 0), .int p0, .int p1, .int p2])).length) Slot.unset).toArray = ls at hl ⊢
  have hl : lv_has ls 5 [(0, .ref (a 0)), (1, .int p0), (2, .int p1), (3, .int p2)] := hl
  refine lv_bipush (v := 10) hx hb dX7_putElement_0 (by decide) ?_
  refine lv_iconst (v := 5) hx hb dX7_putElement_2 (by decide) ?_
  refine lv_aload_n hx hb dX7_putElement_3 rfl (lv_at hl 0 rfl) ?_
  refine va_get (D := g.1) (ci := 7) (v := .ref (a 1)) (C := RX7) (T := TX7) (N := 11) hx hb hw0 ziX7 hown hK.1 hP 0 rfl rfl 0 (by decide) (hw0 _ zm4_71) (fun _ h9 => h9) rfl dX7_putElement_4 ?_
  refine lv_bipush (v := 7) hx hb dX7_putElement_7 (by decide) ?_
  refine zald (D := g.1) (f := v.1) (k := 7) hx hb hK.1 hP 1 0 rfl rfl (zin_vp (i := 7) (n := 220) rfl) rfl dX7_putElement_9 ?_
  refine lv_imul hx hb dX7_putElement_10 ?_
  refine lv_iadd hx hb dX7_putElement_11 ?_
  refine lv_istore (lv' := [(4, .int (10 + (5 * (v.1 7)))), (0, .ref (a 0)), (1, .int p0), (2, .int p1), (3, .int p2)]) hx hb dX7_putElement_12 hl (by decide) rfl (fun ls hl => ?_)
  refine lv_aload_n hx hb dX7_putElement_14 rfl (lv_at hl 1 rfl) ?_
  refine va_get (D := g.1) (ci := 7) (v := .ref (a 1)) (C := RX7) (T := TX7) (N := 11) hx hb hw0 ziX7 hown hK.1 hP 0 rfl rfl 0 (by decide) (hw0 _ zm4_71) (fun _ h9 => h9) rfl dX7_putElement_15 ?_
  refine lv_iload hx hb dX7_putElement_18 (lv_at hl 0 rfl) ?_
  refine lv_iconst (v := 0) hx hb dX7_putElement_20 (by decide) ?_
  refine lv_iadd hx hb dX7_putElement_21 ?_
  refine lv_iload_n hx hb dX7_putElement_22 rfl (lv_at hl 2 rfl) ?_
  obtain ⟨h1, hf⟩ := og hf
  refine zast (D := g.1) (f := v.1) (k := ((10 + (5 * (v.1 7))) + 0).toNatClampNeg) (x := p0) hx hb hK.1 hP hD hS 1 0 rfl rfl (zin_vp h1) rfl dX7_putElement_23 (fun H locs hP hD hS => ?_)
  have hP : va_P g.1 vwCl (zX7 g a ((upd v.1 (((10 + (5 * (v.1 7))) + 0).toNatClampNeg) p0), v.2.1, v.2.2.1, v.2.2.2.1, v.2.2.2.2.1, v.2.2.2.2.2.1, v.2.2.2.2.2.2.1, v.2.2.2.2.2.2.2.1, v.2.2.2.2.2.2.2.2.1, v.2.2.2.2.2.2.2.2.2.1, v.2.2.2.2.2.2.2.2.2.2)) H := hP
  have hD : va_D A (zX7 g a ((upd v.1 (((10 + (5 * (v.1 7))) + 0).toNatClampNeg) p0), v.2.1, v.2.2.1, v.2.2.2.1, v.2.2.2.2.1, v.2.2.2.2.2.1, v.2.2.2.2.2.2.1, v.2.2.2.2.2.2.2.1, v.2.2.2.2.2.2.2.2.1, v.2.2.2.2.2.2.2.2.2.1, v.2.2.2.2.2.2.2.2.2.2)) := hD
  refine lv_aload_n hx hb dX7_putElement_24 rfl (lv_at hl 1 rfl) ?_
  refine va_get (D := g.1) (ci := 7) (v := .ref (a 1)) (C := RX7) (T := TX7) (N := 11) hx hb hw0 ziX7 hown hK.1 hP 0 rfl rfl 0 (by decide) (hw0 _ zm4_71) (fun _ h9 => h9) rfl dX7_putElement_25 ?_
  refine lv_iload hx hb dX7_putElement_28 (lv_at hl 0 rfl) ?_
  refine lv_iconst (v := 1) hx hb dX7_putElement_30 (by decide) ?_
  refine lv_iadd hx hb dX7_putElement_31 ?_
  refine lv_iload_n hx hb dX7_putElement_32 rfl (lv_at hl 3 rfl) ?_
  obtain ⟨h2, hf⟩ := og hf
  refine zast (D := g.1) (f := (upd v.1 (((10 + (5 * (v.1 7))) + 0).toNatClampNeg) p0)) (k := ((10 + (5 * (v.1 7))) + 1).toNatClampNeg) (x := p1) hx hb hK.1 hP hD hS 1 0 rfl rfl (zin_vp h2) rfl dX7_putElement_33 (fun H locs hP hD hS => ?_)
  have hP : va_P g.1 vwCl (zX7 g a ((upd (upd v.1 (((10 + (5 * (v.1 7))) + 0).toNatClampNeg) p0) (((10 + (5 * (v.1 7))) + 1).toNatClampNeg) p1), v.2.1, v.2.2.1, v.2.2.2.1, v.2.2.2.2.1, v.2.2.2.2.2.1, v.2.2.2.2.2.2.1, v.2.2.2.2.2.2.2.1, v.2.2.2.2.2.2.2.2.1, v.2.2.2.2.2.2.2.2.2.1, v.2.2.2.2.2.2.2.2.2.2)) H := hP
  have hD : va_D A (zX7 g a ((upd (upd v.1 (((10 + (5 * (v.1 7))) + 0).toNatClampNeg) p0) (((10 + (5 * (v.1 7))) + 1).toNatClampNeg) p1), v.2.1, v.2.2.1, v.2.2.2.1, v.2.2.2.2.1, v.2.2.2.2.2.1, v.2.2.2.2.2.2.1, v.2.2.2.2.2.2.2.1, v.2.2.2.2.2.2.2.2.1, v.2.2.2.2.2.2.2.2.2.1, v.2.2.2.2.2.2.2.2.2.2)) := hD
  refine lv_aload_n hx hb dX7_putElement_34 rfl (lv_at hl 1 rfl) ?_
  refine va_get (D := g.1) (ci := 7) (v := .ref (a 1)) (C := RX7) (T := TX7) (N := 11) hx hb hw0 ziX7 hown hK.1 hP 0 rfl rfl 0 (by decide) (hw0 _ zm4_71) (fun _ h9 => h9) rfl dX7_putElement_35 ?_
  refine lv_iload hx hb dX7_putElement_38 (lv_at hl 0 rfl) ?_
  refine lv_iconst (v := 2) hx hb dX7_putElement_40 (by decide) ?_
  refine lv_iadd hx hb dX7_putElement_41 ?_
  refine lv_iload_n hx hb dX7_putElement_42 rfl (lv_at hl 4 rfl) ?_
  obtain ⟨h3, hf⟩ := og hf
  refine zast (D := g.1) (f := (upd (upd v.1 (((10 + (5 * (v.1 7))) + 0).toNatClampNeg) p0) (((10 + (5 * (v.1 7))) + 1).toNatClampNeg) p1)) (k := ((10 + (5 * (v.1 7))) + 2).toNatClampNeg) (x := p2) hx hb hK.1 hP hD hS 1 0 rfl rfl (zin_vp h3) rfl dX7_putElement_43 (fun H locs hP hD hS => ?_)
  have hP : va_P g.1 vwCl (zX7 g a ((upd (upd (upd v.1 (((10 + (5 * (v.1 7))) + 0).toNatClampNeg) p0) (((10 + (5 * (v.1 7))) + 1).toNatClampNeg) p1) (((10 + (5 * (v.1 7))) + 2).toNatClampNeg) p2), v.2.1, v.2.2.1, v.2.2.2.1, v.2.2.2.2.1, v.2.2.2.2.2.1, v.2.2.2.2.2.2.1, v.2.2.2.2.2.2.2.1, v.2.2.2.2.2.2.2.2.1, v.2.2.2.2.2.2.2.2.2.1, v.2.2.2.2.2.2.2.2.2.2)) H := hP
  have hD : va_D A (zX7 g a ((upd (upd (upd v.1 (((10 + (5 * (v.1 7))) + 0).toNatClampNeg) p0) (((10 + (5 * (v.1 7))) + 1).toNatClampNeg) p1) (((10 + (5 * (v.1 7))) + 2).toNatClampNeg) p2), v.2.1, v.2.2.1, v.2.2.2.1, v.2.2.2.2.1, v.2.2.2.2.2.1, v.2.2.2.2.2.2.1, v.2.2.2.2.2.2.2.1, v.2.2.2.2.2.2.2.2.1, v.2.2.2.2.2.2.2.2.2.1, v.2.2.2.2.2.2.2.2.2.2)) := hD
  refine lv_aload_n hx hb dX7_putElement_44 rfl (lv_at hl 1 rfl) ?_
  refine va_get (D := g.1) (ci := 7) (v := .ref (a 1)) (C := RX7) (T := TX7) (N := 11) hx hb hw0 ziX7 hown hK.1 hP 0 rfl rfl 0 (by decide) (hw0 _ zm4_71) (fun _ h9 => h9) rfl dX7_putElement_45 ?_
  refine lv_iload hx hb dX7_putElement_48 (lv_at hl 0 rfl) ?_
  refine lv_iconst (v := 3) hx hb dX7_putElement_50 (by decide) ?_
  refine lv_iadd hx hb dX7_putElement_51 ?_
  refine lv_iconst (v := 0) hx hb dX7_putElement_52 (by decide) ?_
  obtain ⟨h4, hf⟩ := og hf
  refine zast (D := g.1) (f := (upd (upd (upd v.1 (((10 + (5 * (v.1 7))) + 0).toNatClampNeg) p0) (((10 + (5 * (v.1 7))) + 1).toNatClampNeg) p1) (((10 + (5 * (v.1 7))) + 2).toNatClampNeg) p2)) (k := ((10 + (5 * (v.1 7))) + 3).toNatClampNeg) (x := 0) hx hb hK.1 hP hD hS 1 0 rfl rfl (zin_vp h4) rfl dX7_putElement_53 (fun H locs hP hD hS => ?_)
  have hP : va_P g.1 vwCl (zX7 g a ((upd (upd (upd (upd v.1 (((10 + (5 * (v.1 7))) + 0).toNatClampNeg) p0) (((10 + (5 * (v.1 7))) + 1).toNatClampNeg) p1) (((10 + (5 * (v.1 7))) + 2).toNatClampNeg) p2) (((10 + (5 * (v.1 7))) + 3).toNatClampNeg) 0), v.2.1, v.2.2.1, v.2.2.2.1, v.2.2.2.2.1, v.2.2.2.2.2.1, v.2.2.2.2.2.2.1, v.2.2.2.2.2.2.2.1, v.2.2.2.2.2.2.2.2.1, v.2.2.2.2.2.2.2.2.2.1, v.2.2.2.2.2.2.2.2.2.2)) H := hP
  have hD : va_D A (zX7 g a ((upd (upd (upd (upd v.1 (((10 + (5 * (v.1 7))) + 0).toNatClampNeg) p0) (((10 + (5 * (v.1 7))) + 1).toNatClampNeg) p1) (((10 + (5 * (v.1 7))) + 2).toNatClampNeg) p2) (((10 + (5 * (v.1 7))) + 3).toNatClampNeg) 0), v.2.1, v.2.2.1, v.2.2.2.1, v.2.2.2.2.1, v.2.2.2.2.2.1, v.2.2.2.2.2.2.1, v.2.2.2.2.2.2.2.1, v.2.2.2.2.2.2.2.2.1, v.2.2.2.2.2.2.2.2.2.1, v.2.2.2.2.2.2.2.2.2.2)) := hD
  refine lv_aload_n hx hb dX7_putElement_54 rfl (lv_at hl 1 rfl) ?_
  refine va_get (D := g.1) (ci := 7) (v := .ref (a 1)) (C := RX7) (T := TX7) (N := 11) hx hb hw0 ziX7 hown hK.1 hP 0 rfl rfl 0 (by decide) (hw0 _ zm4_71) (fun _ h9 => h9) rfl dX7_putElement_55 ?_
  refine lv_iload hx hb dX7_putElement_58 (lv_at hl 0 rfl) ?_
  refine lv_iconst (v := 4) hx hb dX7_putElement_60 (by decide) ?_
  refine lv_iadd hx hb dX7_putElement_61 ?_
  refine lv_iconst (v := (-1)) hx hb dX7_putElement_62 (by decide) ?_
  obtain ⟨h5, hf⟩ := og hf
  refine zast (D := g.1) (f := (upd (upd (upd (upd v.1 (((10 + (5 * (v.1 7))) + 0).toNatClampNeg) p0) (((10 + (5 * (v.1 7))) + 1).toNatClampNeg) p1) (((10 + (5 * (v.1 7))) + 2).toNatClampNeg) p2) (((10 + (5 * (v.1 7))) + 3).toNatClampNeg) 0)) (k := ((10 + (5 * (v.1 7))) + 4).toNatClampNeg) (x := (-1)) hx hb hK.1 hP hD hS 1 0 rfl rfl (zin_vp h5) rfl dX7_putElement_63 (fun H locs hP hD hS => ?_)
  have hP : va_P g.1 vwCl (zX7 g a ((upd (upd (upd (upd (upd v.1 (((10 + (5 * (v.1 7))) + 0).toNatClampNeg) p0) (((10 + (5 * (v.1 7))) + 1).toNatClampNeg) p1) (((10 + (5 * (v.1 7))) + 2).toNatClampNeg) p2) (((10 + (5 * (v.1 7))) + 3).toNatClampNeg) 0) (((10 + (5 * (v.1 7))) + 4).toNatClampNeg) (-1)), v.2.1, v.2.2.1, v.2.2.2.1, v.2.2.2.2.1, v.2.2.2.2.2.1, v.2.2.2.2.2.2.1, v.2.2.2.2.2.2.2.1, v.2.2.2.2.2.2.2.2.1, v.2.2.2.2.2.2.2.2.2.1, v.2.2.2.2.2.2.2.2.2.2)) H := hP
  have hD : va_D A (zX7 g a ((upd (upd (upd (upd (upd v.1 (((10 + (5 * (v.1 7))) + 0).toNatClampNeg) p0) (((10 + (5 * (v.1 7))) + 1).toNatClampNeg) p1) (((10 + (5 * (v.1 7))) + 2).toNatClampNeg) p2) (((10 + (5 * (v.1 7))) + 3).toNatClampNeg) 0) (((10 + (5 * (v.1 7))) + 4).toNatClampNeg) (-1)), v.2.1, v.2.2.1, v.2.2.2.1, v.2.2.2.2.1, v.2.2.2.2.2.1, v.2.2.2.2.2.2.1, v.2.2.2.2.2.2.2.1, v.2.2.2.2.2.2.2.2.1, v.2.2.2.2.2.2.2.2.2.1, v.2.2.2.2.2.2.2.2.2.2)) := hD
  refine lv_aload_n hx hb dX7_putElement_64 rfl (lv_at hl 1 rfl) ?_
  refine va_get (D := g.1) (ci := 7) (v := .ref (a 1)) (C := RX7) (T := TX7) (N := 11) hx hb hw0 ziX7 hown hK.1 hP 0 rfl rfl 0 (by decide) (hw0 _ zm4_71) (fun _ h9 => h9) rfl dX7_putElement_65 ?_
  refine lv_bipush (v := 7) hx hb dX7_putElement_68 (by decide) ?_
  refine lv_dup2_11 hx hb dX7_putElement_70 rfl rfl ?_
  refine zald (D := g.1) (f := (upd (upd (upd (upd (upd v.1 (((10 + (5 * (v.1 7))) + 0).toNatClampNeg) p0) (((10 + (5 * (v.1 7))) + 1).toNatClampNeg) p1) (((10 + (5 * (v.1 7))) + 2).toNatClampNeg) p2) (((10 + (5 * (v.1 7))) + 3).toNatClampNeg) 0) (((10 + (5 * (v.1 7))) + 4).toNatClampNeg) (-1))) (k := 7) hx hb hK.1 hP 1 0 rfl rfl (zin_vp (i := 7) (n := 220) rfl) rfl dX7_putElement_71 ?_
  refine lv_iconst (v := 1) hx hb dX7_putElement_72 (by decide) ?_
  refine lv_iadd hx hb dX7_putElement_73 ?_
  refine zast (D := g.1) (f := (upd (upd (upd (upd (upd v.1 (((10 + (5 * (v.1 7))) + 0).toNatClampNeg) p0) (((10 + (5 * (v.1 7))) + 1).toNatClampNeg) p1) (((10 + (5 * (v.1 7))) + 2).toNatClampNeg) p2) (((10 + (5 * (v.1 7))) + 3).toNatClampNeg) 0) (((10 + (5 * (v.1 7))) + 4).toNatClampNeg) (-1))) (k := 7) (x := (((upd (upd (upd (upd (upd v.1 (((10 + (5 * (v.1 7))) + 0).toNatClampNeg) p0) (((10 + (5 * (v.1 7))) + 1).toNatClampNeg) p1) (((10 + (5 * (v.1 7))) + 2).toNatClampNeg) p2) (((10 + (5 * (v.1 7))) + 3).toNatClampNeg) 0) (((10 + (5 * (v.1 7))) + 4).toNatClampNeg) (-1)) 7) + 1)) hx hb hK.1 hP hD hS 1 0 rfl rfl (zin_vp (i := 7) (n := 220) rfl) rfl dX7_putElement_74 (fun H locs hP hD hS => ?_)
  have hP : va_P g.1 vwCl (zX7 g a ((upd (upd (upd (upd (upd (upd v.1 (((10 + (5 * (v.1 7))) + 0).toNatClampNeg) p0) (((10 + (5 * (v.1 7))) + 1).toNatClampNeg) p1) (((10 + (5 * (v.1 7))) + 2).toNatClampNeg) p2) (((10 + (5 * (v.1 7))) + 3).toNatClampNeg) 0) (((10 + (5 * (v.1 7))) + 4).toNatClampNeg) (-1)) 7 (((upd (upd (upd (upd (upd v.1 (((10 + (5 * (v.1 7))) + 0).toNatClampNeg) p0) (((10 + (5 * (v.1 7))) + 1).toNatClampNeg) p1) (((10 + (5 * (v.1 7))) + 2).toNatClampNeg) p2) (((10 + (5 * (v.1 7))) + 3).toNatClampNeg) 0) (((10 + (5 * (v.1 7))) + 4).toNatClampNeg) (-1)) 7) + 1)), v.2.1, v.2.2.1, v.2.2.2.1, v.2.2.2.2.1, v.2.2.2.2.2.1, v.2.2.2.2.2.2.1, v.2.2.2.2.2.2.2.1, v.2.2.2.2.2.2.2.2.1, v.2.2.2.2.2.2.2.2.2.1, v.2.2.2.2.2.2.2.2.2.2)) H := hP
  have hD : va_D A (zX7 g a ((upd (upd (upd (upd (upd (upd v.1 (((10 + (5 * (v.1 7))) + 0).toNatClampNeg) p0) (((10 + (5 * (v.1 7))) + 1).toNatClampNeg) p1) (((10 + (5 * (v.1 7))) + 2).toNatClampNeg) p2) (((10 + (5 * (v.1 7))) + 3).toNatClampNeg) 0) (((10 + (5 * (v.1 7))) + 4).toNatClampNeg) (-1)) 7 (((upd (upd (upd (upd (upd v.1 (((10 + (5 * (v.1 7))) + 0).toNatClampNeg) p0) (((10 + (5 * (v.1 7))) + 1).toNatClampNeg) p1) (((10 + (5 * (v.1 7))) + 2).toNatClampNeg) p2) (((10 + (5 * (v.1 7))) + 3).toNatClampNeg) 0) (((10 + (5 * (v.1 7))) + 4).toNatClampNeg) (-1)) 7) + 1)), v.2.1, v.2.2.1, v.2.2.2.1, v.2.2.2.2.1, v.2.2.2.2.2.1, v.2.2.2.2.2.2.1, v.2.2.2.2.2.2.2.1, v.2.2.2.2.2.2.2.2.1, v.2.2.2.2.2.2.2.2.2.1, v.2.2.2.2.2.2.2.2.2.2)) := hD
  have hR : ((upd (upd (upd (upd (upd (upd v.1 (((10 + (5 * (v.1 7))) + 0).toNatClampNeg) p0) (((10 + (5 * (v.1 7))) + 1).toNatClampNeg) p1) (((10 + (5 * (v.1 7))) + 2).toNatClampNeg) p2) (((10 + (5 * (v.1 7))) + 3).toNatClampNeg) 0) (((10 + (5 * (v.1 7))) + 4).toNatClampNeg) (-1)) 7 (((upd (upd (upd (upd (upd v.1 (((10 + (5 * (v.1 7))) + 0).toNatClampNeg) p0) (((10 + (5 * (v.1 7))) + 1).toNatClampNeg) p1) (((10 + (5 * (v.1 7))) + 2).toNatClampNeg) p2) (((10 + (5 * (v.1 7))) + 3).toNatClampNeg) 0) (((10 + (5 * (v.1 7))) + 4).toNatClampNeg) (-1)) 7) + 1)), v.2.1, v.2.2.1, v.2.2.2.1, v.2.2.2.2.1, v.2.2.2.2.2.1, v.2.2.2.2.2.2.1, v.2.2.2.2.2.2.2.1, v.2.2.2.2.2.2.2.2.1, v.2.2.2.2.2.2.2.2.2.1, v.2.2.2.2.2.2.2.2.2.2) = r := Option.some.inj hf
  subst hR
  exact W.vret hx hb hr0 (fun t ht hW => ⟨⟨(), rfl, trivial, by rw [ht]; exact hP, hD⟩, hS.F ht⟩) hS.2.2 dX7_putElement_75
theorem hd_X7_putFiller : yX7_putFiller.cls ≠ "java/lang/invoke/MethodHandle" ∧ yX7_putFiller.cls ≠ "java/lang/invoke/VarHandle" ∧ (parseMethodDescriptor yX7_putFiller.desc).map (fun d => d.parameters.length) = some 1 := by decide +kernel
def f_X7_putFiller (v : MV) (p0 : Int32) : Option (MV) :=
  if zin ((70 + (3 * (v.1 8))) + 0) 220 = true then
  if zin ((70 + (3 * (v.1 8))) + 1) 220 = true then
  if zin ((70 + (3 * (v.1 8))) + 2) 220 = true then
  some ((upd (upd (upd (upd v.1 (((70 + (3 * (v.1 8))) + 0).toNatClampNeg) p0) (((70 + (3 * (v.1 8))) + 1).toNatClampNeg) 0) (((70 + (3 * (v.1 8))) + 2).toNatClampNeg) (-1)) 8 (((upd (upd (upd v.1 (((70 + (3 * (v.1 8))) + 0).toNatClampNeg) p0) (((70 + (3 * (v.1 8))) + 1).toNatClampNeg) 0) (((70 + (3 * (v.1 8))) + 2).toNatClampNeg) (-1)) 8) + 1)), v.2.1, v.2.2.1, v.2.2.2.1, v.2.2.2.2.1, v.2.2.2.2.2.1, v.2.2.2.2.2.2.1, v.2.2.2.2.2.2.2.1, v.2.2.2.2.2.2.2.2.1, v.2.2.2.2.2.2.2.2.2.1, v.2.2.2.2.2.2.2.2.2.2)
  else none
  else none
  else none
set_option maxHeartbeats 4000000 in
set_option maxRecDepth 100000 in
theorem c_X7_putFiller (l : Launch) (g : zG) (a : Nat → Nat) (v : MV) (p0 : Int32) (r : MV) (hf : f_X7_putFiller v p0 = some r) : zMv zNF zNM l yX7_putFiller (zw yX7_putFiller cX7_putFiller 3 none) ({ frames := 0, cells := 0, slots := 0, locals := 0 } : Room) g [.ref (a 0), .int p0] (zX7 g a v) (zX7 g a r) := by
  intro sz
  refine Met.ofW (cc := cX7_putFiller) (maxL := 3) (ret := none) (by decide) rfl ?_
  intro p e s m args below meth c s₁ B hml hv
  obtain ⟨rfl, hsz, hP, hK, hD0⟩ := hv
  have hx := B.exec
  have hb := B.bytes
  have hr0 := B.returns
  have hts := atoms_spec (ws := (zw yX7_putFiller cX7_putFiller 3 none)) B.pre
  have hw0 : ∀ w ∈ zW, w.before ([.ref (a 0), .int p0] : List Value).toArray s = true := fun w h => hts w (List.mem_cons_of_mem _ h)
  have hown : s.vm.findClass RX7 = some m.cls := findClass_of_methodNamed B.named
  have hlocks := B.notSynchronized
  subst hsz
  have hD := hD0.self (sz := s.heap.size)
  generalize hAe : va_A (zX7 g a v) s.heap.size = A at hD ⊢
  have hA : ∀ q : Nat, s.heap.size ≤ q → A q := fun q h => by rw [← hAe]; exact Or.inr h
  have hS : va_S A s.heap s.heap [] := va_S.rf
  unfold f_X7_putFiller at hf
  have hl := lv_entry ([.ref (a 0), .int p0]) (n := 3) (Nat.le_of_ble_eq_true rfl)
  rw [lg_entry_eq]
  generalize (lg_sl ([.ref (a 0), .int p0]) ++ List.replicate (3 - (lg_sl ([.ref (a 0), .int p0])).length) Slot.unset).toArray = ls at hl ⊢
  have hl : lv_has ls 3 [(0, .ref (a 0)), (1, .int p0)] := hl
  refine lv_bipush (v := 70) hx hb dX7_putFiller_0 (by decide) ?_
  refine lv_iconst (v := 3) hx hb dX7_putFiller_2 (by decide) ?_
  refine lv_aload_n hx hb dX7_putFiller_3 rfl (lv_at hl 0 rfl) ?_
  refine va_get (D := g.1) (ci := 7) (v := .ref (a 1)) (C := RX7) (T := TX7) (N := 11) hx hb hw0 ziX7 hown hK.1 hP 0 rfl rfl 0 (by decide) (hw0 _ zm4_71) (fun _ h9 => h9) rfl dX7_putFiller_4 ?_
  refine lv_bipush (v := 8) hx hb dX7_putFiller_7 (by decide) ?_
  refine zald (D := g.1) (f := v.1) (k := 8) hx hb hK.1 hP 1 0 rfl rfl (zin_vp (i := 8) (n := 220) rfl) rfl dX7_putFiller_9 ?_
  refine lv_imul hx hb dX7_putFiller_10 ?_
  refine lv_iadd hx hb dX7_putFiller_11 ?_
  refine lv_istore_n (lv' := [(2, .int (70 + (3 * (v.1 8)))), (0, .ref (a 0)), (1, .int p0)]) hx hb dX7_putFiller_12 rfl hl (by decide) rfl (fun ls hl => ?_)
  refine lv_aload_n hx hb dX7_putFiller_13 rfl (lv_at hl 1 rfl) ?_
  refine va_get (D := g.1) (ci := 7) (v := .ref (a 1)) (C := RX7) (T := TX7) (N := 11) hx hb hw0 ziX7 hown hK.1 hP 0 rfl rfl 0 (by decide) (hw0 _ zm4_71) (fun _ h9 => h9) rfl dX7_putFiller_14 ?_
  refine lv_iload_n hx hb dX7_putFiller_17 rfl (lv_at hl 0 rfl) ?_
  refine lv_iconst (v := 0) hx hb dX7_putFiller_18 (by decide) ?_
  refine lv_iadd hx hb dX7_putFiller_19 ?_
  refine lv_iload_n hx hb dX7_putFiller_20 rfl (lv_at hl 2 rfl) ?_
  obtain ⟨h1, hf⟩ := og hf
  refine zast (D := g.1) (f := v.1) (k := ((70 + (3 * (v.1 8))) + 0).toNatClampNeg) (x := p0) hx hb hK.1 hP hD hS 1 0 rfl rfl (zin_vp h1) rfl dX7_putFiller_21 (fun H locs hP hD hS => ?_)
  have hP : va_P g.1 vwCl (zX7 g a ((upd v.1 (((70 + (3 * (v.1 8))) + 0).toNatClampNeg) p0), v.2.1, v.2.2.1, v.2.2.2.1, v.2.2.2.2.1, v.2.2.2.2.2.1, v.2.2.2.2.2.2.1, v.2.2.2.2.2.2.2.1, v.2.2.2.2.2.2.2.2.1, v.2.2.2.2.2.2.2.2.2.1, v.2.2.2.2.2.2.2.2.2.2)) H := hP
  have hD : va_D A (zX7 g a ((upd v.1 (((70 + (3 * (v.1 8))) + 0).toNatClampNeg) p0), v.2.1, v.2.2.1, v.2.2.2.1, v.2.2.2.2.1, v.2.2.2.2.2.1, v.2.2.2.2.2.2.1, v.2.2.2.2.2.2.2.1, v.2.2.2.2.2.2.2.2.1, v.2.2.2.2.2.2.2.2.2.1, v.2.2.2.2.2.2.2.2.2.2)) := hD
  refine lv_aload_n hx hb dX7_putFiller_22 rfl (lv_at hl 1 rfl) ?_
  refine va_get (D := g.1) (ci := 7) (v := .ref (a 1)) (C := RX7) (T := TX7) (N := 11) hx hb hw0 ziX7 hown hK.1 hP 0 rfl rfl 0 (by decide) (hw0 _ zm4_71) (fun _ h9 => h9) rfl dX7_putFiller_23 ?_
  refine lv_iload_n hx hb dX7_putFiller_26 rfl (lv_at hl 0 rfl) ?_
  refine lv_iconst (v := 1) hx hb dX7_putFiller_27 (by decide) ?_
  refine lv_iadd hx hb dX7_putFiller_28 ?_
  refine lv_iconst (v := 0) hx hb dX7_putFiller_29 (by decide) ?_
  obtain ⟨h2, hf⟩ := og hf
  refine zast (D := g.1) (f := (upd v.1 (((70 + (3 * (v.1 8))) + 0).toNatClampNeg) p0)) (k := ((70 + (3 * (v.1 8))) + 1).toNatClampNeg) (x := 0) hx hb hK.1 hP hD hS 1 0 rfl rfl (zin_vp h2) rfl dX7_putFiller_30 (fun H locs hP hD hS => ?_)
  have hP : va_P g.1 vwCl (zX7 g a ((upd (upd v.1 (((70 + (3 * (v.1 8))) + 0).toNatClampNeg) p0) (((70 + (3 * (v.1 8))) + 1).toNatClampNeg) 0), v.2.1, v.2.2.1, v.2.2.2.1, v.2.2.2.2.1, v.2.2.2.2.2.1, v.2.2.2.2.2.2.1, v.2.2.2.2.2.2.2.1, v.2.2.2.2.2.2.2.2.1, v.2.2.2.2.2.2.2.2.2.1, v.2.2.2.2.2.2.2.2.2.2)) H := hP
  have hD : va_D A (zX7 g a ((upd (upd v.1 (((70 + (3 * (v.1 8))) + 0).toNatClampNeg) p0) (((70 + (3 * (v.1 8))) + 1).toNatClampNeg) 0), v.2.1, v.2.2.1, v.2.2.2.1, v.2.2.2.2.1, v.2.2.2.2.2.1, v.2.2.2.2.2.2.1, v.2.2.2.2.2.2.2.1, v.2.2.2.2.2.2.2.2.1, v.2.2.2.2.2.2.2.2.2.1, v.2.2.2.2.2.2.2.2.2.2)) := hD
  refine lv_aload_n hx hb dX7_putFiller_31 rfl (lv_at hl 1 rfl) ?_
  refine va_get (D := g.1) (ci := 7) (v := .ref (a 1)) (C := RX7) (T := TX7) (N := 11) hx hb hw0 ziX7 hown hK.1 hP 0 rfl rfl 0 (by decide) (hw0 _ zm4_71) (fun _ h9 => h9) rfl dX7_putFiller_32 ?_
  refine lv_iload_n hx hb dX7_putFiller_35 rfl (lv_at hl 0 rfl) ?_
  refine lv_iconst (v := 2) hx hb dX7_putFiller_36 (by decide) ?_
  refine lv_iadd hx hb dX7_putFiller_37 ?_
  refine lv_iconst (v := (-1)) hx hb dX7_putFiller_38 (by decide) ?_
  obtain ⟨h3, hf⟩ := og hf
  refine zast (D := g.1) (f := (upd (upd v.1 (((70 + (3 * (v.1 8))) + 0).toNatClampNeg) p0) (((70 + (3 * (v.1 8))) + 1).toNatClampNeg) 0)) (k := ((70 + (3 * (v.1 8))) + 2).toNatClampNeg) (x := (-1)) hx hb hK.1 hP hD hS 1 0 rfl rfl (zin_vp h3) rfl dX7_putFiller_39 (fun H locs hP hD hS => ?_)
  have hP : va_P g.1 vwCl (zX7 g a ((upd (upd (upd v.1 (((70 + (3 * (v.1 8))) + 0).toNatClampNeg) p0) (((70 + (3 * (v.1 8))) + 1).toNatClampNeg) 0) (((70 + (3 * (v.1 8))) + 2).toNatClampNeg) (-1)), v.2.1, v.2.2.1, v.2.2.2.1, v.2.2.2.2.1, v.2.2.2.2.2.1, v.2.2.2.2.2.2.1, v.2.2.2.2.2.2.2.1, v.2.2.2.2.2.2.2.2.1, v.2.2.2.2.2.2.2.2.2.1, v.2.2.2.2.2.2.2.2.2.2)) H := hP
  have hD : va_D A (zX7 g a ((upd (upd (upd v.1 (((70 + (3 * (v.1 8))) + 0).toNatClampNeg) p0) (((70 + (3 * (v.1 8))) + 1).toNatClampNeg) 0) (((70 + (3 * (v.1 8))) + 2).toNatClampNeg) (-1)), v.2.1, v.2.2.1, v.2.2.2.1, v.2.2.2.2.1, v.2.2.2.2.2.1, v.2.2.2.2.2.2.1, v.2.2.2.2.2.2.2.1, v.2.2.2.2.2.2.2.2.1, v.2.2.2.2.2.2.2.2.2.1, v.2.2.2.2.2.2.2.2.2.2)) := hD
  refine lv_aload_n hx hb dX7_putFiller_40 rfl (lv_at hl 1 rfl) ?_
  refine va_get (D := g.1) (ci := 7) (v := .ref (a 1)) (C := RX7) (T := TX7) (N := 11) hx hb hw0 ziX7 hown hK.1 hP 0 rfl rfl 0 (by decide) (hw0 _ zm4_71) (fun _ h9 => h9) rfl dX7_putFiller_41 ?_
  refine lv_bipush (v := 8) hx hb dX7_putFiller_44 (by decide) ?_
  refine lv_dup2_11 hx hb dX7_putFiller_46 rfl rfl ?_
  refine zald (D := g.1) (f := (upd (upd (upd v.1 (((70 + (3 * (v.1 8))) + 0).toNatClampNeg) p0) (((70 + (3 * (v.1 8))) + 1).toNatClampNeg) 0) (((70 + (3 * (v.1 8))) + 2).toNatClampNeg) (-1))) (k := 8) hx hb hK.1 hP 1 0 rfl rfl (zin_vp (i := 8) (n := 220) rfl) rfl dX7_putFiller_47 ?_
  refine lv_iconst (v := 1) hx hb dX7_putFiller_48 (by decide) ?_
  refine lv_iadd hx hb dX7_putFiller_49 ?_
  refine zast (D := g.1) (f := (upd (upd (upd v.1 (((70 + (3 * (v.1 8))) + 0).toNatClampNeg) p0) (((70 + (3 * (v.1 8))) + 1).toNatClampNeg) 0) (((70 + (3 * (v.1 8))) + 2).toNatClampNeg) (-1))) (k := 8) (x := (((upd (upd (upd v.1 (((70 + (3 * (v.1 8))) + 0).toNatClampNeg) p0) (((70 + (3 * (v.1 8))) + 1).toNatClampNeg) 0) (((70 + (3 * (v.1 8))) + 2).toNatClampNeg) (-1)) 8) + 1)) hx hb hK.1 hP hD hS 1 0 rfl rfl (zin_vp (i := 8) (n := 220) rfl) rfl dX7_putFiller_50 (fun H locs hP hD hS => ?_)
  have hP : va_P g.1 vwCl (zX7 g a ((upd (upd (upd (upd v.1 (((70 + (3 * (v.1 8))) + 0).toNatClampNeg) p0) (((70 + (3 * (v.1 8))) + 1).toNatClampNeg) 0) (((70 + (3 * (v.1 8))) + 2).toNatClampNeg) (-1)) 8 (((upd (upd (upd v.1 (((70 + (3 * (v.1 8))) + 0).toNatClampNeg) p0) (((70 + (3 * (v.1 8))) + 1).toNatClampNeg) 0) (((70 + (3 * (v.1 8))) + 2).toNatClampNeg) (-1)) 8) + 1)), v.2.1, v.2.2.1, v.2.2.2.1, v.2.2.2.2.1, v.2.2.2.2.2.1, v.2.2.2.2.2.2.1, v.2.2.2.2.2.2.2.1, v.2.2.2.2.2.2.2.2.1, v.2.2.2.2.2.2.2.2.2.1, v.2.2.2.2.2.2.2.2.2.2)) H := hP
  have hD : va_D A (zX7 g a ((upd (upd (upd (upd v.1 (((70 + (3 * (v.1 8))) + 0).toNatClampNeg) p0) (((70 + (3 * (v.1 8))) + 1).toNatClampNeg) 0) (((70 + (3 * (v.1 8))) + 2).toNatClampNeg) (-1)) 8 (((upd (upd (upd v.1 (((70 + (3 * (v.1 8))) + 0).toNatClampNeg) p0) (((70 + (3 * (v.1 8))) + 1).toNatClampNeg) 0) (((70 + (3 * (v.1 8))) + 2).toNatClampNeg) (-1)) 8) + 1)), v.2.1, v.2.2.1, v.2.2.2.1, v.2.2.2.2.1, v.2.2.2.2.2.1, v.2.2.2.2.2.2.1, v.2.2.2.2.2.2.2.1, v.2.2.2.2.2.2.2.2.1, v.2.2.2.2.2.2.2.2.2.1, v.2.2.2.2.2.2.2.2.2.2)) := hD
  have hR : ((upd (upd (upd (upd v.1 (((70 + (3 * (v.1 8))) + 0).toNatClampNeg) p0) (((70 + (3 * (v.1 8))) + 1).toNatClampNeg) 0) (((70 + (3 * (v.1 8))) + 2).toNatClampNeg) (-1)) 8 (((upd (upd (upd v.1 (((70 + (3 * (v.1 8))) + 0).toNatClampNeg) p0) (((70 + (3 * (v.1 8))) + 1).toNatClampNeg) 0) (((70 + (3 * (v.1 8))) + 2).toNatClampNeg) (-1)) 8) + 1)), v.2.1, v.2.2.1, v.2.2.2.1, v.2.2.2.2.1, v.2.2.2.2.2.1, v.2.2.2.2.2.2.1, v.2.2.2.2.2.2.2.1, v.2.2.2.2.2.2.2.2.1, v.2.2.2.2.2.2.2.2.2.1, v.2.2.2.2.2.2.2.2.2.2) = r := Option.some.inj hf
  subst hR
  exact W.vret hx hb hr0 (fun t ht hW => ⟨⟨(), rfl, trivial, by rw [ht]; exact hP, hD⟩, hS.F ht⟩) hS.2.2 dX7_putFiller_51
theorem hd_X7_addElement : yX7_addElement.cls ≠ "java/lang/invoke/MethodHandle" ∧ yX7_addElement.cls ≠ "java/lang/invoke/VarHandle" ∧ (parseMethodDescriptor yX7_addElement.desc).map (fun d => d.parameters.length) = some 3 := by decide +kernel
def f_X7_addElement (v : MV) (p0 : Int32) (p1 : Int32) (p2 : Int32) : Option (Int32 × MV) :=
  (f_X7_in p0 1 1800).bind (fun u1 =>
  if (zb u1) = 0 then
    (f_X7_fails v 1).bind (fun u3 =>
    some (u3.1, u3.2))
  else
    (f_X7_in p1 (-1) 3599).bind (fun u4 =>
    if (zb u4) = 0 then
      (f_X7_fails v 1).bind (fun u6 =>
      some (u6.1, u6.2))
    else
      (f_X7_in p2 0 9).bind (fun u7 =>
      if (zb u7) = 0 then
        (f_X7_fails v 1).bind (fun u15 =>
        some (u15.1, u15.2))
      else
        if (v.1 7) = 12 then
          (f_X7_fails v 2).bind (fun u10 =>
          some (u10.1, u10.2))
        else
          if (v.1 1) = 1 then
            (f_X7_fails v 2).bind (fun u14 =>
            some (u14.1, u14.2))
          else
            (f_X7_save v).bind (fun u12 =>
            (f_X7_putElement u12 p0 p1 p2).bind (fun u13 =>
            some (((u13.1 7) - 1), u13))))))
set_option maxHeartbeats 4000000 in
set_option maxRecDepth 100000 in
theorem c_X7_addElement (l : Launch) (g : zG) (a : Nat → Nat) (v : MV) (p0 : Int32) (p1 : Int32) (p2 : Int32) (r : Int32 × MV) (hf : f_X7_addElement v p0 p1 p2 = some r) : zMi zNF zNM l yX7_addElement (zw yX7_addElement cX7_addElement 4 (some .int)) ({ frames := 1, cells := 0, slots := 0, locals := 24 } : Room) g [.ref (a 0), .int p0, .int p1, .int p2] (zX7 g a v) r.1 (zX7 g a r.2) := by
  intro sz
  refine Met.ofW (cc := cX7_addElement) (maxL := 4) (ret := (some .int)) (by decide) rfl ?_
  intro p e s m args below meth c s₁ B hml hv
  obtain ⟨rfl, hsz, hP, hK, hD0⟩ := hv
  have hx := B.exec
  have hb := B.bytes
  have hr0 := B.returns
  have hts := atoms_spec (ws := (zw yX7_addElement cX7_addElement 4 (some .int))) B.pre
  have hw0 : ∀ w ∈ zW, w.before ([.ref (a 0), .int p0, .int p1, .int p2] : List Value).toArray s = true := fun w h => hts w (List.mem_cons_of_mem _ h)
  have hown : s.vm.findClass RX7 = some m.cls := findClass_of_methodNamed B.named
  have hlocks := B.notSynchronized
  subst hsz
  have hD := hD0.self (sz := s.heap.size)
  generalize hAe : va_A (zX7 g a v) s.heap.size = A at hD ⊢
  have hA : ∀ q : Nat, s.heap.size ≤ q → A q := fun q h => by rw [← hAe]; exact Or.inr h
  have hS : va_S A s.heap s.heap [] := va_S.rf
  unfold f_X7_addElement at hf
  have hl := lv_entry ([.ref (a 0), .int p0, .int p1, .int p2]) (n := 4) (Nat.le_of_ble_eq_true rfl)
  rw [lg_entry_eq]
  generalize (lg_sl ([.ref (a 0), .int p0, .int p1, .int p2]) ++ List.replicate (4 - (lg_sl ([.ref (a 0), .int p0, .int p1, .int p2])).length) Slot.unset).toArray = ls at hl ⊢
  have hl : lv_has ls 4 [(0, .ref (a 0)), (1, .int p0), (2, .int p1), (3, .int p2)] := hl
  refine lv_iload_n hx hb dX7_addElement_0 rfl (lv_at hl 1 rfl) ?_
  refine lv_iconst (v := 1) hx hb dX7_addElement_1 (by decide) ?_
  refine lv_sipush (v := 1800) hx hb dX7_addElement_2 (by decide) ?_
  obtain ⟨u1, hu1, hf⟩ := ob hf
  refine zk_iR (va_runS (As := [.int p0, .int 1, .int 1800]) (rest := []) ⟨hx, hb, hml, hown, hts⟩ (c_X7_in l g p0 1 1800 _ hu1 _) (zcS hw0 zm4_113 zm4_115 zm1_8 zm4_114 hd_X7_in rfl rfl ⟨Nat.le_of_ble_eq_true rfl, Nat.le_of_ble_eq_true rfl⟩) ⟨zblind, zpre hK hP hD [] rfl rfl⟩ rfl rfl hl.1 rfl (lv_room (Nat.le_of_ble_eq_true rfl)) dX7_addElement_5 ⟨Nat.zero_le _, Nat.zero_le _⟩) hP hD hS hA [] rfl (fun H locs hP hD hS => ?_)
  refine lv_if_eq (tgt := 32) hx hb dX7_addElement_8 (by decide) (fun c2 => ?_) (fun c2 => ?_)
  · have hf := oi hf c2
    refine lv_aload_n hx hb dX7_addElement_32 rfl (lv_at hl 0 rfl) ?_
    refine lv_iconst (v := 1) hx hb dX7_addElement_33 (by decide) ?_
    obtain ⟨u3, hu3, hf⟩ := ob hf
    refine zk_iA (va_runV (As := [.int 1]) (rest := []) ⟨hx, hb, hml, hown, hts⟩ (c_X7_fails l g a v 1 _ hu3 _) (zcV hw0 zm4_116 zm4_119 zm1_8 zm4_118 zs5_1 hd_X7_fails rfl rfl ⟨Nat.le_of_ble_eq_true rfl, Nat.le_of_ble_eq_true rfl⟩) ⟨zblind, zrecvA hK hP (ci := 7) rfl rfl, zpreA hK hP hD⟩ rfl rfl hl.1 rfl (lv_room (Nat.le_of_ble_eq_true rfl)) dX7_addElement_34 ⟨Nat.zero_le _, Nat.zero_le _⟩) hP hD hS hA (fun H locs hP hD hS => ?_)
    have hP : va_P g.1 vwCl (zX7 g a u3.2) H := hP
    have hD : va_D A (zX7 g a u3.2) := hD
    have hR : (u3.1, u3.2) = r := Option.some.inj hf
    subst hR
    exact W.iret (v := u3.1) hx hb hr0 (fun t ht hW => ⟨⟨u3.1, (), rfl, rfl, by rw [ht]; exact hP, hD⟩, hS.F ht⟩) hS.2.2 dX7_addElement_37
  · have hf := oe hf c2
    refine lv_iload_n hx hb dX7_addElement_11 rfl (lv_at hl 2 rfl) ?_
    refine lv_iconst (v := (-1)) hx hb dX7_addElement_12 (by decide) ?_
    refine lv_sipush (v := 3599) hx hb dX7_addElement_13 (by decide) ?_
    obtain ⟨u4, hu4, hf⟩ := ob hf
    refine zk_iR (va_runS (As := [.int p1, .int (-1), .int 3599]) (rest := []) ⟨hx, hb, hml, hown, hts⟩ (c_X7_in l g p1 (-1) 3599 _ hu4 _) (zcS hw0 zm4_113 zm4_115 zm1_8 zm4_114 hd_X7_in rfl rfl ⟨Nat.le_of_ble_eq_true rfl, Nat.le_of_ble_eq_true rfl⟩) ⟨zblind, zpre hK hP hD [] rfl rfl⟩ rfl rfl hl.1 rfl (lv_room (Nat.le_of_ble_eq_true rfl)) dX7_addElement_16 ⟨Nat.zero_le _, Nat.zero_le _⟩) hP hD hS hA [] rfl (fun H locs hP hD hS => ?_)
    refine lv_if_eq (tgt := 32) hx hb dX7_addElement_19 (by decide) (fun c5 => ?_) (fun c5 => ?_)
    · have hf := oi hf c5
      refine lv_aload_n hx hb dX7_addElement_32 rfl (lv_at hl 0 rfl) ?_
      refine lv_iconst (v := 1) hx hb dX7_addElement_33 (by decide) ?_
      obtain ⟨u6, hu6, hf⟩ := ob hf
      refine zk_iA (va_runV (As := [.int 1]) (rest := []) ⟨hx, hb, hml, hown, hts⟩ (c_X7_fails l g a v 1 _ hu6 _) (zcV hw0 zm4_116 zm4_119 zm1_8 zm4_118 zs5_1 hd_X7_fails rfl rfl ⟨Nat.le_of_ble_eq_true rfl, Nat.le_of_ble_eq_true rfl⟩) ⟨zblind, zrecvA hK hP (ci := 7) rfl rfl, zpreA hK hP hD⟩ rfl rfl hl.1 rfl (lv_room (Nat.le_of_ble_eq_true rfl)) dX7_addElement_34 ⟨Nat.zero_le _, Nat.zero_le _⟩) hP hD hS hA (fun H locs hP hD hS => ?_)
      have hP : va_P g.1 vwCl (zX7 g a u6.2) H := hP
      have hD : va_D A (zX7 g a u6.2) := hD
      have hR : (u6.1, u6.2) = r := Option.some.inj hf
      subst hR
      exact W.iret (v := u6.1) hx hb hr0 (fun t ht hW => ⟨⟨u6.1, (), rfl, rfl, by rw [ht]; exact hP, hD⟩, hS.F ht⟩) hS.2.2 dX7_addElement_37
    · have hf := oe hf c5
      refine lv_iload_n hx hb dX7_addElement_22 rfl (lv_at hl 3 rfl) ?_
      refine lv_iconst (v := 0) hx hb dX7_addElement_23 (by decide) ?_
      refine lv_bipush (v := 9) hx hb dX7_addElement_24 (by decide) ?_
      obtain ⟨u7, hu7, hf⟩ := ob hf
      refine zk_iR (va_runS (As := [.int p2, .int 0, .int 9]) (rest := []) ⟨hx, hb, hml, hown, hts⟩ (c_X7_in l g p2 0 9 _ hu7 _) (zcS hw0 zm4_113 zm4_115 zm1_8 zm4_114 hd_X7_in rfl rfl ⟨Nat.le_of_ble_eq_true rfl, Nat.le_of_ble_eq_true rfl⟩) ⟨zblind, zpre hK hP hD [] rfl rfl⟩ rfl rfl hl.1 rfl (lv_room (Nat.le_of_ble_eq_true rfl)) dX7_addElement_26 ⟨Nat.zero_le _, Nat.zero_le _⟩) hP hD hS hA [] rfl (fun H locs hP hD hS => ?_)
      refine lv_if_ne (tgt := 38) hx hb dX7_addElement_29 (by decide) (fun c8 => ?_) (fun c8 => ?_)
      · have hf := oe hf c8
        refine lv_aload_n hx hb dX7_addElement_38 rfl (lv_at hl 0 rfl) ?_
        refine va_get (D := g.1) (ci := 7) (v := .ref (a 1)) (C := RX7) (T := TX7) (N := 11) hx hb hw0 ziX7 hown hK.1 hP 0 rfl rfl 0 (by decide) (hw0 _ zm4_71) (fun _ h9 => h9) rfl dX7_addElement_39 ?_
        refine lv_bipush (v := 7) hx hb dX7_addElement_42 (by decide) ?_
        refine zald (D := g.1) (f := v.1) (k := 7) hx hb hK.1 hP 1 0 rfl rfl (zin_vp (i := 7) (n := 220) rfl) rfl dX7_addElement_44 ?_
        refine lv_bipush (v := 12) hx hb dX7_addElement_45 (by decide) ?_
        refine lv_icmp_eq (tgt := 60) hx hb dX7_addElement_47 (by decide) (fun c9 => ?_) (fun c9 => ?_)
        · have hf := oi hf c9
          refine lv_aload_n hx hb dX7_addElement_60 rfl (lv_at hl 0 rfl) ?_
          refine lv_iconst (v := 2) hx hb dX7_addElement_61 (by decide) ?_
          obtain ⟨u10, hu10, hf⟩ := ob hf
          refine zk_iA (va_runV (As := [.int 2]) (rest := []) ⟨hx, hb, hml, hown, hts⟩ (c_X7_fails l g a v 2 _ hu10 _) (zcV hw0 zm4_116 zm4_119 zm1_8 zm4_118 zs5_1 hd_X7_fails rfl rfl ⟨Nat.le_of_ble_eq_true rfl, Nat.le_of_ble_eq_true rfl⟩) ⟨zblind, zrecvA hK hP (ci := 7) rfl rfl, zpreA hK hP hD⟩ rfl rfl hl.1 rfl (lv_room (Nat.le_of_ble_eq_true rfl)) dX7_addElement_62 ⟨Nat.zero_le _, Nat.zero_le _⟩) hP hD hS hA (fun H locs hP hD hS => ?_)
          have hP : va_P g.1 vwCl (zX7 g a u10.2) H := hP
          have hD : va_D A (zX7 g a u10.2) := hD
          have hR : (u10.1, u10.2) = r := Option.some.inj hf
          subst hR
          exact W.iret (v := u10.1) hx hb hr0 (fun t ht hW => ⟨⟨u10.1, (), rfl, rfl, by rw [ht]; exact hP, hD⟩, hS.F ht⟩) hS.2.2 dX7_addElement_65
        · have hf := oe hf c9
          refine lv_aload_n hx hb dX7_addElement_50 rfl (lv_at hl 0 rfl) ?_
          refine va_get (D := g.1) (ci := 7) (v := .ref (a 1)) (C := RX7) (T := TX7) (N := 11) hx hb hw0 ziX7 hown hK.1 hP 0 rfl rfl 0 (by decide) (hw0 _ zm4_71) (fun _ h9 => h9) rfl dX7_addElement_51 ?_
          refine lv_iconst (v := 1) hx hb dX7_addElement_54 (by decide) ?_
          refine zald (D := g.1) (f := v.1) (k := 1) hx hb hK.1 hP 1 0 rfl rfl (zin_vp (i := 1) (n := 220) rfl) rfl dX7_addElement_55 ?_
          refine lv_iconst (v := 1) hx hb dX7_addElement_56 (by decide) ?_
          refine lv_icmp_ne (tgt := 66) hx hb dX7_addElement_57 (by decide) (fun c11 => ?_) (fun c11 => ?_)
          · have hf := oe hf c11
            refine lv_aload_n hx hb dX7_addElement_66 rfl (lv_at hl 0 rfl) ?_
            obtain ⟨u12, hu12, hf⟩ := ob hf
            refine zk_vA (va_runV (As := []) (rest := []) ⟨hx, hb, hml, hown, hts⟩ (c_X7_save l g a v _ hu12 _) (zcV hw0 zm4_120 zm4_123 zm1_8 zm4_122 zs5_2 hd_X7_save rfl rfl ⟨Nat.le_of_ble_eq_true rfl, Nat.le_of_ble_eq_true rfl⟩) ⟨zblind, zrecvA hK hP (ci := 7) rfl rfl, zpreA hK hP hD⟩ rfl rfl hl.1 rfl (lv_room (Nat.le_of_ble_eq_true rfl)) dX7_addElement_67 ⟨Nat.zero_le _, Nat.zero_le _⟩) hP hD hS hA (fun H locs hP hD hS => ?_)
            have hP : va_P g.1 vwCl (zX7 g a u12) H := hP
            have hD : va_D A (zX7 g a u12) := hD
            refine lv_aload_n hx hb dX7_addElement_70 rfl (lv_at hl 0 rfl) ?_
            refine lv_iload_n hx hb dX7_addElement_71 rfl (lv_at hl 1 rfl) ?_
            refine lv_iload_n hx hb dX7_addElement_72 rfl (lv_at hl 2 rfl) ?_
            refine lv_iload_n hx hb dX7_addElement_73 rfl (lv_at hl 3 rfl) ?_
            obtain ⟨u13, hu13, hf⟩ := ob hf
            refine zk_vA (va_runV (As := [.int p0, .int p1, .int p2]) (rest := []) ⟨hx, hb, hml, hown, hts⟩ (c_X7_putElement l g a u12 p0 p1 p2 _ hu13 _) (zcV hw0 zm4_124 zm4_127 zm1_8 zm4_126 zs5_3 hd_X7_putElement rfl rfl ⟨Nat.le_of_ble_eq_true rfl, Nat.le_of_ble_eq_true rfl⟩) ⟨zblind, zrecvA hK hP (ci := 7) rfl rfl, zpreA hK hP hD⟩ rfl rfl hl.1 rfl (lv_room (Nat.le_of_ble_eq_true rfl)) dX7_addElement_74 ⟨Nat.zero_le _, Nat.zero_le _⟩) hP hD hS hA (fun H locs hP hD hS => ?_)
            have hP : va_P g.1 vwCl (zX7 g a u13) H := hP
            have hD : va_D A (zX7 g a u13) := hD
            refine lv_aload_n hx hb dX7_addElement_77 rfl (lv_at hl 0 rfl) ?_
            refine va_get (D := g.1) (ci := 7) (v := .ref (a 1)) (C := RX7) (T := TX7) (N := 11) hx hb hw0 ziX7 hown hK.1 hP 0 rfl rfl 0 (by decide) (hw0 _ zm4_71) (fun _ h9 => h9) rfl dX7_addElement_78 ?_
            refine lv_bipush (v := 7) hx hb dX7_addElement_81 (by decide) ?_
            refine zald (D := g.1) (f := u13.1) (k := 7) hx hb hK.1 hP 1 0 rfl rfl (zin_vp (i := 7) (n := 220) rfl) rfl dX7_addElement_83 ?_
            refine lv_iconst (v := 1) hx hb dX7_addElement_84 (by decide) ?_
            refine lv_isub hx hb dX7_addElement_85 ?_
            have hR : (((u13.1 7) - 1), u13) = r := Option.some.inj hf
            subst hR
            exact W.iret (v := ((u13.1 7) - 1)) hx hb hr0 (fun t ht hW => ⟨⟨((u13.1 7) - 1), (), rfl, rfl, by rw [ht]; exact hP, hD⟩, hS.F ht⟩) hS.2.2 dX7_addElement_86
          · have hf := oi hf c11
            refine lv_aload_n hx hb dX7_addElement_60 rfl (lv_at hl 0 rfl) ?_
            refine lv_iconst (v := 2) hx hb dX7_addElement_61 (by decide) ?_
            obtain ⟨u14, hu14, hf⟩ := ob hf
            refine zk_iA (va_runV (As := [.int 2]) (rest := []) ⟨hx, hb, hml, hown, hts⟩ (c_X7_fails l g a v 2 _ hu14 _) (zcV hw0 zm4_116 zm4_119 zm1_8 zm4_118 zs5_1 hd_X7_fails rfl rfl ⟨Nat.le_of_ble_eq_true rfl, Nat.le_of_ble_eq_true rfl⟩) ⟨zblind, zrecvA hK hP (ci := 7) rfl rfl, zpreA hK hP hD⟩ rfl rfl hl.1 rfl (lv_room (Nat.le_of_ble_eq_true rfl)) dX7_addElement_62 ⟨Nat.zero_le _, Nat.zero_le _⟩) hP hD hS hA (fun H locs hP hD hS => ?_)
            have hP : va_P g.1 vwCl (zX7 g a u14.2) H := hP
            have hD : va_D A (zX7 g a u14.2) := hD
            have hR : (u14.1, u14.2) = r := Option.some.inj hf
            subst hR
            exact W.iret (v := u14.1) hx hb hr0 (fun t ht hW => ⟨⟨u14.1, (), rfl, rfl, by rw [ht]; exact hP, hD⟩, hS.F ht⟩) hS.2.2 dX7_addElement_65
      · have hf := oi hf c8
        refine lv_aload_n hx hb dX7_addElement_32 rfl (lv_at hl 0 rfl) ?_
        refine lv_iconst (v := 1) hx hb dX7_addElement_33 (by decide) ?_
        obtain ⟨u15, hu15, hf⟩ := ob hf
        refine zk_iA (va_runV (As := [.int 1]) (rest := []) ⟨hx, hb, hml, hown, hts⟩ (c_X7_fails l g a v 1 _ hu15 _) (zcV hw0 zm4_116 zm4_119 zm1_8 zm4_118 zs5_1 hd_X7_fails rfl rfl ⟨Nat.le_of_ble_eq_true rfl, Nat.le_of_ble_eq_true rfl⟩) ⟨zblind, zrecvA hK hP (ci := 7) rfl rfl, zpreA hK hP hD⟩ rfl rfl hl.1 rfl (lv_room (Nat.le_of_ble_eq_true rfl)) dX7_addElement_34 ⟨Nat.zero_le _, Nat.zero_le _⟩) hP hD hS hA (fun H locs hP hD hS => ?_)
        have hP : va_P g.1 vwCl (zX7 g a u15.2) H := hP
        have hD : va_D A (zX7 g a u15.2) := hD
        have hR : (u15.1, u15.2) = r := Option.some.inj hf
        subst hR
        exact W.iret (v := u15.1) hx hb hr0 (fun t ht hW => ⟨⟨u15.1, (), rfl, rfl, by rw [ht]; exact hP, hD⟩, hS.F ht⟩) hS.2.2 dX7_addElement_37
theorem hd_X7_addFiller : yX7_addFiller.cls ≠ "java/lang/invoke/MethodHandle" ∧ yX7_addFiller.cls ≠ "java/lang/invoke/VarHandle" ∧ (parseMethodDescriptor yX7_addFiller.desc).map (fun d => d.parameters.length) = some 1 := by decide +kernel
def f_X7_addFiller (v : MV) (p0 : Int32) : Option (Int32 × MV) :=
  (f_X7_in p0 1 900).bind (fun u1 =>
  if (zb u1) = 0 then
    (f_X7_fails v 1).bind (fun u9 =>
    some (u9.1, u9.2))
  else
    if (v.1 8) = 10 then
      (f_X7_fails v 2).bind (fun u4 =>
      some (u4.1, u4.2))
    else
      if (v.1 1) = 1 then
        (f_X7_fails v 2).bind (fun u8 =>
        some (u8.1, u8.2))
      else
        (f_X7_save v).bind (fun u6 =>
        (f_X7_putFiller u6 p0).bind (fun u7 =>
        some (((u7.1 8) - 1), u7))))
set_option maxHeartbeats 4000000 in
set_option maxRecDepth 100000 in
theorem c_X7_addFiller (l : Launch) (g : zG) (a : Nat → Nat) (v : MV) (p0 : Int32) (r : Int32 × MV) (hf : f_X7_addFiller v p0 = some r) : zMi zNF zNM l yX7_addFiller (zw yX7_addFiller cX7_addFiller 2 (some .int)) ({ frames := 1, cells := 0, slots := 0, locals := 22 } : Room) g [.ref (a 0), .int p0] (zX7 g a v) r.1 (zX7 g a r.2) := by
  intro sz
  refine Met.ofW (cc := cX7_addFiller) (maxL := 2) (ret := (some .int)) (by decide) rfl ?_
  intro p e s m args below meth c s₁ B hml hv
  obtain ⟨rfl, hsz, hP, hK, hD0⟩ := hv
  have hx := B.exec
  have hb := B.bytes
  have hr0 := B.returns
  have hts := atoms_spec (ws := (zw yX7_addFiller cX7_addFiller 2 (some .int))) B.pre
  have hw0 : ∀ w ∈ zW, w.before ([.ref (a 0), .int p0] : List Value).toArray s = true := fun w h => hts w (List.mem_cons_of_mem _ h)
  have hown : s.vm.findClass RX7 = some m.cls := findClass_of_methodNamed B.named
  have hlocks := B.notSynchronized
  subst hsz
  have hD := hD0.self (sz := s.heap.size)
  generalize hAe : va_A (zX7 g a v) s.heap.size = A at hD ⊢
  have hA : ∀ q : Nat, s.heap.size ≤ q → A q := fun q h => by rw [← hAe]; exact Or.inr h
  have hS : va_S A s.heap s.heap [] := va_S.rf
  unfold f_X7_addFiller at hf
  have hl := lv_entry ([.ref (a 0), .int p0]) (n := 2) (Nat.le_of_ble_eq_true rfl)
  rw [lg_entry_eq]
  generalize (lg_sl ([.ref (a 0), .int p0]) ++ List.replicate (2 - (lg_sl ([.ref (a 0), .int p0])).length) Slot.unset).toArray = ls at hl ⊢
  have hl : lv_has ls 2 [(0, .ref (a 0)), (1, .int p0)] := hl
  refine lv_iload_n hx hb dX7_addFiller_0 rfl (lv_at hl 1 rfl) ?_
  refine lv_iconst (v := 1) hx hb dX7_addFiller_1 (by decide) ?_
  refine lv_sipush (v := 900) hx hb dX7_addFiller_2 (by decide) ?_
  obtain ⟨u1, hu1, hf⟩ := ob hf
  refine zk_iR (va_runS (As := [.int p0, .int 1, .int 900]) (rest := []) ⟨hx, hb, hml, hown, hts⟩ (c_X7_in l g p0 1 900 _ hu1 _) (zcS hw0 zm4_113 zm4_115 zm1_8 zm4_114 hd_X7_in rfl rfl ⟨Nat.le_of_ble_eq_true rfl, Nat.le_of_ble_eq_true rfl⟩) ⟨zblind, zpre hK hP hD [] rfl rfl⟩ rfl rfl hl.1 rfl (lv_room (Nat.le_of_ble_eq_true rfl)) dX7_addFiller_5 ⟨Nat.zero_le _, Nat.zero_le _⟩) hP hD hS hA [] rfl (fun H locs hP hD hS => ?_)
  refine lv_if_ne (tgt := 17) hx hb dX7_addFiller_8 (by decide) (fun c2 => ?_) (fun c2 => ?_)
  · have hf := oe hf c2
    refine lv_aload_n hx hb dX7_addFiller_17 rfl (lv_at hl 0 rfl) ?_
    refine va_get (D := g.1) (ci := 7) (v := .ref (a 1)) (C := RX7) (T := TX7) (N := 11) hx hb hw0 ziX7 hown hK.1 hP 0 rfl rfl 0 (by decide) (hw0 _ zm4_71) (fun _ h9 => h9) rfl dX7_addFiller_18 ?_
    refine lv_bipush (v := 8) hx hb dX7_addFiller_21 (by decide) ?_
    refine zald (D := g.1) (f := v.1) (k := 8) hx hb hK.1 hP 1 0 rfl rfl (zin_vp (i := 8) (n := 220) rfl) rfl dX7_addFiller_23 ?_
    refine lv_bipush (v := 10) hx hb dX7_addFiller_24 (by decide) ?_
    refine lv_icmp_eq (tgt := 39) hx hb dX7_addFiller_26 (by decide) (fun c3 => ?_) (fun c3 => ?_)
    · have hf := oi hf c3
      refine lv_aload_n hx hb dX7_addFiller_39 rfl (lv_at hl 0 rfl) ?_
      refine lv_iconst (v := 2) hx hb dX7_addFiller_40 (by decide) ?_
      obtain ⟨u4, hu4, hf⟩ := ob hf
      refine zk_iA (va_runV (As := [.int 2]) (rest := []) ⟨hx, hb, hml, hown, hts⟩ (c_X7_fails l g a v 2 _ hu4 _) (zcV hw0 zm4_116 zm4_119 zm1_8 zm4_118 zs5_1 hd_X7_fails rfl rfl ⟨Nat.le_of_ble_eq_true rfl, Nat.le_of_ble_eq_true rfl⟩) ⟨zblind, zrecvA hK hP (ci := 7) rfl rfl, zpreA hK hP hD⟩ rfl rfl hl.1 rfl (lv_room (Nat.le_of_ble_eq_true rfl)) dX7_addFiller_41 ⟨Nat.zero_le _, Nat.zero_le _⟩) hP hD hS hA (fun H locs hP hD hS => ?_)
      have hP : va_P g.1 vwCl (zX7 g a u4.2) H := hP
      have hD : va_D A (zX7 g a u4.2) := hD
      have hR : (u4.1, u4.2) = r := Option.some.inj hf
      subst hR
      exact W.iret (v := u4.1) hx hb hr0 (fun t ht hW => ⟨⟨u4.1, (), rfl, rfl, by rw [ht]; exact hP, hD⟩, hS.F ht⟩) hS.2.2 dX7_addFiller_44
    · have hf := oe hf c3
      refine lv_aload_n hx hb dX7_addFiller_29 rfl (lv_at hl 0 rfl) ?_
      refine va_get (D := g.1) (ci := 7) (v := .ref (a 1)) (C := RX7) (T := TX7) (N := 11) hx hb hw0 ziX7 hown hK.1 hP 0 rfl rfl 0 (by decide) (hw0 _ zm4_71) (fun _ h9 => h9) rfl dX7_addFiller_30 ?_
      refine lv_iconst (v := 1) hx hb dX7_addFiller_33 (by decide) ?_
      refine zald (D := g.1) (f := v.1) (k := 1) hx hb hK.1 hP 1 0 rfl rfl (zin_vp (i := 1) (n := 220) rfl) rfl dX7_addFiller_34 ?_
      refine lv_iconst (v := 1) hx hb dX7_addFiller_35 (by decide) ?_
      refine lv_icmp_ne (tgt := 45) hx hb dX7_addFiller_36 (by decide) (fun c5 => ?_) (fun c5 => ?_)
      · have hf := oe hf c5
        refine lv_aload_n hx hb dX7_addFiller_45 rfl (lv_at hl 0 rfl) ?_
        obtain ⟨u6, hu6, hf⟩ := ob hf
        refine zk_vA (va_runV (As := []) (rest := []) ⟨hx, hb, hml, hown, hts⟩ (c_X7_save l g a v _ hu6 _) (zcV hw0 zm4_120 zm4_123 zm1_8 zm4_122 zs5_2 hd_X7_save rfl rfl ⟨Nat.le_of_ble_eq_true rfl, Nat.le_of_ble_eq_true rfl⟩) ⟨zblind, zrecvA hK hP (ci := 7) rfl rfl, zpreA hK hP hD⟩ rfl rfl hl.1 rfl (lv_room (Nat.le_of_ble_eq_true rfl)) dX7_addFiller_46 ⟨Nat.zero_le _, Nat.zero_le _⟩) hP hD hS hA (fun H locs hP hD hS => ?_)
        have hP : va_P g.1 vwCl (zX7 g a u6) H := hP
        have hD : va_D A (zX7 g a u6) := hD
        refine lv_aload_n hx hb dX7_addFiller_49 rfl (lv_at hl 0 rfl) ?_
        refine lv_iload_n hx hb dX7_addFiller_50 rfl (lv_at hl 1 rfl) ?_
        obtain ⟨u7, hu7, hf⟩ := ob hf
        refine zk_vA (va_runV (As := [.int p0]) (rest := []) ⟨hx, hb, hml, hown, hts⟩ (c_X7_putFiller l g a u6 p0 _ hu7 _) (zcV hw0 zm4_132 zm4_135 zm1_8 zm4_134 zs5_4 hd_X7_putFiller rfl rfl ⟨Nat.le_of_ble_eq_true rfl, Nat.le_of_ble_eq_true rfl⟩) ⟨zblind, zrecvA hK hP (ci := 7) rfl rfl, zpreA hK hP hD⟩ rfl rfl hl.1 rfl (lv_room (Nat.le_of_ble_eq_true rfl)) dX7_addFiller_51 ⟨Nat.zero_le _, Nat.zero_le _⟩) hP hD hS hA (fun H locs hP hD hS => ?_)
        have hP : va_P g.1 vwCl (zX7 g a u7) H := hP
        have hD : va_D A (zX7 g a u7) := hD
        refine lv_aload_n hx hb dX7_addFiller_54 rfl (lv_at hl 0 rfl) ?_
        refine va_get (D := g.1) (ci := 7) (v := .ref (a 1)) (C := RX7) (T := TX7) (N := 11) hx hb hw0 ziX7 hown hK.1 hP 0 rfl rfl 0 (by decide) (hw0 _ zm4_71) (fun _ h9 => h9) rfl dX7_addFiller_55 ?_
        refine lv_bipush (v := 8) hx hb dX7_addFiller_58 (by decide) ?_
        refine zald (D := g.1) (f := u7.1) (k := 8) hx hb hK.1 hP 1 0 rfl rfl (zin_vp (i := 8) (n := 220) rfl) rfl dX7_addFiller_60 ?_
        refine lv_iconst (v := 1) hx hb dX7_addFiller_61 (by decide) ?_
        refine lv_isub hx hb dX7_addFiller_62 ?_
        have hR : (((u7.1 8) - 1), u7) = r := Option.some.inj hf
        subst hR
        exact W.iret (v := ((u7.1 8) - 1)) hx hb hr0 (fun t ht hW => ⟨⟨((u7.1 8) - 1), (), rfl, rfl, by rw [ht]; exact hP, hD⟩, hS.F ht⟩) hS.2.2 dX7_addFiller_63
      · have hf := oi hf c5
        refine lv_aload_n hx hb dX7_addFiller_39 rfl (lv_at hl 0 rfl) ?_
        refine lv_iconst (v := 2) hx hb dX7_addFiller_40 (by decide) ?_
        obtain ⟨u8, hu8, hf⟩ := ob hf
        refine zk_iA (va_runV (As := [.int 2]) (rest := []) ⟨hx, hb, hml, hown, hts⟩ (c_X7_fails l g a v 2 _ hu8 _) (zcV hw0 zm4_116 zm4_119 zm1_8 zm4_118 zs5_1 hd_X7_fails rfl rfl ⟨Nat.le_of_ble_eq_true rfl, Nat.le_of_ble_eq_true rfl⟩) ⟨zblind, zrecvA hK hP (ci := 7) rfl rfl, zpreA hK hP hD⟩ rfl rfl hl.1 rfl (lv_room (Nat.le_of_ble_eq_true rfl)) dX7_addFiller_41 ⟨Nat.zero_le _, Nat.zero_le _⟩) hP hD hS hA (fun H locs hP hD hS => ?_)
        have hP : va_P g.1 vwCl (zX7 g a u8.2) H := hP
        have hD : va_D A (zX7 g a u8.2) := hD
        have hR : (u8.1, u8.2) = r := Option.some.inj hf
        subst hR
        exact W.iret (v := u8.1) hx hb hr0 (fun t ht hW => ⟨⟨u8.1, (), rfl, rfl, by rw [ht]; exact hP, hD⟩, hS.F ht⟩) hS.2.2 dX7_addFiller_44
  · have hf := oi hf c2
    refine lv_aload_n hx hb dX7_addFiller_11 rfl (lv_at hl 0 rfl) ?_
    refine lv_iconst (v := 1) hx hb dX7_addFiller_12 (by decide) ?_
    obtain ⟨u9, hu9, hf⟩ := ob hf
    refine zk_iA (va_runV (As := [.int 1]) (rest := []) ⟨hx, hb, hml, hown, hts⟩ (c_X7_fails l g a v 1 _ hu9 _) (zcV hw0 zm4_116 zm4_119 zm1_8 zm4_118 zs5_1 hd_X7_fails rfl rfl ⟨Nat.le_of_ble_eq_true rfl, Nat.le_of_ble_eq_true rfl⟩) ⟨zblind, zrecvA hK hP (ci := 7) rfl rfl, zpreA hK hP hD⟩ rfl rfl hl.1 rfl (lv_room (Nat.le_of_ble_eq_true rfl)) dX7_addFiller_13 ⟨Nat.zero_le _, Nat.zero_le _⟩) hP hD hS hA (fun H locs hP hD hS => ?_)
    have hP : va_P g.1 vwCl (zX7 g a u9.2) H := hP
    have hD : va_D A (zX7 g a u9.2) := hD
    have hR : (u9.1, u9.2) = r := Option.some.inj hf
    subst hR
    exact W.iret (v := u9.1) hx hb hr0 (fun t ht hW => ⟨⟨u9.1, (), rfl, rfl, by rw [ht]; exact hP, hD⟩, hS.F ht⟩) hS.2.2 dX7_addFiller_16
theorem hd_X7_canBe : yX7_canBe.cls ≠ "java/lang/invoke/MethodHandle" ∧ yX7_canBe.cls ≠ "java/lang/invoke/VarHandle" ∧ (parseMethodDescriptor yX7_canBe.desc).map (fun d => d.parameters.length) = some 2 := by decide +kernel
def f_X7_canBe (v : MV) (p0 : Int32) (p1 : Int32) : Option (Bool) :=
  (f_X7_in p1 1 3600).bind (fun u1 =>
  if (zb u1) = 0 then
    some false
  else
    (f_X7_of v p0 3).bind (fun u3 =>
    if 2 ≤ u3 then
      some false
    else
      (f_X7_of v p0 3).bind (fun u5 =>
      if u5 = 0 then
        some true
      else
        (f_X7_of v p0 4).bind (fun u7 =>
        if (u7 + p1) < (v.1 0) then
          some false
        else
          some true))))
set_option maxHeartbeats 4000000 in
set_option maxRecDepth 100000 in
theorem c_X7_canBe (l : Launch) (g : zG) (a : Nat → Nat) (v : MV) (p0 : Int32) (p1 : Int32) (r : Bool) (hf : f_X7_canBe v p0 p1 = some r) : zMi zNF zNM l yX7_canBe (zw yX7_canBe cX7_canBe 4 (some .boolean)) ({ frames := 1, cells := 0, slots := 0, locals := 22 } : Room) g [.ref (a 0), .int p0, .int p1] (zX7 g a v) (zb r) (zX7 g a v) := by
  intro sz
  refine Met.ofW (cc := cX7_canBe) (maxL := 4) (ret := (some .boolean)) (by decide) rfl ?_
  intro p e s m args below meth c s₁ B hml hv
  obtain ⟨rfl, hsz, hP, hK, hD0⟩ := hv
  have hx := B.exec
  have hb := B.bytes
  have hr0 := B.returns
  have hts := atoms_spec (ws := (zw yX7_canBe cX7_canBe 4 (some .boolean))) B.pre
  have hw0 : ∀ w ∈ zW, w.before ([.ref (a 0), .int p0, .int p1] : List Value).toArray s = true := fun w h => hts w (List.mem_cons_of_mem _ h)
  have hown : s.vm.findClass RX7 = some m.cls := findClass_of_methodNamed B.named
  have hlocks := B.notSynchronized
  subst hsz
  have hD := hD0.self (sz := s.heap.size)
  generalize hAe : va_A (zX7 g a v) s.heap.size = A at hD ⊢
  have hA : ∀ q : Nat, s.heap.size ≤ q → A q := fun q h => by rw [← hAe]; exact Or.inr h
  have hS : va_S A s.heap s.heap [] := va_S.rf
  unfold f_X7_canBe at hf
  have hl := lv_entry ([.ref (a 0), .int p0, .int p1]) (n := 4) (Nat.le_of_ble_eq_true rfl)
  rw [lg_entry_eq]
  generalize (lg_sl ([.ref (a 0), .int p0, .int p1]) ++ List.replicate (4 - (lg_sl ([.ref (a 0), .int p0, .int p1])).length) Slot.unset).toArray = ls at hl ⊢
  have hl : lv_has ls 4 [(0, .ref (a 0)), (1, .int p0), (2, .int p1)] := hl
  refine lv_iload_n hx hb dX7_canBe_0 rfl (lv_at hl 2 rfl) ?_
  refine lv_iconst (v := 1) hx hb dX7_canBe_1 (by decide) ?_
  refine lv_sipush (v := 3600) hx hb dX7_canBe_2 (by decide) ?_
  obtain ⟨u1, hu1, hf⟩ := ob hf
  refine zk_iR (va_runS (As := [.int p1, .int 1, .int 3600]) (rest := []) ⟨hx, hb, hml, hown, hts⟩ (c_X7_in l g p1 1 3600 _ hu1 _) (zcS hw0 zm4_113 zm4_115 zm1_8 zm4_114 hd_X7_in rfl rfl ⟨Nat.le_of_ble_eq_true rfl, Nat.le_of_ble_eq_true rfl⟩) ⟨zblind, zpre hK hP hD [] rfl rfl⟩ rfl rfl hl.1 rfl (lv_room (Nat.le_of_ble_eq_true rfl)) dX7_canBe_5 ⟨Nat.zero_le _, Nat.zero_le _⟩) hP hD hS hA [] rfl (fun H locs hP hD hS => ?_)
  refine lv_if_eq (tgt := 25) hx hb dX7_canBe_8 (by decide) (fun c2 => ?_) (fun c2 => ?_)
  · have hf := oi hf c2
    refine lv_iconst (v := 0) hx hb dX7_canBe_25 (by decide) ?_
    refine lv_istore_n (lv' := [(3, .int 0), (0, .ref (a 0)), (1, .int p0), (2, .int p1)]) hx hb dX7_canBe_26 rfl hl (by decide) rfl (fun ls hl => ?_)
    refine lv_iload_n hx hb dX7_canBe_27 rfl (lv_at hl 0 rfl) ?_
    refine lv_if_eq (tgt := 61) hx hb dX7_canBe_28 (by decide) (fun _ => ?_) (fun c9 => absurd c9 (by decide))
    refine lv_iconst (v := 0) hx hb dX7_canBe_61 (by decide) ?_
    have hR : false = r := Option.some.inj hf
    subst hR
    exact W.zret (v := zb false) hx hb hr0 (zb_nar false) (fun t ht hW => ⟨⟨zb false, (), rfl, rfl, by rw [ht]; exact hP, hD⟩, hS.F ht⟩) hS.2.2 dX7_canBe_62
  · have hf := oe hf c2
    refine lv_aload_n hx hb dX7_canBe_11 rfl (lv_at hl 0 rfl) ?_
    refine lv_iload_n hx hb dX7_canBe_12 rfl (lv_at hl 1 rfl) ?_
    refine lv_iconst (v := 3) hx hb dX7_canBe_13 (by decide) ?_
    obtain ⟨u3, hu3, hf⟩ := ob hf
    refine zk_iA (va_runV (As := [.int p0, .int 3]) (rest := []) ⟨hx, hb, hml, hown, hts⟩ (c_X7_of l g a v p0 3 _ hu3 _) (zcV hw0 zm4_144 zm4_147 zm1_8 zm4_146 zs5_6 hd_X7_of rfl rfl ⟨Nat.le_of_ble_eq_true rfl, Nat.le_of_ble_eq_true rfl⟩) ⟨zblind, zrecvA hK hP (ci := 7) rfl rfl, zpreA hK hP hD⟩ rfl rfl hl.1 rfl (lv_room (Nat.le_of_ble_eq_true rfl)) dX7_canBe_14 ⟨Nat.zero_le _, Nat.zero_le _⟩) hP hD hS hA (fun H locs hP hD hS => ?_)
    refine lv_iconst (v := 2) hx hb dX7_canBe_17 (by decide) ?_
    refine lv_icmp_ge (tgt := 25) hx hb dX7_canBe_18 (by decide) (fun c4 => ?_) (fun c4 => ?_)
    · have hf := oi hf c4
      refine lv_iconst (v := 0) hx hb dX7_canBe_25 (by decide) ?_
      refine lv_istore_n (lv' := [(3, .int 0), (0, .ref (a 0)), (1, .int p0), (2, .int p1)]) hx hb dX7_canBe_26 rfl hl (by decide) rfl (fun ls hl => ?_)
      refine lv_iload_n hx hb dX7_canBe_27 rfl (lv_at hl 0 rfl) ?_
      refine lv_if_eq (tgt := 61) hx hb dX7_canBe_28 (by decide) (fun _ => ?_) (fun c9 => absurd c9 (by decide))
      refine lv_iconst (v := 0) hx hb dX7_canBe_61 (by decide) ?_
      have hR : false = r := Option.some.inj hf
      subst hR
      exact W.zret (v := zb false) hx hb hr0 (zb_nar false) (fun t ht hW => ⟨⟨zb false, (), rfl, rfl, by rw [ht]; exact hP, hD⟩, hS.F ht⟩) hS.2.2 dX7_canBe_62
    · have hf := oe hf c4
      refine lv_iconst (v := 1) hx hb dX7_canBe_21 (by decide) ?_
      refine lv_goto (tgt := 26) hx hb dX7_canBe_22 (by decide) ?_
      refine lv_istore_n (lv' := [(3, .int 1), (0, .ref (a 0)), (1, .int p0), (2, .int p1)]) hx hb dX7_canBe_26 rfl hl (by decide) rfl (fun ls hl => ?_)
      refine lv_iload_n hx hb dX7_canBe_27 rfl (lv_at hl 0 rfl) ?_
      refine lv_if_eq (tgt := 61) hx hb dX7_canBe_28 (by decide) (fun c9 => absurd c9 (by decide)) (fun _ => ?_)
      refine lv_aload_n hx hb dX7_canBe_31 rfl (lv_at hl 1 rfl) ?_
      refine lv_iload_n hx hb dX7_canBe_32 rfl (lv_at hl 2 rfl) ?_
      refine lv_iconst (v := 3) hx hb dX7_canBe_33 (by decide) ?_
      obtain ⟨u5, hu5, hf⟩ := ob hf
      refine zk_iA (va_runV (As := [.int p0, .int 3]) (rest := []) ⟨hx, hb, hml, hown, hts⟩ (c_X7_of l g a v p0 3 _ hu5 _) (zcV hw0 zm4_144 zm4_147 zm1_8 zm4_146 zs5_6 hd_X7_of rfl rfl ⟨Nat.le_of_ble_eq_true rfl, Nat.le_of_ble_eq_true rfl⟩) ⟨zblind, zrecvA hK hP (ci := 7) rfl rfl, zpreA hK hP hD⟩ rfl rfl hl.1 rfl (lv_room (Nat.le_of_ble_eq_true rfl)) dX7_canBe_34 ⟨Nat.zero_le _, Nat.zero_le _⟩) hP hD hS hA (fun H locs hP hD hS => ?_)
      refine lv_if_eq (tgt := 57) hx hb dX7_canBe_37 (by decide) (fun c6 => ?_) (fun c6 => ?_)
      · have hf := oi hf c6
        refine lv_iconst (v := 1) hx hb dX7_canBe_57 (by decide) ?_
        refine lv_goto (tgt := 62) hx hb dX7_canBe_58 (by decide) ?_
        have hR : true = r := Option.some.inj hf
        subst hR
        exact W.zret (v := zb true) hx hb hr0 (zb_nar true) (fun t ht hW => ⟨⟨zb true, (), rfl, rfl, by rw [ht]; exact hP, hD⟩, hS.F ht⟩) hS.2.2 dX7_canBe_62
      · have hf := oe hf c6
        refine lv_aload_n hx hb dX7_canBe_40 rfl (lv_at hl 1 rfl) ?_
        refine lv_iload_n hx hb dX7_canBe_41 rfl (lv_at hl 2 rfl) ?_
        refine lv_iconst (v := 4) hx hb dX7_canBe_42 (by decide) ?_
        obtain ⟨u7, hu7, hf⟩ := ob hf
        refine zk_iA (va_runV (As := [.int p0, .int 4]) (rest := []) ⟨hx, hb, hml, hown, hts⟩ (c_X7_of l g a v p0 4 _ hu7 _) (zcV hw0 zm4_144 zm4_147 zm1_8 zm4_146 zs5_6 hd_X7_of rfl rfl ⟨Nat.le_of_ble_eq_true rfl, Nat.le_of_ble_eq_true rfl⟩) ⟨zblind, zrecvA hK hP (ci := 7) rfl rfl, zpreA hK hP hD⟩ rfl rfl hl.1 rfl (lv_room (Nat.le_of_ble_eq_true rfl)) dX7_canBe_43 ⟨Nat.zero_le _, Nat.zero_le _⟩) hP hD hS hA (fun H locs hP hD hS => ?_)
        refine lv_iload_n hx hb dX7_canBe_46 rfl (lv_at hl 3 rfl) ?_
        refine lv_iadd hx hb dX7_canBe_47 ?_
        refine lv_aload_n hx hb dX7_canBe_48 rfl (lv_at hl 1 rfl) ?_
        refine va_get (D := g.1) (ci := 7) (v := .ref (a 1)) (C := RX7) (T := TX7) (N := 11) hx hb hw0 ziX7 hown hK.1 hP 0 rfl rfl 0 (by decide) (hw0 _ zm4_71) (fun _ h9 => h9) rfl dX7_canBe_49 ?_
        refine lv_iconst (v := 0) hx hb dX7_canBe_52 (by decide) ?_
        refine zald (D := g.1) (f := v.1) (k := 0) hx hb hK.1 hP 1 0 rfl rfl (zin_vp (i := 0) (n := 220) rfl) rfl dX7_canBe_53 ?_
        refine lv_icmp_lt (tgt := 61) hx hb dX7_canBe_54 (by decide) (fun c8 => ?_) (fun c8 => ?_)
        · have hf := oi hf c8
          refine lv_iconst (v := 0) hx hb dX7_canBe_61 (by decide) ?_
          have hR : false = r := Option.some.inj hf
          subst hR
          exact W.zret (v := zb false) hx hb hr0 (zb_nar false) (fun t ht hW => ⟨⟨zb false, (), rfl, rfl, by rw [ht]; exact hP, hD⟩, hS.F ht⟩) hS.2.2 dX7_canBe_62
        · have hf := oe hf c8
          refine lv_iconst (v := 1) hx hb dX7_canBe_57 (by decide) ?_
          refine lv_goto (tgt := 62) hx hb dX7_canBe_58 (by decide) ?_
          have hR : true = r := Option.some.inj hf
          subst hR
          exact W.zret (v := zb true) hx hb hr0 (zb_nar true) (fun t ht hW => ⟨⟨zb true, (), rfl, rfl, by rw [ht]; exact hP, hD⟩, hS.F ht⟩) hS.2.2 dX7_canBe_62
theorem hd_X7_stretch : yX7_stretch.cls ≠ "java/lang/invoke/MethodHandle" ∧ yX7_stretch.cls ≠ "java/lang/invoke/VarHandle" ∧ (parseMethodDescriptor yX7_stretch.desc).map (fun d => d.parameters.length) = some 2 := by decide +kernel
def f_X7_stretch (v : MV) (p0 : Int32) (p1 : Int32) : Option (Int32 × MV) :=
  (f_X7_isElement v p0).bind (fun u1 =>
  if (zb u1) = 0 then
    (f_X7_fails v 1).bind (fun u17 =>
    some (u17.1, u17.2))
  else
    (f_X7_in p1 (-1800) 1800).bind (fun u3 =>
    if (zb u3) = 0 then
      (f_X7_fails v 2).bind (fun u16 =>
      some (u16.1, u16.2))
    else
      (f_X7_of v p0 0).bind (fun u5 =>
      (f_X7_canBe v p0 (u5 + p1)).bind (fun u6 =>
      if (zb u6) = 0 then
        (f_X7_fails v 3).bind (fun u15 =>
        some (u15.1, u15.2))
      else
        (f_X7_save v).bind (fun u8 =>
        if zin ((10 + (5 * p0)) + 0) 220 = true then
        (f_X7_of ((upd u8.1 (((10 + (5 * p0)) + 0).toNatClampNeg) (u5 + p1)), u8.2.1, u8.2.2.1, u8.2.2.2.1, u8.2.2.2.2.1, u8.2.2.2.2.2.1, u8.2.2.2.2.2.2.1, u8.2.2.2.2.2.2.2.1, u8.2.2.2.2.2.2.2.2.1, u8.2.2.2.2.2.2.2.2.2.1, u8.2.2.2.2.2.2.2.2.2.2) p0 3).bind (fun u10 =>
        if u10 = 1 then
          (f_X7_of ((upd u8.1 (((10 + (5 * p0)) + 0).toNatClampNeg) (u5 + p1)), u8.2.1, u8.2.2.1, u8.2.2.2.1, u8.2.2.2.2.1, u8.2.2.2.2.2.1, u8.2.2.2.2.2.2.1, u8.2.2.2.2.2.2.2.1, u8.2.2.2.2.2.2.2.2.1, u8.2.2.2.2.2.2.2.2.2.1, u8.2.2.2.2.2.2.2.2.2.2) p0 4).bind (fun u12 =>
          if ((upd (upd u8.1 (((10 + (5 * p0)) + 0).toNatClampNeg) (u5 + p1)) 4 (u12 + (u5 + p1))) 4) = ((upd (upd u8.1 (((10 + (5 * p0)) + 0).toNatClampNeg) (u5 + p1)) 4 (u12 + (u5 + p1))) 0) then
            (f_X7_endsOnAir ((upd (upd u8.1 (((10 + (5 * p0)) + 0).toNatClampNeg) (u5 + p1)) 4 (u12 + (u5 + p1))), u8.2.1, u8.2.2.1, u8.2.2.2.1, u8.2.2.2.2.1, u8.2.2.2.2.2.1, u8.2.2.2.2.2.2.1, u8.2.2.2.2.2.2.2.1, u8.2.2.2.2.2.2.2.2.1, u8.2.2.2.2.2.2.2.2.2.1, u8.2.2.2.2.2.2.2.2.2.2)).bind (fun u14 =>
            some ((u5 + p1), u14))
          else
            some ((u5 + p1), ((upd (upd u8.1 (((10 + (5 * p0)) + 0).toNatClampNeg) (u5 + p1)) 4 (u12 + (u5 + p1))), u8.2.1, u8.2.2.1, u8.2.2.2.1, u8.2.2.2.2.1, u8.2.2.2.2.2.1, u8.2.2.2.2.2.2.1, u8.2.2.2.2.2.2.2.1, u8.2.2.2.2.2.2.2.2.1, u8.2.2.2.2.2.2.2.2.2.1, u8.2.2.2.2.2.2.2.2.2.2)))
        else
          some ((u5 + p1), ((upd u8.1 (((10 + (5 * p0)) + 0).toNatClampNeg) (u5 + p1)), u8.2.1, u8.2.2.1, u8.2.2.2.1, u8.2.2.2.2.1, u8.2.2.2.2.2.1, u8.2.2.2.2.2.2.1, u8.2.2.2.2.2.2.2.1, u8.2.2.2.2.2.2.2.2.1, u8.2.2.2.2.2.2.2.2.2.1, u8.2.2.2.2.2.2.2.2.2.2)))
        else none)))))
set_option maxHeartbeats 4000000 in
set_option maxRecDepth 100000 in
theorem c_X7_stretch (l : Launch) (g : zG) (a : Nat → Nat) (v : MV) (p0 : Int32) (p1 : Int32) (r : Int32 × MV) (hf : f_X7_stretch v p0 p1 = some r) : zMi zNF zNM l yX7_stretch (zw yX7_stretch cX7_stretch 4 (some .int)) ({ frames := 2, cells := 0, slots := 0, locals := 45 } : Room) g [.ref (a 0), .int p0, .int p1] (zX7 g a v) r.1 (zX7 g a r.2) := by
  intro sz
  refine Met.ofW (cc := cX7_stretch) (maxL := 4) (ret := (some .int)) (by decide) rfl ?_
  intro p e s m args below meth c s₁ B hml hv
  obtain ⟨rfl, hsz, hP, hK, hD0⟩ := hv
  have hx := B.exec
  have hb := B.bytes
  have hr0 := B.returns
  have hts := atoms_spec (ws := (zw yX7_stretch cX7_stretch 4 (some .int))) B.pre
  have hw0 : ∀ w ∈ zW, w.before ([.ref (a 0), .int p0, .int p1] : List Value).toArray s = true := fun w h => hts w (List.mem_cons_of_mem _ h)
  have hown : s.vm.findClass RX7 = some m.cls := findClass_of_methodNamed B.named
  have hlocks := B.notSynchronized
  subst hsz
  have hD := hD0.self (sz := s.heap.size)
  generalize hAe : va_A (zX7 g a v) s.heap.size = A at hD ⊢
  have hA : ∀ q : Nat, s.heap.size ≤ q → A q := fun q h => by rw [← hAe]; exact Or.inr h
  have hS : va_S A s.heap s.heap [] := va_S.rf
  unfold f_X7_stretch at hf
  have hl := lv_entry ([.ref (a 0), .int p0, .int p1]) (n := 4) (Nat.le_of_ble_eq_true rfl)
  rw [lg_entry_eq]
  generalize (lg_sl ([.ref (a 0), .int p0, .int p1]) ++ List.replicate (4 - (lg_sl ([.ref (a 0), .int p0, .int p1])).length) Slot.unset).toArray = ls at hl ⊢
  have hl : lv_has ls 4 [(0, .ref (a 0)), (1, .int p0), (2, .int p1)] := hl
  refine lv_aload_n hx hb dX7_stretch_0 rfl (lv_at hl 0 rfl) ?_
  refine lv_iload_n hx hb dX7_stretch_1 rfl (lv_at hl 1 rfl) ?_
  obtain ⟨u1, hu1, hf⟩ := ob hf
  refine zk_iA (va_runV (As := [.int p0]) (rest := []) ⟨hx, hb, hml, hown, hts⟩ (c_X7_isElement l g a v p0 _ hu1 _) (zcV hw0 zm4_140 zm4_143 zm1_8 zm4_142 zs5_5 hd_X7_isElement rfl rfl ⟨Nat.le_of_ble_eq_true rfl, Nat.le_of_ble_eq_true rfl⟩) ⟨zblind, zrecvA hK hP (ci := 7) rfl rfl, zpreA hK hP hD⟩ rfl rfl hl.1 rfl (lv_room (Nat.le_of_ble_eq_true rfl)) dX7_stretch_2 ⟨Nat.zero_le _, Nat.zero_le _⟩) hP hD hS hA (fun H locs hP hD hS => ?_)
  refine lv_if_ne (tgt := 14) hx hb dX7_stretch_5 (by decide) (fun c2 => ?_) (fun c2 => ?_)
  · have hf := oe hf c2
    refine lv_iload_n hx hb dX7_stretch_14 rfl (lv_at hl 2 rfl) ?_
    refine lv_sipush (v := (-1800)) hx hb dX7_stretch_15 (by decide) ?_
    refine lv_sipush (v := 1800) hx hb dX7_stretch_18 (by decide) ?_
    obtain ⟨u3, hu3, hf⟩ := ob hf
    refine zk_iR (va_runS (As := [.int p1, .int (-1800), .int 1800]) (rest := []) ⟨hx, hb, hml, hown, hts⟩ (c_X7_in l g p1 (-1800) 1800 _ hu3 _) (zcS hw0 zm4_113 zm4_115 zm1_8 zm4_114 hd_X7_in rfl rfl ⟨Nat.le_of_ble_eq_true rfl, Nat.le_of_ble_eq_true rfl⟩) ⟨zblind, zpre hK hP hD [] rfl rfl⟩ rfl rfl hl.1 rfl (lv_room (Nat.le_of_ble_eq_true rfl)) dX7_stretch_21 ⟨Nat.zero_le _, Nat.zero_le _⟩) hP hD hS hA [] rfl (fun H locs hP hD hS => ?_)
    refine lv_if_ne (tgt := 33) hx hb dX7_stretch_24 (by decide) (fun c4 => ?_) (fun c4 => ?_)
    · have hf := oe hf c4
      refine lv_aload_n hx hb dX7_stretch_33 rfl (lv_at hl 0 rfl) ?_
      refine lv_iload_n hx hb dX7_stretch_34 rfl (lv_at hl 1 rfl) ?_
      refine lv_iconst (v := 0) hx hb dX7_stretch_35 (by decide) ?_
      obtain ⟨u5, hu5, hf⟩ := ob hf
      refine zk_iA (va_runV (As := [.int p0, .int 0]) (rest := []) ⟨hx, hb, hml, hown, hts⟩ (c_X7_of l g a v p0 0 _ hu5 _) (zcV hw0 zm4_144 zm4_147 zm1_8 zm4_146 zs5_6 hd_X7_of rfl rfl ⟨Nat.le_of_ble_eq_true rfl, Nat.le_of_ble_eq_true rfl⟩) ⟨zblind, zrecvA hK hP (ci := 7) rfl rfl, zpreA hK hP hD⟩ rfl rfl hl.1 rfl (lv_room (Nat.le_of_ble_eq_true rfl)) dX7_stretch_36 ⟨Nat.zero_le _, Nat.zero_le _⟩) hP hD hS hA (fun H locs hP hD hS => ?_)
      refine lv_iload_n hx hb dX7_stretch_39 rfl (lv_at hl 2 rfl) ?_
      refine lv_iadd hx hb dX7_stretch_40 ?_
      refine lv_istore_n (lv' := [(3, .int (u5 + p1)), (0, .ref (a 0)), (1, .int p0), (2, .int p1)]) hx hb dX7_stretch_41 rfl hl (by decide) rfl (fun ls hl => ?_)
      refine lv_aload_n hx hb dX7_stretch_42 rfl (lv_at hl 1 rfl) ?_
      refine lv_iload_n hx hb dX7_stretch_43 rfl (lv_at hl 2 rfl) ?_
      refine lv_iload_n hx hb dX7_stretch_44 rfl (lv_at hl 0 rfl) ?_
      obtain ⟨u6, hu6, hf⟩ := ob hf
      refine zk_iA (va_runV (As := [.int p0, .int (u5 + p1)]) (rest := []) ⟨hx, hb, hml, hown, hts⟩ (c_X7_canBe l g a v p0 (u5 + p1) _ hu6 _) (zcV hw0 zm4_148 zm4_151 zm1_8 zm4_150 zs5_7 hd_X7_canBe rfl rfl ⟨Nat.le_of_ble_eq_true rfl, Nat.le_of_ble_eq_true rfl⟩) ⟨zblind, zrecvA hK hP (ci := 7) rfl rfl, zpreA hK hP hD⟩ rfl rfl hl.1 rfl (lv_room (Nat.le_of_ble_eq_true rfl)) dX7_stretch_45 ⟨Nat.zero_le _, Nat.zero_le _⟩) hP hD hS hA (fun H locs hP hD hS => ?_)
      refine lv_if_ne (tgt := 57) hx hb dX7_stretch_48 (by decide) (fun c7 => ?_) (fun c7 => ?_)
      · have hf := oe hf c7
        refine lv_aload_n hx hb dX7_stretch_57 rfl (lv_at hl 1 rfl) ?_
        obtain ⟨u8, hu8, hf⟩ := ob hf
        refine zk_vA (va_runV (As := []) (rest := []) ⟨hx, hb, hml, hown, hts⟩ (c_X7_save l g a v _ hu8 _) (zcV hw0 zm4_120 zm4_123 zm1_8 zm4_122 zs5_2 hd_X7_save rfl rfl ⟨Nat.le_of_ble_eq_true rfl, Nat.le_of_ble_eq_true rfl⟩) ⟨zblind, zrecvA hK hP (ci := 7) rfl rfl, zpreA hK hP hD⟩ rfl rfl hl.1 rfl (lv_room (Nat.le_of_ble_eq_true rfl)) dX7_stretch_58 ⟨Nat.zero_le _, Nat.zero_le _⟩) hP hD hS hA (fun H locs hP hD hS => ?_)
        have hP : va_P g.1 vwCl (zX7 g a u8) H := hP
        have hD : va_D A (zX7 g a u8) := hD
        refine lv_aload_n hx hb dX7_stretch_61 rfl (lv_at hl 1 rfl) ?_
        refine va_get (D := g.1) (ci := 7) (v := .ref (a 1)) (C := RX7) (T := TX7) (N := 11) hx hb hw0 ziX7 hown hK.1 hP 0 rfl rfl 0 (by decide) (hw0 _ zm4_71) (fun _ h9 => h9) rfl dX7_stretch_62 ?_
        refine lv_bipush (v := 10) hx hb dX7_stretch_65 (by decide) ?_
        refine lv_iconst (v := 5) hx hb dX7_stretch_67 (by decide) ?_
        refine lv_iload_n hx hb dX7_stretch_68 rfl (lv_at hl 2 rfl) ?_
        refine lv_imul hx hb dX7_stretch_69 ?_
        refine lv_iadd hx hb dX7_stretch_70 ?_
        refine lv_iconst (v := 0) hx hb dX7_stretch_71 (by decide) ?_
        refine lv_iadd hx hb dX7_stretch_72 ?_
        refine lv_iload_n hx hb dX7_stretch_73 rfl (lv_at hl 0 rfl) ?_
        obtain ⟨h9, hf⟩ := og hf
        refine zast (D := g.1) (f := u8.1) (k := ((10 + (5 * p0)) + 0).toNatClampNeg) (x := (u5 + p1)) hx hb hK.1 hP hD hS 1 0 rfl rfl (zin_vp h9) rfl dX7_stretch_74 (fun H locs hP hD hS => ?_)
        have hP : va_P g.1 vwCl (zX7 g a ((upd u8.1 (((10 + (5 * p0)) + 0).toNatClampNeg) (u5 + p1)), u8.2.1, u8.2.2.1, u8.2.2.2.1, u8.2.2.2.2.1, u8.2.2.2.2.2.1, u8.2.2.2.2.2.2.1, u8.2.2.2.2.2.2.2.1, u8.2.2.2.2.2.2.2.2.1, u8.2.2.2.2.2.2.2.2.2.1, u8.2.2.2.2.2.2.2.2.2.2)) H := hP
        have hD : va_D A (zX7 g a ((upd u8.1 (((10 + (5 * p0)) + 0).toNatClampNeg) (u5 + p1)), u8.2.1, u8.2.2.1, u8.2.2.2.1, u8.2.2.2.2.1, u8.2.2.2.2.2.1, u8.2.2.2.2.2.2.1, u8.2.2.2.2.2.2.2.1, u8.2.2.2.2.2.2.2.2.1, u8.2.2.2.2.2.2.2.2.2.1, u8.2.2.2.2.2.2.2.2.2.2)) := hD
        refine lv_aload_n hx hb dX7_stretch_75 rfl (lv_at hl 1 rfl) ?_
        refine lv_iload_n hx hb dX7_stretch_76 rfl (lv_at hl 2 rfl) ?_
        refine lv_iconst (v := 3) hx hb dX7_stretch_77 (by decide) ?_
        obtain ⟨u10, hu10, hf⟩ := ob hf
        refine zk_iA (va_runV (As := [.int p0, .int 3]) (rest := []) ⟨hx, hb, hml, hown, hts⟩ (c_X7_of l g a ((upd u8.1 (((10 + (5 * p0)) + 0).toNatClampNeg) (u5 + p1)), u8.2.1, u8.2.2.1, u8.2.2.2.1, u8.2.2.2.2.1, u8.2.2.2.2.2.1, u8.2.2.2.2.2.2.1, u8.2.2.2.2.2.2.2.1, u8.2.2.2.2.2.2.2.2.1, u8.2.2.2.2.2.2.2.2.2.1, u8.2.2.2.2.2.2.2.2.2.2) p0 3 _ hu10 _) (zcV hw0 zm4_144 zm4_147 zm1_8 zm4_146 zs5_6 hd_X7_of rfl rfl ⟨Nat.le_of_ble_eq_true rfl, Nat.le_of_ble_eq_true rfl⟩) ⟨zblind, zrecvA hK hP (ci := 7) rfl rfl, zpreA hK hP hD⟩ rfl rfl hl.1 rfl (lv_room (Nat.le_of_ble_eq_true rfl)) dX7_stretch_78 ⟨Nat.zero_le _, Nat.zero_le _⟩) hP hD hS hA (fun H locs hP hD hS => ?_)
        refine lv_iconst (v := 1) hx hb dX7_stretch_81 (by decide) ?_
        refine lv_icmp_ne (tgt := 118) hx hb dX7_stretch_82 (by decide) (fun c11 => ?_) (fun c11 => ?_)
        · have hf := oe hf c11
          refine lv_iload_n hx hb dX7_stretch_118 rfl (lv_at hl 0 rfl) ?_
          have hR : ((u5 + p1), ((upd u8.1 (((10 + (5 * p0)) + 0).toNatClampNeg) (u5 + p1)), u8.2.1, u8.2.2.1, u8.2.2.2.1, u8.2.2.2.2.1, u8.2.2.2.2.2.1, u8.2.2.2.2.2.2.1, u8.2.2.2.2.2.2.2.1, u8.2.2.2.2.2.2.2.2.1, u8.2.2.2.2.2.2.2.2.2.1, u8.2.2.2.2.2.2.2.2.2.2)) = r := Option.some.inj hf
          subst hR
          exact W.iret (v := (u5 + p1)) hx hb hr0 (fun t ht hW => ⟨⟨(u5 + p1), (), rfl, rfl, by rw [ht]; exact hP, hD⟩, hS.F ht⟩) hS.2.2 dX7_stretch_119
        · have hf := oi hf c11
          refine lv_aload_n hx hb dX7_stretch_85 rfl (lv_at hl 1 rfl) ?_
          refine va_get (D := g.1) (ci := 7) (v := .ref (a 1)) (C := RX7) (T := TX7) (N := 11) hx hb hw0 ziX7 hown hK.1 hP 0 rfl rfl 0 (by decide) (hw0 _ zm4_71) (fun _ h9 => h9) rfl dX7_stretch_86 ?_
          refine lv_iconst (v := 4) hx hb dX7_stretch_89 (by decide) ?_
          refine lv_aload_n hx hb dX7_stretch_90 rfl (lv_at hl 1 rfl) ?_
          refine lv_iload_n hx hb dX7_stretch_91 rfl (lv_at hl 2 rfl) ?_
          refine lv_iconst (v := 4) hx hb dX7_stretch_92 (by decide) ?_
          obtain ⟨u12, hu12, hf⟩ := ob hf
          refine zk_iA (va_runV (As := [.int p0, .int 4]) (rest := [.int 4, .ref (a 1)]) ⟨hx, hb, hml, hown, hts⟩ (c_X7_of l g a ((upd u8.1 (((10 + (5 * p0)) + 0).toNatClampNeg) (u5 + p1)), u8.2.1, u8.2.2.1, u8.2.2.2.1, u8.2.2.2.2.1, u8.2.2.2.2.2.1, u8.2.2.2.2.2.2.1, u8.2.2.2.2.2.2.2.1, u8.2.2.2.2.2.2.2.2.1, u8.2.2.2.2.2.2.2.2.2.1, u8.2.2.2.2.2.2.2.2.2.2) p0 4 _ hu12 _) (zcV hw0 zm4_144 zm4_147 zm1_8 zm4_146 zs5_6 hd_X7_of rfl rfl ⟨Nat.le_of_ble_eq_true rfl, Nat.le_of_ble_eq_true rfl⟩) ⟨zblind, zrecvA hK hP (ci := 7) rfl rfl, zpreA hK hP hD⟩ rfl rfl hl.1 rfl (lv_room (Nat.le_of_ble_eq_true rfl)) dX7_stretch_93 ⟨Nat.zero_le _, Nat.zero_le _⟩) hP hD hS hA (fun H locs hP hD hS => ?_)
          refine lv_iload_n hx hb dX7_stretch_96 rfl (lv_at hl 0 rfl) ?_
          refine lv_iadd hx hb dX7_stretch_97 ?_
          refine zast (D := g.1) (f := (upd u8.1 (((10 + (5 * p0)) + 0).toNatClampNeg) (u5 + p1))) (k := 4) (x := (u12 + (u5 + p1))) hx hb hK.1 hP hD hS 1 0 rfl rfl (zin_vp (i := 4) (n := 220) rfl) rfl dX7_stretch_98 (fun H locs hP hD hS => ?_)
          have hP : va_P g.1 vwCl (zX7 g a ((upd (upd u8.1 (((10 + (5 * p0)) + 0).toNatClampNeg) (u5 + p1)) 4 (u12 + (u5 + p1))), u8.2.1, u8.2.2.1, u8.2.2.2.1, u8.2.2.2.2.1, u8.2.2.2.2.2.1, u8.2.2.2.2.2.2.1, u8.2.2.2.2.2.2.2.1, u8.2.2.2.2.2.2.2.2.1, u8.2.2.2.2.2.2.2.2.2.1, u8.2.2.2.2.2.2.2.2.2.2)) H := hP
          have hD : va_D A (zX7 g a ((upd (upd u8.1 (((10 + (5 * p0)) + 0).toNatClampNeg) (u5 + p1)) 4 (u12 + (u5 + p1))), u8.2.1, u8.2.2.1, u8.2.2.2.1, u8.2.2.2.2.1, u8.2.2.2.2.2.1, u8.2.2.2.2.2.2.1, u8.2.2.2.2.2.2.2.1, u8.2.2.2.2.2.2.2.2.1, u8.2.2.2.2.2.2.2.2.2.1, u8.2.2.2.2.2.2.2.2.2.2)) := hD
          refine lv_aload_n hx hb dX7_stretch_99 rfl (lv_at hl 1 rfl) ?_
          refine va_get (D := g.1) (ci := 7) (v := .ref (a 1)) (C := RX7) (T := TX7) (N := 11) hx hb hw0 ziX7 hown hK.1 hP 0 rfl rfl 0 (by decide) (hw0 _ zm4_71) (fun _ h9 => h9) rfl dX7_stretch_100 ?_
          refine lv_iconst (v := 4) hx hb dX7_stretch_103 (by decide) ?_
          refine zald (D := g.1) (f := (upd (upd u8.1 (((10 + (5 * p0)) + 0).toNatClampNeg) (u5 + p1)) 4 (u12 + (u5 + p1)))) (k := 4) hx hb hK.1 hP 1 0 rfl rfl (zin_vp (i := 4) (n := 220) rfl) rfl dX7_stretch_104 ?_
          refine lv_aload_n hx hb dX7_stretch_105 rfl (lv_at hl 1 rfl) ?_
          refine va_get (D := g.1) (ci := 7) (v := .ref (a 1)) (C := RX7) (T := TX7) (N := 11) hx hb hw0 ziX7 hown hK.1 hP 0 rfl rfl 0 (by decide) (hw0 _ zm4_71) (fun _ h9 => h9) rfl dX7_stretch_106 ?_
          refine lv_iconst (v := 0) hx hb dX7_stretch_109 (by decide) ?_
          refine zald (D := g.1) (f := (upd (upd u8.1 (((10 + (5 * p0)) + 0).toNatClampNeg) (u5 + p1)) 4 (u12 + (u5 + p1)))) (k := 0) hx hb hK.1 hP 1 0 rfl rfl (zin_vp (i := 0) (n := 220) rfl) rfl dX7_stretch_110 ?_
          refine lv_icmp_ne (tgt := 118) hx hb dX7_stretch_111 (by decide) (fun c13 => ?_) (fun c13 => ?_)
          · have hf := oe hf c13
            refine lv_iload_n hx hb dX7_stretch_118 rfl (lv_at hl 0 rfl) ?_
            have hR : ((u5 + p1), ((upd (upd u8.1 (((10 + (5 * p0)) + 0).toNatClampNeg) (u5 + p1)) 4 (u12 + (u5 + p1))), u8.2.1, u8.2.2.1, u8.2.2.2.1, u8.2.2.2.2.1, u8.2.2.2.2.2.1, u8.2.2.2.2.2.2.1, u8.2.2.2.2.2.2.2.1, u8.2.2.2.2.2.2.2.2.1, u8.2.2.2.2.2.2.2.2.2.1, u8.2.2.2.2.2.2.2.2.2.2)) = r := Option.some.inj hf
            subst hR
            exact W.iret (v := (u5 + p1)) hx hb hr0 (fun t ht hW => ⟨⟨(u5 + p1), (), rfl, rfl, by rw [ht]; exact hP, hD⟩, hS.F ht⟩) hS.2.2 dX7_stretch_119
          · have hf := oi hf c13
            refine lv_aload_n hx hb dX7_stretch_114 rfl (lv_at hl 1 rfl) ?_
            obtain ⟨u14, hu14, hf⟩ := ob hf
            refine zk_vA (va_runV (As := []) (rest := []) ⟨hx, hb, hml, hown, hts⟩ (c_X7_endsOnAir l g a ((upd (upd u8.1 (((10 + (5 * p0)) + 0).toNatClampNeg) (u5 + p1)) 4 (u12 + (u5 + p1))), u8.2.1, u8.2.2.1, u8.2.2.2.1, u8.2.2.2.2.1, u8.2.2.2.2.2.1, u8.2.2.2.2.2.2.1, u8.2.2.2.2.2.2.2.1, u8.2.2.2.2.2.2.2.2.1, u8.2.2.2.2.2.2.2.2.2.1, u8.2.2.2.2.2.2.2.2.2.2) _ hu14 _) (zcV hw0 zm4_152 zm4_155 zm1_8 zm4_154 zs5_8 hd_X7_endsOnAir rfl rfl ⟨Nat.le_of_ble_eq_true rfl, Nat.le_of_ble_eq_true rfl⟩) ⟨zblind, zrecvA hK hP (ci := 7) rfl rfl, zpreA hK hP hD⟩ rfl rfl hl.1 rfl (lv_room (Nat.le_of_ble_eq_true rfl)) dX7_stretch_115 ⟨Nat.zero_le _, Nat.zero_le _⟩) hP hD hS hA (fun H locs hP hD hS => ?_)
            have hP : va_P g.1 vwCl (zX7 g a u14) H := hP
            have hD : va_D A (zX7 g a u14) := hD
            refine lv_iload_n hx hb dX7_stretch_118 rfl (lv_at hl 0 rfl) ?_
            have hR : ((u5 + p1), u14) = r := Option.some.inj hf
            subst hR
            exact W.iret (v := (u5 + p1)) hx hb hr0 (fun t ht hW => ⟨⟨(u5 + p1), (), rfl, rfl, by rw [ht]; exact hP, hD⟩, hS.F ht⟩) hS.2.2 dX7_stretch_119
      · have hf := oi hf c7
        refine lv_aload_n hx hb dX7_stretch_51 rfl (lv_at hl 1 rfl) ?_
        refine lv_iconst (v := 3) hx hb dX7_stretch_52 (by decide) ?_
        obtain ⟨u15, hu15, hf⟩ := ob hf
        refine zk_iA (va_runV (As := [.int 3]) (rest := []) ⟨hx, hb, hml, hown, hts⟩ (c_X7_fails l g a v 3 _ hu15 _) (zcV hw0 zm4_116 zm4_119 zm1_8 zm4_118 zs5_1 hd_X7_fails rfl rfl ⟨Nat.le_of_ble_eq_true rfl, Nat.le_of_ble_eq_true rfl⟩) ⟨zblind, zrecvA hK hP (ci := 7) rfl rfl, zpreA hK hP hD⟩ rfl rfl hl.1 rfl (lv_room (Nat.le_of_ble_eq_true rfl)) dX7_stretch_53 ⟨Nat.zero_le _, Nat.zero_le _⟩) hP hD hS hA (fun H locs hP hD hS => ?_)
        have hP : va_P g.1 vwCl (zX7 g a u15.2) H := hP
        have hD : va_D A (zX7 g a u15.2) := hD
        have hR : (u15.1, u15.2) = r := Option.some.inj hf
        subst hR
        exact W.iret (v := u15.1) hx hb hr0 (fun t ht hW => ⟨⟨u15.1, (), rfl, rfl, by rw [ht]; exact hP, hD⟩, hS.F ht⟩) hS.2.2 dX7_stretch_56
    · have hf := oi hf c4
      refine lv_aload_n hx hb dX7_stretch_27 rfl (lv_at hl 0 rfl) ?_
      refine lv_iconst (v := 2) hx hb dX7_stretch_28 (by decide) ?_
      obtain ⟨u16, hu16, hf⟩ := ob hf
      refine zk_iA (va_runV (As := [.int 2]) (rest := []) ⟨hx, hb, hml, hown, hts⟩ (c_X7_fails l g a v 2 _ hu16 _) (zcV hw0 zm4_116 zm4_119 zm1_8 zm4_118 zs5_1 hd_X7_fails rfl rfl ⟨Nat.le_of_ble_eq_true rfl, Nat.le_of_ble_eq_true rfl⟩) ⟨zblind, zrecvA hK hP (ci := 7) rfl rfl, zpreA hK hP hD⟩ rfl rfl hl.1 rfl (lv_room (Nat.le_of_ble_eq_true rfl)) dX7_stretch_29 ⟨Nat.zero_le _, Nat.zero_le _⟩) hP hD hS hA (fun H locs hP hD hS => ?_)
      have hP : va_P g.1 vwCl (zX7 g a u16.2) H := hP
      have hD : va_D A (zX7 g a u16.2) := hD
      have hR : (u16.1, u16.2) = r := Option.some.inj hf
      subst hR
      exact W.iret (v := u16.1) hx hb hr0 (fun t ht hW => ⟨⟨u16.1, (), rfl, rfl, by rw [ht]; exact hP, hD⟩, hS.F ht⟩) hS.2.2 dX7_stretch_32
  · have hf := oi hf c2
    refine lv_aload_n hx hb dX7_stretch_8 rfl (lv_at hl 0 rfl) ?_
    refine lv_iconst (v := 1) hx hb dX7_stretch_9 (by decide) ?_
    obtain ⟨u17, hu17, hf⟩ := ob hf
    refine zk_iA (va_runV (As := [.int 1]) (rest := []) ⟨hx, hb, hml, hown, hts⟩ (c_X7_fails l g a v 1 _ hu17 _) (zcV hw0 zm4_116 zm4_119 zm1_8 zm4_118 zs5_1 hd_X7_fails rfl rfl ⟨Nat.le_of_ble_eq_true rfl, Nat.le_of_ble_eq_true rfl⟩) ⟨zblind, zrecvA hK hP (ci := 7) rfl rfl, zpreA hK hP hD⟩ rfl rfl hl.1 rfl (lv_room (Nat.le_of_ble_eq_true rfl)) dX7_stretch_10 ⟨Nat.zero_le _, Nat.zero_le _⟩) hP hD hS hA (fun H locs hP hD hS => ?_)
    have hP : va_P g.1 vwCl (zX7 g a u17.2) H := hP
    have hD : va_D A (zX7 g a u17.2) := hD
    have hR : (u17.1, u17.2) = r := Option.some.inj hf
    subst hR
    exact W.iret (v := u17.1) hx hb hr0 (fun t ht hW => ⟨⟨u17.1, (), rfl, rfl, by rw [ht]; exact hP, hD⟩, hS.F ht⟩) hS.2.2 dX7_stretch_13
theorem hd_X7_inStatus : yX7_inStatus.cls ≠ "java/lang/invoke/MethodHandle" ∧ yX7_inStatus.cls ≠ "java/lang/invoke/VarHandle" ∧ (parseMethodDescriptor yX7_inStatus.desc).map (fun d => d.parameters.length) = some 1 := by decide +kernel
def s_X7_inStatus_4 (v : MV) (i1 : Int32) (x : Int32 × Int32) : Option ((Int32 × Int32) ⊕ (Int32 × Int32)) :=
  if (v.1 7) ≤ x.2 then
    some (.inr (x.1, x.2))
  else
    (f_X7_of v x.2 3).bind (fun u2 =>
    if u2 = i1 then
      some (.inl ((x.1 + 1), (x.2 + 1)))
    else
      some (.inl ((x.1 + 0), (x.2 + 1))))
def f_X7_inStatus (v : MV) (p0 : Int32) : Option (Int32) :=
  (zloop (s_X7_inStatus_4 v p0) 4096 (0, 0)).bind (fun u4 =>
  some u4.1)
set_option maxHeartbeats 4000000 in
set_option maxRecDepth 100000 in
theorem c_X7_inStatus (l : Launch) (g : zG) (a : Nat → Nat) (v : MV) (p0 : Int32) (r : Int32) (hf : f_X7_inStatus v p0 = some r) : zMi zNF zNM l yX7_inStatus (zw yX7_inStatus cX7_inStatus 4 (some .int)) ({ frames := 1, cells := 0, slots := 0, locals := 22 } : Room) g [.ref (a 0), .int p0] (zX7 g a v) r (zX7 g a v) := by
  intro sz
  refine Met.ofW (cc := cX7_inStatus) (maxL := 4) (ret := (some .int)) (by decide) rfl ?_
  intro p e s m args below meth c s₁ B hml hv
  obtain ⟨rfl, hsz, hP, hK, hD0⟩ := hv
  have hx := B.exec
  have hb := B.bytes
  have hr0 := B.returns
  have hts := atoms_spec (ws := (zw yX7_inStatus cX7_inStatus 4 (some .int))) B.pre
  have hw0 : ∀ w ∈ zW, w.before ([.ref (a 0), .int p0] : List Value).toArray s = true := fun w h => hts w (List.mem_cons_of_mem _ h)
  have hown : s.vm.findClass RX7 = some m.cls := findClass_of_methodNamed B.named
  have hlocks := B.notSynchronized
  subst hsz
  have hD := hD0.self (sz := s.heap.size)
  generalize hAe : va_A (zX7 g a v) s.heap.size = A at hD ⊢
  have hA : ∀ q : Nat, s.heap.size ≤ q → A q := fun q h => by rw [← hAe]; exact Or.inr h
  have hS : va_S A s.heap s.heap [] := va_S.rf
  have lp4 : ∀ (v : MV) (i1 : Int32), ∀ (n : Nat) (x : Int32 × Int32) (rr : Int32 × Int32), zloop (s_X7_inStatus_4 v i1) n x = some rr → (∀ (H : Heap) (locs : List Loc), va_P g.1 vwCl (zX7 g a v) H → va_D A (zX7 g a v) → va_S A s.heap H locs → ∀ ls : Array Slot, lv_has ls 4 [(2, .int rr.1)] → W p l e (headSpec (zw yX7_inStatus cX7_inStatus 4 (some .int)) ({ frames := 1, cells := 0, slots := 0, locals := 22 } : Room)).room s m ([.ref (a 0), .int p0] : List Value).toArray below meth c H locs 0 0 (MQ below (va_Qi (fun (x : Int32) (_ : Unit) => x = r) (fun _ => zEnd g A (zX7 g a v)) A) ([.ref (a 0), .int p0] : List Value).toArray s 0 0 A) (F0 m 39 ls [])) → ∀ (H : Heap) (locs : List Loc), va_P g.1 vwCl (zX7 g a v) H → va_D A (zX7 g a v) → va_S A s.heap H locs → ∀ ls : Array Slot, lv_has ls 4 [(0, .ref (a 0)), (1, .int i1), (2, .int x.1), (3, .int x.2)] → W p l e (headSpec (zw yX7_inStatus cX7_inStatus 4 (some .int)) ({ frames := 1, cells := 0, slots := 0, locals := 22 } : Room)).room s m ([.ref (a 0), .int p0] : List Value).toArray below meth c H locs 0 0 (MQ below (va_Qi (fun (x : Int32) (_ : Unit) => x = r) (fun _ => zEnd g A (zX7 g a v)) A) ([.ref (a 0), .int p0] : List Value).toArray s 0 0 A) (F0 m 4 ls []) := by
    intro v i1
    refine zloop_ind ?_
    intro x y rr hf ih hr hQ H locs hP hD hS ls hl
    unfold s_X7_inStatus_4 at hf
    refine lv_iload_n hx hb dX7_inStatus_4 rfl (lv_at hl 3 rfl) ?_
    refine lv_aload_n hx hb dX7_inStatus_5 rfl (lv_at hl 0 rfl) ?_
    refine va_get (D := g.1) (ci := 7) (v := .ref (a 1)) (C := RX7) (T := TX7) (N := 11) hx hb hw0 ziX7 hown hK.1 hP 0 rfl rfl 0 (by decide) (hw0 _ zm4_71) (fun _ h9 => h9) rfl dX7_inStatus_6 ?_
    refine lv_bipush (v := 7) hx hb dX7_inStatus_9 (by decide) ?_
    refine zald (D := g.1) (f := v.1) (k := 7) hx hb hK.1 hP 1 0 rfl rfl (zin_vp (i := 7) (n := 220) rfl) rfl dX7_inStatus_11 ?_
    refine lv_icmp_ge (tgt := 39) hx hb dX7_inStatus_12 (by decide) (fun c1 => ?_) (fun c1 => ?_)
    · have hf := oi hf c1
      have hR : (x.1, x.2) = rr := hr _ (Option.some.inj hf).symm
      subst hR
      exact hQ _ _ hP hD hS _ (lv_sub hl [2] rfl)
    · have hf := oe hf c1
      refine lv_iload_n hx hb dX7_inStatus_15 rfl (lv_at hl 2 rfl) ?_
      refine lv_aload_n hx hb dX7_inStatus_16 rfl (lv_at hl 0 rfl) ?_
      refine lv_iload_n hx hb dX7_inStatus_17 rfl (lv_at hl 3 rfl) ?_
      refine lv_iconst (v := 3) hx hb dX7_inStatus_18 (by decide) ?_
      obtain ⟨u2, hu2, hf⟩ := ob hf
      refine zk_iA (va_runV (As := [.int x.2, .int 3]) (rest := [.int x.1]) ⟨hx, hb, hml, hown, hts⟩ (c_X7_of l g a v x.2 3 _ hu2 _) (zcV hw0 zm4_144 zm4_147 zm1_8 zm4_146 zs5_6 hd_X7_of rfl rfl ⟨Nat.le_of_ble_eq_true rfl, Nat.le_of_ble_eq_true rfl⟩) ⟨zblind, zrecvA hK hP (ci := 7) rfl rfl, zpreA hK hP hD⟩ rfl rfl hl.1 rfl (lv_room (Nat.le_of_ble_eq_true rfl)) dX7_inStatus_19 ⟨Nat.zero_le _, Nat.zero_le _⟩) hP hD hS hA (fun H locs hP hD hS => ?_)
      refine lv_iload_n hx hb dX7_inStatus_22 rfl (lv_at hl 1 rfl) ?_
      refine lv_icmp_ne (tgt := 30) hx hb dX7_inStatus_23 (by decide) (fun c3 => ?_) (fun c3 => ?_)
      · have hf := oe hf c3
        refine lv_iconst (v := 0) hx hb dX7_inStatus_30 (by decide) ?_
        refine lv_iadd hx hb dX7_inStatus_31 ?_
        refine lv_istore_n (lv' := [(2, .int (x.1 + 0)), (0, .ref (a 0)), (1, .int i1), (3, .int x.2)]) hx hb dX7_inStatus_32 rfl hl (by decide) rfl (fun ls hl => ?_)
        refine lv_iinc (v := (x.2 + 1)) (lv' := [(3, .int (x.2 + 1)), (2, .int (x.1 + 0)), (0, .ref (a 0)), (1, .int i1)]) hx hb dX7_inStatus_33 hl (k := 3) rfl rfl (by decide) rfl (fun ls hl => ?_)
        refine lv_goto (tgt := 4) hx hb dX7_inStatus_36 (by decide) ?_
        exact ih ((x.1 + 0), (x.2 + 1)) (Option.some.inj hf).symm hQ _ _ hP hD hS _ (lv_sub hl [2, 3, 1, 0] rfl)
      · have hf := oi hf c3
        refine lv_iconst (v := 1) hx hb dX7_inStatus_26 (by decide) ?_
        refine lv_goto (tgt := 31) hx hb dX7_inStatus_27 (by decide) ?_
        refine lv_iadd hx hb dX7_inStatus_31 ?_
        refine lv_istore_n (lv' := [(2, .int (x.1 + 1)), (0, .ref (a 0)), (1, .int i1), (3, .int x.2)]) hx hb dX7_inStatus_32 rfl hl (by decide) rfl (fun ls hl => ?_)
        refine lv_iinc (v := (x.2 + 1)) (lv' := [(3, .int (x.2 + 1)), (2, .int (x.1 + 1)), (0, .ref (a 0)), (1, .int i1)]) hx hb dX7_inStatus_33 hl (k := 3) rfl rfl (by decide) rfl (fun ls hl => ?_)
        refine lv_goto (tgt := 4) hx hb dX7_inStatus_36 (by decide) ?_
        exact ih ((x.1 + 1), (x.2 + 1)) (Option.some.inj hf).symm hQ _ _ hP hD hS _ (lv_sub hl [2, 3, 1, 0] rfl)
  unfold f_X7_inStatus at hf
  have hl := lv_entry ([.ref (a 0), .int p0]) (n := 4) (Nat.le_of_ble_eq_true rfl)
  rw [lg_entry_eq]
  generalize (lg_sl ([.ref (a 0), .int p0]) ++ List.replicate (4 - (lg_sl ([.ref (a 0), .int p0])).length) Slot.unset).toArray = ls at hl ⊢
  have hl : lv_has ls 4 [(0, .ref (a 0)), (1, .int p0)] := hl
  refine lv_iconst (v := 0) hx hb dX7_inStatus_0 (by decide) ?_
  refine lv_istore_n (lv' := [(2, .int 0), (0, .ref (a 0)), (1, .int p0)]) hx hb dX7_inStatus_1 rfl hl (by decide) rfl (fun ls hl => ?_)
  refine lv_iconst (v := 0) hx hb dX7_inStatus_2 (by decide) ?_
  refine lv_istore_n (lv' := [(3, .int 0), (2, .int 0), (0, .ref (a 0)), (1, .int p0)]) hx hb dX7_inStatus_3 rfl hl (by decide) rfl (fun ls hl => ?_)
  obtain ⟨u4, hu4, hf⟩ := ob hf
  refine lp4 v p0 _ _ u4 hu4 (fun H locs hP hD hS ls hl => ?_) _ _ hP hD hS _ (lv_sub hl [2, 3, 1, 0] rfl)
  have hl : lv_has ls 4 [(2, .int u4.1)] := hl
  have hP : va_P g.1 vwCl (zX7 g a v) H := hP
  have hD : va_D A (zX7 g a v) := hD
  refine lv_iload_n hx hb dX7_inStatus_39 rfl (lv_at hl 0 rfl) ?_
  have hR : u4.1 = r := Option.some.inj hf
  subst hR
  exact W.iret (v := u4.1) hx hb hr0 (fun t ht hW => ⟨⟨u4.1, (), rfl, rfl, by rw [ht]; exact hP, hD⟩, hS.F ht⟩) hS.2.2 dX7_inStatus_40
theorem hd_X7_drop : yX7_drop.cls ≠ "java/lang/invoke/MethodHandle" ∧ yX7_drop.cls ≠ "java/lang/invoke/VarHandle" ∧ (parseMethodDescriptor yX7_drop.desc).map (fun d => d.parameters.length) = some 1 := by decide +kernel
def f_X7_drop (v : MV) (p0 : Int32) : Option (Int32 × MV) :=
  (f_X7_isElement v p0).bind (fun u1 =>
  if (zb u1) = 0 then
    (f_X7_fails v 1).bind (fun u9 =>
    some (u9.1, u9.2))
  else
    (f_X7_waits v p0).bind (fun u3 =>
    if (zb u3) = 0 then
      (f_X7_fails v 2).bind (fun u8 =>
      some (u8.1, u8.2))
    else
      (f_X7_save v).bind (fun u5 =>
      (f_X7_lets u5 p0).bind (fun u6 =>
      (f_X7_inStatus u6 0).bind (fun u7 =>
      some (u7, u6))))))
set_option maxHeartbeats 4000000 in
set_option maxRecDepth 100000 in
theorem c_X7_drop (l : Launch) (g : zG) (a : Nat → Nat) (v : MV) (p0 : Int32) (r : Int32 × MV) (hf : f_X7_drop v p0 = some r) : zMi zNF zNM l yX7_drop (zw yX7_drop cX7_drop 2 (some .int)) ({ frames := 2, cells := 0, slots := 0, locals := 45 } : Room) g [.ref (a 0), .int p0] (zX7 g a v) r.1 (zX7 g a r.2) := by
  intro sz
  refine Met.ofW (cc := cX7_drop) (maxL := 2) (ret := (some .int)) (by decide) rfl ?_
  intro p e s m args below meth c s₁ B hml hv
  obtain ⟨rfl, hsz, hP, hK, hD0⟩ := hv
  have hx := B.exec
  have hb := B.bytes
  have hr0 := B.returns
  have hts := atoms_spec (ws := (zw yX7_drop cX7_drop 2 (some .int))) B.pre
  have hw0 : ∀ w ∈ zW, w.before ([.ref (a 0), .int p0] : List Value).toArray s = true := fun w h => hts w (List.mem_cons_of_mem _ h)
  have hown : s.vm.findClass RX7 = some m.cls := findClass_of_methodNamed B.named
  have hlocks := B.notSynchronized
  subst hsz
  have hD := hD0.self (sz := s.heap.size)
  generalize hAe : va_A (zX7 g a v) s.heap.size = A at hD ⊢
  have hA : ∀ q : Nat, s.heap.size ≤ q → A q := fun q h => by rw [← hAe]; exact Or.inr h
  have hS : va_S A s.heap s.heap [] := va_S.rf
  unfold f_X7_drop at hf
  have hl := lv_entry ([.ref (a 0), .int p0]) (n := 2) (Nat.le_of_ble_eq_true rfl)
  rw [lg_entry_eq]
  generalize (lg_sl ([.ref (a 0), .int p0]) ++ List.replicate (2 - (lg_sl ([.ref (a 0), .int p0])).length) Slot.unset).toArray = ls at hl ⊢
  have hl : lv_has ls 2 [(0, .ref (a 0)), (1, .int p0)] := hl
  refine lv_aload_n hx hb dX7_drop_0 rfl (lv_at hl 0 rfl) ?_
  refine lv_iload_n hx hb dX7_drop_1 rfl (lv_at hl 1 rfl) ?_
  obtain ⟨u1, hu1, hf⟩ := ob hf
  refine zk_iA (va_runV (As := [.int p0]) (rest := []) ⟨hx, hb, hml, hown, hts⟩ (c_X7_isElement l g a v p0 _ hu1 _) (zcV hw0 zm4_140 zm4_143 zm1_8 zm4_142 zs5_5 hd_X7_isElement rfl rfl ⟨Nat.le_of_ble_eq_true rfl, Nat.le_of_ble_eq_true rfl⟩) ⟨zblind, zrecvA hK hP (ci := 7) rfl rfl, zpreA hK hP hD⟩ rfl rfl hl.1 rfl (lv_room (Nat.le_of_ble_eq_true rfl)) dX7_drop_2 ⟨Nat.zero_le _, Nat.zero_le _⟩) hP hD hS hA (fun H locs hP hD hS => ?_)
  refine lv_if_ne (tgt := 14) hx hb dX7_drop_5 (by decide) (fun c2 => ?_) (fun c2 => ?_)
  · have hf := oe hf c2
    refine lv_aload_n hx hb dX7_drop_14 rfl (lv_at hl 0 rfl) ?_
    refine lv_iload_n hx hb dX7_drop_15 rfl (lv_at hl 1 rfl) ?_
    obtain ⟨u3, hu3, hf⟩ := ob hf
    refine zk_iA (va_runV (As := [.int p0]) (rest := []) ⟨hx, hb, hml, hown, hts⟩ (c_X7_waits l g a v p0 _ hu3 _) (zcV hw0 zm4_160 zm4_163 zm1_8 zm4_162 zs5_9 hd_X7_waits rfl rfl ⟨Nat.le_of_ble_eq_true rfl, Nat.le_of_ble_eq_true rfl⟩) ⟨zblind, zrecvA hK hP (ci := 7) rfl rfl, zpreA hK hP hD⟩ rfl rfl hl.1 rfl (lv_room (Nat.le_of_ble_eq_true rfl)) dX7_drop_16 ⟨Nat.zero_le _, Nat.zero_le _⟩) hP hD hS hA (fun H locs hP hD hS => ?_)
    refine lv_if_ne (tgt := 28) hx hb dX7_drop_19 (by decide) (fun c4 => ?_) (fun c4 => ?_)
    · have hf := oe hf c4
      refine lv_aload_n hx hb dX7_drop_28 rfl (lv_at hl 0 rfl) ?_
      obtain ⟨u5, hu5, hf⟩ := ob hf
      refine zk_vA (va_runV (As := []) (rest := []) ⟨hx, hb, hml, hown, hts⟩ (c_X7_save l g a v _ hu5 _) (zcV hw0 zm4_120 zm4_123 zm1_8 zm4_122 zs5_2 hd_X7_save rfl rfl ⟨Nat.le_of_ble_eq_true rfl, Nat.le_of_ble_eq_true rfl⟩) ⟨zblind, zrecvA hK hP (ci := 7) rfl rfl, zpreA hK hP hD⟩ rfl rfl hl.1 rfl (lv_room (Nat.le_of_ble_eq_true rfl)) dX7_drop_29 ⟨Nat.zero_le _, Nat.zero_le _⟩) hP hD hS hA (fun H locs hP hD hS => ?_)
      have hP : va_P g.1 vwCl (zX7 g a u5) H := hP
      have hD : va_D A (zX7 g a u5) := hD
      refine lv_aload_n hx hb dX7_drop_32 rfl (lv_at hl 0 rfl) ?_
      refine lv_iload_n hx hb dX7_drop_33 rfl (lv_at hl 1 rfl) ?_
      obtain ⟨u6, hu6, hf⟩ := ob hf
      refine zk_vA (va_runV (As := [.int p0]) (rest := []) ⟨hx, hb, hml, hown, hts⟩ (c_X7_lets l g a u5 p0 _ hu6 _) (zcV hw0 zm4_164 zm4_167 zm1_8 zm4_166 zs5_10 hd_X7_lets rfl rfl ⟨Nat.le_of_ble_eq_true rfl, Nat.le_of_ble_eq_true rfl⟩) ⟨zblind, zrecvA hK hP (ci := 7) rfl rfl, zpreA hK hP hD⟩ rfl rfl hl.1 rfl (lv_room (Nat.le_of_ble_eq_true rfl)) dX7_drop_34 ⟨Nat.zero_le _, Nat.zero_le _⟩) hP hD hS hA (fun H locs hP hD hS => ?_)
      have hP : va_P g.1 vwCl (zX7 g a u6) H := hP
      have hD : va_D A (zX7 g a u6) := hD
      refine lv_aload_n hx hb dX7_drop_37 rfl (lv_at hl 0 rfl) ?_
      refine lv_iconst (v := 0) hx hb dX7_drop_38 (by decide) ?_
      obtain ⟨u7, hu7, hf⟩ := ob hf
      refine zk_iA (va_runV (As := [.int 0]) (rest := []) ⟨hx, hb, hml, hown, hts⟩ (c_X7_inStatus l g a u6 0 _ hu7 _) (zcV hw0 zm4_172 zm4_175 zm1_8 zm4_174 zs5_12 hd_X7_inStatus rfl rfl ⟨Nat.le_of_ble_eq_true rfl, Nat.le_of_ble_eq_true rfl⟩) ⟨zblind, zrecvA hK hP (ci := 7) rfl rfl, zpreA hK hP hD⟩ rfl rfl hl.1 rfl (lv_room (Nat.le_of_ble_eq_true rfl)) dX7_drop_39 ⟨Nat.zero_le _, Nat.zero_le _⟩) hP hD hS hA (fun H locs hP hD hS => ?_)
      have hR : (u7, u6) = r := Option.some.inj hf
      subst hR
      exact W.iret (v := u7) hx hb hr0 (fun t ht hW => ⟨⟨u7, (), rfl, rfl, by rw [ht]; exact hP, hD⟩, hS.F ht⟩) hS.2.2 dX7_drop_42
    · have hf := oi hf c4
      refine lv_aload_n hx hb dX7_drop_22 rfl (lv_at hl 0 rfl) ?_
      refine lv_iconst (v := 2) hx hb dX7_drop_23 (by decide) ?_
      obtain ⟨u8, hu8, hf⟩ := ob hf
      refine zk_iA (va_runV (As := [.int 2]) (rest := []) ⟨hx, hb, hml, hown, hts⟩ (c_X7_fails l g a v 2 _ hu8 _) (zcV hw0 zm4_116 zm4_119 zm1_8 zm4_118 zs5_1 hd_X7_fails rfl rfl ⟨Nat.le_of_ble_eq_true rfl, Nat.le_of_ble_eq_true rfl⟩) ⟨zblind, zrecvA hK hP (ci := 7) rfl rfl, zpreA hK hP hD⟩ rfl rfl hl.1 rfl (lv_room (Nat.le_of_ble_eq_true rfl)) dX7_drop_24 ⟨Nat.zero_le _, Nat.zero_le _⟩) hP hD hS hA (fun H locs hP hD hS => ?_)
      have hP : va_P g.1 vwCl (zX7 g a u8.2) H := hP
      have hD : va_D A (zX7 g a u8.2) := hD
      have hR : (u8.1, u8.2) = r := Option.some.inj hf
      subst hR
      exact W.iret (v := u8.1) hx hb hr0 (fun t ht hW => ⟨⟨u8.1, (), rfl, rfl, by rw [ht]; exact hP, hD⟩, hS.F ht⟩) hS.2.2 dX7_drop_27
  · have hf := oi hf c2
    refine lv_aload_n hx hb dX7_drop_8 rfl (lv_at hl 0 rfl) ?_
    refine lv_iconst (v := 1) hx hb dX7_drop_9 (by decide) ?_
    obtain ⟨u9, hu9, hf⟩ := ob hf
    refine zk_iA (va_runV (As := [.int 1]) (rest := []) ⟨hx, hb, hml, hown, hts⟩ (c_X7_fails l g a v 1 _ hu9 _) (zcV hw0 zm4_116 zm4_119 zm1_8 zm4_118 zs5_1 hd_X7_fails rfl rfl ⟨Nat.le_of_ble_eq_true rfl, Nat.le_of_ble_eq_true rfl⟩) ⟨zblind, zrecvA hK hP (ci := 7) rfl rfl, zpreA hK hP hD⟩ rfl rfl hl.1 rfl (lv_room (Nat.le_of_ble_eq_true rfl)) dX7_drop_10 ⟨Nat.zero_le _, Nat.zero_le _⟩) hP hD hS hA (fun H locs hP hD hS => ?_)
    have hP : va_P g.1 vwCl (zX7 g a u9.2) H := hP
    have hD : va_D A (zX7 g a u9.2) := hD
    have hR : (u9.1, u9.2) = r := Option.some.inj hf
    subst hR
    exact W.iret (v := u9.1) hx hb hr0 (fun t ht hW => ⟨⟨u9.1, (), rfl, rfl, by rw [ht]; exact hP, hD⟩, hS.F ht⟩) hS.2.2 dX7_drop_13
theorem hd_X7_pass : yX7_pass.cls ≠ "java/lang/invoke/MethodHandle" ∧ yX7_pass.cls ≠ "java/lang/invoke/VarHandle" ∧ (parseMethodDescriptor yX7_pass.desc).map (fun d => d.parameters.length) = some 1 := by decide +kernel
def f_X7_pass (v : MV) (p0 : Int32) : Option (Int32 × MV) :=
  (f_X7_in p0 1 3600).bind (fun u1 =>
  if (zb u1) = 0 then
    (f_X7_fails v 1).bind (fun u5 =>
    some (u5.1, u5.2))
  else
    (f_X7_save v).bind (fun u3 =>
    (f_X7_goesOn u3 p0).bind (fun u4 =>
    some (u4.1, u4.2))))
set_option maxHeartbeats 4000000 in
set_option maxRecDepth 100000 in
theorem c_X7_pass (l : Launch) (g : zG) (a : Nat → Nat) (v : MV) (p0 : Int32) (r : Int32 × MV) (hf : f_X7_pass v p0 = some r) : zMi zNF zNM l yX7_pass (zw yX7_pass cX7_pass 2 (some .int)) ({ frames := 5, cells := 0, slots := 0, locals := 120 } : Room) g [.ref (a 0), .int p0] (zX7 g a v) r.1 (zX7 g a r.2) := by
  intro sz
  refine Met.ofW (cc := cX7_pass) (maxL := 2) (ret := (some .int)) (by decide) rfl ?_
  intro p e s m args below meth c s₁ B hml hv
  obtain ⟨rfl, hsz, hP, hK, hD0⟩ := hv
  have hx := B.exec
  have hb := B.bytes
  have hr0 := B.returns
  have hts := atoms_spec (ws := (zw yX7_pass cX7_pass 2 (some .int))) B.pre
  have hw0 : ∀ w ∈ zW, w.before ([.ref (a 0), .int p0] : List Value).toArray s = true := fun w h => hts w (List.mem_cons_of_mem _ h)
  have hown : s.vm.findClass RX7 = some m.cls := findClass_of_methodNamed B.named
  have hlocks := B.notSynchronized
  subst hsz
  have hD := hD0.self (sz := s.heap.size)
  generalize hAe : va_A (zX7 g a v) s.heap.size = A at hD ⊢
  have hA : ∀ q : Nat, s.heap.size ≤ q → A q := fun q h => by rw [← hAe]; exact Or.inr h
  have hS : va_S A s.heap s.heap [] := va_S.rf
  unfold f_X7_pass at hf
  have hl := lv_entry ([.ref (a 0), .int p0]) (n := 2) (Nat.le_of_ble_eq_true rfl)
  rw [lg_entry_eq]
  generalize (lg_sl ([.ref (a 0), .int p0]) ++ List.replicate (2 - (lg_sl ([.ref (a 0), .int p0])).length) Slot.unset).toArray = ls at hl ⊢
  have hl : lv_has ls 2 [(0, .ref (a 0)), (1, .int p0)] := hl
  refine lv_iload_n hx hb dX7_pass_0 rfl (lv_at hl 1 rfl) ?_
  refine lv_iconst (v := 1) hx hb dX7_pass_1 (by decide) ?_
  refine lv_sipush (v := 3600) hx hb dX7_pass_2 (by decide) ?_
  obtain ⟨u1, hu1, hf⟩ := ob hf
  refine zk_iR (va_runS (As := [.int p0, .int 1, .int 3600]) (rest := []) ⟨hx, hb, hml, hown, hts⟩ (c_X7_in l g p0 1 3600 _ hu1 _) (zcS hw0 zm4_113 zm4_115 zm1_8 zm4_114 hd_X7_in rfl rfl ⟨Nat.le_of_ble_eq_true rfl, Nat.le_of_ble_eq_true rfl⟩) ⟨zblind, zpre hK hP hD [] rfl rfl⟩ rfl rfl hl.1 rfl (lv_room (Nat.le_of_ble_eq_true rfl)) dX7_pass_5 ⟨Nat.zero_le _, Nat.zero_le _⟩) hP hD hS hA [] rfl (fun H locs hP hD hS => ?_)
  refine lv_if_ne (tgt := 17) hx hb dX7_pass_8 (by decide) (fun c2 => ?_) (fun c2 => ?_)
  · have hf := oe hf c2
    refine lv_aload_n hx hb dX7_pass_17 rfl (lv_at hl 0 rfl) ?_
    obtain ⟨u3, hu3, hf⟩ := ob hf
    refine zk_vA (va_runV (As := []) (rest := []) ⟨hx, hb, hml, hown, hts⟩ (c_X7_save l g a v _ hu3 _) (zcV hw0 zm4_120 zm4_123 zm1_8 zm4_122 zs5_2 hd_X7_save rfl rfl ⟨Nat.le_of_ble_eq_true rfl, Nat.le_of_ble_eq_true rfl⟩) ⟨zblind, zrecvA hK hP (ci := 7) rfl rfl, zpreA hK hP hD⟩ rfl rfl hl.1 rfl (lv_room (Nat.le_of_ble_eq_true rfl)) dX7_pass_18 ⟨Nat.zero_le _, Nat.zero_le _⟩) hP hD hS hA (fun H locs hP hD hS => ?_)
    have hP : va_P g.1 vwCl (zX7 g a u3) H := hP
    have hD : va_D A (zX7 g a u3) := hD
    refine lv_aload_n hx hb dX7_pass_21 rfl (lv_at hl 0 rfl) ?_
    refine lv_iload_n hx hb dX7_pass_22 rfl (lv_at hl 1 rfl) ?_
    obtain ⟨u4, hu4, hf⟩ := ob hf
    refine zk_iA (va_runV (As := [.int p0]) (rest := []) ⟨hx, hb, hml, hown, hts⟩ (c_X7_goesOn l g a u3 p0 _ hu4 _) (zcV hw0 zm4_180 zm4_183 zm1_8 zm4_182 zs5_13 hd_X7_goesOn rfl rfl ⟨Nat.le_of_ble_eq_true rfl, Nat.le_of_ble_eq_true rfl⟩) ⟨zblind, zrecvA hK hP (ci := 7) rfl rfl, zpreA hK hP hD⟩ rfl rfl hl.1 rfl (lv_room (Nat.le_of_ble_eq_true rfl)) dX7_pass_23 ⟨Nat.zero_le _, Nat.zero_le _⟩) hP hD hS hA (fun H locs hP hD hS => ?_)
    have hP : va_P g.1 vwCl (zX7 g a u4.2) H := hP
    have hD : va_D A (zX7 g a u4.2) := hD
    have hR : (u4.1, u4.2) = r := Option.some.inj hf
    subst hR
    exact W.iret (v := u4.1) hx hb hr0 (fun t ht hW => ⟨⟨u4.1, (), rfl, rfl, by rw [ht]; exact hP, hD⟩, hS.F ht⟩) hS.2.2 dX7_pass_26
  · have hf := oi hf c2
    refine lv_aload_n hx hb dX7_pass_11 rfl (lv_at hl 0 rfl) ?_
    refine lv_iconst (v := 1) hx hb dX7_pass_12 (by decide) ?_
    obtain ⟨u5, hu5, hf⟩ := ob hf
    refine zk_iA (va_runV (As := [.int 1]) (rest := []) ⟨hx, hb, hml, hown, hts⟩ (c_X7_fails l g a v 1 _ hu5 _) (zcV hw0 zm4_116 zm4_119 zm1_8 zm4_118 zs5_1 hd_X7_fails rfl rfl ⟨Nat.le_of_ble_eq_true rfl, Nat.le_of_ble_eq_true rfl⟩) ⟨zblind, zrecvA hK hP (ci := 7) rfl rfl, zpreA hK hP hD⟩ rfl rfl hl.1 rfl (lv_room (Nat.le_of_ble_eq_true rfl)) dX7_pass_13 ⟨Nat.zero_le _, Nat.zero_le _⟩) hP hD hS hA (fun H locs hP hD hS => ?_)
    have hP : va_P g.1 vwCl (zX7 g a u5.2) H := hP
    have hD : va_D A (zX7 g a u5.2) := hD
    have hR : (u5.1, u5.2) = r := Option.some.inj hf
    subst hR
    exact W.iret (v := u5.1) hx hb hr0 (fun t ht hW => ⟨⟨u5.1, (), rfl, rfl, by rw [ht]; exact hP, hD⟩, hS.F ht⟩) hS.2.2 dX7_pass_16
theorem hd_X7_finish : yX7_finish.cls ≠ "java/lang/invoke/MethodHandle" ∧ yX7_finish.cls ≠ "java/lang/invoke/VarHandle" ∧ (parseMethodDescriptor yX7_finish.desc).map (fun d => d.parameters.length) = some 0 := by decide +kernel
def f_X7_finish (v : MV) : Option (Int32 × MV) :=
  (f_X7_save v).bind (fun u1 =>
  (f_X7_goesOn u1 100000000).bind (fun u2 =>
  some (((u2.2.1 0) - 3600), u2.2)))
set_option maxHeartbeats 4000000 in
set_option maxRecDepth 100000 in
theorem c_X7_finish (l : Launch) (g : zG) (a : Nat → Nat) (v : MV) (r : Int32 × MV) (hf : f_X7_finish v = some r) : zMi zNF zNM l yX7_finish (zw yX7_finish cX7_finish 2 (some .int)) ({ frames := 5, cells := 0, slots := 0, locals := 120 } : Room) g [.ref (a 0)] (zX7 g a v) r.1 (zX7 g a r.2) := by
  intro sz
  refine Met.ofW (cc := cX7_finish) (maxL := 2) (ret := (some .int)) (by decide) rfl ?_
  intro p e s m args below meth c s₁ B hml hv
  obtain ⟨rfl, hsz, hP, hK, hD0⟩ := hv
  have hx := B.exec
  have hb := B.bytes
  have hr0 := B.returns
  have hts := atoms_spec (ws := (zw yX7_finish cX7_finish 2 (some .int))) B.pre
  have hw0 : ∀ w ∈ zW, w.before ([.ref (a 0)] : List Value).toArray s = true := fun w h => hts w (List.mem_cons_of_mem _ h)
  have hown : s.vm.findClass RX7 = some m.cls := findClass_of_methodNamed B.named
  have hlocks := B.notSynchronized
  subst hsz
  have hD := hD0.self (sz := s.heap.size)
  generalize hAe : va_A (zX7 g a v) s.heap.size = A at hD ⊢
  have hA : ∀ q : Nat, s.heap.size ≤ q → A q := fun q h => by rw [← hAe]; exact Or.inr h
  have hS : va_S A s.heap s.heap [] := va_S.rf
  unfold f_X7_finish at hf
  have hl := lv_entry ([.ref (a 0)]) (n := 2) (Nat.le_of_ble_eq_true rfl)
  rw [lg_entry_eq]
  generalize (lg_sl ([.ref (a 0)]) ++ List.replicate (2 - (lg_sl ([.ref (a 0)])).length) Slot.unset).toArray = ls at hl ⊢
  have hl : lv_has ls 2 [(0, .ref (a 0))] := hl
  refine lv_aload_n hx hb dX7_finish_0 rfl (lv_at hl 0 rfl) ?_
  obtain ⟨u1, hu1, hf⟩ := ob hf
  refine zk_vA (va_runV (As := []) (rest := []) ⟨hx, hb, hml, hown, hts⟩ (c_X7_save l g a v _ hu1 _) (zcV hw0 zm4_120 zm4_123 zm1_8 zm4_122 zs5_2 hd_X7_save rfl rfl ⟨Nat.le_of_ble_eq_true rfl, Nat.le_of_ble_eq_true rfl⟩) ⟨zblind, zrecvA hK hP (ci := 7) rfl rfl, zpreA hK hP hD⟩ rfl rfl hl.1 rfl (lv_room (Nat.le_of_ble_eq_true rfl)) dX7_finish_1 ⟨Nat.zero_le _, Nat.zero_le _⟩) hP hD hS hA (fun H locs hP hD hS => ?_)
  have hP : va_P g.1 vwCl (zX7 g a u1) H := hP
  have hD : va_D A (zX7 g a u1) := hD
  refine lv_aload_n hx hb dX7_finish_4 rfl (lv_at hl 0 rfl) ?_
  refine lv_ldc (v := 100000000) hx hb hown (hw0 _ zm5_10) dX7_finish_5 ?_
  obtain ⟨u2, hu2, hf⟩ := ob hf
  refine zk_iA (va_runV (As := [.int 100000000]) (rest := []) ⟨hx, hb, hml, hown, hts⟩ (c_X7_goesOn l g a u1 100000000 _ hu2 _) (zcV hw0 zm4_180 zm4_183 zm1_8 zm4_182 zs5_13 hd_X7_goesOn rfl rfl ⟨Nat.le_of_ble_eq_true rfl, Nat.le_of_ble_eq_true rfl⟩) ⟨zblind, zrecvA hK hP (ci := 7) rfl rfl, zpreA hK hP hD⟩ rfl rfl hl.1 rfl (lv_room (Nat.le_of_ble_eq_true rfl)) dX7_finish_7 ⟨Nat.zero_le _, Nat.zero_le _⟩) hP hD hS hA (fun H locs hP hD hS => ?_)
  have hP : va_P g.1 vwCl (zX7 g a u2.2) H := hP
  have hD : va_D A (zX7 g a u2.2) := hD
  refine lv_istore_n (lv' := [(1, .int u2.1), (0, .ref (a 0))]) hx hb dX7_finish_10 rfl hl (by decide) rfl (fun ls hl => ?_)
  refine lv_aload_n hx hb dX7_finish_11 rfl (lv_at hl 1 rfl) ?_
  refine va_get (D := g.1) (ci := 7) (v := .ref (a 1)) (C := RX7) (T := TX7) (N := 11) hx hb hw0 ziX7 hown hK.1 hP 0 rfl rfl 0 (by decide) (hw0 _ zm4_71) (fun _ h9 => h9) rfl dX7_finish_12 ?_
  refine lv_iconst (v := 0) hx hb dX7_finish_15 (by decide) ?_
  refine zald (D := g.1) (f := u2.2.1) (k := 0) hx hb hK.1 hP 1 0 rfl rfl (zin_vp (i := 0) (n := 220) rfl) rfl dX7_finish_16 ?_
  refine lv_sipush (v := 3600) hx hb dX7_finish_17 (by decide) ?_
  refine lv_isub hx hb dX7_finish_20 ?_
  have hR : (((u2.2.1 0) - 3600), u2.2) = r := Option.some.inj hf
  subst hR
  exact W.iret (v := ((u2.2.1 0) - 3600)) hx hb hr0 (fun t ht hW => ⟨⟨((u2.2.1 0) - 3600), (), rfl, rfl, by rw [ht]; exact hP, hD⟩, hS.F ht⟩) hS.2.2 dX7_finish_21
theorem hd_X7_begins : yX7_begins.cls ≠ "java/lang/invoke/MethodHandle" ∧ yX7_begins.cls ≠ "java/lang/invoke/VarHandle" ∧ (parseMethodDescriptor yX7_begins.desc).map (fun d => d.parameters.length) = some 0 := by decide +kernel
def s_X7_begins_38 (v : MV) (x : Int32 × FF) : Option ((Int32 × FF) ⊕ (Int32 × FF)) :=
  if (x.2 7) ≤ x.1 then
    some (.inr (x.1, x.2))
  else
    if zin ((10 + (5 * x.1)) + 3) 220 = true then
    if zin ((10 + (5 * x.1)) + 4) 220 = true then
    some (.inl ((x.1 + 1), (upd (upd x.2 (((10 + (5 * x.1)) + 3).toNatClampNeg) 0) (((10 + (5 * x.1)) + 4).toNatClampNeg) (-1))))
    else none
    else none
def s_X7_begins_85 (v : MV) (x : Int32 × FF) : Option ((Int32 × FF) ⊕ (Int32 × FF)) :=
  if (x.2 8) ≤ x.1 then
    some (.inr (x.1, x.2))
  else
    if zin ((70 + (3 * x.1)) + 1) 220 = true then
    if zin ((70 + (3 * x.1)) + 2) 220 = true then
    some (.inl ((x.1 + 1), (upd (upd x.2 (((70 + (3 * x.1)) + 1).toNatClampNeg) 0) (((70 + (3 * x.1)) + 2).toNatClampNeg) (-1))))
    else none
    else none
def f_X7_begins (v : MV) : Option (MV) :=
  (zloop (s_X7_begins_38 ((upd (upd (upd (upd (upd v.1 0 0) 1 0) 2 0) 5 0) 9 0), v.2.1, v.2.2.1, v.2.2.2.1, v.2.2.2.2.1, v.2.2.2.2.2.1, v.2.2.2.2.2.2.1, v.2.2.2.2.2.2.2.1, v.2.2.2.2.2.2.2.2.1, v.2.2.2.2.2.2.2.2.2.1, v.2.2.2.2.2.2.2.2.2.2)) 4096 (0, (upd (upd (upd (upd (upd v.1 0 0) 1 0) 2 0) 5 0) 9 0))).bind (fun u4 =>
  (zloop (s_X7_begins_85 (u4.2, v.2.1, v.2.2.1, v.2.2.2.1, v.2.2.2.2.1, v.2.2.2.2.2.1, v.2.2.2.2.2.2.1, v.2.2.2.2.2.2.2.1, v.2.2.2.2.2.2.2.2.1, v.2.2.2.2.2.2.2.2.2.1, v.2.2.2.2.2.2.2.2.2.2)) 4096 (0, u4.2)).bind (fun u8 =>
  some (u8.2, v.2.1, v.2.2.1, v.2.2.2.1, v.2.2.2.2.1, v.2.2.2.2.2.1, v.2.2.2.2.2.2.1, v.2.2.2.2.2.2.2.1, v.2.2.2.2.2.2.2.2.1, v.2.2.2.2.2.2.2.2.2.1, v.2.2.2.2.2.2.2.2.2.2)))
set_option maxHeartbeats 4000000 in
set_option maxRecDepth 100000 in
theorem c_X7_begins (l : Launch) (g : zG) (a : Nat → Nat) (v : MV) (r : MV) (hf : f_X7_begins v = some r) : zMv zNF zNM l yX7_begins (zw yX7_begins cX7_begins 2 none) ({ frames := 0, cells := 0, slots := 0, locals := 0 } : Room) g [.ref (a 0)] (zX7 g a v) (zX7 g a r) := by
  intro sz
  refine Met.ofW (cc := cX7_begins) (maxL := 2) (ret := none) (by decide) rfl ?_
  intro p e s m args below meth c s₁ B hml hv
  obtain ⟨rfl, hsz, hP, hK, hD0⟩ := hv
  have hx := B.exec
  have hb := B.bytes
  have hr0 := B.returns
  have hts := atoms_spec (ws := (zw yX7_begins cX7_begins 2 none)) B.pre
  have hw0 : ∀ w ∈ zW, w.before ([.ref (a 0)] : List Value).toArray s = true := fun w h => hts w (List.mem_cons_of_mem _ h)
  have hown : s.vm.findClass RX7 = some m.cls := findClass_of_methodNamed B.named
  have hlocks := B.notSynchronized
  subst hsz
  have hD := hD0.self (sz := s.heap.size)
  generalize hAe : va_A (zX7 g a v) s.heap.size = A at hD ⊢
  have hA : ∀ q : Nat, s.heap.size ≤ q → A q := fun q h => by rw [← hAe]; exact Or.inr h
  have hS : va_S A s.heap s.heap [] := va_S.rf
  have lp38 : ∀ (v : MV), ∀ (n : Nat) (x : Int32 × FF) (rr : Int32 × FF), zloop (s_X7_begins_38 v) n x = some rr → (∀ (H : Heap) (locs : List Loc), va_P g.1 vwCl (zX7 g a (rr.2, v.2.1, v.2.2.1, v.2.2.2.1, v.2.2.2.2.1, v.2.2.2.2.2.1, v.2.2.2.2.2.2.1, v.2.2.2.2.2.2.2.1, v.2.2.2.2.2.2.2.2.1, v.2.2.2.2.2.2.2.2.2.1, v.2.2.2.2.2.2.2.2.2.2)) H → va_D A (zX7 g a (rr.2, v.2.1, v.2.2.1, v.2.2.2.1, v.2.2.2.2.1, v.2.2.2.2.2.1, v.2.2.2.2.2.2.1, v.2.2.2.2.2.2.2.1, v.2.2.2.2.2.2.2.2.1, v.2.2.2.2.2.2.2.2.2.1, v.2.2.2.2.2.2.2.2.2.2)) → va_S A s.heap H locs → ∀ ls : Array Slot, lv_has ls 2 [(0, .ref (a 0))] → W p l e (headSpec (zw yX7_begins cX7_begins 2 none) ({ frames := 0, cells := 0, slots := 0, locals := 0 } : Room)).room s m ([.ref (a 0)] : List Value).toArray below meth c H locs 0 0 (MQ below (va_Qv (fun (_ : Unit) => True) (fun _ => zEnd g A (zX7 g a r)) A) ([.ref (a 0)] : List Value).toArray s 0 0 A) (F0 m 83 ls [])) → ∀ (H : Heap) (locs : List Loc), va_P g.1 vwCl (zX7 g a (x.2, v.2.1, v.2.2.1, v.2.2.2.1, v.2.2.2.2.1, v.2.2.2.2.2.1, v.2.2.2.2.2.2.1, v.2.2.2.2.2.2.2.1, v.2.2.2.2.2.2.2.2.1, v.2.2.2.2.2.2.2.2.2.1, v.2.2.2.2.2.2.2.2.2.2)) H → va_D A (zX7 g a (x.2, v.2.1, v.2.2.1, v.2.2.2.1, v.2.2.2.2.1, v.2.2.2.2.2.1, v.2.2.2.2.2.2.1, v.2.2.2.2.2.2.2.1, v.2.2.2.2.2.2.2.2.1, v.2.2.2.2.2.2.2.2.2.1, v.2.2.2.2.2.2.2.2.2.2)) → va_S A s.heap H locs → ∀ ls : Array Slot, lv_has ls 2 [(0, .ref (a 0)), (1, .int x.1)] → W p l e (headSpec (zw yX7_begins cX7_begins 2 none) ({ frames := 0, cells := 0, slots := 0, locals := 0 } : Room)).room s m ([.ref (a 0)] : List Value).toArray below meth c H locs 0 0 (MQ below (va_Qv (fun (_ : Unit) => True) (fun _ => zEnd g A (zX7 g a r)) A) ([.ref (a 0)] : List Value).toArray s 0 0 A) (F0 m 38 ls []) := by
    intro v
    refine zloop_ind ?_
    intro x y rr hf ih hr hQ H locs hP hD hS ls hl
    unfold s_X7_begins_38 at hf
    refine lv_iload_n hx hb dX7_begins_38 rfl (lv_at hl 1 rfl) ?_
    refine lv_aload_n hx hb dX7_begins_39 rfl (lv_at hl 0 rfl) ?_
    refine va_get (D := g.1) (ci := 7) (v := .ref (a 1)) (C := RX7) (T := TX7) (N := 11) hx hb hw0 ziX7 hown hK.1 hP 0 rfl rfl 0 (by decide) (hw0 _ zm4_71) (fun _ h9 => h9) rfl dX7_begins_40 ?_
    refine lv_bipush (v := 7) hx hb dX7_begins_43 (by decide) ?_
    refine zald (D := g.1) (f := x.2) (k := 7) hx hb hK.1 hP 1 0 rfl rfl (zin_vp (i := 7) (n := 220) rfl) rfl dX7_begins_45 ?_
    refine lv_icmp_ge (tgt := 83) hx hb dX7_begins_46 (by decide) (fun c1 => ?_) (fun c1 => ?_)
    · have hf := oi hf c1
      have hR : (x.1, x.2) = rr := hr _ (Option.some.inj hf).symm
      subst hR
      exact hQ _ _ hP hD hS _ (lv_sub hl [0] rfl)
    · have hf := oe hf c1
      refine lv_aload_n hx hb dX7_begins_49 rfl (lv_at hl 0 rfl) ?_
      refine va_get (D := g.1) (ci := 7) (v := .ref (a 1)) (C := RX7) (T := TX7) (N := 11) hx hb hw0 ziX7 hown hK.1 hP 0 rfl rfl 0 (by decide) (hw0 _ zm4_71) (fun _ h9 => h9) rfl dX7_begins_50 ?_
      refine lv_bipush (v := 10) hx hb dX7_begins_53 (by decide) ?_
      refine lv_iconst (v := 5) hx hb dX7_begins_55 (by decide) ?_
      refine lv_iload_n hx hb dX7_begins_56 rfl (lv_at hl 1 rfl) ?_
      refine lv_imul hx hb dX7_begins_57 ?_
      refine lv_iadd hx hb dX7_begins_58 ?_
      refine lv_iconst (v := 3) hx hb dX7_begins_59 (by decide) ?_
      refine lv_iadd hx hb dX7_begins_60 ?_
      refine lv_iconst (v := 0) hx hb dX7_begins_61 (by decide) ?_
      obtain ⟨h2, hf⟩ := og hf
      refine zast (D := g.1) (f := x.2) (k := ((10 + (5 * x.1)) + 3).toNatClampNeg) (x := 0) hx hb hK.1 hP hD hS 1 0 rfl rfl (zin_vp h2) rfl dX7_begins_62 (fun H locs hP hD hS => ?_)
      have hP : va_P g.1 vwCl (zX7 g a ((upd x.2 (((10 + (5 * x.1)) + 3).toNatClampNeg) 0), v.2.1, v.2.2.1, v.2.2.2.1, v.2.2.2.2.1, v.2.2.2.2.2.1, v.2.2.2.2.2.2.1, v.2.2.2.2.2.2.2.1, v.2.2.2.2.2.2.2.2.1, v.2.2.2.2.2.2.2.2.2.1, v.2.2.2.2.2.2.2.2.2.2)) H := hP
      have hD : va_D A (zX7 g a ((upd x.2 (((10 + (5 * x.1)) + 3).toNatClampNeg) 0), v.2.1, v.2.2.1, v.2.2.2.1, v.2.2.2.2.1, v.2.2.2.2.2.1, v.2.2.2.2.2.2.1, v.2.2.2.2.2.2.2.1, v.2.2.2.2.2.2.2.2.1, v.2.2.2.2.2.2.2.2.2.1, v.2.2.2.2.2.2.2.2.2.2)) := hD
      refine lv_aload_n hx hb dX7_begins_63 rfl (lv_at hl 0 rfl) ?_
      refine va_get (D := g.1) (ci := 7) (v := .ref (a 1)) (C := RX7) (T := TX7) (N := 11) hx hb hw0 ziX7 hown hK.1 hP 0 rfl rfl 0 (by decide) (hw0 _ zm4_71) (fun _ h9 => h9) rfl dX7_begins_64 ?_
      refine lv_bipush (v := 10) hx hb dX7_begins_67 (by decide) ?_
      refine lv_iconst (v := 5) hx hb dX7_begins_69 (by decide) ?_
      refine lv_iload_n hx hb dX7_begins_70 rfl (lv_at hl 1 rfl) ?_
      refine lv_imul hx hb dX7_begins_71 ?_
      refine lv_iadd hx hb dX7_begins_72 ?_
      refine lv_iconst (v := 4) hx hb dX7_begins_73 (by decide) ?_
      refine lv_iadd hx hb dX7_begins_74 ?_
      refine lv_iconst (v := (-1)) hx hb dX7_begins_75 (by decide) ?_
      obtain ⟨h3, hf⟩ := og hf
      refine zast (D := g.1) (f := (upd x.2 (((10 + (5 * x.1)) + 3).toNatClampNeg) 0)) (k := ((10 + (5 * x.1)) + 4).toNatClampNeg) (x := (-1)) hx hb hK.1 hP hD hS 1 0 rfl rfl (zin_vp h3) rfl dX7_begins_76 (fun H locs hP hD hS => ?_)
      have hP : va_P g.1 vwCl (zX7 g a ((upd (upd x.2 (((10 + (5 * x.1)) + 3).toNatClampNeg) 0) (((10 + (5 * x.1)) + 4).toNatClampNeg) (-1)), v.2.1, v.2.2.1, v.2.2.2.1, v.2.2.2.2.1, v.2.2.2.2.2.1, v.2.2.2.2.2.2.1, v.2.2.2.2.2.2.2.1, v.2.2.2.2.2.2.2.2.1, v.2.2.2.2.2.2.2.2.2.1, v.2.2.2.2.2.2.2.2.2.2)) H := hP
      have hD : va_D A (zX7 g a ((upd (upd x.2 (((10 + (5 * x.1)) + 3).toNatClampNeg) 0) (((10 + (5 * x.1)) + 4).toNatClampNeg) (-1)), v.2.1, v.2.2.1, v.2.2.2.1, v.2.2.2.2.1, v.2.2.2.2.2.1, v.2.2.2.2.2.2.1, v.2.2.2.2.2.2.2.1, v.2.2.2.2.2.2.2.2.1, v.2.2.2.2.2.2.2.2.2.1, v.2.2.2.2.2.2.2.2.2.2)) := hD
      refine lv_iinc (v := (x.1 + 1)) (lv' := [(1, .int (x.1 + 1)), (0, .ref (a 0))]) hx hb dX7_begins_77 hl (k := 1) rfl rfl (by decide) rfl (fun ls hl => ?_)
      refine lv_goto (tgt := 38) hx hb dX7_begins_80 (by decide) ?_
      exact ih ((x.1 + 1), (upd (upd x.2 (((10 + (5 * x.1)) + 3).toNatClampNeg) 0) (((10 + (5 * x.1)) + 4).toNatClampNeg) (-1))) (Option.some.inj hf).symm hQ _ _ hP hD hS _ (lv_sub hl [1, 0] rfl)
  have lp85 : ∀ (v : MV), ∀ (n : Nat) (x : Int32 × FF) (rr : Int32 × FF), zloop (s_X7_begins_85 v) n x = some rr → (∀ (H : Heap) (locs : List Loc), va_P g.1 vwCl (zX7 g a (rr.2, v.2.1, v.2.2.1, v.2.2.2.1, v.2.2.2.2.1, v.2.2.2.2.2.1, v.2.2.2.2.2.2.1, v.2.2.2.2.2.2.2.1, v.2.2.2.2.2.2.2.2.1, v.2.2.2.2.2.2.2.2.2.1, v.2.2.2.2.2.2.2.2.2.2)) H → va_D A (zX7 g a (rr.2, v.2.1, v.2.2.1, v.2.2.2.1, v.2.2.2.2.1, v.2.2.2.2.2.1, v.2.2.2.2.2.2.1, v.2.2.2.2.2.2.2.1, v.2.2.2.2.2.2.2.2.1, v.2.2.2.2.2.2.2.2.2.1, v.2.2.2.2.2.2.2.2.2.2)) → va_S A s.heap H locs → ∀ ls : Array Slot, lv_has ls 2 [] → W p l e (headSpec (zw yX7_begins cX7_begins 2 none) ({ frames := 0, cells := 0, slots := 0, locals := 0 } : Room)).room s m ([.ref (a 0)] : List Value).toArray below meth c H locs 0 0 (MQ below (va_Qv (fun (_ : Unit) => True) (fun _ => zEnd g A (zX7 g a r)) A) ([.ref (a 0)] : List Value).toArray s 0 0 A) (F0 m 130 ls [])) → ∀ (H : Heap) (locs : List Loc), va_P g.1 vwCl (zX7 g a (x.2, v.2.1, v.2.2.1, v.2.2.2.1, v.2.2.2.2.1, v.2.2.2.2.2.1, v.2.2.2.2.2.2.1, v.2.2.2.2.2.2.2.1, v.2.2.2.2.2.2.2.2.1, v.2.2.2.2.2.2.2.2.2.1, v.2.2.2.2.2.2.2.2.2.2)) H → va_D A (zX7 g a (x.2, v.2.1, v.2.2.1, v.2.2.2.1, v.2.2.2.2.1, v.2.2.2.2.2.1, v.2.2.2.2.2.2.1, v.2.2.2.2.2.2.2.1, v.2.2.2.2.2.2.2.2.1, v.2.2.2.2.2.2.2.2.2.1, v.2.2.2.2.2.2.2.2.2.2)) → va_S A s.heap H locs → ∀ ls : Array Slot, lv_has ls 2 [(0, .ref (a 0)), (1, .int x.1)] → W p l e (headSpec (zw yX7_begins cX7_begins 2 none) ({ frames := 0, cells := 0, slots := 0, locals := 0 } : Room)).room s m ([.ref (a 0)] : List Value).toArray below meth c H locs 0 0 (MQ below (va_Qv (fun (_ : Unit) => True) (fun _ => zEnd g A (zX7 g a r)) A) ([.ref (a 0)] : List Value).toArray s 0 0 A) (F0 m 85 ls []) := by
    intro v
    refine zloop_ind ?_
    intro x y rr hf ih hr hQ H locs hP hD hS ls hl
    unfold s_X7_begins_85 at hf
    refine lv_iload_n hx hb dX7_begins_85 rfl (lv_at hl 1 rfl) ?_
    refine lv_aload_n hx hb dX7_begins_86 rfl (lv_at hl 0 rfl) ?_
    refine va_get (D := g.1) (ci := 7) (v := .ref (a 1)) (C := RX7) (T := TX7) (N := 11) hx hb hw0 ziX7 hown hK.1 hP 0 rfl rfl 0 (by decide) (hw0 _ zm4_71) (fun _ h9 => h9) rfl dX7_begins_87 ?_
    refine lv_bipush (v := 8) hx hb dX7_begins_90 (by decide) ?_
    refine zald (D := g.1) (f := x.2) (k := 8) hx hb hK.1 hP 1 0 rfl rfl (zin_vp (i := 8) (n := 220) rfl) rfl dX7_begins_92 ?_
    refine lv_icmp_ge (tgt := 130) hx hb dX7_begins_93 (by decide) (fun c5 => ?_) (fun c5 => ?_)
    · have hf := oi hf c5
      have hR : (x.1, x.2) = rr := hr _ (Option.some.inj hf).symm
      subst hR
      exact hQ _ _ hP hD hS _ (lv_sub hl [] rfl)
    · have hf := oe hf c5
      refine lv_aload_n hx hb dX7_begins_96 rfl (lv_at hl 0 rfl) ?_
      refine va_get (D := g.1) (ci := 7) (v := .ref (a 1)) (C := RX7) (T := TX7) (N := 11) hx hb hw0 ziX7 hown hK.1 hP 0 rfl rfl 0 (by decide) (hw0 _ zm4_71) (fun _ h9 => h9) rfl dX7_begins_97 ?_
      refine lv_bipush (v := 70) hx hb dX7_begins_100 (by decide) ?_
      refine lv_iconst (v := 3) hx hb dX7_begins_102 (by decide) ?_
      refine lv_iload_n hx hb dX7_begins_103 rfl (lv_at hl 1 rfl) ?_
      refine lv_imul hx hb dX7_begins_104 ?_
      refine lv_iadd hx hb dX7_begins_105 ?_
      refine lv_iconst (v := 1) hx hb dX7_begins_106 (by decide) ?_
      refine lv_iadd hx hb dX7_begins_107 ?_
      refine lv_iconst (v := 0) hx hb dX7_begins_108 (by decide) ?_
      obtain ⟨h6, hf⟩ := og hf
      refine zast (D := g.1) (f := x.2) (k := ((70 + (3 * x.1)) + 1).toNatClampNeg) (x := 0) hx hb hK.1 hP hD hS 1 0 rfl rfl (zin_vp h6) rfl dX7_begins_109 (fun H locs hP hD hS => ?_)
      have hP : va_P g.1 vwCl (zX7 g a ((upd x.2 (((70 + (3 * x.1)) + 1).toNatClampNeg) 0), v.2.1, v.2.2.1, v.2.2.2.1, v.2.2.2.2.1, v.2.2.2.2.2.1, v.2.2.2.2.2.2.1, v.2.2.2.2.2.2.2.1, v.2.2.2.2.2.2.2.2.1, v.2.2.2.2.2.2.2.2.2.1, v.2.2.2.2.2.2.2.2.2.2)) H := hP
      have hD : va_D A (zX7 g a ((upd x.2 (((70 + (3 * x.1)) + 1).toNatClampNeg) 0), v.2.1, v.2.2.1, v.2.2.2.1, v.2.2.2.2.1, v.2.2.2.2.2.1, v.2.2.2.2.2.2.1, v.2.2.2.2.2.2.2.1, v.2.2.2.2.2.2.2.2.1, v.2.2.2.2.2.2.2.2.2.1, v.2.2.2.2.2.2.2.2.2.2)) := hD
      refine lv_aload_n hx hb dX7_begins_110 rfl (lv_at hl 0 rfl) ?_
      refine va_get (D := g.1) (ci := 7) (v := .ref (a 1)) (C := RX7) (T := TX7) (N := 11) hx hb hw0 ziX7 hown hK.1 hP 0 rfl rfl 0 (by decide) (hw0 _ zm4_71) (fun _ h9 => h9) rfl dX7_begins_111 ?_
      refine lv_bipush (v := 70) hx hb dX7_begins_114 (by decide) ?_
      refine lv_iconst (v := 3) hx hb dX7_begins_116 (by decide) ?_
      refine lv_iload_n hx hb dX7_begins_117 rfl (lv_at hl 1 rfl) ?_
      refine lv_imul hx hb dX7_begins_118 ?_
      refine lv_iadd hx hb dX7_begins_119 ?_
      refine lv_iconst (v := 2) hx hb dX7_begins_120 (by decide) ?_
      refine lv_iadd hx hb dX7_begins_121 ?_
      refine lv_iconst (v := (-1)) hx hb dX7_begins_122 (by decide) ?_
      obtain ⟨h7, hf⟩ := og hf
      refine zast (D := g.1) (f := (upd x.2 (((70 + (3 * x.1)) + 1).toNatClampNeg) 0)) (k := ((70 + (3 * x.1)) + 2).toNatClampNeg) (x := (-1)) hx hb hK.1 hP hD hS 1 0 rfl rfl (zin_vp h7) rfl dX7_begins_123 (fun H locs hP hD hS => ?_)
      have hP : va_P g.1 vwCl (zX7 g a ((upd (upd x.2 (((70 + (3 * x.1)) + 1).toNatClampNeg) 0) (((70 + (3 * x.1)) + 2).toNatClampNeg) (-1)), v.2.1, v.2.2.1, v.2.2.2.1, v.2.2.2.2.1, v.2.2.2.2.2.1, v.2.2.2.2.2.2.1, v.2.2.2.2.2.2.2.1, v.2.2.2.2.2.2.2.2.1, v.2.2.2.2.2.2.2.2.2.1, v.2.2.2.2.2.2.2.2.2.2)) H := hP
      have hD : va_D A (zX7 g a ((upd (upd x.2 (((70 + (3 * x.1)) + 1).toNatClampNeg) 0) (((70 + (3 * x.1)) + 2).toNatClampNeg) (-1)), v.2.1, v.2.2.1, v.2.2.2.1, v.2.2.2.2.1, v.2.2.2.2.2.1, v.2.2.2.2.2.2.1, v.2.2.2.2.2.2.2.1, v.2.2.2.2.2.2.2.2.1, v.2.2.2.2.2.2.2.2.2.1, v.2.2.2.2.2.2.2.2.2.2)) := hD
      refine lv_iinc (v := (x.1 + 1)) (lv' := [(1, .int (x.1 + 1)), (0, .ref (a 0))]) hx hb dX7_begins_124 hl (k := 1) rfl rfl (by decide) rfl (fun ls hl => ?_)
      refine lv_goto (tgt := 85) hx hb dX7_begins_127 (by decide) ?_
      exact ih ((x.1 + 1), (upd (upd x.2 (((70 + (3 * x.1)) + 1).toNatClampNeg) 0) (((70 + (3 * x.1)) + 2).toNatClampNeg) (-1))) (Option.some.inj hf).symm hQ _ _ hP hD hS _ (lv_sub hl [1, 0] rfl)
  unfold f_X7_begins at hf
  have hl := lv_entry ([.ref (a 0)]) (n := 2) (Nat.le_of_ble_eq_true rfl)
  rw [lg_entry_eq]
  generalize (lg_sl ([.ref (a 0)]) ++ List.replicate (2 - (lg_sl ([.ref (a 0)])).length) Slot.unset).toArray = ls at hl ⊢
  have hl : lv_has ls 2 [(0, .ref (a 0))] := hl
  refine lv_aload_n hx hb dX7_begins_0 rfl (lv_at hl 0 rfl) ?_
  refine va_get (D := g.1) (ci := 7) (v := .ref (a 1)) (C := RX7) (T := TX7) (N := 11) hx hb hw0 ziX7 hown hK.1 hP 0 rfl rfl 0 (by decide) (hw0 _ zm4_71) (fun _ h9 => h9) rfl dX7_begins_1 ?_
  refine lv_iconst (v := 0) hx hb dX7_begins_4 (by decide) ?_
  refine lv_iconst (v := 0) hx hb dX7_begins_5 (by decide) ?_
  refine zast (D := g.1) (f := v.1) (k := 0) (x := 0) hx hb hK.1 hP hD hS 1 0 rfl rfl (zin_vp (i := 0) (n := 220) rfl) rfl dX7_begins_6 (fun H locs hP hD hS => ?_)
  have hP : va_P g.1 vwCl (zX7 g a ((upd v.1 0 0), v.2.1, v.2.2.1, v.2.2.2.1, v.2.2.2.2.1, v.2.2.2.2.2.1, v.2.2.2.2.2.2.1, v.2.2.2.2.2.2.2.1, v.2.2.2.2.2.2.2.2.1, v.2.2.2.2.2.2.2.2.2.1, v.2.2.2.2.2.2.2.2.2.2)) H := hP
  have hD : va_D A (zX7 g a ((upd v.1 0 0), v.2.1, v.2.2.1, v.2.2.2.1, v.2.2.2.2.1, v.2.2.2.2.2.1, v.2.2.2.2.2.2.1, v.2.2.2.2.2.2.2.1, v.2.2.2.2.2.2.2.2.1, v.2.2.2.2.2.2.2.2.2.1, v.2.2.2.2.2.2.2.2.2.2)) := hD
  refine lv_aload_n hx hb dX7_begins_7 rfl (lv_at hl 0 rfl) ?_
  refine va_get (D := g.1) (ci := 7) (v := .ref (a 1)) (C := RX7) (T := TX7) (N := 11) hx hb hw0 ziX7 hown hK.1 hP 0 rfl rfl 0 (by decide) (hw0 _ zm4_71) (fun _ h9 => h9) rfl dX7_begins_8 ?_
  refine lv_iconst (v := 1) hx hb dX7_begins_11 (by decide) ?_
  refine lv_iconst (v := 0) hx hb dX7_begins_12 (by decide) ?_
  refine zast (D := g.1) (f := (upd v.1 0 0)) (k := 1) (x := 0) hx hb hK.1 hP hD hS 1 0 rfl rfl (zin_vp (i := 1) (n := 220) rfl) rfl dX7_begins_13 (fun H locs hP hD hS => ?_)
  have hP : va_P g.1 vwCl (zX7 g a ((upd (upd v.1 0 0) 1 0), v.2.1, v.2.2.1, v.2.2.2.1, v.2.2.2.2.1, v.2.2.2.2.2.1, v.2.2.2.2.2.2.1, v.2.2.2.2.2.2.2.1, v.2.2.2.2.2.2.2.2.1, v.2.2.2.2.2.2.2.2.2.1, v.2.2.2.2.2.2.2.2.2.2)) H := hP
  have hD : va_D A (zX7 g a ((upd (upd v.1 0 0) 1 0), v.2.1, v.2.2.1, v.2.2.2.1, v.2.2.2.2.1, v.2.2.2.2.2.1, v.2.2.2.2.2.2.1, v.2.2.2.2.2.2.2.1, v.2.2.2.2.2.2.2.2.1, v.2.2.2.2.2.2.2.2.2.1, v.2.2.2.2.2.2.2.2.2.2)) := hD
  refine lv_aload_n hx hb dX7_begins_14 rfl (lv_at hl 0 rfl) ?_
  refine va_get (D := g.1) (ci := 7) (v := .ref (a 1)) (C := RX7) (T := TX7) (N := 11) hx hb hw0 ziX7 hown hK.1 hP 0 rfl rfl 0 (by decide) (hw0 _ zm4_71) (fun _ h9 => h9) rfl dX7_begins_15 ?_
  refine lv_iconst (v := 2) hx hb dX7_begins_18 (by decide) ?_
  refine lv_iconst (v := 0) hx hb dX7_begins_19 (by decide) ?_
  refine zast (D := g.1) (f := (upd (upd v.1 0 0) 1 0)) (k := 2) (x := 0) hx hb hK.1 hP hD hS 1 0 rfl rfl (zin_vp (i := 2) (n := 220) rfl) rfl dX7_begins_20 (fun H locs hP hD hS => ?_)
  have hP : va_P g.1 vwCl (zX7 g a ((upd (upd (upd v.1 0 0) 1 0) 2 0), v.2.1, v.2.2.1, v.2.2.2.1, v.2.2.2.2.1, v.2.2.2.2.2.1, v.2.2.2.2.2.2.1, v.2.2.2.2.2.2.2.1, v.2.2.2.2.2.2.2.2.1, v.2.2.2.2.2.2.2.2.2.1, v.2.2.2.2.2.2.2.2.2.2)) H := hP
  have hD : va_D A (zX7 g a ((upd (upd (upd v.1 0 0) 1 0) 2 0), v.2.1, v.2.2.1, v.2.2.2.1, v.2.2.2.2.1, v.2.2.2.2.2.1, v.2.2.2.2.2.2.1, v.2.2.2.2.2.2.2.1, v.2.2.2.2.2.2.2.2.1, v.2.2.2.2.2.2.2.2.2.1, v.2.2.2.2.2.2.2.2.2.2)) := hD
  refine lv_aload_n hx hb dX7_begins_21 rfl (lv_at hl 0 rfl) ?_
  refine va_get (D := g.1) (ci := 7) (v := .ref (a 1)) (C := RX7) (T := TX7) (N := 11) hx hb hw0 ziX7 hown hK.1 hP 0 rfl rfl 0 (by decide) (hw0 _ zm4_71) (fun _ h9 => h9) rfl dX7_begins_22 ?_
  refine lv_iconst (v := 5) hx hb dX7_begins_25 (by decide) ?_
  refine lv_iconst (v := 0) hx hb dX7_begins_26 (by decide) ?_
  refine zast (D := g.1) (f := (upd (upd (upd v.1 0 0) 1 0) 2 0)) (k := 5) (x := 0) hx hb hK.1 hP hD hS 1 0 rfl rfl (zin_vp (i := 5) (n := 220) rfl) rfl dX7_begins_27 (fun H locs hP hD hS => ?_)
  have hP : va_P g.1 vwCl (zX7 g a ((upd (upd (upd (upd v.1 0 0) 1 0) 2 0) 5 0), v.2.1, v.2.2.1, v.2.2.2.1, v.2.2.2.2.1, v.2.2.2.2.2.1, v.2.2.2.2.2.2.1, v.2.2.2.2.2.2.2.1, v.2.2.2.2.2.2.2.2.1, v.2.2.2.2.2.2.2.2.2.1, v.2.2.2.2.2.2.2.2.2.2)) H := hP
  have hD : va_D A (zX7 g a ((upd (upd (upd (upd v.1 0 0) 1 0) 2 0) 5 0), v.2.1, v.2.2.1, v.2.2.2.1, v.2.2.2.2.1, v.2.2.2.2.2.1, v.2.2.2.2.2.2.1, v.2.2.2.2.2.2.2.1, v.2.2.2.2.2.2.2.2.1, v.2.2.2.2.2.2.2.2.2.1, v.2.2.2.2.2.2.2.2.2.2)) := hD
  refine lv_aload_n hx hb dX7_begins_28 rfl (lv_at hl 0 rfl) ?_
  refine va_get (D := g.1) (ci := 7) (v := .ref (a 1)) (C := RX7) (T := TX7) (N := 11) hx hb hw0 ziX7 hown hK.1 hP 0 rfl rfl 0 (by decide) (hw0 _ zm4_71) (fun _ h9 => h9) rfl dX7_begins_29 ?_
  refine lv_bipush (v := 9) hx hb dX7_begins_32 (by decide) ?_
  refine lv_iconst (v := 0) hx hb dX7_begins_34 (by decide) ?_
  refine zast (D := g.1) (f := (upd (upd (upd (upd v.1 0 0) 1 0) 2 0) 5 0)) (k := 9) (x := 0) hx hb hK.1 hP hD hS 1 0 rfl rfl (zin_vp (i := 9) (n := 220) rfl) rfl dX7_begins_35 (fun H locs hP hD hS => ?_)
  have hP : va_P g.1 vwCl (zX7 g a ((upd (upd (upd (upd (upd v.1 0 0) 1 0) 2 0) 5 0) 9 0), v.2.1, v.2.2.1, v.2.2.2.1, v.2.2.2.2.1, v.2.2.2.2.2.1, v.2.2.2.2.2.2.1, v.2.2.2.2.2.2.2.1, v.2.2.2.2.2.2.2.2.1, v.2.2.2.2.2.2.2.2.2.1, v.2.2.2.2.2.2.2.2.2.2)) H := hP
  have hD : va_D A (zX7 g a ((upd (upd (upd (upd (upd v.1 0 0) 1 0) 2 0) 5 0) 9 0), v.2.1, v.2.2.1, v.2.2.2.1, v.2.2.2.2.1, v.2.2.2.2.2.1, v.2.2.2.2.2.2.1, v.2.2.2.2.2.2.2.1, v.2.2.2.2.2.2.2.2.1, v.2.2.2.2.2.2.2.2.2.1, v.2.2.2.2.2.2.2.2.2.2)) := hD
  refine lv_iconst (v := 0) hx hb dX7_begins_36 (by decide) ?_
  refine lv_istore_n (lv' := [(1, .int 0), (0, .ref (a 0))]) hx hb dX7_begins_37 rfl hl (by decide) rfl (fun ls hl => ?_)
  obtain ⟨u4, hu4, hf⟩ := ob hf
  refine lp38 ((upd (upd (upd (upd (upd v.1 0 0) 1 0) 2 0) 5 0) 9 0), v.2.1, v.2.2.1, v.2.2.2.1, v.2.2.2.2.1, v.2.2.2.2.2.1, v.2.2.2.2.2.2.1, v.2.2.2.2.2.2.2.1, v.2.2.2.2.2.2.2.2.1, v.2.2.2.2.2.2.2.2.2.1, v.2.2.2.2.2.2.2.2.2.2) _ _ u4 hu4 (fun H locs hP hD hS ls hl => ?_) _ _ hP hD hS _ (lv_sub hl [1, 0] rfl)
  have hl : lv_has ls 2 [(0, .ref (a 0))] := hl
  have hP : va_P g.1 vwCl (zX7 g a (u4.2, v.2.1, v.2.2.1, v.2.2.2.1, v.2.2.2.2.1, v.2.2.2.2.2.1, v.2.2.2.2.2.2.1, v.2.2.2.2.2.2.2.1, v.2.2.2.2.2.2.2.2.1, v.2.2.2.2.2.2.2.2.2.1, v.2.2.2.2.2.2.2.2.2.2)) H := hP
  have hD : va_D A (zX7 g a (u4.2, v.2.1, v.2.2.1, v.2.2.2.1, v.2.2.2.2.1, v.2.2.2.2.2.1, v.2.2.2.2.2.2.1, v.2.2.2.2.2.2.2.1, v.2.2.2.2.2.2.2.2.1, v.2.2.2.2.2.2.2.2.2.1, v.2.2.2.2.2.2.2.2.2.2)) := hD
  refine lv_iconst (v := 0) hx hb dX7_begins_83 (by decide) ?_
  refine lv_istore_n (lv' := [(1, .int 0), (0, .ref (a 0))]) hx hb dX7_begins_84 rfl hl (by decide) rfl (fun ls hl => ?_)
  obtain ⟨u8, hu8, hf⟩ := ob hf
  refine lp85 (u4.2, v.2.1, v.2.2.1, v.2.2.2.1, v.2.2.2.2.1, v.2.2.2.2.2.1, v.2.2.2.2.2.2.1, v.2.2.2.2.2.2.2.1, v.2.2.2.2.2.2.2.2.1, v.2.2.2.2.2.2.2.2.2.1, v.2.2.2.2.2.2.2.2.2.2) _ _ u8 hu8 (fun H locs hP hD hS ls hl => ?_) _ _ hP hD hS _ (lv_sub hl [1, 0] rfl)
  have hl : lv_has ls 2 [] := hl
  have hP : va_P g.1 vwCl (zX7 g a (u8.2, v.2.1, v.2.2.1, v.2.2.2.1, v.2.2.2.2.1, v.2.2.2.2.2.1, v.2.2.2.2.2.2.1, v.2.2.2.2.2.2.2.1, v.2.2.2.2.2.2.2.2.1, v.2.2.2.2.2.2.2.2.2.1, v.2.2.2.2.2.2.2.2.2.2)) H := hP
  have hD : va_D A (zX7 g a (u8.2, v.2.1, v.2.2.1, v.2.2.2.1, v.2.2.2.2.1, v.2.2.2.2.2.1, v.2.2.2.2.2.2.1, v.2.2.2.2.2.2.2.1, v.2.2.2.2.2.2.2.2.1, v.2.2.2.2.2.2.2.2.2.1, v.2.2.2.2.2.2.2.2.2.2)) := hD
  have hR : (u8.2, v.2.1, v.2.2.1, v.2.2.2.1, v.2.2.2.2.1, v.2.2.2.2.2.1, v.2.2.2.2.2.2.1, v.2.2.2.2.2.2.2.1, v.2.2.2.2.2.2.2.2.1, v.2.2.2.2.2.2.2.2.2.1, v.2.2.2.2.2.2.2.2.2.2) = r := Option.some.inj hf
  subst hR
  exact W.vret hx hb hr0 (fun t ht hW => ⟨⟨(), rfl, trivial, by rw [ht]; exact hP, hD⟩, hS.F ht⟩) hS.2.2 dX7_begins_130
theorem hd_X7_again : yX7_again.cls ≠ "java/lang/invoke/MethodHandle" ∧ yX7_again.cls ≠ "java/lang/invoke/VarHandle" ∧ (parseMethodDescriptor yX7_again.desc).map (fun d => d.parameters.length) = some 0 := by decide +kernel
def f_X7_again (v : MV) : Option (Int32 × MV) :=
  if (v.1 1) = 0 then
    (f_X7_fails v 1).bind (fun u4 =>
    some (u4.1, u4.2))
  else
    (f_X7_save v).bind (fun u2 =>
    (f_X7_begins u2).bind (fun u3 =>
    some (((upd u3.1 6 ((u3.1 6) + 1)) 6), ((upd u3.1 6 ((u3.1 6) + 1)), u3.2.1, u3.2.2.1, u3.2.2.2.1, u3.2.2.2.2.1, u3.2.2.2.2.2.1, u3.2.2.2.2.2.2.1, u3.2.2.2.2.2.2.2.1, u3.2.2.2.2.2.2.2.2.1, u3.2.2.2.2.2.2.2.2.2.1, u3.2.2.2.2.2.2.2.2.2.2))))
set_option maxHeartbeats 4000000 in
set_option maxRecDepth 100000 in
theorem c_X7_again (l : Launch) (g : zG) (a : Nat → Nat) (v : MV) (r : Int32 × MV) (hf : f_X7_again v = some r) : zMi zNF zNM l yX7_again (zw yX7_again cX7_again 1 (some .int)) ({ frames := 1, cells := 0, slots := 0, locals := 21 } : Room) g [.ref (a 0)] (zX7 g a v) r.1 (zX7 g a r.2) := by
  intro sz
  refine Met.ofW (cc := cX7_again) (maxL := 1) (ret := (some .int)) (by decide) rfl ?_
  intro p e s m args below meth c s₁ B hml hv
  obtain ⟨rfl, hsz, hP, hK, hD0⟩ := hv
  have hx := B.exec
  have hb := B.bytes
  have hr0 := B.returns
  have hts := atoms_spec (ws := (zw yX7_again cX7_again 1 (some .int))) B.pre
  have hw0 : ∀ w ∈ zW, w.before ([.ref (a 0)] : List Value).toArray s = true := fun w h => hts w (List.mem_cons_of_mem _ h)
  have hown : s.vm.findClass RX7 = some m.cls := findClass_of_methodNamed B.named
  have hlocks := B.notSynchronized
  subst hsz
  have hD := hD0.self (sz := s.heap.size)
  generalize hAe : va_A (zX7 g a v) s.heap.size = A at hD ⊢
  have hA : ∀ q : Nat, s.heap.size ≤ q → A q := fun q h => by rw [← hAe]; exact Or.inr h
  have hS : va_S A s.heap s.heap [] := va_S.rf
  unfold f_X7_again at hf
  have hl := lv_entry ([.ref (a 0)]) (n := 1) (Nat.le_of_ble_eq_true rfl)
  rw [lg_entry_eq]
  generalize (lg_sl ([.ref (a 0)]) ++ List.replicate (1 - (lg_sl ([.ref (a 0)])).length) Slot.unset).toArray = ls at hl ⊢
  have hl : lv_has ls 1 [(0, .ref (a 0))] := hl
  refine lv_aload_n hx hb dX7_again_0 rfl (lv_at hl 0 rfl) ?_
  refine va_get (D := g.1) (ci := 7) (v := .ref (a 1)) (C := RX7) (T := TX7) (N := 11) hx hb hw0 ziX7 hown hK.1 hP 0 rfl rfl 0 (by decide) (hw0 _ zm4_71) (fun _ h9 => h9) rfl dX7_again_1 ?_
  refine lv_iconst (v := 1) hx hb dX7_again_4 (by decide) ?_
  refine zald (D := g.1) (f := v.1) (k := 1) hx hb hK.1 hP 1 0 rfl rfl (zin_vp (i := 1) (n := 220) rfl) rfl dX7_again_5 ?_
  refine lv_if_ne (tgt := 15) hx hb dX7_again_6 (by decide) (fun c1 => ?_) (fun c1 => ?_)
  · have hf := oe hf c1
    refine lv_aload_n hx hb dX7_again_15 rfl (lv_at hl 0 rfl) ?_
    obtain ⟨u2, hu2, hf⟩ := ob hf
    refine zk_vA (va_runV (As := []) (rest := []) ⟨hx, hb, hml, hown, hts⟩ (c_X7_save l g a v _ hu2 _) (zcV hw0 zm4_120 zm4_123 zm1_8 zm4_122 zs5_2 hd_X7_save rfl rfl ⟨Nat.le_of_ble_eq_true rfl, Nat.le_of_ble_eq_true rfl⟩) ⟨zblind, zrecvA hK hP (ci := 7) rfl rfl, zpreA hK hP hD⟩ rfl rfl hl.1 rfl (lv_room (Nat.le_of_ble_eq_true rfl)) dX7_again_16 ⟨Nat.zero_le _, Nat.zero_le _⟩) hP hD hS hA (fun H locs hP hD hS => ?_)
    have hP : va_P g.1 vwCl (zX7 g a u2) H := hP
    have hD : va_D A (zX7 g a u2) := hD
    refine lv_aload_n hx hb dX7_again_19 rfl (lv_at hl 0 rfl) ?_
    obtain ⟨u3, hu3, hf⟩ := ob hf
    refine zk_vA (va_runV (As := []) (rest := []) ⟨hx, hb, hml, hown, hts⟩ (c_X7_begins l g a u2 _ hu3 _) (zcV hw0 zm5_15 zm5_18 zm1_8 zm5_17 zs6_12 hd_X7_begins rfl rfl ⟨Nat.le_of_ble_eq_true rfl, Nat.le_of_ble_eq_true rfl⟩) ⟨zblind, zrecvA hK hP (ci := 7) rfl rfl, zpreA hK hP hD⟩ rfl rfl hl.1 rfl (lv_room (Nat.le_of_ble_eq_true rfl)) dX7_again_20 ⟨Nat.zero_le _, Nat.zero_le _⟩) hP hD hS hA (fun H locs hP hD hS => ?_)
    have hP : va_P g.1 vwCl (zX7 g a u3) H := hP
    have hD : va_D A (zX7 g a u3) := hD
    refine lv_aload_n hx hb dX7_again_23 rfl (lv_at hl 0 rfl) ?_
    refine va_get (D := g.1) (ci := 7) (v := .ref (a 1)) (C := RX7) (T := TX7) (N := 11) hx hb hw0 ziX7 hown hK.1 hP 0 rfl rfl 0 (by decide) (hw0 _ zm4_71) (fun _ h9 => h9) rfl dX7_again_24 ?_
    refine lv_bipush (v := 6) hx hb dX7_again_27 (by decide) ?_
    refine lv_dup2_11 hx hb dX7_again_29 rfl rfl ?_
    refine zald (D := g.1) (f := u3.1) (k := 6) hx hb hK.1 hP 1 0 rfl rfl (zin_vp (i := 6) (n := 220) rfl) rfl dX7_again_30 ?_
    refine lv_iconst (v := 1) hx hb dX7_again_31 (by decide) ?_
    refine lv_iadd hx hb dX7_again_32 ?_
    refine zast (D := g.1) (f := u3.1) (k := 6) (x := ((u3.1 6) + 1)) hx hb hK.1 hP hD hS 1 0 rfl rfl (zin_vp (i := 6) (n := 220) rfl) rfl dX7_again_33 (fun H locs hP hD hS => ?_)
    have hP : va_P g.1 vwCl (zX7 g a ((upd u3.1 6 ((u3.1 6) + 1)), u3.2.1, u3.2.2.1, u3.2.2.2.1, u3.2.2.2.2.1, u3.2.2.2.2.2.1, u3.2.2.2.2.2.2.1, u3.2.2.2.2.2.2.2.1, u3.2.2.2.2.2.2.2.2.1, u3.2.2.2.2.2.2.2.2.2.1, u3.2.2.2.2.2.2.2.2.2.2)) H := hP
    have hD : va_D A (zX7 g a ((upd u3.1 6 ((u3.1 6) + 1)), u3.2.1, u3.2.2.1, u3.2.2.2.1, u3.2.2.2.2.1, u3.2.2.2.2.2.1, u3.2.2.2.2.2.2.1, u3.2.2.2.2.2.2.2.1, u3.2.2.2.2.2.2.2.2.1, u3.2.2.2.2.2.2.2.2.2.1, u3.2.2.2.2.2.2.2.2.2.2)) := hD
    refine lv_aload_n hx hb dX7_again_34 rfl (lv_at hl 0 rfl) ?_
    refine va_get (D := g.1) (ci := 7) (v := .ref (a 1)) (C := RX7) (T := TX7) (N := 11) hx hb hw0 ziX7 hown hK.1 hP 0 rfl rfl 0 (by decide) (hw0 _ zm4_71) (fun _ h9 => h9) rfl dX7_again_35 ?_
    refine lv_bipush (v := 6) hx hb dX7_again_38 (by decide) ?_
    refine zald (D := g.1) (f := (upd u3.1 6 ((u3.1 6) + 1))) (k := 6) hx hb hK.1 hP 1 0 rfl rfl (zin_vp (i := 6) (n := 220) rfl) rfl dX7_again_40 ?_
    have hR : (((upd u3.1 6 ((u3.1 6) + 1)) 6), ((upd u3.1 6 ((u3.1 6) + 1)), u3.2.1, u3.2.2.1, u3.2.2.2.1, u3.2.2.2.2.1, u3.2.2.2.2.2.1, u3.2.2.2.2.2.2.1, u3.2.2.2.2.2.2.2.1, u3.2.2.2.2.2.2.2.2.1, u3.2.2.2.2.2.2.2.2.2.1, u3.2.2.2.2.2.2.2.2.2.2)) = r := Option.some.inj hf
    subst hR
    exact W.iret (v := ((upd u3.1 6 ((u3.1 6) + 1)) 6)) hx hb hr0 (fun t ht hW => ⟨⟨((upd u3.1 6 ((u3.1 6) + 1)) 6), (), rfl, rfl, by rw [ht]; exact hP, hD⟩, hS.F ht⟩) hS.2.2 dX7_again_41
  · have hf := oi hf c1
    refine lv_aload_n hx hb dX7_again_9 rfl (lv_at hl 0 rfl) ?_
    refine lv_iconst (v := 1) hx hb dX7_again_10 (by decide) ?_
    obtain ⟨u4, hu4, hf⟩ := ob hf
    refine zk_iA (va_runV (As := [.int 1]) (rest := []) ⟨hx, hb, hml, hown, hts⟩ (c_X7_fails l g a v 1 _ hu4 _) (zcV hw0 zm4_116 zm4_119 zm1_8 zm4_118 zs5_1 hd_X7_fails rfl rfl ⟨Nat.le_of_ble_eq_true rfl, Nat.le_of_ble_eq_true rfl⟩) ⟨zblind, zrecvA hK hP (ci := 7) rfl rfl, zpreA hK hP hD⟩ rfl rfl hl.1 rfl (lv_room (Nat.le_of_ble_eq_true rfl)) dX7_again_11 ⟨Nat.zero_le _, Nat.zero_le _⟩) hP hD hS hA (fun H locs hP hD hS => ?_)
    have hP : va_P g.1 vwCl (zX7 g a u4.2) H := hP
    have hD : va_D A (zX7 g a u4.2) := hD
    have hR : (u4.1, u4.2) = r := Option.some.inj hf
    subst hR
    exact W.iret (v := u4.1) hx hb hr0 (fun t ht hW => ⟨⟨u4.1, (), rfl, rfl, by rw [ht]; exact hP, hD⟩, hS.F ht⟩) hS.2.2 dX7_again_14
theorem hd_X7_latenessOf : yX7_latenessOf.cls ≠ "java/lang/invoke/MethodHandle" ∧ yX7_latenessOf.cls ≠ "java/lang/invoke/VarHandle" ∧ (parseMethodDescriptor yX7_latenessOf.desc).map (fun d => d.parameters.length) = some 1 := by decide +kernel
def f_X7_latenessOf (v : MV) (p0 : Int32) : Option (Int32) :=
  (f_X7_isFixed v p0).bind (fun u1 =>
  if (zb u1) = 0 then
    some (-1)
  else
    (f_X7_of v p0 4).bind (fun u3 =>
    if u3 = (-1) then
      some (-1)
    else
      (f_X7_of v p0 4).bind (fun u5 =>
      (f_X7_of v p0 1).bind (fun u6 =>
      some (u5 - u6)))))
set_option maxHeartbeats 4000000 in
set_option maxRecDepth 100000 in
theorem c_X7_latenessOf (l : Launch) (g : zG) (a : Nat → Nat) (v : MV) (p0 : Int32) (r : Int32) (hf : f_X7_latenessOf v p0 = some r) : zMi zNF zNM l yX7_latenessOf (zw yX7_latenessOf cX7_latenessOf 2 (some .int)) ({ frames := 2, cells := 0, slots := 0, locals := 43 } : Room) g [.ref (a 0), .int p0] (zX7 g a v) r (zX7 g a v) := by
  intro sz
  refine Met.ofW (cc := cX7_latenessOf) (maxL := 2) (ret := (some .int)) (by decide) rfl ?_
  intro p e s m args below meth c s₁ B hml hv
  obtain ⟨rfl, hsz, hP, hK, hD0⟩ := hv
  have hx := B.exec
  have hb := B.bytes
  have hr0 := B.returns
  have hts := atoms_spec (ws := (zw yX7_latenessOf cX7_latenessOf 2 (some .int))) B.pre
  have hw0 : ∀ w ∈ zW, w.before ([.ref (a 0), .int p0] : List Value).toArray s = true := fun w h => hts w (List.mem_cons_of_mem _ h)
  have hown : s.vm.findClass RX7 = some m.cls := findClass_of_methodNamed B.named
  have hlocks := B.notSynchronized
  subst hsz
  have hD := hD0.self (sz := s.heap.size)
  generalize hAe : va_A (zX7 g a v) s.heap.size = A at hD ⊢
  have hA : ∀ q : Nat, s.heap.size ≤ q → A q := fun q h => by rw [← hAe]; exact Or.inr h
  have hS : va_S A s.heap s.heap [] := va_S.rf
  unfold f_X7_latenessOf at hf
  have hl := lv_entry ([.ref (a 0), .int p0]) (n := 2) (Nat.le_of_ble_eq_true rfl)
  rw [lg_entry_eq]
  generalize (lg_sl ([.ref (a 0), .int p0]) ++ List.replicate (2 - (lg_sl ([.ref (a 0), .int p0])).length) Slot.unset).toArray = ls at hl ⊢
  have hl : lv_has ls 2 [(0, .ref (a 0)), (1, .int p0)] := hl
  refine lv_aload_n hx hb dX7_latenessOf_0 rfl (lv_at hl 0 rfl) ?_
  refine lv_iload_n hx hb dX7_latenessOf_1 rfl (lv_at hl 1 rfl) ?_
  obtain ⟨u1, hu1, hf⟩ := ob hf
  refine zk_iA (va_runV (As := [.int p0]) (rest := []) ⟨hx, hb, hml, hown, hts⟩ (c_X7_isFixed l g a v p0 _ hu1 _) (zcV hw0 zm4_192 zm4_195 zm1_8 zm4_194 zs6_0 hd_X7_isFixed rfl rfl ⟨Nat.le_of_ble_eq_true rfl, Nat.le_of_ble_eq_true rfl⟩) ⟨zblind, zrecvA hK hP (ci := 7) rfl rfl, zpreA hK hP hD⟩ rfl rfl hl.1 rfl (lv_room (Nat.le_of_ble_eq_true rfl)) dX7_latenessOf_2 ⟨Nat.zero_le _, Nat.zero_le _⟩) hP hD hS hA (fun H locs hP hD hS => ?_)
  refine lv_if_eq (tgt := 34) hx hb dX7_latenessOf_5 (by decide) (fun c2 => ?_) (fun c2 => ?_)
  · have hf := oi hf c2
    refine lv_iconst (v := (-1)) hx hb dX7_latenessOf_34 (by decide) ?_
    have hR : (-1) = r := Option.some.inj hf
    subst hR
    exact W.iret (v := (-1)) hx hb hr0 (fun t ht hW => ⟨⟨(-1), (), rfl, rfl, by rw [ht]; exact hP, hD⟩, hS.F ht⟩) hS.2.2 dX7_latenessOf_35
  · have hf := oe hf c2
    refine lv_aload_n hx hb dX7_latenessOf_8 rfl (lv_at hl 0 rfl) ?_
    refine lv_iload_n hx hb dX7_latenessOf_9 rfl (lv_at hl 1 rfl) ?_
    refine lv_iconst (v := 4) hx hb dX7_latenessOf_10 (by decide) ?_
    obtain ⟨u3, hu3, hf⟩ := ob hf
    refine zk_iA (va_runV (As := [.int p0, .int 4]) (rest := []) ⟨hx, hb, hml, hown, hts⟩ (c_X7_of l g a v p0 4 _ hu3 _) (zcV hw0 zm4_144 zm4_147 zm1_8 zm4_146 zs5_6 hd_X7_of rfl rfl ⟨Nat.le_of_ble_eq_true rfl, Nat.le_of_ble_eq_true rfl⟩) ⟨zblind, zrecvA hK hP (ci := 7) rfl rfl, zpreA hK hP hD⟩ rfl rfl hl.1 rfl (lv_room (Nat.le_of_ble_eq_true rfl)) dX7_latenessOf_11 ⟨Nat.zero_le _, Nat.zero_le _⟩) hP hD hS hA (fun H locs hP hD hS => ?_)
    refine lv_iconst (v := (-1)) hx hb dX7_latenessOf_14 (by decide) ?_
    refine lv_icmp_eq (tgt := 34) hx hb dX7_latenessOf_15 (by decide) (fun c4 => ?_) (fun c4 => ?_)
    · have hf := oi hf c4
      refine lv_iconst (v := (-1)) hx hb dX7_latenessOf_34 (by decide) ?_
      have hR : (-1) = r := Option.some.inj hf
      subst hR
      exact W.iret (v := (-1)) hx hb hr0 (fun t ht hW => ⟨⟨(-1), (), rfl, rfl, by rw [ht]; exact hP, hD⟩, hS.F ht⟩) hS.2.2 dX7_latenessOf_35
    · have hf := oe hf c4
      refine lv_aload_n hx hb dX7_latenessOf_18 rfl (lv_at hl 0 rfl) ?_
      refine lv_iload_n hx hb dX7_latenessOf_19 rfl (lv_at hl 1 rfl) ?_
      refine lv_iconst (v := 4) hx hb dX7_latenessOf_20 (by decide) ?_
      obtain ⟨u5, hu5, hf⟩ := ob hf
      refine zk_iA (va_runV (As := [.int p0, .int 4]) (rest := []) ⟨hx, hb, hml, hown, hts⟩ (c_X7_of l g a v p0 4 _ hu5 _) (zcV hw0 zm4_144 zm4_147 zm1_8 zm4_146 zs5_6 hd_X7_of rfl rfl ⟨Nat.le_of_ble_eq_true rfl, Nat.le_of_ble_eq_true rfl⟩) ⟨zblind, zrecvA hK hP (ci := 7) rfl rfl, zpreA hK hP hD⟩ rfl rfl hl.1 rfl (lv_room (Nat.le_of_ble_eq_true rfl)) dX7_latenessOf_21 ⟨Nat.zero_le _, Nat.zero_le _⟩) hP hD hS hA (fun H locs hP hD hS => ?_)
      refine lv_aload_n hx hb dX7_latenessOf_24 rfl (lv_at hl 0 rfl) ?_
      refine lv_iload_n hx hb dX7_latenessOf_25 rfl (lv_at hl 1 rfl) ?_
      refine lv_iconst (v := 1) hx hb dX7_latenessOf_26 (by decide) ?_
      obtain ⟨u6, hu6, hf⟩ := ob hf
      refine zk_iA (va_runV (As := [.int p0, .int 1]) (rest := [.int u5]) ⟨hx, hb, hml, hown, hts⟩ (c_X7_of l g a v p0 1 _ hu6 _) (zcV hw0 zm4_144 zm4_147 zm1_8 zm4_146 zs5_6 hd_X7_of rfl rfl ⟨Nat.le_of_ble_eq_true rfl, Nat.le_of_ble_eq_true rfl⟩) ⟨zblind, zrecvA hK hP (ci := 7) rfl rfl, zpreA hK hP hD⟩ rfl rfl hl.1 rfl (lv_room (Nat.le_of_ble_eq_true rfl)) dX7_latenessOf_27 ⟨Nat.zero_le _, Nat.zero_le _⟩) hP hD hS hA (fun H locs hP hD hS => ?_)
      refine lv_isub hx hb dX7_latenessOf_30 ?_
      refine lv_goto (tgt := 35) hx hb dX7_latenessOf_31 (by decide) ?_
      have hR : (u5 - u6) = r := Option.some.inj hf
      subst hR
      exact W.iret (v := (u5 - u6)) hx hb hr0 (fun t ht hW => ⟨⟨(u5 - u6), (), rfl, rfl, by rw [ht]; exact hP, hD⟩, hS.F ht⟩) hS.2.2 dX7_latenessOf_35
theorem hd_X7_elementOf : yX7_elementOf.cls ≠ "java/lang/invoke/MethodHandle" ∧ yX7_elementOf.cls ≠ "java/lang/invoke/VarHandle" ∧ (parseMethodDescriptor yX7_elementOf.desc).map (fun d => d.parameters.length) = some 2 := by decide +kernel
def f_X7_elementOf (v : MV) (p0 : Int32) (p1 : Int32) : Option (Int32) :=
  if 5 ≤ p1 then
    if p1 = 5 then
      (f_X7_latenessOf v p0).bind (fun u5 =>
      some u5)
    else
      (f_X7_isInSection v p0).bind (fun u3 =>
      if (zb u3) = 0 then
        some 0
      else
        some 1)
  else
    (f_X7_of v p0 p1).bind (fun u6 =>
    some u6)
set_option maxHeartbeats 4000000 in
set_option maxRecDepth 100000 in
theorem c_X7_elementOf (l : Launch) (g : zG) (a : Nat → Nat) (v : MV) (p0 : Int32) (p1 : Int32) (r : Int32) (hf : f_X7_elementOf v p0 p1 = some r) : zMi zNF zNM l yX7_elementOf (zw yX7_elementOf cX7_elementOf 3 (some .int)) ({ frames := 4, cells := 0, slots := 0, locals := 86 } : Room) g [.ref (a 0), .int p0, .int p1] (zX7 g a v) r (zX7 g a v) := by
  intro sz
  refine Met.ofW (cc := cX7_elementOf) (maxL := 3) (ret := (some .int)) (by decide) rfl ?_
  intro p e s m args below meth c s₁ B hml hv
  obtain ⟨rfl, hsz, hP, hK, hD0⟩ := hv
  have hx := B.exec
  have hb := B.bytes
  have hr0 := B.returns
  have hts := atoms_spec (ws := (zw yX7_elementOf cX7_elementOf 3 (some .int))) B.pre
  have hw0 : ∀ w ∈ zW, w.before ([.ref (a 0), .int p0, .int p1] : List Value).toArray s = true := fun w h => hts w (List.mem_cons_of_mem _ h)
  have hown : s.vm.findClass RX7 = some m.cls := findClass_of_methodNamed B.named
  have hlocks := B.notSynchronized
  subst hsz
  have hD := hD0.self (sz := s.heap.size)
  generalize hAe : va_A (zX7 g a v) s.heap.size = A at hD ⊢
  have hA : ∀ q : Nat, s.heap.size ≤ q → A q := fun q h => by rw [← hAe]; exact Or.inr h
  have hS : va_S A s.heap s.heap [] := va_S.rf
  unfold f_X7_elementOf at hf
  have hl := lv_entry ([.ref (a 0), .int p0, .int p1]) (n := 3) (Nat.le_of_ble_eq_true rfl)
  rw [lg_entry_eq]
  generalize (lg_sl ([.ref (a 0), .int p0, .int p1]) ++ List.replicate (3 - (lg_sl ([.ref (a 0), .int p0, .int p1])).length) Slot.unset).toArray = ls at hl ⊢
  have hl : lv_has ls 3 [(0, .ref (a 0)), (1, .int p0), (2, .int p1)] := hl
  refine lv_iload_n hx hb dX7_elementOf_0 rfl (lv_at hl 2 rfl) ?_
  refine lv_iconst (v := 5) hx hb dX7_elementOf_1 (by decide) ?_
  refine lv_icmp_ge (tgt := 14) hx hb dX7_elementOf_2 (by decide) (fun c1 => ?_) (fun c1 => ?_)
  · have hf := oi hf c1
    refine lv_iload_n hx hb dX7_elementOf_14 rfl (lv_at hl 2 rfl) ?_
    refine lv_iconst (v := 5) hx hb dX7_elementOf_15 (by decide) ?_
    refine lv_icmp_ne (tgt := 27) hx hb dX7_elementOf_16 (by decide) (fun c2 => ?_) (fun c2 => ?_)
    · have hf := oe hf c2
      refine lv_aload_n hx hb dX7_elementOf_27 rfl (lv_at hl 0 rfl) ?_
      refine lv_iload_n hx hb dX7_elementOf_28 rfl (lv_at hl 1 rfl) ?_
      obtain ⟨u3, hu3, hf⟩ := ob hf
      refine zk_iA (va_runV (As := [.int p0]) (rest := []) ⟨hx, hb, hml, hown, hts⟩ (c_X7_isInSection l g a v p0 _ hu3 _) (zcV hw0 zm5_31 zm5_34 zm1_8 zm5_33 zs6_15 hd_X7_isInSection rfl rfl ⟨Nat.le_of_ble_eq_true rfl, Nat.le_of_ble_eq_true rfl⟩) ⟨zblind, zrecvA hK hP (ci := 7) rfl rfl, zpreA hK hP hD⟩ rfl rfl hl.1 rfl (lv_room (Nat.le_of_ble_eq_true rfl)) dX7_elementOf_29 ⟨Nat.zero_le _, Nat.zero_le _⟩) hP hD hS hA (fun H locs hP hD hS => ?_)
      refine lv_if_eq (tgt := 39) hx hb dX7_elementOf_32 (by decide) (fun c4 => ?_) (fun c4 => ?_)
      · have hf := oi hf c4
        refine lv_iconst (v := 0) hx hb dX7_elementOf_39 (by decide) ?_
        have hR : 0 = r := Option.some.inj hf
        subst hR
        exact W.iret (v := 0) hx hb hr0 (fun t ht hW => ⟨⟨0, (), rfl, rfl, by rw [ht]; exact hP, hD⟩, hS.F ht⟩) hS.2.2 dX7_elementOf_40
      · have hf := oe hf c4
        refine lv_iconst (v := 1) hx hb dX7_elementOf_35 (by decide) ?_
        refine lv_goto (tgt := 40) hx hb dX7_elementOf_36 (by decide) ?_
        have hR : 1 = r := Option.some.inj hf
        subst hR
        exact W.iret (v := 1) hx hb hr0 (fun t ht hW => ⟨⟨1, (), rfl, rfl, by rw [ht]; exact hP, hD⟩, hS.F ht⟩) hS.2.2 dX7_elementOf_40
    · have hf := oi hf c2
      refine lv_aload_n hx hb dX7_elementOf_19 rfl (lv_at hl 0 rfl) ?_
      refine lv_iload_n hx hb dX7_elementOf_20 rfl (lv_at hl 1 rfl) ?_
      obtain ⟨u5, hu5, hf⟩ := ob hf
      refine zk_iA (va_runV (As := [.int p0]) (rest := []) ⟨hx, hb, hml, hown, hts⟩ (c_X7_latenessOf l g a v p0 _ hu5 _) (zcV hw0 zm5_27 zm5_30 zm1_8 zm5_29 zs6_14 hd_X7_latenessOf rfl rfl ⟨Nat.le_of_ble_eq_true rfl, Nat.le_of_ble_eq_true rfl⟩) ⟨zblind, zrecvA hK hP (ci := 7) rfl rfl, zpreA hK hP hD⟩ rfl rfl hl.1 rfl (lv_room (Nat.le_of_ble_eq_true rfl)) dX7_elementOf_21 ⟨Nat.zero_le _, Nat.zero_le _⟩) hP hD hS hA (fun H locs hP hD hS => ?_)
      refine lv_goto (tgt := 40) hx hb dX7_elementOf_24 (by decide) ?_
      have hR : u5 = r := Option.some.inj hf
      subst hR
      exact W.iret (v := u5) hx hb hr0 (fun t ht hW => ⟨⟨u5, (), rfl, rfl, by rw [ht]; exact hP, hD⟩, hS.F ht⟩) hS.2.2 dX7_elementOf_40
  · have hf := oe hf c1
    refine lv_aload_n hx hb dX7_elementOf_5 rfl (lv_at hl 0 rfl) ?_
    refine lv_iload_n hx hb dX7_elementOf_6 rfl (lv_at hl 1 rfl) ?_
    refine lv_iload_n hx hb dX7_elementOf_7 rfl (lv_at hl 2 rfl) ?_
    obtain ⟨u6, hu6, hf⟩ := ob hf
    refine zk_iA (va_runV (As := [.int p0, .int p1]) (rest := []) ⟨hx, hb, hml, hown, hts⟩ (c_X7_of l g a v p0 p1 _ hu6 _) (zcV hw0 zm4_144 zm4_147 zm1_8 zm4_146 zs5_6 hd_X7_of rfl rfl ⟨Nat.le_of_ble_eq_true rfl, Nat.le_of_ble_eq_true rfl⟩) ⟨zblind, zrecvA hK hP (ci := 7) rfl rfl, zpreA hK hP hD⟩ rfl rfl hl.1 rfl (lv_room (Nat.le_of_ble_eq_true rfl)) dX7_elementOf_8 ⟨Nat.zero_le _, Nat.zero_le _⟩) hP hD hS hA (fun H locs hP hD hS => ?_)
    refine lv_goto (tgt := 40) hx hb dX7_elementOf_11 (by decide) ?_
    have hR : u6 = r := Option.some.inj hf
    subst hR
    exact W.iret (v := u6) hx hb hr0 (fun t ht hW => ⟨⟨u6, (), rfl, rfl, by rw [ht]; exact hP, hD⟩, hS.F ht⟩) hS.2.2 dX7_elementOf_40
theorem hd_X7_element : yX7_element.cls ≠ "java/lang/invoke/MethodHandle" ∧ yX7_element.cls ≠ "java/lang/invoke/VarHandle" ∧ (parseMethodDescriptor yX7_element.desc).map (fun d => d.parameters.length) = some 2 := by decide +kernel
def f_X7_element (v : MV) (p0 : Int32) (p1 : Int32) : Option (Int32 × MV) :=
  (f_X7_isElement v p0).bind (fun u1 =>
  if (zb u1) = 0 then
    (f_X7_fails v 1).bind (fun u8 =>
    some (u8.1, u8.2))
  else
    (f_X7_in p1 0 6).bind (fun u3 =>
    if (zb u3) = 0 then
      (f_X7_fails v 2).bind (fun u5 =>
      some (u5.1, u5.2))
    else
      (f_X7_elementOf v p0 p1).bind (fun u6 =>
      (f_X7_tells v u6).bind (fun u7 =>
      some (u7.1, u7.2)))))
set_option maxHeartbeats 4000000 in
set_option maxRecDepth 100000 in
theorem c_X7_element (l : Launch) (g : zG) (a : Nat → Nat) (v : MV) (p0 : Int32) (p1 : Int32) (r : Int32 × MV) (hf : f_X7_element v p0 p1 = some r) : zMi zNF zNM l yX7_element (zw yX7_element cX7_element 3 (some .int)) ({ frames := 5, cells := 0, slots := 0, locals := 108 } : Room) g [.ref (a 0), .int p0, .int p1] (zX7 g a v) r.1 (zX7 g a r.2) := by
  intro sz
  refine Met.ofW (cc := cX7_element) (maxL := 3) (ret := (some .int)) (by decide) rfl ?_
  intro p e s m args below meth c s₁ B hml hv
  obtain ⟨rfl, hsz, hP, hK, hD0⟩ := hv
  have hx := B.exec
  have hb := B.bytes
  have hr0 := B.returns
  have hts := atoms_spec (ws := (zw yX7_element cX7_element 3 (some .int))) B.pre
  have hw0 : ∀ w ∈ zW, w.before ([.ref (a 0), .int p0, .int p1] : List Value).toArray s = true := fun w h => hts w (List.mem_cons_of_mem _ h)
  have hown : s.vm.findClass RX7 = some m.cls := findClass_of_methodNamed B.named
  have hlocks := B.notSynchronized
  subst hsz
  have hD := hD0.self (sz := s.heap.size)
  generalize hAe : va_A (zX7 g a v) s.heap.size = A at hD ⊢
  have hA : ∀ q : Nat, s.heap.size ≤ q → A q := fun q h => by rw [← hAe]; exact Or.inr h
  have hS : va_S A s.heap s.heap [] := va_S.rf
  unfold f_X7_element at hf
  have hl := lv_entry ([.ref (a 0), .int p0, .int p1]) (n := 3) (Nat.le_of_ble_eq_true rfl)
  rw [lg_entry_eq]
  generalize (lg_sl ([.ref (a 0), .int p0, .int p1]) ++ List.replicate (3 - (lg_sl ([.ref (a 0), .int p0, .int p1])).length) Slot.unset).toArray = ls at hl ⊢
  have hl : lv_has ls 3 [(0, .ref (a 0)), (1, .int p0), (2, .int p1)] := hl
  refine lv_aload_n hx hb dX7_element_0 rfl (lv_at hl 0 rfl) ?_
  refine lv_iload_n hx hb dX7_element_1 rfl (lv_at hl 1 rfl) ?_
  obtain ⟨u1, hu1, hf⟩ := ob hf
  refine zk_iA (va_runV (As := [.int p0]) (rest := []) ⟨hx, hb, hml, hown, hts⟩ (c_X7_isElement l g a v p0 _ hu1 _) (zcV hw0 zm4_140 zm4_143 zm1_8 zm4_142 zs5_5 hd_X7_isElement rfl rfl ⟨Nat.le_of_ble_eq_true rfl, Nat.le_of_ble_eq_true rfl⟩) ⟨zblind, zrecvA hK hP (ci := 7) rfl rfl, zpreA hK hP hD⟩ rfl rfl hl.1 rfl (lv_room (Nat.le_of_ble_eq_true rfl)) dX7_element_2 ⟨Nat.zero_le _, Nat.zero_le _⟩) hP hD hS hA (fun H locs hP hD hS => ?_)
  refine lv_if_ne (tgt := 14) hx hb dX7_element_5 (by decide) (fun c2 => ?_) (fun c2 => ?_)
  · have hf := oe hf c2
    refine lv_iload_n hx hb dX7_element_14 rfl (lv_at hl 2 rfl) ?_
    refine lv_iconst (v := 0) hx hb dX7_element_15 (by decide) ?_
    refine lv_bipush (v := 6) hx hb dX7_element_16 (by decide) ?_
    obtain ⟨u3, hu3, hf⟩ := ob hf
    refine zk_iR (va_runS (As := [.int p1, .int 0, .int 6]) (rest := []) ⟨hx, hb, hml, hown, hts⟩ (c_X7_in l g p1 0 6 _ hu3 _) (zcS hw0 zm4_113 zm4_115 zm1_8 zm4_114 hd_X7_in rfl rfl ⟨Nat.le_of_ble_eq_true rfl, Nat.le_of_ble_eq_true rfl⟩) ⟨zblind, zpre hK hP hD [] rfl rfl⟩ rfl rfl hl.1 rfl (lv_room (Nat.le_of_ble_eq_true rfl)) dX7_element_18 ⟨Nat.zero_le _, Nat.zero_le _⟩) hP hD hS hA [] rfl (fun H locs hP hD hS => ?_)
    refine lv_if_eq (tgt := 37) hx hb dX7_element_21 (by decide) (fun c4 => ?_) (fun c4 => ?_)
    · have hf := oi hf c4
      refine lv_aload_n hx hb dX7_element_37 rfl (lv_at hl 0 rfl) ?_
      refine lv_iconst (v := 2) hx hb dX7_element_38 (by decide) ?_
      obtain ⟨u5, hu5, hf⟩ := ob hf
      refine zk_iA (va_runV (As := [.int 2]) (rest := []) ⟨hx, hb, hml, hown, hts⟩ (c_X7_fails l g a v 2 _ hu5 _) (zcV hw0 zm4_116 zm4_119 zm1_8 zm4_118 zs5_1 hd_X7_fails rfl rfl ⟨Nat.le_of_ble_eq_true rfl, Nat.le_of_ble_eq_true rfl⟩) ⟨zblind, zrecvA hK hP (ci := 7) rfl rfl, zpreA hK hP hD⟩ rfl rfl hl.1 rfl (lv_room (Nat.le_of_ble_eq_true rfl)) dX7_element_39 ⟨Nat.zero_le _, Nat.zero_le _⟩) hP hD hS hA (fun H locs hP hD hS => ?_)
      have hP : va_P g.1 vwCl (zX7 g a u5.2) H := hP
      have hD : va_D A (zX7 g a u5.2) := hD
      have hR : (u5.1, u5.2) = r := Option.some.inj hf
      subst hR
      exact W.iret (v := u5.1) hx hb hr0 (fun t ht hW => ⟨⟨u5.1, (), rfl, rfl, by rw [ht]; exact hP, hD⟩, hS.F ht⟩) hS.2.2 dX7_element_42
    · have hf := oe hf c4
      refine lv_aload_n hx hb dX7_element_24 rfl (lv_at hl 0 rfl) ?_
      refine lv_aload_n hx hb dX7_element_25 rfl (lv_at hl 0 rfl) ?_
      refine lv_iload_n hx hb dX7_element_26 rfl (lv_at hl 1 rfl) ?_
      refine lv_iload_n hx hb dX7_element_27 rfl (lv_at hl 2 rfl) ?_
      obtain ⟨u6, hu6, hf⟩ := ob hf
      refine zk_iA (va_runV (As := [.int p0, .int p1]) (rest := [.ref (a 0)]) ⟨hx, hb, hml, hown, hts⟩ (c_X7_elementOf l g a v p0 p1 _ hu6 _) (zcV hw0 zm5_23 zm5_26 zm1_8 zm5_25 zs6_13 hd_X7_elementOf rfl rfl ⟨Nat.le_of_ble_eq_true rfl, Nat.le_of_ble_eq_true rfl⟩) ⟨zblind, zrecvA hK hP (ci := 7) rfl rfl, zpreA hK hP hD⟩ rfl rfl hl.1 rfl (lv_room (Nat.le_of_ble_eq_true rfl)) dX7_element_28 ⟨Nat.zero_le _, Nat.zero_le _⟩) hP hD hS hA (fun H locs hP hD hS => ?_)
      obtain ⟨u7, hu7, hf⟩ := ob hf
      refine zk_iA (va_runV (As := [.int u6]) (rest := []) ⟨hx, hb, hml, hown, hts⟩ (c_X7_tells l g a v u6 _ hu7 _) (zcV hw0 zm5_35 zm5_38 zm1_8 zm5_37 zs7_0 hd_X7_tells rfl rfl ⟨Nat.le_of_ble_eq_true rfl, Nat.le_of_ble_eq_true rfl⟩) ⟨zblind, zrecvA hK hP (ci := 7) rfl rfl, zpreA hK hP hD⟩ rfl rfl hl.1 rfl (lv_room (Nat.le_of_ble_eq_true rfl)) dX7_element_31 ⟨Nat.zero_le _, Nat.zero_le _⟩) hP hD hS hA (fun H locs hP hD hS => ?_)
      have hP : va_P g.1 vwCl (zX7 g a u7.2) H := hP
      have hD : va_D A (zX7 g a u7.2) := hD
      refine lv_goto (tgt := 42) hx hb dX7_element_34 (by decide) ?_
      have hR : (u7.1, u7.2) = r := Option.some.inj hf
      subst hR
      exact W.iret (v := u7.1) hx hb hr0 (fun t ht hW => ⟨⟨u7.1, (), rfl, rfl, by rw [ht]; exact hP, hD⟩, hS.F ht⟩) hS.2.2 dX7_element_42
  · have hf := oi hf c2
    refine lv_aload_n hx hb dX7_element_8 rfl (lv_at hl 0 rfl) ?_
    refine lv_iconst (v := 1) hx hb dX7_element_9 (by decide) ?_
    obtain ⟨u8, hu8, hf⟩ := ob hf
    refine zk_iA (va_runV (As := [.int 1]) (rest := []) ⟨hx, hb, hml, hown, hts⟩ (c_X7_fails l g a v 1 _ hu8 _) (zcV hw0 zm4_116 zm4_119 zm1_8 zm4_118 zs5_1 hd_X7_fails rfl rfl ⟨Nat.le_of_ble_eq_true rfl, Nat.le_of_ble_eq_true rfl⟩) ⟨zblind, zrecvA hK hP (ci := 7) rfl rfl, zpreA hK hP hD⟩ rfl rfl hl.1 rfl (lv_room (Nat.le_of_ble_eq_true rfl)) dX7_element_10 ⟨Nat.zero_le _, Nat.zero_le _⟩) hP hD hS hA (fun H locs hP hD hS => ?_)
    have hP : va_P g.1 vwCl (zX7 g a u8.2) H := hP
    have hD : va_D A (zX7 g a u8.2) := hD
    have hR : (u8.1, u8.2) = r := Option.some.inj hf
    subst hR
    exact W.iret (v := u8.1) hx hb hr0 (fun t ht hW => ⟨⟨u8.1, (), rfl, rfl, by rw [ht]; exact hP, hD⟩, hS.F ht⟩) hS.2.2 dX7_element_13
theorem hd_X7_filler : yX7_filler.cls ≠ "java/lang/invoke/MethodHandle" ∧ yX7_filler.cls ≠ "java/lang/invoke/VarHandle" ∧ (parseMethodDescriptor yX7_filler.desc).map (fun d => d.parameters.length) = some 2 := by decide +kernel
def f_X7_filler (v : MV) (p0 : Int32) (p1 : Int32) : Option (Int32 × MV) :=
  (f_X7_isFiller v p0).bind (fun u1 =>
  if (zb u1) = 0 then
    (f_X7_fails v 1).bind (fun u8 =>
    some (u8.1, u8.2))
  else
    (f_X7_in p1 0 2).bind (fun u3 =>
    if (zb u3) = 0 then
      (f_X7_fails v 2).bind (fun u5 =>
      some (u5.1, u5.2))
    else
      (f_X7_ofFiller v p0 p1).bind (fun u6 =>
      (f_X7_tells v u6).bind (fun u7 =>
      some (u7.1, u7.2)))))
set_option maxHeartbeats 4000000 in
set_option maxRecDepth 100000 in
theorem c_X7_filler (l : Launch) (g : zG) (a : Nat → Nat) (v : MV) (p0 : Int32) (p1 : Int32) (r : Int32 × MV) (hf : f_X7_filler v p0 p1 = some r) : zMi zNF zNM l yX7_filler (zw yX7_filler cX7_filler 3 (some .int)) ({ frames := 1, cells := 0, slots := 0, locals := 22 } : Room) g [.ref (a 0), .int p0, .int p1] (zX7 g a v) r.1 (zX7 g a r.2) := by
  intro sz
  refine Met.ofW (cc := cX7_filler) (maxL := 3) (ret := (some .int)) (by decide) rfl ?_
  intro p e s m args below meth c s₁ B hml hv
  obtain ⟨rfl, hsz, hP, hK, hD0⟩ := hv
  have hx := B.exec
  have hb := B.bytes
  have hr0 := B.returns
  have hts := atoms_spec (ws := (zw yX7_filler cX7_filler 3 (some .int))) B.pre
  have hw0 : ∀ w ∈ zW, w.before ([.ref (a 0), .int p0, .int p1] : List Value).toArray s = true := fun w h => hts w (List.mem_cons_of_mem _ h)
  have hown : s.vm.findClass RX7 = some m.cls := findClass_of_methodNamed B.named
  have hlocks := B.notSynchronized
  subst hsz
  have hD := hD0.self (sz := s.heap.size)
  generalize hAe : va_A (zX7 g a v) s.heap.size = A at hD ⊢
  have hA : ∀ q : Nat, s.heap.size ≤ q → A q := fun q h => by rw [← hAe]; exact Or.inr h
  have hS : va_S A s.heap s.heap [] := va_S.rf
  unfold f_X7_filler at hf
  have hl := lv_entry ([.ref (a 0), .int p0, .int p1]) (n := 3) (Nat.le_of_ble_eq_true rfl)
  rw [lg_entry_eq]
  generalize (lg_sl ([.ref (a 0), .int p0, .int p1]) ++ List.replicate (3 - (lg_sl ([.ref (a 0), .int p0, .int p1])).length) Slot.unset).toArray = ls at hl ⊢
  have hl : lv_has ls 3 [(0, .ref (a 0)), (1, .int p0), (2, .int p1)] := hl
  refine lv_aload_n hx hb dX7_filler_0 rfl (lv_at hl 0 rfl) ?_
  refine lv_iload_n hx hb dX7_filler_1 rfl (lv_at hl 1 rfl) ?_
  obtain ⟨u1, hu1, hf⟩ := ob hf
  refine zk_iA (va_runV (As := [.int p0]) (rest := []) ⟨hx, hb, hml, hown, hts⟩ (c_X7_isFiller l g a v p0 _ hu1 _) (zcV hw0 zm5_43 zm5_46 zm1_8 zm5_45 zs7_1 hd_X7_isFiller rfl rfl ⟨Nat.le_of_ble_eq_true rfl, Nat.le_of_ble_eq_true rfl⟩) ⟨zblind, zrecvA hK hP (ci := 7) rfl rfl, zpreA hK hP hD⟩ rfl rfl hl.1 rfl (lv_room (Nat.le_of_ble_eq_true rfl)) dX7_filler_2 ⟨Nat.zero_le _, Nat.zero_le _⟩) hP hD hS hA (fun H locs hP hD hS => ?_)
  refine lv_if_ne (tgt := 14) hx hb dX7_filler_5 (by decide) (fun c2 => ?_) (fun c2 => ?_)
  · have hf := oe hf c2
    refine lv_iload_n hx hb dX7_filler_14 rfl (lv_at hl 2 rfl) ?_
    refine lv_iconst (v := 0) hx hb dX7_filler_15 (by decide) ?_
    refine lv_iconst (v := 2) hx hb dX7_filler_16 (by decide) ?_
    obtain ⟨u3, hu3, hf⟩ := ob hf
    refine zk_iR (va_runS (As := [.int p1, .int 0, .int 2]) (rest := []) ⟨hx, hb, hml, hown, hts⟩ (c_X7_in l g p1 0 2 _ hu3 _) (zcS hw0 zm4_113 zm4_115 zm1_8 zm4_114 hd_X7_in rfl rfl ⟨Nat.le_of_ble_eq_true rfl, Nat.le_of_ble_eq_true rfl⟩) ⟨zblind, zpre hK hP hD [] rfl rfl⟩ rfl rfl hl.1 rfl (lv_room (Nat.le_of_ble_eq_true rfl)) dX7_filler_17 ⟨Nat.zero_le _, Nat.zero_le _⟩) hP hD hS hA [] rfl (fun H locs hP hD hS => ?_)
    refine lv_if_eq (tgt := 36) hx hb dX7_filler_20 (by decide) (fun c4 => ?_) (fun c4 => ?_)
    · have hf := oi hf c4
      refine lv_aload_n hx hb dX7_filler_36 rfl (lv_at hl 0 rfl) ?_
      refine lv_iconst (v := 2) hx hb dX7_filler_37 (by decide) ?_
      obtain ⟨u5, hu5, hf⟩ := ob hf
      refine zk_iA (va_runV (As := [.int 2]) (rest := []) ⟨hx, hb, hml, hown, hts⟩ (c_X7_fails l g a v 2 _ hu5 _) (zcV hw0 zm4_116 zm4_119 zm1_8 zm4_118 zs5_1 hd_X7_fails rfl rfl ⟨Nat.le_of_ble_eq_true rfl, Nat.le_of_ble_eq_true rfl⟩) ⟨zblind, zrecvA hK hP (ci := 7) rfl rfl, zpreA hK hP hD⟩ rfl rfl hl.1 rfl (lv_room (Nat.le_of_ble_eq_true rfl)) dX7_filler_38 ⟨Nat.zero_le _, Nat.zero_le _⟩) hP hD hS hA (fun H locs hP hD hS => ?_)
      have hP : va_P g.1 vwCl (zX7 g a u5.2) H := hP
      have hD : va_D A (zX7 g a u5.2) := hD
      have hR : (u5.1, u5.2) = r := Option.some.inj hf
      subst hR
      exact W.iret (v := u5.1) hx hb hr0 (fun t ht hW => ⟨⟨u5.1, (), rfl, rfl, by rw [ht]; exact hP, hD⟩, hS.F ht⟩) hS.2.2 dX7_filler_41
    · have hf := oe hf c4
      refine lv_aload_n hx hb dX7_filler_23 rfl (lv_at hl 0 rfl) ?_
      refine lv_aload_n hx hb dX7_filler_24 rfl (lv_at hl 0 rfl) ?_
      refine lv_iload_n hx hb dX7_filler_25 rfl (lv_at hl 1 rfl) ?_
      refine lv_iload_n hx hb dX7_filler_26 rfl (lv_at hl 2 rfl) ?_
      obtain ⟨u6, hu6, hf⟩ := ob hf
      refine zk_iA (va_runV (As := [.int p0, .int p1]) (rest := [.ref (a 0)]) ⟨hx, hb, hml, hown, hts⟩ (c_X7_ofFiller l g a v p0 p1 _ hu6 _) (zcV hw0 zm4_228 zm4_231 zm1_8 zm4_230 zs6_9 hd_X7_ofFiller rfl rfl ⟨Nat.le_of_ble_eq_true rfl, Nat.le_of_ble_eq_true rfl⟩) ⟨zblind, zrecvA hK hP (ci := 7) rfl rfl, zpreA hK hP hD⟩ rfl rfl hl.1 rfl (lv_room (Nat.le_of_ble_eq_true rfl)) dX7_filler_27 ⟨Nat.zero_le _, Nat.zero_le _⟩) hP hD hS hA (fun H locs hP hD hS => ?_)
      obtain ⟨u7, hu7, hf⟩ := ob hf
      refine zk_iA (va_runV (As := [.int u6]) (rest := []) ⟨hx, hb, hml, hown, hts⟩ (c_X7_tells l g a v u6 _ hu7 _) (zcV hw0 zm5_35 zm5_38 zm1_8 zm5_37 zs7_0 hd_X7_tells rfl rfl ⟨Nat.le_of_ble_eq_true rfl, Nat.le_of_ble_eq_true rfl⟩) ⟨zblind, zrecvA hK hP (ci := 7) rfl rfl, zpreA hK hP hD⟩ rfl rfl hl.1 rfl (lv_room (Nat.le_of_ble_eq_true rfl)) dX7_filler_30 ⟨Nat.zero_le _, Nat.zero_le _⟩) hP hD hS hA (fun H locs hP hD hS => ?_)
      have hP : va_P g.1 vwCl (zX7 g a u7.2) H := hP
      have hD : va_D A (zX7 g a u7.2) := hD
      refine lv_goto (tgt := 41) hx hb dX7_filler_33 (by decide) ?_
      have hR : (u7.1, u7.2) = r := Option.some.inj hf
      subst hR
      exact W.iret (v := u7.1) hx hb hr0 (fun t ht hW => ⟨⟨u7.1, (), rfl, rfl, by rw [ht]; exact hP, hD⟩, hS.F ht⟩) hS.2.2 dX7_filler_41
  · have hf := oi hf c2
    refine lv_aload_n hx hb dX7_filler_8 rfl (lv_at hl 0 rfl) ?_
    refine lv_iconst (v := 1) hx hb dX7_filler_9 (by decide) ?_
    obtain ⟨u8, hu8, hf⟩ := ob hf
    refine zk_iA (va_runV (As := [.int 1]) (rest := []) ⟨hx, hb, hml, hown, hts⟩ (c_X7_fails l g a v 1 _ hu8 _) (zcV hw0 zm4_116 zm4_119 zm1_8 zm4_118 zs5_1 hd_X7_fails rfl rfl ⟨Nat.le_of_ble_eq_true rfl, Nat.le_of_ble_eq_true rfl⟩) ⟨zblind, zrecvA hK hP (ci := 7) rfl rfl, zpreA hK hP hD⟩ rfl rfl hl.1 rfl (lv_room (Nat.le_of_ble_eq_true rfl)) dX7_filler_10 ⟨Nat.zero_le _, Nat.zero_le _⟩) hP hD hS hA (fun H locs hP hD hS => ?_)
    have hP : va_P g.1 vwCl (zX7 g a u8.2) H := hP
    have hD : va_D A (zX7 g a u8.2) := hD
    have hR : (u8.1, u8.2) = r := Option.some.inj hf
    subst hR
    exact W.iret (v := u8.1) hx hb hr0 (fun t ht hW => ⟨⟨u8.1, (), rfl, rfl, by rw [ht]; exact hP, hD⟩, hS.F ht⟩) hS.2.2 dX7_filler_13
theorem hd_X7_greatest : yX7_greatest.cls ≠ "java/lang/invoke/MethodHandle" ∧ yX7_greatest.cls ≠ "java/lang/invoke/VarHandle" ∧ (parseMethodDescriptor yX7_greatest.desc).map (fun d => d.parameters.length) = some 0 := by decide +kernel
def s_X7_greatest_4 (v : MV) (x : Int32 × Int32) : Option ((Int32 × Int32) ⊕ (Int32 × Int32)) :=
  if (v.1 7) ≤ x.2 then
    some (.inr (x.1, x.2))
  else
    (f_X7_latenessOf v x.2).bind (fun u2 =>
    if u2 ≤ x.1 then
      some (.inl (x.1, (x.2 + 1)))
    else
      (f_X7_latenessOf v x.2).bind (fun u4 =>
      some (.inl (u4, (x.2 + 1)))))
def f_X7_greatest (v : MV) : Option (Int32) :=
  (zloop (s_X7_greatest_4 v) 4096 (0, 0)).bind (fun u5 =>
  some u5.1)
set_option maxHeartbeats 4000000 in
set_option maxRecDepth 100000 in
theorem c_X7_greatest (l : Launch) (g : zG) (a : Nat → Nat) (v : MV) (r : Int32) (hf : f_X7_greatest v = some r) : zMi zNF zNM l yX7_greatest (zw yX7_greatest cX7_greatest 3 (some .int)) ({ frames := 3, cells := 0, slots := 0, locals := 64 } : Room) g [.ref (a 0)] (zX7 g a v) r (zX7 g a v) := by
  intro sz
  refine Met.ofW (cc := cX7_greatest) (maxL := 3) (ret := (some .int)) (by decide) rfl ?_
  intro p e s m args below meth c s₁ B hml hv
  obtain ⟨rfl, hsz, hP, hK, hD0⟩ := hv
  have hx := B.exec
  have hb := B.bytes
  have hr0 := B.returns
  have hts := atoms_spec (ws := (zw yX7_greatest cX7_greatest 3 (some .int))) B.pre
  have hw0 : ∀ w ∈ zW, w.before ([.ref (a 0)] : List Value).toArray s = true := fun w h => hts w (List.mem_cons_of_mem _ h)
  have hown : s.vm.findClass RX7 = some m.cls := findClass_of_methodNamed B.named
  have hlocks := B.notSynchronized
  subst hsz
  have hD := hD0.self (sz := s.heap.size)
  generalize hAe : va_A (zX7 g a v) s.heap.size = A at hD ⊢
  have hA : ∀ q : Nat, s.heap.size ≤ q → A q := fun q h => by rw [← hAe]; exact Or.inr h
  have hS : va_S A s.heap s.heap [] := va_S.rf
  have lp4 : ∀ (v : MV), ∀ (n : Nat) (x : Int32 × Int32) (rr : Int32 × Int32), zloop (s_X7_greatest_4 v) n x = some rr → (∀ (H : Heap) (locs : List Loc), va_P g.1 vwCl (zX7 g a v) H → va_D A (zX7 g a v) → va_S A s.heap H locs → ∀ ls : Array Slot, lv_has ls 3 [(1, .int rr.1)] → W p l e (headSpec (zw yX7_greatest cX7_greatest 3 (some .int)) ({ frames := 3, cells := 0, slots := 0, locals := 64 } : Room)).room s m ([.ref (a 0)] : List Value).toArray below meth c H locs 0 0 (MQ below (va_Qi (fun (x : Int32) (_ : Unit) => x = r) (fun _ => zEnd g A (zX7 g a v)) A) ([.ref (a 0)] : List Value).toArray s 0 0 A) (F0 m 40 ls [])) → ∀ (H : Heap) (locs : List Loc), va_P g.1 vwCl (zX7 g a v) H → va_D A (zX7 g a v) → va_S A s.heap H locs → ∀ ls : Array Slot, lv_has ls 3 [(0, .ref (a 0)), (1, .int x.1), (2, .int x.2)] → W p l e (headSpec (zw yX7_greatest cX7_greatest 3 (some .int)) ({ frames := 3, cells := 0, slots := 0, locals := 64 } : Room)).room s m ([.ref (a 0)] : List Value).toArray below meth c H locs 0 0 (MQ below (va_Qi (fun (x : Int32) (_ : Unit) => x = r) (fun _ => zEnd g A (zX7 g a v)) A) ([.ref (a 0)] : List Value).toArray s 0 0 A) (F0 m 4 ls []) := by
    intro v
    refine zloop_ind ?_
    intro x y rr hf ih hr hQ H locs hP hD hS ls hl
    unfold s_X7_greatest_4 at hf
    refine lv_iload_n hx hb dX7_greatest_4 rfl (lv_at hl 2 rfl) ?_
    refine lv_aload_n hx hb dX7_greatest_5 rfl (lv_at hl 0 rfl) ?_
    refine va_get (D := g.1) (ci := 7) (v := .ref (a 1)) (C := RX7) (T := TX7) (N := 11) hx hb hw0 ziX7 hown hK.1 hP 0 rfl rfl 0 (by decide) (hw0 _ zm4_71) (fun _ h9 => h9) rfl dX7_greatest_6 ?_
    refine lv_bipush (v := 7) hx hb dX7_greatest_9 (by decide) ?_
    refine zald (D := g.1) (f := v.1) (k := 7) hx hb hK.1 hP 1 0 rfl rfl (zin_vp (i := 7) (n := 220) rfl) rfl dX7_greatest_11 ?_
    refine lv_icmp_ge (tgt := 40) hx hb dX7_greatest_12 (by decide) (fun c1 => ?_) (fun c1 => ?_)
    · have hf := oi hf c1
      have hR : (x.1, x.2) = rr := hr _ (Option.some.inj hf).symm
      subst hR
      exact hQ _ _ hP hD hS _ (lv_sub hl [1] rfl)
    · have hf := oe hf c1
      refine lv_aload_n hx hb dX7_greatest_15 rfl (lv_at hl 0 rfl) ?_
      refine lv_iload_n hx hb dX7_greatest_16 rfl (lv_at hl 2 rfl) ?_
      obtain ⟨u2, hu2, hf⟩ := ob hf
      refine zk_iA (va_runV (As := [.int x.2]) (rest := []) ⟨hx, hb, hml, hown, hts⟩ (c_X7_latenessOf l g a v x.2 _ hu2 _) (zcV hw0 zm5_27 zm5_30 zm1_8 zm5_29 zs6_14 hd_X7_latenessOf rfl rfl ⟨Nat.le_of_ble_eq_true rfl, Nat.le_of_ble_eq_true rfl⟩) ⟨zblind, zrecvA hK hP (ci := 7) rfl rfl, zpreA hK hP hD⟩ rfl rfl hl.1 rfl (lv_room (Nat.le_of_ble_eq_true rfl)) dX7_greatest_17 ⟨Nat.zero_le _, Nat.zero_le _⟩) hP hD hS hA (fun H locs hP hD hS => ?_)
      refine lv_iload_n hx hb dX7_greatest_20 rfl (lv_at hl 1 rfl) ?_
      refine lv_icmp_le (tgt := 32) hx hb dX7_greatest_21 (by decide) (fun c3 => ?_) (fun c3 => ?_)
      · have hf := oi hf c3
        refine lv_iload_n hx hb dX7_greatest_32 rfl (lv_at hl 1 rfl) ?_
        refine lv_istore_n (lv' := [(1, .int x.1), (0, .ref (a 0)), (2, .int x.2)]) hx hb dX7_greatest_33 rfl hl (by decide) rfl (fun ls hl => ?_)
        refine lv_iinc (v := (x.2 + 1)) (lv' := [(2, .int (x.2 + 1)), (1, .int x.1), (0, .ref (a 0))]) hx hb dX7_greatest_34 hl (k := 2) rfl rfl (by decide) rfl (fun ls hl => ?_)
        refine lv_goto (tgt := 4) hx hb dX7_greatest_37 (by decide) ?_
        exact ih (x.1, (x.2 + 1)) (Option.some.inj hf).symm hQ _ _ hP hD hS _ (lv_sub hl [2, 1, 0] rfl)
      · have hf := oe hf c3
        refine lv_aload_n hx hb dX7_greatest_24 rfl (lv_at hl 0 rfl) ?_
        refine lv_iload_n hx hb dX7_greatest_25 rfl (lv_at hl 2 rfl) ?_
        obtain ⟨u4, hu4, hf⟩ := ob hf
        refine zk_iA (va_runV (As := [.int x.2]) (rest := []) ⟨hx, hb, hml, hown, hts⟩ (c_X7_latenessOf l g a v x.2 _ hu4 _) (zcV hw0 zm5_27 zm5_30 zm1_8 zm5_29 zs6_14 hd_X7_latenessOf rfl rfl ⟨Nat.le_of_ble_eq_true rfl, Nat.le_of_ble_eq_true rfl⟩) ⟨zblind, zrecvA hK hP (ci := 7) rfl rfl, zpreA hK hP hD⟩ rfl rfl hl.1 rfl (lv_room (Nat.le_of_ble_eq_true rfl)) dX7_greatest_26 ⟨Nat.zero_le _, Nat.zero_le _⟩) hP hD hS hA (fun H locs hP hD hS => ?_)
        refine lv_goto (tgt := 33) hx hb dX7_greatest_29 (by decide) ?_
        refine lv_istore_n (lv' := [(1, .int u4), (0, .ref (a 0)), (2, .int x.2)]) hx hb dX7_greatest_33 rfl hl (by decide) rfl (fun ls hl => ?_)
        refine lv_iinc (v := (x.2 + 1)) (lv' := [(2, .int (x.2 + 1)), (1, .int u4), (0, .ref (a 0))]) hx hb dX7_greatest_34 hl (k := 2) rfl rfl (by decide) rfl (fun ls hl => ?_)
        refine lv_goto (tgt := 4) hx hb dX7_greatest_37 (by decide) ?_
        exact ih (u4, (x.2 + 1)) (Option.some.inj hf).symm hQ _ _ hP hD hS _ (lv_sub hl [2, 1, 0] rfl)
  unfold f_X7_greatest at hf
  have hl := lv_entry ([.ref (a 0)]) (n := 3) (Nat.le_of_ble_eq_true rfl)
  rw [lg_entry_eq]
  generalize (lg_sl ([.ref (a 0)]) ++ List.replicate (3 - (lg_sl ([.ref (a 0)])).length) Slot.unset).toArray = ls at hl ⊢
  have hl : lv_has ls 3 [(0, .ref (a 0))] := hl
  refine lv_iconst (v := 0) hx hb dX7_greatest_0 (by decide) ?_
  refine lv_istore_n (lv' := [(1, .int 0), (0, .ref (a 0))]) hx hb dX7_greatest_1 rfl hl (by decide) rfl (fun ls hl => ?_)
  refine lv_iconst (v := 0) hx hb dX7_greatest_2 (by decide) ?_
  refine lv_istore_n (lv' := [(2, .int 0), (1, .int 0), (0, .ref (a 0))]) hx hb dX7_greatest_3 rfl hl (by decide) rfl (fun ls hl => ?_)
  obtain ⟨u5, hu5, hf⟩ := ob hf
  refine lp4 v _ _ u5 hu5 (fun H locs hP hD hS ls hl => ?_) _ _ hP hD hS _ (lv_sub hl [2, 1, 0] rfl)
  have hl : lv_has ls 3 [(1, .int u5.1)] := hl
  have hP : va_P g.1 vwCl (zX7 g a v) H := hP
  have hD : va_D A (zX7 g a v) := hD
  refine lv_iload_n hx hb dX7_greatest_40 rfl (lv_at hl 0 rfl) ?_
  have hR : u5.1 = r := Option.some.inj hf
  subst hR
  exact W.iret (v := u5.1) hx hb hr0 (fun t ht hW => ⟨⟨u5.1, (), rfl, rfl, by rw [ht]; exact hP, hD⟩, hS.F ht⟩) hS.2.2 dX7_greatest_41
theorem hd_X7_valueOf : yX7_valueOf.cls ≠ "java/lang/invoke/MethodHandle" ∧ yX7_valueOf.cls ≠ "java/lang/invoke/VarHandle" ∧ (parseMethodDescriptor yX7_valueOf.desc).map (fun d => d.parameters.length) = some 1 := by decide +kernel
def f_X7_valueOf (v : MV) (p0 : Int32) : Option (Int32) :=
  if p0 = 0 then
    some (v.1 7)
  else
    if p0 = 1 then
      some (v.1 8)
    else
      if p0 = 2 then
        some (v.1 0)
      else
        if p0 = 3 then
          some (v.1 1)
        else
          if p0 = 4 then
            (f_X7_inStatus v 0).bind (fun u1 =>
            some u1)
          else
            if p0 = 5 then
              (f_X7_inStatus v 3).bind (fun u2 =>
              some u2)
            else
              if p0 = 6 then
                (f_X7_waitingFillers v).bind (fun u3 =>
                (f_X7_ones u3).bind (fun u4 =>
                some u4))
              else
                if p0 = 7 then
                  some (v.1 5)
                else
                  if p0 = 8 then
                    (f_X7_goal v).bind (fun u5 =>
                    some u5)
                  else
                    if p0 = 9 then
                      if (v.1 1) = 1 then
                        some ((v.1 0) - 3600)
                      else
                        some (-1)
                    else
                      if p0 = 10 then
                        (f_X7_greatest v).bind (fun u7 =>
                        some u7)
                      else
                        if p0 = 11 then
                          some (v.1 9)
                        else
                          if p0 = 12 then
                            some (v.1 6)
                          else
                            if (v.1 2) = 0 then
                              some 0
                            else
                              some ((v.1 4) - (v.1 0))
set_option maxHeartbeats 4000000 in
set_option maxRecDepth 100000 in
theorem c_X7_valueOf (l : Launch) (g : zG) (a : Nat → Nat) (v : MV) (p0 : Int32) (r : Int32) (hf : f_X7_valueOf v p0 = some r) : zMi zNF zNM l yX7_valueOf (zw yX7_valueOf cX7_valueOf 2 (some .int)) ({ frames := 4, cells := 0, slots := 0, locals := 86 } : Room) g [.ref (a 0), .int p0] (zX7 g a v) r (zX7 g a v) := by
  intro sz
  refine Met.ofW (cc := cX7_valueOf) (maxL := 2) (ret := (some .int)) (by decide) rfl ?_
  intro p e s m args below meth c s₁ B hml hv
  obtain ⟨rfl, hsz, hP, hK, hD0⟩ := hv
  have hx := B.exec
  have hb := B.bytes
  have hr0 := B.returns
  have hts := atoms_spec (ws := (zw yX7_valueOf cX7_valueOf 2 (some .int))) B.pre
  have hw0 : ∀ w ∈ zW, w.before ([.ref (a 0), .int p0] : List Value).toArray s = true := fun w h => hts w (List.mem_cons_of_mem _ h)
  have hown : s.vm.findClass RX7 = some m.cls := findClass_of_methodNamed B.named
  have hlocks := B.notSynchronized
  subst hsz
  have hD := hD0.self (sz := s.heap.size)
  generalize hAe : va_A (zX7 g a v) s.heap.size = A at hD ⊢
  have hA : ∀ q : Nat, s.heap.size ≤ q → A q := fun q h => by rw [← hAe]; exact Or.inr h
  have hS : va_S A s.heap s.heap [] := va_S.rf
  unfold f_X7_valueOf at hf
  have hl := lv_entry ([.ref (a 0), .int p0]) (n := 2) (Nat.le_of_ble_eq_true rfl)
  rw [lg_entry_eq]
  generalize (lg_sl ([.ref (a 0), .int p0]) ++ List.replicate (2 - (lg_sl ([.ref (a 0), .int p0])).length) Slot.unset).toArray = ls at hl ⊢
  have hl : lv_has ls 2 [(0, .ref (a 0)), (1, .int p0)] := hl
  refine lv_iload_n hx hb dX7_valueOf_0 rfl (lv_at hl 1 rfl) ?_
  by_cases c9 : p0 = 0
  · have hf := oi hf c9
    refine lv_tableIn (tgt := 68) hx hb dX7_valueOf_1 (off := 67) (by rw [c9]; decide) (by rw [c9]; decide) (by first | (rw [c9]; done) | (rw [c9]; rfl)) (by decide) ?_
    refine lv_aload_n hx hb dX7_valueOf_68 rfl (lv_at hl 0 rfl) ?_
    refine va_get (D := g.1) (ci := 7) (v := .ref (a 1)) (C := RX7) (T := TX7) (N := 11) hx hb hw0 ziX7 hown hK.1 hP 0 rfl rfl 0 (by decide) (hw0 _ zm4_71) (fun _ h9 => h9) rfl dX7_valueOf_69 ?_
    refine lv_bipush (v := 7) hx hb dX7_valueOf_72 (by decide) ?_
    refine zald (D := g.1) (f := v.1) (k := 7) hx hb hK.1 hP 1 0 rfl rfl (zin_vp (i := 7) (n := 220) rfl) rfl dX7_valueOf_74 ?_
    have hR : (v.1 7) = r := Option.some.inj hf
    subst hR
    exact W.iret (v := (v.1 7)) hx hb hr0 (fun t ht hW => ⟨⟨(v.1 7), (), rfl, rfl, by rw [ht]; exact hP, hD⟩, hS.F ht⟩) hS.2.2 dX7_valueOf_75
  · have hf := oe hf c9
    by_cases c10 : p0 = 1
    · have hf := oi hf c10
      refine lv_tableIn (tgt := 76) hx hb dX7_valueOf_1 (off := 75) (by rw [c10]; decide) (by rw [c10]; decide) (by first | (rw [c10]; done) | (rw [c10]; rfl)) (by decide) ?_
      refine lv_aload_n hx hb dX7_valueOf_76 rfl (lv_at hl 0 rfl) ?_
      refine va_get (D := g.1) (ci := 7) (v := .ref (a 1)) (C := RX7) (T := TX7) (N := 11) hx hb hw0 ziX7 hown hK.1 hP 0 rfl rfl 0 (by decide) (hw0 _ zm4_71) (fun _ h9 => h9) rfl dX7_valueOf_77 ?_
      refine lv_bipush (v := 8) hx hb dX7_valueOf_80 (by decide) ?_
      refine zald (D := g.1) (f := v.1) (k := 8) hx hb hK.1 hP 1 0 rfl rfl (zin_vp (i := 8) (n := 220) rfl) rfl dX7_valueOf_82 ?_
      have hR : (v.1 8) = r := Option.some.inj hf
      subst hR
      exact W.iret (v := (v.1 8)) hx hb hr0 (fun t ht hW => ⟨⟨(v.1 8), (), rfl, rfl, by rw [ht]; exact hP, hD⟩, hS.F ht⟩) hS.2.2 dX7_valueOf_83
    · have hf := oe hf c10
      by_cases c11 : p0 = 2
      · have hf := oi hf c11
        refine lv_tableIn (tgt := 84) hx hb dX7_valueOf_1 (off := 83) (by rw [c11]; decide) (by rw [c11]; decide) (by first | (rw [c11]; done) | (rw [c11]; rfl)) (by decide) ?_
        refine lv_aload_n hx hb dX7_valueOf_84 rfl (lv_at hl 0 rfl) ?_
        refine va_get (D := g.1) (ci := 7) (v := .ref (a 1)) (C := RX7) (T := TX7) (N := 11) hx hb hw0 ziX7 hown hK.1 hP 0 rfl rfl 0 (by decide) (hw0 _ zm4_71) (fun _ h9 => h9) rfl dX7_valueOf_85 ?_
        refine lv_iconst (v := 0) hx hb dX7_valueOf_88 (by decide) ?_
        refine zald (D := g.1) (f := v.1) (k := 0) hx hb hK.1 hP 1 0 rfl rfl (zin_vp (i := 0) (n := 220) rfl) rfl dX7_valueOf_89 ?_
        have hR : (v.1 0) = r := Option.some.inj hf
        subst hR
        exact W.iret (v := (v.1 0)) hx hb hr0 (fun t ht hW => ⟨⟨(v.1 0), (), rfl, rfl, by rw [ht]; exact hP, hD⟩, hS.F ht⟩) hS.2.2 dX7_valueOf_90
      · have hf := oe hf c11
        by_cases c12 : p0 = 3
        · have hf := oi hf c12
          refine lv_tableIn (tgt := 91) hx hb dX7_valueOf_1 (off := 90) (by rw [c12]; decide) (by rw [c12]; decide) (by first | (rw [c12]; done) | (rw [c12]; rfl)) (by decide) ?_
          refine lv_aload_n hx hb dX7_valueOf_91 rfl (lv_at hl 0 rfl) ?_
          refine va_get (D := g.1) (ci := 7) (v := .ref (a 1)) (C := RX7) (T := TX7) (N := 11) hx hb hw0 ziX7 hown hK.1 hP 0 rfl rfl 0 (by decide) (hw0 _ zm4_71) (fun _ h9 => h9) rfl dX7_valueOf_92 ?_
          refine lv_iconst (v := 1) hx hb dX7_valueOf_95 (by decide) ?_
          refine zald (D := g.1) (f := v.1) (k := 1) hx hb hK.1 hP 1 0 rfl rfl (zin_vp (i := 1) (n := 220) rfl) rfl dX7_valueOf_96 ?_
          have hR : (v.1 1) = r := Option.some.inj hf
          subst hR
          exact W.iret (v := (v.1 1)) hx hb hr0 (fun t ht hW => ⟨⟨(v.1 1), (), rfl, rfl, by rw [ht]; exact hP, hD⟩, hS.F ht⟩) hS.2.2 dX7_valueOf_97
        · have hf := oe hf c12
          by_cases c13 : p0 = 4
          · have hf := oi hf c13
            refine lv_tableIn (tgt := 98) hx hb dX7_valueOf_1 (off := 97) (by rw [c13]; decide) (by rw [c13]; decide) (by first | (rw [c13]; done) | (rw [c13]; rfl)) (by decide) ?_
            refine lv_aload_n hx hb dX7_valueOf_98 rfl (lv_at hl 0 rfl) ?_
            refine lv_iconst (v := 0) hx hb dX7_valueOf_99 (by decide) ?_
            obtain ⟨u1, hu1, hf⟩ := ob hf
            refine zk_iA (va_runV (As := [.int 0]) (rest := []) ⟨hx, hb, hml, hown, hts⟩ (c_X7_inStatus l g a v 0 _ hu1 _) (zcV hw0 zm4_172 zm4_175 zm1_8 zm4_174 zs5_12 hd_X7_inStatus rfl rfl ⟨Nat.le_of_ble_eq_true rfl, Nat.le_of_ble_eq_true rfl⟩) ⟨zblind, zrecvA hK hP (ci := 7) rfl rfl, zpreA hK hP hD⟩ rfl rfl hl.1 rfl (lv_room (Nat.le_of_ble_eq_true rfl)) dX7_valueOf_100 ⟨Nat.zero_le _, Nat.zero_le _⟩) hP hD hS hA (fun H locs hP hD hS => ?_)
            have hR : u1 = r := Option.some.inj hf
            subst hR
            exact W.iret (v := u1) hx hb hr0 (fun t ht hW => ⟨⟨u1, (), rfl, rfl, by rw [ht]; exact hP, hD⟩, hS.F ht⟩) hS.2.2 dX7_valueOf_103
          · have hf := oe hf c13
            by_cases c14 : p0 = 5
            · have hf := oi hf c14
              refine lv_tableIn (tgt := 104) hx hb dX7_valueOf_1 (off := 103) (by rw [c14]; decide) (by rw [c14]; decide) (by first | (rw [c14]; done) | (rw [c14]; rfl)) (by decide) ?_
              refine lv_aload_n hx hb dX7_valueOf_104 rfl (lv_at hl 0 rfl) ?_
              refine lv_iconst (v := 3) hx hb dX7_valueOf_105 (by decide) ?_
              obtain ⟨u2, hu2, hf⟩ := ob hf
              refine zk_iA (va_runV (As := [.int 3]) (rest := []) ⟨hx, hb, hml, hown, hts⟩ (c_X7_inStatus l g a v 3 _ hu2 _) (zcV hw0 zm4_172 zm4_175 zm1_8 zm4_174 zs5_12 hd_X7_inStatus rfl rfl ⟨Nat.le_of_ble_eq_true rfl, Nat.le_of_ble_eq_true rfl⟩) ⟨zblind, zrecvA hK hP (ci := 7) rfl rfl, zpreA hK hP hD⟩ rfl rfl hl.1 rfl (lv_room (Nat.le_of_ble_eq_true rfl)) dX7_valueOf_106 ⟨Nat.zero_le _, Nat.zero_le _⟩) hP hD hS hA (fun H locs hP hD hS => ?_)
              have hR : u2 = r := Option.some.inj hf
              subst hR
              exact W.iret (v := u2) hx hb hr0 (fun t ht hW => ⟨⟨u2, (), rfl, rfl, by rw [ht]; exact hP, hD⟩, hS.F ht⟩) hS.2.2 dX7_valueOf_109
            · have hf := oe hf c14
              by_cases c15 : p0 = 6
              · have hf := oi hf c15
                refine lv_tableIn (tgt := 110) hx hb dX7_valueOf_1 (off := 109) (by rw [c15]; decide) (by rw [c15]; decide) (by first | (rw [c15]; done) | (rw [c15]; rfl)) (by decide) ?_
                refine lv_aload_n hx hb dX7_valueOf_110 rfl (lv_at hl 0 rfl) ?_
                obtain ⟨u3, hu3, hf⟩ := ob hf
                refine zk_iA (va_runV (As := []) (rest := []) ⟨hx, hb, hml, hown, hts⟩ (c_X7_waitingFillers l g a v _ hu3 _) (zcV hw0 zm4_224 zm4_227 zm1_8 zm4_226 zs6_8 hd_X7_waitingFillers rfl rfl ⟨Nat.le_of_ble_eq_true rfl, Nat.le_of_ble_eq_true rfl⟩) ⟨zblind, zrecvA hK hP (ci := 7) rfl rfl, zpreA hK hP hD⟩ rfl rfl hl.1 rfl (lv_room (Nat.le_of_ble_eq_true rfl)) dX7_valueOf_111 ⟨Nat.zero_le _, Nat.zero_le _⟩) hP hD hS hA (fun H locs hP hD hS => ?_)
                obtain ⟨u4, hu4, hf⟩ := ob hf
                refine zk_iR (va_runS (As := [.int u3]) (rest := []) ⟨hx, hb, hml, hown, hts⟩ (c_X7_ones l g u3 _ hu4 _) (zcS hw0 zm4_236 zm4_238 zm1_8 zm4_237 hd_X7_ones rfl rfl ⟨Nat.le_of_ble_eq_true rfl, Nat.le_of_ble_eq_true rfl⟩) ⟨zblind, zpre hK hP hD [] rfl rfl⟩ rfl rfl hl.1 rfl (lv_room (Nat.le_of_ble_eq_true rfl)) dX7_valueOf_114 ⟨Nat.zero_le _, Nat.zero_le _⟩) hP hD hS hA [] rfl (fun H locs hP hD hS => ?_)
                have hR : u4 = r := Option.some.inj hf
                subst hR
                exact W.iret (v := u4) hx hb hr0 (fun t ht hW => ⟨⟨u4, (), rfl, rfl, by rw [ht]; exact hP, hD⟩, hS.F ht⟩) hS.2.2 dX7_valueOf_117
              · have hf := oe hf c15
                by_cases c16 : p0 = 7
                · have hf := oi hf c16
                  refine lv_tableIn (tgt := 118) hx hb dX7_valueOf_1 (off := 117) (by rw [c16]; decide) (by rw [c16]; decide) (by first | (rw [c16]; done) | (rw [c16]; rfl)) (by decide) ?_
                  refine lv_aload_n hx hb dX7_valueOf_118 rfl (lv_at hl 0 rfl) ?_
                  refine va_get (D := g.1) (ci := 7) (v := .ref (a 1)) (C := RX7) (T := TX7) (N := 11) hx hb hw0 ziX7 hown hK.1 hP 0 rfl rfl 0 (by decide) (hw0 _ zm4_71) (fun _ h9 => h9) rfl dX7_valueOf_119 ?_
                  refine lv_iconst (v := 5) hx hb dX7_valueOf_122 (by decide) ?_
                  refine zald (D := g.1) (f := v.1) (k := 5) hx hb hK.1 hP 1 0 rfl rfl (zin_vp (i := 5) (n := 220) rfl) rfl dX7_valueOf_123 ?_
                  have hR : (v.1 5) = r := Option.some.inj hf
                  subst hR
                  exact W.iret (v := (v.1 5)) hx hb hr0 (fun t ht hW => ⟨⟨(v.1 5), (), rfl, rfl, by rw [ht]; exact hP, hD⟩, hS.F ht⟩) hS.2.2 dX7_valueOf_124
                · have hf := oe hf c16
                  by_cases c17 : p0 = 8
                  · have hf := oi hf c17
                    refine lv_tableIn (tgt := 125) hx hb dX7_valueOf_1 (off := 124) (by rw [c17]; decide) (by rw [c17]; decide) (by first | (rw [c17]; done) | (rw [c17]; rfl)) (by decide) ?_
                    refine lv_aload_n hx hb dX7_valueOf_125 rfl (lv_at hl 0 rfl) ?_
                    obtain ⟨u5, hu5, hf⟩ := ob hf
                    refine zk_iA (va_runV (As := []) (rest := []) ⟨hx, hb, hml, hown, hts⟩ (c_X7_goal l g a v _ hu5 _) (zcV hw0 zm5_55 zm5_58 zm1_8 zm5_57 zs7_3 hd_X7_goal rfl rfl ⟨Nat.le_of_ble_eq_true rfl, Nat.le_of_ble_eq_true rfl⟩) ⟨zblind, zrecvA hK hP (ci := 7) rfl rfl, zpreA hK hP hD⟩ rfl rfl hl.1 rfl (lv_room (Nat.le_of_ble_eq_true rfl)) dX7_valueOf_126 ⟨Nat.zero_le _, Nat.zero_le _⟩) hP hD hS hA (fun H locs hP hD hS => ?_)
                    have hR : u5 = r := Option.some.inj hf
                    subst hR
                    exact W.iret (v := u5) hx hb hr0 (fun t ht hW => ⟨⟨u5, (), rfl, rfl, by rw [ht]; exact hP, hD⟩, hS.F ht⟩) hS.2.2 dX7_valueOf_129
                  · have hf := oe hf c17
                    by_cases c18 : p0 = 9
                    · have hf := oi hf c18
                      refine lv_tableIn (tgt := 130) hx hb dX7_valueOf_1 (off := 129) (by rw [c18]; decide) (by rw [c18]; decide) (by first | (rw [c18]; done) | (rw [c18]; rfl)) (by decide) ?_
                      refine lv_aload_n hx hb dX7_valueOf_130 rfl (lv_at hl 0 rfl) ?_
                      refine va_get (D := g.1) (ci := 7) (v := .ref (a 1)) (C := RX7) (T := TX7) (N := 11) hx hb hw0 ziX7 hown hK.1 hP 0 rfl rfl 0 (by decide) (hw0 _ zm4_71) (fun _ h9 => h9) rfl dX7_valueOf_131 ?_
                      refine lv_iconst (v := 1) hx hb dX7_valueOf_134 (by decide) ?_
                      refine zald (D := g.1) (f := v.1) (k := 1) hx hb hK.1 hP 1 0 rfl rfl (zin_vp (i := 1) (n := 220) rfl) rfl dX7_valueOf_135 ?_
                      refine lv_iconst (v := 1) hx hb dX7_valueOf_136 (by decide) ?_
                      refine lv_icmp_ne (tgt := 153) hx hb dX7_valueOf_137 (by decide) (fun c6 => ?_) (fun c6 => ?_)
                      · have hf := oe hf c6
                        refine lv_iconst (v := (-1)) hx hb dX7_valueOf_153 (by decide) ?_
                        have hR : (-1) = r := Option.some.inj hf
                        subst hR
                        exact W.iret (v := (-1)) hx hb hr0 (fun t ht hW => ⟨⟨(-1), (), rfl, rfl, by rw [ht]; exact hP, hD⟩, hS.F ht⟩) hS.2.2 dX7_valueOf_154
                      · have hf := oi hf c6
                        refine lv_aload_n hx hb dX7_valueOf_140 rfl (lv_at hl 0 rfl) ?_
                        refine va_get (D := g.1) (ci := 7) (v := .ref (a 1)) (C := RX7) (T := TX7) (N := 11) hx hb hw0 ziX7 hown hK.1 hP 0 rfl rfl 0 (by decide) (hw0 _ zm4_71) (fun _ h9 => h9) rfl dX7_valueOf_141 ?_
                        refine lv_iconst (v := 0) hx hb dX7_valueOf_144 (by decide) ?_
                        refine zald (D := g.1) (f := v.1) (k := 0) hx hb hK.1 hP 1 0 rfl rfl (zin_vp (i := 0) (n := 220) rfl) rfl dX7_valueOf_145 ?_
                        refine lv_sipush (v := 3600) hx hb dX7_valueOf_146 (by decide) ?_
                        refine lv_isub hx hb dX7_valueOf_149 ?_
                        refine lv_goto (tgt := 154) hx hb dX7_valueOf_150 (by decide) ?_
                        have hR : ((v.1 0) - 3600) = r := Option.some.inj hf
                        subst hR
                        exact W.iret (v := ((v.1 0) - 3600)) hx hb hr0 (fun t ht hW => ⟨⟨((v.1 0) - 3600), (), rfl, rfl, by rw [ht]; exact hP, hD⟩, hS.F ht⟩) hS.2.2 dX7_valueOf_154
                    · have hf := oe hf c18
                      by_cases c19 : p0 = 10
                      · have hf := oi hf c19
                        refine lv_tableIn (tgt := 155) hx hb dX7_valueOf_1 (off := 154) (by rw [c19]; decide) (by rw [c19]; decide) (by first | (rw [c19]; done) | (rw [c19]; rfl)) (by decide) ?_
                        refine lv_aload_n hx hb dX7_valueOf_155 rfl (lv_at hl 0 rfl) ?_
                        obtain ⟨u7, hu7, hf⟩ := ob hf
                        refine zk_iA (va_runV (As := []) (rest := []) ⟨hx, hb, hml, hown, hts⟩ (c_X7_greatest l g a v _ hu7 _) (zcV hw0 zm5_59 zm5_62 zm1_8 zm5_61 zs7_4 hd_X7_greatest rfl rfl ⟨Nat.le_of_ble_eq_true rfl, Nat.le_of_ble_eq_true rfl⟩) ⟨zblind, zrecvA hK hP (ci := 7) rfl rfl, zpreA hK hP hD⟩ rfl rfl hl.1 rfl (lv_room (Nat.le_of_ble_eq_true rfl)) dX7_valueOf_156 ⟨Nat.zero_le _, Nat.zero_le _⟩) hP hD hS hA (fun H locs hP hD hS => ?_)
                        have hR : u7 = r := Option.some.inj hf
                        subst hR
                        exact W.iret (v := u7) hx hb hr0 (fun t ht hW => ⟨⟨u7, (), rfl, rfl, by rw [ht]; exact hP, hD⟩, hS.F ht⟩) hS.2.2 dX7_valueOf_159
                      · have hf := oe hf c19
                        by_cases c20 : p0 = 11
                        · have hf := oi hf c20
                          refine lv_tableIn (tgt := 160) hx hb dX7_valueOf_1 (off := 159) (by rw [c20]; decide) (by rw [c20]; decide) (by first | (rw [c20]; done) | (rw [c20]; rfl)) (by decide) ?_
                          refine lv_aload_n hx hb dX7_valueOf_160 rfl (lv_at hl 0 rfl) ?_
                          refine va_get (D := g.1) (ci := 7) (v := .ref (a 1)) (C := RX7) (T := TX7) (N := 11) hx hb hw0 ziX7 hown hK.1 hP 0 rfl rfl 0 (by decide) (hw0 _ zm4_71) (fun _ h9 => h9) rfl dX7_valueOf_161 ?_
                          refine lv_bipush (v := 9) hx hb dX7_valueOf_164 (by decide) ?_
                          refine zald (D := g.1) (f := v.1) (k := 9) hx hb hK.1 hP 1 0 rfl rfl (zin_vp (i := 9) (n := 220) rfl) rfl dX7_valueOf_166 ?_
                          have hR : (v.1 9) = r := Option.some.inj hf
                          subst hR
                          exact W.iret (v := (v.1 9)) hx hb hr0 (fun t ht hW => ⟨⟨(v.1 9), (), rfl, rfl, by rw [ht]; exact hP, hD⟩, hS.F ht⟩) hS.2.2 dX7_valueOf_167
                        · have hf := oe hf c20
                          by_cases c21 : p0 = 12
                          · have hf := oi hf c21
                            refine lv_tableIn (tgt := 168) hx hb dX7_valueOf_1 (off := 167) (by rw [c21]; decide) (by rw [c21]; decide) (by first | (rw [c21]; done) | (rw [c21]; rfl)) (by decide) ?_
                            refine lv_aload_n hx hb dX7_valueOf_168 rfl (lv_at hl 0 rfl) ?_
                            refine va_get (D := g.1) (ci := 7) (v := .ref (a 1)) (C := RX7) (T := TX7) (N := 11) hx hb hw0 ziX7 hown hK.1 hP 0 rfl rfl 0 (by decide) (hw0 _ zm4_71) (fun _ h9 => h9) rfl dX7_valueOf_169 ?_
                            refine lv_bipush (v := 6) hx hb dX7_valueOf_172 (by decide) ?_
                            refine zald (D := g.1) (f := v.1) (k := 6) hx hb hK.1 hP 1 0 rfl rfl (zin_vp (i := 6) (n := 220) rfl) rfl dX7_valueOf_174 ?_
                            have hR : (v.1 6) = r := Option.some.inj hf
                            subst hR
                            exact W.iret (v := (v.1 6)) hx hb hr0 (fun t ht hW => ⟨⟨(v.1 6), (), rfl, rfl, by rw [ht]; exact hP, hD⟩, hS.F ht⟩) hS.2.2 dX7_valueOf_175
                          · have hf := oe hf c21
                            refine lv_tableOut (tgt := 176) hx hb dX7_valueOf_1 (zsw 12 (by decide) (fun k hk => by rcases (show k = 0 ∨ k = 1 ∨ k = 2 ∨ k = 3 ∨ k = 4 ∨ k = 5 ∨ k = 6 ∨ k = 7 ∨ k = 8 ∨ k = 9 ∨ k = 10 ∨ k = 11 ∨ k = 12 by omega) with rfl | rfl | rfl | rfl | rfl | rfl | rfl | rfl | rfl | rfl | rfl | rfl | rfl <;> assumption)) (by decide) ?_
                            refine lv_aload_n hx hb dX7_valueOf_176 rfl (lv_at hl 0 rfl) ?_
                            refine va_get (D := g.1) (ci := 7) (v := .ref (a 1)) (C := RX7) (T := TX7) (N := 11) hx hb hw0 ziX7 hown hK.1 hP 0 rfl rfl 0 (by decide) (hw0 _ zm4_71) (fun _ h9 => h9) rfl dX7_valueOf_177 ?_
                            refine lv_iconst (v := 2) hx hb dX7_valueOf_180 (by decide) ?_
                            refine zald (D := g.1) (f := v.1) (k := 2) hx hb hK.1 hP 1 0 rfl rfl (zin_vp (i := 2) (n := 220) rfl) rfl dX7_valueOf_181 ?_
                            refine lv_if_ne (tgt := 189) hx hb dX7_valueOf_182 (by decide) (fun c8 => ?_) (fun c8 => ?_)
                            · have hf := oe hf c8
                              refine lv_aload_n hx hb dX7_valueOf_189 rfl (lv_at hl 0 rfl) ?_
                              refine va_get (D := g.1) (ci := 7) (v := .ref (a 1)) (C := RX7) (T := TX7) (N := 11) hx hb hw0 ziX7 hown hK.1 hP 0 rfl rfl 0 (by decide) (hw0 _ zm4_71) (fun _ h9 => h9) rfl dX7_valueOf_190 ?_
                              refine lv_iconst (v := 4) hx hb dX7_valueOf_193 (by decide) ?_
                              refine zald (D := g.1) (f := v.1) (k := 4) hx hb hK.1 hP 1 0 rfl rfl (zin_vp (i := 4) (n := 220) rfl) rfl dX7_valueOf_194 ?_
                              refine lv_aload_n hx hb dX7_valueOf_195 rfl (lv_at hl 0 rfl) ?_
                              refine va_get (D := g.1) (ci := 7) (v := .ref (a 1)) (C := RX7) (T := TX7) (N := 11) hx hb hw0 ziX7 hown hK.1 hP 0 rfl rfl 0 (by decide) (hw0 _ zm4_71) (fun _ h9 => h9) rfl dX7_valueOf_196 ?_
                              refine lv_iconst (v := 0) hx hb dX7_valueOf_199 (by decide) ?_
                              refine zald (D := g.1) (f := v.1) (k := 0) hx hb hK.1 hP 1 0 rfl rfl (zin_vp (i := 0) (n := 220) rfl) rfl dX7_valueOf_200 ?_
                              refine lv_isub hx hb dX7_valueOf_201 ?_
                              have hR : ((v.1 4) - (v.1 0)) = r := Option.some.inj hf
                              subst hR
                              exact W.iret (v := ((v.1 4) - (v.1 0))) hx hb hr0 (fun t ht hW => ⟨⟨((v.1 4) - (v.1 0)), (), rfl, rfl, by rw [ht]; exact hP, hD⟩, hS.F ht⟩) hS.2.2 dX7_valueOf_202
                            · have hf := oi hf c8
                              refine lv_iconst (v := 0) hx hb dX7_valueOf_185 (by decide) ?_
                              refine lv_goto (tgt := 202) hx hb dX7_valueOf_186 (by decide) ?_
                              have hR : 0 = r := Option.some.inj hf
                              subst hR
                              exact W.iret (v := 0) hx hb hr0 (fun t ht hW => ⟨⟨0, (), rfl, rfl, by rw [ht]; exact hP, hD⟩, hS.F ht⟩) hS.2.2 dX7_valueOf_202
theorem hd_X7_value : yX7_value.cls ≠ "java/lang/invoke/MethodHandle" ∧ yX7_value.cls ≠ "java/lang/invoke/VarHandle" ∧ (parseMethodDescriptor yX7_value.desc).map (fun d => d.parameters.length) = some 1 := by decide +kernel
def f_X7_value (v : MV) (p0 : Int32) : Option (Int32 × MV) :=
  (f_X7_in p0 0 13).bind (fun u1 =>
  if (zb u1) = 0 then
    (f_X7_fails v 1).bind (fun u3 =>
    some (u3.1, u3.2))
  else
    (f_X7_valueOf v p0).bind (fun u4 =>
    (f_X7_tells v u4).bind (fun u5 =>
    some (u5.1, u5.2))))
set_option maxHeartbeats 4000000 in
set_option maxRecDepth 100000 in
theorem c_X7_value (l : Launch) (g : zG) (a : Nat → Nat) (v : MV) (p0 : Int32) (r : Int32 × MV) (hf : f_X7_value v p0 = some r) : zMi zNF zNM l yX7_value (zw yX7_value cX7_value 2 (some .int)) ({ frames := 5, cells := 0, slots := 0, locals := 107 } : Room) g [.ref (a 0), .int p0] (zX7 g a v) r.1 (zX7 g a r.2) := by
  intro sz
  refine Met.ofW (cc := cX7_value) (maxL := 2) (ret := (some .int)) (by decide) rfl ?_
  intro p e s m args below meth c s₁ B hml hv
  obtain ⟨rfl, hsz, hP, hK, hD0⟩ := hv
  have hx := B.exec
  have hb := B.bytes
  have hr0 := B.returns
  have hts := atoms_spec (ws := (zw yX7_value cX7_value 2 (some .int))) B.pre
  have hw0 : ∀ w ∈ zW, w.before ([.ref (a 0), .int p0] : List Value).toArray s = true := fun w h => hts w (List.mem_cons_of_mem _ h)
  have hown : s.vm.findClass RX7 = some m.cls := findClass_of_methodNamed B.named
  have hlocks := B.notSynchronized
  subst hsz
  have hD := hD0.self (sz := s.heap.size)
  generalize hAe : va_A (zX7 g a v) s.heap.size = A at hD ⊢
  have hA : ∀ q : Nat, s.heap.size ≤ q → A q := fun q h => by rw [← hAe]; exact Or.inr h
  have hS : va_S A s.heap s.heap [] := va_S.rf
  unfold f_X7_value at hf
  have hl := lv_entry ([.ref (a 0), .int p0]) (n := 2) (Nat.le_of_ble_eq_true rfl)
  rw [lg_entry_eq]
  generalize (lg_sl ([.ref (a 0), .int p0]) ++ List.replicate (2 - (lg_sl ([.ref (a 0), .int p0])).length) Slot.unset).toArray = ls at hl ⊢
  have hl : lv_has ls 2 [(0, .ref (a 0)), (1, .int p0)] := hl
  refine lv_iload_n hx hb dX7_value_0 rfl (lv_at hl 1 rfl) ?_
  refine lv_iconst (v := 0) hx hb dX7_value_1 (by decide) ?_
  refine lv_bipush (v := 13) hx hb dX7_value_2 (by decide) ?_
  obtain ⟨u1, hu1, hf⟩ := ob hf
  refine zk_iR (va_runS (As := [.int p0, .int 0, .int 13]) (rest := []) ⟨hx, hb, hml, hown, hts⟩ (c_X7_in l g p0 0 13 _ hu1 _) (zcS hw0 zm4_113 zm4_115 zm1_8 zm4_114 hd_X7_in rfl rfl ⟨Nat.le_of_ble_eq_true rfl, Nat.le_of_ble_eq_true rfl⟩) ⟨zblind, zpre hK hP hD [] rfl rfl⟩ rfl rfl hl.1 rfl (lv_room (Nat.le_of_ble_eq_true rfl)) dX7_value_4 ⟨Nat.zero_le _, Nat.zero_le _⟩) hP hD hS hA [] rfl (fun H locs hP hD hS => ?_)
  refine lv_if_eq (tgt := 22) hx hb dX7_value_7 (by decide) (fun c2 => ?_) (fun c2 => ?_)
  · have hf := oi hf c2
    refine lv_aload_n hx hb dX7_value_22 rfl (lv_at hl 0 rfl) ?_
    refine lv_iconst (v := 1) hx hb dX7_value_23 (by decide) ?_
    obtain ⟨u3, hu3, hf⟩ := ob hf
    refine zk_iA (va_runV (As := [.int 1]) (rest := []) ⟨hx, hb, hml, hown, hts⟩ (c_X7_fails l g a v 1 _ hu3 _) (zcV hw0 zm4_116 zm4_119 zm1_8 zm4_118 zs5_1 hd_X7_fails rfl rfl ⟨Nat.le_of_ble_eq_true rfl, Nat.le_of_ble_eq_true rfl⟩) ⟨zblind, zrecvA hK hP (ci := 7) rfl rfl, zpreA hK hP hD⟩ rfl rfl hl.1 rfl (lv_room (Nat.le_of_ble_eq_true rfl)) dX7_value_24 ⟨Nat.zero_le _, Nat.zero_le _⟩) hP hD hS hA (fun H locs hP hD hS => ?_)
    have hP : va_P g.1 vwCl (zX7 g a u3.2) H := hP
    have hD : va_D A (zX7 g a u3.2) := hD
    have hR : (u3.1, u3.2) = r := Option.some.inj hf
    subst hR
    exact W.iret (v := u3.1) hx hb hr0 (fun t ht hW => ⟨⟨u3.1, (), rfl, rfl, by rw [ht]; exact hP, hD⟩, hS.F ht⟩) hS.2.2 dX7_value_27
  · have hf := oe hf c2
    refine lv_aload_n hx hb dX7_value_10 rfl (lv_at hl 0 rfl) ?_
    refine lv_aload_n hx hb dX7_value_11 rfl (lv_at hl 0 rfl) ?_
    refine lv_iload_n hx hb dX7_value_12 rfl (lv_at hl 1 rfl) ?_
    obtain ⟨u4, hu4, hf⟩ := ob hf
    refine zk_iA (va_runV (As := [.int p0]) (rest := [.ref (a 0)]) ⟨hx, hb, hml, hown, hts⟩ (c_X7_valueOf l g a v p0 _ hu4 _) (zcV hw0 zm5_51 zm5_54 zm1_8 zm5_53 zs7_2 hd_X7_valueOf rfl rfl ⟨Nat.le_of_ble_eq_true rfl, Nat.le_of_ble_eq_true rfl⟩) ⟨zblind, zrecvA hK hP (ci := 7) rfl rfl, zpreA hK hP hD⟩ rfl rfl hl.1 rfl (lv_room (Nat.le_of_ble_eq_true rfl)) dX7_value_13 ⟨Nat.zero_le _, Nat.zero_le _⟩) hP hD hS hA (fun H locs hP hD hS => ?_)
    obtain ⟨u5, hu5, hf⟩ := ob hf
    refine zk_iA (va_runV (As := [.int u4]) (rest := []) ⟨hx, hb, hml, hown, hts⟩ (c_X7_tells l g a v u4 _ hu5 _) (zcV hw0 zm5_35 zm5_38 zm1_8 zm5_37 zs7_0 hd_X7_tells rfl rfl ⟨Nat.le_of_ble_eq_true rfl, Nat.le_of_ble_eq_true rfl⟩) ⟨zblind, zrecvA hK hP (ci := 7) rfl rfl, zpreA hK hP hD⟩ rfl rfl hl.1 rfl (lv_room (Nat.le_of_ble_eq_true rfl)) dX7_value_16 ⟨Nat.zero_le _, Nat.zero_le _⟩) hP hD hS hA (fun H locs hP hD hS => ?_)
    have hP : va_P g.1 vwCl (zX7 g a u5.2) H := hP
    have hD : va_D A (zX7 g a u5.2) := hD
    refine lv_goto (tgt := 27) hx hb dX7_value_19 (by decide) ?_
    have hR : (u5.1, u5.2) = r := Option.some.inj hf
    subst hR
    exact W.iret (v := u5.1) hx hb hr0 (fun t ht hW => ⟨⟨u5.1, (), rfl, rfl, by rw [ht]; exact hP, hD⟩, hS.F ht⟩) hS.2.2 dX7_value_27
theorem hd_X7_entry : yX7_entry.cls ≠ "java/lang/invoke/MethodHandle" ∧ yX7_entry.cls ≠ "java/lang/invoke/VarHandle" ∧ (parseMethodDescriptor yX7_entry.desc).map (fun d => d.parameters.length) = some 2 := by decide +kernel
def f_X7_entry (v : MV) (p0 : Int32) (p1 : Int32) : Option (Int32 × MV) :=
  if p0 < 0 then
    (f_X7_fails v 1).bind (fun u2 =>
    some (u2.1, u2.2))
  else
    if p0 < (v.1 9) then
      (f_X7_in p1 0 2).bind (fun u4 =>
      if (zb u4) = 0 then
        (f_X7_fails v 2).bind (fun u6 =>
        some (u6.1, u6.2))
      else
        if zin ((100 + (3 * p0)) + p1) 220 = true then
        (f_X7_tells v (v.1 ((100 + (3 * p0)) + p1).toNatClampNeg)).bind (fun u8 =>
        some (u8.1, u8.2))
        else none)
    else
      (f_X7_fails v 1).bind (fun u9 =>
      some (u9.1, u9.2))
set_option maxHeartbeats 4000000 in
set_option maxRecDepth 100000 in
theorem c_X7_entry (l : Launch) (g : zG) (a : Nat → Nat) (v : MV) (p0 : Int32) (p1 : Int32) (r : Int32 × MV) (hf : f_X7_entry v p0 p1 = some r) : zMi zNF zNM l yX7_entry (zw yX7_entry cX7_entry 3 (some .int)) ({ frames := 1, cells := 0, slots := 0, locals := 22 } : Room) g [.ref (a 0), .int p0, .int p1] (zX7 g a v) r.1 (zX7 g a r.2) := by
  intro sz
  refine Met.ofW (cc := cX7_entry) (maxL := 3) (ret := (some .int)) (by decide) rfl ?_
  intro p e s m args below meth c s₁ B hml hv
  obtain ⟨rfl, hsz, hP, hK, hD0⟩ := hv
  have hx := B.exec
  have hb := B.bytes
  have hr0 := B.returns
  have hts := atoms_spec (ws := (zw yX7_entry cX7_entry 3 (some .int))) B.pre
  have hw0 : ∀ w ∈ zW, w.before ([.ref (a 0), .int p0, .int p1] : List Value).toArray s = true := fun w h => hts w (List.mem_cons_of_mem _ h)
  have hown : s.vm.findClass RX7 = some m.cls := findClass_of_methodNamed B.named
  have hlocks := B.notSynchronized
  subst hsz
  have hD := hD0.self (sz := s.heap.size)
  generalize hAe : va_A (zX7 g a v) s.heap.size = A at hD ⊢
  have hA : ∀ q : Nat, s.heap.size ≤ q → A q := fun q h => by rw [← hAe]; exact Or.inr h
  have hS : va_S A s.heap s.heap [] := va_S.rf
  unfold f_X7_entry at hf
  have hl := lv_entry ([.ref (a 0), .int p0, .int p1]) (n := 3) (Nat.le_of_ble_eq_true rfl)
  rw [lg_entry_eq]
  generalize (lg_sl ([.ref (a 0), .int p0, .int p1]) ++ List.replicate (3 - (lg_sl ([.ref (a 0), .int p0, .int p1])).length) Slot.unset).toArray = ls at hl ⊢
  have hl : lv_has ls 3 [(0, .ref (a 0)), (1, .int p0), (2, .int p1)] := hl
  refine lv_iload_n hx hb dX7_entry_0 rfl (lv_at hl 1 rfl) ?_
  refine lv_if_lt (tgt := 15) hx hb dX7_entry_1 (by decide) (fun c1 => ?_) (fun c1 => ?_)
  · have hf := oi hf c1
    refine lv_aload_n hx hb dX7_entry_15 rfl (lv_at hl 0 rfl) ?_
    refine lv_iconst (v := 1) hx hb dX7_entry_16 (by decide) ?_
    obtain ⟨u2, hu2, hf⟩ := ob hf
    refine zk_iA (va_runV (As := [.int 1]) (rest := []) ⟨hx, hb, hml, hown, hts⟩ (c_X7_fails l g a v 1 _ hu2 _) (zcV hw0 zm4_116 zm4_119 zm1_8 zm4_118 zs5_1 hd_X7_fails rfl rfl ⟨Nat.le_of_ble_eq_true rfl, Nat.le_of_ble_eq_true rfl⟩) ⟨zblind, zrecvA hK hP (ci := 7) rfl rfl, zpreA hK hP hD⟩ rfl rfl hl.1 rfl (lv_room (Nat.le_of_ble_eq_true rfl)) dX7_entry_17 ⟨Nat.zero_le _, Nat.zero_le _⟩) hP hD hS hA (fun H locs hP hD hS => ?_)
    have hP : va_P g.1 vwCl (zX7 g a u2.2) H := hP
    have hD : va_D A (zX7 g a u2.2) := hD
    have hR : (u2.1, u2.2) = r := Option.some.inj hf
    subst hR
    exact W.iret (v := u2.1) hx hb hr0 (fun t ht hW => ⟨⟨u2.1, (), rfl, rfl, by rw [ht]; exact hP, hD⟩, hS.F ht⟩) hS.2.2 dX7_entry_20
  · have hf := oe hf c1
    refine lv_iload_n hx hb dX7_entry_4 rfl (lv_at hl 1 rfl) ?_
    refine lv_aload_n hx hb dX7_entry_5 rfl (lv_at hl 0 rfl) ?_
    refine va_get (D := g.1) (ci := 7) (v := .ref (a 1)) (C := RX7) (T := TX7) (N := 11) hx hb hw0 ziX7 hown hK.1 hP 0 rfl rfl 0 (by decide) (hw0 _ zm4_71) (fun _ h9 => h9) rfl dX7_entry_6 ?_
    refine lv_bipush (v := 9) hx hb dX7_entry_9 (by decide) ?_
    refine zald (D := g.1) (f := v.1) (k := 9) hx hb hK.1 hP 1 0 rfl rfl (zin_vp (i := 9) (n := 220) rfl) rfl dX7_entry_11 ?_
    refine lv_icmp_lt (tgt := 21) hx hb dX7_entry_12 (by decide) (fun c3 => ?_) (fun c3 => ?_)
    · have hf := oi hf c3
      refine lv_iload_n hx hb dX7_entry_21 rfl (lv_at hl 2 rfl) ?_
      refine lv_iconst (v := 0) hx hb dX7_entry_22 (by decide) ?_
      refine lv_iconst (v := 2) hx hb dX7_entry_23 (by decide) ?_
      obtain ⟨u4, hu4, hf⟩ := ob hf
      refine zk_iR (va_runS (As := [.int p1, .int 0, .int 2]) (rest := []) ⟨hx, hb, hml, hown, hts⟩ (c_X7_in l g p1 0 2 _ hu4 _) (zcS hw0 zm4_113 zm4_115 zm1_8 zm4_114 hd_X7_in rfl rfl ⟨Nat.le_of_ble_eq_true rfl, Nat.le_of_ble_eq_true rfl⟩) ⟨zblind, zpre hK hP hD [] rfl rfl⟩ rfl rfl hl.1 rfl (lv_room (Nat.le_of_ble_eq_true rfl)) dX7_entry_24 ⟨Nat.zero_le _, Nat.zero_le _⟩) hP hD hS hA [] rfl (fun H locs hP hD hS => ?_)
      refine lv_if_eq (tgt := 50) hx hb dX7_entry_27 (by decide) (fun c5 => ?_) (fun c5 => ?_)
      · have hf := oi hf c5
        refine lv_aload_n hx hb dX7_entry_50 rfl (lv_at hl 0 rfl) ?_
        refine lv_iconst (v := 2) hx hb dX7_entry_51 (by decide) ?_
        obtain ⟨u6, hu6, hf⟩ := ob hf
        refine zk_iA (va_runV (As := [.int 2]) (rest := []) ⟨hx, hb, hml, hown, hts⟩ (c_X7_fails l g a v 2 _ hu6 _) (zcV hw0 zm4_116 zm4_119 zm1_8 zm4_118 zs5_1 hd_X7_fails rfl rfl ⟨Nat.le_of_ble_eq_true rfl, Nat.le_of_ble_eq_true rfl⟩) ⟨zblind, zrecvA hK hP (ci := 7) rfl rfl, zpreA hK hP hD⟩ rfl rfl hl.1 rfl (lv_room (Nat.le_of_ble_eq_true rfl)) dX7_entry_52 ⟨Nat.zero_le _, Nat.zero_le _⟩) hP hD hS hA (fun H locs hP hD hS => ?_)
        have hP : va_P g.1 vwCl (zX7 g a u6.2) H := hP
        have hD : va_D A (zX7 g a u6.2) := hD
        have hR : (u6.1, u6.2) = r := Option.some.inj hf
        subst hR
        exact W.iret (v := u6.1) hx hb hr0 (fun t ht hW => ⟨⟨u6.1, (), rfl, rfl, by rw [ht]; exact hP, hD⟩, hS.F ht⟩) hS.2.2 dX7_entry_55
      · have hf := oe hf c5
        refine lv_aload_n hx hb dX7_entry_30 rfl (lv_at hl 0 rfl) ?_
        refine lv_aload_n hx hb dX7_entry_31 rfl (lv_at hl 0 rfl) ?_
        refine va_get (D := g.1) (ci := 7) (v := .ref (a 1)) (C := RX7) (T := TX7) (N := 11) hx hb hw0 ziX7 hown hK.1 hP 0 rfl rfl 0 (by decide) (hw0 _ zm4_71) (fun _ h9 => h9) rfl dX7_entry_32 ?_
        refine lv_bipush (v := 100) hx hb dX7_entry_35 (by decide) ?_
        refine lv_iconst (v := 3) hx hb dX7_entry_37 (by decide) ?_
        refine lv_iload_n hx hb dX7_entry_38 rfl (lv_at hl 1 rfl) ?_
        refine lv_imul hx hb dX7_entry_39 ?_
        refine lv_iadd hx hb dX7_entry_40 ?_
        refine lv_iload_n hx hb dX7_entry_41 rfl (lv_at hl 2 rfl) ?_
        refine lv_iadd hx hb dX7_entry_42 ?_
        obtain ⟨h7, hf⟩ := og hf
        refine zald (D := g.1) (f := v.1) (k := ((100 + (3 * p0)) + p1).toNatClampNeg) hx hb hK.1 hP 1 0 rfl rfl (zin_vp h7) rfl dX7_entry_43 ?_
        obtain ⟨u8, hu8, hf⟩ := ob hf
        refine zk_iA (va_runV (As := [.int (v.1 ((100 + (3 * p0)) + p1).toNatClampNeg)]) (rest := []) ⟨hx, hb, hml, hown, hts⟩ (c_X7_tells l g a v (v.1 ((100 + (3 * p0)) + p1).toNatClampNeg) _ hu8 _) (zcV hw0 zm5_35 zm5_38 zm1_8 zm5_37 zs7_0 hd_X7_tells rfl rfl ⟨Nat.le_of_ble_eq_true rfl, Nat.le_of_ble_eq_true rfl⟩) ⟨zblind, zrecvA hK hP (ci := 7) rfl rfl, zpreA hK hP hD⟩ rfl rfl hl.1 rfl (lv_room (Nat.le_of_ble_eq_true rfl)) dX7_entry_44 ⟨Nat.zero_le _, Nat.zero_le _⟩) hP hD hS hA (fun H locs hP hD hS => ?_)
        have hP : va_P g.1 vwCl (zX7 g a u8.2) H := hP
        have hD : va_D A (zX7 g a u8.2) := hD
        refine lv_goto (tgt := 55) hx hb dX7_entry_47 (by decide) ?_
        have hR : (u8.1, u8.2) = r := Option.some.inj hf
        subst hR
        exact W.iret (v := u8.1) hx hb hr0 (fun t ht hW => ⟨⟨u8.1, (), rfl, rfl, by rw [ht]; exact hP, hD⟩, hS.F ht⟩) hS.2.2 dX7_entry_55
    · have hf := oe hf c3
      refine lv_aload_n hx hb dX7_entry_15 rfl (lv_at hl 0 rfl) ?_
      refine lv_iconst (v := 1) hx hb dX7_entry_16 (by decide) ?_
      obtain ⟨u9, hu9, hf⟩ := ob hf
      refine zk_iA (va_runV (As := [.int 1]) (rest := []) ⟨hx, hb, hml, hown, hts⟩ (c_X7_fails l g a v 1 _ hu9 _) (zcV hw0 zm4_116 zm4_119 zm1_8 zm4_118 zs5_1 hd_X7_fails rfl rfl ⟨Nat.le_of_ble_eq_true rfl, Nat.le_of_ble_eq_true rfl⟩) ⟨zblind, zrecvA hK hP (ci := 7) rfl rfl, zpreA hK hP hD⟩ rfl rfl hl.1 rfl (lv_room (Nat.le_of_ble_eq_true rfl)) dX7_entry_17 ⟨Nat.zero_le _, Nat.zero_le _⟩) hP hD hS hA (fun H locs hP hD hS => ?_)
      have hP : va_P g.1 vwCl (zX7 g a u9.2) H := hP
      have hD : va_D A (zX7 g a u9.2) := hD
      have hR : (u9.1, u9.2) = r := Option.some.inj hf
      subst hR
      exact W.iret (v := u9.1) hx hb hr0 (fun t ht hW => ⟨⟨u9.1, (), rfl, rfl, by rw [ht]; exact hP, hD⟩, hS.F ht⟩) hS.2.2 dX7_entry_20
theorem hd_X7_backOf : yX7_backOf.cls ≠ "java/lang/invoke/MethodHandle" ∧ yX7_backOf.cls ≠ "java/lang/invoke/VarHandle" ∧ (parseMethodDescriptor yX7_backOf.desc).map (fun d => d.parameters.length) = some 1 := by decide +kernel
def s_X7_backOf_25 (v : MV) (i2 : Int32) (x : Int32 × Int32) : Option ((Int32 × Int32) ⊕ (Int32 × Int32)) :=
  if i2 ≤ x.2 then
    some (.inr (x.1, x.2))
  else
    (f_X7_waits v x.2).bind (fun u5 =>
    if (zb u5) = 0 then
      some (.inl ((x.1 + 0), (x.2 + 1)))
    else
      (f_X7_of v x.2 0).bind (fun u7 =>
      some (.inl ((x.1 + u7), (x.2 + 1)))))
def f_X7_backOf (v : MV) (p0 : Int32) : Option (Int32) :=
  (f_X7_waits v p0).bind (fun u1 =>
  if (zb u1) = 0 then
    some (-10000)
  else
    (f_X7_nextFixed v (p0 + 1)).bind (fun u3 =>
    (zloop (s_X7_backOf_25 v u3) 4096 (0, p0)).bind (fun u8 =>
    (f_X7_timeAt v u3).bind (fun u9 =>
    some (u9 - u8.1)))))
set_option maxHeartbeats 4000000 in
set_option maxRecDepth 100000 in
theorem c_X7_backOf (l : Launch) (g : zG) (a : Nat → Nat) (v : MV) (p0 : Int32) (r : Int32) (hf : f_X7_backOf v p0 = some r) : zMi zNF zNM l yX7_backOf (zw yX7_backOf cX7_backOf 5 (some .int)) ({ frames := 3, cells := 0, slots := 0, locals := 65 } : Room) g [.ref (a 0), .int p0] (zX7 g a v) r (zX7 g a v) := by
  intro sz
  refine Met.ofW (cc := cX7_backOf) (maxL := 5) (ret := (some .int)) (by decide) rfl ?_
  intro p e s m args below meth c s₁ B hml hv
  obtain ⟨rfl, hsz, hP, hK, hD0⟩ := hv
  have hx := B.exec
  have hb := B.bytes
  have hr0 := B.returns
  have hts := atoms_spec (ws := (zw yX7_backOf cX7_backOf 5 (some .int))) B.pre
  have hw0 : ∀ w ∈ zW, w.before ([.ref (a 0), .int p0] : List Value).toArray s = true := fun w h => hts w (List.mem_cons_of_mem _ h)
  have hown : s.vm.findClass RX7 = some m.cls := findClass_of_methodNamed B.named
  have hlocks := B.notSynchronized
  subst hsz
  have hD := hD0.self (sz := s.heap.size)
  generalize hAe : va_A (zX7 g a v) s.heap.size = A at hD ⊢
  have hA : ∀ q : Nat, s.heap.size ≤ q → A q := fun q h => by rw [← hAe]; exact Or.inr h
  have hS : va_S A s.heap s.heap [] := va_S.rf
  have lp25 : ∀ (v : MV) (i2 : Int32), ∀ (n : Nat) (x : Int32 × Int32) (rr : Int32 × Int32), zloop (s_X7_backOf_25 v i2) n x = some rr → (∀ (H : Heap) (locs : List Loc), va_P g.1 vwCl (zX7 g a v) H → va_D A (zX7 g a v) → va_S A s.heap H locs → ∀ ls : Array Slot, lv_has ls 5 [(0, .ref (a 0)), (2, .int i2), (3, .int rr.1)] → W p l e (headSpec (zw yX7_backOf cX7_backOf 5 (some .int)) ({ frames := 3, cells := 0, slots := 0, locals := 65 } : Room)).room s m ([.ref (a 0), .int p0] : List Value).toArray below meth c H locs 0 0 (MQ below (va_Qi (fun (x : Int32) (_ : Unit) => x = r) (fun _ => zEnd g A (zX7 g a v)) A) ([.ref (a 0), .int p0] : List Value).toArray s 0 0 A) (F0 m 60 ls [])) → ∀ (H : Heap) (locs : List Loc), va_P g.1 vwCl (zX7 g a v) H → va_D A (zX7 g a v) → va_S A s.heap H locs → ∀ ls : Array Slot, lv_has ls 5 [(0, .ref (a 0)), (2, .int i2), (3, .int x.1), (4, .int x.2)] → W p l e (headSpec (zw yX7_backOf cX7_backOf 5 (some .int)) ({ frames := 3, cells := 0, slots := 0, locals := 65 } : Room)).room s m ([.ref (a 0), .int p0] : List Value).toArray below meth c H locs 0 0 (MQ below (va_Qi (fun (x : Int32) (_ : Unit) => x = r) (fun _ => zEnd g A (zX7 g a v)) A) ([.ref (a 0), .int p0] : List Value).toArray s 0 0 A) (F0 m 25 ls []) := by
    intro v i2
    refine zloop_ind ?_
    intro x y rr hf ih hr hQ H locs hP hD hS ls hl
    unfold s_X7_backOf_25 at hf
    refine lv_iload hx hb dX7_backOf_25 (lv_at hl 3 rfl) ?_
    refine lv_iload_n hx hb dX7_backOf_27 rfl (lv_at hl 1 rfl) ?_
    refine lv_icmp_ge (tgt := 60) hx hb dX7_backOf_28 (by decide) (fun c4 => ?_) (fun c4 => ?_)
    · have hf := oi hf c4
      have hR : (x.1, x.2) = rr := hr _ (Option.some.inj hf).symm
      subst hR
      exact hQ _ _ hP hD hS _ (lv_sub hl [0, 1, 2] rfl)
    · have hf := oe hf c4
      refine lv_iload_n hx hb dX7_backOf_31 rfl (lv_at hl 2 rfl) ?_
      refine lv_aload_n hx hb dX7_backOf_32 rfl (lv_at hl 0 rfl) ?_
      refine lv_iload hx hb dX7_backOf_33 (lv_at hl 3 rfl) ?_
      obtain ⟨u5, hu5, hf⟩ := ob hf
      refine zk_iA (va_runV (As := [.int x.2]) (rest := [.int x.1]) ⟨hx, hb, hml, hown, hts⟩ (c_X7_waits l g a v x.2 _ hu5 _) (zcV hw0 zm4_160 zm4_163 zm1_8 zm4_162 zs5_9 hd_X7_waits rfl rfl ⟨Nat.le_of_ble_eq_true rfl, Nat.le_of_ble_eq_true rfl⟩) ⟨zblind, zrecvA hK hP (ci := 7) rfl rfl, zpreA hK hP hD⟩ rfl rfl hl.1 rfl (lv_room (Nat.le_of_ble_eq_true rfl)) dX7_backOf_35 ⟨Nat.zero_le _, Nat.zero_le _⟩) hP hD hS hA (fun H locs hP hD hS => ?_)
      refine lv_if_eq (tgt := 51) hx hb dX7_backOf_38 (by decide) (fun c6 => ?_) (fun c6 => ?_)
      · have hf := oi hf c6
        refine lv_iconst (v := 0) hx hb dX7_backOf_51 (by decide) ?_
        refine lv_iadd hx hb dX7_backOf_52 ?_
        refine lv_istore_n (lv' := [(3, .int (x.1 + 0)), (0, .ref (a 0)), (2, .int i2), (4, .int x.2)]) hx hb dX7_backOf_53 rfl hl (by decide) rfl (fun ls hl => ?_)
        refine lv_iinc (v := (x.2 + 1)) (lv' := [(4, .int (x.2 + 1)), (3, .int (x.1 + 0)), (0, .ref (a 0)), (2, .int i2)]) hx hb dX7_backOf_54 hl (k := 3) rfl rfl (by decide) rfl (fun ls hl => ?_)
        refine lv_goto (tgt := 25) hx hb dX7_backOf_57 (by decide) ?_
        exact ih ((x.1 + 0), (x.2 + 1)) (Option.some.inj hf).symm hQ _ _ hP hD hS _ (lv_sub hl [2, 3, 1, 0] rfl)
      · have hf := oe hf c6
        refine lv_aload_n hx hb dX7_backOf_41 rfl (lv_at hl 0 rfl) ?_
        refine lv_iload hx hb dX7_backOf_42 (lv_at hl 3 rfl) ?_
        refine lv_iconst (v := 0) hx hb dX7_backOf_44 (by decide) ?_
        obtain ⟨u7, hu7, hf⟩ := ob hf
        refine zk_iA (va_runV (As := [.int x.2, .int 0]) (rest := [.int x.1]) ⟨hx, hb, hml, hown, hts⟩ (c_X7_of l g a v x.2 0 _ hu7 _) (zcV hw0 zm4_144 zm4_147 zm1_8 zm4_146 zs5_6 hd_X7_of rfl rfl ⟨Nat.le_of_ble_eq_true rfl, Nat.le_of_ble_eq_true rfl⟩) ⟨zblind, zrecvA hK hP (ci := 7) rfl rfl, zpreA hK hP hD⟩ rfl rfl hl.1 rfl (lv_room (Nat.le_of_ble_eq_true rfl)) dX7_backOf_45 ⟨Nat.zero_le _, Nat.zero_le _⟩) hP hD hS hA (fun H locs hP hD hS => ?_)
        refine lv_goto (tgt := 52) hx hb dX7_backOf_48 (by decide) ?_
        refine lv_iadd hx hb dX7_backOf_52 ?_
        refine lv_istore_n (lv' := [(3, .int (x.1 + u7)), (0, .ref (a 0)), (2, .int i2), (4, .int x.2)]) hx hb dX7_backOf_53 rfl hl (by decide) rfl (fun ls hl => ?_)
        refine lv_iinc (v := (x.2 + 1)) (lv' := [(4, .int (x.2 + 1)), (3, .int (x.1 + u7)), (0, .ref (a 0)), (2, .int i2)]) hx hb dX7_backOf_54 hl (k := 3) rfl rfl (by decide) rfl (fun ls hl => ?_)
        refine lv_goto (tgt := 25) hx hb dX7_backOf_57 (by decide) ?_
        exact ih ((x.1 + u7), (x.2 + 1)) (Option.some.inj hf).symm hQ _ _ hP hD hS _ (lv_sub hl [2, 3, 1, 0] rfl)
  unfold f_X7_backOf at hf
  have hl := lv_entry ([.ref (a 0), .int p0]) (n := 5) (Nat.le_of_ble_eq_true rfl)
  rw [lg_entry_eq]
  generalize (lg_sl ([.ref (a 0), .int p0]) ++ List.replicate (5 - (lg_sl ([.ref (a 0), .int p0])).length) Slot.unset).toArray = ls at hl ⊢
  have hl : lv_has ls 5 [(0, .ref (a 0)), (1, .int p0)] := hl
  refine lv_aload_n hx hb dX7_backOf_0 rfl (lv_at hl 0 rfl) ?_
  refine lv_iload_n hx hb dX7_backOf_1 rfl (lv_at hl 1 rfl) ?_
  obtain ⟨u1, hu1, hf⟩ := ob hf
  refine zk_iA (va_runV (As := [.int p0]) (rest := []) ⟨hx, hb, hml, hown, hts⟩ (c_X7_waits l g a v p0 _ hu1 _) (zcV hw0 zm4_160 zm4_163 zm1_8 zm4_162 zs5_9 hd_X7_waits rfl rfl ⟨Nat.le_of_ble_eq_true rfl, Nat.le_of_ble_eq_true rfl⟩) ⟨zblind, zrecvA hK hP (ci := 7) rfl rfl, zpreA hK hP hD⟩ rfl rfl hl.1 rfl (lv_room (Nat.le_of_ble_eq_true rfl)) dX7_backOf_2 ⟨Nat.zero_le _, Nat.zero_le _⟩) hP hD hS hA (fun H locs hP hD hS => ?_)
  refine lv_if_ne (tgt := 12) hx hb dX7_backOf_5 (by decide) (fun c2 => ?_) (fun c2 => ?_)
  · have hf := oe hf c2
    refine lv_aload_n hx hb dX7_backOf_12 rfl (lv_at hl 0 rfl) ?_
    refine lv_iload_n hx hb dX7_backOf_13 rfl (lv_at hl 1 rfl) ?_
    refine lv_iconst (v := 1) hx hb dX7_backOf_14 (by decide) ?_
    refine lv_iadd hx hb dX7_backOf_15 ?_
    obtain ⟨u3, hu3, hf⟩ := ob hf
    refine zk_iA (va_runV (As := [.int (p0 + 1)]) (rest := []) ⟨hx, hb, hml, hown, hts⟩ (c_X7_nextFixed l g a v (p0 + 1) _ hu3 _) (zcV hw0 zm4_188 zm4_191 zm1_8 zm4_190 zs5_15 hd_X7_nextFixed rfl rfl ⟨Nat.le_of_ble_eq_true rfl, Nat.le_of_ble_eq_true rfl⟩) ⟨zblind, zrecvA hK hP (ci := 7) rfl rfl, zpreA hK hP hD⟩ rfl rfl hl.1 rfl (lv_room (Nat.le_of_ble_eq_true rfl)) dX7_backOf_16 ⟨Nat.zero_le _, Nat.zero_le _⟩) hP hD hS hA (fun H locs hP hD hS => ?_)
    refine lv_istore_n (lv' := [(2, .int u3), (0, .ref (a 0)), (1, .int p0)]) hx hb dX7_backOf_19 rfl hl (by decide) rfl (fun ls hl => ?_)
    refine lv_iconst (v := 0) hx hb dX7_backOf_20 (by decide) ?_
    refine lv_istore_n (lv' := [(3, .int 0), (2, .int u3), (0, .ref (a 0)), (1, .int p0)]) hx hb dX7_backOf_21 rfl hl (by decide) rfl (fun ls hl => ?_)
    refine lv_iload_n hx hb dX7_backOf_22 rfl (lv_at hl 3 rfl) ?_
    refine lv_istore (lv' := [(4, .int p0), (3, .int 0), (2, .int u3), (0, .ref (a 0)), (1, .int p0)]) hx hb dX7_backOf_23 hl (by decide) rfl (fun ls hl => ?_)
    obtain ⟨u8, hu8, hf⟩ := ob hf
    refine lp25 v u3 _ _ u8 hu8 (fun H locs hP hD hS ls hl => ?_) _ _ hP hD hS _ (lv_sub hl [3, 2, 1, 0] rfl)
    have hl : lv_has ls 5 [(0, .ref (a 0)), (2, .int u3), (3, .int u8.1)] := hl
    have hP : va_P g.1 vwCl (zX7 g a v) H := hP
    have hD : va_D A (zX7 g a v) := hD
    refine lv_aload_n hx hb dX7_backOf_60 rfl (lv_at hl 0 rfl) ?_
    refine lv_iload_n hx hb dX7_backOf_61 rfl (lv_at hl 1 rfl) ?_
    obtain ⟨u9, hu9, hf⟩ := ob hf
    refine zk_iA (va_runV (As := [.int u3]) (rest := []) ⟨hx, hb, hml, hown, hts⟩ (c_X7_timeAt l g a v u3 _ hu9 _) (zcV hw0 zm4_196 zm4_199 zm1_8 zm4_198 zs6_1 hd_X7_timeAt rfl rfl ⟨Nat.le_of_ble_eq_true rfl, Nat.le_of_ble_eq_true rfl⟩) ⟨zblind, zrecvA hK hP (ci := 7) rfl rfl, zpreA hK hP hD⟩ rfl rfl hl.1 rfl (lv_room (Nat.le_of_ble_eq_true rfl)) dX7_backOf_62 ⟨Nat.zero_le _, Nat.zero_le _⟩) hP hD hS hA (fun H locs hP hD hS => ?_)
    refine lv_iload_n hx hb dX7_backOf_65 rfl (lv_at hl 2 rfl) ?_
    refine lv_isub hx hb dX7_backOf_66 ?_
    have hR : (u9 - u8.1) = r := Option.some.inj hf
    subst hR
    exact W.iret (v := (u9 - u8.1)) hx hb hr0 (fun t ht hW => ⟨⟨(u9 - u8.1), (), rfl, rfl, by rw [ht]; exact hP, hD⟩, hS.F ht⟩) hS.2.2 dX7_backOf_67
  · have hf := oi hf c2
    refine lv_sipush (v := (-10000)) hx hb dX7_backOf_8 (by decide) ?_
    have hR : (-10000) = r := Option.some.inj hf
    subst hR
    exact W.iret (v := (-10000)) hx hb hr0 (fun t ht hW => ⟨⟨(-10000), (), rfl, rfl, by rw [ht]; exact hP, hD⟩, hS.F ht⟩) hS.2.2 dX7_backOf_11
theorem hd_X7_backTime : yX7_backTime.cls ≠ "java/lang/invoke/MethodHandle" ∧ yX7_backTime.cls ≠ "java/lang/invoke/VarHandle" ∧ (parseMethodDescriptor yX7_backTime.desc).map (fun d => d.parameters.length) = some 1 := by decide +kernel
def f_X7_backTime (v : MV) (p0 : Int32) : Option (Int32 × MV) :=
  (f_X7_isElement v p0).bind (fun u1 =>
  if (zb u1) = 0 then
    (f_X7_fails v 1).bind (fun u3 =>
    some (u3.1, u3.2))
  else
    (f_X7_backOf v p0).bind (fun u4 =>
    (f_X7_tells v u4).bind (fun u5 =>
    some (u5.1, u5.2))))
set_option maxHeartbeats 4000000 in
set_option maxRecDepth 100000 in
theorem c_X7_backTime (l : Launch) (g : zG) (a : Nat → Nat) (v : MV) (p0 : Int32) (r : Int32 × MV) (hf : f_X7_backTime v p0 = some r) : zMi zNF zNM l yX7_backTime (zw yX7_backTime cX7_backTime 2 (some .int)) ({ frames := 4, cells := 0, slots := 0, locals := 89 } : Room) g [.ref (a 0), .int p0] (zX7 g a v) r.1 (zX7 g a r.2) := by
  intro sz
  refine Met.ofW (cc := cX7_backTime) (maxL := 2) (ret := (some .int)) (by decide) rfl ?_
  intro p e s m args below meth c s₁ B hml hv
  obtain ⟨rfl, hsz, hP, hK, hD0⟩ := hv
  have hx := B.exec
  have hb := B.bytes
  have hr0 := B.returns
  have hts := atoms_spec (ws := (zw yX7_backTime cX7_backTime 2 (some .int))) B.pre
  have hw0 : ∀ w ∈ zW, w.before ([.ref (a 0), .int p0] : List Value).toArray s = true := fun w h => hts w (List.mem_cons_of_mem _ h)
  have hown : s.vm.findClass RX7 = some m.cls := findClass_of_methodNamed B.named
  have hlocks := B.notSynchronized
  subst hsz
  have hD := hD0.self (sz := s.heap.size)
  generalize hAe : va_A (zX7 g a v) s.heap.size = A at hD ⊢
  have hA : ∀ q : Nat, s.heap.size ≤ q → A q := fun q h => by rw [← hAe]; exact Or.inr h
  have hS : va_S A s.heap s.heap [] := va_S.rf
  unfold f_X7_backTime at hf
  have hl := lv_entry ([.ref (a 0), .int p0]) (n := 2) (Nat.le_of_ble_eq_true rfl)
  rw [lg_entry_eq]
  generalize (lg_sl ([.ref (a 0), .int p0]) ++ List.replicate (2 - (lg_sl ([.ref (a 0), .int p0])).length) Slot.unset).toArray = ls at hl ⊢
  have hl : lv_has ls 2 [(0, .ref (a 0)), (1, .int p0)] := hl
  refine lv_aload_n hx hb dX7_backTime_0 rfl (lv_at hl 0 rfl) ?_
  refine lv_iload_n hx hb dX7_backTime_1 rfl (lv_at hl 1 rfl) ?_
  obtain ⟨u1, hu1, hf⟩ := ob hf
  refine zk_iA (va_runV (As := [.int p0]) (rest := []) ⟨hx, hb, hml, hown, hts⟩ (c_X7_isElement l g a v p0 _ hu1 _) (zcV hw0 zm4_140 zm4_143 zm1_8 zm4_142 zs5_5 hd_X7_isElement rfl rfl ⟨Nat.le_of_ble_eq_true rfl, Nat.le_of_ble_eq_true rfl⟩) ⟨zblind, zrecvA hK hP (ci := 7) rfl rfl, zpreA hK hP hD⟩ rfl rfl hl.1 rfl (lv_room (Nat.le_of_ble_eq_true rfl)) dX7_backTime_2 ⟨Nat.zero_le _, Nat.zero_le _⟩) hP hD hS hA (fun H locs hP hD hS => ?_)
  refine lv_if_eq (tgt := 20) hx hb dX7_backTime_5 (by decide) (fun c2 => ?_) (fun c2 => ?_)
  · have hf := oi hf c2
    refine lv_aload_n hx hb dX7_backTime_20 rfl (lv_at hl 0 rfl) ?_
    refine lv_iconst (v := 1) hx hb dX7_backTime_21 (by decide) ?_
    obtain ⟨u3, hu3, hf⟩ := ob hf
    refine zk_iA (va_runV (As := [.int 1]) (rest := []) ⟨hx, hb, hml, hown, hts⟩ (c_X7_fails l g a v 1 _ hu3 _) (zcV hw0 zm4_116 zm4_119 zm1_8 zm4_118 zs5_1 hd_X7_fails rfl rfl ⟨Nat.le_of_ble_eq_true rfl, Nat.le_of_ble_eq_true rfl⟩) ⟨zblind, zrecvA hK hP (ci := 7) rfl rfl, zpreA hK hP hD⟩ rfl rfl hl.1 rfl (lv_room (Nat.le_of_ble_eq_true rfl)) dX7_backTime_22 ⟨Nat.zero_le _, Nat.zero_le _⟩) hP hD hS hA (fun H locs hP hD hS => ?_)
    have hP : va_P g.1 vwCl (zX7 g a u3.2) H := hP
    have hD : va_D A (zX7 g a u3.2) := hD
    have hR : (u3.1, u3.2) = r := Option.some.inj hf
    subst hR
    exact W.iret (v := u3.1) hx hb hr0 (fun t ht hW => ⟨⟨u3.1, (), rfl, rfl, by rw [ht]; exact hP, hD⟩, hS.F ht⟩) hS.2.2 dX7_backTime_25
  · have hf := oe hf c2
    refine lv_aload_n hx hb dX7_backTime_8 rfl (lv_at hl 0 rfl) ?_
    refine lv_aload_n hx hb dX7_backTime_9 rfl (lv_at hl 0 rfl) ?_
    refine lv_iload_n hx hb dX7_backTime_10 rfl (lv_at hl 1 rfl) ?_
    obtain ⟨u4, hu4, hf⟩ := ob hf
    refine zk_iA (va_runV (As := [.int p0]) (rest := [.ref (a 0)]) ⟨hx, hb, hml, hown, hts⟩ (c_X7_backOf l g a v p0 _ hu4 _) (zcV hw0 zm5_71 zm5_74 zm1_8 zm5_73 zs7_5 hd_X7_backOf rfl rfl ⟨Nat.le_of_ble_eq_true rfl, Nat.le_of_ble_eq_true rfl⟩) ⟨zblind, zrecvA hK hP (ci := 7) rfl rfl, zpreA hK hP hD⟩ rfl rfl hl.1 rfl (lv_room (Nat.le_of_ble_eq_true rfl)) dX7_backTime_11 ⟨Nat.zero_le _, Nat.zero_le _⟩) hP hD hS hA (fun H locs hP hD hS => ?_)
    obtain ⟨u5, hu5, hf⟩ := ob hf
    refine zk_iA (va_runV (As := [.int u4]) (rest := []) ⟨hx, hb, hml, hown, hts⟩ (c_X7_tells l g a v u4 _ hu5 _) (zcV hw0 zm5_35 zm5_38 zm1_8 zm5_37 zs7_0 hd_X7_tells rfl rfl ⟨Nat.le_of_ble_eq_true rfl, Nat.le_of_ble_eq_true rfl⟩) ⟨zblind, zrecvA hK hP (ci := 7) rfl rfl, zpreA hK hP hD⟩ rfl rfl hl.1 rfl (lv_room (Nat.le_of_ble_eq_true rfl)) dX7_backTime_14 ⟨Nat.zero_le _, Nat.zero_le _⟩) hP hD hS hA (fun H locs hP hD hS => ?_)
    have hP : va_P g.1 vwCl (zX7 g a u5.2) H := hP
    have hD : va_D A (zX7 g a u5.2) := hD
    refine lv_goto (tgt := 25) hx hb dX7_backTime_17 (by decide) ?_
    have hR : (u5.1, u5.2) = r := Option.some.inj hf
    subst hR
    exact W.iret (v := u5.1) hx hb hr0 (fun t ht hW => ⟨⟨u5.1, (), rfl, rfl, by rw [ht]; exact hP, hD⟩, hS.F ht⟩) hS.2.2 dX7_backTime_25
theorem hd_X7_beginOf : yX7_beginOf.cls ≠ "java/lang/invoke/MethodHandle" ∧ yX7_beginOf.cls ≠ "java/lang/invoke/VarHandle" ∧ (parseMethodDescriptor yX7_beginOf.desc).map (fun d => d.parameters.length) = some 1 := by decide +kernel
def f_X7_beginOf (v : MV) (p0 : Int32) : Option (Int32 × MV) :=
  (f_X7_isElement v p0).bind (fun u1 =>
  if (zb u1) = 0 then
    (f_X7_fails v 1).bind (fun u6 =>
    some (u6.1, u6.2))
  else
    (f_X7_foresees v).bind (fun u3 =>
    if zin ((10 + (5 * p0)) + 4) 220 = true then
    (f_X7_tells u3 (u3.2.2.2.1 ((10 + (5 * p0)) + 4).toNatClampNeg)).bind (fun u5 =>
    some (u5.1, u5.2))
    else none))
set_option maxHeartbeats 4000000 in
set_option maxRecDepth 100000 in
theorem c_X7_beginOf (l : Launch) (g : zG) (a : Nat → Nat) (v : MV) (p0 : Int32) (r : Int32 × MV) (hf : f_X7_beginOf v p0 = some r) : zMi zNF zNM l yX7_beginOf (zw yX7_beginOf cX7_beginOf 2 (some .int)) ({ frames := 6, cells := 0, slots := 0, locals := 141 } : Room) g [.ref (a 0), .int p0] (zX7 g a v) r.1 (zX7 g a r.2) := by
  intro sz
  refine Met.ofW (cc := cX7_beginOf) (maxL := 2) (ret := (some .int)) (by decide) rfl ?_
  intro p e s m args below meth c s₁ B hml hv
  obtain ⟨rfl, hsz, hP, hK, hD0⟩ := hv
  have hx := B.exec
  have hb := B.bytes
  have hr0 := B.returns
  have hts := atoms_spec (ws := (zw yX7_beginOf cX7_beginOf 2 (some .int))) B.pre
  have hw0 : ∀ w ∈ zW, w.before ([.ref (a 0), .int p0] : List Value).toArray s = true := fun w h => hts w (List.mem_cons_of_mem _ h)
  have hown : s.vm.findClass RX7 = some m.cls := findClass_of_methodNamed B.named
  have hlocks := B.notSynchronized
  subst hsz
  have hD := hD0.self (sz := s.heap.size)
  generalize hAe : va_A (zX7 g a v) s.heap.size = A at hD ⊢
  have hA : ∀ q : Nat, s.heap.size ≤ q → A q := fun q h => by rw [← hAe]; exact Or.inr h
  have hS : va_S A s.heap s.heap [] := va_S.rf
  unfold f_X7_beginOf at hf
  have hl := lv_entry ([.ref (a 0), .int p0]) (n := 2) (Nat.le_of_ble_eq_true rfl)
  rw [lg_entry_eq]
  generalize (lg_sl ([.ref (a 0), .int p0]) ++ List.replicate (2 - (lg_sl ([.ref (a 0), .int p0])).length) Slot.unset).toArray = ls at hl ⊢
  have hl : lv_has ls 2 [(0, .ref (a 0)), (1, .int p0)] := hl
  refine lv_aload_n hx hb dX7_beginOf_0 rfl (lv_at hl 0 rfl) ?_
  refine lv_iload_n hx hb dX7_beginOf_1 rfl (lv_at hl 1 rfl) ?_
  obtain ⟨u1, hu1, hf⟩ := ob hf
  refine zk_iA (va_runV (As := [.int p0]) (rest := []) ⟨hx, hb, hml, hown, hts⟩ (c_X7_isElement l g a v p0 _ hu1 _) (zcV hw0 zm4_140 zm4_143 zm1_8 zm4_142 zs5_5 hd_X7_isElement rfl rfl ⟨Nat.le_of_ble_eq_true rfl, Nat.le_of_ble_eq_true rfl⟩) ⟨zblind, zrecvA hK hP (ci := 7) rfl rfl, zpreA hK hP hD⟩ rfl rfl hl.1 rfl (lv_room (Nat.le_of_ble_eq_true rfl)) dX7_beginOf_2 ⟨Nat.zero_le _, Nat.zero_le _⟩) hP hD hS hA (fun H locs hP hD hS => ?_)
  refine lv_if_ne (tgt := 14) hx hb dX7_beginOf_5 (by decide) (fun c2 => ?_) (fun c2 => ?_)
  · have hf := oe hf c2
    refine lv_aload_n hx hb dX7_beginOf_14 rfl (lv_at hl 0 rfl) ?_
    obtain ⟨u3, hu3, hf⟩ := ob hf
    refine zk_vA (va_runV (As := []) (rest := []) ⟨hx, hb, hml, hown, hts⟩ (c_X7_foresees l g a v _ hu3 _) (zcV hw0 zm5_79 zm5_82 zm1_8 zm5_81 zs7_6 hd_X7_foresees rfl rfl ⟨Nat.le_of_ble_eq_true rfl, Nat.le_of_ble_eq_true rfl⟩) ⟨zblind, zrecvA hK hP (ci := 7) rfl rfl, zpreA hK hP hD⟩ rfl rfl hl.1 rfl (lv_room (Nat.le_of_ble_eq_true rfl)) dX7_beginOf_15 ⟨Nat.zero_le _, Nat.zero_le _⟩) hP hD hS hA (fun H locs hP hD hS => ?_)
    have hP : va_P g.1 vwCl (zX7 g a u3) H := hP
    have hD : va_D A (zX7 g a u3) := hD
    refine lv_aload_n hx hb dX7_beginOf_18 rfl (lv_at hl 0 rfl) ?_
    refine lv_aload_n hx hb dX7_beginOf_19 rfl (lv_at hl 0 rfl) ?_
    refine va_get (D := g.1) (ci := 7) (v := .ref (a 4)) (C := RX7) (T := TX7) (N := 11) hx hb hw0 ziX7 hown hK.1 hP 0 rfl rfl 3 (by decide) (hw0 _ zm4_74) (fun _ h9 => h9) rfl dX7_beginOf_20 ?_
    refine lv_bipush (v := 10) hx hb dX7_beginOf_23 (by decide) ?_
    refine lv_iconst (v := 5) hx hb dX7_beginOf_25 (by decide) ?_
    refine lv_iload_n hx hb dX7_beginOf_26 rfl (lv_at hl 1 rfl) ?_
    refine lv_imul hx hb dX7_beginOf_27 ?_
    refine lv_iadd hx hb dX7_beginOf_28 ?_
    refine lv_iconst (v := 4) hx hb dX7_beginOf_29 (by decide) ?_
    refine lv_iadd hx hb dX7_beginOf_30 ?_
    obtain ⟨h4, hf⟩ := og hf
    refine zald (D := g.1) (f := u3.2.2.2.1) (k := ((10 + (5 * p0)) + 4).toNatClampNeg) hx hb hK.1 hP 4 0 rfl rfl (zin_vp h4) rfl dX7_beginOf_31 ?_
    obtain ⟨u5, hu5, hf⟩ := ob hf
    refine zk_iA (va_runV (As := [.int (u3.2.2.2.1 ((10 + (5 * p0)) + 4).toNatClampNeg)]) (rest := []) ⟨hx, hb, hml, hown, hts⟩ (c_X7_tells l g a u3 (u3.2.2.2.1 ((10 + (5 * p0)) + 4).toNatClampNeg) _ hu5 _) (zcV hw0 zm5_35 zm5_38 zm1_8 zm5_37 zs7_0 hd_X7_tells rfl rfl ⟨Nat.le_of_ble_eq_true rfl, Nat.le_of_ble_eq_true rfl⟩) ⟨zblind, zrecvA hK hP (ci := 7) rfl rfl, zpreA hK hP hD⟩ rfl rfl hl.1 rfl (lv_room (Nat.le_of_ble_eq_true rfl)) dX7_beginOf_32 ⟨Nat.zero_le _, Nat.zero_le _⟩) hP hD hS hA (fun H locs hP hD hS => ?_)
    have hP : va_P g.1 vwCl (zX7 g a u5.2) H := hP
    have hD : va_D A (zX7 g a u5.2) := hD
    have hR : (u5.1, u5.2) = r := Option.some.inj hf
    subst hR
    exact W.iret (v := u5.1) hx hb hr0 (fun t ht hW => ⟨⟨u5.1, (), rfl, rfl, by rw [ht]; exact hP, hD⟩, hS.F ht⟩) hS.2.2 dX7_beginOf_35
  · have hf := oi hf c2
    refine lv_aload_n hx hb dX7_beginOf_8 rfl (lv_at hl 0 rfl) ?_
    refine lv_iconst (v := 1) hx hb dX7_beginOf_9 (by decide) ?_
    obtain ⟨u6, hu6, hf⟩ := ob hf
    refine zk_iA (va_runV (As := [.int 1]) (rest := []) ⟨hx, hb, hml, hown, hts⟩ (c_X7_fails l g a v 1 _ hu6 _) (zcV hw0 zm4_116 zm4_119 zm1_8 zm4_118 zs5_1 hd_X7_fails rfl rfl ⟨Nat.le_of_ble_eq_true rfl, Nat.le_of_ble_eq_true rfl⟩) ⟨zblind, zrecvA hK hP (ci := 7) rfl rfl, zpreA hK hP hD⟩ rfl rfl hl.1 rfl (lv_room (Nat.le_of_ble_eq_true rfl)) dX7_beginOf_10 ⟨Nat.zero_le _, Nat.zero_le _⟩) hP hD hS hA (fun H locs hP hD hS => ?_)
    have hP : va_P g.1 vwCl (zX7 g a u6.2) H := hP
    have hD : va_D A (zX7 g a u6.2) := hD
    have hR : (u6.1, u6.2) = r := Option.some.inj hf
    subst hR
    exact W.iret (v := u6.1) hx hb hr0 (fun t ht hW => ⟨⟨u6.1, (), rfl, rfl, by rw [ht]; exact hP, hD⟩, hS.F ht⟩) hS.2.2 dX7_beginOf_13
theorem hd_X7_endOfHour : yX7_endOfHour.cls ≠ "java/lang/invoke/MethodHandle" ∧ yX7_endOfHour.cls ≠ "java/lang/invoke/VarHandle" ∧ (parseMethodDescriptor yX7_endOfHour.desc).map (fun d => d.parameters.length) = some 0 := by decide +kernel
def f_X7_endOfHour (v : MV) : Option (Int32 × MV) :=
  (f_X7_foresees v).bind (fun u1 =>
  (f_X7_tells u1 (u1.2.2.2.1 0)).bind (fun u2 =>
  some (u2.1, u2.2)))
set_option maxHeartbeats 4000000 in
set_option maxRecDepth 100000 in
theorem c_X7_endOfHour (l : Launch) (g : zG) (a : Nat → Nat) (v : MV) (r : Int32 × MV) (hf : f_X7_endOfHour v = some r) : zMi zNF zNM l yX7_endOfHour (zw yX7_endOfHour cX7_endOfHour 1 (some .int)) ({ frames := 6, cells := 0, slots := 0, locals := 141 } : Room) g [.ref (a 0)] (zX7 g a v) r.1 (zX7 g a r.2) := by
  intro sz
  refine Met.ofW (cc := cX7_endOfHour) (maxL := 1) (ret := (some .int)) (by decide) rfl ?_
  intro p e s m args below meth c s₁ B hml hv
  obtain ⟨rfl, hsz, hP, hK, hD0⟩ := hv
  have hx := B.exec
  have hb := B.bytes
  have hr0 := B.returns
  have hts := atoms_spec (ws := (zw yX7_endOfHour cX7_endOfHour 1 (some .int))) B.pre
  have hw0 : ∀ w ∈ zW, w.before ([.ref (a 0)] : List Value).toArray s = true := fun w h => hts w (List.mem_cons_of_mem _ h)
  have hown : s.vm.findClass RX7 = some m.cls := findClass_of_methodNamed B.named
  have hlocks := B.notSynchronized
  subst hsz
  have hD := hD0.self (sz := s.heap.size)
  generalize hAe : va_A (zX7 g a v) s.heap.size = A at hD ⊢
  have hA : ∀ q : Nat, s.heap.size ≤ q → A q := fun q h => by rw [← hAe]; exact Or.inr h
  have hS : va_S A s.heap s.heap [] := va_S.rf
  unfold f_X7_endOfHour at hf
  have hl := lv_entry ([.ref (a 0)]) (n := 1) (Nat.le_of_ble_eq_true rfl)
  rw [lg_entry_eq]
  generalize (lg_sl ([.ref (a 0)]) ++ List.replicate (1 - (lg_sl ([.ref (a 0)])).length) Slot.unset).toArray = ls at hl ⊢
  have hl : lv_has ls 1 [(0, .ref (a 0))] := hl
  refine lv_aload_n hx hb dX7_endOfHour_0 rfl (lv_at hl 0 rfl) ?_
  obtain ⟨u1, hu1, hf⟩ := ob hf
  refine zk_vA (va_runV (As := []) (rest := []) ⟨hx, hb, hml, hown, hts⟩ (c_X7_foresees l g a v _ hu1 _) (zcV hw0 zm5_79 zm5_82 zm1_8 zm5_81 zs7_6 hd_X7_foresees rfl rfl ⟨Nat.le_of_ble_eq_true rfl, Nat.le_of_ble_eq_true rfl⟩) ⟨zblind, zrecvA hK hP (ci := 7) rfl rfl, zpreA hK hP hD⟩ rfl rfl hl.1 rfl (lv_room (Nat.le_of_ble_eq_true rfl)) dX7_endOfHour_1 ⟨Nat.zero_le _, Nat.zero_le _⟩) hP hD hS hA (fun H locs hP hD hS => ?_)
  have hP : va_P g.1 vwCl (zX7 g a u1) H := hP
  have hD : va_D A (zX7 g a u1) := hD
  refine lv_aload_n hx hb dX7_endOfHour_4 rfl (lv_at hl 0 rfl) ?_
  refine lv_aload_n hx hb dX7_endOfHour_5 rfl (lv_at hl 0 rfl) ?_
  refine va_get (D := g.1) (ci := 7) (v := .ref (a 4)) (C := RX7) (T := TX7) (N := 11) hx hb hw0 ziX7 hown hK.1 hP 0 rfl rfl 3 (by decide) (hw0 _ zm4_74) (fun _ h9 => h9) rfl dX7_endOfHour_6 ?_
  refine lv_iconst (v := 0) hx hb dX7_endOfHour_9 (by decide) ?_
  refine zald (D := g.1) (f := u1.2.2.2.1) (k := 0) hx hb hK.1 hP 4 0 rfl rfl (zin_vp (i := 0) (n := 220) rfl) rfl dX7_endOfHour_10 ?_
  obtain ⟨u2, hu2, hf⟩ := ob hf
  refine zk_iA (va_runV (As := [.int (u1.2.2.2.1 0)]) (rest := []) ⟨hx, hb, hml, hown, hts⟩ (c_X7_tells l g a u1 (u1.2.2.2.1 0) _ hu2 _) (zcV hw0 zm5_35 zm5_38 zm1_8 zm5_37 zs7_0 hd_X7_tells rfl rfl ⟨Nat.le_of_ble_eq_true rfl, Nat.le_of_ble_eq_true rfl⟩) ⟨zblind, zrecvA hK hP (ci := 7) rfl rfl, zpreA hK hP hD⟩ rfl rfl hl.1 rfl (lv_room (Nat.le_of_ble_eq_true rfl)) dX7_endOfHour_11 ⟨Nat.zero_le _, Nat.zero_le _⟩) hP hD hS hA (fun H locs hP hD hS => ?_)
  have hP : va_P g.1 vwCl (zX7 g a u2.2) H := hP
  have hD : va_D A (zX7 g a u2.2) := hD
  have hR : (u2.1, u2.2) = r := Option.some.inj hf
  subst hR
  exact W.iret (v := u2.1) hx hb hr0 (fun t ht hW => ⟨⟨u2.1, (), rfl, rfl, by rw [ht]; exact hP, hD⟩, hS.F ht⟩) hS.2.2 dX7_endOfHour_14
theorem hd_X7_drops : yX7_drops.cls ≠ "java/lang/invoke/MethodHandle" ∧ yX7_drops.cls ≠ "java/lang/invoke/VarHandle" ∧ (parseMethodDescriptor yX7_drops.desc).map (fun d => d.parameters.length) = some 0 := by decide +kernel
def s_X7_drops_8 (v : MV) (x : Int32 × Int32) : Option ((Int32 × Int32) ⊕ (Int32 × Int32)) :=
  if (v.1 7) ≤ x.2 then
    some (.inr (x.1, x.2))
  else
    (f_X7_waits v x.2).bind (fun u3 =>
    if (zb u3) = 0 then
      some (.inl ((x.1 ||| 0), (x.2 + 1)))
    else
      if zin ((10 + (5 * x.2)) + 3) 220 = true then
      if (v.2.2.2.1 ((10 + (5 * x.2)) + 3).toNatClampNeg) = 3 then
        some (.inl ((x.1 ||| (1 <<< (x.2 &&& 31))), (x.2 + 1)))
      else
        some (.inl ((x.1 ||| 0), (x.2 + 1)))
      else none)
def f_X7_drops (v : MV) : Option (Int32 × MV) :=
  (f_X7_foresees v).bind (fun u1 =>
  (zloop (s_X7_drops_8 u1) 4096 (0, 0)).bind (fun u7 =>
  (f_X7_tells u1 u7.1).bind (fun u8 =>
  some (u8.1, u8.2))))
set_option maxHeartbeats 4000000 in
set_option maxRecDepth 100000 in
theorem c_X7_drops (l : Launch) (g : zG) (a : Nat → Nat) (v : MV) (r : Int32 × MV) (hf : f_X7_drops v = some r) : zMi zNF zNM l yX7_drops (zw yX7_drops cX7_drops 3 (some .int)) ({ frames := 6, cells := 0, slots := 0, locals := 141 } : Room) g [.ref (a 0)] (zX7 g a v) r.1 (zX7 g a r.2) := by
  intro sz
  refine Met.ofW (cc := cX7_drops) (maxL := 3) (ret := (some .int)) (by decide) rfl ?_
  intro p e s m args below meth c s₁ B hml hv
  obtain ⟨rfl, hsz, hP, hK, hD0⟩ := hv
  have hx := B.exec
  have hb := B.bytes
  have hr0 := B.returns
  have hts := atoms_spec (ws := (zw yX7_drops cX7_drops 3 (some .int))) B.pre
  have hw0 : ∀ w ∈ zW, w.before ([.ref (a 0)] : List Value).toArray s = true := fun w h => hts w (List.mem_cons_of_mem _ h)
  have hown : s.vm.findClass RX7 = some m.cls := findClass_of_methodNamed B.named
  have hlocks := B.notSynchronized
  subst hsz
  have hD := hD0.self (sz := s.heap.size)
  generalize hAe : va_A (zX7 g a v) s.heap.size = A at hD ⊢
  have hA : ∀ q : Nat, s.heap.size ≤ q → A q := fun q h => by rw [← hAe]; exact Or.inr h
  have hS : va_S A s.heap s.heap [] := va_S.rf
  have lp8 : ∀ (v : MV), ∀ (n : Nat) (x : Int32 × Int32) (rr : Int32 × Int32), zloop (s_X7_drops_8 v) n x = some rr → (∀ (H : Heap) (locs : List Loc), va_P g.1 vwCl (zX7 g a v) H → va_D A (zX7 g a v) → va_S A s.heap H locs → ∀ ls : Array Slot, lv_has ls 3 [(0, .ref (a 0)), (1, .int rr.1)] → W p l e (headSpec (zw yX7_drops cX7_drops 3 (some .int)) ({ frames := 6, cells := 0, slots := 0, locals := 141 } : Room)).room s m ([.ref (a 0)] : List Value).toArray below meth c H locs 0 0 (MQ below (va_Qi (fun (x : Int32) (_ : Unit) => x = r.1) (fun _ => zEnd g A (zX7 g a r.2)) A) ([.ref (a 0)] : List Value).toArray s 0 0 A) (F0 m 60 ls [])) → ∀ (H : Heap) (locs : List Loc), va_P g.1 vwCl (zX7 g a v) H → va_D A (zX7 g a v) → va_S A s.heap H locs → ∀ ls : Array Slot, lv_has ls 3 [(0, .ref (a 0)), (1, .int x.1), (2, .int x.2)] → W p l e (headSpec (zw yX7_drops cX7_drops 3 (some .int)) ({ frames := 6, cells := 0, slots := 0, locals := 141 } : Room)).room s m ([.ref (a 0)] : List Value).toArray below meth c H locs 0 0 (MQ below (va_Qi (fun (x : Int32) (_ : Unit) => x = r.1) (fun _ => zEnd g A (zX7 g a r.2)) A) ([.ref (a 0)] : List Value).toArray s 0 0 A) (F0 m 8 ls []) := by
    intro v
    refine zloop_ind ?_
    intro x y rr hf ih hr hQ H locs hP hD hS ls hl
    unfold s_X7_drops_8 at hf
    refine lv_iload_n hx hb dX7_drops_8 rfl (lv_at hl 2 rfl) ?_
    refine lv_aload_n hx hb dX7_drops_9 rfl (lv_at hl 0 rfl) ?_
    refine va_get (D := g.1) (ci := 7) (v := .ref (a 1)) (C := RX7) (T := TX7) (N := 11) hx hb hw0 ziX7 hown hK.1 hP 0 rfl rfl 0 (by decide) (hw0 _ zm4_71) (fun _ h9 => h9) rfl dX7_drops_10 ?_
    refine lv_bipush (v := 7) hx hb dX7_drops_13 (by decide) ?_
    refine zald (D := g.1) (f := v.1) (k := 7) hx hb hK.1 hP 1 0 rfl rfl (zin_vp (i := 7) (n := 220) rfl) rfl dX7_drops_15 ?_
    refine lv_icmp_ge (tgt := 60) hx hb dX7_drops_16 (by decide) (fun c2 => ?_) (fun c2 => ?_)
    · have hf := oi hf c2
      have hR : (x.1, x.2) = rr := hr _ (Option.some.inj hf).symm
      subst hR
      exact hQ _ _ hP hD hS _ (lv_sub hl [0, 1] rfl)
    · have hf := oe hf c2
      refine lv_iload_n hx hb dX7_drops_19 rfl (lv_at hl 1 rfl) ?_
      refine lv_aload_n hx hb dX7_drops_20 rfl (lv_at hl 0 rfl) ?_
      refine lv_iload_n hx hb dX7_drops_21 rfl (lv_at hl 2 rfl) ?_
      obtain ⟨u3, hu3, hf⟩ := ob hf
      refine zk_iA (va_runV (As := [.int x.2]) (rest := [.int x.1]) ⟨hx, hb, hml, hown, hts⟩ (c_X7_waits l g a v x.2 _ hu3 _) (zcV hw0 zm4_160 zm4_163 zm1_8 zm4_162 zs5_9 hd_X7_waits rfl rfl ⟨Nat.le_of_ble_eq_true rfl, Nat.le_of_ble_eq_true rfl⟩) ⟨zblind, zrecvA hK hP (ci := 7) rfl rfl, zpreA hK hP hD⟩ rfl rfl hl.1 rfl (lv_room (Nat.le_of_ble_eq_true rfl)) dX7_drops_22 ⟨Nat.zero_le _, Nat.zero_le _⟩) hP hD hS hA (fun H locs hP hD hS => ?_)
      refine lv_if_eq (tgt := 51) hx hb dX7_drops_25 (by decide) (fun c4 => ?_) (fun c4 => ?_)
      · have hf := oi hf c4
        refine lv_iconst (v := 0) hx hb dX7_drops_51 (by decide) ?_
        refine lv_ior hx hb dX7_drops_52 ?_
        refine lv_istore_n (lv' := [(1, .int (x.1 ||| 0)), (0, .ref (a 0)), (2, .int x.2)]) hx hb dX7_drops_53 rfl hl (by decide) rfl (fun ls hl => ?_)
        refine lv_iinc (v := (x.2 + 1)) (lv' := [(2, .int (x.2 + 1)), (1, .int (x.1 ||| 0)), (0, .ref (a 0))]) hx hb dX7_drops_54 hl (k := 2) rfl rfl (by decide) rfl (fun ls hl => ?_)
        refine lv_goto (tgt := 8) hx hb dX7_drops_57 (by decide) ?_
        exact ih ((x.1 ||| 0), (x.2 + 1)) (Option.some.inj hf).symm hQ _ _ hP hD hS _ (lv_sub hl [2, 1, 0] rfl)
      · have hf := oe hf c4
        refine lv_aload_n hx hb dX7_drops_28 rfl (lv_at hl 0 rfl) ?_
        refine va_get (D := g.1) (ci := 7) (v := .ref (a 4)) (C := RX7) (T := TX7) (N := 11) hx hb hw0 ziX7 hown hK.1 hP 0 rfl rfl 3 (by decide) (hw0 _ zm4_74) (fun _ h9 => h9) rfl dX7_drops_29 ?_
        refine lv_bipush (v := 10) hx hb dX7_drops_32 (by decide) ?_
        refine lv_iconst (v := 5) hx hb dX7_drops_34 (by decide) ?_
        refine lv_iload_n hx hb dX7_drops_35 rfl (lv_at hl 2 rfl) ?_
        refine lv_imul hx hb dX7_drops_36 ?_
        refine lv_iadd hx hb dX7_drops_37 ?_
        refine lv_iconst (v := 3) hx hb dX7_drops_38 (by decide) ?_
        refine lv_iadd hx hb dX7_drops_39 ?_
        obtain ⟨h5, hf⟩ := og hf
        refine zald (D := g.1) (f := v.2.2.2.1) (k := ((10 + (5 * x.2)) + 3).toNatClampNeg) hx hb hK.1 hP 4 0 rfl rfl (zin_vp h5) rfl dX7_drops_40 ?_
        refine lv_iconst (v := 3) hx hb dX7_drops_41 (by decide) ?_
        refine lv_icmp_ne (tgt := 51) hx hb dX7_drops_42 (by decide) (fun c6 => ?_) (fun c6 => ?_)
        · have hf := oe hf c6
          refine lv_iconst (v := 0) hx hb dX7_drops_51 (by decide) ?_
          refine lv_ior hx hb dX7_drops_52 ?_
          refine lv_istore_n (lv' := [(1, .int (x.1 ||| 0)), (0, .ref (a 0)), (2, .int x.2)]) hx hb dX7_drops_53 rfl hl (by decide) rfl (fun ls hl => ?_)
          refine lv_iinc (v := (x.2 + 1)) (lv' := [(2, .int (x.2 + 1)), (1, .int (x.1 ||| 0)), (0, .ref (a 0))]) hx hb dX7_drops_54 hl (k := 2) rfl rfl (by decide) rfl (fun ls hl => ?_)
          refine lv_goto (tgt := 8) hx hb dX7_drops_57 (by decide) ?_
          exact ih ((x.1 ||| 0), (x.2 + 1)) (Option.some.inj hf).symm hQ _ _ hP hD hS _ (lv_sub hl [2, 1, 0] rfl)
        · have hf := oi hf c6
          refine lv_iconst (v := 1) hx hb dX7_drops_45 (by decide) ?_
          refine lv_iload_n hx hb dX7_drops_46 rfl (lv_at hl 2 rfl) ?_
          refine lv_ishl hx hb dX7_drops_47 ?_
          refine lv_goto (tgt := 52) hx hb dX7_drops_48 (by decide) ?_
          refine lv_ior hx hb dX7_drops_52 ?_
          refine lv_istore_n (lv' := [(1, .int (x.1 ||| (1 <<< (x.2 &&& 31)))), (0, .ref (a 0)), (2, .int x.2)]) hx hb dX7_drops_53 rfl hl (by decide) rfl (fun ls hl => ?_)
          refine lv_iinc (v := (x.2 + 1)) (lv' := [(2, .int (x.2 + 1)), (1, .int (x.1 ||| (1 <<< (x.2 &&& 31)))), (0, .ref (a 0))]) hx hb dX7_drops_54 hl (k := 2) rfl rfl (by decide) rfl (fun ls hl => ?_)
          refine lv_goto (tgt := 8) hx hb dX7_drops_57 (by decide) ?_
          exact ih ((x.1 ||| (1 <<< (x.2 &&& 31))), (x.2 + 1)) (Option.some.inj hf).symm hQ _ _ hP hD hS _ (lv_sub hl [2, 1, 0] rfl)
  unfold f_X7_drops at hf
  have hl := lv_entry ([.ref (a 0)]) (n := 3) (Nat.le_of_ble_eq_true rfl)
  rw [lg_entry_eq]
  generalize (lg_sl ([.ref (a 0)]) ++ List.replicate (3 - (lg_sl ([.ref (a 0)])).length) Slot.unset).toArray = ls at hl ⊢
  have hl : lv_has ls 3 [(0, .ref (a 0))] := hl
  refine lv_aload_n hx hb dX7_drops_0 rfl (lv_at hl 0 rfl) ?_
  obtain ⟨u1, hu1, hf⟩ := ob hf
  refine zk_vA (va_runV (As := []) (rest := []) ⟨hx, hb, hml, hown, hts⟩ (c_X7_foresees l g a v _ hu1 _) (zcV hw0 zm5_79 zm5_82 zm1_8 zm5_81 zs7_6 hd_X7_foresees rfl rfl ⟨Nat.le_of_ble_eq_true rfl, Nat.le_of_ble_eq_true rfl⟩) ⟨zblind, zrecvA hK hP (ci := 7) rfl rfl, zpreA hK hP hD⟩ rfl rfl hl.1 rfl (lv_room (Nat.le_of_ble_eq_true rfl)) dX7_drops_1 ⟨Nat.zero_le _, Nat.zero_le _⟩) hP hD hS hA (fun H locs hP hD hS => ?_)
  have hP : va_P g.1 vwCl (zX7 g a u1) H := hP
  have hD : va_D A (zX7 g a u1) := hD
  refine lv_iconst (v := 0) hx hb dX7_drops_4 (by decide) ?_
  refine lv_istore_n (lv' := [(1, .int 0), (0, .ref (a 0))]) hx hb dX7_drops_5 rfl hl (by decide) rfl (fun ls hl => ?_)
  refine lv_iconst (v := 0) hx hb dX7_drops_6 (by decide) ?_
  refine lv_istore_n (lv' := [(2, .int 0), (1, .int 0), (0, .ref (a 0))]) hx hb dX7_drops_7 rfl hl (by decide) rfl (fun ls hl => ?_)
  obtain ⟨u7, hu7, hf⟩ := ob hf
  refine lp8 u1 _ _ u7 hu7 (fun H locs hP hD hS ls hl => ?_) _ _ hP hD hS _ (lv_sub hl [2, 1, 0] rfl)
  have hl : lv_has ls 3 [(0, .ref (a 0)), (1, .int u7.1)] := hl
  have hP : va_P g.1 vwCl (zX7 g a u1) H := hP
  have hD : va_D A (zX7 g a u1) := hD
  refine lv_aload_n hx hb dX7_drops_60 rfl (lv_at hl 0 rfl) ?_
  refine lv_iload_n hx hb dX7_drops_61 rfl (lv_at hl 1 rfl) ?_
  obtain ⟨u8, hu8, hf⟩ := ob hf
  refine zk_iA (va_runV (As := [.int u7.1]) (rest := []) ⟨hx, hb, hml, hown, hts⟩ (c_X7_tells l g a u1 u7.1 _ hu8 _) (zcV hw0 zm5_35 zm5_38 zm1_8 zm5_37 zs7_0 hd_X7_tells rfl rfl ⟨Nat.le_of_ble_eq_true rfl, Nat.le_of_ble_eq_true rfl⟩) ⟨zblind, zrecvA hK hP (ci := 7) rfl rfl, zpreA hK hP hD⟩ rfl rfl hl.1 rfl (lv_room (Nat.le_of_ble_eq_true rfl)) dX7_drops_62 ⟨Nat.zero_le _, Nat.zero_le _⟩) hP hD hS hA (fun H locs hP hD hS => ?_)
  have hP : va_P g.1 vwCl (zX7 g a u8.2) H := hP
  have hD : va_D A (zX7 g a u8.2) := hD
  have hR : (u8.1, u8.2) = r := Option.some.inj hf
  subst hR
  exact W.iret (v := u8.1) hx hb hr0 (fun t ht hW => ⟨⟨u8.1, (), rfl, rfl, by rw [ht]; exact hP, hD⟩, hS.F ht⟩) hS.2.2 dX7_drops_65
theorem hd_X7_silence : yX7_silence.cls ≠ "java/lang/invoke/MethodHandle" ∧ yX7_silence.cls ≠ "java/lang/invoke/VarHandle" ∧ (parseMethodDescriptor yX7_silence.desc).map (fun d => d.parameters.length) = some 0 := by decide +kernel
def f_X7_silence (v : MV) : Option (Int32 × MV) :=
  (f_X7_foresees v).bind (fun u1 =>
  (f_X7_tells u1 ((u1.2.2.2.1 5) - (u1.1 5))).bind (fun u2 =>
  some (u2.1, u2.2)))
set_option maxHeartbeats 4000000 in
set_option maxRecDepth 100000 in
theorem c_X7_silence (l : Launch) (g : zG) (a : Nat → Nat) (v : MV) (r : Int32 × MV) (hf : f_X7_silence v = some r) : zMi zNF zNM l yX7_silence (zw yX7_silence cX7_silence 1 (some .int)) ({ frames := 6, cells := 0, slots := 0, locals := 141 } : Room) g [.ref (a 0)] (zX7 g a v) r.1 (zX7 g a r.2) := by
  intro sz
  refine Met.ofW (cc := cX7_silence) (maxL := 1) (ret := (some .int)) (by decide) rfl ?_
  intro p e s m args below meth c s₁ B hml hv
  obtain ⟨rfl, hsz, hP, hK, hD0⟩ := hv
  have hx := B.exec
  have hb := B.bytes
  have hr0 := B.returns
  have hts := atoms_spec (ws := (zw yX7_silence cX7_silence 1 (some .int))) B.pre
  have hw0 : ∀ w ∈ zW, w.before ([.ref (a 0)] : List Value).toArray s = true := fun w h => hts w (List.mem_cons_of_mem _ h)
  have hown : s.vm.findClass RX7 = some m.cls := findClass_of_methodNamed B.named
  have hlocks := B.notSynchronized
  subst hsz
  have hD := hD0.self (sz := s.heap.size)
  generalize hAe : va_A (zX7 g a v) s.heap.size = A at hD ⊢
  have hA : ∀ q : Nat, s.heap.size ≤ q → A q := fun q h => by rw [← hAe]; exact Or.inr h
  have hS : va_S A s.heap s.heap [] := va_S.rf
  unfold f_X7_silence at hf
  have hl := lv_entry ([.ref (a 0)]) (n := 1) (Nat.le_of_ble_eq_true rfl)
  rw [lg_entry_eq]
  generalize (lg_sl ([.ref (a 0)]) ++ List.replicate (1 - (lg_sl ([.ref (a 0)])).length) Slot.unset).toArray = ls at hl ⊢
  have hl : lv_has ls 1 [(0, .ref (a 0))] := hl
  refine lv_aload_n hx hb dX7_silence_0 rfl (lv_at hl 0 rfl) ?_
  obtain ⟨u1, hu1, hf⟩ := ob hf
  refine zk_vA (va_runV (As := []) (rest := []) ⟨hx, hb, hml, hown, hts⟩ (c_X7_foresees l g a v _ hu1 _) (zcV hw0 zm5_79 zm5_82 zm1_8 zm5_81 zs7_6 hd_X7_foresees rfl rfl ⟨Nat.le_of_ble_eq_true rfl, Nat.le_of_ble_eq_true rfl⟩) ⟨zblind, zrecvA hK hP (ci := 7) rfl rfl, zpreA hK hP hD⟩ rfl rfl hl.1 rfl (lv_room (Nat.le_of_ble_eq_true rfl)) dX7_silence_1 ⟨Nat.zero_le _, Nat.zero_le _⟩) hP hD hS hA (fun H locs hP hD hS => ?_)
  have hP : va_P g.1 vwCl (zX7 g a u1) H := hP
  have hD : va_D A (zX7 g a u1) := hD
  refine lv_aload_n hx hb dX7_silence_4 rfl (lv_at hl 0 rfl) ?_
  refine lv_aload_n hx hb dX7_silence_5 rfl (lv_at hl 0 rfl) ?_
  refine va_get (D := g.1) (ci := 7) (v := .ref (a 4)) (C := RX7) (T := TX7) (N := 11) hx hb hw0 ziX7 hown hK.1 hP 0 rfl rfl 3 (by decide) (hw0 _ zm4_74) (fun _ h9 => h9) rfl dX7_silence_6 ?_
  refine lv_iconst (v := 5) hx hb dX7_silence_9 (by decide) ?_
  refine zald (D := g.1) (f := u1.2.2.2.1) (k := 5) hx hb hK.1 hP 4 0 rfl rfl (zin_vp (i := 5) (n := 220) rfl) rfl dX7_silence_10 ?_
  refine lv_aload_n hx hb dX7_silence_11 rfl (lv_at hl 0 rfl) ?_
  refine va_get (D := g.1) (ci := 7) (v := .ref (a 1)) (C := RX7) (T := TX7) (N := 11) hx hb hw0 ziX7 hown hK.1 hP 0 rfl rfl 0 (by decide) (hw0 _ zm4_71) (fun _ h9 => h9) rfl dX7_silence_12 ?_
  refine lv_iconst (v := 5) hx hb dX7_silence_15 (by decide) ?_
  refine zald (D := g.1) (f := u1.1) (k := 5) hx hb hK.1 hP 1 0 rfl rfl (zin_vp (i := 5) (n := 220) rfl) rfl dX7_silence_16 ?_
  refine lv_isub hx hb dX7_silence_17 ?_
  obtain ⟨u2, hu2, hf⟩ := ob hf
  refine zk_iA (va_runV (As := [.int ((u1.2.2.2.1 5) - (u1.1 5))]) (rest := []) ⟨hx, hb, hml, hown, hts⟩ (c_X7_tells l g a u1 ((u1.2.2.2.1 5) - (u1.1 5)) _ hu2 _) (zcV hw0 zm5_35 zm5_38 zm1_8 zm5_37 zs7_0 hd_X7_tells rfl rfl ⟨Nat.le_of_ble_eq_true rfl, Nat.le_of_ble_eq_true rfl⟩) ⟨zblind, zrecvA hK hP (ci := 7) rfl rfl, zpreA hK hP hD⟩ rfl rfl hl.1 rfl (lv_room (Nat.le_of_ble_eq_true rfl)) dX7_silence_18 ⟨Nat.zero_le _, Nat.zero_le _⟩) hP hD hS hA (fun H locs hP hD hS => ?_)
  have hP : va_P g.1 vwCl (zX7 g a u2.2) H := hP
  have hD : va_D A (zX7 g a u2.2) := hD
  have hR : (u2.1, u2.2) = r := Option.some.inj hf
  subst hR
  exact W.iret (v := u2.1) hx hb hr0 (fun t ht hW => ⟨⟨u2.1, (), rfl, rfl, by rw [ht]; exact hP, hD⟩, hS.F ht⟩) hS.2.2 dX7_silence_21
theorem hd_X7_choice : yX7_choice.cls ≠ "java/lang/invoke/MethodHandle" ∧ yX7_choice.cls ≠ "java/lang/invoke/VarHandle" ∧ (parseMethodDescriptor yX7_choice.desc).map (fun d => d.parameters.length) = some 1 := by decide +kernel
def f_X7_choice (v : MV) (p0 : Int32) : Option (Int32 × MV) :=
  (f_X7_in p0 1 3600).bind (fun u1 =>
  if (zb u1) = 0 then
    (f_X7_fails v 1).bind (fun u3 =>
    some (u3.1, u3.2))
  else
    (f_X7_chosen v p0).bind (fun u4 =>
    (f_X7_tells v u4).bind (fun u5 =>
    some (u5.1, u5.2))))
set_option maxHeartbeats 4000000 in
set_option maxRecDepth 100000 in
theorem c_X7_choice (l : Launch) (g : zG) (a : Nat → Nat) (v : MV) (p0 : Int32) (r : Int32 × MV) (hf : f_X7_choice v p0 = some r) : zMi zNF zNM l yX7_choice (zw yX7_choice cX7_choice 2 (some .int)) ({ frames := 3, cells := 0, slots := 0, locals := 72 } : Room) g [.ref (a 0), .int p0] (zX7 g a v) r.1 (zX7 g a r.2) := by
  intro sz
  refine Met.ofW (cc := cX7_choice) (maxL := 2) (ret := (some .int)) (by decide) rfl ?_
  intro p e s m args below meth c s₁ B hml hv
  obtain ⟨rfl, hsz, hP, hK, hD0⟩ := hv
  have hx := B.exec
  have hb := B.bytes
  have hr0 := B.returns
  have hts := atoms_spec (ws := (zw yX7_choice cX7_choice 2 (some .int))) B.pre
  have hw0 : ∀ w ∈ zW, w.before ([.ref (a 0), .int p0] : List Value).toArray s = true := fun w h => hts w (List.mem_cons_of_mem _ h)
  have hown : s.vm.findClass RX7 = some m.cls := findClass_of_methodNamed B.named
  have hlocks := B.notSynchronized
  subst hsz
  have hD := hD0.self (sz := s.heap.size)
  generalize hAe : va_A (zX7 g a v) s.heap.size = A at hD ⊢
  have hA : ∀ q : Nat, s.heap.size ≤ q → A q := fun q h => by rw [← hAe]; exact Or.inr h
  have hS : va_S A s.heap s.heap [] := va_S.rf
  unfold f_X7_choice at hf
  have hl := lv_entry ([.ref (a 0), .int p0]) (n := 2) (Nat.le_of_ble_eq_true rfl)
  rw [lg_entry_eq]
  generalize (lg_sl ([.ref (a 0), .int p0]) ++ List.replicate (2 - (lg_sl ([.ref (a 0), .int p0])).length) Slot.unset).toArray = ls at hl ⊢
  have hl : lv_has ls 2 [(0, .ref (a 0)), (1, .int p0)] := hl
  refine lv_iload_n hx hb dX7_choice_0 rfl (lv_at hl 1 rfl) ?_
  refine lv_iconst (v := 1) hx hb dX7_choice_1 (by decide) ?_
  refine lv_sipush (v := 3600) hx hb dX7_choice_2 (by decide) ?_
  obtain ⟨u1, hu1, hf⟩ := ob hf
  refine zk_iR (va_runS (As := [.int p0, .int 1, .int 3600]) (rest := []) ⟨hx, hb, hml, hown, hts⟩ (c_X7_in l g p0 1 3600 _ hu1 _) (zcS hw0 zm4_113 zm4_115 zm1_8 zm4_114 hd_X7_in rfl rfl ⟨Nat.le_of_ble_eq_true rfl, Nat.le_of_ble_eq_true rfl⟩) ⟨zblind, zpre hK hP hD [] rfl rfl⟩ rfl rfl hl.1 rfl (lv_room (Nat.le_of_ble_eq_true rfl)) dX7_choice_5 ⟨Nat.zero_le _, Nat.zero_le _⟩) hP hD hS hA [] rfl (fun H locs hP hD hS => ?_)
  refine lv_if_eq (tgt := 23) hx hb dX7_choice_8 (by decide) (fun c2 => ?_) (fun c2 => ?_)
  · have hf := oi hf c2
    refine lv_aload_n hx hb dX7_choice_23 rfl (lv_at hl 0 rfl) ?_
    refine lv_iconst (v := 1) hx hb dX7_choice_24 (by decide) ?_
    obtain ⟨u3, hu3, hf⟩ := ob hf
    refine zk_iA (va_runV (As := [.int 1]) (rest := []) ⟨hx, hb, hml, hown, hts⟩ (c_X7_fails l g a v 1 _ hu3 _) (zcV hw0 zm4_116 zm4_119 zm1_8 zm4_118 zs5_1 hd_X7_fails rfl rfl ⟨Nat.le_of_ble_eq_true rfl, Nat.le_of_ble_eq_true rfl⟩) ⟨zblind, zrecvA hK hP (ci := 7) rfl rfl, zpreA hK hP hD⟩ rfl rfl hl.1 rfl (lv_room (Nat.le_of_ble_eq_true rfl)) dX7_choice_25 ⟨Nat.zero_le _, Nat.zero_le _⟩) hP hD hS hA (fun H locs hP hD hS => ?_)
    have hP : va_P g.1 vwCl (zX7 g a u3.2) H := hP
    have hD : va_D A (zX7 g a u3.2) := hD
    have hR : (u3.1, u3.2) = r := Option.some.inj hf
    subst hR
    exact W.iret (v := u3.1) hx hb hr0 (fun t ht hW => ⟨⟨u3.1, (), rfl, rfl, by rw [ht]; exact hP, hD⟩, hS.F ht⟩) hS.2.2 dX7_choice_28
  · have hf := oe hf c2
    refine lv_aload_n hx hb dX7_choice_11 rfl (lv_at hl 0 rfl) ?_
    refine lv_aload_n hx hb dX7_choice_12 rfl (lv_at hl 0 rfl) ?_
    refine lv_iload_n hx hb dX7_choice_13 rfl (lv_at hl 1 rfl) ?_
    obtain ⟨u4, hu4, hf⟩ := ob hf
    refine zk_iA (va_runV (As := [.int p0]) (rest := [.ref (a 0)]) ⟨hx, hb, hml, hown, hts⟩ (c_X7_chosen l g a v p0 _ hu4 _) (zcV hw0 zm4_220 zm4_223 zm1_8 zm4_222 zs6_7 hd_X7_chosen rfl rfl ⟨Nat.le_of_ble_eq_true rfl, Nat.le_of_ble_eq_true rfl⟩) ⟨zblind, zrecvA hK hP (ci := 7) rfl rfl, zpreA hK hP hD⟩ rfl rfl hl.1 rfl (lv_room (Nat.le_of_ble_eq_true rfl)) dX7_choice_14 ⟨Nat.zero_le _, Nat.zero_le _⟩) hP hD hS hA (fun H locs hP hD hS => ?_)
    obtain ⟨u5, hu5, hf⟩ := ob hf
    refine zk_iA (va_runV (As := [.int u4]) (rest := []) ⟨hx, hb, hml, hown, hts⟩ (c_X7_tells l g a v u4 _ hu5 _) (zcV hw0 zm5_35 zm5_38 zm1_8 zm5_37 zs7_0 hd_X7_tells rfl rfl ⟨Nat.le_of_ble_eq_true rfl, Nat.le_of_ble_eq_true rfl⟩) ⟨zblind, zrecvA hK hP (ci := 7) rfl rfl, zpreA hK hP hD⟩ rfl rfl hl.1 rfl (lv_room (Nat.le_of_ble_eq_true rfl)) dX7_choice_17 ⟨Nat.zero_le _, Nat.zero_le _⟩) hP hD hS hA (fun H locs hP hD hS => ?_)
    have hP : va_P g.1 vwCl (zX7 g a u5.2) H := hP
    have hD : va_D A (zX7 g a u5.2) := hD
    refine lv_goto (tgt := 28) hx hb dX7_choice_20 (by decide) ?_
    have hR : (u5.1, u5.2) = r := Option.some.inj hf
    subst hR
    exact W.iret (v := u5.1) hx hb hr0 (fun t ht hW => ⟨⟨u5.1, (), rfl, rfl, by rw [ht]; exact hP, hD⟩, hS.F ht⟩) hS.2.2 dX7_choice_28
theorem hd_X7_fullAbove : yX7_fullAbove.cls ≠ "java/lang/invoke/MethodHandle" ∧ yX7_fullAbove.cls ≠ "java/lang/invoke/VarHandle" ∧ (parseMethodDescriptor yX7_fullAbove.desc).map (fun d => d.parameters.length) = some 1 := by decide +kernel
def s_X7_fullAbove_10 (v : MV) (i1 : Int32) (i2 : Int32) (x : Int32 × Int32) : Option ((Int32 × Int32) ⊕ (Int32 × Int32)) :=
  if i2 < x.2 then
    some (.inr (x.1, x.2))
  else
    if (x.2 &&& (i2 ^^^ (-1))) = 0 then
      (f_X7_lengthOf v x.2).bind (fun u7 =>
      if u7 ≤ i1 then
        some (.inl (x.1, (x.2 + 1)))
      else
        if x.1 = (-1) then
          some (.inl (u7, (x.2 + 1)))
        else
          if x.1 ≤ u7 then
            some (.inl (x.1, (x.2 + 1)))
          else
            some (.inl (u7, (x.2 + 1))))
    else
      if 0 ≤ i1 then
        some (.inl (x.1, (x.2 + 1)))
      else
        if x.1 = (-1) then
          some (.inl (0, (x.2 + 1)))
        else
          if x.1 ≤ 0 then
            some (.inl (x.1, (x.2 + 1)))
          else
            some (.inl (0, (x.2 + 1)))
def f_X7_fullAbove (v : MV) (p0 : Int32) : Option (Int32) :=
  (f_X7_waitingFillers v).bind (fun u1 =>
  (zloop (s_X7_fullAbove_10 v p0 u1) 4096 ((-1), 1)).bind (fun u11 =>
  some u11.1))
set_option maxHeartbeats 4000000 in
set_option maxRecDepth 100000 in
theorem c_X7_fullAbove (l : Launch) (g : zG) (a : Nat → Nat) (v : MV) (p0 : Int32) (r : Int32) (hf : f_X7_fullAbove v p0 = some r) : zMi zNF zNM l yX7_fullAbove (zw yX7_fullAbove cX7_fullAbove 6 (some .int)) ({ frames := 2, cells := 0, slots := 0, locals := 45 } : Room) g [.ref (a 0), .int p0] (zX7 g a v) r (zX7 g a v) := by
  intro sz
  refine Met.ofW (cc := cX7_fullAbove) (maxL := 6) (ret := (some .int)) (by decide) rfl ?_
  intro p e s m args below meth c s₁ B hml hv
  obtain ⟨rfl, hsz, hP, hK, hD0⟩ := hv
  have hx := B.exec
  have hb := B.bytes
  have hr0 := B.returns
  have hts := atoms_spec (ws := (zw yX7_fullAbove cX7_fullAbove 6 (some .int))) B.pre
  have hw0 : ∀ w ∈ zW, w.before ([.ref (a 0), .int p0] : List Value).toArray s = true := fun w h => hts w (List.mem_cons_of_mem _ h)
  have hown : s.vm.findClass RX7 = some m.cls := findClass_of_methodNamed B.named
  have hlocks := B.notSynchronized
  subst hsz
  have hD := hD0.self (sz := s.heap.size)
  generalize hAe : va_A (zX7 g a v) s.heap.size = A at hD ⊢
  have hA : ∀ q : Nat, s.heap.size ≤ q → A q := fun q h => by rw [← hAe]; exact Or.inr h
  have hS : va_S A s.heap s.heap [] := va_S.rf
  have lp10 : ∀ (v : MV) (i1 : Int32) (i2 : Int32), ∀ (n : Nat) (x : Int32 × Int32) (rr : Int32 × Int32), zloop (s_X7_fullAbove_10 v i1 i2) n x = some rr → (∀ (H : Heap) (locs : List Loc), va_P g.1 vwCl (zX7 g a v) H → va_D A (zX7 g a v) → va_S A s.heap H locs → ∀ ls : Array Slot, lv_has ls 6 [(3, .int rr.1)] → W p l e (headSpec (zw yX7_fullAbove cX7_fullAbove 6 (some .int)) ({ frames := 2, cells := 0, slots := 0, locals := 45 } : Room)).room s m ([.ref (a 0), .int p0] : List Value).toArray below meth c H locs 0 0 (MQ below (va_Qi (fun (x : Int32) (_ : Unit) => x = r) (fun _ => zEnd g A (zX7 g a v)) A) ([.ref (a 0), .int p0] : List Value).toArray s 0 0 A) (F0 m 67 ls [])) → ∀ (H : Heap) (locs : List Loc), va_P g.1 vwCl (zX7 g a v) H → va_D A (zX7 g a v) → va_S A s.heap H locs → ∀ ls : Array Slot, lv_has ls 6 [(0, .ref (a 0)), (1, .int i1), (2, .int i2), (3, .int x.1), (4, .int x.2)] → W p l e (headSpec (zw yX7_fullAbove cX7_fullAbove 6 (some .int)) ({ frames := 2, cells := 0, slots := 0, locals := 45 } : Room)).room s m ([.ref (a 0), .int p0] : List Value).toArray below meth c H locs 0 0 (MQ below (va_Qi (fun (x : Int32) (_ : Unit) => x = r) (fun _ => zEnd g A (zX7 g a v)) A) ([.ref (a 0), .int p0] : List Value).toArray s 0 0 A) (F0 m 10 ls []) := by
    intro v i1 i2
    refine zloop_ind ?_
    intro x y rr hf ih hr hQ H locs hP hD hS ls hl
    unfold s_X7_fullAbove_10 at hf
    refine lv_iload hx hb dX7_fullAbove_10 (lv_at hl 4 rfl) ?_
    refine lv_iload_n hx hb dX7_fullAbove_12 rfl (lv_at hl 2 rfl) ?_
    refine lv_icmp_gt (tgt := 67) hx hb dX7_fullAbove_13 (by decide) (fun c2 => ?_) (fun c2 => ?_)
    · have hf := oi hf c2
      have hR : (x.1, x.2) = rr := hr _ (Option.some.inj hf).symm
      subst hR
      exact hQ _ _ hP hD hS _ (lv_sub hl [3] rfl)
    · have hf := oe hf c2
      refine lv_iload hx hb dX7_fullAbove_16 (lv_at hl 4 rfl) ?_
      refine lv_iload_n hx hb dX7_fullAbove_18 rfl (lv_at hl 2 rfl) ?_
      refine lv_iconst (v := (-1)) hx hb dX7_fullAbove_19 (by decide) ?_
      refine lv_ixor hx hb dX7_fullAbove_20 ?_
      refine lv_iand hx hb dX7_fullAbove_21 ?_
      refine lv_if_ne (tgt := 34) hx hb dX7_fullAbove_22 (by decide) (fun c3 => ?_) (fun c3 => ?_)
      · have hf := oe hf c3
        refine lv_iconst (v := 0) hx hb dX7_fullAbove_34 (by decide) ?_
        refine lv_istore (lv' := [(5, .int 0), (0, .ref (a 0)), (1, .int i1), (2, .int i2), (3, .int x.1), (4, .int x.2)]) hx hb dX7_fullAbove_35 hl (by decide) rfl (fun ls hl => ?_)
        refine lv_iload hx hb dX7_fullAbove_37 (lv_at hl 0 rfl) ?_
        refine lv_iload_n hx hb dX7_fullAbove_39 rfl (lv_at hl 2 rfl) ?_
        refine lv_icmp_le (tgt := 59) hx hb dX7_fullAbove_40 (by decide) (fun c4 => ?_) (fun c4 => ?_)
        · have hf := oi hf c4
          refine lv_iload_n hx hb dX7_fullAbove_59 rfl (lv_at hl 4 rfl) ?_
          refine lv_istore_n (lv' := [(3, .int x.1), (5, .int 0), (0, .ref (a 0)), (1, .int i1), (2, .int i2), (4, .int x.2)]) hx hb dX7_fullAbove_60 rfl hl (by decide) rfl (fun ls hl => ?_)
          refine lv_iinc (v := (x.2 + 1)) (lv' := [(4, .int (x.2 + 1)), (3, .int x.1), (5, .int 0), (0, .ref (a 0)), (1, .int i1), (2, .int i2)]) hx hb dX7_fullAbove_61 hl (k := 5) rfl rfl (by decide) rfl (fun ls hl => ?_)
          refine lv_goto (tgt := 10) hx hb dX7_fullAbove_64 (by decide) ?_
          exact ih (x.1, (x.2 + 1)) (Option.some.inj hf).symm hQ _ _ hP hD hS _ (lv_sub hl [3, 4, 5, 1, 0] rfl)
        · have hf := oe hf c4
          refine lv_iload_n hx hb dX7_fullAbove_43 rfl (lv_at hl 4 rfl) ?_
          refine lv_iconst (v := (-1)) hx hb dX7_fullAbove_44 (by decide) ?_
          refine lv_icmp_eq (tgt := 54) hx hb dX7_fullAbove_45 (by decide) (fun c5 => ?_) (fun c5 => ?_)
          · have hf := oi hf c5
            refine lv_iload hx hb dX7_fullAbove_54 (lv_at hl 0 rfl) ?_
            refine lv_goto (tgt := 60) hx hb dX7_fullAbove_56 (by decide) ?_
            refine lv_istore_n (lv' := [(3, .int 0), (5, .int 0), (0, .ref (a 0)), (1, .int i1), (2, .int i2), (4, .int x.2)]) hx hb dX7_fullAbove_60 rfl hl (by decide) rfl (fun ls hl => ?_)
            refine lv_iinc (v := (x.2 + 1)) (lv' := [(4, .int (x.2 + 1)), (3, .int 0), (5, .int 0), (0, .ref (a 0)), (1, .int i1), (2, .int i2)]) hx hb dX7_fullAbove_61 hl (k := 5) rfl rfl (by decide) rfl (fun ls hl => ?_)
            refine lv_goto (tgt := 10) hx hb dX7_fullAbove_64 (by decide) ?_
            exact ih (0, (x.2 + 1)) (Option.some.inj hf).symm hQ _ _ hP hD hS _ (lv_sub hl [3, 4, 5, 1, 0] rfl)
          · have hf := oe hf c5
            refine lv_iload hx hb dX7_fullAbove_48 (lv_at hl 0 rfl) ?_
            refine lv_iload_n hx hb dX7_fullAbove_50 rfl (lv_at hl 4 rfl) ?_
            refine lv_icmp_ge (tgt := 59) hx hb dX7_fullAbove_51 (by decide) (fun c6 => ?_) (fun c6 => ?_)
            · have hf := oi hf c6
              refine lv_iload_n hx hb dX7_fullAbove_59 rfl (lv_at hl 4 rfl) ?_
              refine lv_istore_n (lv' := [(3, .int x.1), (5, .int 0), (0, .ref (a 0)), (1, .int i1), (2, .int i2), (4, .int x.2)]) hx hb dX7_fullAbove_60 rfl hl (by decide) rfl (fun ls hl => ?_)
              refine lv_iinc (v := (x.2 + 1)) (lv' := [(4, .int (x.2 + 1)), (3, .int x.1), (5, .int 0), (0, .ref (a 0)), (1, .int i1), (2, .int i2)]) hx hb dX7_fullAbove_61 hl (k := 5) rfl rfl (by decide) rfl (fun ls hl => ?_)
              refine lv_goto (tgt := 10) hx hb dX7_fullAbove_64 (by decide) ?_
              exact ih (x.1, (x.2 + 1)) (Option.some.inj hf).symm hQ _ _ hP hD hS _ (lv_sub hl [3, 4, 5, 1, 0] rfl)
            · have hf := oe hf c6
              refine lv_iload hx hb dX7_fullAbove_54 (lv_at hl 0 rfl) ?_
              refine lv_goto (tgt := 60) hx hb dX7_fullAbove_56 (by decide) ?_
              refine lv_istore_n (lv' := [(3, .int 0), (5, .int 0), (0, .ref (a 0)), (1, .int i1), (2, .int i2), (4, .int x.2)]) hx hb dX7_fullAbove_60 rfl hl (by decide) rfl (fun ls hl => ?_)
              refine lv_iinc (v := (x.2 + 1)) (lv' := [(4, .int (x.2 + 1)), (3, .int 0), (5, .int 0), (0, .ref (a 0)), (1, .int i1), (2, .int i2)]) hx hb dX7_fullAbove_61 hl (k := 5) rfl rfl (by decide) rfl (fun ls hl => ?_)
              refine lv_goto (tgt := 10) hx hb dX7_fullAbove_64 (by decide) ?_
              exact ih (0, (x.2 + 1)) (Option.some.inj hf).symm hQ _ _ hP hD hS _ (lv_sub hl [3, 4, 5, 1, 0] rfl)
      · have hf := oi hf c3
        refine lv_aload_n hx hb dX7_fullAbove_25 rfl (lv_at hl 0 rfl) ?_
        refine lv_iload hx hb dX7_fullAbove_26 (lv_at hl 4 rfl) ?_
        obtain ⟨u7, hu7, hf⟩ := ob hf
        refine zk_iA (va_runV (As := [.int x.2]) (rest := []) ⟨hx, hb, hml, hown, hts⟩ (c_X7_lengthOf l g a v x.2 _ hu7 _) (zcV hw0 zm4_232 zm4_235 zm1_8 zm4_234 zs6_10 hd_X7_lengthOf rfl rfl ⟨Nat.le_of_ble_eq_true rfl, Nat.le_of_ble_eq_true rfl⟩) ⟨zblind, zrecvA hK hP (ci := 7) rfl rfl, zpreA hK hP hD⟩ rfl rfl hl.1 rfl (lv_room (Nat.le_of_ble_eq_true rfl)) dX7_fullAbove_28 ⟨Nat.zero_le _, Nat.zero_le _⟩) hP hD hS hA (fun H locs hP hD hS => ?_)
        refine lv_goto (tgt := 35) hx hb dX7_fullAbove_31 (by decide) ?_
        refine lv_istore (lv' := [(5, .int u7), (0, .ref (a 0)), (1, .int i1), (2, .int i2), (3, .int x.1), (4, .int x.2)]) hx hb dX7_fullAbove_35 hl (by decide) rfl (fun ls hl => ?_)
        refine lv_iload hx hb dX7_fullAbove_37 (lv_at hl 0 rfl) ?_
        refine lv_iload_n hx hb dX7_fullAbove_39 rfl (lv_at hl 2 rfl) ?_
        refine lv_icmp_le (tgt := 59) hx hb dX7_fullAbove_40 (by decide) (fun c8 => ?_) (fun c8 => ?_)
        · have hf := oi hf c8
          refine lv_iload_n hx hb dX7_fullAbove_59 rfl (lv_at hl 4 rfl) ?_
          refine lv_istore_n (lv' := [(3, .int x.1), (5, .int u7), (0, .ref (a 0)), (1, .int i1), (2, .int i2), (4, .int x.2)]) hx hb dX7_fullAbove_60 rfl hl (by decide) rfl (fun ls hl => ?_)
          refine lv_iinc (v := (x.2 + 1)) (lv' := [(4, .int (x.2 + 1)), (3, .int x.1), (5, .int u7), (0, .ref (a 0)), (1, .int i1), (2, .int i2)]) hx hb dX7_fullAbove_61 hl (k := 5) rfl rfl (by decide) rfl (fun ls hl => ?_)
          refine lv_goto (tgt := 10) hx hb dX7_fullAbove_64 (by decide) ?_
          exact ih (x.1, (x.2 + 1)) (Option.some.inj hf).symm hQ _ _ hP hD hS _ (lv_sub hl [3, 4, 5, 1, 0] rfl)
        · have hf := oe hf c8
          refine lv_iload_n hx hb dX7_fullAbove_43 rfl (lv_at hl 4 rfl) ?_
          refine lv_iconst (v := (-1)) hx hb dX7_fullAbove_44 (by decide) ?_
          refine lv_icmp_eq (tgt := 54) hx hb dX7_fullAbove_45 (by decide) (fun c9 => ?_) (fun c9 => ?_)
          · have hf := oi hf c9
            refine lv_iload hx hb dX7_fullAbove_54 (lv_at hl 0 rfl) ?_
            refine lv_goto (tgt := 60) hx hb dX7_fullAbove_56 (by decide) ?_
            refine lv_istore_n (lv' := [(3, .int u7), (5, .int u7), (0, .ref (a 0)), (1, .int i1), (2, .int i2), (4, .int x.2)]) hx hb dX7_fullAbove_60 rfl hl (by decide) rfl (fun ls hl => ?_)
            refine lv_iinc (v := (x.2 + 1)) (lv' := [(4, .int (x.2 + 1)), (3, .int u7), (5, .int u7), (0, .ref (a 0)), (1, .int i1), (2, .int i2)]) hx hb dX7_fullAbove_61 hl (k := 5) rfl rfl (by decide) rfl (fun ls hl => ?_)
            refine lv_goto (tgt := 10) hx hb dX7_fullAbove_64 (by decide) ?_
            exact ih (u7, (x.2 + 1)) (Option.some.inj hf).symm hQ _ _ hP hD hS _ (lv_sub hl [3, 4, 5, 1, 0] rfl)
          · have hf := oe hf c9
            refine lv_iload hx hb dX7_fullAbove_48 (lv_at hl 0 rfl) ?_
            refine lv_iload_n hx hb dX7_fullAbove_50 rfl (lv_at hl 4 rfl) ?_
            refine lv_icmp_ge (tgt := 59) hx hb dX7_fullAbove_51 (by decide) (fun c10 => ?_) (fun c10 => ?_)
            · have hf := oi hf c10
              refine lv_iload_n hx hb dX7_fullAbove_59 rfl (lv_at hl 4 rfl) ?_
              refine lv_istore_n (lv' := [(3, .int x.1), (5, .int u7), (0, .ref (a 0)), (1, .int i1), (2, .int i2), (4, .int x.2)]) hx hb dX7_fullAbove_60 rfl hl (by decide) rfl (fun ls hl => ?_)
              refine lv_iinc (v := (x.2 + 1)) (lv' := [(4, .int (x.2 + 1)), (3, .int x.1), (5, .int u7), (0, .ref (a 0)), (1, .int i1), (2, .int i2)]) hx hb dX7_fullAbove_61 hl (k := 5) rfl rfl (by decide) rfl (fun ls hl => ?_)
              refine lv_goto (tgt := 10) hx hb dX7_fullAbove_64 (by decide) ?_
              exact ih (x.1, (x.2 + 1)) (Option.some.inj hf).symm hQ _ _ hP hD hS _ (lv_sub hl [3, 4, 5, 1, 0] rfl)
            · have hf := oe hf c10
              refine lv_iload hx hb dX7_fullAbove_54 (lv_at hl 0 rfl) ?_
              refine lv_goto (tgt := 60) hx hb dX7_fullAbove_56 (by decide) ?_
              refine lv_istore_n (lv' := [(3, .int u7), (5, .int u7), (0, .ref (a 0)), (1, .int i1), (2, .int i2), (4, .int x.2)]) hx hb dX7_fullAbove_60 rfl hl (by decide) rfl (fun ls hl => ?_)
              refine lv_iinc (v := (x.2 + 1)) (lv' := [(4, .int (x.2 + 1)), (3, .int u7), (5, .int u7), (0, .ref (a 0)), (1, .int i1), (2, .int i2)]) hx hb dX7_fullAbove_61 hl (k := 5) rfl rfl (by decide) rfl (fun ls hl => ?_)
              refine lv_goto (tgt := 10) hx hb dX7_fullAbove_64 (by decide) ?_
              exact ih (u7, (x.2 + 1)) (Option.some.inj hf).symm hQ _ _ hP hD hS _ (lv_sub hl [3, 4, 5, 1, 0] rfl)
  unfold f_X7_fullAbove at hf
  have hl := lv_entry ([.ref (a 0), .int p0]) (n := 6) (Nat.le_of_ble_eq_true rfl)
  rw [lg_entry_eq]
  generalize (lg_sl ([.ref (a 0), .int p0]) ++ List.replicate (6 - (lg_sl ([.ref (a 0), .int p0])).length) Slot.unset).toArray = ls at hl ⊢
  have hl : lv_has ls 6 [(0, .ref (a 0)), (1, .int p0)] := hl
  refine lv_aload_n hx hb dX7_fullAbove_0 rfl (lv_at hl 0 rfl) ?_
  obtain ⟨u1, hu1, hf⟩ := ob hf
  refine zk_iA (va_runV (As := []) (rest := []) ⟨hx, hb, hml, hown, hts⟩ (c_X7_waitingFillers l g a v _ hu1 _) (zcV hw0 zm4_224 zm4_227 zm1_8 zm4_226 zs6_8 hd_X7_waitingFillers rfl rfl ⟨Nat.le_of_ble_eq_true rfl, Nat.le_of_ble_eq_true rfl⟩) ⟨zblind, zrecvA hK hP (ci := 7) rfl rfl, zpreA hK hP hD⟩ rfl rfl hl.1 rfl (lv_room (Nat.le_of_ble_eq_true rfl)) dX7_fullAbove_1 ⟨Nat.zero_le _, Nat.zero_le _⟩) hP hD hS hA (fun H locs hP hD hS => ?_)
  refine lv_istore_n (lv' := [(2, .int u1), (0, .ref (a 0)), (1, .int p0)]) hx hb dX7_fullAbove_4 rfl hl (by decide) rfl (fun ls hl => ?_)
  refine lv_iconst (v := (-1)) hx hb dX7_fullAbove_5 (by decide) ?_
  refine lv_istore_n (lv' := [(3, .int (-1)), (2, .int u1), (0, .ref (a 0)), (1, .int p0)]) hx hb dX7_fullAbove_6 rfl hl (by decide) rfl (fun ls hl => ?_)
  refine lv_iconst (v := 1) hx hb dX7_fullAbove_7 (by decide) ?_
  refine lv_istore (lv' := [(4, .int 1), (3, .int (-1)), (2, .int u1), (0, .ref (a 0)), (1, .int p0)]) hx hb dX7_fullAbove_8 hl (by decide) rfl (fun ls hl => ?_)
  obtain ⟨u11, hu11, hf⟩ := ob hf
  refine lp10 v p0 u1 _ _ u11 hu11 (fun H locs hP hD hS ls hl => ?_) _ _ hP hD hS _ (lv_sub hl [3, 4, 2, 1, 0] rfl)
  have hl : lv_has ls 6 [(3, .int u11.1)] := hl
  have hP : va_P g.1 vwCl (zX7 g a v) H := hP
  have hD : va_D A (zX7 g a v) := hD
  refine lv_iload_n hx hb dX7_fullAbove_67 rfl (lv_at hl 0 rfl) ?_
  have hR : u11.1 = r := Option.some.inj hf
  subst hR
  exact W.iret (v := u11.1) hx hb hr0 (fun t ht hW => ⟨⟨u11.1, (), rfl, rfl, by rw [ht]; exact hP, hD⟩, hS.F ht⟩) hS.2.2 dX7_fullAbove_68
theorem hd_X7_nextFull : yX7_nextFull.cls ≠ "java/lang/invoke/MethodHandle" ∧ yX7_nextFull.cls ≠ "java/lang/invoke/VarHandle" ∧ (parseMethodDescriptor yX7_nextFull.desc).map (fun d => d.parameters.length) = some 1 := by decide +kernel
def f_X7_nextFull (v : MV) (p0 : Int32) : Option (Int32 × MV) :=
  (f_X7_in p0 0 3600).bind (fun u1 =>
  if (zb u1) = 0 then
    (f_X7_fails v 1).bind (fun u3 =>
    some (u3.1, u3.2))
  else
    (f_X7_fullAbove v p0).bind (fun u4 =>
    (f_X7_tells v u4).bind (fun u5 =>
    some (u5.1, u5.2))))
set_option maxHeartbeats 4000000 in
set_option maxRecDepth 100000 in
theorem c_X7_nextFull (l : Launch) (g : zG) (a : Nat → Nat) (v : MV) (p0 : Int32) (r : Int32 × MV) (hf : f_X7_nextFull v p0 = some r) : zMi zNF zNM l yX7_nextFull (zw yX7_nextFull cX7_nextFull 2 (some .int)) ({ frames := 3, cells := 0, slots := 0, locals := 70 } : Room) g [.ref (a 0), .int p0] (zX7 g a v) r.1 (zX7 g a r.2) := by
  intro sz
  refine Met.ofW (cc := cX7_nextFull) (maxL := 2) (ret := (some .int)) (by decide) rfl ?_
  intro p e s m args below meth c s₁ B hml hv
  obtain ⟨rfl, hsz, hP, hK, hD0⟩ := hv
  have hx := B.exec
  have hb := B.bytes
  have hr0 := B.returns
  have hts := atoms_spec (ws := (zw yX7_nextFull cX7_nextFull 2 (some .int))) B.pre
  have hw0 : ∀ w ∈ zW, w.before ([.ref (a 0), .int p0] : List Value).toArray s = true := fun w h => hts w (List.mem_cons_of_mem _ h)
  have hown : s.vm.findClass RX7 = some m.cls := findClass_of_methodNamed B.named
  have hlocks := B.notSynchronized
  subst hsz
  have hD := hD0.self (sz := s.heap.size)
  generalize hAe : va_A (zX7 g a v) s.heap.size = A at hD ⊢
  have hA : ∀ q : Nat, s.heap.size ≤ q → A q := fun q h => by rw [← hAe]; exact Or.inr h
  have hS : va_S A s.heap s.heap [] := va_S.rf
  unfold f_X7_nextFull at hf
  have hl := lv_entry ([.ref (a 0), .int p0]) (n := 2) (Nat.le_of_ble_eq_true rfl)
  rw [lg_entry_eq]
  generalize (lg_sl ([.ref (a 0), .int p0]) ++ List.replicate (2 - (lg_sl ([.ref (a 0), .int p0])).length) Slot.unset).toArray = ls at hl ⊢
  have hl : lv_has ls 2 [(0, .ref (a 0)), (1, .int p0)] := hl
  refine lv_iload_n hx hb dX7_nextFull_0 rfl (lv_at hl 1 rfl) ?_
  refine lv_iconst (v := 0) hx hb dX7_nextFull_1 (by decide) ?_
  refine lv_sipush (v := 3600) hx hb dX7_nextFull_2 (by decide) ?_
  obtain ⟨u1, hu1, hf⟩ := ob hf
  refine zk_iR (va_runS (As := [.int p0, .int 0, .int 3600]) (rest := []) ⟨hx, hb, hml, hown, hts⟩ (c_X7_in l g p0 0 3600 _ hu1 _) (zcS hw0 zm4_113 zm4_115 zm1_8 zm4_114 hd_X7_in rfl rfl ⟨Nat.le_of_ble_eq_true rfl, Nat.le_of_ble_eq_true rfl⟩) ⟨zblind, zpre hK hP hD [] rfl rfl⟩ rfl rfl hl.1 rfl (lv_room (Nat.le_of_ble_eq_true rfl)) dX7_nextFull_5 ⟨Nat.zero_le _, Nat.zero_le _⟩) hP hD hS hA [] rfl (fun H locs hP hD hS => ?_)
  refine lv_if_eq (tgt := 23) hx hb dX7_nextFull_8 (by decide) (fun c2 => ?_) (fun c2 => ?_)
  · have hf := oi hf c2
    refine lv_aload_n hx hb dX7_nextFull_23 rfl (lv_at hl 0 rfl) ?_
    refine lv_iconst (v := 1) hx hb dX7_nextFull_24 (by decide) ?_
    obtain ⟨u3, hu3, hf⟩ := ob hf
    refine zk_iA (va_runV (As := [.int 1]) (rest := []) ⟨hx, hb, hml, hown, hts⟩ (c_X7_fails l g a v 1 _ hu3 _) (zcV hw0 zm4_116 zm4_119 zm1_8 zm4_118 zs5_1 hd_X7_fails rfl rfl ⟨Nat.le_of_ble_eq_true rfl, Nat.le_of_ble_eq_true rfl⟩) ⟨zblind, zrecvA hK hP (ci := 7) rfl rfl, zpreA hK hP hD⟩ rfl rfl hl.1 rfl (lv_room (Nat.le_of_ble_eq_true rfl)) dX7_nextFull_25 ⟨Nat.zero_le _, Nat.zero_le _⟩) hP hD hS hA (fun H locs hP hD hS => ?_)
    have hP : va_P g.1 vwCl (zX7 g a u3.2) H := hP
    have hD : va_D A (zX7 g a u3.2) := hD
    have hR : (u3.1, u3.2) = r := Option.some.inj hf
    subst hR
    exact W.iret (v := u3.1) hx hb hr0 (fun t ht hW => ⟨⟨u3.1, (), rfl, rfl, by rw [ht]; exact hP, hD⟩, hS.F ht⟩) hS.2.2 dX7_nextFull_28
  · have hf := oe hf c2
    refine lv_aload_n hx hb dX7_nextFull_11 rfl (lv_at hl 0 rfl) ?_
    refine lv_aload_n hx hb dX7_nextFull_12 rfl (lv_at hl 0 rfl) ?_
    refine lv_iload_n hx hb dX7_nextFull_13 rfl (lv_at hl 1 rfl) ?_
    obtain ⟨u4, hu4, hf⟩ := ob hf
    refine zk_iA (va_runV (As := [.int p0]) (rest := [.ref (a 0)]) ⟨hx, hb, hml, hown, hts⟩ (c_X7_fullAbove l g a v p0 _ hu4 _) (zcV hw0 zm5_106 zm5_109 zm1_8 zm5_108 zs7_7 hd_X7_fullAbove rfl rfl ⟨Nat.le_of_ble_eq_true rfl, Nat.le_of_ble_eq_true rfl⟩) ⟨zblind, zrecvA hK hP (ci := 7) rfl rfl, zpreA hK hP hD⟩ rfl rfl hl.1 rfl (lv_room (Nat.le_of_ble_eq_true rfl)) dX7_nextFull_14 ⟨Nat.zero_le _, Nat.zero_le _⟩) hP hD hS hA (fun H locs hP hD hS => ?_)
    obtain ⟨u5, hu5, hf⟩ := ob hf
    refine zk_iA (va_runV (As := [.int u4]) (rest := []) ⟨hx, hb, hml, hown, hts⟩ (c_X7_tells l g a v u4 _ hu5 _) (zcV hw0 zm5_35 zm5_38 zm1_8 zm5_37 zs7_0 hd_X7_tells rfl rfl ⟨Nat.le_of_ble_eq_true rfl, Nat.le_of_ble_eq_true rfl⟩) ⟨zblind, zrecvA hK hP (ci := 7) rfl rfl, zpreA hK hP hD⟩ rfl rfl hl.1 rfl (lv_room (Nat.le_of_ble_eq_true rfl)) dX7_nextFull_17 ⟨Nat.zero_le _, Nat.zero_le _⟩) hP hD hS hA (fun H locs hP hD hS => ?_)
    have hP : va_P g.1 vwCl (zX7 g a u5.2) H := hP
    have hD : va_D A (zX7 g a u5.2) := hD
    refine lv_goto (tgt := 28) hx hb dX7_nextFull_20 (by decide) ?_
    have hR : (u5.1, u5.2) = r := Option.some.inj hf
    subst hR
    exact W.iret (v := u5.1) hx hb hr0 (fun t ht hW => ⟨⟨u5.1, (), rfl, rfl, by rw [ht]; exact hP, hD⟩, hS.F ht⟩) hS.2.2 dX7_nextFull_28
theorem hd_X7_doneThen : yX7_doneThen.cls ≠ "java/lang/invoke/MethodHandle" ∧ yX7_doneThen.cls ≠ "java/lang/invoke/VarHandle" ∧ (parseMethodDescriptor yX7_doneThen.desc).map (fun d => d.parameters.length) = some 0 := by decide +kernel
def s_X7_doneThen_4 (v : MV) (x : Int32 × Int32) : Option ((Int32 × Int32) ⊕ (Int32 × Int32)) :=
  if (v.1 7) ≤ x.2 then
    some (.inr (x.1, x.2))
  else
    if zin ((10 + (5 * x.2)) + 3) 220 = true then
    if (v.2.2.2.1 ((10 + (5 * x.2)) + 3).toNatClampNeg) = 2 then
      some (.inl ((x.1 + 1), (x.2 + 1)))
    else
      some (.inl ((x.1 + 0), (x.2 + 1)))
    else none
def f_X7_doneThen (v : MV) : Option (Int32) :=
  (zloop (s_X7_doneThen_4 v) 4096 (0, 0)).bind (fun u4 =>
  some u4.1)
set_option maxHeartbeats 4000000 in
set_option maxRecDepth 100000 in
theorem c_X7_doneThen (l : Launch) (g : zG) (a : Nat → Nat) (v : MV) (r : Int32) (hf : f_X7_doneThen v = some r) : zMi zNF zNM l yX7_doneThen (zw yX7_doneThen cX7_doneThen 3 (some .int)) ({ frames := 0, cells := 0, slots := 0, locals := 0 } : Room) g [.ref (a 0)] (zX7 g a v) r (zX7 g a v) := by
  intro sz
  refine Met.ofW (cc := cX7_doneThen) (maxL := 3) (ret := (some .int)) (by decide) rfl ?_
  intro p e s m args below meth c s₁ B hml hv
  obtain ⟨rfl, hsz, hP, hK, hD0⟩ := hv
  have hx := B.exec
  have hb := B.bytes
  have hr0 := B.returns
  have hts := atoms_spec (ws := (zw yX7_doneThen cX7_doneThen 3 (some .int))) B.pre
  have hw0 : ∀ w ∈ zW, w.before ([.ref (a 0)] : List Value).toArray s = true := fun w h => hts w (List.mem_cons_of_mem _ h)
  have hown : s.vm.findClass RX7 = some m.cls := findClass_of_methodNamed B.named
  have hlocks := B.notSynchronized
  subst hsz
  have hD := hD0.self (sz := s.heap.size)
  generalize hAe : va_A (zX7 g a v) s.heap.size = A at hD ⊢
  have hA : ∀ q : Nat, s.heap.size ≤ q → A q := fun q h => by rw [← hAe]; exact Or.inr h
  have hS : va_S A s.heap s.heap [] := va_S.rf
  have lp4 : ∀ (v : MV), ∀ (n : Nat) (x : Int32 × Int32) (rr : Int32 × Int32), zloop (s_X7_doneThen_4 v) n x = some rr → (∀ (H : Heap) (locs : List Loc), va_P g.1 vwCl (zX7 g a v) H → va_D A (zX7 g a v) → va_S A s.heap H locs → ∀ ls : Array Slot, lv_has ls 3 [(1, .int rr.1)] → W p l e (headSpec (zw yX7_doneThen cX7_doneThen 3 (some .int)) ({ frames := 0, cells := 0, slots := 0, locals := 0 } : Room)).room s m ([.ref (a 0)] : List Value).toArray below meth c H locs 0 0 (MQ below (va_Qi (fun (x : Int32) (_ : Unit) => x = r) (fun _ => zEnd g A (zX7 g a v)) A) ([.ref (a 0)] : List Value).toArray s 0 0 A) (F0 m 46 ls [])) → ∀ (H : Heap) (locs : List Loc), va_P g.1 vwCl (zX7 g a v) H → va_D A (zX7 g a v) → va_S A s.heap H locs → ∀ ls : Array Slot, lv_has ls 3 [(0, .ref (a 0)), (1, .int x.1), (2, .int x.2)] → W p l e (headSpec (zw yX7_doneThen cX7_doneThen 3 (some .int)) ({ frames := 0, cells := 0, slots := 0, locals := 0 } : Room)).room s m ([.ref (a 0)] : List Value).toArray below meth c H locs 0 0 (MQ below (va_Qi (fun (x : Int32) (_ : Unit) => x = r) (fun _ => zEnd g A (zX7 g a v)) A) ([.ref (a 0)] : List Value).toArray s 0 0 A) (F0 m 4 ls []) := by
    intro v
    refine zloop_ind ?_
    intro x y rr hf ih hr hQ H locs hP hD hS ls hl
    unfold s_X7_doneThen_4 at hf
    refine lv_iload_n hx hb dX7_doneThen_4 rfl (lv_at hl 2 rfl) ?_
    refine lv_aload_n hx hb dX7_doneThen_5 rfl (lv_at hl 0 rfl) ?_
    refine va_get (D := g.1) (ci := 7) (v := .ref (a 1)) (C := RX7) (T := TX7) (N := 11) hx hb hw0 ziX7 hown hK.1 hP 0 rfl rfl 0 (by decide) (hw0 _ zm4_71) (fun _ h9 => h9) rfl dX7_doneThen_6 ?_
    refine lv_bipush (v := 7) hx hb dX7_doneThen_9 (by decide) ?_
    refine zald (D := g.1) (f := v.1) (k := 7) hx hb hK.1 hP 1 0 rfl rfl (zin_vp (i := 7) (n := 220) rfl) rfl dX7_doneThen_11 ?_
    refine lv_icmp_ge (tgt := 46) hx hb dX7_doneThen_12 (by decide) (fun c1 => ?_) (fun c1 => ?_)
    · have hf := oi hf c1
      have hR : (x.1, x.2) = rr := hr _ (Option.some.inj hf).symm
      subst hR
      exact hQ _ _ hP hD hS _ (lv_sub hl [1] rfl)
    · have hf := oe hf c1
      refine lv_iload_n hx hb dX7_doneThen_15 rfl (lv_at hl 1 rfl) ?_
      refine lv_aload_n hx hb dX7_doneThen_16 rfl (lv_at hl 0 rfl) ?_
      refine va_get (D := g.1) (ci := 7) (v := .ref (a 4)) (C := RX7) (T := TX7) (N := 11) hx hb hw0 ziX7 hown hK.1 hP 0 rfl rfl 3 (by decide) (hw0 _ zm4_74) (fun _ h9 => h9) rfl dX7_doneThen_17 ?_
      refine lv_bipush (v := 10) hx hb dX7_doneThen_20 (by decide) ?_
      refine lv_iconst (v := 5) hx hb dX7_doneThen_22 (by decide) ?_
      refine lv_iload_n hx hb dX7_doneThen_23 rfl (lv_at hl 2 rfl) ?_
      refine lv_imul hx hb dX7_doneThen_24 ?_
      refine lv_iadd hx hb dX7_doneThen_25 ?_
      refine lv_iconst (v := 3) hx hb dX7_doneThen_26 (by decide) ?_
      refine lv_iadd hx hb dX7_doneThen_27 ?_
      obtain ⟨h2, hf⟩ := og hf
      refine zald (D := g.1) (f := v.2.2.2.1) (k := ((10 + (5 * x.2)) + 3).toNatClampNeg) hx hb hK.1 hP 4 0 rfl rfl (zin_vp h2) rfl dX7_doneThen_28 ?_
      refine lv_iconst (v := 2) hx hb dX7_doneThen_29 (by decide) ?_
      refine lv_icmp_ne (tgt := 37) hx hb dX7_doneThen_30 (by decide) (fun c3 => ?_) (fun c3 => ?_)
      · have hf := oe hf c3
        refine lv_iconst (v := 0) hx hb dX7_doneThen_37 (by decide) ?_
        refine lv_iadd hx hb dX7_doneThen_38 ?_
        refine lv_istore_n (lv' := [(1, .int (x.1 + 0)), (0, .ref (a 0)), (2, .int x.2)]) hx hb dX7_doneThen_39 rfl hl (by decide) rfl (fun ls hl => ?_)
        refine lv_iinc (v := (x.2 + 1)) (lv' := [(2, .int (x.2 + 1)), (1, .int (x.1 + 0)), (0, .ref (a 0))]) hx hb dX7_doneThen_40 hl (k := 2) rfl rfl (by decide) rfl (fun ls hl => ?_)
        refine lv_goto (tgt := 4) hx hb dX7_doneThen_43 (by decide) ?_
        exact ih ((x.1 + 0), (x.2 + 1)) (Option.some.inj hf).symm hQ _ _ hP hD hS _ (lv_sub hl [2, 1, 0] rfl)
      · have hf := oi hf c3
        refine lv_iconst (v := 1) hx hb dX7_doneThen_33 (by decide) ?_
        refine lv_goto (tgt := 38) hx hb dX7_doneThen_34 (by decide) ?_
        refine lv_iadd hx hb dX7_doneThen_38 ?_
        refine lv_istore_n (lv' := [(1, .int (x.1 + 1)), (0, .ref (a 0)), (2, .int x.2)]) hx hb dX7_doneThen_39 rfl hl (by decide) rfl (fun ls hl => ?_)
        refine lv_iinc (v := (x.2 + 1)) (lv' := [(2, .int (x.2 + 1)), (1, .int (x.1 + 1)), (0, .ref (a 0))]) hx hb dX7_doneThen_40 hl (k := 2) rfl rfl (by decide) rfl (fun ls hl => ?_)
        refine lv_goto (tgt := 4) hx hb dX7_doneThen_43 (by decide) ?_
        exact ih ((x.1 + 1), (x.2 + 1)) (Option.some.inj hf).symm hQ _ _ hP hD hS _ (lv_sub hl [2, 1, 0] rfl)
  unfold f_X7_doneThen at hf
  have hl := lv_entry ([.ref (a 0)]) (n := 3) (Nat.le_of_ble_eq_true rfl)
  rw [lg_entry_eq]
  generalize (lg_sl ([.ref (a 0)]) ++ List.replicate (3 - (lg_sl ([.ref (a 0)])).length) Slot.unset).toArray = ls at hl ⊢
  have hl : lv_has ls 3 [(0, .ref (a 0))] := hl
  refine lv_iconst (v := 0) hx hb dX7_doneThen_0 (by decide) ?_
  refine lv_istore_n (lv' := [(1, .int 0), (0, .ref (a 0))]) hx hb dX7_doneThen_1 rfl hl (by decide) rfl (fun ls hl => ?_)
  refine lv_iconst (v := 0) hx hb dX7_doneThen_2 (by decide) ?_
  refine lv_istore_n (lv' := [(2, .int 0), (1, .int 0), (0, .ref (a 0))]) hx hb dX7_doneThen_3 rfl hl (by decide) rfl (fun ls hl => ?_)
  obtain ⟨u4, hu4, hf⟩ := ob hf
  refine lp4 v _ _ u4 hu4 (fun H locs hP hD hS ls hl => ?_) _ _ hP hD hS _ (lv_sub hl [2, 1, 0] rfl)
  have hl : lv_has ls 3 [(1, .int u4.1)] := hl
  have hP : va_P g.1 vwCl (zX7 g a v) H := hP
  have hD : va_D A (zX7 g a v) := hD
  refine lv_iload_n hx hb dX7_doneThen_46 rfl (lv_at hl 0 rfl) ?_
  have hR : u4.1 = r := Option.some.inj hf
  subst hR
  exact W.iret (v := u4.1) hx hb hr0 (fun t ht hW => ⟨⟨u4.1, (), rfl, rfl, by rw [ht]; exact hP, hD⟩, hS.F ht⟩) hS.2.2 dX7_doneThen_47
theorem hd_X7_bestDrop : yX7_bestDrop.cls ≠ "java/lang/invoke/MethodHandle" ∧ yX7_bestDrop.cls ≠ "java/lang/invoke/VarHandle" ∧ (parseMethodDescriptor yX7_bestDrop.desc).map (fun d => d.parameters.length) = some 0 := by decide +kernel
def s_X7_bestDrop_18 (v : MV) (x : Int32 × Int32 × Int32 × MV) : Option ((Int32 × Int32 × Int32 × MV) ⊕ (Int32 × Int32 × Int32 × MV)) :=
  if (x.2.2.2.1 7) ≤ x.2.2.1 then
    some (.inr (x.1, x.2.1, x.2.2.1, x.2.2.2))
  else
    (f_X7_waits x.2.2.2 x.2.2.1).bind (fun u4 =>
    if (zb u4) = 0 then
      some (.inl (x.1, x.2.1, (x.2.2.1 + 1), x.2.2.2))
    else
      if zin ((10 + (5 * x.2.2.1)) + 3) 220 = true then
      (f_X7_foresees ((upd x.2.2.2.1 (((10 + (5 * x.2.2.1)) + 3).toNatClampNeg) 3), x.2.2.2.2.1, x.2.2.2.2.2.1, x.2.2.2.2.2.2.1, x.2.2.2.2.2.2.2.1, x.2.2.2.2.2.2.2.2.1, x.2.2.2.2.2.2.2.2.2.1, x.2.2.2.2.2.2.2.2.2.2.1, x.2.2.2.2.2.2.2.2.2.2.2.1, x.2.2.2.2.2.2.2.2.2.2.2.2.1, x.2.2.2.2.2.2.2.2.2.2.2.2.2)).bind (fun u7 =>
      if zin ((10 + (5 * x.2.2.1)) + 3) 220 = true then
      (f_X7_doneThen ((upd u7.1 (((10 + (5 * x.2.2.1)) + 3).toNatClampNeg) 0), u7.2.1, u7.2.2.1, u7.2.2.2.1, u7.2.2.2.2.1, u7.2.2.2.2.2.1, u7.2.2.2.2.2.2.1, u7.2.2.2.2.2.2.2.1, u7.2.2.2.2.2.2.2.2.1, u7.2.2.2.2.2.2.2.2.2.1, u7.2.2.2.2.2.2.2.2.2.2)).bind (fun u9 =>
      if u9 ≤ x.1 then
        (f_X7_doneThen ((upd u7.1 (((10 + (5 * x.2.2.1)) + 3).toNatClampNeg) 0), u7.2.1, u7.2.2.1, u7.2.2.2.1, u7.2.2.2.2.1, u7.2.2.2.2.2.1, u7.2.2.2.2.2.2.1, u7.2.2.2.2.2.2.2.1, u7.2.2.2.2.2.2.2.2.1, u7.2.2.2.2.2.2.2.2.2.1, u7.2.2.2.2.2.2.2.2.2.2)).bind (fun u11 =>
        if u11 ≤ x.1 then
          some (.inl (x.1, x.2.1, (x.2.2.1 + 1), ((upd u7.1 (((10 + (5 * x.2.2.1)) + 3).toNatClampNeg) 0), u7.2.1, u7.2.2.1, u7.2.2.2.1, u7.2.2.2.2.1, u7.2.2.2.2.2.1, u7.2.2.2.2.2.2.1, u7.2.2.2.2.2.2.2.1, u7.2.2.2.2.2.2.2.2.1, u7.2.2.2.2.2.2.2.2.2.1, u7.2.2.2.2.2.2.2.2.2.2)))
        else
          (f_X7_doneThen ((upd u7.1 (((10 + (5 * x.2.2.1)) + 3).toNatClampNeg) 0), u7.2.1, u7.2.2.1, u7.2.2.2.1, u7.2.2.2.2.1, u7.2.2.2.2.2.1, u7.2.2.2.2.2.2.1, u7.2.2.2.2.2.2.2.1, u7.2.2.2.2.2.2.2.2.1, u7.2.2.2.2.2.2.2.2.2.1, u7.2.2.2.2.2.2.2.2.2.2)).bind (fun u13 =>
          some (.inl (u13, x.2.1, (x.2.2.1 + 1), ((upd u7.1 (((10 + (5 * x.2.2.1)) + 3).toNatClampNeg) 0), u7.2.1, u7.2.2.1, u7.2.2.2.1, u7.2.2.2.2.1, u7.2.2.2.2.2.1, u7.2.2.2.2.2.2.1, u7.2.2.2.2.2.2.2.1, u7.2.2.2.2.2.2.2.2.1, u7.2.2.2.2.2.2.2.2.2.1, u7.2.2.2.2.2.2.2.2.2.2)))))
      else
        (f_X7_doneThen ((upd u7.1 (((10 + (5 * x.2.2.1)) + 3).toNatClampNeg) 0), u7.2.1, u7.2.2.1, u7.2.2.2.1, u7.2.2.2.2.1, u7.2.2.2.2.2.1, u7.2.2.2.2.2.2.1, u7.2.2.2.2.2.2.2.1, u7.2.2.2.2.2.2.2.2.1, u7.2.2.2.2.2.2.2.2.2.1, u7.2.2.2.2.2.2.2.2.2.2)).bind (fun u14 =>
        if u14 ≤ x.1 then
          some (.inl (x.1, x.2.2.1, (x.2.2.1 + 1), ((upd u7.1 (((10 + (5 * x.2.2.1)) + 3).toNatClampNeg) 0), u7.2.1, u7.2.2.1, u7.2.2.2.1, u7.2.2.2.2.1, u7.2.2.2.2.2.1, u7.2.2.2.2.2.2.1, u7.2.2.2.2.2.2.2.1, u7.2.2.2.2.2.2.2.2.1, u7.2.2.2.2.2.2.2.2.2.1, u7.2.2.2.2.2.2.2.2.2.2)))
        else
          (f_X7_doneThen ((upd u7.1 (((10 + (5 * x.2.2.1)) + 3).toNatClampNeg) 0), u7.2.1, u7.2.2.1, u7.2.2.2.1, u7.2.2.2.2.1, u7.2.2.2.2.2.1, u7.2.2.2.2.2.2.1, u7.2.2.2.2.2.2.2.1, u7.2.2.2.2.2.2.2.2.1, u7.2.2.2.2.2.2.2.2.2.1, u7.2.2.2.2.2.2.2.2.2.2)).bind (fun u16 =>
          some (.inl (u16, x.2.2.1, (x.2.2.1 + 1), ((upd u7.1 (((10 + (5 * x.2.2.1)) + 3).toNatClampNeg) 0), u7.2.1, u7.2.2.1, u7.2.2.2.1, u7.2.2.2.2.1, u7.2.2.2.2.2.1, u7.2.2.2.2.2.2.1, u7.2.2.2.2.2.2.2.1, u7.2.2.2.2.2.2.2.2.1, u7.2.2.2.2.2.2.2.2.2.1, u7.2.2.2.2.2.2.2.2.2.2))))))
      else none)
      else none)
def f_X7_bestDrop (v : MV) : Option (Int32 × MV) :=
  (f_X7_foresees (v.1, v.2.1, v.2.2.1, v.2.2.2.1, v.2.2.2.2.1, v.2.2.2.2.2.1, v.2.2.2.2.2.2.1, 0, v.2.2.2.2.2.2.2.2.1, v.2.2.2.2.2.2.2.2.2.1, v.2.2.2.2.2.2.2.2.2.2)).bind (fun u1 =>
  (f_X7_doneThen u1).bind (fun u2 =>
  (zloop (s_X7_bestDrop_18 u1) 4096 (u2, (-1), 0, u1)).bind (fun u17 =>
  some (u17.2.1, u17.2.2.2))))
set_option maxHeartbeats 4000000 in
set_option maxRecDepth 100000 in
theorem c_X7_bestDrop (l : Launch) (g : zG) (a : Nat → Nat) (v : MV) (r : Int32 × MV) (hf : f_X7_bestDrop v = some r) : zMi zNF zNM l yX7_bestDrop (zw yX7_bestDrop cX7_bestDrop 4 (some .int)) ({ frames := 6, cells := 0, slots := 0, locals := 141 } : Room) g [.ref (a 0)] (zX7 g a v) r.1 (zX7 g a r.2) := by
  intro sz
  refine Met.ofW (cc := cX7_bestDrop) (maxL := 4) (ret := (some .int)) (by decide) rfl ?_
  intro p e s m args below meth c s₁ B hml hv
  obtain ⟨rfl, hsz, hP, hK, hD0⟩ := hv
  have hx := B.exec
  have hb := B.bytes
  have hr0 := B.returns
  have hts := atoms_spec (ws := (zw yX7_bestDrop cX7_bestDrop 4 (some .int))) B.pre
  have hw0 : ∀ w ∈ zW, w.before ([.ref (a 0)] : List Value).toArray s = true := fun w h => hts w (List.mem_cons_of_mem _ h)
  have hown : s.vm.findClass RX7 = some m.cls := findClass_of_methodNamed B.named
  have hlocks := B.notSynchronized
  subst hsz
  have hD := hD0.self (sz := s.heap.size)
  generalize hAe : va_A (zX7 g a v) s.heap.size = A at hD ⊢
  have hA : ∀ q : Nat, s.heap.size ≤ q → A q := fun q h => by rw [← hAe]; exact Or.inr h
  have hS : va_S A s.heap s.heap [] := va_S.rf
  have lp18 : ∀ (v : MV), ∀ (n : Nat) (x : Int32 × Int32 × Int32 × MV) (rr : Int32 × Int32 × Int32 × MV), zloop (s_X7_bestDrop_18 v) n x = some rr → (∀ (H : Heap) (locs : List Loc), va_P g.1 vwCl (zX7 g a rr.2.2.2) H → va_D A (zX7 g a rr.2.2.2) → va_S A s.heap H locs → ∀ ls : Array Slot, lv_has ls 4 [(2, .int rr.2.1)] → W p l e (headSpec (zw yX7_bestDrop cX7_bestDrop 4 (some .int)) ({ frames := 6, cells := 0, slots := 0, locals := 141 } : Room)).room s m ([.ref (a 0)] : List Value).toArray below meth c H locs 0 0 (MQ below (va_Qi (fun (x : Int32) (_ : Unit) => x = r.1) (fun _ => zEnd g A (zX7 g a r.2)) A) ([.ref (a 0)] : List Value).toArray s 0 0 A) (F0 m 106 ls [])) → ∀ (H : Heap) (locs : List Loc), va_P g.1 vwCl (zX7 g a x.2.2.2) H → va_D A (zX7 g a x.2.2.2) → va_S A s.heap H locs → ∀ ls : Array Slot, lv_has ls 4 [(0, .ref (a 0)), (1, .int x.1), (2, .int x.2.1), (3, .int x.2.2.1)] → W p l e (headSpec (zw yX7_bestDrop cX7_bestDrop 4 (some .int)) ({ frames := 6, cells := 0, slots := 0, locals := 141 } : Room)).room s m ([.ref (a 0)] : List Value).toArray below meth c H locs 0 0 (MQ below (va_Qi (fun (x : Int32) (_ : Unit) => x = r.1) (fun _ => zEnd g A (zX7 g a r.2)) A) ([.ref (a 0)] : List Value).toArray s 0 0 A) (F0 m 18 ls []) := by
    intro v
    refine zloop_ind ?_
    intro x y rr hf ih hr hQ H locs hP hD hS ls hl
    unfold s_X7_bestDrop_18 at hf
    refine lv_iload_n hx hb dX7_bestDrop_18 rfl (lv_at hl 3 rfl) ?_
    refine lv_aload_n hx hb dX7_bestDrop_19 rfl (lv_at hl 0 rfl) ?_
    refine va_get (D := g.1) (ci := 7) (v := .ref (a 1)) (C := RX7) (T := TX7) (N := 11) hx hb hw0 ziX7 hown hK.1 hP 0 rfl rfl 0 (by decide) (hw0 _ zm4_71) (fun _ h9 => h9) rfl dX7_bestDrop_20 ?_
    refine lv_bipush (v := 7) hx hb dX7_bestDrop_23 (by decide) ?_
    refine zald (D := g.1) (f := x.2.2.2.1) (k := 7) hx hb hK.1 hP 1 0 rfl rfl (zin_vp (i := 7) (n := 220) rfl) rfl dX7_bestDrop_25 ?_
    refine lv_icmp_ge (tgt := 106) hx hb dX7_bestDrop_26 (by decide) (fun c3 => ?_) (fun c3 => ?_)
    · have hf := oi hf c3
      have hR : (x.1, x.2.1, x.2.2.1, x.2.2.2) = rr := hr _ (Option.some.inj hf).symm
      subst hR
      exact hQ _ _ hP hD hS _ (lv_sub hl [2] rfl)
    · have hf := oe hf c3
      refine lv_aload_n hx hb dX7_bestDrop_29 rfl (lv_at hl 0 rfl) ?_
      refine lv_iload_n hx hb dX7_bestDrop_30 rfl (lv_at hl 3 rfl) ?_
      obtain ⟨u4, hu4, hf⟩ := ob hf
      refine zk_iA (va_runV (As := [.int x.2.2.1]) (rest := []) ⟨hx, hb, hml, hown, hts⟩ (c_X7_waits l g a x.2.2.2 x.2.2.1 _ hu4 _) (zcV hw0 zm4_160 zm4_163 zm1_8 zm4_162 zs5_9 hd_X7_waits rfl rfl ⟨Nat.le_of_ble_eq_true rfl, Nat.le_of_ble_eq_true rfl⟩) ⟨zblind, zrecvA hK hP (ci := 7) rfl rfl, zpreA hK hP hD⟩ rfl rfl hl.1 rfl (lv_room (Nat.le_of_ble_eq_true rfl)) dX7_bestDrop_31 ⟨Nat.zero_le _, Nat.zero_le _⟩) hP hD hS hA (fun H locs hP hD hS => ?_)
      refine lv_if_eq (tgt := 100) hx hb dX7_bestDrop_34 (by decide) (fun c5 => ?_) (fun c5 => ?_)
      · have hf := oi hf c5
        refine lv_iinc (v := (x.2.2.1 + 1)) (lv' := [(3, .int (x.2.2.1 + 1)), (0, .ref (a 0)), (1, .int x.1), (2, .int x.2.1)]) hx hb dX7_bestDrop_100 hl (k := 3) rfl rfl (by decide) rfl (fun ls hl => ?_)
        refine lv_goto (tgt := 18) hx hb dX7_bestDrop_103 (by decide) ?_
        exact ih (x.1, x.2.1, (x.2.2.1 + 1), x.2.2.2) (Option.some.inj hf).symm hQ _ _ hP hD hS _ (lv_sub hl [1, 2, 3, 0] rfl)
      · have hf := oe hf c5
        refine lv_aload_n hx hb dX7_bestDrop_37 rfl (lv_at hl 0 rfl) ?_
        refine va_get (D := g.1) (ci := 7) (v := .ref (a 1)) (C := RX7) (T := TX7) (N := 11) hx hb hw0 ziX7 hown hK.1 hP 0 rfl rfl 0 (by decide) (hw0 _ zm4_71) (fun _ h9 => h9) rfl dX7_bestDrop_38 ?_
        refine lv_bipush (v := 10) hx hb dX7_bestDrop_41 (by decide) ?_
        refine lv_iconst (v := 5) hx hb dX7_bestDrop_43 (by decide) ?_
        refine lv_iload_n hx hb dX7_bestDrop_44 rfl (lv_at hl 3 rfl) ?_
        refine lv_imul hx hb dX7_bestDrop_45 ?_
        refine lv_iadd hx hb dX7_bestDrop_46 ?_
        refine lv_iconst (v := 3) hx hb dX7_bestDrop_47 (by decide) ?_
        refine lv_iadd hx hb dX7_bestDrop_48 ?_
        refine lv_iconst (v := 3) hx hb dX7_bestDrop_49 (by decide) ?_
        obtain ⟨h6, hf⟩ := og hf
        refine zast (D := g.1) (f := x.2.2.2.1) (k := ((10 + (5 * x.2.2.1)) + 3).toNatClampNeg) (x := 3) hx hb hK.1 hP hD hS 1 0 rfl rfl (zin_vp h6) rfl dX7_bestDrop_50 (fun H locs hP hD hS => ?_)
        have hP : va_P g.1 vwCl (zX7 g a ((upd x.2.2.2.1 (((10 + (5 * x.2.2.1)) + 3).toNatClampNeg) 3), x.2.2.2.2.1, x.2.2.2.2.2.1, x.2.2.2.2.2.2.1, x.2.2.2.2.2.2.2.1, x.2.2.2.2.2.2.2.2.1, x.2.2.2.2.2.2.2.2.2.1, x.2.2.2.2.2.2.2.2.2.2.1, x.2.2.2.2.2.2.2.2.2.2.2.1, x.2.2.2.2.2.2.2.2.2.2.2.2.1, x.2.2.2.2.2.2.2.2.2.2.2.2.2)) H := hP
        have hD : va_D A (zX7 g a ((upd x.2.2.2.1 (((10 + (5 * x.2.2.1)) + 3).toNatClampNeg) 3), x.2.2.2.2.1, x.2.2.2.2.2.1, x.2.2.2.2.2.2.1, x.2.2.2.2.2.2.2.1, x.2.2.2.2.2.2.2.2.1, x.2.2.2.2.2.2.2.2.2.1, x.2.2.2.2.2.2.2.2.2.2.1, x.2.2.2.2.2.2.2.2.2.2.2.1, x.2.2.2.2.2.2.2.2.2.2.2.2.1, x.2.2.2.2.2.2.2.2.2.2.2.2.2)) := hD
        refine lv_aload_n hx hb dX7_bestDrop_51 rfl (lv_at hl 0 rfl) ?_
        obtain ⟨u7, hu7, hf⟩ := ob hf
        refine zk_vA (va_runV (As := []) (rest := []) ⟨hx, hb, hml, hown, hts⟩ (c_X7_foresees l g a ((upd x.2.2.2.1 (((10 + (5 * x.2.2.1)) + 3).toNatClampNeg) 3), x.2.2.2.2.1, x.2.2.2.2.2.1, x.2.2.2.2.2.2.1, x.2.2.2.2.2.2.2.1, x.2.2.2.2.2.2.2.2.1, x.2.2.2.2.2.2.2.2.2.1, x.2.2.2.2.2.2.2.2.2.2.1, x.2.2.2.2.2.2.2.2.2.2.2.1, x.2.2.2.2.2.2.2.2.2.2.2.2.1, x.2.2.2.2.2.2.2.2.2.2.2.2.2) _ hu7 _) (zcV hw0 zm5_79 zm5_82 zm1_8 zm5_81 zs7_6 hd_X7_foresees rfl rfl ⟨Nat.le_of_ble_eq_true rfl, Nat.le_of_ble_eq_true rfl⟩) ⟨zblind, zrecvA hK hP (ci := 7) rfl rfl, zpreA hK hP hD⟩ rfl rfl hl.1 rfl (lv_room (Nat.le_of_ble_eq_true rfl)) dX7_bestDrop_52 ⟨Nat.zero_le _, Nat.zero_le _⟩) hP hD hS hA (fun H locs hP hD hS => ?_)
        have hP : va_P g.1 vwCl (zX7 g a u7) H := hP
        have hD : va_D A (zX7 g a u7) := hD
        refine lv_aload_n hx hb dX7_bestDrop_55 rfl (lv_at hl 0 rfl) ?_
        refine va_get (D := g.1) (ci := 7) (v := .ref (a 1)) (C := RX7) (T := TX7) (N := 11) hx hb hw0 ziX7 hown hK.1 hP 0 rfl rfl 0 (by decide) (hw0 _ zm4_71) (fun _ h9 => h9) rfl dX7_bestDrop_56 ?_
        refine lv_bipush (v := 10) hx hb dX7_bestDrop_59 (by decide) ?_
        refine lv_iconst (v := 5) hx hb dX7_bestDrop_61 (by decide) ?_
        refine lv_iload_n hx hb dX7_bestDrop_62 rfl (lv_at hl 3 rfl) ?_
        refine lv_imul hx hb dX7_bestDrop_63 ?_
        refine lv_iadd hx hb dX7_bestDrop_64 ?_
        refine lv_iconst (v := 3) hx hb dX7_bestDrop_65 (by decide) ?_
        refine lv_iadd hx hb dX7_bestDrop_66 ?_
        refine lv_iconst (v := 0) hx hb dX7_bestDrop_67 (by decide) ?_
        obtain ⟨h8, hf⟩ := og hf
        refine zast (D := g.1) (f := u7.1) (k := ((10 + (5 * x.2.2.1)) + 3).toNatClampNeg) (x := 0) hx hb hK.1 hP hD hS 1 0 rfl rfl (zin_vp h8) rfl dX7_bestDrop_68 (fun H locs hP hD hS => ?_)
        have hP : va_P g.1 vwCl (zX7 g a ((upd u7.1 (((10 + (5 * x.2.2.1)) + 3).toNatClampNeg) 0), u7.2.1, u7.2.2.1, u7.2.2.2.1, u7.2.2.2.2.1, u7.2.2.2.2.2.1, u7.2.2.2.2.2.2.1, u7.2.2.2.2.2.2.2.1, u7.2.2.2.2.2.2.2.2.1, u7.2.2.2.2.2.2.2.2.2.1, u7.2.2.2.2.2.2.2.2.2.2)) H := hP
        have hD : va_D A (zX7 g a ((upd u7.1 (((10 + (5 * x.2.2.1)) + 3).toNatClampNeg) 0), u7.2.1, u7.2.2.1, u7.2.2.2.1, u7.2.2.2.2.1, u7.2.2.2.2.2.1, u7.2.2.2.2.2.2.1, u7.2.2.2.2.2.2.2.1, u7.2.2.2.2.2.2.2.2.1, u7.2.2.2.2.2.2.2.2.2.1, u7.2.2.2.2.2.2.2.2.2.2)) := hD
        refine lv_aload_n hx hb dX7_bestDrop_69 rfl (lv_at hl 0 rfl) ?_
        obtain ⟨u9, hu9, hf⟩ := ob hf
        refine zk_iA (va_runV (As := []) (rest := []) ⟨hx, hb, hml, hown, hts⟩ (c_X7_doneThen l g a ((upd u7.1 (((10 + (5 * x.2.2.1)) + 3).toNatClampNeg) 0), u7.2.1, u7.2.2.1, u7.2.2.2.1, u7.2.2.2.2.1, u7.2.2.2.2.2.1, u7.2.2.2.2.2.2.1, u7.2.2.2.2.2.2.2.1, u7.2.2.2.2.2.2.2.2.1, u7.2.2.2.2.2.2.2.2.2.1, u7.2.2.2.2.2.2.2.2.2.2) _ hu9 _) (zcV hw0 zm5_114 zm5_117 zm1_8 zm5_116 zs7_8 hd_X7_doneThen rfl rfl ⟨Nat.le_of_ble_eq_true rfl, Nat.le_of_ble_eq_true rfl⟩) ⟨zblind, zrecvA hK hP (ci := 7) rfl rfl, zpreA hK hP hD⟩ rfl rfl hl.1 rfl (lv_room (Nat.le_of_ble_eq_true rfl)) dX7_bestDrop_70 ⟨Nat.zero_le _, Nat.zero_le _⟩) hP hD hS hA (fun H locs hP hD hS => ?_)
        refine lv_iload_n hx hb dX7_bestDrop_73 rfl (lv_at hl 1 rfl) ?_
        refine lv_icmp_le (tgt := 81) hx hb dX7_bestDrop_74 (by decide) (fun c10 => ?_) (fun c10 => ?_)
        · have hf := oi hf c10
          refine lv_iload_n hx hb dX7_bestDrop_81 rfl (lv_at hl 2 rfl) ?_
          refine lv_istore_n (lv' := [(2, .int x.2.1), (0, .ref (a 0)), (1, .int x.1), (3, .int x.2.2.1)]) hx hb dX7_bestDrop_82 rfl hl (by decide) rfl (fun ls hl => ?_)
          refine lv_aload_n hx hb dX7_bestDrop_83 rfl (lv_at hl 1 rfl) ?_
          obtain ⟨u11, hu11, hf⟩ := ob hf
          refine zk_iA (va_runV (As := []) (rest := []) ⟨hx, hb, hml, hown, hts⟩ (c_X7_doneThen l g a ((upd u7.1 (((10 + (5 * x.2.2.1)) + 3).toNatClampNeg) 0), u7.2.1, u7.2.2.1, u7.2.2.2.1, u7.2.2.2.2.1, u7.2.2.2.2.2.1, u7.2.2.2.2.2.2.1, u7.2.2.2.2.2.2.2.1, u7.2.2.2.2.2.2.2.2.1, u7.2.2.2.2.2.2.2.2.2.1, u7.2.2.2.2.2.2.2.2.2.2) _ hu11 _) (zcV hw0 zm5_114 zm5_117 zm1_8 zm5_116 zs7_8 hd_X7_doneThen rfl rfl ⟨Nat.le_of_ble_eq_true rfl, Nat.le_of_ble_eq_true rfl⟩) ⟨zblind, zrecvA hK hP (ci := 7) rfl rfl, zpreA hK hP hD⟩ rfl rfl hl.1 rfl (lv_room (Nat.le_of_ble_eq_true rfl)) dX7_bestDrop_84 ⟨Nat.zero_le _, Nat.zero_le _⟩) hP hD hS hA (fun H locs hP hD hS => ?_)
          refine lv_iload_n hx hb dX7_bestDrop_87 rfl (lv_at hl 2 rfl) ?_
          refine lv_icmp_le (tgt := 98) hx hb dX7_bestDrop_88 (by decide) (fun c12 => ?_) (fun c12 => ?_)
          · have hf := oi hf c12
            refine lv_iload_n hx hb dX7_bestDrop_98 rfl (lv_at hl 2 rfl) ?_
            refine lv_istore_n (lv' := [(1, .int x.1), (2, .int x.2.1), (0, .ref (a 0)), (3, .int x.2.2.1)]) hx hb dX7_bestDrop_99 rfl hl (by decide) rfl (fun ls hl => ?_)
            refine lv_iinc (v := (x.2.2.1 + 1)) (lv' := [(3, .int (x.2.2.1 + 1)), (1, .int x.1), (2, .int x.2.1), (0, .ref (a 0))]) hx hb dX7_bestDrop_100 hl (k := 3) rfl rfl (by decide) rfl (fun ls hl => ?_)
            refine lv_goto (tgt := 18) hx hb dX7_bestDrop_103 (by decide) ?_
            exact ih (x.1, x.2.1, (x.2.2.1 + 1), ((upd u7.1 (((10 + (5 * x.2.2.1)) + 3).toNatClampNeg) 0), u7.2.1, u7.2.2.1, u7.2.2.2.1, u7.2.2.2.2.1, u7.2.2.2.2.2.1, u7.2.2.2.2.2.2.1, u7.2.2.2.2.2.2.2.1, u7.2.2.2.2.2.2.2.2.1, u7.2.2.2.2.2.2.2.2.2.1, u7.2.2.2.2.2.2.2.2.2.2)) (Option.some.inj hf).symm hQ _ _ hP hD hS _ (lv_sub hl [3, 1, 2, 0] rfl)
          · have hf := oe hf c12
            refine lv_aload_n hx hb dX7_bestDrop_91 rfl (lv_at hl 1 rfl) ?_
            obtain ⟨u13, hu13, hf⟩ := ob hf
            refine zk_iA (va_runV (As := []) (rest := []) ⟨hx, hb, hml, hown, hts⟩ (c_X7_doneThen l g a ((upd u7.1 (((10 + (5 * x.2.2.1)) + 3).toNatClampNeg) 0), u7.2.1, u7.2.2.1, u7.2.2.2.1, u7.2.2.2.2.1, u7.2.2.2.2.2.1, u7.2.2.2.2.2.2.1, u7.2.2.2.2.2.2.2.1, u7.2.2.2.2.2.2.2.2.1, u7.2.2.2.2.2.2.2.2.2.1, u7.2.2.2.2.2.2.2.2.2.2) _ hu13 _) (zcV hw0 zm5_114 zm5_117 zm1_8 zm5_116 zs7_8 hd_X7_doneThen rfl rfl ⟨Nat.le_of_ble_eq_true rfl, Nat.le_of_ble_eq_true rfl⟩) ⟨zblind, zrecvA hK hP (ci := 7) rfl rfl, zpreA hK hP hD⟩ rfl rfl hl.1 rfl (lv_room (Nat.le_of_ble_eq_true rfl)) dX7_bestDrop_92 ⟨Nat.zero_le _, Nat.zero_le _⟩) hP hD hS hA (fun H locs hP hD hS => ?_)
            refine lv_goto (tgt := 99) hx hb dX7_bestDrop_95 (by decide) ?_
            refine lv_istore_n (lv' := [(1, .int u13), (2, .int x.2.1), (0, .ref (a 0)), (3, .int x.2.2.1)]) hx hb dX7_bestDrop_99 rfl hl (by decide) rfl (fun ls hl => ?_)
            refine lv_iinc (v := (x.2.2.1 + 1)) (lv' := [(3, .int (x.2.2.1 + 1)), (1, .int u13), (2, .int x.2.1), (0, .ref (a 0))]) hx hb dX7_bestDrop_100 hl (k := 3) rfl rfl (by decide) rfl (fun ls hl => ?_)
            refine lv_goto (tgt := 18) hx hb dX7_bestDrop_103 (by decide) ?_
            exact ih (u13, x.2.1, (x.2.2.1 + 1), ((upd u7.1 (((10 + (5 * x.2.2.1)) + 3).toNatClampNeg) 0), u7.2.1, u7.2.2.1, u7.2.2.2.1, u7.2.2.2.2.1, u7.2.2.2.2.2.1, u7.2.2.2.2.2.2.1, u7.2.2.2.2.2.2.2.1, u7.2.2.2.2.2.2.2.2.1, u7.2.2.2.2.2.2.2.2.2.1, u7.2.2.2.2.2.2.2.2.2.2)) (Option.some.inj hf).symm hQ _ _ hP hD hS _ (lv_sub hl [3, 1, 2, 0] rfl)
        · have hf := oe hf c10
          refine lv_iload_n hx hb dX7_bestDrop_77 rfl (lv_at hl 3 rfl) ?_
          refine lv_goto (tgt := 82) hx hb dX7_bestDrop_78 (by decide) ?_
          refine lv_istore_n (lv' := [(2, .int x.2.2.1), (0, .ref (a 0)), (1, .int x.1), (3, .int x.2.2.1)]) hx hb dX7_bestDrop_82 rfl hl (by decide) rfl (fun ls hl => ?_)
          refine lv_aload_n hx hb dX7_bestDrop_83 rfl (lv_at hl 1 rfl) ?_
          obtain ⟨u14, hu14, hf⟩ := ob hf
          refine zk_iA (va_runV (As := []) (rest := []) ⟨hx, hb, hml, hown, hts⟩ (c_X7_doneThen l g a ((upd u7.1 (((10 + (5 * x.2.2.1)) + 3).toNatClampNeg) 0), u7.2.1, u7.2.2.1, u7.2.2.2.1, u7.2.2.2.2.1, u7.2.2.2.2.2.1, u7.2.2.2.2.2.2.1, u7.2.2.2.2.2.2.2.1, u7.2.2.2.2.2.2.2.2.1, u7.2.2.2.2.2.2.2.2.2.1, u7.2.2.2.2.2.2.2.2.2.2) _ hu14 _) (zcV hw0 zm5_114 zm5_117 zm1_8 zm5_116 zs7_8 hd_X7_doneThen rfl rfl ⟨Nat.le_of_ble_eq_true rfl, Nat.le_of_ble_eq_true rfl⟩) ⟨zblind, zrecvA hK hP (ci := 7) rfl rfl, zpreA hK hP hD⟩ rfl rfl hl.1 rfl (lv_room (Nat.le_of_ble_eq_true rfl)) dX7_bestDrop_84 ⟨Nat.zero_le _, Nat.zero_le _⟩) hP hD hS hA (fun H locs hP hD hS => ?_)
          refine lv_iload_n hx hb dX7_bestDrop_87 rfl (lv_at hl 2 rfl) ?_
          refine lv_icmp_le (tgt := 98) hx hb dX7_bestDrop_88 (by decide) (fun c15 => ?_) (fun c15 => ?_)
          · have hf := oi hf c15
            refine lv_iload_n hx hb dX7_bestDrop_98 rfl (lv_at hl 2 rfl) ?_
            refine lv_istore_n (lv' := [(1, .int x.1), (2, .int x.2.2.1), (0, .ref (a 0)), (3, .int x.2.2.1)]) hx hb dX7_bestDrop_99 rfl hl (by decide) rfl (fun ls hl => ?_)
            refine lv_iinc (v := (x.2.2.1 + 1)) (lv' := [(3, .int (x.2.2.1 + 1)), (1, .int x.1), (2, .int x.2.2.1), (0, .ref (a 0))]) hx hb dX7_bestDrop_100 hl (k := 3) rfl rfl (by decide) rfl (fun ls hl => ?_)
            refine lv_goto (tgt := 18) hx hb dX7_bestDrop_103 (by decide) ?_
            exact ih (x.1, x.2.2.1, (x.2.2.1 + 1), ((upd u7.1 (((10 + (5 * x.2.2.1)) + 3).toNatClampNeg) 0), u7.2.1, u7.2.2.1, u7.2.2.2.1, u7.2.2.2.2.1, u7.2.2.2.2.2.1, u7.2.2.2.2.2.2.1, u7.2.2.2.2.2.2.2.1, u7.2.2.2.2.2.2.2.2.1, u7.2.2.2.2.2.2.2.2.2.1, u7.2.2.2.2.2.2.2.2.2.2)) (Option.some.inj hf).symm hQ _ _ hP hD hS _ (lv_sub hl [3, 1, 2, 0] rfl)
          · have hf := oe hf c15
            refine lv_aload_n hx hb dX7_bestDrop_91 rfl (lv_at hl 1 rfl) ?_
            obtain ⟨u16, hu16, hf⟩ := ob hf
            refine zk_iA (va_runV (As := []) (rest := []) ⟨hx, hb, hml, hown, hts⟩ (c_X7_doneThen l g a ((upd u7.1 (((10 + (5 * x.2.2.1)) + 3).toNatClampNeg) 0), u7.2.1, u7.2.2.1, u7.2.2.2.1, u7.2.2.2.2.1, u7.2.2.2.2.2.1, u7.2.2.2.2.2.2.1, u7.2.2.2.2.2.2.2.1, u7.2.2.2.2.2.2.2.2.1, u7.2.2.2.2.2.2.2.2.2.1, u7.2.2.2.2.2.2.2.2.2.2) _ hu16 _) (zcV hw0 zm5_114 zm5_117 zm1_8 zm5_116 zs7_8 hd_X7_doneThen rfl rfl ⟨Nat.le_of_ble_eq_true rfl, Nat.le_of_ble_eq_true rfl⟩) ⟨zblind, zrecvA hK hP (ci := 7) rfl rfl, zpreA hK hP hD⟩ rfl rfl hl.1 rfl (lv_room (Nat.le_of_ble_eq_true rfl)) dX7_bestDrop_92 ⟨Nat.zero_le _, Nat.zero_le _⟩) hP hD hS hA (fun H locs hP hD hS => ?_)
            refine lv_goto (tgt := 99) hx hb dX7_bestDrop_95 (by decide) ?_
            refine lv_istore_n (lv' := [(1, .int u16), (2, .int x.2.2.1), (0, .ref (a 0)), (3, .int x.2.2.1)]) hx hb dX7_bestDrop_99 rfl hl (by decide) rfl (fun ls hl => ?_)
            refine lv_iinc (v := (x.2.2.1 + 1)) (lv' := [(3, .int (x.2.2.1 + 1)), (1, .int u16), (2, .int x.2.2.1), (0, .ref (a 0))]) hx hb dX7_bestDrop_100 hl (k := 3) rfl rfl (by decide) rfl (fun ls hl => ?_)
            refine lv_goto (tgt := 18) hx hb dX7_bestDrop_103 (by decide) ?_
            exact ih (u16, x.2.2.1, (x.2.2.1 + 1), ((upd u7.1 (((10 + (5 * x.2.2.1)) + 3).toNatClampNeg) 0), u7.2.1, u7.2.2.1, u7.2.2.2.1, u7.2.2.2.2.1, u7.2.2.2.2.2.1, u7.2.2.2.2.2.2.1, u7.2.2.2.2.2.2.2.1, u7.2.2.2.2.2.2.2.2.1, u7.2.2.2.2.2.2.2.2.2.1, u7.2.2.2.2.2.2.2.2.2.2)) (Option.some.inj hf).symm hQ _ _ hP hD hS _ (lv_sub hl [3, 1, 2, 0] rfl)
  unfold f_X7_bestDrop at hf
  have hl := lv_entry ([.ref (a 0)]) (n := 4) (Nat.le_of_ble_eq_true rfl)
  rw [lg_entry_eq]
  generalize (lg_sl ([.ref (a 0)]) ++ List.replicate (4 - (lg_sl ([.ref (a 0)])).length) Slot.unset).toArray = ls at hl ⊢
  have hl : lv_has ls 4 [(0, .ref (a 0))] := hl
  refine lv_aload_n hx hb dX7_bestDrop_0 rfl (lv_at hl 0 rfl) ?_
  refine lv_iconst (v := 0) hx hb dX7_bestDrop_1 (by decide) ?_
  refine va_put (D := g.1) (ci := 7) (v := .int 0) (ty := .int) (C := RX7) (T := TX7) (N := 11) hx hb hw0 ziX7 tyX7 tyX7_ok nmX7 hown hK.1 hP hD hS 0 rfl rfl 7 (by decide) (hw0 _ zm4_78) (fun _ h9 => h9) rfl (tyX7_ok 7 (by decide)) rfl rfl (Nat.le_of_ble_eq_true rfl) dX7_bestDrop_2 (fun H locs hP hD hS => ?_)
  have hP : va_P g.1 vwCl (zX7 g a (v.1, v.2.1, v.2.2.1, v.2.2.2.1, v.2.2.2.2.1, v.2.2.2.2.2.1, v.2.2.2.2.2.2.1, 0, v.2.2.2.2.2.2.2.2.1, v.2.2.2.2.2.2.2.2.2.1, v.2.2.2.2.2.2.2.2.2.2)) H := hP
  have hD : va_D A (zX7 g a (v.1, v.2.1, v.2.2.1, v.2.2.2.1, v.2.2.2.2.1, v.2.2.2.2.2.1, v.2.2.2.2.2.2.1, 0, v.2.2.2.2.2.2.2.2.1, v.2.2.2.2.2.2.2.2.2.1, v.2.2.2.2.2.2.2.2.2.2)) := hD
  refine lv_aload_n hx hb dX7_bestDrop_5 rfl (lv_at hl 0 rfl) ?_
  obtain ⟨u1, hu1, hf⟩ := ob hf
  refine zk_vA (va_runV (As := []) (rest := []) ⟨hx, hb, hml, hown, hts⟩ (c_X7_foresees l g a (v.1, v.2.1, v.2.2.1, v.2.2.2.1, v.2.2.2.2.1, v.2.2.2.2.2.1, v.2.2.2.2.2.2.1, 0, v.2.2.2.2.2.2.2.2.1, v.2.2.2.2.2.2.2.2.2.1, v.2.2.2.2.2.2.2.2.2.2) _ hu1 _) (zcV hw0 zm5_79 zm5_82 zm1_8 zm5_81 zs7_6 hd_X7_foresees rfl rfl ⟨Nat.le_of_ble_eq_true rfl, Nat.le_of_ble_eq_true rfl⟩) ⟨zblind, zrecvA hK hP (ci := 7) rfl rfl, zpreA hK hP hD⟩ rfl rfl hl.1 rfl (lv_room (Nat.le_of_ble_eq_true rfl)) dX7_bestDrop_6 ⟨Nat.zero_le _, Nat.zero_le _⟩) hP hD hS hA (fun H locs hP hD hS => ?_)
  have hP : va_P g.1 vwCl (zX7 g a u1) H := hP
  have hD : va_D A (zX7 g a u1) := hD
  refine lv_aload_n hx hb dX7_bestDrop_9 rfl (lv_at hl 0 rfl) ?_
  obtain ⟨u2, hu2, hf⟩ := ob hf
  refine zk_iA (va_runV (As := []) (rest := []) ⟨hx, hb, hml, hown, hts⟩ (c_X7_doneThen l g a u1 _ hu2 _) (zcV hw0 zm5_114 zm5_117 zm1_8 zm5_116 zs7_8 hd_X7_doneThen rfl rfl ⟨Nat.le_of_ble_eq_true rfl, Nat.le_of_ble_eq_true rfl⟩) ⟨zblind, zrecvA hK hP (ci := 7) rfl rfl, zpreA hK hP hD⟩ rfl rfl hl.1 rfl (lv_room (Nat.le_of_ble_eq_true rfl)) dX7_bestDrop_10 ⟨Nat.zero_le _, Nat.zero_le _⟩) hP hD hS hA (fun H locs hP hD hS => ?_)
  refine lv_istore_n (lv' := [(1, .int u2), (0, .ref (a 0))]) hx hb dX7_bestDrop_13 rfl hl (by decide) rfl (fun ls hl => ?_)
  refine lv_iconst (v := (-1)) hx hb dX7_bestDrop_14 (by decide) ?_
  refine lv_istore_n (lv' := [(2, .int (-1)), (1, .int u2), (0, .ref (a 0))]) hx hb dX7_bestDrop_15 rfl hl (by decide) rfl (fun ls hl => ?_)
  refine lv_iconst (v := 0) hx hb dX7_bestDrop_16 (by decide) ?_
  refine lv_istore_n (lv' := [(3, .int 0), (2, .int (-1)), (1, .int u2), (0, .ref (a 0))]) hx hb dX7_bestDrop_17 rfl hl (by decide) rfl (fun ls hl => ?_)
  obtain ⟨u17, hu17, hf⟩ := ob hf
  refine lp18 u1 _ _ u17 hu17 (fun H locs hP hD hS ls hl => ?_) _ _ hP hD hS _ (lv_sub hl [3, 2, 1, 0] rfl)
  have hl : lv_has ls 4 [(2, .int u17.2.1)] := hl
  have hP : va_P g.1 vwCl (zX7 g a u17.2.2.2) H := hP
  have hD : va_D A (zX7 g a u17.2.2.2) := hD
  refine lv_iload_n hx hb dX7_bestDrop_106 rfl (lv_at hl 0 rfl) ?_
  have hR : (u17.2.1, u17.2.2.2) = r := Option.some.inj hf
  subst hR
  exact W.iret (v := u17.2.1) hx hb hr0 (fun t ht hW => ⟨⟨u17.2.1, (), rfl, rfl, by rw [ht]; exact hP, hD⟩, hS.F ht⟩) hS.2.2 dX7_bestDrop_107
theorem hd_X7_append : yX7_append.cls ≠ "java/lang/invoke/MethodHandle" ∧ yX7_append.cls ≠ "java/lang/invoke/VarHandle" ∧ (parseMethodDescriptor yX7_append.desc).map (fun d => d.parameters.length) = some 1 := by decide +kernel
def f_X7_append (v : MV) (p0 : Int32) : Option (Int32 × MV) :=
  (f_X7_in p0 0 127).bind (fun u1 =>
  if (zb u1) = 0 then
    (f_X7_fails v 1).bind (fun u7 =>
    some (u7.1, u7.2))
  else
    if v.2.2.2.2.2.2.1 = 100 then
      (f_X7_fails v 2).bind (fun u6 =>
      some (u6.1, u6.2))
    else
      if zin v.2.2.2.2.2.2.1 100 = true then
      (f_X7_tells (v.1, v.2.1, v.2.2.1, v.2.2.2.1, v.2.2.2.2.1, (upd v.2.2.2.2.2.1 v.2.2.2.2.2.2.1.toNatClampNeg p0), (v.2.2.2.2.2.2.1 + 1), v.2.2.2.2.2.2.2.1, v.2.2.2.2.2.2.2.2.1, v.2.2.2.2.2.2.2.2.2.1, v.2.2.2.2.2.2.2.2.2.2) (v.2.2.2.2.2.2.1 + 1)).bind (fun u5 =>
      some (u5.1, u5.2))
      else none)
set_option maxHeartbeats 4000000 in
set_option maxRecDepth 100000 in
theorem c_X7_append (l : Launch) (g : zG) (a : Nat → Nat) (v : MV) (p0 : Int32) (r : Int32 × MV) (hf : f_X7_append v p0 = some r) : zMi zNF zNM l yX7_append (zw yX7_append cX7_append 2 (some .int)) ({ frames := 1, cells := 0, slots := 0, locals := 22 } : Room) g [.ref (a 0), .int p0] (zX7 g a v) r.1 (zX7 g a r.2) := by
  intro sz
  refine Met.ofW (cc := cX7_append) (maxL := 2) (ret := (some .int)) (by decide) rfl ?_
  intro p e s m args below meth c s₁ B hml hv
  obtain ⟨rfl, hsz, hP, hK, hD0⟩ := hv
  have hx := B.exec
  have hb := B.bytes
  have hr0 := B.returns
  have hts := atoms_spec (ws := (zw yX7_append cX7_append 2 (some .int))) B.pre
  have hw0 : ∀ w ∈ zW, w.before ([.ref (a 0), .int p0] : List Value).toArray s = true := fun w h => hts w (List.mem_cons_of_mem _ h)
  have hown : s.vm.findClass RX7 = some m.cls := findClass_of_methodNamed B.named
  have hlocks := B.notSynchronized
  subst hsz
  have hD := hD0.self (sz := s.heap.size)
  generalize hAe : va_A (zX7 g a v) s.heap.size = A at hD ⊢
  have hA : ∀ q : Nat, s.heap.size ≤ q → A q := fun q h => by rw [← hAe]; exact Or.inr h
  have hS : va_S A s.heap s.heap [] := va_S.rf
  unfold f_X7_append at hf
  have hl := lv_entry ([.ref (a 0), .int p0]) (n := 2) (Nat.le_of_ble_eq_true rfl)
  rw [lg_entry_eq]
  generalize (lg_sl ([.ref (a 0), .int p0]) ++ List.replicate (2 - (lg_sl ([.ref (a 0), .int p0])).length) Slot.unset).toArray = ls at hl ⊢
  have hl : lv_has ls 2 [(0, .ref (a 0)), (1, .int p0)] := hl
  refine lv_iload_n hx hb dX7_append_0 rfl (lv_at hl 1 rfl) ?_
  refine lv_iconst (v := 0) hx hb dX7_append_1 (by decide) ?_
  refine lv_bipush (v := 127) hx hb dX7_append_2 (by decide) ?_
  obtain ⟨u1, hu1, hf⟩ := ob hf
  refine zk_iR (va_runS (As := [.int p0, .int 0, .int 127]) (rest := []) ⟨hx, hb, hml, hown, hts⟩ (c_X7_in l g p0 0 127 _ hu1 _) (zcS hw0 zm4_113 zm4_115 zm1_8 zm4_114 hd_X7_in rfl rfl ⟨Nat.le_of_ble_eq_true rfl, Nat.le_of_ble_eq_true rfl⟩) ⟨zblind, zpre hK hP hD [] rfl rfl⟩ rfl rfl hl.1 rfl (lv_room (Nat.le_of_ble_eq_true rfl)) dX7_append_4 ⟨Nat.zero_le _, Nat.zero_le _⟩) hP hD hS hA [] rfl (fun H locs hP hD hS => ?_)
  refine lv_if_ne (tgt := 16) hx hb dX7_append_7 (by decide) (fun c2 => ?_) (fun c2 => ?_)
  · have hf := oe hf c2
    refine lv_aload_n hx hb dX7_append_16 rfl (lv_at hl 0 rfl) ?_
    refine va_get (D := g.1) (ci := 7) (v := .int v.2.2.2.2.2.2.1) (C := RX7) (T := TX7) (N := 11) hx hb hw0 ziX7 hown hK.1 hP 0 rfl rfl 6 (by decide) (hw0 _ zm4_77) (fun _ h9 => h9) rfl dX7_append_17 ?_
    refine lv_bipush (v := 100) hx hb dX7_append_20 (by decide) ?_
    refine lv_icmp_ne (tgt := 31) hx hb dX7_append_22 (by decide) (fun c3 => ?_) (fun c3 => ?_)
    · have hf := oe hf c3
      refine lv_aload_n hx hb dX7_append_31 rfl (lv_at hl 0 rfl) ?_
      refine va_get (D := g.1) (ci := 7) (v := .ref (a 5)) (C := RX7) (T := TX7) (N := 11) hx hb hw0 ziX7 hown hK.1 hP 0 rfl rfl 5 (by decide) (hw0 _ zm4_76) (fun _ h9 => h9) rfl dX7_append_32 ?_
      refine lv_aload_n hx hb dX7_append_35 rfl (lv_at hl 0 rfl) ?_
      refine va_get (D := g.1) (ci := 7) (v := .int v.2.2.2.2.2.2.1) (C := RX7) (T := TX7) (N := 11) hx hb hw0 ziX7 hown hK.1 hP 0 rfl rfl 6 (by decide) (hw0 _ zm4_77) (fun _ h9 => h9) rfl dX7_append_36 ?_
      refine lv_iload_n hx hb dX7_append_39 rfl (lv_at hl 1 rfl) ?_
      obtain ⟨h4, hf⟩ := og hf
      refine zast (D := g.1) (f := v.2.2.2.2.2.1) (k := v.2.2.2.2.2.2.1.toNatClampNeg) (x := p0) hx hb hK.1 hP hD hS 5 0 rfl rfl (zin_vp h4) rfl dX7_append_40 (fun H locs hP hD hS => ?_)
      have hP : va_P g.1 vwCl (zX7 g a (v.1, v.2.1, v.2.2.1, v.2.2.2.1, v.2.2.2.2.1, (upd v.2.2.2.2.2.1 v.2.2.2.2.2.2.1.toNatClampNeg p0), v.2.2.2.2.2.2.1, v.2.2.2.2.2.2.2.1, v.2.2.2.2.2.2.2.2.1, v.2.2.2.2.2.2.2.2.2.1, v.2.2.2.2.2.2.2.2.2.2)) H := hP
      have hD : va_D A (zX7 g a (v.1, v.2.1, v.2.2.1, v.2.2.2.1, v.2.2.2.2.1, (upd v.2.2.2.2.2.1 v.2.2.2.2.2.2.1.toNatClampNeg p0), v.2.2.2.2.2.2.1, v.2.2.2.2.2.2.2.1, v.2.2.2.2.2.2.2.2.1, v.2.2.2.2.2.2.2.2.2.1, v.2.2.2.2.2.2.2.2.2.2)) := hD
      refine lv_aload_n hx hb dX7_append_41 rfl (lv_at hl 0 rfl) ?_
      refine lv_dup hx hb dX7_append_42 rfl ?_
      refine va_get (D := g.1) (ci := 7) (v := .int v.2.2.2.2.2.2.1) (C := RX7) (T := TX7) (N := 11) hx hb hw0 ziX7 hown hK.1 hP 0 rfl rfl 6 (by decide) (hw0 _ zm4_77) (fun _ h9 => h9) rfl dX7_append_43 ?_
      refine lv_iconst (v := 1) hx hb dX7_append_46 (by decide) ?_
      refine lv_iadd hx hb dX7_append_47 ?_
      refine va_put (D := g.1) (ci := 7) (v := .int (v.2.2.2.2.2.2.1 + 1)) (ty := .int) (C := RX7) (T := TX7) (N := 11) hx hb hw0 ziX7 tyX7 tyX7_ok nmX7 hown hK.1 hP hD hS 0 rfl rfl 6 (by decide) (hw0 _ zm4_77) (fun _ h9 => h9) rfl (tyX7_ok 6 (by decide)) rfl rfl (Nat.le_of_ble_eq_true rfl) dX7_append_48 (fun H locs hP hD hS => ?_)
      have hP : va_P g.1 vwCl (zX7 g a (v.1, v.2.1, v.2.2.1, v.2.2.2.1, v.2.2.2.2.1, (upd v.2.2.2.2.2.1 v.2.2.2.2.2.2.1.toNatClampNeg p0), (v.2.2.2.2.2.2.1 + 1), v.2.2.2.2.2.2.2.1, v.2.2.2.2.2.2.2.2.1, v.2.2.2.2.2.2.2.2.2.1, v.2.2.2.2.2.2.2.2.2.2)) H := hP
      have hD : va_D A (zX7 g a (v.1, v.2.1, v.2.2.1, v.2.2.2.1, v.2.2.2.2.1, (upd v.2.2.2.2.2.1 v.2.2.2.2.2.2.1.toNatClampNeg p0), (v.2.2.2.2.2.2.1 + 1), v.2.2.2.2.2.2.2.1, v.2.2.2.2.2.2.2.2.1, v.2.2.2.2.2.2.2.2.2.1, v.2.2.2.2.2.2.2.2.2.2)) := hD
      refine lv_aload_n hx hb dX7_append_51 rfl (lv_at hl 0 rfl) ?_
      refine lv_aload_n hx hb dX7_append_52 rfl (lv_at hl 0 rfl) ?_
      refine va_get (D := g.1) (ci := 7) (v := .int (v.2.2.2.2.2.2.1 + 1)) (C := RX7) (T := TX7) (N := 11) hx hb hw0 ziX7 hown hK.1 hP 0 rfl rfl 6 (by decide) (hw0 _ zm4_77) (fun _ h9 => h9) rfl dX7_append_53 ?_
      obtain ⟨u5, hu5, hf⟩ := ob hf
      refine zk_iA (va_runV (As := [.int (v.2.2.2.2.2.2.1 + 1)]) (rest := []) ⟨hx, hb, hml, hown, hts⟩ (c_X7_tells l g a (v.1, v.2.1, v.2.2.1, v.2.2.2.1, v.2.2.2.2.1, (upd v.2.2.2.2.2.1 v.2.2.2.2.2.2.1.toNatClampNeg p0), (v.2.2.2.2.2.2.1 + 1), v.2.2.2.2.2.2.2.1, v.2.2.2.2.2.2.2.2.1, v.2.2.2.2.2.2.2.2.2.1, v.2.2.2.2.2.2.2.2.2.2) (v.2.2.2.2.2.2.1 + 1) _ hu5 _) (zcV hw0 zm5_35 zm5_38 zm1_8 zm5_37 zs7_0 hd_X7_tells rfl rfl ⟨Nat.le_of_ble_eq_true rfl, Nat.le_of_ble_eq_true rfl⟩) ⟨zblind, zrecvA hK hP (ci := 7) rfl rfl, zpreA hK hP hD⟩ rfl rfl hl.1 rfl (lv_room (Nat.le_of_ble_eq_true rfl)) dX7_append_56 ⟨Nat.zero_le _, Nat.zero_le _⟩) hP hD hS hA (fun H locs hP hD hS => ?_)
      have hP : va_P g.1 vwCl (zX7 g a u5.2) H := hP
      have hD : va_D A (zX7 g a u5.2) := hD
      have hR : (u5.1, u5.2) = r := Option.some.inj hf
      subst hR
      exact W.iret (v := u5.1) hx hb hr0 (fun t ht hW => ⟨⟨u5.1, (), rfl, rfl, by rw [ht]; exact hP, hD⟩, hS.F ht⟩) hS.2.2 dX7_append_59
    · have hf := oi hf c3
      refine lv_aload_n hx hb dX7_append_25 rfl (lv_at hl 0 rfl) ?_
      refine lv_iconst (v := 2) hx hb dX7_append_26 (by decide) ?_
      obtain ⟨u6, hu6, hf⟩ := ob hf
      refine zk_iA (va_runV (As := [.int 2]) (rest := []) ⟨hx, hb, hml, hown, hts⟩ (c_X7_fails l g a v 2 _ hu6 _) (zcV hw0 zm4_116 zm4_119 zm1_8 zm4_118 zs5_1 hd_X7_fails rfl rfl ⟨Nat.le_of_ble_eq_true rfl, Nat.le_of_ble_eq_true rfl⟩) ⟨zblind, zrecvA hK hP (ci := 7) rfl rfl, zpreA hK hP hD⟩ rfl rfl hl.1 rfl (lv_room (Nat.le_of_ble_eq_true rfl)) dX7_append_27 ⟨Nat.zero_le _, Nat.zero_le _⟩) hP hD hS hA (fun H locs hP hD hS => ?_)
      have hP : va_P g.1 vwCl (zX7 g a u6.2) H := hP
      have hD : va_D A (zX7 g a u6.2) := hD
      have hR : (u6.1, u6.2) = r := Option.some.inj hf
      subst hR
      exact W.iret (v := u6.1) hx hb hr0 (fun t ht hW => ⟨⟨u6.1, (), rfl, rfl, by rw [ht]; exact hP, hD⟩, hS.F ht⟩) hS.2.2 dX7_append_30
  · have hf := oi hf c2
    refine lv_aload_n hx hb dX7_append_10 rfl (lv_at hl 0 rfl) ?_
    refine lv_iconst (v := 1) hx hb dX7_append_11 (by decide) ?_
    obtain ⟨u7, hu7, hf⟩ := ob hf
    refine zk_iA (va_runV (As := [.int 1]) (rest := []) ⟨hx, hb, hml, hown, hts⟩ (c_X7_fails l g a v 1 _ hu7 _) (zcV hw0 zm4_116 zm4_119 zm1_8 zm4_118 zs5_1 hd_X7_fails rfl rfl ⟨Nat.le_of_ble_eq_true rfl, Nat.le_of_ble_eq_true rfl⟩) ⟨zblind, zrecvA hK hP (ci := 7) rfl rfl, zpreA hK hP hD⟩ rfl rfl hl.1 rfl (lv_room (Nat.le_of_ble_eq_true rfl)) dX7_append_12 ⟨Nat.zero_le _, Nat.zero_le _⟩) hP hD hS hA (fun H locs hP hD hS => ?_)
    have hP : va_P g.1 vwCl (zX7 g a u7.2) H := hP
    have hD : va_D A (zX7 g a u7.2) := hD
    have hR : (u7.1, u7.2) = r := Option.some.inj hf
    subst hR
    exact W.iret (v := u7.1) hx hb hr0 (fun t ht hW => ⟨⟨u7.1, (), rfl, rfl, by rw [ht]; exact hP, hD⟩, hS.F ht⟩) hS.2.2 dX7_append_15
theorem hd_X7_clearText : yX7_clearText.cls ≠ "java/lang/invoke/MethodHandle" ∧ yX7_clearText.cls ≠ "java/lang/invoke/VarHandle" ∧ (parseMethodDescriptor yX7_clearText.desc).map (fun d => d.parameters.length) = some 0 := by decide +kernel
def f_X7_clearText (v : MV) : Option (Int32 × MV) :=
  (f_X7_tells (v.1, v.2.1, v.2.2.1, v.2.2.2.1, v.2.2.2.2.1, v.2.2.2.2.2.1, 0, v.2.2.2.2.2.2.2.1, v.2.2.2.2.2.2.2.2.1, v.2.2.2.2.2.2.2.2.2.1, v.2.2.2.2.2.2.2.2.2.2) v.2.2.2.2.2.2.1).bind (fun u1 =>
  some (u1.1, u1.2))
set_option maxHeartbeats 4000000 in
set_option maxRecDepth 100000 in
theorem c_X7_clearText (l : Launch) (g : zG) (a : Nat → Nat) (v : MV) (r : Int32 × MV) (hf : f_X7_clearText v = some r) : zMi zNF zNM l yX7_clearText (zw yX7_clearText cX7_clearText 2 (some .int)) ({ frames := 1, cells := 0, slots := 0, locals := 21 } : Room) g [.ref (a 0)] (zX7 g a v) r.1 (zX7 g a r.2) := by
  intro sz
  refine Met.ofW (cc := cX7_clearText) (maxL := 2) (ret := (some .int)) (by decide) rfl ?_
  intro p e s m args below meth c s₁ B hml hv
  obtain ⟨rfl, hsz, hP, hK, hD0⟩ := hv
  have hx := B.exec
  have hb := B.bytes
  have hr0 := B.returns
  have hts := atoms_spec (ws := (zw yX7_clearText cX7_clearText 2 (some .int))) B.pre
  have hw0 : ∀ w ∈ zW, w.before ([.ref (a 0)] : List Value).toArray s = true := fun w h => hts w (List.mem_cons_of_mem _ h)
  have hown : s.vm.findClass RX7 = some m.cls := findClass_of_methodNamed B.named
  have hlocks := B.notSynchronized
  subst hsz
  have hD := hD0.self (sz := s.heap.size)
  generalize hAe : va_A (zX7 g a v) s.heap.size = A at hD ⊢
  have hA : ∀ q : Nat, s.heap.size ≤ q → A q := fun q h => by rw [← hAe]; exact Or.inr h
  have hS : va_S A s.heap s.heap [] := va_S.rf
  unfold f_X7_clearText at hf
  have hl := lv_entry ([.ref (a 0)]) (n := 2) (Nat.le_of_ble_eq_true rfl)
  rw [lg_entry_eq]
  generalize (lg_sl ([.ref (a 0)]) ++ List.replicate (2 - (lg_sl ([.ref (a 0)])).length) Slot.unset).toArray = ls at hl ⊢
  have hl : lv_has ls 2 [(0, .ref (a 0))] := hl
  refine lv_aload_n hx hb dX7_clearText_0 rfl (lv_at hl 0 rfl) ?_
  refine va_get (D := g.1) (ci := 7) (v := .int v.2.2.2.2.2.2.1) (C := RX7) (T := TX7) (N := 11) hx hb hw0 ziX7 hown hK.1 hP 0 rfl rfl 6 (by decide) (hw0 _ zm4_77) (fun _ h9 => h9) rfl dX7_clearText_1 ?_
  refine lv_istore_n (lv' := [(1, .int v.2.2.2.2.2.2.1), (0, .ref (a 0))]) hx hb dX7_clearText_4 rfl hl (by decide) rfl (fun ls hl => ?_)
  refine lv_aload_n hx hb dX7_clearText_5 rfl (lv_at hl 1 rfl) ?_
  refine lv_iconst (v := 0) hx hb dX7_clearText_6 (by decide) ?_
  refine va_put (D := g.1) (ci := 7) (v := .int 0) (ty := .int) (C := RX7) (T := TX7) (N := 11) hx hb hw0 ziX7 tyX7 tyX7_ok nmX7 hown hK.1 hP hD hS 0 rfl rfl 6 (by decide) (hw0 _ zm4_77) (fun _ h9 => h9) rfl (tyX7_ok 6 (by decide)) rfl rfl (Nat.le_of_ble_eq_true rfl) dX7_clearText_7 (fun H locs hP hD hS => ?_)
  have hP : va_P g.1 vwCl (zX7 g a (v.1, v.2.1, v.2.2.1, v.2.2.2.1, v.2.2.2.2.1, v.2.2.2.2.2.1, 0, v.2.2.2.2.2.2.2.1, v.2.2.2.2.2.2.2.2.1, v.2.2.2.2.2.2.2.2.2.1, v.2.2.2.2.2.2.2.2.2.2)) H := hP
  have hD : va_D A (zX7 g a (v.1, v.2.1, v.2.2.1, v.2.2.2.1, v.2.2.2.2.1, v.2.2.2.2.2.1, 0, v.2.2.2.2.2.2.2.1, v.2.2.2.2.2.2.2.2.1, v.2.2.2.2.2.2.2.2.2.1, v.2.2.2.2.2.2.2.2.2.2)) := hD
  refine lv_aload_n hx hb dX7_clearText_10 rfl (lv_at hl 1 rfl) ?_
  refine lv_iload_n hx hb dX7_clearText_11 rfl (lv_at hl 0 rfl) ?_
  obtain ⟨u1, hu1, hf⟩ := ob hf
  refine zk_iA (va_runV (As := [.int v.2.2.2.2.2.2.1]) (rest := []) ⟨hx, hb, hml, hown, hts⟩ (c_X7_tells l g a (v.1, v.2.1, v.2.2.1, v.2.2.2.1, v.2.2.2.2.1, v.2.2.2.2.2.1, 0, v.2.2.2.2.2.2.2.1, v.2.2.2.2.2.2.2.2.1, v.2.2.2.2.2.2.2.2.2.1, v.2.2.2.2.2.2.2.2.2.2) v.2.2.2.2.2.2.1 _ hu1 _) (zcV hw0 zm5_35 zm5_38 zm1_8 zm5_37 zs7_0 hd_X7_tells rfl rfl ⟨Nat.le_of_ble_eq_true rfl, Nat.le_of_ble_eq_true rfl⟩) ⟨zblind, zrecvA hK hP (ci := 7) rfl rfl, zpreA hK hP hD⟩ rfl rfl hl.1 rfl (lv_room (Nat.le_of_ble_eq_true rfl)) dX7_clearText_12 ⟨Nat.zero_le _, Nat.zero_le _⟩) hP hD hS hA (fun H locs hP hD hS => ?_)
  have hP : va_P g.1 vwCl (zX7 g a u1.2) H := hP
  have hD : va_D A (zX7 g a u1.2) := hD
  have hR : (u1.1, u1.2) = r := Option.some.inj hf
  subst hR
  exact W.iret (v := u1.1) hx hb hr0 (fun t ht hW => ⟨⟨u1.1, (), rfl, rfl, by rw [ht]; exact hP, hD⟩, hS.F ht⟩) hS.2.2 dX7_clearText_15
theorem hd_X7_isAt : yX7_isAt.cls ≠ "java/lang/invoke/MethodHandle" ∧ yX7_isAt.cls ≠ "java/lang/invoke/VarHandle" ∧ (parseMethodDescriptor yX7_isAt.desc).map (fun d => d.parameters.length) = some 2 := by decide +kernel
def f_X7_isAt (v : MV) (p0 : Int32) (p1 : Int32) : Option (Bool) :=
  if v.2.2.2.2.2.2.1 ≤ v.2.2.2.2.2.2.2.2.1 then
    some false
  else
    if zin v.2.2.2.2.2.2.2.2.1 100 = true then
    (f_X7_in (v.2.2.2.2.2.1 v.2.2.2.2.2.2.2.2.1.toNatClampNeg) p0 p1).bind (fun u3 =>
    if (zb u3) = 0 then
      some false
    else
      some true)
    else none
set_option maxHeartbeats 4000000 in
set_option maxRecDepth 100000 in
theorem c_X7_isAt (l : Launch) (g : zG) (a : Nat → Nat) (v : MV) (p0 : Int32) (p1 : Int32) (r : Bool) (hf : f_X7_isAt v p0 p1 = some r) : zMi zNF zNM l yX7_isAt (zw yX7_isAt cX7_isAt 3 (some .boolean)) ({ frames := 1, cells := 0, slots := 0, locals := 22 } : Room) g [.ref (a 0), .int p0, .int p1] (zX7 g a v) (zb r) (zX7 g a v) := by
  intro sz
  refine Met.ofW (cc := cX7_isAt) (maxL := 3) (ret := (some .boolean)) (by decide) rfl ?_
  intro p e s m args below meth c s₁ B hml hv
  obtain ⟨rfl, hsz, hP, hK, hD0⟩ := hv
  have hx := B.exec
  have hb := B.bytes
  have hr0 := B.returns
  have hts := atoms_spec (ws := (zw yX7_isAt cX7_isAt 3 (some .boolean))) B.pre
  have hw0 : ∀ w ∈ zW, w.before ([.ref (a 0), .int p0, .int p1] : List Value).toArray s = true := fun w h => hts w (List.mem_cons_of_mem _ h)
  have hown : s.vm.findClass RX7 = some m.cls := findClass_of_methodNamed B.named
  have hlocks := B.notSynchronized
  subst hsz
  have hD := hD0.self (sz := s.heap.size)
  generalize hAe : va_A (zX7 g a v) s.heap.size = A at hD ⊢
  have hA : ∀ q : Nat, s.heap.size ≤ q → A q := fun q h => by rw [← hAe]; exact Or.inr h
  have hS : va_S A s.heap s.heap [] := va_S.rf
  unfold f_X7_isAt at hf
  have hl := lv_entry ([.ref (a 0), .int p0, .int p1]) (n := 3) (Nat.le_of_ble_eq_true rfl)
  rw [lg_entry_eq]
  generalize (lg_sl ([.ref (a 0), .int p0, .int p1]) ++ List.replicate (3 - (lg_sl ([.ref (a 0), .int p0, .int p1])).length) Slot.unset).toArray = ls at hl ⊢
  have hl : lv_has ls 3 [(0, .ref (a 0)), (1, .int p0), (2, .int p1)] := hl
  refine lv_aload_n hx hb dX7_isAt_0 rfl (lv_at hl 0 rfl) ?_
  refine va_get (D := g.1) (ci := 7) (v := .int v.2.2.2.2.2.2.2.2.1) (C := RX7) (T := TX7) (N := 11) hx hb hw0 ziX7 hown hK.1 hP 0 rfl rfl 8 (by decide) (hw0 _ zm4_79) (fun _ h9 => h9) rfl dX7_isAt_1 ?_
  refine lv_aload_n hx hb dX7_isAt_4 rfl (lv_at hl 0 rfl) ?_
  refine va_get (D := g.1) (ci := 7) (v := .int v.2.2.2.2.2.2.1) (C := RX7) (T := TX7) (N := 11) hx hb hw0 ziX7 hown hK.1 hP 0 rfl rfl 6 (by decide) (hw0 _ zm4_77) (fun _ h9 => h9) rfl dX7_isAt_5 ?_
  refine lv_icmp_ge (tgt := 32) hx hb dX7_isAt_8 (by decide) (fun c1 => ?_) (fun c1 => ?_)
  · have hf := oi hf c1
    refine lv_iconst (v := 0) hx hb dX7_isAt_32 (by decide) ?_
    have hR : false = r := Option.some.inj hf
    subst hR
    exact W.zret (v := zb false) hx hb hr0 (zb_nar false) (fun t ht hW => ⟨⟨zb false, (), rfl, rfl, by rw [ht]; exact hP, hD⟩, hS.F ht⟩) hS.2.2 dX7_isAt_33
  · have hf := oe hf c1
    refine lv_aload_n hx hb dX7_isAt_11 rfl (lv_at hl 0 rfl) ?_
    refine va_get (D := g.1) (ci := 7) (v := .ref (a 5)) (C := RX7) (T := TX7) (N := 11) hx hb hw0 ziX7 hown hK.1 hP 0 rfl rfl 5 (by decide) (hw0 _ zm4_76) (fun _ h9 => h9) rfl dX7_isAt_12 ?_
    refine lv_aload_n hx hb dX7_isAt_15 rfl (lv_at hl 0 rfl) ?_
    refine va_get (D := g.1) (ci := 7) (v := .int v.2.2.2.2.2.2.2.2.1) (C := RX7) (T := TX7) (N := 11) hx hb hw0 ziX7 hown hK.1 hP 0 rfl rfl 8 (by decide) (hw0 _ zm4_79) (fun _ h9 => h9) rfl dX7_isAt_16 ?_
    obtain ⟨h2, hf⟩ := og hf
    refine zald (D := g.1) (f := v.2.2.2.2.2.1) (k := v.2.2.2.2.2.2.2.2.1.toNatClampNeg) hx hb hK.1 hP 5 0 rfl rfl (zin_vp h2) rfl dX7_isAt_19 ?_
    refine lv_iload_n hx hb dX7_isAt_20 rfl (lv_at hl 1 rfl) ?_
    refine lv_iload_n hx hb dX7_isAt_21 rfl (lv_at hl 2 rfl) ?_
    obtain ⟨u3, hu3, hf⟩ := ob hf
    refine zk_iR (va_runS (As := [.int (v.2.2.2.2.2.1 v.2.2.2.2.2.2.2.2.1.toNatClampNeg), .int p0, .int p1]) (rest := []) ⟨hx, hb, hml, hown, hts⟩ (c_X7_in l g (v.2.2.2.2.2.1 v.2.2.2.2.2.2.2.2.1.toNatClampNeg) p0 p1 _ hu3 _) (zcS hw0 zm4_113 zm4_115 zm1_8 zm4_114 hd_X7_in rfl rfl ⟨Nat.le_of_ble_eq_true rfl, Nat.le_of_ble_eq_true rfl⟩) ⟨zblind, zpre hK hP hD [] rfl rfl⟩ rfl rfl hl.1 rfl (lv_room (Nat.le_of_ble_eq_true rfl)) dX7_isAt_22 ⟨Nat.zero_le _, Nat.zero_le _⟩) hP hD hS hA [] rfl (fun H locs hP hD hS => ?_)
    refine lv_if_eq (tgt := 32) hx hb dX7_isAt_25 (by decide) (fun c4 => ?_) (fun c4 => ?_)
    · have hf := oi hf c4
      refine lv_iconst (v := 0) hx hb dX7_isAt_32 (by decide) ?_
      have hR : false = r := Option.some.inj hf
      subst hR
      exact W.zret (v := zb false) hx hb hr0 (zb_nar false) (fun t ht hW => ⟨⟨zb false, (), rfl, rfl, by rw [ht]; exact hP, hD⟩, hS.F ht⟩) hS.2.2 dX7_isAt_33
    · have hf := oe hf c4
      refine lv_iconst (v := 1) hx hb dX7_isAt_28 (by decide) ?_
      refine lv_goto (tgt := 33) hx hb dX7_isAt_29 (by decide) ?_
      have hR : true = r := Option.some.inj hf
      subst hR
      exact W.zret (v := zb true) hx hb hr0 (zb_nar true) (fun t ht hW => ⟨⟨zb true, (), rfl, rfl, by rw [ht]; exact hP, hD⟩, hS.F ht⟩) hS.2.2 dX7_isAt_33
theorem hd_X7_takes : yX7_takes.cls ≠ "java/lang/invoke/MethodHandle" ∧ yX7_takes.cls ≠ "java/lang/invoke/VarHandle" ∧ (parseMethodDescriptor yX7_takes.desc).map (fun d => d.parameters.length) = some 1 := by decide +kernel
def f_X7_takes (v : MV) (p0 : Int32) : Option (Bool × MV) :=
  (f_X7_isAt v p0 p0).bind (fun u1 =>
  if (zb u1) = 0 then
    some (u1, (v.1, v.2.1, v.2.2.1, v.2.2.2.1, v.2.2.2.2.1, v.2.2.2.2.2.1, v.2.2.2.2.2.2.1, v.2.2.2.2.2.2.2.1, (v.2.2.2.2.2.2.2.2.1 + 0), v.2.2.2.2.2.2.2.2.2.1, v.2.2.2.2.2.2.2.2.2.2))
  else
    some (u1, (v.1, v.2.1, v.2.2.1, v.2.2.2.1, v.2.2.2.2.1, v.2.2.2.2.2.1, v.2.2.2.2.2.2.1, v.2.2.2.2.2.2.2.1, (v.2.2.2.2.2.2.2.2.1 + 1), v.2.2.2.2.2.2.2.2.2.1, v.2.2.2.2.2.2.2.2.2.2)))
set_option maxHeartbeats 4000000 in
set_option maxRecDepth 100000 in
theorem c_X7_takes (l : Launch) (g : zG) (a : Nat → Nat) (v : MV) (p0 : Int32) (r : Bool × MV) (hf : f_X7_takes v p0 = some r) : zMi zNF zNM l yX7_takes (zw yX7_takes cX7_takes 3 (some .boolean)) ({ frames := 2, cells := 0, slots := 0, locals := 44 } : Room) g [.ref (a 0), .int p0] (zX7 g a v) (zb r.1) (zX7 g a r.2) := by
  intro sz
  refine Met.ofW (cc := cX7_takes) (maxL := 3) (ret := (some .boolean)) (by decide) rfl ?_
  intro p e s m args below meth c s₁ B hml hv
  obtain ⟨rfl, hsz, hP, hK, hD0⟩ := hv
  have hx := B.exec
  have hb := B.bytes
  have hr0 := B.returns
  have hts := atoms_spec (ws := (zw yX7_takes cX7_takes 3 (some .boolean))) B.pre
  have hw0 : ∀ w ∈ zW, w.before ([.ref (a 0), .int p0] : List Value).toArray s = true := fun w h => hts w (List.mem_cons_of_mem _ h)
  have hown : s.vm.findClass RX7 = some m.cls := findClass_of_methodNamed B.named
  have hlocks := B.notSynchronized
  subst hsz
  have hD := hD0.self (sz := s.heap.size)
  generalize hAe : va_A (zX7 g a v) s.heap.size = A at hD ⊢
  have hA : ∀ q : Nat, s.heap.size ≤ q → A q := fun q h => by rw [← hAe]; exact Or.inr h
  have hS : va_S A s.heap s.heap [] := va_S.rf
  unfold f_X7_takes at hf
  have hl := lv_entry ([.ref (a 0), .int p0]) (n := 3) (Nat.le_of_ble_eq_true rfl)
  rw [lg_entry_eq]
  generalize (lg_sl ([.ref (a 0), .int p0]) ++ List.replicate (3 - (lg_sl ([.ref (a 0), .int p0])).length) Slot.unset).toArray = ls at hl ⊢
  have hl : lv_has ls 3 [(0, .ref (a 0)), (1, .int p0)] := hl
  refine lv_aload_n hx hb dX7_takes_0 rfl (lv_at hl 0 rfl) ?_
  refine lv_iload_n hx hb dX7_takes_1 rfl (lv_at hl 1 rfl) ?_
  refine lv_iload_n hx hb dX7_takes_2 rfl (lv_at hl 1 rfl) ?_
  obtain ⟨u1, hu1, hf⟩ := ob hf
  refine zk_iA (va_runV (As := [.int p0, .int p0]) (rest := []) ⟨hx, hb, hml, hown, hts⟩ (c_X7_isAt l g a v p0 p0 _ hu1 _) (zcV hw0 zm5_138 zm5_141 zm1_8 zm5_140 zs7_10 hd_X7_isAt rfl rfl ⟨Nat.le_of_ble_eq_true rfl, Nat.le_of_ble_eq_true rfl⟩) ⟨zblind, zrecvA hK hP (ci := 7) rfl rfl, zpreA hK hP hD⟩ rfl rfl hl.1 rfl (lv_room (Nat.le_of_ble_eq_true rfl)) dX7_takes_3 ⟨Nat.zero_le _, Nat.zero_le _⟩) hP hD hS hA (fun H locs hP hD hS => ?_)
  refine lv_istore_n (lv' := [(2, .int (zb u1)), (0, .ref (a 0)), (1, .int p0)]) hx hb dX7_takes_6 rfl hl (by decide) rfl (fun ls hl => ?_)
  refine lv_aload_n hx hb dX7_takes_7 rfl (lv_at hl 1 rfl) ?_
  refine lv_dup hx hb dX7_takes_8 rfl ?_
  refine va_get (D := g.1) (ci := 7) (v := .int v.2.2.2.2.2.2.2.2.1) (C := RX7) (T := TX7) (N := 11) hx hb hw0 ziX7 hown hK.1 hP 0 rfl rfl 8 (by decide) (hw0 _ zm4_79) (fun _ h9 => h9) rfl dX7_takes_9 ?_
  refine lv_iload_n hx hb dX7_takes_12 rfl (lv_at hl 0 rfl) ?_
  refine lv_if_eq (tgt := 20) hx hb dX7_takes_13 (by decide) (fun c2 => ?_) (fun c2 => ?_)
  · have hf := oi hf c2
    refine lv_iconst (v := 0) hx hb dX7_takes_20 (by decide) ?_
    refine lv_iadd hx hb dX7_takes_21 ?_
    refine va_put (D := g.1) (ci := 7) (v := .int (v.2.2.2.2.2.2.2.2.1 + 0)) (ty := .int) (C := RX7) (T := TX7) (N := 11) hx hb hw0 ziX7 tyX7 tyX7_ok nmX7 hown hK.1 hP hD hS 0 rfl rfl 8 (by decide) (hw0 _ zm4_79) (fun _ h9 => h9) rfl (tyX7_ok 8 (by decide)) rfl rfl (Nat.le_of_ble_eq_true rfl) dX7_takes_22 (fun H locs hP hD hS => ?_)
    have hP : va_P g.1 vwCl (zX7 g a (v.1, v.2.1, v.2.2.1, v.2.2.2.1, v.2.2.2.2.1, v.2.2.2.2.2.1, v.2.2.2.2.2.2.1, v.2.2.2.2.2.2.2.1, (v.2.2.2.2.2.2.2.2.1 + 0), v.2.2.2.2.2.2.2.2.2.1, v.2.2.2.2.2.2.2.2.2.2)) H := hP
    have hD : va_D A (zX7 g a (v.1, v.2.1, v.2.2.1, v.2.2.2.1, v.2.2.2.2.1, v.2.2.2.2.2.1, v.2.2.2.2.2.2.1, v.2.2.2.2.2.2.2.1, (v.2.2.2.2.2.2.2.2.1 + 0), v.2.2.2.2.2.2.2.2.2.1, v.2.2.2.2.2.2.2.2.2.2)) := hD
    refine lv_iload_n hx hb dX7_takes_25 rfl (lv_at hl 0 rfl) ?_
    have hR : (u1, (v.1, v.2.1, v.2.2.1, v.2.2.2.1, v.2.2.2.2.1, v.2.2.2.2.2.1, v.2.2.2.2.2.2.1, v.2.2.2.2.2.2.2.1, (v.2.2.2.2.2.2.2.2.1 + 0), v.2.2.2.2.2.2.2.2.2.1, v.2.2.2.2.2.2.2.2.2.2)) = r := Option.some.inj hf
    subst hR
    exact W.zret (v := zb u1) hx hb hr0 (zb_nar u1) (fun t ht hW => ⟨⟨zb u1, (), rfl, rfl, by rw [ht]; exact hP, hD⟩, hS.F ht⟩) hS.2.2 dX7_takes_26
  · have hf := oe hf c2
    refine lv_iconst (v := 1) hx hb dX7_takes_16 (by decide) ?_
    refine lv_goto (tgt := 21) hx hb dX7_takes_17 (by decide) ?_
    refine lv_iadd hx hb dX7_takes_21 ?_
    refine va_put (D := g.1) (ci := 7) (v := .int (v.2.2.2.2.2.2.2.2.1 + 1)) (ty := .int) (C := RX7) (T := TX7) (N := 11) hx hb hw0 ziX7 tyX7 tyX7_ok nmX7 hown hK.1 hP hD hS 0 rfl rfl 8 (by decide) (hw0 _ zm4_79) (fun _ h9 => h9) rfl (tyX7_ok 8 (by decide)) rfl rfl (Nat.le_of_ble_eq_true rfl) dX7_takes_22 (fun H locs hP hD hS => ?_)
    have hP : va_P g.1 vwCl (zX7 g a (v.1, v.2.1, v.2.2.1, v.2.2.2.1, v.2.2.2.2.1, v.2.2.2.2.2.1, v.2.2.2.2.2.2.1, v.2.2.2.2.2.2.2.1, (v.2.2.2.2.2.2.2.2.1 + 1), v.2.2.2.2.2.2.2.2.2.1, v.2.2.2.2.2.2.2.2.2.2)) H := hP
    have hD : va_D A (zX7 g a (v.1, v.2.1, v.2.2.1, v.2.2.2.1, v.2.2.2.2.1, v.2.2.2.2.2.1, v.2.2.2.2.2.2.1, v.2.2.2.2.2.2.2.1, (v.2.2.2.2.2.2.2.2.1 + 1), v.2.2.2.2.2.2.2.2.2.1, v.2.2.2.2.2.2.2.2.2.2)) := hD
    refine lv_iload_n hx hb dX7_takes_25 rfl (lv_at hl 0 rfl) ?_
    have hR : (u1, (v.1, v.2.1, v.2.2.1, v.2.2.2.1, v.2.2.2.2.1, v.2.2.2.2.2.1, v.2.2.2.2.2.2.1, v.2.2.2.2.2.2.2.1, (v.2.2.2.2.2.2.2.2.1 + 1), v.2.2.2.2.2.2.2.2.2.1, v.2.2.2.2.2.2.2.2.2.2)) = r := Option.some.inj hf
    subst hR
    exact W.zret (v := zb u1) hx hb hr0 (zb_nar u1) (fun t ht hW => ⟨⟨zb u1, (), rfl, rfl, by rw [ht]; exact hP, hD⟩, hS.F ht⟩) hS.2.2 dX7_takes_26
theorem hd_X7_readsNumber : yX7_readsNumber.cls ≠ "java/lang/invoke/MethodHandle" ∧ yX7_readsNumber.cls ≠ "java/lang/invoke/VarHandle" ∧ (parseMethodDescriptor yX7_readsNumber.desc).map (fun d => d.parameters.length) = some 3 := by decide +kernel
def s_X7_readsNumber_11 (v : MV) (i1 : Int32) (i2 : Int32) (i3 : Int32) (i4 : Int32) (x : Int32 × Int32) : Option ((Int32 × Int32) ⊕ (Int32 × Int32)) :=
  if i1 ≤ (x.1 - i4) then
    some (.inr (x.1, x.2))
  else
    (f_X7_isAt (v.1, v.2.1, v.2.2.1, v.2.2.2.1, v.2.2.2.2.1, v.2.2.2.2.2.1, v.2.2.2.2.2.2.1, v.2.2.2.2.2.2.2.1, x.1, x.2, v.2.2.2.2.2.2.2.2.2.2) 48 57).bind (fun u2 =>
    if (zb u2) = 0 then
      some (.inr (x.1, x.2))
    else
      if zin x.1 100 = true then
      some (.inl ((x.1 + 1), (((10 * x.2) + (v.2.2.2.2.2.1 x.1.toNatClampNeg)) - 48)))
      else none)
def f_X7_readsNumber (v : MV) (p0 : Int32) (p1 : Int32) (p2 : Int32) : Option (Bool × MV) :=
  (zloop (s_X7_readsNumber_11 (v.1, v.2.1, v.2.2.1, v.2.2.2.1, v.2.2.2.2.1, v.2.2.2.2.2.1, v.2.2.2.2.2.2.1, v.2.2.2.2.2.2.2.1, v.2.2.2.2.2.2.2.2.1, 0, v.2.2.2.2.2.2.2.2.2.2) p0 p1 p2 v.2.2.2.2.2.2.2.2.1) 4096 (v.2.2.2.2.2.2.2.2.1, 0)).bind (fun u5 =>
  if u5.1 = v.2.2.2.2.2.2.2.2.1 then
    some (false, (v.1, v.2.1, v.2.2.1, v.2.2.2.1, v.2.2.2.2.1, v.2.2.2.2.2.1, v.2.2.2.2.2.2.1, v.2.2.2.2.2.2.2.1, u5.1, u5.2, v.2.2.2.2.2.2.2.2.2.2))
  else
    (f_X7_isAt (v.1, v.2.1, v.2.2.1, v.2.2.2.1, v.2.2.2.2.1, v.2.2.2.2.2.1, v.2.2.2.2.2.2.1, v.2.2.2.2.2.2.2.1, u5.1, u5.2, v.2.2.2.2.2.2.2.2.2.2) 48 57).bind (fun u7 =>
    if (zb u7) = 0 then
      (f_X7_in u5.2 p1 p2).bind (fun u9 =>
      if (zb u9) = 0 then
        some (u9, (v.1, v.2.1, v.2.2.1, v.2.2.2.1, v.2.2.2.2.1, v.2.2.2.2.2.1, v.2.2.2.2.2.2.1, v.2.2.2.2.2.2.2.1, v.2.2.2.2.2.2.2.2.1, u5.2, v.2.2.2.2.2.2.2.2.2.2))
      else
        some (u9, (v.1, v.2.1, v.2.2.1, v.2.2.2.1, v.2.2.2.2.1, v.2.2.2.2.2.1, v.2.2.2.2.2.2.1, v.2.2.2.2.2.2.2.1, u5.1, u5.2, v.2.2.2.2.2.2.2.2.2.2)))
    else
      some (false, (v.1, v.2.1, v.2.2.1, v.2.2.2.1, v.2.2.2.2.1, v.2.2.2.2.2.1, v.2.2.2.2.2.2.1, v.2.2.2.2.2.2.2.1, u5.1, u5.2, v.2.2.2.2.2.2.2.2.2.2))))
set_option maxHeartbeats 4000000 in
set_option maxRecDepth 100000 in
theorem c_X7_readsNumber (l : Launch) (g : zG) (a : Nat → Nat) (v : MV) (p0 : Int32) (p1 : Int32) (p2 : Int32) (r : Bool × MV) (hf : f_X7_readsNumber v p0 p1 p2 = some r) : zMi zNF zNM l yX7_readsNumber (zw yX7_readsNumber cX7_readsNumber 6 (some .boolean)) ({ frames := 2, cells := 0, slots := 0, locals := 44 } : Room) g [.ref (a 0), .int p0, .int p1, .int p2] (zX7 g a v) (zb r.1) (zX7 g a r.2) := by
  intro sz
  refine Met.ofW (cc := cX7_readsNumber) (maxL := 6) (ret := (some .boolean)) (by decide) rfl ?_
  intro p e s m args below meth c s₁ B hml hv
  obtain ⟨rfl, hsz, hP, hK, hD0⟩ := hv
  have hx := B.exec
  have hb := B.bytes
  have hr0 := B.returns
  have hts := atoms_spec (ws := (zw yX7_readsNumber cX7_readsNumber 6 (some .boolean))) B.pre
  have hw0 : ∀ w ∈ zW, w.before ([.ref (a 0), .int p0, .int p1, .int p2] : List Value).toArray s = true := fun w h => hts w (List.mem_cons_of_mem _ h)
  have hown : s.vm.findClass RX7 = some m.cls := findClass_of_methodNamed B.named
  have hlocks := B.notSynchronized
  subst hsz
  have hD := hD0.self (sz := s.heap.size)
  generalize hAe : va_A (zX7 g a v) s.heap.size = A at hD ⊢
  have hA : ∀ q : Nat, s.heap.size ≤ q → A q := fun q h => by rw [← hAe]; exact Or.inr h
  have hS : va_S A s.heap s.heap [] := va_S.rf
  have lp11 : ∀ (v : MV) (i1 : Int32) (i2 : Int32) (i3 : Int32) (i4 : Int32), ∀ (n : Nat) (x : Int32 × Int32) (rr : Int32 × Int32), zloop (s_X7_readsNumber_11 v i1 i2 i3 i4) n x = some rr → (∀ (H : Heap) (locs : List Loc), va_P g.1 vwCl (zX7 g a (v.1, v.2.1, v.2.2.1, v.2.2.2.1, v.2.2.2.2.1, v.2.2.2.2.2.1, v.2.2.2.2.2.2.1, v.2.2.2.2.2.2.2.1, rr.1, rr.2, v.2.2.2.2.2.2.2.2.2.2)) H → va_D A (zX7 g a (v.1, v.2.1, v.2.2.1, v.2.2.2.1, v.2.2.2.2.1, v.2.2.2.2.2.1, v.2.2.2.2.2.2.1, v.2.2.2.2.2.2.2.1, rr.1, rr.2, v.2.2.2.2.2.2.2.2.2.2)) → va_S A s.heap H locs → ∀ ls : Array Slot, lv_has ls 6 [(0, .ref (a 0)), (2, .int i2), (3, .int i3), (4, .int i4)] → W p l e (headSpec (zw yX7_readsNumber cX7_readsNumber 6 (some .boolean)) ({ frames := 2, cells := 0, slots := 0, locals := 44 } : Room)).room s m ([.ref (a 0), .int p0, .int p1, .int p2] : List Value).toArray below meth c H locs 0 0 (MQ below (va_Qi (fun (x : Int32) (_ : Unit) => x = zb r.1) (fun _ => zEnd g A (zX7 g a r.2)) A) ([.ref (a 0), .int p0, .int p1, .int p2] : List Value).toArray s 0 0 A) (F0 m 70 ls [])) → ∀ (H : Heap) (locs : List Loc), va_P g.1 vwCl (zX7 g a (v.1, v.2.1, v.2.2.1, v.2.2.2.1, v.2.2.2.2.1, v.2.2.2.2.2.1, v.2.2.2.2.2.2.1, v.2.2.2.2.2.2.2.1, x.1, x.2, v.2.2.2.2.2.2.2.2.2.2)) H → va_D A (zX7 g a (v.1, v.2.1, v.2.2.1, v.2.2.2.1, v.2.2.2.2.1, v.2.2.2.2.2.1, v.2.2.2.2.2.2.1, v.2.2.2.2.2.2.2.1, x.1, x.2, v.2.2.2.2.2.2.2.2.2.2)) → va_S A s.heap H locs → ∀ ls : Array Slot, lv_has ls 6 [(0, .ref (a 0)), (1, .int i1), (2, .int i2), (3, .int i3), (4, .int i4)] → W p l e (headSpec (zw yX7_readsNumber cX7_readsNumber 6 (some .boolean)) ({ frames := 2, cells := 0, slots := 0, locals := 44 } : Room)).room s m ([.ref (a 0), .int p0, .int p1, .int p2] : List Value).toArray below meth c H locs 0 0 (MQ below (va_Qi (fun (x : Int32) (_ : Unit) => x = zb r.1) (fun _ => zEnd g A (zX7 g a r.2)) A) ([.ref (a 0), .int p0, .int p1, .int p2] : List Value).toArray s 0 0 A) (F0 m 11 ls []) := by
    intro v i1 i2 i3 i4
    refine zloop_ind ?_
    intro x y rr hf ih hr hQ H locs hP hD hS ls hl
    unfold s_X7_readsNumber_11 at hf
    refine lv_aload_n hx hb dX7_readsNumber_11 rfl (lv_at hl 0 rfl) ?_
    refine va_get (D := g.1) (ci := 7) (v := .int x.1) (C := RX7) (T := TX7) (N := 11) hx hb hw0 ziX7 hown hK.1 hP 0 rfl rfl 8 (by decide) (hw0 _ zm4_79) (fun _ h9 => h9) rfl dX7_readsNumber_12 ?_
    refine lv_iload hx hb dX7_readsNumber_15 (lv_at hl 4 rfl) ?_
    refine lv_isub hx hb dX7_readsNumber_17 ?_
    refine lv_iload_n hx hb dX7_readsNumber_18 rfl (lv_at hl 1 rfl) ?_
    refine lv_icmp_ge (tgt := 70) hx hb dX7_readsNumber_19 (by decide) (fun c1 => ?_) (fun c1 => ?_)
    · have hf := oi hf c1
      have hR : (x.1, x.2) = rr := hr _ (Option.some.inj hf).symm
      subst hR
      exact hQ _ _ hP hD hS _ (lv_sub hl [0, 2, 3, 4] rfl)
    · have hf := oe hf c1
      refine lv_aload_n hx hb dX7_readsNumber_22 rfl (lv_at hl 0 rfl) ?_
      refine lv_bipush (v := 48) hx hb dX7_readsNumber_23 (by decide) ?_
      refine lv_bipush (v := 57) hx hb dX7_readsNumber_25 (by decide) ?_
      obtain ⟨u2, hu2, hf⟩ := ob hf
      refine zk_iA (va_runV (As := [.int 48, .int 57]) (rest := []) ⟨hx, hb, hml, hown, hts⟩ (c_X7_isAt l g a (v.1, v.2.1, v.2.2.1, v.2.2.2.1, v.2.2.2.2.1, v.2.2.2.2.2.1, v.2.2.2.2.2.2.1, v.2.2.2.2.2.2.2.1, x.1, x.2, v.2.2.2.2.2.2.2.2.2.2) 48 57 _ hu2 _) (zcV hw0 zm5_138 zm5_141 zm1_8 zm5_140 zs7_10 hd_X7_isAt rfl rfl ⟨Nat.le_of_ble_eq_true rfl, Nat.le_of_ble_eq_true rfl⟩) ⟨zblind, zrecvA hK hP (ci := 7) rfl rfl, zpreA hK hP hD⟩ rfl rfl hl.1 rfl (lv_room (Nat.le_of_ble_eq_true rfl)) dX7_readsNumber_27 ⟨Nat.zero_le _, Nat.zero_le _⟩) hP hD hS hA (fun H locs hP hD hS => ?_)
      refine lv_if_eq (tgt := 70) hx hb dX7_readsNumber_30 (by decide) (fun c3 => ?_) (fun c3 => ?_)
      · have hf := oi hf c3
        have hR : (x.1, x.2) = rr := hr _ (Option.some.inj hf).symm
        subst hR
        exact hQ _ _ hP hD hS _ (lv_sub hl [0, 2, 3, 4] rfl)
      · have hf := oe hf c3
        refine lv_aload_n hx hb dX7_readsNumber_33 rfl (lv_at hl 0 rfl) ?_
        refine lv_bipush (v := 10) hx hb dX7_readsNumber_34 (by decide) ?_
        refine lv_aload_n hx hb dX7_readsNumber_36 rfl (lv_at hl 0 rfl) ?_
        refine va_get (D := g.1) (ci := 7) (v := .int x.2) (C := RX7) (T := TX7) (N := 11) hx hb hw0 ziX7 hown hK.1 hP 0 rfl rfl 9 (by decide) (hw0 _ zm4_80) (fun _ h9 => h9) rfl dX7_readsNumber_37 ?_
        refine lv_imul hx hb dX7_readsNumber_40 ?_
        refine lv_aload_n hx hb dX7_readsNumber_41 rfl (lv_at hl 0 rfl) ?_
        refine va_get (D := g.1) (ci := 7) (v := .ref (a 5)) (C := RX7) (T := TX7) (N := 11) hx hb hw0 ziX7 hown hK.1 hP 0 rfl rfl 5 (by decide) (hw0 _ zm4_76) (fun _ h9 => h9) rfl dX7_readsNumber_42 ?_
        refine lv_aload_n hx hb dX7_readsNumber_45 rfl (lv_at hl 0 rfl) ?_
        refine va_get (D := g.1) (ci := 7) (v := .int x.1) (C := RX7) (T := TX7) (N := 11) hx hb hw0 ziX7 hown hK.1 hP 0 rfl rfl 8 (by decide) (hw0 _ zm4_79) (fun _ h9 => h9) rfl dX7_readsNumber_46 ?_
        obtain ⟨h4, hf⟩ := og hf
        refine zald (D := g.1) (f := v.2.2.2.2.2.1) (k := x.1.toNatClampNeg) hx hb hK.1 hP 5 0 rfl rfl (zin_vp h4) rfl dX7_readsNumber_49 ?_
        refine lv_iadd hx hb dX7_readsNumber_50 ?_
        refine lv_bipush (v := 48) hx hb dX7_readsNumber_51 (by decide) ?_
        refine lv_isub hx hb dX7_readsNumber_53 ?_
        refine va_put (D := g.1) (ci := 7) (v := .int (((10 * x.2) + (v.2.2.2.2.2.1 x.1.toNatClampNeg)) - 48)) (ty := .int) (C := RX7) (T := TX7) (N := 11) hx hb hw0 ziX7 tyX7 tyX7_ok nmX7 hown hK.1 hP hD hS 0 rfl rfl 9 (by decide) (hw0 _ zm4_80) (fun _ h9 => h9) rfl (tyX7_ok 9 (by decide)) rfl rfl (Nat.le_of_ble_eq_true rfl) dX7_readsNumber_54 (fun H locs hP hD hS => ?_)
        have hP : va_P g.1 vwCl (zX7 g a (v.1, v.2.1, v.2.2.1, v.2.2.2.1, v.2.2.2.2.1, v.2.2.2.2.2.1, v.2.2.2.2.2.2.1, v.2.2.2.2.2.2.2.1, x.1, (((10 * x.2) + (v.2.2.2.2.2.1 x.1.toNatClampNeg)) - 48), v.2.2.2.2.2.2.2.2.2.2)) H := hP
        have hD : va_D A (zX7 g a (v.1, v.2.1, v.2.2.1, v.2.2.2.1, v.2.2.2.2.1, v.2.2.2.2.2.1, v.2.2.2.2.2.2.1, v.2.2.2.2.2.2.2.1, x.1, (((10 * x.2) + (v.2.2.2.2.2.1 x.1.toNatClampNeg)) - 48), v.2.2.2.2.2.2.2.2.2.2)) := hD
        refine lv_aload_n hx hb dX7_readsNumber_57 rfl (lv_at hl 0 rfl) ?_
        refine lv_dup hx hb dX7_readsNumber_58 rfl ?_
        refine va_get (D := g.1) (ci := 7) (v := .int x.1) (C := RX7) (T := TX7) (N := 11) hx hb hw0 ziX7 hown hK.1 hP 0 rfl rfl 8 (by decide) (hw0 _ zm4_79) (fun _ h9 => h9) rfl dX7_readsNumber_59 ?_
        refine lv_iconst (v := 1) hx hb dX7_readsNumber_62 (by decide) ?_
        refine lv_iadd hx hb dX7_readsNumber_63 ?_
        refine va_put (D := g.1) (ci := 7) (v := .int (x.1 + 1)) (ty := .int) (C := RX7) (T := TX7) (N := 11) hx hb hw0 ziX7 tyX7 tyX7_ok nmX7 hown hK.1 hP hD hS 0 rfl rfl 8 (by decide) (hw0 _ zm4_79) (fun _ h9 => h9) rfl (tyX7_ok 8 (by decide)) rfl rfl (Nat.le_of_ble_eq_true rfl) dX7_readsNumber_64 (fun H locs hP hD hS => ?_)
        have hP : va_P g.1 vwCl (zX7 g a (v.1, v.2.1, v.2.2.1, v.2.2.2.1, v.2.2.2.2.1, v.2.2.2.2.2.1, v.2.2.2.2.2.2.1, v.2.2.2.2.2.2.2.1, (x.1 + 1), (((10 * x.2) + (v.2.2.2.2.2.1 x.1.toNatClampNeg)) - 48), v.2.2.2.2.2.2.2.2.2.2)) H := hP
        have hD : va_D A (zX7 g a (v.1, v.2.1, v.2.2.1, v.2.2.2.1, v.2.2.2.2.1, v.2.2.2.2.2.1, v.2.2.2.2.2.2.1, v.2.2.2.2.2.2.2.1, (x.1 + 1), (((10 * x.2) + (v.2.2.2.2.2.1 x.1.toNatClampNeg)) - 48), v.2.2.2.2.2.2.2.2.2.2)) := hD
        refine lv_goto (tgt := 11) hx hb dX7_readsNumber_67 (by decide) ?_
        exact ih ((x.1 + 1), (((10 * x.2) + (v.2.2.2.2.2.1 x.1.toNatClampNeg)) - 48)) (Option.some.inj hf).symm hQ _ _ hP hD hS _ (lv_sub hl [0, 1, 2, 3, 4] rfl)
  unfold f_X7_readsNumber at hf
  have hl := lv_entry ([.ref (a 0), .int p0, .int p1, .int p2]) (n := 6) (Nat.le_of_ble_eq_true rfl)
  rw [lg_entry_eq]
  generalize (lg_sl ([.ref (a 0), .int p0, .int p1, .int p2]) ++ List.replicate (6 - (lg_sl ([.ref (a 0), .int p0, .int p1, .int p2])).length) Slot.unset).toArray = ls at hl ⊢
  have hl : lv_has ls 6 [(0, .ref (a 0)), (1, .int p0), (2, .int p1), (3, .int p2)] := hl
  refine lv_aload_n hx hb dX7_readsNumber_0 rfl (lv_at hl 0 rfl) ?_
  refine va_get (D := g.1) (ci := 7) (v := .int v.2.2.2.2.2.2.2.2.1) (C := RX7) (T := TX7) (N := 11) hx hb hw0 ziX7 hown hK.1 hP 0 rfl rfl 8 (by decide) (hw0 _ zm4_79) (fun _ h9 => h9) rfl dX7_readsNumber_1 ?_
  refine lv_istore (lv' := [(4, .int v.2.2.2.2.2.2.2.2.1), (0, .ref (a 0)), (1, .int p0), (2, .int p1), (3, .int p2)]) hx hb dX7_readsNumber_4 hl (by decide) rfl (fun ls hl => ?_)
  refine lv_aload_n hx hb dX7_readsNumber_6 rfl (lv_at hl 1 rfl) ?_
  refine lv_iconst (v := 0) hx hb dX7_readsNumber_7 (by decide) ?_
  refine va_put (D := g.1) (ci := 7) (v := .int 0) (ty := .int) (C := RX7) (T := TX7) (N := 11) hx hb hw0 ziX7 tyX7 tyX7_ok nmX7 hown hK.1 hP hD hS 0 rfl rfl 9 (by decide) (hw0 _ zm4_80) (fun _ h9 => h9) rfl (tyX7_ok 9 (by decide)) rfl rfl (Nat.le_of_ble_eq_true rfl) dX7_readsNumber_8 (fun H locs hP hD hS => ?_)
  have hP : va_P g.1 vwCl (zX7 g a (v.1, v.2.1, v.2.2.1, v.2.2.2.1, v.2.2.2.2.1, v.2.2.2.2.2.1, v.2.2.2.2.2.2.1, v.2.2.2.2.2.2.2.1, v.2.2.2.2.2.2.2.2.1, 0, v.2.2.2.2.2.2.2.2.2.2)) H := hP
  have hD : va_D A (zX7 g a (v.1, v.2.1, v.2.2.1, v.2.2.2.1, v.2.2.2.2.1, v.2.2.2.2.2.1, v.2.2.2.2.2.2.1, v.2.2.2.2.2.2.2.1, v.2.2.2.2.2.2.2.2.1, 0, v.2.2.2.2.2.2.2.2.2.2)) := hD
  obtain ⟨u5, hu5, hf⟩ := ob hf
  refine lp11 (v.1, v.2.1, v.2.2.1, v.2.2.2.1, v.2.2.2.2.1, v.2.2.2.2.2.1, v.2.2.2.2.2.2.1, v.2.2.2.2.2.2.2.1, v.2.2.2.2.2.2.2.2.1, 0, v.2.2.2.2.2.2.2.2.2.2) p0 p1 p2 v.2.2.2.2.2.2.2.2.1 _ _ u5 hu5 (fun H locs hP hD hS ls hl => ?_) _ _ hP hD hS _ (lv_sub hl [1, 2, 3, 4, 0] rfl)
  have hl : lv_has ls 6 [(0, .ref (a 0)), (2, .int p1), (3, .int p2), (4, .int v.2.2.2.2.2.2.2.2.1)] := hl
  have hP : va_P g.1 vwCl (zX7 g a (v.1, v.2.1, v.2.2.1, v.2.2.2.1, v.2.2.2.2.1, v.2.2.2.2.2.1, v.2.2.2.2.2.2.1, v.2.2.2.2.2.2.2.1, u5.1, u5.2, v.2.2.2.2.2.2.2.2.2.2)) H := hP
  have hD : va_D A (zX7 g a (v.1, v.2.1, v.2.2.1, v.2.2.2.1, v.2.2.2.2.1, v.2.2.2.2.2.1, v.2.2.2.2.2.2.1, v.2.2.2.2.2.2.2.1, u5.1, u5.2, v.2.2.2.2.2.2.2.2.2.2)) := hD
  refine lv_aload_n hx hb dX7_readsNumber_70 rfl (lv_at hl 0 rfl) ?_
  refine va_get (D := g.1) (ci := 7) (v := .int u5.1) (C := RX7) (T := TX7) (N := 11) hx hb hw0 ziX7 hown hK.1 hP 0 rfl rfl 8 (by decide) (hw0 _ zm4_79) (fun _ h9 => h9) rfl dX7_readsNumber_71 ?_
  refine lv_iload hx hb dX7_readsNumber_74 (lv_at hl 3 rfl) ?_
  refine lv_icmp_eq (tgt := 90) hx hb dX7_readsNumber_76 (by decide) (fun c6 => ?_) (fun c6 => ?_)
  · have hf := oi hf c6
    refine lv_iconst (v := 0) hx hb dX7_readsNumber_90 (by decide) ?_
    have hR : (false, (v.1, v.2.1, v.2.2.1, v.2.2.2.1, v.2.2.2.2.1, v.2.2.2.2.2.1, v.2.2.2.2.2.2.1, v.2.2.2.2.2.2.2.1, u5.1, u5.2, v.2.2.2.2.2.2.2.2.2.2)) = r := Option.some.inj hf
    subst hR
    exact W.zret (v := zb false) hx hb hr0 (zb_nar false) (fun t ht hW => ⟨⟨zb false, (), rfl, rfl, by rw [ht]; exact hP, hD⟩, hS.F ht⟩) hS.2.2 dX7_readsNumber_91
  · have hf := oe hf c6
    refine lv_aload_n hx hb dX7_readsNumber_79 rfl (lv_at hl 0 rfl) ?_
    refine lv_bipush (v := 48) hx hb dX7_readsNumber_80 (by decide) ?_
    refine lv_bipush (v := 57) hx hb dX7_readsNumber_82 (by decide) ?_
    obtain ⟨u7, hu7, hf⟩ := ob hf
    refine zk_iA (va_runV (As := [.int 48, .int 57]) (rest := []) ⟨hx, hb, hml, hown, hts⟩ (c_X7_isAt l g a (v.1, v.2.1, v.2.2.1, v.2.2.2.1, v.2.2.2.2.1, v.2.2.2.2.2.1, v.2.2.2.2.2.2.1, v.2.2.2.2.2.2.2.1, u5.1, u5.2, v.2.2.2.2.2.2.2.2.2.2) 48 57 _ hu7 _) (zcV hw0 zm5_138 zm5_141 zm1_8 zm5_140 zs7_10 hd_X7_isAt rfl rfl ⟨Nat.le_of_ble_eq_true rfl, Nat.le_of_ble_eq_true rfl⟩) ⟨zblind, zrecvA hK hP (ci := 7) rfl rfl, zpreA hK hP hD⟩ rfl rfl hl.1 rfl (lv_room (Nat.le_of_ble_eq_true rfl)) dX7_readsNumber_84 ⟨Nat.zero_le _, Nat.zero_le _⟩) hP hD hS hA (fun H locs hP hD hS => ?_)
    refine lv_if_eq (tgt := 92) hx hb dX7_readsNumber_87 (by decide) (fun c8 => ?_) (fun c8 => ?_)
    · have hf := oi hf c8
      refine lv_aload_n hx hb dX7_readsNumber_92 rfl (lv_at hl 0 rfl) ?_
      refine va_get (D := g.1) (ci := 7) (v := .int u5.2) (C := RX7) (T := TX7) (N := 11) hx hb hw0 ziX7 hown hK.1 hP 0 rfl rfl 9 (by decide) (hw0 _ zm4_80) (fun _ h9 => h9) rfl dX7_readsNumber_93 ?_
      refine lv_iload_n hx hb dX7_readsNumber_96 rfl (lv_at hl 1 rfl) ?_
      refine lv_iload_n hx hb dX7_readsNumber_97 rfl (lv_at hl 2 rfl) ?_
      obtain ⟨u9, hu9, hf⟩ := ob hf
      refine zk_iR (va_runS (As := [.int u5.2, .int p1, .int p2]) (rest := []) ⟨hx, hb, hml, hown, hts⟩ (c_X7_in l g u5.2 p1 p2 _ hu9 _) (zcS hw0 zm4_113 zm4_115 zm1_8 zm4_114 hd_X7_in rfl rfl ⟨Nat.le_of_ble_eq_true rfl, Nat.le_of_ble_eq_true rfl⟩) ⟨zblind, zpre hK hP hD [] rfl rfl⟩ rfl rfl hl.1 rfl (lv_room (Nat.le_of_ble_eq_true rfl)) dX7_readsNumber_98 ⟨Nat.zero_le _, Nat.zero_le _⟩) hP hD hS hA [] rfl (fun H locs hP hD hS => ?_)
      refine lv_istore (lv' := [(5, .int (zb u9)), (0, .ref (a 0)), (2, .int p1), (3, .int p2), (4, .int v.2.2.2.2.2.2.2.2.1)]) hx hb dX7_readsNumber_101 hl (by decide) rfl (fun ls hl => ?_)
      refine lv_aload_n hx hb dX7_readsNumber_103 rfl (lv_at hl 1 rfl) ?_
      refine lv_iload hx hb dX7_readsNumber_104 (lv_at hl 0 rfl) ?_
      refine lv_if_eq (tgt := 116) hx hb dX7_readsNumber_106 (by decide) (fun c10 => ?_) (fun c10 => ?_)
      · have hf := oi hf c10
        refine lv_iload hx hb dX7_readsNumber_116 (lv_at hl 4 rfl) ?_
        refine va_put (D := g.1) (ci := 7) (v := .int v.2.2.2.2.2.2.2.2.1) (ty := .int) (C := RX7) (T := TX7) (N := 11) hx hb hw0 ziX7 tyX7 tyX7_ok nmX7 hown hK.1 hP hD hS 0 rfl rfl 8 (by decide) (hw0 _ zm4_79) (fun _ h9 => h9) rfl (tyX7_ok 8 (by decide)) rfl rfl (Nat.le_of_ble_eq_true rfl) dX7_readsNumber_118 (fun H locs hP hD hS => ?_)
        have hP : va_P g.1 vwCl (zX7 g a (v.1, v.2.1, v.2.2.1, v.2.2.2.1, v.2.2.2.2.1, v.2.2.2.2.2.1, v.2.2.2.2.2.2.1, v.2.2.2.2.2.2.2.1, v.2.2.2.2.2.2.2.2.1, u5.2, v.2.2.2.2.2.2.2.2.2.2)) H := hP
        have hD : va_D A (zX7 g a (v.1, v.2.1, v.2.2.1, v.2.2.2.1, v.2.2.2.2.1, v.2.2.2.2.2.1, v.2.2.2.2.2.2.1, v.2.2.2.2.2.2.2.1, v.2.2.2.2.2.2.2.2.1, u5.2, v.2.2.2.2.2.2.2.2.2.2)) := hD
        refine lv_iload hx hb dX7_readsNumber_121 (lv_at hl 0 rfl) ?_
        have hR : (u9, (v.1, v.2.1, v.2.2.1, v.2.2.2.1, v.2.2.2.2.1, v.2.2.2.2.2.1, v.2.2.2.2.2.2.1, v.2.2.2.2.2.2.2.1, v.2.2.2.2.2.2.2.2.1, u5.2, v.2.2.2.2.2.2.2.2.2.2)) = r := Option.some.inj hf
        subst hR
        exact W.zret (v := zb u9) hx hb hr0 (zb_nar u9) (fun t ht hW => ⟨⟨zb u9, (), rfl, rfl, by rw [ht]; exact hP, hD⟩, hS.F ht⟩) hS.2.2 dX7_readsNumber_123
      · have hf := oe hf c10
        refine lv_aload_n hx hb dX7_readsNumber_109 rfl (lv_at hl 1 rfl) ?_
        refine va_get (D := g.1) (ci := 7) (v := .int u5.1) (C := RX7) (T := TX7) (N := 11) hx hb hw0 ziX7 hown hK.1 hP 0 rfl rfl 8 (by decide) (hw0 _ zm4_79) (fun _ h9 => h9) rfl dX7_readsNumber_110 ?_
        refine lv_goto (tgt := 118) hx hb dX7_readsNumber_113 (by decide) ?_
        refine va_put (D := g.1) (ci := 7) (v := .int u5.1) (ty := .int) (C := RX7) (T := TX7) (N := 11) hx hb hw0 ziX7 tyX7 tyX7_ok nmX7 hown hK.1 hP hD hS 0 rfl rfl 8 (by decide) (hw0 _ zm4_79) (fun _ h9 => h9) rfl (tyX7_ok 8 (by decide)) rfl rfl (Nat.le_of_ble_eq_true rfl) dX7_readsNumber_118 (fun H locs hP hD hS => ?_)
        have hP : va_P g.1 vwCl (zX7 g a (v.1, v.2.1, v.2.2.1, v.2.2.2.1, v.2.2.2.2.1, v.2.2.2.2.2.1, v.2.2.2.2.2.2.1, v.2.2.2.2.2.2.2.1, u5.1, u5.2, v.2.2.2.2.2.2.2.2.2.2)) H := hP
        have hD : va_D A (zX7 g a (v.1, v.2.1, v.2.2.1, v.2.2.2.1, v.2.2.2.2.1, v.2.2.2.2.2.1, v.2.2.2.2.2.2.1, v.2.2.2.2.2.2.2.1, u5.1, u5.2, v.2.2.2.2.2.2.2.2.2.2)) := hD
        refine lv_iload hx hb dX7_readsNumber_121 (lv_at hl 0 rfl) ?_
        have hR : (u9, (v.1, v.2.1, v.2.2.1, v.2.2.2.1, v.2.2.2.2.1, v.2.2.2.2.2.1, v.2.2.2.2.2.2.1, v.2.2.2.2.2.2.2.1, u5.1, u5.2, v.2.2.2.2.2.2.2.2.2.2)) = r := Option.some.inj hf
        subst hR
        exact W.zret (v := zb u9) hx hb hr0 (zb_nar u9) (fun t ht hW => ⟨⟨zb u9, (), rfl, rfl, by rw [ht]; exact hP, hD⟩, hS.F ht⟩) hS.2.2 dX7_readsNumber_123
    · have hf := oe hf c8
      refine lv_iconst (v := 0) hx hb dX7_readsNumber_90 (by decide) ?_
      have hR : (false, (v.1, v.2.1, v.2.2.1, v.2.2.2.1, v.2.2.2.2.1, v.2.2.2.2.2.1, v.2.2.2.2.2.2.1, v.2.2.2.2.2.2.2.1, u5.1, u5.2, v.2.2.2.2.2.2.2.2.2.2)) = r := Option.some.inj hf
      subst hR
      exact W.zret (v := zb false) hx hb hr0 (zb_nar false) (fun t ht hW => ⟨⟨zb false, (), rfl, rfl, by rw [ht]; exact hP, hD⟩, hS.F ht⟩) hS.2.2 dX7_readsNumber_91
theorem hd_X7_readsElement : yX7_readsElement.cls ≠ "java/lang/invoke/MethodHandle" ∧ yX7_readsElement.cls ≠ "java/lang/invoke/VarHandle" ∧ (parseMethodDescriptor yX7_readsElement.desc).map (fun d => d.parameters.length) = some 0 := by decide +kernel
def f_X7_readsElement (v : MV) : Option (Bool × MV) :=
  if (v.1 7) = 12 then
    some (false, v)
  else
    (f_X7_readsNumber v 4 1 1800).bind (fun u2 =>
    if (zb u2.1) = 0 then
      some (false, u2.2)
    else
      (f_X7_takes u2.2 64).bind (fun u4 =>
      if (zb u4.1) = 0 then
        (f_X7_takes u4.2 114).bind (fun u6 =>
        if (zb u6.1) = 0 then
          (f_X7_putElement u6.2 u2.2.2.2.2.2.2.2.2.2.2.1 (-1) 5).bind (fun u8 =>
          (f_X7_takes u8 59).bind (fun u9 =>
          some (u9.1, u9.2)))
        else
          (f_X7_isAt u6.2 48 57).bind (fun u10 =>
          if (zb u10) = 0 then
            some (false, u6.2)
          else
            if zin u6.2.2.2.2.2.2.2.2.2.1 100 = true then
            (f_X7_putElement (u6.2.1, u6.2.2.1, u6.2.2.2.1, u6.2.2.2.2.1, u6.2.2.2.2.2.1, u6.2.2.2.2.2.2.1, u6.2.2.2.2.2.2.2.1, u6.2.2.2.2.2.2.2.2.1, (u6.2.2.2.2.2.2.2.2.2.1 + 1), u6.2.2.2.2.2.2.2.2.2.2.1, u6.2.2.2.2.2.2.2.2.2.2.2) u2.2.2.2.2.2.2.2.2.2.2.1 (-1) ((u6.2.2.2.2.2.2.1 u6.2.2.2.2.2.2.2.2.2.1.toNatClampNeg) - 48)).bind (fun u13 =>
            (f_X7_takes u13 59).bind (fun u14 =>
            some (u14.1, u14.2)))
            else none))
      else
        (f_X7_readsNumber u4.2 4 0 3599).bind (fun u15 =>
        if (zb u15.1) = 0 then
          some (false, u15.2)
        else
          (f_X7_takes u15.2 114).bind (fun u17 =>
          if (zb u17.1) = 0 then
            (f_X7_putElement u17.2 u2.2.2.2.2.2.2.2.2.2.2.1 u15.2.2.2.2.2.2.2.2.2.2.1 5).bind (fun u19 =>
            (f_X7_takes u19 59).bind (fun u20 =>
            some (u20.1, u20.2)))
          else
            (f_X7_isAt u17.2 48 57).bind (fun u21 =>
            if (zb u21) = 0 then
              some (false, u17.2)
            else
              if zin u17.2.2.2.2.2.2.2.2.2.1 100 = true then
              (f_X7_putElement (u17.2.1, u17.2.2.1, u17.2.2.2.1, u17.2.2.2.2.1, u17.2.2.2.2.2.1, u17.2.2.2.2.2.2.1, u17.2.2.2.2.2.2.2.1, u17.2.2.2.2.2.2.2.2.1, (u17.2.2.2.2.2.2.2.2.2.1 + 1), u17.2.2.2.2.2.2.2.2.2.2.1, u17.2.2.2.2.2.2.2.2.2.2.2) u2.2.2.2.2.2.2.2.2.2.2.1 u15.2.2.2.2.2.2.2.2.2.2.1 ((u17.2.2.2.2.2.2.1 u17.2.2.2.2.2.2.2.2.2.1.toNatClampNeg) - 48)).bind (fun u24 =>
              (f_X7_takes u24 59).bind (fun u25 =>
              some (u25.1, u25.2)))
              else none)))))
set_option maxHeartbeats 4000000 in
set_option maxRecDepth 100000 in
theorem c_X7_readsElement (l : Launch) (g : zG) (a : Nat → Nat) (v : MV) (r : Bool × MV) (hf : f_X7_readsElement v = some r) : zMi zNF zNM l yX7_readsElement (zw yX7_readsElement cX7_readsElement 4 (some .boolean)) ({ frames := 3, cells := 0, slots := 0, locals := 69 } : Room) g [.ref (a 0)] (zX7 g a v) (zb r.1) (zX7 g a r.2) := by
  intro sz
  refine Met.ofW (cc := cX7_readsElement) (maxL := 4) (ret := (some .boolean)) (by decide) rfl ?_
  intro p e s m args below meth c s₁ B hml hv
  obtain ⟨rfl, hsz, hP, hK, hD0⟩ := hv
  have hx := B.exec
  have hb := B.bytes
  have hr0 := B.returns
  have hts := atoms_spec (ws := (zw yX7_readsElement cX7_readsElement 4 (some .boolean))) B.pre
  have hw0 : ∀ w ∈ zW, w.before ([.ref (a 0)] : List Value).toArray s = true := fun w h => hts w (List.mem_cons_of_mem _ h)
  have hown : s.vm.findClass RX7 = some m.cls := findClass_of_methodNamed B.named
  have hlocks := B.notSynchronized
  subst hsz
  have hD := hD0.self (sz := s.heap.size)
  generalize hAe : va_A (zX7 g a v) s.heap.size = A at hD ⊢
  have hA : ∀ q : Nat, s.heap.size ≤ q → A q := fun q h => by rw [← hAe]; exact Or.inr h
  have hS : va_S A s.heap s.heap [] := va_S.rf
  unfold f_X7_readsElement at hf
  have hl := lv_entry ([.ref (a 0)]) (n := 4) (Nat.le_of_ble_eq_true rfl)
  rw [lg_entry_eq]
  generalize (lg_sl ([.ref (a 0)]) ++ List.replicate (4 - (lg_sl ([.ref (a 0)])).length) Slot.unset).toArray = ls at hl ⊢
  have hl : lv_has ls 4 [(0, .ref (a 0))] := hl
  refine lv_aload_n hx hb dX7_readsElement_0 rfl (lv_at hl 0 rfl) ?_
  refine va_get (D := g.1) (ci := 7) (v := .ref (a 1)) (C := RX7) (T := TX7) (N := 11) hx hb hw0 ziX7 hown hK.1 hP 0 rfl rfl 0 (by decide) (hw0 _ zm4_71) (fun _ h9 => h9) rfl dX7_readsElement_1 ?_
  refine lv_bipush (v := 7) hx hb dX7_readsElement_4 (by decide) ?_
  refine zald (D := g.1) (f := v.1) (k := 7) hx hb hK.1 hP 1 0 rfl rfl (zin_vp (i := 7) (n := 220) rfl) rfl dX7_readsElement_6 ?_
  refine lv_bipush (v := 12) hx hb dX7_readsElement_7 (by decide) ?_
  refine lv_icmp_eq (tgt := 24) hx hb dX7_readsElement_9 (by decide) (fun c1 => ?_) (fun c1 => ?_)
  · have hf := oi hf c1
    refine lv_iconst (v := 0) hx hb dX7_readsElement_24 (by decide) ?_
    have hR : (false, v) = r := Option.some.inj hf
    subst hR
    exact W.zret (v := zb false) hx hb hr0 (zb_nar false) (fun t ht hW => ⟨⟨zb false, (), rfl, rfl, by rw [ht]; exact hP, hD⟩, hS.F ht⟩) hS.2.2 dX7_readsElement_25
  · have hf := oe hf c1
    refine lv_aload_n hx hb dX7_readsElement_12 rfl (lv_at hl 0 rfl) ?_
    refine lv_iconst (v := 4) hx hb dX7_readsElement_13 (by decide) ?_
    refine lv_iconst (v := 1) hx hb dX7_readsElement_14 (by decide) ?_
    refine lv_sipush (v := 1800) hx hb dX7_readsElement_15 (by decide) ?_
    obtain ⟨u2, hu2, hf⟩ := ob hf
    refine zk_iA (va_runV (As := [.int 4, .int 1, .int 1800]) (rest := []) ⟨hx, hb, hml, hown, hts⟩ (c_X7_readsNumber l g a v 4 1 1800 _ hu2 _) (zcV hw0 zm5_146 zm5_149 zm1_8 zm5_148 zs7_12 hd_X7_readsNumber rfl rfl ⟨Nat.le_of_ble_eq_true rfl, Nat.le_of_ble_eq_true rfl⟩) ⟨zblind, zrecvA hK hP (ci := 7) rfl rfl, zpreA hK hP hD⟩ rfl rfl hl.1 rfl (lv_room (Nat.le_of_ble_eq_true rfl)) dX7_readsElement_18 ⟨Nat.zero_le _, Nat.zero_le _⟩) hP hD hS hA (fun H locs hP hD hS => ?_)
    have hP : va_P g.1 vwCl (zX7 g a u2.2) H := hP
    have hD : va_D A (zX7 g a u2.2) := hD
    refine lv_if_ne (tgt := 26) hx hb dX7_readsElement_21 (by decide) (fun c3 => ?_) (fun c3 => ?_)
    · have hf := oe hf c3
      refine lv_aload_n hx hb dX7_readsElement_26 rfl (lv_at hl 0 rfl) ?_
      refine va_get (D := g.1) (ci := 7) (v := .int u2.2.2.2.2.2.2.2.2.2.2.1) (C := RX7) (T := TX7) (N := 11) hx hb hw0 ziX7 hown hK.1 hP 0 rfl rfl 9 (by decide) (hw0 _ zm4_80) (fun _ h9 => h9) rfl dX7_readsElement_27 ?_
      refine lv_istore_n (lv' := [(1, .int u2.2.2.2.2.2.2.2.2.2.2.1), (0, .ref (a 0))]) hx hb dX7_readsElement_30 rfl hl (by decide) rfl (fun ls hl => ?_)
      refine lv_iconst (v := (-1)) hx hb dX7_readsElement_31 (by decide) ?_
      refine lv_istore_n (lv' := [(2, .int (-1)), (1, .int u2.2.2.2.2.2.2.2.2.2.2.1), (0, .ref (a 0))]) hx hb dX7_readsElement_32 rfl hl (by decide) rfl (fun ls hl => ?_)
      refine lv_iconst (v := 5) hx hb dX7_readsElement_33 (by decide) ?_
      refine lv_istore_n (lv' := [(3, .int 5), (2, .int (-1)), (1, .int u2.2.2.2.2.2.2.2.2.2.2.1), (0, .ref (a 0))]) hx hb dX7_readsElement_34 rfl hl (by decide) rfl (fun ls hl => ?_)
      refine lv_aload_n hx hb dX7_readsElement_35 rfl (lv_at hl 3 rfl) ?_
      refine lv_bipush (v := 64) hx hb dX7_readsElement_36 (by decide) ?_
      obtain ⟨u4, hu4, hf⟩ := ob hf
      refine zk_iA (va_runV (As := [.int 64]) (rest := []) ⟨hx, hb, hml, hown, hts⟩ (c_X7_takes l g a u2.2 64 _ hu4 _) (zcV hw0 zm5_150 zm5_153 zm1_8 zm5_152 zs7_13 hd_X7_takes rfl rfl ⟨Nat.le_of_ble_eq_true rfl, Nat.le_of_ble_eq_true rfl⟩) ⟨zblind, zrecvA hK hP (ci := 7) rfl rfl, zpreA hK hP hD⟩ rfl rfl hl.1 rfl (lv_room (Nat.le_of_ble_eq_true rfl)) dX7_readsElement_38 ⟨Nat.zero_le _, Nat.zero_le _⟩) hP hD hS hA (fun H locs hP hD hS => ?_)
      have hP : va_P g.1 vwCl (zX7 g a u4.2) H := hP
      have hD : va_D A (zX7 g a u4.2) := hD
      refine lv_if_eq (tgt := 63) hx hb dX7_readsElement_41 (by decide) (fun c5 => ?_) (fun c5 => ?_)
      · have hf := oi hf c5
        refine lv_aload_n hx hb dX7_readsElement_63 rfl (lv_at hl 3 rfl) ?_
        refine lv_bipush (v := 114) hx hb dX7_readsElement_64 (by decide) ?_
        obtain ⟨u6, hu6, hf⟩ := ob hf
        refine zk_iA (va_runV (As := [.int 114]) (rest := []) ⟨hx, hb, hml, hown, hts⟩ (c_X7_takes l g a u4.2 114 _ hu6 _) (zcV hw0 zm5_150 zm5_153 zm1_8 zm5_152 zs7_13 hd_X7_takes rfl rfl ⟨Nat.le_of_ble_eq_true rfl, Nat.le_of_ble_eq_true rfl⟩) ⟨zblind, zrecvA hK hP (ci := 7) rfl rfl, zpreA hK hP hD⟩ rfl rfl hl.1 rfl (lv_room (Nat.le_of_ble_eq_true rfl)) dX7_readsElement_66 ⟨Nat.zero_le _, Nat.zero_le _⟩) hP hD hS hA (fun H locs hP hD hS => ?_)
        have hP : va_P g.1 vwCl (zX7 g a u6.2) H := hP
        have hD : va_D A (zX7 g a u6.2) := hD
        refine lv_if_eq (tgt := 108) hx hb dX7_readsElement_69 (by decide) (fun c7 => ?_) (fun c7 => ?_)
        · have hf := oi hf c7
          refine lv_aload_n hx hb dX7_readsElement_108 rfl (lv_at hl 3 rfl) ?_
          refine lv_iload_n hx hb dX7_readsElement_109 rfl (lv_at hl 2 rfl) ?_
          refine lv_iload_n hx hb dX7_readsElement_110 rfl (lv_at hl 1 rfl) ?_
          refine lv_iload_n hx hb dX7_readsElement_111 rfl (lv_at hl 0 rfl) ?_
          obtain ⟨u8, hu8, hf⟩ := ob hf
          refine zk_vA (va_runV (As := [.int u2.2.2.2.2.2.2.2.2.2.2.1, .int (-1), .int 5]) (rest := []) ⟨hx, hb, hml, hown, hts⟩ (c_X7_putElement l g a u6.2 u2.2.2.2.2.2.2.2.2.2.2.1 (-1) 5 _ hu8 _) (zcV hw0 zm4_124 zm4_127 zm1_8 zm4_126 zs5_3 hd_X7_putElement rfl rfl ⟨Nat.le_of_ble_eq_true rfl, Nat.le_of_ble_eq_true rfl⟩) ⟨zblind, zrecvA hK hP (ci := 7) rfl rfl, zpreA hK hP hD⟩ rfl rfl hl.1 rfl (lv_room (Nat.le_of_ble_eq_true rfl)) dX7_readsElement_112 ⟨Nat.zero_le _, Nat.zero_le _⟩) hP hD hS hA (fun H locs hP hD hS => ?_)
          have hP : va_P g.1 vwCl (zX7 g a u8) H := hP
          have hD : va_D A (zX7 g a u8) := hD
          refine lv_aload_n hx hb dX7_readsElement_115 rfl (lv_at hl 3 rfl) ?_
          refine lv_bipush (v := 59) hx hb dX7_readsElement_116 (by decide) ?_
          obtain ⟨u9, hu9, hf⟩ := ob hf
          refine zk_iA (va_runV (As := [.int 59]) (rest := []) ⟨hx, hb, hml, hown, hts⟩ (c_X7_takes l g a u8 59 _ hu9 _) (zcV hw0 zm5_150 zm5_153 zm1_8 zm5_152 zs7_13 hd_X7_takes rfl rfl ⟨Nat.le_of_ble_eq_true rfl, Nat.le_of_ble_eq_true rfl⟩) ⟨zblind, zrecvA hK hP (ci := 7) rfl rfl, zpreA hK hP hD⟩ rfl rfl hl.1 rfl (lv_room (Nat.le_of_ble_eq_true rfl)) dX7_readsElement_118 ⟨Nat.zero_le _, Nat.zero_le _⟩) hP hD hS hA (fun H locs hP hD hS => ?_)
          have hP : va_P g.1 vwCl (zX7 g a u9.2) H := hP
          have hD : va_D A (zX7 g a u9.2) := hD
          have hR : (u9.1, u9.2) = r := Option.some.inj hf
          subst hR
          exact W.zret (v := zb u9.1) hx hb hr0 (zb_nar u9.1) (fun t ht hW => ⟨⟨zb u9.1, (), rfl, rfl, by rw [ht]; exact hP, hD⟩, hS.F ht⟩) hS.2.2 dX7_readsElement_121
        · have hf := oe hf c7
          refine lv_aload_n hx hb dX7_readsElement_72 rfl (lv_at hl 3 rfl) ?_
          refine lv_bipush (v := 48) hx hb dX7_readsElement_73 (by decide) ?_
          refine lv_bipush (v := 57) hx hb dX7_readsElement_75 (by decide) ?_
          obtain ⟨u10, hu10, hf⟩ := ob hf
          refine zk_iA (va_runV (As := [.int 48, .int 57]) (rest := []) ⟨hx, hb, hml, hown, hts⟩ (c_X7_isAt l g a u6.2 48 57 _ hu10 _) (zcV hw0 zm5_138 zm5_141 zm1_8 zm5_140 zs7_10 hd_X7_isAt rfl rfl ⟨Nat.le_of_ble_eq_true rfl, Nat.le_of_ble_eq_true rfl⟩) ⟨zblind, zrecvA hK hP (ci := 7) rfl rfl, zpreA hK hP hD⟩ rfl rfl hl.1 rfl (lv_room (Nat.le_of_ble_eq_true rfl)) dX7_readsElement_77 ⟨Nat.zero_le _, Nat.zero_le _⟩) hP hD hS hA (fun H locs hP hD hS => ?_)
          refine lv_if_ne (tgt := 85) hx hb dX7_readsElement_80 (by decide) (fun c11 => ?_) (fun c11 => ?_)
          · have hf := oe hf c11
            refine lv_aload_n hx hb dX7_readsElement_85 rfl (lv_at hl 3 rfl) ?_
            refine va_get (D := g.1) (ci := 7) (v := .ref (a 5)) (C := RX7) (T := TX7) (N := 11) hx hb hw0 ziX7 hown hK.1 hP 0 rfl rfl 5 (by decide) (hw0 _ zm4_76) (fun _ h9 => h9) rfl dX7_readsElement_86 ?_
            refine lv_aload_n hx hb dX7_readsElement_89 rfl (lv_at hl 3 rfl) ?_
            refine va_get (D := g.1) (ci := 7) (v := .int u6.2.2.2.2.2.2.2.2.2.1) (C := RX7) (T := TX7) (N := 11) hx hb hw0 ziX7 hown hK.1 hP 0 rfl rfl 8 (by decide) (hw0 _ zm4_79) (fun _ h9 => h9) rfl dX7_readsElement_90 ?_
            obtain ⟨h12, hf⟩ := og hf
            refine zald (D := g.1) (f := u6.2.2.2.2.2.2.1) (k := u6.2.2.2.2.2.2.2.2.2.1.toNatClampNeg) hx hb hK.1 hP 5 0 rfl rfl (zin_vp h12) rfl dX7_readsElement_93 ?_
            refine lv_bipush (v := 48) hx hb dX7_readsElement_94 (by decide) ?_
            refine lv_isub hx hb dX7_readsElement_96 ?_
            refine lv_istore_n (lv' := [(3, .int ((u6.2.2.2.2.2.2.1 u6.2.2.2.2.2.2.2.2.2.1.toNatClampNeg) - 48)), (2, .int (-1)), (1, .int u2.2.2.2.2.2.2.2.2.2.2.1), (0, .ref (a 0))]) hx hb dX7_readsElement_97 rfl hl (by decide) rfl (fun ls hl => ?_)
            refine lv_aload_n hx hb dX7_readsElement_98 rfl (lv_at hl 3 rfl) ?_
            refine lv_dup hx hb dX7_readsElement_99 rfl ?_
            refine va_get (D := g.1) (ci := 7) (v := .int u6.2.2.2.2.2.2.2.2.2.1) (C := RX7) (T := TX7) (N := 11) hx hb hw0 ziX7 hown hK.1 hP 0 rfl rfl 8 (by decide) (hw0 _ zm4_79) (fun _ h9 => h9) rfl dX7_readsElement_100 ?_
            refine lv_iconst (v := 1) hx hb dX7_readsElement_103 (by decide) ?_
            refine lv_iadd hx hb dX7_readsElement_104 ?_
            refine va_put (D := g.1) (ci := 7) (v := .int (u6.2.2.2.2.2.2.2.2.2.1 + 1)) (ty := .int) (C := RX7) (T := TX7) (N := 11) hx hb hw0 ziX7 tyX7 tyX7_ok nmX7 hown hK.1 hP hD hS 0 rfl rfl 8 (by decide) (hw0 _ zm4_79) (fun _ h9 => h9) rfl (tyX7_ok 8 (by decide)) rfl rfl (Nat.le_of_ble_eq_true rfl) dX7_readsElement_105 (fun H locs hP hD hS => ?_)
            have hP : va_P g.1 vwCl (zX7 g a (u6.2.1, u6.2.2.1, u6.2.2.2.1, u6.2.2.2.2.1, u6.2.2.2.2.2.1, u6.2.2.2.2.2.2.1, u6.2.2.2.2.2.2.2.1, u6.2.2.2.2.2.2.2.2.1, (u6.2.2.2.2.2.2.2.2.2.1 + 1), u6.2.2.2.2.2.2.2.2.2.2.1, u6.2.2.2.2.2.2.2.2.2.2.2)) H := hP
            have hD : va_D A (zX7 g a (u6.2.1, u6.2.2.1, u6.2.2.2.1, u6.2.2.2.2.1, u6.2.2.2.2.2.1, u6.2.2.2.2.2.2.1, u6.2.2.2.2.2.2.2.1, u6.2.2.2.2.2.2.2.2.1, (u6.2.2.2.2.2.2.2.2.2.1 + 1), u6.2.2.2.2.2.2.2.2.2.2.1, u6.2.2.2.2.2.2.2.2.2.2.2)) := hD
            refine lv_aload_n hx hb dX7_readsElement_108 rfl (lv_at hl 3 rfl) ?_
            refine lv_iload_n hx hb dX7_readsElement_109 rfl (lv_at hl 2 rfl) ?_
            refine lv_iload_n hx hb dX7_readsElement_110 rfl (lv_at hl 1 rfl) ?_
            refine lv_iload_n hx hb dX7_readsElement_111 rfl (lv_at hl 0 rfl) ?_
            obtain ⟨u13, hu13, hf⟩ := ob hf
            refine zk_vA (va_runV (As := [.int u2.2.2.2.2.2.2.2.2.2.2.1, .int (-1), .int ((u6.2.2.2.2.2.2.1 u6.2.2.2.2.2.2.2.2.2.1.toNatClampNeg) - 48)]) (rest := []) ⟨hx, hb, hml, hown, hts⟩ (c_X7_putElement l g a (u6.2.1, u6.2.2.1, u6.2.2.2.1, u6.2.2.2.2.1, u6.2.2.2.2.2.1, u6.2.2.2.2.2.2.1, u6.2.2.2.2.2.2.2.1, u6.2.2.2.2.2.2.2.2.1, (u6.2.2.2.2.2.2.2.2.2.1 + 1), u6.2.2.2.2.2.2.2.2.2.2.1, u6.2.2.2.2.2.2.2.2.2.2.2) u2.2.2.2.2.2.2.2.2.2.2.1 (-1) ((u6.2.2.2.2.2.2.1 u6.2.2.2.2.2.2.2.2.2.1.toNatClampNeg) - 48) _ hu13 _) (zcV hw0 zm4_124 zm4_127 zm1_8 zm4_126 zs5_3 hd_X7_putElement rfl rfl ⟨Nat.le_of_ble_eq_true rfl, Nat.le_of_ble_eq_true rfl⟩) ⟨zblind, zrecvA hK hP (ci := 7) rfl rfl, zpreA hK hP hD⟩ rfl rfl hl.1 rfl (lv_room (Nat.le_of_ble_eq_true rfl)) dX7_readsElement_112 ⟨Nat.zero_le _, Nat.zero_le _⟩) hP hD hS hA (fun H locs hP hD hS => ?_)
            have hP : va_P g.1 vwCl (zX7 g a u13) H := hP
            have hD : va_D A (zX7 g a u13) := hD
            refine lv_aload_n hx hb dX7_readsElement_115 rfl (lv_at hl 3 rfl) ?_
            refine lv_bipush (v := 59) hx hb dX7_readsElement_116 (by decide) ?_
            obtain ⟨u14, hu14, hf⟩ := ob hf
            refine zk_iA (va_runV (As := [.int 59]) (rest := []) ⟨hx, hb, hml, hown, hts⟩ (c_X7_takes l g a u13 59 _ hu14 _) (zcV hw0 zm5_150 zm5_153 zm1_8 zm5_152 zs7_13 hd_X7_takes rfl rfl ⟨Nat.le_of_ble_eq_true rfl, Nat.le_of_ble_eq_true rfl⟩) ⟨zblind, zrecvA hK hP (ci := 7) rfl rfl, zpreA hK hP hD⟩ rfl rfl hl.1 rfl (lv_room (Nat.le_of_ble_eq_true rfl)) dX7_readsElement_118 ⟨Nat.zero_le _, Nat.zero_le _⟩) hP hD hS hA (fun H locs hP hD hS => ?_)
            have hP : va_P g.1 vwCl (zX7 g a u14.2) H := hP
            have hD : va_D A (zX7 g a u14.2) := hD
            have hR : (u14.1, u14.2) = r := Option.some.inj hf
            subst hR
            exact W.zret (v := zb u14.1) hx hb hr0 (zb_nar u14.1) (fun t ht hW => ⟨⟨zb u14.1, (), rfl, rfl, by rw [ht]; exact hP, hD⟩, hS.F ht⟩) hS.2.2 dX7_readsElement_121
          · have hf := oi hf c11
            refine lv_iconst (v := 0) hx hb dX7_readsElement_83 (by decide) ?_
            have hR : (false, u6.2) = r := Option.some.inj hf
            subst hR
            exact W.zret (v := zb false) hx hb hr0 (zb_nar false) (fun t ht hW => ⟨⟨zb false, (), rfl, rfl, by rw [ht]; exact hP, hD⟩, hS.F ht⟩) hS.2.2 dX7_readsElement_84
      · have hf := oe hf c5
        refine lv_aload_n hx hb dX7_readsElement_44 rfl (lv_at hl 3 rfl) ?_
        refine lv_iconst (v := 4) hx hb dX7_readsElement_45 (by decide) ?_
        refine lv_iconst (v := 0) hx hb dX7_readsElement_46 (by decide) ?_
        refine lv_sipush (v := 3599) hx hb dX7_readsElement_47 (by decide) ?_
        obtain ⟨u15, hu15, hf⟩ := ob hf
        refine zk_iA (va_runV (As := [.int 4, .int 0, .int 3599]) (rest := []) ⟨hx, hb, hml, hown, hts⟩ (c_X7_readsNumber l g a u4.2 4 0 3599 _ hu15 _) (zcV hw0 zm5_146 zm5_149 zm1_8 zm5_148 zs7_12 hd_X7_readsNumber rfl rfl ⟨Nat.le_of_ble_eq_true rfl, Nat.le_of_ble_eq_true rfl⟩) ⟨zblind, zrecvA hK hP (ci := 7) rfl rfl, zpreA hK hP hD⟩ rfl rfl hl.1 rfl (lv_room (Nat.le_of_ble_eq_true rfl)) dX7_readsElement_50 ⟨Nat.zero_le _, Nat.zero_le _⟩) hP hD hS hA (fun H locs hP hD hS => ?_)
        have hP : va_P g.1 vwCl (zX7 g a u15.2) H := hP
        have hD : va_D A (zX7 g a u15.2) := hD
        refine lv_if_ne (tgt := 58) hx hb dX7_readsElement_53 (by decide) (fun c16 => ?_) (fun c16 => ?_)
        · have hf := oe hf c16
          refine lv_aload_n hx hb dX7_readsElement_58 rfl (lv_at hl 3 rfl) ?_
          refine va_get (D := g.1) (ci := 7) (v := .int u15.2.2.2.2.2.2.2.2.2.2.1) (C := RX7) (T := TX7) (N := 11) hx hb hw0 ziX7 hown hK.1 hP 0 rfl rfl 9 (by decide) (hw0 _ zm4_80) (fun _ h9 => h9) rfl dX7_readsElement_59 ?_
          refine lv_istore_n (lv' := [(2, .int u15.2.2.2.2.2.2.2.2.2.2.1), (3, .int 5), (1, .int u2.2.2.2.2.2.2.2.2.2.2.1), (0, .ref (a 0))]) hx hb dX7_readsElement_62 rfl hl (by decide) rfl (fun ls hl => ?_)
          refine lv_aload_n hx hb dX7_readsElement_63 rfl (lv_at hl 3 rfl) ?_
          refine lv_bipush (v := 114) hx hb dX7_readsElement_64 (by decide) ?_
          obtain ⟨u17, hu17, hf⟩ := ob hf
          refine zk_iA (va_runV (As := [.int 114]) (rest := []) ⟨hx, hb, hml, hown, hts⟩ (c_X7_takes l g a u15.2 114 _ hu17 _) (zcV hw0 zm5_150 zm5_153 zm1_8 zm5_152 zs7_13 hd_X7_takes rfl rfl ⟨Nat.le_of_ble_eq_true rfl, Nat.le_of_ble_eq_true rfl⟩) ⟨zblind, zrecvA hK hP (ci := 7) rfl rfl, zpreA hK hP hD⟩ rfl rfl hl.1 rfl (lv_room (Nat.le_of_ble_eq_true rfl)) dX7_readsElement_66 ⟨Nat.zero_le _, Nat.zero_le _⟩) hP hD hS hA (fun H locs hP hD hS => ?_)
          have hP : va_P g.1 vwCl (zX7 g a u17.2) H := hP
          have hD : va_D A (zX7 g a u17.2) := hD
          refine lv_if_eq (tgt := 108) hx hb dX7_readsElement_69 (by decide) (fun c18 => ?_) (fun c18 => ?_)
          · have hf := oi hf c18
            refine lv_aload_n hx hb dX7_readsElement_108 rfl (lv_at hl 3 rfl) ?_
            refine lv_iload_n hx hb dX7_readsElement_109 rfl (lv_at hl 2 rfl) ?_
            refine lv_iload_n hx hb dX7_readsElement_110 rfl (lv_at hl 0 rfl) ?_
            refine lv_iload_n hx hb dX7_readsElement_111 rfl (lv_at hl 1 rfl) ?_
            obtain ⟨u19, hu19, hf⟩ := ob hf
            refine zk_vA (va_runV (As := [.int u2.2.2.2.2.2.2.2.2.2.2.1, .int u15.2.2.2.2.2.2.2.2.2.2.1, .int 5]) (rest := []) ⟨hx, hb, hml, hown, hts⟩ (c_X7_putElement l g a u17.2 u2.2.2.2.2.2.2.2.2.2.2.1 u15.2.2.2.2.2.2.2.2.2.2.1 5 _ hu19 _) (zcV hw0 zm4_124 zm4_127 zm1_8 zm4_126 zs5_3 hd_X7_putElement rfl rfl ⟨Nat.le_of_ble_eq_true rfl, Nat.le_of_ble_eq_true rfl⟩) ⟨zblind, zrecvA hK hP (ci := 7) rfl rfl, zpreA hK hP hD⟩ rfl rfl hl.1 rfl (lv_room (Nat.le_of_ble_eq_true rfl)) dX7_readsElement_112 ⟨Nat.zero_le _, Nat.zero_le _⟩) hP hD hS hA (fun H locs hP hD hS => ?_)
            have hP : va_P g.1 vwCl (zX7 g a u19) H := hP
            have hD : va_D A (zX7 g a u19) := hD
            refine lv_aload_n hx hb dX7_readsElement_115 rfl (lv_at hl 3 rfl) ?_
            refine lv_bipush (v := 59) hx hb dX7_readsElement_116 (by decide) ?_
            obtain ⟨u20, hu20, hf⟩ := ob hf
            refine zk_iA (va_runV (As := [.int 59]) (rest := []) ⟨hx, hb, hml, hown, hts⟩ (c_X7_takes l g a u19 59 _ hu20 _) (zcV hw0 zm5_150 zm5_153 zm1_8 zm5_152 zs7_13 hd_X7_takes rfl rfl ⟨Nat.le_of_ble_eq_true rfl, Nat.le_of_ble_eq_true rfl⟩) ⟨zblind, zrecvA hK hP (ci := 7) rfl rfl, zpreA hK hP hD⟩ rfl rfl hl.1 rfl (lv_room (Nat.le_of_ble_eq_true rfl)) dX7_readsElement_118 ⟨Nat.zero_le _, Nat.zero_le _⟩) hP hD hS hA (fun H locs hP hD hS => ?_)
            have hP : va_P g.1 vwCl (zX7 g a u20.2) H := hP
            have hD : va_D A (zX7 g a u20.2) := hD
            have hR : (u20.1, u20.2) = r := Option.some.inj hf
            subst hR
            exact W.zret (v := zb u20.1) hx hb hr0 (zb_nar u20.1) (fun t ht hW => ⟨⟨zb u20.1, (), rfl, rfl, by rw [ht]; exact hP, hD⟩, hS.F ht⟩) hS.2.2 dX7_readsElement_121
          · have hf := oe hf c18
            refine lv_aload_n hx hb dX7_readsElement_72 rfl (lv_at hl 3 rfl) ?_
            refine lv_bipush (v := 48) hx hb dX7_readsElement_73 (by decide) ?_
            refine lv_bipush (v := 57) hx hb dX7_readsElement_75 (by decide) ?_
            obtain ⟨u21, hu21, hf⟩ := ob hf
            refine zk_iA (va_runV (As := [.int 48, .int 57]) (rest := []) ⟨hx, hb, hml, hown, hts⟩ (c_X7_isAt l g a u17.2 48 57 _ hu21 _) (zcV hw0 zm5_138 zm5_141 zm1_8 zm5_140 zs7_10 hd_X7_isAt rfl rfl ⟨Nat.le_of_ble_eq_true rfl, Nat.le_of_ble_eq_true rfl⟩) ⟨zblind, zrecvA hK hP (ci := 7) rfl rfl, zpreA hK hP hD⟩ rfl rfl hl.1 rfl (lv_room (Nat.le_of_ble_eq_true rfl)) dX7_readsElement_77 ⟨Nat.zero_le _, Nat.zero_le _⟩) hP hD hS hA (fun H locs hP hD hS => ?_)
            refine lv_if_ne (tgt := 85) hx hb dX7_readsElement_80 (by decide) (fun c22 => ?_) (fun c22 => ?_)
            · have hf := oe hf c22
              refine lv_aload_n hx hb dX7_readsElement_85 rfl (lv_at hl 3 rfl) ?_
              refine va_get (D := g.1) (ci := 7) (v := .ref (a 5)) (C := RX7) (T := TX7) (N := 11) hx hb hw0 ziX7 hown hK.1 hP 0 rfl rfl 5 (by decide) (hw0 _ zm4_76) (fun _ h9 => h9) rfl dX7_readsElement_86 ?_
              refine lv_aload_n hx hb dX7_readsElement_89 rfl (lv_at hl 3 rfl) ?_
              refine va_get (D := g.1) (ci := 7) (v := .int u17.2.2.2.2.2.2.2.2.2.1) (C := RX7) (T := TX7) (N := 11) hx hb hw0 ziX7 hown hK.1 hP 0 rfl rfl 8 (by decide) (hw0 _ zm4_79) (fun _ h9 => h9) rfl dX7_readsElement_90 ?_
              obtain ⟨h23, hf⟩ := og hf
              refine zald (D := g.1) (f := u17.2.2.2.2.2.2.1) (k := u17.2.2.2.2.2.2.2.2.2.1.toNatClampNeg) hx hb hK.1 hP 5 0 rfl rfl (zin_vp h23) rfl dX7_readsElement_93 ?_
              refine lv_bipush (v := 48) hx hb dX7_readsElement_94 (by decide) ?_
              refine lv_isub hx hb dX7_readsElement_96 ?_
              refine lv_istore_n (lv' := [(3, .int ((u17.2.2.2.2.2.2.1 u17.2.2.2.2.2.2.2.2.2.1.toNatClampNeg) - 48)), (2, .int u15.2.2.2.2.2.2.2.2.2.2.1), (1, .int u2.2.2.2.2.2.2.2.2.2.2.1), (0, .ref (a 0))]) hx hb dX7_readsElement_97 rfl hl (by decide) rfl (fun ls hl => ?_)
              refine lv_aload_n hx hb dX7_readsElement_98 rfl (lv_at hl 3 rfl) ?_
              refine lv_dup hx hb dX7_readsElement_99 rfl ?_
              refine va_get (D := g.1) (ci := 7) (v := .int u17.2.2.2.2.2.2.2.2.2.1) (C := RX7) (T := TX7) (N := 11) hx hb hw0 ziX7 hown hK.1 hP 0 rfl rfl 8 (by decide) (hw0 _ zm4_79) (fun _ h9 => h9) rfl dX7_readsElement_100 ?_
              refine lv_iconst (v := 1) hx hb dX7_readsElement_103 (by decide) ?_
              refine lv_iadd hx hb dX7_readsElement_104 ?_
              refine va_put (D := g.1) (ci := 7) (v := .int (u17.2.2.2.2.2.2.2.2.2.1 + 1)) (ty := .int) (C := RX7) (T := TX7) (N := 11) hx hb hw0 ziX7 tyX7 tyX7_ok nmX7 hown hK.1 hP hD hS 0 rfl rfl 8 (by decide) (hw0 _ zm4_79) (fun _ h9 => h9) rfl (tyX7_ok 8 (by decide)) rfl rfl (Nat.le_of_ble_eq_true rfl) dX7_readsElement_105 (fun H locs hP hD hS => ?_)
              have hP : va_P g.1 vwCl (zX7 g a (u17.2.1, u17.2.2.1, u17.2.2.2.1, u17.2.2.2.2.1, u17.2.2.2.2.2.1, u17.2.2.2.2.2.2.1, u17.2.2.2.2.2.2.2.1, u17.2.2.2.2.2.2.2.2.1, (u17.2.2.2.2.2.2.2.2.2.1 + 1), u17.2.2.2.2.2.2.2.2.2.2.1, u17.2.2.2.2.2.2.2.2.2.2.2)) H := hP
              have hD : va_D A (zX7 g a (u17.2.1, u17.2.2.1, u17.2.2.2.1, u17.2.2.2.2.1, u17.2.2.2.2.2.1, u17.2.2.2.2.2.2.1, u17.2.2.2.2.2.2.2.1, u17.2.2.2.2.2.2.2.2.1, (u17.2.2.2.2.2.2.2.2.2.1 + 1), u17.2.2.2.2.2.2.2.2.2.2.1, u17.2.2.2.2.2.2.2.2.2.2.2)) := hD
              refine lv_aload_n hx hb dX7_readsElement_108 rfl (lv_at hl 3 rfl) ?_
              refine lv_iload_n hx hb dX7_readsElement_109 rfl (lv_at hl 2 rfl) ?_
              refine lv_iload_n hx hb dX7_readsElement_110 rfl (lv_at hl 1 rfl) ?_
              refine lv_iload_n hx hb dX7_readsElement_111 rfl (lv_at hl 0 rfl) ?_
              obtain ⟨u24, hu24, hf⟩ := ob hf
              refine zk_vA (va_runV (As := [.int u2.2.2.2.2.2.2.2.2.2.2.1, .int u15.2.2.2.2.2.2.2.2.2.2.1, .int ((u17.2.2.2.2.2.2.1 u17.2.2.2.2.2.2.2.2.2.1.toNatClampNeg) - 48)]) (rest := []) ⟨hx, hb, hml, hown, hts⟩ (c_X7_putElement l g a (u17.2.1, u17.2.2.1, u17.2.2.2.1, u17.2.2.2.2.1, u17.2.2.2.2.2.1, u17.2.2.2.2.2.2.1, u17.2.2.2.2.2.2.2.1, u17.2.2.2.2.2.2.2.2.1, (u17.2.2.2.2.2.2.2.2.2.1 + 1), u17.2.2.2.2.2.2.2.2.2.2.1, u17.2.2.2.2.2.2.2.2.2.2.2) u2.2.2.2.2.2.2.2.2.2.2.1 u15.2.2.2.2.2.2.2.2.2.2.1 ((u17.2.2.2.2.2.2.1 u17.2.2.2.2.2.2.2.2.2.1.toNatClampNeg) - 48) _ hu24 _) (zcV hw0 zm4_124 zm4_127 zm1_8 zm4_126 zs5_3 hd_X7_putElement rfl rfl ⟨Nat.le_of_ble_eq_true rfl, Nat.le_of_ble_eq_true rfl⟩) ⟨zblind, zrecvA hK hP (ci := 7) rfl rfl, zpreA hK hP hD⟩ rfl rfl hl.1 rfl (lv_room (Nat.le_of_ble_eq_true rfl)) dX7_readsElement_112 ⟨Nat.zero_le _, Nat.zero_le _⟩) hP hD hS hA (fun H locs hP hD hS => ?_)
              have hP : va_P g.1 vwCl (zX7 g a u24) H := hP
              have hD : va_D A (zX7 g a u24) := hD
              refine lv_aload_n hx hb dX7_readsElement_115 rfl (lv_at hl 3 rfl) ?_
              refine lv_bipush (v := 59) hx hb dX7_readsElement_116 (by decide) ?_
              obtain ⟨u25, hu25, hf⟩ := ob hf
              refine zk_iA (va_runV (As := [.int 59]) (rest := []) ⟨hx, hb, hml, hown, hts⟩ (c_X7_takes l g a u24 59 _ hu25 _) (zcV hw0 zm5_150 zm5_153 zm1_8 zm5_152 zs7_13 hd_X7_takes rfl rfl ⟨Nat.le_of_ble_eq_true rfl, Nat.le_of_ble_eq_true rfl⟩) ⟨zblind, zrecvA hK hP (ci := 7) rfl rfl, zpreA hK hP hD⟩ rfl rfl hl.1 rfl (lv_room (Nat.le_of_ble_eq_true rfl)) dX7_readsElement_118 ⟨Nat.zero_le _, Nat.zero_le _⟩) hP hD hS hA (fun H locs hP hD hS => ?_)
              have hP : va_P g.1 vwCl (zX7 g a u25.2) H := hP
              have hD : va_D A (zX7 g a u25.2) := hD
              have hR : (u25.1, u25.2) = r := Option.some.inj hf
              subst hR
              exact W.zret (v := zb u25.1) hx hb hr0 (zb_nar u25.1) (fun t ht hW => ⟨⟨zb u25.1, (), rfl, rfl, by rw [ht]; exact hP, hD⟩, hS.F ht⟩) hS.2.2 dX7_readsElement_121
            · have hf := oi hf c22
              refine lv_iconst (v := 0) hx hb dX7_readsElement_83 (by decide) ?_
              have hR : (false, u17.2) = r := Option.some.inj hf
              subst hR
              exact W.zret (v := zb false) hx hb hr0 (zb_nar false) (fun t ht hW => ⟨⟨zb false, (), rfl, rfl, by rw [ht]; exact hP, hD⟩, hS.F ht⟩) hS.2.2 dX7_readsElement_84
        · have hf := oi hf c16
          refine lv_iconst (v := 0) hx hb dX7_readsElement_56 (by decide) ?_
          have hR : (false, u15.2) = r := Option.some.inj hf
          subst hR
          exact W.zret (v := zb false) hx hb hr0 (zb_nar false) (fun t ht hW => ⟨⟨zb false, (), rfl, rfl, by rw [ht]; exact hP, hD⟩, hS.F ht⟩) hS.2.2 dX7_readsElement_57
    · have hf := oi hf c3
      refine lv_iconst (v := 0) hx hb dX7_readsElement_24 (by decide) ?_
      have hR : (false, u2.2) = r := Option.some.inj hf
      subst hR
      exact W.zret (v := zb false) hx hb hr0 (zb_nar false) (fun t ht hW => ⟨⟨zb false, (), rfl, rfl, by rw [ht]; exact hP, hD⟩, hS.F ht⟩) hS.2.2 dX7_readsElement_25
theorem hd_X7_readsFiller : yX7_readsFiller.cls ≠ "java/lang/invoke/MethodHandle" ∧ yX7_readsFiller.cls ≠ "java/lang/invoke/VarHandle" ∧ (parseMethodDescriptor yX7_readsFiller.desc).map (fun d => d.parameters.length) = some 0 := by decide +kernel
def f_X7_readsFiller (v : MV) : Option (Bool × MV) :=
  if (v.1 8) = 10 then
    some (false, v)
  else
    (f_X7_readsNumber (v.1, v.2.1, v.2.2.1, v.2.2.2.1, v.2.2.2.2.1, v.2.2.2.2.2.1, v.2.2.2.2.2.2.1, v.2.2.2.2.2.2.2.1, (v.2.2.2.2.2.2.2.2.1 + 1), v.2.2.2.2.2.2.2.2.2.1, v.2.2.2.2.2.2.2.2.2.2) 3 1 900).bind (fun u2 =>
    if (zb u2.1) = 0 then
      some (false, u2.2)
    else
      (f_X7_putFiller u2.2 u2.2.2.2.2.2.2.2.2.2.2.1).bind (fun u4 =>
      (f_X7_takes u4 59).bind (fun u5 =>
      some (u5.1, u5.2))))
set_option maxHeartbeats 4000000 in
set_option maxRecDepth 100000 in
theorem c_X7_readsFiller (l : Launch) (g : zG) (a : Nat → Nat) (v : MV) (r : Bool × MV) (hf : f_X7_readsFiller v = some r) : zMi zNF zNM l yX7_readsFiller (zw yX7_readsFiller cX7_readsFiller 1 (some .boolean)) ({ frames := 3, cells := 0, slots := 0, locals := 69 } : Room) g [.ref (a 0)] (zX7 g a v) (zb r.1) (zX7 g a r.2) := by
  intro sz
  refine Met.ofW (cc := cX7_readsFiller) (maxL := 1) (ret := (some .boolean)) (by decide) rfl ?_
  intro p e s m args below meth c s₁ B hml hv
  obtain ⟨rfl, hsz, hP, hK, hD0⟩ := hv
  have hx := B.exec
  have hb := B.bytes
  have hr0 := B.returns
  have hts := atoms_spec (ws := (zw yX7_readsFiller cX7_readsFiller 1 (some .boolean))) B.pre
  have hw0 : ∀ w ∈ zW, w.before ([.ref (a 0)] : List Value).toArray s = true := fun w h => hts w (List.mem_cons_of_mem _ h)
  have hown : s.vm.findClass RX7 = some m.cls := findClass_of_methodNamed B.named
  have hlocks := B.notSynchronized
  subst hsz
  have hD := hD0.self (sz := s.heap.size)
  generalize hAe : va_A (zX7 g a v) s.heap.size = A at hD ⊢
  have hA : ∀ q : Nat, s.heap.size ≤ q → A q := fun q h => by rw [← hAe]; exact Or.inr h
  have hS : va_S A s.heap s.heap [] := va_S.rf
  unfold f_X7_readsFiller at hf
  have hl := lv_entry ([.ref (a 0)]) (n := 1) (Nat.le_of_ble_eq_true rfl)
  rw [lg_entry_eq]
  generalize (lg_sl ([.ref (a 0)]) ++ List.replicate (1 - (lg_sl ([.ref (a 0)])).length) Slot.unset).toArray = ls at hl ⊢
  have hl : lv_has ls 1 [(0, .ref (a 0))] := hl
  refine lv_aload_n hx hb dX7_readsFiller_0 rfl (lv_at hl 0 rfl) ?_
  refine va_get (D := g.1) (ci := 7) (v := .ref (a 1)) (C := RX7) (T := TX7) (N := 11) hx hb hw0 ziX7 hown hK.1 hP 0 rfl rfl 0 (by decide) (hw0 _ zm4_71) (fun _ h9 => h9) rfl dX7_readsFiller_1 ?_
  refine lv_bipush (v := 8) hx hb dX7_readsFiller_4 (by decide) ?_
  refine zald (D := g.1) (f := v.1) (k := 8) hx hb hK.1 hP 1 0 rfl rfl (zin_vp (i := 8) (n := 220) rfl) rfl dX7_readsFiller_6 ?_
  refine lv_bipush (v := 10) hx hb dX7_readsFiller_7 (by decide) ?_
  refine lv_icmp_ne (tgt := 14) hx hb dX7_readsFiller_9 (by decide) (fun c1 => ?_) (fun c1 => ?_)
  · have hf := oe hf c1
    refine lv_aload_n hx hb dX7_readsFiller_14 rfl (lv_at hl 0 rfl) ?_
    refine lv_dup hx hb dX7_readsFiller_15 rfl ?_
    refine va_get (D := g.1) (ci := 7) (v := .int v.2.2.2.2.2.2.2.2.1) (C := RX7) (T := TX7) (N := 11) hx hb hw0 ziX7 hown hK.1 hP 0 rfl rfl 8 (by decide) (hw0 _ zm4_79) (fun _ h9 => h9) rfl dX7_readsFiller_16 ?_
    refine lv_iconst (v := 1) hx hb dX7_readsFiller_19 (by decide) ?_
    refine lv_iadd hx hb dX7_readsFiller_20 ?_
    refine va_put (D := g.1) (ci := 7) (v := .int (v.2.2.2.2.2.2.2.2.1 + 1)) (ty := .int) (C := RX7) (T := TX7) (N := 11) hx hb hw0 ziX7 tyX7 tyX7_ok nmX7 hown hK.1 hP hD hS 0 rfl rfl 8 (by decide) (hw0 _ zm4_79) (fun _ h9 => h9) rfl (tyX7_ok 8 (by decide)) rfl rfl (Nat.le_of_ble_eq_true rfl) dX7_readsFiller_21 (fun H locs hP hD hS => ?_)
    have hP : va_P g.1 vwCl (zX7 g a (v.1, v.2.1, v.2.2.1, v.2.2.2.1, v.2.2.2.2.1, v.2.2.2.2.2.1, v.2.2.2.2.2.2.1, v.2.2.2.2.2.2.2.1, (v.2.2.2.2.2.2.2.2.1 + 1), v.2.2.2.2.2.2.2.2.2.1, v.2.2.2.2.2.2.2.2.2.2)) H := hP
    have hD : va_D A (zX7 g a (v.1, v.2.1, v.2.2.1, v.2.2.2.1, v.2.2.2.2.1, v.2.2.2.2.2.1, v.2.2.2.2.2.2.1, v.2.2.2.2.2.2.2.1, (v.2.2.2.2.2.2.2.2.1 + 1), v.2.2.2.2.2.2.2.2.2.1, v.2.2.2.2.2.2.2.2.2.2)) := hD
    refine lv_aload_n hx hb dX7_readsFiller_24 rfl (lv_at hl 0 rfl) ?_
    refine lv_iconst (v := 3) hx hb dX7_readsFiller_25 (by decide) ?_
    refine lv_iconst (v := 1) hx hb dX7_readsFiller_26 (by decide) ?_
    refine lv_sipush (v := 900) hx hb dX7_readsFiller_27 (by decide) ?_
    obtain ⟨u2, hu2, hf⟩ := ob hf
    refine zk_iA (va_runV (As := [.int 3, .int 1, .int 900]) (rest := []) ⟨hx, hb, hml, hown, hts⟩ (c_X7_readsNumber l g a (v.1, v.2.1, v.2.2.1, v.2.2.2.1, v.2.2.2.2.1, v.2.2.2.2.2.1, v.2.2.2.2.2.2.1, v.2.2.2.2.2.2.2.1, (v.2.2.2.2.2.2.2.2.1 + 1), v.2.2.2.2.2.2.2.2.2.1, v.2.2.2.2.2.2.2.2.2.2) 3 1 900 _ hu2 _) (zcV hw0 zm5_146 zm5_149 zm1_8 zm5_148 zs7_12 hd_X7_readsNumber rfl rfl ⟨Nat.le_of_ble_eq_true rfl, Nat.le_of_ble_eq_true rfl⟩) ⟨zblind, zrecvA hK hP (ci := 7) rfl rfl, zpreA hK hP hD⟩ rfl rfl hl.1 rfl (lv_room (Nat.le_of_ble_eq_true rfl)) dX7_readsFiller_30 ⟨Nat.zero_le _, Nat.zero_le _⟩) hP hD hS hA (fun H locs hP hD hS => ?_)
    have hP : va_P g.1 vwCl (zX7 g a u2.2) H := hP
    have hD : va_D A (zX7 g a u2.2) := hD
    refine lv_if_ne (tgt := 38) hx hb dX7_readsFiller_33 (by decide) (fun c3 => ?_) (fun c3 => ?_)
    · have hf := oe hf c3
      refine lv_aload_n hx hb dX7_readsFiller_38 rfl (lv_at hl 0 rfl) ?_
      refine lv_aload_n hx hb dX7_readsFiller_39 rfl (lv_at hl 0 rfl) ?_
      refine va_get (D := g.1) (ci := 7) (v := .int u2.2.2.2.2.2.2.2.2.2.2.1) (C := RX7) (T := TX7) (N := 11) hx hb hw0 ziX7 hown hK.1 hP 0 rfl rfl 9 (by decide) (hw0 _ zm4_80) (fun _ h9 => h9) rfl dX7_readsFiller_40 ?_
      obtain ⟨u4, hu4, hf⟩ := ob hf
      refine zk_vA (va_runV (As := [.int u2.2.2.2.2.2.2.2.2.2.2.1]) (rest := []) ⟨hx, hb, hml, hown, hts⟩ (c_X7_putFiller l g a u2.2 u2.2.2.2.2.2.2.2.2.2.2.1 _ hu4 _) (zcV hw0 zm4_132 zm4_135 zm1_8 zm4_134 zs5_4 hd_X7_putFiller rfl rfl ⟨Nat.le_of_ble_eq_true rfl, Nat.le_of_ble_eq_true rfl⟩) ⟨zblind, zrecvA hK hP (ci := 7) rfl rfl, zpreA hK hP hD⟩ rfl rfl hl.1 rfl (lv_room (Nat.le_of_ble_eq_true rfl)) dX7_readsFiller_43 ⟨Nat.zero_le _, Nat.zero_le _⟩) hP hD hS hA (fun H locs hP hD hS => ?_)
      have hP : va_P g.1 vwCl (zX7 g a u4) H := hP
      have hD : va_D A (zX7 g a u4) := hD
      refine lv_aload_n hx hb dX7_readsFiller_46 rfl (lv_at hl 0 rfl) ?_
      refine lv_bipush (v := 59) hx hb dX7_readsFiller_47 (by decide) ?_
      obtain ⟨u5, hu5, hf⟩ := ob hf
      refine zk_iA (va_runV (As := [.int 59]) (rest := []) ⟨hx, hb, hml, hown, hts⟩ (c_X7_takes l g a u4 59 _ hu5 _) (zcV hw0 zm5_150 zm5_153 zm1_8 zm5_152 zs7_13 hd_X7_takes rfl rfl ⟨Nat.le_of_ble_eq_true rfl, Nat.le_of_ble_eq_true rfl⟩) ⟨zblind, zrecvA hK hP (ci := 7) rfl rfl, zpreA hK hP hD⟩ rfl rfl hl.1 rfl (lv_room (Nat.le_of_ble_eq_true rfl)) dX7_readsFiller_49 ⟨Nat.zero_le _, Nat.zero_le _⟩) hP hD hS hA (fun H locs hP hD hS => ?_)
      have hP : va_P g.1 vwCl (zX7 g a u5.2) H := hP
      have hD : va_D A (zX7 g a u5.2) := hD
      have hR : (u5.1, u5.2) = r := Option.some.inj hf
      subst hR
      exact W.zret (v := zb u5.1) hx hb hr0 (zb_nar u5.1) (fun t ht hW => ⟨⟨zb u5.1, (), rfl, rfl, by rw [ht]; exact hP, hD⟩, hS.F ht⟩) hS.2.2 dX7_readsFiller_52
    · have hf := oi hf c3
      refine lv_iconst (v := 0) hx hb dX7_readsFiller_36 (by decide) ?_
      have hR : (false, u2.2) = r := Option.some.inj hf
      subst hR
      exact W.zret (v := zb false) hx hb hr0 (zb_nar false) (fun t ht hW => ⟨⟨zb false, (), rfl, rfl, by rw [ht]; exact hP, hD⟩, hS.F ht⟩) hS.2.2 dX7_readsFiller_37
  · have hf := oi hf c1
    refine lv_iconst (v := 0) hx hb dX7_readsFiller_12 (by decide) ?_
    have hR : (false, v) = r := Option.some.inj hf
    subst hR
    exact W.zret (v := zb false) hx hb hr0 (zb_nar false) (fun t ht hW => ⟨⟨zb false, (), rfl, rfl, by rw [ht]; exact hP, hD⟩, hS.F ht⟩) hS.2.2 dX7_readsFiller_13
theorem hd_X7_reads : yX7_reads.cls ≠ "java/lang/invoke/MethodHandle" ∧ yX7_reads.cls ≠ "java/lang/invoke/VarHandle" ∧ (parseMethodDescriptor yX7_reads.desc).map (fun d => d.parameters.length) = some 0 := by decide +kernel
def s_X7_reads_2 (v : MV) (x : Int32 × FF) : Option ((Int32 × FF) ⊕ (Int32 × FF)) :=
  if 220 ≤ x.1 then
    some (.inr (x.1, x.2))
  else
    if zin x.1 220 = true then
    some (.inl ((x.1 + 1), (upd x.2 x.1.toNatClampNeg 0)))
    else none
def s_X7_reads_27 (v : MV) (x : MV) : Option ((MV) ⊕ (Bool × MV)) :=
  if x.2.2.2.2.2.2.1 ≤ x.2.2.2.2.2.2.2.2.1 then
    some (.inr (true, x))
  else
    (f_X7_isAt x 43 43).bind (fun u5 =>
    if (zb u5) = 0 then
      (f_X7_readsElement x).bind (fun u7 =>
      if (zb u7.1) = 0 then
        some (.inr (false, u7.2))
      else
        some (.inl u7.2))
    else
      (f_X7_readsFiller x).bind (fun u9 =>
      if (zb u9.1) = 0 then
        some (.inr (false, u9.2))
      else
        some (.inl u9.2)))
def f_X7_reads (v : MV) : Option (Bool × MV) :=
  (zloop (s_X7_reads_2 v) 4096 (0, v.1)).bind (fun u3 =>
  zloop (s_X7_reads_27 (u3.2, v.2.1, v.2.2.1, v.2.2.2.1, v.2.2.2.2.1, v.2.2.2.2.2.1, v.2.2.2.2.2.2.1, v.2.2.2.2.2.2.2.1, 0, v.2.2.2.2.2.2.2.2.2.1, v.2.2.2.2.2.2.2.2.2.2)) 4096 (u3.2, v.2.1, v.2.2.1, v.2.2.2.1, v.2.2.2.2.1, v.2.2.2.2.2.1, v.2.2.2.2.2.2.1, v.2.2.2.2.2.2.2.1, 0, v.2.2.2.2.2.2.2.2.2.1, v.2.2.2.2.2.2.2.2.2.2))
set_option maxHeartbeats 4000000 in
set_option maxRecDepth 100000 in
theorem c_X7_reads (l : Launch) (g : zG) (a : Nat → Nat) (v : MV) (r : Bool × MV) (hf : f_X7_reads v = some r) : zMi zNF zNM l yX7_reads (zw yX7_reads cX7_reads 2 (some .boolean)) ({ frames := 4, cells := 0, slots := 0, locals := 92 } : Room) g [.ref (a 0)] (zX7 g a v) (zb r.1) (zX7 g a r.2) := by
  intro sz
  refine Met.ofW (cc := cX7_reads) (maxL := 2) (ret := (some .boolean)) (by decide) rfl ?_
  intro p e s m args below meth c s₁ B hml hv
  obtain ⟨rfl, hsz, hP, hK, hD0⟩ := hv
  have hx := B.exec
  have hb := B.bytes
  have hr0 := B.returns
  have hts := atoms_spec (ws := (zw yX7_reads cX7_reads 2 (some .boolean))) B.pre
  have hw0 : ∀ w ∈ zW, w.before ([.ref (a 0)] : List Value).toArray s = true := fun w h => hts w (List.mem_cons_of_mem _ h)
  have hown : s.vm.findClass RX7 = some m.cls := findClass_of_methodNamed B.named
  have hlocks := B.notSynchronized
  subst hsz
  have hD := hD0.self (sz := s.heap.size)
  generalize hAe : va_A (zX7 g a v) s.heap.size = A at hD ⊢
  have hA : ∀ q : Nat, s.heap.size ≤ q → A q := fun q h => by rw [← hAe]; exact Or.inr h
  have hS : va_S A s.heap s.heap [] := va_S.rf
  have lp2 : ∀ (v : MV), ∀ (n : Nat) (x : Int32 × FF) (rr : Int32 × FF), zloop (s_X7_reads_2 v) n x = some rr → (∀ (H : Heap) (locs : List Loc), va_P g.1 vwCl (zX7 g a (rr.2, v.2.1, v.2.2.1, v.2.2.2.1, v.2.2.2.2.1, v.2.2.2.2.2.1, v.2.2.2.2.2.2.1, v.2.2.2.2.2.2.2.1, v.2.2.2.2.2.2.2.2.1, v.2.2.2.2.2.2.2.2.2.1, v.2.2.2.2.2.2.2.2.2.2)) H → va_D A (zX7 g a (rr.2, v.2.1, v.2.2.1, v.2.2.2.1, v.2.2.2.2.1, v.2.2.2.2.2.1, v.2.2.2.2.2.2.1, v.2.2.2.2.2.2.2.1, v.2.2.2.2.2.2.2.2.1, v.2.2.2.2.2.2.2.2.2.1, v.2.2.2.2.2.2.2.2.2.2)) → va_S A s.heap H locs → ∀ ls : Array Slot, lv_has ls 2 [(0, .ref (a 0))] → W p l e (headSpec (zw yX7_reads cX7_reads 2 (some .boolean)) ({ frames := 4, cells := 0, slots := 0, locals := 92 } : Room)).room s m ([.ref (a 0)] : List Value).toArray below meth c H locs 0 0 (MQ below (va_Qi (fun (x : Int32) (_ : Unit) => x = zb r.1) (fun _ => zEnd g A (zX7 g a r.2)) A) ([.ref (a 0)] : List Value).toArray s 0 0 A) (F0 m 22 ls [])) → ∀ (H : Heap) (locs : List Loc), va_P g.1 vwCl (zX7 g a (x.2, v.2.1, v.2.2.1, v.2.2.2.1, v.2.2.2.2.1, v.2.2.2.2.2.1, v.2.2.2.2.2.2.1, v.2.2.2.2.2.2.2.1, v.2.2.2.2.2.2.2.2.1, v.2.2.2.2.2.2.2.2.2.1, v.2.2.2.2.2.2.2.2.2.2)) H → va_D A (zX7 g a (x.2, v.2.1, v.2.2.1, v.2.2.2.1, v.2.2.2.2.1, v.2.2.2.2.2.1, v.2.2.2.2.2.2.1, v.2.2.2.2.2.2.2.1, v.2.2.2.2.2.2.2.2.1, v.2.2.2.2.2.2.2.2.2.1, v.2.2.2.2.2.2.2.2.2.2)) → va_S A s.heap H locs → ∀ ls : Array Slot, lv_has ls 2 [(0, .ref (a 0)), (1, .int x.1)] → W p l e (headSpec (zw yX7_reads cX7_reads 2 (some .boolean)) ({ frames := 4, cells := 0, slots := 0, locals := 92 } : Room)).room s m ([.ref (a 0)] : List Value).toArray below meth c H locs 0 0 (MQ below (va_Qi (fun (x : Int32) (_ : Unit) => x = zb r.1) (fun _ => zEnd g A (zX7 g a r.2)) A) ([.ref (a 0)] : List Value).toArray s 0 0 A) (F0 m 2 ls []) := by
    intro v
    refine zloop_ind ?_
    intro x y rr hf ih hr hQ H locs hP hD hS ls hl
    unfold s_X7_reads_2 at hf
    refine lv_iload_n hx hb dX7_reads_2 rfl (lv_at hl 1 rfl) ?_
    refine lv_sipush (v := 220) hx hb dX7_reads_3 (by decide) ?_
    refine lv_icmp_ge (tgt := 22) hx hb dX7_reads_6 (by decide) (fun c1 => ?_) (fun c1 => ?_)
    · have hf := oi hf c1
      have hR : (x.1, x.2) = rr := hr _ (Option.some.inj hf).symm
      subst hR
      exact hQ _ _ hP hD hS _ (lv_sub hl [0] rfl)
    · have hf := oe hf c1
      refine lv_aload_n hx hb dX7_reads_9 rfl (lv_at hl 0 rfl) ?_
      refine va_get (D := g.1) (ci := 7) (v := .ref (a 1)) (C := RX7) (T := TX7) (N := 11) hx hb hw0 ziX7 hown hK.1 hP 0 rfl rfl 0 (by decide) (hw0 _ zm4_71) (fun _ h9 => h9) rfl dX7_reads_10 ?_
      refine lv_iload_n hx hb dX7_reads_13 rfl (lv_at hl 1 rfl) ?_
      refine lv_iconst (v := 0) hx hb dX7_reads_14 (by decide) ?_
      obtain ⟨h2, hf⟩ := og hf
      refine zast (D := g.1) (f := x.2) (k := x.1.toNatClampNeg) (x := 0) hx hb hK.1 hP hD hS 1 0 rfl rfl (zin_vp h2) rfl dX7_reads_15 (fun H locs hP hD hS => ?_)
      have hP : va_P g.1 vwCl (zX7 g a ((upd x.2 x.1.toNatClampNeg 0), v.2.1, v.2.2.1, v.2.2.2.1, v.2.2.2.2.1, v.2.2.2.2.2.1, v.2.2.2.2.2.2.1, v.2.2.2.2.2.2.2.1, v.2.2.2.2.2.2.2.2.1, v.2.2.2.2.2.2.2.2.2.1, v.2.2.2.2.2.2.2.2.2.2)) H := hP
      have hD : va_D A (zX7 g a ((upd x.2 x.1.toNatClampNeg 0), v.2.1, v.2.2.1, v.2.2.2.1, v.2.2.2.2.1, v.2.2.2.2.2.1, v.2.2.2.2.2.2.1, v.2.2.2.2.2.2.2.1, v.2.2.2.2.2.2.2.2.1, v.2.2.2.2.2.2.2.2.2.1, v.2.2.2.2.2.2.2.2.2.2)) := hD
      refine lv_iinc (v := (x.1 + 1)) (lv' := [(1, .int (x.1 + 1)), (0, .ref (a 0))]) hx hb dX7_reads_16 hl (k := 1) rfl rfl (by decide) rfl (fun ls hl => ?_)
      refine lv_goto (tgt := 2) hx hb dX7_reads_19 (by decide) ?_
      exact ih ((x.1 + 1), (upd x.2 x.1.toNatClampNeg 0)) (Option.some.inj hf).symm hQ _ _ hP hD hS _ (lv_sub hl [1, 0] rfl)
  have lp27 : ∀ (v : MV), ∀ (n : Nat) (x : MV) (rr : Bool × MV), zloop (s_X7_reads_27 v) n x = some rr → rr = r → ∀ (H : Heap) (locs : List Loc), va_P g.1 vwCl (zX7 g a x) H → va_D A (zX7 g a x) → va_S A s.heap H locs → ∀ ls : Array Slot, lv_has ls 2 [(0, .ref (a 0))] → W p l e (headSpec (zw yX7_reads cX7_reads 2 (some .boolean)) ({ frames := 4, cells := 0, slots := 0, locals := 92 } : Room)).room s m ([.ref (a 0)] : List Value).toArray below meth c H locs 0 0 (MQ below (va_Qi (fun (x : Int32) (_ : Unit) => x = zb r.1) (fun _ => zEnd g A (zX7 g a r.2)) A) ([.ref (a 0)] : List Value).toArray s 0 0 A) (F0 m 27 ls []) := by
    intro v
    refine zloop_ind ?_
    intro x y rr hf ih hr he H locs hP hD hS ls hl
    unfold s_X7_reads_27 at hf
    refine lv_aload_n hx hb dX7_reads_27 rfl (lv_at hl 0 rfl) ?_
    refine va_get (D := g.1) (ci := 7) (v := .int x.2.2.2.2.2.2.2.2.1) (C := RX7) (T := TX7) (N := 11) hx hb hw0 ziX7 hown hK.1 hP 0 rfl rfl 8 (by decide) (hw0 _ zm4_79) (fun _ h9 => h9) rfl dX7_reads_28 ?_
    refine lv_aload_n hx hb dX7_reads_31 rfl (lv_at hl 0 rfl) ?_
    refine va_get (D := g.1) (ci := 7) (v := .int x.2.2.2.2.2.2.1) (C := RX7) (T := TX7) (N := 11) hx hb hw0 ziX7 hown hK.1 hP 0 rfl rfl 6 (by decide) (hw0 _ zm4_77) (fun _ h9 => h9) rfl dX7_reads_32 ?_
    refine lv_icmp_ge (tgt := 70) hx hb dX7_reads_35 (by decide) (fun c4 => ?_) (fun c4 => ?_)
    · have hf := oi hf c4
      refine lv_iconst (v := 1) hx hb dX7_reads_70 (by decide) ?_
      have hR : (true, x) = r := (hr _ (Option.some.inj hf).symm).trans he
      subst hR
      exact W.zret (v := zb true) hx hb hr0 (zb_nar true) (fun t ht hW => ⟨⟨zb true, (), rfl, rfl, by rw [ht]; exact hP, hD⟩, hS.F ht⟩) hS.2.2 dX7_reads_71
    · have hf := oe hf c4
      refine lv_aload_n hx hb dX7_reads_38 rfl (lv_at hl 0 rfl) ?_
      refine lv_bipush (v := 43) hx hb dX7_reads_39 (by decide) ?_
      refine lv_bipush (v := 43) hx hb dX7_reads_41 (by decide) ?_
      obtain ⟨u5, hu5, hf⟩ := ob hf
      refine zk_iA (va_runV (As := [.int 43, .int 43]) (rest := []) ⟨hx, hb, hml, hown, hts⟩ (c_X7_isAt l g a x 43 43 _ hu5 _) (zcV hw0 zm5_138 zm5_141 zm1_8 zm5_140 zs7_10 hd_X7_isAt rfl rfl ⟨Nat.le_of_ble_eq_true rfl, Nat.le_of_ble_eq_true rfl⟩) ⟨zblind, zrecvA hK hP (ci := 7) rfl rfl, zpreA hK hP hD⟩ rfl rfl hl.1 rfl (lv_room (Nat.le_of_ble_eq_true rfl)) dX7_reads_43 ⟨Nat.zero_le _, Nat.zero_le _⟩) hP hD hS hA (fun H locs hP hD hS => ?_)
      refine lv_if_eq (tgt := 56) hx hb dX7_reads_46 (by decide) (fun c6 => ?_) (fun c6 => ?_)
      · have hf := oi hf c6
        refine lv_aload_n hx hb dX7_reads_56 rfl (lv_at hl 0 rfl) ?_
        obtain ⟨u7, hu7, hf⟩ := ob hf
        refine zk_iA (va_runV (As := []) (rest := []) ⟨hx, hb, hml, hown, hts⟩ (c_X7_readsElement l g a x _ hu7 _) (zcV hw0 zm5_154 zm5_157 zm1_8 zm5_156 zs7_14 hd_X7_readsElement rfl rfl ⟨Nat.le_of_ble_eq_true rfl, Nat.le_of_ble_eq_true rfl⟩) ⟨zblind, zrecvA hK hP (ci := 7) rfl rfl, zpreA hK hP hD⟩ rfl rfl hl.1 rfl (lv_room (Nat.le_of_ble_eq_true rfl)) dX7_reads_57 ⟨Nat.zero_le _, Nat.zero_le _⟩) hP hD hS hA (fun H locs hP hD hS => ?_)
        have hP : va_P g.1 vwCl (zX7 g a u7.2) H := hP
        have hD : va_D A (zX7 g a u7.2) := hD
        refine lv_istore_n (lv' := [(1, .int (zb u7.1)), (0, .ref (a 0))]) hx hb dX7_reads_60 rfl hl (by decide) rfl (fun ls hl => ?_)
        refine lv_iload_n hx hb dX7_reads_61 rfl (lv_at hl 0 rfl) ?_
        refine lv_if_ne (tgt := 67) hx hb dX7_reads_62 (by decide) (fun c8 => ?_) (fun c8 => ?_)
        · have hf := oe hf c8
          refine lv_goto (tgt := 27) hx hb dX7_reads_67 (by decide) ?_
          exact ih u7.2 (Option.some.inj hf).symm he _ _ hP hD hS _ (lv_sub hl [1] rfl)
        · have hf := oi hf c8
          refine lv_iconst (v := 0) hx hb dX7_reads_65 (by decide) ?_
          have hR : (false, u7.2) = r := (hr _ (Option.some.inj hf).symm).trans he
          subst hR
          exact W.zret (v := zb false) hx hb hr0 (zb_nar false) (fun t ht hW => ⟨⟨zb false, (), rfl, rfl, by rw [ht]; exact hP, hD⟩, hS.F ht⟩) hS.2.2 dX7_reads_66
      · have hf := oe hf c6
        refine lv_aload_n hx hb dX7_reads_49 rfl (lv_at hl 0 rfl) ?_
        obtain ⟨u9, hu9, hf⟩ := ob hf
        refine zk_iA (va_runV (As := []) (rest := []) ⟨hx, hb, hml, hown, hts⟩ (c_X7_readsFiller l g a x _ hu9 _) (zcV hw0 zm5_142 zm5_145 zm1_8 zm5_144 zs7_11 hd_X7_readsFiller rfl rfl ⟨Nat.le_of_ble_eq_true rfl, Nat.le_of_ble_eq_true rfl⟩) ⟨zblind, zrecvA hK hP (ci := 7) rfl rfl, zpreA hK hP hD⟩ rfl rfl hl.1 rfl (lv_room (Nat.le_of_ble_eq_true rfl)) dX7_reads_50 ⟨Nat.zero_le _, Nat.zero_le _⟩) hP hD hS hA (fun H locs hP hD hS => ?_)
        have hP : va_P g.1 vwCl (zX7 g a u9.2) H := hP
        have hD : va_D A (zX7 g a u9.2) := hD
        refine lv_goto (tgt := 60) hx hb dX7_reads_53 (by decide) ?_
        refine lv_istore_n (lv' := [(1, .int (zb u9.1)), (0, .ref (a 0))]) hx hb dX7_reads_60 rfl hl (by decide) rfl (fun ls hl => ?_)
        refine lv_iload_n hx hb dX7_reads_61 rfl (lv_at hl 0 rfl) ?_
        refine lv_if_ne (tgt := 67) hx hb dX7_reads_62 (by decide) (fun c10 => ?_) (fun c10 => ?_)
        · have hf := oe hf c10
          refine lv_goto (tgt := 27) hx hb dX7_reads_67 (by decide) ?_
          exact ih u9.2 (Option.some.inj hf).symm he _ _ hP hD hS _ (lv_sub hl [1] rfl)
        · have hf := oi hf c10
          refine lv_iconst (v := 0) hx hb dX7_reads_65 (by decide) ?_
          have hR : (false, u9.2) = r := (hr _ (Option.some.inj hf).symm).trans he
          subst hR
          exact W.zret (v := zb false) hx hb hr0 (zb_nar false) (fun t ht hW => ⟨⟨zb false, (), rfl, rfl, by rw [ht]; exact hP, hD⟩, hS.F ht⟩) hS.2.2 dX7_reads_66
  unfold f_X7_reads at hf
  have hl := lv_entry ([.ref (a 0)]) (n := 2) (Nat.le_of_ble_eq_true rfl)
  rw [lg_entry_eq]
  generalize (lg_sl ([.ref (a 0)]) ++ List.replicate (2 - (lg_sl ([.ref (a 0)])).length) Slot.unset).toArray = ls at hl ⊢
  have hl : lv_has ls 2 [(0, .ref (a 0))] := hl
  refine lv_iconst (v := 0) hx hb dX7_reads_0 (by decide) ?_
  refine lv_istore_n (lv' := [(1, .int 0), (0, .ref (a 0))]) hx hb dX7_reads_1 rfl hl (by decide) rfl (fun ls hl => ?_)
  obtain ⟨u3, hu3, hf⟩ := ob hf
  refine lp2 v _ _ u3 hu3 (fun H locs hP hD hS ls hl => ?_) _ _ hP hD hS _ (lv_sub hl [1, 0] rfl)
  have hl : lv_has ls 2 [(0, .ref (a 0))] := hl
  have hP : va_P g.1 vwCl (zX7 g a (u3.2, v.2.1, v.2.2.1, v.2.2.2.1, v.2.2.2.2.1, v.2.2.2.2.2.1, v.2.2.2.2.2.2.1, v.2.2.2.2.2.2.2.1, v.2.2.2.2.2.2.2.2.1, v.2.2.2.2.2.2.2.2.2.1, v.2.2.2.2.2.2.2.2.2.2)) H := hP
  have hD : va_D A (zX7 g a (u3.2, v.2.1, v.2.2.1, v.2.2.2.1, v.2.2.2.2.1, v.2.2.2.2.2.1, v.2.2.2.2.2.2.1, v.2.2.2.2.2.2.2.1, v.2.2.2.2.2.2.2.2.1, v.2.2.2.2.2.2.2.2.2.1, v.2.2.2.2.2.2.2.2.2.2)) := hD
  refine lv_aload_n hx hb dX7_reads_22 rfl (lv_at hl 0 rfl) ?_
  refine lv_iconst (v := 0) hx hb dX7_reads_23 (by decide) ?_
  refine va_put (D := g.1) (ci := 7) (v := .int 0) (ty := .int) (C := RX7) (T := TX7) (N := 11) hx hb hw0 ziX7 tyX7 tyX7_ok nmX7 hown hK.1 hP hD hS 0 rfl rfl 8 (by decide) (hw0 _ zm4_79) (fun _ h9 => h9) rfl (tyX7_ok 8 (by decide)) rfl rfl (Nat.le_of_ble_eq_true rfl) dX7_reads_24 (fun H locs hP hD hS => ?_)
  have hP : va_P g.1 vwCl (zX7 g a (u3.2, v.2.1, v.2.2.1, v.2.2.2.1, v.2.2.2.2.1, v.2.2.2.2.2.1, v.2.2.2.2.2.2.1, v.2.2.2.2.2.2.2.1, 0, v.2.2.2.2.2.2.2.2.2.1, v.2.2.2.2.2.2.2.2.2.2)) H := hP
  have hD : va_D A (zX7 g a (u3.2, v.2.1, v.2.2.1, v.2.2.2.1, v.2.2.2.2.1, v.2.2.2.2.2.1, v.2.2.2.2.2.2.1, v.2.2.2.2.2.2.2.1, 0, v.2.2.2.2.2.2.2.2.2.1, v.2.2.2.2.2.2.2.2.2.2)) := hD
  exact lp27 (u3.2, v.2.1, v.2.2.1, v.2.2.2.1, v.2.2.2.2.1, v.2.2.2.2.2.1, v.2.2.2.2.2.2.1, v.2.2.2.2.2.2.2.1, 0, v.2.2.2.2.2.2.2.2.2.1, v.2.2.2.2.2.2.2.2.2.2) _ _ _ hf rfl _ _ hP hD hS _ (lv_sub hl [0] rfl)
theorem hd_X7_parse : yX7_parse.cls ≠ "java/lang/invoke/MethodHandle" ∧ yX7_parse.cls ≠ "java/lang/invoke/VarHandle" ∧ (parseMethodDescriptor yX7_parse.desc).map (fun d => d.parameters.length) = some 0 := by decide +kernel
def f_X7_parse (v : MV) : Option (Int32 × MV) :=
  (f_X7_copies v.1 v.2.2.1).bind (fun u1 =>
  (f_X7_reads (v.1, v.2.1, u1, v.2.2.2.1, v.2.2.2.2.1, v.2.2.2.2.2.1, v.2.2.2.2.2.2.1, 0, v.2.2.2.2.2.2.2.2.1, v.2.2.2.2.2.2.2.2.2.1, v.2.2.2.2.2.2.2.2.2.2)).bind (fun u2 =>
  (f_X7_copies u2.2.1 u2.2.2.2.2.1).bind (fun u3 =>
  (f_X7_copies u2.2.2.2.1 u2.2.1).bind (fun u4 =>
  if (zb u2.1) = 0 then
    some (((-10) - u2.2.2.2.2.2.2.2.2.2.1), (u4, u2.2.2.1, u2.2.2.2.1, u3, u2.2.2.2.2.2.1, u2.2.2.2.2.2.2.1, u2.2.2.2.2.2.2.2.1, u2.2.2.2.2.2.2.2.2.1, u2.2.2.2.2.2.2.2.2.2.1, u2.2.2.2.2.2.2.2.2.2.2.1, u2.2.2.2.2.2.2.2.2.2.2.2))
  else
    (f_X7_save (u4, u2.2.2.1, u2.2.2.2.1, u3, u2.2.2.2.2.2.1, u2.2.2.2.2.2.2.1, u2.2.2.2.2.2.2.2.1, u2.2.2.2.2.2.2.2.2.1, u2.2.2.2.2.2.2.2.2.2.1, u2.2.2.2.2.2.2.2.2.2.2.1, u2.2.2.2.2.2.2.2.2.2.2.2)).bind (fun u6 =>
    (f_X7_copies u6.2.2.2.1 u6.1).bind (fun u7 =>
    some ((u7 7), (u7, u6.2.1, u6.2.2.1, u6.2.2.2.1, u6.2.2.2.2.1, u6.2.2.2.2.2.1, u6.2.2.2.2.2.2.1, u6.2.2.2.2.2.2.2.1, u6.2.2.2.2.2.2.2.2.1, u6.2.2.2.2.2.2.2.2.2.1, u6.2.2.2.2.2.2.2.2.2.2))))))))
set_option maxHeartbeats 4000000 in
set_option maxRecDepth 100000 in
theorem c_X7_parse (l : Launch) (g : zG) (a : Nat → Nat) (v : MV) (r : Int32 × MV) (hf : f_X7_parse v = some r) : zMi zNF zNM l yX7_parse (zw yX7_parse cX7_parse 2 (some .int)) ({ frames := 5, cells := 0, slots := 0, locals := 113 } : Room) g [.ref (a 0)] (zX7 g a v) r.1 (zX7 g a r.2) := by
  intro sz
  refine Met.ofW (cc := cX7_parse) (maxL := 2) (ret := (some .int)) (by decide) rfl ?_
  intro p e s m args below meth c s₁ B hml hv
  obtain ⟨rfl, hsz, hP, hK, hD0⟩ := hv
  have hx := B.exec
  have hb := B.bytes
  have hr0 := B.returns
  have hts := atoms_spec (ws := (zw yX7_parse cX7_parse 2 (some .int))) B.pre
  have hw0 : ∀ w ∈ zW, w.before ([.ref (a 0)] : List Value).toArray s = true := fun w h => hts w (List.mem_cons_of_mem _ h)
  have hown : s.vm.findClass RX7 = some m.cls := findClass_of_methodNamed B.named
  have hlocks := B.notSynchronized
  subst hsz
  have hD := hD0.self (sz := s.heap.size)
  generalize hAe : va_A (zX7 g a v) s.heap.size = A at hD ⊢
  have hA : ∀ q : Nat, s.heap.size ≤ q → A q := fun q h => by rw [← hAe]; exact Or.inr h
  have hS : va_S A s.heap s.heap [] := va_S.rf
  unfold f_X7_parse at hf
  have hl := lv_entry ([.ref (a 0)]) (n := 2) (Nat.le_of_ble_eq_true rfl)
  rw [lg_entry_eq]
  generalize (lg_sl ([.ref (a 0)]) ++ List.replicate (2 - (lg_sl ([.ref (a 0)])).length) Slot.unset).toArray = ls at hl ⊢
  have hl : lv_has ls 2 [(0, .ref (a 0))] := hl
  refine lv_aload_n hx hb dX7_parse_0 rfl (lv_at hl 0 rfl) ?_
  refine lv_iconst (v := 0) hx hb dX7_parse_1 (by decide) ?_
  refine va_put (D := g.1) (ci := 7) (v := .int 0) (ty := .int) (C := RX7) (T := TX7) (N := 11) hx hb hw0 ziX7 tyX7 tyX7_ok nmX7 hown hK.1 hP hD hS 0 rfl rfl 7 (by decide) (hw0 _ zm4_78) (fun _ h9 => h9) rfl (tyX7_ok 7 (by decide)) rfl rfl (Nat.le_of_ble_eq_true rfl) dX7_parse_2 (fun H locs hP hD hS => ?_)
  have hP : va_P g.1 vwCl (zX7 g a (v.1, v.2.1, v.2.2.1, v.2.2.2.1, v.2.2.2.2.1, v.2.2.2.2.2.1, v.2.2.2.2.2.2.1, 0, v.2.2.2.2.2.2.2.2.1, v.2.2.2.2.2.2.2.2.2.1, v.2.2.2.2.2.2.2.2.2.2)) H := hP
  have hD : va_D A (zX7 g a (v.1, v.2.1, v.2.2.1, v.2.2.2.1, v.2.2.2.2.1, v.2.2.2.2.2.1, v.2.2.2.2.2.2.1, 0, v.2.2.2.2.2.2.2.2.1, v.2.2.2.2.2.2.2.2.2.1, v.2.2.2.2.2.2.2.2.2.2)) := hD
  refine lv_aload_n hx hb dX7_parse_5 rfl (lv_at hl 0 rfl) ?_
  refine va_get (D := g.1) (ci := 7) (v := .ref (a 1)) (C := RX7) (T := TX7) (N := 11) hx hb hw0 ziX7 hown hK.1 hP 0 rfl rfl 0 (by decide) (hw0 _ zm4_71) (fun _ h9 => h9) rfl dX7_parse_6 ?_
  refine lv_aload_n hx hb dX7_parse_9 rfl (lv_at hl 0 rfl) ?_
  refine va_get (D := g.1) (ci := 7) (v := .ref (a 3)) (C := RX7) (T := TX7) (N := 11) hx hb hw0 ziX7 hown hK.1 hP 0 rfl rfl 2 (by decide) (hw0 _ zm4_73) (fun _ h9 => h9) rfl dX7_parse_10 ?_
  obtain ⟨u1, hu1, hf⟩ := ob hf
  refine zk_v (va_runS (As := [.ref (a 1), .ref (a 3)]) (rest := []) ⟨hx, hb, hml, hown, hts⟩ (c_X7_copies l g (a 1) (a 3) v.1 v.2.2.1 _ hu1 _) (zcS hw0 zm5_83 zm5_85 zm1_8 zm5_84 hd_X7_copies rfl rfl ⟨Nat.le_of_ble_eq_true rfl, Nat.le_of_ble_eq_true rfl⟩) ⟨zblind, zpre hK hP hD [1, 3] rfl rfl⟩ rfl rfl hl.1 rfl (lv_room (Nat.le_of_ble_eq_true rfl)) dX7_parse_13 ⟨Nat.zero_le _, Nat.zero_le _⟩) hP hD hS hA [1, 3] rfl rfl (fun H locs hP hD hS => ?_)
  have hP : va_P g.1 vwCl (zX7 g a (v.1, v.2.1, u1, v.2.2.2.1, v.2.2.2.2.1, v.2.2.2.2.2.1, v.2.2.2.2.2.2.1, 0, v.2.2.2.2.2.2.2.2.1, v.2.2.2.2.2.2.2.2.2.1, v.2.2.2.2.2.2.2.2.2.2)) H := hP
  have hD : va_D A (zX7 g a (v.1, v.2.1, u1, v.2.2.2.1, v.2.2.2.2.1, v.2.2.2.2.2.1, v.2.2.2.2.2.2.1, 0, v.2.2.2.2.2.2.2.2.1, v.2.2.2.2.2.2.2.2.2.1, v.2.2.2.2.2.2.2.2.2.2)) := hD
  refine lv_aload_n hx hb dX7_parse_16 rfl (lv_at hl 0 rfl) ?_
  obtain ⟨u2, hu2, hf⟩ := ob hf
  refine zk_iA (va_runV (As := []) (rest := []) ⟨hx, hb, hml, hown, hts⟩ (c_X7_reads l g a (v.1, v.2.1, u1, v.2.2.2.1, v.2.2.2.2.1, v.2.2.2.2.2.1, v.2.2.2.2.2.2.1, 0, v.2.2.2.2.2.2.2.2.1, v.2.2.2.2.2.2.2.2.2.1, v.2.2.2.2.2.2.2.2.2.2) _ hu2 _) (zcV hw0 zm5_134 zm5_137 zm1_8 zm5_136 zs7_9 hd_X7_reads rfl rfl ⟨Nat.le_of_ble_eq_true rfl, Nat.le_of_ble_eq_true rfl⟩) ⟨zblind, zrecvA hK hP (ci := 7) rfl rfl, zpreA hK hP hD⟩ rfl rfl hl.1 rfl (lv_room (Nat.le_of_ble_eq_true rfl)) dX7_parse_17 ⟨Nat.zero_le _, Nat.zero_le _⟩) hP hD hS hA (fun H locs hP hD hS => ?_)
  have hP : va_P g.1 vwCl (zX7 g a u2.2) H := hP
  have hD : va_D A (zX7 g a u2.2) := hD
  refine lv_istore_n (lv' := [(1, .int (zb u2.1)), (0, .ref (a 0))]) hx hb dX7_parse_20 rfl hl (by decide) rfl (fun ls hl => ?_)
  refine lv_aload_n hx hb dX7_parse_21 rfl (lv_at hl 1 rfl) ?_
  refine va_get (D := g.1) (ci := 7) (v := .ref (a 1)) (C := RX7) (T := TX7) (N := 11) hx hb hw0 ziX7 hown hK.1 hP 0 rfl rfl 0 (by decide) (hw0 _ zm4_71) (fun _ h9 => h9) rfl dX7_parse_22 ?_
  refine lv_aload_n hx hb dX7_parse_25 rfl (lv_at hl 1 rfl) ?_
  refine va_get (D := g.1) (ci := 7) (v := .ref (a 4)) (C := RX7) (T := TX7) (N := 11) hx hb hw0 ziX7 hown hK.1 hP 0 rfl rfl 3 (by decide) (hw0 _ zm4_74) (fun _ h9 => h9) rfl dX7_parse_26 ?_
  obtain ⟨u3, hu3, hf⟩ := ob hf
  refine zk_v (va_runS (As := [.ref (a 1), .ref (a 4)]) (rest := []) ⟨hx, hb, hml, hown, hts⟩ (c_X7_copies l g (a 1) (a 4) u2.2.1 u2.2.2.2.2.1 _ hu3 _) (zcS hw0 zm5_83 zm5_85 zm1_8 zm5_84 hd_X7_copies rfl rfl ⟨Nat.le_of_ble_eq_true rfl, Nat.le_of_ble_eq_true rfl⟩) ⟨zblind, zpre hK hP hD [1, 4] rfl rfl⟩ rfl rfl hl.1 rfl (lv_room (Nat.le_of_ble_eq_true rfl)) dX7_parse_29 ⟨Nat.zero_le _, Nat.zero_le _⟩) hP hD hS hA [1, 4] rfl rfl (fun H locs hP hD hS => ?_)
  have hP : va_P g.1 vwCl (zX7 g a (u2.2.1, u2.2.2.1, u2.2.2.2.1, u3, u2.2.2.2.2.2.1, u2.2.2.2.2.2.2.1, u2.2.2.2.2.2.2.2.1, u2.2.2.2.2.2.2.2.2.1, u2.2.2.2.2.2.2.2.2.2.1, u2.2.2.2.2.2.2.2.2.2.2.1, u2.2.2.2.2.2.2.2.2.2.2.2)) H := hP
  have hD : va_D A (zX7 g a (u2.2.1, u2.2.2.1, u2.2.2.2.1, u3, u2.2.2.2.2.2.1, u2.2.2.2.2.2.2.1, u2.2.2.2.2.2.2.2.1, u2.2.2.2.2.2.2.2.2.1, u2.2.2.2.2.2.2.2.2.2.1, u2.2.2.2.2.2.2.2.2.2.2.1, u2.2.2.2.2.2.2.2.2.2.2.2)) := hD
  refine lv_aload_n hx hb dX7_parse_32 rfl (lv_at hl 1 rfl) ?_
  refine va_get (D := g.1) (ci := 7) (v := .ref (a 3)) (C := RX7) (T := TX7) (N := 11) hx hb hw0 ziX7 hown hK.1 hP 0 rfl rfl 2 (by decide) (hw0 _ zm4_73) (fun _ h9 => h9) rfl dX7_parse_33 ?_
  refine lv_aload_n hx hb dX7_parse_36 rfl (lv_at hl 1 rfl) ?_
  refine va_get (D := g.1) (ci := 7) (v := .ref (a 1)) (C := RX7) (T := TX7) (N := 11) hx hb hw0 ziX7 hown hK.1 hP 0 rfl rfl 0 (by decide) (hw0 _ zm4_71) (fun _ h9 => h9) rfl dX7_parse_37 ?_
  obtain ⟨u4, hu4, hf⟩ := ob hf
  refine zk_v (va_runS (As := [.ref (a 3), .ref (a 1)]) (rest := []) ⟨hx, hb, hml, hown, hts⟩ (c_X7_copies l g (a 3) (a 1) u2.2.2.2.1 u2.2.1 _ hu4 _) (zcS hw0 zm5_83 zm5_85 zm1_8 zm5_84 hd_X7_copies rfl rfl ⟨Nat.le_of_ble_eq_true rfl, Nat.le_of_ble_eq_true rfl⟩) ⟨zblind, zpre hK hP hD [3, 1] rfl rfl⟩ rfl rfl hl.1 rfl (lv_room (Nat.le_of_ble_eq_true rfl)) dX7_parse_40 ⟨Nat.zero_le _, Nat.zero_le _⟩) hP hD hS hA [3, 1] rfl rfl (fun H locs hP hD hS => ?_)
  have hP : va_P g.1 vwCl (zX7 g a (u4, u2.2.2.1, u2.2.2.2.1, u3, u2.2.2.2.2.2.1, u2.2.2.2.2.2.2.1, u2.2.2.2.2.2.2.2.1, u2.2.2.2.2.2.2.2.2.1, u2.2.2.2.2.2.2.2.2.2.1, u2.2.2.2.2.2.2.2.2.2.2.1, u2.2.2.2.2.2.2.2.2.2.2.2)) H := hP
  have hD : va_D A (zX7 g a (u4, u2.2.2.1, u2.2.2.2.1, u3, u2.2.2.2.2.2.1, u2.2.2.2.2.2.2.1, u2.2.2.2.2.2.2.2.1, u2.2.2.2.2.2.2.2.2.1, u2.2.2.2.2.2.2.2.2.2.1, u2.2.2.2.2.2.2.2.2.2.2.1, u2.2.2.2.2.2.2.2.2.2.2.2)) := hD
  refine lv_iload_n hx hb dX7_parse_43 rfl (lv_at hl 0 rfl) ?_
  refine lv_if_ne (tgt := 55) hx hb dX7_parse_44 (by decide) (fun c5 => ?_) (fun c5 => ?_)
  · have hf := oe hf c5
    refine lv_aload_n hx hb dX7_parse_55 rfl (lv_at hl 1 rfl) ?_
    obtain ⟨u6, hu6, hf⟩ := ob hf
    refine zk_vA (va_runV (As := []) (rest := []) ⟨hx, hb, hml, hown, hts⟩ (c_X7_save l g a (u4, u2.2.2.1, u2.2.2.2.1, u3, u2.2.2.2.2.2.1, u2.2.2.2.2.2.2.1, u2.2.2.2.2.2.2.2.1, u2.2.2.2.2.2.2.2.2.1, u2.2.2.2.2.2.2.2.2.2.1, u2.2.2.2.2.2.2.2.2.2.2.1, u2.2.2.2.2.2.2.2.2.2.2.2) _ hu6 _) (zcV hw0 zm4_120 zm4_123 zm1_8 zm4_122 zs5_2 hd_X7_save rfl rfl ⟨Nat.le_of_ble_eq_true rfl, Nat.le_of_ble_eq_true rfl⟩) ⟨zblind, zrecvA hK hP (ci := 7) rfl rfl, zpreA hK hP hD⟩ rfl rfl hl.1 rfl (lv_room (Nat.le_of_ble_eq_true rfl)) dX7_parse_56 ⟨Nat.zero_le _, Nat.zero_le _⟩) hP hD hS hA (fun H locs hP hD hS => ?_)
    have hP : va_P g.1 vwCl (zX7 g a u6) H := hP
    have hD : va_D A (zX7 g a u6) := hD
    refine lv_aload_n hx hb dX7_parse_59 rfl (lv_at hl 1 rfl) ?_
    refine va_get (D := g.1) (ci := 7) (v := .ref (a 4)) (C := RX7) (T := TX7) (N := 11) hx hb hw0 ziX7 hown hK.1 hP 0 rfl rfl 3 (by decide) (hw0 _ zm4_74) (fun _ h9 => h9) rfl dX7_parse_60 ?_
    refine lv_aload_n hx hb dX7_parse_63 rfl (lv_at hl 1 rfl) ?_
    refine va_get (D := g.1) (ci := 7) (v := .ref (a 1)) (C := RX7) (T := TX7) (N := 11) hx hb hw0 ziX7 hown hK.1 hP 0 rfl rfl 0 (by decide) (hw0 _ zm4_71) (fun _ h9 => h9) rfl dX7_parse_64 ?_
    obtain ⟨u7, hu7, hf⟩ := ob hf
    refine zk_v (va_runS (As := [.ref (a 4), .ref (a 1)]) (rest := []) ⟨hx, hb, hml, hown, hts⟩ (c_X7_copies l g (a 4) (a 1) u6.2.2.2.1 u6.1 _ hu7 _) (zcS hw0 zm5_83 zm5_85 zm1_8 zm5_84 hd_X7_copies rfl rfl ⟨Nat.le_of_ble_eq_true rfl, Nat.le_of_ble_eq_true rfl⟩) ⟨zblind, zpre hK hP hD [4, 1] rfl rfl⟩ rfl rfl hl.1 rfl (lv_room (Nat.le_of_ble_eq_true rfl)) dX7_parse_67 ⟨Nat.zero_le _, Nat.zero_le _⟩) hP hD hS hA [4, 1] rfl rfl (fun H locs hP hD hS => ?_)
    have hP : va_P g.1 vwCl (zX7 g a (u7, u6.2.1, u6.2.2.1, u6.2.2.2.1, u6.2.2.2.2.1, u6.2.2.2.2.2.1, u6.2.2.2.2.2.2.1, u6.2.2.2.2.2.2.2.1, u6.2.2.2.2.2.2.2.2.1, u6.2.2.2.2.2.2.2.2.2.1, u6.2.2.2.2.2.2.2.2.2.2)) H := hP
    have hD : va_D A (zX7 g a (u7, u6.2.1, u6.2.2.1, u6.2.2.2.1, u6.2.2.2.2.1, u6.2.2.2.2.2.1, u6.2.2.2.2.2.2.1, u6.2.2.2.2.2.2.2.1, u6.2.2.2.2.2.2.2.2.1, u6.2.2.2.2.2.2.2.2.2.1, u6.2.2.2.2.2.2.2.2.2.2)) := hD
    refine lv_aload_n hx hb dX7_parse_70 rfl (lv_at hl 1 rfl) ?_
    refine va_get (D := g.1) (ci := 7) (v := .ref (a 1)) (C := RX7) (T := TX7) (N := 11) hx hb hw0 ziX7 hown hK.1 hP 0 rfl rfl 0 (by decide) (hw0 _ zm4_71) (fun _ h9 => h9) rfl dX7_parse_71 ?_
    refine lv_bipush (v := 7) hx hb dX7_parse_74 (by decide) ?_
    refine zald (D := g.1) (f := u7) (k := 7) hx hb hK.1 hP 1 0 rfl rfl (zin_vp (i := 7) (n := 220) rfl) rfl dX7_parse_76 ?_
    have hR : ((u7 7), (u7, u6.2.1, u6.2.2.1, u6.2.2.2.1, u6.2.2.2.2.1, u6.2.2.2.2.2.1, u6.2.2.2.2.2.2.1, u6.2.2.2.2.2.2.2.1, u6.2.2.2.2.2.2.2.2.1, u6.2.2.2.2.2.2.2.2.2.1, u6.2.2.2.2.2.2.2.2.2.2)) = r := Option.some.inj hf
    subst hR
    exact W.iret (v := (u7 7)) hx hb hr0 (fun t ht hW => ⟨⟨(u7 7), (), rfl, rfl, by rw [ht]; exact hP, hD⟩, hS.F ht⟩) hS.2.2 dX7_parse_77
  · have hf := oi hf c5
    refine lv_bipush (v := (-10)) hx hb dX7_parse_47 (by decide) ?_
    refine lv_aload_n hx hb dX7_parse_49 rfl (lv_at hl 1 rfl) ?_
    refine va_get (D := g.1) (ci := 7) (v := .int u2.2.2.2.2.2.2.2.2.2.1) (C := RX7) (T := TX7) (N := 11) hx hb hw0 ziX7 hown hK.1 hP 0 rfl rfl 8 (by decide) (hw0 _ zm4_79) (fun _ h9 => h9) rfl dX7_parse_50 ?_
    refine lv_isub hx hb dX7_parse_53 ?_
    have hR : (((-10) - u2.2.2.2.2.2.2.2.2.2.1), (u4, u2.2.2.1, u2.2.2.2.1, u3, u2.2.2.2.2.2.1, u2.2.2.2.2.2.2.1, u2.2.2.2.2.2.2.2.1, u2.2.2.2.2.2.2.2.2.1, u2.2.2.2.2.2.2.2.2.2.1, u2.2.2.2.2.2.2.2.2.2.2.1, u2.2.2.2.2.2.2.2.2.2.2.2)) = r := Option.some.inj hf
    subst hR
    exact W.iret (v := ((-10) - u2.2.2.2.2.2.2.2.2.2.1)) hx hb hr0 (fun t ht hW => ⟨⟨((-10) - u2.2.2.2.2.2.2.2.2.2.1), (), rfl, rfl, by rw [ht]; exact hP, hD⟩, hS.F ht⟩) hS.2.2 dX7_parse_54
theorem hd_X7_undo : yX7_undo.cls ≠ "java/lang/invoke/MethodHandle" ∧ yX7_undo.cls ≠ "java/lang/invoke/VarHandle" ∧ (parseMethodDescriptor yX7_undo.desc).map (fun d => d.parameters.length) = some 0 := by decide +kernel
def s_X7_undo_25 (v : MV) (x : Int32 × FF) : Option ((Int32 × FF) ⊕ (Int32 × FF)) :=
  if 220 ≤ x.1 then
    some (.inr (x.1, x.2))
  else
    if zin ((220 * v.2.2.2.2.1) + x.1) 880 = true then
    if zin x.1 220 = true then
    some (.inl ((x.1 + 1), (upd x.2 x.1.toNatClampNeg (v.2.1 ((220 * v.2.2.2.2.1) + x.1).toNatClampNeg))))
    else none
    else none
def f_X7_undo (v : MV) : Option (Int32 × MV) :=
  if v.2.2.2.2.1 = 0 then
    (f_X7_fails v 1).bind (fun u7 =>
    some (u7.1, u7.2))
  else
    (zloop (s_X7_undo_25 (v.1, v.2.1, v.2.2.1, v.2.2.2.1, (v.2.2.2.2.1 - 1), v.2.2.2.2.2.1, v.2.2.2.2.2.2.1, v.2.2.2.2.2.2.2.1, v.2.2.2.2.2.2.2.2.1, v.2.2.2.2.2.2.2.2.2.1, v.2.2.2.2.2.2.2.2.2.2)) 4096 (0, v.1)).bind (fun u5 =>
    (f_X7_tells (u5.2, v.2.1, v.2.2.1, v.2.2.2.1, (v.2.2.2.2.1 - 1), v.2.2.2.2.2.1, v.2.2.2.2.2.2.1, v.2.2.2.2.2.2.2.1, v.2.2.2.2.2.2.2.2.1, v.2.2.2.2.2.2.2.2.2.1, v.2.2.2.2.2.2.2.2.2.2) (v.2.2.2.2.1 - 1)).bind (fun u6 =>
    some (u6.1, u6.2)))
set_option maxHeartbeats 4000000 in
set_option maxRecDepth 100000 in
theorem c_X7_undo (l : Launch) (g : zG) (a : Nat → Nat) (v : MV) (r : Int32 × MV) (hf : f_X7_undo v = some r) : zMi zNF zNM l yX7_undo (zw yX7_undo cX7_undo 2 (some .int)) ({ frames := 1, cells := 0, slots := 0, locals := 21 } : Room) g [.ref (a 0)] (zX7 g a v) r.1 (zX7 g a r.2) := by
  intro sz
  refine Met.ofW (cc := cX7_undo) (maxL := 2) (ret := (some .int)) (by decide) rfl ?_
  intro p e s m args below meth c s₁ B hml hv
  obtain ⟨rfl, hsz, hP, hK, hD0⟩ := hv
  have hx := B.exec
  have hb := B.bytes
  have hr0 := B.returns
  have hts := atoms_spec (ws := (zw yX7_undo cX7_undo 2 (some .int))) B.pre
  have hw0 : ∀ w ∈ zW, w.before ([.ref (a 0)] : List Value).toArray s = true := fun w h => hts w (List.mem_cons_of_mem _ h)
  have hown : s.vm.findClass RX7 = some m.cls := findClass_of_methodNamed B.named
  have hlocks := B.notSynchronized
  subst hsz
  have hD := hD0.self (sz := s.heap.size)
  generalize hAe : va_A (zX7 g a v) s.heap.size = A at hD ⊢
  have hA : ∀ q : Nat, s.heap.size ≤ q → A q := fun q h => by rw [← hAe]; exact Or.inr h
  have hS : va_S A s.heap s.heap [] := va_S.rf
  have lp25 : ∀ (v : MV), ∀ (n : Nat) (x : Int32 × FF) (rr : Int32 × FF), zloop (s_X7_undo_25 v) n x = some rr → (∀ (H : Heap) (locs : List Loc), va_P g.1 vwCl (zX7 g a (rr.2, v.2.1, v.2.2.1, v.2.2.2.1, v.2.2.2.2.1, v.2.2.2.2.2.1, v.2.2.2.2.2.2.1, v.2.2.2.2.2.2.2.1, v.2.2.2.2.2.2.2.2.1, v.2.2.2.2.2.2.2.2.2.1, v.2.2.2.2.2.2.2.2.2.2)) H → va_D A (zX7 g a (rr.2, v.2.1, v.2.2.1, v.2.2.2.1, v.2.2.2.2.1, v.2.2.2.2.2.1, v.2.2.2.2.2.2.1, v.2.2.2.2.2.2.2.1, v.2.2.2.2.2.2.2.2.1, v.2.2.2.2.2.2.2.2.2.1, v.2.2.2.2.2.2.2.2.2.2)) → va_S A s.heap H locs → ∀ ls : Array Slot, lv_has ls 2 [(0, .ref (a 0))] → W p l e (headSpec (zw yX7_undo cX7_undo 2 (some .int)) ({ frames := 1, cells := 0, slots := 0, locals := 21 } : Room)).room s m ([.ref (a 0)] : List Value).toArray below meth c H locs 0 0 (MQ below (va_Qi (fun (x : Int32) (_ : Unit) => x = r.1) (fun _ => zEnd g A (zX7 g a r.2)) A) ([.ref (a 0)] : List Value).toArray s 0 0 A) (F0 m 59 ls [])) → ∀ (H : Heap) (locs : List Loc), va_P g.1 vwCl (zX7 g a (x.2, v.2.1, v.2.2.1, v.2.2.2.1, v.2.2.2.2.1, v.2.2.2.2.2.1, v.2.2.2.2.2.2.1, v.2.2.2.2.2.2.2.1, v.2.2.2.2.2.2.2.2.1, v.2.2.2.2.2.2.2.2.2.1, v.2.2.2.2.2.2.2.2.2.2)) H → va_D A (zX7 g a (x.2, v.2.1, v.2.2.1, v.2.2.2.1, v.2.2.2.2.1, v.2.2.2.2.2.1, v.2.2.2.2.2.2.1, v.2.2.2.2.2.2.2.1, v.2.2.2.2.2.2.2.2.1, v.2.2.2.2.2.2.2.2.2.1, v.2.2.2.2.2.2.2.2.2.2)) → va_S A s.heap H locs → ∀ ls : Array Slot, lv_has ls 2 [(0, .ref (a 0)), (1, .int x.1)] → W p l e (headSpec (zw yX7_undo cX7_undo 2 (some .int)) ({ frames := 1, cells := 0, slots := 0, locals := 21 } : Room)).room s m ([.ref (a 0)] : List Value).toArray below meth c H locs 0 0 (MQ below (va_Qi (fun (x : Int32) (_ : Unit) => x = r.1) (fun _ => zEnd g A (zX7 g a r.2)) A) ([.ref (a 0)] : List Value).toArray s 0 0 A) (F0 m 25 ls []) := by
    intro v
    refine zloop_ind ?_
    intro x y rr hf ih hr hQ H locs hP hD hS ls hl
    unfold s_X7_undo_25 at hf
    refine lv_iload_n hx hb dX7_undo_25 rfl (lv_at hl 1 rfl) ?_
    refine lv_sipush (v := 220) hx hb dX7_undo_26 (by decide) ?_
    refine lv_icmp_ge (tgt := 59) hx hb dX7_undo_29 (by decide) (fun c2 => ?_) (fun c2 => ?_)
    · have hf := oi hf c2
      have hR : (x.1, x.2) = rr := hr _ (Option.some.inj hf).symm
      subst hR
      exact hQ _ _ hP hD hS _ (lv_sub hl [0] rfl)
    · have hf := oe hf c2
      refine lv_aload_n hx hb dX7_undo_32 rfl (lv_at hl 0 rfl) ?_
      refine va_get (D := g.1) (ci := 7) (v := .ref (a 1)) (C := RX7) (T := TX7) (N := 11) hx hb hw0 ziX7 hown hK.1 hP 0 rfl rfl 0 (by decide) (hw0 _ zm4_71) (fun _ h9 => h9) rfl dX7_undo_33 ?_
      refine lv_iload_n hx hb dX7_undo_36 rfl (lv_at hl 1 rfl) ?_
      refine lv_aload_n hx hb dX7_undo_37 rfl (lv_at hl 0 rfl) ?_
      refine va_get (D := g.1) (ci := 7) (v := .ref (a 2)) (C := RX7) (T := TX7) (N := 11) hx hb hw0 ziX7 hown hK.1 hP 0 rfl rfl 1 (by decide) (hw0 _ zm4_72) (fun _ h9 => h9) rfl dX7_undo_38 ?_
      refine lv_sipush (v := 220) hx hb dX7_undo_41 (by decide) ?_
      refine lv_aload_n hx hb dX7_undo_44 rfl (lv_at hl 0 rfl) ?_
      refine va_get (D := g.1) (ci := 7) (v := .int v.2.2.2.2.1) (C := RX7) (T := TX7) (N := 11) hx hb hw0 ziX7 hown hK.1 hP 0 rfl rfl 4 (by decide) (hw0 _ zm4_75) (fun _ h9 => h9) rfl dX7_undo_45 ?_
      refine lv_imul hx hb dX7_undo_48 ?_
      refine lv_iload_n hx hb dX7_undo_49 rfl (lv_at hl 1 rfl) ?_
      refine lv_iadd hx hb dX7_undo_50 ?_
      obtain ⟨h3, hf⟩ := og hf
      refine zald (D := g.1) (f := v.2.1) (k := ((220 * v.2.2.2.2.1) + x.1).toNatClampNeg) hx hb hK.1 hP 2 0 rfl rfl (zin_vp h3) rfl dX7_undo_51 ?_
      obtain ⟨h4, hf⟩ := og hf
      refine zast (D := g.1) (f := x.2) (k := x.1.toNatClampNeg) (x := (v.2.1 ((220 * v.2.2.2.2.1) + x.1).toNatClampNeg)) hx hb hK.1 hP hD hS 1 0 rfl rfl (zin_vp h4) rfl dX7_undo_52 (fun H locs hP hD hS => ?_)
      have hP : va_P g.1 vwCl (zX7 g a ((upd x.2 x.1.toNatClampNeg (v.2.1 ((220 * v.2.2.2.2.1) + x.1).toNatClampNeg)), v.2.1, v.2.2.1, v.2.2.2.1, v.2.2.2.2.1, v.2.2.2.2.2.1, v.2.2.2.2.2.2.1, v.2.2.2.2.2.2.2.1, v.2.2.2.2.2.2.2.2.1, v.2.2.2.2.2.2.2.2.2.1, v.2.2.2.2.2.2.2.2.2.2)) H := hP
      have hD : va_D A (zX7 g a ((upd x.2 x.1.toNatClampNeg (v.2.1 ((220 * v.2.2.2.2.1) + x.1).toNatClampNeg)), v.2.1, v.2.2.1, v.2.2.2.1, v.2.2.2.2.1, v.2.2.2.2.2.1, v.2.2.2.2.2.2.1, v.2.2.2.2.2.2.2.1, v.2.2.2.2.2.2.2.2.1, v.2.2.2.2.2.2.2.2.2.1, v.2.2.2.2.2.2.2.2.2.2)) := hD
      refine lv_iinc (v := (x.1 + 1)) (lv' := [(1, .int (x.1 + 1)), (0, .ref (a 0))]) hx hb dX7_undo_53 hl (k := 1) rfl rfl (by decide) rfl (fun ls hl => ?_)
      refine lv_goto (tgt := 25) hx hb dX7_undo_56 (by decide) ?_
      exact ih ((x.1 + 1), (upd x.2 x.1.toNatClampNeg (v.2.1 ((220 * v.2.2.2.2.1) + x.1).toNatClampNeg))) (Option.some.inj hf).symm hQ _ _ hP hD hS _ (lv_sub hl [1, 0] rfl)
  unfold f_X7_undo at hf
  have hl := lv_entry ([.ref (a 0)]) (n := 2) (Nat.le_of_ble_eq_true rfl)
  rw [lg_entry_eq]
  generalize (lg_sl ([.ref (a 0)]) ++ List.replicate (2 - (lg_sl ([.ref (a 0)])).length) Slot.unset).toArray = ls at hl ⊢
  have hl : lv_has ls 2 [(0, .ref (a 0))] := hl
  refine lv_aload_n hx hb dX7_undo_0 rfl (lv_at hl 0 rfl) ?_
  refine va_get (D := g.1) (ci := 7) (v := .int v.2.2.2.2.1) (C := RX7) (T := TX7) (N := 11) hx hb hw0 ziX7 hown hK.1 hP 0 rfl rfl 4 (by decide) (hw0 _ zm4_75) (fun _ h9 => h9) rfl dX7_undo_1 ?_
  refine lv_if_ne (tgt := 13) hx hb dX7_undo_4 (by decide) (fun c1 => ?_) (fun c1 => ?_)
  · have hf := oe hf c1
    refine lv_aload_n hx hb dX7_undo_13 rfl (lv_at hl 0 rfl) ?_
    refine lv_dup hx hb dX7_undo_14 rfl ?_
    refine va_get (D := g.1) (ci := 7) (v := .int v.2.2.2.2.1) (C := RX7) (T := TX7) (N := 11) hx hb hw0 ziX7 hown hK.1 hP 0 rfl rfl 4 (by decide) (hw0 _ zm4_75) (fun _ h9 => h9) rfl dX7_undo_15 ?_
    refine lv_iconst (v := 1) hx hb dX7_undo_18 (by decide) ?_
    refine lv_isub hx hb dX7_undo_19 ?_
    refine va_put (D := g.1) (ci := 7) (v := .int (v.2.2.2.2.1 - 1)) (ty := .int) (C := RX7) (T := TX7) (N := 11) hx hb hw0 ziX7 tyX7 tyX7_ok nmX7 hown hK.1 hP hD hS 0 rfl rfl 4 (by decide) (hw0 _ zm4_75) (fun _ h9 => h9) rfl (tyX7_ok 4 (by decide)) rfl rfl (Nat.le_of_ble_eq_true rfl) dX7_undo_20 (fun H locs hP hD hS => ?_)
    have hP : va_P g.1 vwCl (zX7 g a (v.1, v.2.1, v.2.2.1, v.2.2.2.1, (v.2.2.2.2.1 - 1), v.2.2.2.2.2.1, v.2.2.2.2.2.2.1, v.2.2.2.2.2.2.2.1, v.2.2.2.2.2.2.2.2.1, v.2.2.2.2.2.2.2.2.2.1, v.2.2.2.2.2.2.2.2.2.2)) H := hP
    have hD : va_D A (zX7 g a (v.1, v.2.1, v.2.2.1, v.2.2.2.1, (v.2.2.2.2.1 - 1), v.2.2.2.2.2.1, v.2.2.2.2.2.2.1, v.2.2.2.2.2.2.2.1, v.2.2.2.2.2.2.2.2.1, v.2.2.2.2.2.2.2.2.2.1, v.2.2.2.2.2.2.2.2.2.2)) := hD
    refine lv_iconst (v := 0) hx hb dX7_undo_23 (by decide) ?_
    refine lv_istore_n (lv' := [(1, .int 0), (0, .ref (a 0))]) hx hb dX7_undo_24 rfl hl (by decide) rfl (fun ls hl => ?_)
    obtain ⟨u5, hu5, hf⟩ := ob hf
    refine lp25 (v.1, v.2.1, v.2.2.1, v.2.2.2.1, (v.2.2.2.2.1 - 1), v.2.2.2.2.2.1, v.2.2.2.2.2.2.1, v.2.2.2.2.2.2.2.1, v.2.2.2.2.2.2.2.2.1, v.2.2.2.2.2.2.2.2.2.1, v.2.2.2.2.2.2.2.2.2.2) _ _ u5 hu5 (fun H locs hP hD hS ls hl => ?_) _ _ hP hD hS _ (lv_sub hl [1, 0] rfl)
    have hl : lv_has ls 2 [(0, .ref (a 0))] := hl
    have hP : va_P g.1 vwCl (zX7 g a (u5.2, v.2.1, v.2.2.1, v.2.2.2.1, (v.2.2.2.2.1 - 1), v.2.2.2.2.2.1, v.2.2.2.2.2.2.1, v.2.2.2.2.2.2.2.1, v.2.2.2.2.2.2.2.2.1, v.2.2.2.2.2.2.2.2.2.1, v.2.2.2.2.2.2.2.2.2.2)) H := hP
    have hD : va_D A (zX7 g a (u5.2, v.2.1, v.2.2.1, v.2.2.2.1, (v.2.2.2.2.1 - 1), v.2.2.2.2.2.1, v.2.2.2.2.2.2.1, v.2.2.2.2.2.2.2.1, v.2.2.2.2.2.2.2.2.1, v.2.2.2.2.2.2.2.2.2.1, v.2.2.2.2.2.2.2.2.2.2)) := hD
    refine lv_aload_n hx hb dX7_undo_59 rfl (lv_at hl 0 rfl) ?_
    refine lv_aload_n hx hb dX7_undo_60 rfl (lv_at hl 0 rfl) ?_
    refine va_get (D := g.1) (ci := 7) (v := .int (v.2.2.2.2.1 - 1)) (C := RX7) (T := TX7) (N := 11) hx hb hw0 ziX7 hown hK.1 hP 0 rfl rfl 4 (by decide) (hw0 _ zm4_75) (fun _ h9 => h9) rfl dX7_undo_61 ?_
    obtain ⟨u6, hu6, hf⟩ := ob hf
    refine zk_iA (va_runV (As := [.int (v.2.2.2.2.1 - 1)]) (rest := []) ⟨hx, hb, hml, hown, hts⟩ (c_X7_tells l g a (u5.2, v.2.1, v.2.2.1, v.2.2.2.1, (v.2.2.2.2.1 - 1), v.2.2.2.2.2.1, v.2.2.2.2.2.2.1, v.2.2.2.2.2.2.2.1, v.2.2.2.2.2.2.2.2.1, v.2.2.2.2.2.2.2.2.2.1, v.2.2.2.2.2.2.2.2.2.2) (v.2.2.2.2.1 - 1) _ hu6 _) (zcV hw0 zm5_35 zm5_38 zm1_8 zm5_37 zs7_0 hd_X7_tells rfl rfl ⟨Nat.le_of_ble_eq_true rfl, Nat.le_of_ble_eq_true rfl⟩) ⟨zblind, zrecvA hK hP (ci := 7) rfl rfl, zpreA hK hP hD⟩ rfl rfl hl.1 rfl (lv_room (Nat.le_of_ble_eq_true rfl)) dX7_undo_64 ⟨Nat.zero_le _, Nat.zero_le _⟩) hP hD hS hA (fun H locs hP hD hS => ?_)
    have hP : va_P g.1 vwCl (zX7 g a u6.2) H := hP
    have hD : va_D A (zX7 g a u6.2) := hD
    have hR : (u6.1, u6.2) = r := Option.some.inj hf
    subst hR
    exact W.iret (v := u6.1) hx hb hr0 (fun t ht hW => ⟨⟨u6.1, (), rfl, rfl, by rw [ht]; exact hP, hD⟩, hS.F ht⟩) hS.2.2 dX7_undo_67
  · have hf := oi hf c1
    refine lv_aload_n hx hb dX7_undo_7 rfl (lv_at hl 0 rfl) ?_
    refine lv_iconst (v := 1) hx hb dX7_undo_8 (by decide) ?_
    obtain ⟨u7, hu7, hf⟩ := ob hf
    refine zk_iA (va_runV (As := [.int 1]) (rest := []) ⟨hx, hb, hml, hown, hts⟩ (c_X7_fails l g a v 1 _ hu7 _) (zcV hw0 zm4_116 zm4_119 zm1_8 zm4_118 zs5_1 hd_X7_fails rfl rfl ⟨Nat.le_of_ble_eq_true rfl, Nat.le_of_ble_eq_true rfl⟩) ⟨zblind, zrecvA hK hP (ci := 7) rfl rfl, zpreA hK hP hD⟩ rfl rfl hl.1 rfl (lv_room (Nat.le_of_ble_eq_true rfl)) dX7_undo_9 ⟨Nat.zero_le _, Nat.zero_le _⟩) hP hD hS hA (fun H locs hP hD hS => ?_)
    have hP : va_P g.1 vwCl (zX7 g a u7.2) H := hP
    have hD : va_D A (zX7 g a u7.2) := hD
    have hR : (u7.1, u7.2) = r := Option.some.inj hf
    subst hR
    exact W.iret (v := u7.1) hx hb hr0 (fun t ht hW => ⟨⟨u7.1, (), rfl, rfl, by rw [ht]; exact hP, hD⟩, hS.F ht⟩) hS.2.2 dX7_undo_12
theorem hd_X7_mix : yX7_mix.cls ≠ "java/lang/invoke/MethodHandle" ∧ yX7_mix.cls ≠ "java/lang/invoke/VarHandle" ∧ (parseMethodDescriptor yX7_mix.desc).map (fun d => d.parameters.length) = some 1 := by decide +kernel
def f_X7_mix (v : MV) (p0 : Int32) : Option (MV) :=
  some (v.1, v.2.1, v.2.2.1, v.2.2.2.1, v.2.2.2.2.1, v.2.2.2.2.2.1, v.2.2.2.2.2.2.1, v.2.2.2.2.2.2.2.1, v.2.2.2.2.2.2.2.2.1, v.2.2.2.2.2.2.2.2.2.1, (((31 : Int64) * v.2.2.2.2.2.2.2.2.2.2) + (Int32.toInt64 p0)))
set_option maxHeartbeats 4000000 in
set_option maxRecDepth 100000 in
theorem c_X7_mix (l : Launch) (g : zG) (a : Nat → Nat) (v : MV) (p0 : Int32) (r : MV) (hf : f_X7_mix v p0 = some r) : zMv zNF zNM l yX7_mix (zw yX7_mix cX7_mix 2 none) ({ frames := 0, cells := 0, slots := 0, locals := 0 } : Room) g [.ref (a 0), .int p0] (zX7 g a v) (zX7 g a r) := by
  intro sz
  refine Met.ofW (cc := cX7_mix) (maxL := 2) (ret := none) (by decide) rfl ?_
  intro p e s m args below meth c s₁ B hml hv
  obtain ⟨rfl, hsz, hP, hK, hD0⟩ := hv
  have hx := B.exec
  have hb := B.bytes
  have hr0 := B.returns
  have hts := atoms_spec (ws := (zw yX7_mix cX7_mix 2 none)) B.pre
  have hw0 : ∀ w ∈ zW, w.before ([.ref (a 0), .int p0] : List Value).toArray s = true := fun w h => hts w (List.mem_cons_of_mem _ h)
  have hown : s.vm.findClass RX7 = some m.cls := findClass_of_methodNamed B.named
  have hlocks := B.notSynchronized
  subst hsz
  have hD := hD0.self (sz := s.heap.size)
  generalize hAe : va_A (zX7 g a v) s.heap.size = A at hD ⊢
  have hA : ∀ q : Nat, s.heap.size ≤ q → A q := fun q h => by rw [← hAe]; exact Or.inr h
  have hS : va_S A s.heap s.heap [] := va_S.rf
  unfold f_X7_mix at hf
  have hl := lv_entry ([.ref (a 0), .int p0]) (n := 2) (Nat.le_of_ble_eq_true rfl)
  rw [lg_entry_eq]
  generalize (lg_sl ([.ref (a 0), .int p0]) ++ List.replicate (2 - (lg_sl ([.ref (a 0), .int p0])).length) Slot.unset).toArray = ls at hl ⊢
  have hl : lv_has ls 2 [(0, .ref (a 0)), (1, .int p0)] := hl
  refine lv_aload_n hx hb dX7_mix_0 rfl (lv_at hl 0 rfl) ?_
  refine lv_ldc2 (v := 31) hx hb hown (hw0 _ zm5_171) dX7_mix_1 ?_
  refine lv_aload_n hx hb dX7_mix_4 rfl (lv_at hl 0 rfl) ?_
  refine va_get (D := g.1) (ci := 7) (v := .long v.2.2.2.2.2.2.2.2.2.2) (C := RX7) (T := TX7) (N := 11) hx hb hw0 ziX7 hown hK.1 hP 0 rfl rfl 10 (by decide) (hw0 _ zm4_81) (fun _ h9 => h9) rfl dX7_mix_5 ?_
  refine lv_lmul hx hb dX7_mix_8 ?_
  refine lv_iload_n hx hb dX7_mix_9 rfl (lv_at hl 1 rfl) ?_
  refine lv_i2l (v := (Int32.toInt64 p0)) hx hb dX7_mix_10 rfl ?_
  refine lv_ladd hx hb dX7_mix_11 ?_
  refine va_put (D := g.1) (ci := 7) (v := .long (((31 : Int64) * v.2.2.2.2.2.2.2.2.2.2) + (Int32.toInt64 p0))) (ty := .long) (C := RX7) (T := TX7) (N := 11) hx hb hw0 ziX7 tyX7 tyX7_ok nmX7 hown hK.1 hP hD hS 0 rfl rfl 10 (by decide) (hw0 _ zm4_81) (fun _ h9 => h9) rfl (tyX7_ok 10 (by decide)) rfl rfl (Nat.le_of_ble_eq_true rfl) dX7_mix_12 (fun H locs hP hD hS => ?_)
  have hP : va_P g.1 vwCl (zX7 g a (v.1, v.2.1, v.2.2.1, v.2.2.2.1, v.2.2.2.2.1, v.2.2.2.2.2.1, v.2.2.2.2.2.2.1, v.2.2.2.2.2.2.2.1, v.2.2.2.2.2.2.2.2.1, v.2.2.2.2.2.2.2.2.2.1, (((31 : Int64) * v.2.2.2.2.2.2.2.2.2.2) + (Int32.toInt64 p0)))) H := hP
  have hD : va_D A (zX7 g a (v.1, v.2.1, v.2.2.1, v.2.2.2.1, v.2.2.2.2.1, v.2.2.2.2.2.1, v.2.2.2.2.2.2.1, v.2.2.2.2.2.2.2.1, v.2.2.2.2.2.2.2.2.1, v.2.2.2.2.2.2.2.2.2.1, (((31 : Int64) * v.2.2.2.2.2.2.2.2.2.2) + (Int32.toInt64 p0)))) := hD
  have hR : (v.1, v.2.1, v.2.2.1, v.2.2.2.1, v.2.2.2.2.1, v.2.2.2.2.2.1, v.2.2.2.2.2.2.1, v.2.2.2.2.2.2.2.1, v.2.2.2.2.2.2.2.2.1, v.2.2.2.2.2.2.2.2.2.1, (((31 : Int64) * v.2.2.2.2.2.2.2.2.2.2) + (Int32.toInt64 p0))) = r := Option.some.inj hf
  subst hR
  exact W.vret hx hb hr0 (fun t ht hW => ⟨⟨(), rfl, trivial, by rw [ht]; exact hP, hD⟩, hS.F ht⟩) hS.2.2 dX7_mix_15
theorem hd_X7_digest : yX7_digest.cls ≠ "java/lang/invoke/MethodHandle" ∧ yX7_digest.cls ≠ "java/lang/invoke/VarHandle" ∧ (parseMethodDescriptor yX7_digest.desc).map (fun d => d.parameters.length) = some 0 := by decide +kernel
def s_X7_digest_26 (v : MV) (x : Int32 × MV) : Option ((Int32 × MV) ⊕ (Int32 × MV)) :=
  if 14 ≤ x.1 then
    some (.inr (x.1, x.2))
  else
    (f_X7_valueOf x.2 x.1).bind (fun u4 =>
    (f_X7_mix x.2 u4).bind (fun u5 =>
    some (.inl ((x.1 + 1), u5))))
def s_X7_digest_62 (v : MV) (i1 : Int32) (x : Int32 × MV) : Option ((Int32 × MV) ⊕ (Int32 × MV)) :=
  if 7 ≤ x.1 then
    some (.inr (x.1, x.2))
  else
    (f_X7_elementOf x.2 i1 x.1).bind (fun u9 =>
    (f_X7_mix x.2 u9).bind (fun u10 =>
    some (.inl ((x.1 + 1), u10))))
def s_X7_digest_49 (v : MV) (x : Int32 × MV) : Option ((Int32 × MV) ⊕ (Int32 × MV)) :=
  if (x.2.1 7) ≤ x.1 then
    some (.inr (x.1, x.2))
  else
    (zloop (s_X7_digest_62 x.2 x.1) 4096 (0, x.2)).bind (fun u11 =>
    (f_X7_backOf u11.2 x.1).bind (fun u12 =>
    (f_X7_mix u11.2 u12).bind (fun u13 =>
    if zin ((10 + (5 * x.1)) + 4) 220 = true then
    (f_X7_mix u13 (u13.2.2.2.1 ((10 + (5 * x.1)) + 4).toNatClampNeg)).bind (fun u15 =>
    some (.inl ((x.1 + 1), u15)))
    else none)))
def s_X7_digest_118 (v : MV) (x : Int32 × MV) : Option ((Int32 × MV) ⊕ (Int32 × MV)) :=
  if (3 * (x.2.1 8)) ≤ x.1 then
    some (.inr (x.1, x.2))
  else
    (f_X7_ofFiller x.2 (x.1 / 3) (x.1 - x.1 / 3 * 3)).bind (fun u18 =>
    (f_X7_mix x.2 u18).bind (fun u19 =>
    some (.inl ((x.1 + 1), u19))))
def s_X7_digest_153 (v : MV) (x : Int32 × MV) : Option ((Int32 × MV) ⊕ (Int32 × MV)) :=
  if (3 * (x.2.1 9)) ≤ x.1 then
    some (.inr (x.1, x.2))
  else
    if zin (100 + x.1) 220 = true then
    (f_X7_mix x.2 (x.2.1 (100 + x.1).toNatClampNeg)).bind (fun u23 =>
    some (.inl ((x.1 + 1), u23)))
    else none
def f_X7_digest (v : MV) : Option (Int64 × MV) :=
  (f_X7_foresees (v.1, v.2.1, v.2.2.1, v.2.2.2.1, v.2.2.2.2.1, v.2.2.2.2.2.1, v.2.2.2.2.2.2.1, 0, v.2.2.2.2.2.2.2.2.1, v.2.2.2.2.2.2.2.2.2.1, v.2.2.2.2.2.2.2.2.2.2)).bind (fun u1 =>
  (f_X7_mix (u1.1, u1.2.1, u1.2.2.1, u1.2.2.2.1, u1.2.2.2.2.1, u1.2.2.2.2.2.1, u1.2.2.2.2.2.2.1, u1.2.2.2.2.2.2.2.1, u1.2.2.2.2.2.2.2.2.1, u1.2.2.2.2.2.2.2.2.2.1, (3559 : Int64)) u1.2.2.2.2.2.2.1).bind (fun u2 =>
  (zloop (s_X7_digest_26 u2) 4096 (0, u2)).bind (fun u6 =>
  (zloop (s_X7_digest_49 u6.2) 4096 (0, u6.2)).bind (fun u16 =>
  (zloop (s_X7_digest_118 u16.2) 4096 (0, u16.2)).bind (fun u20 =>
  (zloop (s_X7_digest_153 u20.2) 4096 (0, u20.2)).bind (fun u24 =>
  (f_X7_mix u24.2 (u24.2.2.2.2.1 0)).bind (fun u25 =>
  (f_X7_mix u25 u25.2.2.2.2.1).bind (fun u26 =>
  some (u26.2.2.2.2.2.2.2.2.2.2, u26)))))))))
set_option maxHeartbeats 4000000 in
set_option maxRecDepth 100000 in
theorem c_X7_digest (l : Launch) (g : zG) (a : Nat → Nat) (v : MV) (r : Int64 × MV) (hf : f_X7_digest v = some r) : zMl zNF zNM l yX7_digest (zw yX7_digest cX7_digest 3 (some .long)) ({ frames := 6, cells := 0, slots := 0, locals := 141 } : Room) g [.ref (a 0)] (zX7 g a v) r.1 (zX7 g a r.2) := by
  intro sz
  refine Met.ofW (cc := cX7_digest) (maxL := 3) (ret := (some .long)) (by decide) rfl ?_
  intro p e s m args below meth c s₁ B hml hv
  obtain ⟨rfl, hsz, hP, hK, hD0⟩ := hv
  have hx := B.exec
  have hb := B.bytes
  have hr0 := B.returns
  have hts := atoms_spec (ws := (zw yX7_digest cX7_digest 3 (some .long))) B.pre
  have hw0 : ∀ w ∈ zW, w.before ([.ref (a 0)] : List Value).toArray s = true := fun w h => hts w (List.mem_cons_of_mem _ h)
  have hown : s.vm.findClass RX7 = some m.cls := findClass_of_methodNamed B.named
  have hlocks := B.notSynchronized
  subst hsz
  have hD := hD0.self (sz := s.heap.size)
  generalize hAe : va_A (zX7 g a v) s.heap.size = A at hD ⊢
  have hA : ∀ q : Nat, s.heap.size ≤ q → A q := fun q h => by rw [← hAe]; exact Or.inr h
  have hS : va_S A s.heap s.heap [] := va_S.rf
  have lp26 : ∀ (v : MV), ∀ (n : Nat) (x : Int32 × MV) (rr : Int32 × MV), zloop (s_X7_digest_26 v) n x = some rr → (∀ (H : Heap) (locs : List Loc), va_P g.1 vwCl (zX7 g a rr.2) H → va_D A (zX7 g a rr.2) → va_S A s.heap H locs → ∀ ls : Array Slot, lv_has ls 3 [(0, .ref (a 0))] → W p l e (headSpec (zw yX7_digest cX7_digest 3 (some .long)) ({ frames := 6, cells := 0, slots := 0, locals := 141 } : Room)).room s m ([.ref (a 0)] : List Value).toArray below meth c H locs 0 0 (MQ below (va_Ql (fun (x : Int64) (_ : Unit) => x = r.1) (fun _ => zEnd g A (zX7 g a r.2)) A) ([.ref (a 0)] : List Value).toArray s 0 0 A) (F0 m 47 ls [])) → ∀ (H : Heap) (locs : List Loc), va_P g.1 vwCl (zX7 g a x.2) H → va_D A (zX7 g a x.2) → va_S A s.heap H locs → ∀ ls : Array Slot, lv_has ls 3 [(0, .ref (a 0)), (1, .int x.1)] → W p l e (headSpec (zw yX7_digest cX7_digest 3 (some .long)) ({ frames := 6, cells := 0, slots := 0, locals := 141 } : Room)).room s m ([.ref (a 0)] : List Value).toArray below meth c H locs 0 0 (MQ below (va_Ql (fun (x : Int64) (_ : Unit) => x = r.1) (fun _ => zEnd g A (zX7 g a r.2)) A) ([.ref (a 0)] : List Value).toArray s 0 0 A) (F0 m 26 ls []) := by
    intro v
    refine zloop_ind ?_
    intro x y rr hf ih hr hQ H locs hP hD hS ls hl
    unfold s_X7_digest_26 at hf
    refine lv_iload_n hx hb dX7_digest_26 rfl (lv_at hl 1 rfl) ?_
    refine lv_bipush (v := 14) hx hb dX7_digest_27 (by decide) ?_
    refine lv_icmp_ge (tgt := 47) hx hb dX7_digest_29 (by decide) (fun c3 => ?_) (fun c3 => ?_)
    · have hf := oi hf c3
      have hR : (x.1, x.2) = rr := hr _ (Option.some.inj hf).symm
      subst hR
      exact hQ _ _ hP hD hS _ (lv_sub hl [0] rfl)
    · have hf := oe hf c3
      refine lv_aload_n hx hb dX7_digest_32 rfl (lv_at hl 0 rfl) ?_
      refine lv_aload_n hx hb dX7_digest_33 rfl (lv_at hl 0 rfl) ?_
      refine lv_iload_n hx hb dX7_digest_34 rfl (lv_at hl 1 rfl) ?_
      obtain ⟨u4, hu4, hf⟩ := ob hf
      refine zk_iA (va_runV (As := [.int x.1]) (rest := [.ref (a 0)]) ⟨hx, hb, hml, hown, hts⟩ (c_X7_valueOf l g a x.2 x.1 _ hu4 _) (zcV hw0 zm5_51 zm5_54 zm1_8 zm5_53 zs7_2 hd_X7_valueOf rfl rfl ⟨Nat.le_of_ble_eq_true rfl, Nat.le_of_ble_eq_true rfl⟩) ⟨zblind, zrecvA hK hP (ci := 7) rfl rfl, zpreA hK hP hD⟩ rfl rfl hl.1 rfl (lv_room (Nat.le_of_ble_eq_true rfl)) dX7_digest_35 ⟨Nat.zero_le _, Nat.zero_le _⟩) hP hD hS hA (fun H locs hP hD hS => ?_)
      obtain ⟨u5, hu5, hf⟩ := ob hf
      refine zk_vA (va_runV (As := [.int u4]) (rest := []) ⟨hx, hb, hml, hown, hts⟩ (c_X7_mix l g a x.2 u4 _ hu5 _) (zcV hw0 zm5_167 zm5_170 zm1_8 zm5_169 zs7_15 hd_X7_mix rfl rfl ⟨Nat.le_of_ble_eq_true rfl, Nat.le_of_ble_eq_true rfl⟩) ⟨zblind, zrecvA hK hP (ci := 7) rfl rfl, zpreA hK hP hD⟩ rfl rfl hl.1 rfl (lv_room (Nat.le_of_ble_eq_true rfl)) dX7_digest_38 ⟨Nat.zero_le _, Nat.zero_le _⟩) hP hD hS hA (fun H locs hP hD hS => ?_)
      have hP : va_P g.1 vwCl (zX7 g a u5) H := hP
      have hD : va_D A (zX7 g a u5) := hD
      refine lv_iinc (v := (x.1 + 1)) (lv' := [(1, .int (x.1 + 1)), (0, .ref (a 0))]) hx hb dX7_digest_41 hl (k := 1) rfl rfl (by decide) rfl (fun ls hl => ?_)
      refine lv_goto (tgt := 26) hx hb dX7_digest_44 (by decide) ?_
      exact ih ((x.1 + 1), u5) (Option.some.inj hf).symm hQ _ _ hP hD hS _ (lv_sub hl [1, 0] rfl)
  have lp62 : ∀ (v : MV) (i1 : Int32), ∀ (n : Nat) (x : Int32 × MV) (rr : Int32 × MV), zloop (s_X7_digest_62 v i1) n x = some rr → (∀ (H : Heap) (locs : List Loc), va_P g.1 vwCl (zX7 g a rr.2) H → va_D A (zX7 g a rr.2) → va_S A s.heap H locs → ∀ ls : Array Slot, lv_has ls 3 [(0, .ref (a 0)), (1, .int i1)] → W p l e (headSpec (zw yX7_digest cX7_digest 3 (some .long)) ({ frames := 6, cells := 0, slots := 0, locals := 141 } : Room)).room s m ([.ref (a 0)] : List Value).toArray below meth c H locs 0 0 (MQ below (va_Ql (fun (x : Int64) (_ : Unit) => x = r.1) (fun _ => zEnd g A (zX7 g a r.2)) A) ([.ref (a 0)] : List Value).toArray s 0 0 A) (F0 m 84 ls [])) → ∀ (H : Heap) (locs : List Loc), va_P g.1 vwCl (zX7 g a x.2) H → va_D A (zX7 g a x.2) → va_S A s.heap H locs → ∀ ls : Array Slot, lv_has ls 3 [(0, .ref (a 0)), (1, .int i1), (2, .int x.1)] → W p l e (headSpec (zw yX7_digest cX7_digest 3 (some .long)) ({ frames := 6, cells := 0, slots := 0, locals := 141 } : Room)).room s m ([.ref (a 0)] : List Value).toArray below meth c H locs 0 0 (MQ below (va_Ql (fun (x : Int64) (_ : Unit) => x = r.1) (fun _ => zEnd g A (zX7 g a r.2)) A) ([.ref (a 0)] : List Value).toArray s 0 0 A) (F0 m 62 ls []) := by
    intro v i1
    refine zloop_ind ?_
    intro x y rr hf ih hr hQ H locs hP hD hS ls hl
    unfold s_X7_digest_62 at hf
    refine lv_iload_n hx hb dX7_digest_62 rfl (lv_at hl 2 rfl) ?_
    refine lv_bipush (v := 7) hx hb dX7_digest_63 (by decide) ?_
    refine lv_icmp_ge (tgt := 84) hx hb dX7_digest_65 (by decide) (fun c8 => ?_) (fun c8 => ?_)
    · have hf := oi hf c8
      have hR : (x.1, x.2) = rr := hr _ (Option.some.inj hf).symm
      subst hR
      exact hQ _ _ hP hD hS _ (lv_sub hl [0, 1] rfl)
    · have hf := oe hf c8
      refine lv_aload_n hx hb dX7_digest_68 rfl (lv_at hl 0 rfl) ?_
      refine lv_aload_n hx hb dX7_digest_69 rfl (lv_at hl 0 rfl) ?_
      refine lv_iload_n hx hb dX7_digest_70 rfl (lv_at hl 1 rfl) ?_
      refine lv_iload_n hx hb dX7_digest_71 rfl (lv_at hl 2 rfl) ?_
      obtain ⟨u9, hu9, hf⟩ := ob hf
      refine zk_iA (va_runV (As := [.int i1, .int x.1]) (rest := [.ref (a 0)]) ⟨hx, hb, hml, hown, hts⟩ (c_X7_elementOf l g a x.2 i1 x.1 _ hu9 _) (zcV hw0 zm5_23 zm5_26 zm1_8 zm5_25 zs6_13 hd_X7_elementOf rfl rfl ⟨Nat.le_of_ble_eq_true rfl, Nat.le_of_ble_eq_true rfl⟩) ⟨zblind, zrecvA hK hP (ci := 7) rfl rfl, zpreA hK hP hD⟩ rfl rfl hl.1 rfl (lv_room (Nat.le_of_ble_eq_true rfl)) dX7_digest_72 ⟨Nat.zero_le _, Nat.zero_le _⟩) hP hD hS hA (fun H locs hP hD hS => ?_)
      obtain ⟨u10, hu10, hf⟩ := ob hf
      refine zk_vA (va_runV (As := [.int u9]) (rest := []) ⟨hx, hb, hml, hown, hts⟩ (c_X7_mix l g a x.2 u9 _ hu10 _) (zcV hw0 zm5_167 zm5_170 zm1_8 zm5_169 zs7_15 hd_X7_mix rfl rfl ⟨Nat.le_of_ble_eq_true rfl, Nat.le_of_ble_eq_true rfl⟩) ⟨zblind, zrecvA hK hP (ci := 7) rfl rfl, zpreA hK hP hD⟩ rfl rfl hl.1 rfl (lv_room (Nat.le_of_ble_eq_true rfl)) dX7_digest_75 ⟨Nat.zero_le _, Nat.zero_le _⟩) hP hD hS hA (fun H locs hP hD hS => ?_)
      have hP : va_P g.1 vwCl (zX7 g a u10) H := hP
      have hD : va_D A (zX7 g a u10) := hD
      refine lv_iinc (v := (x.1 + 1)) (lv' := [(2, .int (x.1 + 1)), (0, .ref (a 0)), (1, .int i1)]) hx hb dX7_digest_78 hl (k := 2) rfl rfl (by decide) rfl (fun ls hl => ?_)
      refine lv_goto (tgt := 62) hx hb dX7_digest_81 (by decide) ?_
      exact ih ((x.1 + 1), u10) (Option.some.inj hf).symm hQ _ _ hP hD hS _ (lv_sub hl [1, 2, 0] rfl)
  have lp49 : ∀ (v : MV), ∀ (n : Nat) (x : Int32 × MV) (rr : Int32 × MV), zloop (s_X7_digest_49 v) n x = some rr → (∀ (H : Heap) (locs : List Loc), va_P g.1 vwCl (zX7 g a rr.2) H → va_D A (zX7 g a rr.2) → va_S A s.heap H locs → ∀ ls : Array Slot, lv_has ls 3 [(0, .ref (a 0))] → W p l e (headSpec (zw yX7_digest cX7_digest 3 (some .long)) ({ frames := 6, cells := 0, slots := 0, locals := 141 } : Room)).room s m ([.ref (a 0)] : List Value).toArray below meth c H locs 0 0 (MQ below (va_Ql (fun (x : Int64) (_ : Unit) => x = r.1) (fun _ => zEnd g A (zX7 g a r.2)) A) ([.ref (a 0)] : List Value).toArray s 0 0 A) (F0 m 116 ls [])) → ∀ (H : Heap) (locs : List Loc), va_P g.1 vwCl (zX7 g a x.2) H → va_D A (zX7 g a x.2) → va_S A s.heap H locs → ∀ ls : Array Slot, lv_has ls 3 [(0, .ref (a 0)), (1, .int x.1)] → W p l e (headSpec (zw yX7_digest cX7_digest 3 (some .long)) ({ frames := 6, cells := 0, slots := 0, locals := 141 } : Room)).room s m ([.ref (a 0)] : List Value).toArray below meth c H locs 0 0 (MQ below (va_Ql (fun (x : Int64) (_ : Unit) => x = r.1) (fun _ => zEnd g A (zX7 g a r.2)) A) ([.ref (a 0)] : List Value).toArray s 0 0 A) (F0 m 49 ls []) := by
    intro v
    refine zloop_ind ?_
    intro x y rr hf ih hr hQ H locs hP hD hS ls hl
    unfold s_X7_digest_49 at hf
    refine lv_iload_n hx hb dX7_digest_49 rfl (lv_at hl 1 rfl) ?_
    refine lv_aload_n hx hb dX7_digest_50 rfl (lv_at hl 0 rfl) ?_
    refine va_get (D := g.1) (ci := 7) (v := .ref (a 1)) (C := RX7) (T := TX7) (N := 11) hx hb hw0 ziX7 hown hK.1 hP 0 rfl rfl 0 (by decide) (hw0 _ zm4_71) (fun _ h9 => h9) rfl dX7_digest_51 ?_
    refine lv_bipush (v := 7) hx hb dX7_digest_54 (by decide) ?_
    refine zald (D := g.1) (f := x.2.1) (k := 7) hx hb hK.1 hP 1 0 rfl rfl (zin_vp (i := 7) (n := 220) rfl) rfl dX7_digest_56 ?_
    refine lv_icmp_ge (tgt := 116) hx hb dX7_digest_57 (by decide) (fun c7 => ?_) (fun c7 => ?_)
    · have hf := oi hf c7
      have hR : (x.1, x.2) = rr := hr _ (Option.some.inj hf).symm
      subst hR
      exact hQ _ _ hP hD hS _ (lv_sub hl [0] rfl)
    · have hf := oe hf c7
      refine lv_iconst (v := 0) hx hb dX7_digest_60 (by decide) ?_
      refine lv_istore_n (lv' := [(2, .int 0), (0, .ref (a 0)), (1, .int x.1)]) hx hb dX7_digest_61 rfl hl (by decide) rfl (fun ls hl => ?_)
      obtain ⟨u11, hu11, hf⟩ := ob hf
      refine lp62 x.2 x.1 _ _ u11 hu11 (fun H locs hP hD hS ls hl => ?_) _ _ hP hD hS _ (lv_sub hl [1, 2, 0] rfl)
      have hl : lv_has ls 3 [(0, .ref (a 0)), (1, .int x.1)] := hl
      have hP : va_P g.1 vwCl (zX7 g a u11.2) H := hP
      have hD : va_D A (zX7 g a u11.2) := hD
      refine lv_aload_n hx hb dX7_digest_84 rfl (lv_at hl 0 rfl) ?_
      refine lv_aload_n hx hb dX7_digest_85 rfl (lv_at hl 0 rfl) ?_
      refine lv_iload_n hx hb dX7_digest_86 rfl (lv_at hl 1 rfl) ?_
      obtain ⟨u12, hu12, hf⟩ := ob hf
      refine zk_iA (va_runV (As := [.int x.1]) (rest := [.ref (a 0)]) ⟨hx, hb, hml, hown, hts⟩ (c_X7_backOf l g a u11.2 x.1 _ hu12 _) (zcV hw0 zm5_71 zm5_74 zm1_8 zm5_73 zs7_5 hd_X7_backOf rfl rfl ⟨Nat.le_of_ble_eq_true rfl, Nat.le_of_ble_eq_true rfl⟩) ⟨zblind, zrecvA hK hP (ci := 7) rfl rfl, zpreA hK hP hD⟩ rfl rfl hl.1 rfl (lv_room (Nat.le_of_ble_eq_true rfl)) dX7_digest_87 ⟨Nat.zero_le _, Nat.zero_le _⟩) hP hD hS hA (fun H locs hP hD hS => ?_)
      obtain ⟨u13, hu13, hf⟩ := ob hf
      refine zk_vA (va_runV (As := [.int u12]) (rest := []) ⟨hx, hb, hml, hown, hts⟩ (c_X7_mix l g a u11.2 u12 _ hu13 _) (zcV hw0 zm5_167 zm5_170 zm1_8 zm5_169 zs7_15 hd_X7_mix rfl rfl ⟨Nat.le_of_ble_eq_true rfl, Nat.le_of_ble_eq_true rfl⟩) ⟨zblind, zrecvA hK hP (ci := 7) rfl rfl, zpreA hK hP hD⟩ rfl rfl hl.1 rfl (lv_room (Nat.le_of_ble_eq_true rfl)) dX7_digest_90 ⟨Nat.zero_le _, Nat.zero_le _⟩) hP hD hS hA (fun H locs hP hD hS => ?_)
      have hP : va_P g.1 vwCl (zX7 g a u13) H := hP
      have hD : va_D A (zX7 g a u13) := hD
      refine lv_aload_n hx hb dX7_digest_93 rfl (lv_at hl 0 rfl) ?_
      refine lv_aload_n hx hb dX7_digest_94 rfl (lv_at hl 0 rfl) ?_
      refine va_get (D := g.1) (ci := 7) (v := .ref (a 4)) (C := RX7) (T := TX7) (N := 11) hx hb hw0 ziX7 hown hK.1 hP 0 rfl rfl 3 (by decide) (hw0 _ zm4_74) (fun _ h9 => h9) rfl dX7_digest_95 ?_
      refine lv_bipush (v := 10) hx hb dX7_digest_98 (by decide) ?_
      refine lv_iconst (v := 5) hx hb dX7_digest_100 (by decide) ?_
      refine lv_iload_n hx hb dX7_digest_101 rfl (lv_at hl 1 rfl) ?_
      refine lv_imul hx hb dX7_digest_102 ?_
      refine lv_iadd hx hb dX7_digest_103 ?_
      refine lv_iconst (v := 4) hx hb dX7_digest_104 (by decide) ?_
      refine lv_iadd hx hb dX7_digest_105 ?_
      obtain ⟨h14, hf⟩ := og hf
      refine zald (D := g.1) (f := u13.2.2.2.1) (k := ((10 + (5 * x.1)) + 4).toNatClampNeg) hx hb hK.1 hP 4 0 rfl rfl (zin_vp h14) rfl dX7_digest_106 ?_
      obtain ⟨u15, hu15, hf⟩ := ob hf
      refine zk_vA (va_runV (As := [.int (u13.2.2.2.1 ((10 + (5 * x.1)) + 4).toNatClampNeg)]) (rest := []) ⟨hx, hb, hml, hown, hts⟩ (c_X7_mix l g a u13 (u13.2.2.2.1 ((10 + (5 * x.1)) + 4).toNatClampNeg) _ hu15 _) (zcV hw0 zm5_167 zm5_170 zm1_8 zm5_169 zs7_15 hd_X7_mix rfl rfl ⟨Nat.le_of_ble_eq_true rfl, Nat.le_of_ble_eq_true rfl⟩) ⟨zblind, zrecvA hK hP (ci := 7) rfl rfl, zpreA hK hP hD⟩ rfl rfl hl.1 rfl (lv_room (Nat.le_of_ble_eq_true rfl)) dX7_digest_107 ⟨Nat.zero_le _, Nat.zero_le _⟩) hP hD hS hA (fun H locs hP hD hS => ?_)
      have hP : va_P g.1 vwCl (zX7 g a u15) H := hP
      have hD : va_D A (zX7 g a u15) := hD
      refine lv_iinc (v := (x.1 + 1)) (lv' := [(1, .int (x.1 + 1)), (0, .ref (a 0))]) hx hb dX7_digest_110 hl (k := 1) rfl rfl (by decide) rfl (fun ls hl => ?_)
      refine lv_goto (tgt := 49) hx hb dX7_digest_113 (by decide) ?_
      exact ih ((x.1 + 1), u15) (Option.some.inj hf).symm hQ _ _ hP hD hS _ (lv_sub hl [1, 0] rfl)
  have lp118 : ∀ (v : MV), ∀ (n : Nat) (x : Int32 × MV) (rr : Int32 × MV), zloop (s_X7_digest_118 v) n x = some rr → (∀ (H : Heap) (locs : List Loc), va_P g.1 vwCl (zX7 g a rr.2) H → va_D A (zX7 g a rr.2) → va_S A s.heap H locs → ∀ ls : Array Slot, lv_has ls 3 [(0, .ref (a 0))] → W p l e (headSpec (zw yX7_digest cX7_digest 3 (some .long)) ({ frames := 6, cells := 0, slots := 0, locals := 141 } : Room)).room s m ([.ref (a 0)] : List Value).toArray below meth c H locs 0 0 (MQ below (va_Ql (fun (x : Int64) (_ : Unit) => x = r.1) (fun _ => zEnd g A (zX7 g a r.2)) A) ([.ref (a 0)] : List Value).toArray s 0 0 A) (F0 m 151 ls [])) → ∀ (H : Heap) (locs : List Loc), va_P g.1 vwCl (zX7 g a x.2) H → va_D A (zX7 g a x.2) → va_S A s.heap H locs → ∀ ls : Array Slot, lv_has ls 3 [(0, .ref (a 0)), (1, .int x.1)] → W p l e (headSpec (zw yX7_digest cX7_digest 3 (some .long)) ({ frames := 6, cells := 0, slots := 0, locals := 141 } : Room)).room s m ([.ref (a 0)] : List Value).toArray below meth c H locs 0 0 (MQ below (va_Ql (fun (x : Int64) (_ : Unit) => x = r.1) (fun _ => zEnd g A (zX7 g a r.2)) A) ([.ref (a 0)] : List Value).toArray s 0 0 A) (F0 m 118 ls []) := by
    intro v
    refine zloop_ind ?_
    intro x y rr hf ih hr hQ H locs hP hD hS ls hl
    unfold s_X7_digest_118 at hf
    refine lv_iload_n hx hb dX7_digest_118 rfl (lv_at hl 1 rfl) ?_
    refine lv_iconst (v := 3) hx hb dX7_digest_119 (by decide) ?_
    refine lv_aload_n hx hb dX7_digest_120 rfl (lv_at hl 0 rfl) ?_
    refine va_get (D := g.1) (ci := 7) (v := .ref (a 1)) (C := RX7) (T := TX7) (N := 11) hx hb hw0 ziX7 hown hK.1 hP 0 rfl rfl 0 (by decide) (hw0 _ zm4_71) (fun _ h9 => h9) rfl dX7_digest_121 ?_
    refine lv_bipush (v := 8) hx hb dX7_digest_124 (by decide) ?_
    refine zald (D := g.1) (f := x.2.1) (k := 8) hx hb hK.1 hP 1 0 rfl rfl (zin_vp (i := 8) (n := 220) rfl) rfl dX7_digest_126 ?_
    refine lv_imul hx hb dX7_digest_127 ?_
    refine lv_icmp_ge (tgt := 151) hx hb dX7_digest_128 (by decide) (fun c17 => ?_) (fun c17 => ?_)
    · have hf := oi hf c17
      have hR : (x.1, x.2) = rr := hr _ (Option.some.inj hf).symm
      subst hR
      exact hQ _ _ hP hD hS _ (lv_sub hl [0] rfl)
    · have hf := oe hf c17
      refine lv_aload_n hx hb dX7_digest_131 rfl (lv_at hl 0 rfl) ?_
      refine lv_aload_n hx hb dX7_digest_132 rfl (lv_at hl 0 rfl) ?_
      refine lv_iload_n hx hb dX7_digest_133 rfl (lv_at hl 1 rfl) ?_
      refine lv_iconst (v := 3) hx hb dX7_digest_134 (by decide) ?_
      refine lv_idiv hx hb dX7_digest_135 (by decide) ?_
      refine lv_iload_n hx hb dX7_digest_136 rfl (lv_at hl 1 rfl) ?_
      refine lv_iconst (v := 3) hx hb dX7_digest_137 (by decide) ?_
      refine lv_irem hx hb dX7_digest_138 (by decide) ?_
      obtain ⟨u18, hu18, hf⟩ := ob hf
      refine zk_iA (va_runV (As := [.int (x.1 / 3), .int (x.1 - x.1 / 3 * 3)]) (rest := [.ref (a 0)]) ⟨hx, hb, hml, hown, hts⟩ (c_X7_ofFiller l g a x.2 (x.1 / 3) (x.1 - x.1 / 3 * 3) _ hu18 _) (zcV hw0 zm4_228 zm4_231 zm1_8 zm4_230 zs6_9 hd_X7_ofFiller rfl rfl ⟨Nat.le_of_ble_eq_true rfl, Nat.le_of_ble_eq_true rfl⟩) ⟨zblind, zrecvA hK hP (ci := 7) rfl rfl, zpreA hK hP hD⟩ rfl rfl hl.1 rfl (lv_room (Nat.le_of_ble_eq_true rfl)) dX7_digest_139 ⟨Nat.zero_le _, Nat.zero_le _⟩) hP hD hS hA (fun H locs hP hD hS => ?_)
      obtain ⟨u19, hu19, hf⟩ := ob hf
      refine zk_vA (va_runV (As := [.int u18]) (rest := []) ⟨hx, hb, hml, hown, hts⟩ (c_X7_mix l g a x.2 u18 _ hu19 _) (zcV hw0 zm5_167 zm5_170 zm1_8 zm5_169 zs7_15 hd_X7_mix rfl rfl ⟨Nat.le_of_ble_eq_true rfl, Nat.le_of_ble_eq_true rfl⟩) ⟨zblind, zrecvA hK hP (ci := 7) rfl rfl, zpreA hK hP hD⟩ rfl rfl hl.1 rfl (lv_room (Nat.le_of_ble_eq_true rfl)) dX7_digest_142 ⟨Nat.zero_le _, Nat.zero_le _⟩) hP hD hS hA (fun H locs hP hD hS => ?_)
      have hP : va_P g.1 vwCl (zX7 g a u19) H := hP
      have hD : va_D A (zX7 g a u19) := hD
      refine lv_iinc (v := (x.1 + 1)) (lv' := [(1, .int (x.1 + 1)), (0, .ref (a 0))]) hx hb dX7_digest_145 hl (k := 1) rfl rfl (by decide) rfl (fun ls hl => ?_)
      refine lv_goto (tgt := 118) hx hb dX7_digest_148 (by decide) ?_
      exact ih ((x.1 + 1), u19) (Option.some.inj hf).symm hQ _ _ hP hD hS _ (lv_sub hl [1, 0] rfl)
  have lp153 : ∀ (v : MV), ∀ (n : Nat) (x : Int32 × MV) (rr : Int32 × MV), zloop (s_X7_digest_153 v) n x = some rr → (∀ (H : Heap) (locs : List Loc), va_P g.1 vwCl (zX7 g a rr.2) H → va_D A (zX7 g a rr.2) → va_S A s.heap H locs → ∀ ls : Array Slot, lv_has ls 3 [(0, .ref (a 0))] → W p l e (headSpec (zw yX7_digest cX7_digest 3 (some .long)) ({ frames := 6, cells := 0, slots := 0, locals := 141 } : Room)).room s m ([.ref (a 0)] : List Value).toArray below meth c H locs 0 0 (MQ below (va_Ql (fun (x : Int64) (_ : Unit) => x = r.1) (fun _ => zEnd g A (zX7 g a r.2)) A) ([.ref (a 0)] : List Value).toArray s 0 0 A) (F0 m 185 ls [])) → ∀ (H : Heap) (locs : List Loc), va_P g.1 vwCl (zX7 g a x.2) H → va_D A (zX7 g a x.2) → va_S A s.heap H locs → ∀ ls : Array Slot, lv_has ls 3 [(0, .ref (a 0)), (1, .int x.1)] → W p l e (headSpec (zw yX7_digest cX7_digest 3 (some .long)) ({ frames := 6, cells := 0, slots := 0, locals := 141 } : Room)).room s m ([.ref (a 0)] : List Value).toArray below meth c H locs 0 0 (MQ below (va_Ql (fun (x : Int64) (_ : Unit) => x = r.1) (fun _ => zEnd g A (zX7 g a r.2)) A) ([.ref (a 0)] : List Value).toArray s 0 0 A) (F0 m 153 ls []) := by
    intro v
    refine zloop_ind ?_
    intro x y rr hf ih hr hQ H locs hP hD hS ls hl
    unfold s_X7_digest_153 at hf
    refine lv_iload_n hx hb dX7_digest_153 rfl (lv_at hl 1 rfl) ?_
    refine lv_iconst (v := 3) hx hb dX7_digest_154 (by decide) ?_
    refine lv_aload_n hx hb dX7_digest_155 rfl (lv_at hl 0 rfl) ?_
    refine va_get (D := g.1) (ci := 7) (v := .ref (a 1)) (C := RX7) (T := TX7) (N := 11) hx hb hw0 ziX7 hown hK.1 hP 0 rfl rfl 0 (by decide) (hw0 _ zm4_71) (fun _ h9 => h9) rfl dX7_digest_156 ?_
    refine lv_bipush (v := 9) hx hb dX7_digest_159 (by decide) ?_
    refine zald (D := g.1) (f := x.2.1) (k := 9) hx hb hK.1 hP 1 0 rfl rfl (zin_vp (i := 9) (n := 220) rfl) rfl dX7_digest_161 ?_
    refine lv_imul hx hb dX7_digest_162 ?_
    refine lv_icmp_ge (tgt := 185) hx hb dX7_digest_163 (by decide) (fun c21 => ?_) (fun c21 => ?_)
    · have hf := oi hf c21
      have hR : (x.1, x.2) = rr := hr _ (Option.some.inj hf).symm
      subst hR
      exact hQ _ _ hP hD hS _ (lv_sub hl [0] rfl)
    · have hf := oe hf c21
      refine lv_aload_n hx hb dX7_digest_166 rfl (lv_at hl 0 rfl) ?_
      refine lv_aload_n hx hb dX7_digest_167 rfl (lv_at hl 0 rfl) ?_
      refine va_get (D := g.1) (ci := 7) (v := .ref (a 1)) (C := RX7) (T := TX7) (N := 11) hx hb hw0 ziX7 hown hK.1 hP 0 rfl rfl 0 (by decide) (hw0 _ zm4_71) (fun _ h9 => h9) rfl dX7_digest_168 ?_
      refine lv_bipush (v := 100) hx hb dX7_digest_171 (by decide) ?_
      refine lv_iload_n hx hb dX7_digest_173 rfl (lv_at hl 1 rfl) ?_
      refine lv_iadd hx hb dX7_digest_174 ?_
      obtain ⟨h22, hf⟩ := og hf
      refine zald (D := g.1) (f := x.2.1) (k := (100 + x.1).toNatClampNeg) hx hb hK.1 hP 1 0 rfl rfl (zin_vp h22) rfl dX7_digest_175 ?_
      obtain ⟨u23, hu23, hf⟩ := ob hf
      refine zk_vA (va_runV (As := [.int (x.2.1 (100 + x.1).toNatClampNeg)]) (rest := []) ⟨hx, hb, hml, hown, hts⟩ (c_X7_mix l g a x.2 (x.2.1 (100 + x.1).toNatClampNeg) _ hu23 _) (zcV hw0 zm5_167 zm5_170 zm1_8 zm5_169 zs7_15 hd_X7_mix rfl rfl ⟨Nat.le_of_ble_eq_true rfl, Nat.le_of_ble_eq_true rfl⟩) ⟨zblind, zrecvA hK hP (ci := 7) rfl rfl, zpreA hK hP hD⟩ rfl rfl hl.1 rfl (lv_room (Nat.le_of_ble_eq_true rfl)) dX7_digest_176 ⟨Nat.zero_le _, Nat.zero_le _⟩) hP hD hS hA (fun H locs hP hD hS => ?_)
      have hP : va_P g.1 vwCl (zX7 g a u23) H := hP
      have hD : va_D A (zX7 g a u23) := hD
      refine lv_iinc (v := (x.1 + 1)) (lv' := [(1, .int (x.1 + 1)), (0, .ref (a 0))]) hx hb dX7_digest_179 hl (k := 1) rfl rfl (by decide) rfl (fun ls hl => ?_)
      refine lv_goto (tgt := 153) hx hb dX7_digest_182 (by decide) ?_
      exact ih ((x.1 + 1), u23) (Option.some.inj hf).symm hQ _ _ hP hD hS _ (lv_sub hl [1, 0] rfl)
  unfold f_X7_digest at hf
  have hl := lv_entry ([.ref (a 0)]) (n := 3) (Nat.le_of_ble_eq_true rfl)
  rw [lg_entry_eq]
  generalize (lg_sl ([.ref (a 0)]) ++ List.replicate (3 - (lg_sl ([.ref (a 0)])).length) Slot.unset).toArray = ls at hl ⊢
  have hl : lv_has ls 3 [(0, .ref (a 0))] := hl
  refine lv_aload_n hx hb dX7_digest_0 rfl (lv_at hl 0 rfl) ?_
  refine lv_iconst (v := 0) hx hb dX7_digest_1 (by decide) ?_
  refine va_put (D := g.1) (ci := 7) (v := .int 0) (ty := .int) (C := RX7) (T := TX7) (N := 11) hx hb hw0 ziX7 tyX7 tyX7_ok nmX7 hown hK.1 hP hD hS 0 rfl rfl 7 (by decide) (hw0 _ zm4_78) (fun _ h9 => h9) rfl (tyX7_ok 7 (by decide)) rfl rfl (Nat.le_of_ble_eq_true rfl) dX7_digest_2 (fun H locs hP hD hS => ?_)
  have hP : va_P g.1 vwCl (zX7 g a (v.1, v.2.1, v.2.2.1, v.2.2.2.1, v.2.2.2.2.1, v.2.2.2.2.2.1, v.2.2.2.2.2.2.1, 0, v.2.2.2.2.2.2.2.2.1, v.2.2.2.2.2.2.2.2.2.1, v.2.2.2.2.2.2.2.2.2.2)) H := hP
  have hD : va_D A (zX7 g a (v.1, v.2.1, v.2.2.1, v.2.2.2.1, v.2.2.2.2.1, v.2.2.2.2.2.1, v.2.2.2.2.2.2.1, 0, v.2.2.2.2.2.2.2.2.1, v.2.2.2.2.2.2.2.2.2.1, v.2.2.2.2.2.2.2.2.2.2)) := hD
  refine lv_aload_n hx hb dX7_digest_5 rfl (lv_at hl 0 rfl) ?_
  obtain ⟨u1, hu1, hf⟩ := ob hf
  refine zk_vA (va_runV (As := []) (rest := []) ⟨hx, hb, hml, hown, hts⟩ (c_X7_foresees l g a (v.1, v.2.1, v.2.2.1, v.2.2.2.1, v.2.2.2.2.1, v.2.2.2.2.2.1, v.2.2.2.2.2.2.1, 0, v.2.2.2.2.2.2.2.2.1, v.2.2.2.2.2.2.2.2.2.1, v.2.2.2.2.2.2.2.2.2.2) _ hu1 _) (zcV hw0 zm5_79 zm5_82 zm1_8 zm5_81 zs7_6 hd_X7_foresees rfl rfl ⟨Nat.le_of_ble_eq_true rfl, Nat.le_of_ble_eq_true rfl⟩) ⟨zblind, zrecvA hK hP (ci := 7) rfl rfl, zpreA hK hP hD⟩ rfl rfl hl.1 rfl (lv_room (Nat.le_of_ble_eq_true rfl)) dX7_digest_6 ⟨Nat.zero_le _, Nat.zero_le _⟩) hP hD hS hA (fun H locs hP hD hS => ?_)
  have hP : va_P g.1 vwCl (zX7 g a u1) H := hP
  have hD : va_D A (zX7 g a u1) := hD
  refine lv_aload_n hx hb dX7_digest_9 rfl (lv_at hl 0 rfl) ?_
  refine lv_ldc2 (v := 3559) hx hb hown (hw0 _ zm5_166) dX7_digest_10 ?_
  refine va_put (D := g.1) (ci := 7) (v := .long (3559 : Int64)) (ty := .long) (C := RX7) (T := TX7) (N := 11) hx hb hw0 ziX7 tyX7 tyX7_ok nmX7 hown hK.1 hP hD hS 0 rfl rfl 10 (by decide) (hw0 _ zm4_81) (fun _ h9 => h9) rfl (tyX7_ok 10 (by decide)) rfl rfl (Nat.le_of_ble_eq_true rfl) dX7_digest_13 (fun H locs hP hD hS => ?_)
  have hP : va_P g.1 vwCl (zX7 g a (u1.1, u1.2.1, u1.2.2.1, u1.2.2.2.1, u1.2.2.2.2.1, u1.2.2.2.2.2.1, u1.2.2.2.2.2.2.1, u1.2.2.2.2.2.2.2.1, u1.2.2.2.2.2.2.2.2.1, u1.2.2.2.2.2.2.2.2.2.1, (3559 : Int64))) H := hP
  have hD : va_D A (zX7 g a (u1.1, u1.2.1, u1.2.2.1, u1.2.2.2.1, u1.2.2.2.2.1, u1.2.2.2.2.2.1, u1.2.2.2.2.2.2.1, u1.2.2.2.2.2.2.2.1, u1.2.2.2.2.2.2.2.2.1, u1.2.2.2.2.2.2.2.2.2.1, (3559 : Int64))) := hD
  refine lv_aload_n hx hb dX7_digest_16 rfl (lv_at hl 0 rfl) ?_
  refine lv_aload_n hx hb dX7_digest_17 rfl (lv_at hl 0 rfl) ?_
  refine va_get (D := g.1) (ci := 7) (v := .int u1.2.2.2.2.2.2.1) (C := RX7) (T := TX7) (N := 11) hx hb hw0 ziX7 hown hK.1 hP 0 rfl rfl 6 (by decide) (hw0 _ zm4_77) (fun _ h9 => h9) rfl dX7_digest_18 ?_
  obtain ⟨u2, hu2, hf⟩ := ob hf
  refine zk_vA (va_runV (As := [.int u1.2.2.2.2.2.2.1]) (rest := []) ⟨hx, hb, hml, hown, hts⟩ (c_X7_mix l g a (u1.1, u1.2.1, u1.2.2.1, u1.2.2.2.1, u1.2.2.2.2.1, u1.2.2.2.2.2.1, u1.2.2.2.2.2.2.1, u1.2.2.2.2.2.2.2.1, u1.2.2.2.2.2.2.2.2.1, u1.2.2.2.2.2.2.2.2.2.1, (3559 : Int64)) u1.2.2.2.2.2.2.1 _ hu2 _) (zcV hw0 zm5_167 zm5_170 zm1_8 zm5_169 zs7_15 hd_X7_mix rfl rfl ⟨Nat.le_of_ble_eq_true rfl, Nat.le_of_ble_eq_true rfl⟩) ⟨zblind, zrecvA hK hP (ci := 7) rfl rfl, zpreA hK hP hD⟩ rfl rfl hl.1 rfl (lv_room (Nat.le_of_ble_eq_true rfl)) dX7_digest_21 ⟨Nat.zero_le _, Nat.zero_le _⟩) hP hD hS hA (fun H locs hP hD hS => ?_)
  have hP : va_P g.1 vwCl (zX7 g a u2) H := hP
  have hD : va_D A (zX7 g a u2) := hD
  refine lv_iconst (v := 0) hx hb dX7_digest_24 (by decide) ?_
  refine lv_istore_n (lv' := [(1, .int 0), (0, .ref (a 0))]) hx hb dX7_digest_25 rfl hl (by decide) rfl (fun ls hl => ?_)
  obtain ⟨u6, hu6, hf⟩ := ob hf
  refine lp26 u2 _ _ u6 hu6 (fun H locs hP hD hS ls hl => ?_) _ _ hP hD hS _ (lv_sub hl [1, 0] rfl)
  have hl : lv_has ls 3 [(0, .ref (a 0))] := hl
  have hP : va_P g.1 vwCl (zX7 g a u6.2) H := hP
  have hD : va_D A (zX7 g a u6.2) := hD
  refine lv_iconst (v := 0) hx hb dX7_digest_47 (by decide) ?_
  refine lv_istore_n (lv' := [(1, .int 0), (0, .ref (a 0))]) hx hb dX7_digest_48 rfl hl (by decide) rfl (fun ls hl => ?_)
  obtain ⟨u16, hu16, hf⟩ := ob hf
  refine lp49 u6.2 _ _ u16 hu16 (fun H locs hP hD hS ls hl => ?_) _ _ hP hD hS _ (lv_sub hl [1, 0] rfl)
  have hl : lv_has ls 3 [(0, .ref (a 0))] := hl
  have hP : va_P g.1 vwCl (zX7 g a u16.2) H := hP
  have hD : va_D A (zX7 g a u16.2) := hD
  refine lv_iconst (v := 0) hx hb dX7_digest_116 (by decide) ?_
  refine lv_istore_n (lv' := [(1, .int 0), (0, .ref (a 0))]) hx hb dX7_digest_117 rfl hl (by decide) rfl (fun ls hl => ?_)
  obtain ⟨u20, hu20, hf⟩ := ob hf
  refine lp118 u16.2 _ _ u20 hu20 (fun H locs hP hD hS ls hl => ?_) _ _ hP hD hS _ (lv_sub hl [1, 0] rfl)
  have hl : lv_has ls 3 [(0, .ref (a 0))] := hl
  have hP : va_P g.1 vwCl (zX7 g a u20.2) H := hP
  have hD : va_D A (zX7 g a u20.2) := hD
  refine lv_iconst (v := 0) hx hb dX7_digest_151 (by decide) ?_
  refine lv_istore_n (lv' := [(1, .int 0), (0, .ref (a 0))]) hx hb dX7_digest_152 rfl hl (by decide) rfl (fun ls hl => ?_)
  obtain ⟨u24, hu24, hf⟩ := ob hf
  refine lp153 u20.2 _ _ u24 hu24 (fun H locs hP hD hS ls hl => ?_) _ _ hP hD hS _ (lv_sub hl [1, 0] rfl)
  have hl : lv_has ls 3 [(0, .ref (a 0))] := hl
  have hP : va_P g.1 vwCl (zX7 g a u24.2) H := hP
  have hD : va_D A (zX7 g a u24.2) := hD
  refine lv_aload_n hx hb dX7_digest_185 rfl (lv_at hl 0 rfl) ?_
  refine lv_aload_n hx hb dX7_digest_186 rfl (lv_at hl 0 rfl) ?_
  refine va_get (D := g.1) (ci := 7) (v := .ref (a 4)) (C := RX7) (T := TX7) (N := 11) hx hb hw0 ziX7 hown hK.1 hP 0 rfl rfl 3 (by decide) (hw0 _ zm4_74) (fun _ h9 => h9) rfl dX7_digest_187 ?_
  refine lv_iconst (v := 0) hx hb dX7_digest_190 (by decide) ?_
  refine zald (D := g.1) (f := u24.2.2.2.2.1) (k := 0) hx hb hK.1 hP 4 0 rfl rfl (zin_vp (i := 0) (n := 220) rfl) rfl dX7_digest_191 ?_
  obtain ⟨u25, hu25, hf⟩ := ob hf
  refine zk_vA (va_runV (As := [.int (u24.2.2.2.2.1 0)]) (rest := []) ⟨hx, hb, hml, hown, hts⟩ (c_X7_mix l g a u24.2 (u24.2.2.2.2.1 0) _ hu25 _) (zcV hw0 zm5_167 zm5_170 zm1_8 zm5_169 zs7_15 hd_X7_mix rfl rfl ⟨Nat.le_of_ble_eq_true rfl, Nat.le_of_ble_eq_true rfl⟩) ⟨zblind, zrecvA hK hP (ci := 7) rfl rfl, zpreA hK hP hD⟩ rfl rfl hl.1 rfl (lv_room (Nat.le_of_ble_eq_true rfl)) dX7_digest_192 ⟨Nat.zero_le _, Nat.zero_le _⟩) hP hD hS hA (fun H locs hP hD hS => ?_)
  have hP : va_P g.1 vwCl (zX7 g a u25) H := hP
  have hD : va_D A (zX7 g a u25) := hD
  refine lv_aload_n hx hb dX7_digest_195 rfl (lv_at hl 0 rfl) ?_
  refine lv_aload_n hx hb dX7_digest_196 rfl (lv_at hl 0 rfl) ?_
  refine va_get (D := g.1) (ci := 7) (v := .int u25.2.2.2.2.1) (C := RX7) (T := TX7) (N := 11) hx hb hw0 ziX7 hown hK.1 hP 0 rfl rfl 4 (by decide) (hw0 _ zm4_75) (fun _ h9 => h9) rfl dX7_digest_197 ?_
  obtain ⟨u26, hu26, hf⟩ := ob hf
  refine zk_vA (va_runV (As := [.int u25.2.2.2.2.1]) (rest := []) ⟨hx, hb, hml, hown, hts⟩ (c_X7_mix l g a u25 u25.2.2.2.2.1 _ hu26 _) (zcV hw0 zm5_167 zm5_170 zm1_8 zm5_169 zs7_15 hd_X7_mix rfl rfl ⟨Nat.le_of_ble_eq_true rfl, Nat.le_of_ble_eq_true rfl⟩) ⟨zblind, zrecvA hK hP (ci := 7) rfl rfl, zpreA hK hP hD⟩ rfl rfl hl.1 rfl (lv_room (Nat.le_of_ble_eq_true rfl)) dX7_digest_200 ⟨Nat.zero_le _, Nat.zero_le _⟩) hP hD hS hA (fun H locs hP hD hS => ?_)
  have hP : va_P g.1 vwCl (zX7 g a u26) H := hP
  have hD : va_D A (zX7 g a u26) := hD
  refine lv_aload_n hx hb dX7_digest_203 rfl (lv_at hl 0 rfl) ?_
  refine va_get (D := g.1) (ci := 7) (v := .long u26.2.2.2.2.2.2.2.2.2.2) (C := RX7) (T := TX7) (N := 11) hx hb hw0 ziX7 hown hK.1 hP 0 rfl rfl 10 (by decide) (hw0 _ zm4_81) (fun _ h9 => h9) rfl dX7_digest_204 ?_
  have hR : (u26.2.2.2.2.2.2.2.2.2.2, u26) = r := Option.some.inj hf
  subst hR
  exact W.lret (v := u26.2.2.2.2.2.2.2.2.2.2) hx hb hr0 (fun t ht hW => ⟨⟨u26.2.2.2.2.2.2.2.2.2.2, (), rfl, rfl, by rw [ht]; exact hP, hD⟩, hS.F ht⟩) hS.2.2 dX7_digest_207
