theorem hd_X5_put : yX5_put.cls ≠ "java/lang/invoke/MethodHandle" ∧ yX5_put.cls ≠ "java/lang/invoke/VarHandle" ∧ (parseMethodDescriptor yX5_put.desc).map (fun d => d.parameters.length) = some 1 := by decide +kernel
def f_X5_put (v : TV) (p0 : Int32) : Option (TV) :=
  if 100 ≤ v.2.1 then
    some v
  else
    if zin v.2.1 100 = true then
    some ((upd v.1 v.2.1.toNatClampNeg p0), (v.2.1 + 1), v.2.2.1, v.2.2.2)
    else none
set_option maxHeartbeats 4000000 in
set_option maxRecDepth 100000 in
theorem c_X5_put (l : Launch) (g : zG) (a : Nat → Nat) (v : TV) (p0 : Int32) (r : TV) (hf : f_X5_put v p0 = some r) : zMv zNF zNM l yX5_put (zw yX5_put cX5_put 2 none) ({ frames := 0, cells := 0, slots := 0, locals := 0 } : Room) g [.ref (a 0), .int p0] (zX5 g a v) (zX5 g a r) := by
  intro sz
  refine Met.ofW (cc := cX5_put) (maxL := 2) (ret := none) (by decide) rfl ?_
  intro p e s m args below meth c s₁ B hml hv
  obtain ⟨rfl, hsz, hP, hK, hD0⟩ := hv
  have hx := B.exec
  have hb := B.bytes
  have hr0 := B.returns
  have hts := atoms_spec (ws := (zw yX5_put cX5_put 2 none)) B.pre
  have hw0 : ∀ w ∈ zW, w.before ([.ref (a 0), .int p0] : List Value).toArray s = true := fun w h => hts w (List.mem_cons_of_mem _ h)
  have hown : s.vm.findClass RX5 = some m.cls := findClass_of_methodNamed B.named
  have hlocks := B.notSynchronized
  subst hsz
  have hD := hD0.self (sz := s.heap.size)
  generalize hAe : va_A (zX5 g a v) s.heap.size = A at hD ⊢
  have hA : ∀ q : Nat, s.heap.size ≤ q → A q := fun q h => by rw [← hAe]; exact Or.inr h
  have hS : va_S A s.heap s.heap [] := va_S.rf
  unfold f_X5_put at hf
  have hl := lv_entry ([.ref (a 0), .int p0]) (n := 2) (Nat.le_of_ble_eq_true rfl)
  rw [lg_entry_eq]
  generalize (lg_sl ([.ref (a 0), .int p0]) ++ List.replicate (2 - (lg_sl ([.ref (a 0), .int p0])).length) Slot.unset).toArray = ls at hl ⊢
  have hl : lv_has ls 2 [(0, .ref (a 0)), (1, .int p0)] := hl
  refine lv_aload_n hx hb dX5_put_0 rfl (lv_at hl 0 rfl) ?_
  refine va_get (D := g.1) (ci := 5) (v := .int v.2.1) (C := RX5) (T := TX5) (N := 4) hx hb hw0 ziX5 hown hK.1 hP 0 rfl rfl 1 (by decide) (hw0 _ zm1_196) (fun _ h9 => h9) rfl dX5_put_1 ?_
  refine lv_bipush (v := 100) hx hb dX5_put_4 (by decide) ?_
  refine lv_icmp_ge (tgt := 29) hx hb dX5_put_6 (by decide) (fun c1 => ?_) (fun c1 => ?_)
  · have hf := oi hf c1
    have hR : v = r := Option.some.inj hf
    subst hR
    exact W.vret hx hb hr0 (fun t ht hW => ⟨⟨(), rfl, trivial, by rw [ht]; exact hP, hD⟩, hS.F ht⟩) hS.2.2 dX5_put_29
  · have hf := oe hf c1
    refine lv_aload_n hx hb dX5_put_9 rfl (lv_at hl 0 rfl) ?_
    refine va_get (D := g.1) (ci := 5) (v := .ref (a 1)) (C := RX5) (T := TX5) (N := 4) hx hb hw0 ziX5 hown hK.1 hP 0 rfl rfl 0 (by decide) (hw0 _ zm1_195) (fun _ h9 => h9) rfl dX5_put_10 ?_
    refine lv_aload_n hx hb dX5_put_13 rfl (lv_at hl 0 rfl) ?_
    refine va_get (D := g.1) (ci := 5) (v := .int v.2.1) (C := RX5) (T := TX5) (N := 4) hx hb hw0 ziX5 hown hK.1 hP 0 rfl rfl 1 (by decide) (hw0 _ zm1_196) (fun _ h9 => h9) rfl dX5_put_14 ?_
    refine lv_iload_n hx hb dX5_put_17 rfl (lv_at hl 1 rfl) ?_
    obtain ⟨h2, hf⟩ := og hf
    refine zast (D := g.1) (f := v.1) (k := v.2.1.toNatClampNeg) (x := p0) hx hb hK.1 hP hD hS 1 0 rfl rfl (zin_vp h2) rfl dX5_put_18 (fun H locs hP hD hS => ?_)
    have hP : va_P g.1 vwCl (zX5 g a ((upd v.1 v.2.1.toNatClampNeg p0), v.2.1, v.2.2.1, v.2.2.2)) H := hP
    have hD : va_D A (zX5 g a ((upd v.1 v.2.1.toNatClampNeg p0), v.2.1, v.2.2.1, v.2.2.2)) := hD
    refine lv_aload_n hx hb dX5_put_19 rfl (lv_at hl 0 rfl) ?_
    refine lv_dup hx hb dX5_put_20 rfl ?_
    refine va_get (D := g.1) (ci := 5) (v := .int v.2.1) (C := RX5) (T := TX5) (N := 4) hx hb hw0 ziX5 hown hK.1 hP 0 rfl rfl 1 (by decide) (hw0 _ zm1_196) (fun _ h9 => h9) rfl dX5_put_21 ?_
    refine lv_iconst (v := 1) hx hb dX5_put_24 (by decide) ?_
    refine lv_iadd hx hb dX5_put_25 ?_
    refine va_put (D := g.1) (ci := 5) (v := .int (v.2.1 + 1)) (ty := .int) (C := RX5) (T := TX5) (N := 4) hx hb hw0 ziX5 tyX5 tyX5_ok nmX5 hown hK.1 hP hD hS 0 rfl rfl 1 (by decide) (hw0 _ zm1_196) (fun _ h9 => h9) rfl (tyX5_ok 1 (by decide)) rfl rfl (Nat.le_of_ble_eq_true rfl) dX5_put_26 (fun H locs hP hD hS => ?_)
    have hP : va_P g.1 vwCl (zX5 g a ((upd v.1 v.2.1.toNatClampNeg p0), (v.2.1 + 1), v.2.2.1, v.2.2.2)) H := hP
    have hD : va_D A (zX5 g a ((upd v.1 v.2.1.toNatClampNeg p0), (v.2.1 + 1), v.2.2.1, v.2.2.2)) := hD
    have hR : ((upd v.1 v.2.1.toNatClampNeg p0), (v.2.1 + 1), v.2.2.1, v.2.2.2) = r := Option.some.inj hf
    subst hR
    exact W.vret hx hb hr0 (fun t ht hW => ⟨⟨(), rfl, trivial, by rw [ht]; exact hP, hD⟩, hS.F ht⟩) hS.2.2 dX5_put_29
theorem hd_X5_here : yX5_here.cls ≠ "java/lang/invoke/MethodHandle" ∧ yX5_here.cls ≠ "java/lang/invoke/VarHandle" ∧ (parseMethodDescriptor yX5_here.desc).map (fun d => d.parameters.length) = some 0 := by decide +kernel
def f_X5_here (v : TV) : Option (Int32) :=
  if v.2.2.1 < 0 then
    some (-1)
  else
    if v.2.1 ≤ v.2.2.1 then
      some (-1)
    else
      if 100 ≤ v.2.2.1 then
        some (-1)
      else
        if zin v.2.2.1 100 = true then
        some (v.1 v.2.2.1.toNatClampNeg)
        else none
set_option maxHeartbeats 4000000 in
set_option maxRecDepth 100000 in
theorem c_X5_here (l : Launch) (g : zG) (a : Nat → Nat) (v : TV) (r : Int32) (hf : f_X5_here v = some r) : zMi zNF zNM l yX5_here (zw yX5_here cX5_here 1 (some .int)) ({ frames := 0, cells := 0, slots := 0, locals := 0 } : Room) g [.ref (a 0)] (zX5 g a v) r (zX5 g a v) := by
  intro sz
  refine Met.ofW (cc := cX5_here) (maxL := 1) (ret := (some .int)) (by decide) rfl ?_
  intro p e s m args below meth c s₁ B hml hv
  obtain ⟨rfl, hsz, hP, hK, hD0⟩ := hv
  have hx := B.exec
  have hb := B.bytes
  have hr0 := B.returns
  have hts := atoms_spec (ws := (zw yX5_here cX5_here 1 (some .int))) B.pre
  have hw0 : ∀ w ∈ zW, w.before ([.ref (a 0)] : List Value).toArray s = true := fun w h => hts w (List.mem_cons_of_mem _ h)
  have hown : s.vm.findClass RX5 = some m.cls := findClass_of_methodNamed B.named
  have hlocks := B.notSynchronized
  subst hsz
  have hD := hD0.self (sz := s.heap.size)
  generalize hAe : va_A (zX5 g a v) s.heap.size = A at hD ⊢
  have hA : ∀ q : Nat, s.heap.size ≤ q → A q := fun q h => by rw [← hAe]; exact Or.inr h
  have hS : va_S A s.heap s.heap [] := va_S.rf
  unfold f_X5_here at hf
  have hl := lv_entry ([.ref (a 0)]) (n := 1) (Nat.le_of_ble_eq_true rfl)
  rw [lg_entry_eq]
  generalize (lg_sl ([.ref (a 0)]) ++ List.replicate (1 - (lg_sl ([.ref (a 0)])).length) Slot.unset).toArray = ls at hl ⊢
  have hl : lv_has ls 1 [(0, .ref (a 0))] := hl
  refine lv_aload_n hx hb dX5_here_0 rfl (lv_at hl 0 rfl) ?_
  refine va_get (D := g.1) (ci := 5) (v := .int v.2.2.1) (C := RX5) (T := TX5) (N := 4) hx hb hw0 ziX5 hown hK.1 hP 0 rfl rfl 2 (by decide) (hw0 _ zm1_198) (fun _ h9 => h9) rfl dX5_here_1 ?_
  refine lv_if_lt (tgt := 39) hx hb dX5_here_4 (by decide) (fun c1 => ?_) (fun c1 => ?_)
  · have hf := oi hf c1
    refine lv_iconst (v := (-1)) hx hb dX5_here_39 (by decide) ?_
    have hR : (-1) = r := Option.some.inj hf
    subst hR
    exact W.iret (v := (-1)) hx hb hr0 (fun t ht hW => ⟨⟨(-1), (), rfl, rfl, by rw [ht]; exact hP, hD⟩, hS.F ht⟩) hS.2.2 dX5_here_40
  · have hf := oe hf c1
    refine lv_aload_n hx hb dX5_here_7 rfl (lv_at hl 0 rfl) ?_
    refine va_get (D := g.1) (ci := 5) (v := .int v.2.2.1) (C := RX5) (T := TX5) (N := 4) hx hb hw0 ziX5 hown hK.1 hP 0 rfl rfl 2 (by decide) (hw0 _ zm1_198) (fun _ h9 => h9) rfl dX5_here_8 ?_
    refine lv_aload_n hx hb dX5_here_11 rfl (lv_at hl 0 rfl) ?_
    refine va_get (D := g.1) (ci := 5) (v := .int v.2.1) (C := RX5) (T := TX5) (N := 4) hx hb hw0 ziX5 hown hK.1 hP 0 rfl rfl 1 (by decide) (hw0 _ zm1_196) (fun _ h9 => h9) rfl dX5_here_12 ?_
    refine lv_icmp_ge (tgt := 39) hx hb dX5_here_15 (by decide) (fun c2 => ?_) (fun c2 => ?_)
    · have hf := oi hf c2
      refine lv_iconst (v := (-1)) hx hb dX5_here_39 (by decide) ?_
      have hR : (-1) = r := Option.some.inj hf
      subst hR
      exact W.iret (v := (-1)) hx hb hr0 (fun t ht hW => ⟨⟨(-1), (), rfl, rfl, by rw [ht]; exact hP, hD⟩, hS.F ht⟩) hS.2.2 dX5_here_40
    · have hf := oe hf c2
      refine lv_aload_n hx hb dX5_here_18 rfl (lv_at hl 0 rfl) ?_
      refine va_get (D := g.1) (ci := 5) (v := .int v.2.2.1) (C := RX5) (T := TX5) (N := 4) hx hb hw0 ziX5 hown hK.1 hP 0 rfl rfl 2 (by decide) (hw0 _ zm1_198) (fun _ h9 => h9) rfl dX5_here_19 ?_
      refine lv_bipush (v := 100) hx hb dX5_here_22 (by decide) ?_
      refine lv_icmp_ge (tgt := 39) hx hb dX5_here_24 (by decide) (fun c3 => ?_) (fun c3 => ?_)
      · have hf := oi hf c3
        refine lv_iconst (v := (-1)) hx hb dX5_here_39 (by decide) ?_
        have hR : (-1) = r := Option.some.inj hf
        subst hR
        exact W.iret (v := (-1)) hx hb hr0 (fun t ht hW => ⟨⟨(-1), (), rfl, rfl, by rw [ht]; exact hP, hD⟩, hS.F ht⟩) hS.2.2 dX5_here_40
      · have hf := oe hf c3
        refine lv_aload_n hx hb dX5_here_27 rfl (lv_at hl 0 rfl) ?_
        refine va_get (D := g.1) (ci := 5) (v := .ref (a 1)) (C := RX5) (T := TX5) (N := 4) hx hb hw0 ziX5 hown hK.1 hP 0 rfl rfl 0 (by decide) (hw0 _ zm1_195) (fun _ h9 => h9) rfl dX5_here_28 ?_
        refine lv_aload_n hx hb dX5_here_31 rfl (lv_at hl 0 rfl) ?_
        refine va_get (D := g.1) (ci := 5) (v := .int v.2.2.1) (C := RX5) (T := TX5) (N := 4) hx hb hw0 ziX5 hown hK.1 hP 0 rfl rfl 2 (by decide) (hw0 _ zm1_198) (fun _ h9 => h9) rfl dX5_here_32 ?_
        obtain ⟨h4, hf⟩ := og hf
        refine zald (D := g.1) (f := v.1) (k := v.2.2.1.toNatClampNeg) hx hb hK.1 hP 1 0 rfl rfl (zin_vp h4) rfl dX5_here_35 ?_
        refine lv_goto (tgt := 40) hx hb dX5_here_36 (by decide) ?_
        have hR : (v.1 v.2.2.1.toNatClampNeg) = r := Option.some.inj hf
        subst hR
        exact W.iret (v := (v.1 v.2.2.1.toNatClampNeg)) hx hb hr0 (fun t ht hW => ⟨⟨(v.1 v.2.2.1.toNatClampNeg), (), rfl, rfl, by rw [ht]; exact hP, hD⟩, hS.F ht⟩) hS.2.2 dX5_here_40
theorem hd_X5_isDigit : yX5_isDigit.cls ≠ "java/lang/invoke/MethodHandle" ∧ yX5_isDigit.cls ≠ "java/lang/invoke/VarHandle" ∧ (parseMethodDescriptor yX5_isDigit.desc).map (fun d => d.parameters.length) = some 1 := by decide +kernel
def f_X5_isDigit (v : TV) (p0 : Int32) : Option (Bool) :=
  if p0 < 48 then
    some false
  else
    if 57 < p0 then
      some false
    else
      some true
set_option maxHeartbeats 4000000 in
set_option maxRecDepth 100000 in
theorem c_X5_isDigit (l : Launch) (g : zG) (a : Nat → Nat) (v : TV) (p0 : Int32) (r : Bool) (hf : f_X5_isDigit v p0 = some r) : zMi zNF zNM l yX5_isDigit (zw yX5_isDigit cX5_isDigit 2 (some .boolean)) ({ frames := 0, cells := 0, slots := 0, locals := 0 } : Room) g [.ref (a 0), .int p0] (zX5 g a v) (zb r) (zX5 g a v) := by
  intro sz
  refine Met.ofW (cc := cX5_isDigit) (maxL := 2) (ret := (some .boolean)) (by decide) rfl ?_
  intro p e s m args below meth c s₁ B hml hv
  obtain ⟨rfl, hsz, hP, hK, hD0⟩ := hv
  have hx := B.exec
  have hb := B.bytes
  have hr0 := B.returns
  have hts := atoms_spec (ws := (zw yX5_isDigit cX5_isDigit 2 (some .boolean))) B.pre
  have hw0 : ∀ w ∈ zW, w.before ([.ref (a 0), .int p0] : List Value).toArray s = true := fun w h => hts w (List.mem_cons_of_mem _ h)
  have hown : s.vm.findClass RX5 = some m.cls := findClass_of_methodNamed B.named
  have hlocks := B.notSynchronized
  subst hsz
  have hD := hD0.self (sz := s.heap.size)
  generalize hAe : va_A (zX5 g a v) s.heap.size = A at hD ⊢
  have hA : ∀ q : Nat, s.heap.size ≤ q → A q := fun q h => by rw [← hAe]; exact Or.inr h
  have hS : va_S A s.heap s.heap [] := va_S.rf
  unfold f_X5_isDigit at hf
  have hl := lv_entry ([.ref (a 0), .int p0]) (n := 2) (Nat.le_of_ble_eq_true rfl)
  rw [lg_entry_eq]
  generalize (lg_sl ([.ref (a 0), .int p0]) ++ List.replicate (2 - (lg_sl ([.ref (a 0), .int p0])).length) Slot.unset).toArray = ls at hl ⊢
  have hl : lv_has ls 2 [(0, .ref (a 0)), (1, .int p0)] := hl
  refine lv_iload_n hx hb dX5_isDigit_0 rfl (lv_at hl 1 rfl) ?_
  refine lv_bipush (v := 48) hx hb dX5_isDigit_1 (by decide) ?_
  refine lv_icmp_lt (tgt := 16) hx hb dX5_isDigit_3 (by decide) (fun c1 => ?_) (fun c1 => ?_)
  · have hf := oi hf c1
    refine lv_iconst (v := 0) hx hb dX5_isDigit_16 (by decide) ?_
    have hR : false = r := Option.some.inj hf
    subst hR
    exact W.zret (v := zb false) hx hb hr0 (zb_nar false) (fun t ht hW => ⟨⟨zb false, (), rfl, rfl, by rw [ht]; exact hP, hD⟩, hS.F ht⟩) hS.2.2 dX5_isDigit_17
  · have hf := oe hf c1
    refine lv_iload_n hx hb dX5_isDigit_6 rfl (lv_at hl 1 rfl) ?_
    refine lv_bipush (v := 57) hx hb dX5_isDigit_7 (by decide) ?_
    refine lv_icmp_gt (tgt := 16) hx hb dX5_isDigit_9 (by decide) (fun c2 => ?_) (fun c2 => ?_)
    · have hf := oi hf c2
      refine lv_iconst (v := 0) hx hb dX5_isDigit_16 (by decide) ?_
      have hR : false = r := Option.some.inj hf
      subst hR
      exact W.zret (v := zb false) hx hb hr0 (zb_nar false) (fun t ht hW => ⟨⟨zb false, (), rfl, rfl, by rw [ht]; exact hP, hD⟩, hS.F ht⟩) hS.2.2 dX5_isDigit_17
    · have hf := oe hf c2
      refine lv_iconst (v := 1) hx hb dX5_isDigit_12 (by decide) ?_
      refine lv_goto (tgt := 17) hx hb dX5_isDigit_13 (by decide) ?_
      have hR : true = r := Option.some.inj hf
      subst hR
      exact W.zret (v := zb true) hx hb hr0 (zb_nar true) (fun t ht hW => ⟨⟨zb true, (), rfl, rfl, by rw [ht]; exact hP, hD⟩, hS.F ht⟩) hS.2.2 dX5_isDigit_17
theorem hd_X5_fail : yX5_fail.cls ≠ "java/lang/invoke/MethodHandle" ∧ yX5_fail.cls ≠ "java/lang/invoke/VarHandle" ∧ (parseMethodDescriptor yX5_fail.desc).map (fun d => d.parameters.length) = some 1 := by decide +kernel
def f_X5_fail (v : TV) (p0 : Int32) : Option (TV) :=
  if v.2.2.2 = (-1) then
    some (v.1, v.2.1, v.2.2.1, p0)
  else
    some v
set_option maxHeartbeats 4000000 in
set_option maxRecDepth 100000 in
theorem c_X5_fail (l : Launch) (g : zG) (a : Nat → Nat) (v : TV) (p0 : Int32) (r : TV) (hf : f_X5_fail v p0 = some r) : zMv zNF zNM l yX5_fail (zw yX5_fail cX5_fail 2 none) ({ frames := 0, cells := 0, slots := 0, locals := 0 } : Room) g [.ref (a 0), .int p0] (zX5 g a v) (zX5 g a r) := by
  intro sz
  refine Met.ofW (cc := cX5_fail) (maxL := 2) (ret := none) (by decide) rfl ?_
  intro p e s m args below meth c s₁ B hml hv
  obtain ⟨rfl, hsz, hP, hK, hD0⟩ := hv
  have hx := B.exec
  have hb := B.bytes
  have hr0 := B.returns
  have hts := atoms_spec (ws := (zw yX5_fail cX5_fail 2 none)) B.pre
  have hw0 : ∀ w ∈ zW, w.before ([.ref (a 0), .int p0] : List Value).toArray s = true := fun w h => hts w (List.mem_cons_of_mem _ h)
  have hown : s.vm.findClass RX5 = some m.cls := findClass_of_methodNamed B.named
  have hlocks := B.notSynchronized
  subst hsz
  have hD := hD0.self (sz := s.heap.size)
  generalize hAe : va_A (zX5 g a v) s.heap.size = A at hD ⊢
  have hA : ∀ q : Nat, s.heap.size ≤ q → A q := fun q h => by rw [← hAe]; exact Or.inr h
  have hS : va_S A s.heap s.heap [] := va_S.rf
  unfold f_X5_fail at hf
  have hl := lv_entry ([.ref (a 0), .int p0]) (n := 2) (Nat.le_of_ble_eq_true rfl)
  rw [lg_entry_eq]
  generalize (lg_sl ([.ref (a 0), .int p0]) ++ List.replicate (2 - (lg_sl ([.ref (a 0), .int p0])).length) Slot.unset).toArray = ls at hl ⊢
  have hl : lv_has ls 2 [(0, .ref (a 0)), (1, .int p0)] := hl
  refine lv_aload_n hx hb dX5_fail_0 rfl (lv_at hl 0 rfl) ?_
  refine va_get (D := g.1) (ci := 5) (v := .int v.2.2.2) (C := RX5) (T := TX5) (N := 4) hx hb hw0 ziX5 hown hK.1 hP 0 rfl rfl 3 (by decide) (hw0 _ zm1_199) (fun _ h9 => h9) rfl dX5_fail_1 ?_
  refine lv_iconst (v := (-1)) hx hb dX5_fail_4 (by decide) ?_
  refine lv_icmp_ne (tgt := 13) hx hb dX5_fail_5 (by decide) (fun c1 => ?_) (fun c1 => ?_)
  · have hf := oe hf c1
    have hR : v = r := Option.some.inj hf
    subst hR
    exact W.vret hx hb hr0 (fun t ht hW => ⟨⟨(), rfl, trivial, by rw [ht]; exact hP, hD⟩, hS.F ht⟩) hS.2.2 dX5_fail_13
  · have hf := oi hf c1
    refine lv_aload_n hx hb dX5_fail_8 rfl (lv_at hl 0 rfl) ?_
    refine lv_iload_n hx hb dX5_fail_9 rfl (lv_at hl 1 rfl) ?_
    refine va_put (D := g.1) (ci := 5) (v := .int p0) (ty := .int) (C := RX5) (T := TX5) (N := 4) hx hb hw0 ziX5 tyX5 tyX5_ok nmX5 hown hK.1 hP hD hS 0 rfl rfl 3 (by decide) (hw0 _ zm1_199) (fun _ h9 => h9) rfl (tyX5_ok 3 (by decide)) rfl rfl (Nat.le_of_ble_eq_true rfl) dX5_fail_10 (fun H locs hP hD hS => ?_)
    have hP : va_P g.1 vwCl (zX5 g a (v.1, v.2.1, v.2.2.1, p0)) H := hP
    have hD : va_D A (zX5 g a (v.1, v.2.1, v.2.2.1, p0)) := hD
    have hR : (v.1, v.2.1, v.2.2.1, p0) = r := Option.some.inj hf
    subst hR
    exact W.vret hx hb hr0 (fun t ht hW => ⟨⟨(), rfl, trivial, by rw [ht]; exact hP, hD⟩, hS.F ht⟩) hS.2.2 dX5_fail_13
theorem hd_X5_readNumber : yX5_readNumber.cls ≠ "java/lang/invoke/MethodHandle" ∧ yX5_readNumber.cls ≠ "java/lang/invoke/VarHandle" ∧ (parseMethodDescriptor yX5_readNumber.desc).map (fun d => d.parameters.length) = some 3 := by decide +kernel
def s_X5_readNumber_12 (v : TV) (i1 : Int32) (i2 : Int32) (i3 : Int32) (i4 : Int32) (x : Int32 × Int32 × Int32) : Option ((Int32 × Int32 × Int32) ⊕ (Int32 × Int32 × Int32)) :=
  if i1 ≤ x.2.1 then
    some (.inr (x.1, x.2.1, x.2.2))
  else
    (f_X5_here (v.1, v.2.1, x.2.2, v.2.2.2)).bind (fun u2 =>
    (f_X5_isDigit (v.1, v.2.1, x.2.2, v.2.2.2) u2).bind (fun u3 =>
    if (zb u3) = 0 then
      some (.inr (x.1, x.2.1, x.2.2))
    else
      (f_X5_here (v.1, v.2.1, x.2.2, v.2.2.2)).bind (fun u5 =>
      some (.inl (((x.1 * 10) + (u5 - 48)), (x.2.1 + 1), (x.2.2 + 1))))))
def f_X5_readNumber (v : TV) (p0 : Int32) (p1 : Int32) (p2 : Int32) : Option (Int32 × TV) :=
  (zloop (s_X5_readNumber_12 v p0 p1 p2 v.2.2.1) 4096 (0, 0, v.2.2.1)).bind (fun u6 =>
  if u6.2.2 = v.2.2.1 then
    (f_X5_fail (v.1, v.2.1, u6.2.2, v.2.2.2) u6.2.2).bind (fun u8 =>
    some (u6.1, u8))
  else
    (f_X5_here (v.1, v.2.1, u6.2.2, v.2.2.2)).bind (fun u9 =>
    (f_X5_isDigit (v.1, v.2.1, u6.2.2, v.2.2.2) u9).bind (fun u10 =>
    if (zb u10) = 0 then
      if u6.1 < p1 then
        (f_X5_fail (v.1, v.2.1, u6.2.2, v.2.2.2) v.2.2.1).bind (fun u13 =>
        some (u6.1, u13))
      else
        if u6.1 ≤ p2 then
          some (u6.1, (v.1, v.2.1, u6.2.2, v.2.2.2))
        else
          (f_X5_fail (v.1, v.2.1, u6.2.2, v.2.2.2) v.2.2.1).bind (fun u15 =>
          some (u6.1, u15))
    else
      (f_X5_fail (v.1, v.2.1, u6.2.2, v.2.2.2) u6.2.2).bind (fun u16 =>
      some (u6.1, u16)))))
set_option maxHeartbeats 4000000 in
set_option maxRecDepth 100000 in
theorem c_X5_readNumber (l : Launch) (g : zG) (a : Nat → Nat) (v : TV) (p0 : Int32) (p1 : Int32) (p2 : Int32) (r : Int32 × TV) (hf : f_X5_readNumber v p0 p1 p2 = some r) : zMi zNF zNM l yX5_readNumber (zw yX5_readNumber cX5_readNumber 7 (some .int)) ({ frames := 1, cells := 0, slots := 0, locals := 21 } : Room) g [.ref (a 0), .int p0, .int p1, .int p2] (zX5 g a v) r.1 (zX5 g a r.2) := by
  intro sz
  refine Met.ofW (cc := cX5_readNumber) (maxL := 7) (ret := (some .int)) (by decide) rfl ?_
  intro p e s m args below meth c s₁ B hml hv
  obtain ⟨rfl, hsz, hP, hK, hD0⟩ := hv
  have hx := B.exec
  have hb := B.bytes
  have hr0 := B.returns
  have hts := atoms_spec (ws := (zw yX5_readNumber cX5_readNumber 7 (some .int))) B.pre
  have hw0 : ∀ w ∈ zW, w.before ([.ref (a 0), .int p0, .int p1, .int p2] : List Value).toArray s = true := fun w h => hts w (List.mem_cons_of_mem _ h)
  have hown : s.vm.findClass RX5 = some m.cls := findClass_of_methodNamed B.named
  have hlocks := B.notSynchronized
  subst hsz
  have hD := hD0.self (sz := s.heap.size)
  generalize hAe : va_A (zX5 g a v) s.heap.size = A at hD ⊢
  have hA : ∀ q : Nat, s.heap.size ≤ q → A q := fun q h => by rw [← hAe]; exact Or.inr h
  have hS : va_S A s.heap s.heap [] := va_S.rf
  have lp12 : ∀ (v : TV) (i1 : Int32) (i2 : Int32) (i3 : Int32) (i4 : Int32), ∀ (n : Nat) (x : Int32 × Int32 × Int32) (rr : Int32 × Int32 × Int32), zloop (s_X5_readNumber_12 v i1 i2 i3 i4) n x = some rr → (∀ (H : Heap) (locs : List Loc), va_P g.1 vwCl (zX5 g a (v.1, v.2.1, rr.2.2, v.2.2.2)) H → va_D A (zX5 g a (v.1, v.2.1, rr.2.2, v.2.2.2)) → va_S A s.heap H locs → ∀ ls : Array Slot, lv_has ls 7 [(0, .ref (a 0)), (2, .int i2), (3, .int i3), (4, .int i4), (5, .int rr.1)] → W p l e (headSpec (zw yX5_readNumber cX5_readNumber 7 (some .int)) ({ frames := 1, cells := 0, slots := 0, locals := 21 } : Room)).room s m ([.ref (a 0), .int p0, .int p1, .int p2] : List Value).toArray below meth c H locs 0 0 (MQ below (va_Qi (fun (x : Int32) (_ : Unit) => x = r.1) (fun _ => zEnd g A (zX5 g a r.2)) A) ([.ref (a 0), .int p0, .int p1, .int p2] : List Value).toArray s 0 0 A) (F0 m 60 ls [])) → ∀ (H : Heap) (locs : List Loc), va_P g.1 vwCl (zX5 g a (v.1, v.2.1, x.2.2, v.2.2.2)) H → va_D A (zX5 g a (v.1, v.2.1, x.2.2, v.2.2.2)) → va_S A s.heap H locs → ∀ ls : Array Slot, lv_has ls 7 [(0, .ref (a 0)), (1, .int i1), (2, .int i2), (3, .int i3), (4, .int i4), (5, .int x.1), (6, .int x.2.1)] → W p l e (headSpec (zw yX5_readNumber cX5_readNumber 7 (some .int)) ({ frames := 1, cells := 0, slots := 0, locals := 21 } : Room)).room s m ([.ref (a 0), .int p0, .int p1, .int p2] : List Value).toArray below meth c H locs 0 0 (MQ below (va_Qi (fun (x : Int32) (_ : Unit) => x = r.1) (fun _ => zEnd g A (zX5 g a r.2)) A) ([.ref (a 0), .int p0, .int p1, .int p2] : List Value).toArray s 0 0 A) (F0 m 12 ls []) := by
    intro v i1 i2 i3 i4
    refine zloop_ind ?_
    intro x y rr hf ih hr hQ H locs hP hD hS ls hl
    unfold s_X5_readNumber_12 at hf
    refine lv_iload hx hb dX5_readNumber_12 (lv_at hl 6 rfl) ?_
    refine lv_iload_n hx hb dX5_readNumber_14 rfl (lv_at hl 1 rfl) ?_
    refine lv_icmp_ge (tgt := 60) hx hb dX5_readNumber_15 (by decide) (fun c1 => ?_) (fun c1 => ?_)
    · have hf := oi hf c1
      have hR : (x.1, x.2.1, x.2.2) = rr := hr _ (Option.some.inj hf).symm
      subst hR
      exact hQ _ _ hP hD hS _ (lv_sub hl [0, 2, 3, 4, 5] rfl)
    · have hf := oe hf c1
      refine lv_aload_n hx hb dX5_readNumber_18 rfl (lv_at hl 0 rfl) ?_
      refine lv_aload_n hx hb dX5_readNumber_19 rfl (lv_at hl 0 rfl) ?_
      obtain ⟨u2, hu2, hf⟩ := ob hf
      refine zk_iA (va_runV (As := []) (rest := [.ref (a 0)]) ⟨hx, hb, hml, hown, hts⟩ (c_X5_here l g a (v.1, v.2.1, x.2.2, v.2.2.2) _ hu2 _) (zcV hw0 zm2_203 zm2_206 zm1_7 zm2_205 zs3_9 hd_X5_here rfl rfl ⟨Nat.le_of_ble_eq_true rfl, Nat.le_of_ble_eq_true rfl⟩) ⟨zblind, zrecvA hK hP (ci := 5) rfl rfl, zpreA hK hP hD⟩ rfl rfl hl.1 rfl (lv_room (Nat.le_of_ble_eq_true rfl)) dX5_readNumber_20 ⟨Nat.zero_le _, Nat.zero_le _⟩) hP hD hS hA (fun H locs hP hD hS => ?_)
      obtain ⟨u3, hu3, hf⟩ := ob hf
      refine zk_iA (va_runV (As := [.int u2]) (rest := []) ⟨hx, hb, hml, hown, hts⟩ (c_X5_isDigit l g a (v.1, v.2.1, x.2.2, v.2.2.2) u2 _ hu3 _) (zcV hw0 zm2_207 zm2_210 zm1_7 zm2_209 zs3_10 hd_X5_isDigit rfl rfl ⟨Nat.le_of_ble_eq_true rfl, Nat.le_of_ble_eq_true rfl⟩) ⟨zblind, zrecvA hK hP (ci := 5) rfl rfl, zpreA hK hP hD⟩ rfl rfl hl.1 rfl (lv_room (Nat.le_of_ble_eq_true rfl)) dX5_readNumber_23 ⟨Nat.zero_le _, Nat.zero_le _⟩) hP hD hS hA (fun H locs hP hD hS => ?_)
      refine lv_if_eq (tgt := 60) hx hb dX5_readNumber_26 (by decide) (fun c4 => ?_) (fun c4 => ?_)
      · have hf := oi hf c4
        have hR : (x.1, x.2.1, x.2.2) = rr := hr _ (Option.some.inj hf).symm
        subst hR
        exact hQ _ _ hP hD hS _ (lv_sub hl [0, 2, 3, 4, 5] rfl)
      · have hf := oe hf c4
        refine lv_iload hx hb dX5_readNumber_29 (lv_at hl 5 rfl) ?_
        refine lv_bipush (v := 10) hx hb dX5_readNumber_31 (by decide) ?_
        refine lv_imul hx hb dX5_readNumber_33 ?_
        refine lv_aload_n hx hb dX5_readNumber_34 rfl (lv_at hl 0 rfl) ?_
        obtain ⟨u5, hu5, hf⟩ := ob hf
        refine zk_iA (va_runV (As := []) (rest := [.int (x.1 * 10)]) ⟨hx, hb, hml, hown, hts⟩ (c_X5_here l g a (v.1, v.2.1, x.2.2, v.2.2.2) _ hu5 _) (zcV hw0 zm2_203 zm2_206 zm1_7 zm2_205 zs3_9 hd_X5_here rfl rfl ⟨Nat.le_of_ble_eq_true rfl, Nat.le_of_ble_eq_true rfl⟩) ⟨zblind, zrecvA hK hP (ci := 5) rfl rfl, zpreA hK hP hD⟩ rfl rfl hl.1 rfl (lv_room (Nat.le_of_ble_eq_true rfl)) dX5_readNumber_35 ⟨Nat.zero_le _, Nat.zero_le _⟩) hP hD hS hA (fun H locs hP hD hS => ?_)
        refine lv_bipush (v := 48) hx hb dX5_readNumber_38 (by decide) ?_
        refine lv_isub hx hb dX5_readNumber_40 ?_
        refine lv_iadd hx hb dX5_readNumber_41 ?_
        refine lv_istore (lv' := [(5, .int ((x.1 * 10) + (u5 - 48))), (0, .ref (a 0)), (1, .int i1), (2, .int i2), (3, .int i3), (4, .int i4), (6, .int x.2.1)]) hx hb dX5_readNumber_42 hl (by decide) rfl (fun ls hl => ?_)
        refine lv_aload_n hx hb dX5_readNumber_44 rfl (lv_at hl 1 rfl) ?_
        refine lv_dup hx hb dX5_readNumber_45 rfl ?_
        refine va_get (D := g.1) (ci := 5) (v := .int x.2.2) (C := RX5) (T := TX5) (N := 4) hx hb hw0 ziX5 hown hK.1 hP 0 rfl rfl 2 (by decide) (hw0 _ zm1_198) (fun _ h9 => h9) rfl dX5_readNumber_46 ?_
        refine lv_iconst (v := 1) hx hb dX5_readNumber_49 (by decide) ?_
        refine lv_iadd hx hb dX5_readNumber_50 ?_
        refine va_put (D := g.1) (ci := 5) (v := .int (x.2.2 + 1)) (ty := .int) (C := RX5) (T := TX5) (N := 4) hx hb hw0 ziX5 tyX5 tyX5_ok nmX5 hown hK.1 hP hD hS 0 rfl rfl 2 (by decide) (hw0 _ zm1_198) (fun _ h9 => h9) rfl (tyX5_ok 2 (by decide)) rfl rfl (Nat.le_of_ble_eq_true rfl) dX5_readNumber_51 (fun H locs hP hD hS => ?_)
        have hP : va_P g.1 vwCl (zX5 g a (v.1, v.2.1, (x.2.2 + 1), v.2.2.2)) H := hP
        have hD : va_D A (zX5 g a (v.1, v.2.1, (x.2.2 + 1), v.2.2.2)) := hD
        refine lv_iinc (v := (x.2.1 + 1)) (lv' := [(6, .int (x.2.1 + 1)), (5, .int ((x.1 * 10) + (u5 - 48))), (0, .ref (a 0)), (1, .int i1), (2, .int i2), (3, .int i3), (4, .int i4)]) hx hb dX5_readNumber_54 hl (k := 6) rfl rfl (by decide) rfl (fun ls hl => ?_)
        refine lv_goto (tgt := 12) hx hb dX5_readNumber_57 (by decide) ?_
        exact ih (((x.1 * 10) + (u5 - 48)), (x.2.1 + 1), (x.2.2 + 1)) (Option.some.inj hf).symm hQ _ _ hP hD hS _ (lv_sub hl [2, 3, 4, 5, 6, 1, 0] rfl)
  unfold f_X5_readNumber at hf
  have hl := lv_entry ([.ref (a 0), .int p0, .int p1, .int p2]) (n := 7) (Nat.le_of_ble_eq_true rfl)
  rw [lg_entry_eq]
  generalize (lg_sl ([.ref (a 0), .int p0, .int p1, .int p2]) ++ List.replicate (7 - (lg_sl ([.ref (a 0), .int p0, .int p1, .int p2])).length) Slot.unset).toArray = ls at hl ⊢
  have hl : lv_has ls 7 [(0, .ref (a 0)), (1, .int p0), (2, .int p1), (3, .int p2)] := hl
  refine lv_aload_n hx hb dX5_readNumber_0 rfl (lv_at hl 0 rfl) ?_
  refine va_get (D := g.1) (ci := 5) (v := .int v.2.2.1) (C := RX5) (T := TX5) (N := 4) hx hb hw0 ziX5 hown hK.1 hP 0 rfl rfl 2 (by decide) (hw0 _ zm1_198) (fun _ h9 => h9) rfl dX5_readNumber_1 ?_
  refine lv_istore (lv' := [(4, .int v.2.2.1), (0, .ref (a 0)), (1, .int p0), (2, .int p1), (3, .int p2)]) hx hb dX5_readNumber_4 hl (by decide) rfl (fun ls hl => ?_)
  refine lv_iconst (v := 0) hx hb dX5_readNumber_6 (by decide) ?_
  refine lv_istore (lv' := [(5, .int 0), (4, .int v.2.2.1), (0, .ref (a 0)), (1, .int p0), (2, .int p1), (3, .int p2)]) hx hb dX5_readNumber_7 hl (by decide) rfl (fun ls hl => ?_)
  refine lv_iconst (v := 0) hx hb dX5_readNumber_9 (by decide) ?_
  refine lv_istore (lv' := [(6, .int 0), (5, .int 0), (4, .int v.2.2.1), (0, .ref (a 0)), (1, .int p0), (2, .int p1), (3, .int p2)]) hx hb dX5_readNumber_10 hl (by decide) rfl (fun ls hl => ?_)
  obtain ⟨u6, hu6, hf⟩ := ob hf
  refine lp12 v p0 p1 p2 v.2.2.1 _ _ u6 hu6 (fun H locs hP hD hS ls hl => ?_) _ _ hP hD hS _ (lv_sub hl [3, 4, 5, 6, 2, 1, 0] rfl)
  have hl : lv_has ls 7 [(0, .ref (a 0)), (2, .int p1), (3, .int p2), (4, .int v.2.2.1), (5, .int u6.1)] := hl
  have hP : va_P g.1 vwCl (zX5 g a (v.1, v.2.1, u6.2.2, v.2.2.2)) H := hP
  have hD : va_D A (zX5 g a (v.1, v.2.1, u6.2.2, v.2.2.2)) := hD
  refine lv_aload_n hx hb dX5_readNumber_60 rfl (lv_at hl 0 rfl) ?_
  refine va_get (D := g.1) (ci := 5) (v := .int u6.2.2) (C := RX5) (T := TX5) (N := 4) hx hb hw0 ziX5 hown hK.1 hP 0 rfl rfl 2 (by decide) (hw0 _ zm1_198) (fun _ h9 => h9) rfl dX5_readNumber_61 ?_
  refine lv_iload hx hb dX5_readNumber_64 (lv_at hl 3 rfl) ?_
  refine lv_icmp_eq (tgt := 80) hx hb dX5_readNumber_66 (by decide) (fun c7 => ?_) (fun c7 => ?_)
  · have hf := oi hf c7
    refine lv_aload_n hx hb dX5_readNumber_80 rfl (lv_at hl 0 rfl) ?_
    refine lv_aload_n hx hb dX5_readNumber_81 rfl (lv_at hl 0 rfl) ?_
    refine va_get (D := g.1) (ci := 5) (v := .int u6.2.2) (C := RX5) (T := TX5) (N := 4) hx hb hw0 ziX5 hown hK.1 hP 0 rfl rfl 2 (by decide) (hw0 _ zm1_198) (fun _ h9 => h9) rfl dX5_readNumber_82 ?_
    obtain ⟨u8, hu8, hf⟩ := ob hf
    refine zk_vA (va_runV (As := [.int u6.2.2]) (rest := []) ⟨hx, hb, hml, hown, hts⟩ (c_X5_fail l g a (v.1, v.2.1, u6.2.2, v.2.2.2) u6.2.2 _ hu8 _) (zcV hw0 zm2_219 zm2_222 zm1_7 zm2_221 zs3_13 hd_X5_fail rfl rfl ⟨Nat.le_of_ble_eq_true rfl, Nat.le_of_ble_eq_true rfl⟩) ⟨zblind, zrecvA hK hP (ci := 5) rfl rfl, zpreA hK hP hD⟩ rfl rfl hl.1 rfl (lv_room (Nat.le_of_ble_eq_true rfl)) dX5_readNumber_85 ⟨Nat.zero_le _, Nat.zero_le _⟩) hP hD hS hA (fun H locs hP hD hS => ?_)
    have hP : va_P g.1 vwCl (zX5 g a u8) H := hP
    have hD : va_D A (zX5 g a u8) := hD
    refine lv_goto (tgt := 109) hx hb dX5_readNumber_88 (by decide) ?_
    refine lv_iload hx hb dX5_readNumber_109 (lv_at hl 4 rfl) ?_
    have hR : (u6.1, u8) = r := Option.some.inj hf
    subst hR
    exact W.iret (v := u6.1) hx hb hr0 (fun t ht hW => ⟨⟨u6.1, (), rfl, rfl, by rw [ht]; exact hP, hD⟩, hS.F ht⟩) hS.2.2 dX5_readNumber_111
  · have hf := oe hf c7
    refine lv_aload_n hx hb dX5_readNumber_69 rfl (lv_at hl 0 rfl) ?_
    refine lv_aload_n hx hb dX5_readNumber_70 rfl (lv_at hl 0 rfl) ?_
    obtain ⟨u9, hu9, hf⟩ := ob hf
    refine zk_iA (va_runV (As := []) (rest := [.ref (a 0)]) ⟨hx, hb, hml, hown, hts⟩ (c_X5_here l g a (v.1, v.2.1, u6.2.2, v.2.2.2) _ hu9 _) (zcV hw0 zm2_203 zm2_206 zm1_7 zm2_205 zs3_9 hd_X5_here rfl rfl ⟨Nat.le_of_ble_eq_true rfl, Nat.le_of_ble_eq_true rfl⟩) ⟨zblind, zrecvA hK hP (ci := 5) rfl rfl, zpreA hK hP hD⟩ rfl rfl hl.1 rfl (lv_room (Nat.le_of_ble_eq_true rfl)) dX5_readNumber_71 ⟨Nat.zero_le _, Nat.zero_le _⟩) hP hD hS hA (fun H locs hP hD hS => ?_)
    obtain ⟨u10, hu10, hf⟩ := ob hf
    refine zk_iA (va_runV (As := [.int u9]) (rest := []) ⟨hx, hb, hml, hown, hts⟩ (c_X5_isDigit l g a (v.1, v.2.1, u6.2.2, v.2.2.2) u9 _ hu10 _) (zcV hw0 zm2_207 zm2_210 zm1_7 zm2_209 zs3_10 hd_X5_isDigit rfl rfl ⟨Nat.le_of_ble_eq_true rfl, Nat.le_of_ble_eq_true rfl⟩) ⟨zblind, zrecvA hK hP (ci := 5) rfl rfl, zpreA hK hP hD⟩ rfl rfl hl.1 rfl (lv_room (Nat.le_of_ble_eq_true rfl)) dX5_readNumber_74 ⟨Nat.zero_le _, Nat.zero_le _⟩) hP hD hS hA (fun H locs hP hD hS => ?_)
    refine lv_if_eq (tgt := 91) hx hb dX5_readNumber_77 (by decide) (fun c11 => ?_) (fun c11 => ?_)
    · have hf := oi hf c11
      refine lv_iload hx hb dX5_readNumber_91 (lv_at hl 4 rfl) ?_
      refine lv_iload_n hx hb dX5_readNumber_93 rfl (lv_at hl 1 rfl) ?_
      refine lv_icmp_lt (tgt := 103) hx hb dX5_readNumber_94 (by decide) (fun c12 => ?_) (fun c12 => ?_)
      · have hf := oi hf c12
        refine lv_aload_n hx hb dX5_readNumber_103 rfl (lv_at hl 0 rfl) ?_
        refine lv_iload hx hb dX5_readNumber_104 (lv_at hl 3 rfl) ?_
        obtain ⟨u13, hu13, hf⟩ := ob hf
        refine zk_vA (va_runV (As := [.int v.2.2.1]) (rest := []) ⟨hx, hb, hml, hown, hts⟩ (c_X5_fail l g a (v.1, v.2.1, u6.2.2, v.2.2.2) v.2.2.1 _ hu13 _) (zcV hw0 zm2_219 zm2_222 zm1_7 zm2_221 zs3_13 hd_X5_fail rfl rfl ⟨Nat.le_of_ble_eq_true rfl, Nat.le_of_ble_eq_true rfl⟩) ⟨zblind, zrecvA hK hP (ci := 5) rfl rfl, zpreA hK hP hD⟩ rfl rfl hl.1 rfl (lv_room (Nat.le_of_ble_eq_true rfl)) dX5_readNumber_106 ⟨Nat.zero_le _, Nat.zero_le _⟩) hP hD hS hA (fun H locs hP hD hS => ?_)
        have hP : va_P g.1 vwCl (zX5 g a u13) H := hP
        have hD : va_D A (zX5 g a u13) := hD
        refine lv_iload hx hb dX5_readNumber_109 (lv_at hl 4 rfl) ?_
        have hR : (u6.1, u13) = r := Option.some.inj hf
        subst hR
        exact W.iret (v := u6.1) hx hb hr0 (fun t ht hW => ⟨⟨u6.1, (), rfl, rfl, by rw [ht]; exact hP, hD⟩, hS.F ht⟩) hS.2.2 dX5_readNumber_111
      · have hf := oe hf c12
        refine lv_iload hx hb dX5_readNumber_97 (lv_at hl 4 rfl) ?_
        refine lv_iload_n hx hb dX5_readNumber_99 rfl (lv_at hl 2 rfl) ?_
        refine lv_icmp_le (tgt := 109) hx hb dX5_readNumber_100 (by decide) (fun c14 => ?_) (fun c14 => ?_)
        · have hf := oi hf c14
          refine lv_iload hx hb dX5_readNumber_109 (lv_at hl 4 rfl) ?_
          have hR : (u6.1, (v.1, v.2.1, u6.2.2, v.2.2.2)) = r := Option.some.inj hf
          subst hR
          exact W.iret (v := u6.1) hx hb hr0 (fun t ht hW => ⟨⟨u6.1, (), rfl, rfl, by rw [ht]; exact hP, hD⟩, hS.F ht⟩) hS.2.2 dX5_readNumber_111
        · have hf := oe hf c14
          refine lv_aload_n hx hb dX5_readNumber_103 rfl (lv_at hl 0 rfl) ?_
          refine lv_iload hx hb dX5_readNumber_104 (lv_at hl 3 rfl) ?_
          obtain ⟨u15, hu15, hf⟩ := ob hf
          refine zk_vA (va_runV (As := [.int v.2.2.1]) (rest := []) ⟨hx, hb, hml, hown, hts⟩ (c_X5_fail l g a (v.1, v.2.1, u6.2.2, v.2.2.2) v.2.2.1 _ hu15 _) (zcV hw0 zm2_219 zm2_222 zm1_7 zm2_221 zs3_13 hd_X5_fail rfl rfl ⟨Nat.le_of_ble_eq_true rfl, Nat.le_of_ble_eq_true rfl⟩) ⟨zblind, zrecvA hK hP (ci := 5) rfl rfl, zpreA hK hP hD⟩ rfl rfl hl.1 rfl (lv_room (Nat.le_of_ble_eq_true rfl)) dX5_readNumber_106 ⟨Nat.zero_le _, Nat.zero_le _⟩) hP hD hS hA (fun H locs hP hD hS => ?_)
          have hP : va_P g.1 vwCl (zX5 g a u15) H := hP
          have hD : va_D A (zX5 g a u15) := hD
          refine lv_iload hx hb dX5_readNumber_109 (lv_at hl 4 rfl) ?_
          have hR : (u6.1, u15) = r := Option.some.inj hf
          subst hR
          exact W.iret (v := u6.1) hx hb hr0 (fun t ht hW => ⟨⟨u6.1, (), rfl, rfl, by rw [ht]; exact hP, hD⟩, hS.F ht⟩) hS.2.2 dX5_readNumber_111
    · have hf := oe hf c11
      refine lv_aload_n hx hb dX5_readNumber_80 rfl (lv_at hl 0 rfl) ?_
      refine lv_aload_n hx hb dX5_readNumber_81 rfl (lv_at hl 0 rfl) ?_
      refine va_get (D := g.1) (ci := 5) (v := .int u6.2.2) (C := RX5) (T := TX5) (N := 4) hx hb hw0 ziX5 hown hK.1 hP 0 rfl rfl 2 (by decide) (hw0 _ zm1_198) (fun _ h9 => h9) rfl dX5_readNumber_82 ?_
      obtain ⟨u16, hu16, hf⟩ := ob hf
      refine zk_vA (va_runV (As := [.int u6.2.2]) (rest := []) ⟨hx, hb, hml, hown, hts⟩ (c_X5_fail l g a (v.1, v.2.1, u6.2.2, v.2.2.2) u6.2.2 _ hu16 _) (zcV hw0 zm2_219 zm2_222 zm1_7 zm2_221 zs3_13 hd_X5_fail rfl rfl ⟨Nat.le_of_ble_eq_true rfl, Nat.le_of_ble_eq_true rfl⟩) ⟨zblind, zrecvA hK hP (ci := 5) rfl rfl, zpreA hK hP hD⟩ rfl rfl hl.1 rfl (lv_room (Nat.le_of_ble_eq_true rfl)) dX5_readNumber_85 ⟨Nat.zero_le _, Nat.zero_le _⟩) hP hD hS hA (fun H locs hP hD hS => ?_)
      have hP : va_P g.1 vwCl (zX5 g a u16) H := hP
      have hD : va_D A (zX5 g a u16) := hD
      refine lv_goto (tgt := 109) hx hb dX5_readNumber_88 (by decide) ?_
      refine lv_iload hx hb dX5_readNumber_109 (lv_at hl 4 rfl) ?_
      have hR : (u6.1, u16) = r := Option.some.inj hf
      subst hR
      exact W.iret (v := u6.1) hx hb hr0 (fun t ht hW => ⟨⟨u6.1, (), rfl, rfl, by rw [ht]; exact hP, hD⟩, hS.F ht⟩) hS.2.2 dX5_readNumber_111
theorem hd_X5_take : yX5_take.cls ≠ "java/lang/invoke/MethodHandle" ∧ yX5_take.cls ≠ "java/lang/invoke/VarHandle" ∧ (parseMethodDescriptor yX5_take.desc).map (fun d => d.parameters.length) = some 1 := by decide +kernel
def f_X5_take (v : TV) (p0 : Int32) : Option (Bool × TV) :=
  if v.2.2.2 = (-1) then
    (f_X5_here v).bind (fun u2 =>
    if u2 = p0 then
      some (true, (v.1, v.2.1, (v.2.2.1 + 1), v.2.2.2))
    else
      some (false, v))
  else
    some (false, v)
set_option maxHeartbeats 4000000 in
set_option maxRecDepth 100000 in
theorem c_X5_take (l : Launch) (g : zG) (a : Nat → Nat) (v : TV) (p0 : Int32) (r : Bool × TV) (hf : f_X5_take v p0 = some r) : zMi zNF zNM l yX5_take (zw yX5_take cX5_take 3 (some .boolean)) ({ frames := 1, cells := 0, slots := 0, locals := 20 } : Room) g [.ref (a 0), .int p0] (zX5 g a v) (zb r.1) (zX5 g a r.2) := by
  intro sz
  refine Met.ofW (cc := cX5_take) (maxL := 3) (ret := (some .boolean)) (by decide) rfl ?_
  intro p e s m args below meth c s₁ B hml hv
  obtain ⟨rfl, hsz, hP, hK, hD0⟩ := hv
  have hx := B.exec
  have hb := B.bytes
  have hr0 := B.returns
  have hts := atoms_spec (ws := (zw yX5_take cX5_take 3 (some .boolean))) B.pre
  have hw0 : ∀ w ∈ zW, w.before ([.ref (a 0), .int p0] : List Value).toArray s = true := fun w h => hts w (List.mem_cons_of_mem _ h)
  have hown : s.vm.findClass RX5 = some m.cls := findClass_of_methodNamed B.named
  have hlocks := B.notSynchronized
  subst hsz
  have hD := hD0.self (sz := s.heap.size)
  generalize hAe : va_A (zX5 g a v) s.heap.size = A at hD ⊢
  have hA : ∀ q : Nat, s.heap.size ≤ q → A q := fun q h => by rw [← hAe]; exact Or.inr h
  have hS : va_S A s.heap s.heap [] := va_S.rf
  unfold f_X5_take at hf
  have hl := lv_entry ([.ref (a 0), .int p0]) (n := 3) (Nat.le_of_ble_eq_true rfl)
  rw [lg_entry_eq]
  generalize (lg_sl ([.ref (a 0), .int p0]) ++ List.replicate (3 - (lg_sl ([.ref (a 0), .int p0])).length) Slot.unset).toArray = ls at hl ⊢
  have hl : lv_has ls 3 [(0, .ref (a 0)), (1, .int p0)] := hl
  refine lv_aload_n hx hb dX5_take_0 rfl (lv_at hl 0 rfl) ?_
  refine va_get (D := g.1) (ci := 5) (v := .int v.2.2.2) (C := RX5) (T := TX5) (N := 4) hx hb hw0 ziX5 hown hK.1 hP 0 rfl rfl 3 (by decide) (hw0 _ zm1_199) (fun _ h9 => h9) rfl dX5_take_1 ?_
  refine lv_iconst (v := (-1)) hx hb dX5_take_4 (by decide) ?_
  refine lv_icmp_ne (tgt := 20) hx hb dX5_take_5 (by decide) (fun c1 => ?_) (fun c1 => ?_)
  · have hf := oe hf c1
    refine lv_iconst (v := 0) hx hb dX5_take_20 (by decide) ?_
    refine lv_istore_n (lv' := [(2, .int 0), (0, .ref (a 0)), (1, .int p0)]) hx hb dX5_take_21 rfl hl (by decide) rfl (fun ls hl => ?_)
    refine lv_iload_n hx hb dX5_take_22 rfl (lv_at hl 0 rfl) ?_
    refine lv_if_eq (tgt := 36) hx hb dX5_take_23 (by decide) (fun _ => ?_) (fun c9 => absurd c9 (by decide))
    refine lv_iload_n hx hb dX5_take_36 rfl (lv_at hl 0 rfl) ?_
    have hR : (false, v) = r := Option.some.inj hf
    subst hR
    exact W.zret (v := zb false) hx hb hr0 (zb_nar false) (fun t ht hW => ⟨⟨zb false, (), rfl, rfl, by rw [ht]; exact hP, hD⟩, hS.F ht⟩) hS.2.2 dX5_take_37
  · have hf := oi hf c1
    refine lv_aload_n hx hb dX5_take_8 rfl (lv_at hl 0 rfl) ?_
    obtain ⟨u2, hu2, hf⟩ := ob hf
    refine zk_iA (va_runV (As := []) (rest := []) ⟨hx, hb, hml, hown, hts⟩ (c_X5_here l g a v _ hu2 _) (zcV hw0 zm2_203 zm2_206 zm1_7 zm2_205 zs3_9 hd_X5_here rfl rfl ⟨Nat.le_of_ble_eq_true rfl, Nat.le_of_ble_eq_true rfl⟩) ⟨zblind, zrecvA hK hP (ci := 5) rfl rfl, zpreA hK hP hD⟩ rfl rfl hl.1 rfl (lv_room (Nat.le_of_ble_eq_true rfl)) dX5_take_9 ⟨Nat.zero_le _, Nat.zero_le _⟩) hP hD hS hA (fun H locs hP hD hS => ?_)
    refine lv_iload_n hx hb dX5_take_12 rfl (lv_at hl 1 rfl) ?_
    refine lv_icmp_ne (tgt := 20) hx hb dX5_take_13 (by decide) (fun c3 => ?_) (fun c3 => ?_)
    · have hf := oe hf c3
      refine lv_iconst (v := 0) hx hb dX5_take_20 (by decide) ?_
      refine lv_istore_n (lv' := [(2, .int 0), (0, .ref (a 0)), (1, .int p0)]) hx hb dX5_take_21 rfl hl (by decide) rfl (fun ls hl => ?_)
      refine lv_iload_n hx hb dX5_take_22 rfl (lv_at hl 0 rfl) ?_
      refine lv_if_eq (tgt := 36) hx hb dX5_take_23 (by decide) (fun _ => ?_) (fun c9 => absurd c9 (by decide))
      refine lv_iload_n hx hb dX5_take_36 rfl (lv_at hl 0 rfl) ?_
      have hR : (false, v) = r := Option.some.inj hf
      subst hR
      exact W.zret (v := zb false) hx hb hr0 (zb_nar false) (fun t ht hW => ⟨⟨zb false, (), rfl, rfl, by rw [ht]; exact hP, hD⟩, hS.F ht⟩) hS.2.2 dX5_take_37
    · have hf := oi hf c3
      refine lv_iconst (v := 1) hx hb dX5_take_16 (by decide) ?_
      refine lv_goto (tgt := 21) hx hb dX5_take_17 (by decide) ?_
      refine lv_istore_n (lv' := [(2, .int 1), (0, .ref (a 0)), (1, .int p0)]) hx hb dX5_take_21 rfl hl (by decide) rfl (fun ls hl => ?_)
      refine lv_iload_n hx hb dX5_take_22 rfl (lv_at hl 0 rfl) ?_
      refine lv_if_eq (tgt := 36) hx hb dX5_take_23 (by decide) (fun c9 => absurd c9 (by decide)) (fun _ => ?_)
      refine lv_aload_n hx hb dX5_take_26 rfl (lv_at hl 1 rfl) ?_
      refine lv_dup hx hb dX5_take_27 rfl ?_
      refine va_get (D := g.1) (ci := 5) (v := .int v.2.2.1) (C := RX5) (T := TX5) (N := 4) hx hb hw0 ziX5 hown hK.1 hP 0 rfl rfl 2 (by decide) (hw0 _ zm1_198) (fun _ h9 => h9) rfl dX5_take_28 ?_
      refine lv_iconst (v := 1) hx hb dX5_take_31 (by decide) ?_
      refine lv_iadd hx hb dX5_take_32 ?_
      refine va_put (D := g.1) (ci := 5) (v := .int (v.2.2.1 + 1)) (ty := .int) (C := RX5) (T := TX5) (N := 4) hx hb hw0 ziX5 tyX5 tyX5_ok nmX5 hown hK.1 hP hD hS 0 rfl rfl 2 (by decide) (hw0 _ zm1_198) (fun _ h9 => h9) rfl (tyX5_ok 2 (by decide)) rfl rfl (Nat.le_of_ble_eq_true rfl) dX5_take_33 (fun H locs hP hD hS => ?_)
      have hP : va_P g.1 vwCl (zX5 g a (v.1, v.2.1, (v.2.2.1 + 1), v.2.2.2)) H := hP
      have hD : va_D A (zX5 g a (v.1, v.2.1, (v.2.2.1 + 1), v.2.2.2)) := hD
      refine lv_iload_n hx hb dX5_take_36 rfl (lv_at hl 0 rfl) ?_
      have hR : (true, (v.1, v.2.1, (v.2.2.1 + 1), v.2.2.2)) = r := Option.some.inj hf
      subst hR
      exact W.zret (v := zb true) hx hb hr0 (zb_nar true) (fun t ht hW => ⟨⟨zb true, (), rfl, rfl, by rw [ht]; exact hP, hD⟩, hS.F ht⟩) hS.2.2 dX5_take_37
theorem hd_X5_takeSemicolon : yX5_takeSemicolon.cls ≠ "java/lang/invoke/MethodHandle" ∧ yX5_takeSemicolon.cls ≠ "java/lang/invoke/VarHandle" ∧ (parseMethodDescriptor yX5_takeSemicolon.desc).map (fun d => d.parameters.length) = some 0 := by decide +kernel
def f_X5_takeSemicolon (v : TV) : Option (Bool × TV) :=
  (f_X5_take v 59).bind (fun u1 =>
  if (zb u1.1) = 0 then
    (f_X5_fail u1.2 u1.2.2.2.1).bind (fun u3 =>
    some (u1.1, u3))
  else
    some (u1.1, u1.2))
set_option maxHeartbeats 4000000 in
set_option maxRecDepth 100000 in
theorem c_X5_takeSemicolon (l : Launch) (g : zG) (a : Nat → Nat) (v : TV) (r : Bool × TV) (hf : f_X5_takeSemicolon v = some r) : zMi zNF zNM l yX5_takeSemicolon (zw yX5_takeSemicolon cX5_takeSemicolon 2 (some .boolean)) ({ frames := 2, cells := 0, slots := 0, locals := 42 } : Room) g [.ref (a 0)] (zX5 g a v) (zb r.1) (zX5 g a r.2) := by
  intro sz
  refine Met.ofW (cc := cX5_takeSemicolon) (maxL := 2) (ret := (some .boolean)) (by decide) rfl ?_
  intro p e s m args below meth c s₁ B hml hv
  obtain ⟨rfl, hsz, hP, hK, hD0⟩ := hv
  have hx := B.exec
  have hb := B.bytes
  have hr0 := B.returns
  have hts := atoms_spec (ws := (zw yX5_takeSemicolon cX5_takeSemicolon 2 (some .boolean))) B.pre
  have hw0 : ∀ w ∈ zW, w.before ([.ref (a 0)] : List Value).toArray s = true := fun w h => hts w (List.mem_cons_of_mem _ h)
  have hown : s.vm.findClass RX5 = some m.cls := findClass_of_methodNamed B.named
  have hlocks := B.notSynchronized
  subst hsz
  have hD := hD0.self (sz := s.heap.size)
  generalize hAe : va_A (zX5 g a v) s.heap.size = A at hD ⊢
  have hA : ∀ q : Nat, s.heap.size ≤ q → A q := fun q h => by rw [← hAe]; exact Or.inr h
  have hS : va_S A s.heap s.heap [] := va_S.rf
  unfold f_X5_takeSemicolon at hf
  have hl := lv_entry ([.ref (a 0)]) (n := 2) (Nat.le_of_ble_eq_true rfl)
  rw [lg_entry_eq]
  generalize (lg_sl ([.ref (a 0)]) ++ List.replicate (2 - (lg_sl ([.ref (a 0)])).length) Slot.unset).toArray = ls at hl ⊢
  have hl : lv_has ls 2 [(0, .ref (a 0))] := hl
  refine lv_aload_n hx hb dX5_takeSemicolon_0 rfl (lv_at hl 0 rfl) ?_
  refine lv_bipush (v := 59) hx hb dX5_takeSemicolon_1 (by decide) ?_
  obtain ⟨u1, hu1, hf⟩ := ob hf
  refine zk_iA (va_runV (As := [.int 59]) (rest := []) ⟨hx, hb, hml, hown, hts⟩ (c_X5_take l g a v 59 _ hu1 _) (zcV hw0 zm2_223 zm2_226 zm1_7 zm2_225 zs3_14 hd_X5_take rfl rfl ⟨Nat.le_of_ble_eq_true rfl, Nat.le_of_ble_eq_true rfl⟩) ⟨zblind, zrecvA hK hP (ci := 5) rfl rfl, zpreA hK hP hD⟩ rfl rfl hl.1 rfl (lv_room (Nat.le_of_ble_eq_true rfl)) dX5_takeSemicolon_3 ⟨Nat.zero_le _, Nat.zero_le _⟩) hP hD hS hA (fun H locs hP hD hS => ?_)
  have hP : va_P g.1 vwCl (zX5 g a u1.2) H := hP
  have hD : va_D A (zX5 g a u1.2) := hD
  refine lv_istore_n (lv' := [(1, .int (zb u1.1)), (0, .ref (a 0))]) hx hb dX5_takeSemicolon_6 rfl hl (by decide) rfl (fun ls hl => ?_)
  refine lv_iload_n hx hb dX5_takeSemicolon_7 rfl (lv_at hl 0 rfl) ?_
  refine lv_if_ne (tgt := 19) hx hb dX5_takeSemicolon_8 (by decide) (fun c2 => ?_) (fun c2 => ?_)
  · have hf := oe hf c2
    refine lv_iload_n hx hb dX5_takeSemicolon_19 rfl (lv_at hl 0 rfl) ?_
    have hR : (u1.1, u1.2) = r := Option.some.inj hf
    subst hR
    exact W.zret (v := zb u1.1) hx hb hr0 (zb_nar u1.1) (fun t ht hW => ⟨⟨zb u1.1, (), rfl, rfl, by rw [ht]; exact hP, hD⟩, hS.F ht⟩) hS.2.2 dX5_takeSemicolon_20
  · have hf := oi hf c2
    refine lv_aload_n hx hb dX5_takeSemicolon_11 rfl (lv_at hl 1 rfl) ?_
    refine lv_aload_n hx hb dX5_takeSemicolon_12 rfl (lv_at hl 1 rfl) ?_
    refine va_get (D := g.1) (ci := 5) (v := .int u1.2.2.2.1) (C := RX5) (T := TX5) (N := 4) hx hb hw0 ziX5 hown hK.1 hP 0 rfl rfl 2 (by decide) (hw0 _ zm1_198) (fun _ h9 => h9) rfl dX5_takeSemicolon_13 ?_
    obtain ⟨u3, hu3, hf⟩ := ob hf
    refine zk_vA (va_runV (As := [.int u1.2.2.2.1]) (rest := []) ⟨hx, hb, hml, hown, hts⟩ (c_X5_fail l g a u1.2 u1.2.2.2.1 _ hu3 _) (zcV hw0 zm2_219 zm2_222 zm1_7 zm2_221 zs3_13 hd_X5_fail rfl rfl ⟨Nat.le_of_ble_eq_true rfl, Nat.le_of_ble_eq_true rfl⟩) ⟨zblind, zrecvA hK hP (ci := 5) rfl rfl, zpreA hK hP hD⟩ rfl rfl hl.1 rfl (lv_room (Nat.le_of_ble_eq_true rfl)) dX5_takeSemicolon_16 ⟨Nat.zero_le _, Nat.zero_le _⟩) hP hD hS hA (fun H locs hP hD hS => ?_)
    have hP : va_P g.1 vwCl (zX5 g a u3) H := hP
    have hD : va_D A (zX5 g a u3) := hD
    refine lv_iload_n hx hb dX5_takeSemicolon_19 rfl (lv_at hl 0 rfl) ?_
    have hR : (u1.1, u3) = r := Option.some.inj hf
    subst hR
    exact W.zret (v := zb u1.1) hx hb hr0 (zb_nar u1.1) (fun t ht hW => ⟨⟨zb u1.1, (), rfl, rfl, by rw [ht]; exact hP, hD⟩, hS.F ht⟩) hS.2.2 dX5_takeSemicolon_20
theorem hd_X5_readElement : yX5_readElement.cls ≠ "java/lang/invoke/MethodHandle" ∧ yX5_readElement.cls ≠ "java/lang/invoke/VarHandle" ∧ (parseMethodDescriptor yX5_readElement.desc).map (fun d => d.parameters.length) = some 1 := by decide +kernel
def f_X5_readElement (v : TV) (w : EV) : Option (TV × EV) :=
  (f_X5_readNumber v 4 1 1800).bind (fun u1 =>
  (f_X5_take u1.2 64).bind (fun u2 =>
  if (zb u2.1) = 0 then
    (f_X5_take u2.2 114).bind (fun u4 =>
    if (zb u4.1) = 0 then
      (f_X5_takeSemicolon u4.2).bind (fun u6 =>
      if (zb u6.1) = 0 then
        some (u6.2, w)
      else
        (f_X0_add w u1.1 (-1) 5).bind (fun u8 =>
        some (u6.2, u8)))
    else
      (f_X5_readNumber u4.2 1 0 9).bind (fun u9 =>
      (f_X5_takeSemicolon u9.2).bind (fun u10 =>
      if (zb u10.1) = 0 then
        some (u10.2, w)
      else
        (f_X0_add w u1.1 (-1) u9.1).bind (fun u12 =>
        some (u10.2, u12)))))
  else
    (f_X5_readNumber u2.2 4 0 3599).bind (fun u13 =>
    (f_X5_take u13.2 114).bind (fun u14 =>
    if (zb u14.1) = 0 then
      (f_X5_takeSemicolon u14.2).bind (fun u16 =>
      if (zb u16.1) = 0 then
        some (u16.2, w)
      else
        (f_X0_add w u1.1 u13.1 5).bind (fun u18 =>
        some (u16.2, u18)))
    else
      (f_X5_readNumber u14.2 1 0 9).bind (fun u19 =>
      (f_X5_takeSemicolon u19.2).bind (fun u20 =>
      if (zb u20.1) = 0 then
        some (u20.2, w)
      else
        (f_X0_add w u1.1 u13.1 u19.1).bind (fun u22 =>
        some (u20.2, u22))))))))
set_option maxHeartbeats 4000000 in
set_option maxRecDepth 100000 in
theorem c_X5_readElement (l : Launch) (g : zG) (a : Nat → Nat) (b : Nat → Nat) (v : TV) (w : EV) (r : TV × EV) (hf : f_X5_readElement v w = some r) : zMv zNF zNM l yX5_readElement (zw yX5_readElement cX5_readElement 5 none) ({ frames := 3, cells := 0, slots := 0, locals := 63 } : Room) g [.ref (a 0), .ref (b 0)] (zX5 g a v ++ zX0 g b w) (zX5 g a r.1 ++ zX0 g b r.2) := by
  intro sz
  refine Met.ofW (cc := cX5_readElement) (maxL := 5) (ret := none) (by decide) rfl ?_
  intro p e s m args below meth c s₁ B hml hv
  obtain ⟨rfl, hsz, hP, hK, hD0⟩ := hv
  have hx := B.exec
  have hb := B.bytes
  have hr0 := B.returns
  have hts := atoms_spec (ws := (zw yX5_readElement cX5_readElement 5 none)) B.pre
  have hw0 : ∀ w ∈ zW, w.before ([.ref (a 0), .ref (b 0)] : List Value).toArray s = true := fun w h => hts w (List.mem_cons_of_mem _ h)
  have hown : s.vm.findClass RX5 = some m.cls := findClass_of_methodNamed B.named
  have hlocks := B.notSynchronized
  subst hsz
  have hD := hD0.self (sz := s.heap.size)
  generalize hAe : va_A (zX5 g a v ++ zX0 g b w) s.heap.size = A at hD ⊢
  have hA : ∀ q : Nat, s.heap.size ≤ q → A q := fun q h => by rw [← hAe]; exact Or.inr h
  have hS : va_S A s.heap s.heap [] := va_S.rf
  unfold f_X5_readElement at hf
  have hl := lv_entry ([.ref (a 0), .ref (b 0)]) (n := 5) (Nat.le_of_ble_eq_true rfl)
  rw [lg_entry_eq]
  generalize (lg_sl ([.ref (a 0), .ref (b 0)]) ++ List.replicate (5 - (lg_sl ([.ref (a 0), .ref (b 0)])).length) Slot.unset).toArray = ls at hl ⊢
  have hl : lv_has ls 5 [(0, .ref (a 0)), (1, .ref (b 0))] := hl
  refine lv_aload_n hx hb dX5_readElement_0 rfl (lv_at hl 0 rfl) ?_
  refine lv_iconst (v := 4) hx hb dX5_readElement_1 (by decide) ?_
  refine lv_iconst (v := 1) hx hb dX5_readElement_2 (by decide) ?_
  refine lv_sipush (v := 1800) hx hb dX5_readElement_3 (by decide) ?_
  obtain ⟨u1, hu1, hf⟩ := ob hf
  refine zk_i (va_runV (As := [.int 4, .int 1, .int 1800]) (rest := []) ⟨hx, hb, hml, hown, hts⟩ (c_X5_readNumber l g a v 4 1 1800 _ hu1 _) (zcV hw0 zm2_215 zm2_218 zm1_7 zm2_217 zs3_12 hd_X5_readNumber rfl rfl ⟨Nat.le_of_ble_eq_true rfl, Nat.le_of_ble_eq_true rfl⟩) ⟨zblind, zrecv (wc := zX5 g a v) hK hP [0, 1] rfl (ci := 5) rfl rfl, zpre hK hP hD [0, 1] rfl rfl⟩ rfl rfl hl.1 rfl (lv_room (Nat.le_of_ble_eq_true rfl)) dX5_readElement_6 ⟨Nat.zero_le _, Nat.zero_le _⟩) hP hD hS hA [0, 1] rfl rfl (fun H locs hP hD hS => ?_)
  have hP : va_P g.1 vwCl (zX5 g a u1.2 ++ zX0 g b w) H := hP
  have hD : va_D A (zX5 g a u1.2 ++ zX0 g b w) := hD
  refine lv_istore_n (lv' := [(2, .int u1.1), (0, .ref (a 0)), (1, .ref (b 0))]) hx hb dX5_readElement_9 rfl hl (by decide) rfl (fun ls hl => ?_)
  refine lv_aload_n hx hb dX5_readElement_10 rfl (lv_at hl 1 rfl) ?_
  refine lv_bipush (v := 64) hx hb dX5_readElement_11 (by decide) ?_
  obtain ⟨u2, hu2, hf⟩ := ob hf
  refine zk_i (va_runV (As := [.int 64]) (rest := []) ⟨hx, hb, hml, hown, hts⟩ (c_X5_take l g a u1.2 64 _ hu2 _) (zcV hw0 zm2_223 zm2_226 zm1_7 zm2_225 zs3_14 hd_X5_take rfl rfl ⟨Nat.le_of_ble_eq_true rfl, Nat.le_of_ble_eq_true rfl⟩) ⟨zblind, zrecv (wc := zX5 g a u1.2) hK hP [0, 1] rfl (ci := 5) rfl rfl, zpre hK hP hD [0, 1] rfl rfl⟩ rfl rfl hl.1 rfl (lv_room (Nat.le_of_ble_eq_true rfl)) dX5_readElement_13 ⟨Nat.zero_le _, Nat.zero_le _⟩) hP hD hS hA [0, 1] rfl rfl (fun H locs hP hD hS => ?_)
  have hP : va_P g.1 vwCl (zX5 g a u2.2 ++ zX0 g b w) H := hP
  have hD : va_D A (zX5 g a u2.2 ++ zX0 g b w) := hD
  refine lv_if_eq (tgt := 31) hx hb dX5_readElement_16 (by decide) (fun c3 => ?_) (fun c3 => ?_)
  · have hf := oi hf c3
    refine lv_iconst (v := (-1)) hx hb dX5_readElement_31 (by decide) ?_
    refine lv_istore_n (lv' := [(3, .int (-1)), (2, .int u1.1), (0, .ref (a 0)), (1, .ref (b 0))]) hx hb dX5_readElement_32 rfl hl (by decide) rfl (fun ls hl => ?_)
    refine lv_aload_n hx hb dX5_readElement_33 rfl (lv_at hl 2 rfl) ?_
    refine lv_bipush (v := 114) hx hb dX5_readElement_34 (by decide) ?_
    obtain ⟨u4, hu4, hf⟩ := ob hf
    refine zk_i (va_runV (As := [.int 114]) (rest := []) ⟨hx, hb, hml, hown, hts⟩ (c_X5_take l g a u2.2 114 _ hu4 _) (zcV hw0 zm2_223 zm2_226 zm1_7 zm2_225 zs3_14 hd_X5_take rfl rfl ⟨Nat.le_of_ble_eq_true rfl, Nat.le_of_ble_eq_true rfl⟩) ⟨zblind, zrecv (wc := zX5 g a u2.2) hK hP [0, 1] rfl (ci := 5) rfl rfl, zpre hK hP hD [0, 1] rfl rfl⟩ rfl rfl hl.1 rfl (lv_room (Nat.le_of_ble_eq_true rfl)) dX5_readElement_36 ⟨Nat.zero_le _, Nat.zero_le _⟩) hP hD hS hA [0, 1] rfl rfl (fun H locs hP hD hS => ?_)
    have hP : va_P g.1 vwCl (zX5 g a u4.2 ++ zX0 g b w) H := hP
    have hD : va_D A (zX5 g a u4.2 ++ zX0 g b w) := hD
    refine lv_if_eq (tgt := 53) hx hb dX5_readElement_39 (by decide) (fun c5 => ?_) (fun c5 => ?_)
    · have hf := oi hf c5
      refine lv_iconst (v := 5) hx hb dX5_readElement_53 (by decide) ?_
      refine lv_istore (lv' := [(4, .int 5), (3, .int (-1)), (2, .int u1.1), (0, .ref (a 0)), (1, .ref (b 0))]) hx hb dX5_readElement_54 hl (by decide) rfl (fun ls hl => ?_)
      refine lv_aload_n hx hb dX5_readElement_56 rfl (lv_at hl 3 rfl) ?_
      obtain ⟨u6, hu6, hf⟩ := ob hf
      refine zk_i (va_runV (As := []) (rest := []) ⟨hx, hb, hml, hown, hts⟩ (c_X5_takeSemicolon l g a u4.2 _ hu6 _) (zcV hw0 zm2_227 zm2_230 zm1_7 zm2_229 zs3_15 hd_X5_takeSemicolon rfl rfl ⟨Nat.le_of_ble_eq_true rfl, Nat.le_of_ble_eq_true rfl⟩) ⟨zblind, zrecv (wc := zX5 g a u4.2) hK hP [0, 1] rfl (ci := 5) rfl rfl, zpre hK hP hD [0, 1] rfl rfl⟩ rfl rfl hl.1 rfl (lv_room (Nat.le_of_ble_eq_true rfl)) dX5_readElement_57 ⟨Nat.zero_le _, Nat.zero_le _⟩) hP hD hS hA [0, 1] rfl rfl (fun H locs hP hD hS => ?_)
      have hP : va_P g.1 vwCl (zX5 g a u6.2 ++ zX0 g b w) H := hP
      have hD : va_D A (zX5 g a u6.2 ++ zX0 g b w) := hD
      refine lv_if_eq (tgt := 71) hx hb dX5_readElement_60 (by decide) (fun c7 => ?_) (fun c7 => ?_)
      · have hf := oi hf c7
        have hR : (u6.2, w) = r := Option.some.inj hf
        subst hR
        exact W.vret hx hb hr0 (fun t ht hW => ⟨⟨(), rfl, trivial, by rw [ht]; exact hP, hD⟩, hS.F ht⟩) hS.2.2 dX5_readElement_71
      · have hf := oe hf c7
        refine lv_aload_n hx hb dX5_readElement_63 rfl (lv_at hl 4 rfl) ?_
        refine lv_iload_n hx hb dX5_readElement_64 rfl (lv_at hl 2 rfl) ?_
        refine lv_iload_n hx hb dX5_readElement_65 rfl (lv_at hl 1 rfl) ?_
        refine lv_iload hx hb dX5_readElement_66 (lv_at hl 0 rfl) ?_
        obtain ⟨u8, hu8, hf⟩ := ob hf
        refine zk_v (va_runVN (As := [.int u1.1, .int (-1), .int 5]) (rest := []) ⟨hx, hb, hml, hown, hts⟩ (c_X0_add l g b w u1.1 (-1) 5 _ hu8 _) (zcN hw0 (zn_32 hK) zm2_234 zm1_3 zm2_233 zs4_0 hd_X0_add rfl rfl ⟨Nat.le_of_ble_eq_true rfl, Nat.le_of_ble_eq_true rfl⟩) ⟨zblind, zrecv (wc := zX0 g b w) hK hP [2, 3, 4, 5, 6, 7] rfl (ci := 0) rfl rfl, zpre hK hP hD [2, 3, 4, 5, 6, 7] rfl rfl⟩ rfl rfl hl.1 rfl (lv_room (Nat.le_of_ble_eq_true rfl)) dX5_readElement_68 ⟨Nat.zero_le _, Nat.zero_le _⟩) hP hD hS hA [2, 3, 4, 5, 6, 7] rfl rfl (fun H locs hP hD hS => ?_)
        have hP : va_P g.1 vwCl (zX5 g a u6.2 ++ zX0 g b u8) H := hP
        have hD : va_D A (zX5 g a u6.2 ++ zX0 g b u8) := hD
        have hR : (u6.2, u8) = r := Option.some.inj hf
        subst hR
        exact W.vret hx hb hr0 (fun t ht hW => ⟨⟨(), rfl, trivial, by rw [ht]; exact hP, hD⟩, hS.F ht⟩) hS.2.2 dX5_readElement_71
    · have hf := oe hf c5
      refine lv_aload_n hx hb dX5_readElement_42 rfl (lv_at hl 2 rfl) ?_
      refine lv_iconst (v := 1) hx hb dX5_readElement_43 (by decide) ?_
      refine lv_iconst (v := 0) hx hb dX5_readElement_44 (by decide) ?_
      refine lv_bipush (v := 9) hx hb dX5_readElement_45 (by decide) ?_
      obtain ⟨u9, hu9, hf⟩ := ob hf
      refine zk_i (va_runV (As := [.int 1, .int 0, .int 9]) (rest := []) ⟨hx, hb, hml, hown, hts⟩ (c_X5_readNumber l g a u4.2 1 0 9 _ hu9 _) (zcV hw0 zm2_215 zm2_218 zm1_7 zm2_217 zs3_12 hd_X5_readNumber rfl rfl ⟨Nat.le_of_ble_eq_true rfl, Nat.le_of_ble_eq_true rfl⟩) ⟨zblind, zrecv (wc := zX5 g a u4.2) hK hP [0, 1] rfl (ci := 5) rfl rfl, zpre hK hP hD [0, 1] rfl rfl⟩ rfl rfl hl.1 rfl (lv_room (Nat.le_of_ble_eq_true rfl)) dX5_readElement_47 ⟨Nat.zero_le _, Nat.zero_le _⟩) hP hD hS hA [0, 1] rfl rfl (fun H locs hP hD hS => ?_)
      have hP : va_P g.1 vwCl (zX5 g a u9.2 ++ zX0 g b w) H := hP
      have hD : va_D A (zX5 g a u9.2 ++ zX0 g b w) := hD
      refine lv_goto (tgt := 54) hx hb dX5_readElement_50 (by decide) ?_
      refine lv_istore (lv' := [(4, .int u9.1), (3, .int (-1)), (2, .int u1.1), (0, .ref (a 0)), (1, .ref (b 0))]) hx hb dX5_readElement_54 hl (by decide) rfl (fun ls hl => ?_)
      refine lv_aload_n hx hb dX5_readElement_56 rfl (lv_at hl 3 rfl) ?_
      obtain ⟨u10, hu10, hf⟩ := ob hf
      refine zk_i (va_runV (As := []) (rest := []) ⟨hx, hb, hml, hown, hts⟩ (c_X5_takeSemicolon l g a u9.2 _ hu10 _) (zcV hw0 zm2_227 zm2_230 zm1_7 zm2_229 zs3_15 hd_X5_takeSemicolon rfl rfl ⟨Nat.le_of_ble_eq_true rfl, Nat.le_of_ble_eq_true rfl⟩) ⟨zblind, zrecv (wc := zX5 g a u9.2) hK hP [0, 1] rfl (ci := 5) rfl rfl, zpre hK hP hD [0, 1] rfl rfl⟩ rfl rfl hl.1 rfl (lv_room (Nat.le_of_ble_eq_true rfl)) dX5_readElement_57 ⟨Nat.zero_le _, Nat.zero_le _⟩) hP hD hS hA [0, 1] rfl rfl (fun H locs hP hD hS => ?_)
      have hP : va_P g.1 vwCl (zX5 g a u10.2 ++ zX0 g b w) H := hP
      have hD : va_D A (zX5 g a u10.2 ++ zX0 g b w) := hD
      refine lv_if_eq (tgt := 71) hx hb dX5_readElement_60 (by decide) (fun c11 => ?_) (fun c11 => ?_)
      · have hf := oi hf c11
        have hR : (u10.2, w) = r := Option.some.inj hf
        subst hR
        exact W.vret hx hb hr0 (fun t ht hW => ⟨⟨(), rfl, trivial, by rw [ht]; exact hP, hD⟩, hS.F ht⟩) hS.2.2 dX5_readElement_71
      · have hf := oe hf c11
        refine lv_aload_n hx hb dX5_readElement_63 rfl (lv_at hl 4 rfl) ?_
        refine lv_iload_n hx hb dX5_readElement_64 rfl (lv_at hl 2 rfl) ?_
        refine lv_iload_n hx hb dX5_readElement_65 rfl (lv_at hl 1 rfl) ?_
        refine lv_iload hx hb dX5_readElement_66 (lv_at hl 0 rfl) ?_
        obtain ⟨u12, hu12, hf⟩ := ob hf
        refine zk_v (va_runVN (As := [.int u1.1, .int (-1), .int u9.1]) (rest := []) ⟨hx, hb, hml, hown, hts⟩ (c_X0_add l g b w u1.1 (-1) u9.1 _ hu12 _) (zcN hw0 (zn_32 hK) zm2_234 zm1_3 zm2_233 zs4_0 hd_X0_add rfl rfl ⟨Nat.le_of_ble_eq_true rfl, Nat.le_of_ble_eq_true rfl⟩) ⟨zblind, zrecv (wc := zX0 g b w) hK hP [2, 3, 4, 5, 6, 7] rfl (ci := 0) rfl rfl, zpre hK hP hD [2, 3, 4, 5, 6, 7] rfl rfl⟩ rfl rfl hl.1 rfl (lv_room (Nat.le_of_ble_eq_true rfl)) dX5_readElement_68 ⟨Nat.zero_le _, Nat.zero_le _⟩) hP hD hS hA [2, 3, 4, 5, 6, 7] rfl rfl (fun H locs hP hD hS => ?_)
        have hP : va_P g.1 vwCl (zX5 g a u10.2 ++ zX0 g b u12) H := hP
        have hD : va_D A (zX5 g a u10.2 ++ zX0 g b u12) := hD
        have hR : (u10.2, u12) = r := Option.some.inj hf
        subst hR
        exact W.vret hx hb hr0 (fun t ht hW => ⟨⟨(), rfl, trivial, by rw [ht]; exact hP, hD⟩, hS.F ht⟩) hS.2.2 dX5_readElement_71
  · have hf := oe hf c3
    refine lv_aload_n hx hb dX5_readElement_19 rfl (lv_at hl 1 rfl) ?_
    refine lv_iconst (v := 4) hx hb dX5_readElement_20 (by decide) ?_
    refine lv_iconst (v := 0) hx hb dX5_readElement_21 (by decide) ?_
    refine lv_sipush (v := 3599) hx hb dX5_readElement_22 (by decide) ?_
    obtain ⟨u13, hu13, hf⟩ := ob hf
    refine zk_i (va_runV (As := [.int 4, .int 0, .int 3599]) (rest := []) ⟨hx, hb, hml, hown, hts⟩ (c_X5_readNumber l g a u2.2 4 0 3599 _ hu13 _) (zcV hw0 zm2_215 zm2_218 zm1_7 zm2_217 zs3_12 hd_X5_readNumber rfl rfl ⟨Nat.le_of_ble_eq_true rfl, Nat.le_of_ble_eq_true rfl⟩) ⟨zblind, zrecv (wc := zX5 g a u2.2) hK hP [0, 1] rfl (ci := 5) rfl rfl, zpre hK hP hD [0, 1] rfl rfl⟩ rfl rfl hl.1 rfl (lv_room (Nat.le_of_ble_eq_true rfl)) dX5_readElement_25 ⟨Nat.zero_le _, Nat.zero_le _⟩) hP hD hS hA [0, 1] rfl rfl (fun H locs hP hD hS => ?_)
    have hP : va_P g.1 vwCl (zX5 g a u13.2 ++ zX0 g b w) H := hP
    have hD : va_D A (zX5 g a u13.2 ++ zX0 g b w) := hD
    refine lv_goto (tgt := 32) hx hb dX5_readElement_28 (by decide) ?_
    refine lv_istore_n (lv' := [(3, .int u13.1), (2, .int u1.1), (0, .ref (a 0)), (1, .ref (b 0))]) hx hb dX5_readElement_32 rfl hl (by decide) rfl (fun ls hl => ?_)
    refine lv_aload_n hx hb dX5_readElement_33 rfl (lv_at hl 2 rfl) ?_
    refine lv_bipush (v := 114) hx hb dX5_readElement_34 (by decide) ?_
    obtain ⟨u14, hu14, hf⟩ := ob hf
    refine zk_i (va_runV (As := [.int 114]) (rest := []) ⟨hx, hb, hml, hown, hts⟩ (c_X5_take l g a u13.2 114 _ hu14 _) (zcV hw0 zm2_223 zm2_226 zm1_7 zm2_225 zs3_14 hd_X5_take rfl rfl ⟨Nat.le_of_ble_eq_true rfl, Nat.le_of_ble_eq_true rfl⟩) ⟨zblind, zrecv (wc := zX5 g a u13.2) hK hP [0, 1] rfl (ci := 5) rfl rfl, zpre hK hP hD [0, 1] rfl rfl⟩ rfl rfl hl.1 rfl (lv_room (Nat.le_of_ble_eq_true rfl)) dX5_readElement_36 ⟨Nat.zero_le _, Nat.zero_le _⟩) hP hD hS hA [0, 1] rfl rfl (fun H locs hP hD hS => ?_)
    have hP : va_P g.1 vwCl (zX5 g a u14.2 ++ zX0 g b w) H := hP
    have hD : va_D A (zX5 g a u14.2 ++ zX0 g b w) := hD
    refine lv_if_eq (tgt := 53) hx hb dX5_readElement_39 (by decide) (fun c15 => ?_) (fun c15 => ?_)
    · have hf := oi hf c15
      refine lv_iconst (v := 5) hx hb dX5_readElement_53 (by decide) ?_
      refine lv_istore (lv' := [(4, .int 5), (3, .int u13.1), (2, .int u1.1), (0, .ref (a 0)), (1, .ref (b 0))]) hx hb dX5_readElement_54 hl (by decide) rfl (fun ls hl => ?_)
      refine lv_aload_n hx hb dX5_readElement_56 rfl (lv_at hl 3 rfl) ?_
      obtain ⟨u16, hu16, hf⟩ := ob hf
      refine zk_i (va_runV (As := []) (rest := []) ⟨hx, hb, hml, hown, hts⟩ (c_X5_takeSemicolon l g a u14.2 _ hu16 _) (zcV hw0 zm2_227 zm2_230 zm1_7 zm2_229 zs3_15 hd_X5_takeSemicolon rfl rfl ⟨Nat.le_of_ble_eq_true rfl, Nat.le_of_ble_eq_true rfl⟩) ⟨zblind, zrecv (wc := zX5 g a u14.2) hK hP [0, 1] rfl (ci := 5) rfl rfl, zpre hK hP hD [0, 1] rfl rfl⟩ rfl rfl hl.1 rfl (lv_room (Nat.le_of_ble_eq_true rfl)) dX5_readElement_57 ⟨Nat.zero_le _, Nat.zero_le _⟩) hP hD hS hA [0, 1] rfl rfl (fun H locs hP hD hS => ?_)
      have hP : va_P g.1 vwCl (zX5 g a u16.2 ++ zX0 g b w) H := hP
      have hD : va_D A (zX5 g a u16.2 ++ zX0 g b w) := hD
      refine lv_if_eq (tgt := 71) hx hb dX5_readElement_60 (by decide) (fun c17 => ?_) (fun c17 => ?_)
      · have hf := oi hf c17
        have hR : (u16.2, w) = r := Option.some.inj hf
        subst hR
        exact W.vret hx hb hr0 (fun t ht hW => ⟨⟨(), rfl, trivial, by rw [ht]; exact hP, hD⟩, hS.F ht⟩) hS.2.2 dX5_readElement_71
      · have hf := oe hf c17
        refine lv_aload_n hx hb dX5_readElement_63 rfl (lv_at hl 4 rfl) ?_
        refine lv_iload_n hx hb dX5_readElement_64 rfl (lv_at hl 2 rfl) ?_
        refine lv_iload_n hx hb dX5_readElement_65 rfl (lv_at hl 1 rfl) ?_
        refine lv_iload hx hb dX5_readElement_66 (lv_at hl 0 rfl) ?_
        obtain ⟨u18, hu18, hf⟩ := ob hf
        refine zk_v (va_runVN (As := [.int u1.1, .int u13.1, .int 5]) (rest := []) ⟨hx, hb, hml, hown, hts⟩ (c_X0_add l g b w u1.1 u13.1 5 _ hu18 _) (zcN hw0 (zn_32 hK) zm2_234 zm1_3 zm2_233 zs4_0 hd_X0_add rfl rfl ⟨Nat.le_of_ble_eq_true rfl, Nat.le_of_ble_eq_true rfl⟩) ⟨zblind, zrecv (wc := zX0 g b w) hK hP [2, 3, 4, 5, 6, 7] rfl (ci := 0) rfl rfl, zpre hK hP hD [2, 3, 4, 5, 6, 7] rfl rfl⟩ rfl rfl hl.1 rfl (lv_room (Nat.le_of_ble_eq_true rfl)) dX5_readElement_68 ⟨Nat.zero_le _, Nat.zero_le _⟩) hP hD hS hA [2, 3, 4, 5, 6, 7] rfl rfl (fun H locs hP hD hS => ?_)
        have hP : va_P g.1 vwCl (zX5 g a u16.2 ++ zX0 g b u18) H := hP
        have hD : va_D A (zX5 g a u16.2 ++ zX0 g b u18) := hD
        have hR : (u16.2, u18) = r := Option.some.inj hf
        subst hR
        exact W.vret hx hb hr0 (fun t ht hW => ⟨⟨(), rfl, trivial, by rw [ht]; exact hP, hD⟩, hS.F ht⟩) hS.2.2 dX5_readElement_71
    · have hf := oe hf c15
      refine lv_aload_n hx hb dX5_readElement_42 rfl (lv_at hl 2 rfl) ?_
      refine lv_iconst (v := 1) hx hb dX5_readElement_43 (by decide) ?_
      refine lv_iconst (v := 0) hx hb dX5_readElement_44 (by decide) ?_
      refine lv_bipush (v := 9) hx hb dX5_readElement_45 (by decide) ?_
      obtain ⟨u19, hu19, hf⟩ := ob hf
      refine zk_i (va_runV (As := [.int 1, .int 0, .int 9]) (rest := []) ⟨hx, hb, hml, hown, hts⟩ (c_X5_readNumber l g a u14.2 1 0 9 _ hu19 _) (zcV hw0 zm2_215 zm2_218 zm1_7 zm2_217 zs3_12 hd_X5_readNumber rfl rfl ⟨Nat.le_of_ble_eq_true rfl, Nat.le_of_ble_eq_true rfl⟩) ⟨zblind, zrecv (wc := zX5 g a u14.2) hK hP [0, 1] rfl (ci := 5) rfl rfl, zpre hK hP hD [0, 1] rfl rfl⟩ rfl rfl hl.1 rfl (lv_room (Nat.le_of_ble_eq_true rfl)) dX5_readElement_47 ⟨Nat.zero_le _, Nat.zero_le _⟩) hP hD hS hA [0, 1] rfl rfl (fun H locs hP hD hS => ?_)
      have hP : va_P g.1 vwCl (zX5 g a u19.2 ++ zX0 g b w) H := hP
      have hD : va_D A (zX5 g a u19.2 ++ zX0 g b w) := hD
      refine lv_goto (tgt := 54) hx hb dX5_readElement_50 (by decide) ?_
      refine lv_istore (lv' := [(4, .int u19.1), (3, .int u13.1), (2, .int u1.1), (0, .ref (a 0)), (1, .ref (b 0))]) hx hb dX5_readElement_54 hl (by decide) rfl (fun ls hl => ?_)
      refine lv_aload_n hx hb dX5_readElement_56 rfl (lv_at hl 3 rfl) ?_
      obtain ⟨u20, hu20, hf⟩ := ob hf
      refine zk_i (va_runV (As := []) (rest := []) ⟨hx, hb, hml, hown, hts⟩ (c_X5_takeSemicolon l g a u19.2 _ hu20 _) (zcV hw0 zm2_227 zm2_230 zm1_7 zm2_229 zs3_15 hd_X5_takeSemicolon rfl rfl ⟨Nat.le_of_ble_eq_true rfl, Nat.le_of_ble_eq_true rfl⟩) ⟨zblind, zrecv (wc := zX5 g a u19.2) hK hP [0, 1] rfl (ci := 5) rfl rfl, zpre hK hP hD [0, 1] rfl rfl⟩ rfl rfl hl.1 rfl (lv_room (Nat.le_of_ble_eq_true rfl)) dX5_readElement_57 ⟨Nat.zero_le _, Nat.zero_le _⟩) hP hD hS hA [0, 1] rfl rfl (fun H locs hP hD hS => ?_)
      have hP : va_P g.1 vwCl (zX5 g a u20.2 ++ zX0 g b w) H := hP
      have hD : va_D A (zX5 g a u20.2 ++ zX0 g b w) := hD
      refine lv_if_eq (tgt := 71) hx hb dX5_readElement_60 (by decide) (fun c21 => ?_) (fun c21 => ?_)
      · have hf := oi hf c21
        have hR : (u20.2, w) = r := Option.some.inj hf
        subst hR
        exact W.vret hx hb hr0 (fun t ht hW => ⟨⟨(), rfl, trivial, by rw [ht]; exact hP, hD⟩, hS.F ht⟩) hS.2.2 dX5_readElement_71
      · have hf := oe hf c21
        refine lv_aload_n hx hb dX5_readElement_63 rfl (lv_at hl 4 rfl) ?_
        refine lv_iload_n hx hb dX5_readElement_64 rfl (lv_at hl 2 rfl) ?_
        refine lv_iload_n hx hb dX5_readElement_65 rfl (lv_at hl 1 rfl) ?_
        refine lv_iload hx hb dX5_readElement_66 (lv_at hl 0 rfl) ?_
        obtain ⟨u22, hu22, hf⟩ := ob hf
        refine zk_v (va_runVN (As := [.int u1.1, .int u13.1, .int u19.1]) (rest := []) ⟨hx, hb, hml, hown, hts⟩ (c_X0_add l g b w u1.1 u13.1 u19.1 _ hu22 _) (zcN hw0 (zn_32 hK) zm2_234 zm1_3 zm2_233 zs4_0 hd_X0_add rfl rfl ⟨Nat.le_of_ble_eq_true rfl, Nat.le_of_ble_eq_true rfl⟩) ⟨zblind, zrecv (wc := zX0 g b w) hK hP [2, 3, 4, 5, 6, 7] rfl (ci := 0) rfl rfl, zpre hK hP hD [2, 3, 4, 5, 6, 7] rfl rfl⟩ rfl rfl hl.1 rfl (lv_room (Nat.le_of_ble_eq_true rfl)) dX5_readElement_68 ⟨Nat.zero_le _, Nat.zero_le _⟩) hP hD hS hA [2, 3, 4, 5, 6, 7] rfl rfl (fun H locs hP hD hS => ?_)
        have hP : va_P g.1 vwCl (zX5 g a u20.2 ++ zX0 g b u22) H := hP
        have hD : va_D A (zX5 g a u20.2 ++ zX0 g b u22) := hD
        have hR : (u20.2, u22) = r := Option.some.inj hf
        subst hR
        exact W.vret hx hb hr0 (fun t ht hW => ⟨⟨(), rfl, trivial, by rw [ht]; exact hP, hD⟩, hS.F ht⟩) hS.2.2 dX5_readElement_71
theorem hd_X5_readFiller : yX5_readFiller.cls ≠ "java/lang/invoke/MethodHandle" ∧ yX5_readFiller.cls ≠ "java/lang/invoke/VarHandle" ∧ (parseMethodDescriptor yX5_readFiller.desc).map (fun d => d.parameters.length) = some 1 := by decide +kernel
def f_X5_readFiller (v : TV) (w : FV) : Option (TV × FV) :=
  (f_X5_readNumber v 3 1 900).bind (fun u1 =>
  (f_X5_takeSemicolon u1.2).bind (fun u2 =>
  if (zb u2.1) = 0 then
    some (u2.2, w)
  else
    (f_X1_add w u1.1).bind (fun u4 =>
    some (u2.2, u4))))
set_option maxHeartbeats 4000000 in
set_option maxRecDepth 100000 in
theorem c_X5_readFiller (l : Launch) (g : zG) (a : Nat → Nat) (b : Nat → Nat) (v : TV) (w : FV) (r : TV × FV) (hf : f_X5_readFiller v w = some r) : zMv zNF zNM l yX5_readFiller (zw yX5_readFiller cX5_readFiller 3 none) ({ frames := 3, cells := 0, slots := 0, locals := 63 } : Room) g [.ref (a 0), .ref (b 0)] (zX5 g a v ++ zX1 g b w) (zX5 g a r.1 ++ zX1 g b r.2) := by
  intro sz
  refine Met.ofW (cc := cX5_readFiller) (maxL := 3) (ret := none) (by decide) rfl ?_
  intro p e s m args below meth c s₁ B hml hv
  obtain ⟨rfl, hsz, hP, hK, hD0⟩ := hv
  have hx := B.exec
  have hb := B.bytes
  have hr0 := B.returns
  have hts := atoms_spec (ws := (zw yX5_readFiller cX5_readFiller 3 none)) B.pre
  have hw0 : ∀ w ∈ zW, w.before ([.ref (a 0), .ref (b 0)] : List Value).toArray s = true := fun w h => hts w (List.mem_cons_of_mem _ h)
  have hown : s.vm.findClass RX5 = some m.cls := findClass_of_methodNamed B.named
  have hlocks := B.notSynchronized
  subst hsz
  have hD := hD0.self (sz := s.heap.size)
  generalize hAe : va_A (zX5 g a v ++ zX1 g b w) s.heap.size = A at hD ⊢
  have hA : ∀ q : Nat, s.heap.size ≤ q → A q := fun q h => by rw [← hAe]; exact Or.inr h
  have hS : va_S A s.heap s.heap [] := va_S.rf
  unfold f_X5_readFiller at hf
  have hl := lv_entry ([.ref (a 0), .ref (b 0)]) (n := 3) (Nat.le_of_ble_eq_true rfl)
  rw [lg_entry_eq]
  generalize (lg_sl ([.ref (a 0), .ref (b 0)]) ++ List.replicate (3 - (lg_sl ([.ref (a 0), .ref (b 0)])).length) Slot.unset).toArray = ls at hl ⊢
  have hl : lv_has ls 3 [(0, .ref (a 0)), (1, .ref (b 0))] := hl
  refine lv_aload_n hx hb dX5_readFiller_0 rfl (lv_at hl 0 rfl) ?_
  refine lv_iconst (v := 3) hx hb dX5_readFiller_1 (by decide) ?_
  refine lv_iconst (v := 1) hx hb dX5_readFiller_2 (by decide) ?_
  refine lv_sipush (v := 900) hx hb dX5_readFiller_3 (by decide) ?_
  obtain ⟨u1, hu1, hf⟩ := ob hf
  refine zk_i (va_runV (As := [.int 3, .int 1, .int 900]) (rest := []) ⟨hx, hb, hml, hown, hts⟩ (c_X5_readNumber l g a v 3 1 900 _ hu1 _) (zcV hw0 zm2_215 zm2_218 zm1_7 zm2_217 zs3_12 hd_X5_readNumber rfl rfl ⟨Nat.le_of_ble_eq_true rfl, Nat.le_of_ble_eq_true rfl⟩) ⟨zblind, zrecv (wc := zX5 g a v) hK hP [0, 1] rfl (ci := 5) rfl rfl, zpre hK hP hD [0, 1] rfl rfl⟩ rfl rfl hl.1 rfl (lv_room (Nat.le_of_ble_eq_true rfl)) dX5_readFiller_6 ⟨Nat.zero_le _, Nat.zero_le _⟩) hP hD hS hA [0, 1] rfl rfl (fun H locs hP hD hS => ?_)
  have hP : va_P g.1 vwCl (zX5 g a u1.2 ++ zX1 g b w) H := hP
  have hD : va_D A (zX5 g a u1.2 ++ zX1 g b w) := hD
  refine lv_istore_n (lv' := [(2, .int u1.1), (0, .ref (a 0)), (1, .ref (b 0))]) hx hb dX5_readFiller_9 rfl hl (by decide) rfl (fun ls hl => ?_)
  refine lv_aload_n hx hb dX5_readFiller_10 rfl (lv_at hl 1 rfl) ?_
  obtain ⟨u2, hu2, hf⟩ := ob hf
  refine zk_i (va_runV (As := []) (rest := []) ⟨hx, hb, hml, hown, hts⟩ (c_X5_takeSemicolon l g a u1.2 _ hu2 _) (zcV hw0 zm2_227 zm2_230 zm1_7 zm2_229 zs3_15 hd_X5_takeSemicolon rfl rfl ⟨Nat.le_of_ble_eq_true rfl, Nat.le_of_ble_eq_true rfl⟩) ⟨zblind, zrecv (wc := zX5 g a u1.2) hK hP [0, 1] rfl (ci := 5) rfl rfl, zpre hK hP hD [0, 1] rfl rfl⟩ rfl rfl hl.1 rfl (lv_room (Nat.le_of_ble_eq_true rfl)) dX5_readFiller_11 ⟨Nat.zero_le _, Nat.zero_le _⟩) hP hD hS hA [0, 1] rfl rfl (fun H locs hP hD hS => ?_)
  have hP : va_P g.1 vwCl (zX5 g a u2.2 ++ zX1 g b w) H := hP
  have hD : va_D A (zX5 g a u2.2 ++ zX1 g b w) := hD
  refine lv_if_eq (tgt := 22) hx hb dX5_readFiller_14 (by decide) (fun c3 => ?_) (fun c3 => ?_)
  · have hf := oi hf c3
    have hR : (u2.2, w) = r := Option.some.inj hf
    subst hR
    exact W.vret hx hb hr0 (fun t ht hW => ⟨⟨(), rfl, trivial, by rw [ht]; exact hP, hD⟩, hS.F ht⟩) hS.2.2 dX5_readFiller_22
  · have hf := oe hf c3
    refine lv_aload_n hx hb dX5_readFiller_17 rfl (lv_at hl 2 rfl) ?_
    refine lv_iload_n hx hb dX5_readFiller_18 rfl (lv_at hl 0 rfl) ?_
    obtain ⟨u4, hu4, hf⟩ := ob hf
    refine zk_v (va_runVN (As := [.int u1.1]) (rest := []) ⟨hx, hb, hml, hown, hts⟩ (c_X1_add l g b w u1.1 _ hu4 _) (zcN hw0 (zn_33 hK) zm3_2 zm1_4 zm3_1 zs4_2 hd_X1_add rfl rfl ⟨Nat.le_of_ble_eq_true rfl, Nat.le_of_ble_eq_true rfl⟩) ⟨zblind, zrecv (wc := zX1 g b w) hK hP [2, 3, 4, 5, 6, 7, 8] rfl (ci := 1) rfl rfl, zpre hK hP hD [2, 3, 4, 5, 6, 7, 8] rfl rfl⟩ rfl rfl hl.1 rfl (lv_room (Nat.le_of_ble_eq_true rfl)) dX5_readFiller_19 ⟨Nat.zero_le _, Nat.zero_le _⟩) hP hD hS hA [2, 3, 4, 5, 6, 7, 8] rfl rfl (fun H locs hP hD hS => ?_)
    have hP : va_P g.1 vwCl (zX5 g a u2.2 ++ zX1 g b u4) H := hP
    have hD : va_D A (zX5 g a u2.2 ++ zX1 g b u4) := hD
    have hR : (u2.2, u4) = r := Option.some.inj hf
    subst hR
    exact W.vret hx hb hr0 (fun t ht hW => ⟨⟨(), rfl, trivial, by rw [ht]; exact hP, hD⟩, hS.F ht⟩) hS.2.2 dX5_readFiller_22
theorem hd_X5_readItem : yX5_readItem.cls ≠ "java/lang/invoke/MethodHandle" ∧ yX5_readItem.cls ≠ "java/lang/invoke/VarHandle" ∧ (parseMethodDescriptor yX5_readItem.desc).map (fun d => d.parameters.length) = some 1 := by decide +kernel
def f_X5_readItem (v : TV) (w : HV) : Option (TV × HV) :=
  (f_X5_here v).bind (fun u1 =>
  (f_X5_isDigit v u1).bind (fun u2 =>
  if (zb u2) = 0 then
    if 10 ≤ w.2.1.1 then
      (f_X5_fail v v.2.2.1).bind (fun u5 =>
      some (u5, w))
    else
      (f_X5_take v 43).bind (fun u6 =>
      if (zb u6.1) = 0 then
        (f_X5_fail u6.2 u6.2.2.2.1).bind (fun u8 =>
        some (u8, w))
      else
        (f_X5_readFiller u6.2 w.2.1).bind (fun u9 =>
        some (u9.1, (w.1, u9.2, w.2.2.1, w.2.2.2.1, w.2.2.2.2.1, w.2.2.2.2.2.1, w.2.2.2.2.2.2.1, w.2.2.2.2.2.2.2.1, w.2.2.2.2.2.2.2.2.1, w.2.2.2.2.2.2.2.2.2.1, w.2.2.2.2.2.2.2.2.2.2))))
  else
    if 12 ≤ w.1.1 then
      if 10 ≤ w.2.1.1 then
        (f_X5_fail v v.2.2.1).bind (fun u12 =>
        some (u12, w))
      else
        (f_X5_take v 43).bind (fun u13 =>
        if (zb u13.1) = 0 then
          (f_X5_fail u13.2 u13.2.2.2.1).bind (fun u15 =>
          some (u15, w))
        else
          (f_X5_readFiller u13.2 w.2.1).bind (fun u16 =>
          some (u16.1, (w.1, u16.2, w.2.2.1, w.2.2.2.1, w.2.2.2.2.1, w.2.2.2.2.2.1, w.2.2.2.2.2.2.1, w.2.2.2.2.2.2.2.1, w.2.2.2.2.2.2.2.2.1, w.2.2.2.2.2.2.2.2.2.1, w.2.2.2.2.2.2.2.2.2.2))))
    else
      (f_X5_readElement v w.1).bind (fun u17 =>
      some (u17.1, (u17.2, w.2.1, w.2.2.1, w.2.2.2.1, w.2.2.2.2.1, w.2.2.2.2.2.1, w.2.2.2.2.2.2.1, w.2.2.2.2.2.2.2.1, w.2.2.2.2.2.2.2.2.1, w.2.2.2.2.2.2.2.2.2.1, w.2.2.2.2.2.2.2.2.2.2)))))
set_option maxHeartbeats 4000000 in
set_option maxRecDepth 100000 in
theorem c_X5_readItem (l : Launch) (g : zG) (a : Nat → Nat) (b : Nat → Nat) (v : TV) (w : HV) (r : TV × HV) (hf : f_X5_readItem v w = some r) : zMv zNF zNM l yX5_readItem (zw yX5_readItem cX5_readItem 2 none) ({ frames := 4, cells := 0, slots := 0, locals := 87 } : Room) g [.ref (a 0), .ref (b 0)] (zX5 g a v ++ zX2 g b w) (zX5 g a r.1 ++ zX2 g b r.2) := by
  intro sz
  refine Met.ofW (cc := cX5_readItem) (maxL := 2) (ret := none) (by decide) rfl ?_
  intro p e s m args below meth c s₁ B hml hv
  obtain ⟨rfl, hsz, hP, hK, hD0⟩ := hv
  have hx := B.exec
  have hb := B.bytes
  have hr0 := B.returns
  have hts := atoms_spec (ws := (zw yX5_readItem cX5_readItem 2 none)) B.pre
  have hw0 : ∀ w ∈ zW, w.before ([.ref (a 0), .ref (b 0)] : List Value).toArray s = true := fun w h => hts w (List.mem_cons_of_mem _ h)
  have hown : s.vm.findClass RX5 = some m.cls := findClass_of_methodNamed B.named
  have hlocks := B.notSynchronized
  subst hsz
  have hD := hD0.self (sz := s.heap.size)
  generalize hAe : va_A (zX5 g a v ++ zX2 g b w) s.heap.size = A at hD ⊢
  have hA : ∀ q : Nat, s.heap.size ≤ q → A q := fun q h => by rw [← hAe]; exact Or.inr h
  have hS : va_S A s.heap s.heap [] := va_S.rf
  unfold f_X5_readItem at hf
  have hl := lv_entry ([.ref (a 0), .ref (b 0)]) (n := 2) (Nat.le_of_ble_eq_true rfl)
  rw [lg_entry_eq]
  generalize (lg_sl ([.ref (a 0), .ref (b 0)]) ++ List.replicate (2 - (lg_sl ([.ref (a 0), .ref (b 0)])).length) Slot.unset).toArray = ls at hl ⊢
  have hl : lv_has ls 2 [(0, .ref (a 0)), (1, .ref (b 0))] := hl
  refine lv_aload_n hx hb dX5_readItem_0 rfl (lv_at hl 0 rfl) ?_
  refine lv_aload_n hx hb dX5_readItem_1 rfl (lv_at hl 0 rfl) ?_
  obtain ⟨u1, hu1, hf⟩ := ob hf
  refine zk_iR (va_runV (As := []) (rest := [.ref (a 0)]) ⟨hx, hb, hml, hown, hts⟩ (c_X5_here l g a v _ hu1 _) (zcV hw0 zm2_203 zm2_206 zm1_7 zm2_205 zs3_9 hd_X5_here rfl rfl ⟨Nat.le_of_ble_eq_true rfl, Nat.le_of_ble_eq_true rfl⟩) ⟨zblind, zrecv (wc := zX5 g a v) hK hP [0, 1] rfl (ci := 5) rfl rfl, zpre hK hP hD [0, 1] rfl rfl⟩ rfl rfl hl.1 rfl (lv_room (Nat.le_of_ble_eq_true rfl)) dX5_readItem_2 ⟨Nat.zero_le _, Nat.zero_le _⟩) hP hD hS hA [0, 1] rfl (fun H locs hP hD hS => ?_)
  obtain ⟨u2, hu2, hf⟩ := ob hf
  refine zk_iR (va_runV (As := [.int u1]) (rest := []) ⟨hx, hb, hml, hown, hts⟩ (c_X5_isDigit l g a v u1 _ hu2 _) (zcV hw0 zm2_207 zm2_210 zm1_7 zm2_209 zs3_10 hd_X5_isDigit rfl rfl ⟨Nat.le_of_ble_eq_true rfl, Nat.le_of_ble_eq_true rfl⟩) ⟨zblind, zrecv (wc := zX5 g a v) hK hP [0, 1] rfl (ci := 5) rfl rfl, zpre hK hP hD [0, 1] rfl rfl⟩ rfl rfl hl.1 rfl (lv_room (Nat.le_of_ble_eq_true rfl)) dX5_readItem_5 ⟨Nat.zero_le _, Nat.zero_le _⟩) hP hD hS hA [0, 1] rfl (fun H locs hP hD hS => ?_)
  refine lv_if_eq (tgt := 34) hx hb dX5_readItem_8 (by decide) (fun c3 => ?_) (fun c3 => ?_)
  · have hf := oi hf c3
    refine lv_aload_n hx hb dX5_readItem_34 rfl (lv_at hl 1 rfl) ?_
    refine va_getN (D := g.1) (ci := 2) (v := .ref (b 7)) (C := RX2) (T := TX2) (N := 11) hx hb hw0 ziX2 hown hK.1 hP 2 rfl rfl 1 (by decide) (va_Nw.use rfl (zf_24 hK)) (fun _ h9 => h9) rfl dX5_readItem_35 ?_
    refine va_getN (D := g.1) (ci := 1) (v := .int w.2.1.1) (C := RX1) (T := TX1) (N := 5) hx hb hw0 ziX1 hown hK.1 hP 9 rfl rfl 0 (by decide) (va_Nw.use rfl (zf_13 hK)) (fun _ h9 => h9) rfl dX5_readItem_38 ?_
    refine lv_bipush (v := 10) hx hb dX5_readItem_41 (by decide) ?_
    refine lv_icmp_ge (tgt := 66) hx hb dX5_readItem_43 (by decide) (fun c4 => ?_) (fun c4 => ?_)
    · have hf := oi hf c4
      refine lv_aload_n hx hb dX5_readItem_66 rfl (lv_at hl 0 rfl) ?_
      refine lv_aload_n hx hb dX5_readItem_67 rfl (lv_at hl 0 rfl) ?_
      refine va_get (D := g.1) (ci := 5) (v := .int v.2.2.1) (C := RX5) (T := TX5) (N := 4) hx hb hw0 ziX5 hown hK.1 hP 0 rfl rfl 2 (by decide) (hw0 _ zm1_198) (fun _ h9 => h9) rfl dX5_readItem_68 ?_
      obtain ⟨u5, hu5, hf⟩ := ob hf
      refine zk_v (va_runV (As := [.int v.2.2.1]) (rest := []) ⟨hx, hb, hml, hown, hts⟩ (c_X5_fail l g a v v.2.2.1 _ hu5 _) (zcV hw0 zm2_219 zm2_222 zm1_7 zm2_221 zs3_13 hd_X5_fail rfl rfl ⟨Nat.le_of_ble_eq_true rfl, Nat.le_of_ble_eq_true rfl⟩) ⟨zblind, zrecv (wc := zX5 g a v) hK hP [0, 1] rfl (ci := 5) rfl rfl, zpre hK hP hD [0, 1] rfl rfl⟩ rfl rfl hl.1 rfl (lv_room (Nat.le_of_ble_eq_true rfl)) dX5_readItem_71 ⟨Nat.zero_le _, Nat.zero_le _⟩) hP hD hS hA [0, 1] rfl rfl (fun H locs hP hD hS => ?_)
      have hP : va_P g.1 vwCl (zX5 g a u5 ++ zX2 g b w) H := hP
      have hD : va_D A (zX5 g a u5 ++ zX2 g b w) := hD
      have hR : (u5, w) = r := Option.some.inj hf
      subst hR
      exact W.vret hx hb hr0 (fun t ht hW => ⟨⟨(), rfl, trivial, by rw [ht]; exact hP, hD⟩, hS.F ht⟩) hS.2.2 dX5_readItem_74
    · have hf := oe hf c4
      refine lv_aload_n hx hb dX5_readItem_46 rfl (lv_at hl 0 rfl) ?_
      refine lv_bipush (v := 43) hx hb dX5_readItem_47 (by decide) ?_
      obtain ⟨u6, hu6, hf⟩ := ob hf
      refine zk_i (va_runV (As := [.int 43]) (rest := []) ⟨hx, hb, hml, hown, hts⟩ (c_X5_take l g a v 43 _ hu6 _) (zcV hw0 zm2_223 zm2_226 zm1_7 zm2_225 zs3_14 hd_X5_take rfl rfl ⟨Nat.le_of_ble_eq_true rfl, Nat.le_of_ble_eq_true rfl⟩) ⟨zblind, zrecv (wc := zX5 g a v) hK hP [0, 1] rfl (ci := 5) rfl rfl, zpre hK hP hD [0, 1] rfl rfl⟩ rfl rfl hl.1 rfl (lv_room (Nat.le_of_ble_eq_true rfl)) dX5_readItem_49 ⟨Nat.zero_le _, Nat.zero_le _⟩) hP hD hS hA [0, 1] rfl rfl (fun H locs hP hD hS => ?_)
      have hP : va_P g.1 vwCl (zX5 g a u6.2 ++ zX2 g b w) H := hP
      have hD : va_D A (zX5 g a u6.2 ++ zX2 g b w) := hD
      refine lv_if_eq (tgt := 66) hx hb dX5_readItem_52 (by decide) (fun c7 => ?_) (fun c7 => ?_)
      · have hf := oi hf c7
        refine lv_aload_n hx hb dX5_readItem_66 rfl (lv_at hl 0 rfl) ?_
        refine lv_aload_n hx hb dX5_readItem_67 rfl (lv_at hl 0 rfl) ?_
        refine va_get (D := g.1) (ci := 5) (v := .int u6.2.2.2.1) (C := RX5) (T := TX5) (N := 4) hx hb hw0 ziX5 hown hK.1 hP 0 rfl rfl 2 (by decide) (hw0 _ zm1_198) (fun _ h9 => h9) rfl dX5_readItem_68 ?_
        obtain ⟨u8, hu8, hf⟩ := ob hf
        refine zk_v (va_runV (As := [.int u6.2.2.2.1]) (rest := []) ⟨hx, hb, hml, hown, hts⟩ (c_X5_fail l g a u6.2 u6.2.2.2.1 _ hu8 _) (zcV hw0 zm2_219 zm2_222 zm1_7 zm2_221 zs3_13 hd_X5_fail rfl rfl ⟨Nat.le_of_ble_eq_true rfl, Nat.le_of_ble_eq_true rfl⟩) ⟨zblind, zrecv (wc := zX5 g a u6.2) hK hP [0, 1] rfl (ci := 5) rfl rfl, zpre hK hP hD [0, 1] rfl rfl⟩ rfl rfl hl.1 rfl (lv_room (Nat.le_of_ble_eq_true rfl)) dX5_readItem_71 ⟨Nat.zero_le _, Nat.zero_le _⟩) hP hD hS hA [0, 1] rfl rfl (fun H locs hP hD hS => ?_)
        have hP : va_P g.1 vwCl (zX5 g a u8 ++ zX2 g b w) H := hP
        have hD : va_D A (zX5 g a u8 ++ zX2 g b w) := hD
        have hR : (u8, w) = r := Option.some.inj hf
        subst hR
        exact W.vret hx hb hr0 (fun t ht hW => ⟨⟨(), rfl, trivial, by rw [ht]; exact hP, hD⟩, hS.F ht⟩) hS.2.2 dX5_readItem_74
      · have hf := oe hf c7
        refine lv_aload_n hx hb dX5_readItem_55 rfl (lv_at hl 0 rfl) ?_
        refine lv_aload_n hx hb dX5_readItem_56 rfl (lv_at hl 1 rfl) ?_
        refine va_getN (D := g.1) (ci := 2) (v := .ref (b 7)) (C := RX2) (T := TX2) (N := 11) hx hb hw0 ziX2 hown hK.1 hP 2 rfl rfl 1 (by decide) (va_Nw.use rfl (zf_24 hK)) (fun _ h9 => h9) rfl dX5_readItem_57 ?_
        obtain ⟨u9, hu9, hf⟩ := ob hf
        refine zk_vZ (va_runV (As := [.ref (b 7)]) (rest := []) ⟨hx, hb, hml, hown, hts⟩ (c_X5_readFiller l g a (fun k => b (k + 7)) u6.2 w.2.1 _ hu9 _) (zcV hw0 zm2_235 zm2_238 zm1_7 zm2_237 zs4_1 hd_X5_readFiller rfl rfl ⟨Nat.le_of_ble_eq_true rfl, Nat.le_of_ble_eq_true rfl⟩) ⟨zblind, zrecv (wc := zX5 g a u6.2 ++ zX1 g (fun k => b (k + 7)) w.2.1) hK hP [0, 1, 9, 10, 11, 12, 13, 14, 15] rfl (ci := 5) rfl rfl, zpre hK hP hD [0, 1, 9, 10, 11, 12, 13, 14, 15] rfl rfl⟩ rfl rfl hl.1 rfl (lv_room (Nat.le_of_ble_eq_true rfl)) dX5_readItem_60 ⟨Nat.zero_le _, Nat.zero_le _⟩) hP hD hS hA [0, 1, 9, 10, 11, 12, 13, 14, 15] rfl rfl (ztwo (is1 := List.range' 0 2) rfl (zrun (wc := zX5 g a u6.2) (ws' := (zX5 g a u9.1 ++ zX2 g b w)) 0 2 rfl rfl rfl rfl rfl) (zrun (wc := zX1 g (fun k => b (k + 7)) w.2.1) (ws' := (zX5 g a u9.1 ++ zX2 g b (w.1, u9.2, w.2.2.1, w.2.2.2.1, w.2.2.2.2.1, w.2.2.2.2.2.1, w.2.2.2.2.2.2.1, w.2.2.2.2.2.2.2.1, w.2.2.2.2.2.2.2.2.1, w.2.2.2.2.2.2.2.2.2.1, w.2.2.2.2.2.2.2.2.2.2))) 9 7 rfl rfl rfl rfl rfl)) (fun H locs hP hD hS => ?_)
        have hP : va_P g.1 vwCl (zX5 g a u9.1 ++ zX2 g b (w.1, u9.2, w.2.2.1, w.2.2.2.1, w.2.2.2.2.1, w.2.2.2.2.2.1, w.2.2.2.2.2.2.1, w.2.2.2.2.2.2.2.1, w.2.2.2.2.2.2.2.2.1, w.2.2.2.2.2.2.2.2.2.1, w.2.2.2.2.2.2.2.2.2.2)) H := hP
        have hD : va_D A (zX5 g a u9.1 ++ zX2 g b (w.1, u9.2, w.2.2.1, w.2.2.2.1, w.2.2.2.2.1, w.2.2.2.2.2.1, w.2.2.2.2.2.2.1, w.2.2.2.2.2.2.2.1, w.2.2.2.2.2.2.2.2.1, w.2.2.2.2.2.2.2.2.2.1, w.2.2.2.2.2.2.2.2.2.2)) := hD
        refine lv_goto (tgt := 74) hx hb dX5_readItem_63 (by decide) ?_
        have hR : (u9.1, (w.1, u9.2, w.2.2.1, w.2.2.2.1, w.2.2.2.2.1, w.2.2.2.2.2.1, w.2.2.2.2.2.2.1, w.2.2.2.2.2.2.2.1, w.2.2.2.2.2.2.2.2.1, w.2.2.2.2.2.2.2.2.2.1, w.2.2.2.2.2.2.2.2.2.2)) = r := Option.some.inj hf
        subst hR
        exact W.vret hx hb hr0 (fun t ht hW => ⟨⟨(), rfl, trivial, by rw [ht]; exact hP, hD⟩, hS.F ht⟩) hS.2.2 dX5_readItem_74
  · have hf := oe hf c3
    refine lv_aload_n hx hb dX5_readItem_11 rfl (lv_at hl 1 rfl) ?_
    refine va_getN (D := g.1) (ci := 2) (v := .ref (b 1)) (C := RX2) (T := TX2) (N := 11) hx hb hw0 ziX2 hown hK.1 hP 2 rfl rfl 0 (by decide) (va_Nw.use rfl (zf_22 hK)) (fun _ h9 => h9) rfl dX5_readItem_12 ?_
    refine va_getN (D := g.1) (ci := 0) (v := .int w.1.1) (C := RX0) (T := TX0) (N := 6) hx hb hw0 ziX0 hown hK.1 hP 3 rfl rfl 0 (by decide) (va_Nw.use rfl (zf_2 hK)) (fun _ h9 => h9) rfl dX5_readItem_15 ?_
    refine lv_bipush (v := 12) hx hb dX5_readItem_18 (by decide) ?_
    refine lv_icmp_ge (tgt := 34) hx hb dX5_readItem_20 (by decide) (fun c10 => ?_) (fun c10 => ?_)
    · have hf := oi hf c10
      refine lv_aload_n hx hb dX5_readItem_34 rfl (lv_at hl 1 rfl) ?_
      refine va_getN (D := g.1) (ci := 2) (v := .ref (b 7)) (C := RX2) (T := TX2) (N := 11) hx hb hw0 ziX2 hown hK.1 hP 2 rfl rfl 1 (by decide) (va_Nw.use rfl (zf_24 hK)) (fun _ h9 => h9) rfl dX5_readItem_35 ?_
      refine va_getN (D := g.1) (ci := 1) (v := .int w.2.1.1) (C := RX1) (T := TX1) (N := 5) hx hb hw0 ziX1 hown hK.1 hP 9 rfl rfl 0 (by decide) (va_Nw.use rfl (zf_13 hK)) (fun _ h9 => h9) rfl dX5_readItem_38 ?_
      refine lv_bipush (v := 10) hx hb dX5_readItem_41 (by decide) ?_
      refine lv_icmp_ge (tgt := 66) hx hb dX5_readItem_43 (by decide) (fun c11 => ?_) (fun c11 => ?_)
      · have hf := oi hf c11
        refine lv_aload_n hx hb dX5_readItem_66 rfl (lv_at hl 0 rfl) ?_
        refine lv_aload_n hx hb dX5_readItem_67 rfl (lv_at hl 0 rfl) ?_
        refine va_get (D := g.1) (ci := 5) (v := .int v.2.2.1) (C := RX5) (T := TX5) (N := 4) hx hb hw0 ziX5 hown hK.1 hP 0 rfl rfl 2 (by decide) (hw0 _ zm1_198) (fun _ h9 => h9) rfl dX5_readItem_68 ?_
        obtain ⟨u12, hu12, hf⟩ := ob hf
        refine zk_v (va_runV (As := [.int v.2.2.1]) (rest := []) ⟨hx, hb, hml, hown, hts⟩ (c_X5_fail l g a v v.2.2.1 _ hu12 _) (zcV hw0 zm2_219 zm2_222 zm1_7 zm2_221 zs3_13 hd_X5_fail rfl rfl ⟨Nat.le_of_ble_eq_true rfl, Nat.le_of_ble_eq_true rfl⟩) ⟨zblind, zrecv (wc := zX5 g a v) hK hP [0, 1] rfl (ci := 5) rfl rfl, zpre hK hP hD [0, 1] rfl rfl⟩ rfl rfl hl.1 rfl (lv_room (Nat.le_of_ble_eq_true rfl)) dX5_readItem_71 ⟨Nat.zero_le _, Nat.zero_le _⟩) hP hD hS hA [0, 1] rfl rfl (fun H locs hP hD hS => ?_)
        have hP : va_P g.1 vwCl (zX5 g a u12 ++ zX2 g b w) H := hP
        have hD : va_D A (zX5 g a u12 ++ zX2 g b w) := hD
        have hR : (u12, w) = r := Option.some.inj hf
        subst hR
        exact W.vret hx hb hr0 (fun t ht hW => ⟨⟨(), rfl, trivial, by rw [ht]; exact hP, hD⟩, hS.F ht⟩) hS.2.2 dX5_readItem_74
      · have hf := oe hf c11
        refine lv_aload_n hx hb dX5_readItem_46 rfl (lv_at hl 0 rfl) ?_
        refine lv_bipush (v := 43) hx hb dX5_readItem_47 (by decide) ?_
        obtain ⟨u13, hu13, hf⟩ := ob hf
        refine zk_i (va_runV (As := [.int 43]) (rest := []) ⟨hx, hb, hml, hown, hts⟩ (c_X5_take l g a v 43 _ hu13 _) (zcV hw0 zm2_223 zm2_226 zm1_7 zm2_225 zs3_14 hd_X5_take rfl rfl ⟨Nat.le_of_ble_eq_true rfl, Nat.le_of_ble_eq_true rfl⟩) ⟨zblind, zrecv (wc := zX5 g a v) hK hP [0, 1] rfl (ci := 5) rfl rfl, zpre hK hP hD [0, 1] rfl rfl⟩ rfl rfl hl.1 rfl (lv_room (Nat.le_of_ble_eq_true rfl)) dX5_readItem_49 ⟨Nat.zero_le _, Nat.zero_le _⟩) hP hD hS hA [0, 1] rfl rfl (fun H locs hP hD hS => ?_)
        have hP : va_P g.1 vwCl (zX5 g a u13.2 ++ zX2 g b w) H := hP
        have hD : va_D A (zX5 g a u13.2 ++ zX2 g b w) := hD
        refine lv_if_eq (tgt := 66) hx hb dX5_readItem_52 (by decide) (fun c14 => ?_) (fun c14 => ?_)
        · have hf := oi hf c14
          refine lv_aload_n hx hb dX5_readItem_66 rfl (lv_at hl 0 rfl) ?_
          refine lv_aload_n hx hb dX5_readItem_67 rfl (lv_at hl 0 rfl) ?_
          refine va_get (D := g.1) (ci := 5) (v := .int u13.2.2.2.1) (C := RX5) (T := TX5) (N := 4) hx hb hw0 ziX5 hown hK.1 hP 0 rfl rfl 2 (by decide) (hw0 _ zm1_198) (fun _ h9 => h9) rfl dX5_readItem_68 ?_
          obtain ⟨u15, hu15, hf⟩ := ob hf
          refine zk_v (va_runV (As := [.int u13.2.2.2.1]) (rest := []) ⟨hx, hb, hml, hown, hts⟩ (c_X5_fail l g a u13.2 u13.2.2.2.1 _ hu15 _) (zcV hw0 zm2_219 zm2_222 zm1_7 zm2_221 zs3_13 hd_X5_fail rfl rfl ⟨Nat.le_of_ble_eq_true rfl, Nat.le_of_ble_eq_true rfl⟩) ⟨zblind, zrecv (wc := zX5 g a u13.2) hK hP [0, 1] rfl (ci := 5) rfl rfl, zpre hK hP hD [0, 1] rfl rfl⟩ rfl rfl hl.1 rfl (lv_room (Nat.le_of_ble_eq_true rfl)) dX5_readItem_71 ⟨Nat.zero_le _, Nat.zero_le _⟩) hP hD hS hA [0, 1] rfl rfl (fun H locs hP hD hS => ?_)
          have hP : va_P g.1 vwCl (zX5 g a u15 ++ zX2 g b w) H := hP
          have hD : va_D A (zX5 g a u15 ++ zX2 g b w) := hD
          have hR : (u15, w) = r := Option.some.inj hf
          subst hR
          exact W.vret hx hb hr0 (fun t ht hW => ⟨⟨(), rfl, trivial, by rw [ht]; exact hP, hD⟩, hS.F ht⟩) hS.2.2 dX5_readItem_74
        · have hf := oe hf c14
          refine lv_aload_n hx hb dX5_readItem_55 rfl (lv_at hl 0 rfl) ?_
          refine lv_aload_n hx hb dX5_readItem_56 rfl (lv_at hl 1 rfl) ?_
          refine va_getN (D := g.1) (ci := 2) (v := .ref (b 7)) (C := RX2) (T := TX2) (N := 11) hx hb hw0 ziX2 hown hK.1 hP 2 rfl rfl 1 (by decide) (va_Nw.use rfl (zf_24 hK)) (fun _ h9 => h9) rfl dX5_readItem_57 ?_
          obtain ⟨u16, hu16, hf⟩ := ob hf
          refine zk_vZ (va_runV (As := [.ref (b 7)]) (rest := []) ⟨hx, hb, hml, hown, hts⟩ (c_X5_readFiller l g a (fun k => b (k + 7)) u13.2 w.2.1 _ hu16 _) (zcV hw0 zm2_235 zm2_238 zm1_7 zm2_237 zs4_1 hd_X5_readFiller rfl rfl ⟨Nat.le_of_ble_eq_true rfl, Nat.le_of_ble_eq_true rfl⟩) ⟨zblind, zrecv (wc := zX5 g a u13.2 ++ zX1 g (fun k => b (k + 7)) w.2.1) hK hP [0, 1, 9, 10, 11, 12, 13, 14, 15] rfl (ci := 5) rfl rfl, zpre hK hP hD [0, 1, 9, 10, 11, 12, 13, 14, 15] rfl rfl⟩ rfl rfl hl.1 rfl (lv_room (Nat.le_of_ble_eq_true rfl)) dX5_readItem_60 ⟨Nat.zero_le _, Nat.zero_le _⟩) hP hD hS hA [0, 1, 9, 10, 11, 12, 13, 14, 15] rfl rfl (ztwo (is1 := List.range' 0 2) rfl (zrun (wc := zX5 g a u13.2) (ws' := (zX5 g a u16.1 ++ zX2 g b w)) 0 2 rfl rfl rfl rfl rfl) (zrun (wc := zX1 g (fun k => b (k + 7)) w.2.1) (ws' := (zX5 g a u16.1 ++ zX2 g b (w.1, u16.2, w.2.2.1, w.2.2.2.1, w.2.2.2.2.1, w.2.2.2.2.2.1, w.2.2.2.2.2.2.1, w.2.2.2.2.2.2.2.1, w.2.2.2.2.2.2.2.2.1, w.2.2.2.2.2.2.2.2.2.1, w.2.2.2.2.2.2.2.2.2.2))) 9 7 rfl rfl rfl rfl rfl)) (fun H locs hP hD hS => ?_)
          have hP : va_P g.1 vwCl (zX5 g a u16.1 ++ zX2 g b (w.1, u16.2, w.2.2.1, w.2.2.2.1, w.2.2.2.2.1, w.2.2.2.2.2.1, w.2.2.2.2.2.2.1, w.2.2.2.2.2.2.2.1, w.2.2.2.2.2.2.2.2.1, w.2.2.2.2.2.2.2.2.2.1, w.2.2.2.2.2.2.2.2.2.2)) H := hP
          have hD : va_D A (zX5 g a u16.1 ++ zX2 g b (w.1, u16.2, w.2.2.1, w.2.2.2.1, w.2.2.2.2.1, w.2.2.2.2.2.1, w.2.2.2.2.2.2.1, w.2.2.2.2.2.2.2.1, w.2.2.2.2.2.2.2.2.1, w.2.2.2.2.2.2.2.2.2.1, w.2.2.2.2.2.2.2.2.2.2)) := hD
          refine lv_goto (tgt := 74) hx hb dX5_readItem_63 (by decide) ?_
          have hR : (u16.1, (w.1, u16.2, w.2.2.1, w.2.2.2.1, w.2.2.2.2.1, w.2.2.2.2.2.1, w.2.2.2.2.2.2.1, w.2.2.2.2.2.2.2.1, w.2.2.2.2.2.2.2.2.1, w.2.2.2.2.2.2.2.2.2.1, w.2.2.2.2.2.2.2.2.2.2)) = r := Option.some.inj hf
          subst hR
          exact W.vret hx hb hr0 (fun t ht hW => ⟨⟨(), rfl, trivial, by rw [ht]; exact hP, hD⟩, hS.F ht⟩) hS.2.2 dX5_readItem_74
    · have hf := oe hf c10
      refine lv_aload_n hx hb dX5_readItem_23 rfl (lv_at hl 0 rfl) ?_
      refine lv_aload_n hx hb dX5_readItem_24 rfl (lv_at hl 1 rfl) ?_
      refine va_getN (D := g.1) (ci := 2) (v := .ref (b 1)) (C := RX2) (T := TX2) (N := 11) hx hb hw0 ziX2 hown hK.1 hP 2 rfl rfl 0 (by decide) (va_Nw.use rfl (zf_22 hK)) (fun _ h9 => h9) rfl dX5_readItem_25 ?_
      obtain ⟨u17, hu17, hf⟩ := ob hf
      refine zk_vZ (va_runV (As := [.ref (b 1)]) (rest := []) ⟨hx, hb, hml, hown, hts⟩ (c_X5_readElement l g a (fun k => b (k + 1)) v w.1 _ hu17 _) (zcV hw0 zm2_211 zm2_214 zm1_7 zm2_213 zs3_11 hd_X5_readElement rfl rfl ⟨Nat.le_of_ble_eq_true rfl, Nat.le_of_ble_eq_true rfl⟩) ⟨zblind, zrecv (wc := zX5 g a v ++ zX0 g (fun k => b (k + 1)) w.1) hK hP [0, 1, 3, 4, 5, 6, 7, 8] rfl (ci := 5) rfl rfl, zpre hK hP hD [0, 1, 3, 4, 5, 6, 7, 8] rfl rfl⟩ rfl rfl hl.1 rfl (lv_room (Nat.le_of_ble_eq_true rfl)) dX5_readItem_28 ⟨Nat.zero_le _, Nat.zero_le _⟩) hP hD hS hA [0, 1, 3, 4, 5, 6, 7, 8] rfl rfl (ztwo (is1 := List.range' 0 2) rfl (zrun (wc := zX5 g a v) (ws' := (zX5 g a u17.1 ++ zX2 g b w)) 0 2 rfl rfl rfl rfl rfl) (zrun (wc := zX0 g (fun k => b (k + 1)) w.1) (ws' := (zX5 g a u17.1 ++ zX2 g b (u17.2, w.2.1, w.2.2.1, w.2.2.2.1, w.2.2.2.2.1, w.2.2.2.2.2.1, w.2.2.2.2.2.2.1, w.2.2.2.2.2.2.2.1, w.2.2.2.2.2.2.2.2.1, w.2.2.2.2.2.2.2.2.2.1, w.2.2.2.2.2.2.2.2.2.2))) 3 6 rfl rfl rfl rfl rfl)) (fun H locs hP hD hS => ?_)
      have hP : va_P g.1 vwCl (zX5 g a u17.1 ++ zX2 g b (u17.2, w.2.1, w.2.2.1, w.2.2.2.1, w.2.2.2.2.1, w.2.2.2.2.2.1, w.2.2.2.2.2.2.1, w.2.2.2.2.2.2.2.1, w.2.2.2.2.2.2.2.2.1, w.2.2.2.2.2.2.2.2.2.1, w.2.2.2.2.2.2.2.2.2.2)) H := hP
      have hD : va_D A (zX5 g a u17.1 ++ zX2 g b (u17.2, w.2.1, w.2.2.1, w.2.2.2.1, w.2.2.2.2.1, w.2.2.2.2.2.1, w.2.2.2.2.2.2.1, w.2.2.2.2.2.2.2.1, w.2.2.2.2.2.2.2.2.1, w.2.2.2.2.2.2.2.2.2.1, w.2.2.2.2.2.2.2.2.2.2)) := hD
      refine lv_goto (tgt := 74) hx hb dX5_readItem_31 (by decide) ?_
      have hR : (u17.1, (u17.2, w.2.1, w.2.2.1, w.2.2.2.1, w.2.2.2.2.1, w.2.2.2.2.2.1, w.2.2.2.2.2.2.1, w.2.2.2.2.2.2.2.1, w.2.2.2.2.2.2.2.2.1, w.2.2.2.2.2.2.2.2.2.1, w.2.2.2.2.2.2.2.2.2.2)) = r := Option.some.inj hf
      subst hR
      exact W.vret hx hb hr0 (fun t ht hW => ⟨⟨(), rfl, trivial, by rw [ht]; exact hP, hD⟩, hS.F ht⟩) hS.2.2 dX5_readItem_74
theorem hd_X5_readInto : yX5_readInto.cls ≠ "java/lang/invoke/MethodHandle" ∧ yX5_readInto.cls ≠ "java/lang/invoke/VarHandle" ∧ (parseMethodDescriptor yX5_readInto.desc).map (fun d => d.parameters.length) = some 1 := by decide +kernel
def s_X5_readInto_16 (v : TV) (w : HV) (x : Int32 × TV × HV) : Option ((Int32 × TV × HV) ⊕ (Int32 × TV × HV)) :=
  if 100 ≤ x.1 then
    some (.inr (x.1, x.2.1, x.2.2))
  else
    if x.2.1.2.1 ≤ x.2.1.2.2.1 then
      some (.inr (x.1, x.2.1, x.2.2))
    else
      if x.2.1.2.2.2 = (-1) then
        (f_X5_readItem x.2.1 x.2.2).bind (fun u5 =>
        some (.inl ((x.1 + 1), u5.1, u5.2)))
      else
        some (.inr (x.1, x.2.1, x.2.2))
def f_X5_readInto (v : TV) (w : HV) : Option (Int32 × TV × HV) :=
  (f_X2_becomeEmpty w).bind (fun u1 =>
  (zloop (s_X5_readInto_16 (v.1, v.2.1, 0, (-1)) u1) 4096 (0, (v.1, v.2.1, 0, (-1)), u1)).bind (fun u6 =>
  some (u6.2.1.2.2.2, u6.2.1, u6.2.2)))
set_option maxHeartbeats 4000000 in
set_option maxRecDepth 100000 in
theorem c_X5_readInto (l : Launch) (g : zG) (a : Nat → Nat) (b : Nat → Nat) (v : TV) (w : HV) (r : Int32 × TV × HV) (hf : f_X5_readInto v w = some r) : zMi zNF zNM l yX5_readInto (zw yX5_readInto cX5_readInto 3 (some .int)) ({ frames := 5, cells := 0, slots := 0, locals := 108 } : Room) g [.ref (a 0), .ref (b 0)] (zX5 g a v ++ zX2 g b w) r.1 (zX5 g a r.2.1 ++ zX2 g b r.2.2) := by
  intro sz
  refine Met.ofW (cc := cX5_readInto) (maxL := 3) (ret := (some .int)) (by decide) rfl ?_
  intro p e s m args below meth c s₁ B hml hv
  obtain ⟨rfl, hsz, hP, hK, hD0⟩ := hv
  have hx := B.exec
  have hb := B.bytes
  have hr0 := B.returns
  have hts := atoms_spec (ws := (zw yX5_readInto cX5_readInto 3 (some .int))) B.pre
  have hw0 : ∀ w ∈ zW, w.before ([.ref (a 0), .ref (b 0)] : List Value).toArray s = true := fun w h => hts w (List.mem_cons_of_mem _ h)
  have hown : s.vm.findClass RX5 = some m.cls := findClass_of_methodNamed B.named
  have hlocks := B.notSynchronized
  subst hsz
  have hD := hD0.self (sz := s.heap.size)
  generalize hAe : va_A (zX5 g a v ++ zX2 g b w) s.heap.size = A at hD ⊢
  have hA : ∀ q : Nat, s.heap.size ≤ q → A q := fun q h => by rw [← hAe]; exact Or.inr h
  have hS : va_S A s.heap s.heap [] := va_S.rf
  have lp16 : ∀ (v : TV) (w : HV), ∀ (n : Nat) (x : Int32 × TV × HV) (rr : Int32 × TV × HV), zloop (s_X5_readInto_16 v w) n x = some rr → (∀ (H : Heap) (locs : List Loc), va_P g.1 vwCl (zX5 g a rr.2.1 ++ zX2 g b rr.2.2) H → va_D A (zX5 g a rr.2.1 ++ zX2 g b rr.2.2) → va_S A s.heap H locs → ∀ ls : Array Slot, lv_has ls 3 [(0, .ref (a 0))] → W p l e (headSpec (zw yX5_readInto cX5_readInto 3 (some .int)) ({ frames := 5, cells := 0, slots := 0, locals := 108 } : Room)).room s m ([.ref (a 0), .ref (b 0)] : List Value).toArray below meth c H locs 0 0 (MQ below (va_Qi (fun (x : Int32) (_ : Unit) => x = r.1) (fun _ => zEnd g A (zX5 g a r.2.1 ++ zX2 g b r.2.2)) A) ([.ref (a 0), .ref (b 0)] : List Value).toArray s 0 0 A) (F0 m 52 ls [])) → ∀ (H : Heap) (locs : List Loc), va_P g.1 vwCl (zX5 g a x.2.1 ++ zX2 g b x.2.2) H → va_D A (zX5 g a x.2.1 ++ zX2 g b x.2.2) → va_S A s.heap H locs → ∀ ls : Array Slot, lv_has ls 3 [(0, .ref (a 0)), (1, .ref (b 0)), (2, .int x.1)] → W p l e (headSpec (zw yX5_readInto cX5_readInto 3 (some .int)) ({ frames := 5, cells := 0, slots := 0, locals := 108 } : Room)).room s m ([.ref (a 0), .ref (b 0)] : List Value).toArray below meth c H locs 0 0 (MQ below (va_Qi (fun (x : Int32) (_ : Unit) => x = r.1) (fun _ => zEnd g A (zX5 g a r.2.1 ++ zX2 g b r.2.2)) A) ([.ref (a 0), .ref (b 0)] : List Value).toArray s 0 0 A) (F0 m 16 ls []) := by
    intro v w
    refine zloop_ind ?_
    intro x y rr hf ih hr hQ H locs hP hD hS ls hl
    unfold s_X5_readInto_16 at hf
    refine lv_iload_n hx hb dX5_readInto_16 rfl (lv_at hl 2 rfl) ?_
    refine lv_bipush (v := 100) hx hb dX5_readInto_17 (by decide) ?_
    refine lv_icmp_ge (tgt := 52) hx hb dX5_readInto_19 (by decide) (fun c2 => ?_) (fun c2 => ?_)
    · have hf := oi hf c2
      have hR : (x.1, x.2.1, x.2.2) = rr := hr _ (Option.some.inj hf).symm
      subst hR
      exact hQ _ _ hP hD hS _ (lv_sub hl [0] rfl)
    · have hf := oe hf c2
      refine lv_aload_n hx hb dX5_readInto_22 rfl (lv_at hl 0 rfl) ?_
      refine va_get (D := g.1) (ci := 5) (v := .int x.2.1.2.2.1) (C := RX5) (T := TX5) (N := 4) hx hb hw0 ziX5 hown hK.1 hP 0 rfl rfl 2 (by decide) (hw0 _ zm1_198) (fun _ h9 => h9) rfl dX5_readInto_23 ?_
      refine lv_aload_n hx hb dX5_readInto_26 rfl (lv_at hl 0 rfl) ?_
      refine va_get (D := g.1) (ci := 5) (v := .int x.2.1.2.1) (C := RX5) (T := TX5) (N := 4) hx hb hw0 ziX5 hown hK.1 hP 0 rfl rfl 1 (by decide) (hw0 _ zm1_196) (fun _ h9 => h9) rfl dX5_readInto_27 ?_
      refine lv_icmp_ge (tgt := 52) hx hb dX5_readInto_30 (by decide) (fun c3 => ?_) (fun c3 => ?_)
      · have hf := oi hf c3
        have hR : (x.1, x.2.1, x.2.2) = rr := hr _ (Option.some.inj hf).symm
        subst hR
        exact hQ _ _ hP hD hS _ (lv_sub hl [0] rfl)
      · have hf := oe hf c3
        refine lv_aload_n hx hb dX5_readInto_33 rfl (lv_at hl 0 rfl) ?_
        refine va_get (D := g.1) (ci := 5) (v := .int x.2.1.2.2.2) (C := RX5) (T := TX5) (N := 4) hx hb hw0 ziX5 hown hK.1 hP 0 rfl rfl 3 (by decide) (hw0 _ zm1_199) (fun _ h9 => h9) rfl dX5_readInto_34 ?_
        refine lv_iconst (v := (-1)) hx hb dX5_readInto_37 (by decide) ?_
        refine lv_icmp_ne (tgt := 52) hx hb dX5_readInto_38 (by decide) (fun c4 => ?_) (fun c4 => ?_)
        · have hf := oe hf c4
          have hR : (x.1, x.2.1, x.2.2) = rr := hr _ (Option.some.inj hf).symm
          subst hR
          exact hQ _ _ hP hD hS _ (lv_sub hl [0] rfl)
        · have hf := oi hf c4
          refine lv_aload_n hx hb dX5_readInto_41 rfl (lv_at hl 0 rfl) ?_
          refine lv_aload_n hx hb dX5_readInto_42 rfl (lv_at hl 1 rfl) ?_
          obtain ⟨u5, hu5, hf⟩ := ob hf
          refine zk_vA (va_runV (As := [.ref (b 0)]) (rest := []) ⟨hx, hb, hml, hown, hts⟩ (c_X5_readItem l g a b x.2.1 x.2.2 _ hu5 _) (zcV hw0 zm2_199 zm2_202 zm1_7 zm2_201 zs3_8 hd_X5_readItem rfl rfl ⟨Nat.le_of_ble_eq_true rfl, Nat.le_of_ble_eq_true rfl⟩) ⟨zblind, zrecvA hK hP (ci := 5) rfl rfl, zpreA hK hP hD⟩ rfl rfl hl.1 rfl (lv_room (Nat.le_of_ble_eq_true rfl)) dX5_readInto_43 ⟨Nat.zero_le _, Nat.zero_le _⟩) hP hD hS hA (fun H locs hP hD hS => ?_)
          have hP : va_P g.1 vwCl (zX5 g a u5.1 ++ zX2 g b u5.2) H := hP
          have hD : va_D A (zX5 g a u5.1 ++ zX2 g b u5.2) := hD
          refine lv_iinc (v := (x.1 + 1)) (lv' := [(2, .int (x.1 + 1)), (0, .ref (a 0)), (1, .ref (b 0))]) hx hb dX5_readInto_46 hl (k := 2) rfl rfl (by decide) rfl (fun ls hl => ?_)
          refine lv_goto (tgt := 16) hx hb dX5_readInto_49 (by decide) ?_
          exact ih ((x.1 + 1), u5.1, u5.2) (Option.some.inj hf).symm hQ _ _ hP hD hS _ (lv_sub hl [1, 2, 0] rfl)
  unfold f_X5_readInto at hf
  have hl := lv_entry ([.ref (a 0), .ref (b 0)]) (n := 3) (Nat.le_of_ble_eq_true rfl)
  rw [lg_entry_eq]
  generalize (lg_sl ([.ref (a 0), .ref (b 0)]) ++ List.replicate (3 - (lg_sl ([.ref (a 0), .ref (b 0)])).length) Slot.unset).toArray = ls at hl ⊢
  have hl : lv_has ls 3 [(0, .ref (a 0)), (1, .ref (b 0))] := hl
  refine lv_aload_n hx hb dX5_readInto_0 rfl (lv_at hl 1 rfl) ?_
  obtain ⟨u1, hu1, hf⟩ := ob hf
  refine zk_vZ (va_runVN (As := []) (rest := []) ⟨hx, hb, hml, hown, hts⟩ (c_X2_becomeEmpty l g b w _ hu1 _) (zcN hw0 (zn_29 hK) zm2_186 zm1_2 zm2_185 zs3_4 hd_X2_becomeEmpty rfl rfl ⟨Nat.le_of_ble_eq_true rfl, Nat.le_of_ble_eq_true rfl⟩) ⟨zblind, zrecv (wc := zX2 g b w) hK hP [2, 3, 4, 5, 6, 7, 8, 9, 10, 11, 12, 13, 14, 15, 16, 17, 18, 19] rfl (ci := 2) rfl rfl, zpre hK hP hD [2, 3, 4, 5, 6, 7, 8, 9, 10, 11, 12, 13, 14, 15, 16, 17, 18, 19] rfl rfl⟩ rfl rfl hl.1 rfl (lv_room (Nat.le_of_ble_eq_true rfl)) dX5_readInto_1 ⟨Nat.zero_le _, Nat.zero_le _⟩) hP hD hS hA [2, 3, 4, 5, 6, 7, 8, 9, 10, 11, 12, 13, 14, 15, 16, 17, 18, 19] rfl rfl (zrun (wc := zX2 g b w) (ws' := (zX5 g a v ++ zX2 g b u1)) 2 18 rfl rfl rfl rfl rfl) (fun H locs hP hD hS => ?_)
  have hP : va_P g.1 vwCl (zX5 g a v ++ zX2 g b u1) H := hP
  have hD : va_D A (zX5 g a v ++ zX2 g b u1) := hD
  refine lv_aload_n hx hb dX5_readInto_4 rfl (lv_at hl 0 rfl) ?_
  refine lv_iconst (v := 0) hx hb dX5_readInto_5 (by decide) ?_
  refine va_put (D := g.1) (ci := 5) (v := .int 0) (ty := .int) (C := RX5) (T := TX5) (N := 4) hx hb hw0 ziX5 tyX5 tyX5_ok nmX5 hown hK.1 hP hD hS 0 rfl rfl 2 (by decide) (hw0 _ zm1_198) (fun _ h9 => h9) rfl (tyX5_ok 2 (by decide)) rfl rfl (Nat.le_of_ble_eq_true rfl) dX5_readInto_6 (fun H locs hP hD hS => ?_)
  have hP : va_P g.1 vwCl (zX5 g a (v.1, v.2.1, 0, v.2.2.2) ++ zX2 g b u1) H := hP
  have hD : va_D A (zX5 g a (v.1, v.2.1, 0, v.2.2.2) ++ zX2 g b u1) := hD
  refine lv_aload_n hx hb dX5_readInto_9 rfl (lv_at hl 0 rfl) ?_
  refine lv_iconst (v := (-1)) hx hb dX5_readInto_10 (by decide) ?_
  refine va_put (D := g.1) (ci := 5) (v := .int (-1)) (ty := .int) (C := RX5) (T := TX5) (N := 4) hx hb hw0 ziX5 tyX5 tyX5_ok nmX5 hown hK.1 hP hD hS 0 rfl rfl 3 (by decide) (hw0 _ zm1_199) (fun _ h9 => h9) rfl (tyX5_ok 3 (by decide)) rfl rfl (Nat.le_of_ble_eq_true rfl) dX5_readInto_11 (fun H locs hP hD hS => ?_)
  have hP : va_P g.1 vwCl (zX5 g a (v.1, v.2.1, 0, (-1)) ++ zX2 g b u1) H := hP
  have hD : va_D A (zX5 g a (v.1, v.2.1, 0, (-1)) ++ zX2 g b u1) := hD
  refine lv_iconst (v := 0) hx hb dX5_readInto_14 (by decide) ?_
  refine lv_istore_n (lv' := [(2, .int 0), (0, .ref (a 0)), (1, .ref (b 0))]) hx hb dX5_readInto_15 rfl hl (by decide) rfl (fun ls hl => ?_)
  obtain ⟨u6, hu6, hf⟩ := ob hf
  refine lp16 (v.1, v.2.1, 0, (-1)) u1 _ _ u6 hu6 (fun H locs hP hD hS ls hl => ?_) _ _ hP hD hS _ (lv_sub hl [1, 2, 0] rfl)
  have hl : lv_has ls 3 [(0, .ref (a 0))] := hl
  have hP : va_P g.1 vwCl (zX5 g a u6.2.1 ++ zX2 g b u6.2.2) H := hP
  have hD : va_D A (zX5 g a u6.2.1 ++ zX2 g b u6.2.2) := hD
  refine lv_aload_n hx hb dX5_readInto_52 rfl (lv_at hl 0 rfl) ?_
  refine va_get (D := g.1) (ci := 5) (v := .int u6.2.1.2.2.2) (C := RX5) (T := TX5) (N := 4) hx hb hw0 ziX5 hown hK.1 hP 0 rfl rfl 3 (by decide) (hw0 _ zm1_199) (fun _ h9 => h9) rfl dX5_readInto_53 ?_
  have hR : (u6.2.1.2.2.2, u6.2.1, u6.2.2) = r := Option.some.inj hf
  subst hR
  exact W.iret (v := u6.2.1.2.2.2) hx hb hr0 (fun t ht hW => ⟨⟨u6.2.1.2.2.2, (), rfl, rfl, by rw [ht]; exact hP, hD⟩, hS.F ht⟩) hS.2.2 dX5_readInto_56
