theorem hd_X1_copyFrom : yX1_copyFrom.cls ≠ "java/lang/invoke/MethodHandle" ∧ yX1_copyFrom.cls ≠ "java/lang/invoke/VarHandle" ∧ (parseMethodDescriptor yX1_copyFrom.desc).map (fun d => d.parameters.length) = some 1 := by decide +kernel
def f_X1_copyFrom (v : FV) (w : FV) : Option (FV) :=
  some (w.1, (va_cpy w.2.1 v.2.1 0 0 10), (va_cpy w.2.2.1 v.2.2.1 0 0 10), (va_cpy w.2.2.2.1 v.2.2.2.1 0 0 10), v.2.2.2.2)
set_option maxHeartbeats 4000000 in
set_option maxRecDepth 100000 in
theorem c_X1_copyFrom (l : Launch) (g : zG) (a : Nat → Nat) (b : Nat → Nat) (v : FV) (w : FV) (r : FV) (hf : f_X1_copyFrom v w = some r) : zMv zNF zNM l yX1_copyFrom (zw yX1_copyFrom cX1_copyFrom 2 none) ({ frames := 1, cells := 0, slots := 0, locals := 40 } : Room) g [.ref (a 0), .ref (b 0)] (zX1 g a v ++ zX1 g b w) (zX1 g a r ++ zX1 g b w) := by
  intro sz
  refine Met.ofW (cc := cX1_copyFrom) (maxL := 2) (ret := none) (by decide) rfl ?_
  intro p e s m args below meth c s₁ B hml hv
  obtain ⟨rfl, hsz, hP, hK, hD0⟩ := hv
  have hx := B.exec
  have hb := B.bytes
  have hr0 := B.returns
  have hts := atoms_spec (ws := (zw yX1_copyFrom cX1_copyFrom 2 none)) B.pre
  have hw0 : ∀ w ∈ zW, w.before ([.ref (a 0), .ref (b 0)] : List Value).toArray s = true := fun w h => hts w (List.mem_cons_of_mem _ h)
  have hown : s.vm.findClass RX1 = some m.cls := findClass_of_methodNamed B.named
  have hlocks := B.notSynchronized
  subst hsz
  have hD := hD0.self (sz := s.heap.size)
  generalize hAe : va_A (zX1 g a v ++ zX1 g b w) s.heap.size = A at hD ⊢
  have hA : ∀ q : Nat, s.heap.size ≤ q → A q := fun q h => by rw [← hAe]; exact Or.inr h
  have hS : va_S A s.heap s.heap [] := va_S.rf
  unfold f_X1_copyFrom at hf
  have hl := lv_entry ([.ref (a 0), .ref (b 0)]) (n := 2) (Nat.le_of_ble_eq_true rfl)
  rw [lg_entry_eq]
  generalize (lg_sl ([.ref (a 0), .ref (b 0)]) ++ List.replicate (2 - (lg_sl ([.ref (a 0), .ref (b 0)])).length) Slot.unset).toArray = ls at hl ⊢
  have hl : lv_has ls 2 [(0, .ref (a 0)), (1, .ref (b 0))] := hl
  refine lv_aload_n hx hb dX1_copyFrom_0 rfl (lv_at hl 0 rfl) ?_
  refine lv_aload_n hx hb dX1_copyFrom_1 rfl (lv_at hl 1 rfl) ?_
  refine va_get (D := g.1) (ci := 1) (v := .int w.1) (C := RX1) (T := TX1) (N := 5) hx hb hw0 ziX1 hown hK.1 hP 7 rfl rfl 0 (by decide) (hw0 _ zm1_97) (fun _ h9 => h9) rfl dX1_copyFrom_2 ?_
  refine va_put (D := g.1) (ci := 1) (v := .int w.1) (ty := .int) (C := RX1) (T := TX1) (N := 5) hx hb hw0 ziX1 tyX1 tyX1_ok nmX1 hown hK.1 hP hD hS 0 rfl rfl 0 (by decide) (hw0 _ zm1_97) (fun _ h9 => h9) rfl (tyX1_ok 0 (by decide)) rfl rfl (Nat.le_of_ble_eq_true rfl) dX1_copyFrom_5 (fun H locs hP hD hS => ?_)
  have hP : va_P g.1 vwCl (zX1 g a (w.1, v.2.1, v.2.2.1, v.2.2.2.1, v.2.2.2.2) ++ zX1 g b w) H := hP
  have hD : va_D A (zX1 g a (w.1, v.2.1, v.2.2.1, v.2.2.2.1, v.2.2.2.2) ++ zX1 g b w) := hD
  refine lv_aload_n hx hb dX1_copyFrom_8 rfl (lv_at hl 1 rfl) ?_
  refine va_get (D := g.1) (ci := 1) (v := .ref (b 1)) (C := RX1) (T := TX1) (N := 5) hx hb hw0 ziX1 hown hK.1 hP 7 rfl rfl 1 (by decide) (hw0 _ zm1_101) (fun _ h9 => h9) rfl dX1_copyFrom_9 ?_
  refine lv_iconst (v := 0) hx hb dX1_copyFrom_12 (by decide) ?_
  refine lv_aload_n hx hb dX1_copyFrom_13 rfl (lv_at hl 0 rfl) ?_
  refine va_get (D := g.1) (ci := 1) (v := .ref (a 1)) (C := RX1) (T := TX1) (N := 5) hx hb hw0 ziX1 hown hK.1 hP 0 rfl rfl 1 (by decide) (hw0 _ zm1_101) (fun _ h9 => h9) rfl dX1_copyFrom_14 ?_
  refine lv_iconst (v := 0) hx hb dX1_copyFrom_17 (by decide) ?_
  refine lv_bipush (v := 10) hx hb dX1_copyFrom_18 (by decide) ?_
  refine va_copyi (D := g.1) (f := w.2.1) (g := v.2.1) hx hb (hml.trans hl.1.symm) hown (hw0 _ zm2_108) (hw0 _ zm2_103) (hw0 _ zm2_102) (hw0 _ zm1_14) hK.1 hP hD hS 8 1 0 0 rfl rfl rfl rfl rfl (by decide) (by decide) (by decide) (by decide) (by decide) (fun _ _ => rfl) (Nat.le_of_ble_eq_true rfl) (by decide) dX1_copyFrom_20 (fun H locs hP hD hS => ?_)
  have hP : va_P g.1 vwCl (zX1 g a (w.1, (va_cpy w.2.1 v.2.1 0 0 10), v.2.2.1, v.2.2.2.1, v.2.2.2.2) ++ zX1 g b w) H := hP
  have hD : va_D A (zX1 g a (w.1, (va_cpy w.2.1 v.2.1 0 0 10), v.2.2.1, v.2.2.2.1, v.2.2.2.2) ++ zX1 g b w) := hD
  refine lv_aload_n hx hb dX1_copyFrom_23 rfl (lv_at hl 1 rfl) ?_
  refine va_get (D := g.1) (ci := 1) (v := .ref (b 2)) (C := RX1) (T := TX1) (N := 5) hx hb hw0 ziX1 hown hK.1 hP 7 rfl rfl 2 (by decide) (hw0 _ zm1_104) (fun _ h9 => h9) rfl dX1_copyFrom_24 ?_
  refine lv_iconst (v := 0) hx hb dX1_copyFrom_27 (by decide) ?_
  refine lv_aload_n hx hb dX1_copyFrom_28 rfl (lv_at hl 0 rfl) ?_
  refine va_get (D := g.1) (ci := 1) (v := .ref (a 2)) (C := RX1) (T := TX1) (N := 5) hx hb hw0 ziX1 hown hK.1 hP 0 rfl rfl 2 (by decide) (hw0 _ zm1_104) (fun _ h9 => h9) rfl dX1_copyFrom_29 ?_
  refine lv_iconst (v := 0) hx hb dX1_copyFrom_32 (by decide) ?_
  refine lv_bipush (v := 10) hx hb dX1_copyFrom_33 (by decide) ?_
  refine va_copyi (D := g.1) (f := w.2.2.1) (g := v.2.2.1) hx hb (hml.trans hl.1.symm) hown (hw0 _ zm2_108) (hw0 _ zm2_103) (hw0 _ zm2_102) (hw0 _ zm1_14) hK.1 hP hD hS 9 2 0 0 rfl rfl rfl rfl rfl (by decide) (by decide) (by decide) (by decide) (by decide) (fun _ _ => rfl) (Nat.le_of_ble_eq_true rfl) (by decide) dX1_copyFrom_35 (fun H locs hP hD hS => ?_)
  have hP : va_P g.1 vwCl (zX1 g a (w.1, (va_cpy w.2.1 v.2.1 0 0 10), (va_cpy w.2.2.1 v.2.2.1 0 0 10), v.2.2.2.1, v.2.2.2.2) ++ zX1 g b w) H := hP
  have hD : va_D A (zX1 g a (w.1, (va_cpy w.2.1 v.2.1 0 0 10), (va_cpy w.2.2.1 v.2.2.1 0 0 10), v.2.2.2.1, v.2.2.2.2) ++ zX1 g b w) := hD
  refine lv_aload_n hx hb dX1_copyFrom_38 rfl (lv_at hl 1 rfl) ?_
  refine va_get (D := g.1) (ci := 1) (v := .ref (b 3)) (C := RX1) (T := TX1) (N := 5) hx hb hw0 ziX1 hown hK.1 hP 7 rfl rfl 3 (by decide) (hw0 _ zm1_107) (fun _ h9 => h9) rfl dX1_copyFrom_39 ?_
  refine lv_iconst (v := 0) hx hb dX1_copyFrom_42 (by decide) ?_
  refine lv_aload_n hx hb dX1_copyFrom_43 rfl (lv_at hl 0 rfl) ?_
  refine va_get (D := g.1) (ci := 1) (v := .ref (a 3)) (C := RX1) (T := TX1) (N := 5) hx hb hw0 ziX1 hown hK.1 hP 0 rfl rfl 3 (by decide) (hw0 _ zm1_107) (fun _ h9 => h9) rfl dX1_copyFrom_44 ?_
  refine lv_iconst (v := 0) hx hb dX1_copyFrom_47 (by decide) ?_
  refine lv_bipush (v := 10) hx hb dX1_copyFrom_48 (by decide) ?_
  refine va_copyi (D := g.1) (f := w.2.2.2.1) (g := v.2.2.2.1) hx hb (hml.trans hl.1.symm) hown (hw0 _ zm2_108) (hw0 _ zm2_103) (hw0 _ zm2_102) (hw0 _ zm1_14) hK.1 hP hD hS 10 3 0 0 rfl rfl rfl rfl rfl (by decide) (by decide) (by decide) (by decide) (by decide) (fun _ _ => rfl) (Nat.le_of_ble_eq_true rfl) (by decide) dX1_copyFrom_50 (fun H locs hP hD hS => ?_)
  have hP : va_P g.1 vwCl (zX1 g a (w.1, (va_cpy w.2.1 v.2.1 0 0 10), (va_cpy w.2.2.1 v.2.2.1 0 0 10), (va_cpy w.2.2.2.1 v.2.2.2.1 0 0 10), v.2.2.2.2) ++ zX1 g b w) H := hP
  have hD : va_D A (zX1 g a (w.1, (va_cpy w.2.1 v.2.1 0 0 10), (va_cpy w.2.2.1 v.2.2.1 0 0 10), (va_cpy w.2.2.2.1 v.2.2.2.1 0 0 10), v.2.2.2.2) ++ zX1 g b w) := hD
  have hR : (w.1, (va_cpy w.2.1 v.2.1 0 0 10), (va_cpy w.2.2.1 v.2.2.1 0 0 10), (va_cpy w.2.2.2.1 v.2.2.2.1 0 0 10), v.2.2.2.2) = r := Option.some.inj hf
  subst hR
  exact W.vret hx hb hr0 (fun t ht hW => ⟨⟨(), rfl, trivial, by rw [ht]; exact hP, hD⟩, hS.F ht⟩) hS.2.2 dX1_copyFrom_53
theorem hd_X1_add : yX1_add.cls ≠ "java/lang/invoke/MethodHandle" ∧ yX1_add.cls ≠ "java/lang/invoke/VarHandle" ∧ (parseMethodDescriptor yX1_add.desc).map (fun d => d.parameters.length) = some 1 := by decide +kernel
def f_X1_add (v : FV) (p0 : Int32) : Option (FV) :=
  if v.1 < 10 then
    if zin v.1 10 = true then
    if zin v.1 10 = true then
    if zin v.1 10 = true then
    some ((v.1 + 1), (upd v.2.1 v.1.toNatClampNeg p0), (upd v.2.2.1 v.1.toNatClampNeg 0), (upd v.2.2.2.1 v.1.toNatClampNeg (-1)), v.2.2.2.2)
    else none
    else none
    else none
  else
    some v
set_option maxHeartbeats 4000000 in
set_option maxRecDepth 100000 in
theorem c_X1_add (l : Launch) (g : zG) (a : Nat → Nat) (v : FV) (p0 : Int32) (r : FV) (hf : f_X1_add v p0 = some r) : zMv zNF zNM l yX1_add (zw yX1_add cX1_add 2 none) ({ frames := 0, cells := 0, slots := 0, locals := 0 } : Room) g [.ref (a 0), .int p0] (zX1 g a v) (zX1 g a r) := by
  intro sz
  refine Met.ofW (cc := cX1_add) (maxL := 2) (ret := none) (by decide) rfl ?_
  intro p e s m args below meth c s₁ B hml hv
  obtain ⟨rfl, hsz, hP, hK, hD0⟩ := hv
  have hx := B.exec
  have hb := B.bytes
  have hr0 := B.returns
  have hts := atoms_spec (ws := (zw yX1_add cX1_add 2 none)) B.pre
  have hw0 : ∀ w ∈ zW, w.before ([.ref (a 0), .int p0] : List Value).toArray s = true := fun w h => hts w (List.mem_cons_of_mem _ h)
  have hown : s.vm.findClass RX1 = some m.cls := findClass_of_methodNamed B.named
  have hlocks := B.notSynchronized
  subst hsz
  have hD := hD0.self (sz := s.heap.size)
  generalize hAe : va_A (zX1 g a v) s.heap.size = A at hD ⊢
  have hA : ∀ q : Nat, s.heap.size ≤ q → A q := fun q h => by rw [← hAe]; exact Or.inr h
  have hS : va_S A s.heap s.heap [] := va_S.rf
  unfold f_X1_add at hf
  have hl := lv_entry ([.ref (a 0), .int p0]) (n := 2) (Nat.le_of_ble_eq_true rfl)
  rw [lg_entry_eq]
  generalize (lg_sl ([.ref (a 0), .int p0]) ++ List.replicate (2 - (lg_sl ([.ref (a 0), .int p0])).length) Slot.unset).toArray = ls at hl ⊢
  have hl : lv_has ls 2 [(0, .ref (a 0)), (1, .int p0)] := hl
  refine lv_aload_n hx hb dX1_add_0 rfl (lv_at hl 0 rfl) ?_
  refine va_get (D := g.1) (ci := 1) (v := .int v.1) (C := RX1) (T := TX1) (N := 5) hx hb hw0 ziX1 hown hK.1 hP 0 rfl rfl 0 (by decide) (hw0 _ zm1_97) (fun _ h9 => h9) rfl dX1_add_1 ?_
  refine lv_bipush (v := 10) hx hb dX1_add_4 (by decide) ?_
  refine lv_icmp_lt (tgt := 10) hx hb dX1_add_6 (by decide) (fun c1 => ?_) (fun c1 => ?_)
  · have hf := oi hf c1
    refine lv_aload_n hx hb dX1_add_10 rfl (lv_at hl 0 rfl) ?_
    refine va_get (D := g.1) (ci := 1) (v := .ref (a 1)) (C := RX1) (T := TX1) (N := 5) hx hb hw0 ziX1 hown hK.1 hP 0 rfl rfl 1 (by decide) (hw0 _ zm1_101) (fun _ h9 => h9) rfl dX1_add_11 ?_
    refine lv_aload_n hx hb dX1_add_14 rfl (lv_at hl 0 rfl) ?_
    refine va_get (D := g.1) (ci := 1) (v := .int v.1) (C := RX1) (T := TX1) (N := 5) hx hb hw0 ziX1 hown hK.1 hP 0 rfl rfl 0 (by decide) (hw0 _ zm1_97) (fun _ h9 => h9) rfl dX1_add_15 ?_
    refine lv_iload_n hx hb dX1_add_18 rfl (lv_at hl 1 rfl) ?_
    obtain ⟨h2, hf⟩ := og hf
    refine zast (D := g.1) (f := v.2.1) (k := v.1.toNatClampNeg) (x := p0) hx hb hK.1 hP hD hS 1 0 rfl rfl (zin_vp h2) rfl dX1_add_19 (fun H locs hP hD hS => ?_)
    have hP : va_P g.1 vwCl (zX1 g a (v.1, (upd v.2.1 v.1.toNatClampNeg p0), v.2.2.1, v.2.2.2.1, v.2.2.2.2)) H := hP
    have hD : va_D A (zX1 g a (v.1, (upd v.2.1 v.1.toNatClampNeg p0), v.2.2.1, v.2.2.2.1, v.2.2.2.2)) := hD
    refine lv_aload_n hx hb dX1_add_20 rfl (lv_at hl 0 rfl) ?_
    refine va_get (D := g.1) (ci := 1) (v := .ref (a 2)) (C := RX1) (T := TX1) (N := 5) hx hb hw0 ziX1 hown hK.1 hP 0 rfl rfl 2 (by decide) (hw0 _ zm1_104) (fun _ h9 => h9) rfl dX1_add_21 ?_
    refine lv_aload_n hx hb dX1_add_24 rfl (lv_at hl 0 rfl) ?_
    refine va_get (D := g.1) (ci := 1) (v := .int v.1) (C := RX1) (T := TX1) (N := 5) hx hb hw0 ziX1 hown hK.1 hP 0 rfl rfl 0 (by decide) (hw0 _ zm1_97) (fun _ h9 => h9) rfl dX1_add_25 ?_
    refine lv_iconst (v := 0) hx hb dX1_add_28 (by decide) ?_
    obtain ⟨h3, hf⟩ := og hf
    refine zast (D := g.1) (f := v.2.2.1) (k := v.1.toNatClampNeg) (x := 0) hx hb hK.1 hP hD hS 2 0 rfl rfl (zin_vp h3) rfl dX1_add_29 (fun H locs hP hD hS => ?_)
    have hP : va_P g.1 vwCl (zX1 g a (v.1, (upd v.2.1 v.1.toNatClampNeg p0), (upd v.2.2.1 v.1.toNatClampNeg 0), v.2.2.2.1, v.2.2.2.2)) H := hP
    have hD : va_D A (zX1 g a (v.1, (upd v.2.1 v.1.toNatClampNeg p0), (upd v.2.2.1 v.1.toNatClampNeg 0), v.2.2.2.1, v.2.2.2.2)) := hD
    refine lv_aload_n hx hb dX1_add_30 rfl (lv_at hl 0 rfl) ?_
    refine va_get (D := g.1) (ci := 1) (v := .ref (a 3)) (C := RX1) (T := TX1) (N := 5) hx hb hw0 ziX1 hown hK.1 hP 0 rfl rfl 3 (by decide) (hw0 _ zm1_107) (fun _ h9 => h9) rfl dX1_add_31 ?_
    refine lv_aload_n hx hb dX1_add_34 rfl (lv_at hl 0 rfl) ?_
    refine va_get (D := g.1) (ci := 1) (v := .int v.1) (C := RX1) (T := TX1) (N := 5) hx hb hw0 ziX1 hown hK.1 hP 0 rfl rfl 0 (by decide) (hw0 _ zm1_97) (fun _ h9 => h9) rfl dX1_add_35 ?_
    refine lv_iconst (v := (-1)) hx hb dX1_add_38 (by decide) ?_
    obtain ⟨h4, hf⟩ := og hf
    refine zast (D := g.1) (f := v.2.2.2.1) (k := v.1.toNatClampNeg) (x := (-1)) hx hb hK.1 hP hD hS 3 0 rfl rfl (zin_vp h4) rfl dX1_add_39 (fun H locs hP hD hS => ?_)
    have hP : va_P g.1 vwCl (zX1 g a (v.1, (upd v.2.1 v.1.toNatClampNeg p0), (upd v.2.2.1 v.1.toNatClampNeg 0), (upd v.2.2.2.1 v.1.toNatClampNeg (-1)), v.2.2.2.2)) H := hP
    have hD : va_D A (zX1 g a (v.1, (upd v.2.1 v.1.toNatClampNeg p0), (upd v.2.2.1 v.1.toNatClampNeg 0), (upd v.2.2.2.1 v.1.toNatClampNeg (-1)), v.2.2.2.2)) := hD
    refine lv_aload_n hx hb dX1_add_40 rfl (lv_at hl 0 rfl) ?_
    refine lv_dup hx hb dX1_add_41 rfl ?_
    refine va_get (D := g.1) (ci := 1) (v := .int v.1) (C := RX1) (T := TX1) (N := 5) hx hb hw0 ziX1 hown hK.1 hP 0 rfl rfl 0 (by decide) (hw0 _ zm1_97) (fun _ h9 => h9) rfl dX1_add_42 ?_
    refine lv_iconst (v := 1) hx hb dX1_add_45 (by decide) ?_
    refine lv_iadd hx hb dX1_add_46 ?_
    refine va_put (D := g.1) (ci := 1) (v := .int (v.1 + 1)) (ty := .int) (C := RX1) (T := TX1) (N := 5) hx hb hw0 ziX1 tyX1 tyX1_ok nmX1 hown hK.1 hP hD hS 0 rfl rfl 0 (by decide) (hw0 _ zm1_97) (fun _ h9 => h9) rfl (tyX1_ok 0 (by decide)) rfl rfl (Nat.le_of_ble_eq_true rfl) dX1_add_47 (fun H locs hP hD hS => ?_)
    have hP : va_P g.1 vwCl (zX1 g a ((v.1 + 1), (upd v.2.1 v.1.toNatClampNeg p0), (upd v.2.2.1 v.1.toNatClampNeg 0), (upd v.2.2.2.1 v.1.toNatClampNeg (-1)), v.2.2.2.2)) H := hP
    have hD : va_D A (zX1 g a ((v.1 + 1), (upd v.2.1 v.1.toNatClampNeg p0), (upd v.2.2.1 v.1.toNatClampNeg 0), (upd v.2.2.2.1 v.1.toNatClampNeg (-1)), v.2.2.2.2)) := hD
    have hR : ((v.1 + 1), (upd v.2.1 v.1.toNatClampNeg p0), (upd v.2.2.1 v.1.toNatClampNeg 0), (upd v.2.2.2.1 v.1.toNatClampNeg (-1)), v.2.2.2.2) = r := Option.some.inj hf
    subst hR
    exact W.vret hx hb hr0 (fun t ht hW => ⟨⟨(), rfl, trivial, by rw [ht]; exact hP, hD⟩, hS.F ht⟩) hS.2.2 dX1_add_50
  · have hf := oe hf c1
    have hR : v = r := Option.some.inj hf
    subst hR
    exact W.vret hx hb hr0 (fun t ht hW => ⟨⟨(), rfl, trivial, by rw [ht]; exact hP, hD⟩, hS.F ht⟩) hS.2.2 dX1_add_9
theorem hd_X1_allWait : yX1_allWait.cls ≠ "java/lang/invoke/MethodHandle" ∧ yX1_allWait.cls ≠ "java/lang/invoke/VarHandle" ∧ (parseMethodDescriptor yX1_allWait.desc).map (fun d => d.parameters.length) = some 0 := by decide +kernel
def s_X1_allWait_2 (v : FV) (x : Int32 × FF × FF) : Option ((Int32 × FF × FF) ⊕ (Int32 × FF × FF)) :=
  if v.1 ≤ x.1 then
    some (.inr (x.1, x.2.1, x.2.2))
  else
    if zin x.1 10 = true then
    if zin x.1 10 = true then
    some (.inl ((x.1 + 1), (upd x.2.1 x.1.toNatClampNeg 0), (upd x.2.2 x.1.toNatClampNeg (-1))))
    else none
    else none
def f_X1_allWait (v : FV) : Option (FV) :=
  (zloop (s_X1_allWait_2 v) 4096 (0, v.2.2.1, v.2.2.2.1)).bind (fun u4 =>
  some (v.1, v.2.1, u4.2.1, u4.2.2, v.2.2.2.2))
set_option maxHeartbeats 4000000 in
set_option maxRecDepth 100000 in
theorem c_X1_allWait (l : Launch) (g : zG) (a : Nat → Nat) (v : FV) (r : FV) (hf : f_X1_allWait v = some r) : zMv zNF zNM l yX1_allWait (zw yX1_allWait cX1_allWait 2 none) ({ frames := 0, cells := 0, slots := 0, locals := 0 } : Room) g [.ref (a 0)] (zX1 g a v) (zX1 g a r) := by
  intro sz
  refine Met.ofW (cc := cX1_allWait) (maxL := 2) (ret := none) (by decide) rfl ?_
  intro p e s m args below meth c s₁ B hml hv
  obtain ⟨rfl, hsz, hP, hK, hD0⟩ := hv
  have hx := B.exec
  have hb := B.bytes
  have hr0 := B.returns
  have hts := atoms_spec (ws := (zw yX1_allWait cX1_allWait 2 none)) B.pre
  have hw0 : ∀ w ∈ zW, w.before ([.ref (a 0)] : List Value).toArray s = true := fun w h => hts w (List.mem_cons_of_mem _ h)
  have hown : s.vm.findClass RX1 = some m.cls := findClass_of_methodNamed B.named
  have hlocks := B.notSynchronized
  subst hsz
  have hD := hD0.self (sz := s.heap.size)
  generalize hAe : va_A (zX1 g a v) s.heap.size = A at hD ⊢
  have hA : ∀ q : Nat, s.heap.size ≤ q → A q := fun q h => by rw [← hAe]; exact Or.inr h
  have hS : va_S A s.heap s.heap [] := va_S.rf
  have lp2 : ∀ (v : FV), ∀ (n : Nat) (x : Int32 × FF × FF) (rr : Int32 × FF × FF), zloop (s_X1_allWait_2 v) n x = some rr → (∀ (H : Heap) (locs : List Loc), va_P g.1 vwCl (zX1 g a (v.1, v.2.1, rr.2.1, rr.2.2, v.2.2.2.2)) H → va_D A (zX1 g a (v.1, v.2.1, rr.2.1, rr.2.2, v.2.2.2.2)) → va_S A s.heap H locs → ∀ ls : Array Slot, lv_has ls 2 [] → W p l e (headSpec (zw yX1_allWait cX1_allWait 2 none) ({ frames := 0, cells := 0, slots := 0, locals := 0 } : Room)).room s m ([.ref (a 0)] : List Value).toArray below meth c H locs 0 0 (MQ below (va_Qv (fun (_ : Unit) => True) (fun _ => zEnd g A (zX1 g a r)) A) ([.ref (a 0)] : List Value).toArray s 0 0 A) (F0 m 30 ls [])) → ∀ (H : Heap) (locs : List Loc), va_P g.1 vwCl (zX1 g a (v.1, v.2.1, x.2.1, x.2.2, v.2.2.2.2)) H → va_D A (zX1 g a (v.1, v.2.1, x.2.1, x.2.2, v.2.2.2.2)) → va_S A s.heap H locs → ∀ ls : Array Slot, lv_has ls 2 [(0, .ref (a 0)), (1, .int x.1)] → W p l e (headSpec (zw yX1_allWait cX1_allWait 2 none) ({ frames := 0, cells := 0, slots := 0, locals := 0 } : Room)).room s m ([.ref (a 0)] : List Value).toArray below meth c H locs 0 0 (MQ below (va_Qv (fun (_ : Unit) => True) (fun _ => zEnd g A (zX1 g a r)) A) ([.ref (a 0)] : List Value).toArray s 0 0 A) (F0 m 2 ls []) := by
    intro v
    refine zloop_ind ?_
    intro x y rr hf ih hr hQ H locs hP hD hS ls hl
    unfold s_X1_allWait_2 at hf
    refine lv_iload_n hx hb dX1_allWait_2 rfl (lv_at hl 1 rfl) ?_
    refine lv_aload_n hx hb dX1_allWait_3 rfl (lv_at hl 0 rfl) ?_
    refine va_get (D := g.1) (ci := 1) (v := .int v.1) (C := RX1) (T := TX1) (N := 5) hx hb hw0 ziX1 hown hK.1 hP 0 rfl rfl 0 (by decide) (hw0 _ zm1_97) (fun _ h9 => h9) rfl dX1_allWait_4 ?_
    refine lv_icmp_ge (tgt := 30) hx hb dX1_allWait_7 (by decide) (fun c1 => ?_) (fun c1 => ?_)
    · have hf := oi hf c1
      have hR : (x.1, x.2.1, x.2.2) = rr := hr _ (Option.some.inj hf).symm
      subst hR
      exact hQ _ _ hP hD hS _ (lv_sub hl [] rfl)
    · have hf := oe hf c1
      refine lv_aload_n hx hb dX1_allWait_10 rfl (lv_at hl 0 rfl) ?_
      refine va_get (D := g.1) (ci := 1) (v := .ref (a 2)) (C := RX1) (T := TX1) (N := 5) hx hb hw0 ziX1 hown hK.1 hP 0 rfl rfl 2 (by decide) (hw0 _ zm1_104) (fun _ h9 => h9) rfl dX1_allWait_11 ?_
      refine lv_iload_n hx hb dX1_allWait_14 rfl (lv_at hl 1 rfl) ?_
      refine lv_iconst (v := 0) hx hb dX1_allWait_15 (by decide) ?_
      obtain ⟨h2, hf⟩ := og hf
      refine zast (D := g.1) (f := x.2.1) (k := x.1.toNatClampNeg) (x := 0) hx hb hK.1 hP hD hS 2 0 rfl rfl (zin_vp h2) rfl dX1_allWait_16 (fun H locs hP hD hS => ?_)
      have hP : va_P g.1 vwCl (zX1 g a (v.1, v.2.1, (upd x.2.1 x.1.toNatClampNeg 0), x.2.2, v.2.2.2.2)) H := hP
      have hD : va_D A (zX1 g a (v.1, v.2.1, (upd x.2.1 x.1.toNatClampNeg 0), x.2.2, v.2.2.2.2)) := hD
      refine lv_aload_n hx hb dX1_allWait_17 rfl (lv_at hl 0 rfl) ?_
      refine va_get (D := g.1) (ci := 1) (v := .ref (a 3)) (C := RX1) (T := TX1) (N := 5) hx hb hw0 ziX1 hown hK.1 hP 0 rfl rfl 3 (by decide) (hw0 _ zm1_107) (fun _ h9 => h9) rfl dX1_allWait_18 ?_
      refine lv_iload_n hx hb dX1_allWait_21 rfl (lv_at hl 1 rfl) ?_
      refine lv_iconst (v := (-1)) hx hb dX1_allWait_22 (by decide) ?_
      obtain ⟨h3, hf⟩ := og hf
      refine zast (D := g.1) (f := x.2.2) (k := x.1.toNatClampNeg) (x := (-1)) hx hb hK.1 hP hD hS 3 0 rfl rfl (zin_vp h3) rfl dX1_allWait_23 (fun H locs hP hD hS => ?_)
      have hP : va_P g.1 vwCl (zX1 g a (v.1, v.2.1, (upd x.2.1 x.1.toNatClampNeg 0), (upd x.2.2 x.1.toNatClampNeg (-1)), v.2.2.2.2)) H := hP
      have hD : va_D A (zX1 g a (v.1, v.2.1, (upd x.2.1 x.1.toNatClampNeg 0), (upd x.2.2 x.1.toNatClampNeg (-1)), v.2.2.2.2)) := hD
      refine lv_iinc (v := (x.1 + 1)) (lv' := [(1, .int (x.1 + 1)), (0, .ref (a 0))]) hx hb dX1_allWait_24 hl (k := 1) rfl rfl (by decide) rfl (fun ls hl => ?_)
      refine lv_goto (tgt := 2) hx hb dX1_allWait_27 (by decide) ?_
      exact ih ((x.1 + 1), (upd x.2.1 x.1.toNatClampNeg 0), (upd x.2.2 x.1.toNatClampNeg (-1))) (Option.some.inj hf).symm hQ _ _ hP hD hS _ (lv_sub hl [1, 0] rfl)
  unfold f_X1_allWait at hf
  have hl := lv_entry ([.ref (a 0)]) (n := 2) (Nat.le_of_ble_eq_true rfl)
  rw [lg_entry_eq]
  generalize (lg_sl ([.ref (a 0)]) ++ List.replicate (2 - (lg_sl ([.ref (a 0)])).length) Slot.unset).toArray = ls at hl ⊢
  have hl : lv_has ls 2 [(0, .ref (a 0))] := hl
  refine lv_iconst (v := 0) hx hb dX1_allWait_0 (by decide) ?_
  refine lv_istore_n (lv' := [(1, .int 0), (0, .ref (a 0))]) hx hb dX1_allWait_1 rfl hl (by decide) rfl (fun ls hl => ?_)
  obtain ⟨u4, hu4, hf⟩ := ob hf
  refine lp2 v _ _ u4 hu4 (fun H locs hP hD hS ls hl => ?_) _ _ hP hD hS _ (lv_sub hl [1, 0] rfl)
  have hl : lv_has ls 2 [] := hl
  have hP : va_P g.1 vwCl (zX1 g a (v.1, v.2.1, u4.2.1, u4.2.2, v.2.2.2.2)) H := hP
  have hD : va_D A (zX1 g a (v.1, v.2.1, u4.2.1, u4.2.2, v.2.2.2.2)) := hD
  have hR : (v.1, v.2.1, u4.2.1, u4.2.2, v.2.2.2.2) = r := Option.some.inj hf
  subst hR
  exact W.vret hx hb hr0 (fun t ht hW => ⟨⟨(), rfl, trivial, by rw [ht]; exact hP, hD⟩, hS.F ht⟩) hS.2.2 dX1_allWait_30
theorem hd_X1_has : yX1_has.cls ≠ "java/lang/invoke/MethodHandle" ∧ yX1_has.cls ≠ "java/lang/invoke/VarHandle" ∧ (parseMethodDescriptor yX1_has.desc).map (fun d => d.parameters.length) = some 1 := by decide +kernel
def f_X1_has (v : FV) (p0 : Int32) : Option (Bool) :=
  if p0 < 0 then
    some false
  else
    if v.1 ≤ p0 then
      some false
    else
      some true
set_option maxHeartbeats 4000000 in
set_option maxRecDepth 100000 in
theorem c_X1_has (l : Launch) (g : zG) (a : Nat → Nat) (v : FV) (p0 : Int32) (r : Bool) (hf : f_X1_has v p0 = some r) : zMi zNF zNM l yX1_has (zw yX1_has cX1_has 2 (some .boolean)) ({ frames := 0, cells := 0, slots := 0, locals := 0 } : Room) g [.ref (a 0), .int p0] (zX1 g a v) (zb r) (zX1 g a v) := by
  intro sz
  refine Met.ofW (cc := cX1_has) (maxL := 2) (ret := (some .boolean)) (by decide) rfl ?_
  intro p e s m args below meth c s₁ B hml hv
  obtain ⟨rfl, hsz, hP, hK, hD0⟩ := hv
  have hx := B.exec
  have hb := B.bytes
  have hr0 := B.returns
  have hts := atoms_spec (ws := (zw yX1_has cX1_has 2 (some .boolean))) B.pre
  have hw0 : ∀ w ∈ zW, w.before ([.ref (a 0), .int p0] : List Value).toArray s = true := fun w h => hts w (List.mem_cons_of_mem _ h)
  have hown : s.vm.findClass RX1 = some m.cls := findClass_of_methodNamed B.named
  have hlocks := B.notSynchronized
  subst hsz
  have hD := hD0.self (sz := s.heap.size)
  generalize hAe : va_A (zX1 g a v) s.heap.size = A at hD ⊢
  have hA : ∀ q : Nat, s.heap.size ≤ q → A q := fun q h => by rw [← hAe]; exact Or.inr h
  have hS : va_S A s.heap s.heap [] := va_S.rf
  unfold f_X1_has at hf
  have hl := lv_entry ([.ref (a 0), .int p0]) (n := 2) (Nat.le_of_ble_eq_true rfl)
  rw [lg_entry_eq]
  generalize (lg_sl ([.ref (a 0), .int p0]) ++ List.replicate (2 - (lg_sl ([.ref (a 0), .int p0])).length) Slot.unset).toArray = ls at hl ⊢
  have hl : lv_has ls 2 [(0, .ref (a 0)), (1, .int p0)] := hl
  refine lv_iload_n hx hb dX1_has_0 rfl (lv_at hl 1 rfl) ?_
  refine lv_if_lt (tgt := 16) hx hb dX1_has_1 (by decide) (fun c1 => ?_) (fun c1 => ?_)
  · have hf := oi hf c1
    refine lv_iconst (v := 0) hx hb dX1_has_16 (by decide) ?_
    have hR : false = r := Option.some.inj hf
    subst hR
    exact W.zret (v := zb false) hx hb hr0 (zb_nar false) (fun t ht hW => ⟨⟨zb false, (), rfl, rfl, by rw [ht]; exact hP, hD⟩, hS.F ht⟩) hS.2.2 dX1_has_17
  · have hf := oe hf c1
    refine lv_iload_n hx hb dX1_has_4 rfl (lv_at hl 1 rfl) ?_
    refine lv_aload_n hx hb dX1_has_5 rfl (lv_at hl 0 rfl) ?_
    refine va_get (D := g.1) (ci := 1) (v := .int v.1) (C := RX1) (T := TX1) (N := 5) hx hb hw0 ziX1 hown hK.1 hP 0 rfl rfl 0 (by decide) (hw0 _ zm1_97) (fun _ h9 => h9) rfl dX1_has_6 ?_
    refine lv_icmp_ge (tgt := 16) hx hb dX1_has_9 (by decide) (fun c2 => ?_) (fun c2 => ?_)
    · have hf := oi hf c2
      refine lv_iconst (v := 0) hx hb dX1_has_16 (by decide) ?_
      have hR : false = r := Option.some.inj hf
      subst hR
      exact W.zret (v := zb false) hx hb hr0 (zb_nar false) (fun t ht hW => ⟨⟨zb false, (), rfl, rfl, by rw [ht]; exact hP, hD⟩, hS.F ht⟩) hS.2.2 dX1_has_17
    · have hf := oe hf c2
      refine lv_iconst (v := 1) hx hb dX1_has_12 (by decide) ?_
      refine lv_goto (tgt := 17) hx hb dX1_has_13 (by decide) ?_
      have hR : true = r := Option.some.inj hf
      subst hR
      exact W.zret (v := zb true) hx hb hr0 (zb_nar true) (fun t ht hW => ⟨⟨zb true, (), rfl, rfl, by rw [ht]; exact hP, hD⟩, hS.F ht⟩) hS.2.2 dX1_has_17
theorem hd_X1_countThatWait : yX1_countThatWait.cls ≠ "java/lang/invoke/MethodHandle" ∧ yX1_countThatWait.cls ≠ "java/lang/invoke/VarHandle" ∧ (parseMethodDescriptor yX1_countThatWait.desc).map (fun d => d.parameters.length) = some 0 := by decide +kernel
def s_X1_countThatWait_4 (v : FV) (x : Int32 × Int32) : Option ((Int32 × Int32) ⊕ (Int32 × Int32)) :=
  if v.1 ≤ x.2 then
    some (.inr (x.1, x.2))
  else
    if zin x.2 10 = true then
    if (v.2.2.1 x.2.toNatClampNeg) = 0 then
      some (.inl ((x.1 + 1), (x.2 + 1)))
    else
      some (.inl (x.1, (x.2 + 1)))
    else none
def f_X1_countThatWait (v : FV) : Option (Int32) :=
  (zloop (s_X1_countThatWait_4 v) 4096 (0, 0)).bind (fun u4 =>
  some u4.1)
set_option maxHeartbeats 4000000 in
set_option maxRecDepth 100000 in
theorem c_X1_countThatWait (l : Launch) (g : zG) (a : Nat → Nat) (v : FV) (r : Int32) (hf : f_X1_countThatWait v = some r) : zMi zNF zNM l yX1_countThatWait (zw yX1_countThatWait cX1_countThatWait 3 (some .int)) ({ frames := 0, cells := 0, slots := 0, locals := 0 } : Room) g [.ref (a 0)] (zX1 g a v) r (zX1 g a v) := by
  intro sz
  refine Met.ofW (cc := cX1_countThatWait) (maxL := 3) (ret := (some .int)) (by decide) rfl ?_
  intro p e s m args below meth c s₁ B hml hv
  obtain ⟨rfl, hsz, hP, hK, hD0⟩ := hv
  have hx := B.exec
  have hb := B.bytes
  have hr0 := B.returns
  have hts := atoms_spec (ws := (zw yX1_countThatWait cX1_countThatWait 3 (some .int))) B.pre
  have hw0 : ∀ w ∈ zW, w.before ([.ref (a 0)] : List Value).toArray s = true := fun w h => hts w (List.mem_cons_of_mem _ h)
  have hown : s.vm.findClass RX1 = some m.cls := findClass_of_methodNamed B.named
  have hlocks := B.notSynchronized
  subst hsz
  have hD := hD0.self (sz := s.heap.size)
  generalize hAe : va_A (zX1 g a v) s.heap.size = A at hD ⊢
  have hA : ∀ q : Nat, s.heap.size ≤ q → A q := fun q h => by rw [← hAe]; exact Or.inr h
  have hS : va_S A s.heap s.heap [] := va_S.rf
  have lp4 : ∀ (v : FV), ∀ (n : Nat) (x : Int32 × Int32) (rr : Int32 × Int32), zloop (s_X1_countThatWait_4 v) n x = some rr → (∀ (H : Heap) (locs : List Loc), va_P g.1 vwCl (zX1 g a v) H → va_D A (zX1 g a v) → va_S A s.heap H locs → ∀ ls : Array Slot, lv_has ls 3 [(1, .int rr.1)] → W p l e (headSpec (zw yX1_countThatWait cX1_countThatWait 3 (some .int)) ({ frames := 0, cells := 0, slots := 0, locals := 0 } : Room)).room s m ([.ref (a 0)] : List Value).toArray below meth c H locs 0 0 (MQ below (va_Qi (fun (x : Int32) (_ : Unit) => x = r) (fun _ => zEnd g A (zX1 g a v)) A) ([.ref (a 0)] : List Value).toArray s 0 0 A) (F0 m 30 ls [])) → ∀ (H : Heap) (locs : List Loc), va_P g.1 vwCl (zX1 g a v) H → va_D A (zX1 g a v) → va_S A s.heap H locs → ∀ ls : Array Slot, lv_has ls 3 [(0, .ref (a 0)), (1, .int x.1), (2, .int x.2)] → W p l e (headSpec (zw yX1_countThatWait cX1_countThatWait 3 (some .int)) ({ frames := 0, cells := 0, slots := 0, locals := 0 } : Room)).room s m ([.ref (a 0)] : List Value).toArray below meth c H locs 0 0 (MQ below (va_Qi (fun (x : Int32) (_ : Unit) => x = r) (fun _ => zEnd g A (zX1 g a v)) A) ([.ref (a 0)] : List Value).toArray s 0 0 A) (F0 m 4 ls []) := by
    intro v
    refine zloop_ind ?_
    intro x y rr hf ih hr hQ H locs hP hD hS ls hl
    unfold s_X1_countThatWait_4 at hf
    refine lv_iload_n hx hb dX1_countThatWait_4 rfl (lv_at hl 2 rfl) ?_
    refine lv_aload_n hx hb dX1_countThatWait_5 rfl (lv_at hl 0 rfl) ?_
    refine va_get (D := g.1) (ci := 1) (v := .int v.1) (C := RX1) (T := TX1) (N := 5) hx hb hw0 ziX1 hown hK.1 hP 0 rfl rfl 0 (by decide) (hw0 _ zm1_97) (fun _ h9 => h9) rfl dX1_countThatWait_6 ?_
    refine lv_icmp_ge (tgt := 30) hx hb dX1_countThatWait_9 (by decide) (fun c1 => ?_) (fun c1 => ?_)
    · have hf := oi hf c1
      have hR : (x.1, x.2) = rr := hr _ (Option.some.inj hf).symm
      subst hR
      exact hQ _ _ hP hD hS _ (lv_sub hl [1] rfl)
    · have hf := oe hf c1
      refine lv_aload_n hx hb dX1_countThatWait_12 rfl (lv_at hl 0 rfl) ?_
      refine va_get (D := g.1) (ci := 1) (v := .ref (a 2)) (C := RX1) (T := TX1) (N := 5) hx hb hw0 ziX1 hown hK.1 hP 0 rfl rfl 2 (by decide) (hw0 _ zm1_104) (fun _ h9 => h9) rfl dX1_countThatWait_13 ?_
      refine lv_iload_n hx hb dX1_countThatWait_16 rfl (lv_at hl 2 rfl) ?_
      obtain ⟨h2, hf⟩ := og hf
      refine zald (D := g.1) (f := v.2.2.1) (k := x.2.toNatClampNeg) hx hb hK.1 hP 2 0 rfl rfl (zin_vp h2) rfl dX1_countThatWait_17 ?_
      refine lv_if_ne (tgt := 24) hx hb dX1_countThatWait_18 (by decide) (fun c3 => ?_) (fun c3 => ?_)
      · have hf := oe hf c3
        refine lv_iinc (v := (x.2 + 1)) (lv' := [(2, .int (x.2 + 1)), (0, .ref (a 0)), (1, .int x.1)]) hx hb dX1_countThatWait_24 hl (k := 2) rfl rfl (by decide) rfl (fun ls hl => ?_)
        refine lv_goto (tgt := 4) hx hb dX1_countThatWait_27 (by decide) ?_
        exact ih (x.1, (x.2 + 1)) (Option.some.inj hf).symm hQ _ _ hP hD hS _ (lv_sub hl [1, 2, 0] rfl)
      · have hf := oi hf c3
        refine lv_iinc (v := (x.1 + 1)) (lv' := [(1, .int (x.1 + 1)), (0, .ref (a 0)), (2, .int x.2)]) hx hb dX1_countThatWait_21 hl (k := 1) rfl rfl (by decide) rfl (fun ls hl => ?_)
        refine lv_iinc (v := (x.2 + 1)) (lv' := [(2, .int (x.2 + 1)), (1, .int (x.1 + 1)), (0, .ref (a 0))]) hx hb dX1_countThatWait_24 hl (k := 2) rfl rfl (by decide) rfl (fun ls hl => ?_)
        refine lv_goto (tgt := 4) hx hb dX1_countThatWait_27 (by decide) ?_
        exact ih ((x.1 + 1), (x.2 + 1)) (Option.some.inj hf).symm hQ _ _ hP hD hS _ (lv_sub hl [2, 1, 0] rfl)
  unfold f_X1_countThatWait at hf
  have hl := lv_entry ([.ref (a 0)]) (n := 3) (Nat.le_of_ble_eq_true rfl)
  rw [lg_entry_eq]
  generalize (lg_sl ([.ref (a 0)]) ++ List.replicate (3 - (lg_sl ([.ref (a 0)])).length) Slot.unset).toArray = ls at hl ⊢
  have hl : lv_has ls 3 [(0, .ref (a 0))] := hl
  refine lv_iconst (v := 0) hx hb dX1_countThatWait_0 (by decide) ?_
  refine lv_istore_n (lv' := [(1, .int 0), (0, .ref (a 0))]) hx hb dX1_countThatWait_1 rfl hl (by decide) rfl (fun ls hl => ?_)
  refine lv_iconst (v := 0) hx hb dX1_countThatWait_2 (by decide) ?_
  refine lv_istore_n (lv' := [(2, .int 0), (1, .int 0), (0, .ref (a 0))]) hx hb dX1_countThatWait_3 rfl hl (by decide) rfl (fun ls hl => ?_)
  obtain ⟨u4, hu4, hf⟩ := ob hf
  refine lp4 v _ _ u4 hu4 (fun H locs hP hD hS ls hl => ?_) _ _ hP hD hS _ (lv_sub hl [2, 1, 0] rfl)
  have hl : lv_has ls 3 [(1, .int u4.1)] := hl
  have hP : va_P g.1 vwCl (zX1 g a v) H := hP
  have hD : va_D A (zX1 g a v) := hD
  refine lv_iload_n hx hb dX1_countThatWait_30 rfl (lv_at hl 0 rfl) ?_
  have hR : u4.1 = r := Option.some.inj hf
  subst hR
  exact W.iret (v := u4.1) hx hb hr0 (fun t ht hW => ⟨⟨u4.1, (), rfl, rfl, by rw [ht]; exact hP, hD⟩, hS.F ht⟩) hS.2.2 dX1_countThatWait_31
theorem hd_X4_begin : yX4_begin.cls ≠ "java/lang/invoke/MethodHandle" ∧ yX4_begin.cls ≠ "java/lang/invoke/VarHandle" ∧ (parseMethodDescriptor yX4_begin.desc).map (fun d => d.parameters.length) = some 1 := by decide +kernel
def s_X4_begin_22 (v : WV) (w : GV) (x : Int32 × FF × FF × Int32) : Option ((Int32 × FF × FF × Int32) ⊕ (Int32 × FF × FF × Int32)) :=
  if w.1 ≤ x.1 then
    some (.inr (x.1, x.2.1, x.2.2.1, x.2.2.2))
  else
    if 10 ≤ x.2.2.2 then
      some (.inr (x.1, x.2.1, x.2.2.1, x.2.2.2))
    else
      if zin x.1 10 = true then
      if (w.2.2.1 x.1.toNatClampNeg) = 0 then
        if zin x.2.2.2 10 = true then
        if zin x.1 10 = true then
        if zin x.2.2.2 10 = true then
        some (.inl ((x.1 + 1), (upd x.2.1 x.2.2.2.toNatClampNeg x.1), (upd x.2.2.1 x.2.2.2.toNatClampNeg (w.2.1 x.1.toNatClampNeg)), (x.2.2.2 + 1)))
        else none
        else none
        else none
      else
        some (.inl ((x.1 + 1), x.2.1, x.2.2.1, x.2.2.2))
      else none
def f_X4_begin (v : WV) (w : GV) : Option (Int32 × WV) :=
  (zloop (s_X4_begin_22 (v.1, v.2.1, 0, 0, 0, 0) w) 4096 (0, v.1, v.2.1, 0)).bind (fun u8 =>
  some ((1 <<< (u8.2.2.2 &&& 31)), (u8.2.1, u8.2.2.1, u8.2.2.2, 0, 0, 0)))
set_option maxHeartbeats 4000000 in
set_option maxRecDepth 100000 in
theorem c_X4_begin (l : Launch) (g : zG) (a : Nat → Nat) (b : Nat → Nat) (q : Nat) (v : WV) (w : GV) (r : Int32 × WV) (hf : f_X4_begin v w = some r) : zMi zNF zNM l yX4_begin (zw yX4_begin cX4_begin 3 (some .int)) ({ frames := 0, cells := 0, slots := 0, locals := 0 } : Room) g [.ref (a 0), .ref (b 0)] (zX4 g a v ++ zX1s g b q w) r.1 (zX4 g a r.2 ++ zX1s g b q w) := by
  intro sz
  refine Met.ofW (cc := cX4_begin) (maxL := 3) (ret := (some .int)) (by decide) rfl ?_
  intro p e s m args below meth c s₁ B hml hv
  obtain ⟨rfl, hsz, hP, hK, hD0⟩ := hv
  have hx := B.exec
  have hb := B.bytes
  have hr0 := B.returns
  have hts := atoms_spec (ws := (zw yX4_begin cX4_begin 3 (some .int))) B.pre
  have hw0 : ∀ w ∈ zW, w.before ([.ref (a 0), .ref (b 0)] : List Value).toArray s = true := fun w h => hts w (List.mem_cons_of_mem _ h)
  have hown : s.vm.findClass RX4 = some m.cls := findClass_of_methodNamed B.named
  have hlocks := B.notSynchronized
  subst hsz
  have hD := hD0.self (sz := s.heap.size)
  generalize hAe : va_A (zX4 g a v ++ zX1s g b q w) s.heap.size = A at hD ⊢
  have hA : ∀ q : Nat, s.heap.size ≤ q → A q := fun q h => by rw [← hAe]; exact Or.inr h
  have hS : va_S A s.heap s.heap [] := va_S.rf
  have lp22 : ∀ (v : WV) (w : GV), ∀ (n : Nat) (x : Int32 × FF × FF × Int32) (rr : Int32 × FF × FF × Int32), zloop (s_X4_begin_22 v w) n x = some rr → (∀ (H : Heap) (locs : List Loc), va_P g.1 vwCl (zX4 g a (rr.2.1, rr.2.2.1, rr.2.2.2, v.2.2.2.1, v.2.2.2.2.1, v.2.2.2.2.2) ++ zX1s g b q w) H → va_D A (zX4 g a (rr.2.1, rr.2.2.1, rr.2.2.2, v.2.2.2.1, v.2.2.2.2.1, v.2.2.2.2.2) ++ zX1s g b q w) → va_S A s.heap H locs → ∀ ls : Array Slot, lv_has ls 3 [(0, .ref (a 0))] → W p l e (headSpec (zw yX4_begin cX4_begin 3 (some .int)) ({ frames := 0, cells := 0, slots := 0, locals := 0 } : Room)).room s m ([.ref (a 0), .ref (b 0)] : List Value).toArray below meth c H locs 0 0 (MQ below (va_Qi (fun (x : Int32) (_ : Unit) => x = r.1) (fun _ => zEnd g A (zX4 g a r.2 ++ zX1s g b q w)) A) ([.ref (a 0), .ref (b 0)] : List Value).toArray s 0 0 A) (F0 m 89 ls [])) → ∀ (H : Heap) (locs : List Loc), va_P g.1 vwCl (zX4 g a (x.2.1, x.2.2.1, x.2.2.2, v.2.2.2.1, v.2.2.2.2.1, v.2.2.2.2.2) ++ zX1s g b q w) H → va_D A (zX4 g a (x.2.1, x.2.2.1, x.2.2.2, v.2.2.2.1, v.2.2.2.2.1, v.2.2.2.2.2) ++ zX1s g b q w) → va_S A s.heap H locs → ∀ ls : Array Slot, lv_has ls 3 [(0, .ref (a 0)), (1, .ref (b 0)), (2, .int x.1)] → W p l e (headSpec (zw yX4_begin cX4_begin 3 (some .int)) ({ frames := 0, cells := 0, slots := 0, locals := 0 } : Room)).room s m ([.ref (a 0), .ref (b 0)] : List Value).toArray below meth c H locs 0 0 (MQ below (va_Qi (fun (x : Int32) (_ : Unit) => x = r.1) (fun _ => zEnd g A (zX4 g a r.2 ++ zX1s g b q w)) A) ([.ref (a 0), .ref (b 0)] : List Value).toArray s 0 0 A) (F0 m 22 ls []) := by
    intro v w
    refine zloop_ind ?_
    intro x y rr hf ih hr hQ H locs hP hD hS ls hl
    unfold s_X4_begin_22 at hf
    refine lv_iload_n hx hb dX4_begin_22 rfl (lv_at hl 2 rfl) ?_
    refine lv_aload_n hx hb dX4_begin_23 rfl (lv_at hl 1 rfl) ?_
    refine va_getN (D := g.1) (ci := 1) (v := .int w.1) (C := RX1) (T := TX1) (N := 5) hx hb hw0 ziX1 hown hK.1 hP 3 rfl rfl 0 (by decide) (va_Nw.use rfl (zf_9 hK)) (fun _ h9 => h9) rfl dX4_begin_24 ?_
    refine lv_icmp_ge (tgt := 89) hx hb dX4_begin_27 (by decide) (fun c1 => ?_) (fun c1 => ?_)
    · have hf := oi hf c1
      have hR : (x.1, x.2.1, x.2.2.1, x.2.2.2) = rr := hr _ (Option.some.inj hf).symm
      subst hR
      exact hQ _ _ hP hD hS _ (lv_sub hl [0] rfl)
    · have hf := oe hf c1
      refine lv_aload_n hx hb dX4_begin_30 rfl (lv_at hl 0 rfl) ?_
      refine va_get (D := g.1) (ci := 4) (v := .int x.2.2.2) (C := RX4) (T := TX4) (N := 6) hx hb hw0 ziX4 hown hK.1 hP 0 rfl rfl 2 (by decide) (hw0 _ zm1_77) (fun _ h9 => h9) rfl dX4_begin_31 ?_
      refine lv_bipush (v := 10) hx hb dX4_begin_34 (by decide) ?_
      refine lv_icmp_ge (tgt := 89) hx hb dX4_begin_36 (by decide) (fun c2 => ?_) (fun c2 => ?_)
      · have hf := oi hf c2
        have hR : (x.1, x.2.1, x.2.2.1, x.2.2.2) = rr := hr _ (Option.some.inj hf).symm
        subst hR
        exact hQ _ _ hP hD hS _ (lv_sub hl [0] rfl)
      · have hf := oe hf c2
        refine lv_aload_n hx hb dX4_begin_39 rfl (lv_at hl 1 rfl) ?_
        refine va_getN (D := g.1) (ci := 1) (v := .ref (b 2)) (C := RX1) (T := TX1) (N := 5) hx hb hw0 ziX1 hown hK.1 hP 3 rfl rfl 2 (by decide) (va_Nw.use rfl (zf_14 hK)) (fun _ h9 => h9) rfl dX4_begin_40 ?_
        refine lv_iload_n hx hb dX4_begin_43 rfl (lv_at hl 2 rfl) ?_
        obtain ⟨h3, hf⟩ := og hf
        refine zald (D := g.1) (f := w.2.2.1) (k := x.1.toNatClampNeg) hx hb hK.1 hP 5 0 rfl rfl (zin_vp h3) rfl dX4_begin_44 ?_
        refine lv_if_ne (tgt := 83) hx hb dX4_begin_45 (by decide) (fun c4 => ?_) (fun c4 => ?_)
        · have hf := oe hf c4
          refine lv_iinc (v := (x.1 + 1)) (lv' := [(2, .int (x.1 + 1)), (0, .ref (a 0)), (1, .ref (b 0))]) hx hb dX4_begin_83 hl (k := 2) rfl rfl (by decide) rfl (fun ls hl => ?_)
          refine lv_goto (tgt := 22) hx hb dX4_begin_86 (by decide) ?_
          exact ih ((x.1 + 1), x.2.1, x.2.2.1, x.2.2.2) (Option.some.inj hf).symm hQ _ _ hP hD hS _ (lv_sub hl [1, 2, 0] rfl)
        · have hf := oi hf c4
          refine lv_aload_n hx hb dX4_begin_48 rfl (lv_at hl 0 rfl) ?_
          refine va_get (D := g.1) (ci := 4) (v := .ref (a 1)) (C := RX4) (T := TX4) (N := 6) hx hb hw0 ziX4 hown hK.1 hP 0 rfl rfl 0 (by decide) (hw0 _ zm1_75) (fun _ h9 => h9) rfl dX4_begin_49 ?_
          refine lv_aload_n hx hb dX4_begin_52 rfl (lv_at hl 0 rfl) ?_
          refine va_get (D := g.1) (ci := 4) (v := .int x.2.2.2) (C := RX4) (T := TX4) (N := 6) hx hb hw0 ziX4 hown hK.1 hP 0 rfl rfl 2 (by decide) (hw0 _ zm1_77) (fun _ h9 => h9) rfl dX4_begin_53 ?_
          refine lv_iload_n hx hb dX4_begin_56 rfl (lv_at hl 2 rfl) ?_
          obtain ⟨h5, hf⟩ := og hf
          refine zast (D := g.1) (f := x.2.1) (k := x.2.2.2.toNatClampNeg) (x := x.1) hx hb hK.1 hP hD hS 1 0 rfl rfl (zin_vp h5) rfl dX4_begin_57 (fun H locs hP hD hS => ?_)
          have hP : va_P g.1 vwCl (zX4 g a ((upd x.2.1 x.2.2.2.toNatClampNeg x.1), x.2.2.1, x.2.2.2, v.2.2.2.1, v.2.2.2.2.1, v.2.2.2.2.2) ++ zX1s g b q w) H := hP
          have hD : va_D A (zX4 g a ((upd x.2.1 x.2.2.2.toNatClampNeg x.1), x.2.2.1, x.2.2.2, v.2.2.2.1, v.2.2.2.2.1, v.2.2.2.2.2) ++ zX1s g b q w) := hD
          refine lv_aload_n hx hb dX4_begin_58 rfl (lv_at hl 0 rfl) ?_
          refine va_get (D := g.1) (ci := 4) (v := .ref (a 2)) (C := RX4) (T := TX4) (N := 6) hx hb hw0 ziX4 hown hK.1 hP 0 rfl rfl 1 (by decide) (hw0 _ zm1_76) (fun _ h9 => h9) rfl dX4_begin_59 ?_
          refine lv_aload_n hx hb dX4_begin_62 rfl (lv_at hl 0 rfl) ?_
          refine va_get (D := g.1) (ci := 4) (v := .int x.2.2.2) (C := RX4) (T := TX4) (N := 6) hx hb hw0 ziX4 hown hK.1 hP 0 rfl rfl 2 (by decide) (hw0 _ zm1_77) (fun _ h9 => h9) rfl dX4_begin_63 ?_
          refine lv_aload_n hx hb dX4_begin_66 rfl (lv_at hl 1 rfl) ?_
          refine va_getN (D := g.1) (ci := 1) (v := .ref (b 1)) (C := RX1) (T := TX1) (N := 5) hx hb hw0 ziX1 hown hK.1 hP 3 rfl rfl 1 (by decide) (va_Nw.use rfl (zf_12 hK)) (fun _ h9 => h9) rfl dX4_begin_67 ?_
          refine lv_iload_n hx hb dX4_begin_70 rfl (lv_at hl 2 rfl) ?_
          obtain ⟨h6, hf⟩ := og hf
          refine zald (D := g.1) (f := w.2.1) (k := x.1.toNatClampNeg) hx hb hK.1 hP 4 0 rfl rfl (zin_vp h6) rfl dX4_begin_71 ?_
          obtain ⟨h7, hf⟩ := og hf
          refine zast (D := g.1) (f := x.2.2.1) (k := x.2.2.2.toNatClampNeg) (x := (w.2.1 x.1.toNatClampNeg)) hx hb hK.1 hP hD hS 2 0 rfl rfl (zin_vp h7) rfl dX4_begin_72 (fun H locs hP hD hS => ?_)
          have hP : va_P g.1 vwCl (zX4 g a ((upd x.2.1 x.2.2.2.toNatClampNeg x.1), (upd x.2.2.1 x.2.2.2.toNatClampNeg (w.2.1 x.1.toNatClampNeg)), x.2.2.2, v.2.2.2.1, v.2.2.2.2.1, v.2.2.2.2.2) ++ zX1s g b q w) H := hP
          have hD : va_D A (zX4 g a ((upd x.2.1 x.2.2.2.toNatClampNeg x.1), (upd x.2.2.1 x.2.2.2.toNatClampNeg (w.2.1 x.1.toNatClampNeg)), x.2.2.2, v.2.2.2.1, v.2.2.2.2.1, v.2.2.2.2.2) ++ zX1s g b q w) := hD
          refine lv_aload_n hx hb dX4_begin_73 rfl (lv_at hl 0 rfl) ?_
          refine lv_dup hx hb dX4_begin_74 rfl ?_
          refine va_get (D := g.1) (ci := 4) (v := .int x.2.2.2) (C := RX4) (T := TX4) (N := 6) hx hb hw0 ziX4 hown hK.1 hP 0 rfl rfl 2 (by decide) (hw0 _ zm1_77) (fun _ h9 => h9) rfl dX4_begin_75 ?_
          refine lv_iconst (v := 1) hx hb dX4_begin_78 (by decide) ?_
          refine lv_iadd hx hb dX4_begin_79 ?_
          refine va_put (D := g.1) (ci := 4) (v := .int (x.2.2.2 + 1)) (ty := .int) (C := RX4) (T := TX4) (N := 6) hx hb hw0 ziX4 tyX4 tyX4_ok nmX4 hown hK.1 hP hD hS 0 rfl rfl 2 (by decide) (hw0 _ zm1_77) (fun _ h9 => h9) rfl (tyX4_ok 2 (by decide)) rfl rfl (Nat.le_of_ble_eq_true rfl) dX4_begin_80 (fun H locs hP hD hS => ?_)
          have hP : va_P g.1 vwCl (zX4 g a ((upd x.2.1 x.2.2.2.toNatClampNeg x.1), (upd x.2.2.1 x.2.2.2.toNatClampNeg (w.2.1 x.1.toNatClampNeg)), (x.2.2.2 + 1), v.2.2.2.1, v.2.2.2.2.1, v.2.2.2.2.2) ++ zX1s g b q w) H := hP
          have hD : va_D A (zX4 g a ((upd x.2.1 x.2.2.2.toNatClampNeg x.1), (upd x.2.2.1 x.2.2.2.toNatClampNeg (w.2.1 x.1.toNatClampNeg)), (x.2.2.2 + 1), v.2.2.2.1, v.2.2.2.2.1, v.2.2.2.2.2) ++ zX1s g b q w) := hD
          refine lv_iinc (v := (x.1 + 1)) (lv' := [(2, .int (x.1 + 1)), (0, .ref (a 0)), (1, .ref (b 0))]) hx hb dX4_begin_83 hl (k := 2) rfl rfl (by decide) rfl (fun ls hl => ?_)
          refine lv_goto (tgt := 22) hx hb dX4_begin_86 (by decide) ?_
          exact ih ((x.1 + 1), (upd x.2.1 x.2.2.2.toNatClampNeg x.1), (upd x.2.2.1 x.2.2.2.toNatClampNeg (w.2.1 x.1.toNatClampNeg)), (x.2.2.2 + 1)) (Option.some.inj hf).symm hQ _ _ hP hD hS _ (lv_sub hl [1, 2, 0] rfl)
  unfold f_X4_begin at hf
  have hl := lv_entry ([.ref (a 0), .ref (b 0)]) (n := 3) (Nat.le_of_ble_eq_true rfl)
  rw [lg_entry_eq]
  generalize (lg_sl ([.ref (a 0), .ref (b 0)]) ++ List.replicate (3 - (lg_sl ([.ref (a 0), .ref (b 0)])).length) Slot.unset).toArray = ls at hl ⊢
  have hl : lv_has ls 3 [(0, .ref (a 0)), (1, .ref (b 0))] := hl
  refine lv_aload_n hx hb dX4_begin_0 rfl (lv_at hl 0 rfl) ?_
  refine lv_iconst (v := 0) hx hb dX4_begin_1 (by decide) ?_
  refine va_put (D := g.1) (ci := 4) (v := .int 0) (ty := .int) (C := RX4) (T := TX4) (N := 6) hx hb hw0 ziX4 tyX4 tyX4_ok nmX4 hown hK.1 hP hD hS 0 rfl rfl 2 (by decide) (hw0 _ zm1_77) (fun _ h9 => h9) rfl (tyX4_ok 2 (by decide)) rfl rfl (Nat.le_of_ble_eq_true rfl) dX4_begin_2 (fun H locs hP hD hS => ?_)
  have hP : va_P g.1 vwCl (zX4 g a (v.1, v.2.1, 0, v.2.2.2.1, v.2.2.2.2.1, v.2.2.2.2.2) ++ zX1s g b q w) H := hP
  have hD : va_D A (zX4 g a (v.1, v.2.1, 0, v.2.2.2.1, v.2.2.2.2.1, v.2.2.2.2.2) ++ zX1s g b q w) := hD
  refine lv_aload_n hx hb dX4_begin_5 rfl (lv_at hl 0 rfl) ?_
  refine lv_iconst (v := 0) hx hb dX4_begin_6 (by decide) ?_
  refine va_put (D := g.1) (ci := 4) (v := .int 0) (ty := .int) (C := RX4) (T := TX4) (N := 6) hx hb hw0 ziX4 tyX4 tyX4_ok nmX4 hown hK.1 hP hD hS 0 rfl rfl 3 (by decide) (hw0 _ zm1_78) (fun _ h9 => h9) rfl (tyX4_ok 3 (by decide)) rfl rfl (Nat.le_of_ble_eq_true rfl) dX4_begin_7 (fun H locs hP hD hS => ?_)
  have hP : va_P g.1 vwCl (zX4 g a (v.1, v.2.1, 0, 0, v.2.2.2.2.1, v.2.2.2.2.2) ++ zX1s g b q w) H := hP
  have hD : va_D A (zX4 g a (v.1, v.2.1, 0, 0, v.2.2.2.2.1, v.2.2.2.2.2) ++ zX1s g b q w) := hD
  refine lv_aload_n hx hb dX4_begin_10 rfl (lv_at hl 0 rfl) ?_
  refine lv_iconst (v := 0) hx hb dX4_begin_11 (by decide) ?_
  refine va_put (D := g.1) (ci := 4) (v := .int 0) (ty := .int) (C := RX4) (T := TX4) (N := 6) hx hb hw0 ziX4 tyX4 tyX4_ok nmX4 hown hK.1 hP hD hS 0 rfl rfl 4 (by decide) (hw0 _ zm1_80) (fun _ h9 => h9) rfl (tyX4_ok 4 (by decide)) rfl rfl (Nat.le_of_ble_eq_true rfl) dX4_begin_12 (fun H locs hP hD hS => ?_)
  have hP : va_P g.1 vwCl (zX4 g a (v.1, v.2.1, 0, 0, 0, v.2.2.2.2.2) ++ zX1s g b q w) H := hP
  have hD : va_D A (zX4 g a (v.1, v.2.1, 0, 0, 0, v.2.2.2.2.2) ++ zX1s g b q w) := hD
  refine lv_aload_n hx hb dX4_begin_15 rfl (lv_at hl 0 rfl) ?_
  refine lv_iconst (v := 0) hx hb dX4_begin_16 (by decide) ?_
  refine va_put (D := g.1) (ci := 4) (v := .int 0) (ty := .int) (C := RX4) (T := TX4) (N := 6) hx hb hw0 ziX4 tyX4 tyX4_ok nmX4 hown hK.1 hP hD hS 0 rfl rfl 5 (by decide) (hw0 _ zm1_82) (fun _ h9 => h9) rfl (tyX4_ok 5 (by decide)) rfl rfl (Nat.le_of_ble_eq_true rfl) dX4_begin_17 (fun H locs hP hD hS => ?_)
  have hP : va_P g.1 vwCl (zX4 g a (v.1, v.2.1, 0, 0, 0, 0) ++ zX1s g b q w) H := hP
  have hD : va_D A (zX4 g a (v.1, v.2.1, 0, 0, 0, 0) ++ zX1s g b q w) := hD
  refine lv_iconst (v := 0) hx hb dX4_begin_20 (by decide) ?_
  refine lv_istore_n (lv' := [(2, .int 0), (0, .ref (a 0)), (1, .ref (b 0))]) hx hb dX4_begin_21 rfl hl (by decide) rfl (fun ls hl => ?_)
  obtain ⟨u8, hu8, hf⟩ := ob hf
  refine lp22 (v.1, v.2.1, 0, 0, 0, 0) w _ _ u8 hu8 (fun H locs hP hD hS ls hl => ?_) _ _ hP hD hS _ (lv_sub hl [1, 2, 0] rfl)
  have hl : lv_has ls 3 [(0, .ref (a 0))] := hl
  have hP : va_P g.1 vwCl (zX4 g a (u8.2.1, u8.2.2.1, u8.2.2.2, 0, 0, 0) ++ zX1s g b q w) H := hP
  have hD : va_D A (zX4 g a (u8.2.1, u8.2.2.1, u8.2.2.2, 0, 0, 0) ++ zX1s g b q w) := hD
  refine lv_iconst (v := 1) hx hb dX4_begin_89 (by decide) ?_
  refine lv_aload_n hx hb dX4_begin_90 rfl (lv_at hl 0 rfl) ?_
  refine va_get (D := g.1) (ci := 4) (v := .int u8.2.2.2) (C := RX4) (T := TX4) (N := 6) hx hb hw0 ziX4 hown hK.1 hP 0 rfl rfl 2 (by decide) (hw0 _ zm1_77) (fun _ h9 => h9) rfl dX4_begin_91 ?_
  refine lv_ishl hx hb dX4_begin_94 ?_
  have hR : ((1 <<< (u8.2.2.2 &&& 31)), (u8.2.1, u8.2.2.1, u8.2.2.2, 0, 0, 0)) = r := Option.some.inj hf
  subst hR
  exact W.iret (v := (1 <<< (u8.2.2.2 &&& 31))) hx hb hr0 (fun t ht hW => ⟨⟨(1 <<< (u8.2.2.2 &&& 31)), (), rfl, rfl, by rw [ht]; exact hP, hD⟩, hS.F ht⟩) hS.2.2 dX4_begin_95
theorem hd_J6_numberOfTrailingZeros_0f7a4 : yJ6_numberOfTrailingZeros_0f7a4.cls ≠ "java/lang/invoke/MethodHandle" ∧ yJ6_numberOfTrailingZeros_0f7a4.cls ≠ "java/lang/invoke/VarHandle" ∧ (parseMethodDescriptor yJ6_numberOfTrailingZeros_0f7a4.desc).map (fun d => d.parameters.length) = some 1 := by decide +kernel
def f_J6_numberOfTrailingZeros_0f7a4 (p0 : Int32) : Option (Int32) :=
  if 0 < ((p0 ^^^ (-1)) &&& (p0 - 1)) then
    if ((p0 ^^^ (-1)) &&& (p0 - 1)) ≤ 65536 then
      if ((p0 ^^^ (-1)) &&& (p0 - 1)) ≤ 256 then
        if ((p0 ^^^ (-1)) &&& (p0 - 1)) ≤ 16 then
          if ((p0 ^^^ (-1)) &&& (p0 - 1)) ≤ 4 then
            some (1 + ((((p0 ^^^ (-1)) &&& (p0 - 1)).toUInt32 >>> ((1 : Int32).toUInt32 &&& Int32.toUInt32 31)).toInt32))
          else
            some (3 + ((((((p0 ^^^ (-1)) &&& (p0 - 1)).toUInt32 >>> ((2 : Int32).toUInt32 &&& Int32.toUInt32 31)).toInt32).toUInt32 >>> ((1 : Int32).toUInt32 &&& Int32.toUInt32 31)).toInt32))
        else
          if ((((p0 ^^^ (-1)) &&& (p0 - 1)).toUInt32 >>> ((4 : Int32).toUInt32 &&& Int32.toUInt32 31)).toInt32) ≤ 4 then
            some (5 + ((((((p0 ^^^ (-1)) &&& (p0 - 1)).toUInt32 >>> ((4 : Int32).toUInt32 &&& Int32.toUInt32 31)).toInt32).toUInt32 >>> ((1 : Int32).toUInt32 &&& Int32.toUInt32 31)).toInt32))
          else
            some (7 + ((((((((p0 ^^^ (-1)) &&& (p0 - 1)).toUInt32 >>> ((4 : Int32).toUInt32 &&& Int32.toUInt32 31)).toInt32).toUInt32 >>> ((2 : Int32).toUInt32 &&& Int32.toUInt32 31)).toInt32).toUInt32 >>> ((1 : Int32).toUInt32 &&& Int32.toUInt32 31)).toInt32))
      else
        if ((((p0 ^^^ (-1)) &&& (p0 - 1)).toUInt32 >>> ((8 : Int32).toUInt32 &&& Int32.toUInt32 31)).toInt32) ≤ 16 then
          if ((((p0 ^^^ (-1)) &&& (p0 - 1)).toUInt32 >>> ((8 : Int32).toUInt32 &&& Int32.toUInt32 31)).toInt32) ≤ 4 then
            some (9 + ((((((p0 ^^^ (-1)) &&& (p0 - 1)).toUInt32 >>> ((8 : Int32).toUInt32 &&& Int32.toUInt32 31)).toInt32).toUInt32 >>> ((1 : Int32).toUInt32 &&& Int32.toUInt32 31)).toInt32))
          else
            some (11 + ((((((((p0 ^^^ (-1)) &&& (p0 - 1)).toUInt32 >>> ((8 : Int32).toUInt32 &&& Int32.toUInt32 31)).toInt32).toUInt32 >>> ((2 : Int32).toUInt32 &&& Int32.toUInt32 31)).toInt32).toUInt32 >>> ((1 : Int32).toUInt32 &&& Int32.toUInt32 31)).toInt32))
        else
          if ((((((p0 ^^^ (-1)) &&& (p0 - 1)).toUInt32 >>> ((8 : Int32).toUInt32 &&& Int32.toUInt32 31)).toInt32).toUInt32 >>> ((4 : Int32).toUInt32 &&& Int32.toUInt32 31)).toInt32) ≤ 4 then
            some (13 + ((((((((p0 ^^^ (-1)) &&& (p0 - 1)).toUInt32 >>> ((8 : Int32).toUInt32 &&& Int32.toUInt32 31)).toInt32).toUInt32 >>> ((4 : Int32).toUInt32 &&& Int32.toUInt32 31)).toInt32).toUInt32 >>> ((1 : Int32).toUInt32 &&& Int32.toUInt32 31)).toInt32))
          else
            some (15 + ((((((((((p0 ^^^ (-1)) &&& (p0 - 1)).toUInt32 >>> ((8 : Int32).toUInt32 &&& Int32.toUInt32 31)).toInt32).toUInt32 >>> ((4 : Int32).toUInt32 &&& Int32.toUInt32 31)).toInt32).toUInt32 >>> ((2 : Int32).toUInt32 &&& Int32.toUInt32 31)).toInt32).toUInt32 >>> ((1 : Int32).toUInt32 &&& Int32.toUInt32 31)).toInt32))
    else
      if ((((p0 ^^^ (-1)) &&& (p0 - 1)).toUInt32 >>> ((16 : Int32).toUInt32 &&& Int32.toUInt32 31)).toInt32) ≤ 256 then
        if ((((p0 ^^^ (-1)) &&& (p0 - 1)).toUInt32 >>> ((16 : Int32).toUInt32 &&& Int32.toUInt32 31)).toInt32) ≤ 16 then
          if ((((p0 ^^^ (-1)) &&& (p0 - 1)).toUInt32 >>> ((16 : Int32).toUInt32 &&& Int32.toUInt32 31)).toInt32) ≤ 4 then
            some (17 + ((((((p0 ^^^ (-1)) &&& (p0 - 1)).toUInt32 >>> ((16 : Int32).toUInt32 &&& Int32.toUInt32 31)).toInt32).toUInt32 >>> ((1 : Int32).toUInt32 &&& Int32.toUInt32 31)).toInt32))
          else
            some (19 + ((((((((p0 ^^^ (-1)) &&& (p0 - 1)).toUInt32 >>> ((16 : Int32).toUInt32 &&& Int32.toUInt32 31)).toInt32).toUInt32 >>> ((2 : Int32).toUInt32 &&& Int32.toUInt32 31)).toInt32).toUInt32 >>> ((1 : Int32).toUInt32 &&& Int32.toUInt32 31)).toInt32))
        else
          if ((((((p0 ^^^ (-1)) &&& (p0 - 1)).toUInt32 >>> ((16 : Int32).toUInt32 &&& Int32.toUInt32 31)).toInt32).toUInt32 >>> ((4 : Int32).toUInt32 &&& Int32.toUInt32 31)).toInt32) ≤ 4 then
            some (21 + ((((((((p0 ^^^ (-1)) &&& (p0 - 1)).toUInt32 >>> ((16 : Int32).toUInt32 &&& Int32.toUInt32 31)).toInt32).toUInt32 >>> ((4 : Int32).toUInt32 &&& Int32.toUInt32 31)).toInt32).toUInt32 >>> ((1 : Int32).toUInt32 &&& Int32.toUInt32 31)).toInt32))
          else
            some (23 + ((((((((((p0 ^^^ (-1)) &&& (p0 - 1)).toUInt32 >>> ((16 : Int32).toUInt32 &&& Int32.toUInt32 31)).toInt32).toUInt32 >>> ((4 : Int32).toUInt32 &&& Int32.toUInt32 31)).toInt32).toUInt32 >>> ((2 : Int32).toUInt32 &&& Int32.toUInt32 31)).toInt32).toUInt32 >>> ((1 : Int32).toUInt32 &&& Int32.toUInt32 31)).toInt32))
      else
        if ((((((p0 ^^^ (-1)) &&& (p0 - 1)).toUInt32 >>> ((16 : Int32).toUInt32 &&& Int32.toUInt32 31)).toInt32).toUInt32 >>> ((8 : Int32).toUInt32 &&& Int32.toUInt32 31)).toInt32) ≤ 16 then
          if ((((((p0 ^^^ (-1)) &&& (p0 - 1)).toUInt32 >>> ((16 : Int32).toUInt32 &&& Int32.toUInt32 31)).toInt32).toUInt32 >>> ((8 : Int32).toUInt32 &&& Int32.toUInt32 31)).toInt32) ≤ 4 then
            some (25 + ((((((((p0 ^^^ (-1)) &&& (p0 - 1)).toUInt32 >>> ((16 : Int32).toUInt32 &&& Int32.toUInt32 31)).toInt32).toUInt32 >>> ((8 : Int32).toUInt32 &&& Int32.toUInt32 31)).toInt32).toUInt32 >>> ((1 : Int32).toUInt32 &&& Int32.toUInt32 31)).toInt32))
          else
            some (27 + ((((((((((p0 ^^^ (-1)) &&& (p0 - 1)).toUInt32 >>> ((16 : Int32).toUInt32 &&& Int32.toUInt32 31)).toInt32).toUInt32 >>> ((8 : Int32).toUInt32 &&& Int32.toUInt32 31)).toInt32).toUInt32 >>> ((2 : Int32).toUInt32 &&& Int32.toUInt32 31)).toInt32).toUInt32 >>> ((1 : Int32).toUInt32 &&& Int32.toUInt32 31)).toInt32))
        else
          if ((((((((p0 ^^^ (-1)) &&& (p0 - 1)).toUInt32 >>> ((16 : Int32).toUInt32 &&& Int32.toUInt32 31)).toInt32).toUInt32 >>> ((8 : Int32).toUInt32 &&& Int32.toUInt32 31)).toInt32).toUInt32 >>> ((4 : Int32).toUInt32 &&& Int32.toUInt32 31)).toInt32) ≤ 4 then
            some (29 + ((((((((((p0 ^^^ (-1)) &&& (p0 - 1)).toUInt32 >>> ((16 : Int32).toUInt32 &&& Int32.toUInt32 31)).toInt32).toUInt32 >>> ((8 : Int32).toUInt32 &&& Int32.toUInt32 31)).toInt32).toUInt32 >>> ((4 : Int32).toUInt32 &&& Int32.toUInt32 31)).toInt32).toUInt32 >>> ((1 : Int32).toUInt32 &&& Int32.toUInt32 31)).toInt32))
          else
            some (31 + ((((((((((((p0 ^^^ (-1)) &&& (p0 - 1)).toUInt32 >>> ((16 : Int32).toUInt32 &&& Int32.toUInt32 31)).toInt32).toUInt32 >>> ((8 : Int32).toUInt32 &&& Int32.toUInt32 31)).toInt32).toUInt32 >>> ((4 : Int32).toUInt32 &&& Int32.toUInt32 31)).toInt32).toUInt32 >>> ((2 : Int32).toUInt32 &&& Int32.toUInt32 31)).toInt32).toUInt32 >>> ((1 : Int32).toUInt32 &&& Int32.toUInt32 31)).toInt32))
  else
    some (((p0 ^^^ (-1)) &&& (p0 - 1)) &&& 32)
set_option maxHeartbeats 4000000 in
set_option maxRecDepth 100000 in
theorem c_J6_numberOfTrailingZeros_0f7a4 (l : Launch) (g : zG) (p0 : Int32) (r : Int32) (hf : f_J6_numberOfTrailingZeros_0f7a4 p0 = some r) : zMi zNF zNM l yJ6_numberOfTrailingZeros_0f7a4 (zw yJ6_numberOfTrailingZeros_0f7a4 cJ6_numberOfTrailingZeros_0f7a4 2 (some .int)) ({ frames := 0, cells := 0, slots := 0, locals := 0 } : Room) g [.int p0] ([] : va_W) r ([] : va_W) := by
  intro sz
  refine Met.ofW (cc := cJ6_numberOfTrailingZeros_0f7a4) (maxL := 2) (ret := (some .int)) (by decide) rfl ?_
  intro p e s m args below meth c s₁ B hml hv
  obtain ⟨rfl, hsz, hP, hK, hD0⟩ := hv
  have hx := B.exec
  have hb := B.bytes
  have hr0 := B.returns
  have hts := atoms_spec (ws := (zw yJ6_numberOfTrailingZeros_0f7a4 cJ6_numberOfTrailingZeros_0f7a4 2 (some .int))) B.pre
  have hw0 : ∀ w ∈ zW, w.before ([.int p0] : List Value).toArray s = true := fun w h => hts w (List.mem_cons_of_mem _ h)
  have hown : s.vm.findClass RJ6 = some m.cls := findClass_of_methodNamed B.named
  have hlocks := B.notSynchronized
  subst hsz
  have hD := hD0.self (sz := s.heap.size)
  generalize hAe : va_A ([] : va_W) s.heap.size = A at hD ⊢
  have hA : ∀ q : Nat, s.heap.size ≤ q → A q := fun q h => by rw [← hAe]; exact Or.inr h
  have hS : va_S A s.heap s.heap [] := va_S.rf
  unfold f_J6_numberOfTrailingZeros_0f7a4 at hf
  have hl := lv_entry ([.int p0]) (n := 2) (Nat.le_of_ble_eq_true rfl)
  rw [lg_entry_eq]
  generalize (lg_sl ([.int p0]) ++ List.replicate (2 - (lg_sl ([.int p0])).length) Slot.unset).toArray = ls at hl ⊢
  have hl : lv_has ls 2 [(0, .int p0)] := hl
  refine lv_iload_n hx hb dJ6_numberOfTrailingZeros_0f7a4_0 rfl (lv_at hl 0 rfl) ?_
  refine lv_iconst (v := (-1)) hx hb dJ6_numberOfTrailingZeros_0f7a4_1 (by decide) ?_
  refine lv_ixor hx hb dJ6_numberOfTrailingZeros_0f7a4_2 ?_
  refine lv_iload_n hx hb dJ6_numberOfTrailingZeros_0f7a4_3 rfl (lv_at hl 0 rfl) ?_
  refine lv_iconst (v := 1) hx hb dJ6_numberOfTrailingZeros_0f7a4_4 (by decide) ?_
  refine lv_isub hx hb dJ6_numberOfTrailingZeros_0f7a4_5 ?_
  refine lv_iand hx hb dJ6_numberOfTrailingZeros_0f7a4_6 ?_
  refine lv_istore_n (lv' := [(0, .int ((p0 ^^^ (-1)) &&& (p0 - 1)))]) hx hb dJ6_numberOfTrailingZeros_0f7a4_7 rfl hl (by decide) rfl (fun ls hl => ?_)
  refine lv_iload_n hx hb dJ6_numberOfTrailingZeros_0f7a4_8 rfl (lv_at hl 0 rfl) ?_
  refine lv_if_gt (tgt := 17) hx hb dJ6_numberOfTrailingZeros_0f7a4_9 (by decide) (fun c1 => ?_) (fun c1 => ?_)
  · have hf := oi hf c1
    refine lv_iconst (v := 1) hx hb dJ6_numberOfTrailingZeros_0f7a4_17 (by decide) ?_
    refine lv_istore_n (lv' := [(1, .int 1), (0, .int ((p0 ^^^ (-1)) &&& (p0 - 1)))]) hx hb dJ6_numberOfTrailingZeros_0f7a4_18 rfl hl (by decide) rfl (fun ls hl => ?_)
    refine lv_iload_n hx hb dJ6_numberOfTrailingZeros_0f7a4_19 rfl (lv_at hl 1 rfl) ?_
    refine lv_ldcw (v := 65536) hx hb hown (hw0 _ zm3_80) dJ6_numberOfTrailingZeros_0f7a4_20 ?_
    refine lv_icmp_le (tgt := 34) hx hb dJ6_numberOfTrailingZeros_0f7a4_23 (by decide) (fun c2 => ?_) (fun c2 => ?_)
    · have hf := oi hf c2
      refine lv_iload_n hx hb dJ6_numberOfTrailingZeros_0f7a4_34 rfl (lv_at hl 1 rfl) ?_
      refine lv_sipush (v := 256) hx hb dJ6_numberOfTrailingZeros_0f7a4_35 (by decide) ?_
      refine lv_icmp_le (tgt := 49) hx hb dJ6_numberOfTrailingZeros_0f7a4_38 (by decide) (fun c3 => ?_) (fun c3 => ?_)
      · have hf := oi hf c3
        refine lv_iload_n hx hb dJ6_numberOfTrailingZeros_0f7a4_49 rfl (lv_at hl 1 rfl) ?_
        refine lv_bipush (v := 16) hx hb dJ6_numberOfTrailingZeros_0f7a4_50 (by decide) ?_
        refine lv_icmp_le (tgt := 62) hx hb dJ6_numberOfTrailingZeros_0f7a4_52 (by decide) (fun c4 => ?_) (fun c4 => ?_)
        · have hf := oi hf c4
          refine lv_iload_n hx hb dJ6_numberOfTrailingZeros_0f7a4_62 rfl (lv_at hl 1 rfl) ?_
          refine lv_iconst (v := 4) hx hb dJ6_numberOfTrailingZeros_0f7a4_63 (by decide) ?_
          refine lv_icmp_le (tgt := 74) hx hb dJ6_numberOfTrailingZeros_0f7a4_64 (by decide) (fun c5 => ?_) (fun c5 => ?_)
          · have hf := oi hf c5
            refine lv_iload_n hx hb dJ6_numberOfTrailingZeros_0f7a4_74 rfl (lv_at hl 0 rfl) ?_
            refine lv_iload_n hx hb dJ6_numberOfTrailingZeros_0f7a4_75 rfl (lv_at hl 1 rfl) ?_
            refine lv_iconst (v := 1) hx hb dJ6_numberOfTrailingZeros_0f7a4_76 (by decide) ?_
            refine lv_iushr (v := (((p0 ^^^ (-1)) &&& (p0 - 1)).toUInt32 >>> ((1 : Int32).toUInt32 &&& Int32.toUInt32 31)).toInt32) hx hb dJ6_numberOfTrailingZeros_0f7a4_77 rfl ?_
            refine lv_iadd hx hb dJ6_numberOfTrailingZeros_0f7a4_78 ?_
            have hR : (1 + ((((p0 ^^^ (-1)) &&& (p0 - 1)).toUInt32 >>> ((1 : Int32).toUInt32 &&& Int32.toUInt32 31)).toInt32)) = r := Option.some.inj hf
            subst hR
            exact W.iret (v := (1 + ((((p0 ^^^ (-1)) &&& (p0 - 1)).toUInt32 >>> ((1 : Int32).toUInt32 &&& Int32.toUInt32 31)).toInt32))) hx hb hr0 (fun t ht hW => ⟨⟨(1 + ((((p0 ^^^ (-1)) &&& (p0 - 1)).toUInt32 >>> ((1 : Int32).toUInt32 &&& Int32.toUInt32 31)).toInt32)), (), rfl, rfl, by rw [ht]; exact hP, hD⟩, hS.F ht⟩) hS.2.2 dJ6_numberOfTrailingZeros_0f7a4_79
          · have hf := oe hf c5
            refine lv_iinc (v := 3) (lv' := [(1, .int 3), (0, .int ((p0 ^^^ (-1)) &&& (p0 - 1)))]) hx hb dJ6_numberOfTrailingZeros_0f7a4_67 hl (k := 0) rfl rfl (by decide) rfl (fun ls hl => ?_)
            refine lv_iload_n hx hb dJ6_numberOfTrailingZeros_0f7a4_70 rfl (lv_at hl 1 rfl) ?_
            refine lv_iconst (v := 2) hx hb dJ6_numberOfTrailingZeros_0f7a4_71 (by decide) ?_
            refine lv_iushr (v := (((p0 ^^^ (-1)) &&& (p0 - 1)).toUInt32 >>> ((2 : Int32).toUInt32 &&& Int32.toUInt32 31)).toInt32) hx hb dJ6_numberOfTrailingZeros_0f7a4_72 rfl ?_
            refine lv_istore_n (lv' := [(0, .int ((((p0 ^^^ (-1)) &&& (p0 - 1)).toUInt32 >>> ((2 : Int32).toUInt32 &&& Int32.toUInt32 31)).toInt32)), (1, .int 3)]) hx hb dJ6_numberOfTrailingZeros_0f7a4_73 rfl hl (by decide) rfl (fun ls hl => ?_)
            refine lv_iload_n hx hb dJ6_numberOfTrailingZeros_0f7a4_74 rfl (lv_at hl 1 rfl) ?_
            refine lv_iload_n hx hb dJ6_numberOfTrailingZeros_0f7a4_75 rfl (lv_at hl 0 rfl) ?_
            refine lv_iconst (v := 1) hx hb dJ6_numberOfTrailingZeros_0f7a4_76 (by decide) ?_
            refine lv_iushr (v := (((((p0 ^^^ (-1)) &&& (p0 - 1)).toUInt32 >>> ((2 : Int32).toUInt32 &&& Int32.toUInt32 31)).toInt32).toUInt32 >>> ((1 : Int32).toUInt32 &&& Int32.toUInt32 31)).toInt32) hx hb dJ6_numberOfTrailingZeros_0f7a4_77 rfl ?_
            refine lv_iadd hx hb dJ6_numberOfTrailingZeros_0f7a4_78 ?_
            have hR : (3 + ((((((p0 ^^^ (-1)) &&& (p0 - 1)).toUInt32 >>> ((2 : Int32).toUInt32 &&& Int32.toUInt32 31)).toInt32).toUInt32 >>> ((1 : Int32).toUInt32 &&& Int32.toUInt32 31)).toInt32)) = r := Option.some.inj hf
            subst hR
            exact W.iret (v := (3 + ((((((p0 ^^^ (-1)) &&& (p0 - 1)).toUInt32 >>> ((2 : Int32).toUInt32 &&& Int32.toUInt32 31)).toInt32).toUInt32 >>> ((1 : Int32).toUInt32 &&& Int32.toUInt32 31)).toInt32))) hx hb hr0 (fun t ht hW => ⟨⟨(3 + ((((((p0 ^^^ (-1)) &&& (p0 - 1)).toUInt32 >>> ((2 : Int32).toUInt32 &&& Int32.toUInt32 31)).toInt32).toUInt32 >>> ((1 : Int32).toUInt32 &&& Int32.toUInt32 31)).toInt32)), (), rfl, rfl, by rw [ht]; exact hP, hD⟩, hS.F ht⟩) hS.2.2 dJ6_numberOfTrailingZeros_0f7a4_79
        · have hf := oe hf c4
          refine lv_iinc (v := 5) (lv' := [(1, .int 5), (0, .int ((p0 ^^^ (-1)) &&& (p0 - 1)))]) hx hb dJ6_numberOfTrailingZeros_0f7a4_55 hl (k := 0) rfl rfl (by decide) rfl (fun ls hl => ?_)
          refine lv_iload_n hx hb dJ6_numberOfTrailingZeros_0f7a4_58 rfl (lv_at hl 1 rfl) ?_
          refine lv_iconst (v := 4) hx hb dJ6_numberOfTrailingZeros_0f7a4_59 (by decide) ?_
          refine lv_iushr (v := (((p0 ^^^ (-1)) &&& (p0 - 1)).toUInt32 >>> ((4 : Int32).toUInt32 &&& Int32.toUInt32 31)).toInt32) hx hb dJ6_numberOfTrailingZeros_0f7a4_60 rfl ?_
          refine lv_istore_n (lv' := [(0, .int ((((p0 ^^^ (-1)) &&& (p0 - 1)).toUInt32 >>> ((4 : Int32).toUInt32 &&& Int32.toUInt32 31)).toInt32)), (1, .int 5)]) hx hb dJ6_numberOfTrailingZeros_0f7a4_61 rfl hl (by decide) rfl (fun ls hl => ?_)
          refine lv_iload_n hx hb dJ6_numberOfTrailingZeros_0f7a4_62 rfl (lv_at hl 0 rfl) ?_
          refine lv_iconst (v := 4) hx hb dJ6_numberOfTrailingZeros_0f7a4_63 (by decide) ?_
          refine lv_icmp_le (tgt := 74) hx hb dJ6_numberOfTrailingZeros_0f7a4_64 (by decide) (fun c6 => ?_) (fun c6 => ?_)
          · have hf := oi hf c6
            refine lv_iload_n hx hb dJ6_numberOfTrailingZeros_0f7a4_74 rfl (lv_at hl 1 rfl) ?_
            refine lv_iload_n hx hb dJ6_numberOfTrailingZeros_0f7a4_75 rfl (lv_at hl 0 rfl) ?_
            refine lv_iconst (v := 1) hx hb dJ6_numberOfTrailingZeros_0f7a4_76 (by decide) ?_
            refine lv_iushr (v := (((((p0 ^^^ (-1)) &&& (p0 - 1)).toUInt32 >>> ((4 : Int32).toUInt32 &&& Int32.toUInt32 31)).toInt32).toUInt32 >>> ((1 : Int32).toUInt32 &&& Int32.toUInt32 31)).toInt32) hx hb dJ6_numberOfTrailingZeros_0f7a4_77 rfl ?_
            refine lv_iadd hx hb dJ6_numberOfTrailingZeros_0f7a4_78 ?_
            have hR : (5 + ((((((p0 ^^^ (-1)) &&& (p0 - 1)).toUInt32 >>> ((4 : Int32).toUInt32 &&& Int32.toUInt32 31)).toInt32).toUInt32 >>> ((1 : Int32).toUInt32 &&& Int32.toUInt32 31)).toInt32)) = r := Option.some.inj hf
            subst hR
            exact W.iret (v := (5 + ((((((p0 ^^^ (-1)) &&& (p0 - 1)).toUInt32 >>> ((4 : Int32).toUInt32 &&& Int32.toUInt32 31)).toInt32).toUInt32 >>> ((1 : Int32).toUInt32 &&& Int32.toUInt32 31)).toInt32))) hx hb hr0 (fun t ht hW => ⟨⟨(5 + ((((((p0 ^^^ (-1)) &&& (p0 - 1)).toUInt32 >>> ((4 : Int32).toUInt32 &&& Int32.toUInt32 31)).toInt32).toUInt32 >>> ((1 : Int32).toUInt32 &&& Int32.toUInt32 31)).toInt32)), (), rfl, rfl, by rw [ht]; exact hP, hD⟩, hS.F ht⟩) hS.2.2 dJ6_numberOfTrailingZeros_0f7a4_79
          · have hf := oe hf c6
            refine lv_iinc (v := 7) (lv' := [(1, .int 7), (0, .int ((((p0 ^^^ (-1)) &&& (p0 - 1)).toUInt32 >>> ((4 : Int32).toUInt32 &&& Int32.toUInt32 31)).toInt32))]) hx hb dJ6_numberOfTrailingZeros_0f7a4_67 hl (k := 1) rfl rfl (by decide) rfl (fun ls hl => ?_)
            refine lv_iload_n hx hb dJ6_numberOfTrailingZeros_0f7a4_70 rfl (lv_at hl 1 rfl) ?_
            refine lv_iconst (v := 2) hx hb dJ6_numberOfTrailingZeros_0f7a4_71 (by decide) ?_
            refine lv_iushr (v := (((((p0 ^^^ (-1)) &&& (p0 - 1)).toUInt32 >>> ((4 : Int32).toUInt32 &&& Int32.toUInt32 31)).toInt32).toUInt32 >>> ((2 : Int32).toUInt32 &&& Int32.toUInt32 31)).toInt32) hx hb dJ6_numberOfTrailingZeros_0f7a4_72 rfl ?_
            refine lv_istore_n (lv' := [(0, .int ((((((p0 ^^^ (-1)) &&& (p0 - 1)).toUInt32 >>> ((4 : Int32).toUInt32 &&& Int32.toUInt32 31)).toInt32).toUInt32 >>> ((2 : Int32).toUInt32 &&& Int32.toUInt32 31)).toInt32)), (1, .int 7)]) hx hb dJ6_numberOfTrailingZeros_0f7a4_73 rfl hl (by decide) rfl (fun ls hl => ?_)
            refine lv_iload_n hx hb dJ6_numberOfTrailingZeros_0f7a4_74 rfl (lv_at hl 1 rfl) ?_
            refine lv_iload_n hx hb dJ6_numberOfTrailingZeros_0f7a4_75 rfl (lv_at hl 0 rfl) ?_
            refine lv_iconst (v := 1) hx hb dJ6_numberOfTrailingZeros_0f7a4_76 (by decide) ?_
            refine lv_iushr (v := (((((((p0 ^^^ (-1)) &&& (p0 - 1)).toUInt32 >>> ((4 : Int32).toUInt32 &&& Int32.toUInt32 31)).toInt32).toUInt32 >>> ((2 : Int32).toUInt32 &&& Int32.toUInt32 31)).toInt32).toUInt32 >>> ((1 : Int32).toUInt32 &&& Int32.toUInt32 31)).toInt32) hx hb dJ6_numberOfTrailingZeros_0f7a4_77 rfl ?_
            refine lv_iadd hx hb dJ6_numberOfTrailingZeros_0f7a4_78 ?_
            have hR : (7 + ((((((((p0 ^^^ (-1)) &&& (p0 - 1)).toUInt32 >>> ((4 : Int32).toUInt32 &&& Int32.toUInt32 31)).toInt32).toUInt32 >>> ((2 : Int32).toUInt32 &&& Int32.toUInt32 31)).toInt32).toUInt32 >>> ((1 : Int32).toUInt32 &&& Int32.toUInt32 31)).toInt32)) = r := Option.some.inj hf
            subst hR
            exact W.iret (v := (7 + ((((((((p0 ^^^ (-1)) &&& (p0 - 1)).toUInt32 >>> ((4 : Int32).toUInt32 &&& Int32.toUInt32 31)).toInt32).toUInt32 >>> ((2 : Int32).toUInt32 &&& Int32.toUInt32 31)).toInt32).toUInt32 >>> ((1 : Int32).toUInt32 &&& Int32.toUInt32 31)).toInt32))) hx hb hr0 (fun t ht hW => ⟨⟨(7 + ((((((((p0 ^^^ (-1)) &&& (p0 - 1)).toUInt32 >>> ((4 : Int32).toUInt32 &&& Int32.toUInt32 31)).toInt32).toUInt32 >>> ((2 : Int32).toUInt32 &&& Int32.toUInt32 31)).toInt32).toUInt32 >>> ((1 : Int32).toUInt32 &&& Int32.toUInt32 31)).toInt32)), (), rfl, rfl, by rw [ht]; exact hP, hD⟩, hS.F ht⟩) hS.2.2 dJ6_numberOfTrailingZeros_0f7a4_79
      · have hf := oe hf c3
        refine lv_iinc (v := 9) (lv' := [(1, .int 9), (0, .int ((p0 ^^^ (-1)) &&& (p0 - 1)))]) hx hb dJ6_numberOfTrailingZeros_0f7a4_41 hl (k := 0) rfl rfl (by decide) rfl (fun ls hl => ?_)
        refine lv_iload_n hx hb dJ6_numberOfTrailingZeros_0f7a4_44 rfl (lv_at hl 1 rfl) ?_
        refine lv_bipush (v := 8) hx hb dJ6_numberOfTrailingZeros_0f7a4_45 (by decide) ?_
        refine lv_iushr (v := (((p0 ^^^ (-1)) &&& (p0 - 1)).toUInt32 >>> ((8 : Int32).toUInt32 &&& Int32.toUInt32 31)).toInt32) hx hb dJ6_numberOfTrailingZeros_0f7a4_47 rfl ?_
        refine lv_istore_n (lv' := [(0, .int ((((p0 ^^^ (-1)) &&& (p0 - 1)).toUInt32 >>> ((8 : Int32).toUInt32 &&& Int32.toUInt32 31)).toInt32)), (1, .int 9)]) hx hb dJ6_numberOfTrailingZeros_0f7a4_48 rfl hl (by decide) rfl (fun ls hl => ?_)
        refine lv_iload_n hx hb dJ6_numberOfTrailingZeros_0f7a4_49 rfl (lv_at hl 0 rfl) ?_
        refine lv_bipush (v := 16) hx hb dJ6_numberOfTrailingZeros_0f7a4_50 (by decide) ?_
        refine lv_icmp_le (tgt := 62) hx hb dJ6_numberOfTrailingZeros_0f7a4_52 (by decide) (fun c7 => ?_) (fun c7 => ?_)
        · have hf := oi hf c7
          refine lv_iload_n hx hb dJ6_numberOfTrailingZeros_0f7a4_62 rfl (lv_at hl 0 rfl) ?_
          refine lv_iconst (v := 4) hx hb dJ6_numberOfTrailingZeros_0f7a4_63 (by decide) ?_
          refine lv_icmp_le (tgt := 74) hx hb dJ6_numberOfTrailingZeros_0f7a4_64 (by decide) (fun c8 => ?_) (fun c8 => ?_)
          · have hf := oi hf c8
            refine lv_iload_n hx hb dJ6_numberOfTrailingZeros_0f7a4_74 rfl (lv_at hl 1 rfl) ?_
            refine lv_iload_n hx hb dJ6_numberOfTrailingZeros_0f7a4_75 rfl (lv_at hl 0 rfl) ?_
            refine lv_iconst (v := 1) hx hb dJ6_numberOfTrailingZeros_0f7a4_76 (by decide) ?_
            refine lv_iushr (v := (((((p0 ^^^ (-1)) &&& (p0 - 1)).toUInt32 >>> ((8 : Int32).toUInt32 &&& Int32.toUInt32 31)).toInt32).toUInt32 >>> ((1 : Int32).toUInt32 &&& Int32.toUInt32 31)).toInt32) hx hb dJ6_numberOfTrailingZeros_0f7a4_77 rfl ?_
            refine lv_iadd hx hb dJ6_numberOfTrailingZeros_0f7a4_78 ?_
            have hR : (9 + ((((((p0 ^^^ (-1)) &&& (p0 - 1)).toUInt32 >>> ((8 : Int32).toUInt32 &&& Int32.toUInt32 31)).toInt32).toUInt32 >>> ((1 : Int32).toUInt32 &&& Int32.toUInt32 31)).toInt32)) = r := Option.some.inj hf
            subst hR
            exact W.iret (v := (9 + ((((((p0 ^^^ (-1)) &&& (p0 - 1)).toUInt32 >>> ((8 : Int32).toUInt32 &&& Int32.toUInt32 31)).toInt32).toUInt32 >>> ((1 : Int32).toUInt32 &&& Int32.toUInt32 31)).toInt32))) hx hb hr0 (fun t ht hW => ⟨⟨(9 + ((((((p0 ^^^ (-1)) &&& (p0 - 1)).toUInt32 >>> ((8 : Int32).toUInt32 &&& Int32.toUInt32 31)).toInt32).toUInt32 >>> ((1 : Int32).toUInt32 &&& Int32.toUInt32 31)).toInt32)), (), rfl, rfl, by rw [ht]; exact hP, hD⟩, hS.F ht⟩) hS.2.2 dJ6_numberOfTrailingZeros_0f7a4_79
          · have hf := oe hf c8
            refine lv_iinc (v := 11) (lv' := [(1, .int 11), (0, .int ((((p0 ^^^ (-1)) &&& (p0 - 1)).toUInt32 >>> ((8 : Int32).toUInt32 &&& Int32.toUInt32 31)).toInt32))]) hx hb dJ6_numberOfTrailingZeros_0f7a4_67 hl (k := 1) rfl rfl (by decide) rfl (fun ls hl => ?_)
            refine lv_iload_n hx hb dJ6_numberOfTrailingZeros_0f7a4_70 rfl (lv_at hl 1 rfl) ?_
            refine lv_iconst (v := 2) hx hb dJ6_numberOfTrailingZeros_0f7a4_71 (by decide) ?_
            refine lv_iushr (v := (((((p0 ^^^ (-1)) &&& (p0 - 1)).toUInt32 >>> ((8 : Int32).toUInt32 &&& Int32.toUInt32 31)).toInt32).toUInt32 >>> ((2 : Int32).toUInt32 &&& Int32.toUInt32 31)).toInt32) hx hb dJ6_numberOfTrailingZeros_0f7a4_72 rfl ?_
            refine lv_istore_n (lv' := [(0, .int ((((((p0 ^^^ (-1)) &&& (p0 - 1)).toUInt32 >>> ((8 : Int32).toUInt32 &&& Int32.toUInt32 31)).toInt32).toUInt32 >>> ((2 : Int32).toUInt32 &&& Int32.toUInt32 31)).toInt32)), (1, .int 11)]) hx hb dJ6_numberOfTrailingZeros_0f7a4_73 rfl hl (by decide) rfl (fun ls hl => ?_)
            refine lv_iload_n hx hb dJ6_numberOfTrailingZeros_0f7a4_74 rfl (lv_at hl 1 rfl) ?_
            refine lv_iload_n hx hb dJ6_numberOfTrailingZeros_0f7a4_75 rfl (lv_at hl 0 rfl) ?_
            refine lv_iconst (v := 1) hx hb dJ6_numberOfTrailingZeros_0f7a4_76 (by decide) ?_
            refine lv_iushr (v := (((((((p0 ^^^ (-1)) &&& (p0 - 1)).toUInt32 >>> ((8 : Int32).toUInt32 &&& Int32.toUInt32 31)).toInt32).toUInt32 >>> ((2 : Int32).toUInt32 &&& Int32.toUInt32 31)).toInt32).toUInt32 >>> ((1 : Int32).toUInt32 &&& Int32.toUInt32 31)).toInt32) hx hb dJ6_numberOfTrailingZeros_0f7a4_77 rfl ?_
            refine lv_iadd hx hb dJ6_numberOfTrailingZeros_0f7a4_78 ?_
            have hR : (11 + ((((((((p0 ^^^ (-1)) &&& (p0 - 1)).toUInt32 >>> ((8 : Int32).toUInt32 &&& Int32.toUInt32 31)).toInt32).toUInt32 >>> ((2 : Int32).toUInt32 &&& Int32.toUInt32 31)).toInt32).toUInt32 >>> ((1 : Int32).toUInt32 &&& Int32.toUInt32 31)).toInt32)) = r := Option.some.inj hf
            subst hR
            exact W.iret (v := (11 + ((((((((p0 ^^^ (-1)) &&& (p0 - 1)).toUInt32 >>> ((8 : Int32).toUInt32 &&& Int32.toUInt32 31)).toInt32).toUInt32 >>> ((2 : Int32).toUInt32 &&& Int32.toUInt32 31)).toInt32).toUInt32 >>> ((1 : Int32).toUInt32 &&& Int32.toUInt32 31)).toInt32))) hx hb hr0 (fun t ht hW => ⟨⟨(11 + ((((((((p0 ^^^ (-1)) &&& (p0 - 1)).toUInt32 >>> ((8 : Int32).toUInt32 &&& Int32.toUInt32 31)).toInt32).toUInt32 >>> ((2 : Int32).toUInt32 &&& Int32.toUInt32 31)).toInt32).toUInt32 >>> ((1 : Int32).toUInt32 &&& Int32.toUInt32 31)).toInt32)), (), rfl, rfl, by rw [ht]; exact hP, hD⟩, hS.F ht⟩) hS.2.2 dJ6_numberOfTrailingZeros_0f7a4_79
        · have hf := oe hf c7
          refine lv_iinc (v := 13) (lv' := [(1, .int 13), (0, .int ((((p0 ^^^ (-1)) &&& (p0 - 1)).toUInt32 >>> ((8 : Int32).toUInt32 &&& Int32.toUInt32 31)).toInt32))]) hx hb dJ6_numberOfTrailingZeros_0f7a4_55 hl (k := 1) rfl rfl (by decide) rfl (fun ls hl => ?_)
          refine lv_iload_n hx hb dJ6_numberOfTrailingZeros_0f7a4_58 rfl (lv_at hl 1 rfl) ?_
          refine lv_iconst (v := 4) hx hb dJ6_numberOfTrailingZeros_0f7a4_59 (by decide) ?_
          refine lv_iushr (v := (((((p0 ^^^ (-1)) &&& (p0 - 1)).toUInt32 >>> ((8 : Int32).toUInt32 &&& Int32.toUInt32 31)).toInt32).toUInt32 >>> ((4 : Int32).toUInt32 &&& Int32.toUInt32 31)).toInt32) hx hb dJ6_numberOfTrailingZeros_0f7a4_60 rfl ?_
          refine lv_istore_n (lv' := [(0, .int ((((((p0 ^^^ (-1)) &&& (p0 - 1)).toUInt32 >>> ((8 : Int32).toUInt32 &&& Int32.toUInt32 31)).toInt32).toUInt32 >>> ((4 : Int32).toUInt32 &&& Int32.toUInt32 31)).toInt32)), (1, .int 13)]) hx hb dJ6_numberOfTrailingZeros_0f7a4_61 rfl hl (by decide) rfl (fun ls hl => ?_)
          refine lv_iload_n hx hb dJ6_numberOfTrailingZeros_0f7a4_62 rfl (lv_at hl 0 rfl) ?_
          refine lv_iconst (v := 4) hx hb dJ6_numberOfTrailingZeros_0f7a4_63 (by decide) ?_
          refine lv_icmp_le (tgt := 74) hx hb dJ6_numberOfTrailingZeros_0f7a4_64 (by decide) (fun c9 => ?_) (fun c9 => ?_)
          · have hf := oi hf c9
            refine lv_iload_n hx hb dJ6_numberOfTrailingZeros_0f7a4_74 rfl (lv_at hl 1 rfl) ?_
            refine lv_iload_n hx hb dJ6_numberOfTrailingZeros_0f7a4_75 rfl (lv_at hl 0 rfl) ?_
            refine lv_iconst (v := 1) hx hb dJ6_numberOfTrailingZeros_0f7a4_76 (by decide) ?_
            refine lv_iushr (v := (((((((p0 ^^^ (-1)) &&& (p0 - 1)).toUInt32 >>> ((8 : Int32).toUInt32 &&& Int32.toUInt32 31)).toInt32).toUInt32 >>> ((4 : Int32).toUInt32 &&& Int32.toUInt32 31)).toInt32).toUInt32 >>> ((1 : Int32).toUInt32 &&& Int32.toUInt32 31)).toInt32) hx hb dJ6_numberOfTrailingZeros_0f7a4_77 rfl ?_
            refine lv_iadd hx hb dJ6_numberOfTrailingZeros_0f7a4_78 ?_
            have hR : (13 + ((((((((p0 ^^^ (-1)) &&& (p0 - 1)).toUInt32 >>> ((8 : Int32).toUInt32 &&& Int32.toUInt32 31)).toInt32).toUInt32 >>> ((4 : Int32).toUInt32 &&& Int32.toUInt32 31)).toInt32).toUInt32 >>> ((1 : Int32).toUInt32 &&& Int32.toUInt32 31)).toInt32)) = r := Option.some.inj hf
            subst hR
            exact W.iret (v := (13 + ((((((((p0 ^^^ (-1)) &&& (p0 - 1)).toUInt32 >>> ((8 : Int32).toUInt32 &&& Int32.toUInt32 31)).toInt32).toUInt32 >>> ((4 : Int32).toUInt32 &&& Int32.toUInt32 31)).toInt32).toUInt32 >>> ((1 : Int32).toUInt32 &&& Int32.toUInt32 31)).toInt32))) hx hb hr0 (fun t ht hW => ⟨⟨(13 + ((((((((p0 ^^^ (-1)) &&& (p0 - 1)).toUInt32 >>> ((8 : Int32).toUInt32 &&& Int32.toUInt32 31)).toInt32).toUInt32 >>> ((4 : Int32).toUInt32 &&& Int32.toUInt32 31)).toInt32).toUInt32 >>> ((1 : Int32).toUInt32 &&& Int32.toUInt32 31)).toInt32)), (), rfl, rfl, by rw [ht]; exact hP, hD⟩, hS.F ht⟩) hS.2.2 dJ6_numberOfTrailingZeros_0f7a4_79
          · have hf := oe hf c9
            refine lv_iinc (v := 15) (lv' := [(1, .int 15), (0, .int ((((((p0 ^^^ (-1)) &&& (p0 - 1)).toUInt32 >>> ((8 : Int32).toUInt32 &&& Int32.toUInt32 31)).toInt32).toUInt32 >>> ((4 : Int32).toUInt32 &&& Int32.toUInt32 31)).toInt32))]) hx hb dJ6_numberOfTrailingZeros_0f7a4_67 hl (k := 1) rfl rfl (by decide) rfl (fun ls hl => ?_)
            refine lv_iload_n hx hb dJ6_numberOfTrailingZeros_0f7a4_70 rfl (lv_at hl 1 rfl) ?_
            refine lv_iconst (v := 2) hx hb dJ6_numberOfTrailingZeros_0f7a4_71 (by decide) ?_
            refine lv_iushr (v := (((((((p0 ^^^ (-1)) &&& (p0 - 1)).toUInt32 >>> ((8 : Int32).toUInt32 &&& Int32.toUInt32 31)).toInt32).toUInt32 >>> ((4 : Int32).toUInt32 &&& Int32.toUInt32 31)).toInt32).toUInt32 >>> ((2 : Int32).toUInt32 &&& Int32.toUInt32 31)).toInt32) hx hb dJ6_numberOfTrailingZeros_0f7a4_72 rfl ?_
            refine lv_istore_n (lv' := [(0, .int ((((((((p0 ^^^ (-1)) &&& (p0 - 1)).toUInt32 >>> ((8 : Int32).toUInt32 &&& Int32.toUInt32 31)).toInt32).toUInt32 >>> ((4 : Int32).toUInt32 &&& Int32.toUInt32 31)).toInt32).toUInt32 >>> ((2 : Int32).toUInt32 &&& Int32.toUInt32 31)).toInt32)), (1, .int 15)]) hx hb dJ6_numberOfTrailingZeros_0f7a4_73 rfl hl (by decide) rfl (fun ls hl => ?_)
            refine lv_iload_n hx hb dJ6_numberOfTrailingZeros_0f7a4_74 rfl (lv_at hl 1 rfl) ?_
            refine lv_iload_n hx hb dJ6_numberOfTrailingZeros_0f7a4_75 rfl (lv_at hl 0 rfl) ?_
            refine lv_iconst (v := 1) hx hb dJ6_numberOfTrailingZeros_0f7a4_76 (by decide) ?_
            refine lv_iushr (v := (((((((((p0 ^^^ (-1)) &&& (p0 - 1)).toUInt32 >>> ((8 : Int32).toUInt32 &&& Int32.toUInt32 31)).toInt32).toUInt32 >>> ((4 : Int32).toUInt32 &&& Int32.toUInt32 31)).toInt32).toUInt32 >>> ((2 : Int32).toUInt32 &&& Int32.toUInt32 31)).toInt32).toUInt32 >>> ((1 : Int32).toUInt32 &&& Int32.toUInt32 31)).toInt32) hx hb dJ6_numberOfTrailingZeros_0f7a4_77 rfl ?_
            refine lv_iadd hx hb dJ6_numberOfTrailingZeros_0f7a4_78 ?_
            have hR : (15 + ((((((((((p0 ^^^ (-1)) &&& (p0 - 1)).toUInt32 >>> ((8 : Int32).toUInt32 &&& Int32.toUInt32 31)).toInt32).toUInt32 >>> ((4 : Int32).toUInt32 &&& Int32.toUInt32 31)).toInt32).toUInt32 >>> ((2 : Int32).toUInt32 &&& Int32.toUInt32 31)).toInt32).toUInt32 >>> ((1 : Int32).toUInt32 &&& Int32.toUInt32 31)).toInt32)) = r := Option.some.inj hf
            subst hR
            exact W.iret (v := (15 + ((((((((((p0 ^^^ (-1)) &&& (p0 - 1)).toUInt32 >>> ((8 : Int32).toUInt32 &&& Int32.toUInt32 31)).toInt32).toUInt32 >>> ((4 : Int32).toUInt32 &&& Int32.toUInt32 31)).toInt32).toUInt32 >>> ((2 : Int32).toUInt32 &&& Int32.toUInt32 31)).toInt32).toUInt32 >>> ((1 : Int32).toUInt32 &&& Int32.toUInt32 31)).toInt32))) hx hb hr0 (fun t ht hW => ⟨⟨(15 + ((((((((((p0 ^^^ (-1)) &&& (p0 - 1)).toUInt32 >>> ((8 : Int32).toUInt32 &&& Int32.toUInt32 31)).toInt32).toUInt32 >>> ((4 : Int32).toUInt32 &&& Int32.toUInt32 31)).toInt32).toUInt32 >>> ((2 : Int32).toUInt32 &&& Int32.toUInt32 31)).toInt32).toUInt32 >>> ((1 : Int32).toUInt32 &&& Int32.toUInt32 31)).toInt32)), (), rfl, rfl, by rw [ht]; exact hP, hD⟩, hS.F ht⟩) hS.2.2 dJ6_numberOfTrailingZeros_0f7a4_79
    · have hf := oe hf c2
      refine lv_iinc (v := 17) (lv' := [(1, .int 17), (0, .int ((p0 ^^^ (-1)) &&& (p0 - 1)))]) hx hb dJ6_numberOfTrailingZeros_0f7a4_26 hl (k := 0) rfl rfl (by decide) rfl (fun ls hl => ?_)
      refine lv_iload_n hx hb dJ6_numberOfTrailingZeros_0f7a4_29 rfl (lv_at hl 1 rfl) ?_
      refine lv_bipush (v := 16) hx hb dJ6_numberOfTrailingZeros_0f7a4_30 (by decide) ?_
      refine lv_iushr (v := (((p0 ^^^ (-1)) &&& (p0 - 1)).toUInt32 >>> ((16 : Int32).toUInt32 &&& Int32.toUInt32 31)).toInt32) hx hb dJ6_numberOfTrailingZeros_0f7a4_32 rfl ?_
      refine lv_istore_n (lv' := [(0, .int ((((p0 ^^^ (-1)) &&& (p0 - 1)).toUInt32 >>> ((16 : Int32).toUInt32 &&& Int32.toUInt32 31)).toInt32)), (1, .int 17)]) hx hb dJ6_numberOfTrailingZeros_0f7a4_33 rfl hl (by decide) rfl (fun ls hl => ?_)
      refine lv_iload_n hx hb dJ6_numberOfTrailingZeros_0f7a4_34 rfl (lv_at hl 0 rfl) ?_
      refine lv_sipush (v := 256) hx hb dJ6_numberOfTrailingZeros_0f7a4_35 (by decide) ?_
      refine lv_icmp_le (tgt := 49) hx hb dJ6_numberOfTrailingZeros_0f7a4_38 (by decide) (fun c10 => ?_) (fun c10 => ?_)
      · have hf := oi hf c10
        refine lv_iload_n hx hb dJ6_numberOfTrailingZeros_0f7a4_49 rfl (lv_at hl 0 rfl) ?_
        refine lv_bipush (v := 16) hx hb dJ6_numberOfTrailingZeros_0f7a4_50 (by decide) ?_
        refine lv_icmp_le (tgt := 62) hx hb dJ6_numberOfTrailingZeros_0f7a4_52 (by decide) (fun c11 => ?_) (fun c11 => ?_)
        · have hf := oi hf c11
          refine lv_iload_n hx hb dJ6_numberOfTrailingZeros_0f7a4_62 rfl (lv_at hl 0 rfl) ?_
          refine lv_iconst (v := 4) hx hb dJ6_numberOfTrailingZeros_0f7a4_63 (by decide) ?_
          refine lv_icmp_le (tgt := 74) hx hb dJ6_numberOfTrailingZeros_0f7a4_64 (by decide) (fun c12 => ?_) (fun c12 => ?_)
          · have hf := oi hf c12
            refine lv_iload_n hx hb dJ6_numberOfTrailingZeros_0f7a4_74 rfl (lv_at hl 1 rfl) ?_
            refine lv_iload_n hx hb dJ6_numberOfTrailingZeros_0f7a4_75 rfl (lv_at hl 0 rfl) ?_
            refine lv_iconst (v := 1) hx hb dJ6_numberOfTrailingZeros_0f7a4_76 (by decide) ?_
            refine lv_iushr (v := (((((p0 ^^^ (-1)) &&& (p0 - 1)).toUInt32 >>> ((16 : Int32).toUInt32 &&& Int32.toUInt32 31)).toInt32).toUInt32 >>> ((1 : Int32).toUInt32 &&& Int32.toUInt32 31)).toInt32) hx hb dJ6_numberOfTrailingZeros_0f7a4_77 rfl ?_
            refine lv_iadd hx hb dJ6_numberOfTrailingZeros_0f7a4_78 ?_
            have hR : (17 + ((((((p0 ^^^ (-1)) &&& (p0 - 1)).toUInt32 >>> ((16 : Int32).toUInt32 &&& Int32.toUInt32 31)).toInt32).toUInt32 >>> ((1 : Int32).toUInt32 &&& Int32.toUInt32 31)).toInt32)) = r := Option.some.inj hf
            subst hR
            exact W.iret (v := (17 + ((((((p0 ^^^ (-1)) &&& (p0 - 1)).toUInt32 >>> ((16 : Int32).toUInt32 &&& Int32.toUInt32 31)).toInt32).toUInt32 >>> ((1 : Int32).toUInt32 &&& Int32.toUInt32 31)).toInt32))) hx hb hr0 (fun t ht hW => ⟨⟨(17 + ((((((p0 ^^^ (-1)) &&& (p0 - 1)).toUInt32 >>> ((16 : Int32).toUInt32 &&& Int32.toUInt32 31)).toInt32).toUInt32 >>> ((1 : Int32).toUInt32 &&& Int32.toUInt32 31)).toInt32)), (), rfl, rfl, by rw [ht]; exact hP, hD⟩, hS.F ht⟩) hS.2.2 dJ6_numberOfTrailingZeros_0f7a4_79
          · have hf := oe hf c12
            refine lv_iinc (v := 19) (lv' := [(1, .int 19), (0, .int ((((p0 ^^^ (-1)) &&& (p0 - 1)).toUInt32 >>> ((16 : Int32).toUInt32 &&& Int32.toUInt32 31)).toInt32))]) hx hb dJ6_numberOfTrailingZeros_0f7a4_67 hl (k := 1) rfl rfl (by decide) rfl (fun ls hl => ?_)
            refine lv_iload_n hx hb dJ6_numberOfTrailingZeros_0f7a4_70 rfl (lv_at hl 1 rfl) ?_
            refine lv_iconst (v := 2) hx hb dJ6_numberOfTrailingZeros_0f7a4_71 (by decide) ?_
            refine lv_iushr (v := (((((p0 ^^^ (-1)) &&& (p0 - 1)).toUInt32 >>> ((16 : Int32).toUInt32 &&& Int32.toUInt32 31)).toInt32).toUInt32 >>> ((2 : Int32).toUInt32 &&& Int32.toUInt32 31)).toInt32) hx hb dJ6_numberOfTrailingZeros_0f7a4_72 rfl ?_
            refine lv_istore_n (lv' := [(0, .int ((((((p0 ^^^ (-1)) &&& (p0 - 1)).toUInt32 >>> ((16 : Int32).toUInt32 &&& Int32.toUInt32 31)).toInt32).toUInt32 >>> ((2 : Int32).toUInt32 &&& Int32.toUInt32 31)).toInt32)), (1, .int 19)]) hx hb dJ6_numberOfTrailingZeros_0f7a4_73 rfl hl (by decide) rfl (fun ls hl => ?_)
            refine lv_iload_n hx hb dJ6_numberOfTrailingZeros_0f7a4_74 rfl (lv_at hl 1 rfl) ?_
            refine lv_iload_n hx hb dJ6_numberOfTrailingZeros_0f7a4_75 rfl (lv_at hl 0 rfl) ?_
            refine lv_iconst (v := 1) hx hb dJ6_numberOfTrailingZeros_0f7a4_76 (by decide) ?_
            refine lv_iushr (v := (((((((p0 ^^^ (-1)) &&& (p0 - 1)).toUInt32 >>> ((16 : Int32).toUInt32 &&& Int32.toUInt32 31)).toInt32).toUInt32 >>> ((2 : Int32).toUInt32 &&& Int32.toUInt32 31)).toInt32).toUInt32 >>> ((1 : Int32).toUInt32 &&& Int32.toUInt32 31)).toInt32) hx hb dJ6_numberOfTrailingZeros_0f7a4_77 rfl ?_
            refine lv_iadd hx hb dJ6_numberOfTrailingZeros_0f7a4_78 ?_
            have hR : (19 + ((((((((p0 ^^^ (-1)) &&& (p0 - 1)).toUInt32 >>> ((16 : Int32).toUInt32 &&& Int32.toUInt32 31)).toInt32).toUInt32 >>> ((2 : Int32).toUInt32 &&& Int32.toUInt32 31)).toInt32).toUInt32 >>> ((1 : Int32).toUInt32 &&& Int32.toUInt32 31)).toInt32)) = r := Option.some.inj hf
            subst hR
            exact W.iret (v := (19 + ((((((((p0 ^^^ (-1)) &&& (p0 - 1)).toUInt32 >>> ((16 : Int32).toUInt32 &&& Int32.toUInt32 31)).toInt32).toUInt32 >>> ((2 : Int32).toUInt32 &&& Int32.toUInt32 31)).toInt32).toUInt32 >>> ((1 : Int32).toUInt32 &&& Int32.toUInt32 31)).toInt32))) hx hb hr0 (fun t ht hW => ⟨⟨(19 + ((((((((p0 ^^^ (-1)) &&& (p0 - 1)).toUInt32 >>> ((16 : Int32).toUInt32 &&& Int32.toUInt32 31)).toInt32).toUInt32 >>> ((2 : Int32).toUInt32 &&& Int32.toUInt32 31)).toInt32).toUInt32 >>> ((1 : Int32).toUInt32 &&& Int32.toUInt32 31)).toInt32)), (), rfl, rfl, by rw [ht]; exact hP, hD⟩, hS.F ht⟩) hS.2.2 dJ6_numberOfTrailingZeros_0f7a4_79
        · have hf := oe hf c11
          refine lv_iinc (v := 21) (lv' := [(1, .int 21), (0, .int ((((p0 ^^^ (-1)) &&& (p0 - 1)).toUInt32 >>> ((16 : Int32).toUInt32 &&& Int32.toUInt32 31)).toInt32))]) hx hb dJ6_numberOfTrailingZeros_0f7a4_55 hl (k := 1) rfl rfl (by decide) rfl (fun ls hl => ?_)
          refine lv_iload_n hx hb dJ6_numberOfTrailingZeros_0f7a4_58 rfl (lv_at hl 1 rfl) ?_
          refine lv_iconst (v := 4) hx hb dJ6_numberOfTrailingZeros_0f7a4_59 (by decide) ?_
          refine lv_iushr (v := (((((p0 ^^^ (-1)) &&& (p0 - 1)).toUInt32 >>> ((16 : Int32).toUInt32 &&& Int32.toUInt32 31)).toInt32).toUInt32 >>> ((4 : Int32).toUInt32 &&& Int32.toUInt32 31)).toInt32) hx hb dJ6_numberOfTrailingZeros_0f7a4_60 rfl ?_
          refine lv_istore_n (lv' := [(0, .int ((((((p0 ^^^ (-1)) &&& (p0 - 1)).toUInt32 >>> ((16 : Int32).toUInt32 &&& Int32.toUInt32 31)).toInt32).toUInt32 >>> ((4 : Int32).toUInt32 &&& Int32.toUInt32 31)).toInt32)), (1, .int 21)]) hx hb dJ6_numberOfTrailingZeros_0f7a4_61 rfl hl (by decide) rfl (fun ls hl => ?_)
          refine lv_iload_n hx hb dJ6_numberOfTrailingZeros_0f7a4_62 rfl (lv_at hl 0 rfl) ?_
          refine lv_iconst (v := 4) hx hb dJ6_numberOfTrailingZeros_0f7a4_63 (by decide) ?_
          refine lv_icmp_le (tgt := 74) hx hb dJ6_numberOfTrailingZeros_0f7a4_64 (by decide) (fun c13 => ?_) (fun c13 => ?_)
          · have hf := oi hf c13
            refine lv_iload_n hx hb dJ6_numberOfTrailingZeros_0f7a4_74 rfl (lv_at hl 1 rfl) ?_
            refine lv_iload_n hx hb dJ6_numberOfTrailingZeros_0f7a4_75 rfl (lv_at hl 0 rfl) ?_
            refine lv_iconst (v := 1) hx hb dJ6_numberOfTrailingZeros_0f7a4_76 (by decide) ?_
            refine lv_iushr (v := (((((((p0 ^^^ (-1)) &&& (p0 - 1)).toUInt32 >>> ((16 : Int32).toUInt32 &&& Int32.toUInt32 31)).toInt32).toUInt32 >>> ((4 : Int32).toUInt32 &&& Int32.toUInt32 31)).toInt32).toUInt32 >>> ((1 : Int32).toUInt32 &&& Int32.toUInt32 31)).toInt32) hx hb dJ6_numberOfTrailingZeros_0f7a4_77 rfl ?_
            refine lv_iadd hx hb dJ6_numberOfTrailingZeros_0f7a4_78 ?_
            have hR : (21 + ((((((((p0 ^^^ (-1)) &&& (p0 - 1)).toUInt32 >>> ((16 : Int32).toUInt32 &&& Int32.toUInt32 31)).toInt32).toUInt32 >>> ((4 : Int32).toUInt32 &&& Int32.toUInt32 31)).toInt32).toUInt32 >>> ((1 : Int32).toUInt32 &&& Int32.toUInt32 31)).toInt32)) = r := Option.some.inj hf
            subst hR
            exact W.iret (v := (21 + ((((((((p0 ^^^ (-1)) &&& (p0 - 1)).toUInt32 >>> ((16 : Int32).toUInt32 &&& Int32.toUInt32 31)).toInt32).toUInt32 >>> ((4 : Int32).toUInt32 &&& Int32.toUInt32 31)).toInt32).toUInt32 >>> ((1 : Int32).toUInt32 &&& Int32.toUInt32 31)).toInt32))) hx hb hr0 (fun t ht hW => ⟨⟨(21 + ((((((((p0 ^^^ (-1)) &&& (p0 - 1)).toUInt32 >>> ((16 : Int32).toUInt32 &&& Int32.toUInt32 31)).toInt32).toUInt32 >>> ((4 : Int32).toUInt32 &&& Int32.toUInt32 31)).toInt32).toUInt32 >>> ((1 : Int32).toUInt32 &&& Int32.toUInt32 31)).toInt32)), (), rfl, rfl, by rw [ht]; exact hP, hD⟩, hS.F ht⟩) hS.2.2 dJ6_numberOfTrailingZeros_0f7a4_79
          · have hf := oe hf c13
            refine lv_iinc (v := 23) (lv' := [(1, .int 23), (0, .int ((((((p0 ^^^ (-1)) &&& (p0 - 1)).toUInt32 >>> ((16 : Int32).toUInt32 &&& Int32.toUInt32 31)).toInt32).toUInt32 >>> ((4 : Int32).toUInt32 &&& Int32.toUInt32 31)).toInt32))]) hx hb dJ6_numberOfTrailingZeros_0f7a4_67 hl (k := 1) rfl rfl (by decide) rfl (fun ls hl => ?_)
            refine lv_iload_n hx hb dJ6_numberOfTrailingZeros_0f7a4_70 rfl (lv_at hl 1 rfl) ?_
            refine lv_iconst (v := 2) hx hb dJ6_numberOfTrailingZeros_0f7a4_71 (by decide) ?_
            refine lv_iushr (v := (((((((p0 ^^^ (-1)) &&& (p0 - 1)).toUInt32 >>> ((16 : Int32).toUInt32 &&& Int32.toUInt32 31)).toInt32).toUInt32 >>> ((4 : Int32).toUInt32 &&& Int32.toUInt32 31)).toInt32).toUInt32 >>> ((2 : Int32).toUInt32 &&& Int32.toUInt32 31)).toInt32) hx hb dJ6_numberOfTrailingZeros_0f7a4_72 rfl ?_
            refine lv_istore_n (lv' := [(0, .int ((((((((p0 ^^^ (-1)) &&& (p0 - 1)).toUInt32 >>> ((16 : Int32).toUInt32 &&& Int32.toUInt32 31)).toInt32).toUInt32 >>> ((4 : Int32).toUInt32 &&& Int32.toUInt32 31)).toInt32).toUInt32 >>> ((2 : Int32).toUInt32 &&& Int32.toUInt32 31)).toInt32)), (1, .int 23)]) hx hb dJ6_numberOfTrailingZeros_0f7a4_73 rfl hl (by decide) rfl (fun ls hl => ?_)
            refine lv_iload_n hx hb dJ6_numberOfTrailingZeros_0f7a4_74 rfl (lv_at hl 1 rfl) ?_
            refine lv_iload_n hx hb dJ6_numberOfTrailingZeros_0f7a4_75 rfl (lv_at hl 0 rfl) ?_
            refine lv_iconst (v := 1) hx hb dJ6_numberOfTrailingZeros_0f7a4_76 (by decide) ?_
            refine lv_iushr (v := (((((((((p0 ^^^ (-1)) &&& (p0 - 1)).toUInt32 >>> ((16 : Int32).toUInt32 &&& Int32.toUInt32 31)).toInt32).toUInt32 >>> ((4 : Int32).toUInt32 &&& Int32.toUInt32 31)).toInt32).toUInt32 >>> ((2 : Int32).toUInt32 &&& Int32.toUInt32 31)).toInt32).toUInt32 >>> ((1 : Int32).toUInt32 &&& Int32.toUInt32 31)).toInt32) hx hb dJ6_numberOfTrailingZeros_0f7a4_77 rfl ?_
            refine lv_iadd hx hb dJ6_numberOfTrailingZeros_0f7a4_78 ?_
            have hR : (23 + ((((((((((p0 ^^^ (-1)) &&& (p0 - 1)).toUInt32 >>> ((16 : Int32).toUInt32 &&& Int32.toUInt32 31)).toInt32).toUInt32 >>> ((4 : Int32).toUInt32 &&& Int32.toUInt32 31)).toInt32).toUInt32 >>> ((2 : Int32).toUInt32 &&& Int32.toUInt32 31)).toInt32).toUInt32 >>> ((1 : Int32).toUInt32 &&& Int32.toUInt32 31)).toInt32)) = r := Option.some.inj hf
            subst hR
            exact W.iret (v := (23 + ((((((((((p0 ^^^ (-1)) &&& (p0 - 1)).toUInt32 >>> ((16 : Int32).toUInt32 &&& Int32.toUInt32 31)).toInt32).toUInt32 >>> ((4 : Int32).toUInt32 &&& Int32.toUInt32 31)).toInt32).toUInt32 >>> ((2 : Int32).toUInt32 &&& Int32.toUInt32 31)).toInt32).toUInt32 >>> ((1 : Int32).toUInt32 &&& Int32.toUInt32 31)).toInt32))) hx hb hr0 (fun t ht hW => ⟨⟨(23 + ((((((((((p0 ^^^ (-1)) &&& (p0 - 1)).toUInt32 >>> ((16 : Int32).toUInt32 &&& Int32.toUInt32 31)).toInt32).toUInt32 >>> ((4 : Int32).toUInt32 &&& Int32.toUInt32 31)).toInt32).toUInt32 >>> ((2 : Int32).toUInt32 &&& Int32.toUInt32 31)).toInt32).toUInt32 >>> ((1 : Int32).toUInt32 &&& Int32.toUInt32 31)).toInt32)), (), rfl, rfl, by rw [ht]; exact hP, hD⟩, hS.F ht⟩) hS.2.2 dJ6_numberOfTrailingZeros_0f7a4_79
      · have hf := oe hf c10
        refine lv_iinc (v := 25) (lv' := [(1, .int 25), (0, .int ((((p0 ^^^ (-1)) &&& (p0 - 1)).toUInt32 >>> ((16 : Int32).toUInt32 &&& Int32.toUInt32 31)).toInt32))]) hx hb dJ6_numberOfTrailingZeros_0f7a4_41 hl (k := 1) rfl rfl (by decide) rfl (fun ls hl => ?_)
        refine lv_iload_n hx hb dJ6_numberOfTrailingZeros_0f7a4_44 rfl (lv_at hl 1 rfl) ?_
        refine lv_bipush (v := 8) hx hb dJ6_numberOfTrailingZeros_0f7a4_45 (by decide) ?_
        refine lv_iushr (v := (((((p0 ^^^ (-1)) &&& (p0 - 1)).toUInt32 >>> ((16 : Int32).toUInt32 &&& Int32.toUInt32 31)).toInt32).toUInt32 >>> ((8 : Int32).toUInt32 &&& Int32.toUInt32 31)).toInt32) hx hb dJ6_numberOfTrailingZeros_0f7a4_47 rfl ?_
        refine lv_istore_n (lv' := [(0, .int ((((((p0 ^^^ (-1)) &&& (p0 - 1)).toUInt32 >>> ((16 : Int32).toUInt32 &&& Int32.toUInt32 31)).toInt32).toUInt32 >>> ((8 : Int32).toUInt32 &&& Int32.toUInt32 31)).toInt32)), (1, .int 25)]) hx hb dJ6_numberOfTrailingZeros_0f7a4_48 rfl hl (by decide) rfl (fun ls hl => ?_)
        refine lv_iload_n hx hb dJ6_numberOfTrailingZeros_0f7a4_49 rfl (lv_at hl 0 rfl) ?_
        refine lv_bipush (v := 16) hx hb dJ6_numberOfTrailingZeros_0f7a4_50 (by decide) ?_
        refine lv_icmp_le (tgt := 62) hx hb dJ6_numberOfTrailingZeros_0f7a4_52 (by decide) (fun c14 => ?_) (fun c14 => ?_)
        · have hf := oi hf c14
          refine lv_iload_n hx hb dJ6_numberOfTrailingZeros_0f7a4_62 rfl (lv_at hl 0 rfl) ?_
          refine lv_iconst (v := 4) hx hb dJ6_numberOfTrailingZeros_0f7a4_63 (by decide) ?_
          refine lv_icmp_le (tgt := 74) hx hb dJ6_numberOfTrailingZeros_0f7a4_64 (by decide) (fun c15 => ?_) (fun c15 => ?_)
          · have hf := oi hf c15
            refine lv_iload_n hx hb dJ6_numberOfTrailingZeros_0f7a4_74 rfl (lv_at hl 1 rfl) ?_
            refine lv_iload_n hx hb dJ6_numberOfTrailingZeros_0f7a4_75 rfl (lv_at hl 0 rfl) ?_
            refine lv_iconst (v := 1) hx hb dJ6_numberOfTrailingZeros_0f7a4_76 (by decide) ?_
            refine lv_iushr (v := (((((((p0 ^^^ (-1)) &&& (p0 - 1)).toUInt32 >>> ((16 : Int32).toUInt32 &&& Int32.toUInt32 31)).toInt32).toUInt32 >>> ((8 : Int32).toUInt32 &&& Int32.toUInt32 31)).toInt32).toUInt32 >>> ((1 : Int32).toUInt32 &&& Int32.toUInt32 31)).toInt32) hx hb dJ6_numberOfTrailingZeros_0f7a4_77 rfl ?_
            refine lv_iadd hx hb dJ6_numberOfTrailingZeros_0f7a4_78 ?_
            have hR : (25 + ((((((((p0 ^^^ (-1)) &&& (p0 - 1)).toUInt32 >>> ((16 : Int32).toUInt32 &&& Int32.toUInt32 31)).toInt32).toUInt32 >>> ((8 : Int32).toUInt32 &&& Int32.toUInt32 31)).toInt32).toUInt32 >>> ((1 : Int32).toUInt32 &&& Int32.toUInt32 31)).toInt32)) = r := Option.some.inj hf
            subst hR
            exact W.iret (v := (25 + ((((((((p0 ^^^ (-1)) &&& (p0 - 1)).toUInt32 >>> ((16 : Int32).toUInt32 &&& Int32.toUInt32 31)).toInt32).toUInt32 >>> ((8 : Int32).toUInt32 &&& Int32.toUInt32 31)).toInt32).toUInt32 >>> ((1 : Int32).toUInt32 &&& Int32.toUInt32 31)).toInt32))) hx hb hr0 (fun t ht hW => ⟨⟨(25 + ((((((((p0 ^^^ (-1)) &&& (p0 - 1)).toUInt32 >>> ((16 : Int32).toUInt32 &&& Int32.toUInt32 31)).toInt32).toUInt32 >>> ((8 : Int32).toUInt32 &&& Int32.toUInt32 31)).toInt32).toUInt32 >>> ((1 : Int32).toUInt32 &&& Int32.toUInt32 31)).toInt32)), (), rfl, rfl, by rw [ht]; exact hP, hD⟩, hS.F ht⟩) hS.2.2 dJ6_numberOfTrailingZeros_0f7a4_79
          · have hf := oe hf c15
            refine lv_iinc (v := 27) (lv' := [(1, .int 27), (0, .int ((((((p0 ^^^ (-1)) &&& (p0 - 1)).toUInt32 >>> ((16 : Int32).toUInt32 &&& Int32.toUInt32 31)).toInt32).toUInt32 >>> ((8 : Int32).toUInt32 &&& Int32.toUInt32 31)).toInt32))]) hx hb dJ6_numberOfTrailingZeros_0f7a4_67 hl (k := 1) rfl rfl (by decide) rfl (fun ls hl => ?_)
            refine lv_iload_n hx hb dJ6_numberOfTrailingZeros_0f7a4_70 rfl (lv_at hl 1 rfl) ?_
            refine lv_iconst (v := 2) hx hb dJ6_numberOfTrailingZeros_0f7a4_71 (by decide) ?_
            refine lv_iushr (v := (((((((p0 ^^^ (-1)) &&& (p0 - 1)).toUInt32 >>> ((16 : Int32).toUInt32 &&& Int32.toUInt32 31)).toInt32).toUInt32 >>> ((8 : Int32).toUInt32 &&& Int32.toUInt32 31)).toInt32).toUInt32 >>> ((2 : Int32).toUInt32 &&& Int32.toUInt32 31)).toInt32) hx hb dJ6_numberOfTrailingZeros_0f7a4_72 rfl ?_
            refine lv_istore_n (lv' := [(0, .int ((((((((p0 ^^^ (-1)) &&& (p0 - 1)).toUInt32 >>> ((16 : Int32).toUInt32 &&& Int32.toUInt32 31)).toInt32).toUInt32 >>> ((8 : Int32).toUInt32 &&& Int32.toUInt32 31)).toInt32).toUInt32 >>> ((2 : Int32).toUInt32 &&& Int32.toUInt32 31)).toInt32)), (1, .int 27)]) hx hb dJ6_numberOfTrailingZeros_0f7a4_73 rfl hl (by decide) rfl (fun ls hl => ?_)
            refine lv_iload_n hx hb dJ6_numberOfTrailingZeros_0f7a4_74 rfl (lv_at hl 1 rfl) ?_
            refine lv_iload_n hx hb dJ6_numberOfTrailingZeros_0f7a4_75 rfl (lv_at hl 0 rfl) ?_
            refine lv_iconst (v := 1) hx hb dJ6_numberOfTrailingZeros_0f7a4_76 (by decide) ?_
            refine lv_iushr (v := (((((((((p0 ^^^ (-1)) &&& (p0 - 1)).toUInt32 >>> ((16 : Int32).toUInt32 &&& Int32.toUInt32 31)).toInt32).toUInt32 >>> ((8 : Int32).toUInt32 &&& Int32.toUInt32 31)).toInt32).toUInt32 >>> ((2 : Int32).toUInt32 &&& Int32.toUInt32 31)).toInt32).toUInt32 >>> ((1 : Int32).toUInt32 &&& Int32.toUInt32 31)).toInt32) hx hb dJ6_numberOfTrailingZeros_0f7a4_77 rfl ?_
            refine lv_iadd hx hb dJ6_numberOfTrailingZeros_0f7a4_78 ?_
            have hR : (27 + ((((((((((p0 ^^^ (-1)) &&& (p0 - 1)).toUInt32 >>> ((16 : Int32).toUInt32 &&& Int32.toUInt32 31)).toInt32).toUInt32 >>> ((8 : Int32).toUInt32 &&& Int32.toUInt32 31)).toInt32).toUInt32 >>> ((2 : Int32).toUInt32 &&& Int32.toUInt32 31)).toInt32).toUInt32 >>> ((1 : Int32).toUInt32 &&& Int32.toUInt32 31)).toInt32)) = r := Option.some.inj hf
            subst hR
            exact W.iret (v := (27 + ((((((((((p0 ^^^ (-1)) &&& (p0 - 1)).toUInt32 >>> ((16 : Int32).toUInt32 &&& Int32.toUInt32 31)).toInt32).toUInt32 >>> ((8 : Int32).toUInt32 &&& Int32.toUInt32 31)).toInt32).toUInt32 >>> ((2 : Int32).toUInt32 &&& Int32.toUInt32 31)).toInt32).toUInt32 >>> ((1 : Int32).toUInt32 &&& Int32.toUInt32 31)).toInt32))) hx hb hr0 (fun t ht hW => ⟨⟨(27 + ((((((((((p0 ^^^ (-1)) &&& (p0 - 1)).toUInt32 >>> ((16 : Int32).toUInt32 &&& Int32.toUInt32 31)).toInt32).toUInt32 >>> ((8 : Int32).toUInt32 &&& Int32.toUInt32 31)).toInt32).toUInt32 >>> ((2 : Int32).toUInt32 &&& Int32.toUInt32 31)).toInt32).toUInt32 >>> ((1 : Int32).toUInt32 &&& Int32.toUInt32 31)).toInt32)), (), rfl, rfl, by rw [ht]; exact hP, hD⟩, hS.F ht⟩) hS.2.2 dJ6_numberOfTrailingZeros_0f7a4_79
        · have hf := oe hf c14
          refine lv_iinc (v := 29) (lv' := [(1, .int 29), (0, .int ((((((p0 ^^^ (-1)) &&& (p0 - 1)).toUInt32 >>> ((16 : Int32).toUInt32 &&& Int32.toUInt32 31)).toInt32).toUInt32 >>> ((8 : Int32).toUInt32 &&& Int32.toUInt32 31)).toInt32))]) hx hb dJ6_numberOfTrailingZeros_0f7a4_55 hl (k := 1) rfl rfl (by decide) rfl (fun ls hl => ?_)
          refine lv_iload_n hx hb dJ6_numberOfTrailingZeros_0f7a4_58 rfl (lv_at hl 1 rfl) ?_
          refine lv_iconst (v := 4) hx hb dJ6_numberOfTrailingZeros_0f7a4_59 (by decide) ?_
          refine lv_iushr (v := (((((((p0 ^^^ (-1)) &&& (p0 - 1)).toUInt32 >>> ((16 : Int32).toUInt32 &&& Int32.toUInt32 31)).toInt32).toUInt32 >>> ((8 : Int32).toUInt32 &&& Int32.toUInt32 31)).toInt32).toUInt32 >>> ((4 : Int32).toUInt32 &&& Int32.toUInt32 31)).toInt32) hx hb dJ6_numberOfTrailingZeros_0f7a4_60 rfl ?_
          refine lv_istore_n (lv' := [(0, .int ((((((((p0 ^^^ (-1)) &&& (p0 - 1)).toUInt32 >>> ((16 : Int32).toUInt32 &&& Int32.toUInt32 31)).toInt32).toUInt32 >>> ((8 : Int32).toUInt32 &&& Int32.toUInt32 31)).toInt32).toUInt32 >>> ((4 : Int32).toUInt32 &&& Int32.toUInt32 31)).toInt32)), (1, .int 29)]) hx hb dJ6_numberOfTrailingZeros_0f7a4_61 rfl hl (by decide) rfl (fun ls hl => ?_)
          refine lv_iload_n hx hb dJ6_numberOfTrailingZeros_0f7a4_62 rfl (lv_at hl 0 rfl) ?_
          refine lv_iconst (v := 4) hx hb dJ6_numberOfTrailingZeros_0f7a4_63 (by decide) ?_
          refine lv_icmp_le (tgt := 74) hx hb dJ6_numberOfTrailingZeros_0f7a4_64 (by decide) (fun c16 => ?_) (fun c16 => ?_)
          · have hf := oi hf c16
            refine lv_iload_n hx hb dJ6_numberOfTrailingZeros_0f7a4_74 rfl (lv_at hl 1 rfl) ?_
            refine lv_iload_n hx hb dJ6_numberOfTrailingZeros_0f7a4_75 rfl (lv_at hl 0 rfl) ?_
            refine lv_iconst (v := 1) hx hb dJ6_numberOfTrailingZeros_0f7a4_76 (by decide) ?_
            refine lv_iushr (v := (((((((((p0 ^^^ (-1)) &&& (p0 - 1)).toUInt32 >>> ((16 : Int32).toUInt32 &&& Int32.toUInt32 31)).toInt32).toUInt32 >>> ((8 : Int32).toUInt32 &&& Int32.toUInt32 31)).toInt32).toUInt32 >>> ((4 : Int32).toUInt32 &&& Int32.toUInt32 31)).toInt32).toUInt32 >>> ((1 : Int32).toUInt32 &&& Int32.toUInt32 31)).toInt32) hx hb dJ6_numberOfTrailingZeros_0f7a4_77 rfl ?_
            refine lv_iadd hx hb dJ6_numberOfTrailingZeros_0f7a4_78 ?_
            have hR : (29 + ((((((((((p0 ^^^ (-1)) &&& (p0 - 1)).toUInt32 >>> ((16 : Int32).toUInt32 &&& Int32.toUInt32 31)).toInt32).toUInt32 >>> ((8 : Int32).toUInt32 &&& Int32.toUInt32 31)).toInt32).toUInt32 >>> ((4 : Int32).toUInt32 &&& Int32.toUInt32 31)).toInt32).toUInt32 >>> ((1 : Int32).toUInt32 &&& Int32.toUInt32 31)).toInt32)) = r := Option.some.inj hf
            subst hR
            exact W.iret (v := (29 + ((((((((((p0 ^^^ (-1)) &&& (p0 - 1)).toUInt32 >>> ((16 : Int32).toUInt32 &&& Int32.toUInt32 31)).toInt32).toUInt32 >>> ((8 : Int32).toUInt32 &&& Int32.toUInt32 31)).toInt32).toUInt32 >>> ((4 : Int32).toUInt32 &&& Int32.toUInt32 31)).toInt32).toUInt32 >>> ((1 : Int32).toUInt32 &&& Int32.toUInt32 31)).toInt32))) hx hb hr0 (fun t ht hW => ⟨⟨(29 + ((((((((((p0 ^^^ (-1)) &&& (p0 - 1)).toUInt32 >>> ((16 : Int32).toUInt32 &&& Int32.toUInt32 31)).toInt32).toUInt32 >>> ((8 : Int32).toUInt32 &&& Int32.toUInt32 31)).toInt32).toUInt32 >>> ((4 : Int32).toUInt32 &&& Int32.toUInt32 31)).toInt32).toUInt32 >>> ((1 : Int32).toUInt32 &&& Int32.toUInt32 31)).toInt32)), (), rfl, rfl, by rw [ht]; exact hP, hD⟩, hS.F ht⟩) hS.2.2 dJ6_numberOfTrailingZeros_0f7a4_79
          · have hf := oe hf c16
            refine lv_iinc (v := 31) (lv' := [(1, .int 31), (0, .int ((((((((p0 ^^^ (-1)) &&& (p0 - 1)).toUInt32 >>> ((16 : Int32).toUInt32 &&& Int32.toUInt32 31)).toInt32).toUInt32 >>> ((8 : Int32).toUInt32 &&& Int32.toUInt32 31)).toInt32).toUInt32 >>> ((4 : Int32).toUInt32 &&& Int32.toUInt32 31)).toInt32))]) hx hb dJ6_numberOfTrailingZeros_0f7a4_67 hl (k := 1) rfl rfl (by decide) rfl (fun ls hl => ?_)
            refine lv_iload_n hx hb dJ6_numberOfTrailingZeros_0f7a4_70 rfl (lv_at hl 1 rfl) ?_
            refine lv_iconst (v := 2) hx hb dJ6_numberOfTrailingZeros_0f7a4_71 (by decide) ?_
            refine lv_iushr (v := (((((((((p0 ^^^ (-1)) &&& (p0 - 1)).toUInt32 >>> ((16 : Int32).toUInt32 &&& Int32.toUInt32 31)).toInt32).toUInt32 >>> ((8 : Int32).toUInt32 &&& Int32.toUInt32 31)).toInt32).toUInt32 >>> ((4 : Int32).toUInt32 &&& Int32.toUInt32 31)).toInt32).toUInt32 >>> ((2 : Int32).toUInt32 &&& Int32.toUInt32 31)).toInt32) hx hb dJ6_numberOfTrailingZeros_0f7a4_72 rfl ?_
            refine lv_istore_n (lv' := [(0, .int ((((((((((p0 ^^^ (-1)) &&& (p0 - 1)).toUInt32 >>> ((16 : Int32).toUInt32 &&& Int32.toUInt32 31)).toInt32).toUInt32 >>> ((8 : Int32).toUInt32 &&& Int32.toUInt32 31)).toInt32).toUInt32 >>> ((4 : Int32).toUInt32 &&& Int32.toUInt32 31)).toInt32).toUInt32 >>> ((2 : Int32).toUInt32 &&& Int32.toUInt32 31)).toInt32)), (1, .int 31)]) hx hb dJ6_numberOfTrailingZeros_0f7a4_73 rfl hl (by decide) rfl (fun ls hl => ?_)
            refine lv_iload_n hx hb dJ6_numberOfTrailingZeros_0f7a4_74 rfl (lv_at hl 1 rfl) ?_
            refine lv_iload_n hx hb dJ6_numberOfTrailingZeros_0f7a4_75 rfl (lv_at hl 0 rfl) ?_
            refine lv_iconst (v := 1) hx hb dJ6_numberOfTrailingZeros_0f7a4_76 (by decide) ?_
            refine lv_iushr (v := (((((((((((p0 ^^^ (-1)) &&& (p0 - 1)).toUInt32 >>> ((16 : Int32).toUInt32 &&& Int32.toUInt32 31)).toInt32).toUInt32 >>> ((8 : Int32).toUInt32 &&& Int32.toUInt32 31)).toInt32).toUInt32 >>> ((4 : Int32).toUInt32 &&& Int32.toUInt32 31)).toInt32).toUInt32 >>> ((2 : Int32).toUInt32 &&& Int32.toUInt32 31)).toInt32).toUInt32 >>> ((1 : Int32).toUInt32 &&& Int32.toUInt32 31)).toInt32) hx hb dJ6_numberOfTrailingZeros_0f7a4_77 rfl ?_
            refine lv_iadd hx hb dJ6_numberOfTrailingZeros_0f7a4_78 ?_
            have hR : (31 + ((((((((((((p0 ^^^ (-1)) &&& (p0 - 1)).toUInt32 >>> ((16 : Int32).toUInt32 &&& Int32.toUInt32 31)).toInt32).toUInt32 >>> ((8 : Int32).toUInt32 &&& Int32.toUInt32 31)).toInt32).toUInt32 >>> ((4 : Int32).toUInt32 &&& Int32.toUInt32 31)).toInt32).toUInt32 >>> ((2 : Int32).toUInt32 &&& Int32.toUInt32 31)).toInt32).toUInt32 >>> ((1 : Int32).toUInt32 &&& Int32.toUInt32 31)).toInt32)) = r := Option.some.inj hf
            subst hR
            exact W.iret (v := (31 + ((((((((((((p0 ^^^ (-1)) &&& (p0 - 1)).toUInt32 >>> ((16 : Int32).toUInt32 &&& Int32.toUInt32 31)).toInt32).toUInt32 >>> ((8 : Int32).toUInt32 &&& Int32.toUInt32 31)).toInt32).toUInt32 >>> ((4 : Int32).toUInt32 &&& Int32.toUInt32 31)).toInt32).toUInt32 >>> ((2 : Int32).toUInt32 &&& Int32.toUInt32 31)).toInt32).toUInt32 >>> ((1 : Int32).toUInt32 &&& Int32.toUInt32 31)).toInt32))) hx hb hr0 (fun t ht hW => ⟨⟨(31 + ((((((((((((p0 ^^^ (-1)) &&& (p0 - 1)).toUInt32 >>> ((16 : Int32).toUInt32 &&& Int32.toUInt32 31)).toInt32).toUInt32 >>> ((8 : Int32).toUInt32 &&& Int32.toUInt32 31)).toInt32).toUInt32 >>> ((4 : Int32).toUInt32 &&& Int32.toUInt32 31)).toInt32).toUInt32 >>> ((2 : Int32).toUInt32 &&& Int32.toUInt32 31)).toInt32).toUInt32 >>> ((1 : Int32).toUInt32 &&& Int32.toUInt32 31)).toInt32)), (), rfl, rfl, by rw [ht]; exact hP, hD⟩, hS.F ht⟩) hS.2.2 dJ6_numberOfTrailingZeros_0f7a4_79
  · have hf := oe hf c1
    refine lv_iload_n hx hb dJ6_numberOfTrailingZeros_0f7a4_12 rfl (lv_at hl 0 rfl) ?_
    refine lv_bipush (v := 32) hx hb dJ6_numberOfTrailingZeros_0f7a4_13 (by decide) ?_
    refine lv_iand hx hb dJ6_numberOfTrailingZeros_0f7a4_15 ?_
    have hR : (((p0 ^^^ (-1)) &&& (p0 - 1)) &&& 32) = r := Option.some.inj hf
    subst hR
    exact W.iret (v := (((p0 ^^^ (-1)) &&& (p0 - 1)) &&& 32)) hx hb hr0 (fun t ht hW => ⟨⟨(((p0 ^^^ (-1)) &&& (p0 - 1)) &&& 32), (), rfl, rfl, by rw [ht]; exact hP, hD⟩, hS.F ht⟩) hS.2.2 dJ6_numberOfTrailingZeros_0f7a4_16
theorem hd_X4_go : yX4_go.cls ≠ "java/lang/invoke/MethodHandle" ∧ yX4_go.cls ≠ "java/lang/invoke/VarHandle" ∧ (parseMethodDescriptor yX4_go.desc).map (fun d => d.parameters.length) = some 1 := by decide +kernel
def f_X4_go (v : WV) (p0 : Int32) : Option (WV) :=
  (f_J6_numberOfTrailingZeros_0f7a4 p0).bind (fun u1 =>
  if u1 < v.2.2.1 then
    if zin u1 10 = true then
    if ((v.2.2.2.1 ^^^ (1 <<< ((v.1 u1.toNatClampNeg) &&& 31))) &&& (1 <<< ((v.1 u1.toNatClampNeg) &&& 31))) = 0 then
      if zin u1 10 = true then
      some (v.1, v.2.1, v.2.2.1, (v.2.2.2.1 ^^^ (1 <<< ((v.1 u1.toNatClampNeg) &&& 31))), (v.2.2.2.2.1 + (-(v.2.1 u1.toNatClampNeg))), (v.2.2.2.2.2 + (-1)))
      else none
    else
      if zin u1 10 = true then
      some (v.1, v.2.1, v.2.2.1, (v.2.2.2.1 ^^^ (1 <<< ((v.1 u1.toNatClampNeg) &&& 31))), (v.2.2.2.2.1 + (v.2.1 u1.toNatClampNeg)), (v.2.2.2.2.2 + 1))
      else none
    else none
  else
    some v)
set_option maxHeartbeats 4000000 in
set_option maxRecDepth 100000 in
theorem c_X4_go (l : Launch) (g : zG) (a : Nat → Nat) (v : WV) (p0 : Int32) (r : WV) (hf : f_X4_go v p0 = some r) : zMv zNF zNM l yX4_go (zw yX4_go cX4_go 5 none) ({ frames := 1, cells := 0, slots := 0, locals := 21 } : Room) g [.ref (a 0), .int p0] (zX4 g a v) (zX4 g a r) := by
  intro sz
  refine Met.ofW (cc := cX4_go) (maxL := 5) (ret := none) (by decide) rfl ?_
  intro p e s m args below meth c s₁ B hml hv
  obtain ⟨rfl, hsz, hP, hK, hD0⟩ := hv
  have hx := B.exec
  have hb := B.bytes
  have hr0 := B.returns
  have hts := atoms_spec (ws := (zw yX4_go cX4_go 5 none)) B.pre
  have hw0 : ∀ w ∈ zW, w.before ([.ref (a 0), .int p0] : List Value).toArray s = true := fun w h => hts w (List.mem_cons_of_mem _ h)
  have hown : s.vm.findClass RX4 = some m.cls := findClass_of_methodNamed B.named
  have hlocks := B.notSynchronized
  subst hsz
  have hD := hD0.self (sz := s.heap.size)
  generalize hAe : va_A (zX4 g a v) s.heap.size = A at hD ⊢
  have hA : ∀ q : Nat, s.heap.size ≤ q → A q := fun q h => by rw [← hAe]; exact Or.inr h
  have hS : va_S A s.heap s.heap [] := va_S.rf
  unfold f_X4_go at hf
  have hl := lv_entry ([.ref (a 0), .int p0]) (n := 5) (Nat.le_of_ble_eq_true rfl)
  rw [lg_entry_eq]
  generalize (lg_sl ([.ref (a 0), .int p0]) ++ List.replicate (5 - (lg_sl ([.ref (a 0), .int p0])).length) Slot.unset).toArray = ls at hl ⊢
  have hl : lv_has ls 5 [(0, .ref (a 0)), (1, .int p0)] := hl
  refine lv_iload_n hx hb dX4_go_0 rfl (lv_at hl 1 rfl) ?_
  obtain ⟨u1, hu1, hf⟩ := ob hf
  refine zk_iR (va_runS (As := [.int p0]) (rest := []) ⟨hx, hb, hml, hown, hts⟩ (c_J6_numberOfTrailingZeros_0f7a4 l g p0 _ hu1 _) (zcS hw0 zm3_77 zm3_79 zm1_15 zm3_78 hd_J6_numberOfTrailingZeros_0f7a4 rfl rfl ⟨Nat.le_of_ble_eq_true rfl, Nat.le_of_ble_eq_true rfl⟩) ⟨zblind, zpre hK hP hD [] rfl rfl⟩ rfl rfl hl.1 rfl (lv_room (Nat.le_of_ble_eq_true rfl)) dX4_go_1 ⟨Nat.zero_le _, Nat.zero_le _⟩) hP hD hS hA [] rfl (fun H locs hP hD hS => ?_)
  refine lv_istore_n (lv' := [(2, .int u1), (0, .ref (a 0)), (1, .int p0)]) hx hb dX4_go_4 rfl hl (by decide) rfl (fun ls hl => ?_)
  refine lv_iload_n hx hb dX4_go_5 rfl (lv_at hl 0 rfl) ?_
  refine lv_aload_n hx hb dX4_go_6 rfl (lv_at hl 1 rfl) ?_
  refine va_get (D := g.1) (ci := 4) (v := .int v.2.2.1) (C := RX4) (T := TX4) (N := 6) hx hb hw0 ziX4 hown hK.1 hP 0 rfl rfl 2 (by decide) (hw0 _ zm1_77) (fun _ h9 => h9) rfl dX4_go_7 ?_
  refine lv_icmp_lt (tgt := 14) hx hb dX4_go_10 (by decide) (fun c2 => ?_) (fun c2 => ?_)
  · have hf := oi hf c2
    refine lv_iconst (v := 1) hx hb dX4_go_14 (by decide) ?_
    refine lv_aload_n hx hb dX4_go_15 rfl (lv_at hl 1 rfl) ?_
    refine va_get (D := g.1) (ci := 4) (v := .ref (a 1)) (C := RX4) (T := TX4) (N := 6) hx hb hw0 ziX4 hown hK.1 hP 0 rfl rfl 0 (by decide) (hw0 _ zm1_75) (fun _ h9 => h9) rfl dX4_go_16 ?_
    refine lv_iload_n hx hb dX4_go_19 rfl (lv_at hl 0 rfl) ?_
    obtain ⟨h3, hf⟩ := og hf
    refine zald (D := g.1) (f := v.1) (k := u1.toNatClampNeg) hx hb hK.1 hP 1 0 rfl rfl (zin_vp h3) rfl dX4_go_20 ?_
    refine lv_ishl hx hb dX4_go_21 ?_
    refine lv_istore_n (lv' := [(3, .int (1 <<< ((v.1 u1.toNatClampNeg) &&& 31))), (2, .int u1), (0, .ref (a 0)), (1, .int p0)]) hx hb dX4_go_22 rfl hl (by decide) rfl (fun ls hl => ?_)
    refine lv_aload_n hx hb dX4_go_23 rfl (lv_at hl 2 rfl) ?_
    refine lv_dup hx hb dX4_go_24 rfl ?_
    refine va_get (D := g.1) (ci := 4) (v := .int v.2.2.2.1) (C := RX4) (T := TX4) (N := 6) hx hb hw0 ziX4 hown hK.1 hP 0 rfl rfl 3 (by decide) (hw0 _ zm1_78) (fun _ h9 => h9) rfl dX4_go_25 ?_
    refine lv_iload_n hx hb dX4_go_28 rfl (lv_at hl 0 rfl) ?_
    refine lv_ixor hx hb dX4_go_29 ?_
    refine va_put (D := g.1) (ci := 4) (v := .int (v.2.2.2.1 ^^^ (1 <<< ((v.1 u1.toNatClampNeg) &&& 31)))) (ty := .int) (C := RX4) (T := TX4) (N := 6) hx hb hw0 ziX4 tyX4 tyX4_ok nmX4 hown hK.1 hP hD hS 0 rfl rfl 3 (by decide) (hw0 _ zm1_78) (fun _ h9 => h9) rfl (tyX4_ok 3 (by decide)) rfl rfl (Nat.le_of_ble_eq_true rfl) dX4_go_30 (fun H locs hP hD hS => ?_)
    have hP : va_P g.1 vwCl (zX4 g a (v.1, v.2.1, v.2.2.1, (v.2.2.2.1 ^^^ (1 <<< ((v.1 u1.toNatClampNeg) &&& 31))), v.2.2.2.2.1, v.2.2.2.2.2)) H := hP
    have hD : va_D A (zX4 g a (v.1, v.2.1, v.2.2.1, (v.2.2.2.1 ^^^ (1 <<< ((v.1 u1.toNatClampNeg) &&& 31))), v.2.2.2.2.1, v.2.2.2.2.2)) := hD
    refine lv_aload_n hx hb dX4_go_33 rfl (lv_at hl 2 rfl) ?_
    refine va_get (D := g.1) (ci := 4) (v := .int (v.2.2.2.1 ^^^ (1 <<< ((v.1 u1.toNatClampNeg) &&& 31)))) (C := RX4) (T := TX4) (N := 6) hx hb hw0 ziX4 hown hK.1 hP 0 rfl rfl 3 (by decide) (hw0 _ zm1_78) (fun _ h9 => h9) rfl dX4_go_34 ?_
    refine lv_iload_n hx hb dX4_go_37 rfl (lv_at hl 0 rfl) ?_
    refine lv_iand hx hb dX4_go_38 ?_
    refine lv_if_eq (tgt := 46) hx hb dX4_go_39 (by decide) (fun c4 => ?_) (fun c4 => ?_)
    · have hf := oi hf c4
      refine lv_iconst (v := 0) hx hb dX4_go_46 (by decide) ?_
      refine lv_istore (lv' := [(4, .int 0), (3, .int (1 <<< ((v.1 u1.toNatClampNeg) &&& 31))), (2, .int u1), (0, .ref (a 0)), (1, .int p0)]) hx hb dX4_go_47 hl (by decide) rfl (fun ls hl => ?_)
      refine lv_aload_n hx hb dX4_go_49 rfl (lv_at hl 3 rfl) ?_
      refine lv_dup hx hb dX4_go_50 rfl ?_
      refine va_get (D := g.1) (ci := 4) (v := .int v.2.2.2.2.1) (C := RX4) (T := TX4) (N := 6) hx hb hw0 ziX4 hown hK.1 hP 0 rfl rfl 4 (by decide) (hw0 _ zm1_80) (fun _ h9 => h9) rfl dX4_go_51 ?_
      refine lv_iload hx hb dX4_go_54 (lv_at hl 0 rfl) ?_
      refine lv_if_eq (tgt := 68) hx hb dX4_go_56 (by decide) (fun _ => ?_) (fun c9 => absurd c9 (by decide))
      refine lv_aload_n hx hb dX4_go_68 rfl (lv_at hl 3 rfl) ?_
      refine va_get (D := g.1) (ci := 4) (v := .ref (a 2)) (C := RX4) (T := TX4) (N := 6) hx hb hw0 ziX4 hown hK.1 hP 0 rfl rfl 1 (by decide) (hw0 _ zm1_76) (fun _ h9 => h9) rfl dX4_go_69 ?_
      refine lv_iload_n hx hb dX4_go_72 rfl (lv_at hl 2 rfl) ?_
      obtain ⟨h5, hf⟩ := og hf
      refine zald (D := g.1) (f := v.2.1) (k := u1.toNatClampNeg) hx hb hK.1 hP 2 0 rfl rfl (zin_vp h5) rfl dX4_go_73 ?_
      refine lv_ineg hx hb dX4_go_74 ?_
      refine lv_iadd hx hb dX4_go_75 ?_
      refine va_put (D := g.1) (ci := 4) (v := .int (v.2.2.2.2.1 + (-(v.2.1 u1.toNatClampNeg)))) (ty := .int) (C := RX4) (T := TX4) (N := 6) hx hb hw0 ziX4 tyX4 tyX4_ok nmX4 hown hK.1 hP hD hS 0 rfl rfl 4 (by decide) (hw0 _ zm1_80) (fun _ h9 => h9) rfl (tyX4_ok 4 (by decide)) rfl rfl (Nat.le_of_ble_eq_true rfl) dX4_go_76 (fun H locs hP hD hS => ?_)
      have hP : va_P g.1 vwCl (zX4 g a (v.1, v.2.1, v.2.2.1, (v.2.2.2.1 ^^^ (1 <<< ((v.1 u1.toNatClampNeg) &&& 31))), (v.2.2.2.2.1 + (-(v.2.1 u1.toNatClampNeg))), v.2.2.2.2.2)) H := hP
      have hD : va_D A (zX4 g a (v.1, v.2.1, v.2.2.1, (v.2.2.2.1 ^^^ (1 <<< ((v.1 u1.toNatClampNeg) &&& 31))), (v.2.2.2.2.1 + (-(v.2.1 u1.toNatClampNeg))), v.2.2.2.2.2)) := hD
      refine lv_aload_n hx hb dX4_go_79 rfl (lv_at hl 3 rfl) ?_
      refine lv_dup hx hb dX4_go_80 rfl ?_
      refine va_get (D := g.1) (ci := 4) (v := .int v.2.2.2.2.2) (C := RX4) (T := TX4) (N := 6) hx hb hw0 ziX4 hown hK.1 hP 0 rfl rfl 5 (by decide) (hw0 _ zm1_82) (fun _ h9 => h9) rfl dX4_go_81 ?_
      refine lv_iload hx hb dX4_go_84 (lv_at hl 0 rfl) ?_
      refine lv_if_eq (tgt := 93) hx hb dX4_go_86 (by decide) (fun _ => ?_) (fun c9 => absurd c9 (by decide))
      refine lv_iconst (v := (-1)) hx hb dX4_go_93 (by decide) ?_
      refine lv_iadd hx hb dX4_go_94 ?_
      refine va_put (D := g.1) (ci := 4) (v := .int (v.2.2.2.2.2 + (-1))) (ty := .int) (C := RX4) (T := TX4) (N := 6) hx hb hw0 ziX4 tyX4 tyX4_ok nmX4 hown hK.1 hP hD hS 0 rfl rfl 5 (by decide) (hw0 _ zm1_82) (fun _ h9 => h9) rfl (tyX4_ok 5 (by decide)) rfl rfl (Nat.le_of_ble_eq_true rfl) dX4_go_95 (fun H locs hP hD hS => ?_)
      have hP : va_P g.1 vwCl (zX4 g a (v.1, v.2.1, v.2.2.1, (v.2.2.2.1 ^^^ (1 <<< ((v.1 u1.toNatClampNeg) &&& 31))), (v.2.2.2.2.1 + (-(v.2.1 u1.toNatClampNeg))), (v.2.2.2.2.2 + (-1)))) H := hP
      have hD : va_D A (zX4 g a (v.1, v.2.1, v.2.2.1, (v.2.2.2.1 ^^^ (1 <<< ((v.1 u1.toNatClampNeg) &&& 31))), (v.2.2.2.2.1 + (-(v.2.1 u1.toNatClampNeg))), (v.2.2.2.2.2 + (-1)))) := hD
      have hR : (v.1, v.2.1, v.2.2.1, (v.2.2.2.1 ^^^ (1 <<< ((v.1 u1.toNatClampNeg) &&& 31))), (v.2.2.2.2.1 + (-(v.2.1 u1.toNatClampNeg))), (v.2.2.2.2.2 + (-1))) = r := Option.some.inj hf
      subst hR
      exact W.vret hx hb hr0 (fun t ht hW => ⟨⟨(), rfl, trivial, by rw [ht]; exact hP, hD⟩, hS.F ht⟩) hS.2.2 dX4_go_98
    · have hf := oe hf c4
      refine lv_iconst (v := 1) hx hb dX4_go_42 (by decide) ?_
      refine lv_goto (tgt := 47) hx hb dX4_go_43 (by decide) ?_
      refine lv_istore (lv' := [(4, .int 1), (3, .int (1 <<< ((v.1 u1.toNatClampNeg) &&& 31))), (2, .int u1), (0, .ref (a 0)), (1, .int p0)]) hx hb dX4_go_47 hl (by decide) rfl (fun ls hl => ?_)
      refine lv_aload_n hx hb dX4_go_49 rfl (lv_at hl 3 rfl) ?_
      refine lv_dup hx hb dX4_go_50 rfl ?_
      refine va_get (D := g.1) (ci := 4) (v := .int v.2.2.2.2.1) (C := RX4) (T := TX4) (N := 6) hx hb hw0 ziX4 hown hK.1 hP 0 rfl rfl 4 (by decide) (hw0 _ zm1_80) (fun _ h9 => h9) rfl dX4_go_51 ?_
      refine lv_iload hx hb dX4_go_54 (lv_at hl 0 rfl) ?_
      refine lv_if_eq (tgt := 68) hx hb dX4_go_56 (by decide) (fun c9 => absurd c9 (by decide)) (fun _ => ?_)
      refine lv_aload_n hx hb dX4_go_59 rfl (lv_at hl 3 rfl) ?_
      refine va_get (D := g.1) (ci := 4) (v := .ref (a 2)) (C := RX4) (T := TX4) (N := 6) hx hb hw0 ziX4 hown hK.1 hP 0 rfl rfl 1 (by decide) (hw0 _ zm1_76) (fun _ h9 => h9) rfl dX4_go_60 ?_
      refine lv_iload_n hx hb dX4_go_63 rfl (lv_at hl 2 rfl) ?_
      obtain ⟨h6, hf⟩ := og hf
      refine zald (D := g.1) (f := v.2.1) (k := u1.toNatClampNeg) hx hb hK.1 hP 2 0 rfl rfl (zin_vp h6) rfl dX4_go_64 ?_
      refine lv_goto (tgt := 75) hx hb dX4_go_65 (by decide) ?_
      refine lv_iadd hx hb dX4_go_75 ?_
      refine va_put (D := g.1) (ci := 4) (v := .int (v.2.2.2.2.1 + (v.2.1 u1.toNatClampNeg))) (ty := .int) (C := RX4) (T := TX4) (N := 6) hx hb hw0 ziX4 tyX4 tyX4_ok nmX4 hown hK.1 hP hD hS 0 rfl rfl 4 (by decide) (hw0 _ zm1_80) (fun _ h9 => h9) rfl (tyX4_ok 4 (by decide)) rfl rfl (Nat.le_of_ble_eq_true rfl) dX4_go_76 (fun H locs hP hD hS => ?_)
      have hP : va_P g.1 vwCl (zX4 g a (v.1, v.2.1, v.2.2.1, (v.2.2.2.1 ^^^ (1 <<< ((v.1 u1.toNatClampNeg) &&& 31))), (v.2.2.2.2.1 + (v.2.1 u1.toNatClampNeg)), v.2.2.2.2.2)) H := hP
      have hD : va_D A (zX4 g a (v.1, v.2.1, v.2.2.1, (v.2.2.2.1 ^^^ (1 <<< ((v.1 u1.toNatClampNeg) &&& 31))), (v.2.2.2.2.1 + (v.2.1 u1.toNatClampNeg)), v.2.2.2.2.2)) := hD
      refine lv_aload_n hx hb dX4_go_79 rfl (lv_at hl 3 rfl) ?_
      refine lv_dup hx hb dX4_go_80 rfl ?_
      refine va_get (D := g.1) (ci := 4) (v := .int v.2.2.2.2.2) (C := RX4) (T := TX4) (N := 6) hx hb hw0 ziX4 hown hK.1 hP 0 rfl rfl 5 (by decide) (hw0 _ zm1_82) (fun _ h9 => h9) rfl dX4_go_81 ?_
      refine lv_iload hx hb dX4_go_84 (lv_at hl 0 rfl) ?_
      refine lv_if_eq (tgt := 93) hx hb dX4_go_86 (by decide) (fun c9 => absurd c9 (by decide)) (fun _ => ?_)
      refine lv_iconst (v := 1) hx hb dX4_go_89 (by decide) ?_
      refine lv_goto (tgt := 94) hx hb dX4_go_90 (by decide) ?_
      refine lv_iadd hx hb dX4_go_94 ?_
      refine va_put (D := g.1) (ci := 4) (v := .int (v.2.2.2.2.2 + 1)) (ty := .int) (C := RX4) (T := TX4) (N := 6) hx hb hw0 ziX4 tyX4 tyX4_ok nmX4 hown hK.1 hP hD hS 0 rfl rfl 5 (by decide) (hw0 _ zm1_82) (fun _ h9 => h9) rfl (tyX4_ok 5 (by decide)) rfl rfl (Nat.le_of_ble_eq_true rfl) dX4_go_95 (fun H locs hP hD hS => ?_)
      have hP : va_P g.1 vwCl (zX4 g a (v.1, v.2.1, v.2.2.1, (v.2.2.2.1 ^^^ (1 <<< ((v.1 u1.toNatClampNeg) &&& 31))), (v.2.2.2.2.1 + (v.2.1 u1.toNatClampNeg)), (v.2.2.2.2.2 + 1))) H := hP
      have hD : va_D A (zX4 g a (v.1, v.2.1, v.2.2.1, (v.2.2.2.1 ^^^ (1 <<< ((v.1 u1.toNatClampNeg) &&& 31))), (v.2.2.2.2.1 + (v.2.1 u1.toNatClampNeg)), (v.2.2.2.2.2 + 1))) := hD
      have hR : (v.1, v.2.1, v.2.2.1, (v.2.2.2.1 ^^^ (1 <<< ((v.1 u1.toNatClampNeg) &&& 31))), (v.2.2.2.2.1 + (v.2.1 u1.toNatClampNeg)), (v.2.2.2.2.2 + 1)) = r := Option.some.inj hf
      subst hR
      exact W.vret hx hb hr0 (fun t ht hW => ⟨⟨(), rfl, trivial, by rw [ht]; exact hP, hD⟩, hS.F ht⟩) hS.2.2 dX4_go_98
  · have hf := oe hf c2
    have hR : v = r := Option.some.inj hf
    subst hR
    exact W.vret hx hb hr0 (fun t ht hW => ⟨⟨(), rfl, trivial, by rw [ht]; exact hP, hD⟩, hS.F ht⟩) hS.2.2 dX4_go_13
theorem hd_X1_chooseFor : yX1_chooseFor.cls ≠ "java/lang/invoke/MethodHandle" ∧ yX1_chooseFor.cls ≠ "java/lang/invoke/VarHandle" ∧ (parseMethodDescriptor yX1_chooseFor.desc).map (fun d => d.parameters.length) = some 1 := by decide +kernel
def s_X1_chooseFor_20 (v : FV) (i1 : Int32) (i5 : Int32) (x : Int32 × Int32 × Int32 × Int32 × WV) : Option ((Int32 × Int32 × Int32 × Int32 × WV) ⊕ (Int32 × Int32 × Int32 × Int32 × WV)) :=
  if i5 ≤ x.2.2.2.1 then
    some (.inr (x.1, x.2.1, x.2.2.1, x.2.2.2.1, x.2.2.2.2))
  else
    (f_X4_go x.2.2.2.2 x.2.2.2.1).bind (fun u3 =>
    if x.2.1 < u3.2.2.2.2.1 then
      if i1 < u3.2.2.2.2.1 then
        some (.inl (x.1, x.2.1, x.2.2.1, (x.2.2.2.1 + 1), u3))
      else
        some (.inl (u3.2.2.2.1, u3.2.2.2.2.1, u3.2.2.2.2.2, (x.2.2.2.1 + 1), u3))
    else
      if u3.2.2.2.2.1 = x.2.1 then
        if u3.2.2.2.2.2 < x.2.2.1 then
          if i1 < u3.2.2.2.2.1 then
            some (.inl (x.1, x.2.1, x.2.2.1, (x.2.2.2.1 + 1), u3))
          else
            some (.inl (u3.2.2.2.1, u3.2.2.2.2.1, u3.2.2.2.2.2, (x.2.2.2.1 + 1), u3))
        else
          if u3.2.2.2.2.1 = x.2.1 then
            if u3.2.2.2.2.2 = x.2.2.1 then
              if x.1 ≤ u3.2.2.2.1 then
                if i1 < u3.2.2.2.2.1 then
                  some (.inl (x.1, x.2.1, x.2.2.1, (x.2.2.2.1 + 1), u3))
                else
                  some (.inl (x.1, x.2.1, x.2.2.1, (x.2.2.2.1 + 1), u3))
              else
                if i1 < u3.2.2.2.2.1 then
                  some (.inl (x.1, x.2.1, x.2.2.1, (x.2.2.2.1 + 1), u3))
                else
                  some (.inl (u3.2.2.2.1, u3.2.2.2.2.1, u3.2.2.2.2.2, (x.2.2.2.1 + 1), u3))
            else
              if i1 < u3.2.2.2.2.1 then
                some (.inl (x.1, x.2.1, x.2.2.1, (x.2.2.2.1 + 1), u3))
              else
                some (.inl (x.1, x.2.1, x.2.2.1, (x.2.2.2.1 + 1), u3))
          else
            if i1 < u3.2.2.2.2.1 then
              some (.inl (x.1, x.2.1, x.2.2.1, (x.2.2.2.1 + 1), u3))
            else
              some (.inl (x.1, x.2.1, x.2.2.1, (x.2.2.2.1 + 1), u3))
      else
        if u3.2.2.2.2.1 = x.2.1 then
          if u3.2.2.2.2.2 = x.2.2.1 then
            if x.1 ≤ u3.2.2.2.1 then
              if i1 < u3.2.2.2.2.1 then
                some (.inl (x.1, x.2.1, x.2.2.1, (x.2.2.2.1 + 1), u3))
              else
                some (.inl (x.1, x.2.1, x.2.2.1, (x.2.2.2.1 + 1), u3))
            else
              if i1 < u3.2.2.2.2.1 then
                some (.inl (x.1, x.2.1, x.2.2.1, (x.2.2.2.1 + 1), u3))
              else
                some (.inl (u3.2.2.2.1, u3.2.2.2.2.1, u3.2.2.2.2.2, (x.2.2.2.1 + 1), u3))
          else
            if i1 < u3.2.2.2.2.1 then
              some (.inl (x.1, x.2.1, x.2.2.1, (x.2.2.2.1 + 1), u3))
            else
              some (.inl (x.1, x.2.1, x.2.2.1, (x.2.2.2.1 + 1), u3))
        else
          if i1 < u3.2.2.2.2.1 then
            some (.inl (x.1, x.2.1, x.2.2.1, (x.2.2.2.1 + 1), u3))
          else
            some (.inl (x.1, x.2.1, x.2.2.1, (x.2.2.2.1 + 1), u3)))
def f_X1_chooseFor (v : FV) (p0 : Int32) : Option (Int32 × FV) :=
  (f_X4_begin v.2.2.2.2 (v.1, v.2.1, v.2.2.1, v.2.2.2.1)).bind (fun u1 =>
  (zloop (s_X1_chooseFor_20 (v.1, v.2.1, v.2.2.1, v.2.2.2.1, u1.2) p0 u1.1) 4096 (0, 0, 0, 1, u1.2)).bind (fun u23 =>
  some (u23.1, (v.1, v.2.1, v.2.2.1, v.2.2.2.1, u23.2.2.2.2))))
set_option maxHeartbeats 4000000 in
set_option maxRecDepth 100000 in
theorem c_X1_chooseFor (l : Launch) (g : zG) (a : Nat → Nat) (v : FV) (p0 : Int32) (r : Int32 × FV) (hf : f_X1_chooseFor v p0 = some r) : zMi zNF zNM l yX1_chooseFor (zw yX1_chooseFor cX1_chooseFor 8 (some .int)) ({ frames := 2, cells := 0, slots := 0, locals := 45 } : Room) g [.ref (a 0), .int p0] (zX1 g a v) r.1 (zX1 g a r.2) := by
  intro sz
  refine Met.ofW (cc := cX1_chooseFor) (maxL := 8) (ret := (some .int)) (by decide) rfl ?_
  intro p e s m args below meth c s₁ B hml hv
  obtain ⟨rfl, hsz, hP, hK, hD0⟩ := hv
  have hx := B.exec
  have hb := B.bytes
  have hr0 := B.returns
  have hts := atoms_spec (ws := (zw yX1_chooseFor cX1_chooseFor 8 (some .int))) B.pre
  have hw0 : ∀ w ∈ zW, w.before ([.ref (a 0), .int p0] : List Value).toArray s = true := fun w h => hts w (List.mem_cons_of_mem _ h)
  have hown : s.vm.findClass RX1 = some m.cls := findClass_of_methodNamed B.named
  have hlocks := B.notSynchronized
  subst hsz
  have hD := hD0.self (sz := s.heap.size)
  generalize hAe : va_A (zX1 g a v) s.heap.size = A at hD ⊢
  have hA : ∀ q : Nat, s.heap.size ≤ q → A q := fun q h => by rw [← hAe]; exact Or.inr h
  have hS : va_S A s.heap s.heap [] := va_S.rf
  have lp20 : ∀ (v : FV) (i1 : Int32) (i5 : Int32), ∀ (n : Nat) (x : Int32 × Int32 × Int32 × Int32 × WV) (rr : Int32 × Int32 × Int32 × Int32 × WV), zloop (s_X1_chooseFor_20 v i1 i5) n x = some rr → (∀ (H : Heap) (locs : List Loc), va_P g.1 vwCl (zX1 g a (v.1, v.2.1, v.2.2.1, v.2.2.2.1, rr.2.2.2.2)) H → va_D A (zX1 g a (v.1, v.2.1, v.2.2.1, v.2.2.2.1, rr.2.2.2.2)) → va_S A s.heap H locs → ∀ ls : Array Slot, lv_has ls 8 [(2, .int rr.1)] → W p l e (headSpec (zw yX1_chooseFor cX1_chooseFor 8 (some .int)) ({ frames := 2, cells := 0, slots := 0, locals := 45 } : Room)).room s m ([.ref (a 0), .int p0] : List Value).toArray below meth c H locs 0 0 (MQ below (va_Qi (fun (x : Int32) (_ : Unit) => x = r.1) (fun _ => zEnd g A (zX1 g a r.2)) A) ([.ref (a 0), .int p0] : List Value).toArray s 0 0 A) (F0 m 158 ls [])) → ∀ (H : Heap) (locs : List Loc), va_P g.1 vwCl (zX1 g a (v.1, v.2.1, v.2.2.1, v.2.2.2.1, x.2.2.2.2)) H → va_D A (zX1 g a (v.1, v.2.1, v.2.2.1, v.2.2.2.1, x.2.2.2.2)) → va_S A s.heap H locs → ∀ ls : Array Slot, lv_has ls 8 [(0, .ref (a 0)), (1, .int i1), (2, .int x.1), (3, .int x.2.1), (4, .int x.2.2.1), (5, .int i5), (6, .int x.2.2.2.1)] → W p l e (headSpec (zw yX1_chooseFor cX1_chooseFor 8 (some .int)) ({ frames := 2, cells := 0, slots := 0, locals := 45 } : Room)).room s m ([.ref (a 0), .int p0] : List Value).toArray below meth c H locs 0 0 (MQ below (va_Qi (fun (x : Int32) (_ : Unit) => x = r.1) (fun _ => zEnd g A (zX1 g a r.2)) A) ([.ref (a 0), .int p0] : List Value).toArray s 0 0 A) (F0 m 20 ls []) := by
    intro v i1 i5
    refine zloop_ind ?_
    intro x y rr hf ih hr hQ H locs hP hD hS ls hl
    unfold s_X1_chooseFor_20 at hf
    refine lv_iload hx hb dX1_chooseFor_20 (lv_at hl 6 rfl) ?_
    refine lv_iload hx hb dX1_chooseFor_22 (lv_at hl 5 rfl) ?_
    refine lv_icmp_ge (tgt := 158) hx hb dX1_chooseFor_24 (by decide) (fun c2 => ?_) (fun c2 => ?_)
    · have hf := oi hf c2
      have hR : (x.1, x.2.1, x.2.2.1, x.2.2.2.1, x.2.2.2.2) = rr := hr _ (Option.some.inj hf).symm
      subst hR
      exact hQ _ _ hP hD hS _ (lv_sub hl [2] rfl)
    · have hf := oe hf c2
      refine lv_aload_n hx hb dX1_chooseFor_27 rfl (lv_at hl 0 rfl) ?_
      refine va_get (D := g.1) (ci := 1) (v := .ref (a 4)) (C := RX1) (T := TX1) (N := 5) hx hb hw0 ziX1 hown hK.1 hP 0 rfl rfl 4 (by decide) (hw0 _ zm1_109) (fun _ h9 => h9) rfl dX1_chooseFor_28 ?_
      refine lv_iload hx hb dX1_chooseFor_31 (lv_at hl 6 rfl) ?_
      obtain ⟨u3, hu3, hf⟩ := ob hf
      refine zk_v (va_runVN (As := [.int x.2.2.2.1]) (rest := []) ⟨hx, hb, hml, hown, hts⟩ (c_X4_go l g (fun k => a (k + 4)) x.2.2.2.2 x.2.2.2.1 _ hu3 _) (zcN hw0 (zn_35 hK) zm3_76 zm1_5 zm3_75 zs3_6 hd_X4_go rfl rfl ⟨Nat.le_of_ble_eq_true rfl, Nat.le_of_ble_eq_true rfl⟩) ⟨zblind, zrecv (wc := zX4 g (fun k => a (k + 4)) x.2.2.2.2) hK hP [4, 5, 6] rfl (ci := 4) rfl rfl, zpre hK hP hD [4, 5, 6] rfl rfl⟩ rfl rfl hl.1 rfl (lv_room (Nat.le_of_ble_eq_true rfl)) dX1_chooseFor_33 ⟨Nat.zero_le _, Nat.zero_le _⟩) hP hD hS hA [4, 5, 6] rfl rfl (fun H locs hP hD hS => ?_)
      have hP : va_P g.1 vwCl (zX1 g a (v.1, v.2.1, v.2.2.1, v.2.2.2.1, u3)) H := hP
      have hD : va_D A (zX1 g a (v.1, v.2.1, v.2.2.1, v.2.2.2.1, u3)) := hD
      refine lv_aload_n hx hb dX1_chooseFor_36 rfl (lv_at hl 0 rfl) ?_
      refine va_get (D := g.1) (ci := 1) (v := .ref (a 4)) (C := RX1) (T := TX1) (N := 5) hx hb hw0 ziX1 hown hK.1 hP 0 rfl rfl 4 (by decide) (hw0 _ zm1_109) (fun _ h9 => h9) rfl dX1_chooseFor_37 ?_
      refine va_getN (D := g.1) (ci := 4) (v := .int u3.2.2.2.2.1) (C := RX4) (T := TX4) (N := 6) hx hb hw0 ziX4 hown hK.1 hP 4 rfl rfl 4 (by decide) (va_Nw.use rfl (zf_7 hK)) (fun _ h9 => h9) rfl dX1_chooseFor_40 ?_
      refine lv_iload_n hx hb dX1_chooseFor_43 rfl (lv_at hl 3 rfl) ?_
      refine lv_icmp_gt (tgt := 104) hx hb dX1_chooseFor_44 (by decide) (fun c4 => ?_) (fun c4 => ?_)
      · have hf := oi hf c4
        refine lv_iconst (v := 1) hx hb dX1_chooseFor_104 (by decide) ?_
        refine lv_goto (tgt := 109) hx hb dX1_chooseFor_105 (by decide) ?_
        refine lv_istore (lv' := [(7, .int 1), (0, .ref (a 0)), (1, .int i1), (2, .int x.1), (3, .int x.2.1), (4, .int x.2.2.1), (5, .int i5), (6, .int x.2.2.2.1)]) hx hb dX1_chooseFor_109 hl (by decide) rfl (fun ls hl => ?_)
        refine lv_aload_n hx hb dX1_chooseFor_111 rfl (lv_at hl 1 rfl) ?_
        refine va_get (D := g.1) (ci := 1) (v := .ref (a 4)) (C := RX1) (T := TX1) (N := 5) hx hb hw0 ziX1 hown hK.1 hP 0 rfl rfl 4 (by decide) (hw0 _ zm1_109) (fun _ h9 => h9) rfl dX1_chooseFor_112 ?_
        refine va_getN (D := g.1) (ci := 4) (v := .int u3.2.2.2.2.1) (C := RX4) (T := TX4) (N := 6) hx hb hw0 ziX4 hown hK.1 hP 4 rfl rfl 4 (by decide) (va_Nw.use rfl (zf_7 hK)) (fun _ h9 => h9) rfl dX1_chooseFor_115 ?_
        refine lv_iload_n hx hb dX1_chooseFor_118 rfl (lv_at hl 2 rfl) ?_
        refine lv_icmp_gt (tgt := 152) hx hb dX1_chooseFor_119 (by decide) (fun c5 => ?_) (fun c5 => ?_)
        · have hf := oi hf c5
          refine lv_iinc (v := (x.2.2.2.1 + 1)) (lv' := [(6, .int (x.2.2.2.1 + 1)), (7, .int 1), (0, .ref (a 0)), (1, .int i1), (2, .int x.1), (3, .int x.2.1), (4, .int x.2.2.1), (5, .int i5)]) hx hb dX1_chooseFor_152 hl (k := 7) rfl rfl (by decide) rfl (fun ls hl => ?_)
          refine lv_goto (tgt := 20) hx hb dX1_chooseFor_155 (by decide) ?_
          exact ih (x.1, x.2.1, x.2.2.1, (x.2.2.2.1 + 1), u3) (Option.some.inj hf).symm hQ _ _ hP hD hS _ (lv_sub hl [2, 3, 4, 5, 6, 7, 0] rfl)
        · have hf := oe hf c5
          refine lv_iload hx hb dX1_chooseFor_122 (lv_at hl 0 rfl) ?_
          refine lv_if_eq (tgt := 152) hx hb dX1_chooseFor_124 (by decide) (fun c9 => absurd c9 (by decide)) (fun _ => ?_)
          refine lv_aload_n hx hb dX1_chooseFor_127 rfl (lv_at hl 1 rfl) ?_
          refine va_get (D := g.1) (ci := 1) (v := .ref (a 4)) (C := RX1) (T := TX1) (N := 5) hx hb hw0 ziX1 hown hK.1 hP 0 rfl rfl 4 (by decide) (hw0 _ zm1_109) (fun _ h9 => h9) rfl dX1_chooseFor_128 ?_
          refine va_getN (D := g.1) (ci := 4) (v := .int u3.2.2.2.1) (C := RX4) (T := TX4) (N := 6) hx hb hw0 ziX4 hown hK.1 hP 4 rfl rfl 3 (by decide) (va_Nw.use rfl (zf_6 hK)) (fun _ h9 => h9) rfl dX1_chooseFor_131 ?_
          refine lv_istore_n (lv' := [(2, .int u3.2.2.2.1), (7, .int 1), (0, .ref (a 0)), (1, .int i1), (3, .int x.2.1), (4, .int x.2.2.1), (5, .int i5), (6, .int x.2.2.2.1)]) hx hb dX1_chooseFor_134 rfl hl (by decide) rfl (fun ls hl => ?_)
          refine lv_aload_n hx hb dX1_chooseFor_135 rfl (lv_at hl 2 rfl) ?_
          refine va_get (D := g.1) (ci := 1) (v := .ref (a 4)) (C := RX1) (T := TX1) (N := 5) hx hb hw0 ziX1 hown hK.1 hP 0 rfl rfl 4 (by decide) (hw0 _ zm1_109) (fun _ h9 => h9) rfl dX1_chooseFor_136 ?_
          refine va_getN (D := g.1) (ci := 4) (v := .int u3.2.2.2.2.1) (C := RX4) (T := TX4) (N := 6) hx hb hw0 ziX4 hown hK.1 hP 4 rfl rfl 4 (by decide) (va_Nw.use rfl (zf_7 hK)) (fun _ h9 => h9) rfl dX1_chooseFor_139 ?_
          refine lv_istore_n (lv' := [(3, .int u3.2.2.2.2.1), (2, .int u3.2.2.2.1), (7, .int 1), (0, .ref (a 0)), (1, .int i1), (4, .int x.2.2.1), (5, .int i5), (6, .int x.2.2.2.1)]) hx hb dX1_chooseFor_142 rfl hl (by decide) rfl (fun ls hl => ?_)
          refine lv_aload_n hx hb dX1_chooseFor_143 rfl (lv_at hl 3 rfl) ?_
          refine va_get (D := g.1) (ci := 1) (v := .ref (a 4)) (C := RX1) (T := TX1) (N := 5) hx hb hw0 ziX1 hown hK.1 hP 0 rfl rfl 4 (by decide) (hw0 _ zm1_109) (fun _ h9 => h9) rfl dX1_chooseFor_144 ?_
          refine va_getN (D := g.1) (ci := 4) (v := .int u3.2.2.2.2.2) (C := RX4) (T := TX4) (N := 6) hx hb hw0 ziX4 hown hK.1 hP 4 rfl rfl 5 (by decide) (va_Nw.use rfl (zf_8 hK)) (fun _ h9 => h9) rfl dX1_chooseFor_147 ?_
          refine lv_istore (lv' := [(4, .int u3.2.2.2.2.2), (3, .int u3.2.2.2.2.1), (2, .int u3.2.2.2.1), (7, .int 1), (0, .ref (a 0)), (1, .int i1), (5, .int i5), (6, .int x.2.2.2.1)]) hx hb dX1_chooseFor_150 hl (by decide) rfl (fun ls hl => ?_)
          refine lv_iinc (v := (x.2.2.2.1 + 1)) (lv' := [(6, .int (x.2.2.2.1 + 1)), (4, .int u3.2.2.2.2.2), (3, .int u3.2.2.2.2.1), (2, .int u3.2.2.2.1), (7, .int 1), (0, .ref (a 0)), (1, .int i1), (5, .int i5)]) hx hb dX1_chooseFor_152 hl (k := 7) rfl rfl (by decide) rfl (fun ls hl => ?_)
          refine lv_goto (tgt := 20) hx hb dX1_chooseFor_155 (by decide) ?_
          exact ih (u3.2.2.2.1, u3.2.2.2.2.1, u3.2.2.2.2.2, (x.2.2.2.1 + 1), u3) (Option.some.inj hf).symm hQ _ _ hP hD hS _ (lv_sub hl [5, 6, 3, 2, 1, 7, 0] rfl)
      · have hf := oe hf c4
        refine lv_aload_n hx hb dX1_chooseFor_47 rfl (lv_at hl 0 rfl) ?_
        refine va_get (D := g.1) (ci := 1) (v := .ref (a 4)) (C := RX1) (T := TX1) (N := 5) hx hb hw0 ziX1 hown hK.1 hP 0 rfl rfl 4 (by decide) (hw0 _ zm1_109) (fun _ h9 => h9) rfl dX1_chooseFor_48 ?_
        refine va_getN (D := g.1) (ci := 4) (v := .int u3.2.2.2.2.1) (C := RX4) (T := TX4) (N := 6) hx hb hw0 ziX4 hown hK.1 hP 4 rfl rfl 4 (by decide) (va_Nw.use rfl (zf_7 hK)) (fun _ h9 => h9) rfl dX1_chooseFor_51 ?_
        refine lv_iload_n hx hb dX1_chooseFor_54 rfl (lv_at hl 3 rfl) ?_
        refine lv_icmp_ne (tgt := 70) hx hb dX1_chooseFor_55 (by decide) (fun c6 => ?_) (fun c6 => ?_)
        · have hf := oe hf c6
          refine lv_aload_n hx hb dX1_chooseFor_70 rfl (lv_at hl 0 rfl) ?_
          refine va_get (D := g.1) (ci := 1) (v := .ref (a 4)) (C := RX1) (T := TX1) (N := 5) hx hb hw0 ziX1 hown hK.1 hP 0 rfl rfl 4 (by decide) (hw0 _ zm1_109) (fun _ h9 => h9) rfl dX1_chooseFor_71 ?_
          refine va_getN (D := g.1) (ci := 4) (v := .int u3.2.2.2.2.1) (C := RX4) (T := TX4) (N := 6) hx hb hw0 ziX4 hown hK.1 hP 4 rfl rfl 4 (by decide) (va_Nw.use rfl (zf_7 hK)) (fun _ h9 => h9) rfl dX1_chooseFor_74 ?_
          refine lv_iload_n hx hb dX1_chooseFor_77 rfl (lv_at hl 3 rfl) ?_
          refine lv_icmp_ne (tgt := 108) hx hb dX1_chooseFor_78 (by decide) (fun c7 => ?_) (fun c7 => ?_)
          · have hf := oe hf c7
            refine lv_iconst (v := 0) hx hb dX1_chooseFor_108 (by decide) ?_
            refine lv_istore (lv' := [(7, .int 0), (0, .ref (a 0)), (1, .int i1), (2, .int x.1), (3, .int x.2.1), (4, .int x.2.2.1), (5, .int i5), (6, .int x.2.2.2.1)]) hx hb dX1_chooseFor_109 hl (by decide) rfl (fun ls hl => ?_)
            refine lv_aload_n hx hb dX1_chooseFor_111 rfl (lv_at hl 1 rfl) ?_
            refine va_get (D := g.1) (ci := 1) (v := .ref (a 4)) (C := RX1) (T := TX1) (N := 5) hx hb hw0 ziX1 hown hK.1 hP 0 rfl rfl 4 (by decide) (hw0 _ zm1_109) (fun _ h9 => h9) rfl dX1_chooseFor_112 ?_
            refine va_getN (D := g.1) (ci := 4) (v := .int u3.2.2.2.2.1) (C := RX4) (T := TX4) (N := 6) hx hb hw0 ziX4 hown hK.1 hP 4 rfl rfl 4 (by decide) (va_Nw.use rfl (zf_7 hK)) (fun _ h9 => h9) rfl dX1_chooseFor_115 ?_
            refine lv_iload_n hx hb dX1_chooseFor_118 rfl (lv_at hl 2 rfl) ?_
            refine lv_icmp_gt (tgt := 152) hx hb dX1_chooseFor_119 (by decide) (fun c8 => ?_) (fun c8 => ?_)
            · have hf := oi hf c8
              refine lv_iinc (v := (x.2.2.2.1 + 1)) (lv' := [(6, .int (x.2.2.2.1 + 1)), (7, .int 0), (0, .ref (a 0)), (1, .int i1), (2, .int x.1), (3, .int x.2.1), (4, .int x.2.2.1), (5, .int i5)]) hx hb dX1_chooseFor_152 hl (k := 7) rfl rfl (by decide) rfl (fun ls hl => ?_)
              refine lv_goto (tgt := 20) hx hb dX1_chooseFor_155 (by decide) ?_
              exact ih (x.1, x.2.1, x.2.2.1, (x.2.2.2.1 + 1), u3) (Option.some.inj hf).symm hQ _ _ hP hD hS _ (lv_sub hl [2, 3, 4, 5, 6, 7, 0] rfl)
            · have hf := oe hf c8
              refine lv_iload hx hb dX1_chooseFor_122 (lv_at hl 0 rfl) ?_
              refine lv_if_eq (tgt := 152) hx hb dX1_chooseFor_124 (by decide) (fun _ => ?_) (fun c9 => absurd c9 (by decide))
              refine lv_iinc (v := (x.2.2.2.1 + 1)) (lv' := [(6, .int (x.2.2.2.1 + 1)), (7, .int 0), (0, .ref (a 0)), (1, .int i1), (2, .int x.1), (3, .int x.2.1), (4, .int x.2.2.1), (5, .int i5)]) hx hb dX1_chooseFor_152 hl (k := 7) rfl rfl (by decide) rfl (fun ls hl => ?_)
              refine lv_goto (tgt := 20) hx hb dX1_chooseFor_155 (by decide) ?_
              exact ih (x.1, x.2.1, x.2.2.1, (x.2.2.2.1 + 1), u3) (Option.some.inj hf).symm hQ _ _ hP hD hS _ (lv_sub hl [2, 3, 4, 5, 6, 7, 0] rfl)
          · have hf := oi hf c7
            refine lv_aload_n hx hb dX1_chooseFor_81 rfl (lv_at hl 0 rfl) ?_
            refine va_get (D := g.1) (ci := 1) (v := .ref (a 4)) (C := RX1) (T := TX1) (N := 5) hx hb hw0 ziX1 hown hK.1 hP 0 rfl rfl 4 (by decide) (hw0 _ zm1_109) (fun _ h9 => h9) rfl dX1_chooseFor_82 ?_
            refine va_getN (D := g.1) (ci := 4) (v := .int u3.2.2.2.2.2) (C := RX4) (T := TX4) (N := 6) hx hb hw0 ziX4 hown hK.1 hP 4 rfl rfl 5 (by decide) (va_Nw.use rfl (zf_8 hK)) (fun _ h9 => h9) rfl dX1_chooseFor_85 ?_
            refine lv_iload hx hb dX1_chooseFor_88 (lv_at hl 4 rfl) ?_
            refine lv_icmp_ne (tgt := 108) hx hb dX1_chooseFor_90 (by decide) (fun c9 => ?_) (fun c9 => ?_)
            · have hf := oe hf c9
              refine lv_iconst (v := 0) hx hb dX1_chooseFor_108 (by decide) ?_
              refine lv_istore (lv' := [(7, .int 0), (0, .ref (a 0)), (1, .int i1), (2, .int x.1), (3, .int x.2.1), (4, .int x.2.2.1), (5, .int i5), (6, .int x.2.2.2.1)]) hx hb dX1_chooseFor_109 hl (by decide) rfl (fun ls hl => ?_)
              refine lv_aload_n hx hb dX1_chooseFor_111 rfl (lv_at hl 1 rfl) ?_
              refine va_get (D := g.1) (ci := 1) (v := .ref (a 4)) (C := RX1) (T := TX1) (N := 5) hx hb hw0 ziX1 hown hK.1 hP 0 rfl rfl 4 (by decide) (hw0 _ zm1_109) (fun _ h9 => h9) rfl dX1_chooseFor_112 ?_
              refine va_getN (D := g.1) (ci := 4) (v := .int u3.2.2.2.2.1) (C := RX4) (T := TX4) (N := 6) hx hb hw0 ziX4 hown hK.1 hP 4 rfl rfl 4 (by decide) (va_Nw.use rfl (zf_7 hK)) (fun _ h9 => h9) rfl dX1_chooseFor_115 ?_
              refine lv_iload_n hx hb dX1_chooseFor_118 rfl (lv_at hl 2 rfl) ?_
              refine lv_icmp_gt (tgt := 152) hx hb dX1_chooseFor_119 (by decide) (fun c10 => ?_) (fun c10 => ?_)
              · have hf := oi hf c10
                refine lv_iinc (v := (x.2.2.2.1 + 1)) (lv' := [(6, .int (x.2.2.2.1 + 1)), (7, .int 0), (0, .ref (a 0)), (1, .int i1), (2, .int x.1), (3, .int x.2.1), (4, .int x.2.2.1), (5, .int i5)]) hx hb dX1_chooseFor_152 hl (k := 7) rfl rfl (by decide) rfl (fun ls hl => ?_)
                refine lv_goto (tgt := 20) hx hb dX1_chooseFor_155 (by decide) ?_
                exact ih (x.1, x.2.1, x.2.2.1, (x.2.2.2.1 + 1), u3) (Option.some.inj hf).symm hQ _ _ hP hD hS _ (lv_sub hl [2, 3, 4, 5, 6, 7, 0] rfl)
              · have hf := oe hf c10
                refine lv_iload hx hb dX1_chooseFor_122 (lv_at hl 0 rfl) ?_
                refine lv_if_eq (tgt := 152) hx hb dX1_chooseFor_124 (by decide) (fun _ => ?_) (fun c9 => absurd c9 (by decide))
                refine lv_iinc (v := (x.2.2.2.1 + 1)) (lv' := [(6, .int (x.2.2.2.1 + 1)), (7, .int 0), (0, .ref (a 0)), (1, .int i1), (2, .int x.1), (3, .int x.2.1), (4, .int x.2.2.1), (5, .int i5)]) hx hb dX1_chooseFor_152 hl (k := 7) rfl rfl (by decide) rfl (fun ls hl => ?_)
                refine lv_goto (tgt := 20) hx hb dX1_chooseFor_155 (by decide) ?_
                exact ih (x.1, x.2.1, x.2.2.1, (x.2.2.2.1 + 1), u3) (Option.some.inj hf).symm hQ _ _ hP hD hS _ (lv_sub hl [2, 3, 4, 5, 6, 7, 0] rfl)
            · have hf := oi hf c9
              refine lv_aload_n hx hb dX1_chooseFor_93 rfl (lv_at hl 0 rfl) ?_
              refine va_get (D := g.1) (ci := 1) (v := .ref (a 4)) (C := RX1) (T := TX1) (N := 5) hx hb hw0 ziX1 hown hK.1 hP 0 rfl rfl 4 (by decide) (hw0 _ zm1_109) (fun _ h9 => h9) rfl dX1_chooseFor_94 ?_
              refine va_getN (D := g.1) (ci := 4) (v := .int u3.2.2.2.1) (C := RX4) (T := TX4) (N := 6) hx hb hw0 ziX4 hown hK.1 hP 4 rfl rfl 3 (by decide) (va_Nw.use rfl (zf_6 hK)) (fun _ h9 => h9) rfl dX1_chooseFor_97 ?_
              refine lv_iload_n hx hb dX1_chooseFor_100 rfl (lv_at hl 2 rfl) ?_
              refine lv_icmp_ge (tgt := 108) hx hb dX1_chooseFor_101 (by decide) (fun c11 => ?_) (fun c11 => ?_)
              · have hf := oi hf c11
                refine lv_iconst (v := 0) hx hb dX1_chooseFor_108 (by decide) ?_
                refine lv_istore (lv' := [(7, .int 0), (0, .ref (a 0)), (1, .int i1), (2, .int x.1), (3, .int x.2.1), (4, .int x.2.2.1), (5, .int i5), (6, .int x.2.2.2.1)]) hx hb dX1_chooseFor_109 hl (by decide) rfl (fun ls hl => ?_)
                refine lv_aload_n hx hb dX1_chooseFor_111 rfl (lv_at hl 1 rfl) ?_
                refine va_get (D := g.1) (ci := 1) (v := .ref (a 4)) (C := RX1) (T := TX1) (N := 5) hx hb hw0 ziX1 hown hK.1 hP 0 rfl rfl 4 (by decide) (hw0 _ zm1_109) (fun _ h9 => h9) rfl dX1_chooseFor_112 ?_
                refine va_getN (D := g.1) (ci := 4) (v := .int u3.2.2.2.2.1) (C := RX4) (T := TX4) (N := 6) hx hb hw0 ziX4 hown hK.1 hP 4 rfl rfl 4 (by decide) (va_Nw.use rfl (zf_7 hK)) (fun _ h9 => h9) rfl dX1_chooseFor_115 ?_
                refine lv_iload_n hx hb dX1_chooseFor_118 rfl (lv_at hl 2 rfl) ?_
                refine lv_icmp_gt (tgt := 152) hx hb dX1_chooseFor_119 (by decide) (fun c12 => ?_) (fun c12 => ?_)
                · have hf := oi hf c12
                  refine lv_iinc (v := (x.2.2.2.1 + 1)) (lv' := [(6, .int (x.2.2.2.1 + 1)), (7, .int 0), (0, .ref (a 0)), (1, .int i1), (2, .int x.1), (3, .int x.2.1), (4, .int x.2.2.1), (5, .int i5)]) hx hb dX1_chooseFor_152 hl (k := 7) rfl rfl (by decide) rfl (fun ls hl => ?_)
                  refine lv_goto (tgt := 20) hx hb dX1_chooseFor_155 (by decide) ?_
                  exact ih (x.1, x.2.1, x.2.2.1, (x.2.2.2.1 + 1), u3) (Option.some.inj hf).symm hQ _ _ hP hD hS _ (lv_sub hl [2, 3, 4, 5, 6, 7, 0] rfl)
                · have hf := oe hf c12
                  refine lv_iload hx hb dX1_chooseFor_122 (lv_at hl 0 rfl) ?_
                  refine lv_if_eq (tgt := 152) hx hb dX1_chooseFor_124 (by decide) (fun _ => ?_) (fun c9 => absurd c9 (by decide))
                  refine lv_iinc (v := (x.2.2.2.1 + 1)) (lv' := [(6, .int (x.2.2.2.1 + 1)), (7, .int 0), (0, .ref (a 0)), (1, .int i1), (2, .int x.1), (3, .int x.2.1), (4, .int x.2.2.1), (5, .int i5)]) hx hb dX1_chooseFor_152 hl (k := 7) rfl rfl (by decide) rfl (fun ls hl => ?_)
                  refine lv_goto (tgt := 20) hx hb dX1_chooseFor_155 (by decide) ?_
                  exact ih (x.1, x.2.1, x.2.2.1, (x.2.2.2.1 + 1), u3) (Option.some.inj hf).symm hQ _ _ hP hD hS _ (lv_sub hl [2, 3, 4, 5, 6, 7, 0] rfl)
              · have hf := oe hf c11
                refine lv_iconst (v := 1) hx hb dX1_chooseFor_104 (by decide) ?_
                refine lv_goto (tgt := 109) hx hb dX1_chooseFor_105 (by decide) ?_
                refine lv_istore (lv' := [(7, .int 1), (0, .ref (a 0)), (1, .int i1), (2, .int x.1), (3, .int x.2.1), (4, .int x.2.2.1), (5, .int i5), (6, .int x.2.2.2.1)]) hx hb dX1_chooseFor_109 hl (by decide) rfl (fun ls hl => ?_)
                refine lv_aload_n hx hb dX1_chooseFor_111 rfl (lv_at hl 1 rfl) ?_
                refine va_get (D := g.1) (ci := 1) (v := .ref (a 4)) (C := RX1) (T := TX1) (N := 5) hx hb hw0 ziX1 hown hK.1 hP 0 rfl rfl 4 (by decide) (hw0 _ zm1_109) (fun _ h9 => h9) rfl dX1_chooseFor_112 ?_
                refine va_getN (D := g.1) (ci := 4) (v := .int u3.2.2.2.2.1) (C := RX4) (T := TX4) (N := 6) hx hb hw0 ziX4 hown hK.1 hP 4 rfl rfl 4 (by decide) (va_Nw.use rfl (zf_7 hK)) (fun _ h9 => h9) rfl dX1_chooseFor_115 ?_
                refine lv_iload_n hx hb dX1_chooseFor_118 rfl (lv_at hl 2 rfl) ?_
                refine lv_icmp_gt (tgt := 152) hx hb dX1_chooseFor_119 (by decide) (fun c13 => ?_) (fun c13 => ?_)
                · have hf := oi hf c13
                  refine lv_iinc (v := (x.2.2.2.1 + 1)) (lv' := [(6, .int (x.2.2.2.1 + 1)), (7, .int 1), (0, .ref (a 0)), (1, .int i1), (2, .int x.1), (3, .int x.2.1), (4, .int x.2.2.1), (5, .int i5)]) hx hb dX1_chooseFor_152 hl (k := 7) rfl rfl (by decide) rfl (fun ls hl => ?_)
                  refine lv_goto (tgt := 20) hx hb dX1_chooseFor_155 (by decide) ?_
                  exact ih (x.1, x.2.1, x.2.2.1, (x.2.2.2.1 + 1), u3) (Option.some.inj hf).symm hQ _ _ hP hD hS _ (lv_sub hl [2, 3, 4, 5, 6, 7, 0] rfl)
                · have hf := oe hf c13
                  refine lv_iload hx hb dX1_chooseFor_122 (lv_at hl 0 rfl) ?_
                  refine lv_if_eq (tgt := 152) hx hb dX1_chooseFor_124 (by decide) (fun c9 => absurd c9 (by decide)) (fun _ => ?_)
                  refine lv_aload_n hx hb dX1_chooseFor_127 rfl (lv_at hl 1 rfl) ?_
                  refine va_get (D := g.1) (ci := 1) (v := .ref (a 4)) (C := RX1) (T := TX1) (N := 5) hx hb hw0 ziX1 hown hK.1 hP 0 rfl rfl 4 (by decide) (hw0 _ zm1_109) (fun _ h9 => h9) rfl dX1_chooseFor_128 ?_
                  refine va_getN (D := g.1) (ci := 4) (v := .int u3.2.2.2.1) (C := RX4) (T := TX4) (N := 6) hx hb hw0 ziX4 hown hK.1 hP 4 rfl rfl 3 (by decide) (va_Nw.use rfl (zf_6 hK)) (fun _ h9 => h9) rfl dX1_chooseFor_131 ?_
                  refine lv_istore_n (lv' := [(2, .int u3.2.2.2.1), (7, .int 1), (0, .ref (a 0)), (1, .int i1), (3, .int x.2.1), (4, .int x.2.2.1), (5, .int i5), (6, .int x.2.2.2.1)]) hx hb dX1_chooseFor_134 rfl hl (by decide) rfl (fun ls hl => ?_)
                  refine lv_aload_n hx hb dX1_chooseFor_135 rfl (lv_at hl 2 rfl) ?_
                  refine va_get (D := g.1) (ci := 1) (v := .ref (a 4)) (C := RX1) (T := TX1) (N := 5) hx hb hw0 ziX1 hown hK.1 hP 0 rfl rfl 4 (by decide) (hw0 _ zm1_109) (fun _ h9 => h9) rfl dX1_chooseFor_136 ?_
                  refine va_getN (D := g.1) (ci := 4) (v := .int u3.2.2.2.2.1) (C := RX4) (T := TX4) (N := 6) hx hb hw0 ziX4 hown hK.1 hP 4 rfl rfl 4 (by decide) (va_Nw.use rfl (zf_7 hK)) (fun _ h9 => h9) rfl dX1_chooseFor_139 ?_
                  refine lv_istore_n (lv' := [(3, .int u3.2.2.2.2.1), (2, .int u3.2.2.2.1), (7, .int 1), (0, .ref (a 0)), (1, .int i1), (4, .int x.2.2.1), (5, .int i5), (6, .int x.2.2.2.1)]) hx hb dX1_chooseFor_142 rfl hl (by decide) rfl (fun ls hl => ?_)
                  refine lv_aload_n hx hb dX1_chooseFor_143 rfl (lv_at hl 3 rfl) ?_
                  refine va_get (D := g.1) (ci := 1) (v := .ref (a 4)) (C := RX1) (T := TX1) (N := 5) hx hb hw0 ziX1 hown hK.1 hP 0 rfl rfl 4 (by decide) (hw0 _ zm1_109) (fun _ h9 => h9) rfl dX1_chooseFor_144 ?_
                  refine va_getN (D := g.1) (ci := 4) (v := .int u3.2.2.2.2.2) (C := RX4) (T := TX4) (N := 6) hx hb hw0 ziX4 hown hK.1 hP 4 rfl rfl 5 (by decide) (va_Nw.use rfl (zf_8 hK)) (fun _ h9 => h9) rfl dX1_chooseFor_147 ?_
                  refine lv_istore (lv' := [(4, .int u3.2.2.2.2.2), (3, .int u3.2.2.2.2.1), (2, .int u3.2.2.2.1), (7, .int 1), (0, .ref (a 0)), (1, .int i1), (5, .int i5), (6, .int x.2.2.2.1)]) hx hb dX1_chooseFor_150 hl (by decide) rfl (fun ls hl => ?_)
                  refine lv_iinc (v := (x.2.2.2.1 + 1)) (lv' := [(6, .int (x.2.2.2.1 + 1)), (4, .int u3.2.2.2.2.2), (3, .int u3.2.2.2.2.1), (2, .int u3.2.2.2.1), (7, .int 1), (0, .ref (a 0)), (1, .int i1), (5, .int i5)]) hx hb dX1_chooseFor_152 hl (k := 7) rfl rfl (by decide) rfl (fun ls hl => ?_)
                  refine lv_goto (tgt := 20) hx hb dX1_chooseFor_155 (by decide) ?_
                  exact ih (u3.2.2.2.1, u3.2.2.2.2.1, u3.2.2.2.2.2, (x.2.2.2.1 + 1), u3) (Option.some.inj hf).symm hQ _ _ hP hD hS _ (lv_sub hl [5, 6, 3, 2, 1, 7, 0] rfl)
        · have hf := oi hf c6
          refine lv_aload_n hx hb dX1_chooseFor_58 rfl (lv_at hl 0 rfl) ?_
          refine va_get (D := g.1) (ci := 1) (v := .ref (a 4)) (C := RX1) (T := TX1) (N := 5) hx hb hw0 ziX1 hown hK.1 hP 0 rfl rfl 4 (by decide) (hw0 _ zm1_109) (fun _ h9 => h9) rfl dX1_chooseFor_59 ?_
          refine va_getN (D := g.1) (ci := 4) (v := .int u3.2.2.2.2.2) (C := RX4) (T := TX4) (N := 6) hx hb hw0 ziX4 hown hK.1 hP 4 rfl rfl 5 (by decide) (va_Nw.use rfl (zf_8 hK)) (fun _ h9 => h9) rfl dX1_chooseFor_62 ?_
          refine lv_iload hx hb dX1_chooseFor_65 (lv_at hl 4 rfl) ?_
          refine lv_icmp_lt (tgt := 104) hx hb dX1_chooseFor_67 (by decide) (fun c14 => ?_) (fun c14 => ?_)
          · have hf := oi hf c14
            refine lv_iconst (v := 1) hx hb dX1_chooseFor_104 (by decide) ?_
            refine lv_goto (tgt := 109) hx hb dX1_chooseFor_105 (by decide) ?_
            refine lv_istore (lv' := [(7, .int 1), (0, .ref (a 0)), (1, .int i1), (2, .int x.1), (3, .int x.2.1), (4, .int x.2.2.1), (5, .int i5), (6, .int x.2.2.2.1)]) hx hb dX1_chooseFor_109 hl (by decide) rfl (fun ls hl => ?_)
            refine lv_aload_n hx hb dX1_chooseFor_111 rfl (lv_at hl 1 rfl) ?_
            refine va_get (D := g.1) (ci := 1) (v := .ref (a 4)) (C := RX1) (T := TX1) (N := 5) hx hb hw0 ziX1 hown hK.1 hP 0 rfl rfl 4 (by decide) (hw0 _ zm1_109) (fun _ h9 => h9) rfl dX1_chooseFor_112 ?_
            refine va_getN (D := g.1) (ci := 4) (v := .int u3.2.2.2.2.1) (C := RX4) (T := TX4) (N := 6) hx hb hw0 ziX4 hown hK.1 hP 4 rfl rfl 4 (by decide) (va_Nw.use rfl (zf_7 hK)) (fun _ h9 => h9) rfl dX1_chooseFor_115 ?_
            refine lv_iload_n hx hb dX1_chooseFor_118 rfl (lv_at hl 2 rfl) ?_
            refine lv_icmp_gt (tgt := 152) hx hb dX1_chooseFor_119 (by decide) (fun c15 => ?_) (fun c15 => ?_)
            · have hf := oi hf c15
              refine lv_iinc (v := (x.2.2.2.1 + 1)) (lv' := [(6, .int (x.2.2.2.1 + 1)), (7, .int 1), (0, .ref (a 0)), (1, .int i1), (2, .int x.1), (3, .int x.2.1), (4, .int x.2.2.1), (5, .int i5)]) hx hb dX1_chooseFor_152 hl (k := 7) rfl rfl (by decide) rfl (fun ls hl => ?_)
              refine lv_goto (tgt := 20) hx hb dX1_chooseFor_155 (by decide) ?_
              exact ih (x.1, x.2.1, x.2.2.1, (x.2.2.2.1 + 1), u3) (Option.some.inj hf).symm hQ _ _ hP hD hS _ (lv_sub hl [2, 3, 4, 5, 6, 7, 0] rfl)
            · have hf := oe hf c15
              refine lv_iload hx hb dX1_chooseFor_122 (lv_at hl 0 rfl) ?_
              refine lv_if_eq (tgt := 152) hx hb dX1_chooseFor_124 (by decide) (fun c9 => absurd c9 (by decide)) (fun _ => ?_)
              refine lv_aload_n hx hb dX1_chooseFor_127 rfl (lv_at hl 1 rfl) ?_
              refine va_get (D := g.1) (ci := 1) (v := .ref (a 4)) (C := RX1) (T := TX1) (N := 5) hx hb hw0 ziX1 hown hK.1 hP 0 rfl rfl 4 (by decide) (hw0 _ zm1_109) (fun _ h9 => h9) rfl dX1_chooseFor_128 ?_
              refine va_getN (D := g.1) (ci := 4) (v := .int u3.2.2.2.1) (C := RX4) (T := TX4) (N := 6) hx hb hw0 ziX4 hown hK.1 hP 4 rfl rfl 3 (by decide) (va_Nw.use rfl (zf_6 hK)) (fun _ h9 => h9) rfl dX1_chooseFor_131 ?_
              refine lv_istore_n (lv' := [(2, .int u3.2.2.2.1), (7, .int 1), (0, .ref (a 0)), (1, .int i1), (3, .int x.2.1), (4, .int x.2.2.1), (5, .int i5), (6, .int x.2.2.2.1)]) hx hb dX1_chooseFor_134 rfl hl (by decide) rfl (fun ls hl => ?_)
              refine lv_aload_n hx hb dX1_chooseFor_135 rfl (lv_at hl 2 rfl) ?_
              refine va_get (D := g.1) (ci := 1) (v := .ref (a 4)) (C := RX1) (T := TX1) (N := 5) hx hb hw0 ziX1 hown hK.1 hP 0 rfl rfl 4 (by decide) (hw0 _ zm1_109) (fun _ h9 => h9) rfl dX1_chooseFor_136 ?_
              refine va_getN (D := g.1) (ci := 4) (v := .int u3.2.2.2.2.1) (C := RX4) (T := TX4) (N := 6) hx hb hw0 ziX4 hown hK.1 hP 4 rfl rfl 4 (by decide) (va_Nw.use rfl (zf_7 hK)) (fun _ h9 => h9) rfl dX1_chooseFor_139 ?_
              refine lv_istore_n (lv' := [(3, .int u3.2.2.2.2.1), (2, .int u3.2.2.2.1), (7, .int 1), (0, .ref (a 0)), (1, .int i1), (4, .int x.2.2.1), (5, .int i5), (6, .int x.2.2.2.1)]) hx hb dX1_chooseFor_142 rfl hl (by decide) rfl (fun ls hl => ?_)
              refine lv_aload_n hx hb dX1_chooseFor_143 rfl (lv_at hl 3 rfl) ?_
              refine va_get (D := g.1) (ci := 1) (v := .ref (a 4)) (C := RX1) (T := TX1) (N := 5) hx hb hw0 ziX1 hown hK.1 hP 0 rfl rfl 4 (by decide) (hw0 _ zm1_109) (fun _ h9 => h9) rfl dX1_chooseFor_144 ?_
              refine va_getN (D := g.1) (ci := 4) (v := .int u3.2.2.2.2.2) (C := RX4) (T := TX4) (N := 6) hx hb hw0 ziX4 hown hK.1 hP 4 rfl rfl 5 (by decide) (va_Nw.use rfl (zf_8 hK)) (fun _ h9 => h9) rfl dX1_chooseFor_147 ?_
              refine lv_istore (lv' := [(4, .int u3.2.2.2.2.2), (3, .int u3.2.2.2.2.1), (2, .int u3.2.2.2.1), (7, .int 1), (0, .ref (a 0)), (1, .int i1), (5, .int i5), (6, .int x.2.2.2.1)]) hx hb dX1_chooseFor_150 hl (by decide) rfl (fun ls hl => ?_)
              refine lv_iinc (v := (x.2.2.2.1 + 1)) (lv' := [(6, .int (x.2.2.2.1 + 1)), (4, .int u3.2.2.2.2.2), (3, .int u3.2.2.2.2.1), (2, .int u3.2.2.2.1), (7, .int 1), (0, .ref (a 0)), (1, .int i1), (5, .int i5)]) hx hb dX1_chooseFor_152 hl (k := 7) rfl rfl (by decide) rfl (fun ls hl => ?_)
              refine lv_goto (tgt := 20) hx hb dX1_chooseFor_155 (by decide) ?_
              exact ih (u3.2.2.2.1, u3.2.2.2.2.1, u3.2.2.2.2.2, (x.2.2.2.1 + 1), u3) (Option.some.inj hf).symm hQ _ _ hP hD hS _ (lv_sub hl [5, 6, 3, 2, 1, 7, 0] rfl)
          · have hf := oe hf c14
            refine lv_aload_n hx hb dX1_chooseFor_70 rfl (lv_at hl 0 rfl) ?_
            refine va_get (D := g.1) (ci := 1) (v := .ref (a 4)) (C := RX1) (T := TX1) (N := 5) hx hb hw0 ziX1 hown hK.1 hP 0 rfl rfl 4 (by decide) (hw0 _ zm1_109) (fun _ h9 => h9) rfl dX1_chooseFor_71 ?_
            refine va_getN (D := g.1) (ci := 4) (v := .int u3.2.2.2.2.1) (C := RX4) (T := TX4) (N := 6) hx hb hw0 ziX4 hown hK.1 hP 4 rfl rfl 4 (by decide) (va_Nw.use rfl (zf_7 hK)) (fun _ h9 => h9) rfl dX1_chooseFor_74 ?_
            refine lv_iload_n hx hb dX1_chooseFor_77 rfl (lv_at hl 3 rfl) ?_
            refine lv_icmp_ne (tgt := 108) hx hb dX1_chooseFor_78 (by decide) (fun c16 => ?_) (fun c16 => ?_)
            · have hf := oe hf c16
              refine lv_iconst (v := 0) hx hb dX1_chooseFor_108 (by decide) ?_
              refine lv_istore (lv' := [(7, .int 0), (0, .ref (a 0)), (1, .int i1), (2, .int x.1), (3, .int x.2.1), (4, .int x.2.2.1), (5, .int i5), (6, .int x.2.2.2.1)]) hx hb dX1_chooseFor_109 hl (by decide) rfl (fun ls hl => ?_)
              refine lv_aload_n hx hb dX1_chooseFor_111 rfl (lv_at hl 1 rfl) ?_
              refine va_get (D := g.1) (ci := 1) (v := .ref (a 4)) (C := RX1) (T := TX1) (N := 5) hx hb hw0 ziX1 hown hK.1 hP 0 rfl rfl 4 (by decide) (hw0 _ zm1_109) (fun _ h9 => h9) rfl dX1_chooseFor_112 ?_
              refine va_getN (D := g.1) (ci := 4) (v := .int u3.2.2.2.2.1) (C := RX4) (T := TX4) (N := 6) hx hb hw0 ziX4 hown hK.1 hP 4 rfl rfl 4 (by decide) (va_Nw.use rfl (zf_7 hK)) (fun _ h9 => h9) rfl dX1_chooseFor_115 ?_
              refine lv_iload_n hx hb dX1_chooseFor_118 rfl (lv_at hl 2 rfl) ?_
              refine lv_icmp_gt (tgt := 152) hx hb dX1_chooseFor_119 (by decide) (fun c17 => ?_) (fun c17 => ?_)
              · have hf := oi hf c17
                refine lv_iinc (v := (x.2.2.2.1 + 1)) (lv' := [(6, .int (x.2.2.2.1 + 1)), (7, .int 0), (0, .ref (a 0)), (1, .int i1), (2, .int x.1), (3, .int x.2.1), (4, .int x.2.2.1), (5, .int i5)]) hx hb dX1_chooseFor_152 hl (k := 7) rfl rfl (by decide) rfl (fun ls hl => ?_)
                refine lv_goto (tgt := 20) hx hb dX1_chooseFor_155 (by decide) ?_
                exact ih (x.1, x.2.1, x.2.2.1, (x.2.2.2.1 + 1), u3) (Option.some.inj hf).symm hQ _ _ hP hD hS _ (lv_sub hl [2, 3, 4, 5, 6, 7, 0] rfl)
              · have hf := oe hf c17
                refine lv_iload hx hb dX1_chooseFor_122 (lv_at hl 0 rfl) ?_
                refine lv_if_eq (tgt := 152) hx hb dX1_chooseFor_124 (by decide) (fun _ => ?_) (fun c9 => absurd c9 (by decide))
                refine lv_iinc (v := (x.2.2.2.1 + 1)) (lv' := [(6, .int (x.2.2.2.1 + 1)), (7, .int 0), (0, .ref (a 0)), (1, .int i1), (2, .int x.1), (3, .int x.2.1), (4, .int x.2.2.1), (5, .int i5)]) hx hb dX1_chooseFor_152 hl (k := 7) rfl rfl (by decide) rfl (fun ls hl => ?_)
                refine lv_goto (tgt := 20) hx hb dX1_chooseFor_155 (by decide) ?_
                exact ih (x.1, x.2.1, x.2.2.1, (x.2.2.2.1 + 1), u3) (Option.some.inj hf).symm hQ _ _ hP hD hS _ (lv_sub hl [2, 3, 4, 5, 6, 7, 0] rfl)
            · have hf := oi hf c16
              refine lv_aload_n hx hb dX1_chooseFor_81 rfl (lv_at hl 0 rfl) ?_
              refine va_get (D := g.1) (ci := 1) (v := .ref (a 4)) (C := RX1) (T := TX1) (N := 5) hx hb hw0 ziX1 hown hK.1 hP 0 rfl rfl 4 (by decide) (hw0 _ zm1_109) (fun _ h9 => h9) rfl dX1_chooseFor_82 ?_
              refine va_getN (D := g.1) (ci := 4) (v := .int u3.2.2.2.2.2) (C := RX4) (T := TX4) (N := 6) hx hb hw0 ziX4 hown hK.1 hP 4 rfl rfl 5 (by decide) (va_Nw.use rfl (zf_8 hK)) (fun _ h9 => h9) rfl dX1_chooseFor_85 ?_
              refine lv_iload hx hb dX1_chooseFor_88 (lv_at hl 4 rfl) ?_
              refine lv_icmp_ne (tgt := 108) hx hb dX1_chooseFor_90 (by decide) (fun c18 => ?_) (fun c18 => ?_)
              · have hf := oe hf c18
                refine lv_iconst (v := 0) hx hb dX1_chooseFor_108 (by decide) ?_
                refine lv_istore (lv' := [(7, .int 0), (0, .ref (a 0)), (1, .int i1), (2, .int x.1), (3, .int x.2.1), (4, .int x.2.2.1), (5, .int i5), (6, .int x.2.2.2.1)]) hx hb dX1_chooseFor_109 hl (by decide) rfl (fun ls hl => ?_)
                refine lv_aload_n hx hb dX1_chooseFor_111 rfl (lv_at hl 1 rfl) ?_
                refine va_get (D := g.1) (ci := 1) (v := .ref (a 4)) (C := RX1) (T := TX1) (N := 5) hx hb hw0 ziX1 hown hK.1 hP 0 rfl rfl 4 (by decide) (hw0 _ zm1_109) (fun _ h9 => h9) rfl dX1_chooseFor_112 ?_
                refine va_getN (D := g.1) (ci := 4) (v := .int u3.2.2.2.2.1) (C := RX4) (T := TX4) (N := 6) hx hb hw0 ziX4 hown hK.1 hP 4 rfl rfl 4 (by decide) (va_Nw.use rfl (zf_7 hK)) (fun _ h9 => h9) rfl dX1_chooseFor_115 ?_
                refine lv_iload_n hx hb dX1_chooseFor_118 rfl (lv_at hl 2 rfl) ?_
                refine lv_icmp_gt (tgt := 152) hx hb dX1_chooseFor_119 (by decide) (fun c19 => ?_) (fun c19 => ?_)
                · have hf := oi hf c19
                  refine lv_iinc (v := (x.2.2.2.1 + 1)) (lv' := [(6, .int (x.2.2.2.1 + 1)), (7, .int 0), (0, .ref (a 0)), (1, .int i1), (2, .int x.1), (3, .int x.2.1), (4, .int x.2.2.1), (5, .int i5)]) hx hb dX1_chooseFor_152 hl (k := 7) rfl rfl (by decide) rfl (fun ls hl => ?_)
                  refine lv_goto (tgt := 20) hx hb dX1_chooseFor_155 (by decide) ?_
                  exact ih (x.1, x.2.1, x.2.2.1, (x.2.2.2.1 + 1), u3) (Option.some.inj hf).symm hQ _ _ hP hD hS _ (lv_sub hl [2, 3, 4, 5, 6, 7, 0] rfl)
                · have hf := oe hf c19
                  refine lv_iload hx hb dX1_chooseFor_122 (lv_at hl 0 rfl) ?_
                  refine lv_if_eq (tgt := 152) hx hb dX1_chooseFor_124 (by decide) (fun _ => ?_) (fun c9 => absurd c9 (by decide))
                  refine lv_iinc (v := (x.2.2.2.1 + 1)) (lv' := [(6, .int (x.2.2.2.1 + 1)), (7, .int 0), (0, .ref (a 0)), (1, .int i1), (2, .int x.1), (3, .int x.2.1), (4, .int x.2.2.1), (5, .int i5)]) hx hb dX1_chooseFor_152 hl (k := 7) rfl rfl (by decide) rfl (fun ls hl => ?_)
                  refine lv_goto (tgt := 20) hx hb dX1_chooseFor_155 (by decide) ?_
                  exact ih (x.1, x.2.1, x.2.2.1, (x.2.2.2.1 + 1), u3) (Option.some.inj hf).symm hQ _ _ hP hD hS _ (lv_sub hl [2, 3, 4, 5, 6, 7, 0] rfl)
              · have hf := oi hf c18
                refine lv_aload_n hx hb dX1_chooseFor_93 rfl (lv_at hl 0 rfl) ?_
                refine va_get (D := g.1) (ci := 1) (v := .ref (a 4)) (C := RX1) (T := TX1) (N := 5) hx hb hw0 ziX1 hown hK.1 hP 0 rfl rfl 4 (by decide) (hw0 _ zm1_109) (fun _ h9 => h9) rfl dX1_chooseFor_94 ?_
                refine va_getN (D := g.1) (ci := 4) (v := .int u3.2.2.2.1) (C := RX4) (T := TX4) (N := 6) hx hb hw0 ziX4 hown hK.1 hP 4 rfl rfl 3 (by decide) (va_Nw.use rfl (zf_6 hK)) (fun _ h9 => h9) rfl dX1_chooseFor_97 ?_
                refine lv_iload_n hx hb dX1_chooseFor_100 rfl (lv_at hl 2 rfl) ?_
                refine lv_icmp_ge (tgt := 108) hx hb dX1_chooseFor_101 (by decide) (fun c20 => ?_) (fun c20 => ?_)
                · have hf := oi hf c20
                  refine lv_iconst (v := 0) hx hb dX1_chooseFor_108 (by decide) ?_
                  refine lv_istore (lv' := [(7, .int 0), (0, .ref (a 0)), (1, .int i1), (2, .int x.1), (3, .int x.2.1), (4, .int x.2.2.1), (5, .int i5), (6, .int x.2.2.2.1)]) hx hb dX1_chooseFor_109 hl (by decide) rfl (fun ls hl => ?_)
                  refine lv_aload_n hx hb dX1_chooseFor_111 rfl (lv_at hl 1 rfl) ?_
                  refine va_get (D := g.1) (ci := 1) (v := .ref (a 4)) (C := RX1) (T := TX1) (N := 5) hx hb hw0 ziX1 hown hK.1 hP 0 rfl rfl 4 (by decide) (hw0 _ zm1_109) (fun _ h9 => h9) rfl dX1_chooseFor_112 ?_
                  refine va_getN (D := g.1) (ci := 4) (v := .int u3.2.2.2.2.1) (C := RX4) (T := TX4) (N := 6) hx hb hw0 ziX4 hown hK.1 hP 4 rfl rfl 4 (by decide) (va_Nw.use rfl (zf_7 hK)) (fun _ h9 => h9) rfl dX1_chooseFor_115 ?_
                  refine lv_iload_n hx hb dX1_chooseFor_118 rfl (lv_at hl 2 rfl) ?_
                  refine lv_icmp_gt (tgt := 152) hx hb dX1_chooseFor_119 (by decide) (fun c21 => ?_) (fun c21 => ?_)
                  · have hf := oi hf c21
                    refine lv_iinc (v := (x.2.2.2.1 + 1)) (lv' := [(6, .int (x.2.2.2.1 + 1)), (7, .int 0), (0, .ref (a 0)), (1, .int i1), (2, .int x.1), (3, .int x.2.1), (4, .int x.2.2.1), (5, .int i5)]) hx hb dX1_chooseFor_152 hl (k := 7) rfl rfl (by decide) rfl (fun ls hl => ?_)
                    refine lv_goto (tgt := 20) hx hb dX1_chooseFor_155 (by decide) ?_
                    exact ih (x.1, x.2.1, x.2.2.1, (x.2.2.2.1 + 1), u3) (Option.some.inj hf).symm hQ _ _ hP hD hS _ (lv_sub hl [2, 3, 4, 5, 6, 7, 0] rfl)
                  · have hf := oe hf c21
                    refine lv_iload hx hb dX1_chooseFor_122 (lv_at hl 0 rfl) ?_
                    refine lv_if_eq (tgt := 152) hx hb dX1_chooseFor_124 (by decide) (fun _ => ?_) (fun c9 => absurd c9 (by decide))
                    refine lv_iinc (v := (x.2.2.2.1 + 1)) (lv' := [(6, .int (x.2.2.2.1 + 1)), (7, .int 0), (0, .ref (a 0)), (1, .int i1), (2, .int x.1), (3, .int x.2.1), (4, .int x.2.2.1), (5, .int i5)]) hx hb dX1_chooseFor_152 hl (k := 7) rfl rfl (by decide) rfl (fun ls hl => ?_)
                    refine lv_goto (tgt := 20) hx hb dX1_chooseFor_155 (by decide) ?_
                    exact ih (x.1, x.2.1, x.2.2.1, (x.2.2.2.1 + 1), u3) (Option.some.inj hf).symm hQ _ _ hP hD hS _ (lv_sub hl [2, 3, 4, 5, 6, 7, 0] rfl)
                · have hf := oe hf c20
                  refine lv_iconst (v := 1) hx hb dX1_chooseFor_104 (by decide) ?_
                  refine lv_goto (tgt := 109) hx hb dX1_chooseFor_105 (by decide) ?_
                  refine lv_istore (lv' := [(7, .int 1), (0, .ref (a 0)), (1, .int i1), (2, .int x.1), (3, .int x.2.1), (4, .int x.2.2.1), (5, .int i5), (6, .int x.2.2.2.1)]) hx hb dX1_chooseFor_109 hl (by decide) rfl (fun ls hl => ?_)
                  refine lv_aload_n hx hb dX1_chooseFor_111 rfl (lv_at hl 1 rfl) ?_
                  refine va_get (D := g.1) (ci := 1) (v := .ref (a 4)) (C := RX1) (T := TX1) (N := 5) hx hb hw0 ziX1 hown hK.1 hP 0 rfl rfl 4 (by decide) (hw0 _ zm1_109) (fun _ h9 => h9) rfl dX1_chooseFor_112 ?_
                  refine va_getN (D := g.1) (ci := 4) (v := .int u3.2.2.2.2.1) (C := RX4) (T := TX4) (N := 6) hx hb hw0 ziX4 hown hK.1 hP 4 rfl rfl 4 (by decide) (va_Nw.use rfl (zf_7 hK)) (fun _ h9 => h9) rfl dX1_chooseFor_115 ?_
                  refine lv_iload_n hx hb dX1_chooseFor_118 rfl (lv_at hl 2 rfl) ?_
                  refine lv_icmp_gt (tgt := 152) hx hb dX1_chooseFor_119 (by decide) (fun c22 => ?_) (fun c22 => ?_)
                  · have hf := oi hf c22
                    refine lv_iinc (v := (x.2.2.2.1 + 1)) (lv' := [(6, .int (x.2.2.2.1 + 1)), (7, .int 1), (0, .ref (a 0)), (1, .int i1), (2, .int x.1), (3, .int x.2.1), (4, .int x.2.2.1), (5, .int i5)]) hx hb dX1_chooseFor_152 hl (k := 7) rfl rfl (by decide) rfl (fun ls hl => ?_)
                    refine lv_goto (tgt := 20) hx hb dX1_chooseFor_155 (by decide) ?_
                    exact ih (x.1, x.2.1, x.2.2.1, (x.2.2.2.1 + 1), u3) (Option.some.inj hf).symm hQ _ _ hP hD hS _ (lv_sub hl [2, 3, 4, 5, 6, 7, 0] rfl)
                  · have hf := oe hf c22
                    refine lv_iload hx hb dX1_chooseFor_122 (lv_at hl 0 rfl) ?_
                    refine lv_if_eq (tgt := 152) hx hb dX1_chooseFor_124 (by decide) (fun c9 => absurd c9 (by decide)) (fun _ => ?_)
                    refine lv_aload_n hx hb dX1_chooseFor_127 rfl (lv_at hl 1 rfl) ?_
                    refine va_get (D := g.1) (ci := 1) (v := .ref (a 4)) (C := RX1) (T := TX1) (N := 5) hx hb hw0 ziX1 hown hK.1 hP 0 rfl rfl 4 (by decide) (hw0 _ zm1_109) (fun _ h9 => h9) rfl dX1_chooseFor_128 ?_
                    refine va_getN (D := g.1) (ci := 4) (v := .int u3.2.2.2.1) (C := RX4) (T := TX4) (N := 6) hx hb hw0 ziX4 hown hK.1 hP 4 rfl rfl 3 (by decide) (va_Nw.use rfl (zf_6 hK)) (fun _ h9 => h9) rfl dX1_chooseFor_131 ?_
                    refine lv_istore_n (lv' := [(2, .int u3.2.2.2.1), (7, .int 1), (0, .ref (a 0)), (1, .int i1), (3, .int x.2.1), (4, .int x.2.2.1), (5, .int i5), (6, .int x.2.2.2.1)]) hx hb dX1_chooseFor_134 rfl hl (by decide) rfl (fun ls hl => ?_)
                    refine lv_aload_n hx hb dX1_chooseFor_135 rfl (lv_at hl 2 rfl) ?_
                    refine va_get (D := g.1) (ci := 1) (v := .ref (a 4)) (C := RX1) (T := TX1) (N := 5) hx hb hw0 ziX1 hown hK.1 hP 0 rfl rfl 4 (by decide) (hw0 _ zm1_109) (fun _ h9 => h9) rfl dX1_chooseFor_136 ?_
                    refine va_getN (D := g.1) (ci := 4) (v := .int u3.2.2.2.2.1) (C := RX4) (T := TX4) (N := 6) hx hb hw0 ziX4 hown hK.1 hP 4 rfl rfl 4 (by decide) (va_Nw.use rfl (zf_7 hK)) (fun _ h9 => h9) rfl dX1_chooseFor_139 ?_
                    refine lv_istore_n (lv' := [(3, .int u3.2.2.2.2.1), (2, .int u3.2.2.2.1), (7, .int 1), (0, .ref (a 0)), (1, .int i1), (4, .int x.2.2.1), (5, .int i5), (6, .int x.2.2.2.1)]) hx hb dX1_chooseFor_142 rfl hl (by decide) rfl (fun ls hl => ?_)
                    refine lv_aload_n hx hb dX1_chooseFor_143 rfl (lv_at hl 3 rfl) ?_
                    refine va_get (D := g.1) (ci := 1) (v := .ref (a 4)) (C := RX1) (T := TX1) (N := 5) hx hb hw0 ziX1 hown hK.1 hP 0 rfl rfl 4 (by decide) (hw0 _ zm1_109) (fun _ h9 => h9) rfl dX1_chooseFor_144 ?_
                    refine va_getN (D := g.1) (ci := 4) (v := .int u3.2.2.2.2.2) (C := RX4) (T := TX4) (N := 6) hx hb hw0 ziX4 hown hK.1 hP 4 rfl rfl 5 (by decide) (va_Nw.use rfl (zf_8 hK)) (fun _ h9 => h9) rfl dX1_chooseFor_147 ?_
                    refine lv_istore (lv' := [(4, .int u3.2.2.2.2.2), (3, .int u3.2.2.2.2.1), (2, .int u3.2.2.2.1), (7, .int 1), (0, .ref (a 0)), (1, .int i1), (5, .int i5), (6, .int x.2.2.2.1)]) hx hb dX1_chooseFor_150 hl (by decide) rfl (fun ls hl => ?_)
                    refine lv_iinc (v := (x.2.2.2.1 + 1)) (lv' := [(6, .int (x.2.2.2.1 + 1)), (4, .int u3.2.2.2.2.2), (3, .int u3.2.2.2.2.1), (2, .int u3.2.2.2.1), (7, .int 1), (0, .ref (a 0)), (1, .int i1), (5, .int i5)]) hx hb dX1_chooseFor_152 hl (k := 7) rfl rfl (by decide) rfl (fun ls hl => ?_)
                    refine lv_goto (tgt := 20) hx hb dX1_chooseFor_155 (by decide) ?_
                    exact ih (u3.2.2.2.1, u3.2.2.2.2.1, u3.2.2.2.2.2, (x.2.2.2.1 + 1), u3) (Option.some.inj hf).symm hQ _ _ hP hD hS _ (lv_sub hl [5, 6, 3, 2, 1, 7, 0] rfl)
  unfold f_X1_chooseFor at hf
  have hl := lv_entry ([.ref (a 0), .int p0]) (n := 8) (Nat.le_of_ble_eq_true rfl)
  rw [lg_entry_eq]
  generalize (lg_sl ([.ref (a 0), .int p0]) ++ List.replicate (8 - (lg_sl ([.ref (a 0), .int p0])).length) Slot.unset).toArray = ls at hl ⊢
  have hl : lv_has ls 8 [(0, .ref (a 0)), (1, .int p0)] := hl
  refine lv_iconst (v := 0) hx hb dX1_chooseFor_0 (by decide) ?_
  refine lv_istore_n (lv' := [(2, .int 0), (0, .ref (a 0)), (1, .int p0)]) hx hb dX1_chooseFor_1 rfl hl (by decide) rfl (fun ls hl => ?_)
  refine lv_iconst (v := 0) hx hb dX1_chooseFor_2 (by decide) ?_
  refine lv_istore_n (lv' := [(3, .int 0), (2, .int 0), (0, .ref (a 0)), (1, .int p0)]) hx hb dX1_chooseFor_3 rfl hl (by decide) rfl (fun ls hl => ?_)
  refine lv_iconst (v := 0) hx hb dX1_chooseFor_4 (by decide) ?_
  refine lv_istore (lv' := [(4, .int 0), (3, .int 0), (2, .int 0), (0, .ref (a 0)), (1, .int p0)]) hx hb dX1_chooseFor_5 hl (by decide) rfl (fun ls hl => ?_)
  refine lv_aload_n hx hb dX1_chooseFor_7 rfl (lv_at hl 3 rfl) ?_
  refine va_get (D := g.1) (ci := 1) (v := .ref (a 4)) (C := RX1) (T := TX1) (N := 5) hx hb hw0 ziX1 hown hK.1 hP 0 rfl rfl 4 (by decide) (hw0 _ zm1_109) (fun _ h9 => h9) rfl dX1_chooseFor_8 ?_
  refine lv_aload_n hx hb dX1_chooseFor_11 rfl (lv_at hl 3 rfl) ?_
  obtain ⟨u1, hu1, hf⟩ := ob hf
  refine zk_i (va_runVN (As := [.ref (a 0)]) (rest := []) ⟨hx, hb, hml, hown, hts⟩ (c_X4_begin l g (fun k => a (k + 4)) a (a 4) v.2.2.2.2 (v.1, v.2.1, v.2.2.1, v.2.2.2.1) _ hu1 _) (zcN hw0 (zn_34 hK) zm3_72 zm1_5 zm3_71 zs3_5 hd_X4_begin rfl rfl ⟨Nat.le_of_ble_eq_true rfl, Nat.le_of_ble_eq_true rfl⟩) ⟨zblind, zrecv (wc := zX4 g (fun k => a (k + 4)) v.2.2.2.2 ++ zX1s g a (a 4) (v.1, v.2.1, v.2.2.1, v.2.2.2.1)) hK hP [4, 5, 6, 0, 1, 2, 3] rfl (ci := 4) rfl rfl, zpre hK hP hD [4, 5, 6, 0, 1, 2, 3] rfl rfl⟩ rfl rfl hl.1 rfl (lv_room (Nat.le_of_ble_eq_true rfl)) dX1_chooseFor_12 ⟨Nat.zero_le _, Nat.zero_le _⟩) hP hD hS hA [4, 5, 6, 0, 1, 2, 3] rfl rfl (fun H locs hP hD hS => ?_)
  have hP : va_P g.1 vwCl (zX1 g a (v.1, v.2.1, v.2.2.1, v.2.2.2.1, u1.2)) H := hP
  have hD : va_D A (zX1 g a (v.1, v.2.1, v.2.2.1, v.2.2.2.1, u1.2)) := hD
  refine lv_istore (lv' := [(5, .int u1.1), (4, .int 0), (3, .int 0), (2, .int 0), (0, .ref (a 0)), (1, .int p0)]) hx hb dX1_chooseFor_15 hl (by decide) rfl (fun ls hl => ?_)
  refine lv_iconst (v := 1) hx hb dX1_chooseFor_17 (by decide) ?_
  refine lv_istore (lv' := [(6, .int 1), (5, .int u1.1), (4, .int 0), (3, .int 0), (2, .int 0), (0, .ref (a 0)), (1, .int p0)]) hx hb dX1_chooseFor_18 hl (by decide) rfl (fun ls hl => ?_)
  obtain ⟨u23, hu23, hf⟩ := ob hf
  refine lp20 (v.1, v.2.1, v.2.2.1, v.2.2.2.1, u1.2) p0 u1.1 _ _ u23 hu23 (fun H locs hP hD hS ls hl => ?_) _ _ hP hD hS _ (lv_sub hl [5, 6, 4, 3, 2, 1, 0] rfl)
  have hl : lv_has ls 8 [(2, .int u23.1)] := hl
  have hP : va_P g.1 vwCl (zX1 g a (v.1, v.2.1, v.2.2.1, v.2.2.2.1, u23.2.2.2.2)) H := hP
  have hD : va_D A (zX1 g a (v.1, v.2.1, v.2.2.1, v.2.2.2.1, u23.2.2.2.2)) := hD
  refine lv_iload_n hx hb dX1_chooseFor_158 rfl (lv_at hl 0 rfl) ?_
  have hR : (u23.1, (v.1, v.2.1, v.2.2.1, v.2.2.2.1, u23.2.2.2.2)) = r := Option.some.inj hf
  subst hR
  exact W.iret (v := u23.1) hx hb hr0 (fun t ht hW => ⟨⟨u23.1, (), rfl, rfl, by rw [ht]; exact hP, hD⟩, hS.F ht⟩) hS.2.2 dX1_chooseFor_159
theorem hd_X1_tell : yX1_tell.cls ≠ "java/lang/invoke/MethodHandle" ∧ yX1_tell.cls ≠ "java/lang/invoke/VarHandle" ∧ (parseMethodDescriptor yX1_tell.desc).map (fun d => d.parameters.length) = some 2 := by decide +kernel
def f_X1_tell (v : FV) (p0 : Int32) (p1 : Int32) : Option (Int32) :=
  (f_X1_has v p0).bind (fun u1 =>
  if (zb u1) = 0 then
    some (-1)
  else
    if p1 = 0 then
      if zin p0 10 = true then
      some (v.2.1 p0.toNatClampNeg)
      else none
    else
      if p1 = 1 then
        if zin p0 10 = true then
        some (v.2.2.1 p0.toNatClampNeg)
        else none
      else
        if zin p0 10 = true then
        some (v.2.2.2.1 p0.toNatClampNeg)
        else none)
set_option maxHeartbeats 4000000 in
set_option maxRecDepth 100000 in
theorem c_X1_tell (l : Launch) (g : zG) (a : Nat → Nat) (v : FV) (p0 : Int32) (p1 : Int32) (r : Int32) (hf : f_X1_tell v p0 p1 = some r) : zMi zNF zNM l yX1_tell (zw yX1_tell cX1_tell 3 (some .int)) ({ frames := 1, cells := 0, slots := 0, locals := 21 } : Room) g [.ref (a 0), .int p0, .int p1] (zX1 g a v) r (zX1 g a v) := by
  intro sz
  refine Met.ofW (cc := cX1_tell) (maxL := 3) (ret := (some .int)) (by decide) rfl ?_
  intro p e s m args below meth c s₁ B hml hv
  obtain ⟨rfl, hsz, hP, hK, hD0⟩ := hv
  have hx := B.exec
  have hb := B.bytes
  have hr0 := B.returns
  have hts := atoms_spec (ws := (zw yX1_tell cX1_tell 3 (some .int))) B.pre
  have hw0 : ∀ w ∈ zW, w.before ([.ref (a 0), .int p0, .int p1] : List Value).toArray s = true := fun w h => hts w (List.mem_cons_of_mem _ h)
  have hown : s.vm.findClass RX1 = some m.cls := findClass_of_methodNamed B.named
  have hlocks := B.notSynchronized
  subst hsz
  have hD := hD0.self (sz := s.heap.size)
  generalize hAe : va_A (zX1 g a v) s.heap.size = A at hD ⊢
  have hA : ∀ q : Nat, s.heap.size ≤ q → A q := fun q h => by rw [← hAe]; exact Or.inr h
  have hS : va_S A s.heap s.heap [] := va_S.rf
  unfold f_X1_tell at hf
  have hl := lv_entry ([.ref (a 0), .int p0, .int p1]) (n := 3) (Nat.le_of_ble_eq_true rfl)
  rw [lg_entry_eq]
  generalize (lg_sl ([.ref (a 0), .int p0, .int p1]) ++ List.replicate (3 - (lg_sl ([.ref (a 0), .int p0, .int p1])).length) Slot.unset).toArray = ls at hl ⊢
  have hl : lv_has ls 3 [(0, .ref (a 0)), (1, .int p0), (2, .int p1)] := hl
  refine lv_aload_n hx hb dX1_tell_0 rfl (lv_at hl 0 rfl) ?_
  refine lv_iload_n hx hb dX1_tell_1 rfl (lv_at hl 1 rfl) ?_
  obtain ⟨u1, hu1, hf⟩ := ob hf
  refine zk_iA (va_runV (As := [.int p0]) (rest := []) ⟨hx, hb, hml, hown, hts⟩ (c_X1_has l g a v p0 _ hu1 _) (zcV hw0 zm3_197 zm2_192 zm1_4 zm2_191 zs2_0 hd_X1_has rfl rfl ⟨Nat.le_of_ble_eq_true rfl, Nat.le_of_ble_eq_true rfl⟩) ⟨zblind, zrecvA hK hP (ci := 1) rfl rfl, zpreA hK hP hD⟩ rfl rfl hl.1 rfl (lv_room (Nat.le_of_ble_eq_true rfl)) dX1_tell_2 ⟨Nat.zero_le _, Nat.zero_le _⟩) hP hD hS hA (fun H locs hP hD hS => ?_)
  refine lv_if_ne (tgt := 10) hx hb dX1_tell_5 (by decide) (fun c2 => ?_) (fun c2 => ?_)
  · have hf := oe hf c2
    refine lv_iload_n hx hb dX1_tell_10 rfl (lv_at hl 2 rfl) ?_
    by_cases c6 : p1 = 0
    · have hf := oi hf c6
      refine lv_lookup (tgt := 36) (off := 25) hx hb dX1_tell_11 (by decide) (by first | (rw [c6]; done) | (rw [c6]; rfl)) (by decide) ?_
      refine lv_aload_n hx hb dX1_tell_36 rfl (lv_at hl 0 rfl) ?_
      refine va_get (D := g.1) (ci := 1) (v := .ref (a 1)) (C := RX1) (T := TX1) (N := 5) hx hb hw0 ziX1 hown hK.1 hP 0 rfl rfl 1 (by decide) (hw0 _ zm1_101) (fun _ h9 => h9) rfl dX1_tell_37 ?_
      refine lv_iload_n hx hb dX1_tell_40 rfl (lv_at hl 1 rfl) ?_
      obtain ⟨h3, hf⟩ := og hf
      refine zald (D := g.1) (f := v.2.1) (k := p0.toNatClampNeg) hx hb hK.1 hP 1 0 rfl rfl (zin_vp h3) rfl dX1_tell_41 ?_
      have hR : (v.2.1 p0.toNatClampNeg) = r := Option.some.inj hf
      subst hR
      exact W.iret (v := (v.2.1 p0.toNatClampNeg)) hx hb hr0 (fun t ht hW => ⟨⟨(v.2.1 p0.toNatClampNeg), (), rfl, rfl, by rw [ht]; exact hP, hD⟩, hS.F ht⟩) hS.2.2 dX1_tell_42
    · have hf := oe hf c6
      by_cases c7 : p1 = 1
      · have hf := oi hf c7
        refine lv_lookup (tgt := 43) (off := 32) hx hb dX1_tell_11 (by decide) (by first | (rw [c7]; done) | (rw [c7]; rfl)) (by decide) ?_
        refine lv_aload_n hx hb dX1_tell_43 rfl (lv_at hl 0 rfl) ?_
        refine va_get (D := g.1) (ci := 1) (v := .ref (a 2)) (C := RX1) (T := TX1) (N := 5) hx hb hw0 ziX1 hown hK.1 hP 0 rfl rfl 2 (by decide) (hw0 _ zm1_104) (fun _ h9 => h9) rfl dX1_tell_44 ?_
        refine lv_iload_n hx hb dX1_tell_47 rfl (lv_at hl 1 rfl) ?_
        obtain ⟨h4, hf⟩ := og hf
        refine zald (D := g.1) (f := v.2.2.1) (k := p0.toNatClampNeg) hx hb hK.1 hP 2 0 rfl rfl (zin_vp h4) rfl dX1_tell_48 ?_
        have hR : (v.2.2.1 p0.toNatClampNeg) = r := Option.some.inj hf
        subst hR
        exact W.iret (v := (v.2.2.1 p0.toNatClampNeg)) hx hb hr0 (fun t ht hW => ⟨⟨(v.2.2.1 p0.toNatClampNeg), (), rfl, rfl, by rw [ht]; exact hP, hD⟩, hS.F ht⟩) hS.2.2 dX1_tell_49
      · have hf := oe hf c7
        refine lv_lookup (tgt := 50) (off := 39) hx hb dX1_tell_11 (by decide) (by first | (rw [lv_osw c6 (by decide)]; rw [lv_osw c7 (by decide)]; done) | (rw [lv_osw c6 (by decide)]; rw [lv_osw c7 (by decide)]; rfl)) (by decide) ?_
        refine lv_aload_n hx hb dX1_tell_50 rfl (lv_at hl 0 rfl) ?_
        refine va_get (D := g.1) (ci := 1) (v := .ref (a 3)) (C := RX1) (T := TX1) (N := 5) hx hb hw0 ziX1 hown hK.1 hP 0 rfl rfl 3 (by decide) (hw0 _ zm1_107) (fun _ h9 => h9) rfl dX1_tell_51 ?_
        refine lv_iload_n hx hb dX1_tell_54 rfl (lv_at hl 1 rfl) ?_
        obtain ⟨h5, hf⟩ := og hf
        refine zald (D := g.1) (f := v.2.2.2.1) (k := p0.toNatClampNeg) hx hb hK.1 hP 3 0 rfl rfl (zin_vp h5) rfl dX1_tell_55 ?_
        have hR : (v.2.2.2.1 p0.toNatClampNeg) = r := Option.some.inj hf
        subst hR
        exact W.iret (v := (v.2.2.2.1 p0.toNatClampNeg)) hx hb hr0 (fun t ht hW => ⟨⟨(v.2.2.2.1 p0.toNatClampNeg), (), rfl, rfl, by rw [ht]; exact hP, hD⟩, hS.F ht⟩) hS.2.2 dX1_tell_56
  · have hf := oi hf c2
    refine lv_iconst (v := (-1)) hx hb dX1_tell_8 (by decide) ?_
    have hR : (-1) = r := Option.some.inj hf
    subst hR
    exact W.iret (v := (-1)) hx hb hr0 (fun t ht hW => ⟨⟨(-1), (), rfl, rfl, by rw [ht]; exact hP, hD⟩, hS.F ht⟩) hS.2.2 dX1_tell_9
