theorem hd_X0_copyFrom : yX0_copyFrom.cls ≠ "java/lang/invoke/MethodHandle" ∧ yX0_copyFrom.cls ≠ "java/lang/invoke/VarHandle" ∧ (parseMethodDescriptor yX0_copyFrom.desc).map (fun d => d.parameters.length) = some 1 := by decide +kernel
def f_X0_copyFrom (v : EV) (w : EV) : Option (EV) :=
  some (w.1, (va_cpy w.2.1 v.2.1 0 0 12), (va_cpy w.2.2.1 v.2.2.1 0 0 12), (va_cpy w.2.2.2.1 v.2.2.2.1 0 0 12), (va_cpy w.2.2.2.2.1 v.2.2.2.2.1 0 0 12), (va_cpy w.2.2.2.2.2 v.2.2.2.2.2 0 0 12))
set_option maxHeartbeats 4000000 in
set_option maxRecDepth 100000 in
theorem c_X0_copyFrom (l : Launch) (g : zG) (a : Nat → Nat) (b : Nat → Nat) (v : EV) (w : EV) (r : EV) (hf : f_X0_copyFrom v w = some r) : zMv zNF zNM l yX0_copyFrom (zw yX0_copyFrom cX0_copyFrom 2 none) ({ frames := 1, cells := 0, slots := 0, locals := 40 } : Room) g [.ref (a 0), .ref (b 0)] (zX0 g a v ++ zX0 g b w) (zX0 g a r ++ zX0 g b w) := by
  intro sz
  refine Met.ofW (cc := cX0_copyFrom) (maxL := 2) (ret := none) (by decide) rfl ?_
  intro p e s m args below meth c s₁ B hml hv
  obtain ⟨rfl, hsz, hP, hK, hD0⟩ := hv
  have hx := B.exec
  have hb := B.bytes
  have hr0 := B.returns
  have hts := atoms_spec (ws := (zw yX0_copyFrom cX0_copyFrom 2 none)) B.pre
  have hw0 : ∀ w ∈ zW, w.before ([.ref (a 0), .ref (b 0)] : List Value).toArray s = true := fun w h => hts w (List.mem_cons_of_mem _ h)
  have hown : s.vm.findClass RX0 = some m.cls := findClass_of_methodNamed B.named
  have hlocks := B.notSynchronized
  subst hsz
  have hD := hD0.self (sz := s.heap.size)
  generalize hAe : va_A (zX0 g a v ++ zX0 g b w) s.heap.size = A at hD ⊢
  have hA : ∀ q : Nat, s.heap.size ≤ q → A q := fun q h => by rw [← hAe]; exact Or.inr h
  have hS : va_S A s.heap s.heap [] := va_S.rf
  unfold f_X0_copyFrom at hf
  have hl := lv_entry ([.ref (a 0), .ref (b 0)]) (n := 2) (Nat.le_of_ble_eq_true rfl)
  rw [lg_entry_eq]
  generalize (lg_sl ([.ref (a 0), .ref (b 0)]) ++ List.replicate (2 - (lg_sl ([.ref (a 0), .ref (b 0)])).length) Slot.unset).toArray = ls at hl ⊢
  have hl : lv_has ls 2 [(0, .ref (a 0)), (1, .ref (b 0))] := hl
  refine lv_aload_n hx hb dX0_copyFrom_0 rfl (lv_at hl 0 rfl) ?_
  refine lv_aload_n hx hb dX0_copyFrom_1 rfl (lv_at hl 1 rfl) ?_
  refine va_get (D := g.1) (ci := 0) (v := .int w.1) (C := RX0) (T := TX0) (N := 6) hx hb hw0 ziX0 hown hK.1 hP 6 rfl rfl 0 (by decide) (hw0 _ zm1_37) (fun _ h9 => h9) rfl dX0_copyFrom_2 ?_
  refine va_put (D := g.1) (ci := 0) (v := .int w.1) (ty := .int) (C := RX0) (T := TX0) (N := 6) hx hb hw0 ziX0 tyX0 tyX0_ok nmX0 hown hK.1 hP hD hS 0 rfl rfl 0 (by decide) (hw0 _ zm1_37) (fun _ h9 => h9) rfl (tyX0_ok 0 (by decide)) rfl rfl (Nat.le_of_ble_eq_true rfl) dX0_copyFrom_5 (fun H locs hP hD hS => ?_)
  have hP : va_P g.1 vwCl (zX0 g a (w.1, v.2.1, v.2.2.1, v.2.2.2.1, v.2.2.2.2.1, v.2.2.2.2.2) ++ zX0 g b w) H := hP
  have hD : va_D A (zX0 g a (w.1, v.2.1, v.2.2.1, v.2.2.2.1, v.2.2.2.2.1, v.2.2.2.2.2) ++ zX0 g b w) := hD
  refine lv_aload_n hx hb dX0_copyFrom_8 rfl (lv_at hl 1 rfl) ?_
  refine va_get (D := g.1) (ci := 0) (v := .ref (b 1)) (C := RX0) (T := TX0) (N := 6) hx hb hw0 ziX0 hown hK.1 hP 6 rfl rfl 1 (by decide) (hw0 _ zm1_40) (fun _ h9 => h9) rfl dX0_copyFrom_9 ?_
  refine lv_iconst (v := 0) hx hb dX0_copyFrom_12 (by decide) ?_
  refine lv_aload_n hx hb dX0_copyFrom_13 rfl (lv_at hl 0 rfl) ?_
  refine va_get (D := g.1) (ci := 0) (v := .ref (a 1)) (C := RX0) (T := TX0) (N := 6) hx hb hw0 ziX0 hown hK.1 hP 0 rfl rfl 1 (by decide) (hw0 _ zm1_40) (fun _ h9 => h9) rfl dX0_copyFrom_14 ?_
  refine lv_iconst (v := 0) hx hb dX0_copyFrom_17 (by decide) ?_
  refine lv_bipush (v := 12) hx hb dX0_copyFrom_18 (by decide) ?_
  refine va_copyi (D := g.1) (f := w.2.1) (g := v.2.1) hx hb (hml.trans hl.1.symm) hown (hw0 _ zm2_101) (hw0 _ zm2_103) (hw0 _ zm2_102) (hw0 _ zm1_14) hK.1 hP hD hS 7 1 0 0 rfl rfl rfl rfl rfl (by decide) (by decide) (by decide) (by decide) (by decide) (fun _ _ => rfl) (Nat.le_of_ble_eq_true rfl) (by decide) dX0_copyFrom_20 (fun H locs hP hD hS => ?_)
  have hP : va_P g.1 vwCl (zX0 g a (w.1, (va_cpy w.2.1 v.2.1 0 0 12), v.2.2.1, v.2.2.2.1, v.2.2.2.2.1, v.2.2.2.2.2) ++ zX0 g b w) H := hP
  have hD : va_D A (zX0 g a (w.1, (va_cpy w.2.1 v.2.1 0 0 12), v.2.2.1, v.2.2.2.1, v.2.2.2.2.1, v.2.2.2.2.2) ++ zX0 g b w) := hD
  refine lv_aload_n hx hb dX0_copyFrom_23 rfl (lv_at hl 1 rfl) ?_
  refine va_get (D := g.1) (ci := 0) (v := .ref (b 2)) (C := RX0) (T := TX0) (N := 6) hx hb hw0 ziX0 hown hK.1 hP 6 rfl rfl 2 (by decide) (hw0 _ zm1_43) (fun _ h9 => h9) rfl dX0_copyFrom_24 ?_
  refine lv_iconst (v := 0) hx hb dX0_copyFrom_27 (by decide) ?_
  refine lv_aload_n hx hb dX0_copyFrom_28 rfl (lv_at hl 0 rfl) ?_
  refine va_get (D := g.1) (ci := 0) (v := .ref (a 2)) (C := RX0) (T := TX0) (N := 6) hx hb hw0 ziX0 hown hK.1 hP 0 rfl rfl 2 (by decide) (hw0 _ zm1_43) (fun _ h9 => h9) rfl dX0_copyFrom_29 ?_
  refine lv_iconst (v := 0) hx hb dX0_copyFrom_32 (by decide) ?_
  refine lv_bipush (v := 12) hx hb dX0_copyFrom_33 (by decide) ?_
  refine va_copyi (D := g.1) (f := w.2.2.1) (g := v.2.2.1) hx hb (hml.trans hl.1.symm) hown (hw0 _ zm2_101) (hw0 _ zm2_103) (hw0 _ zm2_102) (hw0 _ zm1_14) hK.1 hP hD hS 8 2 0 0 rfl rfl rfl rfl rfl (by decide) (by decide) (by decide) (by decide) (by decide) (fun _ _ => rfl) (Nat.le_of_ble_eq_true rfl) (by decide) dX0_copyFrom_35 (fun H locs hP hD hS => ?_)
  have hP : va_P g.1 vwCl (zX0 g a (w.1, (va_cpy w.2.1 v.2.1 0 0 12), (va_cpy w.2.2.1 v.2.2.1 0 0 12), v.2.2.2.1, v.2.2.2.2.1, v.2.2.2.2.2) ++ zX0 g b w) H := hP
  have hD : va_D A (zX0 g a (w.1, (va_cpy w.2.1 v.2.1 0 0 12), (va_cpy w.2.2.1 v.2.2.1 0 0 12), v.2.2.2.1, v.2.2.2.2.1, v.2.2.2.2.2) ++ zX0 g b w) := hD
  refine lv_aload_n hx hb dX0_copyFrom_38 rfl (lv_at hl 1 rfl) ?_
  refine va_get (D := g.1) (ci := 0) (v := .ref (b 3)) (C := RX0) (T := TX0) (N := 6) hx hb hw0 ziX0 hown hK.1 hP 6 rfl rfl 3 (by decide) (hw0 _ zm1_44) (fun _ h9 => h9) rfl dX0_copyFrom_39 ?_
  refine lv_iconst (v := 0) hx hb dX0_copyFrom_42 (by decide) ?_
  refine lv_aload_n hx hb dX0_copyFrom_43 rfl (lv_at hl 0 rfl) ?_
  refine va_get (D := g.1) (ci := 0) (v := .ref (a 3)) (C := RX0) (T := TX0) (N := 6) hx hb hw0 ziX0 hown hK.1 hP 0 rfl rfl 3 (by decide) (hw0 _ zm1_44) (fun _ h9 => h9) rfl dX0_copyFrom_44 ?_
  refine lv_iconst (v := 0) hx hb dX0_copyFrom_47 (by decide) ?_
  refine lv_bipush (v := 12) hx hb dX0_copyFrom_48 (by decide) ?_
  refine va_copyi (D := g.1) (f := w.2.2.2.1) (g := v.2.2.2.1) hx hb (hml.trans hl.1.symm) hown (hw0 _ zm2_101) (hw0 _ zm2_103) (hw0 _ zm2_102) (hw0 _ zm1_14) hK.1 hP hD hS 9 3 0 0 rfl rfl rfl rfl rfl (by decide) (by decide) (by decide) (by decide) (by decide) (fun _ _ => rfl) (Nat.le_of_ble_eq_true rfl) (by decide) dX0_copyFrom_50 (fun H locs hP hD hS => ?_)
  have hP : va_P g.1 vwCl (zX0 g a (w.1, (va_cpy w.2.1 v.2.1 0 0 12), (va_cpy w.2.2.1 v.2.2.1 0 0 12), (va_cpy w.2.2.2.1 v.2.2.2.1 0 0 12), v.2.2.2.2.1, v.2.2.2.2.2) ++ zX0 g b w) H := hP
  have hD : va_D A (zX0 g a (w.1, (va_cpy w.2.1 v.2.1 0 0 12), (va_cpy w.2.2.1 v.2.2.1 0 0 12), (va_cpy w.2.2.2.1 v.2.2.2.1 0 0 12), v.2.2.2.2.1, v.2.2.2.2.2) ++ zX0 g b w) := hD
  refine lv_aload_n hx hb dX0_copyFrom_53 rfl (lv_at hl 1 rfl) ?_
  refine va_get (D := g.1) (ci := 0) (v := .ref (b 4)) (C := RX0) (T := TX0) (N := 6) hx hb hw0 ziX0 hown hK.1 hP 6 rfl rfl 4 (by decide) (hw0 _ zm1_45) (fun _ h9 => h9) rfl dX0_copyFrom_54 ?_
  refine lv_iconst (v := 0) hx hb dX0_copyFrom_57 (by decide) ?_
  refine lv_aload_n hx hb dX0_copyFrom_58 rfl (lv_at hl 0 rfl) ?_
  refine va_get (D := g.1) (ci := 0) (v := .ref (a 4)) (C := RX0) (T := TX0) (N := 6) hx hb hw0 ziX0 hown hK.1 hP 0 rfl rfl 4 (by decide) (hw0 _ zm1_45) (fun _ h9 => h9) rfl dX0_copyFrom_59 ?_
  refine lv_iconst (v := 0) hx hb dX0_copyFrom_62 (by decide) ?_
  refine lv_bipush (v := 12) hx hb dX0_copyFrom_63 (by decide) ?_
  refine va_copyi (D := g.1) (f := w.2.2.2.2.1) (g := v.2.2.2.2.1) hx hb (hml.trans hl.1.symm) hown (hw0 _ zm2_101) (hw0 _ zm2_103) (hw0 _ zm2_102) (hw0 _ zm1_14) hK.1 hP hD hS 10 4 0 0 rfl rfl rfl rfl rfl (by decide) (by decide) (by decide) (by decide) (by decide) (fun _ _ => rfl) (Nat.le_of_ble_eq_true rfl) (by decide) dX0_copyFrom_65 (fun H locs hP hD hS => ?_)
  have hP : va_P g.1 vwCl (zX0 g a (w.1, (va_cpy w.2.1 v.2.1 0 0 12), (va_cpy w.2.2.1 v.2.2.1 0 0 12), (va_cpy w.2.2.2.1 v.2.2.2.1 0 0 12), (va_cpy w.2.2.2.2.1 v.2.2.2.2.1 0 0 12), v.2.2.2.2.2) ++ zX0 g b w) H := hP
  have hD : va_D A (zX0 g a (w.1, (va_cpy w.2.1 v.2.1 0 0 12), (va_cpy w.2.2.1 v.2.2.1 0 0 12), (va_cpy w.2.2.2.1 v.2.2.2.1 0 0 12), (va_cpy w.2.2.2.2.1 v.2.2.2.2.1 0 0 12), v.2.2.2.2.2) ++ zX0 g b w) := hD
  refine lv_aload_n hx hb dX0_copyFrom_68 rfl (lv_at hl 1 rfl) ?_
  refine va_get (D := g.1) (ci := 0) (v := .ref (b 5)) (C := RX0) (T := TX0) (N := 6) hx hb hw0 ziX0 hown hK.1 hP 6 rfl rfl 5 (by decide) (hw0 _ zm1_47) (fun _ h9 => h9) rfl dX0_copyFrom_69 ?_
  refine lv_iconst (v := 0) hx hb dX0_copyFrom_72 (by decide) ?_
  refine lv_aload_n hx hb dX0_copyFrom_73 rfl (lv_at hl 0 rfl) ?_
  refine va_get (D := g.1) (ci := 0) (v := .ref (a 5)) (C := RX0) (T := TX0) (N := 6) hx hb hw0 ziX0 hown hK.1 hP 0 rfl rfl 5 (by decide) (hw0 _ zm1_47) (fun _ h9 => h9) rfl dX0_copyFrom_74 ?_
  refine lv_iconst (v := 0) hx hb dX0_copyFrom_77 (by decide) ?_
  refine lv_bipush (v := 12) hx hb dX0_copyFrom_78 (by decide) ?_
  refine va_copyi (D := g.1) (f := w.2.2.2.2.2) (g := v.2.2.2.2.2) hx hb (hml.trans hl.1.symm) hown (hw0 _ zm2_101) (hw0 _ zm2_103) (hw0 _ zm2_102) (hw0 _ zm1_14) hK.1 hP hD hS 11 5 0 0 rfl rfl rfl rfl rfl (by decide) (by decide) (by decide) (by decide) (by decide) (fun _ _ => rfl) (Nat.le_of_ble_eq_true rfl) (by decide) dX0_copyFrom_80 (fun H locs hP hD hS => ?_)
  have hP : va_P g.1 vwCl (zX0 g a (w.1, (va_cpy w.2.1 v.2.1 0 0 12), (va_cpy w.2.2.1 v.2.2.1 0 0 12), (va_cpy w.2.2.2.1 v.2.2.2.1 0 0 12), (va_cpy w.2.2.2.2.1 v.2.2.2.2.1 0 0 12), (va_cpy w.2.2.2.2.2 v.2.2.2.2.2 0 0 12)) ++ zX0 g b w) H := hP
  have hD : va_D A (zX0 g a (w.1, (va_cpy w.2.1 v.2.1 0 0 12), (va_cpy w.2.2.1 v.2.2.1 0 0 12), (va_cpy w.2.2.2.1 v.2.2.2.1 0 0 12), (va_cpy w.2.2.2.2.1 v.2.2.2.2.1 0 0 12), (va_cpy w.2.2.2.2.2 v.2.2.2.2.2 0 0 12)) ++ zX0 g b w) := hD
  have hR : (w.1, (va_cpy w.2.1 v.2.1 0 0 12), (va_cpy w.2.2.1 v.2.2.1 0 0 12), (va_cpy w.2.2.2.1 v.2.2.2.1 0 0 12), (va_cpy w.2.2.2.2.1 v.2.2.2.2.1 0 0 12), (va_cpy w.2.2.2.2.2 v.2.2.2.2.2 0 0 12)) = r := Option.some.inj hf
  subst hR
  exact W.vret hx hb hr0 (fun t ht hW => ⟨⟨(), rfl, trivial, by rw [ht]; exact hP, hD⟩, hS.F ht⟩) hS.2.2 dX0_copyFrom_83
theorem hd_X0_add : yX0_add.cls ≠ "java/lang/invoke/MethodHandle" ∧ yX0_add.cls ≠ "java/lang/invoke/VarHandle" ∧ (parseMethodDescriptor yX0_add.desc).map (fun d => d.parameters.length) = some 3 := by decide +kernel
def f_X0_add (v : EV) (p0 : Int32) (p1 : Int32) (p2 : Int32) : Option (EV) :=
  if v.1 < 12 then
    if zin v.1 12 = true then
    if zin v.1 12 = true then
    if zin v.1 12 = true then
    if zin v.1 12 = true then
    if zin v.1 12 = true then
    some ((v.1 + 1), (upd v.2.1 v.1.toNatClampNeg p0), (upd v.2.2.1 v.1.toNatClampNeg p1), (upd v.2.2.2.1 v.1.toNatClampNeg p2), (upd v.2.2.2.2.1 v.1.toNatClampNeg 0), (upd v.2.2.2.2.2 v.1.toNatClampNeg (-1)))
    else none
    else none
    else none
    else none
    else none
  else
    some v
set_option maxHeartbeats 4000000 in
set_option maxRecDepth 100000 in
theorem c_X0_add (l : Launch) (g : zG) (a : Nat → Nat) (v : EV) (p0 : Int32) (p1 : Int32) (p2 : Int32) (r : EV) (hf : f_X0_add v p0 p1 p2 = some r) : zMv zNF zNM l yX0_add (zw yX0_add cX0_add 4 none) ({ frames := 0, cells := 0, slots := 0, locals := 0 } : Room) g [.ref (a 0), .int p0, .int p1, .int p2] (zX0 g a v) (zX0 g a r) := by
  intro sz
  refine Met.ofW (cc := cX0_add) (maxL := 4) (ret := none) (by decide) rfl ?_
  intro p e s m args below meth c s₁ B hml hv
  obtain ⟨rfl, hsz, hP, hK, hD0⟩ := hv
  have hx := B.exec
  have hb := B.bytes
  have hr0 := B.returns
  have hts := atoms_spec (ws := (zw yX0_add cX0_add 4 none)) B.pre
  have hw0 : ∀ w ∈ zW, w.before ([.ref (a 0), .int p0, .int p1, .int p2] : List Value).toArray s = true := fun w h => hts w (List.mem_cons_of_mem _ h)
  have hown : s.vm.findClass RX0 = some m.cls := findClass_of_methodNamed B.named
  have hlocks := B.notSynchronized
  subst hsz
  have hD := hD0.self (sz := s.heap.size)
  generalize hAe : va_A (zX0 g a v) s.heap.size = A at hD ⊢
  have hA : ∀ q : Nat, s.heap.size ≤ q → A q := fun q h => by rw [← hAe]; exact Or.inr h
  have hS : va_S A s.heap s.heap [] := va_S.rf
  unfold f_X0_add at hf
  have hl := lv_entry ([.ref (a 0), .int p0, .int p1, .int p2]) (n := 4) (Nat.le_of_ble_eq_true rfl)
  rw [lg_entry_eq]
  generalize (lg_sl ([.ref (a 0), .int p0, .int p1, .int p2]) ++ List.replicate (4 - (lg_sl ([.ref (a 0), .int p0, .int p1, .int p2])).length) Slot.unset).toArray = ls at hl ⊢
  have hl : lv_has ls 4 [(0, .ref (a 0)), (1, .int p0), (2, .int p1), (3, .int p2)] := hl
  refine lv_aload_n hx hb dX0_add_0 rfl (lv_at hl 0 rfl) ?_
  refine va_get (D := g.1) (ci := 0) (v := .int v.1) (C := RX0) (T := TX0) (N := 6) hx hb hw0 ziX0 hown hK.1 hP 0 rfl rfl 0 (by decide) (hw0 _ zm1_37) (fun _ h9 => h9) rfl dX0_add_1 ?_
  refine lv_bipush (v := 12) hx hb dX0_add_4 (by decide) ?_
  refine lv_icmp_lt (tgt := 10) hx hb dX0_add_6 (by decide) (fun c1 => ?_) (fun c1 => ?_)
  · have hf := oi hf c1
    refine lv_aload_n hx hb dX0_add_10 rfl (lv_at hl 0 rfl) ?_
    refine va_get (D := g.1) (ci := 0) (v := .ref (a 1)) (C := RX0) (T := TX0) (N := 6) hx hb hw0 ziX0 hown hK.1 hP 0 rfl rfl 1 (by decide) (hw0 _ zm1_40) (fun _ h9 => h9) rfl dX0_add_11 ?_
    refine lv_aload_n hx hb dX0_add_14 rfl (lv_at hl 0 rfl) ?_
    refine va_get (D := g.1) (ci := 0) (v := .int v.1) (C := RX0) (T := TX0) (N := 6) hx hb hw0 ziX0 hown hK.1 hP 0 rfl rfl 0 (by decide) (hw0 _ zm1_37) (fun _ h9 => h9) rfl dX0_add_15 ?_
    refine lv_iload_n hx hb dX0_add_18 rfl (lv_at hl 1 rfl) ?_
    obtain ⟨h2, hf⟩ := og hf
    refine zast (D := g.1) (f := v.2.1) (k := v.1.toNatClampNeg) (x := p0) hx hb hK.1 hP hD hS 1 0 rfl rfl (zin_vp h2) rfl dX0_add_19 (fun H locs hP hD hS => ?_)
    have hP : va_P g.1 vwCl (zX0 g a (v.1, (upd v.2.1 v.1.toNatClampNeg p0), v.2.2.1, v.2.2.2.1, v.2.2.2.2.1, v.2.2.2.2.2)) H := hP
    have hD : va_D A (zX0 g a (v.1, (upd v.2.1 v.1.toNatClampNeg p0), v.2.2.1, v.2.2.2.1, v.2.2.2.2.1, v.2.2.2.2.2)) := hD
    refine lv_aload_n hx hb dX0_add_20 rfl (lv_at hl 0 rfl) ?_
    refine va_get (D := g.1) (ci := 0) (v := .ref (a 2)) (C := RX0) (T := TX0) (N := 6) hx hb hw0 ziX0 hown hK.1 hP 0 rfl rfl 2 (by decide) (hw0 _ zm1_43) (fun _ h9 => h9) rfl dX0_add_21 ?_
    refine lv_aload_n hx hb dX0_add_24 rfl (lv_at hl 0 rfl) ?_
    refine va_get (D := g.1) (ci := 0) (v := .int v.1) (C := RX0) (T := TX0) (N := 6) hx hb hw0 ziX0 hown hK.1 hP 0 rfl rfl 0 (by decide) (hw0 _ zm1_37) (fun _ h9 => h9) rfl dX0_add_25 ?_
    refine lv_iload_n hx hb dX0_add_28 rfl (lv_at hl 2 rfl) ?_
    obtain ⟨h3, hf⟩ := og hf
    refine zast (D := g.1) (f := v.2.2.1) (k := v.1.toNatClampNeg) (x := p1) hx hb hK.1 hP hD hS 2 0 rfl rfl (zin_vp h3) rfl dX0_add_29 (fun H locs hP hD hS => ?_)
    have hP : va_P g.1 vwCl (zX0 g a (v.1, (upd v.2.1 v.1.toNatClampNeg p0), (upd v.2.2.1 v.1.toNatClampNeg p1), v.2.2.2.1, v.2.2.2.2.1, v.2.2.2.2.2)) H := hP
    have hD : va_D A (zX0 g a (v.1, (upd v.2.1 v.1.toNatClampNeg p0), (upd v.2.2.1 v.1.toNatClampNeg p1), v.2.2.2.1, v.2.2.2.2.1, v.2.2.2.2.2)) := hD
    refine lv_aload_n hx hb dX0_add_30 rfl (lv_at hl 0 rfl) ?_
    refine va_get (D := g.1) (ci := 0) (v := .ref (a 3)) (C := RX0) (T := TX0) (N := 6) hx hb hw0 ziX0 hown hK.1 hP 0 rfl rfl 3 (by decide) (hw0 _ zm1_44) (fun _ h9 => h9) rfl dX0_add_31 ?_
    refine lv_aload_n hx hb dX0_add_34 rfl (lv_at hl 0 rfl) ?_
    refine va_get (D := g.1) (ci := 0) (v := .int v.1) (C := RX0) (T := TX0) (N := 6) hx hb hw0 ziX0 hown hK.1 hP 0 rfl rfl 0 (by decide) (hw0 _ zm1_37) (fun _ h9 => h9) rfl dX0_add_35 ?_
    refine lv_iload_n hx hb dX0_add_38 rfl (lv_at hl 3 rfl) ?_
    obtain ⟨h4, hf⟩ := og hf
    refine zast (D := g.1) (f := v.2.2.2.1) (k := v.1.toNatClampNeg) (x := p2) hx hb hK.1 hP hD hS 3 0 rfl rfl (zin_vp h4) rfl dX0_add_39 (fun H locs hP hD hS => ?_)
    have hP : va_P g.1 vwCl (zX0 g a (v.1, (upd v.2.1 v.1.toNatClampNeg p0), (upd v.2.2.1 v.1.toNatClampNeg p1), (upd v.2.2.2.1 v.1.toNatClampNeg p2), v.2.2.2.2.1, v.2.2.2.2.2)) H := hP
    have hD : va_D A (zX0 g a (v.1, (upd v.2.1 v.1.toNatClampNeg p0), (upd v.2.2.1 v.1.toNatClampNeg p1), (upd v.2.2.2.1 v.1.toNatClampNeg p2), v.2.2.2.2.1, v.2.2.2.2.2)) := hD
    refine lv_aload_n hx hb dX0_add_40 rfl (lv_at hl 0 rfl) ?_
    refine va_get (D := g.1) (ci := 0) (v := .ref (a 4)) (C := RX0) (T := TX0) (N := 6) hx hb hw0 ziX0 hown hK.1 hP 0 rfl rfl 4 (by decide) (hw0 _ zm1_45) (fun _ h9 => h9) rfl dX0_add_41 ?_
    refine lv_aload_n hx hb dX0_add_44 rfl (lv_at hl 0 rfl) ?_
    refine va_get (D := g.1) (ci := 0) (v := .int v.1) (C := RX0) (T := TX0) (N := 6) hx hb hw0 ziX0 hown hK.1 hP 0 rfl rfl 0 (by decide) (hw0 _ zm1_37) (fun _ h9 => h9) rfl dX0_add_45 ?_
    refine lv_iconst (v := 0) hx hb dX0_add_48 (by decide) ?_
    obtain ⟨h5, hf⟩ := og hf
    refine zast (D := g.1) (f := v.2.2.2.2.1) (k := v.1.toNatClampNeg) (x := 0) hx hb hK.1 hP hD hS 4 0 rfl rfl (zin_vp h5) rfl dX0_add_49 (fun H locs hP hD hS => ?_)
    have hP : va_P g.1 vwCl (zX0 g a (v.1, (upd v.2.1 v.1.toNatClampNeg p0), (upd v.2.2.1 v.1.toNatClampNeg p1), (upd v.2.2.2.1 v.1.toNatClampNeg p2), (upd v.2.2.2.2.1 v.1.toNatClampNeg 0), v.2.2.2.2.2)) H := hP
    have hD : va_D A (zX0 g a (v.1, (upd v.2.1 v.1.toNatClampNeg p0), (upd v.2.2.1 v.1.toNatClampNeg p1), (upd v.2.2.2.1 v.1.toNatClampNeg p2), (upd v.2.2.2.2.1 v.1.toNatClampNeg 0), v.2.2.2.2.2)) := hD
    refine lv_aload_n hx hb dX0_add_50 rfl (lv_at hl 0 rfl) ?_
    refine va_get (D := g.1) (ci := 0) (v := .ref (a 5)) (C := RX0) (T := TX0) (N := 6) hx hb hw0 ziX0 hown hK.1 hP 0 rfl rfl 5 (by decide) (hw0 _ zm1_47) (fun _ h9 => h9) rfl dX0_add_51 ?_
    refine lv_aload_n hx hb dX0_add_54 rfl (lv_at hl 0 rfl) ?_
    refine va_get (D := g.1) (ci := 0) (v := .int v.1) (C := RX0) (T := TX0) (N := 6) hx hb hw0 ziX0 hown hK.1 hP 0 rfl rfl 0 (by decide) (hw0 _ zm1_37) (fun _ h9 => h9) rfl dX0_add_55 ?_
    refine lv_iconst (v := (-1)) hx hb dX0_add_58 (by decide) ?_
    obtain ⟨h6, hf⟩ := og hf
    refine zast (D := g.1) (f := v.2.2.2.2.2) (k := v.1.toNatClampNeg) (x := (-1)) hx hb hK.1 hP hD hS 5 0 rfl rfl (zin_vp h6) rfl dX0_add_59 (fun H locs hP hD hS => ?_)
    have hP : va_P g.1 vwCl (zX0 g a (v.1, (upd v.2.1 v.1.toNatClampNeg p0), (upd v.2.2.1 v.1.toNatClampNeg p1), (upd v.2.2.2.1 v.1.toNatClampNeg p2), (upd v.2.2.2.2.1 v.1.toNatClampNeg 0), (upd v.2.2.2.2.2 v.1.toNatClampNeg (-1)))) H := hP
    have hD : va_D A (zX0 g a (v.1, (upd v.2.1 v.1.toNatClampNeg p0), (upd v.2.2.1 v.1.toNatClampNeg p1), (upd v.2.2.2.1 v.1.toNatClampNeg p2), (upd v.2.2.2.2.1 v.1.toNatClampNeg 0), (upd v.2.2.2.2.2 v.1.toNatClampNeg (-1)))) := hD
    refine lv_aload_n hx hb dX0_add_60 rfl (lv_at hl 0 rfl) ?_
    refine lv_dup hx hb dX0_add_61 rfl ?_
    refine va_get (D := g.1) (ci := 0) (v := .int v.1) (C := RX0) (T := TX0) (N := 6) hx hb hw0 ziX0 hown hK.1 hP 0 rfl rfl 0 (by decide) (hw0 _ zm1_37) (fun _ h9 => h9) rfl dX0_add_62 ?_
    refine lv_iconst (v := 1) hx hb dX0_add_65 (by decide) ?_
    refine lv_iadd hx hb dX0_add_66 ?_
    refine va_put (D := g.1) (ci := 0) (v := .int (v.1 + 1)) (ty := .int) (C := RX0) (T := TX0) (N := 6) hx hb hw0 ziX0 tyX0 tyX0_ok nmX0 hown hK.1 hP hD hS 0 rfl rfl 0 (by decide) (hw0 _ zm1_37) (fun _ h9 => h9) rfl (tyX0_ok 0 (by decide)) rfl rfl (Nat.le_of_ble_eq_true rfl) dX0_add_67 (fun H locs hP hD hS => ?_)
    have hP : va_P g.1 vwCl (zX0 g a ((v.1 + 1), (upd v.2.1 v.1.toNatClampNeg p0), (upd v.2.2.1 v.1.toNatClampNeg p1), (upd v.2.2.2.1 v.1.toNatClampNeg p2), (upd v.2.2.2.2.1 v.1.toNatClampNeg 0), (upd v.2.2.2.2.2 v.1.toNatClampNeg (-1)))) H := hP
    have hD : va_D A (zX0 g a ((v.1 + 1), (upd v.2.1 v.1.toNatClampNeg p0), (upd v.2.2.1 v.1.toNatClampNeg p1), (upd v.2.2.2.1 v.1.toNatClampNeg p2), (upd v.2.2.2.2.1 v.1.toNatClampNeg 0), (upd v.2.2.2.2.2 v.1.toNatClampNeg (-1)))) := hD
    have hR : ((v.1 + 1), (upd v.2.1 v.1.toNatClampNeg p0), (upd v.2.2.1 v.1.toNatClampNeg p1), (upd v.2.2.2.1 v.1.toNatClampNeg p2), (upd v.2.2.2.2.1 v.1.toNatClampNeg 0), (upd v.2.2.2.2.2 v.1.toNatClampNeg (-1))) = r := Option.some.inj hf
    subst hR
    exact W.vret hx hb hr0 (fun t ht hW => ⟨⟨(), rfl, trivial, by rw [ht]; exact hP, hD⟩, hS.F ht⟩) hS.2.2 dX0_add_70
  · have hf := oe hf c1
    have hR : v = r := Option.some.inj hf
    subst hR
    exact W.vret hx hb hr0 (fun t ht hW => ⟨⟨(), rfl, trivial, by rw [ht]; exact hP, hD⟩, hS.F ht⟩) hS.2.2 dX0_add_9
theorem hd_X0_allWait : yX0_allWait.cls ≠ "java/lang/invoke/MethodHandle" ∧ yX0_allWait.cls ≠ "java/lang/invoke/VarHandle" ∧ (parseMethodDescriptor yX0_allWait.desc).map (fun d => d.parameters.length) = some 0 := by decide +kernel
def s_X0_allWait_2 (v : EV) (x : Int32 × FF × FF) : Option ((Int32 × FF × FF) ⊕ (Int32 × FF × FF)) :=
  if v.1 ≤ x.1 then
    some (.inr (x.1, x.2.1, x.2.2))
  else
    if zin x.1 12 = true then
    if zin x.1 12 = true then
    some (.inl ((x.1 + 1), (upd x.2.1 x.1.toNatClampNeg 0), (upd x.2.2 x.1.toNatClampNeg (-1))))
    else none
    else none
def f_X0_allWait (v : EV) : Option (EV) :=
  (zloop (s_X0_allWait_2 v) 4096 (0, v.2.2.2.2.1, v.2.2.2.2.2)).bind (fun u4 =>
  some (v.1, v.2.1, v.2.2.1, v.2.2.2.1, u4.2.1, u4.2.2))
set_option maxHeartbeats 4000000 in
set_option maxRecDepth 100000 in
theorem c_X0_allWait (l : Launch) (g : zG) (a : Nat → Nat) (v : EV) (r : EV) (hf : f_X0_allWait v = some r) : zMv zNF zNM l yX0_allWait (zw yX0_allWait cX0_allWait 2 none) ({ frames := 0, cells := 0, slots := 0, locals := 0 } : Room) g [.ref (a 0)] (zX0 g a v) (zX0 g a r) := by
  intro sz
  refine Met.ofW (cc := cX0_allWait) (maxL := 2) (ret := none) (by decide) rfl ?_
  intro p e s m args below meth c s₁ B hml hv
  obtain ⟨rfl, hsz, hP, hK, hD0⟩ := hv
  have hx := B.exec
  have hb := B.bytes
  have hr0 := B.returns
  have hts := atoms_spec (ws := (zw yX0_allWait cX0_allWait 2 none)) B.pre
  have hw0 : ∀ w ∈ zW, w.before ([.ref (a 0)] : List Value).toArray s = true := fun w h => hts w (List.mem_cons_of_mem _ h)
  have hown : s.vm.findClass RX0 = some m.cls := findClass_of_methodNamed B.named
  have hlocks := B.notSynchronized
  subst hsz
  have hD := hD0.self (sz := s.heap.size)
  generalize hAe : va_A (zX0 g a v) s.heap.size = A at hD ⊢
  have hA : ∀ q : Nat, s.heap.size ≤ q → A q := fun q h => by rw [← hAe]; exact Or.inr h
  have hS : va_S A s.heap s.heap [] := va_S.rf
  have lp2 : ∀ (v : EV), ∀ (n : Nat) (x : Int32 × FF × FF) (rr : Int32 × FF × FF), zloop (s_X0_allWait_2 v) n x = some rr → (∀ (H : Heap) (locs : List Loc), va_P g.1 vwCl (zX0 g a (v.1, v.2.1, v.2.2.1, v.2.2.2.1, rr.2.1, rr.2.2)) H → va_D A (zX0 g a (v.1, v.2.1, v.2.2.1, v.2.2.2.1, rr.2.1, rr.2.2)) → va_S A s.heap H locs → ∀ ls : Array Slot, lv_has ls 2 [] → W p l e (headSpec (zw yX0_allWait cX0_allWait 2 none) ({ frames := 0, cells := 0, slots := 0, locals := 0 } : Room)).room s m ([.ref (a 0)] : List Value).toArray below meth c H locs 0 0 (MQ below (va_Qv (fun (_ : Unit) => True) (fun _ => zEnd g A (zX0 g a r)) A) ([.ref (a 0)] : List Value).toArray s 0 0 A) (F0 m 30 ls [])) → ∀ (H : Heap) (locs : List Loc), va_P g.1 vwCl (zX0 g a (v.1, v.2.1, v.2.2.1, v.2.2.2.1, x.2.1, x.2.2)) H → va_D A (zX0 g a (v.1, v.2.1, v.2.2.1, v.2.2.2.1, x.2.1, x.2.2)) → va_S A s.heap H locs → ∀ ls : Array Slot, lv_has ls 2 [(0, .ref (a 0)), (1, .int x.1)] → W p l e (headSpec (zw yX0_allWait cX0_allWait 2 none) ({ frames := 0, cells := 0, slots := 0, locals := 0 } : Room)).room s m ([.ref (a 0)] : List Value).toArray below meth c H locs 0 0 (MQ below (va_Qv (fun (_ : Unit) => True) (fun _ => zEnd g A (zX0 g a r)) A) ([.ref (a 0)] : List Value).toArray s 0 0 A) (F0 m 2 ls []) := by
    intro v
    refine zloop_ind ?_
    intro x y rr hf ih hr hQ H locs hP hD hS ls hl
    unfold s_X0_allWait_2 at hf
    refine lv_iload_n hx hb dX0_allWait_2 rfl (lv_at hl 1 rfl) ?_
    refine lv_aload_n hx hb dX0_allWait_3 rfl (lv_at hl 0 rfl) ?_
    refine va_get (D := g.1) (ci := 0) (v := .int v.1) (C := RX0) (T := TX0) (N := 6) hx hb hw0 ziX0 hown hK.1 hP 0 rfl rfl 0 (by decide) (hw0 _ zm1_37) (fun _ h9 => h9) rfl dX0_allWait_4 ?_
    refine lv_icmp_ge (tgt := 30) hx hb dX0_allWait_7 (by decide) (fun c1 => ?_) (fun c1 => ?_)
    · have hf := oi hf c1
      have hR : (x.1, x.2.1, x.2.2) = rr := hr _ (Option.some.inj hf).symm
      subst hR
      exact hQ _ _ hP hD hS _ (lv_sub hl [] rfl)
    · have hf := oe hf c1
      refine lv_aload_n hx hb dX0_allWait_10 rfl (lv_at hl 0 rfl) ?_
      refine va_get (D := g.1) (ci := 0) (v := .ref (a 4)) (C := RX0) (T := TX0) (N := 6) hx hb hw0 ziX0 hown hK.1 hP 0 rfl rfl 4 (by decide) (hw0 _ zm1_45) (fun _ h9 => h9) rfl dX0_allWait_11 ?_
      refine lv_iload_n hx hb dX0_allWait_14 rfl (lv_at hl 1 rfl) ?_
      refine lv_iconst (v := 0) hx hb dX0_allWait_15 (by decide) ?_
      obtain ⟨h2, hf⟩ := og hf
      refine zast (D := g.1) (f := x.2.1) (k := x.1.toNatClampNeg) (x := 0) hx hb hK.1 hP hD hS 4 0 rfl rfl (zin_vp h2) rfl dX0_allWait_16 (fun H locs hP hD hS => ?_)
      have hP : va_P g.1 vwCl (zX0 g a (v.1, v.2.1, v.2.2.1, v.2.2.2.1, (upd x.2.1 x.1.toNatClampNeg 0), x.2.2)) H := hP
      have hD : va_D A (zX0 g a (v.1, v.2.1, v.2.2.1, v.2.2.2.1, (upd x.2.1 x.1.toNatClampNeg 0), x.2.2)) := hD
      refine lv_aload_n hx hb dX0_allWait_17 rfl (lv_at hl 0 rfl) ?_
      refine va_get (D := g.1) (ci := 0) (v := .ref (a 5)) (C := RX0) (T := TX0) (N := 6) hx hb hw0 ziX0 hown hK.1 hP 0 rfl rfl 5 (by decide) (hw0 _ zm1_47) (fun _ h9 => h9) rfl dX0_allWait_18 ?_
      refine lv_iload_n hx hb dX0_allWait_21 rfl (lv_at hl 1 rfl) ?_
      refine lv_iconst (v := (-1)) hx hb dX0_allWait_22 (by decide) ?_
      obtain ⟨h3, hf⟩ := og hf
      refine zast (D := g.1) (f := x.2.2) (k := x.1.toNatClampNeg) (x := (-1)) hx hb hK.1 hP hD hS 5 0 rfl rfl (zin_vp h3) rfl dX0_allWait_23 (fun H locs hP hD hS => ?_)
      have hP : va_P g.1 vwCl (zX0 g a (v.1, v.2.1, v.2.2.1, v.2.2.2.1, (upd x.2.1 x.1.toNatClampNeg 0), (upd x.2.2 x.1.toNatClampNeg (-1)))) H := hP
      have hD : va_D A (zX0 g a (v.1, v.2.1, v.2.2.1, v.2.2.2.1, (upd x.2.1 x.1.toNatClampNeg 0), (upd x.2.2 x.1.toNatClampNeg (-1)))) := hD
      refine lv_iinc (v := (x.1 + 1)) (lv' := [(1, .int (x.1 + 1)), (0, .ref (a 0))]) hx hb dX0_allWait_24 hl (k := 1) rfl rfl (by decide) rfl (fun ls hl => ?_)
      refine lv_goto (tgt := 2) hx hb dX0_allWait_27 (by decide) ?_
      exact ih ((x.1 + 1), (upd x.2.1 x.1.toNatClampNeg 0), (upd x.2.2 x.1.toNatClampNeg (-1))) (Option.some.inj hf).symm hQ _ _ hP hD hS _ (lv_sub hl [1, 0] rfl)
  unfold f_X0_allWait at hf
  have hl := lv_entry ([.ref (a 0)]) (n := 2) (Nat.le_of_ble_eq_true rfl)
  rw [lg_entry_eq]
  generalize (lg_sl ([.ref (a 0)]) ++ List.replicate (2 - (lg_sl ([.ref (a 0)])).length) Slot.unset).toArray = ls at hl ⊢
  have hl : lv_has ls 2 [(0, .ref (a 0))] := hl
  refine lv_iconst (v := 0) hx hb dX0_allWait_0 (by decide) ?_
  refine lv_istore_n (lv' := [(1, .int 0), (0, .ref (a 0))]) hx hb dX0_allWait_1 rfl hl (by decide) rfl (fun ls hl => ?_)
  obtain ⟨u4, hu4, hf⟩ := ob hf
  refine lp2 v _ _ u4 hu4 (fun H locs hP hD hS ls hl => ?_) _ _ hP hD hS _ (lv_sub hl [1, 0] rfl)
  have hl : lv_has ls 2 [] := hl
  have hP : va_P g.1 vwCl (zX0 g a (v.1, v.2.1, v.2.2.1, v.2.2.2.1, u4.2.1, u4.2.2)) H := hP
  have hD : va_D A (zX0 g a (v.1, v.2.1, v.2.2.1, v.2.2.2.1, u4.2.1, u4.2.2)) := hD
  have hR : (v.1, v.2.1, v.2.2.1, v.2.2.2.1, u4.2.1, u4.2.2) = r := Option.some.inj hf
  subst hR
  exact W.vret hx hb hr0 (fun t ht hW => ⟨⟨(), rfl, trivial, by rw [ht]; exact hP, hD⟩, hS.F ht⟩) hS.2.2 dX0_allWait_30
theorem hd_X0_has : yX0_has.cls ≠ "java/lang/invoke/MethodHandle" ∧ yX0_has.cls ≠ "java/lang/invoke/VarHandle" ∧ (parseMethodDescriptor yX0_has.desc).map (fun d => d.parameters.length) = some 1 := by decide +kernel
def f_X0_has (v : EV) (p0 : Int32) : Option (Bool) :=
  if p0 < 0 then
    some false
  else
    if v.1 ≤ p0 then
      some false
    else
      some true
set_option maxHeartbeats 4000000 in
set_option maxRecDepth 100000 in
theorem c_X0_has (l : Launch) (g : zG) (a : Nat → Nat) (v : EV) (p0 : Int32) (r : Bool) (hf : f_X0_has v p0 = some r) : zMi zNF zNM l yX0_has (zw yX0_has cX0_has 2 (some .boolean)) ({ frames := 0, cells := 0, slots := 0, locals := 0 } : Room) g [.ref (a 0), .int p0] (zX0 g a v) (zb r) (zX0 g a v) := by
  intro sz
  refine Met.ofW (cc := cX0_has) (maxL := 2) (ret := (some .boolean)) (by decide) rfl ?_
  intro p e s m args below meth c s₁ B hml hv
  obtain ⟨rfl, hsz, hP, hK, hD0⟩ := hv
  have hx := B.exec
  have hb := B.bytes
  have hr0 := B.returns
  have hts := atoms_spec (ws := (zw yX0_has cX0_has 2 (some .boolean))) B.pre
  have hw0 : ∀ w ∈ zW, w.before ([.ref (a 0), .int p0] : List Value).toArray s = true := fun w h => hts w (List.mem_cons_of_mem _ h)
  have hown : s.vm.findClass RX0 = some m.cls := findClass_of_methodNamed B.named
  have hlocks := B.notSynchronized
  subst hsz
  have hD := hD0.self (sz := s.heap.size)
  generalize hAe : va_A (zX0 g a v) s.heap.size = A at hD ⊢
  have hA : ∀ q : Nat, s.heap.size ≤ q → A q := fun q h => by rw [← hAe]; exact Or.inr h
  have hS : va_S A s.heap s.heap [] := va_S.rf
  unfold f_X0_has at hf
  have hl := lv_entry ([.ref (a 0), .int p0]) (n := 2) (Nat.le_of_ble_eq_true rfl)
  rw [lg_entry_eq]
  generalize (lg_sl ([.ref (a 0), .int p0]) ++ List.replicate (2 - (lg_sl ([.ref (a 0), .int p0])).length) Slot.unset).toArray = ls at hl ⊢
  have hl : lv_has ls 2 [(0, .ref (a 0)), (1, .int p0)] := hl
  refine lv_iload_n hx hb dX0_has_0 rfl (lv_at hl 1 rfl) ?_
  refine lv_if_lt (tgt := 16) hx hb dX0_has_1 (by decide) (fun c1 => ?_) (fun c1 => ?_)
  · have hf := oi hf c1
    refine lv_iconst (v := 0) hx hb dX0_has_16 (by decide) ?_
    have hR : false = r := Option.some.inj hf
    subst hR
    exact W.zret (v := zb false) hx hb hr0 (zb_nar false) (fun t ht hW => ⟨⟨zb false, (), rfl, rfl, by rw [ht]; exact hP, hD⟩, hS.F ht⟩) hS.2.2 dX0_has_17
  · have hf := oe hf c1
    refine lv_iload_n hx hb dX0_has_4 rfl (lv_at hl 1 rfl) ?_
    refine lv_aload_n hx hb dX0_has_5 rfl (lv_at hl 0 rfl) ?_
    refine va_get (D := g.1) (ci := 0) (v := .int v.1) (C := RX0) (T := TX0) (N := 6) hx hb hw0 ziX0 hown hK.1 hP 0 rfl rfl 0 (by decide) (hw0 _ zm1_37) (fun _ h9 => h9) rfl dX0_has_6 ?_
    refine lv_icmp_ge (tgt := 16) hx hb dX0_has_9 (by decide) (fun c2 => ?_) (fun c2 => ?_)
    · have hf := oi hf c2
      refine lv_iconst (v := 0) hx hb dX0_has_16 (by decide) ?_
      have hR : false = r := Option.some.inj hf
      subst hR
      exact W.zret (v := zb false) hx hb hr0 (zb_nar false) (fun t ht hW => ⟨⟨zb false, (), rfl, rfl, by rw [ht]; exact hP, hD⟩, hS.F ht⟩) hS.2.2 dX0_has_17
    · have hf := oe hf c2
      refine lv_iconst (v := 1) hx hb dX0_has_12 (by decide) ?_
      refine lv_goto (tgt := 17) hx hb dX0_has_13 (by decide) ?_
      have hR : true = r := Option.some.inj hf
      subst hR
      exact W.zret (v := zb true) hx hb hr0 (zb_nar true) (fun t ht hW => ⟨⟨zb true, (), rfl, rfl, by rw [ht]; exact hP, hD⟩, hS.F ht⟩) hS.2.2 dX0_has_17
theorem hd_X0_is : yX0_is.cls ≠ "java/lang/invoke/MethodHandle" ∧ yX0_is.cls ≠ "java/lang/invoke/VarHandle" ∧ (parseMethodDescriptor yX0_is.desc).map (fun d => d.parameters.length) = some 2 := by decide +kernel
def f_X0_is (v : EV) (p0 : Int32) (p1 : Int32) : Option (Bool) :=
  (f_X0_has v p0).bind (fun u1 =>
  if (zb u1) = 0 then
    some false
  else
    if zin p0 12 = true then
    if (v.2.2.2.2.1 p0.toNatClampNeg) = p1 then
      some true
    else
      some false
    else none)
set_option maxHeartbeats 4000000 in
set_option maxRecDepth 100000 in
theorem c_X0_is (l : Launch) (g : zG) (a : Nat → Nat) (v : EV) (p0 : Int32) (p1 : Int32) (r : Bool) (hf : f_X0_is v p0 p1 = some r) : zMi zNF zNM l yX0_is (zw yX0_is cX0_is 3 (some .boolean)) ({ frames := 1, cells := 0, slots := 0, locals := 21 } : Room) g [.ref (a 0), .int p0, .int p1] (zX0 g a v) (zb r) (zX0 g a v) := by
  intro sz
  refine Met.ofW (cc := cX0_is) (maxL := 3) (ret := (some .boolean)) (by decide) rfl ?_
  intro p e s m args below meth c s₁ B hml hv
  obtain ⟨rfl, hsz, hP, hK, hD0⟩ := hv
  have hx := B.exec
  have hb := B.bytes
  have hr0 := B.returns
  have hts := atoms_spec (ws := (zw yX0_is cX0_is 3 (some .boolean))) B.pre
  have hw0 : ∀ w ∈ zW, w.before ([.ref (a 0), .int p0, .int p1] : List Value).toArray s = true := fun w h => hts w (List.mem_cons_of_mem _ h)
  have hown : s.vm.findClass RX0 = some m.cls := findClass_of_methodNamed B.named
  have hlocks := B.notSynchronized
  subst hsz
  have hD := hD0.self (sz := s.heap.size)
  generalize hAe : va_A (zX0 g a v) s.heap.size = A at hD ⊢
  have hA : ∀ q : Nat, s.heap.size ≤ q → A q := fun q h => by rw [← hAe]; exact Or.inr h
  have hS : va_S A s.heap s.heap [] := va_S.rf
  unfold f_X0_is at hf
  have hl := lv_entry ([.ref (a 0), .int p0, .int p1]) (n := 3) (Nat.le_of_ble_eq_true rfl)
  rw [lg_entry_eq]
  generalize (lg_sl ([.ref (a 0), .int p0, .int p1]) ++ List.replicate (3 - (lg_sl ([.ref (a 0), .int p0, .int p1])).length) Slot.unset).toArray = ls at hl ⊢
  have hl : lv_has ls 3 [(0, .ref (a 0)), (1, .int p0), (2, .int p1)] := hl
  refine lv_aload_n hx hb dX0_is_0 rfl (lv_at hl 0 rfl) ?_
  refine lv_iload_n hx hb dX0_is_1 rfl (lv_at hl 1 rfl) ?_
  obtain ⟨u1, hu1, hf⟩ := ob hf
  refine zk_iA (va_runV (As := [.int p0]) (rest := []) ⟨hx, hb, hml, hown, hts⟩ (c_X0_has l g a v p0 _ hu1 _) (zcV hw0 zm2_169 zm2_143 zm1_3 zm2_142 zs1_9 hd_X0_has rfl rfl ⟨Nat.le_of_ble_eq_true rfl, Nat.le_of_ble_eq_true rfl⟩) ⟨zblind, zrecvA hK hP (ci := 0) rfl rfl, zpreA hK hP hD⟩ rfl rfl hl.1 rfl (lv_room (Nat.le_of_ble_eq_true rfl)) dX0_is_2 ⟨Nat.zero_le _, Nat.zero_le _⟩) hP hD hS hA (fun H locs hP hD hS => ?_)
  refine lv_if_eq (tgt := 22) hx hb dX0_is_5 (by decide) (fun c2 => ?_) (fun c2 => ?_)
  · have hf := oi hf c2
    refine lv_iconst (v := 0) hx hb dX0_is_22 (by decide) ?_
    have hR : false = r := Option.some.inj hf
    subst hR
    exact W.zret (v := zb false) hx hb hr0 (zb_nar false) (fun t ht hW => ⟨⟨zb false, (), rfl, rfl, by rw [ht]; exact hP, hD⟩, hS.F ht⟩) hS.2.2 dX0_is_23
  · have hf := oe hf c2
    refine lv_aload_n hx hb dX0_is_8 rfl (lv_at hl 0 rfl) ?_
    refine va_get (D := g.1) (ci := 0) (v := .ref (a 4)) (C := RX0) (T := TX0) (N := 6) hx hb hw0 ziX0 hown hK.1 hP 0 rfl rfl 4 (by decide) (hw0 _ zm1_45) (fun _ h9 => h9) rfl dX0_is_9 ?_
    refine lv_iload_n hx hb dX0_is_12 rfl (lv_at hl 1 rfl) ?_
    obtain ⟨h3, hf⟩ := og hf
    refine zald (D := g.1) (f := v.2.2.2.2.1) (k := p0.toNatClampNeg) hx hb hK.1 hP 4 0 rfl rfl (zin_vp h3) rfl dX0_is_13 ?_
    refine lv_iload_n hx hb dX0_is_14 rfl (lv_at hl 2 rfl) ?_
    refine lv_icmp_ne (tgt := 22) hx hb dX0_is_15 (by decide) (fun c4 => ?_) (fun c4 => ?_)
    · have hf := oe hf c4
      refine lv_iconst (v := 0) hx hb dX0_is_22 (by decide) ?_
      have hR : false = r := Option.some.inj hf
      subst hR
      exact W.zret (v := zb false) hx hb hr0 (zb_nar false) (fun t ht hW => ⟨⟨zb false, (), rfl, rfl, by rw [ht]; exact hP, hD⟩, hS.F ht⟩) hS.2.2 dX0_is_23
    · have hf := oi hf c4
      refine lv_iconst (v := 1) hx hb dX0_is_18 (by decide) ?_
      refine lv_goto (tgt := 23) hx hb dX0_is_19 (by decide) ?_
      have hR : true = r := Option.some.inj hf
      subst hR
      exact W.zret (v := zb true) hx hb hr0 (zb_nar true) (fun t ht hW => ⟨⟨zb true, (), rfl, rfl, by rw [ht]; exact hP, hD⟩, hS.F ht⟩) hS.2.2 dX0_is_23
theorem hd_X0_waits : yX0_waits.cls ≠ "java/lang/invoke/MethodHandle" ∧ yX0_waits.cls ≠ "java/lang/invoke/VarHandle" ∧ (parseMethodDescriptor yX0_waits.desc).map (fun d => d.parameters.length) = some 1 := by decide +kernel
def f_X0_waits (v : EV) (p0 : Int32) : Option (Bool) :=
  (f_X0_is v p0 0).bind (fun u1 =>
  some u1)
set_option maxHeartbeats 4000000 in
set_option maxRecDepth 100000 in
theorem c_X0_waits (l : Launch) (g : zG) (a : Nat → Nat) (v : EV) (p0 : Int32) (r : Bool) (hf : f_X0_waits v p0 = some r) : zMi zNF zNM l yX0_waits (zw yX0_waits cX0_waits 2 (some .boolean)) ({ frames := 2, cells := 0, slots := 0, locals := 43 } : Room) g [.ref (a 0), .int p0] (zX0 g a v) (zb r) (zX0 g a v) := by
  intro sz
  refine Met.ofW (cc := cX0_waits) (maxL := 2) (ret := (some .boolean)) (by decide) rfl ?_
  intro p e s m args below meth c s₁ B hml hv
  obtain ⟨rfl, hsz, hP, hK, hD0⟩ := hv
  have hx := B.exec
  have hb := B.bytes
  have hr0 := B.returns
  have hts := atoms_spec (ws := (zw yX0_waits cX0_waits 2 (some .boolean))) B.pre
  have hw0 : ∀ w ∈ zW, w.before ([.ref (a 0), .int p0] : List Value).toArray s = true := fun w h => hts w (List.mem_cons_of_mem _ h)
  have hown : s.vm.findClass RX0 = some m.cls := findClass_of_methodNamed B.named
  have hlocks := B.notSynchronized
  subst hsz
  have hD := hD0.self (sz := s.heap.size)
  generalize hAe : va_A (zX0 g a v) s.heap.size = A at hD ⊢
  have hA : ∀ q : Nat, s.heap.size ≤ q → A q := fun q h => by rw [← hAe]; exact Or.inr h
  have hS : va_S A s.heap s.heap [] := va_S.rf
  unfold f_X0_waits at hf
  have hl := lv_entry ([.ref (a 0), .int p0]) (n := 2) (Nat.le_of_ble_eq_true rfl)
  rw [lg_entry_eq]
  generalize (lg_sl ([.ref (a 0), .int p0]) ++ List.replicate (2 - (lg_sl ([.ref (a 0), .int p0])).length) Slot.unset).toArray = ls at hl ⊢
  have hl : lv_has ls 2 [(0, .ref (a 0)), (1, .int p0)] := hl
  refine lv_aload_n hx hb dX0_waits_0 rfl (lv_at hl 0 rfl) ?_
  refine lv_iload_n hx hb dX0_waits_1 rfl (lv_at hl 1 rfl) ?_
  refine lv_iconst (v := 0) hx hb dX0_waits_2 (by decide) ?_
  obtain ⟨u1, hu1, hf⟩ := ob hf
  refine zk_iA (va_runV (As := [.int p0, .int 0]) (rest := []) ⟨hx, hb, hml, hown, hts⟩ (c_X0_is l g a v p0 0 _ hu1 _) (zcV hw0 zm2_178 zm2_168 zm1_3 zm2_167 zs1_11 hd_X0_is rfl rfl ⟨Nat.le_of_ble_eq_true rfl, Nat.le_of_ble_eq_true rfl⟩) ⟨zblind, zrecvA hK hP (ci := 0) rfl rfl, zpreA hK hP hD⟩ rfl rfl hl.1 rfl (lv_room (Nat.le_of_ble_eq_true rfl)) dX0_waits_3 ⟨Nat.zero_le _, Nat.zero_le _⟩) hP hD hS hA (fun H locs hP hD hS => ?_)
  have hR : u1 = r := Option.some.inj hf
  subst hR
  exact W.zret (v := zb u1) hx hb hr0 (zb_nar u1) (fun t ht hW => ⟨⟨zb u1, (), rfl, rfl, by rw [ht]; exact hP, hD⟩, hS.F ht⟩) hS.2.2 dX0_waits_6
theorem hd_X0_isFixed : yX0_isFixed.cls ≠ "java/lang/invoke/MethodHandle" ∧ yX0_isFixed.cls ≠ "java/lang/invoke/VarHandle" ∧ (parseMethodDescriptor yX0_isFixed.desc).map (fun d => d.parameters.length) = some 1 := by decide +kernel
def f_X0_isFixed (v : EV) (p0 : Int32) : Option (Bool) :=
  (f_X0_has v p0).bind (fun u1 =>
  if (zb u1) = 0 then
    some false
  else
    if zin p0 12 = true then
    if (v.2.2.1 p0.toNatClampNeg) = (-1) then
      some false
    else
      some true
    else none)
set_option maxHeartbeats 4000000 in
set_option maxRecDepth 100000 in
theorem c_X0_isFixed (l : Launch) (g : zG) (a : Nat → Nat) (v : EV) (p0 : Int32) (r : Bool) (hf : f_X0_isFixed v p0 = some r) : zMi zNF zNM l yX0_isFixed (zw yX0_isFixed cX0_isFixed 2 (some .boolean)) ({ frames := 1, cells := 0, slots := 0, locals := 21 } : Room) g [.ref (a 0), .int p0] (zX0 g a v) (zb r) (zX0 g a v) := by
  intro sz
  refine Met.ofW (cc := cX0_isFixed) (maxL := 2) (ret := (some .boolean)) (by decide) rfl ?_
  intro p e s m args below meth c s₁ B hml hv
  obtain ⟨rfl, hsz, hP, hK, hD0⟩ := hv
  have hx := B.exec
  have hb := B.bytes
  have hr0 := B.returns
  have hts := atoms_spec (ws := (zw yX0_isFixed cX0_isFixed 2 (some .boolean))) B.pre
  have hw0 : ∀ w ∈ zW, w.before ([.ref (a 0), .int p0] : List Value).toArray s = true := fun w h => hts w (List.mem_cons_of_mem _ h)
  have hown : s.vm.findClass RX0 = some m.cls := findClass_of_methodNamed B.named
  have hlocks := B.notSynchronized
  subst hsz
  have hD := hD0.self (sz := s.heap.size)
  generalize hAe : va_A (zX0 g a v) s.heap.size = A at hD ⊢
  have hA : ∀ q : Nat, s.heap.size ≤ q → A q := fun q h => by rw [← hAe]; exact Or.inr h
  have hS : va_S A s.heap s.heap [] := va_S.rf
  unfold f_X0_isFixed at hf
  have hl := lv_entry ([.ref (a 0), .int p0]) (n := 2) (Nat.le_of_ble_eq_true rfl)
  rw [lg_entry_eq]
  generalize (lg_sl ([.ref (a 0), .int p0]) ++ List.replicate (2 - (lg_sl ([.ref (a 0), .int p0])).length) Slot.unset).toArray = ls at hl ⊢
  have hl : lv_has ls 2 [(0, .ref (a 0)), (1, .int p0)] := hl
  refine lv_aload_n hx hb dX0_isFixed_0 rfl (lv_at hl 0 rfl) ?_
  refine lv_iload_n hx hb dX0_isFixed_1 rfl (lv_at hl 1 rfl) ?_
  obtain ⟨u1, hu1, hf⟩ := ob hf
  refine zk_iA (va_runV (As := [.int p0]) (rest := []) ⟨hx, hb, hml, hown, hts⟩ (c_X0_has l g a v p0 _ hu1 _) (zcV hw0 zm2_169 zm2_143 zm1_3 zm2_142 zs1_9 hd_X0_has rfl rfl ⟨Nat.le_of_ble_eq_true rfl, Nat.le_of_ble_eq_true rfl⟩) ⟨zblind, zrecvA hK hP (ci := 0) rfl rfl, zpreA hK hP hD⟩ rfl rfl hl.1 rfl (lv_room (Nat.le_of_ble_eq_true rfl)) dX0_isFixed_2 ⟨Nat.zero_le _, Nat.zero_le _⟩) hP hD hS hA (fun H locs hP hD hS => ?_)
  refine lv_if_eq (tgt := 22) hx hb dX0_isFixed_5 (by decide) (fun c2 => ?_) (fun c2 => ?_)
  · have hf := oi hf c2
    refine lv_iconst (v := 0) hx hb dX0_isFixed_22 (by decide) ?_
    have hR : false = r := Option.some.inj hf
    subst hR
    exact W.zret (v := zb false) hx hb hr0 (zb_nar false) (fun t ht hW => ⟨⟨zb false, (), rfl, rfl, by rw [ht]; exact hP, hD⟩, hS.F ht⟩) hS.2.2 dX0_isFixed_23
  · have hf := oe hf c2
    refine lv_aload_n hx hb dX0_isFixed_8 rfl (lv_at hl 0 rfl) ?_
    refine va_get (D := g.1) (ci := 0) (v := .ref (a 2)) (C := RX0) (T := TX0) (N := 6) hx hb hw0 ziX0 hown hK.1 hP 0 rfl rfl 2 (by decide) (hw0 _ zm1_43) (fun _ h9 => h9) rfl dX0_isFixed_9 ?_
    refine lv_iload_n hx hb dX0_isFixed_12 rfl (lv_at hl 1 rfl) ?_
    obtain ⟨h3, hf⟩ := og hf
    refine zald (D := g.1) (f := v.2.2.1) (k := p0.toNatClampNeg) hx hb hK.1 hP 2 0 rfl rfl (zin_vp h3) rfl dX0_isFixed_13 ?_
    refine lv_iconst (v := (-1)) hx hb dX0_isFixed_14 (by decide) ?_
    refine lv_icmp_eq (tgt := 22) hx hb dX0_isFixed_15 (by decide) (fun c4 => ?_) (fun c4 => ?_)
    · have hf := oi hf c4
      refine lv_iconst (v := 0) hx hb dX0_isFixed_22 (by decide) ?_
      have hR : false = r := Option.some.inj hf
      subst hR
      exact W.zret (v := zb false) hx hb hr0 (zb_nar false) (fun t ht hW => ⟨⟨zb false, (), rfl, rfl, by rw [ht]; exact hP, hD⟩, hS.F ht⟩) hS.2.2 dX0_isFixed_23
    · have hf := oe hf c4
      refine lv_iconst (v := 1) hx hb dX0_isFixed_18 (by decide) ?_
      refine lv_goto (tgt := 23) hx hb dX0_isFixed_19 (by decide) ?_
      have hR : true = r := Option.some.inj hf
      subst hR
      exact W.zret (v := zb true) hx hb hr0 (zb_nar true) (fun t ht hW => ⟨⟨zb true, (), rfl, rfl, by rw [ht]; exact hP, hD⟩, hS.F ht⟩) hS.2.2 dX0_isFixed_23
theorem hd_X0_begunAt : yX0_begunAt.cls ≠ "java/lang/invoke/MethodHandle" ∧ yX0_begunAt.cls ≠ "java/lang/invoke/VarHandle" ∧ (parseMethodDescriptor yX0_begunAt.desc).map (fun d => d.parameters.length) = some 1 := by decide +kernel
def f_X0_begunAt (v : EV) (p0 : Int32) : Option (Int32) :=
  (f_X0_has v p0).bind (fun u1 =>
  if (zb u1) = 0 then
    some (-1)
  else
    if zin p0 12 = true then
    some (v.2.2.2.2.2 p0.toNatClampNeg)
    else none)
set_option maxHeartbeats 4000000 in
set_option maxRecDepth 100000 in
theorem c_X0_begunAt (l : Launch) (g : zG) (a : Nat → Nat) (v : EV) (p0 : Int32) (r : Int32) (hf : f_X0_begunAt v p0 = some r) : zMi zNF zNM l yX0_begunAt (zw yX0_begunAt cX0_begunAt 2 (some .int)) ({ frames := 1, cells := 0, slots := 0, locals := 21 } : Room) g [.ref (a 0), .int p0] (zX0 g a v) r (zX0 g a v) := by
  intro sz
  refine Met.ofW (cc := cX0_begunAt) (maxL := 2) (ret := (some .int)) (by decide) rfl ?_
  intro p e s m args below meth c s₁ B hml hv
  obtain ⟨rfl, hsz, hP, hK, hD0⟩ := hv
  have hx := B.exec
  have hb := B.bytes
  have hr0 := B.returns
  have hts := atoms_spec (ws := (zw yX0_begunAt cX0_begunAt 2 (some .int))) B.pre
  have hw0 : ∀ w ∈ zW, w.before ([.ref (a 0), .int p0] : List Value).toArray s = true := fun w h => hts w (List.mem_cons_of_mem _ h)
  have hown : s.vm.findClass RX0 = some m.cls := findClass_of_methodNamed B.named
  have hlocks := B.notSynchronized
  subst hsz
  have hD := hD0.self (sz := s.heap.size)
  generalize hAe : va_A (zX0 g a v) s.heap.size = A at hD ⊢
  have hA : ∀ q : Nat, s.heap.size ≤ q → A q := fun q h => by rw [← hAe]; exact Or.inr h
  have hS : va_S A s.heap s.heap [] := va_S.rf
  unfold f_X0_begunAt at hf
  have hl := lv_entry ([.ref (a 0), .int p0]) (n := 2) (Nat.le_of_ble_eq_true rfl)
  rw [lg_entry_eq]
  generalize (lg_sl ([.ref (a 0), .int p0]) ++ List.replicate (2 - (lg_sl ([.ref (a 0), .int p0])).length) Slot.unset).toArray = ls at hl ⊢
  have hl : lv_has ls 2 [(0, .ref (a 0)), (1, .int p0)] := hl
  refine lv_aload_n hx hb dX0_begunAt_0 rfl (lv_at hl 0 rfl) ?_
  refine lv_iload_n hx hb dX0_begunAt_1 rfl (lv_at hl 1 rfl) ?_
  obtain ⟨u1, hu1, hf⟩ := ob hf
  refine zk_iA (va_runV (As := [.int p0]) (rest := []) ⟨hx, hb, hml, hown, hts⟩ (c_X0_has l g a v p0 _ hu1 _) (zcV hw0 zm2_169 zm2_143 zm1_3 zm2_142 zs1_9 hd_X0_has rfl rfl ⟨Nat.le_of_ble_eq_true rfl, Nat.le_of_ble_eq_true rfl⟩) ⟨zblind, zrecvA hK hP (ci := 0) rfl rfl, zpreA hK hP hD⟩ rfl rfl hl.1 rfl (lv_room (Nat.le_of_ble_eq_true rfl)) dX0_begunAt_2 ⟨Nat.zero_le _, Nat.zero_le _⟩) hP hD hS hA (fun H locs hP hD hS => ?_)
  refine lv_if_eq (tgt := 17) hx hb dX0_begunAt_5 (by decide) (fun c2 => ?_) (fun c2 => ?_)
  · have hf := oi hf c2
    refine lv_iconst (v := (-1)) hx hb dX0_begunAt_17 (by decide) ?_
    have hR : (-1) = r := Option.some.inj hf
    subst hR
    exact W.iret (v := (-1)) hx hb hr0 (fun t ht hW => ⟨⟨(-1), (), rfl, rfl, by rw [ht]; exact hP, hD⟩, hS.F ht⟩) hS.2.2 dX0_begunAt_18
  · have hf := oe hf c2
    refine lv_aload_n hx hb dX0_begunAt_8 rfl (lv_at hl 0 rfl) ?_
    refine va_get (D := g.1) (ci := 0) (v := .ref (a 5)) (C := RX0) (T := TX0) (N := 6) hx hb hw0 ziX0 hown hK.1 hP 0 rfl rfl 5 (by decide) (hw0 _ zm1_47) (fun _ h9 => h9) rfl dX0_begunAt_9 ?_
    refine lv_iload_n hx hb dX0_begunAt_12 rfl (lv_at hl 1 rfl) ?_
    obtain ⟨h3, hf⟩ := og hf
    refine zald (D := g.1) (f := v.2.2.2.2.2) (k := p0.toNatClampNeg) hx hb hK.1 hP 5 0 rfl rfl (zin_vp h3) rfl dX0_begunAt_13 ?_
    refine lv_goto (tgt := 18) hx hb dX0_begunAt_14 (by decide) ?_
    have hR : (v.2.2.2.2.2 p0.toNatClampNeg) = r := Option.some.inj hf
    subst hR
    exact W.iret (v := (v.2.2.2.2.2 p0.toNatClampNeg)) hx hb hr0 (fun t ht hW => ⟨⟨(v.2.2.2.2.2 p0.toNatClampNeg), (), rfl, rfl, by rw [ht]; exact hP, hD⟩, hS.F ht⟩) hS.2.2 dX0_begunAt_18
theorem hd_X0_lateness : yX0_lateness.cls ≠ "java/lang/invoke/MethodHandle" ∧ yX0_lateness.cls ≠ "java/lang/invoke/VarHandle" ∧ (parseMethodDescriptor yX0_lateness.desc).map (fun d => d.parameters.length) = some 1 := by decide +kernel
def f_X0_lateness (v : EV) (p0 : Int32) : Option (Int32) :=
  (f_X0_isFixed v p0).bind (fun u1 =>
  if (zb u1) = 0 then
    some (-1)
  else
    if zin p0 12 = true then
    if (v.2.2.2.2.2 p0.toNatClampNeg) = (-1) then
      some (-1)
    else
      if zin p0 12 = true then
      if zin p0 12 = true then
      some ((v.2.2.2.2.2 p0.toNatClampNeg) - (v.2.2.1 p0.toNatClampNeg))
      else none
      else none
    else none)
set_option maxHeartbeats 4000000 in
set_option maxRecDepth 100000 in
theorem c_X0_lateness (l : Launch) (g : zG) (a : Nat → Nat) (v : EV) (p0 : Int32) (r : Int32) (hf : f_X0_lateness v p0 = some r) : zMi zNF zNM l yX0_lateness (zw yX0_lateness cX0_lateness 2 (some .int)) ({ frames := 2, cells := 0, slots := 0, locals := 42 } : Room) g [.ref (a 0), .int p0] (zX0 g a v) r (zX0 g a v) := by
  intro sz
  refine Met.ofW (cc := cX0_lateness) (maxL := 2) (ret := (some .int)) (by decide) rfl ?_
  intro p e s m args below meth c s₁ B hml hv
  obtain ⟨rfl, hsz, hP, hK, hD0⟩ := hv
  have hx := B.exec
  have hb := B.bytes
  have hr0 := B.returns
  have hts := atoms_spec (ws := (zw yX0_lateness cX0_lateness 2 (some .int))) B.pre
  have hw0 : ∀ w ∈ zW, w.before ([.ref (a 0), .int p0] : List Value).toArray s = true := fun w h => hts w (List.mem_cons_of_mem _ h)
  have hown : s.vm.findClass RX0 = some m.cls := findClass_of_methodNamed B.named
  have hlocks := B.notSynchronized
  subst hsz
  have hD := hD0.self (sz := s.heap.size)
  generalize hAe : va_A (zX0 g a v) s.heap.size = A at hD ⊢
  have hA : ∀ q : Nat, s.heap.size ≤ q → A q := fun q h => by rw [← hAe]; exact Or.inr h
  have hS : va_S A s.heap s.heap [] := va_S.rf
  unfold f_X0_lateness at hf
  have hl := lv_entry ([.ref (a 0), .int p0]) (n := 2) (Nat.le_of_ble_eq_true rfl)
  rw [lg_entry_eq]
  generalize (lg_sl ([.ref (a 0), .int p0]) ++ List.replicate (2 - (lg_sl ([.ref (a 0), .int p0])).length) Slot.unset).toArray = ls at hl ⊢
  have hl : lv_has ls 2 [(0, .ref (a 0)), (1, .int p0)] := hl
  refine lv_aload_n hx hb dX0_lateness_0 rfl (lv_at hl 0 rfl) ?_
  refine lv_iload_n hx hb dX0_lateness_1 rfl (lv_at hl 1 rfl) ?_
  obtain ⟨u1, hu1, hf⟩ := ob hf
  refine zk_iA (va_runV (As := [.int p0]) (rest := []) ⟨hx, hb, hml, hown, hts⟩ (c_X0_isFixed l g a v p0 _ hu1 _) (zcV hw0 zm3_94 zm3_60 zm1_3 zm3_59 zs3_2 hd_X0_isFixed rfl rfl ⟨Nat.le_of_ble_eq_true rfl, Nat.le_of_ble_eq_true rfl⟩) ⟨zblind, zrecvA hK hP (ci := 0) rfl rfl, zpreA hK hP hD⟩ rfl rfl hl.1 rfl (lv_room (Nat.le_of_ble_eq_true rfl)) dX0_lateness_2 ⟨Nat.zero_le _, Nat.zero_le _⟩) hP hD hS hA (fun H locs hP hD hS => ?_)
  refine lv_if_eq (tgt := 34) hx hb dX0_lateness_5 (by decide) (fun c2 => ?_) (fun c2 => ?_)
  · have hf := oi hf c2
    refine lv_iconst (v := (-1)) hx hb dX0_lateness_34 (by decide) ?_
    have hR : (-1) = r := Option.some.inj hf
    subst hR
    exact W.iret (v := (-1)) hx hb hr0 (fun t ht hW => ⟨⟨(-1), (), rfl, rfl, by rw [ht]; exact hP, hD⟩, hS.F ht⟩) hS.2.2 dX0_lateness_35
  · have hf := oe hf c2
    refine lv_aload_n hx hb dX0_lateness_8 rfl (lv_at hl 0 rfl) ?_
    refine va_get (D := g.1) (ci := 0) (v := .ref (a 5)) (C := RX0) (T := TX0) (N := 6) hx hb hw0 ziX0 hown hK.1 hP 0 rfl rfl 5 (by decide) (hw0 _ zm1_47) (fun _ h9 => h9) rfl dX0_lateness_9 ?_
    refine lv_iload_n hx hb dX0_lateness_12 rfl (lv_at hl 1 rfl) ?_
    obtain ⟨h3, hf⟩ := og hf
    refine zald (D := g.1) (f := v.2.2.2.2.2) (k := p0.toNatClampNeg) hx hb hK.1 hP 5 0 rfl rfl (zin_vp h3) rfl dX0_lateness_13 ?_
    refine lv_iconst (v := (-1)) hx hb dX0_lateness_14 (by decide) ?_
    refine lv_icmp_eq (tgt := 34) hx hb dX0_lateness_15 (by decide) (fun c4 => ?_) (fun c4 => ?_)
    · have hf := oi hf c4
      refine lv_iconst (v := (-1)) hx hb dX0_lateness_34 (by decide) ?_
      have hR : (-1) = r := Option.some.inj hf
      subst hR
      exact W.iret (v := (-1)) hx hb hr0 (fun t ht hW => ⟨⟨(-1), (), rfl, rfl, by rw [ht]; exact hP, hD⟩, hS.F ht⟩) hS.2.2 dX0_lateness_35
    · have hf := oe hf c4
      refine lv_aload_n hx hb dX0_lateness_18 rfl (lv_at hl 0 rfl) ?_
      refine va_get (D := g.1) (ci := 0) (v := .ref (a 5)) (C := RX0) (T := TX0) (N := 6) hx hb hw0 ziX0 hown hK.1 hP 0 rfl rfl 5 (by decide) (hw0 _ zm1_47) (fun _ h9 => h9) rfl dX0_lateness_19 ?_
      refine lv_iload_n hx hb dX0_lateness_22 rfl (lv_at hl 1 rfl) ?_
      obtain ⟨h5, hf⟩ := og hf
      refine zald (D := g.1) (f := v.2.2.2.2.2) (k := p0.toNatClampNeg) hx hb hK.1 hP 5 0 rfl rfl (zin_vp h5) rfl dX0_lateness_23 ?_
      refine lv_aload_n hx hb dX0_lateness_24 rfl (lv_at hl 0 rfl) ?_
      refine va_get (D := g.1) (ci := 0) (v := .ref (a 2)) (C := RX0) (T := TX0) (N := 6) hx hb hw0 ziX0 hown hK.1 hP 0 rfl rfl 2 (by decide) (hw0 _ zm1_43) (fun _ h9 => h9) rfl dX0_lateness_25 ?_
      refine lv_iload_n hx hb dX0_lateness_28 rfl (lv_at hl 1 rfl) ?_
      obtain ⟨h6, hf⟩ := og hf
      refine zald (D := g.1) (f := v.2.2.1) (k := p0.toNatClampNeg) hx hb hK.1 hP 2 0 rfl rfl (zin_vp h6) rfl dX0_lateness_29 ?_
      refine lv_isub hx hb dX0_lateness_30 ?_
      refine lv_goto (tgt := 35) hx hb dX0_lateness_31 (by decide) ?_
      have hR : ((v.2.2.2.2.2 p0.toNatClampNeg) - (v.2.2.1 p0.toNatClampNeg)) = r := Option.some.inj hf
      subst hR
      exact W.iret (v := ((v.2.2.2.2.2 p0.toNatClampNeg) - (v.2.2.1 p0.toNatClampNeg))) hx hb hr0 (fun t ht hW => ⟨⟨((v.2.2.2.2.2 p0.toNatClampNeg) - (v.2.2.1 p0.toNatClampNeg)), (), rfl, rfl, by rw [ht]; exact hP, hD⟩, hS.F ht⟩) hS.2.2 dX0_lateness_35
theorem hd_X0_countThatAre : yX0_countThatAre.cls ≠ "java/lang/invoke/MethodHandle" ∧ yX0_countThatAre.cls ≠ "java/lang/invoke/VarHandle" ∧ (parseMethodDescriptor yX0_countThatAre.desc).map (fun d => d.parameters.length) = some 1 := by decide +kernel
def s_X0_countThatAre_4 (v : EV) (i1 : Int32) (x : Int32 × Int32) : Option ((Int32 × Int32) ⊕ (Int32 × Int32)) :=
  if v.1 ≤ x.2 then
    some (.inr (x.1, x.2))
  else
    if zin x.2 12 = true then
    if (v.2.2.2.2.1 x.2.toNatClampNeg) = i1 then
      some (.inl ((x.1 + 1), (x.2 + 1)))
    else
      some (.inl (x.1, (x.2 + 1)))
    else none
def f_X0_countThatAre (v : EV) (p0 : Int32) : Option (Int32) :=
  (zloop (s_X0_countThatAre_4 v p0) 4096 (0, 0)).bind (fun u4 =>
  some u4.1)
set_option maxHeartbeats 4000000 in
set_option maxRecDepth 100000 in
theorem c_X0_countThatAre (l : Launch) (g : zG) (a : Nat → Nat) (v : EV) (p0 : Int32) (r : Int32) (hf : f_X0_countThatAre v p0 = some r) : zMi zNF zNM l yX0_countThatAre (zw yX0_countThatAre cX0_countThatAre 4 (some .int)) ({ frames := 0, cells := 0, slots := 0, locals := 0 } : Room) g [.ref (a 0), .int p0] (zX0 g a v) r (zX0 g a v) := by
  intro sz
  refine Met.ofW (cc := cX0_countThatAre) (maxL := 4) (ret := (some .int)) (by decide) rfl ?_
  intro p e s m args below meth c s₁ B hml hv
  obtain ⟨rfl, hsz, hP, hK, hD0⟩ := hv
  have hx := B.exec
  have hb := B.bytes
  have hr0 := B.returns
  have hts := atoms_spec (ws := (zw yX0_countThatAre cX0_countThatAre 4 (some .int))) B.pre
  have hw0 : ∀ w ∈ zW, w.before ([.ref (a 0), .int p0] : List Value).toArray s = true := fun w h => hts w (List.mem_cons_of_mem _ h)
  have hown : s.vm.findClass RX0 = some m.cls := findClass_of_methodNamed B.named
  have hlocks := B.notSynchronized
  subst hsz
  have hD := hD0.self (sz := s.heap.size)
  generalize hAe : va_A (zX0 g a v) s.heap.size = A at hD ⊢
  have hA : ∀ q : Nat, s.heap.size ≤ q → A q := fun q h => by rw [← hAe]; exact Or.inr h
  have hS : va_S A s.heap s.heap [] := va_S.rf
  have lp4 : ∀ (v : EV) (i1 : Int32), ∀ (n : Nat) (x : Int32 × Int32) (rr : Int32 × Int32), zloop (s_X0_countThatAre_4 v i1) n x = some rr → (∀ (H : Heap) (locs : List Loc), va_P g.1 vwCl (zX0 g a v) H → va_D A (zX0 g a v) → va_S A s.heap H locs → ∀ ls : Array Slot, lv_has ls 4 [(2, .int rr.1)] → W p l e (headSpec (zw yX0_countThatAre cX0_countThatAre 4 (some .int)) ({ frames := 0, cells := 0, slots := 0, locals := 0 } : Room)).room s m ([.ref (a 0), .int p0] : List Value).toArray below meth c H locs 0 0 (MQ below (va_Qi (fun (x : Int32) (_ : Unit) => x = r) (fun _ => zEnd g A (zX0 g a v)) A) ([.ref (a 0), .int p0] : List Value).toArray s 0 0 A) (F0 m 31 ls [])) → ∀ (H : Heap) (locs : List Loc), va_P g.1 vwCl (zX0 g a v) H → va_D A (zX0 g a v) → va_S A s.heap H locs → ∀ ls : Array Slot, lv_has ls 4 [(0, .ref (a 0)), (1, .int i1), (2, .int x.1), (3, .int x.2)] → W p l e (headSpec (zw yX0_countThatAre cX0_countThatAre 4 (some .int)) ({ frames := 0, cells := 0, slots := 0, locals := 0 } : Room)).room s m ([.ref (a 0), .int p0] : List Value).toArray below meth c H locs 0 0 (MQ below (va_Qi (fun (x : Int32) (_ : Unit) => x = r) (fun _ => zEnd g A (zX0 g a v)) A) ([.ref (a 0), .int p0] : List Value).toArray s 0 0 A) (F0 m 4 ls []) := by
    intro v i1
    refine zloop_ind ?_
    intro x y rr hf ih hr hQ H locs hP hD hS ls hl
    unfold s_X0_countThatAre_4 at hf
    refine lv_iload_n hx hb dX0_countThatAre_4 rfl (lv_at hl 3 rfl) ?_
    refine lv_aload_n hx hb dX0_countThatAre_5 rfl (lv_at hl 0 rfl) ?_
    refine va_get (D := g.1) (ci := 0) (v := .int v.1) (C := RX0) (T := TX0) (N := 6) hx hb hw0 ziX0 hown hK.1 hP 0 rfl rfl 0 (by decide) (hw0 _ zm1_37) (fun _ h9 => h9) rfl dX0_countThatAre_6 ?_
    refine lv_icmp_ge (tgt := 31) hx hb dX0_countThatAre_9 (by decide) (fun c1 => ?_) (fun c1 => ?_)
    · have hf := oi hf c1
      have hR : (x.1, x.2) = rr := hr _ (Option.some.inj hf).symm
      subst hR
      exact hQ _ _ hP hD hS _ (lv_sub hl [2] rfl)
    · have hf := oe hf c1
      refine lv_aload_n hx hb dX0_countThatAre_12 rfl (lv_at hl 0 rfl) ?_
      refine va_get (D := g.1) (ci := 0) (v := .ref (a 4)) (C := RX0) (T := TX0) (N := 6) hx hb hw0 ziX0 hown hK.1 hP 0 rfl rfl 4 (by decide) (hw0 _ zm1_45) (fun _ h9 => h9) rfl dX0_countThatAre_13 ?_
      refine lv_iload_n hx hb dX0_countThatAre_16 rfl (lv_at hl 3 rfl) ?_
      obtain ⟨h2, hf⟩ := og hf
      refine zald (D := g.1) (f := v.2.2.2.2.1) (k := x.2.toNatClampNeg) hx hb hK.1 hP 4 0 rfl rfl (zin_vp h2) rfl dX0_countThatAre_17 ?_
      refine lv_iload_n hx hb dX0_countThatAre_18 rfl (lv_at hl 1 rfl) ?_
      refine lv_icmp_ne (tgt := 25) hx hb dX0_countThatAre_19 (by decide) (fun c3 => ?_) (fun c3 => ?_)
      · have hf := oe hf c3
        refine lv_iinc (v := (x.2 + 1)) (lv' := [(3, .int (x.2 + 1)), (0, .ref (a 0)), (1, .int i1), (2, .int x.1)]) hx hb dX0_countThatAre_25 hl (k := 3) rfl rfl (by decide) rfl (fun ls hl => ?_)
        refine lv_goto (tgt := 4) hx hb dX0_countThatAre_28 (by decide) ?_
        exact ih (x.1, (x.2 + 1)) (Option.some.inj hf).symm hQ _ _ hP hD hS _ (lv_sub hl [1, 2, 3, 0] rfl)
      · have hf := oi hf c3
        refine lv_iinc (v := (x.1 + 1)) (lv' := [(2, .int (x.1 + 1)), (0, .ref (a 0)), (1, .int i1), (3, .int x.2)]) hx hb dX0_countThatAre_22 hl (k := 2) rfl rfl (by decide) rfl (fun ls hl => ?_)
        refine lv_iinc (v := (x.2 + 1)) (lv' := [(3, .int (x.2 + 1)), (2, .int (x.1 + 1)), (0, .ref (a 0)), (1, .int i1)]) hx hb dX0_countThatAre_25 hl (k := 3) rfl rfl (by decide) rfl (fun ls hl => ?_)
        refine lv_goto (tgt := 4) hx hb dX0_countThatAre_28 (by decide) ?_
        exact ih ((x.1 + 1), (x.2 + 1)) (Option.some.inj hf).symm hQ _ _ hP hD hS _ (lv_sub hl [2, 3, 1, 0] rfl)
  unfold f_X0_countThatAre at hf
  have hl := lv_entry ([.ref (a 0), .int p0]) (n := 4) (Nat.le_of_ble_eq_true rfl)
  rw [lg_entry_eq]
  generalize (lg_sl ([.ref (a 0), .int p0]) ++ List.replicate (4 - (lg_sl ([.ref (a 0), .int p0])).length) Slot.unset).toArray = ls at hl ⊢
  have hl : lv_has ls 4 [(0, .ref (a 0)), (1, .int p0)] := hl
  refine lv_iconst (v := 0) hx hb dX0_countThatAre_0 (by decide) ?_
  refine lv_istore_n (lv' := [(2, .int 0), (0, .ref (a 0)), (1, .int p0)]) hx hb dX0_countThatAre_1 rfl hl (by decide) rfl (fun ls hl => ?_)
  refine lv_iconst (v := 0) hx hb dX0_countThatAre_2 (by decide) ?_
  refine lv_istore_n (lv' := [(3, .int 0), (2, .int 0), (0, .ref (a 0)), (1, .int p0)]) hx hb dX0_countThatAre_3 rfl hl (by decide) rfl (fun ls hl => ?_)
  obtain ⟨u4, hu4, hf⟩ := ob hf
  refine lp4 v p0 _ _ u4 hu4 (fun H locs hP hD hS ls hl => ?_) _ _ hP hD hS _ (lv_sub hl [2, 3, 1, 0] rfl)
  have hl : lv_has ls 4 [(2, .int u4.1)] := hl
  have hP : va_P g.1 vwCl (zX0 g a v) H := hP
  have hD : va_D A (zX0 g a v) := hD
  refine lv_iload_n hx hb dX0_countThatAre_31 rfl (lv_at hl 0 rfl) ?_
  have hR : u4.1 = r := Option.some.inj hf
  subst hR
  exact W.iret (v := u4.1) hx hb hr0 (fun t ht hW => ⟨⟨u4.1, (), rfl, rfl, by rw [ht]; exact hP, hD⟩, hS.F ht⟩) hS.2.2 dX0_countThatAre_32
theorem hd_X0_nextFixed : yX0_nextFixed.cls ≠ "java/lang/invoke/MethodHandle" ∧ yX0_nextFixed.cls ≠ "java/lang/invoke/VarHandle" ∧ (parseMethodDescriptor yX0_nextFixed.desc).map (fun d => d.parameters.length) = some 1 := by decide +kernel
def s_X0_nextFixed_10 (v : EV) (x : Int32) : Option ((Int32) ⊕ (Int32)) :=
  if v.1 ≤ x then
    some (.inr v.1)
  else
    if zin x 12 = true then
    if (v.2.2.2.2.1 x.toNatClampNeg) = 0 then
      if zin x 12 = true then
      if (v.2.2.1 x.toNatClampNeg) = (-1) then
        some (.inl (x + 1))
      else
        some (.inr x)
      else none
    else
      some (.inl (x + 1))
    else none
def f_X0_nextFixed (v : EV) (p0 : Int32) : Option (Int32) :=
  if 0 ≤ p0 then
    zloop (s_X0_nextFixed_10 v) 4096 p0
  else
    zloop (s_X0_nextFixed_10 v) 4096 0
set_option maxHeartbeats 4000000 in
set_option maxRecDepth 100000 in
theorem c_X0_nextFixed (l : Launch) (g : zG) (a : Nat → Nat) (v : EV) (p0 : Int32) (r : Int32) (hf : f_X0_nextFixed v p0 = some r) : zMi zNF zNM l yX0_nextFixed (zw yX0_nextFixed cX0_nextFixed 3 (some .int)) ({ frames := 0, cells := 0, slots := 0, locals := 0 } : Room) g [.ref (a 0), .int p0] (zX0 g a v) r (zX0 g a v) := by
  intro sz
  refine Met.ofW (cc := cX0_nextFixed) (maxL := 3) (ret := (some .int)) (by decide) rfl ?_
  intro p e s m args below meth c s₁ B hml hv
  obtain ⟨rfl, hsz, hP, hK, hD0⟩ := hv
  have hx := B.exec
  have hb := B.bytes
  have hr0 := B.returns
  have hts := atoms_spec (ws := (zw yX0_nextFixed cX0_nextFixed 3 (some .int))) B.pre
  have hw0 : ∀ w ∈ zW, w.before ([.ref (a 0), .int p0] : List Value).toArray s = true := fun w h => hts w (List.mem_cons_of_mem _ h)
  have hown : s.vm.findClass RX0 = some m.cls := findClass_of_methodNamed B.named
  have hlocks := B.notSynchronized
  subst hsz
  have hD := hD0.self (sz := s.heap.size)
  generalize hAe : va_A (zX0 g a v) s.heap.size = A at hD ⊢
  have hA : ∀ q : Nat, s.heap.size ≤ q → A q := fun q h => by rw [← hAe]; exact Or.inr h
  have hS : va_S A s.heap s.heap [] := va_S.rf
  have lp10 : ∀ (v : EV), ∀ (n : Nat) (x : Int32) (rr : Int32), zloop (s_X0_nextFixed_10 v) n x = some rr → rr = r → ∀ (H : Heap) (locs : List Loc), va_P g.1 vwCl (zX0 g a v) H → va_D A (zX0 g a v) → va_S A s.heap H locs → ∀ ls : Array Slot, lv_has ls 3 [(0, .ref (a 0)), (2, .int x)] → W p l e (headSpec (zw yX0_nextFixed cX0_nextFixed 3 (some .int)) ({ frames := 0, cells := 0, slots := 0, locals := 0 } : Room)).room s m ([.ref (a 0), .int p0] : List Value).toArray below meth c H locs 0 0 (MQ below (va_Qi (fun (x : Int32) (_ : Unit) => x = r) (fun _ => zEnd g A (zX0 g a v)) A) ([.ref (a 0), .int p0] : List Value).toArray s 0 0 A) (F0 m 10 ls []) := by
    intro v
    refine zloop_ind ?_
    intro x y rr hf ih hr he H locs hP hD hS ls hl
    unfold s_X0_nextFixed_10 at hf
    refine lv_iload_n hx hb dX0_nextFixed_10 rfl (lv_at hl 1 rfl) ?_
    refine lv_aload_n hx hb dX0_nextFixed_11 rfl (lv_at hl 0 rfl) ?_
    refine va_get (D := g.1) (ci := 0) (v := .int v.1) (C := RX0) (T := TX0) (N := 6) hx hb hw0 ziX0 hown hK.1 hP 0 rfl rfl 0 (by decide) (hw0 _ zm1_37) (fun _ h9 => h9) rfl dX0_nextFixed_12 ?_
    refine lv_icmp_ge (tgt := 45) hx hb dX0_nextFixed_15 (by decide) (fun c2 => ?_) (fun c2 => ?_)
    · have hf := oi hf c2
      refine lv_aload_n hx hb dX0_nextFixed_45 rfl (lv_at hl 0 rfl) ?_
      refine va_get (D := g.1) (ci := 0) (v := .int v.1) (C := RX0) (T := TX0) (N := 6) hx hb hw0 ziX0 hown hK.1 hP 0 rfl rfl 0 (by decide) (hw0 _ zm1_37) (fun _ h9 => h9) rfl dX0_nextFixed_46 ?_
      have hR : v.1 = r := (hr _ (Option.some.inj hf).symm).trans he
      subst hR
      exact W.iret (v := v.1) hx hb hr0 (fun t ht hW => ⟨⟨v.1, (), rfl, rfl, by rw [ht]; exact hP, hD⟩, hS.F ht⟩) hS.2.2 dX0_nextFixed_49
    · have hf := oe hf c2
      refine lv_aload_n hx hb dX0_nextFixed_18 rfl (lv_at hl 0 rfl) ?_
      refine va_get (D := g.1) (ci := 0) (v := .ref (a 4)) (C := RX0) (T := TX0) (N := 6) hx hb hw0 ziX0 hown hK.1 hP 0 rfl rfl 4 (by decide) (hw0 _ zm1_45) (fun _ h9 => h9) rfl dX0_nextFixed_19 ?_
      refine lv_iload_n hx hb dX0_nextFixed_22 rfl (lv_at hl 1 rfl) ?_
      obtain ⟨h3, hf⟩ := og hf
      refine zald (D := g.1) (f := v.2.2.2.2.1) (k := x.toNatClampNeg) hx hb hK.1 hP 4 0 rfl rfl (zin_vp h3) rfl dX0_nextFixed_23 ?_
      refine lv_if_ne (tgt := 39) hx hb dX0_nextFixed_24 (by decide) (fun c4 => ?_) (fun c4 => ?_)
      · have hf := oe hf c4
        refine lv_iinc (v := (x + 1)) (lv' := [(2, .int (x + 1)), (0, .ref (a 0))]) hx hb dX0_nextFixed_39 hl (k := 1) rfl rfl (by decide) rfl (fun ls hl => ?_)
        refine lv_goto (tgt := 10) hx hb dX0_nextFixed_42 (by decide) ?_
        exact ih (x + 1) (Option.some.inj hf).symm he _ _ hP hD hS _ (lv_sub hl [1, 0] rfl)
      · have hf := oi hf c4
        refine lv_aload_n hx hb dX0_nextFixed_27 rfl (lv_at hl 0 rfl) ?_
        refine va_get (D := g.1) (ci := 0) (v := .ref (a 2)) (C := RX0) (T := TX0) (N := 6) hx hb hw0 ziX0 hown hK.1 hP 0 rfl rfl 2 (by decide) (hw0 _ zm1_43) (fun _ h9 => h9) rfl dX0_nextFixed_28 ?_
        refine lv_iload_n hx hb dX0_nextFixed_31 rfl (lv_at hl 1 rfl) ?_
        obtain ⟨h5, hf⟩ := og hf
        refine zald (D := g.1) (f := v.2.2.1) (k := x.toNatClampNeg) hx hb hK.1 hP 2 0 rfl rfl (zin_vp h5) rfl dX0_nextFixed_32 ?_
        refine lv_iconst (v := (-1)) hx hb dX0_nextFixed_33 (by decide) ?_
        refine lv_icmp_eq (tgt := 39) hx hb dX0_nextFixed_34 (by decide) (fun c6 => ?_) (fun c6 => ?_)
        · have hf := oi hf c6
          refine lv_iinc (v := (x + 1)) (lv' := [(2, .int (x + 1)), (0, .ref (a 0))]) hx hb dX0_nextFixed_39 hl (k := 1) rfl rfl (by decide) rfl (fun ls hl => ?_)
          refine lv_goto (tgt := 10) hx hb dX0_nextFixed_42 (by decide) ?_
          exact ih (x + 1) (Option.some.inj hf).symm he _ _ hP hD hS _ (lv_sub hl [1, 0] rfl)
        · have hf := oe hf c6
          refine lv_iload_n hx hb dX0_nextFixed_37 rfl (lv_at hl 1 rfl) ?_
          have hR : x = r := (hr _ (Option.some.inj hf).symm).trans he
          subst hR
          exact W.iret (v := x) hx hb hr0 (fun t ht hW => ⟨⟨x, (), rfl, rfl, by rw [ht]; exact hP, hD⟩, hS.F ht⟩) hS.2.2 dX0_nextFixed_38
  unfold f_X0_nextFixed at hf
  have hl := lv_entry ([.ref (a 0), .int p0]) (n := 3) (Nat.le_of_ble_eq_true rfl)
  rw [lg_entry_eq]
  generalize (lg_sl ([.ref (a 0), .int p0]) ++ List.replicate (3 - (lg_sl ([.ref (a 0), .int p0])).length) Slot.unset).toArray = ls at hl ⊢
  have hl : lv_has ls 3 [(0, .ref (a 0)), (1, .int p0)] := hl
  refine lv_iload_n hx hb dX0_nextFixed_0 rfl (lv_at hl 1 rfl) ?_
  refine lv_if_ge (tgt := 8) hx hb dX0_nextFixed_1 (by decide) (fun c1 => ?_) (fun c1 => ?_)
  · have hf := oi hf c1
    refine lv_iload_n hx hb dX0_nextFixed_8 rfl (lv_at hl 1 rfl) ?_
    refine lv_istore_n (lv' := [(2, .int p0), (0, .ref (a 0)), (1, .int p0)]) hx hb dX0_nextFixed_9 rfl hl (by decide) rfl (fun ls hl => ?_)
    exact lp10 v _ _ _ hf rfl _ _ hP hD hS _ (lv_sub hl [1, 0] rfl)
  · have hf := oe hf c1
    refine lv_iconst (v := 0) hx hb dX0_nextFixed_4 (by decide) ?_
    refine lv_goto (tgt := 9) hx hb dX0_nextFixed_5 (by decide) ?_
    refine lv_istore_n (lv' := [(2, .int 0), (0, .ref (a 0)), (1, .int p0)]) hx hb dX0_nextFixed_9 rfl hl (by decide) rfl (fun ls hl => ?_)
    exact lp10 v _ _ _ hf rfl _ _ hP hD hS _ (lv_sub hl [1, 0] rfl)
theorem hd_X0_timeOrHourEnd : yX0_timeOrHourEnd.cls ≠ "java/lang/invoke/MethodHandle" ∧ yX0_timeOrHourEnd.cls ≠ "java/lang/invoke/VarHandle" ∧ (parseMethodDescriptor yX0_timeOrHourEnd.desc).map (fun d => d.parameters.length) = some 1 := by decide +kernel
def f_X0_timeOrHourEnd (v : EV) (p0 : Int32) : Option (Int32) :=
  (f_X0_has v p0).bind (fun u1 =>
  if (zb u1) = 0 then
    some 3600
  else
    if zin p0 12 = true then
    some (v.2.2.1 p0.toNatClampNeg)
    else none)
set_option maxHeartbeats 4000000 in
set_option maxRecDepth 100000 in
theorem c_X0_timeOrHourEnd (l : Launch) (g : zG) (a : Nat → Nat) (v : EV) (p0 : Int32) (r : Int32) (hf : f_X0_timeOrHourEnd v p0 = some r) : zMi zNF zNM l yX0_timeOrHourEnd (zw yX0_timeOrHourEnd cX0_timeOrHourEnd 2 (some .int)) ({ frames := 1, cells := 0, slots := 0, locals := 21 } : Room) g [.ref (a 0), .int p0] (zX0 g a v) r (zX0 g a v) := by
  intro sz
  refine Met.ofW (cc := cX0_timeOrHourEnd) (maxL := 2) (ret := (some .int)) (by decide) rfl ?_
  intro p e s m args below meth c s₁ B hml hv
  obtain ⟨rfl, hsz, hP, hK, hD0⟩ := hv
  have hx := B.exec
  have hb := B.bytes
  have hr0 := B.returns
  have hts := atoms_spec (ws := (zw yX0_timeOrHourEnd cX0_timeOrHourEnd 2 (some .int))) B.pre
  have hw0 : ∀ w ∈ zW, w.before ([.ref (a 0), .int p0] : List Value).toArray s = true := fun w h => hts w (List.mem_cons_of_mem _ h)
  have hown : s.vm.findClass RX0 = some m.cls := findClass_of_methodNamed B.named
  have hlocks := B.notSynchronized
  subst hsz
  have hD := hD0.self (sz := s.heap.size)
  generalize hAe : va_A (zX0 g a v) s.heap.size = A at hD ⊢
  have hA : ∀ q : Nat, s.heap.size ≤ q → A q := fun q h => by rw [← hAe]; exact Or.inr h
  have hS : va_S A s.heap s.heap [] := va_S.rf
  unfold f_X0_timeOrHourEnd at hf
  have hl := lv_entry ([.ref (a 0), .int p0]) (n := 2) (Nat.le_of_ble_eq_true rfl)
  rw [lg_entry_eq]
  generalize (lg_sl ([.ref (a 0), .int p0]) ++ List.replicate (2 - (lg_sl ([.ref (a 0), .int p0])).length) Slot.unset).toArray = ls at hl ⊢
  have hl : lv_has ls 2 [(0, .ref (a 0)), (1, .int p0)] := hl
  refine lv_aload_n hx hb dX0_timeOrHourEnd_0 rfl (lv_at hl 0 rfl) ?_
  refine lv_iload_n hx hb dX0_timeOrHourEnd_1 rfl (lv_at hl 1 rfl) ?_
  obtain ⟨u1, hu1, hf⟩ := ob hf
  refine zk_iA (va_runV (As := [.int p0]) (rest := []) ⟨hx, hb, hml, hown, hts⟩ (c_X0_has l g a v p0 _ hu1 _) (zcV hw0 zm2_169 zm2_143 zm1_3 zm2_142 zs1_9 hd_X0_has rfl rfl ⟨Nat.le_of_ble_eq_true rfl, Nat.le_of_ble_eq_true rfl⟩) ⟨zblind, zrecvA hK hP (ci := 0) rfl rfl, zpreA hK hP hD⟩ rfl rfl hl.1 rfl (lv_room (Nat.le_of_ble_eq_true rfl)) dX0_timeOrHourEnd_2 ⟨Nat.zero_le _, Nat.zero_le _⟩) hP hD hS hA (fun H locs hP hD hS => ?_)
  refine lv_if_eq (tgt := 17) hx hb dX0_timeOrHourEnd_5 (by decide) (fun c2 => ?_) (fun c2 => ?_)
  · have hf := oi hf c2
    refine lv_sipush (v := 3600) hx hb dX0_timeOrHourEnd_17 (by decide) ?_
    have hR : 3600 = r := Option.some.inj hf
    subst hR
    exact W.iret (v := 3600) hx hb hr0 (fun t ht hW => ⟨⟨3600, (), rfl, rfl, by rw [ht]; exact hP, hD⟩, hS.F ht⟩) hS.2.2 dX0_timeOrHourEnd_20
  · have hf := oe hf c2
    refine lv_aload_n hx hb dX0_timeOrHourEnd_8 rfl (lv_at hl 0 rfl) ?_
    refine va_get (D := g.1) (ci := 0) (v := .ref (a 2)) (C := RX0) (T := TX0) (N := 6) hx hb hw0 ziX0 hown hK.1 hP 0 rfl rfl 2 (by decide) (hw0 _ zm1_43) (fun _ h9 => h9) rfl dX0_timeOrHourEnd_9 ?_
    refine lv_iload_n hx hb dX0_timeOrHourEnd_12 rfl (lv_at hl 1 rfl) ?_
    obtain ⟨h3, hf⟩ := og hf
    refine zald (D := g.1) (f := v.2.2.1) (k := p0.toNatClampNeg) hx hb hK.1 hP 2 0 rfl rfl (zin_vp h3) rfl dX0_timeOrHourEnd_13 ?_
    refine lv_goto (tgt := 20) hx hb dX0_timeOrHourEnd_14 (by decide) ?_
    have hR : (v.2.2.1 p0.toNatClampNeg) = r := Option.some.inj hf
    subst hR
    exact W.iret (v := (v.2.2.1 p0.toNatClampNeg)) hx hb hr0 (fun t ht hW => ⟨⟨(v.2.2.1 p0.toNatClampNeg), (), rfl, rfl, by rw [ht]; exact hP, hD⟩, hS.F ht⟩) hS.2.2 dX0_timeOrHourEnd_20
theorem hd_X0_goal : yX0_goal.cls ≠ "java/lang/invoke/MethodHandle" ∧ yX0_goal.cls ≠ "java/lang/invoke/VarHandle" ∧ (parseMethodDescriptor yX0_goal.desc).map (fun d => d.parameters.length) = some 0 := by decide +kernel
def f_X0_goal (v : EV) : Option (Int32) :=
  (f_X0_nextFixed v 0).bind (fun u1 =>
  (f_X0_timeOrHourEnd v u1).bind (fun u2 =>
  some u2))
set_option maxHeartbeats 4000000 in
set_option maxRecDepth 100000 in
theorem c_X0_goal (l : Launch) (g : zG) (a : Nat → Nat) (v : EV) (r : Int32) (hf : f_X0_goal v = some r) : zMi zNF zNM l yX0_goal (zw yX0_goal cX0_goal 1 (some .int)) ({ frames := 2, cells := 0, slots := 0, locals := 42 } : Room) g [.ref (a 0)] (zX0 g a v) r (zX0 g a v) := by
  intro sz
  refine Met.ofW (cc := cX0_goal) (maxL := 1) (ret := (some .int)) (by decide) rfl ?_
  intro p e s m args below meth c s₁ B hml hv
  obtain ⟨rfl, hsz, hP, hK, hD0⟩ := hv
  have hx := B.exec
  have hb := B.bytes
  have hr0 := B.returns
  have hts := atoms_spec (ws := (zw yX0_goal cX0_goal 1 (some .int))) B.pre
  have hw0 : ∀ w ∈ zW, w.before ([.ref (a 0)] : List Value).toArray s = true := fun w h => hts w (List.mem_cons_of_mem _ h)
  have hown : s.vm.findClass RX0 = some m.cls := findClass_of_methodNamed B.named
  have hlocks := B.notSynchronized
  subst hsz
  have hD := hD0.self (sz := s.heap.size)
  generalize hAe : va_A (zX0 g a v) s.heap.size = A at hD ⊢
  have hA : ∀ q : Nat, s.heap.size ≤ q → A q := fun q h => by rw [← hAe]; exact Or.inr h
  have hS : va_S A s.heap s.heap [] := va_S.rf
  unfold f_X0_goal at hf
  have hl := lv_entry ([.ref (a 0)]) (n := 1) (Nat.le_of_ble_eq_true rfl)
  rw [lg_entry_eq]
  generalize (lg_sl ([.ref (a 0)]) ++ List.replicate (1 - (lg_sl ([.ref (a 0)])).length) Slot.unset).toArray = ls at hl ⊢
  have hl : lv_has ls 1 [(0, .ref (a 0))] := hl
  refine lv_aload_n hx hb dX0_goal_0 rfl (lv_at hl 0 rfl) ?_
  refine lv_aload_n hx hb dX0_goal_1 rfl (lv_at hl 0 rfl) ?_
  refine lv_iconst (v := 0) hx hb dX0_goal_2 (by decide) ?_
  obtain ⟨u1, hu1, hf⟩ := ob hf
  refine zk_iA (va_runV (As := [.int 0]) (rest := [.ref (a 0)]) ⟨hx, hb, hml, hown, hts⟩ (c_X0_nextFixed l g a v 0 _ hu1 _) (zcV hw0 zm3_32 zm3_35 zm1_3 zm3_34 zs2_12 hd_X0_nextFixed rfl rfl ⟨Nat.le_of_ble_eq_true rfl, Nat.le_of_ble_eq_true rfl⟩) ⟨zblind, zrecvA hK hP (ci := 0) rfl rfl, zpreA hK hP hD⟩ rfl rfl hl.1 rfl (lv_room (Nat.le_of_ble_eq_true rfl)) dX0_goal_3 ⟨Nat.zero_le _, Nat.zero_le _⟩) hP hD hS hA (fun H locs hP hD hS => ?_)
  obtain ⟨u2, hu2, hf⟩ := ob hf
  refine zk_iA (va_runV (As := [.int u1]) (rest := []) ⟨hx, hb, hml, hown, hts⟩ (c_X0_timeOrHourEnd l g a v u1 _ hu2 _) (zcV hw0 zm3_48 zm3_51 zm1_3 zm3_50 zs3_0 hd_X0_timeOrHourEnd rfl rfl ⟨Nat.le_of_ble_eq_true rfl, Nat.le_of_ble_eq_true rfl⟩) ⟨zblind, zrecvA hK hP (ci := 0) rfl rfl, zpreA hK hP hD⟩ rfl rfl hl.1 rfl (lv_room (Nat.le_of_ble_eq_true rfl)) dX0_goal_6 ⟨Nat.zero_le _, Nat.zero_le _⟩) hP hD hS hA (fun H locs hP hD hS => ?_)
  have hR : u2 = r := Option.some.inj hf
  subst hR
  exact W.iret (v := u2) hx hb hr0 (fun t ht hW => ⟨⟨u2, (), rfl, rfl, by rw [ht]; exact hP, hD⟩, hS.F ht⟩) hS.2.2 dX0_goal_9
theorem hd_X0_inSection : yX0_inSection.cls ≠ "java/lang/invoke/MethodHandle" ∧ yX0_inSection.cls ≠ "java/lang/invoke/VarHandle" ∧ (parseMethodDescriptor yX0_inSection.desc).map (fun d => d.parameters.length) = some 1 := by decide +kernel
def f_X0_inSection (v : EV) (p0 : Int32) : Option (Bool) :=
  (f_X0_waits v p0).bind (fun u1 =>
  if (zb u1) = 0 then
    some false
  else
    (f_X0_nextFixed v 0).bind (fun u3 =>
    if u3 ≤ p0 then
      some false
    else
      some true))
set_option maxHeartbeats 4000000 in
set_option maxRecDepth 100000 in
theorem c_X0_inSection (l : Launch) (g : zG) (a : Nat → Nat) (v : EV) (p0 : Int32) (r : Bool) (hf : f_X0_inSection v p0 = some r) : zMi zNF zNM l yX0_inSection (zw yX0_inSection cX0_inSection 2 (some .boolean)) ({ frames := 3, cells := 0, slots := 0, locals := 64 } : Room) g [.ref (a 0), .int p0] (zX0 g a v) (zb r) (zX0 g a v) := by
  intro sz
  refine Met.ofW (cc := cX0_inSection) (maxL := 2) (ret := (some .boolean)) (by decide) rfl ?_
  intro p e s m args below meth c s₁ B hml hv
  obtain ⟨rfl, hsz, hP, hK, hD0⟩ := hv
  have hx := B.exec
  have hb := B.bytes
  have hr0 := B.returns
  have hts := atoms_spec (ws := (zw yX0_inSection cX0_inSection 2 (some .boolean))) B.pre
  have hw0 : ∀ w ∈ zW, w.before ([.ref (a 0), .int p0] : List Value).toArray s = true := fun w h => hts w (List.mem_cons_of_mem _ h)
  have hown : s.vm.findClass RX0 = some m.cls := findClass_of_methodNamed B.named
  have hlocks := B.notSynchronized
  subst hsz
  have hD := hD0.self (sz := s.heap.size)
  generalize hAe : va_A (zX0 g a v) s.heap.size = A at hD ⊢
  have hA : ∀ q : Nat, s.heap.size ≤ q → A q := fun q h => by rw [← hAe]; exact Or.inr h
  have hS : va_S A s.heap s.heap [] := va_S.rf
  unfold f_X0_inSection at hf
  have hl := lv_entry ([.ref (a 0), .int p0]) (n := 2) (Nat.le_of_ble_eq_true rfl)
  rw [lg_entry_eq]
  generalize (lg_sl ([.ref (a 0), .int p0]) ++ List.replicate (2 - (lg_sl ([.ref (a 0), .int p0])).length) Slot.unset).toArray = ls at hl ⊢
  have hl : lv_has ls 2 [(0, .ref (a 0)), (1, .int p0)] := hl
  refine lv_aload_n hx hb dX0_inSection_0 rfl (lv_at hl 0 rfl) ?_
  refine lv_iload_n hx hb dX0_inSection_1 rfl (lv_at hl 1 rfl) ?_
  obtain ⟨u1, hu1, hf⟩ := ob hf
  refine zk_iA (va_runV (As := [.int p0]) (rest := []) ⟨hx, hb, hml, hown, hts⟩ (c_X0_waits l g a v p0 _ hu1 _) (zcV hw0 zm3_172 zm2_177 zm1_3 zm2_176 zs1_13 hd_X0_waits rfl rfl ⟨Nat.le_of_ble_eq_true rfl, Nat.le_of_ble_eq_true rfl⟩) ⟨zblind, zrecvA hK hP (ci := 0) rfl rfl, zpreA hK hP hD⟩ rfl rfl hl.1 rfl (lv_room (Nat.le_of_ble_eq_true rfl)) dX0_inSection_2 ⟨Nat.zero_le _, Nat.zero_le _⟩) hP hD hS hA (fun H locs hP hD hS => ?_)
  refine lv_if_eq (tgt := 21) hx hb dX0_inSection_5 (by decide) (fun c2 => ?_) (fun c2 => ?_)
  · have hf := oi hf c2
    refine lv_iconst (v := 0) hx hb dX0_inSection_21 (by decide) ?_
    have hR : false = r := Option.some.inj hf
    subst hR
    exact W.zret (v := zb false) hx hb hr0 (zb_nar false) (fun t ht hW => ⟨⟨zb false, (), rfl, rfl, by rw [ht]; exact hP, hD⟩, hS.F ht⟩) hS.2.2 dX0_inSection_22
  · have hf := oe hf c2
    refine lv_iload_n hx hb dX0_inSection_8 rfl (lv_at hl 1 rfl) ?_
    refine lv_aload_n hx hb dX0_inSection_9 rfl (lv_at hl 0 rfl) ?_
    refine lv_iconst (v := 0) hx hb dX0_inSection_10 (by decide) ?_
    obtain ⟨u3, hu3, hf⟩ := ob hf
    refine zk_iA (va_runV (As := [.int 0]) (rest := [.int p0]) ⟨hx, hb, hml, hown, hts⟩ (c_X0_nextFixed l g a v 0 _ hu3 _) (zcV hw0 zm3_32 zm3_35 zm1_3 zm3_34 zs2_12 hd_X0_nextFixed rfl rfl ⟨Nat.le_of_ble_eq_true rfl, Nat.le_of_ble_eq_true rfl⟩) ⟨zblind, zrecvA hK hP (ci := 0) rfl rfl, zpreA hK hP hD⟩ rfl rfl hl.1 rfl (lv_room (Nat.le_of_ble_eq_true rfl)) dX0_inSection_11 ⟨Nat.zero_le _, Nat.zero_le _⟩) hP hD hS hA (fun H locs hP hD hS => ?_)
    refine lv_icmp_ge (tgt := 21) hx hb dX0_inSection_14 (by decide) (fun c4 => ?_) (fun c4 => ?_)
    · have hf := oi hf c4
      refine lv_iconst (v := 0) hx hb dX0_inSection_21 (by decide) ?_
      have hR : false = r := Option.some.inj hf
      subst hR
      exact W.zret (v := zb false) hx hb hr0 (zb_nar false) (fun t ht hW => ⟨⟨zb false, (), rfl, rfl, by rw [ht]; exact hP, hD⟩, hS.F ht⟩) hS.2.2 dX0_inSection_22
    · have hf := oe hf c4
      refine lv_iconst (v := 1) hx hb dX0_inSection_17 (by decide) ?_
      refine lv_goto (tgt := 22) hx hb dX0_inSection_18 (by decide) ?_
      have hR : true = r := Option.some.inj hf
      subst hR
      exact W.zret (v := zb true) hx hb hr0 (zb_nar true) (fun t ht hW => ⟨⟨zb true, (), rfl, rfl, by rw [ht]; exact hP, hD⟩, hS.F ht⟩) hS.2.2 dX0_inSection_22
theorem hd_X0_firstThatWaits : yX0_firstThatWaits.cls ≠ "java/lang/invoke/MethodHandle" ∧ yX0_firstThatWaits.cls ≠ "java/lang/invoke/VarHandle" ∧ (parseMethodDescriptor yX0_firstThatWaits.desc).map (fun d => d.parameters.length) = some 0 := by decide +kernel
def s_X0_firstThatWaits_2 (v : EV) (x : Int32) : Option ((Int32) ⊕ (Int32)) :=
  if v.1 ≤ x then
    some (.inr (-1))
  else
    if zin x 12 = true then
    if (v.2.2.2.2.1 x.toNatClampNeg) = 0 then
      some (.inr x)
    else
      some (.inl (x + 1))
    else none
def f_X0_firstThatWaits (v : EV) : Option (Int32) :=
  zloop (s_X0_firstThatWaits_2 v) 4096 0
set_option maxHeartbeats 4000000 in
set_option maxRecDepth 100000 in
theorem c_X0_firstThatWaits (l : Launch) (g : zG) (a : Nat → Nat) (v : EV) (r : Int32) (hf : f_X0_firstThatWaits v = some r) : zMi zNF zNM l yX0_firstThatWaits (zw yX0_firstThatWaits cX0_firstThatWaits 2 (some .int)) ({ frames := 0, cells := 0, slots := 0, locals := 0 } : Room) g [.ref (a 0)] (zX0 g a v) r (zX0 g a v) := by
  intro sz
  refine Met.ofW (cc := cX0_firstThatWaits) (maxL := 2) (ret := (some .int)) (by decide) rfl ?_
  intro p e s m args below meth c s₁ B hml hv
  obtain ⟨rfl, hsz, hP, hK, hD0⟩ := hv
  have hx := B.exec
  have hb := B.bytes
  have hr0 := B.returns
  have hts := atoms_spec (ws := (zw yX0_firstThatWaits cX0_firstThatWaits 2 (some .int))) B.pre
  have hw0 : ∀ w ∈ zW, w.before ([.ref (a 0)] : List Value).toArray s = true := fun w h => hts w (List.mem_cons_of_mem _ h)
  have hown : s.vm.findClass RX0 = some m.cls := findClass_of_methodNamed B.named
  have hlocks := B.notSynchronized
  subst hsz
  have hD := hD0.self (sz := s.heap.size)
  generalize hAe : va_A (zX0 g a v) s.heap.size = A at hD ⊢
  have hA : ∀ q : Nat, s.heap.size ≤ q → A q := fun q h => by rw [← hAe]; exact Or.inr h
  have hS : va_S A s.heap s.heap [] := va_S.rf
  have lp2 : ∀ (v : EV), ∀ (n : Nat) (x : Int32) (rr : Int32), zloop (s_X0_firstThatWaits_2 v) n x = some rr → rr = r → ∀ (H : Heap) (locs : List Loc), va_P g.1 vwCl (zX0 g a v) H → va_D A (zX0 g a v) → va_S A s.heap H locs → ∀ ls : Array Slot, lv_has ls 2 [(0, .ref (a 0)), (1, .int x)] → W p l e (headSpec (zw yX0_firstThatWaits cX0_firstThatWaits 2 (some .int)) ({ frames := 0, cells := 0, slots := 0, locals := 0 } : Room)).room s m ([.ref (a 0)] : List Value).toArray below meth c H locs 0 0 (MQ below (va_Qi (fun (x : Int32) (_ : Unit) => x = r) (fun _ => zEnd g A (zX0 g a v)) A) ([.ref (a 0)] : List Value).toArray s 0 0 A) (F0 m 2 ls []) := by
    intro v
    refine zloop_ind ?_
    intro x y rr hf ih hr he H locs hP hD hS ls hl
    unfold s_X0_firstThatWaits_2 at hf
    refine lv_iload_n hx hb dX0_firstThatWaits_2 rfl (lv_at hl 1 rfl) ?_
    refine lv_aload_n hx hb dX0_firstThatWaits_3 rfl (lv_at hl 0 rfl) ?_
    refine va_get (D := g.1) (ci := 0) (v := .int v.1) (C := RX0) (T := TX0) (N := 6) hx hb hw0 ziX0 hown hK.1 hP 0 rfl rfl 0 (by decide) (hw0 _ zm1_37) (fun _ h9 => h9) rfl dX0_firstThatWaits_4 ?_
    refine lv_icmp_ge (tgt := 27) hx hb dX0_firstThatWaits_7 (by decide) (fun c1 => ?_) (fun c1 => ?_)
    · have hf := oi hf c1
      refine lv_iconst (v := (-1)) hx hb dX0_firstThatWaits_27 (by decide) ?_
      have hR : (-1) = r := (hr _ (Option.some.inj hf).symm).trans he
      subst hR
      exact W.iret (v := (-1)) hx hb hr0 (fun t ht hW => ⟨⟨(-1), (), rfl, rfl, by rw [ht]; exact hP, hD⟩, hS.F ht⟩) hS.2.2 dX0_firstThatWaits_28
    · have hf := oe hf c1
      refine lv_aload_n hx hb dX0_firstThatWaits_10 rfl (lv_at hl 0 rfl) ?_
      refine va_get (D := g.1) (ci := 0) (v := .ref (a 4)) (C := RX0) (T := TX0) (N := 6) hx hb hw0 ziX0 hown hK.1 hP 0 rfl rfl 4 (by decide) (hw0 _ zm1_45) (fun _ h9 => h9) rfl dX0_firstThatWaits_11 ?_
      refine lv_iload_n hx hb dX0_firstThatWaits_14 rfl (lv_at hl 1 rfl) ?_
      obtain ⟨h2, hf⟩ := og hf
      refine zald (D := g.1) (f := v.2.2.2.2.1) (k := x.toNatClampNeg) hx hb hK.1 hP 4 0 rfl rfl (zin_vp h2) rfl dX0_firstThatWaits_15 ?_
      refine lv_if_ne (tgt := 21) hx hb dX0_firstThatWaits_16 (by decide) (fun c3 => ?_) (fun c3 => ?_)
      · have hf := oe hf c3
        refine lv_iinc (v := (x + 1)) (lv' := [(1, .int (x + 1)), (0, .ref (a 0))]) hx hb dX0_firstThatWaits_21 hl (k := 1) rfl rfl (by decide) rfl (fun ls hl => ?_)
        refine lv_goto (tgt := 2) hx hb dX0_firstThatWaits_24 (by decide) ?_
        exact ih (x + 1) (Option.some.inj hf).symm he _ _ hP hD hS _ (lv_sub hl [1, 0] rfl)
      · have hf := oi hf c3
        refine lv_iload_n hx hb dX0_firstThatWaits_19 rfl (lv_at hl 1 rfl) ?_
        have hR : x = r := (hr _ (Option.some.inj hf).symm).trans he
        subst hR
        exact W.iret (v := x) hx hb hr0 (fun t ht hW => ⟨⟨x, (), rfl, rfl, by rw [ht]; exact hP, hD⟩, hS.F ht⟩) hS.2.2 dX0_firstThatWaits_20
  unfold f_X0_firstThatWaits at hf
  have hl := lv_entry ([.ref (a 0)]) (n := 2) (Nat.le_of_ble_eq_true rfl)
  rw [lg_entry_eq]
  generalize (lg_sl ([.ref (a 0)]) ++ List.replicate (2 - (lg_sl ([.ref (a 0)])).length) Slot.unset).toArray = ls at hl ⊢
  have hl : lv_has ls 2 [(0, .ref (a 0))] := hl
  refine lv_iconst (v := 0) hx hb dX0_firstThatWaits_0 (by decide) ?_
  refine lv_istore_n (lv' := [(1, .int 0), (0, .ref (a 0))]) hx hb dX0_firstThatWaits_1 rfl hl (by decide) rfl (fun ls hl => ?_)
  exact lp2 v _ _ _ hf rfl _ _ hP hD hS _ (lv_sub hl [1, 0] rfl)
theorem hd_X0_waitingLength : yX0_waitingLength.cls ≠ "java/lang/invoke/MethodHandle" ∧ yX0_waitingLength.cls ≠ "java/lang/invoke/VarHandle" ∧ (parseMethodDescriptor yX0_waitingLength.desc).map (fun d => d.parameters.length) = some 2 := by decide +kernel
def s_X0_waitingLength_13 (v : EV) (i2 : Int32) (x : Int32 × Int32) : Option ((Int32 × Int32) ⊕ (Int32 × Int32)) :=
  if i2 ≤ x.2 then
    some (.inr (x.1, x.2))
  else
    if v.1 ≤ x.2 then
      some (.inr (x.1, x.2))
    else
      if zin x.2 12 = true then
      if (v.2.2.2.2.1 x.2.toNatClampNeg) = 0 then
        if zin x.2 12 = true then
        some (.inl ((x.1 + (v.2.1 x.2.toNatClampNeg)), (x.2 + 1)))
        else none
      else
        some (.inl (x.1, (x.2 + 1)))
      else none
def f_X0_waitingLength (v : EV) (p0 : Int32) (p1 : Int32) : Option (Int32) :=
  if 0 ≤ p0 then
    (zloop (s_X0_waitingLength_13 v p1) 4096 (0, p0)).bind (fun u7 =>
    some u7.1)
  else
    (zloop (s_X0_waitingLength_13 v p1) 4096 (0, 0)).bind (fun u8 =>
    some u8.1)
set_option maxHeartbeats 4000000 in
set_option maxRecDepth 100000 in
theorem c_X0_waitingLength (l : Launch) (g : zG) (a : Nat → Nat) (v : EV) (p0 : Int32) (p1 : Int32) (r : Int32) (hf : f_X0_waitingLength v p0 p1 = some r) : zMi zNF zNM l yX0_waitingLength (zw yX0_waitingLength cX0_waitingLength 5 (some .int)) ({ frames := 0, cells := 0, slots := 0, locals := 0 } : Room) g [.ref (a 0), .int p0, .int p1] (zX0 g a v) r (zX0 g a v) := by
  intro sz
  refine Met.ofW (cc := cX0_waitingLength) (maxL := 5) (ret := (some .int)) (by decide) rfl ?_
  intro p e s m args below meth c s₁ B hml hv
  obtain ⟨rfl, hsz, hP, hK, hD0⟩ := hv
  have hx := B.exec
  have hb := B.bytes
  have hr0 := B.returns
  have hts := atoms_spec (ws := (zw yX0_waitingLength cX0_waitingLength 5 (some .int))) B.pre
  have hw0 : ∀ w ∈ zW, w.before ([.ref (a 0), .int p0, .int p1] : List Value).toArray s = true := fun w h => hts w (List.mem_cons_of_mem _ h)
  have hown : s.vm.findClass RX0 = some m.cls := findClass_of_methodNamed B.named
  have hlocks := B.notSynchronized
  subst hsz
  have hD := hD0.self (sz := s.heap.size)
  generalize hAe : va_A (zX0 g a v) s.heap.size = A at hD ⊢
  have hA : ∀ q : Nat, s.heap.size ≤ q → A q := fun q h => by rw [← hAe]; exact Or.inr h
  have hS : va_S A s.heap s.heap [] := va_S.rf
  have lp13 : ∀ (v : EV) (i2 : Int32), ∀ (n : Nat) (x : Int32 × Int32) (rr : Int32 × Int32), zloop (s_X0_waitingLength_13 v i2) n x = some rr → (∀ (H : Heap) (locs : List Loc), va_P g.1 vwCl (zX0 g a v) H → va_D A (zX0 g a v) → va_S A s.heap H locs → ∀ ls : Array Slot, lv_has ls 5 [(3, .int rr.1)] → W p l e (headSpec (zw yX0_waitingLength cX0_waitingLength 5 (some .int)) ({ frames := 0, cells := 0, slots := 0, locals := 0 } : Room)).room s m ([.ref (a 0), .int p0, .int p1] : List Value).toArray below meth c H locs 0 0 (MQ below (va_Qi (fun (x : Int32) (_ : Unit) => x = r) (fun _ => zEnd g A (zX0 g a v)) A) ([.ref (a 0), .int p0, .int p1] : List Value).toArray s 0 0 A) (F0 m 54 ls [])) → ∀ (H : Heap) (locs : List Loc), va_P g.1 vwCl (zX0 g a v) H → va_D A (zX0 g a v) → va_S A s.heap H locs → ∀ ls : Array Slot, lv_has ls 5 [(0, .ref (a 0)), (2, .int i2), (3, .int x.1), (4, .int x.2)] → W p l e (headSpec (zw yX0_waitingLength cX0_waitingLength 5 (some .int)) ({ frames := 0, cells := 0, slots := 0, locals := 0 } : Room)).room s m ([.ref (a 0), .int p0, .int p1] : List Value).toArray below meth c H locs 0 0 (MQ below (va_Qi (fun (x : Int32) (_ : Unit) => x = r) (fun _ => zEnd g A (zX0 g a v)) A) ([.ref (a 0), .int p0, .int p1] : List Value).toArray s 0 0 A) (F0 m 13 ls []) := by
    intro v i2
    refine zloop_ind ?_
    intro x y rr hf ih hr hQ H locs hP hD hS ls hl
    unfold s_X0_waitingLength_13 at hf
    refine lv_iload hx hb dX0_waitingLength_13 (lv_at hl 3 rfl) ?_
    refine lv_iload_n hx hb dX0_waitingLength_15 rfl (lv_at hl 1 rfl) ?_
    refine lv_icmp_ge (tgt := 54) hx hb dX0_waitingLength_16 (by decide) (fun c2 => ?_) (fun c2 => ?_)
    · have hf := oi hf c2
      have hR : (x.1, x.2) = rr := hr _ (Option.some.inj hf).symm
      subst hR
      exact hQ _ _ hP hD hS _ (lv_sub hl [2] rfl)
    · have hf := oe hf c2
      refine lv_iload hx hb dX0_waitingLength_19 (lv_at hl 3 rfl) ?_
      refine lv_aload_n hx hb dX0_waitingLength_21 rfl (lv_at hl 0 rfl) ?_
      refine va_get (D := g.1) (ci := 0) (v := .int v.1) (C := RX0) (T := TX0) (N := 6) hx hb hw0 ziX0 hown hK.1 hP 0 rfl rfl 0 (by decide) (hw0 _ zm1_37) (fun _ h9 => h9) rfl dX0_waitingLength_22 ?_
      refine lv_icmp_ge (tgt := 54) hx hb dX0_waitingLength_25 (by decide) (fun c3 => ?_) (fun c3 => ?_)
      · have hf := oi hf c3
        have hR : (x.1, x.2) = rr := hr _ (Option.some.inj hf).symm
        subst hR
        exact hQ _ _ hP hD hS _ (lv_sub hl [2] rfl)
      · have hf := oe hf c3
        refine lv_aload_n hx hb dX0_waitingLength_28 rfl (lv_at hl 0 rfl) ?_
        refine va_get (D := g.1) (ci := 0) (v := .ref (a 4)) (C := RX0) (T := TX0) (N := 6) hx hb hw0 ziX0 hown hK.1 hP 0 rfl rfl 4 (by decide) (hw0 _ zm1_45) (fun _ h9 => h9) rfl dX0_waitingLength_29 ?_
        refine lv_iload hx hb dX0_waitingLength_32 (lv_at hl 3 rfl) ?_
        obtain ⟨h4, hf⟩ := og hf
        refine zald (D := g.1) (f := v.2.2.2.2.1) (k := x.2.toNatClampNeg) hx hb hK.1 hP 4 0 rfl rfl (zin_vp h4) rfl dX0_waitingLength_34 ?_
        refine lv_if_ne (tgt := 48) hx hb dX0_waitingLength_35 (by decide) (fun c5 => ?_) (fun c5 => ?_)
        · have hf := oe hf c5
          refine lv_iinc (v := (x.2 + 1)) (lv' := [(4, .int (x.2 + 1)), (0, .ref (a 0)), (2, .int i2), (3, .int x.1)]) hx hb dX0_waitingLength_48 hl (k := 3) rfl rfl (by decide) rfl (fun ls hl => ?_)
          refine lv_goto (tgt := 13) hx hb dX0_waitingLength_51 (by decide) ?_
          exact ih (x.1, (x.2 + 1)) (Option.some.inj hf).symm hQ _ _ hP hD hS _ (lv_sub hl [1, 2, 3, 0] rfl)
        · have hf := oi hf c5
          refine lv_iload_n hx hb dX0_waitingLength_38 rfl (lv_at hl 2 rfl) ?_
          refine lv_aload_n hx hb dX0_waitingLength_39 rfl (lv_at hl 0 rfl) ?_
          refine va_get (D := g.1) (ci := 0) (v := .ref (a 1)) (C := RX0) (T := TX0) (N := 6) hx hb hw0 ziX0 hown hK.1 hP 0 rfl rfl 1 (by decide) (hw0 _ zm1_40) (fun _ h9 => h9) rfl dX0_waitingLength_40 ?_
          refine lv_iload hx hb dX0_waitingLength_43 (lv_at hl 3 rfl) ?_
          obtain ⟨h6, hf⟩ := og hf
          refine zald (D := g.1) (f := v.2.1) (k := x.2.toNatClampNeg) hx hb hK.1 hP 1 0 rfl rfl (zin_vp h6) rfl dX0_waitingLength_45 ?_
          refine lv_iadd hx hb dX0_waitingLength_46 ?_
          refine lv_istore_n (lv' := [(3, .int (x.1 + (v.2.1 x.2.toNatClampNeg))), (0, .ref (a 0)), (2, .int i2), (4, .int x.2)]) hx hb dX0_waitingLength_47 rfl hl (by decide) rfl (fun ls hl => ?_)
          refine lv_iinc (v := (x.2 + 1)) (lv' := [(4, .int (x.2 + 1)), (3, .int (x.1 + (v.2.1 x.2.toNatClampNeg))), (0, .ref (a 0)), (2, .int i2)]) hx hb dX0_waitingLength_48 hl (k := 3) rfl rfl (by decide) rfl (fun ls hl => ?_)
          refine lv_goto (tgt := 13) hx hb dX0_waitingLength_51 (by decide) ?_
          exact ih ((x.1 + (v.2.1 x.2.toNatClampNeg)), (x.2 + 1)) (Option.some.inj hf).symm hQ _ _ hP hD hS _ (lv_sub hl [2, 3, 1, 0] rfl)
  unfold f_X0_waitingLength at hf
  have hl := lv_entry ([.ref (a 0), .int p0, .int p1]) (n := 5) (Nat.le_of_ble_eq_true rfl)
  rw [lg_entry_eq]
  generalize (lg_sl ([.ref (a 0), .int p0, .int p1]) ++ List.replicate (5 - (lg_sl ([.ref (a 0), .int p0, .int p1])).length) Slot.unset).toArray = ls at hl ⊢
  have hl : lv_has ls 5 [(0, .ref (a 0)), (1, .int p0), (2, .int p1)] := hl
  refine lv_iconst (v := 0) hx hb dX0_waitingLength_0 (by decide) ?_
  refine lv_istore_n (lv' := [(3, .int 0), (0, .ref (a 0)), (1, .int p0), (2, .int p1)]) hx hb dX0_waitingLength_1 rfl hl (by decide) rfl (fun ls hl => ?_)
  refine lv_iload_n hx hb dX0_waitingLength_2 rfl (lv_at hl 2 rfl) ?_
  refine lv_if_ge (tgt := 10) hx hb dX0_waitingLength_3 (by decide) (fun c1 => ?_) (fun c1 => ?_)
  · have hf := oi hf c1
    refine lv_iload_n hx hb dX0_waitingLength_10 rfl (lv_at hl 2 rfl) ?_
    refine lv_istore (lv' := [(4, .int p0), (3, .int 0), (0, .ref (a 0)), (1, .int p0), (2, .int p1)]) hx hb dX0_waitingLength_11 hl (by decide) rfl (fun ls hl => ?_)
    obtain ⟨u7, hu7, hf⟩ := ob hf
    refine lp13 v p1 _ _ u7 hu7 (fun H locs hP hD hS ls hl => ?_) _ _ hP hD hS _ (lv_sub hl [2, 4, 1, 0] rfl)
    have hl : lv_has ls 5 [(3, .int u7.1)] := hl
    have hP : va_P g.1 vwCl (zX0 g a v) H := hP
    have hD : va_D A (zX0 g a v) := hD
    refine lv_iload_n hx hb dX0_waitingLength_54 rfl (lv_at hl 0 rfl) ?_
    have hR : u7.1 = r := Option.some.inj hf
    subst hR
    exact W.iret (v := u7.1) hx hb hr0 (fun t ht hW => ⟨⟨u7.1, (), rfl, rfl, by rw [ht]; exact hP, hD⟩, hS.F ht⟩) hS.2.2 dX0_waitingLength_55
  · have hf := oe hf c1
    refine lv_iconst (v := 0) hx hb dX0_waitingLength_6 (by decide) ?_
    refine lv_goto (tgt := 11) hx hb dX0_waitingLength_7 (by decide) ?_
    refine lv_istore (lv' := [(4, .int 0), (3, .int 0), (0, .ref (a 0)), (1, .int p0), (2, .int p1)]) hx hb dX0_waitingLength_11 hl (by decide) rfl (fun ls hl => ?_)
    obtain ⟨u8, hu8, hf⟩ := ob hf
    refine lp13 v p1 _ _ u8 hu8 (fun H locs hP hD hS ls hl => ?_) _ _ hP hD hS _ (lv_sub hl [2, 4, 1, 0] rfl)
    have hl : lv_has ls 5 [(3, .int u8.1)] := hl
    have hP : va_P g.1 vwCl (zX0 g a v) H := hP
    have hD : va_D A (zX0 g a v) := hD
    refine lv_iload_n hx hb dX0_waitingLength_54 rfl (lv_at hl 0 rfl) ?_
    have hR : u8.1 = r := Option.some.inj hf
    subst hR
    exact W.iret (v := u8.1) hx hb hr0 (fun t ht hW => ⟨⟨u8.1, (), rfl, rfl, by rw [ht]; exact hP, hD⟩, hS.F ht⟩) hS.2.2 dX0_waitingLength_55
theorem hd_X0_sectionLength : yX0_sectionLength.cls ≠ "java/lang/invoke/MethodHandle" ∧ yX0_sectionLength.cls ≠ "java/lang/invoke/VarHandle" ∧ (parseMethodDescriptor yX0_sectionLength.desc).map (fun d => d.parameters.length) = some 0 := by decide +kernel
def f_X0_sectionLength (v : EV) : Option (Int32) :=
  (f_X0_nextFixed v 0).bind (fun u1 =>
  (f_X0_waitingLength v 0 u1).bind (fun u2 =>
  some u2))
set_option maxHeartbeats 4000000 in
set_option maxRecDepth 100000 in
theorem c_X0_sectionLength (l : Launch) (g : zG) (a : Nat → Nat) (v : EV) (r : Int32) (hf : f_X0_sectionLength v = some r) : zMi zNF zNM l yX0_sectionLength (zw yX0_sectionLength cX0_sectionLength 1 (some .int)) ({ frames := 1, cells := 0, slots := 0, locals := 24 } : Room) g [.ref (a 0)] (zX0 g a v) r (zX0 g a v) := by
  intro sz
  refine Met.ofW (cc := cX0_sectionLength) (maxL := 1) (ret := (some .int)) (by decide) rfl ?_
  intro p e s m args below meth c s₁ B hml hv
  obtain ⟨rfl, hsz, hP, hK, hD0⟩ := hv
  have hx := B.exec
  have hb := B.bytes
  have hr0 := B.returns
  have hts := atoms_spec (ws := (zw yX0_sectionLength cX0_sectionLength 1 (some .int))) B.pre
  have hw0 : ∀ w ∈ zW, w.before ([.ref (a 0)] : List Value).toArray s = true := fun w h => hts w (List.mem_cons_of_mem _ h)
  have hown : s.vm.findClass RX0 = some m.cls := findClass_of_methodNamed B.named
  have hlocks := B.notSynchronized
  subst hsz
  have hD := hD0.self (sz := s.heap.size)
  generalize hAe : va_A (zX0 g a v) s.heap.size = A at hD ⊢
  have hA : ∀ q : Nat, s.heap.size ≤ q → A q := fun q h => by rw [← hAe]; exact Or.inr h
  have hS : va_S A s.heap s.heap [] := va_S.rf
  unfold f_X0_sectionLength at hf
  have hl := lv_entry ([.ref (a 0)]) (n := 1) (Nat.le_of_ble_eq_true rfl)
  rw [lg_entry_eq]
  generalize (lg_sl ([.ref (a 0)]) ++ List.replicate (1 - (lg_sl ([.ref (a 0)])).length) Slot.unset).toArray = ls at hl ⊢
  have hl : lv_has ls 1 [(0, .ref (a 0))] := hl
  refine lv_aload_n hx hb dX0_sectionLength_0 rfl (lv_at hl 0 rfl) ?_
  refine lv_iconst (v := 0) hx hb dX0_sectionLength_1 (by decide) ?_
  refine lv_aload_n hx hb dX0_sectionLength_2 rfl (lv_at hl 0 rfl) ?_
  refine lv_iconst (v := 0) hx hb dX0_sectionLength_3 (by decide) ?_
  obtain ⟨u1, hu1, hf⟩ := ob hf
  refine zk_iA (va_runV (As := [.int 0]) (rest := [.int 0, .ref (a 0)]) ⟨hx, hb, hml, hown, hts⟩ (c_X0_nextFixed l g a v 0 _ hu1 _) (zcV hw0 zm3_32 zm3_35 zm1_3 zm3_34 zs2_12 hd_X0_nextFixed rfl rfl ⟨Nat.le_of_ble_eq_true rfl, Nat.le_of_ble_eq_true rfl⟩) ⟨zblind, zrecvA hK hP (ci := 0) rfl rfl, zpreA hK hP hD⟩ rfl rfl hl.1 rfl (lv_room (Nat.le_of_ble_eq_true rfl)) dX0_sectionLength_4 ⟨Nat.zero_le _, Nat.zero_le _⟩) hP hD hS hA (fun H locs hP hD hS => ?_)
  obtain ⟨u2, hu2, hf⟩ := ob hf
  refine zk_iA (va_runV (As := [.int 0, .int u1]) (rest := []) ⟨hx, hb, hml, hown, hts⟩ (c_X0_waitingLength l g a v 0 u1 _ hu2 _) (zcV hw0 zm3_40 zm3_43 zm1_3 zm3_42 zs2_14 hd_X0_waitingLength rfl rfl ⟨Nat.le_of_ble_eq_true rfl, Nat.le_of_ble_eq_true rfl⟩) ⟨zblind, zrecvA hK hP (ci := 0) rfl rfl, zpreA hK hP hD⟩ rfl rfl hl.1 rfl (lv_room (Nat.le_of_ble_eq_true rfl)) dX0_sectionLength_7 ⟨Nat.zero_le _, Nat.zero_le _⟩) hP hD hS hA (fun H locs hP hD hS => ?_)
  have hR : u2 = r := Option.some.inj hf
  subst hR
  exact W.iret (v := u2) hx hb hr0 (fun t ht hW => ⟨⟨u2, (), rfl, rfl, by rw [ht]; exact hP, hD⟩, hS.F ht⟩) hS.2.2 dX0_sectionLength_10
theorem hd_X0_leastOfSection : yX0_leastOfSection.cls ≠ "java/lang/invoke/MethodHandle" ∧ yX0_leastOfSection.cls ≠ "java/lang/invoke/VarHandle" ∧ (parseMethodDescriptor yX0_leastOfSection.desc).map (fun d => d.parameters.length) = some 0 := by decide +kernel
def s_X0_leastOfSection_14 (v : EV) (i3 : Int32) (x : Int32 × Int32 × Int32) : Option ((Int32 × Int32 × Int32) ⊕ (Int32 × Int32 × Int32)) :=
  if i3 ≤ x.2.2 then
    some (.inr (x.1, x.2.1, x.2.2))
  else
    if v.1 ≤ x.2.2 then
      some (.inr (x.1, x.2.1, x.2.2))
    else
      if zin x.2.2 12 = true then
      if (v.2.2.2.2.1 x.2.2.toNatClampNeg) = 0 then
        if zin x.2.2 12 = true then
        if x.2.1 < (v.2.2.2.1 x.2.2.toNatClampNeg) then
          some (.inl (x.1, x.2.1, (x.2.2 + 1)))
        else
          if zin x.2.2 12 = true then
          some (.inl (x.2.2, (v.2.2.2.1 x.2.2.toNatClampNeg), (x.2.2 + 1)))
          else none
        else none
      else
        some (.inl (x.1, x.2.1, (x.2.2 + 1)))
      else none
def f_X0_leastOfSection (v : EV) : Option (Int32) :=
  (f_X0_nextFixed v 0).bind (fun u1 =>
  (zloop (s_X0_leastOfSection_14 v u1) 4096 ((-1), 8, 0)).bind (fun u9 =>
  some u9.1))
set_option maxHeartbeats 4000000 in
set_option maxRecDepth 100000 in
theorem c_X0_leastOfSection (l : Launch) (g : zG) (a : Nat → Nat) (v : EV) (r : Int32) (hf : f_X0_leastOfSection v = some r) : zMi zNF zNM l yX0_leastOfSection (zw yX0_leastOfSection cX0_leastOfSection 5 (some .int)) ({ frames := 1, cells := 0, slots := 0, locals := 22 } : Room) g [.ref (a 0)] (zX0 g a v) r (zX0 g a v) := by
  intro sz
  refine Met.ofW (cc := cX0_leastOfSection) (maxL := 5) (ret := (some .int)) (by decide) rfl ?_
  intro p e s m args below meth c s₁ B hml hv
  obtain ⟨rfl, hsz, hP, hK, hD0⟩ := hv
  have hx := B.exec
  have hb := B.bytes
  have hr0 := B.returns
  have hts := atoms_spec (ws := (zw yX0_leastOfSection cX0_leastOfSection 5 (some .int))) B.pre
  have hw0 : ∀ w ∈ zW, w.before ([.ref (a 0)] : List Value).toArray s = true := fun w h => hts w (List.mem_cons_of_mem _ h)
  have hown : s.vm.findClass RX0 = some m.cls := findClass_of_methodNamed B.named
  have hlocks := B.notSynchronized
  subst hsz
  have hD := hD0.self (sz := s.heap.size)
  generalize hAe : va_A (zX0 g a v) s.heap.size = A at hD ⊢
  have hA : ∀ q : Nat, s.heap.size ≤ q → A q := fun q h => by rw [← hAe]; exact Or.inr h
  have hS : va_S A s.heap s.heap [] := va_S.rf
  have lp14 : ∀ (v : EV) (i3 : Int32), ∀ (n : Nat) (x : Int32 × Int32 × Int32) (rr : Int32 × Int32 × Int32), zloop (s_X0_leastOfSection_14 v i3) n x = some rr → (∀ (H : Heap) (locs : List Loc), va_P g.1 vwCl (zX0 g a v) H → va_D A (zX0 g a v) → va_S A s.heap H locs → ∀ ls : Array Slot, lv_has ls 5 [(1, .int rr.1)] → W p l e (headSpec (zw yX0_leastOfSection cX0_leastOfSection 5 (some .int)) ({ frames := 1, cells := 0, slots := 0, locals := 22 } : Room)).room s m ([.ref (a 0)] : List Value).toArray below meth c H locs 0 0 (MQ below (va_Qi (fun (x : Int32) (_ : Unit) => x = r) (fun _ => zEnd g A (zX0 g a v)) A) ([.ref (a 0)] : List Value).toArray s 0 0 A) (F0 m 67 ls [])) → ∀ (H : Heap) (locs : List Loc), va_P g.1 vwCl (zX0 g a v) H → va_D A (zX0 g a v) → va_S A s.heap H locs → ∀ ls : Array Slot, lv_has ls 5 [(0, .ref (a 0)), (1, .int x.1), (2, .int x.2.1), (3, .int i3), (4, .int x.2.2)] → W p l e (headSpec (zw yX0_leastOfSection cX0_leastOfSection 5 (some .int)) ({ frames := 1, cells := 0, slots := 0, locals := 22 } : Room)).room s m ([.ref (a 0)] : List Value).toArray below meth c H locs 0 0 (MQ below (va_Qi (fun (x : Int32) (_ : Unit) => x = r) (fun _ => zEnd g A (zX0 g a v)) A) ([.ref (a 0)] : List Value).toArray s 0 0 A) (F0 m 14 ls []) := by
    intro v i3
    refine zloop_ind ?_
    intro x y rr hf ih hr hQ H locs hP hD hS ls hl
    unfold s_X0_leastOfSection_14 at hf
    refine lv_iload hx hb dX0_leastOfSection_14 (lv_at hl 4 rfl) ?_
    refine lv_iload_n hx hb dX0_leastOfSection_16 rfl (lv_at hl 3 rfl) ?_
    refine lv_icmp_ge (tgt := 67) hx hb dX0_leastOfSection_17 (by decide) (fun c2 => ?_) (fun c2 => ?_)
    · have hf := oi hf c2
      have hR : (x.1, x.2.1, x.2.2) = rr := hr _ (Option.some.inj hf).symm
      subst hR
      exact hQ _ _ hP hD hS _ (lv_sub hl [1] rfl)
    · have hf := oe hf c2
      refine lv_iload hx hb dX0_leastOfSection_20 (lv_at hl 4 rfl) ?_
      refine lv_aload_n hx hb dX0_leastOfSection_22 rfl (lv_at hl 0 rfl) ?_
      refine va_get (D := g.1) (ci := 0) (v := .int v.1) (C := RX0) (T := TX0) (N := 6) hx hb hw0 ziX0 hown hK.1 hP 0 rfl rfl 0 (by decide) (hw0 _ zm1_37) (fun _ h9 => h9) rfl dX0_leastOfSection_23 ?_
      refine lv_icmp_ge (tgt := 67) hx hb dX0_leastOfSection_26 (by decide) (fun c3 => ?_) (fun c3 => ?_)
      · have hf := oi hf c3
        have hR : (x.1, x.2.1, x.2.2) = rr := hr _ (Option.some.inj hf).symm
        subst hR
        exact hQ _ _ hP hD hS _ (lv_sub hl [1] rfl)
      · have hf := oe hf c3
        refine lv_aload_n hx hb dX0_leastOfSection_29 rfl (lv_at hl 0 rfl) ?_
        refine va_get (D := g.1) (ci := 0) (v := .ref (a 4)) (C := RX0) (T := TX0) (N := 6) hx hb hw0 ziX0 hown hK.1 hP 0 rfl rfl 4 (by decide) (hw0 _ zm1_45) (fun _ h9 => h9) rfl dX0_leastOfSection_30 ?_
        refine lv_iload hx hb dX0_leastOfSection_33 (lv_at hl 4 rfl) ?_
        obtain ⟨h4, hf⟩ := og hf
        refine zald (D := g.1) (f := v.2.2.2.2.1) (k := x.2.2.toNatClampNeg) hx hb hK.1 hP 4 0 rfl rfl (zin_vp h4) rfl dX0_leastOfSection_35 ?_
        refine lv_if_ne (tgt := 61) hx hb dX0_leastOfSection_36 (by decide) (fun c5 => ?_) (fun c5 => ?_)
        · have hf := oe hf c5
          refine lv_iinc (v := (x.2.2 + 1)) (lv' := [(4, .int (x.2.2 + 1)), (0, .ref (a 0)), (1, .int x.1), (2, .int x.2.1), (3, .int i3)]) hx hb dX0_leastOfSection_61 hl (k := 4) rfl rfl (by decide) rfl (fun ls hl => ?_)
          refine lv_goto (tgt := 14) hx hb dX0_leastOfSection_64 (by decide) ?_
          exact ih (x.1, x.2.1, (x.2.2 + 1)) (Option.some.inj hf).symm hQ _ _ hP hD hS _ (lv_sub hl [1, 2, 3, 4, 0] rfl)
        · have hf := oi hf c5
          refine lv_aload_n hx hb dX0_leastOfSection_39 rfl (lv_at hl 0 rfl) ?_
          refine va_get (D := g.1) (ci := 0) (v := .ref (a 3)) (C := RX0) (T := TX0) (N := 6) hx hb hw0 ziX0 hown hK.1 hP 0 rfl rfl 3 (by decide) (hw0 _ zm1_44) (fun _ h9 => h9) rfl dX0_leastOfSection_40 ?_
          refine lv_iload hx hb dX0_leastOfSection_43 (lv_at hl 4 rfl) ?_
          obtain ⟨h6, hf⟩ := og hf
          refine zald (D := g.1) (f := v.2.2.2.1) (k := x.2.2.toNatClampNeg) hx hb hK.1 hP 3 0 rfl rfl (zin_vp h6) rfl dX0_leastOfSection_45 ?_
          refine lv_iload_n hx hb dX0_leastOfSection_46 rfl (lv_at hl 2 rfl) ?_
          refine lv_icmp_gt (tgt := 61) hx hb dX0_leastOfSection_47 (by decide) (fun c7 => ?_) (fun c7 => ?_)
          · have hf := oi hf c7
            refine lv_iinc (v := (x.2.2 + 1)) (lv' := [(4, .int (x.2.2 + 1)), (0, .ref (a 0)), (1, .int x.1), (2, .int x.2.1), (3, .int i3)]) hx hb dX0_leastOfSection_61 hl (k := 4) rfl rfl (by decide) rfl (fun ls hl => ?_)
            refine lv_goto (tgt := 14) hx hb dX0_leastOfSection_64 (by decide) ?_
            exact ih (x.1, x.2.1, (x.2.2 + 1)) (Option.some.inj hf).symm hQ _ _ hP hD hS _ (lv_sub hl [1, 2, 3, 4, 0] rfl)
          · have hf := oe hf c7
            refine lv_iload hx hb dX0_leastOfSection_50 (lv_at hl 4 rfl) ?_
            refine lv_istore_n (lv' := [(1, .int x.2.2), (0, .ref (a 0)), (2, .int x.2.1), (3, .int i3), (4, .int x.2.2)]) hx hb dX0_leastOfSection_52 rfl hl (by decide) rfl (fun ls hl => ?_)
            refine lv_aload_n hx hb dX0_leastOfSection_53 rfl (lv_at hl 1 rfl) ?_
            refine va_get (D := g.1) (ci := 0) (v := .ref (a 3)) (C := RX0) (T := TX0) (N := 6) hx hb hw0 ziX0 hown hK.1 hP 0 rfl rfl 3 (by decide) (hw0 _ zm1_44) (fun _ h9 => h9) rfl dX0_leastOfSection_54 ?_
            refine lv_iload hx hb dX0_leastOfSection_57 (lv_at hl 4 rfl) ?_
            obtain ⟨h8, hf⟩ := og hf
            refine zald (D := g.1) (f := v.2.2.2.1) (k := x.2.2.toNatClampNeg) hx hb hK.1 hP 3 0 rfl rfl (zin_vp h8) rfl dX0_leastOfSection_59 ?_
            refine lv_istore_n (lv' := [(2, .int (v.2.2.2.1 x.2.2.toNatClampNeg)), (1, .int x.2.2), (0, .ref (a 0)), (3, .int i3), (4, .int x.2.2)]) hx hb dX0_leastOfSection_60 rfl hl (by decide) rfl (fun ls hl => ?_)
            refine lv_iinc (v := (x.2.2 + 1)) (lv' := [(4, .int (x.2.2 + 1)), (2, .int (v.2.2.2.1 x.2.2.toNatClampNeg)), (1, .int x.2.2), (0, .ref (a 0)), (3, .int i3)]) hx hb dX0_leastOfSection_61 hl (k := 4) rfl rfl (by decide) rfl (fun ls hl => ?_)
            refine lv_goto (tgt := 14) hx hb dX0_leastOfSection_64 (by decide) ?_
            exact ih (x.2.2, (v.2.2.2.1 x.2.2.toNatClampNeg), (x.2.2 + 1)) (Option.some.inj hf).symm hQ _ _ hP hD hS _ (lv_sub hl [3, 2, 1, 4, 0] rfl)
  unfold f_X0_leastOfSection at hf
  have hl := lv_entry ([.ref (a 0)]) (n := 5) (Nat.le_of_ble_eq_true rfl)
  rw [lg_entry_eq]
  generalize (lg_sl ([.ref (a 0)]) ++ List.replicate (5 - (lg_sl ([.ref (a 0)])).length) Slot.unset).toArray = ls at hl ⊢
  have hl : lv_has ls 5 [(0, .ref (a 0))] := hl
  refine lv_iconst (v := (-1)) hx hb dX0_leastOfSection_0 (by decide) ?_
  refine lv_istore_n (lv' := [(1, .int (-1)), (0, .ref (a 0))]) hx hb dX0_leastOfSection_1 rfl hl (by decide) rfl (fun ls hl => ?_)
  refine lv_bipush (v := 8) hx hb dX0_leastOfSection_2 (by decide) ?_
  refine lv_istore_n (lv' := [(2, .int 8), (1, .int (-1)), (0, .ref (a 0))]) hx hb dX0_leastOfSection_4 rfl hl (by decide) rfl (fun ls hl => ?_)
  refine lv_aload_n hx hb dX0_leastOfSection_5 rfl (lv_at hl 2 rfl) ?_
  refine lv_iconst (v := 0) hx hb dX0_leastOfSection_6 (by decide) ?_
  obtain ⟨u1, hu1, hf⟩ := ob hf
  refine zk_iA (va_runV (As := [.int 0]) (rest := []) ⟨hx, hb, hml, hown, hts⟩ (c_X0_nextFixed l g a v 0 _ hu1 _) (zcV hw0 zm3_32 zm3_35 zm1_3 zm3_34 zs2_12 hd_X0_nextFixed rfl rfl ⟨Nat.le_of_ble_eq_true rfl, Nat.le_of_ble_eq_true rfl⟩) ⟨zblind, zrecvA hK hP (ci := 0) rfl rfl, zpreA hK hP hD⟩ rfl rfl hl.1 rfl (lv_room (Nat.le_of_ble_eq_true rfl)) dX0_leastOfSection_7 ⟨Nat.zero_le _, Nat.zero_le _⟩) hP hD hS hA (fun H locs hP hD hS => ?_)
  refine lv_istore_n (lv' := [(3, .int u1), (2, .int 8), (1, .int (-1)), (0, .ref (a 0))]) hx hb dX0_leastOfSection_10 rfl hl (by decide) rfl (fun ls hl => ?_)
  refine lv_iconst (v := 0) hx hb dX0_leastOfSection_11 (by decide) ?_
  refine lv_istore (lv' := [(4, .int 0), (3, .int u1), (2, .int 8), (1, .int (-1)), (0, .ref (a 0))]) hx hb dX0_leastOfSection_12 hl (by decide) rfl (fun ls hl => ?_)
  obtain ⟨u9, hu9, hf⟩ := ob hf
  refine lp14 v u1 _ _ u9 hu9 (fun H locs hP hD hS ls hl => ?_) _ _ hP hD hS _ (lv_sub hl [4, 3, 2, 1, 0] rfl)
  have hl : lv_has ls 5 [(1, .int u9.1)] := hl
  have hP : va_P g.1 vwCl (zX0 g a v) H := hP
  have hD : va_D A (zX0 g a v) := hD
  refine lv_iload_n hx hb dX0_leastOfSection_67 rfl (lv_at hl 0 rfl) ?_
  have hR : u9.1 = r := Option.some.inj hf
  subst hR
  exact W.iret (v := u9.1) hx hb hr0 (fun t ht hW => ⟨⟨u9.1, (), rfl, rfl, by rw [ht]; exact hP, hD⟩, hS.F ht⟩) hS.2.2 dX0_leastOfSection_68
theorem hd_X0_latestBegin : yX0_latestBegin.cls ≠ "java/lang/invoke/MethodHandle" ∧ yX0_latestBegin.cls ≠ "java/lang/invoke/VarHandle" ∧ (parseMethodDescriptor yX0_latestBegin.desc).map (fun d => d.parameters.length) = some 1 := by decide +kernel
def f_X0_latestBegin (v : EV) (p0 : Int32) : Option (Int32) :=
  (f_X0_waits v p0).bind (fun u1 =>
  if (zb u1) = 0 then
    some (-10000)
  else
    (f_X0_nextFixed v (p0 + 1)).bind (fun u3 =>
    (f_X0_timeOrHourEnd v u3).bind (fun u4 =>
    (f_X0_waitingLength v p0 u3).bind (fun u5 =>
    some (u4 - u5)))))
set_option maxHeartbeats 4000000 in
set_option maxRecDepth 100000 in
theorem c_X0_latestBegin (l : Launch) (g : zG) (a : Nat → Nat) (v : EV) (p0 : Int32) (r : Int32) (hf : f_X0_latestBegin v p0 = some r) : zMi zNF zNM l yX0_latestBegin (zw yX0_latestBegin cX0_latestBegin 3 (some .int)) ({ frames := 3, cells := 0, slots := 0, locals := 64 } : Room) g [.ref (a 0), .int p0] (zX0 g a v) r (zX0 g a v) := by
  intro sz
  refine Met.ofW (cc := cX0_latestBegin) (maxL := 3) (ret := (some .int)) (by decide) rfl ?_
  intro p e s m args below meth c s₁ B hml hv
  obtain ⟨rfl, hsz, hP, hK, hD0⟩ := hv
  have hx := B.exec
  have hb := B.bytes
  have hr0 := B.returns
  have hts := atoms_spec (ws := (zw yX0_latestBegin cX0_latestBegin 3 (some .int))) B.pre
  have hw0 : ∀ w ∈ zW, w.before ([.ref (a 0), .int p0] : List Value).toArray s = true := fun w h => hts w (List.mem_cons_of_mem _ h)
  have hown : s.vm.findClass RX0 = some m.cls := findClass_of_methodNamed B.named
  have hlocks := B.notSynchronized
  subst hsz
  have hD := hD0.self (sz := s.heap.size)
  generalize hAe : va_A (zX0 g a v) s.heap.size = A at hD ⊢
  have hA : ∀ q : Nat, s.heap.size ≤ q → A q := fun q h => by rw [← hAe]; exact Or.inr h
  have hS : va_S A s.heap s.heap [] := va_S.rf
  unfold f_X0_latestBegin at hf
  have hl := lv_entry ([.ref (a 0), .int p0]) (n := 3) (Nat.le_of_ble_eq_true rfl)
  rw [lg_entry_eq]
  generalize (lg_sl ([.ref (a 0), .int p0]) ++ List.replicate (3 - (lg_sl ([.ref (a 0), .int p0])).length) Slot.unset).toArray = ls at hl ⊢
  have hl : lv_has ls 3 [(0, .ref (a 0)), (1, .int p0)] := hl
  refine lv_aload_n hx hb dX0_latestBegin_0 rfl (lv_at hl 0 rfl) ?_
  refine lv_iload_n hx hb dX0_latestBegin_1 rfl (lv_at hl 1 rfl) ?_
  obtain ⟨u1, hu1, hf⟩ := ob hf
  refine zk_iA (va_runV (As := [.int p0]) (rest := []) ⟨hx, hb, hml, hown, hts⟩ (c_X0_waits l g a v p0 _ hu1 _) (zcV hw0 zm3_172 zm2_177 zm1_3 zm2_176 zs1_13 hd_X0_waits rfl rfl ⟨Nat.le_of_ble_eq_true rfl, Nat.le_of_ble_eq_true rfl⟩) ⟨zblind, zrecvA hK hP (ci := 0) rfl rfl, zpreA hK hP hD⟩ rfl rfl hl.1 rfl (lv_room (Nat.le_of_ble_eq_true rfl)) dX0_latestBegin_2 ⟨Nat.zero_le _, Nat.zero_le _⟩) hP hD hS hA (fun H locs hP hD hS => ?_)
  refine lv_if_ne (tgt := 12) hx hb dX0_latestBegin_5 (by decide) (fun c2 => ?_) (fun c2 => ?_)
  · have hf := oe hf c2
    refine lv_aload_n hx hb dX0_latestBegin_12 rfl (lv_at hl 0 rfl) ?_
    refine lv_iload_n hx hb dX0_latestBegin_13 rfl (lv_at hl 1 rfl) ?_
    refine lv_iconst (v := 1) hx hb dX0_latestBegin_14 (by decide) ?_
    refine lv_iadd hx hb dX0_latestBegin_15 ?_
    obtain ⟨u3, hu3, hf⟩ := ob hf
    refine zk_iA (va_runV (As := [.int (p0 + 1)]) (rest := []) ⟨hx, hb, hml, hown, hts⟩ (c_X0_nextFixed l g a v (p0 + 1) _ hu3 _) (zcV hw0 zm3_32 zm3_35 zm1_3 zm3_34 zs2_12 hd_X0_nextFixed rfl rfl ⟨Nat.le_of_ble_eq_true rfl, Nat.le_of_ble_eq_true rfl⟩) ⟨zblind, zrecvA hK hP (ci := 0) rfl rfl, zpreA hK hP hD⟩ rfl rfl hl.1 rfl (lv_room (Nat.le_of_ble_eq_true rfl)) dX0_latestBegin_16 ⟨Nat.zero_le _, Nat.zero_le _⟩) hP hD hS hA (fun H locs hP hD hS => ?_)
    refine lv_istore_n (lv' := [(2, .int u3), (0, .ref (a 0)), (1, .int p0)]) hx hb dX0_latestBegin_19 rfl hl (by decide) rfl (fun ls hl => ?_)
    refine lv_aload_n hx hb dX0_latestBegin_20 rfl (lv_at hl 1 rfl) ?_
    refine lv_iload_n hx hb dX0_latestBegin_21 rfl (lv_at hl 0 rfl) ?_
    obtain ⟨u4, hu4, hf⟩ := ob hf
    refine zk_iA (va_runV (As := [.int u3]) (rest := []) ⟨hx, hb, hml, hown, hts⟩ (c_X0_timeOrHourEnd l g a v u3 _ hu4 _) (zcV hw0 zm3_48 zm3_51 zm1_3 zm3_50 zs3_0 hd_X0_timeOrHourEnd rfl rfl ⟨Nat.le_of_ble_eq_true rfl, Nat.le_of_ble_eq_true rfl⟩) ⟨zblind, zrecvA hK hP (ci := 0) rfl rfl, zpreA hK hP hD⟩ rfl rfl hl.1 rfl (lv_room (Nat.le_of_ble_eq_true rfl)) dX0_latestBegin_22 ⟨Nat.zero_le _, Nat.zero_le _⟩) hP hD hS hA (fun H locs hP hD hS => ?_)
    refine lv_aload_n hx hb dX0_latestBegin_25 rfl (lv_at hl 1 rfl) ?_
    refine lv_iload_n hx hb dX0_latestBegin_26 rfl (lv_at hl 2 rfl) ?_
    refine lv_iload_n hx hb dX0_latestBegin_27 rfl (lv_at hl 0 rfl) ?_
    obtain ⟨u5, hu5, hf⟩ := ob hf
    refine zk_iA (va_runV (As := [.int p0, .int u3]) (rest := [.int u4]) ⟨hx, hb, hml, hown, hts⟩ (c_X0_waitingLength l g a v p0 u3 _ hu5 _) (zcV hw0 zm3_40 zm3_43 zm1_3 zm3_42 zs2_14 hd_X0_waitingLength rfl rfl ⟨Nat.le_of_ble_eq_true rfl, Nat.le_of_ble_eq_true rfl⟩) ⟨zblind, zrecvA hK hP (ci := 0) rfl rfl, zpreA hK hP hD⟩ rfl rfl hl.1 rfl (lv_room (Nat.le_of_ble_eq_true rfl)) dX0_latestBegin_28 ⟨Nat.zero_le _, Nat.zero_le _⟩) hP hD hS hA (fun H locs hP hD hS => ?_)
    refine lv_isub hx hb dX0_latestBegin_31 ?_
    have hR : (u4 - u5) = r := Option.some.inj hf
    subst hR
    exact W.iret (v := (u4 - u5)) hx hb hr0 (fun t ht hW => ⟨⟨(u4 - u5), (), rfl, rfl, by rw [ht]; exact hP, hD⟩, hS.F ht⟩) hS.2.2 dX0_latestBegin_32
  · have hf := oi hf c2
    refine lv_sipush (v := (-10000)) hx hb dX0_latestBegin_8 (by decide) ?_
    have hR : (-10000) = r := Option.some.inj hf
    subst hR
    exact W.iret (v := (-10000)) hx hb hr0 (fun t ht hW => ⟨⟨(-10000), (), rfl, rfl, by rw [ht]; exact hP, hD⟩, hS.F ht⟩) hS.2.2 dX0_latestBegin_11
theorem hd_X0_tell : yX0_tell.cls ≠ "java/lang/invoke/MethodHandle" ∧ yX0_tell.cls ≠ "java/lang/invoke/VarHandle" ∧ (parseMethodDescriptor yX0_tell.desc).map (fun d => d.parameters.length) = some 2 := by decide +kernel
def f_X0_tell (v : EV) (p0 : Int32) (p1 : Int32) : Option (Int32) :=
  (f_X0_has v p0).bind (fun u1 =>
  if (zb u1) = 0 then
    some (-1)
  else
    if p1 = 0 then
      if zin p0 12 = true then
      some (v.2.1 p0.toNatClampNeg)
      else none
    else
      if p1 = 1 then
        if zin p0 12 = true then
        some (v.2.2.1 p0.toNatClampNeg)
        else none
      else
        if p1 = 2 then
          if zin p0 12 = true then
          some (v.2.2.2.1 p0.toNatClampNeg)
          else none
        else
          if p1 = 3 then
            if zin p0 12 = true then
            some (v.2.2.2.2.1 p0.toNatClampNeg)
            else none
          else
            if p1 = 4 then
              if zin p0 12 = true then
              some (v.2.2.2.2.2 p0.toNatClampNeg)
              else none
            else
              if p1 = 5 then
                (f_X0_lateness v p0).bind (fun u8 =>
                some u8)
              else
                (f_X0_inSection v p0).bind (fun u9 =>
                if (zb u9) = 0 then
                  some 0
                else
                  some 1))
set_option maxHeartbeats 4000000 in
set_option maxRecDepth 100000 in
theorem c_X0_tell (l : Launch) (g : zG) (a : Nat → Nat) (v : EV) (p0 : Int32) (p1 : Int32) (r : Int32) (hf : f_X0_tell v p0 p1 = some r) : zMi zNF zNM l yX0_tell (zw yX0_tell cX0_tell 3 (some .int)) ({ frames := 4, cells := 0, slots := 0, locals := 85 } : Room) g [.ref (a 0), .int p0, .int p1] (zX0 g a v) r (zX0 g a v) := by
  intro sz
  refine Met.ofW (cc := cX0_tell) (maxL := 3) (ret := (some .int)) (by decide) rfl ?_
  intro p e s m args below meth c s₁ B hml hv
  obtain ⟨rfl, hsz, hP, hK, hD0⟩ := hv
  have hx := B.exec
  have hb := B.bytes
  have hr0 := B.returns
  have hts := atoms_spec (ws := (zw yX0_tell cX0_tell 3 (some .int))) B.pre
  have hw0 : ∀ w ∈ zW, w.before ([.ref (a 0), .int p0, .int p1] : List Value).toArray s = true := fun w h => hts w (List.mem_cons_of_mem _ h)
  have hown : s.vm.findClass RX0 = some m.cls := findClass_of_methodNamed B.named
  have hlocks := B.notSynchronized
  subst hsz
  have hD := hD0.self (sz := s.heap.size)
  generalize hAe : va_A (zX0 g a v) s.heap.size = A at hD ⊢
  have hA : ∀ q : Nat, s.heap.size ≤ q → A q := fun q h => by rw [← hAe]; exact Or.inr h
  have hS : va_S A s.heap s.heap [] := va_S.rf
  unfold f_X0_tell at hf
  have hl := lv_entry ([.ref (a 0), .int p0, .int p1]) (n := 3) (Nat.le_of_ble_eq_true rfl)
  rw [lg_entry_eq]
  generalize (lg_sl ([.ref (a 0), .int p0, .int p1]) ++ List.replicate (3 - (lg_sl ([.ref (a 0), .int p0, .int p1])).length) Slot.unset).toArray = ls at hl ⊢
  have hl : lv_has ls 3 [(0, .ref (a 0)), (1, .int p0), (2, .int p1)] := hl
  refine lv_aload_n hx hb dX0_tell_0 rfl (lv_at hl 0 rfl) ?_
  refine lv_iload_n hx hb dX0_tell_1 rfl (lv_at hl 1 rfl) ?_
  obtain ⟨u1, hu1, hf⟩ := ob hf
  refine zk_iA (va_runV (As := [.int p0]) (rest := []) ⟨hx, hb, hml, hown, hts⟩ (c_X0_has l g a v p0 _ hu1 _) (zcV hw0 zm2_169 zm2_143 zm1_3 zm2_142 zs1_9 hd_X0_has rfl rfl ⟨Nat.le_of_ble_eq_true rfl, Nat.le_of_ble_eq_true rfl⟩) ⟨zblind, zrecvA hK hP (ci := 0) rfl rfl, zpreA hK hP hD⟩ rfl rfl hl.1 rfl (lv_room (Nat.le_of_ble_eq_true rfl)) dX0_tell_2 ⟨Nat.zero_le _, Nat.zero_le _⟩) hP hD hS hA (fun H locs hP hD hS => ?_)
  refine lv_if_ne (tgt := 10) hx hb dX0_tell_5 (by decide) (fun c2 => ?_) (fun c2 => ?_)
  · have hf := oe hf c2
    refine lv_iload_n hx hb dX0_tell_10 rfl (lv_at hl 2 rfl) ?_
    by_cases c11 : p1 = 0
    · have hf := oi hf c11
      refine lv_tableIn (tgt := 48) hx hb dX0_tell_11 (off := 37) (by rw [c11]; decide) (by rw [c11]; decide) (by first | (rw [c11]; done) | (rw [c11]; rfl)) (by decide) ?_
      refine lv_aload_n hx hb dX0_tell_48 rfl (lv_at hl 0 rfl) ?_
      refine va_get (D := g.1) (ci := 0) (v := .ref (a 1)) (C := RX0) (T := TX0) (N := 6) hx hb hw0 ziX0 hown hK.1 hP 0 rfl rfl 1 (by decide) (hw0 _ zm1_40) (fun _ h9 => h9) rfl dX0_tell_49 ?_
      refine lv_iload_n hx hb dX0_tell_52 rfl (lv_at hl 1 rfl) ?_
      obtain ⟨h3, hf⟩ := og hf
      refine zald (D := g.1) (f := v.2.1) (k := p0.toNatClampNeg) hx hb hK.1 hP 1 0 rfl rfl (zin_vp h3) rfl dX0_tell_53 ?_
      have hR : (v.2.1 p0.toNatClampNeg) = r := Option.some.inj hf
      subst hR
      exact W.iret (v := (v.2.1 p0.toNatClampNeg)) hx hb hr0 (fun t ht hW => ⟨⟨(v.2.1 p0.toNatClampNeg), (), rfl, rfl, by rw [ht]; exact hP, hD⟩, hS.F ht⟩) hS.2.2 dX0_tell_54
    · have hf := oe hf c11
      by_cases c12 : p1 = 1
      · have hf := oi hf c12
        refine lv_tableIn (tgt := 55) hx hb dX0_tell_11 (off := 44) (by rw [c12]; decide) (by rw [c12]; decide) (by first | (rw [c12]; done) | (rw [c12]; rfl)) (by decide) ?_
        refine lv_aload_n hx hb dX0_tell_55 rfl (lv_at hl 0 rfl) ?_
        refine va_get (D := g.1) (ci := 0) (v := .ref (a 2)) (C := RX0) (T := TX0) (N := 6) hx hb hw0 ziX0 hown hK.1 hP 0 rfl rfl 2 (by decide) (hw0 _ zm1_43) (fun _ h9 => h9) rfl dX0_tell_56 ?_
        refine lv_iload_n hx hb dX0_tell_59 rfl (lv_at hl 1 rfl) ?_
        obtain ⟨h4, hf⟩ := og hf
        refine zald (D := g.1) (f := v.2.2.1) (k := p0.toNatClampNeg) hx hb hK.1 hP 2 0 rfl rfl (zin_vp h4) rfl dX0_tell_60 ?_
        have hR : (v.2.2.1 p0.toNatClampNeg) = r := Option.some.inj hf
        subst hR
        exact W.iret (v := (v.2.2.1 p0.toNatClampNeg)) hx hb hr0 (fun t ht hW => ⟨⟨(v.2.2.1 p0.toNatClampNeg), (), rfl, rfl, by rw [ht]; exact hP, hD⟩, hS.F ht⟩) hS.2.2 dX0_tell_61
      · have hf := oe hf c12
        by_cases c13 : p1 = 2
        · have hf := oi hf c13
          refine lv_tableIn (tgt := 62) hx hb dX0_tell_11 (off := 51) (by rw [c13]; decide) (by rw [c13]; decide) (by first | (rw [c13]; done) | (rw [c13]; rfl)) (by decide) ?_
          refine lv_aload_n hx hb dX0_tell_62 rfl (lv_at hl 0 rfl) ?_
          refine va_get (D := g.1) (ci := 0) (v := .ref (a 3)) (C := RX0) (T := TX0) (N := 6) hx hb hw0 ziX0 hown hK.1 hP 0 rfl rfl 3 (by decide) (hw0 _ zm1_44) (fun _ h9 => h9) rfl dX0_tell_63 ?_
          refine lv_iload_n hx hb dX0_tell_66 rfl (lv_at hl 1 rfl) ?_
          obtain ⟨h5, hf⟩ := og hf
          refine zald (D := g.1) (f := v.2.2.2.1) (k := p0.toNatClampNeg) hx hb hK.1 hP 3 0 rfl rfl (zin_vp h5) rfl dX0_tell_67 ?_
          have hR : (v.2.2.2.1 p0.toNatClampNeg) = r := Option.some.inj hf
          subst hR
          exact W.iret (v := (v.2.2.2.1 p0.toNatClampNeg)) hx hb hr0 (fun t ht hW => ⟨⟨(v.2.2.2.1 p0.toNatClampNeg), (), rfl, rfl, by rw [ht]; exact hP, hD⟩, hS.F ht⟩) hS.2.2 dX0_tell_68
        · have hf := oe hf c13
          by_cases c14 : p1 = 3
          · have hf := oi hf c14
            refine lv_tableIn (tgt := 69) hx hb dX0_tell_11 (off := 58) (by rw [c14]; decide) (by rw [c14]; decide) (by first | (rw [c14]; done) | (rw [c14]; rfl)) (by decide) ?_
            refine lv_aload_n hx hb dX0_tell_69 rfl (lv_at hl 0 rfl) ?_
            refine va_get (D := g.1) (ci := 0) (v := .ref (a 4)) (C := RX0) (T := TX0) (N := 6) hx hb hw0 ziX0 hown hK.1 hP 0 rfl rfl 4 (by decide) (hw0 _ zm1_45) (fun _ h9 => h9) rfl dX0_tell_70 ?_
            refine lv_iload_n hx hb dX0_tell_73 rfl (lv_at hl 1 rfl) ?_
            obtain ⟨h6, hf⟩ := og hf
            refine zald (D := g.1) (f := v.2.2.2.2.1) (k := p0.toNatClampNeg) hx hb hK.1 hP 4 0 rfl rfl (zin_vp h6) rfl dX0_tell_74 ?_
            have hR : (v.2.2.2.2.1 p0.toNatClampNeg) = r := Option.some.inj hf
            subst hR
            exact W.iret (v := (v.2.2.2.2.1 p0.toNatClampNeg)) hx hb hr0 (fun t ht hW => ⟨⟨(v.2.2.2.2.1 p0.toNatClampNeg), (), rfl, rfl, by rw [ht]; exact hP, hD⟩, hS.F ht⟩) hS.2.2 dX0_tell_75
          · have hf := oe hf c14
            by_cases c15 : p1 = 4
            · have hf := oi hf c15
              refine lv_tableIn (tgt := 76) hx hb dX0_tell_11 (off := 65) (by rw [c15]; decide) (by rw [c15]; decide) (by first | (rw [c15]; done) | (rw [c15]; rfl)) (by decide) ?_
              refine lv_aload_n hx hb dX0_tell_76 rfl (lv_at hl 0 rfl) ?_
              refine va_get (D := g.1) (ci := 0) (v := .ref (a 5)) (C := RX0) (T := TX0) (N := 6) hx hb hw0 ziX0 hown hK.1 hP 0 rfl rfl 5 (by decide) (hw0 _ zm1_47) (fun _ h9 => h9) rfl dX0_tell_77 ?_
              refine lv_iload_n hx hb dX0_tell_80 rfl (lv_at hl 1 rfl) ?_
              obtain ⟨h7, hf⟩ := og hf
              refine zald (D := g.1) (f := v.2.2.2.2.2) (k := p0.toNatClampNeg) hx hb hK.1 hP 5 0 rfl rfl (zin_vp h7) rfl dX0_tell_81 ?_
              have hR : (v.2.2.2.2.2 p0.toNatClampNeg) = r := Option.some.inj hf
              subst hR
              exact W.iret (v := (v.2.2.2.2.2 p0.toNatClampNeg)) hx hb hr0 (fun t ht hW => ⟨⟨(v.2.2.2.2.2 p0.toNatClampNeg), (), rfl, rfl, by rw [ht]; exact hP, hD⟩, hS.F ht⟩) hS.2.2 dX0_tell_82
            · have hf := oe hf c15
              by_cases c16 : p1 = 5
              · have hf := oi hf c16
                refine lv_tableIn (tgt := 83) hx hb dX0_tell_11 (off := 72) (by rw [c16]; decide) (by rw [c16]; decide) (by first | (rw [c16]; done) | (rw [c16]; rfl)) (by decide) ?_
                refine lv_aload_n hx hb dX0_tell_83 rfl (lv_at hl 0 rfl) ?_
                refine lv_iload_n hx hb dX0_tell_84 rfl (lv_at hl 1 rfl) ?_
                obtain ⟨u8, hu8, hf⟩ := ob hf
                refine zk_iA (va_runV (As := [.int p0]) (rest := []) ⟨hx, hb, hml, hown, hts⟩ (c_X0_lateness l g a v p0 _ hu8 _) (zcV hw0 zm3_167 zm3_93 zm1_3 zm3_92 zs3_9 hd_X0_lateness rfl rfl ⟨Nat.le_of_ble_eq_true rfl, Nat.le_of_ble_eq_true rfl⟩) ⟨zblind, zrecvA hK hP (ci := 0) rfl rfl, zpreA hK hP hD⟩ rfl rfl hl.1 rfl (lv_room (Nat.le_of_ble_eq_true rfl)) dX0_tell_85 ⟨Nat.zero_le _, Nat.zero_le _⟩) hP hD hS hA (fun H locs hP hD hS => ?_)
                have hR : u8 = r := Option.some.inj hf
                subst hR
                exact W.iret (v := u8) hx hb hr0 (fun t ht hW => ⟨⟨u8, (), rfl, rfl, by rw [ht]; exact hP, hD⟩, hS.F ht⟩) hS.2.2 dX0_tell_88
              · have hf := oe hf c16
                refine lv_tableOut (tgt := 89) hx hb dX0_tell_11 (zsw 5 (by decide) (fun k hk => by rcases (show k = 0 ∨ k = 1 ∨ k = 2 ∨ k = 3 ∨ k = 4 ∨ k = 5 by omega) with rfl | rfl | rfl | rfl | rfl | rfl <;> assumption)) (by decide) ?_
                refine lv_aload_n hx hb dX0_tell_89 rfl (lv_at hl 0 rfl) ?_
                refine lv_iload_n hx hb dX0_tell_90 rfl (lv_at hl 1 rfl) ?_
                obtain ⟨u9, hu9, hf⟩ := ob hf
                refine zk_iA (va_runV (As := [.int p0]) (rest := []) ⟨hx, hb, hml, hown, hts⟩ (c_X0_inSection l g a v p0 _ hu9 _) (zcV hw0 zm3_168 zm3_171 zm1_3 zm3_170 zs3_14 hd_X0_inSection rfl rfl ⟨Nat.le_of_ble_eq_true rfl, Nat.le_of_ble_eq_true rfl⟩) ⟨zblind, zrecvA hK hP (ci := 0) rfl rfl, zpreA hK hP hD⟩ rfl rfl hl.1 rfl (lv_room (Nat.le_of_ble_eq_true rfl)) dX0_tell_91 ⟨Nat.zero_le _, Nat.zero_le _⟩) hP hD hS hA (fun H locs hP hD hS => ?_)
                refine lv_if_eq (tgt := 101) hx hb dX0_tell_94 (by decide) (fun c10 => ?_) (fun c10 => ?_)
                · have hf := oi hf c10
                  refine lv_iconst (v := 0) hx hb dX0_tell_101 (by decide) ?_
                  have hR : 0 = r := Option.some.inj hf
                  subst hR
                  exact W.iret (v := 0) hx hb hr0 (fun t ht hW => ⟨⟨0, (), rfl, rfl, by rw [ht]; exact hP, hD⟩, hS.F ht⟩) hS.2.2 dX0_tell_102
                · have hf := oe hf c10
                  refine lv_iconst (v := 1) hx hb dX0_tell_97 (by decide) ?_
                  refine lv_goto (tgt := 102) hx hb dX0_tell_98 (by decide) ?_
                  have hR : 1 = r := Option.some.inj hf
                  subst hR
                  exact W.iret (v := 1) hx hb hr0 (fun t ht hW => ⟨⟨1, (), rfl, rfl, by rw [ht]; exact hP, hD⟩, hS.F ht⟩) hS.2.2 dX0_tell_102
  · have hf := oi hf c2
    refine lv_iconst (v := (-1)) hx hb dX0_tell_8 (by decide) ?_
    have hR : (-1) = r := Option.some.inj hf
    subst hR
    exact W.iret (v := (-1)) hx hb hr0 (fun t ht hW => ⟨⟨(-1), (), rfl, rfl, by rw [ht]; exact hP, hD⟩, hS.F ht⟩) hS.2.2 dX0_tell_9
