theorem hd_X3_copyFrom : yX3_copyFrom.cls ≠ "java/lang/invoke/MethodHandle" ∧ yX3_copyFrom.cls ≠ "java/lang/invoke/VarHandle" ∧ (parseMethodDescriptor yX3_copyFrom.desc).map (fun d => d.parameters.length) = some 1 := by decide +kernel
def f_X3_copyFrom (v : LV) (w : LV) : Option (LV) :=
  some (w.1, (va_cpy w.2.1 v.2.1 0 0 35), (va_cpy w.2.2.1 v.2.2.1 0 0 35), (va_cpy w.2.2.2 v.2.2.2 0 0 35))
set_option maxHeartbeats 4000000 in
set_option maxRecDepth 100000 in
theorem c_X3_copyFrom (l : Launch) (g : zG) (a : Nat → Nat) (b : Nat → Nat) (v : LV) (w : LV) (r : LV) (hf : f_X3_copyFrom v w = some r) : zMv zNF zNM l yX3_copyFrom (zw yX3_copyFrom cX3_copyFrom 2 none) ({ frames := 1, cells := 0, slots := 0, locals := 40 } : Room) g [.ref (a 0), .ref (b 0)] (zX3 g a v ++ zX3 g b w) (zX3 g a r ++ zX3 g b w) := by
  intro sz
  refine Met.ofW (cc := cX3_copyFrom) (maxL := 2) (ret := none) (by decide) rfl ?_
  intro p e s m args below meth c s₁ B hml hv
  obtain ⟨rfl, hsz, hP, hK, hD0⟩ := hv
  have hx := B.exec
  have hb := B.bytes
  have hr0 := B.returns
  have hts := atoms_spec (ws := (zw yX3_copyFrom cX3_copyFrom 2 none)) B.pre
  have hw0 : ∀ w ∈ zW, w.before ([.ref (a 0), .ref (b 0)] : List Value).toArray s = true := fun w h => hts w (List.mem_cons_of_mem _ h)
  have hown : s.vm.findClass RX3 = some m.cls := findClass_of_methodNamed B.named
  have hlocks := B.notSynchronized
  subst hsz
  have hD := hD0.self (sz := s.heap.size)
  generalize hAe : va_A (zX3 g a v ++ zX3 g b w) s.heap.size = A at hD ⊢
  have hA : ∀ q : Nat, s.heap.size ≤ q → A q := fun q h => by rw [← hAe]; exact Or.inr h
  have hS : va_S A s.heap s.heap [] := va_S.rf
  unfold f_X3_copyFrom at hf
  have hl := lv_entry ([.ref (a 0), .ref (b 0)]) (n := 2) (Nat.le_of_ble_eq_true rfl)
  rw [lg_entry_eq]
  generalize (lg_sl ([.ref (a 0), .ref (b 0)]) ++ List.replicate (2 - (lg_sl ([.ref (a 0), .ref (b 0)])).length) Slot.unset).toArray = ls at hl ⊢
  have hl : lv_has ls 2 [(0, .ref (a 0)), (1, .ref (b 0))] := hl
  refine lv_aload_n hx hb dX3_copyFrom_0 rfl (lv_at hl 0 rfl) ?_
  refine lv_aload_n hx hb dX3_copyFrom_1 rfl (lv_at hl 1 rfl) ?_
  refine va_get (D := g.1) (ci := 3) (v := .int w.1) (C := RX3) (T := TX3) (N := 4) hx hb hw0 ziX3 hown hK.1 hP 4 rfl rfl 0 (by decide) (hw0 _ zm1_127) (fun _ h9 => h9) rfl dX3_copyFrom_2 ?_
  refine va_put (D := g.1) (ci := 3) (v := .int w.1) (ty := .int) (C := RX3) (T := TX3) (N := 4) hx hb hw0 ziX3 tyX3 tyX3_ok nmX3 hown hK.1 hP hD hS 0 rfl rfl 0 (by decide) (hw0 _ zm1_127) (fun _ h9 => h9) rfl (tyX3_ok 0 (by decide)) rfl rfl (Nat.le_of_ble_eq_true rfl) dX3_copyFrom_5 (fun H locs hP hD hS => ?_)
  have hP : va_P g.1 vwCl (zX3 g a (w.1, v.2.1, v.2.2.1, v.2.2.2) ++ zX3 g b w) H := hP
  have hD : va_D A (zX3 g a (w.1, v.2.1, v.2.2.1, v.2.2.2) ++ zX3 g b w) := hD
  refine lv_aload_n hx hb dX3_copyFrom_8 rfl (lv_at hl 1 rfl) ?_
  refine va_get (D := g.1) (ci := 3) (v := .ref (b 1)) (C := RX3) (T := TX3) (N := 4) hx hb hw0 ziX3 hown hK.1 hP 4 rfl rfl 1 (by decide) (hw0 _ zm1_129) (fun _ h9 => h9) rfl dX3_copyFrom_9 ?_
  refine lv_iconst (v := 0) hx hb dX3_copyFrom_12 (by decide) ?_
  refine lv_aload_n hx hb dX3_copyFrom_13 rfl (lv_at hl 0 rfl) ?_
  refine va_get (D := g.1) (ci := 3) (v := .ref (a 1)) (C := RX3) (T := TX3) (N := 4) hx hb hw0 ziX3 hown hK.1 hP 0 rfl rfl 1 (by decide) (hw0 _ zm1_129) (fun _ h9 => h9) rfl dX3_copyFrom_14 ?_
  refine lv_iconst (v := 0) hx hb dX3_copyFrom_17 (by decide) ?_
  refine lv_bipush (v := 35) hx hb dX3_copyFrom_18 (by decide) ?_
  refine va_copyi (D := g.1) (f := w.2.1) (g := v.2.1) hx hb (hml.trans hl.1.symm) hown (hw0 _ zm2_113) (hw0 _ zm2_103) (hw0 _ zm2_102) (hw0 _ zm1_14) hK.1 hP hD hS 5 1 0 0 rfl rfl rfl rfl rfl (by decide) (by decide) (by decide) (by decide) (by decide) (fun _ _ => rfl) (Nat.le_of_ble_eq_true rfl) (by decide) dX3_copyFrom_20 (fun H locs hP hD hS => ?_)
  have hP : va_P g.1 vwCl (zX3 g a (w.1, (va_cpy w.2.1 v.2.1 0 0 35), v.2.2.1, v.2.2.2) ++ zX3 g b w) H := hP
  have hD : va_D A (zX3 g a (w.1, (va_cpy w.2.1 v.2.1 0 0 35), v.2.2.1, v.2.2.2) ++ zX3 g b w) := hD
  refine lv_aload_n hx hb dX3_copyFrom_23 rfl (lv_at hl 1 rfl) ?_
  refine va_get (D := g.1) (ci := 3) (v := .ref (b 2)) (C := RX3) (T := TX3) (N := 4) hx hb hw0 ziX3 hown hK.1 hP 4 rfl rfl 2 (by decide) (hw0 _ zm1_130) (fun _ h9 => h9) rfl dX3_copyFrom_24 ?_
  refine lv_iconst (v := 0) hx hb dX3_copyFrom_27 (by decide) ?_
  refine lv_aload_n hx hb dX3_copyFrom_28 rfl (lv_at hl 0 rfl) ?_
  refine va_get (D := g.1) (ci := 3) (v := .ref (a 2)) (C := RX3) (T := TX3) (N := 4) hx hb hw0 ziX3 hown hK.1 hP 0 rfl rfl 2 (by decide) (hw0 _ zm1_130) (fun _ h9 => h9) rfl dX3_copyFrom_29 ?_
  refine lv_iconst (v := 0) hx hb dX3_copyFrom_32 (by decide) ?_
  refine lv_bipush (v := 35) hx hb dX3_copyFrom_33 (by decide) ?_
  refine va_copyi (D := g.1) (f := w.2.2.1) (g := v.2.2.1) hx hb (hml.trans hl.1.symm) hown (hw0 _ zm2_113) (hw0 _ zm2_103) (hw0 _ zm2_102) (hw0 _ zm1_14) hK.1 hP hD hS 6 2 0 0 rfl rfl rfl rfl rfl (by decide) (by decide) (by decide) (by decide) (by decide) (fun _ _ => rfl) (Nat.le_of_ble_eq_true rfl) (by decide) dX3_copyFrom_35 (fun H locs hP hD hS => ?_)
  have hP : va_P g.1 vwCl (zX3 g a (w.1, (va_cpy w.2.1 v.2.1 0 0 35), (va_cpy w.2.2.1 v.2.2.1 0 0 35), v.2.2.2) ++ zX3 g b w) H := hP
  have hD : va_D A (zX3 g a (w.1, (va_cpy w.2.1 v.2.1 0 0 35), (va_cpy w.2.2.1 v.2.2.1 0 0 35), v.2.2.2) ++ zX3 g b w) := hD
  refine lv_aload_n hx hb dX3_copyFrom_38 rfl (lv_at hl 1 rfl) ?_
  refine va_get (D := g.1) (ci := 3) (v := .ref (b 3)) (C := RX3) (T := TX3) (N := 4) hx hb hw0 ziX3 hown hK.1 hP 4 rfl rfl 3 (by decide) (hw0 _ zm1_131) (fun _ h9 => h9) rfl dX3_copyFrom_39 ?_
  refine lv_iconst (v := 0) hx hb dX3_copyFrom_42 (by decide) ?_
  refine lv_aload_n hx hb dX3_copyFrom_43 rfl (lv_at hl 0 rfl) ?_
  refine va_get (D := g.1) (ci := 3) (v := .ref (a 3)) (C := RX3) (T := TX3) (N := 4) hx hb hw0 ziX3 hown hK.1 hP 0 rfl rfl 3 (by decide) (hw0 _ zm1_131) (fun _ h9 => h9) rfl dX3_copyFrom_44 ?_
  refine lv_iconst (v := 0) hx hb dX3_copyFrom_47 (by decide) ?_
  refine lv_bipush (v := 35) hx hb dX3_copyFrom_48 (by decide) ?_
  refine va_copyi (D := g.1) (f := w.2.2.2) (g := v.2.2.2) hx hb (hml.trans hl.1.symm) hown (hw0 _ zm2_113) (hw0 _ zm2_103) (hw0 _ zm2_102) (hw0 _ zm1_14) hK.1 hP hD hS 7 3 0 0 rfl rfl rfl rfl rfl (by decide) (by decide) (by decide) (by decide) (by decide) (fun _ _ => rfl) (Nat.le_of_ble_eq_true rfl) (by decide) dX3_copyFrom_50 (fun H locs hP hD hS => ?_)
  have hP : va_P g.1 vwCl (zX3 g a (w.1, (va_cpy w.2.1 v.2.1 0 0 35), (va_cpy w.2.2.1 v.2.2.1 0 0 35), (va_cpy w.2.2.2 v.2.2.2 0 0 35)) ++ zX3 g b w) H := hP
  have hD : va_D A (zX3 g a (w.1, (va_cpy w.2.1 v.2.1 0 0 35), (va_cpy w.2.2.1 v.2.2.1 0 0 35), (va_cpy w.2.2.2 v.2.2.2 0 0 35)) ++ zX3 g b w) := hD
  have hR : (w.1, (va_cpy w.2.1 v.2.1 0 0 35), (va_cpy w.2.2.1 v.2.2.1 0 0 35), (va_cpy w.2.2.2 v.2.2.2 0 0 35)) = r := Option.some.inj hf
  subst hR
  exact W.vret hx hb hr0 (fun t ht hW => ⟨⟨(), rfl, trivial, by rw [ht]; exact hP, hD⟩, hS.F ht⟩) hS.2.2 dX3_copyFrom_53
theorem hd_X3_add : yX3_add.cls ≠ "java/lang/invoke/MethodHandle" ∧ yX3_add.cls ≠ "java/lang/invoke/VarHandle" ∧ (parseMethodDescriptor yX3_add.desc).map (fun d => d.parameters.length) = some 3 := by decide +kernel
def f_X3_add (v : LV) (p0 : Int32) (p1 : Int32) (p2 : Int32) : Option (LV) :=
  if v.1 < 35 then
    if zin v.1 35 = true then
    if zin v.1 35 = true then
    if zin v.1 35 = true then
    some ((v.1 + 1), (upd v.2.1 v.1.toNatClampNeg p0), (upd v.2.2.1 v.1.toNatClampNeg p1), (upd v.2.2.2 v.1.toNatClampNeg p2))
    else none
    else none
    else none
  else
    some v
set_option maxHeartbeats 4000000 in
set_option maxRecDepth 100000 in
theorem c_X3_add (l : Launch) (g : zG) (a : Nat → Nat) (v : LV) (p0 : Int32) (p1 : Int32) (p2 : Int32) (r : LV) (hf : f_X3_add v p0 p1 p2 = some r) : zMv zNF zNM l yX3_add (zw yX3_add cX3_add 4 none) ({ frames := 0, cells := 0, slots := 0, locals := 0 } : Room) g [.ref (a 0), .int p0, .int p1, .int p2] (zX3 g a v) (zX3 g a r) := by
  intro sz
  refine Met.ofW (cc := cX3_add) (maxL := 4) (ret := none) (by decide) rfl ?_
  intro p e s m args below meth c s₁ B hml hv
  obtain ⟨rfl, hsz, hP, hK, hD0⟩ := hv
  have hx := B.exec
  have hb := B.bytes
  have hr0 := B.returns
  have hts := atoms_spec (ws := (zw yX3_add cX3_add 4 none)) B.pre
  have hw0 : ∀ w ∈ zW, w.before ([.ref (a 0), .int p0, .int p1, .int p2] : List Value).toArray s = true := fun w h => hts w (List.mem_cons_of_mem _ h)
  have hown : s.vm.findClass RX3 = some m.cls := findClass_of_methodNamed B.named
  have hlocks := B.notSynchronized
  subst hsz
  have hD := hD0.self (sz := s.heap.size)
  generalize hAe : va_A (zX3 g a v) s.heap.size = A at hD ⊢
  have hA : ∀ q : Nat, s.heap.size ≤ q → A q := fun q h => by rw [← hAe]; exact Or.inr h
  have hS : va_S A s.heap s.heap [] := va_S.rf
  unfold f_X3_add at hf
  have hl := lv_entry ([.ref (a 0), .int p0, .int p1, .int p2]) (n := 4) (Nat.le_of_ble_eq_true rfl)
  rw [lg_entry_eq]
  generalize (lg_sl ([.ref (a 0), .int p0, .int p1, .int p2]) ++ List.replicate (4 - (lg_sl ([.ref (a 0), .int p0, .int p1, .int p2])).length) Slot.unset).toArray = ls at hl ⊢
  have hl : lv_has ls 4 [(0, .ref (a 0)), (1, .int p0), (2, .int p1), (3, .int p2)] := hl
  refine lv_aload_n hx hb dX3_add_0 rfl (lv_at hl 0 rfl) ?_
  refine va_get (D := g.1) (ci := 3) (v := .int v.1) (C := RX3) (T := TX3) (N := 4) hx hb hw0 ziX3 hown hK.1 hP 0 rfl rfl 0 (by decide) (hw0 _ zm1_127) (fun _ h9 => h9) rfl dX3_add_1 ?_
  refine lv_bipush (v := 35) hx hb dX3_add_4 (by decide) ?_
  refine lv_icmp_lt (tgt := 10) hx hb dX3_add_6 (by decide) (fun c1 => ?_) (fun c1 => ?_)
  · have hf := oi hf c1
    refine lv_aload_n hx hb dX3_add_10 rfl (lv_at hl 0 rfl) ?_
    refine va_get (D := g.1) (ci := 3) (v := .ref (a 1)) (C := RX3) (T := TX3) (N := 4) hx hb hw0 ziX3 hown hK.1 hP 0 rfl rfl 1 (by decide) (hw0 _ zm1_129) (fun _ h9 => h9) rfl dX3_add_11 ?_
    refine lv_aload_n hx hb dX3_add_14 rfl (lv_at hl 0 rfl) ?_
    refine va_get (D := g.1) (ci := 3) (v := .int v.1) (C := RX3) (T := TX3) (N := 4) hx hb hw0 ziX3 hown hK.1 hP 0 rfl rfl 0 (by decide) (hw0 _ zm1_127) (fun _ h9 => h9) rfl dX3_add_15 ?_
    refine lv_iload_n hx hb dX3_add_18 rfl (lv_at hl 1 rfl) ?_
    obtain ⟨h2, hf⟩ := og hf
    refine zast (D := g.1) (f := v.2.1) (k := v.1.toNatClampNeg) (x := p0) hx hb hK.1 hP hD hS 1 0 rfl rfl (zin_vp h2) rfl dX3_add_19 (fun H locs hP hD hS => ?_)
    have hP : va_P g.1 vwCl (zX3 g a (v.1, (upd v.2.1 v.1.toNatClampNeg p0), v.2.2.1, v.2.2.2)) H := hP
    have hD : va_D A (zX3 g a (v.1, (upd v.2.1 v.1.toNatClampNeg p0), v.2.2.1, v.2.2.2)) := hD
    refine lv_aload_n hx hb dX3_add_20 rfl (lv_at hl 0 rfl) ?_
    refine va_get (D := g.1) (ci := 3) (v := .ref (a 2)) (C := RX3) (T := TX3) (N := 4) hx hb hw0 ziX3 hown hK.1 hP 0 rfl rfl 2 (by decide) (hw0 _ zm1_130) (fun _ h9 => h9) rfl dX3_add_21 ?_
    refine lv_aload_n hx hb dX3_add_24 rfl (lv_at hl 0 rfl) ?_
    refine va_get (D := g.1) (ci := 3) (v := .int v.1) (C := RX3) (T := TX3) (N := 4) hx hb hw0 ziX3 hown hK.1 hP 0 rfl rfl 0 (by decide) (hw0 _ zm1_127) (fun _ h9 => h9) rfl dX3_add_25 ?_
    refine lv_iload_n hx hb dX3_add_28 rfl (lv_at hl 2 rfl) ?_
    obtain ⟨h3, hf⟩ := og hf
    refine zast (D := g.1) (f := v.2.2.1) (k := v.1.toNatClampNeg) (x := p1) hx hb hK.1 hP hD hS 2 0 rfl rfl (zin_vp h3) rfl dX3_add_29 (fun H locs hP hD hS => ?_)
    have hP : va_P g.1 vwCl (zX3 g a (v.1, (upd v.2.1 v.1.toNatClampNeg p0), (upd v.2.2.1 v.1.toNatClampNeg p1), v.2.2.2)) H := hP
    have hD : va_D A (zX3 g a (v.1, (upd v.2.1 v.1.toNatClampNeg p0), (upd v.2.2.1 v.1.toNatClampNeg p1), v.2.2.2)) := hD
    refine lv_aload_n hx hb dX3_add_30 rfl (lv_at hl 0 rfl) ?_
    refine va_get (D := g.1) (ci := 3) (v := .ref (a 3)) (C := RX3) (T := TX3) (N := 4) hx hb hw0 ziX3 hown hK.1 hP 0 rfl rfl 3 (by decide) (hw0 _ zm1_131) (fun _ h9 => h9) rfl dX3_add_31 ?_
    refine lv_aload_n hx hb dX3_add_34 rfl (lv_at hl 0 rfl) ?_
    refine va_get (D := g.1) (ci := 3) (v := .int v.1) (C := RX3) (T := TX3) (N := 4) hx hb hw0 ziX3 hown hK.1 hP 0 rfl rfl 0 (by decide) (hw0 _ zm1_127) (fun _ h9 => h9) rfl dX3_add_35 ?_
    refine lv_iload_n hx hb dX3_add_38 rfl (lv_at hl 3 rfl) ?_
    obtain ⟨h4, hf⟩ := og hf
    refine zast (D := g.1) (f := v.2.2.2) (k := v.1.toNatClampNeg) (x := p2) hx hb hK.1 hP hD hS 3 0 rfl rfl (zin_vp h4) rfl dX3_add_39 (fun H locs hP hD hS => ?_)
    have hP : va_P g.1 vwCl (zX3 g a (v.1, (upd v.2.1 v.1.toNatClampNeg p0), (upd v.2.2.1 v.1.toNatClampNeg p1), (upd v.2.2.2 v.1.toNatClampNeg p2))) H := hP
    have hD : va_D A (zX3 g a (v.1, (upd v.2.1 v.1.toNatClampNeg p0), (upd v.2.2.1 v.1.toNatClampNeg p1), (upd v.2.2.2 v.1.toNatClampNeg p2))) := hD
    refine lv_aload_n hx hb dX3_add_40 rfl (lv_at hl 0 rfl) ?_
    refine lv_dup hx hb dX3_add_41 rfl ?_
    refine va_get (D := g.1) (ci := 3) (v := .int v.1) (C := RX3) (T := TX3) (N := 4) hx hb hw0 ziX3 hown hK.1 hP 0 rfl rfl 0 (by decide) (hw0 _ zm1_127) (fun _ h9 => h9) rfl dX3_add_42 ?_
    refine lv_iconst (v := 1) hx hb dX3_add_45 (by decide) ?_
    refine lv_iadd hx hb dX3_add_46 ?_
    refine va_put (D := g.1) (ci := 3) (v := .int (v.1 + 1)) (ty := .int) (C := RX3) (T := TX3) (N := 4) hx hb hw0 ziX3 tyX3 tyX3_ok nmX3 hown hK.1 hP hD hS 0 rfl rfl 0 (by decide) (hw0 _ zm1_127) (fun _ h9 => h9) rfl (tyX3_ok 0 (by decide)) rfl rfl (Nat.le_of_ble_eq_true rfl) dX3_add_47 (fun H locs hP hD hS => ?_)
    have hP : va_P g.1 vwCl (zX3 g a ((v.1 + 1), (upd v.2.1 v.1.toNatClampNeg p0), (upd v.2.2.1 v.1.toNatClampNeg p1), (upd v.2.2.2 v.1.toNatClampNeg p2))) H := hP
    have hD : va_D A (zX3 g a ((v.1 + 1), (upd v.2.1 v.1.toNatClampNeg p0), (upd v.2.2.1 v.1.toNatClampNeg p1), (upd v.2.2.2 v.1.toNatClampNeg p2))) := hD
    have hR : ((v.1 + 1), (upd v.2.1 v.1.toNatClampNeg p0), (upd v.2.2.1 v.1.toNatClampNeg p1), (upd v.2.2.2 v.1.toNatClampNeg p2)) = r := Option.some.inj hf
    subst hR
    exact W.vret hx hb hr0 (fun t ht hW => ⟨⟨(), rfl, trivial, by rw [ht]; exact hP, hD⟩, hS.F ht⟩) hS.2.2 dX3_add_50
  · have hf := oe hf c1
    have hR : v = r := Option.some.inj hf
    subst hR
    exact W.vret hx hb hr0 (fun t ht hW => ⟨⟨(), rfl, trivial, by rw [ht]; exact hP, hD⟩, hS.F ht⟩) hS.2.2 dX3_add_9
theorem hd_X3_has : yX3_has.cls ≠ "java/lang/invoke/MethodHandle" ∧ yX3_has.cls ≠ "java/lang/invoke/VarHandle" ∧ (parseMethodDescriptor yX3_has.desc).map (fun d => d.parameters.length) = some 1 := by decide +kernel
def f_X3_has (v : LV) (p0 : Int32) : Option (Bool) :=
  if p0 < 0 then
    some false
  else
    if v.1 ≤ p0 then
      some false
    else
      some true
set_option maxHeartbeats 4000000 in
set_option maxRecDepth 100000 in
theorem c_X3_has (l : Launch) (g : zG) (a : Nat → Nat) (v : LV) (p0 : Int32) (r : Bool) (hf : f_X3_has v p0 = some r) : zMi zNF zNM l yX3_has (zw yX3_has cX3_has 2 (some .boolean)) ({ frames := 0, cells := 0, slots := 0, locals := 0 } : Room) g [.ref (a 0), .int p0] (zX3 g a v) (zb r) (zX3 g a v) := by
  intro sz
  refine Met.ofW (cc := cX3_has) (maxL := 2) (ret := (some .boolean)) (by decide) rfl ?_
  intro p e s m args below meth c s₁ B hml hv
  obtain ⟨rfl, hsz, hP, hK, hD0⟩ := hv
  have hx := B.exec
  have hb := B.bytes
  have hr0 := B.returns
  have hts := atoms_spec (ws := (zw yX3_has cX3_has 2 (some .boolean))) B.pre
  have hw0 : ∀ w ∈ zW, w.before ([.ref (a 0), .int p0] : List Value).toArray s = true := fun w h => hts w (List.mem_cons_of_mem _ h)
  have hown : s.vm.findClass RX3 = some m.cls := findClass_of_methodNamed B.named
  have hlocks := B.notSynchronized
  subst hsz
  have hD := hD0.self (sz := s.heap.size)
  generalize hAe : va_A (zX3 g a v) s.heap.size = A at hD ⊢
  have hA : ∀ q : Nat, s.heap.size ≤ q → A q := fun q h => by rw [← hAe]; exact Or.inr h
  have hS : va_S A s.heap s.heap [] := va_S.rf
  unfold f_X3_has at hf
  have hl := lv_entry ([.ref (a 0), .int p0]) (n := 2) (Nat.le_of_ble_eq_true rfl)
  rw [lg_entry_eq]
  generalize (lg_sl ([.ref (a 0), .int p0]) ++ List.replicate (2 - (lg_sl ([.ref (a 0), .int p0])).length) Slot.unset).toArray = ls at hl ⊢
  have hl : lv_has ls 2 [(0, .ref (a 0)), (1, .int p0)] := hl
  refine lv_iload_n hx hb dX3_has_0 rfl (lv_at hl 1 rfl) ?_
  refine lv_if_lt (tgt := 16) hx hb dX3_has_1 (by decide) (fun c1 => ?_) (fun c1 => ?_)
  · have hf := oi hf c1
    refine lv_iconst (v := 0) hx hb dX3_has_16 (by decide) ?_
    have hR : false = r := Option.some.inj hf
    subst hR
    exact W.zret (v := zb false) hx hb hr0 (zb_nar false) (fun t ht hW => ⟨⟨zb false, (), rfl, rfl, by rw [ht]; exact hP, hD⟩, hS.F ht⟩) hS.2.2 dX3_has_17
  · have hf := oe hf c1
    refine lv_iload_n hx hb dX3_has_4 rfl (lv_at hl 1 rfl) ?_
    refine lv_aload_n hx hb dX3_has_5 rfl (lv_at hl 0 rfl) ?_
    refine va_get (D := g.1) (ci := 3) (v := .int v.1) (C := RX3) (T := TX3) (N := 4) hx hb hw0 ziX3 hown hK.1 hP 0 rfl rfl 0 (by decide) (hw0 _ zm1_127) (fun _ h9 => h9) rfl dX3_has_6 ?_
    refine lv_icmp_ge (tgt := 16) hx hb dX3_has_9 (by decide) (fun c2 => ?_) (fun c2 => ?_)
    · have hf := oi hf c2
      refine lv_iconst (v := 0) hx hb dX3_has_16 (by decide) ?_
      have hR : false = r := Option.some.inj hf
      subst hR
      exact W.zret (v := zb false) hx hb hr0 (zb_nar false) (fun t ht hW => ⟨⟨zb false, (), rfl, rfl, by rw [ht]; exact hP, hD⟩, hS.F ht⟩) hS.2.2 dX3_has_17
    · have hf := oe hf c2
      refine lv_iconst (v := 1) hx hb dX3_has_12 (by decide) ?_
      refine lv_goto (tgt := 17) hx hb dX3_has_13 (by decide) ?_
      have hR : true = r := Option.some.inj hf
      subst hR
      exact W.zret (v := zb true) hx hb hr0 (zb_nar true) (fun t ht hW => ⟨⟨zb true, (), rfl, rfl, by rw [ht]; exact hP, hD⟩, hS.F ht⟩) hS.2.2 dX3_has_17
theorem hd_X3_tell : yX3_tell.cls ≠ "java/lang/invoke/MethodHandle" ∧ yX3_tell.cls ≠ "java/lang/invoke/VarHandle" ∧ (parseMethodDescriptor yX3_tell.desc).map (fun d => d.parameters.length) = some 2 := by decide +kernel
def f_X3_tell (v : LV) (p0 : Int32) (p1 : Int32) : Option (Int32) :=
  (f_X3_has v p0).bind (fun u1 =>
  if (zb u1) = 0 then
    some (-1)
  else
    if p1 = 0 then
      if zin p0 35 = true then
      some (v.2.1 p0.toNatClampNeg)
      else none
    else
      if p1 = 1 then
        if zin p0 35 = true then
        some (v.2.2.1 p0.toNatClampNeg)
        else none
      else
        if zin p0 35 = true then
        some (v.2.2.2 p0.toNatClampNeg)
        else none)
set_option maxHeartbeats 4000000 in
set_option maxRecDepth 100000 in
theorem c_X3_tell (l : Launch) (g : zG) (a : Nat → Nat) (v : LV) (p0 : Int32) (p1 : Int32) (r : Int32) (hf : f_X3_tell v p0 p1 = some r) : zMi zNF zNM l yX3_tell (zw yX3_tell cX3_tell 3 (some .int)) ({ frames := 1, cells := 0, slots := 0, locals := 21 } : Room) g [.ref (a 0), .int p0, .int p1] (zX3 g a v) r (zX3 g a v) := by
  intro sz
  refine Met.ofW (cc := cX3_tell) (maxL := 3) (ret := (some .int)) (by decide) rfl ?_
  intro p e s m args below meth c s₁ B hml hv
  obtain ⟨rfl, hsz, hP, hK, hD0⟩ := hv
  have hx := B.exec
  have hb := B.bytes
  have hr0 := B.returns
  have hts := atoms_spec (ws := (zw yX3_tell cX3_tell 3 (some .int))) B.pre
  have hw0 : ∀ w ∈ zW, w.before ([.ref (a 0), .int p0, .int p1] : List Value).toArray s = true := fun w h => hts w (List.mem_cons_of_mem _ h)
  have hown : s.vm.findClass RX3 = some m.cls := findClass_of_methodNamed B.named
  have hlocks := B.notSynchronized
  subst hsz
  have hD := hD0.self (sz := s.heap.size)
  generalize hAe : va_A (zX3 g a v) s.heap.size = A at hD ⊢
  have hA : ∀ q : Nat, s.heap.size ≤ q → A q := fun q h => by rw [← hAe]; exact Or.inr h
  have hS : va_S A s.heap s.heap [] := va_S.rf
  unfold f_X3_tell at hf
  have hl := lv_entry ([.ref (a 0), .int p0, .int p1]) (n := 3) (Nat.le_of_ble_eq_true rfl)
  rw [lg_entry_eq]
  generalize (lg_sl ([.ref (a 0), .int p0, .int p1]) ++ List.replicate (3 - (lg_sl ([.ref (a 0), .int p0, .int p1])).length) Slot.unset).toArray = ls at hl ⊢
  have hl : lv_has ls 3 [(0, .ref (a 0)), (1, .int p0), (2, .int p1)] := hl
  refine lv_aload_n hx hb dX3_tell_0 rfl (lv_at hl 0 rfl) ?_
  refine lv_iload_n hx hb dX3_tell_1 rfl (lv_at hl 1 rfl) ?_
  obtain ⟨u1, hu1, hf⟩ := ob hf
  refine zk_iA (va_runV (As := [.int p0]) (rest := []) ⟨hx, hb, hml, hown, hts⟩ (c_X3_has l g a v p0 _ hu1 _) (zcV hw0 zm3_214 zm3_208 zm1_6 zm3_207 zs4_1 hd_X3_has rfl rfl ⟨Nat.le_of_ble_eq_true rfl, Nat.le_of_ble_eq_true rfl⟩) ⟨zblind, zrecvA hK hP (ci := 3) rfl rfl, zpreA hK hP hD⟩ rfl rfl hl.1 rfl (lv_room (Nat.le_of_ble_eq_true rfl)) dX3_tell_2 ⟨Nat.zero_le _, Nat.zero_le _⟩) hP hD hS hA (fun H locs hP hD hS => ?_)
  refine lv_if_ne (tgt := 10) hx hb dX3_tell_5 (by decide) (fun c2 => ?_) (fun c2 => ?_)
  · have hf := oe hf c2
    refine lv_iload_n hx hb dX3_tell_10 rfl (lv_at hl 2 rfl) ?_
    by_cases c6 : p1 = 0
    · have hf := oi hf c6
      refine lv_lookup (tgt := 36) (off := 25) hx hb dX3_tell_11 (by decide) (by first | (rw [c6]; done) | (rw [c6]; rfl)) (by decide) ?_
      refine lv_aload_n hx hb dX3_tell_36 rfl (lv_at hl 0 rfl) ?_
      refine va_get (D := g.1) (ci := 3) (v := .ref (a 1)) (C := RX3) (T := TX3) (N := 4) hx hb hw0 ziX3 hown hK.1 hP 0 rfl rfl 1 (by decide) (hw0 _ zm1_129) (fun _ h9 => h9) rfl dX3_tell_37 ?_
      refine lv_iload_n hx hb dX3_tell_40 rfl (lv_at hl 1 rfl) ?_
      obtain ⟨h3, hf⟩ := og hf
      refine zald (D := g.1) (f := v.2.1) (k := p0.toNatClampNeg) hx hb hK.1 hP 1 0 rfl rfl (zin_vp h3) rfl dX3_tell_41 ?_
      have hR : (v.2.1 p0.toNatClampNeg) = r := Option.some.inj hf
      subst hR
      exact W.iret (v := (v.2.1 p0.toNatClampNeg)) hx hb hr0 (fun t ht hW => ⟨⟨(v.2.1 p0.toNatClampNeg), (), rfl, rfl, by rw [ht]; exact hP, hD⟩, hS.F ht⟩) hS.2.2 dX3_tell_42
    · have hf := oe hf c6
      by_cases c7 : p1 = 1
      · have hf := oi hf c7
        refine lv_lookup (tgt := 43) (off := 32) hx hb dX3_tell_11 (by decide) (by first | (rw [c7]; done) | (rw [c7]; rfl)) (by decide) ?_
        refine lv_aload_n hx hb dX3_tell_43 rfl (lv_at hl 0 rfl) ?_
        refine va_get (D := g.1) (ci := 3) (v := .ref (a 2)) (C := RX3) (T := TX3) (N := 4) hx hb hw0 ziX3 hown hK.1 hP 0 rfl rfl 2 (by decide) (hw0 _ zm1_130) (fun _ h9 => h9) rfl dX3_tell_44 ?_
        refine lv_iload_n hx hb dX3_tell_47 rfl (lv_at hl 1 rfl) ?_
        obtain ⟨h4, hf⟩ := og hf
        refine zald (D := g.1) (f := v.2.2.1) (k := p0.toNatClampNeg) hx hb hK.1 hP 2 0 rfl rfl (zin_vp h4) rfl dX3_tell_48 ?_
        have hR : (v.2.2.1 p0.toNatClampNeg) = r := Option.some.inj hf
        subst hR
        exact W.iret (v := (v.2.2.1 p0.toNatClampNeg)) hx hb hr0 (fun t ht hW => ⟨⟨(v.2.2.1 p0.toNatClampNeg), (), rfl, rfl, by rw [ht]; exact hP, hD⟩, hS.F ht⟩) hS.2.2 dX3_tell_49
      · have hf := oe hf c7
        refine lv_lookup (tgt := 50) (off := 39) hx hb dX3_tell_11 (by decide) (by first | (rw [lv_osw c6 (by decide)]; rw [lv_osw c7 (by decide)]; done) | (rw [lv_osw c6 (by decide)]; rw [lv_osw c7 (by decide)]; rfl)) (by decide) ?_
        refine lv_aload_n hx hb dX3_tell_50 rfl (lv_at hl 0 rfl) ?_
        refine va_get (D := g.1) (ci := 3) (v := .ref (a 3)) (C := RX3) (T := TX3) (N := 4) hx hb hw0 ziX3 hown hK.1 hP 0 rfl rfl 3 (by decide) (hw0 _ zm1_131) (fun _ h9 => h9) rfl dX3_tell_51 ?_
        refine lv_iload_n hx hb dX3_tell_54 rfl (lv_at hl 1 rfl) ?_
        obtain ⟨h5, hf⟩ := og hf
        refine zald (D := g.1) (f := v.2.2.2) (k := p0.toNatClampNeg) hx hb hK.1 hP 3 0 rfl rfl (zin_vp h5) rfl dX3_tell_55 ?_
        have hR : (v.2.2.2 p0.toNatClampNeg) = r := Option.some.inj hf
        subst hR
        exact W.iret (v := (v.2.2.2 p0.toNatClampNeg)) hx hb hr0 (fun t ht hW => ⟨⟨(v.2.2.2 p0.toNatClampNeg), (), rfl, rfl, by rw [ht]; exact hP, hD⟩, hS.F ht⟩) hS.2.2 dX3_tell_56
  · have hf := oi hf c2
    refine lv_iconst (v := (-1)) hx hb dX3_tell_8 (by decide) ?_
    have hR : (-1) = r := Option.some.inj hf
    subst hR
    exact W.iret (v := (-1)) hx hb hr0 (fun t ht hW => ⟨⟨(-1), (), rfl, rfl, by rw [ht]; exact hP, hD⟩, hS.F ht⟩) hS.2.2 dX3_tell_9
