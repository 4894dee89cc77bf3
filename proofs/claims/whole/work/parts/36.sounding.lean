/-! sounding(): a number, or (where that is no number) any NaN. -/
def zsnd (n q : Int32) (x : UInt64) : Prop := if n = 0 then x = FP.dconst1 else alike64 x (FP.ddiv (FP.i2d (n - q)) (FP.i2d n)) = true
theorem zsnd_t {n q : Int32} (h : n = 0) : zsnd n q FP.dconst1 := by unfold zsnd; rw [if_pos h]
theorem zsnd_f {n q : Int32} {x : UInt64} (h : ¬ n = 0) (hal : alike64 x (FP.ddiv (FP.i2d (n - q)) (FP.i2d n)) = true) : zsnd n q x := by unfold zsnd; rw [if_neg h]; exact hal
theorem zK.draw {nf : List zNFt} {nm : List zNMt} {g : zG} {s : State} (d : Drawn) (h : zK nf nm g s) : zK nf nm g (s.setDrawn d) := ⟨h.1, fun q hq => (Cond.before_setDrawn #[] s d _).trans (h.2.1 q hq), fun q hq => (Cond.before_setDrawn #[] s d _).trans (h.2.2 q hq)⟩
theorem hd_X6_sounding : yX6_sounding.cls ≠ "java/lang/invoke/MethodHandle" ∧ yX6_sounding.cls ≠ "java/lang/invoke/VarHandle" ∧ (parseMethodDescriptor yX6_sounding.desc).map (fun d => d.parameters.length) = some 0 := by decide +kernel
set_option maxHeartbeats 4000000 in
set_option maxRecDepth 100000 in
theorem c_X6_sounding (l : Launch) (g : zG) (a : Nat → Nat) (v : CV) : ∀ sz : Nat, MetD lw_cs l yX6_sounding (zw yX6_sounding cX6_sounding 1 (some .double)) ({ frames := 0, cells := 0, slots := 0, locals := 0 } : Room) (va_Pc [.ref (a 0)] (zPre zNF zNM g (zX6 g a v) sz)) (va_Qd (fun (x : UInt64) (_ : Unit) => zsnd v.1.2.2.2.1 v.1.2.2.2.2.2.1 x) (fun _ => zEnd g (va_A (zX6 g a v) sz) (zX6 g a v)) (va_A (zX6 g a v) sz)) 0 0 (va_A (zX6 g a v) sz) := by
  intro sz
  refine MetD.ofW (cc := cX6_sounding) (maxL := 1) (ret := (some .double)) (by decide) rfl ?_
  intro p e s m args below meth c s₁ B hml hv hd0
  obtain ⟨rfl, hsz, hP, hK0, hD0⟩ := hv
  have hx := B.exec
  have hb := B.bytes
  have hr0 := B.returns
  have hts := dr_words (atoms_spec (ws := (zw yX6_sounding cX6_sounding 1 (some .double))) B.pre) s.drawn
  have hw0 : ∀ w ∈ zW, w.before #[Value.ref (a 0)] (s.setDrawn s.drawn) = true := fun w h => hts w (List.mem_cons_of_mem _ h)
  have hK : zK zNF zNM g (s.setDrawn s.drawn) := hK0.draw s.drawn
  have hown : s.vm.findClass RX6 = some m.cls := findClass_of_methodNamed B.named
  have hlocks := B.notSynchronized
  subst hsz
  have hD := hD0.self (sz := s.heap.size)
  generalize hAe : va_A (zX6 g a v) s.heap.size = A at hD ⊢
  have hA : ∀ q : Nat, s.heap.size ≤ q → A q := fun q h => by rw [← hAe]; exact Or.inr h
  have hS : va_S A s.heap s.heap [] := va_S.rf
  have hl := lv_entry ([.ref (a 0)]) (n := 1) (Nat.le_of_ble_eq_true rfl)
  rw [lg_entry_eq]
  generalize (lg_sl ([.ref (a 0)]) ++ List.replicate (1 - (lg_sl ([.ref (a 0)])).length) Slot.unset).toArray = ls at hl ⊢
  have hl : lv_has ls 1 [(0, .ref (a 0))] := hl
  refine lv_aload_n hx hb dX6_sounding_0 rfl (lv_at hl 0 rfl) ?_
  refine va_get (D := g.1) (ci := 6) (v := .ref (a 1)) (C := RX6) (T := TX6) (N := 5) hx hb hw0 ziX6 hown hK.1 hP 0 rfl rfl 0 (by decide) (hw0 _ zm1_209) (fun _ h9 => h9) rfl dX6_sounding_1 ?_
  refine va_getN (D := g.1) (ci := 2) (v := .int v.1.2.2.2.1) (C := RX2) (T := TX2) (N := 11) hx hb hw0 ziX2 hown hK.1 hP 1 rfl rfl 3 (by decide) (va_Nw.use rfl (zf_26 hK)) (fun _ h9 => h9) rfl dX6_sounding_4 ?_
  refine lv_if_ne (tgt := 12) hx hb dX6_sounding_7 (by decide) (fun hc => ?_) (fun hc => ?_)
  · refine lv_aload_n hx hb dX6_sounding_12 rfl (lv_at hl 0 rfl) ?_
    refine va_get (D := g.1) (ci := 6) (v := .ref (a 1)) (C := RX6) (T := TX6) (N := 5) hx hb hw0 ziX6 hown hK.1 hP 0 rfl rfl 0 (by decide) (hw0 _ zm1_209) (fun _ h9 => h9) rfl dX6_sounding_13 ?_
    refine va_getN (D := g.1) (ci := 2) (v := .int v.1.2.2.2.1) (C := RX2) (T := TX2) (N := 11) hx hb hw0 ziX2 hown hK.1 hP 1 rfl rfl 3 (by decide) (va_Nw.use rfl (zf_26 hK)) (fun _ h9 => h9) rfl dX6_sounding_16 ?_
    refine lv_aload_n hx hb dX6_sounding_19 rfl (lv_at hl 0 rfl) ?_
    refine va_get (D := g.1) (ci := 6) (v := .ref (a 1)) (C := RX6) (T := TX6) (N := 5) hx hb hw0 ziX6 hown hK.1 hP 0 rfl rfl 0 (by decide) (hw0 _ zm1_209) (fun _ h9 => h9) rfl dX6_sounding_20 ?_
    refine va_getN (D := g.1) (ci := 2) (v := .int v.1.2.2.2.2.2.1) (C := RX2) (T := TX2) (N := 11) hx hb hw0 ziX2 hown hK.1 hP 1 rfl rfl 5 (by decide) (va_Nw.use rfl (zf_28 hK)) (fun _ h9 => h9) rfl dX6_sounding_23 ?_
    refine lv_isub hx hb dX6_sounding_26 ?_
    refine lv_i2d hx hb dX6_sounding_27 ?_
    refine lv_aload_n hx hb dX6_sounding_28 rfl (lv_at hl 0 rfl) ?_
    refine va_get (D := g.1) (ci := 6) (v := .ref (a 1)) (C := RX6) (T := TX6) (N := 5) hx hb hw0 ziX6 hown hK.1 hP 0 rfl rfl 0 (by decide) (hw0 _ zm1_209) (fun _ h9 => h9) rfl dX6_sounding_29 ?_
    refine va_getN (D := g.1) (ci := 2) (v := .int v.1.2.2.2.1) (C := RX2) (T := TX2) (N := 11) hx hb hw0 ziX2 hown hK.1 hP 1 rfl rfl 3 (by decide) (va_Nw.use rfl (zf_26 hK)) (fun _ h9 => h9) rfl dX6_sounding_32 ?_
    refine lv_i2d hx hb dX6_sounding_35 ?_
    refine lv_ddiv_any hd0 lw_bits hx hb dX6_sounding_36 (fun r9 d9 hal hd0 => ?_)
    refine W.endD hd0 ?_
    exact W.dret (v := r9) hx hb hr0 (fun t ht hW => ⟨⟨r9, (), rfl, (zsnd_f hc hal), by rw [ht]; exact hP, hD⟩, hS.F ht⟩) hS.2.2 dX6_sounding_37
  · refine lv_dconst1 hx hb dX6_sounding_10 ?_
    refine W.endD hd0 ?_
    exact W.dret (v := FP.dconst1) hx hb hr0 (fun t ht hW => ⟨⟨FP.dconst1, (), rfl, (zsnd_t hc), by rw [ht]; exact hP, hD⟩, hS.F ht⟩) hS.2.2 dX6_sounding_11
theorem hd_X7_sounding : yX7_sounding.cls ≠ "java/lang/invoke/MethodHandle" ∧ yX7_sounding.cls ≠ "java/lang/invoke/VarHandle" ∧ (parseMethodDescriptor yX7_sounding.desc).map (fun d => d.parameters.length) = some 0 := by decide +kernel
set_option maxHeartbeats 4000000 in
set_option maxRecDepth 100000 in
theorem c_X7_sounding (l : Launch) (g : zG) (a : Nat → Nat) (v : MV) : ∀ sz : Nat, MetD lw_cs l yX7_sounding (zw yX7_sounding cX7_sounding 1 (some .double)) ({ frames := 0, cells := 0, slots := 0, locals := 0 } : Room) (va_Pc [.ref (a 0)] (zPre zNF zNM g (zX7 g a v) sz)) (va_Qd (fun (x : UInt64) (_ : Unit) => zsnd (v.1 0) (v.1 5) x) (fun _ => zEnd g (va_A (zX7 g a v) sz) (zX7 g a (v.1, v.2.1, v.2.2.1, v.2.2.2.1, v.2.2.2.2.1, v.2.2.2.2.2.1, v.2.2.2.2.2.2.1, 0, v.2.2.2.2.2.2.2.2.1, v.2.2.2.2.2.2.2.2.2.1, v.2.2.2.2.2.2.2.2.2.2))) (va_A (zX7 g a v) sz)) 0 0 (va_A (zX7 g a v) sz) := by
  intro sz
  refine MetD.ofW (cc := cX7_sounding) (maxL := 1) (ret := (some .double)) (by decide) rfl ?_
  intro p e s m args below meth c s₁ B hml hv hd0
  obtain ⟨rfl, hsz, hP, hK0, hD0⟩ := hv
  have hx := B.exec
  have hb := B.bytes
  have hr0 := B.returns
  have hts := dr_words (atoms_spec (ws := (zw yX7_sounding cX7_sounding 1 (some .double))) B.pre) s.drawn
  have hw0 : ∀ w ∈ zW, w.before #[Value.ref (a 0)] (s.setDrawn s.drawn) = true := fun w h => hts w (List.mem_cons_of_mem _ h)
  have hK : zK zNF zNM g (s.setDrawn s.drawn) := hK0.draw s.drawn
  have hown : s.vm.findClass RX7 = some m.cls := findClass_of_methodNamed B.named
  have hlocks := B.notSynchronized
  subst hsz
  have hD := hD0.self (sz := s.heap.size)
  generalize hAe : va_A (zX7 g a v) s.heap.size = A at hD ⊢
  have hA : ∀ q : Nat, s.heap.size ≤ q → A q := fun q h => by rw [← hAe]; exact Or.inr h
  have hS : va_S A s.heap s.heap [] := va_S.rf
  have hl := lv_entry ([.ref (a 0)]) (n := 1) (Nat.le_of_ble_eq_true rfl)
  rw [lg_entry_eq]
  generalize (lg_sl ([.ref (a 0)]) ++ List.replicate (1 - (lg_sl ([.ref (a 0)])).length) Slot.unset).toArray = ls at hl ⊢
  have hl : lv_has ls 1 [(0, .ref (a 0))] := hl
  refine lv_aload_n hx hb dX7_sounding_0 rfl (lv_at hl 0 rfl) ?_
  refine lv_iconst (v := 0) hx hb dX7_sounding_1 (by decide) ?_
  refine va_put (D := g.1) (ci := 7) (v := .int 0) (ty := .int) (C := RX7) (T := TX7) (N := 11) hx hb hw0 ziX7 tyX7 tyX7_ok nmX7 hown hK.1 hP hD hS 0 rfl rfl 7 (by decide) (hw0 _ zm4_78) (fun _ h9 => h9) rfl (tyX7_ok 7 (by decide)) rfl rfl (Nat.le_of_ble_eq_true rfl) dX7_sounding_2 (fun H locs hP hD hS => ?_)
  have hP : va_P g.1 vwCl (zX7 g a (v.1, v.2.1, v.2.2.1, v.2.2.2.1, v.2.2.2.2.1, v.2.2.2.2.2.1, v.2.2.2.2.2.2.1, 0, v.2.2.2.2.2.2.2.2.1, v.2.2.2.2.2.2.2.2.2.1, v.2.2.2.2.2.2.2.2.2.2)) H := hP
  have hD : va_D A (zX7 g a (v.1, v.2.1, v.2.2.1, v.2.2.2.1, v.2.2.2.2.1, v.2.2.2.2.2.1, v.2.2.2.2.2.2.1, 0, v.2.2.2.2.2.2.2.2.1, v.2.2.2.2.2.2.2.2.2.1, v.2.2.2.2.2.2.2.2.2.2)) := hD
  refine lv_aload_n hx hb dX7_sounding_5 rfl (lv_at hl 0 rfl) ?_
  refine va_get (D := g.1) (ci := 7) (v := .ref (a 1)) (C := RX7) (T := TX7) (N := 11) hx hb hw0 ziX7 hown hK.1 hP 0 rfl rfl 0 (by decide) (hw0 _ zm4_71) (fun _ h9 => h9) rfl dX7_sounding_6 ?_
  refine lv_iconst (v := 0) hx hb dX7_sounding_9 (by decide) ?_
  refine zald (D := g.1) (f := v.1) (k := 0) hx hb hK.1 hP 1 0 rfl rfl (zin_vp (i := 0) (n := 220) rfl) rfl dX7_sounding_10 ?_
  refine lv_if_ne (tgt := 18) hx hb dX7_sounding_11 (by decide) (fun hc => ?_) (fun hc => ?_)
  · refine lv_aload_n hx hb dX7_sounding_18 rfl (lv_at hl 0 rfl) ?_
    refine va_get (D := g.1) (ci := 7) (v := .ref (a 1)) (C := RX7) (T := TX7) (N := 11) hx hb hw0 ziX7 hown hK.1 hP 0 rfl rfl 0 (by decide) (hw0 _ zm4_71) (fun _ h9 => h9) rfl dX7_sounding_19 ?_
    refine lv_iconst (v := 0) hx hb dX7_sounding_22 (by decide) ?_
    refine zald (D := g.1) (f := v.1) (k := 0) hx hb hK.1 hP 1 0 rfl rfl (zin_vp (i := 0) (n := 220) rfl) rfl dX7_sounding_23 ?_
    refine lv_aload_n hx hb dX7_sounding_24 rfl (lv_at hl 0 rfl) ?_
    refine va_get (D := g.1) (ci := 7) (v := .ref (a 1)) (C := RX7) (T := TX7) (N := 11) hx hb hw0 ziX7 hown hK.1 hP 0 rfl rfl 0 (by decide) (hw0 _ zm4_71) (fun _ h9 => h9) rfl dX7_sounding_25 ?_
    refine lv_iconst (v := 5) hx hb dX7_sounding_28 (by decide) ?_
    refine zald (D := g.1) (f := v.1) (k := 5) hx hb hK.1 hP 1 0 rfl rfl (zin_vp (i := 5) (n := 220) rfl) rfl dX7_sounding_29 ?_
    refine lv_isub hx hb dX7_sounding_30 ?_
    refine lv_i2d hx hb dX7_sounding_31 ?_
    refine lv_aload_n hx hb dX7_sounding_32 rfl (lv_at hl 0 rfl) ?_
    refine va_get (D := g.1) (ci := 7) (v := .ref (a 1)) (C := RX7) (T := TX7) (N := 11) hx hb hw0 ziX7 hown hK.1 hP 0 rfl rfl 0 (by decide) (hw0 _ zm4_71) (fun _ h9 => h9) rfl dX7_sounding_33 ?_
    refine lv_iconst (v := 0) hx hb dX7_sounding_36 (by decide) ?_
    refine zald (D := g.1) (f := v.1) (k := 0) hx hb hK.1 hP 1 0 rfl rfl (zin_vp (i := 0) (n := 220) rfl) rfl dX7_sounding_37 ?_
    refine lv_i2d hx hb dX7_sounding_38 ?_
    refine lv_ddiv_any hd0 lw_bits hx hb dX7_sounding_39 (fun r9 d9 hal hd0 => ?_)
    refine W.endD hd0 ?_
    exact W.dret (v := r9) hx hb hr0 (fun t ht hW => ⟨⟨r9, (), rfl, (zsnd_f hc hal), by rw [ht]; exact hP, hD⟩, hS.F ht⟩) hS.2.2 dX7_sounding_40
  · refine lv_dconst1 hx hb dX7_sounding_14 ?_
    refine lv_goto (tgt := 40) hx hb dX7_sounding_15 (by decide) ?_
    refine W.endD hd0 ?_
    exact W.dret (v := FP.dconst1) hx hb hr0 (fun t ht hW => ⟨⟨FP.dconst1, (), rfl, (zsnd_t hc), by rw [ht]; exact hP, hD⟩, hS.F ht⟩) hS.2.2 dX7_sounding_40
