theorem hd_X6_forgetOldest : yX6_forgetOldest.cls ≠ "java/lang/invoke/MethodHandle" ∧ yX6_forgetOldest.cls ≠ "java/lang/invoke/VarHandle" ∧ (parseMethodDescriptor yX6_forgetOldest.desc).map (fun d => d.parameters.length) = some 0 := by decide +kernel
def f_X6_forgetOldest (v : CV) : Option (CV) :=
  if (v.2.2.1.1 1) < 4 then
  if (v.2.2.1.1 2) < 4 then
  if (v.2.2.1.1 3) < 4 then
  if (v.2.2.1.1 0) < 4 then
  some (v.1, v.2.1, ((fun j => if j = 3 then (v.2.2.1.1 0) else (fun j => if j = 2 then (v.2.2.1.1 3) else (fun j => if j = 1 then (v.2.2.1.1 2) else (fun j => if j = 0 then (v.2.2.1.1 1) else v.2.2.1.1 j) j) j) j), v.2.2.1.2.1, v.2.2.1.2.2.1, v.2.2.1.2.2.2.1, v.2.2.1.2.2.2.2), 3, v.2.2.2.2)
  else none
  else none
  else none
  else none
set_option maxHeartbeats 4000000 in
set_option maxRecDepth 100000 in
theorem c_X6_forgetOldest (l : Launch) (g : zG) (a : Nat → Nat) (v : CV) (r : CV) (hf : f_X6_forgetOldest v = some r) : zMv zNF zNM l yX6_forgetOldest (zw yX6_forgetOldest cX6_forgetOldest 3 none) ({ frames := 0, cells := 0, slots := 0, locals := 0 } : Room) g [.ref (a 0)] (zX6 g a v) (zX6 g a r) := by
  intro sz
  refine Met.ofW (cc := cX6_forgetOldest) (maxL := 3) (ret := none) (by decide) rfl ?_
  intro p e s m args below meth c s₁ B hml hv
  obtain ⟨rfl, hsz, hP, hK, hD0⟩ := hv
  have hx := B.exec
  have hb := B.bytes
  have hr0 := B.returns
  have hts := atoms_spec (ws := (zw yX6_forgetOldest cX6_forgetOldest 3 none)) B.pre
  have hw0 : ∀ w ∈ zW, w.before ([.ref (a 0)] : List Value).toArray s = true := fun w h => hts w (List.mem_cons_of_mem _ h)
  have hown : s.vm.findClass RX6 = some m.cls := findClass_of_methodNamed B.named
  have hlocks := B.notSynchronized
  subst hsz
  have hD := hD0.self (sz := s.heap.size)
  generalize hAe : va_A (zX6 g a v) s.heap.size = A at hD ⊢
  have hA : ∀ q : Nat, s.heap.size ≤ q → A q := fun q h => by rw [← hAe]; exact Or.inr h
  have hS : va_S A s.heap s.heap [] := va_S.rf
  unfold f_X6_forgetOldest at hf
  have hl := lv_entry ([.ref (a 0)]) (n := 3) (Nat.le_of_ble_eq_true rfl)
  rw [lg_entry_eq]
  generalize (lg_sl ([.ref (a 0)]) ++ List.replicate (3 - (lg_sl ([.ref (a 0)])).length) Slot.unset).toArray = ls at hl ⊢
  have hl : lv_has ls 3 [(0, .ref (a 0))] := hl
  refine lv_aload_n hx hb dX6_forgetOldest_0 rfl (lv_at hl 0 rfl) ?_
  refine va_get (D := g.1) (ci := 6) (v := .ref (a 37)) (C := RX6) (T := TX6) (N := 5) hx hb hw0 ziX6 hown hK.1 hP 0 rfl rfl 2 (by decide) (hw0 _ zm1_211) (fun _ h9 => h9) rfl dX6_forgetOldest_1 ?_
  refine lv_iconst (v := 0) hx hb dX6_forgetOldest_4 (by decide) ?_
  refine zaldq (D := g.1) (f := fun j => some (a (40 + 18 * v.2.2.1.1 j))) (k := 0) (x := a (40 + 18 * (v.2.2.1.1 0))) hx hb hK.1 hP 37 1 rfl rfl (zin_vp (i := 0) (n := 4) rfl) rfl rfl dX6_forgetOldest_5 ?_
  refine lv_astore_n (lv' := [(1, .ref (a (40 + 18 * (v.2.2.1.1 0)))), (0, .ref (a 0))]) hx hb dX6_forgetOldest_6 rfl hl (by decide) rfl (fun ls hl => ?_)
  refine lv_iconst (v := 1) hx hb dX6_forgetOldest_7 (by decide) ?_
  refine lv_istore_n (lv' := [(2, .int 1), (1, .ref (a (40 + 18 * (v.2.2.1.1 0)))), (0, .ref (a 0))]) hx hb dX6_forgetOldest_8 rfl hl (by decide) rfl (fun ls hl => ?_)
  refine lv_iload_n hx hb dX6_forgetOldest_9 rfl (lv_at hl 0 rfl) ?_
  refine lv_iconst (v := 4) hx hb dX6_forgetOldest_10 (by decide) ?_
  refine lv_icmp_ge (tgt := 34) hx hb dX6_forgetOldest_11 (by decide) (fun c9 => absurd c9 (by decide)) (fun _ => ?_)
  refine lv_aload_n hx hb dX6_forgetOldest_14 rfl (lv_at hl 2 rfl) ?_
  refine va_get (D := g.1) (ci := 6) (v := .ref (a 37)) (C := RX6) (T := TX6) (N := 5) hx hb hw0 ziX6 hown hK.1 hP 0 rfl rfl 2 (by decide) (hw0 _ zm1_211) (fun _ h9 => h9) rfl dX6_forgetOldest_15 ?_
  refine lv_iload_n hx hb dX6_forgetOldest_18 rfl (lv_at hl 0 rfl) ?_
  refine lv_iconst (v := 1) hx hb dX6_forgetOldest_19 (by decide) ?_
  refine lv_isub hx hb dX6_forgetOldest_20 ?_
  refine zeqi (y := 0) rfl ?_
  refine lv_aload_n hx hb dX6_forgetOldest_21 rfl (lv_at hl 2 rfl) ?_
  refine va_get (D := g.1) (ci := 6) (v := .ref (a 37)) (C := RX6) (T := TX6) (N := 5) hx hb hw0 ziX6 hown hK.1 hP 0 rfl rfl 2 (by decide) (hw0 _ zm1_211) (fun _ h9 => h9) rfl dX6_forgetOldest_22 ?_
  refine lv_iload_n hx hb dX6_forgetOldest_25 rfl (lv_at hl 0 rfl) ?_
  refine zaldq (D := g.1) (f := fun j => some (a (40 + 18 * v.2.2.1.1 j))) (k := 1) (x := a (40 + 18 * (v.2.2.1.1 1))) hx hb hK.1 hP 37 1 rfl rfl (zin_vp (i := 1) (n := 4) rfl) rfl rfl dX6_forgetOldest_26 ?_
  obtain ⟨h1, hf⟩ := ogp hf
  obtain ⟨q2k, q2v, q2h⟩ := zHat g a v (v.2.2.1.1 1) h1
  refine zastq (D := g.1) (f := fun j => some (a (40 + 18 * v.2.2.1.1 j))) (f2 := fun j => some (a (40 + 18 * (fun j => if j = 0 then (v.2.2.1.1 1) else v.2.2.1.1 j) j))) (k := 0) hx hb hK.1 hP hD hS 37 1 q2k 2 rfl rfl q2h rfl (zin_vp (i := 0) (n := 4) rfl) rfl zpiup dX6_forgetOldest_27 (fun H locs hP hD hS => ?_)
  have hP : va_P g.1 vwCl (zX6 g a (v.1, v.2.1, ((fun j => if j = 0 then (v.2.2.1.1 1) else v.2.2.1.1 j), v.2.2.1.2.1, v.2.2.1.2.2.1, v.2.2.1.2.2.2.1, v.2.2.1.2.2.2.2), v.2.2.2.1, v.2.2.2.2)) H := hP
  have hD : va_D A (zX6 g a (v.1, v.2.1, ((fun j => if j = 0 then (v.2.2.1.1 1) else v.2.2.1.1 j), v.2.2.1.2.1, v.2.2.1.2.2.1, v.2.2.1.2.2.2.1, v.2.2.1.2.2.2.2), v.2.2.2.1, v.2.2.2.2)) := hD
  refine lv_iinc (v := 2) (lv' := [(2, .int 2), (1, .ref (a (40 + 18 * (v.2.2.1.1 0)))), (0, .ref (a 0))]) hx hb dX6_forgetOldest_28 hl (k := 0) rfl rfl (by decide) rfl (fun ls hl => ?_)
  refine lv_goto (tgt := 9) hx hb dX6_forgetOldest_31 (by decide) ?_
  refine lv_iload_n hx hb dX6_forgetOldest_9 rfl (lv_at hl 0 rfl) ?_
  refine lv_iconst (v := 4) hx hb dX6_forgetOldest_10 (by decide) ?_
  refine lv_icmp_ge (tgt := 34) hx hb dX6_forgetOldest_11 (by decide) (fun c9 => absurd c9 (by decide)) (fun _ => ?_)
  refine lv_aload_n hx hb dX6_forgetOldest_14 rfl (lv_at hl 2 rfl) ?_
  refine va_get (D := g.1) (ci := 6) (v := .ref (a 37)) (C := RX6) (T := TX6) (N := 5) hx hb hw0 ziX6 hown hK.1 hP 0 rfl rfl 2 (by decide) (hw0 _ zm1_211) (fun _ h9 => h9) rfl dX6_forgetOldest_15 ?_
  refine lv_iload_n hx hb dX6_forgetOldest_18 rfl (lv_at hl 0 rfl) ?_
  refine lv_iconst (v := 1) hx hb dX6_forgetOldest_19 (by decide) ?_
  refine lv_isub hx hb dX6_forgetOldest_20 ?_
  refine zeqi (y := 1) rfl ?_
  refine lv_aload_n hx hb dX6_forgetOldest_21 rfl (lv_at hl 2 rfl) ?_
  refine va_get (D := g.1) (ci := 6) (v := .ref (a 37)) (C := RX6) (T := TX6) (N := 5) hx hb hw0 ziX6 hown hK.1 hP 0 rfl rfl 2 (by decide) (hw0 _ zm1_211) (fun _ h9 => h9) rfl dX6_forgetOldest_22 ?_
  refine lv_iload_n hx hb dX6_forgetOldest_25 rfl (lv_at hl 0 rfl) ?_
  refine zaldq (D := g.1) (f := fun j => some (a (40 + 18 * (fun j => if j = 0 then (v.2.2.1.1 1) else v.2.2.1.1 j) j))) (k := 2) (x := a (40 + 18 * (v.2.2.1.1 2))) hx hb hK.1 hP 37 1 rfl rfl (zin_vp (i := 2) (n := 4) rfl) rfl rfl dX6_forgetOldest_26 ?_
  obtain ⟨h3, hf⟩ := ogp hf
  obtain ⟨q4k, q4v, q4h⟩ := zHat g a (v.1, v.2.1, ((fun j => if j = 0 then (v.2.2.1.1 1) else v.2.2.1.1 j), v.2.2.1.2.1, v.2.2.1.2.2.1, v.2.2.1.2.2.2.1, v.2.2.1.2.2.2.2), v.2.2.2.1, v.2.2.2.2) (v.2.2.1.1 2) h3
  refine zastq (D := g.1) (f := fun j => some (a (40 + 18 * (fun j => if j = 0 then (v.2.2.1.1 1) else v.2.2.1.1 j) j))) (f2 := fun j => some (a (40 + 18 * (fun j => if j = 1 then (v.2.2.1.1 2) else (fun j => if j = 0 then (v.2.2.1.1 1) else v.2.2.1.1 j) j) j))) (k := 1) hx hb hK.1 hP hD hS 37 1 q4k 2 rfl rfl q4h rfl (zin_vp (i := 1) (n := 4) rfl) rfl zpiup dX6_forgetOldest_27 (fun H locs hP hD hS => ?_)
  have hP : va_P g.1 vwCl (zX6 g a (v.1, v.2.1, ((fun j => if j = 1 then (v.2.2.1.1 2) else (fun j => if j = 0 then (v.2.2.1.1 1) else v.2.2.1.1 j) j), v.2.2.1.2.1, v.2.2.1.2.2.1, v.2.2.1.2.2.2.1, v.2.2.1.2.2.2.2), v.2.2.2.1, v.2.2.2.2)) H := hP
  have hD : va_D A (zX6 g a (v.1, v.2.1, ((fun j => if j = 1 then (v.2.2.1.1 2) else (fun j => if j = 0 then (v.2.2.1.1 1) else v.2.2.1.1 j) j), v.2.2.1.2.1, v.2.2.1.2.2.1, v.2.2.1.2.2.2.1, v.2.2.1.2.2.2.2), v.2.2.2.1, v.2.2.2.2)) := hD
  refine lv_iinc (v := 3) (lv' := [(2, .int 3), (1, .ref (a (40 + 18 * (v.2.2.1.1 0)))), (0, .ref (a 0))]) hx hb dX6_forgetOldest_28 hl (k := 0) rfl rfl (by decide) rfl (fun ls hl => ?_)
  refine lv_goto (tgt := 9) hx hb dX6_forgetOldest_31 (by decide) ?_
  refine lv_iload_n hx hb dX6_forgetOldest_9 rfl (lv_at hl 0 rfl) ?_
  refine lv_iconst (v := 4) hx hb dX6_forgetOldest_10 (by decide) ?_
  refine lv_icmp_ge (tgt := 34) hx hb dX6_forgetOldest_11 (by decide) (fun c9 => absurd c9 (by decide)) (fun _ => ?_)
  refine lv_aload_n hx hb dX6_forgetOldest_14 rfl (lv_at hl 2 rfl) ?_
  refine va_get (D := g.1) (ci := 6) (v := .ref (a 37)) (C := RX6) (T := TX6) (N := 5) hx hb hw0 ziX6 hown hK.1 hP 0 rfl rfl 2 (by decide) (hw0 _ zm1_211) (fun _ h9 => h9) rfl dX6_forgetOldest_15 ?_
  refine lv_iload_n hx hb dX6_forgetOldest_18 rfl (lv_at hl 0 rfl) ?_
  refine lv_iconst (v := 1) hx hb dX6_forgetOldest_19 (by decide) ?_
  refine lv_isub hx hb dX6_forgetOldest_20 ?_
  refine zeqi (y := 2) rfl ?_
  refine lv_aload_n hx hb dX6_forgetOldest_21 rfl (lv_at hl 2 rfl) ?_
  refine va_get (D := g.1) (ci := 6) (v := .ref (a 37)) (C := RX6) (T := TX6) (N := 5) hx hb hw0 ziX6 hown hK.1 hP 0 rfl rfl 2 (by decide) (hw0 _ zm1_211) (fun _ h9 => h9) rfl dX6_forgetOldest_22 ?_
  refine lv_iload_n hx hb dX6_forgetOldest_25 rfl (lv_at hl 0 rfl) ?_
  refine zaldq (D := g.1) (f := fun j => some (a (40 + 18 * (fun j => if j = 1 then (v.2.2.1.1 2) else (fun j => if j = 0 then (v.2.2.1.1 1) else v.2.2.1.1 j) j) j))) (k := 3) (x := a (40 + 18 * (v.2.2.1.1 3))) hx hb hK.1 hP 37 1 rfl rfl (zin_vp (i := 3) (n := 4) rfl) rfl rfl dX6_forgetOldest_26 ?_
  obtain ⟨h5, hf⟩ := ogp hf
  obtain ⟨q6k, q6v, q6h⟩ := zHat g a (v.1, v.2.1, ((fun j => if j = 1 then (v.2.2.1.1 2) else (fun j => if j = 0 then (v.2.2.1.1 1) else v.2.2.1.1 j) j), v.2.2.1.2.1, v.2.2.1.2.2.1, v.2.2.1.2.2.2.1, v.2.2.1.2.2.2.2), v.2.2.2.1, v.2.2.2.2) (v.2.2.1.1 3) h5
  refine zastq (D := g.1) (f := fun j => some (a (40 + 18 * (fun j => if j = 1 then (v.2.2.1.1 2) else (fun j => if j = 0 then (v.2.2.1.1 1) else v.2.2.1.1 j) j) j))) (f2 := fun j => some (a (40 + 18 * (fun j => if j = 2 then (v.2.2.1.1 3) else (fun j => if j = 1 then (v.2.2.1.1 2) else (fun j => if j = 0 then (v.2.2.1.1 1) else v.2.2.1.1 j) j) j) j))) (k := 2) hx hb hK.1 hP hD hS 37 1 q6k 2 rfl rfl q6h rfl (zin_vp (i := 2) (n := 4) rfl) rfl zpiup dX6_forgetOldest_27 (fun H locs hP hD hS => ?_)
  have hP : va_P g.1 vwCl (zX6 g a (v.1, v.2.1, ((fun j => if j = 2 then (v.2.2.1.1 3) else (fun j => if j = 1 then (v.2.2.1.1 2) else (fun j => if j = 0 then (v.2.2.1.1 1) else v.2.2.1.1 j) j) j), v.2.2.1.2.1, v.2.2.1.2.2.1, v.2.2.1.2.2.2.1, v.2.2.1.2.2.2.2), v.2.2.2.1, v.2.2.2.2)) H := hP
  have hD : va_D A (zX6 g a (v.1, v.2.1, ((fun j => if j = 2 then (v.2.2.1.1 3) else (fun j => if j = 1 then (v.2.2.1.1 2) else (fun j => if j = 0 then (v.2.2.1.1 1) else v.2.2.1.1 j) j) j), v.2.2.1.2.1, v.2.2.1.2.2.1, v.2.2.1.2.2.2.1, v.2.2.1.2.2.2.2), v.2.2.2.1, v.2.2.2.2)) := hD
  refine lv_iinc (v := 4) (lv' := [(2, .int 4), (1, .ref (a (40 + 18 * (v.2.2.1.1 0)))), (0, .ref (a 0))]) hx hb dX6_forgetOldest_28 hl (k := 0) rfl rfl (by decide) rfl (fun ls hl => ?_)
  refine lv_goto (tgt := 9) hx hb dX6_forgetOldest_31 (by decide) ?_
  refine lv_iload_n hx hb dX6_forgetOldest_9 rfl (lv_at hl 0 rfl) ?_
  refine lv_iconst (v := 4) hx hb dX6_forgetOldest_10 (by decide) ?_
  refine lv_icmp_ge (tgt := 34) hx hb dX6_forgetOldest_11 (by decide) (fun _ => ?_) (fun c9 => absurd c9 (by decide))
  refine lv_aload_n hx hb dX6_forgetOldest_34 rfl (lv_at hl 2 rfl) ?_
  refine va_get (D := g.1) (ci := 6) (v := .ref (a 37)) (C := RX6) (T := TX6) (N := 5) hx hb hw0 ziX6 hown hK.1 hP 0 rfl rfl 2 (by decide) (hw0 _ zm1_211) (fun _ h9 => h9) rfl dX6_forgetOldest_35 ?_
  refine lv_iconst (v := 3) hx hb dX6_forgetOldest_38 (by decide) ?_
  refine lv_aload_n hx hb dX6_forgetOldest_39 rfl (lv_at hl 1 rfl) ?_
  obtain ⟨h7, hf⟩ := ogp hf
  obtain ⟨q8k, q8v, q8h⟩ := zHat g a (v.1, v.2.1, ((fun j => if j = 2 then (v.2.2.1.1 3) else (fun j => if j = 1 then (v.2.2.1.1 2) else (fun j => if j = 0 then (v.2.2.1.1 1) else v.2.2.1.1 j) j) j), v.2.2.1.2.1, v.2.2.1.2.2.1, v.2.2.1.2.2.2.1, v.2.2.1.2.2.2.2), v.2.2.2.1, v.2.2.2.2) (v.2.2.1.1 0) h7
  refine zastq (D := g.1) (f := fun j => some (a (40 + 18 * (fun j => if j = 2 then (v.2.2.1.1 3) else (fun j => if j = 1 then (v.2.2.1.1 2) else (fun j => if j = 0 then (v.2.2.1.1 1) else v.2.2.1.1 j) j) j) j))) (f2 := fun j => some (a (40 + 18 * (fun j => if j = 3 then (v.2.2.1.1 0) else (fun j => if j = 2 then (v.2.2.1.1 3) else (fun j => if j = 1 then (v.2.2.1.1 2) else (fun j => if j = 0 then (v.2.2.1.1 1) else v.2.2.1.1 j) j) j) j) j))) (k := 3) hx hb hK.1 hP hD hS 37 1 q8k 2 rfl rfl q8h rfl (zin_vp (i := 3) (n := 4) rfl) rfl zpiup dX6_forgetOldest_40 (fun H locs hP hD hS => ?_)
  have hP : va_P g.1 vwCl (zX6 g a (v.1, v.2.1, ((fun j => if j = 3 then (v.2.2.1.1 0) else (fun j => if j = 2 then (v.2.2.1.1 3) else (fun j => if j = 1 then (v.2.2.1.1 2) else (fun j => if j = 0 then (v.2.2.1.1 1) else v.2.2.1.1 j) j) j) j), v.2.2.1.2.1, v.2.2.1.2.2.1, v.2.2.1.2.2.2.1, v.2.2.1.2.2.2.2), v.2.2.2.1, v.2.2.2.2)) H := hP
  have hD : va_D A (zX6 g a (v.1, v.2.1, ((fun j => if j = 3 then (v.2.2.1.1 0) else (fun j => if j = 2 then (v.2.2.1.1 3) else (fun j => if j = 1 then (v.2.2.1.1 2) else (fun j => if j = 0 then (v.2.2.1.1 1) else v.2.2.1.1 j) j) j) j), v.2.2.1.2.1, v.2.2.1.2.2.1, v.2.2.1.2.2.2.1, v.2.2.1.2.2.2.2), v.2.2.2.1, v.2.2.2.2)) := hD
  refine lv_aload_n hx hb dX6_forgetOldest_41 rfl (lv_at hl 2 rfl) ?_
  refine lv_iconst (v := 3) hx hb dX6_forgetOldest_42 (by decide) ?_
  refine va_put (D := g.1) (ci := 6) (v := .int 3) (ty := .int) (C := RX6) (T := TX6) (N := 5) hx hb hw0 ziX6 tyX6 tyX6_ok nmX6 hown hK.1 hP hD hS 0 rfl rfl 3 (by decide) (hw0 _ zm1_212) (fun _ h9 => h9) rfl (tyX6_ok 3 (by decide)) rfl rfl (Nat.le_of_ble_eq_true rfl) dX6_forgetOldest_43 (fun H locs hP hD hS => ?_)
  have hP : va_P g.1 vwCl (zX6 g a (v.1, v.2.1, ((fun j => if j = 3 then (v.2.2.1.1 0) else (fun j => if j = 2 then (v.2.2.1.1 3) else (fun j => if j = 1 then (v.2.2.1.1 2) else (fun j => if j = 0 then (v.2.2.1.1 1) else v.2.2.1.1 j) j) j) j), v.2.2.1.2.1, v.2.2.1.2.2.1, v.2.2.1.2.2.2.1, v.2.2.1.2.2.2.2), 3, v.2.2.2.2)) H := hP
  have hD : va_D A (zX6 g a (v.1, v.2.1, ((fun j => if j = 3 then (v.2.2.1.1 0) else (fun j => if j = 2 then (v.2.2.1.1 3) else (fun j => if j = 1 then (v.2.2.1.1 2) else (fun j => if j = 0 then (v.2.2.1.1 1) else v.2.2.1.1 j) j) j) j), v.2.2.1.2.1, v.2.2.1.2.2.1, v.2.2.1.2.2.2.1, v.2.2.1.2.2.2.2), 3, v.2.2.2.2)) := hD
  have hR : (v.1, v.2.1, ((fun j => if j = 3 then (v.2.2.1.1 0) else (fun j => if j = 2 then (v.2.2.1.1 3) else (fun j => if j = 1 then (v.2.2.1.1 2) else (fun j => if j = 0 then (v.2.2.1.1 1) else v.2.2.1.1 j) j) j) j), v.2.2.1.2.1, v.2.2.1.2.2.1, v.2.2.1.2.2.2.1, v.2.2.1.2.2.2.2), 3, v.2.2.2.2) = r := Option.some.inj hf
  subst hR
  exact W.vret hx hb hr0 (fun t ht hW => ⟨⟨(), rfl, trivial, by rw [ht]; exact hP, hD⟩, hS.F ht⟩) hS.2.2 dX6_forgetOldest_46
theorem hd_X6_save : yX6_save.cls ≠ "java/lang/invoke/MethodHandle" ∧ yX6_save.cls ≠ "java/lang/invoke/VarHandle" ∧ (parseMethodDescriptor yX6_save.desc).map (fun d => d.parameters.length) = some 0 := by decide +kernel
def f_X6_save (v : CV) : Option (CV) :=
  if v.2.2.2.1 < 4 then
    if zin v.2.2.2.1 4 = true then
    if (v.2.2.1.1 v.2.2.2.1.toNatClampNeg) = 0 then
      (f_X2_copyFrom v.2.2.1.2.1 v.1).bind (fun u3 =>
      some (v.1, v.2.1, (v.2.2.1.1, u3, v.2.2.1.2.2.1, v.2.2.1.2.2.2.1, v.2.2.1.2.2.2.2), (v.2.2.2.1 + 1), v.2.2.2.2))
    else
      if (v.2.2.1.1 v.2.2.2.1.toNatClampNeg) = 1 then
        (f_X2_copyFrom v.2.2.1.2.2.1 v.1).bind (fun u4 =>
        some (v.1, v.2.1, (v.2.2.1.1, v.2.2.1.2.1, u4, v.2.2.1.2.2.2.1, v.2.2.1.2.2.2.2), (v.2.2.2.1 + 1), v.2.2.2.2))
      else
        if (v.2.2.1.1 v.2.2.2.1.toNatClampNeg) = 2 then
          (f_X2_copyFrom v.2.2.1.2.2.2.1 v.1).bind (fun u5 =>
          some (v.1, v.2.1, (v.2.2.1.1, v.2.2.1.2.1, v.2.2.1.2.2.1, u5, v.2.2.1.2.2.2.2), (v.2.2.2.1 + 1), v.2.2.2.2))
        else
          if (v.2.2.1.1 v.2.2.2.1.toNatClampNeg) = 3 then
            (f_X2_copyFrom v.2.2.1.2.2.2.2 v.1).bind (fun u6 =>
            some (v.1, v.2.1, (v.2.2.1.1, v.2.2.1.2.1, v.2.2.1.2.2.1, v.2.2.1.2.2.2.1, u6), (v.2.2.2.1 + 1), v.2.2.2.2))
          else
            none
    else none
  else
    (f_X6_forgetOldest v).bind (fun u11 =>
    if zin u11.2.2.2.1 4 = true then
    if (u11.2.2.1.1 u11.2.2.2.1.toNatClampNeg) = 0 then
      (f_X2_copyFrom u11.2.2.1.2.1 u11.1).bind (fun u13 =>
      some (u11.1, u11.2.1, (u11.2.2.1.1, u13, u11.2.2.1.2.2.1, u11.2.2.1.2.2.2.1, u11.2.2.1.2.2.2.2), (u11.2.2.2.1 + 1), u11.2.2.2.2))
    else
      if (u11.2.2.1.1 u11.2.2.2.1.toNatClampNeg) = 1 then
        (f_X2_copyFrom u11.2.2.1.2.2.1 u11.1).bind (fun u14 =>
        some (u11.1, u11.2.1, (u11.2.2.1.1, u11.2.2.1.2.1, u14, u11.2.2.1.2.2.2.1, u11.2.2.1.2.2.2.2), (u11.2.2.2.1 + 1), u11.2.2.2.2))
      else
        if (u11.2.2.1.1 u11.2.2.2.1.toNatClampNeg) = 2 then
          (f_X2_copyFrom u11.2.2.1.2.2.2.1 u11.1).bind (fun u15 =>
          some (u11.1, u11.2.1, (u11.2.2.1.1, u11.2.2.1.2.1, u11.2.2.1.2.2.1, u15, u11.2.2.1.2.2.2.2), (u11.2.2.2.1 + 1), u11.2.2.2.2))
        else
          if (u11.2.2.1.1 u11.2.2.2.1.toNatClampNeg) = 3 then
            (f_X2_copyFrom u11.2.2.1.2.2.2.2 u11.1).bind (fun u16 =>
            some (u11.1, u11.2.1, (u11.2.2.1.1, u11.2.2.1.2.1, u11.2.2.1.2.2.1, u11.2.2.1.2.2.2.1, u16), (u11.2.2.2.1 + 1), u11.2.2.2.2))
          else
            none
    else none)
set_option maxHeartbeats 4000000 in
set_option maxRecDepth 100000 in
theorem c_X6_save (l : Launch) (g : zG) (a : Nat → Nat) (v : CV) (r : CV) (hf : f_X6_save v = some r) : zMv zNF zNM l yX6_save (zw yX6_save cX6_save 1 none) ({ frames := 3, cells := 0, slots := 0, locals := 82 } : Room) g [.ref (a 0)] (zX6 g a v) (zX6 g a r) := by
  intro sz
  refine Met.ofW (cc := cX6_save) (maxL := 1) (ret := none) (by decide) rfl ?_
  intro p e s m args below meth c s₁ B hml hv
  obtain ⟨rfl, hsz, hP, hK, hD0⟩ := hv
  have hx := B.exec
  have hb := B.bytes
  have hr0 := B.returns
  have hts := atoms_spec (ws := (zw yX6_save cX6_save 1 none)) B.pre
  have hw0 : ∀ w ∈ zW, w.before ([.ref (a 0)] : List Value).toArray s = true := fun w h => hts w (List.mem_cons_of_mem _ h)
  have hown : s.vm.findClass RX6 = some m.cls := findClass_of_methodNamed B.named
  have hlocks := B.notSynchronized
  subst hsz
  have hD := hD0.self (sz := s.heap.size)
  generalize hAe : va_A (zX6 g a v) s.heap.size = A at hD ⊢
  have hA : ∀ q : Nat, s.heap.size ≤ q → A q := fun q h => by rw [← hAe]; exact Or.inr h
  have hS : va_S A s.heap s.heap [] := va_S.rf
  unfold f_X6_save at hf
  have hl := lv_entry ([.ref (a 0)]) (n := 1) (Nat.le_of_ble_eq_true rfl)
  rw [lg_entry_eq]
  generalize (lg_sl ([.ref (a 0)]) ++ List.replicate (1 - (lg_sl ([.ref (a 0)])).length) Slot.unset).toArray = ls at hl ⊢
  have hl : lv_has ls 1 [(0, .ref (a 0))] := hl
  refine lv_aload_n hx hb dX6_save_0 rfl (lv_at hl 0 rfl) ?_
  refine va_get (D := g.1) (ci := 6) (v := .int v.2.2.2.1) (C := RX6) (T := TX6) (N := 5) hx hb hw0 ziX6 hown hK.1 hP 0 rfl rfl 3 (by decide) (hw0 _ zm1_212) (fun _ h9 => h9) rfl dX6_save_1 ?_
  refine lv_iconst (v := 4) hx hb dX6_save_4 (by decide) ?_
  refine lv_icmp_lt (tgt := 12) hx hb dX6_save_5 (by decide) (fun c1 => ?_) (fun c1 => ?_)
  · have hf := oi hf c1
    refine lv_aload_n hx hb dX6_save_12 rfl (lv_at hl 0 rfl) ?_
    refine va_get (D := g.1) (ci := 6) (v := .ref (a 37)) (C := RX6) (T := TX6) (N := 5) hx hb hw0 ziX6 hown hK.1 hP 0 rfl rfl 2 (by decide) (hw0 _ zm1_211) (fun _ h9 => h9) rfl dX6_save_13 ?_
    refine lv_aload_n hx hb dX6_save_16 rfl (lv_at hl 0 rfl) ?_
    refine va_get (D := g.1) (ci := 6) (v := .int v.2.2.2.1) (C := RX6) (T := TX6) (N := 5) hx hb hw0 ziX6 hown hK.1 hP 0 rfl rfl 3 (by decide) (hw0 _ zm1_212) (fun _ h9 => h9) rfl dX6_save_17 ?_
    obtain ⟨h2, hf⟩ := og hf
    refine zaldq (D := g.1) (f := fun j => some (a (40 + 18 * v.2.2.1.1 j))) (k := v.2.2.2.1.toNatClampNeg) (x := a (40 + 18 * (v.2.2.1.1 v.2.2.2.1.toNatClampNeg))) hx hb hK.1 hP 37 1 rfl rfl (zin_vp h2) rfl rfl dX6_save_20 ?_
    refine lv_aload_n hx hb dX6_save_21 rfl (lv_at hl 0 rfl) ?_
    refine va_get (D := g.1) (ci := 6) (v := .ref (a 1)) (C := RX6) (T := TX6) (N := 5) hx hb hw0 ziX6 hown hK.1 hP 0 rfl rfl 0 (by decide) (hw0 _ zm1_209) (fun _ h9 => h9) rfl dX6_save_22 ?_
    by_cases d7 : (v.2.2.1.1 v.2.2.2.1.toNatClampNeg) = 0
    · have hf := oi hf d7
      rw [d7]
      obtain ⟨u3, hu3, hf⟩ := ob hf
      refine zk_vZ (va_runVN (As := [.ref (a 1)]) (rest := []) ⟨hx, hb, hml, hown, hts⟩ (c_X2_copyFrom l g (fun k => a (k + 40)) (fun k => a (k + 1)) v.2.2.1.2.1 v.1 _ hu3 _) (zcN hw0 (zn_6 hK) zm2_0 zm1_2 zm1_239 zs1_2 hd_X2_copyFrom rfl rfl ⟨Nat.le_of_ble_eq_true rfl, Nat.le_of_ble_eq_true rfl⟩) ⟨zblind, zrecv (wc := zX2 g (fun k => a (k + 40)) v.2.2.1.2.1 ++ zX2 g (fun k => a (k + 1)) v.1) hK hP [40, 41, 42, 43, 44, 45, 46, 47, 48, 49, 50, 51, 52, 53, 54, 55, 56, 57, 1, 2, 3, 4, 5, 6, 7, 8, 9, 10, 11, 12, 13, 14, 15, 16, 17, 18] rfl (ci := 2) rfl rfl, zpre hK hP hD [40, 41, 42, 43, 44, 45, 46, 47, 48, 49, 50, 51, 52, 53, 54, 55, 56, 57, 1, 2, 3, 4, 5, 6, 7, 8, 9, 10, 11, 12, 13, 14, 15, 16, 17, 18] rfl rfl⟩ rfl rfl hl.1 rfl (lv_room (Nat.le_of_ble_eq_true rfl)) dX6_save_25 ⟨Nat.zero_le _, Nat.zero_le _⟩) hP hD hS hA [40, 41, 42, 43, 44, 45, 46, 47, 48, 49, 50, 51, 52, 53, 54, 55, 56, 57, 1, 2, 3, 4, 5, 6, 7, 8, 9, 10, 11, 12, 13, 14, 15, 16, 17, 18] rfl rfl (ztwo (is1 := List.range' 40 18) rfl (zrun (wc := zX2 g (fun k => a (k + 40)) v.2.2.1.2.1) (ws' := zX6 g a (v.1, v.2.1, (v.2.2.1.1, u3, v.2.2.1.2.2.1, v.2.2.1.2.2.2.1, v.2.2.1.2.2.2.2), v.2.2.2.1, v.2.2.2.2)) 40 18 rfl rfl rfl rfl rfl) (zrun (wc := zX2 g (fun k => a (k + 1)) v.1) (ws' := zX6 g a (v.1, v.2.1, (v.2.2.1.1, u3, v.2.2.1.2.2.1, v.2.2.1.2.2.2.1, v.2.2.1.2.2.2.2), v.2.2.2.1, v.2.2.2.2)) 1 18 rfl rfl rfl rfl rfl)) (fun H locs hP hD hS => ?_)
      have hP : va_P g.1 vwCl (zX6 g a (v.1, v.2.1, (v.2.2.1.1, u3, v.2.2.1.2.2.1, v.2.2.1.2.2.2.1, v.2.2.1.2.2.2.2), v.2.2.2.1, v.2.2.2.2)) H := hP
      have hD : va_D A (zX6 g a (v.1, v.2.1, (v.2.2.1.1, u3, v.2.2.1.2.2.1, v.2.2.1.2.2.2.1, v.2.2.1.2.2.2.2), v.2.2.2.1, v.2.2.2.2)) := hD
      refine lv_aload_n hx hb dX6_save_28 rfl (lv_at hl 0 rfl) ?_
      refine lv_dup hx hb dX6_save_29 rfl ?_
      refine va_get (D := g.1) (ci := 6) (v := .int v.2.2.2.1) (C := RX6) (T := TX6) (N := 5) hx hb hw0 ziX6 hown hK.1 hP 0 rfl rfl 3 (by decide) (hw0 _ zm1_212) (fun _ h9 => h9) rfl dX6_save_30 ?_
      refine lv_iconst (v := 1) hx hb dX6_save_33 (by decide) ?_
      refine lv_iadd hx hb dX6_save_34 ?_
      refine va_put (D := g.1) (ci := 6) (v := .int (v.2.2.2.1 + 1)) (ty := .int) (C := RX6) (T := TX6) (N := 5) hx hb hw0 ziX6 tyX6 tyX6_ok nmX6 hown hK.1 hP hD hS 0 rfl rfl 3 (by decide) (hw0 _ zm1_212) (fun _ h9 => h9) rfl (tyX6_ok 3 (by decide)) rfl rfl (Nat.le_of_ble_eq_true rfl) dX6_save_35 (fun H locs hP hD hS => ?_)
      have hP : va_P g.1 vwCl (zX6 g a (v.1, v.2.1, (v.2.2.1.1, u3, v.2.2.1.2.2.1, v.2.2.1.2.2.2.1, v.2.2.1.2.2.2.2), (v.2.2.2.1 + 1), v.2.2.2.2)) H := hP
      have hD : va_D A (zX6 g a (v.1, v.2.1, (v.2.2.1.1, u3, v.2.2.1.2.2.1, v.2.2.1.2.2.2.1, v.2.2.1.2.2.2.2), (v.2.2.2.1 + 1), v.2.2.2.2)) := hD
      have hR : (v.1, v.2.1, (v.2.2.1.1, u3, v.2.2.1.2.2.1, v.2.2.1.2.2.2.1, v.2.2.1.2.2.2.2), (v.2.2.2.1 + 1), v.2.2.2.2) = r := Option.some.inj hf
      subst hR
      exact W.vret hx hb hr0 (fun t ht hW => ⟨⟨(), rfl, trivial, by rw [ht]; exact hP, hD⟩, hS.F ht⟩) hS.2.2 dX6_save_38
    · have hf := oe hf d7
      by_cases d8 : (v.2.2.1.1 v.2.2.2.1.toNatClampNeg) = 1
      · have hf := oi hf d8
        rw [d8]
        obtain ⟨u4, hu4, hf⟩ := ob hf
        refine zk_vZ (va_runVN (As := [.ref (a 1)]) (rest := []) ⟨hx, hb, hml, hown, hts⟩ (c_X2_copyFrom l g (fun k => a (k + 58)) (fun k => a (k + 1)) v.2.2.1.2.2.1 v.1 _ hu4 _) (zcN hw0 (zn_6 hK) zm2_0 zm1_2 zm1_239 zs1_2 hd_X2_copyFrom rfl rfl ⟨Nat.le_of_ble_eq_true rfl, Nat.le_of_ble_eq_true rfl⟩) ⟨zblind, zrecv (wc := zX2 g (fun k => a (k + 58)) v.2.2.1.2.2.1 ++ zX2 g (fun k => a (k + 1)) v.1) hK hP [58, 59, 60, 61, 62, 63, 64, 65, 66, 67, 68, 69, 70, 71, 72, 73, 74, 75, 1, 2, 3, 4, 5, 6, 7, 8, 9, 10, 11, 12, 13, 14, 15, 16, 17, 18] rfl (ci := 2) rfl rfl, zpre hK hP hD [58, 59, 60, 61, 62, 63, 64, 65, 66, 67, 68, 69, 70, 71, 72, 73, 74, 75, 1, 2, 3, 4, 5, 6, 7, 8, 9, 10, 11, 12, 13, 14, 15, 16, 17, 18] rfl rfl⟩ rfl rfl hl.1 rfl (lv_room (Nat.le_of_ble_eq_true rfl)) dX6_save_25 ⟨Nat.zero_le _, Nat.zero_le _⟩) hP hD hS hA [58, 59, 60, 61, 62, 63, 64, 65, 66, 67, 68, 69, 70, 71, 72, 73, 74, 75, 1, 2, 3, 4, 5, 6, 7, 8, 9, 10, 11, 12, 13, 14, 15, 16, 17, 18] rfl rfl (ztwo (is1 := List.range' 58 18) rfl (zrun (wc := zX2 g (fun k => a (k + 58)) v.2.2.1.2.2.1) (ws' := zX6 g a (v.1, v.2.1, (v.2.2.1.1, v.2.2.1.2.1, u4, v.2.2.1.2.2.2.1, v.2.2.1.2.2.2.2), v.2.2.2.1, v.2.2.2.2)) 58 18 rfl rfl rfl rfl rfl) (zrun (wc := zX2 g (fun k => a (k + 1)) v.1) (ws' := zX6 g a (v.1, v.2.1, (v.2.2.1.1, v.2.2.1.2.1, u4, v.2.2.1.2.2.2.1, v.2.2.1.2.2.2.2), v.2.2.2.1, v.2.2.2.2)) 1 18 rfl rfl rfl rfl rfl)) (fun H locs hP hD hS => ?_)
        have hP : va_P g.1 vwCl (zX6 g a (v.1, v.2.1, (v.2.2.1.1, v.2.2.1.2.1, u4, v.2.2.1.2.2.2.1, v.2.2.1.2.2.2.2), v.2.2.2.1, v.2.2.2.2)) H := hP
        have hD : va_D A (zX6 g a (v.1, v.2.1, (v.2.2.1.1, v.2.2.1.2.1, u4, v.2.2.1.2.2.2.1, v.2.2.1.2.2.2.2), v.2.2.2.1, v.2.2.2.2)) := hD
        refine lv_aload_n hx hb dX6_save_28 rfl (lv_at hl 0 rfl) ?_
        refine lv_dup hx hb dX6_save_29 rfl ?_
        refine va_get (D := g.1) (ci := 6) (v := .int v.2.2.2.1) (C := RX6) (T := TX6) (N := 5) hx hb hw0 ziX6 hown hK.1 hP 0 rfl rfl 3 (by decide) (hw0 _ zm1_212) (fun _ h9 => h9) rfl dX6_save_30 ?_
        refine lv_iconst (v := 1) hx hb dX6_save_33 (by decide) ?_
        refine lv_iadd hx hb dX6_save_34 ?_
        refine va_put (D := g.1) (ci := 6) (v := .int (v.2.2.2.1 + 1)) (ty := .int) (C := RX6) (T := TX6) (N := 5) hx hb hw0 ziX6 tyX6 tyX6_ok nmX6 hown hK.1 hP hD hS 0 rfl rfl 3 (by decide) (hw0 _ zm1_212) (fun _ h9 => h9) rfl (tyX6_ok 3 (by decide)) rfl rfl (Nat.le_of_ble_eq_true rfl) dX6_save_35 (fun H locs hP hD hS => ?_)
        have hP : va_P g.1 vwCl (zX6 g a (v.1, v.2.1, (v.2.2.1.1, v.2.2.1.2.1, u4, v.2.2.1.2.2.2.1, v.2.2.1.2.2.2.2), (v.2.2.2.1 + 1), v.2.2.2.2)) H := hP
        have hD : va_D A (zX6 g a (v.1, v.2.1, (v.2.2.1.1, v.2.2.1.2.1, u4, v.2.2.1.2.2.2.1, v.2.2.1.2.2.2.2), (v.2.2.2.1 + 1), v.2.2.2.2)) := hD
        have hR : (v.1, v.2.1, (v.2.2.1.1, v.2.2.1.2.1, u4, v.2.2.1.2.2.2.1, v.2.2.1.2.2.2.2), (v.2.2.2.1 + 1), v.2.2.2.2) = r := Option.some.inj hf
        subst hR
        exact W.vret hx hb hr0 (fun t ht hW => ⟨⟨(), rfl, trivial, by rw [ht]; exact hP, hD⟩, hS.F ht⟩) hS.2.2 dX6_save_38
      · have hf := oe hf d8
        by_cases d9 : (v.2.2.1.1 v.2.2.2.1.toNatClampNeg) = 2
        · have hf := oi hf d9
          rw [d9]
          obtain ⟨u5, hu5, hf⟩ := ob hf
          refine zk_vZ (va_runVN (As := [.ref (a 1)]) (rest := []) ⟨hx, hb, hml, hown, hts⟩ (c_X2_copyFrom l g (fun k => a (k + 76)) (fun k => a (k + 1)) v.2.2.1.2.2.2.1 v.1 _ hu5 _) (zcN hw0 (zn_6 hK) zm2_0 zm1_2 zm1_239 zs1_2 hd_X2_copyFrom rfl rfl ⟨Nat.le_of_ble_eq_true rfl, Nat.le_of_ble_eq_true rfl⟩) ⟨zblind, zrecv (wc := zX2 g (fun k => a (k + 76)) v.2.2.1.2.2.2.1 ++ zX2 g (fun k => a (k + 1)) v.1) hK hP [76, 77, 78, 79, 80, 81, 82, 83, 84, 85, 86, 87, 88, 89, 90, 91, 92, 93, 1, 2, 3, 4, 5, 6, 7, 8, 9, 10, 11, 12, 13, 14, 15, 16, 17, 18] rfl (ci := 2) rfl rfl, zpre hK hP hD [76, 77, 78, 79, 80, 81, 82, 83, 84, 85, 86, 87, 88, 89, 90, 91, 92, 93, 1, 2, 3, 4, 5, 6, 7, 8, 9, 10, 11, 12, 13, 14, 15, 16, 17, 18] rfl rfl⟩ rfl rfl hl.1 rfl (lv_room (Nat.le_of_ble_eq_true rfl)) dX6_save_25 ⟨Nat.zero_le _, Nat.zero_le _⟩) hP hD hS hA [76, 77, 78, 79, 80, 81, 82, 83, 84, 85, 86, 87, 88, 89, 90, 91, 92, 93, 1, 2, 3, 4, 5, 6, 7, 8, 9, 10, 11, 12, 13, 14, 15, 16, 17, 18] rfl rfl (ztwo (is1 := List.range' 76 18) rfl (zrun (wc := zX2 g (fun k => a (k + 76)) v.2.2.1.2.2.2.1) (ws' := zX6 g a (v.1, v.2.1, (v.2.2.1.1, v.2.2.1.2.1, v.2.2.1.2.2.1, u5, v.2.2.1.2.2.2.2), v.2.2.2.1, v.2.2.2.2)) 76 18 rfl rfl rfl rfl rfl) (zrun (wc := zX2 g (fun k => a (k + 1)) v.1) (ws' := zX6 g a (v.1, v.2.1, (v.2.2.1.1, v.2.2.1.2.1, v.2.2.1.2.2.1, u5, v.2.2.1.2.2.2.2), v.2.2.2.1, v.2.2.2.2)) 1 18 rfl rfl rfl rfl rfl)) (fun H locs hP hD hS => ?_)
          have hP : va_P g.1 vwCl (zX6 g a (v.1, v.2.1, (v.2.2.1.1, v.2.2.1.2.1, v.2.2.1.2.2.1, u5, v.2.2.1.2.2.2.2), v.2.2.2.1, v.2.2.2.2)) H := hP
          have hD : va_D A (zX6 g a (v.1, v.2.1, (v.2.2.1.1, v.2.2.1.2.1, v.2.2.1.2.2.1, u5, v.2.2.1.2.2.2.2), v.2.2.2.1, v.2.2.2.2)) := hD
          refine lv_aload_n hx hb dX6_save_28 rfl (lv_at hl 0 rfl) ?_
          refine lv_dup hx hb dX6_save_29 rfl ?_
          refine va_get (D := g.1) (ci := 6) (v := .int v.2.2.2.1) (C := RX6) (T := TX6) (N := 5) hx hb hw0 ziX6 hown hK.1 hP 0 rfl rfl 3 (by decide) (hw0 _ zm1_212) (fun _ h9 => h9) rfl dX6_save_30 ?_
          refine lv_iconst (v := 1) hx hb dX6_save_33 (by decide) ?_
          refine lv_iadd hx hb dX6_save_34 ?_
          refine va_put (D := g.1) (ci := 6) (v := .int (v.2.2.2.1 + 1)) (ty := .int) (C := RX6) (T := TX6) (N := 5) hx hb hw0 ziX6 tyX6 tyX6_ok nmX6 hown hK.1 hP hD hS 0 rfl rfl 3 (by decide) (hw0 _ zm1_212) (fun _ h9 => h9) rfl (tyX6_ok 3 (by decide)) rfl rfl (Nat.le_of_ble_eq_true rfl) dX6_save_35 (fun H locs hP hD hS => ?_)
          have hP : va_P g.1 vwCl (zX6 g a (v.1, v.2.1, (v.2.2.1.1, v.2.2.1.2.1, v.2.2.1.2.2.1, u5, v.2.2.1.2.2.2.2), (v.2.2.2.1 + 1), v.2.2.2.2)) H := hP
          have hD : va_D A (zX6 g a (v.1, v.2.1, (v.2.2.1.1, v.2.2.1.2.1, v.2.2.1.2.2.1, u5, v.2.2.1.2.2.2.2), (v.2.2.2.1 + 1), v.2.2.2.2)) := hD
          have hR : (v.1, v.2.1, (v.2.2.1.1, v.2.2.1.2.1, v.2.2.1.2.2.1, u5, v.2.2.1.2.2.2.2), (v.2.2.2.1 + 1), v.2.2.2.2) = r := Option.some.inj hf
          subst hR
          exact W.vret hx hb hr0 (fun t ht hW => ⟨⟨(), rfl, trivial, by rw [ht]; exact hP, hD⟩, hS.F ht⟩) hS.2.2 dX6_save_38
        · have hf := oe hf d9
          by_cases d10 : (v.2.2.1.1 v.2.2.2.1.toNatClampNeg) = 3
          · have hf := oi hf d10
            rw [d10]
            obtain ⟨u6, hu6, hf⟩ := ob hf
            refine zk_vZ (va_runVN (As := [.ref (a 1)]) (rest := []) ⟨hx, hb, hml, hown, hts⟩ (c_X2_copyFrom l g (fun k => a (k + 94)) (fun k => a (k + 1)) v.2.2.1.2.2.2.2 v.1 _ hu6 _) (zcN hw0 (zn_6 hK) zm2_0 zm1_2 zm1_239 zs1_2 hd_X2_copyFrom rfl rfl ⟨Nat.le_of_ble_eq_true rfl, Nat.le_of_ble_eq_true rfl⟩) ⟨zblind, zrecv (wc := zX2 g (fun k => a (k + 94)) v.2.2.1.2.2.2.2 ++ zX2 g (fun k => a (k + 1)) v.1) hK hP [94, 95, 96, 97, 98, 99, 100, 101, 102, 103, 104, 105, 106, 107, 108, 109, 110, 111, 1, 2, 3, 4, 5, 6, 7, 8, 9, 10, 11, 12, 13, 14, 15, 16, 17, 18] rfl (ci := 2) rfl rfl, zpre hK hP hD [94, 95, 96, 97, 98, 99, 100, 101, 102, 103, 104, 105, 106, 107, 108, 109, 110, 111, 1, 2, 3, 4, 5, 6, 7, 8, 9, 10, 11, 12, 13, 14, 15, 16, 17, 18] rfl rfl⟩ rfl rfl hl.1 rfl (lv_room (Nat.le_of_ble_eq_true rfl)) dX6_save_25 ⟨Nat.zero_le _, Nat.zero_le _⟩) hP hD hS hA [94, 95, 96, 97, 98, 99, 100, 101, 102, 103, 104, 105, 106, 107, 108, 109, 110, 111, 1, 2, 3, 4, 5, 6, 7, 8, 9, 10, 11, 12, 13, 14, 15, 16, 17, 18] rfl rfl (ztwo (is1 := List.range' 94 18) rfl (zrun (wc := zX2 g (fun k => a (k + 94)) v.2.2.1.2.2.2.2) (ws' := zX6 g a (v.1, v.2.1, (v.2.2.1.1, v.2.2.1.2.1, v.2.2.1.2.2.1, v.2.2.1.2.2.2.1, u6), v.2.2.2.1, v.2.2.2.2)) 94 18 rfl rfl rfl rfl rfl) (zrun (wc := zX2 g (fun k => a (k + 1)) v.1) (ws' := zX6 g a (v.1, v.2.1, (v.2.2.1.1, v.2.2.1.2.1, v.2.2.1.2.2.1, v.2.2.1.2.2.2.1, u6), v.2.2.2.1, v.2.2.2.2)) 1 18 rfl rfl rfl rfl rfl)) (fun H locs hP hD hS => ?_)
            have hP : va_P g.1 vwCl (zX6 g a (v.1, v.2.1, (v.2.2.1.1, v.2.2.1.2.1, v.2.2.1.2.2.1, v.2.2.1.2.2.2.1, u6), v.2.2.2.1, v.2.2.2.2)) H := hP
            have hD : va_D A (zX6 g a (v.1, v.2.1, (v.2.2.1.1, v.2.2.1.2.1, v.2.2.1.2.2.1, v.2.2.1.2.2.2.1, u6), v.2.2.2.1, v.2.2.2.2)) := hD
            refine lv_aload_n hx hb dX6_save_28 rfl (lv_at hl 0 rfl) ?_
            refine lv_dup hx hb dX6_save_29 rfl ?_
            refine va_get (D := g.1) (ci := 6) (v := .int v.2.2.2.1) (C := RX6) (T := TX6) (N := 5) hx hb hw0 ziX6 hown hK.1 hP 0 rfl rfl 3 (by decide) (hw0 _ zm1_212) (fun _ h9 => h9) rfl dX6_save_30 ?_
            refine lv_iconst (v := 1) hx hb dX6_save_33 (by decide) ?_
            refine lv_iadd hx hb dX6_save_34 ?_
            refine va_put (D := g.1) (ci := 6) (v := .int (v.2.2.2.1 + 1)) (ty := .int) (C := RX6) (T := TX6) (N := 5) hx hb hw0 ziX6 tyX6 tyX6_ok nmX6 hown hK.1 hP hD hS 0 rfl rfl 3 (by decide) (hw0 _ zm1_212) (fun _ h9 => h9) rfl (tyX6_ok 3 (by decide)) rfl rfl (Nat.le_of_ble_eq_true rfl) dX6_save_35 (fun H locs hP hD hS => ?_)
            have hP : va_P g.1 vwCl (zX6 g a (v.1, v.2.1, (v.2.2.1.1, v.2.2.1.2.1, v.2.2.1.2.2.1, v.2.2.1.2.2.2.1, u6), (v.2.2.2.1 + 1), v.2.2.2.2)) H := hP
            have hD : va_D A (zX6 g a (v.1, v.2.1, (v.2.2.1.1, v.2.2.1.2.1, v.2.2.1.2.2.1, v.2.2.1.2.2.2.1, u6), (v.2.2.2.1 + 1), v.2.2.2.2)) := hD
            have hR : (v.1, v.2.1, (v.2.2.1.1, v.2.2.1.2.1, v.2.2.1.2.2.1, v.2.2.1.2.2.2.1, u6), (v.2.2.2.1 + 1), v.2.2.2.2) = r := Option.some.inj hf
            subst hR
            exact W.vret hx hb hr0 (fun t ht hW => ⟨⟨(), rfl, trivial, by rw [ht]; exact hP, hD⟩, hS.F ht⟩) hS.2.2 dX6_save_38
          · have hf := oe hf d10
            exact absurd hf (by simp)
  · have hf := oe hf c1
    refine lv_aload_n hx hb dX6_save_8 rfl (lv_at hl 0 rfl) ?_
    obtain ⟨u11, hu11, hf⟩ := ob hf
    refine zk_vA (va_runV (As := []) (rest := []) ⟨hx, hb, hml, hown, hts⟩ (c_X6_forgetOldest l g a v _ hu11 _) (zcV hw0 zm1_233 zm1_236 zm1_1 zm1_235 zs1_1 hd_X6_forgetOldest rfl rfl ⟨Nat.le_of_ble_eq_true rfl, Nat.le_of_ble_eq_true rfl⟩) ⟨zblind, zrecvA hK hP (ci := 6) rfl rfl, zpreA hK hP hD⟩ rfl rfl hl.1 rfl (lv_room (Nat.le_of_ble_eq_true rfl)) dX6_save_9 ⟨Nat.zero_le _, Nat.zero_le _⟩) hP hD hS hA (fun H locs hP hD hS => ?_)
    have hP : va_P g.1 vwCl (zX6 g a u11) H := hP
    have hD : va_D A (zX6 g a u11) := hD
    refine lv_aload_n hx hb dX6_save_12 rfl (lv_at hl 0 rfl) ?_
    refine va_get (D := g.1) (ci := 6) (v := .ref (a 37)) (C := RX6) (T := TX6) (N := 5) hx hb hw0 ziX6 hown hK.1 hP 0 rfl rfl 2 (by decide) (hw0 _ zm1_211) (fun _ h9 => h9) rfl dX6_save_13 ?_
    refine lv_aload_n hx hb dX6_save_16 rfl (lv_at hl 0 rfl) ?_
    refine va_get (D := g.1) (ci := 6) (v := .int u11.2.2.2.1) (C := RX6) (T := TX6) (N := 5) hx hb hw0 ziX6 hown hK.1 hP 0 rfl rfl 3 (by decide) (hw0 _ zm1_212) (fun _ h9 => h9) rfl dX6_save_17 ?_
    obtain ⟨h12, hf⟩ := og hf
    refine zaldq (D := g.1) (f := fun j => some (a (40 + 18 * u11.2.2.1.1 j))) (k := u11.2.2.2.1.toNatClampNeg) (x := a (40 + 18 * (u11.2.2.1.1 u11.2.2.2.1.toNatClampNeg))) hx hb hK.1 hP 37 1 rfl rfl (zin_vp h12) rfl rfl dX6_save_20 ?_
    refine lv_aload_n hx hb dX6_save_21 rfl (lv_at hl 0 rfl) ?_
    refine va_get (D := g.1) (ci := 6) (v := .ref (a 1)) (C := RX6) (T := TX6) (N := 5) hx hb hw0 ziX6 hown hK.1 hP 0 rfl rfl 0 (by decide) (hw0 _ zm1_209) (fun _ h9 => h9) rfl dX6_save_22 ?_
    by_cases d17 : (u11.2.2.1.1 u11.2.2.2.1.toNatClampNeg) = 0
    · have hf := oi hf d17
      rw [d17]
      obtain ⟨u13, hu13, hf⟩ := ob hf
      refine zk_vZ (va_runVN (As := [.ref (a 1)]) (rest := []) ⟨hx, hb, hml, hown, hts⟩ (c_X2_copyFrom l g (fun k => a (k + 40)) (fun k => a (k + 1)) u11.2.2.1.2.1 u11.1 _ hu13 _) (zcN hw0 (zn_6 hK) zm2_0 zm1_2 zm1_239 zs1_2 hd_X2_copyFrom rfl rfl ⟨Nat.le_of_ble_eq_true rfl, Nat.le_of_ble_eq_true rfl⟩) ⟨zblind, zrecv (wc := zX2 g (fun k => a (k + 40)) u11.2.2.1.2.1 ++ zX2 g (fun k => a (k + 1)) u11.1) hK hP [40, 41, 42, 43, 44, 45, 46, 47, 48, 49, 50, 51, 52, 53, 54, 55, 56, 57, 1, 2, 3, 4, 5, 6, 7, 8, 9, 10, 11, 12, 13, 14, 15, 16, 17, 18] rfl (ci := 2) rfl rfl, zpre hK hP hD [40, 41, 42, 43, 44, 45, 46, 47, 48, 49, 50, 51, 52, 53, 54, 55, 56, 57, 1, 2, 3, 4, 5, 6, 7, 8, 9, 10, 11, 12, 13, 14, 15, 16, 17, 18] rfl rfl⟩ rfl rfl hl.1 rfl (lv_room (Nat.le_of_ble_eq_true rfl)) dX6_save_25 ⟨Nat.zero_le _, Nat.zero_le _⟩) hP hD hS hA [40, 41, 42, 43, 44, 45, 46, 47, 48, 49, 50, 51, 52, 53, 54, 55, 56, 57, 1, 2, 3, 4, 5, 6, 7, 8, 9, 10, 11, 12, 13, 14, 15, 16, 17, 18] rfl rfl (ztwo (is1 := List.range' 40 18) rfl (zrun (wc := zX2 g (fun k => a (k + 40)) u11.2.2.1.2.1) (ws' := zX6 g a (u11.1, u11.2.1, (u11.2.2.1.1, u13, u11.2.2.1.2.2.1, u11.2.2.1.2.2.2.1, u11.2.2.1.2.2.2.2), u11.2.2.2.1, u11.2.2.2.2)) 40 18 rfl rfl rfl rfl rfl) (zrun (wc := zX2 g (fun k => a (k + 1)) u11.1) (ws' := zX6 g a (u11.1, u11.2.1, (u11.2.2.1.1, u13, u11.2.2.1.2.2.1, u11.2.2.1.2.2.2.1, u11.2.2.1.2.2.2.2), u11.2.2.2.1, u11.2.2.2.2)) 1 18 rfl rfl rfl rfl rfl)) (fun H locs hP hD hS => ?_)
      have hP : va_P g.1 vwCl (zX6 g a (u11.1, u11.2.1, (u11.2.2.1.1, u13, u11.2.2.1.2.2.1, u11.2.2.1.2.2.2.1, u11.2.2.1.2.2.2.2), u11.2.2.2.1, u11.2.2.2.2)) H := hP
      have hD : va_D A (zX6 g a (u11.1, u11.2.1, (u11.2.2.1.1, u13, u11.2.2.1.2.2.1, u11.2.2.1.2.2.2.1, u11.2.2.1.2.2.2.2), u11.2.2.2.1, u11.2.2.2.2)) := hD
      refine lv_aload_n hx hb dX6_save_28 rfl (lv_at hl 0 rfl) ?_
      refine lv_dup hx hb dX6_save_29 rfl ?_
      refine va_get (D := g.1) (ci := 6) (v := .int u11.2.2.2.1) (C := RX6) (T := TX6) (N := 5) hx hb hw0 ziX6 hown hK.1 hP 0 rfl rfl 3 (by decide) (hw0 _ zm1_212) (fun _ h9 => h9) rfl dX6_save_30 ?_
      refine lv_iconst (v := 1) hx hb dX6_save_33 (by decide) ?_
      refine lv_iadd hx hb dX6_save_34 ?_
      refine va_put (D := g.1) (ci := 6) (v := .int (u11.2.2.2.1 + 1)) (ty := .int) (C := RX6) (T := TX6) (N := 5) hx hb hw0 ziX6 tyX6 tyX6_ok nmX6 hown hK.1 hP hD hS 0 rfl rfl 3 (by decide) (hw0 _ zm1_212) (fun _ h9 => h9) rfl (tyX6_ok 3 (by decide)) rfl rfl (Nat.le_of_ble_eq_true rfl) dX6_save_35 (fun H locs hP hD hS => ?_)
      have hP : va_P g.1 vwCl (zX6 g a (u11.1, u11.2.1, (u11.2.2.1.1, u13, u11.2.2.1.2.2.1, u11.2.2.1.2.2.2.1, u11.2.2.1.2.2.2.2), (u11.2.2.2.1 + 1), u11.2.2.2.2)) H := hP
      have hD : va_D A (zX6 g a (u11.1, u11.2.1, (u11.2.2.1.1, u13, u11.2.2.1.2.2.1, u11.2.2.1.2.2.2.1, u11.2.2.1.2.2.2.2), (u11.2.2.2.1 + 1), u11.2.2.2.2)) := hD
      have hR : (u11.1, u11.2.1, (u11.2.2.1.1, u13, u11.2.2.1.2.2.1, u11.2.2.1.2.2.2.1, u11.2.2.1.2.2.2.2), (u11.2.2.2.1 + 1), u11.2.2.2.2) = r := Option.some.inj hf
      subst hR
      exact W.vret hx hb hr0 (fun t ht hW => ⟨⟨(), rfl, trivial, by rw [ht]; exact hP, hD⟩, hS.F ht⟩) hS.2.2 dX6_save_38
    · have hf := oe hf d17
      by_cases d18 : (u11.2.2.1.1 u11.2.2.2.1.toNatClampNeg) = 1
      · have hf := oi hf d18
        rw [d18]
        obtain ⟨u14, hu14, hf⟩ := ob hf
        refine zk_vZ (va_runVN (As := [.ref (a 1)]) (rest := []) ⟨hx, hb, hml, hown, hts⟩ (c_X2_copyFrom l g (fun k => a (k + 58)) (fun k => a (k + 1)) u11.2.2.1.2.2.1 u11.1 _ hu14 _) (zcN hw0 (zn_6 hK) zm2_0 zm1_2 zm1_239 zs1_2 hd_X2_copyFrom rfl rfl ⟨Nat.le_of_ble_eq_true rfl, Nat.le_of_ble_eq_true rfl⟩) ⟨zblind, zrecv (wc := zX2 g (fun k => a (k + 58)) u11.2.2.1.2.2.1 ++ zX2 g (fun k => a (k + 1)) u11.1) hK hP [58, 59, 60, 61, 62, 63, 64, 65, 66, 67, 68, 69, 70, 71, 72, 73, 74, 75, 1, 2, 3, 4, 5, 6, 7, 8, 9, 10, 11, 12, 13, 14, 15, 16, 17, 18] rfl (ci := 2) rfl rfl, zpre hK hP hD [58, 59, 60, 61, 62, 63, 64, 65, 66, 67, 68, 69, 70, 71, 72, 73, 74, 75, 1, 2, 3, 4, 5, 6, 7, 8, 9, 10, 11, 12, 13, 14, 15, 16, 17, 18] rfl rfl⟩ rfl rfl hl.1 rfl (lv_room (Nat.le_of_ble_eq_true rfl)) dX6_save_25 ⟨Nat.zero_le _, Nat.zero_le _⟩) hP hD hS hA [58, 59, 60, 61, 62, 63, 64, 65, 66, 67, 68, 69, 70, 71, 72, 73, 74, 75, 1, 2, 3, 4, 5, 6, 7, 8, 9, 10, 11, 12, 13, 14, 15, 16, 17, 18] rfl rfl (ztwo (is1 := List.range' 58 18) rfl (zrun (wc := zX2 g (fun k => a (k + 58)) u11.2.2.1.2.2.1) (ws' := zX6 g a (u11.1, u11.2.1, (u11.2.2.1.1, u11.2.2.1.2.1, u14, u11.2.2.1.2.2.2.1, u11.2.2.1.2.2.2.2), u11.2.2.2.1, u11.2.2.2.2)) 58 18 rfl rfl rfl rfl rfl) (zrun (wc := zX2 g (fun k => a (k + 1)) u11.1) (ws' := zX6 g a (u11.1, u11.2.1, (u11.2.2.1.1, u11.2.2.1.2.1, u14, u11.2.2.1.2.2.2.1, u11.2.2.1.2.2.2.2), u11.2.2.2.1, u11.2.2.2.2)) 1 18 rfl rfl rfl rfl rfl)) (fun H locs hP hD hS => ?_)
        have hP : va_P g.1 vwCl (zX6 g a (u11.1, u11.2.1, (u11.2.2.1.1, u11.2.2.1.2.1, u14, u11.2.2.1.2.2.2.1, u11.2.2.1.2.2.2.2), u11.2.2.2.1, u11.2.2.2.2)) H := hP
        have hD : va_D A (zX6 g a (u11.1, u11.2.1, (u11.2.2.1.1, u11.2.2.1.2.1, u14, u11.2.2.1.2.2.2.1, u11.2.2.1.2.2.2.2), u11.2.2.2.1, u11.2.2.2.2)) := hD
        refine lv_aload_n hx hb dX6_save_28 rfl (lv_at hl 0 rfl) ?_
        refine lv_dup hx hb dX6_save_29 rfl ?_
        refine va_get (D := g.1) (ci := 6) (v := .int u11.2.2.2.1) (C := RX6) (T := TX6) (N := 5) hx hb hw0 ziX6 hown hK.1 hP 0 rfl rfl 3 (by decide) (hw0 _ zm1_212) (fun _ h9 => h9) rfl dX6_save_30 ?_
        refine lv_iconst (v := 1) hx hb dX6_save_33 (by decide) ?_
        refine lv_iadd hx hb dX6_save_34 ?_
        refine va_put (D := g.1) (ci := 6) (v := .int (u11.2.2.2.1 + 1)) (ty := .int) (C := RX6) (T := TX6) (N := 5) hx hb hw0 ziX6 tyX6 tyX6_ok nmX6 hown hK.1 hP hD hS 0 rfl rfl 3 (by decide) (hw0 _ zm1_212) (fun _ h9 => h9) rfl (tyX6_ok 3 (by decide)) rfl rfl (Nat.le_of_ble_eq_true rfl) dX6_save_35 (fun H locs hP hD hS => ?_)
        have hP : va_P g.1 vwCl (zX6 g a (u11.1, u11.2.1, (u11.2.2.1.1, u11.2.2.1.2.1, u14, u11.2.2.1.2.2.2.1, u11.2.2.1.2.2.2.2), (u11.2.2.2.1 + 1), u11.2.2.2.2)) H := hP
        have hD : va_D A (zX6 g a (u11.1, u11.2.1, (u11.2.2.1.1, u11.2.2.1.2.1, u14, u11.2.2.1.2.2.2.1, u11.2.2.1.2.2.2.2), (u11.2.2.2.1 + 1), u11.2.2.2.2)) := hD
        have hR : (u11.1, u11.2.1, (u11.2.2.1.1, u11.2.2.1.2.1, u14, u11.2.2.1.2.2.2.1, u11.2.2.1.2.2.2.2), (u11.2.2.2.1 + 1), u11.2.2.2.2) = r := Option.some.inj hf
        subst hR
        exact W.vret hx hb hr0 (fun t ht hW => ⟨⟨(), rfl, trivial, by rw [ht]; exact hP, hD⟩, hS.F ht⟩) hS.2.2 dX6_save_38
      · have hf := oe hf d18
        by_cases d19 : (u11.2.2.1.1 u11.2.2.2.1.toNatClampNeg) = 2
        · have hf := oi hf d19
          rw [d19]
          obtain ⟨u15, hu15, hf⟩ := ob hf
          refine zk_vZ (va_runVN (As := [.ref (a 1)]) (rest := []) ⟨hx, hb, hml, hown, hts⟩ (c_X2_copyFrom l g (fun k => a (k + 76)) (fun k => a (k + 1)) u11.2.2.1.2.2.2.1 u11.1 _ hu15 _) (zcN hw0 (zn_6 hK) zm2_0 zm1_2 zm1_239 zs1_2 hd_X2_copyFrom rfl rfl ⟨Nat.le_of_ble_eq_true rfl, Nat.le_of_ble_eq_true rfl⟩) ⟨zblind, zrecv (wc := zX2 g (fun k => a (k + 76)) u11.2.2.1.2.2.2.1 ++ zX2 g (fun k => a (k + 1)) u11.1) hK hP [76, 77, 78, 79, 80, 81, 82, 83, 84, 85, 86, 87, 88, 89, 90, 91, 92, 93, 1, 2, 3, 4, 5, 6, 7, 8, 9, 10, 11, 12, 13, 14, 15, 16, 17, 18] rfl (ci := 2) rfl rfl, zpre hK hP hD [76, 77, 78, 79, 80, 81, 82, 83, 84, 85, 86, 87, 88, 89, 90, 91, 92, 93, 1, 2, 3, 4, 5, 6, 7, 8, 9, 10, 11, 12, 13, 14, 15, 16, 17, 18] rfl rfl⟩ rfl rfl hl.1 rfl (lv_room (Nat.le_of_ble_eq_true rfl)) dX6_save_25 ⟨Nat.zero_le _, Nat.zero_le _⟩) hP hD hS hA [76, 77, 78, 79, 80, 81, 82, 83, 84, 85, 86, 87, 88, 89, 90, 91, 92, 93, 1, 2, 3, 4, 5, 6, 7, 8, 9, 10, 11, 12, 13, 14, 15, 16, 17, 18] rfl rfl (ztwo (is1 := List.range' 76 18) rfl (zrun (wc := zX2 g (fun k => a (k + 76)) u11.2.2.1.2.2.2.1) (ws' := zX6 g a (u11.1, u11.2.1, (u11.2.2.1.1, u11.2.2.1.2.1, u11.2.2.1.2.2.1, u15, u11.2.2.1.2.2.2.2), u11.2.2.2.1, u11.2.2.2.2)) 76 18 rfl rfl rfl rfl rfl) (zrun (wc := zX2 g (fun k => a (k + 1)) u11.1) (ws' := zX6 g a (u11.1, u11.2.1, (u11.2.2.1.1, u11.2.2.1.2.1, u11.2.2.1.2.2.1, u15, u11.2.2.1.2.2.2.2), u11.2.2.2.1, u11.2.2.2.2)) 1 18 rfl rfl rfl rfl rfl)) (fun H locs hP hD hS => ?_)
          have hP : va_P g.1 vwCl (zX6 g a (u11.1, u11.2.1, (u11.2.2.1.1, u11.2.2.1.2.1, u11.2.2.1.2.2.1, u15, u11.2.2.1.2.2.2.2), u11.2.2.2.1, u11.2.2.2.2)) H := hP
          have hD : va_D A (zX6 g a (u11.1, u11.2.1, (u11.2.2.1.1, u11.2.2.1.2.1, u11.2.2.1.2.2.1, u15, u11.2.2.1.2.2.2.2), u11.2.2.2.1, u11.2.2.2.2)) := hD
          refine lv_aload_n hx hb dX6_save_28 rfl (lv_at hl 0 rfl) ?_
          refine lv_dup hx hb dX6_save_29 rfl ?_
          refine va_get (D := g.1) (ci := 6) (v := .int u11.2.2.2.1) (C := RX6) (T := TX6) (N := 5) hx hb hw0 ziX6 hown hK.1 hP 0 rfl rfl 3 (by decide) (hw0 _ zm1_212) (fun _ h9 => h9) rfl dX6_save_30 ?_
          refine lv_iconst (v := 1) hx hb dX6_save_33 (by decide) ?_
          refine lv_iadd hx hb dX6_save_34 ?_
          refine va_put (D := g.1) (ci := 6) (v := .int (u11.2.2.2.1 + 1)) (ty := .int) (C := RX6) (T := TX6) (N := 5) hx hb hw0 ziX6 tyX6 tyX6_ok nmX6 hown hK.1 hP hD hS 0 rfl rfl 3 (by decide) (hw0 _ zm1_212) (fun _ h9 => h9) rfl (tyX6_ok 3 (by decide)) rfl rfl (Nat.le_of_ble_eq_true rfl) dX6_save_35 (fun H locs hP hD hS => ?_)
          have hP : va_P g.1 vwCl (zX6 g a (u11.1, u11.2.1, (u11.2.2.1.1, u11.2.2.1.2.1, u11.2.2.1.2.2.1, u15, u11.2.2.1.2.2.2.2), (u11.2.2.2.1 + 1), u11.2.2.2.2)) H := hP
          have hD : va_D A (zX6 g a (u11.1, u11.2.1, (u11.2.2.1.1, u11.2.2.1.2.1, u11.2.2.1.2.2.1, u15, u11.2.2.1.2.2.2.2), (u11.2.2.2.1 + 1), u11.2.2.2.2)) := hD
          have hR : (u11.1, u11.2.1, (u11.2.2.1.1, u11.2.2.1.2.1, u11.2.2.1.2.2.1, u15, u11.2.2.1.2.2.2.2), (u11.2.2.2.1 + 1), u11.2.2.2.2) = r := Option.some.inj hf
          subst hR
          exact W.vret hx hb hr0 (fun t ht hW => ⟨⟨(), rfl, trivial, by rw [ht]; exact hP, hD⟩, hS.F ht⟩) hS.2.2 dX6_save_38
        · have hf := oe hf d19
          by_cases d20 : (u11.2.2.1.1 u11.2.2.2.1.toNatClampNeg) = 3
          · have hf := oi hf d20
            rw [d20]
            obtain ⟨u16, hu16, hf⟩ := ob hf
            refine zk_vZ (va_runVN (As := [.ref (a 1)]) (rest := []) ⟨hx, hb, hml, hown, hts⟩ (c_X2_copyFrom l g (fun k => a (k + 94)) (fun k => a (k + 1)) u11.2.2.1.2.2.2.2 u11.1 _ hu16 _) (zcN hw0 (zn_6 hK) zm2_0 zm1_2 zm1_239 zs1_2 hd_X2_copyFrom rfl rfl ⟨Nat.le_of_ble_eq_true rfl, Nat.le_of_ble_eq_true rfl⟩) ⟨zblind, zrecv (wc := zX2 g (fun k => a (k + 94)) u11.2.2.1.2.2.2.2 ++ zX2 g (fun k => a (k + 1)) u11.1) hK hP [94, 95, 96, 97, 98, 99, 100, 101, 102, 103, 104, 105, 106, 107, 108, 109, 110, 111, 1, 2, 3, 4, 5, 6, 7, 8, 9, 10, 11, 12, 13, 14, 15, 16, 17, 18] rfl (ci := 2) rfl rfl, zpre hK hP hD [94, 95, 96, 97, 98, 99, 100, 101, 102, 103, 104, 105, 106, 107, 108, 109, 110, 111, 1, 2, 3, 4, 5, 6, 7, 8, 9, 10, 11, 12, 13, 14, 15, 16, 17, 18] rfl rfl⟩ rfl rfl hl.1 rfl (lv_room (Nat.le_of_ble_eq_true rfl)) dX6_save_25 ⟨Nat.zero_le _, Nat.zero_le _⟩) hP hD hS hA [94, 95, 96, 97, 98, 99, 100, 101, 102, 103, 104, 105, 106, 107, 108, 109, 110, 111, 1, 2, 3, 4, 5, 6, 7, 8, 9, 10, 11, 12, 13, 14, 15, 16, 17, 18] rfl rfl (ztwo (is1 := List.range' 94 18) rfl (zrun (wc := zX2 g (fun k => a (k + 94)) u11.2.2.1.2.2.2.2) (ws' := zX6 g a (u11.1, u11.2.1, (u11.2.2.1.1, u11.2.2.1.2.1, u11.2.2.1.2.2.1, u11.2.2.1.2.2.2.1, u16), u11.2.2.2.1, u11.2.2.2.2)) 94 18 rfl rfl rfl rfl rfl) (zrun (wc := zX2 g (fun k => a (k + 1)) u11.1) (ws' := zX6 g a (u11.1, u11.2.1, (u11.2.2.1.1, u11.2.2.1.2.1, u11.2.2.1.2.2.1, u11.2.2.1.2.2.2.1, u16), u11.2.2.2.1, u11.2.2.2.2)) 1 18 rfl rfl rfl rfl rfl)) (fun H locs hP hD hS => ?_)
            have hP : va_P g.1 vwCl (zX6 g a (u11.1, u11.2.1, (u11.2.2.1.1, u11.2.2.1.2.1, u11.2.2.1.2.2.1, u11.2.2.1.2.2.2.1, u16), u11.2.2.2.1, u11.2.2.2.2)) H := hP
            have hD : va_D A (zX6 g a (u11.1, u11.2.1, (u11.2.2.1.1, u11.2.2.1.2.1, u11.2.2.1.2.2.1, u11.2.2.1.2.2.2.1, u16), u11.2.2.2.1, u11.2.2.2.2)) := hD
            refine lv_aload_n hx hb dX6_save_28 rfl (lv_at hl 0 rfl) ?_
            refine lv_dup hx hb dX6_save_29 rfl ?_
            refine va_get (D := g.1) (ci := 6) (v := .int u11.2.2.2.1) (C := RX6) (T := TX6) (N := 5) hx hb hw0 ziX6 hown hK.1 hP 0 rfl rfl 3 (by decide) (hw0 _ zm1_212) (fun _ h9 => h9) rfl dX6_save_30 ?_
            refine lv_iconst (v := 1) hx hb dX6_save_33 (by decide) ?_
            refine lv_iadd hx hb dX6_save_34 ?_
            refine va_put (D := g.1) (ci := 6) (v := .int (u11.2.2.2.1 + 1)) (ty := .int) (C := RX6) (T := TX6) (N := 5) hx hb hw0 ziX6 tyX6 tyX6_ok nmX6 hown hK.1 hP hD hS 0 rfl rfl 3 (by decide) (hw0 _ zm1_212) (fun _ h9 => h9) rfl (tyX6_ok 3 (by decide)) rfl rfl (Nat.le_of_ble_eq_true rfl) dX6_save_35 (fun H locs hP hD hS => ?_)
            have hP : va_P g.1 vwCl (zX6 g a (u11.1, u11.2.1, (u11.2.2.1.1, u11.2.2.1.2.1, u11.2.2.1.2.2.1, u11.2.2.1.2.2.2.1, u16), (u11.2.2.2.1 + 1), u11.2.2.2.2)) H := hP
            have hD : va_D A (zX6 g a (u11.1, u11.2.1, (u11.2.2.1.1, u11.2.2.1.2.1, u11.2.2.1.2.2.1, u11.2.2.1.2.2.2.1, u16), (u11.2.2.2.1 + 1), u11.2.2.2.2)) := hD
            have hR : (u11.1, u11.2.1, (u11.2.2.1.1, u11.2.2.1.2.1, u11.2.2.1.2.2.1, u11.2.2.1.2.2.2.1, u16), (u11.2.2.2.1 + 1), u11.2.2.2.2) = r := Option.some.inj hf
            subst hR
            exact W.vret hx hb hr0 (fun t ht hW => ⟨⟨(), rfl, trivial, by rw [ht]; exact hP, hD⟩, hS.F ht⟩) hS.2.2 dX6_save_38
          · have hf := oe hf d20
            exact absurd hf (by simp)
theorem hd_X6_addElement : yX6_addElement.cls ≠ "java/lang/invoke/MethodHandle" ∧ yX6_addElement.cls ≠ "java/lang/invoke/VarHandle" ∧ (parseMethodDescriptor yX6_addElement.desc).map (fun d => d.parameters.length) = some 3 := by decide +kernel
def f_X6_addElement (v : CV) (p0 : Int32) (p1 : Int32) (p2 : Int32) : Option (Nat ⊕ (Int32 × CV)) :=
  if p0 < 1 then
    some (.inl 1)
  else
    if p0 ≤ 1800 then
      if p1 = (-1) then
        if p2 < 0 then
          some (.inl 1)
        else
          if p2 ≤ 9 then
            if (zb v.1.2.2.2.2.1) = 0 then
              if v.1.1.1 < 12 then
                (f_X6_save v).bind (fun u8 =>
                (f_X0_add u8.1.1 p0 p1 p2).bind (fun u9 =>
                some (.inr ((u9.1 - 1), ((u9, u8.1.2.1, u8.1.2.2.1, u8.1.2.2.2.1, u8.1.2.2.2.2.1, u8.1.2.2.2.2.2.1, u8.1.2.2.2.2.2.2.1, u8.1.2.2.2.2.2.2.2.1, u8.1.2.2.2.2.2.2.2.2.1, u8.1.2.2.2.2.2.2.2.2.2.1, u8.1.2.2.2.2.2.2.2.2.2.2), u8.2.1, u8.2.2.1, u8.2.2.2.1, u8.2.2.2.2)))))
              else
                some (.inl 2)
            else
              some (.inl 2)
          else
            some (.inl 1)
      else
        if p1 < 0 then
          some (.inl 1)
        else
          if p1 < 3600 then
            if p2 < 0 then
              some (.inl 1)
            else
              if p2 ≤ 9 then
                if (zb v.1.2.2.2.2.1) = 0 then
                  if v.1.1.1 < 12 then
                    (f_X6_save v).bind (fun u16 =>
                    (f_X0_add u16.1.1 p0 p1 p2).bind (fun u17 =>
                    some (.inr ((u17.1 - 1), ((u17, u16.1.2.1, u16.1.2.2.1, u16.1.2.2.2.1, u16.1.2.2.2.2.1, u16.1.2.2.2.2.2.1, u16.1.2.2.2.2.2.2.1, u16.1.2.2.2.2.2.2.2.1, u16.1.2.2.2.2.2.2.2.2.1, u16.1.2.2.2.2.2.2.2.2.2.1, u16.1.2.2.2.2.2.2.2.2.2.2), u16.2.1, u16.2.2.1, u16.2.2.2.1, u16.2.2.2.2)))))
                  else
                    some (.inl 2)
                else
                  some (.inl 2)
              else
                some (.inl 1)
          else
            some (.inl 1)
    else
      some (.inl 1)
set_option maxHeartbeats 4000000 in
set_option maxRecDepth 100000 in
theorem c_X6_addElement (l : Launch) (hst9 : l.stackTraces = false) (g : zG) (a : Nat → Nat) (v : CV) (p0 : Int32) (p1 : Int32) (p2 : Int32) (r : Nat ⊕ (Int32 × CV)) (hf : f_X6_addElement v p0 p1 p2 = some r) : zMx zNF zNM l yX6_addElement (zw yX6_addElement cX6_addElement 4 (some .int)) ({ frames := 6, cells := 1, slots := 6, locals := 102 } : Room) g [.ref (a 0), .int p0, .int p1, .int p2] (zX6 g a v) r (fun q => q.1) (fun q => (zX6 g a q.2)) := by
  intro sz
  refine vx_ofW (cc := cX6_addElement) (maxL := 4) (ret := (some .int)) (by decide) rfl ?_
  intro p e s m args below meth c s₁ B hml htab hv
  obtain ⟨rfl, ⟨hsz, hP, hK, hD0⟩, hKx, hZs⟩ := hv
  have hx := B.exec
  have hb := B.bytes
  have hr0 := B.returns
  have hts := atoms_spec (ws := (zw yX6_addElement cX6_addElement 4 (some .int))) B.pre
  have hw0 : ∀ w ∈ zW, w.before ([.ref (a 0), .int p0, .int p1, .int p2] : List Value).toArray s = true := fun w h => hts w (List.mem_cons_of_mem _ h)
  have hown : s.vm.findClass RX6 = some m.cls := findClass_of_methodNamed B.named
  have hlocks := B.notSynchronized
  subst hsz
  have hD := hD0.self (sz := s.heap.size)
  generalize hAe : va_A (zX6 g a v) s.heap.size = A at hD hZs ⊢
  have hA : ∀ q : Nat, s.heap.size ≤ q → A q := fun q h => by rw [← hAe]; exact Or.inr h
  have hS : va_S A s.heap s.heap [] := va_S.rf
  unfold f_X6_addElement at hf
  have hl := lv_entry ([.ref (a 0), .int p0, .int p1, .int p2]) (n := 4) (Nat.le_of_ble_eq_true rfl)
  rw [lg_entry_eq]
  generalize (lg_sl ([.ref (a 0), .int p0, .int p1, .int p2]) ++ List.replicate (4 - (lg_sl ([.ref (a 0), .int p0, .int p1, .int p2])).length) Slot.unset).toArray = ls at hl ⊢
  have hl : lv_has ls 4 [(0, .ref (a 0)), (1, .int p0), (2, .int p1), (3, .int p2)] := hl
  refine lv_iload_n hx hb dX6_addElement_0 rfl (lv_at hl 1 rfl) ?_
  refine lv_iconst (v := 1) hx hb dX6_addElement_1 (by decide) ?_
  refine lv_icmp_lt (tgt := 12) hx hb dX6_addElement_2 (by decide) (fun c1 => ?_) (fun c1 => ?_)
  · have hf := oi hf c1
    have hR : (Sum.inl 1 : Nat ⊕ (Int32 × CV)) = r := Option.some.inj hf
    exact zthrow (ik := 34) (is := 36) (ic := 38) (text := "length") (k := 1) hx hb hst9 hown (hw0 _ zm3_58) (hw0 _ zm1_12) (hKx.2 ("HourClock", 36, "length") (by decide +kernel)) hKx.1 hw0 zx_w1 zx_b1 zx_o1 hZs (by decide +kernel) (by decide +kernel) hP hD hS (hl.1.trans hml.symm) htab dX6_addElement_12 dX6_addElement_15 dX6_addElement_16 dX6_addElement_18 dX6_addElement_21 (by decide) (by decide) (Nat.le_of_ble_eq_true rfl) (Nat.le_of_ble_eq_true rfl) hlocks hR.symm rfl
  · have hf := oe hf c1
    refine lv_iload_n hx hb dX6_addElement_5 rfl (lv_at hl 1 rfl) ?_
    refine lv_sipush (v := 1800) hx hb dX6_addElement_6 (by decide) ?_
    refine lv_icmp_le (tgt := 22) hx hb dX6_addElement_9 (by decide) (fun c2 => ?_) (fun c2 => ?_)
    · have hf := oi hf c2
      refine lv_iload_n hx hb dX6_addElement_22 rfl (lv_at hl 2 rfl) ?_
      refine lv_iconst (v := (-1)) hx hb dX6_addElement_23 (by decide) ?_
      refine lv_icmp_eq (tgt := 48) hx hb dX6_addElement_24 (by decide) (fun c3 => ?_) (fun c3 => ?_)
      · have hf := oi hf c3
        refine lv_iload_n hx hb dX6_addElement_48 rfl (lv_at hl 3 rfl) ?_
        refine lv_if_lt (tgt := 58) hx hb dX6_addElement_49 (by decide) (fun c4 => ?_) (fun c4 => ?_)
        · have hf := oi hf c4
          have hR : (Sum.inl 1 : Nat ⊕ (Int32 × CV)) = r := Option.some.inj hf
          exact zthrow (ik := 34) (is := 43) (ic := 38) (text := "rank") (k := 1) hx hb hst9 hown (hw0 _ zm3_58) (hw0 _ zm1_12) (hKx.2 ("HourClock", 43, "rank") (by decide +kernel)) hKx.1 hw0 zx_w1 zx_b1 zx_o1 hZs (by decide +kernel) (by decide +kernel) hP hD hS (hl.1.trans hml.symm) htab dX6_addElement_58 dX6_addElement_61 dX6_addElement_62 dX6_addElement_64 dX6_addElement_67 (by decide) (by decide) (Nat.le_of_ble_eq_true rfl) (Nat.le_of_ble_eq_true rfl) hlocks hR.symm rfl
        · have hf := oe hf c4
          refine lv_iload_n hx hb dX6_addElement_52 rfl (lv_at hl 3 rfl) ?_
          refine lv_bipush (v := 9) hx hb dX6_addElement_53 (by decide) ?_
          refine lv_icmp_le (tgt := 68) hx hb dX6_addElement_55 (by decide) (fun c5 => ?_) (fun c5 => ?_)
          · have hf := oi hf c5
            refine lv_aload_n hx hb dX6_addElement_68 rfl (lv_at hl 0 rfl) ?_
            refine va_get (D := g.1) (ci := 6) (v := .ref (a 1)) (C := RX6) (T := TX6) (N := 5) hx hb hw0 ziX6 hown hK.1 hP 0 rfl rfl 0 (by decide) (hw0 _ zm1_209) (fun _ h9 => h9) rfl dX6_addElement_69 ?_
            refine va_getN (D := g.1) (ci := 2) (v := .int (zb v.1.2.2.2.2.1)) (C := RX2) (T := TX2) (N := 11) hx hb hw0 ziX2 hown hK.1 hP 1 rfl rfl 4 (by decide) (va_Nw.use rfl (zf_27 hK)) (fun _ h9 => h9) rfl dX6_addElement_72 ?_
            refine lv_if_ne (tgt := 93) hx hb dX6_addElement_75 (by decide) (fun c6 => ?_) (fun c6 => ?_)
            · have hf := oe hf c6
              have hR : (Sum.inl 2 : Nat ⊕ (Int32 × CV)) = r := Option.some.inj hf
              exact zthrow (ik := 58) (is := 60) (ic := 62) (text := "the hour takes no more elements") (k := 2) hx hb hst9 hown (hw0 _ zm3_128) (hw0 _ zm1_13) (hKx.2 ("HourClock", 60, "the hour takes no more elements") (by decide +kernel)) hKx.1 hw0 zx_w2 zx_b2 zx_o2 hZs (by decide +kernel) (by decide +kernel) hP hD hS (hl.1.trans hml.symm) htab dX6_addElement_93 dX6_addElement_96 dX6_addElement_97 dX6_addElement_99 dX6_addElement_102 (by decide) (by decide) (Nat.le_of_ble_eq_true rfl) (Nat.le_of_ble_eq_true rfl) hlocks hR.symm rfl
            · have hf := oi hf c6
              refine lv_aload_n hx hb dX6_addElement_78 rfl (lv_at hl 0 rfl) ?_
              refine va_get (D := g.1) (ci := 6) (v := .ref (a 1)) (C := RX6) (T := TX6) (N := 5) hx hb hw0 ziX6 hown hK.1 hP 0 rfl rfl 0 (by decide) (hw0 _ zm1_209) (fun _ h9 => h9) rfl dX6_addElement_79 ?_
              refine va_getN (D := g.1) (ci := 2) (v := .ref (a 2)) (C := RX2) (T := TX2) (N := 11) hx hb hw0 ziX2 hown hK.1 hP 1 rfl rfl 0 (by decide) (va_Nw.use rfl (zf_21 hK)) (fun _ h9 => h9) rfl dX6_addElement_82 ?_
              refine va_getN (D := g.1) (ci := 0) (v := .int v.1.1.1) (C := RX0) (T := TX0) (N := 6) hx hb hw0 ziX0 hown hK.1 hP 2 rfl rfl 0 (by decide) (va_Nw.use rfl (zf_0 hK)) (fun _ h9 => h9) rfl dX6_addElement_85 ?_
              refine lv_bipush (v := 12) hx hb dX6_addElement_88 (by decide) ?_
              refine lv_icmp_lt (tgt := 103) hx hb dX6_addElement_90 (by decide) (fun c7 => ?_) (fun c7 => ?_)
              · have hf := oi hf c7
                refine lv_aload_n hx hb dX6_addElement_103 rfl (lv_at hl 0 rfl) ?_
                obtain ⟨u8, hu8, hf⟩ := ob hf
                refine zk_vA (va_runV (As := []) (rest := []) ⟨hx, hb, hml, hown, hts⟩ (c_X6_save l g a v _ hu8 _) (zcV hw0 zm1_229 zm1_232 zm1_1 zm1_231 zs1_0 hd_X6_save rfl rfl ⟨Nat.le_of_ble_eq_true rfl, Nat.le_of_ble_eq_true rfl⟩) ⟨zblind, zrecvA hK hP (ci := 6) rfl rfl, zpreA hK hP hD⟩ rfl rfl hl.1 rfl (lv_room (Nat.le_of_ble_eq_true rfl)) dX6_addElement_104 ⟨Nat.zero_le _, Nat.zero_le _⟩) hP hD hS hA (fun H locs hP hD hS => ?_)
                have hP : va_P g.1 vwCl (zX6 g a u8) H := hP
                have hD : va_D A (zX6 g a u8) := hD
                refine lv_aload_n hx hb dX6_addElement_107 rfl (lv_at hl 0 rfl) ?_
                refine va_get (D := g.1) (ci := 6) (v := .ref (a 1)) (C := RX6) (T := TX6) (N := 5) hx hb hw0 ziX6 hown hK.1 hP 0 rfl rfl 0 (by decide) (hw0 _ zm1_209) (fun _ h9 => h9) rfl dX6_addElement_108 ?_
                refine va_getN (D := g.1) (ci := 2) (v := .ref (a 2)) (C := RX2) (T := TX2) (N := 11) hx hb hw0 ziX2 hown hK.1 hP 1 rfl rfl 0 (by decide) (va_Nw.use rfl (zf_21 hK)) (fun _ h9 => h9) rfl dX6_addElement_111 ?_
                refine lv_iload_n hx hb dX6_addElement_114 rfl (lv_at hl 1 rfl) ?_
                refine lv_iload_n hx hb dX6_addElement_115 rfl (lv_at hl 2 rfl) ?_
                refine lv_iload_n hx hb dX6_addElement_116 rfl (lv_at hl 3 rfl) ?_
                obtain ⟨u9, hu9, hf⟩ := ob hf
                refine zk_v (va_runVN (As := [.int p0, .int p1, .int p2]) (rest := []) ⟨hx, hb, hml, hown, hts⟩ (c_X0_add l g (fun k => a (k + 2)) u8.1.1 p0 p1 p2 _ hu9 _) (zcN hw0 (zn_42 hK) zm2_234 zm1_3 zm2_233 zs4_0 hd_X0_add rfl rfl ⟨Nat.le_of_ble_eq_true rfl, Nat.le_of_ble_eq_true rfl⟩) ⟨zblind, zrecv (wc := zX0 g (fun k => a (k + 2)) u8.1.1) hK hP [2, 3, 4, 5, 6, 7] rfl (ci := 0) rfl rfl, zpre hK hP hD [2, 3, 4, 5, 6, 7] rfl rfl⟩ rfl rfl hl.1 rfl (lv_room (Nat.le_of_ble_eq_true rfl)) dX6_addElement_117 ⟨Nat.zero_le _, Nat.zero_le _⟩) hP hD hS hA [2, 3, 4, 5, 6, 7] rfl rfl (fun H locs hP hD hS => ?_)
                have hP : va_P g.1 vwCl (zX6 g a ((u9, u8.1.2.1, u8.1.2.2.1, u8.1.2.2.2.1, u8.1.2.2.2.2.1, u8.1.2.2.2.2.2.1, u8.1.2.2.2.2.2.2.1, u8.1.2.2.2.2.2.2.2.1, u8.1.2.2.2.2.2.2.2.2.1, u8.1.2.2.2.2.2.2.2.2.2.1, u8.1.2.2.2.2.2.2.2.2.2.2), u8.2.1, u8.2.2.1, u8.2.2.2.1, u8.2.2.2.2)) H := hP
                have hD : va_D A (zX6 g a ((u9, u8.1.2.1, u8.1.2.2.1, u8.1.2.2.2.1, u8.1.2.2.2.2.1, u8.1.2.2.2.2.2.1, u8.1.2.2.2.2.2.2.1, u8.1.2.2.2.2.2.2.2.1, u8.1.2.2.2.2.2.2.2.2.1, u8.1.2.2.2.2.2.2.2.2.2.1, u8.1.2.2.2.2.2.2.2.2.2.2), u8.2.1, u8.2.2.1, u8.2.2.2.1, u8.2.2.2.2)) := hD
                refine lv_aload_n hx hb dX6_addElement_120 rfl (lv_at hl 0 rfl) ?_
                refine va_get (D := g.1) (ci := 6) (v := .ref (a 1)) (C := RX6) (T := TX6) (N := 5) hx hb hw0 ziX6 hown hK.1 hP 0 rfl rfl 0 (by decide) (hw0 _ zm1_209) (fun _ h9 => h9) rfl dX6_addElement_121 ?_
                refine va_getN (D := g.1) (ci := 2) (v := .ref (a 2)) (C := RX2) (T := TX2) (N := 11) hx hb hw0 ziX2 hown hK.1 hP 1 rfl rfl 0 (by decide) (va_Nw.use rfl (zf_21 hK)) (fun _ h9 => h9) rfl dX6_addElement_124 ?_
                refine va_getN (D := g.1) (ci := 0) (v := .int u9.1) (C := RX0) (T := TX0) (N := 6) hx hb hw0 ziX0 hown hK.1 hP 2 rfl rfl 0 (by decide) (va_Nw.use rfl (zf_0 hK)) (fun _ h9 => h9) rfl dX6_addElement_127 ?_
                refine lv_iconst (v := 1) hx hb dX6_addElement_130 (by decide) ?_
                refine lv_isub hx hb dX6_addElement_131 ?_
                have hR : (Sum.inr ((u9.1 - 1), ((u9, u8.1.2.1, u8.1.2.2.1, u8.1.2.2.2.1, u8.1.2.2.2.2.1, u8.1.2.2.2.2.2.1, u8.1.2.2.2.2.2.2.1, u8.1.2.2.2.2.2.2.2.1, u8.1.2.2.2.2.2.2.2.2.1, u8.1.2.2.2.2.2.2.2.2.2.1, u8.1.2.2.2.2.2.2.2.2.2.2), u8.2.1, u8.2.2.1, u8.2.2.2.1, u8.2.2.2.2)) : Nat ⊕ (Int32 × CV)) = r := Option.some.inj hf
                subst hR
                refine W.widen (k := 1) (n := 6) (Nat.zero_le _) (Nat.zero_le _) ?_
                exact vx_ret (W.iret (v := (u9.1 - 1)) hx hb hr0 (fun t ht hW => ⟨⟨(u9.1 - 1), (), rfl, ⟨_, rfl, rfl⟩, _, rfl, by rw [ht]; exact hP, hD⟩, hS.F ht⟩) hS.2.2 dX6_addElement_132)
              · have hf := oe hf c7
                have hR : (Sum.inl 2 : Nat ⊕ (Int32 × CV)) = r := Option.some.inj hf
                exact zthrow (ik := 58) (is := 60) (ic := 62) (text := "the hour takes no more elements") (k := 2) hx hb hst9 hown (hw0 _ zm3_128) (hw0 _ zm1_13) (hKx.2 ("HourClock", 60, "the hour takes no more elements") (by decide +kernel)) hKx.1 hw0 zx_w2 zx_b2 zx_o2 hZs (by decide +kernel) (by decide +kernel) hP hD hS (hl.1.trans hml.symm) htab dX6_addElement_93 dX6_addElement_96 dX6_addElement_97 dX6_addElement_99 dX6_addElement_102 (by decide) (by decide) (Nat.le_of_ble_eq_true rfl) (Nat.le_of_ble_eq_true rfl) hlocks hR.symm rfl
          · have hf := oe hf c5
            have hR : (Sum.inl 1 : Nat ⊕ (Int32 × CV)) = r := Option.some.inj hf
            exact zthrow (ik := 34) (is := 43) (ic := 38) (text := "rank") (k := 1) hx hb hst9 hown (hw0 _ zm3_58) (hw0 _ zm1_12) (hKx.2 ("HourClock", 43, "rank") (by decide +kernel)) hKx.1 hw0 zx_w1 zx_b1 zx_o1 hZs (by decide +kernel) (by decide +kernel) hP hD hS (hl.1.trans hml.symm) htab dX6_addElement_58 dX6_addElement_61 dX6_addElement_62 dX6_addElement_64 dX6_addElement_67 (by decide) (by decide) (Nat.le_of_ble_eq_true rfl) (Nat.le_of_ble_eq_true rfl) hlocks hR.symm rfl
      · have hf := oe hf c3
        refine lv_iload_n hx hb dX6_addElement_27 rfl (lv_at hl 2 rfl) ?_
        refine lv_if_lt (tgt := 38) hx hb dX6_addElement_28 (by decide) (fun c10 => ?_) (fun c10 => ?_)
        · have hf := oi hf c10
          have hR : (Sum.inl 1 : Nat ⊕ (Int32 × CV)) = r := Option.some.inj hf
          exact zthrow (ik := 34) (is := 41) (ic := 38) (text := "time") (k := 1) hx hb hst9 hown (hw0 _ zm3_58) (hw0 _ zm1_12) (hKx.2 ("HourClock", 41, "time") (by decide +kernel)) hKx.1 hw0 zx_w1 zx_b1 zx_o1 hZs (by decide +kernel) (by decide +kernel) hP hD hS (hl.1.trans hml.symm) htab dX6_addElement_38 dX6_addElement_41 dX6_addElement_42 dX6_addElement_44 dX6_addElement_47 (by decide) (by decide) (Nat.le_of_ble_eq_true rfl) (Nat.le_of_ble_eq_true rfl) hlocks hR.symm rfl
        · have hf := oe hf c10
          refine lv_iload_n hx hb dX6_addElement_31 rfl (lv_at hl 2 rfl) ?_
          refine lv_sipush (v := 3600) hx hb dX6_addElement_32 (by decide) ?_
          refine lv_icmp_lt (tgt := 48) hx hb dX6_addElement_35 (by decide) (fun c11 => ?_) (fun c11 => ?_)
          · have hf := oi hf c11
            refine lv_iload_n hx hb dX6_addElement_48 rfl (lv_at hl 3 rfl) ?_
            refine lv_if_lt (tgt := 58) hx hb dX6_addElement_49 (by decide) (fun c12 => ?_) (fun c12 => ?_)
            · have hf := oi hf c12
              have hR : (Sum.inl 1 : Nat ⊕ (Int32 × CV)) = r := Option.some.inj hf
              exact zthrow (ik := 34) (is := 43) (ic := 38) (text := "rank") (k := 1) hx hb hst9 hown (hw0 _ zm3_58) (hw0 _ zm1_12) (hKx.2 ("HourClock", 43, "rank") (by decide +kernel)) hKx.1 hw0 zx_w1 zx_b1 zx_o1 hZs (by decide +kernel) (by decide +kernel) hP hD hS (hl.1.trans hml.symm) htab dX6_addElement_58 dX6_addElement_61 dX6_addElement_62 dX6_addElement_64 dX6_addElement_67 (by decide) (by decide) (Nat.le_of_ble_eq_true rfl) (Nat.le_of_ble_eq_true rfl) hlocks hR.symm rfl
            · have hf := oe hf c12
              refine lv_iload_n hx hb dX6_addElement_52 rfl (lv_at hl 3 rfl) ?_
              refine lv_bipush (v := 9) hx hb dX6_addElement_53 (by decide) ?_
              refine lv_icmp_le (tgt := 68) hx hb dX6_addElement_55 (by decide) (fun c13 => ?_) (fun c13 => ?_)
              · have hf := oi hf c13
                refine lv_aload_n hx hb dX6_addElement_68 rfl (lv_at hl 0 rfl) ?_
                refine va_get (D := g.1) (ci := 6) (v := .ref (a 1)) (C := RX6) (T := TX6) (N := 5) hx hb hw0 ziX6 hown hK.1 hP 0 rfl rfl 0 (by decide) (hw0 _ zm1_209) (fun _ h9 => h9) rfl dX6_addElement_69 ?_
                refine va_getN (D := g.1) (ci := 2) (v := .int (zb v.1.2.2.2.2.1)) (C := RX2) (T := TX2) (N := 11) hx hb hw0 ziX2 hown hK.1 hP 1 rfl rfl 4 (by decide) (va_Nw.use rfl (zf_27 hK)) (fun _ h9 => h9) rfl dX6_addElement_72 ?_
                refine lv_if_ne (tgt := 93) hx hb dX6_addElement_75 (by decide) (fun c14 => ?_) (fun c14 => ?_)
                · have hf := oe hf c14
                  have hR : (Sum.inl 2 : Nat ⊕ (Int32 × CV)) = r := Option.some.inj hf
                  exact zthrow (ik := 58) (is := 60) (ic := 62) (text := "the hour takes no more elements") (k := 2) hx hb hst9 hown (hw0 _ zm3_128) (hw0 _ zm1_13) (hKx.2 ("HourClock", 60, "the hour takes no more elements") (by decide +kernel)) hKx.1 hw0 zx_w2 zx_b2 zx_o2 hZs (by decide +kernel) (by decide +kernel) hP hD hS (hl.1.trans hml.symm) htab dX6_addElement_93 dX6_addElement_96 dX6_addElement_97 dX6_addElement_99 dX6_addElement_102 (by decide) (by decide) (Nat.le_of_ble_eq_true rfl) (Nat.le_of_ble_eq_true rfl) hlocks hR.symm rfl
                · have hf := oi hf c14
                  refine lv_aload_n hx hb dX6_addElement_78 rfl (lv_at hl 0 rfl) ?_
                  refine va_get (D := g.1) (ci := 6) (v := .ref (a 1)) (C := RX6) (T := TX6) (N := 5) hx hb hw0 ziX6 hown hK.1 hP 0 rfl rfl 0 (by decide) (hw0 _ zm1_209) (fun _ h9 => h9) rfl dX6_addElement_79 ?_
                  refine va_getN (D := g.1) (ci := 2) (v := .ref (a 2)) (C := RX2) (T := TX2) (N := 11) hx hb hw0 ziX2 hown hK.1 hP 1 rfl rfl 0 (by decide) (va_Nw.use rfl (zf_21 hK)) (fun _ h9 => h9) rfl dX6_addElement_82 ?_
                  refine va_getN (D := g.1) (ci := 0) (v := .int v.1.1.1) (C := RX0) (T := TX0) (N := 6) hx hb hw0 ziX0 hown hK.1 hP 2 rfl rfl 0 (by decide) (va_Nw.use rfl (zf_0 hK)) (fun _ h9 => h9) rfl dX6_addElement_85 ?_
                  refine lv_bipush (v := 12) hx hb dX6_addElement_88 (by decide) ?_
                  refine lv_icmp_lt (tgt := 103) hx hb dX6_addElement_90 (by decide) (fun c15 => ?_) (fun c15 => ?_)
                  · have hf := oi hf c15
                    refine lv_aload_n hx hb dX6_addElement_103 rfl (lv_at hl 0 rfl) ?_
                    obtain ⟨u16, hu16, hf⟩ := ob hf
                    refine zk_vA (va_runV (As := []) (rest := []) ⟨hx, hb, hml, hown, hts⟩ (c_X6_save l g a v _ hu16 _) (zcV hw0 zm1_229 zm1_232 zm1_1 zm1_231 zs1_0 hd_X6_save rfl rfl ⟨Nat.le_of_ble_eq_true rfl, Nat.le_of_ble_eq_true rfl⟩) ⟨zblind, zrecvA hK hP (ci := 6) rfl rfl, zpreA hK hP hD⟩ rfl rfl hl.1 rfl (lv_room (Nat.le_of_ble_eq_true rfl)) dX6_addElement_104 ⟨Nat.zero_le _, Nat.zero_le _⟩) hP hD hS hA (fun H locs hP hD hS => ?_)
                    have hP : va_P g.1 vwCl (zX6 g a u16) H := hP
                    have hD : va_D A (zX6 g a u16) := hD
                    refine lv_aload_n hx hb dX6_addElement_107 rfl (lv_at hl 0 rfl) ?_
                    refine va_get (D := g.1) (ci := 6) (v := .ref (a 1)) (C := RX6) (T := TX6) (N := 5) hx hb hw0 ziX6 hown hK.1 hP 0 rfl rfl 0 (by decide) (hw0 _ zm1_209) (fun _ h9 => h9) rfl dX6_addElement_108 ?_
                    refine va_getN (D := g.1) (ci := 2) (v := .ref (a 2)) (C := RX2) (T := TX2) (N := 11) hx hb hw0 ziX2 hown hK.1 hP 1 rfl rfl 0 (by decide) (va_Nw.use rfl (zf_21 hK)) (fun _ h9 => h9) rfl dX6_addElement_111 ?_
                    refine lv_iload_n hx hb dX6_addElement_114 rfl (lv_at hl 1 rfl) ?_
                    refine lv_iload_n hx hb dX6_addElement_115 rfl (lv_at hl 2 rfl) ?_
                    refine lv_iload_n hx hb dX6_addElement_116 rfl (lv_at hl 3 rfl) ?_
                    obtain ⟨u17, hu17, hf⟩ := ob hf
                    refine zk_v (va_runVN (As := [.int p0, .int p1, .int p2]) (rest := []) ⟨hx, hb, hml, hown, hts⟩ (c_X0_add l g (fun k => a (k + 2)) u16.1.1 p0 p1 p2 _ hu17 _) (zcN hw0 (zn_42 hK) zm2_234 zm1_3 zm2_233 zs4_0 hd_X0_add rfl rfl ⟨Nat.le_of_ble_eq_true rfl, Nat.le_of_ble_eq_true rfl⟩) ⟨zblind, zrecv (wc := zX0 g (fun k => a (k + 2)) u16.1.1) hK hP [2, 3, 4, 5, 6, 7] rfl (ci := 0) rfl rfl, zpre hK hP hD [2, 3, 4, 5, 6, 7] rfl rfl⟩ rfl rfl hl.1 rfl (lv_room (Nat.le_of_ble_eq_true rfl)) dX6_addElement_117 ⟨Nat.zero_le _, Nat.zero_le _⟩) hP hD hS hA [2, 3, 4, 5, 6, 7] rfl rfl (fun H locs hP hD hS => ?_)
                    have hP : va_P g.1 vwCl (zX6 g a ((u17, u16.1.2.1, u16.1.2.2.1, u16.1.2.2.2.1, u16.1.2.2.2.2.1, u16.1.2.2.2.2.2.1, u16.1.2.2.2.2.2.2.1, u16.1.2.2.2.2.2.2.2.1, u16.1.2.2.2.2.2.2.2.2.1, u16.1.2.2.2.2.2.2.2.2.2.1, u16.1.2.2.2.2.2.2.2.2.2.2), u16.2.1, u16.2.2.1, u16.2.2.2.1, u16.2.2.2.2)) H := hP
                    have hD : va_D A (zX6 g a ((u17, u16.1.2.1, u16.1.2.2.1, u16.1.2.2.2.1, u16.1.2.2.2.2.1, u16.1.2.2.2.2.2.1, u16.1.2.2.2.2.2.2.1, u16.1.2.2.2.2.2.2.2.1, u16.1.2.2.2.2.2.2.2.2.1, u16.1.2.2.2.2.2.2.2.2.2.1, u16.1.2.2.2.2.2.2.2.2.2.2), u16.2.1, u16.2.2.1, u16.2.2.2.1, u16.2.2.2.2)) := hD
                    refine lv_aload_n hx hb dX6_addElement_120 rfl (lv_at hl 0 rfl) ?_
                    refine va_get (D := g.1) (ci := 6) (v := .ref (a 1)) (C := RX6) (T := TX6) (N := 5) hx hb hw0 ziX6 hown hK.1 hP 0 rfl rfl 0 (by decide) (hw0 _ zm1_209) (fun _ h9 => h9) rfl dX6_addElement_121 ?_
                    refine va_getN (D := g.1) (ci := 2) (v := .ref (a 2)) (C := RX2) (T := TX2) (N := 11) hx hb hw0 ziX2 hown hK.1 hP 1 rfl rfl 0 (by decide) (va_Nw.use rfl (zf_21 hK)) (fun _ h9 => h9) rfl dX6_addElement_124 ?_
                    refine va_getN (D := g.1) (ci := 0) (v := .int u17.1) (C := RX0) (T := TX0) (N := 6) hx hb hw0 ziX0 hown hK.1 hP 2 rfl rfl 0 (by decide) (va_Nw.use rfl (zf_0 hK)) (fun _ h9 => h9) rfl dX6_addElement_127 ?_
                    refine lv_iconst (v := 1) hx hb dX6_addElement_130 (by decide) ?_
                    refine lv_isub hx hb dX6_addElement_131 ?_
                    have hR : (Sum.inr ((u17.1 - 1), ((u17, u16.1.2.1, u16.1.2.2.1, u16.1.2.2.2.1, u16.1.2.2.2.2.1, u16.1.2.2.2.2.2.1, u16.1.2.2.2.2.2.2.1, u16.1.2.2.2.2.2.2.2.1, u16.1.2.2.2.2.2.2.2.2.1, u16.1.2.2.2.2.2.2.2.2.2.1, u16.1.2.2.2.2.2.2.2.2.2.2), u16.2.1, u16.2.2.1, u16.2.2.2.1, u16.2.2.2.2)) : Nat ⊕ (Int32 × CV)) = r := Option.some.inj hf
                    subst hR
                    refine W.widen (k := 1) (n := 6) (Nat.zero_le _) (Nat.zero_le _) ?_
                    exact vx_ret (W.iret (v := (u17.1 - 1)) hx hb hr0 (fun t ht hW => ⟨⟨(u17.1 - 1), (), rfl, ⟨_, rfl, rfl⟩, _, rfl, by rw [ht]; exact hP, hD⟩, hS.F ht⟩) hS.2.2 dX6_addElement_132)
                  · have hf := oe hf c15
                    have hR : (Sum.inl 2 : Nat ⊕ (Int32 × CV)) = r := Option.some.inj hf
                    exact zthrow (ik := 58) (is := 60) (ic := 62) (text := "the hour takes no more elements") (k := 2) hx hb hst9 hown (hw0 _ zm3_128) (hw0 _ zm1_13) (hKx.2 ("HourClock", 60, "the hour takes no more elements") (by decide +kernel)) hKx.1 hw0 zx_w2 zx_b2 zx_o2 hZs (by decide +kernel) (by decide +kernel) hP hD hS (hl.1.trans hml.symm) htab dX6_addElement_93 dX6_addElement_96 dX6_addElement_97 dX6_addElement_99 dX6_addElement_102 (by decide) (by decide) (Nat.le_of_ble_eq_true rfl) (Nat.le_of_ble_eq_true rfl) hlocks hR.symm rfl
              · have hf := oe hf c13
                have hR : (Sum.inl 1 : Nat ⊕ (Int32 × CV)) = r := Option.some.inj hf
                exact zthrow (ik := 34) (is := 43) (ic := 38) (text := "rank") (k := 1) hx hb hst9 hown (hw0 _ zm3_58) (hw0 _ zm1_12) (hKx.2 ("HourClock", 43, "rank") (by decide +kernel)) hKx.1 hw0 zx_w1 zx_b1 zx_o1 hZs (by decide +kernel) (by decide +kernel) hP hD hS (hl.1.trans hml.symm) htab dX6_addElement_58 dX6_addElement_61 dX6_addElement_62 dX6_addElement_64 dX6_addElement_67 (by decide) (by decide) (Nat.le_of_ble_eq_true rfl) (Nat.le_of_ble_eq_true rfl) hlocks hR.symm rfl
          · have hf := oe hf c11
            have hR : (Sum.inl 1 : Nat ⊕ (Int32 × CV)) = r := Option.some.inj hf
            exact zthrow (ik := 34) (is := 41) (ic := 38) (text := "time") (k := 1) hx hb hst9 hown (hw0 _ zm3_58) (hw0 _ zm1_12) (hKx.2 ("HourClock", 41, "time") (by decide +kernel)) hKx.1 hw0 zx_w1 zx_b1 zx_o1 hZs (by decide +kernel) (by decide +kernel) hP hD hS (hl.1.trans hml.symm) htab dX6_addElement_38 dX6_addElement_41 dX6_addElement_42 dX6_addElement_44 dX6_addElement_47 (by decide) (by decide) (Nat.le_of_ble_eq_true rfl) (Nat.le_of_ble_eq_true rfl) hlocks hR.symm rfl
    · have hf := oe hf c2
      have hR : (Sum.inl 1 : Nat ⊕ (Int32 × CV)) = r := Option.some.inj hf
      exact zthrow (ik := 34) (is := 36) (ic := 38) (text := "length") (k := 1) hx hb hst9 hown (hw0 _ zm3_58) (hw0 _ zm1_12) (hKx.2 ("HourClock", 36, "length") (by decide +kernel)) hKx.1 hw0 zx_w1 zx_b1 zx_o1 hZs (by decide +kernel) (by decide +kernel) hP hD hS (hl.1.trans hml.symm) htab dX6_addElement_12 dX6_addElement_15 dX6_addElement_16 dX6_addElement_18 dX6_addElement_21 (by decide) (by decide) (Nat.le_of_ble_eq_true rfl) (Nat.le_of_ble_eq_true rfl) hlocks hR.symm rfl
theorem hd_X6_addFiller : yX6_addFiller.cls ≠ "java/lang/invoke/MethodHandle" ∧ yX6_addFiller.cls ≠ "java/lang/invoke/VarHandle" ∧ (parseMethodDescriptor yX6_addFiller.desc).map (fun d => d.parameters.length) = some 1 := by decide +kernel
def f_X6_addFiller (v : CV) (p0 : Int32) : Option (Nat ⊕ (Int32 × CV)) :=
  if p0 < 1 then
    some (.inl 1)
  else
    if p0 ≤ 900 then
      if (zb v.1.2.2.2.2.1) = 0 then
        if v.1.2.1.1 < 10 then
          (f_X6_save v).bind (fun u5 =>
          (f_X1_add u5.1.2.1 p0).bind (fun u6 =>
          some (.inr ((u6.1 - 1), ((u5.1.1, u6, u5.1.2.2.1, u5.1.2.2.2.1, u5.1.2.2.2.2.1, u5.1.2.2.2.2.2.1, u5.1.2.2.2.2.2.2.1, u5.1.2.2.2.2.2.2.2.1, u5.1.2.2.2.2.2.2.2.2.1, u5.1.2.2.2.2.2.2.2.2.2.1, u5.1.2.2.2.2.2.2.2.2.2.2), u5.2.1, u5.2.2.1, u5.2.2.2.1, u5.2.2.2.2)))))
        else
          some (.inl 2)
      else
        some (.inl 2)
    else
      some (.inl 1)
set_option maxHeartbeats 4000000 in
set_option maxRecDepth 100000 in
theorem c_X6_addFiller (l : Launch) (hst9 : l.stackTraces = false) (g : zG) (a : Nat → Nat) (v : CV) (p0 : Int32) (r : Nat ⊕ (Int32 × CV)) (hf : f_X6_addFiller v p0 = some r) : zMx zNF zNM l yX6_addFiller (zw yX6_addFiller cX6_addFiller 2 (some .int)) ({ frames := 6, cells := 1, slots := 6, locals := 102 } : Room) g [.ref (a 0), .int p0] (zX6 g a v) r (fun q => q.1) (fun q => (zX6 g a q.2)) := by
  intro sz
  refine vx_ofW (cc := cX6_addFiller) (maxL := 2) (ret := (some .int)) (by decide) rfl ?_
  intro p e s m args below meth c s₁ B hml htab hv
  obtain ⟨rfl, ⟨hsz, hP, hK, hD0⟩, hKx, hZs⟩ := hv
  have hx := B.exec
  have hb := B.bytes
  have hr0 := B.returns
  have hts := atoms_spec (ws := (zw yX6_addFiller cX6_addFiller 2 (some .int))) B.pre
  have hw0 : ∀ w ∈ zW, w.before ([.ref (a 0), .int p0] : List Value).toArray s = true := fun w h => hts w (List.mem_cons_of_mem _ h)
  have hown : s.vm.findClass RX6 = some m.cls := findClass_of_methodNamed B.named
  have hlocks := B.notSynchronized
  subst hsz
  have hD := hD0.self (sz := s.heap.size)
  generalize hAe : va_A (zX6 g a v) s.heap.size = A at hD hZs ⊢
  have hA : ∀ q : Nat, s.heap.size ≤ q → A q := fun q h => by rw [← hAe]; exact Or.inr h
  have hS : va_S A s.heap s.heap [] := va_S.rf
  unfold f_X6_addFiller at hf
  have hl := lv_entry ([.ref (a 0), .int p0]) (n := 2) (Nat.le_of_ble_eq_true rfl)
  rw [lg_entry_eq]
  generalize (lg_sl ([.ref (a 0), .int p0]) ++ List.replicate (2 - (lg_sl ([.ref (a 0), .int p0])).length) Slot.unset).toArray = ls at hl ⊢
  have hl : lv_has ls 2 [(0, .ref (a 0)), (1, .int p0)] := hl
  refine lv_iload_n hx hb dX6_addFiller_0 rfl (lv_at hl 1 rfl) ?_
  refine lv_iconst (v := 1) hx hb dX6_addFiller_1 (by decide) ?_
  refine lv_icmp_lt (tgt := 12) hx hb dX6_addFiller_2 (by decide) (fun c1 => ?_) (fun c1 => ?_)
  · have hf := oi hf c1
    have hR : (Sum.inl 1 : Nat ⊕ (Int32 × CV)) = r := Option.some.inj hf
    exact zthrow (ik := 34) (is := 36) (ic := 38) (text := "length") (k := 1) hx hb hst9 hown (hw0 _ zm3_58) (hw0 _ zm1_12) (hKx.2 ("HourClock", 36, "length") (by decide +kernel)) hKx.1 hw0 zx_w1 zx_b1 zx_o1 hZs (by decide +kernel) (by decide +kernel) hP hD hS (hl.1.trans hml.symm) htab dX6_addFiller_12 dX6_addFiller_15 dX6_addFiller_16 dX6_addFiller_18 dX6_addFiller_21 (by decide) (by decide) (Nat.le_of_ble_eq_true rfl) (Nat.le_of_ble_eq_true rfl) hlocks hR.symm rfl
  · have hf := oe hf c1
    refine lv_iload_n hx hb dX6_addFiller_5 rfl (lv_at hl 1 rfl) ?_
    refine lv_sipush (v := 900) hx hb dX6_addFiller_6 (by decide) ?_
    refine lv_icmp_le (tgt := 22) hx hb dX6_addFiller_9 (by decide) (fun c2 => ?_) (fun c2 => ?_)
    · have hf := oi hf c2
      refine lv_aload_n hx hb dX6_addFiller_22 rfl (lv_at hl 0 rfl) ?_
      refine va_get (D := g.1) (ci := 6) (v := .ref (a 1)) (C := RX6) (T := TX6) (N := 5) hx hb hw0 ziX6 hown hK.1 hP 0 rfl rfl 0 (by decide) (hw0 _ zm1_209) (fun _ h9 => h9) rfl dX6_addFiller_23 ?_
      refine va_getN (D := g.1) (ci := 2) (v := .int (zb v.1.2.2.2.2.1)) (C := RX2) (T := TX2) (N := 11) hx hb hw0 ziX2 hown hK.1 hP 1 rfl rfl 4 (by decide) (va_Nw.use rfl (zf_27 hK)) (fun _ h9 => h9) rfl dX6_addFiller_26 ?_
      refine lv_if_ne (tgt := 47) hx hb dX6_addFiller_29 (by decide) (fun c3 => ?_) (fun c3 => ?_)
      · have hf := oe hf c3
        have hR : (Sum.inl 2 : Nat ⊕ (Int32 × CV)) = r := Option.some.inj hf
        exact zthrow (ik := 58) (is := 77) (ic := 62) (text := "the hour takes no more fillers") (k := 2) hx hb hst9 hown (hw0 _ zm3_128) (hw0 _ zm1_13) (hKx.2 ("HourClock", 77, "the hour takes no more fillers") (by decide +kernel)) hKx.1 hw0 zx_w2 zx_b2 zx_o2 hZs (by decide +kernel) (by decide +kernel) hP hD hS (hl.1.trans hml.symm) htab dX6_addFiller_47 dX6_addFiller_50 dX6_addFiller_51 dX6_addFiller_53 dX6_addFiller_56 (by decide) (by decide) (Nat.le_of_ble_eq_true rfl) (Nat.le_of_ble_eq_true rfl) hlocks hR.symm rfl
      · have hf := oi hf c3
        refine lv_aload_n hx hb dX6_addFiller_32 rfl (lv_at hl 0 rfl) ?_
        refine va_get (D := g.1) (ci := 6) (v := .ref (a 1)) (C := RX6) (T := TX6) (N := 5) hx hb hw0 ziX6 hown hK.1 hP 0 rfl rfl 0 (by decide) (hw0 _ zm1_209) (fun _ h9 => h9) rfl dX6_addFiller_33 ?_
        refine va_getN (D := g.1) (ci := 2) (v := .ref (a 8)) (C := RX2) (T := TX2) (N := 11) hx hb hw0 ziX2 hown hK.1 hP 1 rfl rfl 1 (by decide) (va_Nw.use rfl (zf_23 hK)) (fun _ h9 => h9) rfl dX6_addFiller_36 ?_
        refine va_getN (D := g.1) (ci := 1) (v := .int v.1.2.1.1) (C := RX1) (T := TX1) (N := 5) hx hb hw0 ziX1 hown hK.1 hP 8 rfl rfl 0 (by decide) (va_Nw.use rfl (zf_11 hK)) (fun _ h9 => h9) rfl dX6_addFiller_39 ?_
        refine lv_bipush (v := 10) hx hb dX6_addFiller_42 (by decide) ?_
        refine lv_icmp_lt (tgt := 57) hx hb dX6_addFiller_44 (by decide) (fun c4 => ?_) (fun c4 => ?_)
        · have hf := oi hf c4
          refine lv_aload_n hx hb dX6_addFiller_57 rfl (lv_at hl 0 rfl) ?_
          obtain ⟨u5, hu5, hf⟩ := ob hf
          refine zk_vA (va_runV (As := []) (rest := []) ⟨hx, hb, hml, hown, hts⟩ (c_X6_save l g a v _ hu5 _) (zcV hw0 zm1_229 zm1_232 zm1_1 zm1_231 zs1_0 hd_X6_save rfl rfl ⟨Nat.le_of_ble_eq_true rfl, Nat.le_of_ble_eq_true rfl⟩) ⟨zblind, zrecvA hK hP (ci := 6) rfl rfl, zpreA hK hP hD⟩ rfl rfl hl.1 rfl (lv_room (Nat.le_of_ble_eq_true rfl)) dX6_addFiller_58 ⟨Nat.zero_le _, Nat.zero_le _⟩) hP hD hS hA (fun H locs hP hD hS => ?_)
          have hP : va_P g.1 vwCl (zX6 g a u5) H := hP
          have hD : va_D A (zX6 g a u5) := hD
          refine lv_aload_n hx hb dX6_addFiller_61 rfl (lv_at hl 0 rfl) ?_
          refine va_get (D := g.1) (ci := 6) (v := .ref (a 1)) (C := RX6) (T := TX6) (N := 5) hx hb hw0 ziX6 hown hK.1 hP 0 rfl rfl 0 (by decide) (hw0 _ zm1_209) (fun _ h9 => h9) rfl dX6_addFiller_62 ?_
          refine va_getN (D := g.1) (ci := 2) (v := .ref (a 8)) (C := RX2) (T := TX2) (N := 11) hx hb hw0 ziX2 hown hK.1 hP 1 rfl rfl 1 (by decide) (va_Nw.use rfl (zf_23 hK)) (fun _ h9 => h9) rfl dX6_addFiller_65 ?_
          refine lv_iload_n hx hb dX6_addFiller_68 rfl (lv_at hl 1 rfl) ?_
          obtain ⟨u6, hu6, hf⟩ := ob hf
          refine zk_v (va_runVN (As := [.int p0]) (rest := []) ⟨hx, hb, hml, hown, hts⟩ (c_X1_add l g (fun k => a (k + 8)) u5.1.2.1 p0 _ hu6 _) (zcN hw0 (zn_43 hK) zm3_2 zm1_4 zm3_1 zs4_2 hd_X1_add rfl rfl ⟨Nat.le_of_ble_eq_true rfl, Nat.le_of_ble_eq_true rfl⟩) ⟨zblind, zrecv (wc := zX1 g (fun k => a (k + 8)) u5.1.2.1) hK hP [8, 9, 10, 11, 12, 13, 14] rfl (ci := 1) rfl rfl, zpre hK hP hD [8, 9, 10, 11, 12, 13, 14] rfl rfl⟩ rfl rfl hl.1 rfl (lv_room (Nat.le_of_ble_eq_true rfl)) dX6_addFiller_69 ⟨Nat.zero_le _, Nat.zero_le _⟩) hP hD hS hA [8, 9, 10, 11, 12, 13, 14] rfl rfl (fun H locs hP hD hS => ?_)
          have hP : va_P g.1 vwCl (zX6 g a ((u5.1.1, u6, u5.1.2.2.1, u5.1.2.2.2.1, u5.1.2.2.2.2.1, u5.1.2.2.2.2.2.1, u5.1.2.2.2.2.2.2.1, u5.1.2.2.2.2.2.2.2.1, u5.1.2.2.2.2.2.2.2.2.1, u5.1.2.2.2.2.2.2.2.2.2.1, u5.1.2.2.2.2.2.2.2.2.2.2), u5.2.1, u5.2.2.1, u5.2.2.2.1, u5.2.2.2.2)) H := hP
          have hD : va_D A (zX6 g a ((u5.1.1, u6, u5.1.2.2.1, u5.1.2.2.2.1, u5.1.2.2.2.2.1, u5.1.2.2.2.2.2.1, u5.1.2.2.2.2.2.2.1, u5.1.2.2.2.2.2.2.2.1, u5.1.2.2.2.2.2.2.2.2.1, u5.1.2.2.2.2.2.2.2.2.2.1, u5.1.2.2.2.2.2.2.2.2.2.2), u5.2.1, u5.2.2.1, u5.2.2.2.1, u5.2.2.2.2)) := hD
          refine lv_aload_n hx hb dX6_addFiller_72 rfl (lv_at hl 0 rfl) ?_
          refine va_get (D := g.1) (ci := 6) (v := .ref (a 1)) (C := RX6) (T := TX6) (N := 5) hx hb hw0 ziX6 hown hK.1 hP 0 rfl rfl 0 (by decide) (hw0 _ zm1_209) (fun _ h9 => h9) rfl dX6_addFiller_73 ?_
          refine va_getN (D := g.1) (ci := 2) (v := .ref (a 8)) (C := RX2) (T := TX2) (N := 11) hx hb hw0 ziX2 hown hK.1 hP 1 rfl rfl 1 (by decide) (va_Nw.use rfl (zf_23 hK)) (fun _ h9 => h9) rfl dX6_addFiller_76 ?_
          refine va_getN (D := g.1) (ci := 1) (v := .int u6.1) (C := RX1) (T := TX1) (N := 5) hx hb hw0 ziX1 hown hK.1 hP 8 rfl rfl 0 (by decide) (va_Nw.use rfl (zf_11 hK)) (fun _ h9 => h9) rfl dX6_addFiller_79 ?_
          refine lv_iconst (v := 1) hx hb dX6_addFiller_82 (by decide) ?_
          refine lv_isub hx hb dX6_addFiller_83 ?_
          have hR : (Sum.inr ((u6.1 - 1), ((u5.1.1, u6, u5.1.2.2.1, u5.1.2.2.2.1, u5.1.2.2.2.2.1, u5.1.2.2.2.2.2.1, u5.1.2.2.2.2.2.2.1, u5.1.2.2.2.2.2.2.2.1, u5.1.2.2.2.2.2.2.2.2.1, u5.1.2.2.2.2.2.2.2.2.2.1, u5.1.2.2.2.2.2.2.2.2.2.2), u5.2.1, u5.2.2.1, u5.2.2.2.1, u5.2.2.2.2)) : Nat ⊕ (Int32 × CV)) = r := Option.some.inj hf
          subst hR
          refine W.widen (k := 1) (n := 6) (Nat.zero_le _) (Nat.zero_le _) ?_
          exact vx_ret (W.iret (v := (u6.1 - 1)) hx hb hr0 (fun t ht hW => ⟨⟨(u6.1 - 1), (), rfl, ⟨_, rfl, rfl⟩, _, rfl, by rw [ht]; exact hP, hD⟩, hS.F ht⟩) hS.2.2 dX6_addFiller_84)
        · have hf := oe hf c4
          have hR : (Sum.inl 2 : Nat ⊕ (Int32 × CV)) = r := Option.some.inj hf
          exact zthrow (ik := 58) (is := 77) (ic := 62) (text := "the hour takes no more fillers") (k := 2) hx hb hst9 hown (hw0 _ zm3_128) (hw0 _ zm1_13) (hKx.2 ("HourClock", 77, "the hour takes no more fillers") (by decide +kernel)) hKx.1 hw0 zx_w2 zx_b2 zx_o2 hZs (by decide +kernel) (by decide +kernel) hP hD hS (hl.1.trans hml.symm) htab dX6_addFiller_47 dX6_addFiller_50 dX6_addFiller_51 dX6_addFiller_53 dX6_addFiller_56 (by decide) (by decide) (Nat.le_of_ble_eq_true rfl) (Nat.le_of_ble_eq_true rfl) hlocks hR.symm rfl
    · have hf := oe hf c2
      have hR : (Sum.inl 1 : Nat ⊕ (Int32 × CV)) = r := Option.some.inj hf
      exact zthrow (ik := 34) (is := 36) (ic := 38) (text := "length") (k := 1) hx hb hst9 hown (hw0 _ zm3_58) (hw0 _ zm1_12) (hKx.2 ("HourClock", 36, "length") (by decide +kernel)) hKx.1 hw0 zx_w1 zx_b1 zx_o1 hZs (by decide +kernel) (by decide +kernel) hP hD hS (hl.1.trans hml.symm) htab dX6_addFiller_12 dX6_addFiller_15 dX6_addFiller_16 dX6_addFiller_18 dX6_addFiller_21 (by decide) (by decide) (Nat.le_of_ble_eq_true rfl) (Nat.le_of_ble_eq_true rfl) hlocks hR.symm rfl
theorem hd_X6_stretch : yX6_stretch.cls ≠ "java/lang/invoke/MethodHandle" ∧ yX6_stretch.cls ≠ "java/lang/invoke/VarHandle" ∧ (parseMethodDescriptor yX6_stretch.desc).map (fun d => d.parameters.length) = some 2 := by decide +kernel
def f_X6_stretch (v : CV) (p0 : Int32) (p1 : Int32) : Option (Nat ⊕ (Int32 × CV)) :=
  (f_X0_has v.1.1 p0).bind (fun u1 =>
  if (zb u1) = 0 then
    some (.inl 3)
  else
    if p1 < (-1800) then
      some (.inl 1)
    else
      if p1 ≤ 1800 then
        if zin p0 12 = true then
        (f_X2_canHaveLength v.1 p0 ((v.1.1.2.1 p0.toNatClampNeg) + p1)).bind (fun u6 =>
        if (zb u6) = 0 then
          some (.inl 2)
        else
          (f_X6_save v).bind (fun u8 =>
          (f_X2_giveLength u8.1 p0 ((v.1.1.2.1 p0.toNatClampNeg) + p1)).bind (fun u9 =>
          some (.inr (((v.1.1.2.1 p0.toNatClampNeg) + p1), (u9, u8.2.1, u8.2.2.1, u8.2.2.2.1, u8.2.2.2.2))))))
        else none
      else
        some (.inl 1))
set_option maxHeartbeats 4000000 in
set_option maxRecDepth 100000 in
theorem c_X6_stretch (l : Launch) (hst9 : l.stackTraces = false) (g : zG) (a : Nat → Nat) (v : CV) (p0 : Int32) (p1 : Int32) (r : Nat ⊕ (Int32 × CV)) (hf : f_X6_stretch v p0 p1 = some r) : zMx zNF zNM l yX6_stretch (zw yX6_stretch cX6_stretch 4 (some .int)) ({ frames := 6, cells := 1, slots := 6, locals := 102 } : Room) g [.ref (a 0), .int p0, .int p1] (zX6 g a v) r (fun q => q.1) (fun q => (zX6 g a q.2)) := by
  intro sz
  refine vx_ofW (cc := cX6_stretch) (maxL := 4) (ret := (some .int)) (by decide) rfl ?_
  intro p e s m args below meth c s₁ B hml htab hv
  obtain ⟨rfl, ⟨hsz, hP, hK, hD0⟩, hKx, hZs⟩ := hv
  have hx := B.exec
  have hb := B.bytes
  have hr0 := B.returns
  have hts := atoms_spec (ws := (zw yX6_stretch cX6_stretch 4 (some .int))) B.pre
  have hw0 : ∀ w ∈ zW, w.before ([.ref (a 0), .int p0, .int p1] : List Value).toArray s = true := fun w h => hts w (List.mem_cons_of_mem _ h)
  have hown : s.vm.findClass RX6 = some m.cls := findClass_of_methodNamed B.named
  have hlocks := B.notSynchronized
  subst hsz
  have hD := hD0.self (sz := s.heap.size)
  generalize hAe : va_A (zX6 g a v) s.heap.size = A at hD hZs ⊢
  have hA : ∀ q : Nat, s.heap.size ≤ q → A q := fun q h => by rw [← hAe]; exact Or.inr h
  have hS : va_S A s.heap s.heap [] := va_S.rf
  unfold f_X6_stretch at hf
  have hl := lv_entry ([.ref (a 0), .int p0, .int p1]) (n := 4) (Nat.le_of_ble_eq_true rfl)
  rw [lg_entry_eq]
  generalize (lg_sl ([.ref (a 0), .int p0, .int p1]) ++ List.replicate (4 - (lg_sl ([.ref (a 0), .int p0, .int p1])).length) Slot.unset).toArray = ls at hl ⊢
  have hl : lv_has ls 4 [(0, .ref (a 0)), (1, .int p0), (2, .int p1)] := hl
  refine lv_aload_n hx hb dX6_stretch_0 rfl (lv_at hl 0 rfl) ?_
  refine va_get (D := g.1) (ci := 6) (v := .ref (a 1)) (C := RX6) (T := TX6) (N := 5) hx hb hw0 ziX6 hown hK.1 hP 0 rfl rfl 0 (by decide) (hw0 _ zm1_209) (fun _ h9 => h9) rfl dX6_stretch_1 ?_
  refine va_getN (D := g.1) (ci := 2) (v := .ref (a 2)) (C := RX2) (T := TX2) (N := 11) hx hb hw0 ziX2 hown hK.1 hP 1 rfl rfl 0 (by decide) (va_Nw.use rfl (zf_21 hK)) (fun _ h9 => h9) rfl dX6_stretch_4 ?_
  refine lv_iload_n hx hb dX6_stretch_7 rfl (lv_at hl 1 rfl) ?_
  obtain ⟨u1, hu1, hf⟩ := ob hf
  refine zk_iR (va_runVN (As := [.int p0]) (rest := []) ⟨hx, hb, hml, hown, hts⟩ (c_X0_has l g (fun k => a (k + 2)) v.1.1 p0 _ hu1 _) (zcN hw0 (zn_23 hK) zm2_58 zm1_3 zm2_57 zs1_15 hd_X0_has rfl rfl ⟨Nat.le_of_ble_eq_true rfl, Nat.le_of_ble_eq_true rfl⟩) ⟨zblind, zrecv (wc := zX0 g (fun k => a (k + 2)) v.1.1) hK hP [2, 3, 4, 5, 6, 7] rfl (ci := 0) rfl rfl, zpre hK hP hD [2, 3, 4, 5, 6, 7] rfl rfl⟩ rfl rfl hl.1 rfl (lv_room (Nat.le_of_ble_eq_true rfl)) dX6_stretch_8 ⟨Nat.zero_le _, Nat.zero_le _⟩) hP hD hS hA [2, 3, 4, 5, 6, 7] rfl (fun H locs hP hD hS => ?_)
  refine lv_if_ne (tgt := 24) hx hb dX6_stretch_11 (by decide) (fun c2 => ?_) (fun c2 => ?_)
  · have hf := oe hf c2
    refine lv_iload_n hx hb dX6_stretch_24 rfl (lv_at hl 2 rfl) ?_
    refine lv_sipush (v := (-1800)) hx hb dX6_stretch_25 (by decide) ?_
    refine lv_icmp_lt (tgt := 38) hx hb dX6_stretch_28 (by decide) (fun c3 => ?_) (fun c3 => ?_)
    · have hf := oi hf c3
      have hR : (Sum.inl 1 : Nat ⊕ (Int32 × CV)) = r := Option.some.inj hf
      exact zthrow (ik := 34) (is := 91) (ic := 38) (text := "by") (k := 1) hx hb hst9 hown (hw0 _ zm3_58) (hw0 _ zm1_12) (hKx.2 ("HourClock", 91, "by") (by decide +kernel)) hKx.1 hw0 zx_w1 zx_b1 zx_o1 hZs (by decide +kernel) (by decide +kernel) hP hD hS (hl.1.trans hml.symm) htab dX6_stretch_38 dX6_stretch_41 dX6_stretch_42 dX6_stretch_44 dX6_stretch_47 (by decide) (by decide) (Nat.le_of_ble_eq_true rfl) (Nat.le_of_ble_eq_true rfl) hlocks hR.symm rfl
    · have hf := oe hf c3
      refine lv_iload_n hx hb dX6_stretch_31 rfl (lv_at hl 2 rfl) ?_
      refine lv_sipush (v := 1800) hx hb dX6_stretch_32 (by decide) ?_
      refine lv_icmp_le (tgt := 48) hx hb dX6_stretch_35 (by decide) (fun c4 => ?_) (fun c4 => ?_)
      · have hf := oi hf c4
        refine lv_aload_n hx hb dX6_stretch_48 rfl (lv_at hl 0 rfl) ?_
        refine va_get (D := g.1) (ci := 6) (v := .ref (a 1)) (C := RX6) (T := TX6) (N := 5) hx hb hw0 ziX6 hown hK.1 hP 0 rfl rfl 0 (by decide) (hw0 _ zm1_209) (fun _ h9 => h9) rfl dX6_stretch_49 ?_
        refine va_getN (D := g.1) (ci := 2) (v := .ref (a 2)) (C := RX2) (T := TX2) (N := 11) hx hb hw0 ziX2 hown hK.1 hP 1 rfl rfl 0 (by decide) (va_Nw.use rfl (zf_21 hK)) (fun _ h9 => h9) rfl dX6_stretch_52 ?_
        refine va_getN (D := g.1) (ci := 0) (v := .ref (a 3)) (C := RX0) (T := TX0) (N := 6) hx hb hw0 ziX0 hown hK.1 hP 2 rfl rfl 1 (by decide) (va_Nw.use rfl (zf_3 hK)) (fun _ h9 => h9) rfl dX6_stretch_55 ?_
        refine lv_iload_n hx hb dX6_stretch_58 rfl (lv_at hl 1 rfl) ?_
        obtain ⟨h5, hf⟩ := og hf
        refine zald (D := g.1) (f := v.1.1.2.1) (k := p0.toNatClampNeg) hx hb hK.1 hP 3 0 rfl rfl (zin_vp h5) rfl dX6_stretch_59 ?_
        refine lv_iload_n hx hb dX6_stretch_60 rfl (lv_at hl 2 rfl) ?_
        refine lv_iadd hx hb dX6_stretch_61 ?_
        refine lv_istore_n (lv' := [(3, .int ((v.1.1.2.1 p0.toNatClampNeg) + p1)), (0, .ref (a 0)), (1, .int p0), (2, .int p1)]) hx hb dX6_stretch_62 rfl hl (by decide) rfl (fun ls hl => ?_)
        refine lv_aload_n hx hb dX6_stretch_63 rfl (lv_at hl 1 rfl) ?_
        refine va_get (D := g.1) (ci := 6) (v := .ref (a 1)) (C := RX6) (T := TX6) (N := 5) hx hb hw0 ziX6 hown hK.1 hP 0 rfl rfl 0 (by decide) (hw0 _ zm1_209) (fun _ h9 => h9) rfl dX6_stretch_64 ?_
        refine lv_iload_n hx hb dX6_stretch_67 rfl (lv_at hl 2 rfl) ?_
        refine lv_iload_n hx hb dX6_stretch_68 rfl (lv_at hl 0 rfl) ?_
        obtain ⟨u6, hu6, hf⟩ := ob hf
        refine zk_iR (va_runVN (As := [.int p0, .int ((v.1.1.2.1 p0.toNatClampNeg) + p1)]) (rest := []) ⟨hx, hb, hml, hown, hts⟩ (c_X2_canHaveLength l g (fun k => a (k + 1)) v.1 p0 ((v.1.1.2.1 p0.toNatClampNeg) + p1) _ hu6 _) (zcN hw0 (zn_44 hK) zm3_182 zm1_2 zm3_181 zs4_13 hd_X2_canHaveLength rfl rfl ⟨Nat.le_of_ble_eq_true rfl, Nat.le_of_ble_eq_true rfl⟩) ⟨zblind, zrecv (wc := zX2 g (fun k => a (k + 1)) v.1) hK hP [1, 2, 3, 4, 5, 6, 7, 8, 9, 10, 11, 12, 13, 14, 15, 16, 17, 18] rfl (ci := 2) rfl rfl, zpre hK hP hD [1, 2, 3, 4, 5, 6, 7, 8, 9, 10, 11, 12, 13, 14, 15, 16, 17, 18] rfl rfl⟩ rfl rfl hl.1 rfl (lv_room (Nat.le_of_ble_eq_true rfl)) dX6_stretch_69 ⟨Nat.zero_le _, Nat.zero_le _⟩) hP hD hS hA [1, 2, 3, 4, 5, 6, 7, 8, 9, 10, 11, 12, 13, 14, 15, 16, 17, 18] rfl (fun H locs hP hD hS => ?_)
        refine lv_if_ne (tgt := 85) hx hb dX6_stretch_72 (by decide) (fun c7 => ?_) (fun c7 => ?_)
        · have hf := oe hf c7
          refine lv_aload_n hx hb dX6_stretch_85 rfl (lv_at hl 1 rfl) ?_
          obtain ⟨u8, hu8, hf⟩ := ob hf
          refine zk_vA (va_runV (As := []) (rest := []) ⟨hx, hb, hml, hown, hts⟩ (c_X6_save l g a v _ hu8 _) (zcV hw0 zm1_229 zm1_232 zm1_1 zm1_231 zs1_0 hd_X6_save rfl rfl ⟨Nat.le_of_ble_eq_true rfl, Nat.le_of_ble_eq_true rfl⟩) ⟨zblind, zrecvA hK hP (ci := 6) rfl rfl, zpreA hK hP hD⟩ rfl rfl hl.1 rfl (lv_room (Nat.le_of_ble_eq_true rfl)) dX6_stretch_86 ⟨Nat.zero_le _, Nat.zero_le _⟩) hP hD hS hA (fun H locs hP hD hS => ?_)
          have hP : va_P g.1 vwCl (zX6 g a u8) H := hP
          have hD : va_D A (zX6 g a u8) := hD
          refine lv_aload_n hx hb dX6_stretch_89 rfl (lv_at hl 1 rfl) ?_
          refine va_get (D := g.1) (ci := 6) (v := .ref (a 1)) (C := RX6) (T := TX6) (N := 5) hx hb hw0 ziX6 hown hK.1 hP 0 rfl rfl 0 (by decide) (hw0 _ zm1_209) (fun _ h9 => h9) rfl dX6_stretch_90 ?_
          refine lv_iload_n hx hb dX6_stretch_93 rfl (lv_at hl 2 rfl) ?_
          refine lv_iload_n hx hb dX6_stretch_94 rfl (lv_at hl 0 rfl) ?_
          obtain ⟨u9, hu9, hf⟩ := ob hf
          refine zk_vZ (va_runVN (As := [.int p0, .int ((v.1.1.2.1 p0.toNatClampNeg) + p1)]) (rest := []) ⟨hx, hb, hml, hown, hts⟩ (c_X2_giveLength l g (fun k => a (k + 1)) u8.1 p0 ((v.1.1.2.1 p0.toNatClampNeg) + p1) _ hu9 _) (zcN hw0 (zn_48 hK) zm3_190 zm1_2 zm3_189 zs4_14 hd_X2_giveLength rfl rfl ⟨Nat.le_of_ble_eq_true rfl, Nat.le_of_ble_eq_true rfl⟩) ⟨zblind, zrecv (wc := zX2 g (fun k => a (k + 1)) u8.1) hK hP [1, 2, 3, 4, 5, 6, 7, 8, 9, 10, 11, 12, 13, 14, 15, 16, 17, 18] rfl (ci := 2) rfl rfl, zpre hK hP hD [1, 2, 3, 4, 5, 6, 7, 8, 9, 10, 11, 12, 13, 14, 15, 16, 17, 18] rfl rfl⟩ rfl rfl hl.1 rfl (lv_room (Nat.le_of_ble_eq_true rfl)) dX6_stretch_95 ⟨Nat.zero_le _, Nat.zero_le _⟩) hP hD hS hA [1, 2, 3, 4, 5, 6, 7, 8, 9, 10, 11, 12, 13, 14, 15, 16, 17, 18] rfl rfl (zrun (wc := zX2 g (fun k => a (k + 1)) u8.1) (ws' := zX6 g a (u9, u8.2.1, u8.2.2.1, u8.2.2.2.1, u8.2.2.2.2)) 1 18 rfl rfl rfl rfl rfl) (fun H locs hP hD hS => ?_)
          have hP : va_P g.1 vwCl (zX6 g a (u9, u8.2.1, u8.2.2.1, u8.2.2.2.1, u8.2.2.2.2)) H := hP
          have hD : va_D A (zX6 g a (u9, u8.2.1, u8.2.2.1, u8.2.2.2.1, u8.2.2.2.2)) := hD
          refine lv_iload_n hx hb dX6_stretch_98 rfl (lv_at hl 0 rfl) ?_
          have hR : (Sum.inr (((v.1.1.2.1 p0.toNatClampNeg) + p1), (u9, u8.2.1, u8.2.2.1, u8.2.2.2.1, u8.2.2.2.2)) : Nat ⊕ (Int32 × CV)) = r := Option.some.inj hf
          subst hR
          refine W.widen (k := 1) (n := 6) (Nat.zero_le _) (Nat.zero_le _) ?_
          exact vx_ret (W.iret (v := ((v.1.1.2.1 p0.toNatClampNeg) + p1)) hx hb hr0 (fun t ht hW => ⟨⟨((v.1.1.2.1 p0.toNatClampNeg) + p1), (), rfl, ⟨_, rfl, rfl⟩, _, rfl, by rw [ht]; exact hP, hD⟩, hS.F ht⟩) hS.2.2 dX6_stretch_99)
        · have hf := oi hf c7
          have hR : (Sum.inl 2 : Nat ⊕ (Int32 × CV)) = r := Option.some.inj hf
          exact zthrow (ik := 58) (is := 100) (ic := 62) (text := "the element cannot have this length") (k := 2) hx hb hst9 hown (hw0 _ zm3_128) (hw0 _ zm1_13) (hKx.2 ("HourClock", 100, "the element cannot have this length") (by decide +kernel)) hKx.1 hw0 zx_w2 zx_b2 zx_o2 hZs (by decide +kernel) (by decide +kernel) hP hD hS (hl.1.trans hml.symm) htab dX6_stretch_75 dX6_stretch_78 dX6_stretch_79 dX6_stretch_81 dX6_stretch_84 (by decide) (by decide) (Nat.le_of_ble_eq_true rfl) (Nat.le_of_ble_eq_true rfl) hlocks hR.symm rfl
      · have hf := oe hf c4
        have hR : (Sum.inl 1 : Nat ⊕ (Int32 × CV)) = r := Option.some.inj hf
        exact zthrow (ik := 34) (is := 91) (ic := 38) (text := "by") (k := 1) hx hb hst9 hown (hw0 _ zm3_58) (hw0 _ zm1_12) (hKx.2 ("HourClock", 91, "by") (by decide +kernel)) hKx.1 hw0 zx_w1 zx_b1 zx_o1 hZs (by decide +kernel) (by decide +kernel) hP hD hS (hl.1.trans hml.symm) htab dX6_stretch_38 dX6_stretch_41 dX6_stretch_42 dX6_stretch_44 dX6_stretch_47 (by decide) (by decide) (Nat.le_of_ble_eq_true rfl) (Nat.le_of_ble_eq_true rfl) hlocks hR.symm rfl
  · have hf := oi hf c2
    have hR : (Sum.inl 3 : Nat ⊕ (Int32 × CV)) = r := Option.some.inj hf
    exact zthrow (ik := 86) (is := 88) (ic := 90) (text := "element") (k := 3) hx hb hst9 hown (hw0 _ zm3_162) (hw0 _ zm1_15) (hKx.2 ("HourClock", 88, "element") (by decide +kernel)) hKx.1 hw0 zx_w3 zx_b3 zx_o3 hZs (by decide +kernel) (by decide +kernel) hP hD hS (hl.1.trans hml.symm) htab dX6_stretch_14 dX6_stretch_17 dX6_stretch_18 dX6_stretch_20 dX6_stretch_23 (by decide) (by decide) (Nat.le_of_ble_eq_true rfl) (Nat.le_of_ble_eq_true rfl) hlocks hR.symm rfl
theorem hd_X6_drop : yX6_drop.cls ≠ "java/lang/invoke/MethodHandle" ∧ yX6_drop.cls ≠ "java/lang/invoke/VarHandle" ∧ (parseMethodDescriptor yX6_drop.desc).map (fun d => d.parameters.length) = some 1 := by decide +kernel
def f_X6_drop (v : CV) (p0 : Int32) : Option (Nat ⊕ (Int32 × CV)) :=
  (f_X0_has v.1.1 p0).bind (fun u1 =>
  if (zb u1) = 0 then
    some (.inl 3)
  else
    (f_X0_waits v.1.1 p0).bind (fun u3 =>
    if (zb u3) = 0 then
      some (.inl 2)
    else
      (f_X6_save v).bind (fun u5 =>
      (f_X2_dropElement u5.1 p0).bind (fun u6 =>
      (f_X0_countThatAre u6.1 0).bind (fun u7 =>
      some (.inr (u7, (u6, u5.2.1, u5.2.2.1, u5.2.2.2.1, u5.2.2.2.2))))))))
set_option maxHeartbeats 4000000 in
set_option maxRecDepth 100000 in
theorem c_X6_drop (l : Launch) (hst9 : l.stackTraces = false) (g : zG) (a : Nat → Nat) (v : CV) (p0 : Int32) (r : Nat ⊕ (Int32 × CV)) (hf : f_X6_drop v p0 = some r) : zMx zNF zNM l yX6_drop (zw yX6_drop cX6_drop 2 (some .int)) ({ frames := 6, cells := 1, slots := 6, locals := 102 } : Room) g [.ref (a 0), .int p0] (zX6 g a v) r (fun q => q.1) (fun q => (zX6 g a q.2)) := by
  intro sz
  refine vx_ofW (cc := cX6_drop) (maxL := 2) (ret := (some .int)) (by decide) rfl ?_
  intro p e s m args below meth c s₁ B hml htab hv
  obtain ⟨rfl, ⟨hsz, hP, hK, hD0⟩, hKx, hZs⟩ := hv
  have hx := B.exec
  have hb := B.bytes
  have hr0 := B.returns
  have hts := atoms_spec (ws := (zw yX6_drop cX6_drop 2 (some .int))) B.pre
  have hw0 : ∀ w ∈ zW, w.before ([.ref (a 0), .int p0] : List Value).toArray s = true := fun w h => hts w (List.mem_cons_of_mem _ h)
  have hown : s.vm.findClass RX6 = some m.cls := findClass_of_methodNamed B.named
  have hlocks := B.notSynchronized
  subst hsz
  have hD := hD0.self (sz := s.heap.size)
  generalize hAe : va_A (zX6 g a v) s.heap.size = A at hD hZs ⊢
  have hA : ∀ q : Nat, s.heap.size ≤ q → A q := fun q h => by rw [← hAe]; exact Or.inr h
  have hS : va_S A s.heap s.heap [] := va_S.rf
  unfold f_X6_drop at hf
  have hl := lv_entry ([.ref (a 0), .int p0]) (n := 2) (Nat.le_of_ble_eq_true rfl)
  rw [lg_entry_eq]
  generalize (lg_sl ([.ref (a 0), .int p0]) ++ List.replicate (2 - (lg_sl ([.ref (a 0), .int p0])).length) Slot.unset).toArray = ls at hl ⊢
  have hl : lv_has ls 2 [(0, .ref (a 0)), (1, .int p0)] := hl
  refine lv_aload_n hx hb dX6_drop_0 rfl (lv_at hl 0 rfl) ?_
  refine va_get (D := g.1) (ci := 6) (v := .ref (a 1)) (C := RX6) (T := TX6) (N := 5) hx hb hw0 ziX6 hown hK.1 hP 0 rfl rfl 0 (by decide) (hw0 _ zm1_209) (fun _ h9 => h9) rfl dX6_drop_1 ?_
  refine va_getN (D := g.1) (ci := 2) (v := .ref (a 2)) (C := RX2) (T := TX2) (N := 11) hx hb hw0 ziX2 hown hK.1 hP 1 rfl rfl 0 (by decide) (va_Nw.use rfl (zf_21 hK)) (fun _ h9 => h9) rfl dX6_drop_4 ?_
  refine lv_iload_n hx hb dX6_drop_7 rfl (lv_at hl 1 rfl) ?_
  obtain ⟨u1, hu1, hf⟩ := ob hf
  refine zk_iR (va_runVN (As := [.int p0]) (rest := []) ⟨hx, hb, hml, hown, hts⟩ (c_X0_has l g (fun k => a (k + 2)) v.1.1 p0 _ hu1 _) (zcN hw0 (zn_23 hK) zm2_58 zm1_3 zm2_57 zs1_15 hd_X0_has rfl rfl ⟨Nat.le_of_ble_eq_true rfl, Nat.le_of_ble_eq_true rfl⟩) ⟨zblind, zrecv (wc := zX0 g (fun k => a (k + 2)) v.1.1) hK hP [2, 3, 4, 5, 6, 7] rfl (ci := 0) rfl rfl, zpre hK hP hD [2, 3, 4, 5, 6, 7] rfl rfl⟩ rfl rfl hl.1 rfl (lv_room (Nat.le_of_ble_eq_true rfl)) dX6_drop_8 ⟨Nat.zero_le _, Nat.zero_le _⟩) hP hD hS hA [2, 3, 4, 5, 6, 7] rfl (fun H locs hP hD hS => ?_)
  refine lv_if_ne (tgt := 24) hx hb dX6_drop_11 (by decide) (fun c2 => ?_) (fun c2 => ?_)
  · have hf := oe hf c2
    refine lv_aload_n hx hb dX6_drop_24 rfl (lv_at hl 0 rfl) ?_
    refine va_get (D := g.1) (ci := 6) (v := .ref (a 1)) (C := RX6) (T := TX6) (N := 5) hx hb hw0 ziX6 hown hK.1 hP 0 rfl rfl 0 (by decide) (hw0 _ zm1_209) (fun _ h9 => h9) rfl dX6_drop_25 ?_
    refine va_getN (D := g.1) (ci := 2) (v := .ref (a 2)) (C := RX2) (T := TX2) (N := 11) hx hb hw0 ziX2 hown hK.1 hP 1 rfl rfl 0 (by decide) (va_Nw.use rfl (zf_21 hK)) (fun _ h9 => h9) rfl dX6_drop_28 ?_
    refine lv_iload_n hx hb dX6_drop_31 rfl (lv_at hl 1 rfl) ?_
    obtain ⟨u3, hu3, hf⟩ := ob hf
    refine zk_iR (va_runVN (As := [.int p0]) (rest := []) ⟨hx, hb, hml, hown, hts⟩ (c_X0_waits l g (fun k => a (k + 2)) v.1.1 p0 _ hu3 _) (zcN hw0 (zn_25 hK) zm2_149 zm1_3 zm2_148 zs3_0 hd_X0_waits rfl rfl ⟨Nat.le_of_ble_eq_true rfl, Nat.le_of_ble_eq_true rfl⟩) ⟨zblind, zrecv (wc := zX0 g (fun k => a (k + 2)) v.1.1) hK hP [2, 3, 4, 5, 6, 7] rfl (ci := 0) rfl rfl, zpre hK hP hD [2, 3, 4, 5, 6, 7] rfl rfl⟩ rfl rfl hl.1 rfl (lv_room (Nat.le_of_ble_eq_true rfl)) dX6_drop_32 ⟨Nat.zero_le _, Nat.zero_le _⟩) hP hD hS hA [2, 3, 4, 5, 6, 7] rfl (fun H locs hP hD hS => ?_)
    refine lv_if_ne (tgt := 48) hx hb dX6_drop_35 (by decide) (fun c4 => ?_) (fun c4 => ?_)
    · have hf := oe hf c4
      refine lv_aload_n hx hb dX6_drop_48 rfl (lv_at hl 0 rfl) ?_
      obtain ⟨u5, hu5, hf⟩ := ob hf
      refine zk_vA (va_runV (As := []) (rest := []) ⟨hx, hb, hml, hown, hts⟩ (c_X6_save l g a v _ hu5 _) (zcV hw0 zm1_229 zm1_232 zm1_1 zm1_231 zs1_0 hd_X6_save rfl rfl ⟨Nat.le_of_ble_eq_true rfl, Nat.le_of_ble_eq_true rfl⟩) ⟨zblind, zrecvA hK hP (ci := 6) rfl rfl, zpreA hK hP hD⟩ rfl rfl hl.1 rfl (lv_room (Nat.le_of_ble_eq_true rfl)) dX6_drop_49 ⟨Nat.zero_le _, Nat.zero_le _⟩) hP hD hS hA (fun H locs hP hD hS => ?_)
      have hP : va_P g.1 vwCl (zX6 g a u5) H := hP
      have hD : va_D A (zX6 g a u5) := hD
      refine lv_aload_n hx hb dX6_drop_52 rfl (lv_at hl 0 rfl) ?_
      refine va_get (D := g.1) (ci := 6) (v := .ref (a 1)) (C := RX6) (T := TX6) (N := 5) hx hb hw0 ziX6 hown hK.1 hP 0 rfl rfl 0 (by decide) (hw0 _ zm1_209) (fun _ h9 => h9) rfl dX6_drop_53 ?_
      refine lv_iload_n hx hb dX6_drop_56 rfl (lv_at hl 1 rfl) ?_
      obtain ⟨u6, hu6, hf⟩ := ob hf
      refine zk_vZ (va_runVN (As := [.int p0]) (rest := []) ⟨hx, hb, hml, hown, hts⟩ (c_X2_dropElement l g (fun k => a (k + 1)) u5.1 p0 _ hu6 _) (zcN hw0 (zn_24 hK) zm2_62 zm1_2 zm2_61 zs2_0 hd_X2_dropElement rfl rfl ⟨Nat.le_of_ble_eq_true rfl, Nat.le_of_ble_eq_true rfl⟩) ⟨zblind, zrecv (wc := zX2 g (fun k => a (k + 1)) u5.1) hK hP [1, 2, 3, 4, 5, 6, 7, 8, 9, 10, 11, 12, 13, 14, 15, 16, 17, 18] rfl (ci := 2) rfl rfl, zpre hK hP hD [1, 2, 3, 4, 5, 6, 7, 8, 9, 10, 11, 12, 13, 14, 15, 16, 17, 18] rfl rfl⟩ rfl rfl hl.1 rfl (lv_room (Nat.le_of_ble_eq_true rfl)) dX6_drop_57 ⟨Nat.zero_le _, Nat.zero_le _⟩) hP hD hS hA [1, 2, 3, 4, 5, 6, 7, 8, 9, 10, 11, 12, 13, 14, 15, 16, 17, 18] rfl rfl (zrun (wc := zX2 g (fun k => a (k + 1)) u5.1) (ws' := zX6 g a (u6, u5.2.1, u5.2.2.1, u5.2.2.2.1, u5.2.2.2.2)) 1 18 rfl rfl rfl rfl rfl) (fun H locs hP hD hS => ?_)
      have hP : va_P g.1 vwCl (zX6 g a (u6, u5.2.1, u5.2.2.1, u5.2.2.2.1, u5.2.2.2.2)) H := hP
      have hD : va_D A (zX6 g a (u6, u5.2.1, u5.2.2.1, u5.2.2.2.1, u5.2.2.2.2)) := hD
      refine lv_aload_n hx hb dX6_drop_60 rfl (lv_at hl 0 rfl) ?_
      refine va_get (D := g.1) (ci := 6) (v := .ref (a 1)) (C := RX6) (T := TX6) (N := 5) hx hb hw0 ziX6 hown hK.1 hP 0 rfl rfl 0 (by decide) (hw0 _ zm1_209) (fun _ h9 => h9) rfl dX6_drop_61 ?_
      refine va_getN (D := g.1) (ci := 2) (v := .ref (a 2)) (C := RX2) (T := TX2) (N := 11) hx hb hw0 ziX2 hown hK.1 hP 1 rfl rfl 0 (by decide) (va_Nw.use rfl (zf_21 hK)) (fun _ h9 => h9) rfl dX6_drop_64 ?_
      refine lv_iconst (v := 0) hx hb dX6_drop_67 (by decide) ?_
      obtain ⟨u7, hu7, hf⟩ := ob hf
      refine zk_iR (va_runVN (As := [.int 0]) (rest := []) ⟨hx, hb, hml, hown, hts⟩ (c_X0_countThatAre l g (fun k => a (k + 2)) u6.1 0 _ hu7 _) (zcN hw0 (zn_27 hK) zm2_166 zm1_3 zm2_165 zs3_2 hd_X0_countThatAre rfl rfl ⟨Nat.le_of_ble_eq_true rfl, Nat.le_of_ble_eq_true rfl⟩) ⟨zblind, zrecv (wc := zX0 g (fun k => a (k + 2)) u6.1) hK hP [2, 3, 4, 5, 6, 7] rfl (ci := 0) rfl rfl, zpre hK hP hD [2, 3, 4, 5, 6, 7] rfl rfl⟩ rfl rfl hl.1 rfl (lv_room (Nat.le_of_ble_eq_true rfl)) dX6_drop_68 ⟨Nat.zero_le _, Nat.zero_le _⟩) hP hD hS hA [2, 3, 4, 5, 6, 7] rfl (fun H locs hP hD hS => ?_)
      have hR : (Sum.inr (u7, (u6, u5.2.1, u5.2.2.1, u5.2.2.2.1, u5.2.2.2.2)) : Nat ⊕ (Int32 × CV)) = r := Option.some.inj hf
      subst hR
      refine W.widen (k := 1) (n := 6) (Nat.zero_le _) (Nat.zero_le _) ?_
      exact vx_ret (W.iret (v := u7) hx hb hr0 (fun t ht hW => ⟨⟨u7, (), rfl, ⟨_, rfl, rfl⟩, _, rfl, by rw [ht]; exact hP, hD⟩, hS.F ht⟩) hS.2.2 dX6_drop_71)
    · have hf := oi hf c4
      have hR : (Sum.inl 2 : Nat ⊕ (Int32 × CV)) = r := Option.some.inj hf
      exact zthrow (ik := 58) (is := 109) (ic := 62) (text := "the element does not wait") (k := 2) hx hb hst9 hown (hw0 _ zm3_128) (hw0 _ zm1_13) (hKx.2 ("HourClock", 109, "the element does not wait") (by decide +kernel)) hKx.1 hw0 zx_w2 zx_b2 zx_o2 hZs (by decide +kernel) (by decide +kernel) hP hD hS (hl.1.trans hml.symm) htab dX6_drop_38 dX6_drop_41 dX6_drop_42 dX6_drop_44 dX6_drop_47 (by decide) (by decide) (Nat.le_of_ble_eq_true rfl) (Nat.le_of_ble_eq_true rfl) hlocks hR.symm rfl
  · have hf := oi hf c2
    have hR : (Sum.inl 3 : Nat ⊕ (Int32 × CV)) = r := Option.some.inj hf
    exact zthrow (ik := 86) (is := 88) (ic := 90) (text := "element") (k := 3) hx hb hst9 hown (hw0 _ zm3_162) (hw0 _ zm1_15) (hKx.2 ("HourClock", 88, "element") (by decide +kernel)) hKx.1 hw0 zx_w3 zx_b3 zx_o3 hZs (by decide +kernel) (by decide +kernel) hP hD hS (hl.1.trans hml.symm) htab dX6_drop_14 dX6_drop_17 dX6_drop_18 dX6_drop_20 dX6_drop_23 (by decide) (by decide) (Nat.le_of_ble_eq_true rfl) (Nat.le_of_ble_eq_true rfl) hlocks hR.symm rfl
theorem hd_X6_pass : yX6_pass.cls ≠ "java/lang/invoke/MethodHandle" ∧ yX6_pass.cls ≠ "java/lang/invoke/VarHandle" ∧ (parseMethodDescriptor yX6_pass.desc).map (fun d => d.parameters.length) = some 1 := by decide +kernel
def f_X6_pass (v : CV) (p0 : Int32) : Option (Nat ⊕ (Int32 × CV)) :=
  if p0 < 1 then
    some (.inl 1)
  else
    if p0 ≤ 3600 then
      (f_X6_save v).bind (fun u3 =>
      (f_X2_runTo u3.1 (u3.1.2.2.2.1 + p0)).bind (fun u4 =>
      some (.inr ((u4.2.2.2.1 - u3.1.2.2.2.1), (u4, u3.2.1, u3.2.2.1, u3.2.2.2.1, u3.2.2.2.2)))))
    else
      some (.inl 1)
set_option maxHeartbeats 4000000 in
set_option maxRecDepth 100000 in
theorem c_X6_pass (l : Launch) (hst9 : l.stackTraces = false) (g : zG) (a : Nat → Nat) (v : CV) (p0 : Int32) (r : Nat ⊕ (Int32 × CV)) (hf : f_X6_pass v p0 = some r) : zMx zNF zNM l yX6_pass (zw yX6_pass cX6_pass 3 (some .int)) ({ frames := 6, cells := 1, slots := 6, locals := 140 } : Room) g [.ref (a 0), .int p0] (zX6 g a v) r (fun q => q.1) (fun q => (zX6 g a q.2)) := by
  intro sz
  refine vx_ofW (cc := cX6_pass) (maxL := 3) (ret := (some .int)) (by decide) rfl ?_
  intro p e s m args below meth c s₁ B hml htab hv
  obtain ⟨rfl, ⟨hsz, hP, hK, hD0⟩, hKx, hZs⟩ := hv
  have hx := B.exec
  have hb := B.bytes
  have hr0 := B.returns
  have hts := atoms_spec (ws := (zw yX6_pass cX6_pass 3 (some .int))) B.pre
  have hw0 : ∀ w ∈ zW, w.before ([.ref (a 0), .int p0] : List Value).toArray s = true := fun w h => hts w (List.mem_cons_of_mem _ h)
  have hown : s.vm.findClass RX6 = some m.cls := findClass_of_methodNamed B.named
  have hlocks := B.notSynchronized
  subst hsz
  have hD := hD0.self (sz := s.heap.size)
  generalize hAe : va_A (zX6 g a v) s.heap.size = A at hD hZs ⊢
  have hA : ∀ q : Nat, s.heap.size ≤ q → A q := fun q h => by rw [← hAe]; exact Or.inr h
  have hS : va_S A s.heap s.heap [] := va_S.rf
  unfold f_X6_pass at hf
  have hl := lv_entry ([.ref (a 0), .int p0]) (n := 3) (Nat.le_of_ble_eq_true rfl)
  rw [lg_entry_eq]
  generalize (lg_sl ([.ref (a 0), .int p0]) ++ List.replicate (3 - (lg_sl ([.ref (a 0), .int p0])).length) Slot.unset).toArray = ls at hl ⊢
  have hl : lv_has ls 3 [(0, .ref (a 0)), (1, .int p0)] := hl
  refine lv_iload_n hx hb dX6_pass_0 rfl (lv_at hl 1 rfl) ?_
  refine lv_iconst (v := 1) hx hb dX6_pass_1 (by decide) ?_
  refine lv_icmp_lt (tgt := 12) hx hb dX6_pass_2 (by decide) (fun c1 => ?_) (fun c1 => ?_)
  · have hf := oi hf c1
    have hR : (Sum.inl 1 : Nat ⊕ (Int32 × CV)) = r := Option.some.inj hf
    exact zthrow (ik := 34) (is := 118) (ic := 38) (text := "seconds") (k := 1) hx hb hst9 hown (hw0 _ zm3_58) (hw0 _ zm1_12) (hKx.2 ("HourClock", 118, "seconds") (by decide +kernel)) hKx.1 hw0 zx_w1 zx_b1 zx_o1 hZs (by decide +kernel) (by decide +kernel) hP hD hS (hl.1.trans hml.symm) htab dX6_pass_12 dX6_pass_15 dX6_pass_16 dX6_pass_18 dX6_pass_21 (by decide) (by decide) (Nat.le_of_ble_eq_true rfl) (Nat.le_of_ble_eq_true rfl) hlocks hR.symm rfl
  · have hf := oe hf c1
    refine lv_iload_n hx hb dX6_pass_5 rfl (lv_at hl 1 rfl) ?_
    refine lv_sipush (v := 3600) hx hb dX6_pass_6 (by decide) ?_
    refine lv_icmp_le (tgt := 22) hx hb dX6_pass_9 (by decide) (fun c2 => ?_) (fun c2 => ?_)
    · have hf := oi hf c2
      refine lv_aload_n hx hb dX6_pass_22 rfl (lv_at hl 0 rfl) ?_
      obtain ⟨u3, hu3, hf⟩ := ob hf
      refine zk_vA (va_runV (As := []) (rest := []) ⟨hx, hb, hml, hown, hts⟩ (c_X6_save l g a v _ hu3 _) (zcV hw0 zm1_229 zm1_232 zm1_1 zm1_231 zs1_0 hd_X6_save rfl rfl ⟨Nat.le_of_ble_eq_true rfl, Nat.le_of_ble_eq_true rfl⟩) ⟨zblind, zrecvA hK hP (ci := 6) rfl rfl, zpreA hK hP hD⟩ rfl rfl hl.1 rfl (lv_room (Nat.le_of_ble_eq_true rfl)) dX6_pass_23 ⟨Nat.zero_le _, Nat.zero_le _⟩) hP hD hS hA (fun H locs hP hD hS => ?_)
      have hP : va_P g.1 vwCl (zX6 g a u3) H := hP
      have hD : va_D A (zX6 g a u3) := hD
      refine lv_aload_n hx hb dX6_pass_26 rfl (lv_at hl 0 rfl) ?_
      refine va_get (D := g.1) (ci := 6) (v := .ref (a 1)) (C := RX6) (T := TX6) (N := 5) hx hb hw0 ziX6 hown hK.1 hP 0 rfl rfl 0 (by decide) (hw0 _ zm1_209) (fun _ h9 => h9) rfl dX6_pass_27 ?_
      refine va_getN (D := g.1) (ci := 2) (v := .int u3.1.2.2.2.1) (C := RX2) (T := TX2) (N := 11) hx hb hw0 ziX2 hown hK.1 hP 1 rfl rfl 3 (by decide) (va_Nw.use rfl (zf_26 hK)) (fun _ h9 => h9) rfl dX6_pass_30 ?_
      refine lv_istore_n (lv' := [(2, .int u3.1.2.2.2.1), (0, .ref (a 0)), (1, .int p0)]) hx hb dX6_pass_33 rfl hl (by decide) rfl (fun ls hl => ?_)
      refine lv_aload_n hx hb dX6_pass_34 rfl (lv_at hl 1 rfl) ?_
      refine va_get (D := g.1) (ci := 6) (v := .ref (a 1)) (C := RX6) (T := TX6) (N := 5) hx hb hw0 ziX6 hown hK.1 hP 0 rfl rfl 0 (by decide) (hw0 _ zm1_209) (fun _ h9 => h9) rfl dX6_pass_35 ?_
      refine lv_iload_n hx hb dX6_pass_38 rfl (lv_at hl 0 rfl) ?_
      refine lv_iload_n hx hb dX6_pass_39 rfl (lv_at hl 2 rfl) ?_
      refine lv_iadd hx hb dX6_pass_40 ?_
      obtain ⟨u4, hu4, hf⟩ := ob hf
      refine zk_vZ (va_runVN (As := [.int (u3.1.2.2.2.1 + p0)]) (rest := []) ⟨hx, hb, hml, hown, hts⟩ (c_X2_runTo l g (fun k => a (k + 1)) u3.1 (u3.1.2.2.2.1 + p0) _ hu4 _) (zcN hw0 (zn_10 hK) zm2_22 zm1_2 zm2_21 zs1_6 hd_X2_runTo rfl rfl ⟨Nat.le_of_ble_eq_true rfl, Nat.le_of_ble_eq_true rfl⟩) ⟨zblind, zrecv (wc := zX2 g (fun k => a (k + 1)) u3.1) hK hP [1, 2, 3, 4, 5, 6, 7, 8, 9, 10, 11, 12, 13, 14, 15, 16, 17, 18] rfl (ci := 2) rfl rfl, zpre hK hP hD [1, 2, 3, 4, 5, 6, 7, 8, 9, 10, 11, 12, 13, 14, 15, 16, 17, 18] rfl rfl⟩ rfl rfl hl.1 rfl (lv_room (Nat.le_of_ble_eq_true rfl)) dX6_pass_41 ⟨Nat.zero_le _, Nat.zero_le _⟩) hP hD hS hA [1, 2, 3, 4, 5, 6, 7, 8, 9, 10, 11, 12, 13, 14, 15, 16, 17, 18] rfl rfl (zrun (wc := zX2 g (fun k => a (k + 1)) u3.1) (ws' := zX6 g a (u4, u3.2.1, u3.2.2.1, u3.2.2.2.1, u3.2.2.2.2)) 1 18 rfl rfl rfl rfl rfl) (fun H locs hP hD hS => ?_)
      have hP : va_P g.1 vwCl (zX6 g a (u4, u3.2.1, u3.2.2.1, u3.2.2.2.1, u3.2.2.2.2)) H := hP
      have hD : va_D A (zX6 g a (u4, u3.2.1, u3.2.2.1, u3.2.2.2.1, u3.2.2.2.2)) := hD
      refine lv_aload_n hx hb dX6_pass_44 rfl (lv_at hl 1 rfl) ?_
      refine va_get (D := g.1) (ci := 6) (v := .ref (a 1)) (C := RX6) (T := TX6) (N := 5) hx hb hw0 ziX6 hown hK.1 hP 0 rfl rfl 0 (by decide) (hw0 _ zm1_209) (fun _ h9 => h9) rfl dX6_pass_45 ?_
      refine va_getN (D := g.1) (ci := 2) (v := .int u4.2.2.2.1) (C := RX2) (T := TX2) (N := 11) hx hb hw0 ziX2 hown hK.1 hP 1 rfl rfl 3 (by decide) (va_Nw.use rfl (zf_26 hK)) (fun _ h9 => h9) rfl dX6_pass_48 ?_
      refine lv_iload_n hx hb dX6_pass_51 rfl (lv_at hl 0 rfl) ?_
      refine lv_isub hx hb dX6_pass_52 ?_
      have hR : (Sum.inr ((u4.2.2.2.1 - u3.1.2.2.2.1), (u4, u3.2.1, u3.2.2.1, u3.2.2.2.1, u3.2.2.2.2)) : Nat ⊕ (Int32 × CV)) = r := Option.some.inj hf
      subst hR
      refine W.widen (k := 1) (n := 6) (Nat.zero_le _) (Nat.zero_le _) ?_
      exact vx_ret (W.iret (v := (u4.2.2.2.1 - u3.1.2.2.2.1)) hx hb hr0 (fun t ht hW => ⟨⟨(u4.2.2.2.1 - u3.1.2.2.2.1), (), rfl, ⟨_, rfl, rfl⟩, _, rfl, by rw [ht]; exact hP, hD⟩, hS.F ht⟩) hS.2.2 dX6_pass_53)
    · have hf := oe hf c2
      have hR : (Sum.inl 1 : Nat ⊕ (Int32 × CV)) = r := Option.some.inj hf
      exact zthrow (ik := 34) (is := 118) (ic := 38) (text := "seconds") (k := 1) hx hb hst9 hown (hw0 _ zm3_58) (hw0 _ zm1_12) (hKx.2 ("HourClock", 118, "seconds") (by decide +kernel)) hKx.1 hw0 zx_w1 zx_b1 zx_o1 hZs (by decide +kernel) (by decide +kernel) hP hD hS (hl.1.trans hml.symm) htab dX6_pass_12 dX6_pass_15 dX6_pass_16 dX6_pass_18 dX6_pass_21 (by decide) (by decide) (Nat.le_of_ble_eq_true rfl) (Nat.le_of_ble_eq_true rfl) hlocks hR.symm rfl
theorem hd_X6_finish : yX6_finish.cls ≠ "java/lang/invoke/MethodHandle" ∧ yX6_finish.cls ≠ "java/lang/invoke/VarHandle" ∧ (parseMethodDescriptor yX6_finish.desc).map (fun d => d.parameters.length) = some 0 := by decide +kernel
def f_X6_finish (v : CV) : Option (Int32 × CV) :=
  (f_X6_save v).bind (fun u1 =>
  (f_X2_runTo u1.1 1000000).bind (fun u2 =>
  some ((u2.2.2.2.1 - 3600), (u2, u1.2.1, u1.2.2.1, u1.2.2.2.1, u1.2.2.2.2))))
set_option maxHeartbeats 4000000 in
set_option maxRecDepth 100000 in
theorem c_X6_finish (l : Launch) (g : zG) (a : Nat → Nat) (v : CV) (r : Int32 × CV) (hf : f_X6_finish v = some r) : zMi zNF zNM l yX6_finish (zw yX6_finish cX6_finish 1 (some .int)) ({ frames := 6, cells := 0, slots := 0, locals := 140 } : Room) g [.ref (a 0)] (zX6 g a v) r.1 (zX6 g a r.2) := by
  intro sz
  refine Met.ofW (cc := cX6_finish) (maxL := 1) (ret := (some .int)) (by decide) rfl ?_
  intro p e s m args below meth c s₁ B hml hv
  obtain ⟨rfl, hsz, hP, hK, hD0⟩ := hv
  have hx := B.exec
  have hb := B.bytes
  have hr0 := B.returns
  have hts := atoms_spec (ws := (zw yX6_finish cX6_finish 1 (some .int))) B.pre
  have hw0 : ∀ w ∈ zW, w.before ([.ref (a 0)] : List Value).toArray s = true := fun w h => hts w (List.mem_cons_of_mem _ h)
  have hown : s.vm.findClass RX6 = some m.cls := findClass_of_methodNamed B.named
  have hlocks := B.notSynchronized
  subst hsz
  have hD := hD0.self (sz := s.heap.size)
  generalize hAe : va_A (zX6 g a v) s.heap.size = A at hD ⊢
  have hA : ∀ q : Nat, s.heap.size ≤ q → A q := fun q h => by rw [← hAe]; exact Or.inr h
  have hS : va_S A s.heap s.heap [] := va_S.rf
  unfold f_X6_finish at hf
  have hl := lv_entry ([.ref (a 0)]) (n := 1) (Nat.le_of_ble_eq_true rfl)
  rw [lg_entry_eq]
  generalize (lg_sl ([.ref (a 0)]) ++ List.replicate (1 - (lg_sl ([.ref (a 0)])).length) Slot.unset).toArray = ls at hl ⊢
  have hl : lv_has ls 1 [(0, .ref (a 0))] := hl
  refine lv_aload_n hx hb dX6_finish_0 rfl (lv_at hl 0 rfl) ?_
  obtain ⟨u1, hu1, hf⟩ := ob hf
  refine zk_vA (va_runV (As := []) (rest := []) ⟨hx, hb, hml, hown, hts⟩ (c_X6_save l g a v _ hu1 _) (zcV hw0 zm1_229 zm1_232 zm1_1 zm1_231 zs1_0 hd_X6_save rfl rfl ⟨Nat.le_of_ble_eq_true rfl, Nat.le_of_ble_eq_true rfl⟩) ⟨zblind, zrecvA hK hP (ci := 6) rfl rfl, zpreA hK hP hD⟩ rfl rfl hl.1 rfl (lv_room (Nat.le_of_ble_eq_true rfl)) dX6_finish_1 ⟨Nat.zero_le _, Nat.zero_le _⟩) hP hD hS hA (fun H locs hP hD hS => ?_)
  have hP : va_P g.1 vwCl (zX6 g a u1) H := hP
  have hD : va_D A (zX6 g a u1) := hD
  refine lv_aload_n hx hb dX6_finish_4 rfl (lv_at hl 0 rfl) ?_
  refine va_get (D := g.1) (ci := 6) (v := .ref (a 1)) (C := RX6) (T := TX6) (N := 5) hx hb hw0 ziX6 hown hK.1 hP 0 rfl rfl 0 (by decide) (hw0 _ zm1_209) (fun _ h9 => h9) rfl dX6_finish_5 ?_
  refine lv_ldc (v := 1000000) hx hb hown (hw0 _ zm2_18) dX6_finish_8 ?_
  obtain ⟨u2, hu2, hf⟩ := ob hf
  refine zk_vZ (va_runVN (As := [.int 1000000]) (rest := []) ⟨hx, hb, hml, hown, hts⟩ (c_X2_runTo l g (fun k => a (k + 1)) u1.1 1000000 _ hu2 _) (zcN hw0 (zn_10 hK) zm2_22 zm1_2 zm2_21 zs1_6 hd_X2_runTo rfl rfl ⟨Nat.le_of_ble_eq_true rfl, Nat.le_of_ble_eq_true rfl⟩) ⟨zblind, zrecv (wc := zX2 g (fun k => a (k + 1)) u1.1) hK hP [1, 2, 3, 4, 5, 6, 7, 8, 9, 10, 11, 12, 13, 14, 15, 16, 17, 18] rfl (ci := 2) rfl rfl, zpre hK hP hD [1, 2, 3, 4, 5, 6, 7, 8, 9, 10, 11, 12, 13, 14, 15, 16, 17, 18] rfl rfl⟩ rfl rfl hl.1 rfl (lv_room (Nat.le_of_ble_eq_true rfl)) dX6_finish_10 ⟨Nat.zero_le _, Nat.zero_le _⟩) hP hD hS hA [1, 2, 3, 4, 5, 6, 7, 8, 9, 10, 11, 12, 13, 14, 15, 16, 17, 18] rfl rfl (zrun (wc := zX2 g (fun k => a (k + 1)) u1.1) (ws' := zX6 g a (u2, u1.2.1, u1.2.2.1, u1.2.2.2.1, u1.2.2.2.2)) 1 18 rfl rfl rfl rfl rfl) (fun H locs hP hD hS => ?_)
  have hP : va_P g.1 vwCl (zX6 g a (u2, u1.2.1, u1.2.2.1, u1.2.2.2.1, u1.2.2.2.2)) H := hP
  have hD : va_D A (zX6 g a (u2, u1.2.1, u1.2.2.1, u1.2.2.2.1, u1.2.2.2.2)) := hD
  refine lv_aload_n hx hb dX6_finish_13 rfl (lv_at hl 0 rfl) ?_
  refine va_get (D := g.1) (ci := 6) (v := .ref (a 1)) (C := RX6) (T := TX6) (N := 5) hx hb hw0 ziX6 hown hK.1 hP 0 rfl rfl 0 (by decide) (hw0 _ zm1_209) (fun _ h9 => h9) rfl dX6_finish_14 ?_
  refine va_getN (D := g.1) (ci := 2) (v := .int u2.2.2.2.1) (C := RX2) (T := TX2) (N := 11) hx hb hw0 ziX2 hown hK.1 hP 1 rfl rfl 3 (by decide) (va_Nw.use rfl (zf_26 hK)) (fun _ h9 => h9) rfl dX6_finish_17 ?_
  refine lv_sipush (v := 3600) hx hb dX6_finish_20 (by decide) ?_
  refine lv_isub hx hb dX6_finish_23 ?_
  have hR : ((u2.2.2.2.1 - 3600), (u2, u1.2.1, u1.2.2.1, u1.2.2.2.1, u1.2.2.2.2)) = r := Option.some.inj hf
  subst hR
  exact W.iret (v := (u2.2.2.2.1 - 3600)) hx hb hr0 (fun t ht hW => ⟨⟨(u2.2.2.2.1 - 3600), (), rfl, rfl, by rw [ht]; exact hP, hD⟩, hS.F ht⟩) hS.2.2 dX6_finish_24
theorem hd_X6_again : yX6_again.cls ≠ "java/lang/invoke/MethodHandle" ∧ yX6_again.cls ≠ "java/lang/invoke/VarHandle" ∧ (parseMethodDescriptor yX6_again.desc).map (fun d => d.parameters.length) = some 0 := by decide +kernel
def f_X6_again (v : CV) : Option (Nat ⊕ (Int32 × CV)) :=
  if (zb v.1.2.2.2.2.1) = 0 then
    some (.inl 2)
  else
    (f_X6_save v).bind (fun u2 =>
    (f_X2_beginAnew u2.1).bind (fun u3 =>
    some (.inr ((u3.2.2.2.2.2.2.2.1 + 1), ((u3.1, u3.2.1, u3.2.2.1, u3.2.2.2.1, u3.2.2.2.2.1, u3.2.2.2.2.2.1, u3.2.2.2.2.2.2.1, (u3.2.2.2.2.2.2.2.1 + 1), u3.2.2.2.2.2.2.2.2.1, u3.2.2.2.2.2.2.2.2.2.1, u3.2.2.2.2.2.2.2.2.2.2), u2.2.1, u2.2.2.1, u2.2.2.2.1, u2.2.2.2.2)))))
set_option maxHeartbeats 4000000 in
set_option maxRecDepth 100000 in
theorem c_X6_again (l : Launch) (hst9 : l.stackTraces = false) (g : zG) (a : Nat → Nat) (v : CV) (r : Nat ⊕ (Int32 × CV)) (hf : f_X6_again v = some r) : zMx zNF zNM l yX6_again (zw yX6_again cX6_again 1 (some .int)) ({ frames := 6, cells := 1, slots := 6, locals := 102 } : Room) g [.ref (a 0)] (zX6 g a v) r (fun q => q.1) (fun q => (zX6 g a q.2)) := by
  intro sz
  refine vx_ofW (cc := cX6_again) (maxL := 1) (ret := (some .int)) (by decide) rfl ?_
  intro p e s m args below meth c s₁ B hml htab hv
  obtain ⟨rfl, ⟨hsz, hP, hK, hD0⟩, hKx, hZs⟩ := hv
  have hx := B.exec
  have hb := B.bytes
  have hr0 := B.returns
  have hts := atoms_spec (ws := (zw yX6_again cX6_again 1 (some .int))) B.pre
  have hw0 : ∀ w ∈ zW, w.before ([.ref (a 0)] : List Value).toArray s = true := fun w h => hts w (List.mem_cons_of_mem _ h)
  have hown : s.vm.findClass RX6 = some m.cls := findClass_of_methodNamed B.named
  have hlocks := B.notSynchronized
  subst hsz
  have hD := hD0.self (sz := s.heap.size)
  generalize hAe : va_A (zX6 g a v) s.heap.size = A at hD hZs ⊢
  have hA : ∀ q : Nat, s.heap.size ≤ q → A q := fun q h => by rw [← hAe]; exact Or.inr h
  have hS : va_S A s.heap s.heap [] := va_S.rf
  unfold f_X6_again at hf
  have hl := lv_entry ([.ref (a 0)]) (n := 1) (Nat.le_of_ble_eq_true rfl)
  rw [lg_entry_eq]
  generalize (lg_sl ([.ref (a 0)]) ++ List.replicate (1 - (lg_sl ([.ref (a 0)])).length) Slot.unset).toArray = ls at hl ⊢
  have hl : lv_has ls 1 [(0, .ref (a 0))] := hl
  refine lv_aload_n hx hb dX6_again_0 rfl (lv_at hl 0 rfl) ?_
  refine va_get (D := g.1) (ci := 6) (v := .ref (a 1)) (C := RX6) (T := TX6) (N := 5) hx hb hw0 ziX6 hown hK.1 hP 0 rfl rfl 0 (by decide) (hw0 _ zm1_209) (fun _ h9 => h9) rfl dX6_again_1 ?_
  refine va_getN (D := g.1) (ci := 2) (v := .int (zb v.1.2.2.2.2.1)) (C := RX2) (T := TX2) (N := 11) hx hb hw0 ziX2 hown hK.1 hP 1 rfl rfl 4 (by decide) (va_Nw.use rfl (zf_27 hK)) (fun _ h9 => h9) rfl dX6_again_4 ?_
  refine lv_if_ne (tgt := 20) hx hb dX6_again_7 (by decide) (fun c1 => ?_) (fun c1 => ?_)
  · have hf := oe hf c1
    refine lv_aload_n hx hb dX6_again_20 rfl (lv_at hl 0 rfl) ?_
    obtain ⟨u2, hu2, hf⟩ := ob hf
    refine zk_vA (va_runV (As := []) (rest := []) ⟨hx, hb, hml, hown, hts⟩ (c_X6_save l g a v _ hu2 _) (zcV hw0 zm1_229 zm1_232 zm1_1 zm1_231 zs1_0 hd_X6_save rfl rfl ⟨Nat.le_of_ble_eq_true rfl, Nat.le_of_ble_eq_true rfl⟩) ⟨zblind, zrecvA hK hP (ci := 6) rfl rfl, zpreA hK hP hD⟩ rfl rfl hl.1 rfl (lv_room (Nat.le_of_ble_eq_true rfl)) dX6_again_21 ⟨Nat.zero_le _, Nat.zero_le _⟩) hP hD hS hA (fun H locs hP hD hS => ?_)
    have hP : va_P g.1 vwCl (zX6 g a u2) H := hP
    have hD : va_D A (zX6 g a u2) := hD
    refine lv_aload_n hx hb dX6_again_24 rfl (lv_at hl 0 rfl) ?_
    refine va_get (D := g.1) (ci := 6) (v := .ref (a 1)) (C := RX6) (T := TX6) (N := 5) hx hb hw0 ziX6 hown hK.1 hP 0 rfl rfl 0 (by decide) (hw0 _ zm1_209) (fun _ h9 => h9) rfl dX6_again_25 ?_
    obtain ⟨u3, hu3, hf⟩ := ob hf
    refine zk_vZ (va_runVN (As := []) (rest := []) ⟨hx, hb, hml, hown, hts⟩ (c_X2_beginAnew l g (fun k => a (k + 1)) u2.1 _ hu3 _) (zcN hw0 (zn_49 hK) zm2_190 zm1_2 zm2_189 zs3_5 hd_X2_beginAnew rfl rfl ⟨Nat.le_of_ble_eq_true rfl, Nat.le_of_ble_eq_true rfl⟩) ⟨zblind, zrecv (wc := zX2 g (fun k => a (k + 1)) u2.1) hK hP [1, 2, 3, 4, 5, 6, 7, 8, 9, 10, 11, 12, 13, 14, 15, 16, 17, 18] rfl (ci := 2) rfl rfl, zpre hK hP hD [1, 2, 3, 4, 5, 6, 7, 8, 9, 10, 11, 12, 13, 14, 15, 16, 17, 18] rfl rfl⟩ rfl rfl hl.1 rfl (lv_room (Nat.le_of_ble_eq_true rfl)) dX6_again_28 ⟨Nat.zero_le _, Nat.zero_le _⟩) hP hD hS hA [1, 2, 3, 4, 5, 6, 7, 8, 9, 10, 11, 12, 13, 14, 15, 16, 17, 18] rfl rfl (zrun (wc := zX2 g (fun k => a (k + 1)) u2.1) (ws' := zX6 g a (u3, u2.2.1, u2.2.2.1, u2.2.2.2.1, u2.2.2.2.2)) 1 18 rfl rfl rfl rfl rfl) (fun H locs hP hD hS => ?_)
    have hP : va_P g.1 vwCl (zX6 g a (u3, u2.2.1, u2.2.2.1, u2.2.2.2.1, u2.2.2.2.2)) H := hP
    have hD : va_D A (zX6 g a (u3, u2.2.1, u2.2.2.1, u2.2.2.2.1, u2.2.2.2.2)) := hD
    refine lv_aload_n hx hb dX6_again_31 rfl (lv_at hl 0 rfl) ?_
    refine va_get (D := g.1) (ci := 6) (v := .ref (a 1)) (C := RX6) (T := TX6) (N := 5) hx hb hw0 ziX6 hown hK.1 hP 0 rfl rfl 0 (by decide) (hw0 _ zm1_209) (fun _ h9 => h9) rfl dX6_again_32 ?_
    refine lv_dup hx hb dX6_again_35 rfl ?_
    refine va_getN (D := g.1) (ci := 2) (v := .int u3.2.2.2.2.2.2.2.1) (C := RX2) (T := TX2) (N := 11) hx hb hw0 ziX2 hown hK.1 hP 1 rfl rfl 7 (by decide) (va_Nw.use rfl (zf_29 hK)) (fun _ h9 => h9) rfl dX6_again_36 ?_
    refine lv_iconst (v := 1) hx hb dX6_again_39 (by decide) ?_
    refine lv_iadd hx hb dX6_again_40 ?_
    refine va_putN (D := g.1) (ci := 2) (v := .int (u3.2.2.2.2.2.2.2.1 + 1)) (ty := .int) (C := RX2) (T := TX2) (N := 11) hx hb hw0 ziX2 tyX2 tyX2_ok nmX2 hown hK.1 hP hD hS 1 rfl rfl 7 (by decide) (va_Nw.use rfl (zf_29 hK)) (fun _ h9 => h9) rfl (tyX2_ok 7 (by decide)) rfl rfl (Nat.le_of_ble_eq_true rfl) dX6_again_41 (fun H locs hP hD hS => ?_)
    have hP : va_P g.1 vwCl (zX6 g a ((u3.1, u3.2.1, u3.2.2.1, u3.2.2.2.1, u3.2.2.2.2.1, u3.2.2.2.2.2.1, u3.2.2.2.2.2.2.1, (u3.2.2.2.2.2.2.2.1 + 1), u3.2.2.2.2.2.2.2.2.1, u3.2.2.2.2.2.2.2.2.2.1, u3.2.2.2.2.2.2.2.2.2.2), u2.2.1, u2.2.2.1, u2.2.2.2.1, u2.2.2.2.2)) H := hP
    have hD : va_D A (zX6 g a ((u3.1, u3.2.1, u3.2.2.1, u3.2.2.2.1, u3.2.2.2.2.1, u3.2.2.2.2.2.1, u3.2.2.2.2.2.2.1, (u3.2.2.2.2.2.2.2.1 + 1), u3.2.2.2.2.2.2.2.2.1, u3.2.2.2.2.2.2.2.2.2.1, u3.2.2.2.2.2.2.2.2.2.2), u2.2.1, u2.2.2.1, u2.2.2.2.1, u2.2.2.2.2)) := hD
    refine lv_aload_n hx hb dX6_again_44 rfl (lv_at hl 0 rfl) ?_
    refine va_get (D := g.1) (ci := 6) (v := .ref (a 1)) (C := RX6) (T := TX6) (N := 5) hx hb hw0 ziX6 hown hK.1 hP 0 rfl rfl 0 (by decide) (hw0 _ zm1_209) (fun _ h9 => h9) rfl dX6_again_45 ?_
    refine va_getN (D := g.1) (ci := 2) (v := .int (u3.2.2.2.2.2.2.2.1 + 1)) (C := RX2) (T := TX2) (N := 11) hx hb hw0 ziX2 hown hK.1 hP 1 rfl rfl 7 (by decide) (va_Nw.use rfl (zf_29 hK)) (fun _ h9 => h9) rfl dX6_again_48 ?_
    have hR : (Sum.inr ((u3.2.2.2.2.2.2.2.1 + 1), ((u3.1, u3.2.1, u3.2.2.1, u3.2.2.2.1, u3.2.2.2.2.1, u3.2.2.2.2.2.1, u3.2.2.2.2.2.2.1, (u3.2.2.2.2.2.2.2.1 + 1), u3.2.2.2.2.2.2.2.2.1, u3.2.2.2.2.2.2.2.2.2.1, u3.2.2.2.2.2.2.2.2.2.2), u2.2.1, u2.2.2.1, u2.2.2.2.1, u2.2.2.2.2)) : Nat ⊕ (Int32 × CV)) = r := Option.some.inj hf
    subst hR
    refine W.widen (k := 1) (n := 6) (Nat.zero_le _) (Nat.zero_le _) ?_
    exact vx_ret (W.iret (v := (u3.2.2.2.2.2.2.2.1 + 1)) hx hb hr0 (fun t ht hW => ⟨⟨(u3.2.2.2.2.2.2.2.1 + 1), (), rfl, ⟨_, rfl, rfl⟩, _, rfl, by rw [ht]; exact hP, hD⟩, hS.F ht⟩) hS.2.2 dX6_again_51)
  · have hf := oi hf c1
    have hR : (Sum.inl 2 : Nat ⊕ (Int32 × CV)) = r := Option.some.inj hf
    exact zthrow (ik := 58) (is := 127) (ic := 62) (text := "the hour is not over") (k := 2) hx hb hst9 hown (hw0 _ zm3_128) (hw0 _ zm1_13) (hKx.2 ("HourClock", 127, "the hour is not over") (by decide +kernel)) hKx.1 hw0 zx_w2 zx_b2 zx_o2 hZs (by decide +kernel) (by decide +kernel) hP hD hS (hl.1.trans hml.symm) htab dX6_again_10 dX6_again_13 dX6_again_14 dX6_again_16 dX6_again_19 (by decide) (by decide) (Nat.le_of_ble_eq_true rfl) (Nat.le_of_ble_eq_true rfl) hlocks hR.symm rfl
theorem hd_X6_element : yX6_element.cls ≠ "java/lang/invoke/MethodHandle" ∧ yX6_element.cls ≠ "java/lang/invoke/VarHandle" ∧ (parseMethodDescriptor yX6_element.desc).map (fun d => d.parameters.length) = some 2 := by decide +kernel
def f_X6_element (v : CV) (p0 : Int32) (p1 : Int32) : Option (Nat ⊕ (Int32)) :=
  (f_X0_has v.1.1 p0).bind (fun u1 =>
  if (zb u1) = 0 then
    some (.inl 3)
  else
    if p1 < 0 then
      some (.inl 1)
    else
      if p1 ≤ 6 then
        (f_X0_tell v.1.1 p0 p1).bind (fun u5 =>
        some (.inr u5))
      else
        some (.inl 1))
set_option maxHeartbeats 4000000 in
set_option maxRecDepth 100000 in
theorem c_X6_element (l : Launch) (hst9 : l.stackTraces = false) (g : zG) (a : Nat → Nat) (v : CV) (p0 : Int32) (p1 : Int32) (r : Nat ⊕ (Int32)) (hf : f_X6_element v p0 p1 = some r) : zMx zNF zNM l yX6_element (zw yX6_element cX6_element 3 (some .int)) ({ frames := 6, cells := 1, slots := 6, locals := 107 } : Room) g [.ref (a 0), .int p0, .int p1] (zX6 g a v) r (fun q => q) (fun q => (zX6 g a v)) := by
  intro sz
  refine vx_ofW (cc := cX6_element) (maxL := 3) (ret := (some .int)) (by decide) rfl ?_
  intro p e s m args below meth c s₁ B hml htab hv
  obtain ⟨rfl, ⟨hsz, hP, hK, hD0⟩, hKx, hZs⟩ := hv
  have hx := B.exec
  have hb := B.bytes
  have hr0 := B.returns
  have hts := atoms_spec (ws := (zw yX6_element cX6_element 3 (some .int))) B.pre
  have hw0 : ∀ w ∈ zW, w.before ([.ref (a 0), .int p0, .int p1] : List Value).toArray s = true := fun w h => hts w (List.mem_cons_of_mem _ h)
  have hown : s.vm.findClass RX6 = some m.cls := findClass_of_methodNamed B.named
  have hlocks := B.notSynchronized
  subst hsz
  have hD := hD0.self (sz := s.heap.size)
  generalize hAe : va_A (zX6 g a v) s.heap.size = A at hD hZs ⊢
  have hA : ∀ q : Nat, s.heap.size ≤ q → A q := fun q h => by rw [← hAe]; exact Or.inr h
  have hS : va_S A s.heap s.heap [] := va_S.rf
  unfold f_X6_element at hf
  have hl := lv_entry ([.ref (a 0), .int p0, .int p1]) (n := 3) (Nat.le_of_ble_eq_true rfl)
  rw [lg_entry_eq]
  generalize (lg_sl ([.ref (a 0), .int p0, .int p1]) ++ List.replicate (3 - (lg_sl ([.ref (a 0), .int p0, .int p1])).length) Slot.unset).toArray = ls at hl ⊢
  have hl : lv_has ls 3 [(0, .ref (a 0)), (1, .int p0), (2, .int p1)] := hl
  refine lv_aload_n hx hb dX6_element_0 rfl (lv_at hl 0 rfl) ?_
  refine va_get (D := g.1) (ci := 6) (v := .ref (a 1)) (C := RX6) (T := TX6) (N := 5) hx hb hw0 ziX6 hown hK.1 hP 0 rfl rfl 0 (by decide) (hw0 _ zm1_209) (fun _ h9 => h9) rfl dX6_element_1 ?_
  refine va_getN (D := g.1) (ci := 2) (v := .ref (a 2)) (C := RX2) (T := TX2) (N := 11) hx hb hw0 ziX2 hown hK.1 hP 1 rfl rfl 0 (by decide) (va_Nw.use rfl (zf_21 hK)) (fun _ h9 => h9) rfl dX6_element_4 ?_
  refine lv_iload_n hx hb dX6_element_7 rfl (lv_at hl 1 rfl) ?_
  obtain ⟨u1, hu1, hf⟩ := ob hf
  refine zk_iR (va_runVN (As := [.int p0]) (rest := []) ⟨hx, hb, hml, hown, hts⟩ (c_X0_has l g (fun k => a (k + 2)) v.1.1 p0 _ hu1 _) (zcN hw0 (zn_23 hK) zm2_58 zm1_3 zm2_57 zs1_15 hd_X0_has rfl rfl ⟨Nat.le_of_ble_eq_true rfl, Nat.le_of_ble_eq_true rfl⟩) ⟨zblind, zrecv (wc := zX0 g (fun k => a (k + 2)) v.1.1) hK hP [2, 3, 4, 5, 6, 7] rfl (ci := 0) rfl rfl, zpre hK hP hD [2, 3, 4, 5, 6, 7] rfl rfl⟩ rfl rfl hl.1 rfl (lv_room (Nat.le_of_ble_eq_true rfl)) dX6_element_8 ⟨Nat.zero_le _, Nat.zero_le _⟩) hP hD hS hA [2, 3, 4, 5, 6, 7] rfl (fun H locs hP hD hS => ?_)
  refine lv_if_ne (tgt := 24) hx hb dX6_element_11 (by decide) (fun c2 => ?_) (fun c2 => ?_)
  · have hf := oe hf c2
    refine lv_iload_n hx hb dX6_element_24 rfl (lv_at hl 2 rfl) ?_
    refine lv_if_lt (tgt := 34) hx hb dX6_element_25 (by decide) (fun c3 => ?_) (fun c3 => ?_)
    · have hf := oi hf c3
      have hR : (Sum.inl 1 : Nat ⊕ (Int32)) = r := Option.some.inj hf
      exact zthrow (ik := 34) (is := 135) (ic := 38) (text := "what") (k := 1) hx hb hst9 hown (hw0 _ zm3_58) (hw0 _ zm1_12) (hKx.2 ("HourClock", 135, "what") (by decide +kernel)) hKx.1 hw0 zx_w1 zx_b1 zx_o1 hZs (by decide +kernel) (by decide +kernel) hP hD hS (hl.1.trans hml.symm) htab dX6_element_34 dX6_element_37 dX6_element_38 dX6_element_40 dX6_element_43 (by decide) (by decide) (Nat.le_of_ble_eq_true rfl) (Nat.le_of_ble_eq_true rfl) hlocks hR.symm rfl
    · have hf := oe hf c3
      refine lv_iload_n hx hb dX6_element_28 rfl (lv_at hl 2 rfl) ?_
      refine lv_bipush (v := 6) hx hb dX6_element_29 (by decide) ?_
      refine lv_icmp_le (tgt := 44) hx hb dX6_element_31 (by decide) (fun c4 => ?_) (fun c4 => ?_)
      · have hf := oi hf c4
        refine lv_aload_n hx hb dX6_element_44 rfl (lv_at hl 0 rfl) ?_
        refine va_get (D := g.1) (ci := 6) (v := .ref (a 1)) (C := RX6) (T := TX6) (N := 5) hx hb hw0 ziX6 hown hK.1 hP 0 rfl rfl 0 (by decide) (hw0 _ zm1_209) (fun _ h9 => h9) rfl dX6_element_45 ?_
        refine va_getN (D := g.1) (ci := 2) (v := .ref (a 2)) (C := RX2) (T := TX2) (N := 11) hx hb hw0 ziX2 hown hK.1 hP 1 rfl rfl 0 (by decide) (va_Nw.use rfl (zf_21 hK)) (fun _ h9 => h9) rfl dX6_element_48 ?_
        refine lv_iload_n hx hb dX6_element_51 rfl (lv_at hl 1 rfl) ?_
        refine lv_iload_n hx hb dX6_element_52 rfl (lv_at hl 2 rfl) ?_
        obtain ⟨u5, hu5, hf⟩ := ob hf
        refine zk_iR (va_runVN (As := [.int p0, .int p1]) (rest := []) ⟨hx, hb, hml, hown, hts⟩ (c_X0_tell l g (fun k => a (k + 2)) v.1.1 p0 p1 _ hu5 _) (zcN hw0 (zn_37 hK) zm3_21 zm1_3 zm3_20 zs4_5 hd_X0_tell rfl rfl ⟨Nat.le_of_ble_eq_true rfl, Nat.le_of_ble_eq_true rfl⟩) ⟨zblind, zrecv (wc := zX0 g (fun k => a (k + 2)) v.1.1) hK hP [2, 3, 4, 5, 6, 7] rfl (ci := 0) rfl rfl, zpre hK hP hD [2, 3, 4, 5, 6, 7] rfl rfl⟩ rfl rfl hl.1 rfl (lv_room (Nat.le_of_ble_eq_true rfl)) dX6_element_53 ⟨Nat.zero_le _, Nat.zero_le _⟩) hP hD hS hA [2, 3, 4, 5, 6, 7] rfl (fun H locs hP hD hS => ?_)
        have hR : (Sum.inr u5 : Nat ⊕ (Int32)) = r := Option.some.inj hf
        subst hR
        refine W.widen (k := 1) (n := 6) (Nat.zero_le _) (Nat.zero_le _) ?_
        exact vx_ret (W.iret (v := u5) hx hb hr0 (fun t ht hW => ⟨⟨u5, (), rfl, ⟨_, rfl, rfl⟩, _, rfl, by rw [ht]; exact hP, hD⟩, hS.F ht⟩) hS.2.2 dX6_element_56)
      · have hf := oe hf c4
        have hR : (Sum.inl 1 : Nat ⊕ (Int32)) = r := Option.some.inj hf
        exact zthrow (ik := 34) (is := 135) (ic := 38) (text := "what") (k := 1) hx hb hst9 hown (hw0 _ zm3_58) (hw0 _ zm1_12) (hKx.2 ("HourClock", 135, "what") (by decide +kernel)) hKx.1 hw0 zx_w1 zx_b1 zx_o1 hZs (by decide +kernel) (by decide +kernel) hP hD hS (hl.1.trans hml.symm) htab dX6_element_34 dX6_element_37 dX6_element_38 dX6_element_40 dX6_element_43 (by decide) (by decide) (Nat.le_of_ble_eq_true rfl) (Nat.le_of_ble_eq_true rfl) hlocks hR.symm rfl
  · have hf := oi hf c2
    have hR : (Sum.inl 3 : Nat ⊕ (Int32)) = r := Option.some.inj hf
    exact zthrow (ik := 86) (is := 88) (ic := 90) (text := "element") (k := 3) hx hb hst9 hown (hw0 _ zm3_162) (hw0 _ zm1_15) (hKx.2 ("HourClock", 88, "element") (by decide +kernel)) hKx.1 hw0 zx_w3 zx_b3 zx_o3 hZs (by decide +kernel) (by decide +kernel) hP hD hS (hl.1.trans hml.symm) htab dX6_element_14 dX6_element_17 dX6_element_18 dX6_element_20 dX6_element_23 (by decide) (by decide) (Nat.le_of_ble_eq_true rfl) (Nat.le_of_ble_eq_true rfl) hlocks hR.symm rfl
theorem hd_X6_filler : yX6_filler.cls ≠ "java/lang/invoke/MethodHandle" ∧ yX6_filler.cls ≠ "java/lang/invoke/VarHandle" ∧ (parseMethodDescriptor yX6_filler.desc).map (fun d => d.parameters.length) = some 2 := by decide +kernel
def f_X6_filler (v : CV) (p0 : Int32) (p1 : Int32) : Option (Nat ⊕ (Int32)) :=
  (f_X1_has v.1.2.1 p0).bind (fun u1 =>
  if (zb u1) = 0 then
    some (.inl 3)
  else
    if p1 < 0 then
      some (.inl 1)
    else
      if p1 ≤ 2 then
        (f_X1_tell v.1.2.1 p0 p1).bind (fun u5 =>
        some (.inr u5))
      else
        some (.inl 1))
set_option maxHeartbeats 4000000 in
set_option maxRecDepth 100000 in
theorem c_X6_filler (l : Launch) (hst9 : l.stackTraces = false) (g : zG) (a : Nat → Nat) (v : CV) (p0 : Int32) (p1 : Int32) (r : Nat ⊕ (Int32)) (hf : f_X6_filler v p0 p1 = some r) : zMx zNF zNM l yX6_filler (zw yX6_filler cX6_filler 3 (some .int)) ({ frames := 6, cells := 1, slots := 6, locals := 100 } : Room) g [.ref (a 0), .int p0, .int p1] (zX6 g a v) r (fun q => q) (fun q => (zX6 g a v)) := by
  intro sz
  refine vx_ofW (cc := cX6_filler) (maxL := 3) (ret := (some .int)) (by decide) rfl ?_
  intro p e s m args below meth c s₁ B hml htab hv
  obtain ⟨rfl, ⟨hsz, hP, hK, hD0⟩, hKx, hZs⟩ := hv
  have hx := B.exec
  have hb := B.bytes
  have hr0 := B.returns
  have hts := atoms_spec (ws := (zw yX6_filler cX6_filler 3 (some .int))) B.pre
  have hw0 : ∀ w ∈ zW, w.before ([.ref (a 0), .int p0, .int p1] : List Value).toArray s = true := fun w h => hts w (List.mem_cons_of_mem _ h)
  have hown : s.vm.findClass RX6 = some m.cls := findClass_of_methodNamed B.named
  have hlocks := B.notSynchronized
  subst hsz
  have hD := hD0.self (sz := s.heap.size)
  generalize hAe : va_A (zX6 g a v) s.heap.size = A at hD hZs ⊢
  have hA : ∀ q : Nat, s.heap.size ≤ q → A q := fun q h => by rw [← hAe]; exact Or.inr h
  have hS : va_S A s.heap s.heap [] := va_S.rf
  unfold f_X6_filler at hf
  have hl := lv_entry ([.ref (a 0), .int p0, .int p1]) (n := 3) (Nat.le_of_ble_eq_true rfl)
  rw [lg_entry_eq]
  generalize (lg_sl ([.ref (a 0), .int p0, .int p1]) ++ List.replicate (3 - (lg_sl ([.ref (a 0), .int p0, .int p1])).length) Slot.unset).toArray = ls at hl ⊢
  have hl : lv_has ls 3 [(0, .ref (a 0)), (1, .int p0), (2, .int p1)] := hl
  refine lv_aload_n hx hb dX6_filler_0 rfl (lv_at hl 0 rfl) ?_
  refine va_get (D := g.1) (ci := 6) (v := .ref (a 1)) (C := RX6) (T := TX6) (N := 5) hx hb hw0 ziX6 hown hK.1 hP 0 rfl rfl 0 (by decide) (hw0 _ zm1_209) (fun _ h9 => h9) rfl dX6_filler_1 ?_
  refine va_getN (D := g.1) (ci := 2) (v := .ref (a 8)) (C := RX2) (T := TX2) (N := 11) hx hb hw0 ziX2 hown hK.1 hP 1 rfl rfl 1 (by decide) (va_Nw.use rfl (zf_23 hK)) (fun _ h9 => h9) rfl dX6_filler_4 ?_
  refine lv_iload_n hx hb dX6_filler_7 rfl (lv_at hl 1 rfl) ?_
  obtain ⟨u1, hu1, hf⟩ := ob hf
  refine zk_iR (va_runVN (As := [.int p0]) (rest := []) ⟨hx, hb, hml, hown, hts⟩ (c_X1_has l g (fun k => a (k + 8)) v.1.2.1 p0 _ hu1 _) (zcN hw0 (zn_50 hK) zm2_100 zm1_4 zm2_99 zs2_8 hd_X1_has rfl rfl ⟨Nat.le_of_ble_eq_true rfl, Nat.le_of_ble_eq_true rfl⟩) ⟨zblind, zrecv (wc := zX1 g (fun k => a (k + 8)) v.1.2.1) hK hP [8, 9, 10, 11, 12, 13, 14] rfl (ci := 1) rfl rfl, zpre hK hP hD [8, 9, 10, 11, 12, 13, 14] rfl rfl⟩ rfl rfl hl.1 rfl (lv_room (Nat.le_of_ble_eq_true rfl)) dX6_filler_8 ⟨Nat.zero_le _, Nat.zero_le _⟩) hP hD hS hA [8, 9, 10, 11, 12, 13, 14] rfl (fun H locs hP hD hS => ?_)
  refine lv_if_ne (tgt := 24) hx hb dX6_filler_11 (by decide) (fun c2 => ?_) (fun c2 => ?_)
  · have hf := oe hf c2
    refine lv_iload_n hx hb dX6_filler_24 rfl (lv_at hl 2 rfl) ?_
    refine lv_if_lt (tgt := 33) hx hb dX6_filler_25 (by decide) (fun c3 => ?_) (fun c3 => ?_)
    · have hf := oi hf c3
      have hR : (Sum.inl 1 : Nat ⊕ (Int32)) = r := Option.some.inj hf
      exact zthrow (ik := 34) (is := 135) (ic := 38) (text := "what") (k := 1) hx hb hst9 hown (hw0 _ zm3_58) (hw0 _ zm1_12) (hKx.2 ("HourClock", 135, "what") (by decide +kernel)) hKx.1 hw0 zx_w1 zx_b1 zx_o1 hZs (by decide +kernel) (by decide +kernel) hP hD hS (hl.1.trans hml.symm) htab dX6_filler_33 dX6_filler_36 dX6_filler_37 dX6_filler_39 dX6_filler_42 (by decide) (by decide) (Nat.le_of_ble_eq_true rfl) (Nat.le_of_ble_eq_true rfl) hlocks hR.symm rfl
    · have hf := oe hf c3
      refine lv_iload_n hx hb dX6_filler_28 rfl (lv_at hl 2 rfl) ?_
      refine lv_iconst (v := 2) hx hb dX6_filler_29 (by decide) ?_
      refine lv_icmp_le (tgt := 43) hx hb dX6_filler_30 (by decide) (fun c4 => ?_) (fun c4 => ?_)
      · have hf := oi hf c4
        refine lv_aload_n hx hb dX6_filler_43 rfl (lv_at hl 0 rfl) ?_
        refine va_get (D := g.1) (ci := 6) (v := .ref (a 1)) (C := RX6) (T := TX6) (N := 5) hx hb hw0 ziX6 hown hK.1 hP 0 rfl rfl 0 (by decide) (hw0 _ zm1_209) (fun _ h9 => h9) rfl dX6_filler_44 ?_
        refine va_getN (D := g.1) (ci := 2) (v := .ref (a 8)) (C := RX2) (T := TX2) (N := 11) hx hb hw0 ziX2 hown hK.1 hP 1 rfl rfl 1 (by decide) (va_Nw.use rfl (zf_23 hK)) (fun _ h9 => h9) rfl dX6_filler_47 ?_
        refine lv_iload_n hx hb dX6_filler_50 rfl (lv_at hl 1 rfl) ?_
        refine lv_iload_n hx hb dX6_filler_51 rfl (lv_at hl 2 rfl) ?_
        obtain ⟨u5, hu5, hf⟩ := ob hf
        refine zk_iR (va_runVN (As := [.int p0, .int p1]) (rest := []) ⟨hx, hb, hml, hown, hts⟩ (c_X1_tell l g (fun k => a (k + 8)) v.1.2.1 p0 p1 _ hu5 _) (zcN hw0 (zn_40 hK) zm3_39 zm1_4 zm3_38 zs4_9 hd_X1_tell rfl rfl ⟨Nat.le_of_ble_eq_true rfl, Nat.le_of_ble_eq_true rfl⟩) ⟨zblind, zrecv (wc := zX1 g (fun k => a (k + 8)) v.1.2.1) hK hP [8, 9, 10, 11, 12, 13, 14] rfl (ci := 1) rfl rfl, zpre hK hP hD [8, 9, 10, 11, 12, 13, 14] rfl rfl⟩ rfl rfl hl.1 rfl (lv_room (Nat.le_of_ble_eq_true rfl)) dX6_filler_52 ⟨Nat.zero_le _, Nat.zero_le _⟩) hP hD hS hA [8, 9, 10, 11, 12, 13, 14] rfl (fun H locs hP hD hS => ?_)
        have hR : (Sum.inr u5 : Nat ⊕ (Int32)) = r := Option.some.inj hf
        subst hR
        refine W.widen (k := 1) (n := 6) (Nat.zero_le _) (Nat.zero_le _) ?_
        exact vx_ret (W.iret (v := u5) hx hb hr0 (fun t ht hW => ⟨⟨u5, (), rfl, ⟨_, rfl, rfl⟩, _, rfl, by rw [ht]; exact hP, hD⟩, hS.F ht⟩) hS.2.2 dX6_filler_55)
      · have hf := oe hf c4
        have hR : (Sum.inl 1 : Nat ⊕ (Int32)) = r := Option.some.inj hf
        exact zthrow (ik := 34) (is := 135) (ic := 38) (text := "what") (k := 1) hx hb hst9 hown (hw0 _ zm3_58) (hw0 _ zm1_12) (hKx.2 ("HourClock", 135, "what") (by decide +kernel)) hKx.1 hw0 zx_w1 zx_b1 zx_o1 hZs (by decide +kernel) (by decide +kernel) hP hD hS (hl.1.trans hml.symm) htab dX6_filler_33 dX6_filler_36 dX6_filler_37 dX6_filler_39 dX6_filler_42 (by decide) (by decide) (Nat.le_of_ble_eq_true rfl) (Nat.le_of_ble_eq_true rfl) hlocks hR.symm rfl
  · have hf := oi hf c2
    have hR : (Sum.inl 3 : Nat ⊕ (Int32)) = r := Option.some.inj hf
    exact zthrow (ik := 86) (is := 142) (ic := 90) (text := "filler") (k := 3) hx hb hst9 hown (hw0 _ zm3_162) (hw0 _ zm1_15) (hKx.2 ("HourClock", 142, "filler") (by decide +kernel)) hKx.1 hw0 zx_w3 zx_b3 zx_o3 hZs (by decide +kernel) (by decide +kernel) hP hD hS (hl.1.trans hml.symm) htab dX6_filler_14 dX6_filler_17 dX6_filler_18 dX6_filler_20 dX6_filler_23 (by decide) (by decide) (Nat.le_of_ble_eq_true rfl) (Nat.le_of_ble_eq_true rfl) hlocks hR.symm rfl
theorem hd_X6_value : yX6_value.cls ≠ "java/lang/invoke/MethodHandle" ∧ yX6_value.cls ≠ "java/lang/invoke/VarHandle" ∧ (parseMethodDescriptor yX6_value.desc).map (fun d => d.parameters.length) = some 1 := by decide +kernel
def f_X6_value (v : CV) (p0 : Int32) : Option (Nat ⊕ (Int32)) :=
  if p0 < 0 then
    some (.inl 1)
  else
    if p0 ≤ 13 then
      (f_X2_tell v.1 p0).bind (fun u3 =>
      some (.inr u3))
    else
      some (.inl 1)
set_option maxHeartbeats 4000000 in
set_option maxRecDepth 100000 in
theorem c_X6_value (l : Launch) (hst9 : l.stackTraces = false) (g : zG) (a : Nat → Nat) (v : CV) (p0 : Int32) (r : Nat ⊕ (Int32)) (hf : f_X6_value v p0 = some r) : zMx zNF zNM l yX6_value (zw yX6_value cX6_value 2 (some .int)) ({ frames := 6, cells := 1, slots := 6, locals := 100 } : Room) g [.ref (a 0), .int p0] (zX6 g a v) r (fun q => q) (fun q => (zX6 g a v)) := by
  intro sz
  refine vx_ofW (cc := cX6_value) (maxL := 2) (ret := (some .int)) (by decide) rfl ?_
  intro p e s m args below meth c s₁ B hml htab hv
  obtain ⟨rfl, ⟨hsz, hP, hK, hD0⟩, hKx, hZs⟩ := hv
  have hx := B.exec
  have hb := B.bytes
  have hr0 := B.returns
  have hts := atoms_spec (ws := (zw yX6_value cX6_value 2 (some .int))) B.pre
  have hw0 : ∀ w ∈ zW, w.before ([.ref (a 0), .int p0] : List Value).toArray s = true := fun w h => hts w (List.mem_cons_of_mem _ h)
  have hown : s.vm.findClass RX6 = some m.cls := findClass_of_methodNamed B.named
  have hlocks := B.notSynchronized
  subst hsz
  have hD := hD0.self (sz := s.heap.size)
  generalize hAe : va_A (zX6 g a v) s.heap.size = A at hD hZs ⊢
  have hA : ∀ q : Nat, s.heap.size ≤ q → A q := fun q h => by rw [← hAe]; exact Or.inr h
  have hS : va_S A s.heap s.heap [] := va_S.rf
  unfold f_X6_value at hf
  have hl := lv_entry ([.ref (a 0), .int p0]) (n := 2) (Nat.le_of_ble_eq_true rfl)
  rw [lg_entry_eq]
  generalize (lg_sl ([.ref (a 0), .int p0]) ++ List.replicate (2 - (lg_sl ([.ref (a 0), .int p0])).length) Slot.unset).toArray = ls at hl ⊢
  have hl : lv_has ls 2 [(0, .ref (a 0)), (1, .int p0)] := hl
  refine lv_iload_n hx hb dX6_value_0 rfl (lv_at hl 1 rfl) ?_
  refine lv_if_lt (tgt := 10) hx hb dX6_value_1 (by decide) (fun c1 => ?_) (fun c1 => ?_)
  · have hf := oi hf c1
    have hR : (Sum.inl 1 : Nat ⊕ (Int32)) = r := Option.some.inj hf
    exact zthrow (ik := 34) (is := 135) (ic := 38) (text := "what") (k := 1) hx hb hst9 hown (hw0 _ zm3_58) (hw0 _ zm1_12) (hKx.2 ("HourClock", 135, "what") (by decide +kernel)) hKx.1 hw0 zx_w1 zx_b1 zx_o1 hZs (by decide +kernel) (by decide +kernel) hP hD hS (hl.1.trans hml.symm) htab dX6_value_10 dX6_value_13 dX6_value_14 dX6_value_16 dX6_value_19 (by decide) (by decide) (Nat.le_of_ble_eq_true rfl) (Nat.le_of_ble_eq_true rfl) hlocks hR.symm rfl
  · have hf := oe hf c1
    refine lv_iload_n hx hb dX6_value_4 rfl (lv_at hl 1 rfl) ?_
    refine lv_bipush (v := 13) hx hb dX6_value_5 (by decide) ?_
    refine lv_icmp_le (tgt := 20) hx hb dX6_value_7 (by decide) (fun c2 => ?_) (fun c2 => ?_)
    · have hf := oi hf c2
      refine lv_aload_n hx hb dX6_value_20 rfl (lv_at hl 0 rfl) ?_
      refine va_get (D := g.1) (ci := 6) (v := .ref (a 1)) (C := RX6) (T := TX6) (N := 5) hx hb hw0 ziX6 hown hK.1 hP 0 rfl rfl 0 (by decide) (hw0 _ zm1_209) (fun _ h9 => h9) rfl dX6_value_21 ?_
      refine lv_iload_n hx hb dX6_value_24 rfl (lv_at hl 1 rfl) ?_
      obtain ⟨u3, hu3, hf⟩ := ob hf
      refine zk_iR (va_runVN (As := [.int p0]) (rest := []) ⟨hx, hb, hml, hown, hts⟩ (c_X2_tell l g (fun k => a (k + 1)) v.1 p0 _ hu3 _) (zcN hw0 (zn_34 hK) zm3_12 zm1_2 zm3_11 zs4_3 hd_X2_tell rfl rfl ⟨Nat.le_of_ble_eq_true rfl, Nat.le_of_ble_eq_true rfl⟩) ⟨zblind, zrecv (wc := zX2 g (fun k => a (k + 1)) v.1) hK hP [1, 2, 3, 4, 5, 6, 7, 8, 9, 10, 11, 12, 13, 14, 15, 16, 17, 18] rfl (ci := 2) rfl rfl, zpre hK hP hD [1, 2, 3, 4, 5, 6, 7, 8, 9, 10, 11, 12, 13, 14, 15, 16, 17, 18] rfl rfl⟩ rfl rfl hl.1 rfl (lv_room (Nat.le_of_ble_eq_true rfl)) dX6_value_25 ⟨Nat.zero_le _, Nat.zero_le _⟩) hP hD hS hA [1, 2, 3, 4, 5, 6, 7, 8, 9, 10, 11, 12, 13, 14, 15, 16, 17, 18] rfl (fun H locs hP hD hS => ?_)
      have hR : (Sum.inr u3 : Nat ⊕ (Int32)) = r := Option.some.inj hf
      subst hR
      refine W.widen (k := 1) (n := 6) (Nat.zero_le _) (Nat.zero_le _) ?_
      exact vx_ret (W.iret (v := u3) hx hb hr0 (fun t ht hW => ⟨⟨u3, (), rfl, ⟨_, rfl, rfl⟩, _, rfl, by rw [ht]; exact hP, hD⟩, hS.F ht⟩) hS.2.2 dX6_value_28)
    · have hf := oe hf c2
      have hR : (Sum.inl 1 : Nat ⊕ (Int32)) = r := Option.some.inj hf
      exact zthrow (ik := 34) (is := 135) (ic := 38) (text := "what") (k := 1) hx hb hst9 hown (hw0 _ zm3_58) (hw0 _ zm1_12) (hKx.2 ("HourClock", 135, "what") (by decide +kernel)) hKx.1 hw0 zx_w1 zx_b1 zx_o1 hZs (by decide +kernel) (by decide +kernel) hP hD hS (hl.1.trans hml.symm) htab dX6_value_10 dX6_value_13 dX6_value_14 dX6_value_16 dX6_value_19 (by decide) (by decide) (Nat.le_of_ble_eq_true rfl) (Nat.le_of_ble_eq_true rfl) hlocks hR.symm rfl
theorem hd_X6_entry : yX6_entry.cls ≠ "java/lang/invoke/MethodHandle" ∧ yX6_entry.cls ≠ "java/lang/invoke/VarHandle" ∧ (parseMethodDescriptor yX6_entry.desc).map (fun d => d.parameters.length) = some 2 := by decide +kernel
def f_X6_entry (v : CV) (p0 : Int32) (p1 : Int32) : Option (Nat ⊕ (Int32)) :=
  (f_X3_has v.1.2.2.1 p0).bind (fun u1 =>
  if (zb u1) = 0 then
    some (.inl 3)
  else
    if p1 < 0 then
      some (.inl 1)
    else
      if p1 ≤ 2 then
        (f_X3_tell v.1.2.2.1 p0 p1).bind (fun u5 =>
        some (.inr u5))
      else
        some (.inl 1))
set_option maxHeartbeats 4000000 in
set_option maxRecDepth 100000 in
theorem c_X6_entry (l : Launch) (hst9 : l.stackTraces = false) (g : zG) (a : Nat → Nat) (v : CV) (p0 : Int32) (p1 : Int32) (r : Nat ⊕ (Int32)) (hf : f_X6_entry v p0 p1 = some r) : zMx zNF zNM l yX6_entry (zw yX6_entry cX6_entry 3 (some .int)) ({ frames := 6, cells := 1, slots := 6, locals := 100 } : Room) g [.ref (a 0), .int p0, .int p1] (zX6 g a v) r (fun q => q) (fun q => (zX6 g a v)) := by
  intro sz
  refine vx_ofW (cc := cX6_entry) (maxL := 3) (ret := (some .int)) (by decide) rfl ?_
  intro p e s m args below meth c s₁ B hml htab hv
  obtain ⟨rfl, ⟨hsz, hP, hK, hD0⟩, hKx, hZs⟩ := hv
  have hx := B.exec
  have hb := B.bytes
  have hr0 := B.returns
  have hts := atoms_spec (ws := (zw yX6_entry cX6_entry 3 (some .int))) B.pre
  have hw0 : ∀ w ∈ zW, w.before ([.ref (a 0), .int p0, .int p1] : List Value).toArray s = true := fun w h => hts w (List.mem_cons_of_mem _ h)
  have hown : s.vm.findClass RX6 = some m.cls := findClass_of_methodNamed B.named
  have hlocks := B.notSynchronized
  subst hsz
  have hD := hD0.self (sz := s.heap.size)
  generalize hAe : va_A (zX6 g a v) s.heap.size = A at hD hZs ⊢
  have hA : ∀ q : Nat, s.heap.size ≤ q → A q := fun q h => by rw [← hAe]; exact Or.inr h
  have hS : va_S A s.heap s.heap [] := va_S.rf
  unfold f_X6_entry at hf
  have hl := lv_entry ([.ref (a 0), .int p0, .int p1]) (n := 3) (Nat.le_of_ble_eq_true rfl)
  rw [lg_entry_eq]
  generalize (lg_sl ([.ref (a 0), .int p0, .int p1]) ++ List.replicate (3 - (lg_sl ([.ref (a 0), .int p0, .int p1])).length) Slot.unset).toArray = ls at hl ⊢
  have hl : lv_has ls 3 [(0, .ref (a 0)), (1, .int p0), (2, .int p1)] := hl
  refine lv_aload_n hx hb dX6_entry_0 rfl (lv_at hl 0 rfl) ?_
  refine va_get (D := g.1) (ci := 6) (v := .ref (a 1)) (C := RX6) (T := TX6) (N := 5) hx hb hw0 ziX6 hown hK.1 hP 0 rfl rfl 0 (by decide) (hw0 _ zm1_209) (fun _ h9 => h9) rfl dX6_entry_1 ?_
  refine va_getN (D := g.1) (ci := 2) (v := .ref (a 15)) (C := RX2) (T := TX2) (N := 11) hx hb hw0 ziX2 hown hK.1 hP 1 rfl rfl 2 (by decide) (va_Nw.use rfl (zf_25 hK)) (fun _ h9 => h9) rfl dX6_entry_4 ?_
  refine lv_iload_n hx hb dX6_entry_7 rfl (lv_at hl 1 rfl) ?_
  obtain ⟨u1, hu1, hf⟩ := ob hf
  refine zk_iR (va_runVN (As := [.int p0]) (rest := []) ⟨hx, hb, hml, hown, hts⟩ (c_X3_has l g (fun k => a (k + 15)) v.1.2.2.1 p0 _ hu1 _) (zcN hw0 (zn_51 hK) zm3_48 zm1_6 zm3_47 zs4_11 hd_X3_has rfl rfl ⟨Nat.le_of_ble_eq_true rfl, Nat.le_of_ble_eq_true rfl⟩) ⟨zblind, zrecv (wc := zX3 g (fun k => a (k + 15)) v.1.2.2.1) hK hP [15, 16, 17, 18] rfl (ci := 3) rfl rfl, zpre hK hP hD [15, 16, 17, 18] rfl rfl⟩ rfl rfl hl.1 rfl (lv_room (Nat.le_of_ble_eq_true rfl)) dX6_entry_8 ⟨Nat.zero_le _, Nat.zero_le _⟩) hP hD hS hA [15, 16, 17, 18] rfl (fun H locs hP hD hS => ?_)
  refine lv_if_ne (tgt := 24) hx hb dX6_entry_11 (by decide) (fun c2 => ?_) (fun c2 => ?_)
  · have hf := oe hf c2
    refine lv_iload_n hx hb dX6_entry_24 rfl (lv_at hl 2 rfl) ?_
    refine lv_if_lt (tgt := 33) hx hb dX6_entry_25 (by decide) (fun c3 => ?_) (fun c3 => ?_)
    · have hf := oi hf c3
      have hR : (Sum.inl 1 : Nat ⊕ (Int32)) = r := Option.some.inj hf
      exact zthrow (ik := 34) (is := 135) (ic := 38) (text := "what") (k := 1) hx hb hst9 hown (hw0 _ zm3_58) (hw0 _ zm1_12) (hKx.2 ("HourClock", 135, "what") (by decide +kernel)) hKx.1 hw0 zx_w1 zx_b1 zx_o1 hZs (by decide +kernel) (by decide +kernel) hP hD hS (hl.1.trans hml.symm) htab dX6_entry_33 dX6_entry_36 dX6_entry_37 dX6_entry_39 dX6_entry_42 (by decide) (by decide) (Nat.le_of_ble_eq_true rfl) (Nat.le_of_ble_eq_true rfl) hlocks hR.symm rfl
    · have hf := oe hf c3
      refine lv_iload_n hx hb dX6_entry_28 rfl (lv_at hl 2 rfl) ?_
      refine lv_iconst (v := 2) hx hb dX6_entry_29 (by decide) ?_
      refine lv_icmp_le (tgt := 43) hx hb dX6_entry_30 (by decide) (fun c4 => ?_) (fun c4 => ?_)
      · have hf := oi hf c4
        refine lv_aload_n hx hb dX6_entry_43 rfl (lv_at hl 0 rfl) ?_
        refine va_get (D := g.1) (ci := 6) (v := .ref (a 1)) (C := RX6) (T := TX6) (N := 5) hx hb hw0 ziX6 hown hK.1 hP 0 rfl rfl 0 (by decide) (hw0 _ zm1_209) (fun _ h9 => h9) rfl dX6_entry_44 ?_
        refine va_getN (D := g.1) (ci := 2) (v := .ref (a 15)) (C := RX2) (T := TX2) (N := 11) hx hb hw0 ziX2 hown hK.1 hP 1 rfl rfl 2 (by decide) (va_Nw.use rfl (zf_25 hK)) (fun _ h9 => h9) rfl dX6_entry_47 ?_
        refine lv_iload_n hx hb dX6_entry_50 rfl (lv_at hl 1 rfl) ?_
        refine lv_iload_n hx hb dX6_entry_51 rfl (lv_at hl 2 rfl) ?_
        obtain ⟨u5, hu5, hf⟩ := ob hf
        refine zk_iR (va_runVN (As := [.int p0, .int p1]) (rest := []) ⟨hx, hb, hml, hown, hts⟩ (c_X3_tell l g (fun k => a (k + 15)) v.1.2.2.1 p0 p1 _ hu5 _) (zcN hw0 (zn_41 hK) zm3_44 zm1_6 zm3_43 zs4_10 hd_X3_tell rfl rfl ⟨Nat.le_of_ble_eq_true rfl, Nat.le_of_ble_eq_true rfl⟩) ⟨zblind, zrecv (wc := zX3 g (fun k => a (k + 15)) v.1.2.2.1) hK hP [15, 16, 17, 18] rfl (ci := 3) rfl rfl, zpre hK hP hD [15, 16, 17, 18] rfl rfl⟩ rfl rfl hl.1 rfl (lv_room (Nat.le_of_ble_eq_true rfl)) dX6_entry_52 ⟨Nat.zero_le _, Nat.zero_le _⟩) hP hD hS hA [15, 16, 17, 18] rfl (fun H locs hP hD hS => ?_)
        have hR : (Sum.inr u5 : Nat ⊕ (Int32)) = r := Option.some.inj hf
        subst hR
        refine W.widen (k := 1) (n := 6) (Nat.zero_le _) (Nat.zero_le _) ?_
        exact vx_ret (W.iret (v := u5) hx hb hr0 (fun t ht hW => ⟨⟨u5, (), rfl, ⟨_, rfl, rfl⟩, _, rfl, by rw [ht]; exact hP, hD⟩, hS.F ht⟩) hS.2.2 dX6_entry_55)
      · have hf := oe hf c4
        have hR : (Sum.inl 1 : Nat ⊕ (Int32)) = r := Option.some.inj hf
        exact zthrow (ik := 34) (is := 135) (ic := 38) (text := "what") (k := 1) hx hb hst9 hown (hw0 _ zm3_58) (hw0 _ zm1_12) (hKx.2 ("HourClock", 135, "what") (by decide +kernel)) hKx.1 hw0 zx_w1 zx_b1 zx_o1 hZs (by decide +kernel) (by decide +kernel) hP hD hS (hl.1.trans hml.symm) htab dX6_entry_33 dX6_entry_36 dX6_entry_37 dX6_entry_39 dX6_entry_42 (by decide) (by decide) (Nat.le_of_ble_eq_true rfl) (Nat.le_of_ble_eq_true rfl) hlocks hR.symm rfl
  · have hf := oi hf c2
    have hR : (Sum.inl 3 : Nat ⊕ (Int32)) = r := Option.some.inj hf
    exact zthrow (ik := 86) (is := 154) (ic := 90) (text := "entry") (k := 3) hx hb hst9 hown (hw0 _ zm3_162) (hw0 _ zm1_15) (hKx.2 ("HourClock", 154, "entry") (by decide +kernel)) hKx.1 hw0 zx_w3 zx_b3 zx_o3 hZs (by decide +kernel) (by decide +kernel) hP hD hS (hl.1.trans hml.symm) htab dX6_entry_14 dX6_entry_17 dX6_entry_18 dX6_entry_20 dX6_entry_23 (by decide) (by decide) (Nat.le_of_ble_eq_true rfl) (Nat.le_of_ble_eq_true rfl) hlocks hR.symm rfl
theorem hd_X6_backTime : yX6_backTime.cls ≠ "java/lang/invoke/MethodHandle" ∧ yX6_backTime.cls ≠ "java/lang/invoke/VarHandle" ∧ (parseMethodDescriptor yX6_backTime.desc).map (fun d => d.parameters.length) = some 1 := by decide +kernel
def f_X6_backTime (v : CV) (p0 : Int32) : Option (Nat ⊕ (Int32)) :=
  (f_X0_has v.1.1 p0).bind (fun u1 =>
  if (zb u1) = 0 then
    some (.inl 3)
  else
    (f_X0_latestBegin v.1.1 p0).bind (fun u3 =>
    some (.inr u3)))
set_option maxHeartbeats 4000000 in
set_option maxRecDepth 100000 in
theorem c_X6_backTime (l : Launch) (hst9 : l.stackTraces = false) (g : zG) (a : Nat → Nat) (v : CV) (p0 : Int32) (r : Nat ⊕ (Int32)) (hf : f_X6_backTime v p0 = some r) : zMx zNF zNM l yX6_backTime (zw yX6_backTime cX6_backTime 2 (some .int)) ({ frames := 6, cells := 1, slots := 6, locals := 100 } : Room) g [.ref (a 0), .int p0] (zX6 g a v) r (fun q => q) (fun q => (zX6 g a v)) := by
  intro sz
  refine vx_ofW (cc := cX6_backTime) (maxL := 2) (ret := (some .int)) (by decide) rfl ?_
  intro p e s m args below meth c s₁ B hml htab hv
  obtain ⟨rfl, ⟨hsz, hP, hK, hD0⟩, hKx, hZs⟩ := hv
  have hx := B.exec
  have hb := B.bytes
  have hr0 := B.returns
  have hts := atoms_spec (ws := (zw yX6_backTime cX6_backTime 2 (some .int))) B.pre
  have hw0 : ∀ w ∈ zW, w.before ([.ref (a 0), .int p0] : List Value).toArray s = true := fun w h => hts w (List.mem_cons_of_mem _ h)
  have hown : s.vm.findClass RX6 = some m.cls := findClass_of_methodNamed B.named
  have hlocks := B.notSynchronized
  subst hsz
  have hD := hD0.self (sz := s.heap.size)
  generalize hAe : va_A (zX6 g a v) s.heap.size = A at hD hZs ⊢
  have hA : ∀ q : Nat, s.heap.size ≤ q → A q := fun q h => by rw [← hAe]; exact Or.inr h
  have hS : va_S A s.heap s.heap [] := va_S.rf
  unfold f_X6_backTime at hf
  have hl := lv_entry ([.ref (a 0), .int p0]) (n := 2) (Nat.le_of_ble_eq_true rfl)
  rw [lg_entry_eq]
  generalize (lg_sl ([.ref (a 0), .int p0]) ++ List.replicate (2 - (lg_sl ([.ref (a 0), .int p0])).length) Slot.unset).toArray = ls at hl ⊢
  have hl : lv_has ls 2 [(0, .ref (a 0)), (1, .int p0)] := hl
  refine lv_aload_n hx hb dX6_backTime_0 rfl (lv_at hl 0 rfl) ?_
  refine va_get (D := g.1) (ci := 6) (v := .ref (a 1)) (C := RX6) (T := TX6) (N := 5) hx hb hw0 ziX6 hown hK.1 hP 0 rfl rfl 0 (by decide) (hw0 _ zm1_209) (fun _ h9 => h9) rfl dX6_backTime_1 ?_
  refine va_getN (D := g.1) (ci := 2) (v := .ref (a 2)) (C := RX2) (T := TX2) (N := 11) hx hb hw0 ziX2 hown hK.1 hP 1 rfl rfl 0 (by decide) (va_Nw.use rfl (zf_21 hK)) (fun _ h9 => h9) rfl dX6_backTime_4 ?_
  refine lv_iload_n hx hb dX6_backTime_7 rfl (lv_at hl 1 rfl) ?_
  obtain ⟨u1, hu1, hf⟩ := ob hf
  refine zk_iR (va_runVN (As := [.int p0]) (rest := []) ⟨hx, hb, hml, hown, hts⟩ (c_X0_has l g (fun k => a (k + 2)) v.1.1 p0 _ hu1 _) (zcN hw0 (zn_23 hK) zm2_58 zm1_3 zm2_57 zs1_15 hd_X0_has rfl rfl ⟨Nat.le_of_ble_eq_true rfl, Nat.le_of_ble_eq_true rfl⟩) ⟨zblind, zrecv (wc := zX0 g (fun k => a (k + 2)) v.1.1) hK hP [2, 3, 4, 5, 6, 7] rfl (ci := 0) rfl rfl, zpre hK hP hD [2, 3, 4, 5, 6, 7] rfl rfl⟩ rfl rfl hl.1 rfl (lv_room (Nat.le_of_ble_eq_true rfl)) dX6_backTime_8 ⟨Nat.zero_le _, Nat.zero_le _⟩) hP hD hS hA [2, 3, 4, 5, 6, 7] rfl (fun H locs hP hD hS => ?_)
  refine lv_if_ne (tgt := 24) hx hb dX6_backTime_11 (by decide) (fun c2 => ?_) (fun c2 => ?_)
  · have hf := oe hf c2
    refine lv_aload_n hx hb dX6_backTime_24 rfl (lv_at hl 0 rfl) ?_
    refine va_get (D := g.1) (ci := 6) (v := .ref (a 1)) (C := RX6) (T := TX6) (N := 5) hx hb hw0 ziX6 hown hK.1 hP 0 rfl rfl 0 (by decide) (hw0 _ zm1_209) (fun _ h9 => h9) rfl dX6_backTime_25 ?_
    refine va_getN (D := g.1) (ci := 2) (v := .ref (a 2)) (C := RX2) (T := TX2) (N := 11) hx hb hw0 ziX2 hown hK.1 hP 1 rfl rfl 0 (by decide) (va_Nw.use rfl (zf_21 hK)) (fun _ h9 => h9) rfl dX6_backTime_28 ?_
    refine lv_iload_n hx hb dX6_backTime_31 rfl (lv_at hl 1 rfl) ?_
    obtain ⟨u3, hu3, hf⟩ := ob hf
    refine zk_iR (va_runVN (As := [.int p0]) (rest := []) ⟨hx, hb, hml, hown, hts⟩ (c_X0_latestBegin l g (fun k => a (k + 2)) v.1.1 p0 _ hu3 _) (zcN hw0 (zn_38 hK) zm3_31 zm1_3 zm3_30 zs4_7 hd_X0_latestBegin rfl rfl ⟨Nat.le_of_ble_eq_true rfl, Nat.le_of_ble_eq_true rfl⟩) ⟨zblind, zrecv (wc := zX0 g (fun k => a (k + 2)) v.1.1) hK hP [2, 3, 4, 5, 6, 7] rfl (ci := 0) rfl rfl, zpre hK hP hD [2, 3, 4, 5, 6, 7] rfl rfl⟩ rfl rfl hl.1 rfl (lv_room (Nat.le_of_ble_eq_true rfl)) dX6_backTime_32 ⟨Nat.zero_le _, Nat.zero_le _⟩) hP hD hS hA [2, 3, 4, 5, 6, 7] rfl (fun H locs hP hD hS => ?_)
    have hR : (Sum.inr u3 : Nat ⊕ (Int32)) = r := Option.some.inj hf
    subst hR
    refine W.widen (k := 1) (n := 6) (Nat.zero_le _) (Nat.zero_le _) ?_
    exact vx_ret (W.iret (v := u3) hx hb hr0 (fun t ht hW => ⟨⟨u3, (), rfl, ⟨_, rfl, rfl⟩, _, rfl, by rw [ht]; exact hP, hD⟩, hS.F ht⟩) hS.2.2 dX6_backTime_35)
  · have hf := oi hf c2
    have hR : (Sum.inl 3 : Nat ⊕ (Int32)) = r := Option.some.inj hf
    exact zthrow (ik := 86) (is := 88) (ic := 90) (text := "element") (k := 3) hx hb hst9 hown (hw0 _ zm3_162) (hw0 _ zm1_15) (hKx.2 ("HourClock", 88, "element") (by decide +kernel)) hKx.1 hw0 zx_w3 zx_b3 zx_o3 hZs (by decide +kernel) (by decide +kernel) hP hD hS (hl.1.trans hml.symm) htab dX6_backTime_14 dX6_backTime_17 dX6_backTime_18 dX6_backTime_20 dX6_backTime_23 (by decide) (by decide) (Nat.le_of_ble_eq_true rfl) (Nat.le_of_ble_eq_true rfl) hlocks hR.symm rfl
theorem hd_X6_foresee : yX6_foresee.cls ≠ "java/lang/invoke/MethodHandle" ∧ yX6_foresee.cls ≠ "java/lang/invoke/VarHandle" ∧ (parseMethodDescriptor yX6_foresee.desc).map (fun d => d.parameters.length) = some 1 := by decide +kernel
def f_X6_foresee (v : CV) (p0 : Int32) : Option (CV) :=
  (f_X2_copyFrom v.2.1 v.1).bind (fun u1 =>
  (f_X0_has u1.1 p0).bind (fun u2 =>
  if (zb u2) = 0 then
    (f_X2_runTo u1 1000000).bind (fun u4 =>
    some (v.1, u4, v.2.2.1, v.2.2.2.1, v.2.2.2.2))
  else
    (f_X2_dropElement u1 p0).bind (fun u5 =>
    (f_X2_runTo u5 1000000).bind (fun u6 =>
    some (v.1, u6, v.2.2.1, v.2.2.2.1, v.2.2.2.2)))))
set_option maxHeartbeats 4000000 in
set_option maxRecDepth 100000 in
theorem c_X6_foresee (l : Launch) (g : zG) (a : Nat → Nat) (v : CV) (p0 : Int32) (r : CV) (hf : f_X6_foresee v p0 = some r) : zMr zNF zNM l yX6_foresee (zw yX6_foresee cX6_foresee 2 (some (.object "HourClock$Hour"))) ({ frames := 6, cells := 0, slots := 0, locals := 140 } : Room) g [.ref (a 0), .int p0] (zX6 g a v) (a 19) (zX6 g a r) := by
  intro sz
  refine Met.ofW (cc := cX6_foresee) (maxL := 2) (ret := (some (.object "HourClock$Hour"))) (by decide) rfl ?_
  intro p e s m args below meth c s₁ B hml hv
  obtain ⟨rfl, hsz, hP, hK, hD0⟩ := hv
  have hx := B.exec
  have hb := B.bytes
  have hr0 := B.returns
  have hts := atoms_spec (ws := (zw yX6_foresee cX6_foresee 2 (some (.object "HourClock$Hour")))) B.pre
  have hw0 : ∀ w ∈ zW, w.before ([.ref (a 0), .int p0] : List Value).toArray s = true := fun w h => hts w (List.mem_cons_of_mem _ h)
  have hown : s.vm.findClass RX6 = some m.cls := findClass_of_methodNamed B.named
  have hlocks := B.notSynchronized
  subst hsz
  have hD := hD0.self (sz := s.heap.size)
  generalize hAe : va_A (zX6 g a v) s.heap.size = A at hD ⊢
  have hA : ∀ q : Nat, s.heap.size ≤ q → A q := fun q h => by rw [← hAe]; exact Or.inr h
  have hS : va_S A s.heap s.heap [] := va_S.rf
  unfold f_X6_foresee at hf
  have hl := lv_entry ([.ref (a 0), .int p0]) (n := 2) (Nat.le_of_ble_eq_true rfl)
  rw [lg_entry_eq]
  generalize (lg_sl ([.ref (a 0), .int p0]) ++ List.replicate (2 - (lg_sl ([.ref (a 0), .int p0])).length) Slot.unset).toArray = ls at hl ⊢
  have hl : lv_has ls 2 [(0, .ref (a 0)), (1, .int p0)] := hl
  refine lv_aload_n hx hb dX6_foresee_0 rfl (lv_at hl 0 rfl) ?_
  refine va_get (D := g.1) (ci := 6) (v := .ref (a 19)) (C := RX6) (T := TX6) (N := 5) hx hb hw0 ziX6 hown hK.1 hP 0 rfl rfl 1 (by decide) (hw0 _ zm1_210) (fun _ h9 => h9) rfl dX6_foresee_1 ?_
  refine lv_aload_n hx hb dX6_foresee_4 rfl (lv_at hl 0 rfl) ?_
  refine va_get (D := g.1) (ci := 6) (v := .ref (a 1)) (C := RX6) (T := TX6) (N := 5) hx hb hw0 ziX6 hown hK.1 hP 0 rfl rfl 0 (by decide) (hw0 _ zm1_209) (fun _ h9 => h9) rfl dX6_foresee_5 ?_
  obtain ⟨u1, hu1, hf⟩ := ob hf
  refine zk_vZ (va_runVN (As := [.ref (a 1)]) (rest := []) ⟨hx, hb, hml, hown, hts⟩ (c_X2_copyFrom l g (fun k => a (k + 19)) (fun k => a (k + 1)) v.2.1 v.1 _ hu1 _) (zcN hw0 (zn_6 hK) zm2_0 zm1_2 zm1_239 zs1_2 hd_X2_copyFrom rfl rfl ⟨Nat.le_of_ble_eq_true rfl, Nat.le_of_ble_eq_true rfl⟩) ⟨zblind, zrecv (wc := zX2 g (fun k => a (k + 19)) v.2.1 ++ zX2 g (fun k => a (k + 1)) v.1) hK hP [19, 20, 21, 22, 23, 24, 25, 26, 27, 28, 29, 30, 31, 32, 33, 34, 35, 36, 1, 2, 3, 4, 5, 6, 7, 8, 9, 10, 11, 12, 13, 14, 15, 16, 17, 18] rfl (ci := 2) rfl rfl, zpre hK hP hD [19, 20, 21, 22, 23, 24, 25, 26, 27, 28, 29, 30, 31, 32, 33, 34, 35, 36, 1, 2, 3, 4, 5, 6, 7, 8, 9, 10, 11, 12, 13, 14, 15, 16, 17, 18] rfl rfl⟩ rfl rfl hl.1 rfl (lv_room (Nat.le_of_ble_eq_true rfl)) dX6_foresee_8 ⟨Nat.zero_le _, Nat.zero_le _⟩) hP hD hS hA [19, 20, 21, 22, 23, 24, 25, 26, 27, 28, 29, 30, 31, 32, 33, 34, 35, 36, 1, 2, 3, 4, 5, 6, 7, 8, 9, 10, 11, 12, 13, 14, 15, 16, 17, 18] rfl rfl (ztwo (is1 := List.range' 19 18) rfl (zrun (wc := zX2 g (fun k => a (k + 19)) v.2.1) (ws' := zX6 g a (v.1, u1, v.2.2.1, v.2.2.2.1, v.2.2.2.2)) 19 18 rfl rfl rfl rfl rfl) (zrun (wc := zX2 g (fun k => a (k + 1)) v.1) (ws' := zX6 g a (v.1, u1, v.2.2.1, v.2.2.2.1, v.2.2.2.2)) 1 18 rfl rfl rfl rfl rfl)) (fun H locs hP hD hS => ?_)
  have hP : va_P g.1 vwCl (zX6 g a (v.1, u1, v.2.2.1, v.2.2.2.1, v.2.2.2.2)) H := hP
  have hD : va_D A (zX6 g a (v.1, u1, v.2.2.1, v.2.2.2.1, v.2.2.2.2)) := hD
  refine lv_aload_n hx hb dX6_foresee_11 rfl (lv_at hl 0 rfl) ?_
  refine va_get (D := g.1) (ci := 6) (v := .ref (a 19)) (C := RX6) (T := TX6) (N := 5) hx hb hw0 ziX6 hown hK.1 hP 0 rfl rfl 1 (by decide) (hw0 _ zm1_210) (fun _ h9 => h9) rfl dX6_foresee_12 ?_
  refine va_getN (D := g.1) (ci := 2) (v := .ref (a 20)) (C := RX2) (T := TX2) (N := 11) hx hb hw0 ziX2 hown hK.1 hP 19 rfl rfl 0 (by decide) (va_Nw.use rfl (zf_21 hK)) (fun _ h9 => h9) rfl dX6_foresee_15 ?_
  refine lv_iload_n hx hb dX6_foresee_18 rfl (lv_at hl 1 rfl) ?_
  obtain ⟨u2, hu2, hf⟩ := ob hf
  refine zk_iR (va_runVN (As := [.int p0]) (rest := []) ⟨hx, hb, hml, hown, hts⟩ (c_X0_has l g (fun k => a (k + 20)) u1.1 p0 _ hu2 _) (zcN hw0 (zn_23 hK) zm2_58 zm1_3 zm2_57 zs1_15 hd_X0_has rfl rfl ⟨Nat.le_of_ble_eq_true rfl, Nat.le_of_ble_eq_true rfl⟩) ⟨zblind, zrecv (wc := zX0 g (fun k => a (k + 20)) u1.1) hK hP [20, 21, 22, 23, 24, 25] rfl (ci := 0) rfl rfl, zpre hK hP hD [20, 21, 22, 23, 24, 25] rfl rfl⟩ rfl rfl hl.1 rfl (lv_room (Nat.le_of_ble_eq_true rfl)) dX6_foresee_19 ⟨Nat.zero_le _, Nat.zero_le _⟩) hP hD hS hA [20, 21, 22, 23, 24, 25] rfl (fun H locs hP hD hS => ?_)
  refine lv_if_eq (tgt := 33) hx hb dX6_foresee_22 (by decide) (fun c3 => ?_) (fun c3 => ?_)
  · have hf := oi hf c3
    refine lv_aload_n hx hb dX6_foresee_33 rfl (lv_at hl 0 rfl) ?_
    refine va_get (D := g.1) (ci := 6) (v := .ref (a 19)) (C := RX6) (T := TX6) (N := 5) hx hb hw0 ziX6 hown hK.1 hP 0 rfl rfl 1 (by decide) (hw0 _ zm1_210) (fun _ h9 => h9) rfl dX6_foresee_34 ?_
    refine lv_ldc (v := 1000000) hx hb hown (hw0 _ zm2_18) dX6_foresee_37 ?_
    obtain ⟨u4, hu4, hf⟩ := ob hf
    refine zk_vZ (va_runVN (As := [.int 1000000]) (rest := []) ⟨hx, hb, hml, hown, hts⟩ (c_X2_runTo l g (fun k => a (k + 19)) u1 1000000 _ hu4 _) (zcN hw0 (zn_10 hK) zm2_22 zm1_2 zm2_21 zs1_6 hd_X2_runTo rfl rfl ⟨Nat.le_of_ble_eq_true rfl, Nat.le_of_ble_eq_true rfl⟩) ⟨zblind, zrecv (wc := zX2 g (fun k => a (k + 19)) u1) hK hP [19, 20, 21, 22, 23, 24, 25, 26, 27, 28, 29, 30, 31, 32, 33, 34, 35, 36] rfl (ci := 2) rfl rfl, zpre hK hP hD [19, 20, 21, 22, 23, 24, 25, 26, 27, 28, 29, 30, 31, 32, 33, 34, 35, 36] rfl rfl⟩ rfl rfl hl.1 rfl (lv_room (Nat.le_of_ble_eq_true rfl)) dX6_foresee_39 ⟨Nat.zero_le _, Nat.zero_le _⟩) hP hD hS hA [19, 20, 21, 22, 23, 24, 25, 26, 27, 28, 29, 30, 31, 32, 33, 34, 35, 36] rfl rfl (zrun (wc := zX2 g (fun k => a (k + 19)) u1) (ws' := zX6 g a (v.1, u4, v.2.2.1, v.2.2.2.1, v.2.2.2.2)) 19 18 rfl rfl rfl rfl rfl) (fun H locs hP hD hS => ?_)
    have hP : va_P g.1 vwCl (zX6 g a (v.1, u4, v.2.2.1, v.2.2.2.1, v.2.2.2.2)) H := hP
    have hD : va_D A (zX6 g a (v.1, u4, v.2.2.1, v.2.2.2.1, v.2.2.2.2)) := hD
    refine lv_aload_n hx hb dX6_foresee_42 rfl (lv_at hl 0 rfl) ?_
    refine va_get (D := g.1) (ci := 6) (v := .ref (a 19)) (C := RX6) (T := TX6) (N := 5) hx hb hw0 ziX6 hown hK.1 hP 0 rfl rfl 1 (by decide) (hw0 _ zm1_210) (fun _ h9 => h9) rfl dX6_foresee_43 ?_
    have hR : (v.1, u4, v.2.2.1, v.2.2.2.1, v.2.2.2.2) = r := Option.some.inj hf
    subst hR
    exact W.aret (v := .ref (a 19)) hx hb hr0 (Or.inl ⟨_, rfl⟩) (Or.inr ⟨_, rfl⟩) (fun t ht hW => ⟨⟨(), _, rfl, trivial, rfl, by rw [ht]; exact hP, hD⟩, hS.F ht⟩) hS.2.2 dX6_foresee_46
  · have hf := oe hf c3
    refine lv_aload_n hx hb dX6_foresee_25 rfl (lv_at hl 0 rfl) ?_
    refine va_get (D := g.1) (ci := 6) (v := .ref (a 19)) (C := RX6) (T := TX6) (N := 5) hx hb hw0 ziX6 hown hK.1 hP 0 rfl rfl 1 (by decide) (hw0 _ zm1_210) (fun _ h9 => h9) rfl dX6_foresee_26 ?_
    refine lv_iload_n hx hb dX6_foresee_29 rfl (lv_at hl 1 rfl) ?_
    obtain ⟨u5, hu5, hf⟩ := ob hf
    refine zk_vZ (va_runVN (As := [.int p0]) (rest := []) ⟨hx, hb, hml, hown, hts⟩ (c_X2_dropElement l g (fun k => a (k + 19)) u1 p0 _ hu5 _) (zcN hw0 (zn_24 hK) zm2_62 zm1_2 zm2_61 zs2_0 hd_X2_dropElement rfl rfl ⟨Nat.le_of_ble_eq_true rfl, Nat.le_of_ble_eq_true rfl⟩) ⟨zblind, zrecv (wc := zX2 g (fun k => a (k + 19)) u1) hK hP [19, 20, 21, 22, 23, 24, 25, 26, 27, 28, 29, 30, 31, 32, 33, 34, 35, 36] rfl (ci := 2) rfl rfl, zpre hK hP hD [19, 20, 21, 22, 23, 24, 25, 26, 27, 28, 29, 30, 31, 32, 33, 34, 35, 36] rfl rfl⟩ rfl rfl hl.1 rfl (lv_room (Nat.le_of_ble_eq_true rfl)) dX6_foresee_30 ⟨Nat.zero_le _, Nat.zero_le _⟩) hP hD hS hA [19, 20, 21, 22, 23, 24, 25, 26, 27, 28, 29, 30, 31, 32, 33, 34, 35, 36] rfl rfl (zrun (wc := zX2 g (fun k => a (k + 19)) u1) (ws' := zX6 g a (v.1, u5, v.2.2.1, v.2.2.2.1, v.2.2.2.2)) 19 18 rfl rfl rfl rfl rfl) (fun H locs hP hD hS => ?_)
    have hP : va_P g.1 vwCl (zX6 g a (v.1, u5, v.2.2.1, v.2.2.2.1, v.2.2.2.2)) H := hP
    have hD : va_D A (zX6 g a (v.1, u5, v.2.2.1, v.2.2.2.1, v.2.2.2.2)) := hD
    refine lv_aload_n hx hb dX6_foresee_33 rfl (lv_at hl 0 rfl) ?_
    refine va_get (D := g.1) (ci := 6) (v := .ref (a 19)) (C := RX6) (T := TX6) (N := 5) hx hb hw0 ziX6 hown hK.1 hP 0 rfl rfl 1 (by decide) (hw0 _ zm1_210) (fun _ h9 => h9) rfl dX6_foresee_34 ?_
    refine lv_ldc (v := 1000000) hx hb hown (hw0 _ zm2_18) dX6_foresee_37 ?_
    obtain ⟨u6, hu6, hf⟩ := ob hf
    refine zk_vZ (va_runVN (As := [.int 1000000]) (rest := []) ⟨hx, hb, hml, hown, hts⟩ (c_X2_runTo l g (fun k => a (k + 19)) u5 1000000 _ hu6 _) (zcN hw0 (zn_10 hK) zm2_22 zm1_2 zm2_21 zs1_6 hd_X2_runTo rfl rfl ⟨Nat.le_of_ble_eq_true rfl, Nat.le_of_ble_eq_true rfl⟩) ⟨zblind, zrecv (wc := zX2 g (fun k => a (k + 19)) u5) hK hP [19, 20, 21, 22, 23, 24, 25, 26, 27, 28, 29, 30, 31, 32, 33, 34, 35, 36] rfl (ci := 2) rfl rfl, zpre hK hP hD [19, 20, 21, 22, 23, 24, 25, 26, 27, 28, 29, 30, 31, 32, 33, 34, 35, 36] rfl rfl⟩ rfl rfl hl.1 rfl (lv_room (Nat.le_of_ble_eq_true rfl)) dX6_foresee_39 ⟨Nat.zero_le _, Nat.zero_le _⟩) hP hD hS hA [19, 20, 21, 22, 23, 24, 25, 26, 27, 28, 29, 30, 31, 32, 33, 34, 35, 36] rfl rfl (zrun (wc := zX2 g (fun k => a (k + 19)) u5) (ws' := zX6 g a (v.1, u6, v.2.2.1, v.2.2.2.1, v.2.2.2.2)) 19 18 rfl rfl rfl rfl rfl) (fun H locs hP hD hS => ?_)
    have hP : va_P g.1 vwCl (zX6 g a (v.1, u6, v.2.2.1, v.2.2.2.1, v.2.2.2.2)) H := hP
    have hD : va_D A (zX6 g a (v.1, u6, v.2.2.1, v.2.2.2.1, v.2.2.2.2)) := hD
    refine lv_aload_n hx hb dX6_foresee_42 rfl (lv_at hl 0 rfl) ?_
    refine va_get (D := g.1) (ci := 6) (v := .ref (a 19)) (C := RX6) (T := TX6) (N := 5) hx hb hw0 ziX6 hown hK.1 hP 0 rfl rfl 1 (by decide) (hw0 _ zm1_210) (fun _ h9 => h9) rfl dX6_foresee_43 ?_
    have hR : (v.1, u6, v.2.2.1, v.2.2.2.1, v.2.2.2.2) = r := Option.some.inj hf
    subst hR
    exact W.aret (v := .ref (a 19)) hx hb hr0 (Or.inl ⟨_, rfl⟩) (Or.inr ⟨_, rfl⟩) (fun t ht hW => ⟨⟨(), _, rfl, trivial, rfl, by rw [ht]; exact hP, hD⟩, hS.F ht⟩) hS.2.2 dX6_foresee_46
theorem hd_X6_beginOf : yX6_beginOf.cls ≠ "java/lang/invoke/MethodHandle" ∧ yX6_beginOf.cls ≠ "java/lang/invoke/VarHandle" ∧ (parseMethodDescriptor yX6_beginOf.desc).map (fun d => d.parameters.length) = some 1 := by decide +kernel
def f_X6_beginOf (v : CV) (p0 : Int32) : Option (Nat ⊕ (Int32 × CV)) :=
  (f_X0_has v.1.1 p0).bind (fun u1 =>
  if (zb u1) = 0 then
    some (.inl 3)
  else
    (f_X6_foresee v (-1)).bind (fun u3 =>
    (f_X0_begunAt u3.2.1.1 p0).bind (fun u4 =>
    some (.inr (u4, u3)))))
set_option maxHeartbeats 4000000 in
set_option maxRecDepth 100000 in
theorem c_X6_beginOf (l : Launch) (hst9 : l.stackTraces = false) (g : zG) (a : Nat → Nat) (v : CV) (p0 : Int32) (r : Nat ⊕ (Int32 × CV)) (hf : f_X6_beginOf v p0 = some r) : zMx zNF zNM l yX6_beginOf (zw yX6_beginOf cX6_beginOf 2 (some .int)) ({ frames := 7, cells := 1, slots := 6, locals := 161 } : Room) g [.ref (a 0), .int p0] (zX6 g a v) r (fun q => q.1) (fun q => (zX6 g a q.2)) := by
  intro sz
  refine vx_ofW (cc := cX6_beginOf) (maxL := 2) (ret := (some .int)) (by decide) rfl ?_
  intro p e s m args below meth c s₁ B hml htab hv
  obtain ⟨rfl, ⟨hsz, hP, hK, hD0⟩, hKx, hZs⟩ := hv
  have hx := B.exec
  have hb := B.bytes
  have hr0 := B.returns
  have hts := atoms_spec (ws := (zw yX6_beginOf cX6_beginOf 2 (some .int))) B.pre
  have hw0 : ∀ w ∈ zW, w.before ([.ref (a 0), .int p0] : List Value).toArray s = true := fun w h => hts w (List.mem_cons_of_mem _ h)
  have hown : s.vm.findClass RX6 = some m.cls := findClass_of_methodNamed B.named
  have hlocks := B.notSynchronized
  subst hsz
  have hD := hD0.self (sz := s.heap.size)
  generalize hAe : va_A (zX6 g a v) s.heap.size = A at hD hZs ⊢
  have hA : ∀ q : Nat, s.heap.size ≤ q → A q := fun q h => by rw [← hAe]; exact Or.inr h
  have hS : va_S A s.heap s.heap [] := va_S.rf
  unfold f_X6_beginOf at hf
  have hl := lv_entry ([.ref (a 0), .int p0]) (n := 2) (Nat.le_of_ble_eq_true rfl)
  rw [lg_entry_eq]
  generalize (lg_sl ([.ref (a 0), .int p0]) ++ List.replicate (2 - (lg_sl ([.ref (a 0), .int p0])).length) Slot.unset).toArray = ls at hl ⊢
  have hl : lv_has ls 2 [(0, .ref (a 0)), (1, .int p0)] := hl
  refine lv_aload_n hx hb dX6_beginOf_0 rfl (lv_at hl 0 rfl) ?_
  refine va_get (D := g.1) (ci := 6) (v := .ref (a 1)) (C := RX6) (T := TX6) (N := 5) hx hb hw0 ziX6 hown hK.1 hP 0 rfl rfl 0 (by decide) (hw0 _ zm1_209) (fun _ h9 => h9) rfl dX6_beginOf_1 ?_
  refine va_getN (D := g.1) (ci := 2) (v := .ref (a 2)) (C := RX2) (T := TX2) (N := 11) hx hb hw0 ziX2 hown hK.1 hP 1 rfl rfl 0 (by decide) (va_Nw.use rfl (zf_21 hK)) (fun _ h9 => h9) rfl dX6_beginOf_4 ?_
  refine lv_iload_n hx hb dX6_beginOf_7 rfl (lv_at hl 1 rfl) ?_
  obtain ⟨u1, hu1, hf⟩ := ob hf
  refine zk_iR (va_runVN (As := [.int p0]) (rest := []) ⟨hx, hb, hml, hown, hts⟩ (c_X0_has l g (fun k => a (k + 2)) v.1.1 p0 _ hu1 _) (zcN hw0 (zn_23 hK) zm2_58 zm1_3 zm2_57 zs1_15 hd_X0_has rfl rfl ⟨Nat.le_of_ble_eq_true rfl, Nat.le_of_ble_eq_true rfl⟩) ⟨zblind, zrecv (wc := zX0 g (fun k => a (k + 2)) v.1.1) hK hP [2, 3, 4, 5, 6, 7] rfl (ci := 0) rfl rfl, zpre hK hP hD [2, 3, 4, 5, 6, 7] rfl rfl⟩ rfl rfl hl.1 rfl (lv_room (Nat.le_of_ble_eq_true rfl)) dX6_beginOf_8 ⟨Nat.zero_le _, Nat.zero_le _⟩) hP hD hS hA [2, 3, 4, 5, 6, 7] rfl (fun H locs hP hD hS => ?_)
  refine lv_if_ne (tgt := 24) hx hb dX6_beginOf_11 (by decide) (fun c2 => ?_) (fun c2 => ?_)
  · have hf := oe hf c2
    refine lv_aload_n hx hb dX6_beginOf_24 rfl (lv_at hl 0 rfl) ?_
    refine lv_iconst (v := (-1)) hx hb dX6_beginOf_25 (by decide) ?_
    obtain ⟨u3, hu3, hf⟩ := ob hf
    refine zk_rA (va_runV (As := [.int (-1)]) (rest := []) ⟨hx, hb, hml, hown, hts⟩ (c_X6_foresee l g a v (-1) _ hu3 _) (zcV hw0 zm2_136 zm2_139 zm1_1 zm2_138 zs2_15 hd_X6_foresee rfl rfl ⟨Nat.le_of_ble_eq_true rfl, Nat.le_of_ble_eq_true rfl⟩) ⟨zblind, zrecvA hK hP (ci := 6) rfl rfl, zpreA hK hP hD⟩ rfl rfl hl.1 rfl (lv_room (Nat.le_of_ble_eq_true rfl)) dX6_beginOf_26 ⟨Nat.zero_le _, Nat.zero_le _⟩) hP hD hS hA (fun H locs hP hD hS => ?_)
    have hP : va_P g.1 vwCl (zX6 g a u3) H := hP
    have hD : va_D A (zX6 g a u3) := hD
    refine va_getN (D := g.1) (ci := 2) (v := .ref (a 20)) (C := RX2) (T := TX2) (N := 11) hx hb hw0 ziX2 hown hK.1 hP 19 rfl rfl 0 (by decide) (va_Nw.use rfl (zf_21 hK)) (fun _ h9 => h9) rfl dX6_beginOf_29 ?_
    refine lv_iload_n hx hb dX6_beginOf_32 rfl (lv_at hl 1 rfl) ?_
    obtain ⟨u4, hu4, hf⟩ := ob hf
    refine zk_iR (va_runVN (As := [.int p0]) (rest := []) ⟨hx, hb, hml, hown, hts⟩ (c_X0_begunAt l g (fun k => a (k + 20)) u3.2.1.1 p0 _ hu4 _) (zcN hw0 (zn_39 hK) zm3_35 zm1_3 zm3_34 zs4_8 hd_X0_begunAt rfl rfl ⟨Nat.le_of_ble_eq_true rfl, Nat.le_of_ble_eq_true rfl⟩) ⟨zblind, zrecv (wc := zX0 g (fun k => a (k + 20)) u3.2.1.1) hK hP [20, 21, 22, 23, 24, 25] rfl (ci := 0) rfl rfl, zpre hK hP hD [20, 21, 22, 23, 24, 25] rfl rfl⟩ rfl rfl hl.1 rfl (lv_room (Nat.le_of_ble_eq_true rfl)) dX6_beginOf_33 ⟨Nat.zero_le _, Nat.zero_le _⟩) hP hD hS hA [20, 21, 22, 23, 24, 25] rfl (fun H locs hP hD hS => ?_)
    have hR : (Sum.inr (u4, u3) : Nat ⊕ (Int32 × CV)) = r := Option.some.inj hf
    subst hR
    refine W.widen (k := 1) (n := 6) (Nat.zero_le _) (Nat.zero_le _) ?_
    exact vx_ret (W.iret (v := u4) hx hb hr0 (fun t ht hW => ⟨⟨u4, (), rfl, ⟨_, rfl, rfl⟩, _, rfl, by rw [ht]; exact hP, hD⟩, hS.F ht⟩) hS.2.2 dX6_beginOf_36)
  · have hf := oi hf c2
    have hR : (Sum.inl 3 : Nat ⊕ (Int32 × CV)) = r := Option.some.inj hf
    exact zthrow (ik := 86) (is := 88) (ic := 90) (text := "element") (k := 3) hx hb hst9 hown (hw0 _ zm3_162) (hw0 _ zm1_15) (hKx.2 ("HourClock", 88, "element") (by decide +kernel)) hKx.1 hw0 zx_w3 zx_b3 zx_o3 hZs (by decide +kernel) (by decide +kernel) hP hD hS (hl.1.trans hml.symm) htab dX6_beginOf_14 dX6_beginOf_17 dX6_beginOf_18 dX6_beginOf_20 dX6_beginOf_23 (by decide) (by decide) (Nat.le_of_ble_eq_true rfl) (Nat.le_of_ble_eq_true rfl) hlocks hR.symm rfl
theorem hd_X6_endOfHour : yX6_endOfHour.cls ≠ "java/lang/invoke/MethodHandle" ∧ yX6_endOfHour.cls ≠ "java/lang/invoke/VarHandle" ∧ (parseMethodDescriptor yX6_endOfHour.desc).map (fun d => d.parameters.length) = some 0 := by decide +kernel
def f_X6_endOfHour (v : CV) : Option (Int32 × CV) :=
  (f_X6_foresee v (-1)).bind (fun u1 =>
  some (u1.2.1.2.2.2.1, u1))
set_option maxHeartbeats 4000000 in
set_option maxRecDepth 100000 in
theorem c_X6_endOfHour (l : Launch) (g : zG) (a : Nat → Nat) (v : CV) (r : Int32 × CV) (hf : f_X6_endOfHour v = some r) : zMi zNF zNM l yX6_endOfHour (zw yX6_endOfHour cX6_endOfHour 1 (some .int)) ({ frames := 7, cells := 0, slots := 0, locals := 161 } : Room) g [.ref (a 0)] (zX6 g a v) r.1 (zX6 g a r.2) := by
  intro sz
  refine Met.ofW (cc := cX6_endOfHour) (maxL := 1) (ret := (some .int)) (by decide) rfl ?_
  intro p e s m args below meth c s₁ B hml hv
  obtain ⟨rfl, hsz, hP, hK, hD0⟩ := hv
  have hx := B.exec
  have hb := B.bytes
  have hr0 := B.returns
  have hts := atoms_spec (ws := (zw yX6_endOfHour cX6_endOfHour 1 (some .int))) B.pre
  have hw0 : ∀ w ∈ zW, w.before ([.ref (a 0)] : List Value).toArray s = true := fun w h => hts w (List.mem_cons_of_mem _ h)
  have hown : s.vm.findClass RX6 = some m.cls := findClass_of_methodNamed B.named
  have hlocks := B.notSynchronized
  subst hsz
  have hD := hD0.self (sz := s.heap.size)
  generalize hAe : va_A (zX6 g a v) s.heap.size = A at hD ⊢
  have hA : ∀ q : Nat, s.heap.size ≤ q → A q := fun q h => by rw [← hAe]; exact Or.inr h
  have hS : va_S A s.heap s.heap [] := va_S.rf
  unfold f_X6_endOfHour at hf
  have hl := lv_entry ([.ref (a 0)]) (n := 1) (Nat.le_of_ble_eq_true rfl)
  rw [lg_entry_eq]
  generalize (lg_sl ([.ref (a 0)]) ++ List.replicate (1 - (lg_sl ([.ref (a 0)])).length) Slot.unset).toArray = ls at hl ⊢
  have hl : lv_has ls 1 [(0, .ref (a 0))] := hl
  refine lv_aload_n hx hb dX6_endOfHour_0 rfl (lv_at hl 0 rfl) ?_
  refine lv_iconst (v := (-1)) hx hb dX6_endOfHour_1 (by decide) ?_
  obtain ⟨u1, hu1, hf⟩ := ob hf
  refine zk_rA (va_runV (As := [.int (-1)]) (rest := []) ⟨hx, hb, hml, hown, hts⟩ (c_X6_foresee l g a v (-1) _ hu1 _) (zcV hw0 zm2_136 zm2_139 zm1_1 zm2_138 zs2_15 hd_X6_foresee rfl rfl ⟨Nat.le_of_ble_eq_true rfl, Nat.le_of_ble_eq_true rfl⟩) ⟨zblind, zrecvA hK hP (ci := 6) rfl rfl, zpreA hK hP hD⟩ rfl rfl hl.1 rfl (lv_room (Nat.le_of_ble_eq_true rfl)) dX6_endOfHour_2 ⟨Nat.zero_le _, Nat.zero_le _⟩) hP hD hS hA (fun H locs hP hD hS => ?_)
  have hP : va_P g.1 vwCl (zX6 g a u1) H := hP
  have hD : va_D A (zX6 g a u1) := hD
  refine va_getN (D := g.1) (ci := 2) (v := .int u1.2.1.2.2.2.1) (C := RX2) (T := TX2) (N := 11) hx hb hw0 ziX2 hown hK.1 hP 19 rfl rfl 3 (by decide) (va_Nw.use rfl (zf_26 hK)) (fun _ h9 => h9) rfl dX6_endOfHour_5 ?_
  have hR : (u1.2.1.2.2.2.1, u1) = r := Option.some.inj hf
  subst hR
  exact W.iret (v := u1.2.1.2.2.2.1) hx hb hr0 (fun t ht hW => ⟨⟨u1.2.1.2.2.2.1, (), rfl, rfl, by rw [ht]; exact hP, hD⟩, hS.F ht⟩) hS.2.2 dX6_endOfHour_8
theorem hd_X6_drops : yX6_drops.cls ≠ "java/lang/invoke/MethodHandle" ∧ yX6_drops.cls ≠ "java/lang/invoke/VarHandle" ∧ (parseMethodDescriptor yX6_drops.desc).map (fun d => d.parameters.length) = some 0 := by decide +kernel
def s_X6_drops_10 (v : CV) (x : Int32 × Int32) : Option ((Int32 × Int32) ⊕ (Int32 × Int32)) :=
  if v.1.1.1 ≤ x.2 then
    some (.inr (x.1, x.2))
  else
    (f_X0_waits v.1.1 x.2).bind (fun u3 =>
    if (zb u3) = 0 then
      some (.inl (x.1, (x.2 + 1)))
    else
      (f_X0_is v.2.1.1 x.2 3).bind (fun u5 =>
      if (zb u5) = 0 then
        some (.inl (x.1, (x.2 + 1)))
      else
        some (.inl ((x.1 ||| (1 <<< (x.2 &&& 31))), (x.2 + 1)))))
def f_X6_drops (v : CV) : Option (Int32 × CV) :=
  (f_X6_foresee v (-1)).bind (fun u1 =>
  (zloop (s_X6_drops_10 u1) 4096 (0, 0)).bind (fun u7 =>
  some (u7.1, u1)))
set_option maxHeartbeats 4000000 in
set_option maxRecDepth 100000 in
theorem c_X6_drops (l : Launch) (g : zG) (a : Nat → Nat) (v : CV) (r : Int32 × CV) (hf : f_X6_drops v = some r) : zMi zNF zNM l yX6_drops (zw yX6_drops cX6_drops 4 (some .int)) ({ frames := 7, cells := 0, slots := 0, locals := 161 } : Room) g [.ref (a 0)] (zX6 g a v) r.1 (zX6 g a r.2) := by
  intro sz
  refine Met.ofW (cc := cX6_drops) (maxL := 4) (ret := (some .int)) (by decide) rfl ?_
  intro p e s m args below meth c s₁ B hml hv
  obtain ⟨rfl, hsz, hP, hK, hD0⟩ := hv
  have hx := B.exec
  have hb := B.bytes
  have hr0 := B.returns
  have hts := atoms_spec (ws := (zw yX6_drops cX6_drops 4 (some .int))) B.pre
  have hw0 : ∀ w ∈ zW, w.before ([.ref (a 0)] : List Value).toArray s = true := fun w h => hts w (List.mem_cons_of_mem _ h)
  have hown : s.vm.findClass RX6 = some m.cls := findClass_of_methodNamed B.named
  have hlocks := B.notSynchronized
  subst hsz
  have hD := hD0.self (sz := s.heap.size)
  generalize hAe : va_A (zX6 g a v) s.heap.size = A at hD ⊢
  have hA : ∀ q : Nat, s.heap.size ≤ q → A q := fun q h => by rw [← hAe]; exact Or.inr h
  have hS : va_S A s.heap s.heap [] := va_S.rf
  have lp10 : ∀ (v : CV), ∀ (n : Nat) (x : Int32 × Int32) (rr : Int32 × Int32), zloop (s_X6_drops_10 v) n x = some rr → (∀ (H : Heap) (locs : List Loc), va_P g.1 vwCl (zX6 g a v) H → va_D A (zX6 g a v) → va_S A s.heap H locs → ∀ ls : Array Slot, lv_has ls 4 [(2, .int rr.1)] → W p l e (headSpec (zw yX6_drops cX6_drops 4 (some .int)) ({ frames := 7, cells := 0, slots := 0, locals := 161 } : Room)).room s m ([.ref (a 0)] : List Value).toArray below meth c H locs 0 0 (MQ below (va_Qi (fun (x : Int32) (_ : Unit) => x = r.1) (fun _ => zEnd g A (zX6 g a r.2)) A) ([.ref (a 0)] : List Value).toArray s 0 0 A) (F0 m 62 ls [])) → ∀ (H : Heap) (locs : List Loc), va_P g.1 vwCl (zX6 g a v) H → va_D A (zX6 g a v) → va_S A s.heap H locs → ∀ ls : Array Slot, lv_has ls 4 [(0, .ref (a 0)), (1, .ref (a 19)), (2, .int x.1), (3, .int x.2)] → W p l e (headSpec (zw yX6_drops cX6_drops 4 (some .int)) ({ frames := 7, cells := 0, slots := 0, locals := 161 } : Room)).room s m ([.ref (a 0)] : List Value).toArray below meth c H locs 0 0 (MQ below (va_Qi (fun (x : Int32) (_ : Unit) => x = r.1) (fun _ => zEnd g A (zX6 g a r.2)) A) ([.ref (a 0)] : List Value).toArray s 0 0 A) (F0 m 10 ls []) := by
    intro v
    refine zloop_ind ?_
    intro x y rr hf ih hr hQ H locs hP hD hS ls hl
    unfold s_X6_drops_10 at hf
    refine lv_iload_n hx hb dX6_drops_10 rfl (lv_at hl 3 rfl) ?_
    refine lv_aload_n hx hb dX6_drops_11 rfl (lv_at hl 0 rfl) ?_
    refine va_get (D := g.1) (ci := 6) (v := .ref (a 1)) (C := RX6) (T := TX6) (N := 5) hx hb hw0 ziX6 hown hK.1 hP 0 rfl rfl 0 (by decide) (hw0 _ zm1_209) (fun _ h9 => h9) rfl dX6_drops_12 ?_
    refine va_getN (D := g.1) (ci := 2) (v := .ref (a 2)) (C := RX2) (T := TX2) (N := 11) hx hb hw0 ziX2 hown hK.1 hP 1 rfl rfl 0 (by decide) (va_Nw.use rfl (zf_21 hK)) (fun _ h9 => h9) rfl dX6_drops_15 ?_
    refine va_getN (D := g.1) (ci := 0) (v := .int v.1.1.1) (C := RX0) (T := TX0) (N := 6) hx hb hw0 ziX0 hown hK.1 hP 2 rfl rfl 0 (by decide) (va_Nw.use rfl (zf_0 hK)) (fun _ h9 => h9) rfl dX6_drops_18 ?_
    refine lv_icmp_ge (tgt := 62) hx hb dX6_drops_21 (by decide) (fun c2 => ?_) (fun c2 => ?_)
    · have hf := oi hf c2
      have hR : (x.1, x.2) = rr := hr _ (Option.some.inj hf).symm
      subst hR
      exact hQ _ _ hP hD hS _ (lv_sub hl [2] rfl)
    · have hf := oe hf c2
      refine lv_aload_n hx hb dX6_drops_24 rfl (lv_at hl 0 rfl) ?_
      refine va_get (D := g.1) (ci := 6) (v := .ref (a 1)) (C := RX6) (T := TX6) (N := 5) hx hb hw0 ziX6 hown hK.1 hP 0 rfl rfl 0 (by decide) (hw0 _ zm1_209) (fun _ h9 => h9) rfl dX6_drops_25 ?_
      refine va_getN (D := g.1) (ci := 2) (v := .ref (a 2)) (C := RX2) (T := TX2) (N := 11) hx hb hw0 ziX2 hown hK.1 hP 1 rfl rfl 0 (by decide) (va_Nw.use rfl (zf_21 hK)) (fun _ h9 => h9) rfl dX6_drops_28 ?_
      refine lv_iload_n hx hb dX6_drops_31 rfl (lv_at hl 3 rfl) ?_
      obtain ⟨u3, hu3, hf⟩ := ob hf
      refine zk_iR (va_runVN (As := [.int x.2]) (rest := []) ⟨hx, hb, hml, hown, hts⟩ (c_X0_waits l g (fun k => a (k + 2)) v.1.1 x.2 _ hu3 _) (zcN hw0 (zn_25 hK) zm2_149 zm1_3 zm2_148 zs3_0 hd_X0_waits rfl rfl ⟨Nat.le_of_ble_eq_true rfl, Nat.le_of_ble_eq_true rfl⟩) ⟨zblind, zrecv (wc := zX0 g (fun k => a (k + 2)) v.1.1) hK hP [2, 3, 4, 5, 6, 7] rfl (ci := 0) rfl rfl, zpre hK hP hD [2, 3, 4, 5, 6, 7] rfl rfl⟩ rfl rfl hl.1 rfl (lv_room (Nat.le_of_ble_eq_true rfl)) dX6_drops_32 ⟨Nat.zero_le _, Nat.zero_le _⟩) hP hD hS hA [2, 3, 4, 5, 6, 7] rfl (fun H locs hP hD hS => ?_)
      refine lv_if_eq (tgt := 56) hx hb dX6_drops_35 (by decide) (fun c4 => ?_) (fun c4 => ?_)
      · have hf := oi hf c4
        refine lv_iinc (v := (x.2 + 1)) (lv' := [(3, .int (x.2 + 1)), (0, .ref (a 0)), (1, .ref (a 19)), (2, .int x.1)]) hx hb dX6_drops_56 hl (k := 3) rfl rfl (by decide) rfl (fun ls hl => ?_)
        refine lv_goto (tgt := 10) hx hb dX6_drops_59 (by decide) ?_
        exact ih (x.1, (x.2 + 1)) (Option.some.inj hf).symm hQ _ _ hP hD hS _ (lv_sub hl [1, 2, 3, 0] rfl)
      · have hf := oe hf c4
        refine lv_aload_n hx hb dX6_drops_38 rfl (lv_at hl 1 rfl) ?_
        refine va_getN (D := g.1) (ci := 2) (v := .ref (a 20)) (C := RX2) (T := TX2) (N := 11) hx hb hw0 ziX2 hown hK.1 hP 19 rfl rfl 0 (by decide) (va_Nw.use rfl (zf_21 hK)) (fun _ h9 => h9) rfl dX6_drops_39 ?_
        refine lv_iload_n hx hb dX6_drops_42 rfl (lv_at hl 3 rfl) ?_
        refine lv_iconst (v := 3) hx hb dX6_drops_43 (by decide) ?_
        obtain ⟨u5, hu5, hf⟩ := ob hf
        refine zk_iR (va_runVN (As := [.int x.2, .int 3]) (rest := []) ⟨hx, hb, hml, hown, hts⟩ (c_X0_is l g (fun k => a (k + 20)) v.2.1.1 x.2 3 _ hu5 _) (zcN hw0 (zn_26 hK) zm2_153 zm1_3 zm2_152 zs3_1 hd_X0_is rfl rfl ⟨Nat.le_of_ble_eq_true rfl, Nat.le_of_ble_eq_true rfl⟩) ⟨zblind, zrecv (wc := zX0 g (fun k => a (k + 20)) v.2.1.1) hK hP [20, 21, 22, 23, 24, 25] rfl (ci := 0) rfl rfl, zpre hK hP hD [20, 21, 22, 23, 24, 25] rfl rfl⟩ rfl rfl hl.1 rfl (lv_room (Nat.le_of_ble_eq_true rfl)) dX6_drops_44 ⟨Nat.zero_le _, Nat.zero_le _⟩) hP hD hS hA [20, 21, 22, 23, 24, 25] rfl (fun H locs hP hD hS => ?_)
        refine lv_if_eq (tgt := 56) hx hb dX6_drops_47 (by decide) (fun c6 => ?_) (fun c6 => ?_)
        · have hf := oi hf c6
          refine lv_iinc (v := (x.2 + 1)) (lv' := [(3, .int (x.2 + 1)), (0, .ref (a 0)), (1, .ref (a 19)), (2, .int x.1)]) hx hb dX6_drops_56 hl (k := 3) rfl rfl (by decide) rfl (fun ls hl => ?_)
          refine lv_goto (tgt := 10) hx hb dX6_drops_59 (by decide) ?_
          exact ih (x.1, (x.2 + 1)) (Option.some.inj hf).symm hQ _ _ hP hD hS _ (lv_sub hl [1, 2, 3, 0] rfl)
        · have hf := oe hf c6
          refine lv_iload_n hx hb dX6_drops_50 rfl (lv_at hl 2 rfl) ?_
          refine lv_iconst (v := 1) hx hb dX6_drops_51 (by decide) ?_
          refine lv_iload_n hx hb dX6_drops_52 rfl (lv_at hl 3 rfl) ?_
          refine lv_ishl hx hb dX6_drops_53 ?_
          refine lv_ior hx hb dX6_drops_54 ?_
          refine lv_istore_n (lv' := [(2, .int (x.1 ||| (1 <<< (x.2 &&& 31)))), (0, .ref (a 0)), (1, .ref (a 19)), (3, .int x.2)]) hx hb dX6_drops_55 rfl hl (by decide) rfl (fun ls hl => ?_)
          refine lv_iinc (v := (x.2 + 1)) (lv' := [(3, .int (x.2 + 1)), (2, .int (x.1 ||| (1 <<< (x.2 &&& 31)))), (0, .ref (a 0)), (1, .ref (a 19))]) hx hb dX6_drops_56 hl (k := 3) rfl rfl (by decide) rfl (fun ls hl => ?_)
          refine lv_goto (tgt := 10) hx hb dX6_drops_59 (by decide) ?_
          exact ih ((x.1 ||| (1 <<< (x.2 &&& 31))), (x.2 + 1)) (Option.some.inj hf).symm hQ _ _ hP hD hS _ (lv_sub hl [2, 3, 1, 0] rfl)
  unfold f_X6_drops at hf
  have hl := lv_entry ([.ref (a 0)]) (n := 4) (Nat.le_of_ble_eq_true rfl)
  rw [lg_entry_eq]
  generalize (lg_sl ([.ref (a 0)]) ++ List.replicate (4 - (lg_sl ([.ref (a 0)])).length) Slot.unset).toArray = ls at hl ⊢
  have hl : lv_has ls 4 [(0, .ref (a 0))] := hl
  refine lv_aload_n hx hb dX6_drops_0 rfl (lv_at hl 0 rfl) ?_
  refine lv_iconst (v := (-1)) hx hb dX6_drops_1 (by decide) ?_
  obtain ⟨u1, hu1, hf⟩ := ob hf
  refine zk_rA (va_runV (As := [.int (-1)]) (rest := []) ⟨hx, hb, hml, hown, hts⟩ (c_X6_foresee l g a v (-1) _ hu1 _) (zcV hw0 zm2_136 zm2_139 zm1_1 zm2_138 zs2_15 hd_X6_foresee rfl rfl ⟨Nat.le_of_ble_eq_true rfl, Nat.le_of_ble_eq_true rfl⟩) ⟨zblind, zrecvA hK hP (ci := 6) rfl rfl, zpreA hK hP hD⟩ rfl rfl hl.1 rfl (lv_room (Nat.le_of_ble_eq_true rfl)) dX6_drops_2 ⟨Nat.zero_le _, Nat.zero_le _⟩) hP hD hS hA (fun H locs hP hD hS => ?_)
  have hP : va_P g.1 vwCl (zX6 g a u1) H := hP
  have hD : va_D A (zX6 g a u1) := hD
  refine lv_astore_n (lv' := [(1, .ref (a 19)), (0, .ref (a 0))]) hx hb dX6_drops_5 rfl hl (by decide) rfl (fun ls hl => ?_)
  refine lv_iconst (v := 0) hx hb dX6_drops_6 (by decide) ?_
  refine lv_istore_n (lv' := [(2, .int 0), (1, .ref (a 19)), (0, .ref (a 0))]) hx hb dX6_drops_7 rfl hl (by decide) rfl (fun ls hl => ?_)
  refine lv_iconst (v := 0) hx hb dX6_drops_8 (by decide) ?_
  refine lv_istore_n (lv' := [(3, .int 0), (2, .int 0), (1, .ref (a 19)), (0, .ref (a 0))]) hx hb dX6_drops_9 rfl hl (by decide) rfl (fun ls hl => ?_)
  obtain ⟨u7, hu7, hf⟩ := ob hf
  refine lp10 u1 _ _ u7 hu7 (fun H locs hP hD hS ls hl => ?_) _ _ hP hD hS _ (lv_sub hl [3, 2, 1, 0] rfl)
  have hl : lv_has ls 4 [(2, .int u7.1)] := hl
  have hP : va_P g.1 vwCl (zX6 g a u1) H := hP
  have hD : va_D A (zX6 g a u1) := hD
  refine lv_iload_n hx hb dX6_drops_62 rfl (lv_at hl 0 rfl) ?_
  have hR : (u7.1, u1) = r := Option.some.inj hf
  subst hR
  exact W.iret (v := u7.1) hx hb hr0 (fun t ht hW => ⟨⟨u7.1, (), rfl, rfl, by rw [ht]; exact hP, hD⟩, hS.F ht⟩) hS.2.2 dX6_drops_63
theorem hd_X6_silence : yX6_silence.cls ≠ "java/lang/invoke/MethodHandle" ∧ yX6_silence.cls ≠ "java/lang/invoke/VarHandle" ∧ (parseMethodDescriptor yX6_silence.desc).map (fun d => d.parameters.length) = some 0 := by decide +kernel
def f_X6_silence (v : CV) : Option (Int32 × CV) :=
  (f_X6_foresee v (-1)).bind (fun u1 =>
  some ((u1.2.1.2.2.2.2.2.1 - u1.1.2.2.2.2.2.1), u1))
set_option maxHeartbeats 4000000 in
set_option maxRecDepth 100000 in
theorem c_X6_silence (l : Launch) (g : zG) (a : Nat → Nat) (v : CV) (r : Int32 × CV) (hf : f_X6_silence v = some r) : zMi zNF zNM l yX6_silence (zw yX6_silence cX6_silence 1 (some .int)) ({ frames := 7, cells := 0, slots := 0, locals := 161 } : Room) g [.ref (a 0)] (zX6 g a v) r.1 (zX6 g a r.2) := by
  intro sz
  refine Met.ofW (cc := cX6_silence) (maxL := 1) (ret := (some .int)) (by decide) rfl ?_
  intro p e s m args below meth c s₁ B hml hv
  obtain ⟨rfl, hsz, hP, hK, hD0⟩ := hv
  have hx := B.exec
  have hb := B.bytes
  have hr0 := B.returns
  have hts := atoms_spec (ws := (zw yX6_silence cX6_silence 1 (some .int))) B.pre
  have hw0 : ∀ w ∈ zW, w.before ([.ref (a 0)] : List Value).toArray s = true := fun w h => hts w (List.mem_cons_of_mem _ h)
  have hown : s.vm.findClass RX6 = some m.cls := findClass_of_methodNamed B.named
  have hlocks := B.notSynchronized
  subst hsz
  have hD := hD0.self (sz := s.heap.size)
  generalize hAe : va_A (zX6 g a v) s.heap.size = A at hD ⊢
  have hA : ∀ q : Nat, s.heap.size ≤ q → A q := fun q h => by rw [← hAe]; exact Or.inr h
  have hS : va_S A s.heap s.heap [] := va_S.rf
  unfold f_X6_silence at hf
  have hl := lv_entry ([.ref (a 0)]) (n := 1) (Nat.le_of_ble_eq_true rfl)
  rw [lg_entry_eq]
  generalize (lg_sl ([.ref (a 0)]) ++ List.replicate (1 - (lg_sl ([.ref (a 0)])).length) Slot.unset).toArray = ls at hl ⊢
  have hl : lv_has ls 1 [(0, .ref (a 0))] := hl
  refine lv_aload_n hx hb dX6_silence_0 rfl (lv_at hl 0 rfl) ?_
  refine lv_iconst (v := (-1)) hx hb dX6_silence_1 (by decide) ?_
  obtain ⟨u1, hu1, hf⟩ := ob hf
  refine zk_rA (va_runV (As := [.int (-1)]) (rest := []) ⟨hx, hb, hml, hown, hts⟩ (c_X6_foresee l g a v (-1) _ hu1 _) (zcV hw0 zm2_136 zm2_139 zm1_1 zm2_138 zs2_15 hd_X6_foresee rfl rfl ⟨Nat.le_of_ble_eq_true rfl, Nat.le_of_ble_eq_true rfl⟩) ⟨zblind, zrecvA hK hP (ci := 6) rfl rfl, zpreA hK hP hD⟩ rfl rfl hl.1 rfl (lv_room (Nat.le_of_ble_eq_true rfl)) dX6_silence_2 ⟨Nat.zero_le _, Nat.zero_le _⟩) hP hD hS hA (fun H locs hP hD hS => ?_)
  have hP : va_P g.1 vwCl (zX6 g a u1) H := hP
  have hD : va_D A (zX6 g a u1) := hD
  refine va_getN (D := g.1) (ci := 2) (v := .int u1.2.1.2.2.2.2.2.1) (C := RX2) (T := TX2) (N := 11) hx hb hw0 ziX2 hown hK.1 hP 19 rfl rfl 5 (by decide) (va_Nw.use rfl (zf_28 hK)) (fun _ h9 => h9) rfl dX6_silence_5 ?_
  refine lv_aload_n hx hb dX6_silence_8 rfl (lv_at hl 0 rfl) ?_
  refine va_get (D := g.1) (ci := 6) (v := .ref (a 1)) (C := RX6) (T := TX6) (N := 5) hx hb hw0 ziX6 hown hK.1 hP 0 rfl rfl 0 (by decide) (hw0 _ zm1_209) (fun _ h9 => h9) rfl dX6_silence_9 ?_
  refine va_getN (D := g.1) (ci := 2) (v := .int u1.1.2.2.2.2.2.1) (C := RX2) (T := TX2) (N := 11) hx hb hw0 ziX2 hown hK.1 hP 1 rfl rfl 5 (by decide) (va_Nw.use rfl (zf_28 hK)) (fun _ h9 => h9) rfl dX6_silence_12 ?_
  refine lv_isub hx hb dX6_silence_15 ?_
  have hR : ((u1.2.1.2.2.2.2.2.1 - u1.1.2.2.2.2.2.1), u1) = r := Option.some.inj hf
  subst hR
  exact W.iret (v := (u1.2.1.2.2.2.2.2.1 - u1.1.2.2.2.2.2.1)) hx hb hr0 (fun t ht hW => ⟨⟨(u1.2.1.2.2.2.2.2.1 - u1.1.2.2.2.2.2.1), (), rfl, rfl, by rw [ht]; exact hP, hD⟩, hS.F ht⟩) hS.2.2 dX6_silence_16
theorem hd_X6_choice : yX6_choice.cls ≠ "java/lang/invoke/MethodHandle" ∧ yX6_choice.cls ≠ "java/lang/invoke/VarHandle" ∧ (parseMethodDescriptor yX6_choice.desc).map (fun d => d.parameters.length) = some 1 := by decide +kernel
def f_X6_choice (v : CV) (p0 : Int32) : Option (Nat ⊕ (Int32 × CV)) :=
  if p0 < 1 then
    some (.inl 1)
  else
    if p0 ≤ 3600 then
      (f_X1_chooseFor v.1.2.1 p0).bind (fun u3 =>
      some (.inr (u3.1, ((v.1.1, u3.2, v.1.2.2.1, v.1.2.2.2.1, v.1.2.2.2.2.1, v.1.2.2.2.2.2.1, v.1.2.2.2.2.2.2.1, v.1.2.2.2.2.2.2.2.1, v.1.2.2.2.2.2.2.2.2.1, v.1.2.2.2.2.2.2.2.2.2.1, v.1.2.2.2.2.2.2.2.2.2.2), v.2.1, v.2.2.1, v.2.2.2.1, v.2.2.2.2))))
    else
      some (.inl 1)
set_option maxHeartbeats 4000000 in
set_option maxRecDepth 100000 in
theorem c_X6_choice (l : Launch) (hst9 : l.stackTraces = false) (g : zG) (a : Nat → Nat) (v : CV) (p0 : Int32) (r : Nat ⊕ (Int32 × CV)) (hf : f_X6_choice v p0 = some r) : zMx zNF zNM l yX6_choice (zw yX6_choice cX6_choice 2 (some .int)) ({ frames := 6, cells := 1, slots := 6, locals := 100 } : Room) g [.ref (a 0), .int p0] (zX6 g a v) r (fun q => q.1) (fun q => (zX6 g a q.2)) := by
  intro sz
  refine vx_ofW (cc := cX6_choice) (maxL := 2) (ret := (some .int)) (by decide) rfl ?_
  intro p e s m args below meth c s₁ B hml htab hv
  obtain ⟨rfl, ⟨hsz, hP, hK, hD0⟩, hKx, hZs⟩ := hv
  have hx := B.exec
  have hb := B.bytes
  have hr0 := B.returns
  have hts := atoms_spec (ws := (zw yX6_choice cX6_choice 2 (some .int))) B.pre
  have hw0 : ∀ w ∈ zW, w.before ([.ref (a 0), .int p0] : List Value).toArray s = true := fun w h => hts w (List.mem_cons_of_mem _ h)
  have hown : s.vm.findClass RX6 = some m.cls := findClass_of_methodNamed B.named
  have hlocks := B.notSynchronized
  subst hsz
  have hD := hD0.self (sz := s.heap.size)
  generalize hAe : va_A (zX6 g a v) s.heap.size = A at hD hZs ⊢
  have hA : ∀ q : Nat, s.heap.size ≤ q → A q := fun q h => by rw [← hAe]; exact Or.inr h
  have hS : va_S A s.heap s.heap [] := va_S.rf
  unfold f_X6_choice at hf
  have hl := lv_entry ([.ref (a 0), .int p0]) (n := 2) (Nat.le_of_ble_eq_true rfl)
  rw [lg_entry_eq]
  generalize (lg_sl ([.ref (a 0), .int p0]) ++ List.replicate (2 - (lg_sl ([.ref (a 0), .int p0])).length) Slot.unset).toArray = ls at hl ⊢
  have hl : lv_has ls 2 [(0, .ref (a 0)), (1, .int p0)] := hl
  refine lv_iload_n hx hb dX6_choice_0 rfl (lv_at hl 1 rfl) ?_
  refine lv_iconst (v := 1) hx hb dX6_choice_1 (by decide) ?_
  refine lv_icmp_lt (tgt := 12) hx hb dX6_choice_2 (by decide) (fun c1 => ?_) (fun c1 => ?_)
  · have hf := oi hf c1
    have hR : (Sum.inl 1 : Nat ⊕ (Int32 × CV)) = r := Option.some.inj hf
    exact zthrow (ik := 34) (is := 173) (ic := 38) (text := "gap") (k := 1) hx hb hst9 hown (hw0 _ zm3_58) (hw0 _ zm1_12) (hKx.2 ("HourClock", 173, "gap") (by decide +kernel)) hKx.1 hw0 zx_w1 zx_b1 zx_o1 hZs (by decide +kernel) (by decide +kernel) hP hD hS (hl.1.trans hml.symm) htab dX6_choice_12 dX6_choice_15 dX6_choice_16 dX6_choice_18 dX6_choice_21 (by decide) (by decide) (Nat.le_of_ble_eq_true rfl) (Nat.le_of_ble_eq_true rfl) hlocks hR.symm rfl
  · have hf := oe hf c1
    refine lv_iload_n hx hb dX6_choice_5 rfl (lv_at hl 1 rfl) ?_
    refine lv_sipush (v := 3600) hx hb dX6_choice_6 (by decide) ?_
    refine lv_icmp_le (tgt := 22) hx hb dX6_choice_9 (by decide) (fun c2 => ?_) (fun c2 => ?_)
    · have hf := oi hf c2
      refine lv_aload_n hx hb dX6_choice_22 rfl (lv_at hl 0 rfl) ?_
      refine va_get (D := g.1) (ci := 6) (v := .ref (a 1)) (C := RX6) (T := TX6) (N := 5) hx hb hw0 ziX6 hown hK.1 hP 0 rfl rfl 0 (by decide) (hw0 _ zm1_209) (fun _ h9 => h9) rfl dX6_choice_23 ?_
      refine va_getN (D := g.1) (ci := 2) (v := .ref (a 8)) (C := RX2) (T := TX2) (N := 11) hx hb hw0 ziX2 hown hK.1 hP 1 rfl rfl 1 (by decide) (va_Nw.use rfl (zf_23 hK)) (fun _ h9 => h9) rfl dX6_choice_26 ?_
      refine lv_iload_n hx hb dX6_choice_29 rfl (lv_at hl 1 rfl) ?_
      obtain ⟨u3, hu3, hf⟩ := ob hf
      refine zk_i (va_runVN (As := [.int p0]) (rest := []) ⟨hx, hb, hml, hown, hts⟩ (c_X1_chooseFor l g (fun k => a (k + 8)) v.1.2.1 p0 _ hu3 _) (zcN hw0 (zn_52 hK) zm2_83 zm1_4 zm2_82 zs2_5 hd_X1_chooseFor rfl rfl ⟨Nat.le_of_ble_eq_true rfl, Nat.le_of_ble_eq_true rfl⟩) ⟨zblind, zrecv (wc := zX1 g (fun k => a (k + 8)) v.1.2.1) hK hP [8, 9, 10, 11, 12, 13, 14] rfl (ci := 1) rfl rfl, zpre hK hP hD [8, 9, 10, 11, 12, 13, 14] rfl rfl⟩ rfl rfl hl.1 rfl (lv_room (Nat.le_of_ble_eq_true rfl)) dX6_choice_30 ⟨Nat.zero_le _, Nat.zero_le _⟩) hP hD hS hA [8, 9, 10, 11, 12, 13, 14] rfl rfl (fun H locs hP hD hS => ?_)
      have hP : va_P g.1 vwCl (zX6 g a ((v.1.1, u3.2, v.1.2.2.1, v.1.2.2.2.1, v.1.2.2.2.2.1, v.1.2.2.2.2.2.1, v.1.2.2.2.2.2.2.1, v.1.2.2.2.2.2.2.2.1, v.1.2.2.2.2.2.2.2.2.1, v.1.2.2.2.2.2.2.2.2.2.1, v.1.2.2.2.2.2.2.2.2.2.2), v.2.1, v.2.2.1, v.2.2.2.1, v.2.2.2.2)) H := hP
      have hD : va_D A (zX6 g a ((v.1.1, u3.2, v.1.2.2.1, v.1.2.2.2.1, v.1.2.2.2.2.1, v.1.2.2.2.2.2.1, v.1.2.2.2.2.2.2.1, v.1.2.2.2.2.2.2.2.1, v.1.2.2.2.2.2.2.2.2.1, v.1.2.2.2.2.2.2.2.2.2.1, v.1.2.2.2.2.2.2.2.2.2.2), v.2.1, v.2.2.1, v.2.2.2.1, v.2.2.2.2)) := hD
      have hR : (Sum.inr (u3.1, ((v.1.1, u3.2, v.1.2.2.1, v.1.2.2.2.1, v.1.2.2.2.2.1, v.1.2.2.2.2.2.1, v.1.2.2.2.2.2.2.1, v.1.2.2.2.2.2.2.2.1, v.1.2.2.2.2.2.2.2.2.1, v.1.2.2.2.2.2.2.2.2.2.1, v.1.2.2.2.2.2.2.2.2.2.2), v.2.1, v.2.2.1, v.2.2.2.1, v.2.2.2.2)) : Nat ⊕ (Int32 × CV)) = r := Option.some.inj hf
      subst hR
      refine W.widen (k := 1) (n := 6) (Nat.zero_le _) (Nat.zero_le _) ?_
      exact vx_ret (W.iret (v := u3.1) hx hb hr0 (fun t ht hW => ⟨⟨u3.1, (), rfl, ⟨_, rfl, rfl⟩, _, rfl, by rw [ht]; exact hP, hD⟩, hS.F ht⟩) hS.2.2 dX6_choice_33)
    · have hf := oe hf c2
      have hR : (Sum.inl 1 : Nat ⊕ (Int32 × CV)) = r := Option.some.inj hf
      exact zthrow (ik := 34) (is := 173) (ic := 38) (text := "gap") (k := 1) hx hb hst9 hown (hw0 _ zm3_58) (hw0 _ zm1_12) (hKx.2 ("HourClock", 173, "gap") (by decide +kernel)) hKx.1 hw0 zx_w1 zx_b1 zx_o1 hZs (by decide +kernel) (by decide +kernel) hP hD hS (hl.1.trans hml.symm) htab dX6_choice_12 dX6_choice_15 dX6_choice_16 dX6_choice_18 dX6_choice_21 (by decide) (by decide) (Nat.le_of_ble_eq_true rfl) (Nat.le_of_ble_eq_true rfl) hlocks hR.symm rfl
theorem hd_X6_nextFull : yX6_nextFull.cls ≠ "java/lang/invoke/MethodHandle" ∧ yX6_nextFull.cls ≠ "java/lang/invoke/VarHandle" ∧ (parseMethodDescriptor yX6_nextFull.desc).map (fun d => d.parameters.length) = some 1 := by decide +kernel
def f_X6_nextFull (v : CV) (p0 : Int32) : Option (Nat ⊕ (Int32 × CV)) :=
  if p0 < 0 then
    some (.inl 1)
  else
    if p0 ≤ 3600 then
      (f_X1_leastSumAbove v.1.2.1 p0).bind (fun u3 =>
      some (.inr (u3.1, ((v.1.1, u3.2, v.1.2.2.1, v.1.2.2.2.1, v.1.2.2.2.2.1, v.1.2.2.2.2.2.1, v.1.2.2.2.2.2.2.1, v.1.2.2.2.2.2.2.2.1, v.1.2.2.2.2.2.2.2.2.1, v.1.2.2.2.2.2.2.2.2.2.1, v.1.2.2.2.2.2.2.2.2.2.2), v.2.1, v.2.2.1, v.2.2.2.1, v.2.2.2.2))))
    else
      some (.inl 1)
set_option maxHeartbeats 4000000 in
set_option maxRecDepth 100000 in
theorem c_X6_nextFull (l : Launch) (hst9 : l.stackTraces = false) (g : zG) (a : Nat → Nat) (v : CV) (p0 : Int32) (r : Nat ⊕ (Int32 × CV)) (hf : f_X6_nextFull v p0 = some r) : zMx zNF zNM l yX6_nextFull (zw yX6_nextFull cX6_nextFull 2 (some .int)) ({ frames := 6, cells := 1, slots := 6, locals := 100 } : Room) g [.ref (a 0), .int p0] (zX6 g a v) r (fun q => q.1) (fun q => (zX6 g a q.2)) := by
  intro sz
  refine vx_ofW (cc := cX6_nextFull) (maxL := 2) (ret := (some .int)) (by decide) rfl ?_
  intro p e s m args below meth c s₁ B hml htab hv
  obtain ⟨rfl, ⟨hsz, hP, hK, hD0⟩, hKx, hZs⟩ := hv
  have hx := B.exec
  have hb := B.bytes
  have hr0 := B.returns
  have hts := atoms_spec (ws := (zw yX6_nextFull cX6_nextFull 2 (some .int))) B.pre
  have hw0 : ∀ w ∈ zW, w.before ([.ref (a 0), .int p0] : List Value).toArray s = true := fun w h => hts w (List.mem_cons_of_mem _ h)
  have hown : s.vm.findClass RX6 = some m.cls := findClass_of_methodNamed B.named
  have hlocks := B.notSynchronized
  subst hsz
  have hD := hD0.self (sz := s.heap.size)
  generalize hAe : va_A (zX6 g a v) s.heap.size = A at hD hZs ⊢
  have hA : ∀ q : Nat, s.heap.size ≤ q → A q := fun q h => by rw [← hAe]; exact Or.inr h
  have hS : va_S A s.heap s.heap [] := va_S.rf
  unfold f_X6_nextFull at hf
  have hl := lv_entry ([.ref (a 0), .int p0]) (n := 2) (Nat.le_of_ble_eq_true rfl)
  rw [lg_entry_eq]
  generalize (lg_sl ([.ref (a 0), .int p0]) ++ List.replicate (2 - (lg_sl ([.ref (a 0), .int p0])).length) Slot.unset).toArray = ls at hl ⊢
  have hl : lv_has ls 2 [(0, .ref (a 0)), (1, .int p0)] := hl
  refine lv_iload_n hx hb dX6_nextFull_0 rfl (lv_at hl 1 rfl) ?_
  refine lv_if_lt (tgt := 11) hx hb dX6_nextFull_1 (by decide) (fun c1 => ?_) (fun c1 => ?_)
  · have hf := oi hf c1
    have hR : (Sum.inl 1 : Nat ⊕ (Int32 × CV)) = r := Option.some.inj hf
    exact zthrow (ik := 34) (is := 178) (ic := 38) (text := "above") (k := 1) hx hb hst9 hown (hw0 _ zm3_58) (hw0 _ zm1_12) (hKx.2 ("HourClock", 178, "above") (by decide +kernel)) hKx.1 hw0 zx_w1 zx_b1 zx_o1 hZs (by decide +kernel) (by decide +kernel) hP hD hS (hl.1.trans hml.symm) htab dX6_nextFull_11 dX6_nextFull_14 dX6_nextFull_15 dX6_nextFull_17 dX6_nextFull_20 (by decide) (by decide) (Nat.le_of_ble_eq_true rfl) (Nat.le_of_ble_eq_true rfl) hlocks hR.symm rfl
  · have hf := oe hf c1
    refine lv_iload_n hx hb dX6_nextFull_4 rfl (lv_at hl 1 rfl) ?_
    refine lv_sipush (v := 3600) hx hb dX6_nextFull_5 (by decide) ?_
    refine lv_icmp_le (tgt := 21) hx hb dX6_nextFull_8 (by decide) (fun c2 => ?_) (fun c2 => ?_)
    · have hf := oi hf c2
      refine lv_aload_n hx hb dX6_nextFull_21 rfl (lv_at hl 0 rfl) ?_
      refine va_get (D := g.1) (ci := 6) (v := .ref (a 1)) (C := RX6) (T := TX6) (N := 5) hx hb hw0 ziX6 hown hK.1 hP 0 rfl rfl 0 (by decide) (hw0 _ zm1_209) (fun _ h9 => h9) rfl dX6_nextFull_22 ?_
      refine va_getN (D := g.1) (ci := 2) (v := .ref (a 8)) (C := RX2) (T := TX2) (N := 11) hx hb hw0 ziX2 hown hK.1 hP 1 rfl rfl 1 (by decide) (va_Nw.use rfl (zf_23 hK)) (fun _ h9 => h9) rfl dX6_nextFull_25 ?_
      refine lv_iload_n hx hb dX6_nextFull_28 rfl (lv_at hl 1 rfl) ?_
      obtain ⟨u3, hu3, hf⟩ := ob hf
      refine zk_i (va_runVN (As := [.int p0]) (rest := []) ⟨hx, hb, hml, hown, hts⟩ (c_X1_leastSumAbove l g (fun k => a (k + 8)) v.1.2.1 p0 _ hu3 _) (zcN hw0 (zn_53 hK) zm4_43 zm1_4 zm4_42 zs4_15 hd_X1_leastSumAbove rfl rfl ⟨Nat.le_of_ble_eq_true rfl, Nat.le_of_ble_eq_true rfl⟩) ⟨zblind, zrecv (wc := zX1 g (fun k => a (k + 8)) v.1.2.1) hK hP [8, 9, 10, 11, 12, 13, 14] rfl (ci := 1) rfl rfl, zpre hK hP hD [8, 9, 10, 11, 12, 13, 14] rfl rfl⟩ rfl rfl hl.1 rfl (lv_room (Nat.le_of_ble_eq_true rfl)) dX6_nextFull_29 ⟨Nat.zero_le _, Nat.zero_le _⟩) hP hD hS hA [8, 9, 10, 11, 12, 13, 14] rfl rfl (fun H locs hP hD hS => ?_)
      have hP : va_P g.1 vwCl (zX6 g a ((v.1.1, u3.2, v.1.2.2.1, v.1.2.2.2.1, v.1.2.2.2.2.1, v.1.2.2.2.2.2.1, v.1.2.2.2.2.2.2.1, v.1.2.2.2.2.2.2.2.1, v.1.2.2.2.2.2.2.2.2.1, v.1.2.2.2.2.2.2.2.2.2.1, v.1.2.2.2.2.2.2.2.2.2.2), v.2.1, v.2.2.1, v.2.2.2.1, v.2.2.2.2)) H := hP
      have hD : va_D A (zX6 g a ((v.1.1, u3.2, v.1.2.2.1, v.1.2.2.2.1, v.1.2.2.2.2.1, v.1.2.2.2.2.2.1, v.1.2.2.2.2.2.2.1, v.1.2.2.2.2.2.2.2.1, v.1.2.2.2.2.2.2.2.2.1, v.1.2.2.2.2.2.2.2.2.2.1, v.1.2.2.2.2.2.2.2.2.2.2), v.2.1, v.2.2.1, v.2.2.2.1, v.2.2.2.2)) := hD
      have hR : (Sum.inr (u3.1, ((v.1.1, u3.2, v.1.2.2.1, v.1.2.2.2.1, v.1.2.2.2.2.1, v.1.2.2.2.2.2.1, v.1.2.2.2.2.2.2.1, v.1.2.2.2.2.2.2.2.1, v.1.2.2.2.2.2.2.2.2.1, v.1.2.2.2.2.2.2.2.2.2.1, v.1.2.2.2.2.2.2.2.2.2.2), v.2.1, v.2.2.1, v.2.2.2.1, v.2.2.2.2)) : Nat ⊕ (Int32 × CV)) = r := Option.some.inj hf
      subst hR
      refine W.widen (k := 1) (n := 6) (Nat.zero_le _) (Nat.zero_le _) ?_
      exact vx_ret (W.iret (v := u3.1) hx hb hr0 (fun t ht hW => ⟨⟨u3.1, (), rfl, ⟨_, rfl, rfl⟩, _, rfl, by rw [ht]; exact hP, hD⟩, hS.F ht⟩) hS.2.2 dX6_nextFull_32)
    · have hf := oe hf c2
      have hR : (Sum.inl 1 : Nat ⊕ (Int32 × CV)) = r := Option.some.inj hf
      exact zthrow (ik := 34) (is := 178) (ic := 38) (text := "above") (k := 1) hx hb hst9 hown (hw0 _ zm3_58) (hw0 _ zm1_12) (hKx.2 ("HourClock", 178, "above") (by decide +kernel)) hKx.1 hw0 zx_w1 zx_b1 zx_o1 hZs (by decide +kernel) (by decide +kernel) hP hD hS (hl.1.trans hml.symm) htab dX6_nextFull_11 dX6_nextFull_14 dX6_nextFull_15 dX6_nextFull_17 dX6_nextFull_20 (by decide) (by decide) (Nat.le_of_ble_eq_true rfl) (Nat.le_of_ble_eq_true rfl) hlocks hR.symm rfl
theorem hd_X6_bestDrop : yX6_bestDrop.cls ≠ "java/lang/invoke/MethodHandle" ∧ yX6_bestDrop.cls ≠ "java/lang/invoke/VarHandle" ∧ (parseMethodDescriptor yX6_bestDrop.desc).map (fun d => d.parameters.length) = some 0 := by decide +kernel
def s_X6_bestDrop_17 (v : CV) (x : Int32 × Int32 × Int32 × CV) : Option ((Int32 × Int32 × Int32 × CV) ⊕ (Int32 × Int32 × Int32 × CV)) :=
  if x.2.2.2.1.1.1 ≤ x.2.2.1 then
    some (.inr (x.1, x.2.1, x.2.2.1, x.2.2.2))
  else
    (f_X0_waits x.2.2.2.1.1 x.2.2.1).bind (fun u4 =>
    if (zb u4) = 0 then
      some (.inl (x.1, x.2.1, (x.2.2.1 + 1), x.2.2.2))
    else
      (f_X6_foresee x.2.2.2 x.2.2.1).bind (fun u6 =>
      (f_X0_countThatAre u6.2.1.1 2).bind (fun u7 =>
      if u7 ≤ x.2.1 then
        some (.inl (x.1, x.2.1, (x.2.2.1 + 1), u6))
      else
        some (.inl (x.2.2.1, u7, (x.2.2.1 + 1), u6)))))
def f_X6_bestDrop (v : CV) : Option (Int32 × CV) :=
  (f_X6_foresee v (-1)).bind (fun u1 =>
  (f_X0_countThatAre u1.2.1.1 2).bind (fun u2 =>
  (zloop (s_X6_bestDrop_17 u1) 4096 ((-1), u2, 0, u1)).bind (fun u9 =>
  some (u9.1, u9.2.2.2))))
set_option maxHeartbeats 4000000 in
set_option maxRecDepth 100000 in
theorem c_X6_bestDrop (l : Launch) (g : zG) (a : Nat → Nat) (v : CV) (r : Int32 × CV) (hf : f_X6_bestDrop v = some r) : zMi zNF zNM l yX6_bestDrop (zw yX6_bestDrop cX6_bestDrop 5 (some .int)) ({ frames := 7, cells := 0, slots := 0, locals := 161 } : Room) g [.ref (a 0)] (zX6 g a v) r.1 (zX6 g a r.2) := by
  intro sz
  refine Met.ofW (cc := cX6_bestDrop) (maxL := 5) (ret := (some .int)) (by decide) rfl ?_
  intro p e s m args below meth c s₁ B hml hv
  obtain ⟨rfl, hsz, hP, hK, hD0⟩ := hv
  have hx := B.exec
  have hb := B.bytes
  have hr0 := B.returns
  have hts := atoms_spec (ws := (zw yX6_bestDrop cX6_bestDrop 5 (some .int))) B.pre
  have hw0 : ∀ w ∈ zW, w.before ([.ref (a 0)] : List Value).toArray s = true := fun w h => hts w (List.mem_cons_of_mem _ h)
  have hown : s.vm.findClass RX6 = some m.cls := findClass_of_methodNamed B.named
  have hlocks := B.notSynchronized
  subst hsz
  have hD := hD0.self (sz := s.heap.size)
  generalize hAe : va_A (zX6 g a v) s.heap.size = A at hD ⊢
  have hA : ∀ q : Nat, s.heap.size ≤ q → A q := fun q h => by rw [← hAe]; exact Or.inr h
  have hS : va_S A s.heap s.heap [] := va_S.rf
  have lp17 : ∀ (v : CV), ∀ (n : Nat) (x : Int32 × Int32 × Int32 × CV) (rr : Int32 × Int32 × Int32 × CV), zloop (s_X6_bestDrop_17 v) n x = some rr → (∀ (H : Heap) (locs : List Loc), va_P g.1 vwCl (zX6 g a rr.2.2.2) H → va_D A (zX6 g a rr.2.2.2) → va_S A s.heap H locs → ∀ ls : Array Slot, lv_has ls 5 [(1, .int rr.1)] → W p l e (headSpec (zw yX6_bestDrop cX6_bestDrop 5 (some .int)) ({ frames := 7, cells := 0, slots := 0, locals := 161 } : Room)).room s m ([.ref (a 0)] : List Value).toArray below meth c H locs 0 0 (MQ below (va_Qi (fun (x : Int32) (_ : Unit) => x = r.1) (fun _ => zEnd g A (zX6 g a r.2)) A) ([.ref (a 0)] : List Value).toArray s 0 0 A) (F0 m 76 ls [])) → ∀ (H : Heap) (locs : List Loc), va_P g.1 vwCl (zX6 g a x.2.2.2) H → va_D A (zX6 g a x.2.2.2) → va_S A s.heap H locs → ∀ ls : Array Slot, lv_has ls 5 [(0, .ref (a 0)), (1, .int x.1), (2, .int x.2.1), (3, .int x.2.2.1)] → W p l e (headSpec (zw yX6_bestDrop cX6_bestDrop 5 (some .int)) ({ frames := 7, cells := 0, slots := 0, locals := 161 } : Room)).room s m ([.ref (a 0)] : List Value).toArray below meth c H locs 0 0 (MQ below (va_Qi (fun (x : Int32) (_ : Unit) => x = r.1) (fun _ => zEnd g A (zX6 g a r.2)) A) ([.ref (a 0)] : List Value).toArray s 0 0 A) (F0 m 17 ls []) := by
    intro v
    refine zloop_ind ?_
    intro x y rr hf ih hr hQ H locs hP hD hS ls hl
    unfold s_X6_bestDrop_17 at hf
    refine lv_iload_n hx hb dX6_bestDrop_17 rfl (lv_at hl 3 rfl) ?_
    refine lv_aload_n hx hb dX6_bestDrop_18 rfl (lv_at hl 0 rfl) ?_
    refine va_get (D := g.1) (ci := 6) (v := .ref (a 1)) (C := RX6) (T := TX6) (N := 5) hx hb hw0 ziX6 hown hK.1 hP 0 rfl rfl 0 (by decide) (hw0 _ zm1_209) (fun _ h9 => h9) rfl dX6_bestDrop_19 ?_
    refine va_getN (D := g.1) (ci := 2) (v := .ref (a 2)) (C := RX2) (T := TX2) (N := 11) hx hb hw0 ziX2 hown hK.1 hP 1 rfl rfl 0 (by decide) (va_Nw.use rfl (zf_21 hK)) (fun _ h9 => h9) rfl dX6_bestDrop_22 ?_
    refine va_getN (D := g.1) (ci := 0) (v := .int x.2.2.2.1.1.1) (C := RX0) (T := TX0) (N := 6) hx hb hw0 ziX0 hown hK.1 hP 2 rfl rfl 0 (by decide) (va_Nw.use rfl (zf_0 hK)) (fun _ h9 => h9) rfl dX6_bestDrop_25 ?_
    refine lv_icmp_ge (tgt := 76) hx hb dX6_bestDrop_28 (by decide) (fun c3 => ?_) (fun c3 => ?_)
    · have hf := oi hf c3
      have hR : (x.1, x.2.1, x.2.2.1, x.2.2.2) = rr := hr _ (Option.some.inj hf).symm
      subst hR
      exact hQ _ _ hP hD hS _ (lv_sub hl [1] rfl)
    · have hf := oe hf c3
      refine lv_aload_n hx hb dX6_bestDrop_31 rfl (lv_at hl 0 rfl) ?_
      refine va_get (D := g.1) (ci := 6) (v := .ref (a 1)) (C := RX6) (T := TX6) (N := 5) hx hb hw0 ziX6 hown hK.1 hP 0 rfl rfl 0 (by decide) (hw0 _ zm1_209) (fun _ h9 => h9) rfl dX6_bestDrop_32 ?_
      refine va_getN (D := g.1) (ci := 2) (v := .ref (a 2)) (C := RX2) (T := TX2) (N := 11) hx hb hw0 ziX2 hown hK.1 hP 1 rfl rfl 0 (by decide) (va_Nw.use rfl (zf_21 hK)) (fun _ h9 => h9) rfl dX6_bestDrop_35 ?_
      refine lv_iload_n hx hb dX6_bestDrop_38 rfl (lv_at hl 3 rfl) ?_
      obtain ⟨u4, hu4, hf⟩ := ob hf
      refine zk_iR (va_runVN (As := [.int x.2.2.1]) (rest := []) ⟨hx, hb, hml, hown, hts⟩ (c_X0_waits l g (fun k => a (k + 2)) x.2.2.2.1.1 x.2.2.1 _ hu4 _) (zcN hw0 (zn_25 hK) zm2_149 zm1_3 zm2_148 zs3_0 hd_X0_waits rfl rfl ⟨Nat.le_of_ble_eq_true rfl, Nat.le_of_ble_eq_true rfl⟩) ⟨zblind, zrecv (wc := zX0 g (fun k => a (k + 2)) x.2.2.2.1.1) hK hP [2, 3, 4, 5, 6, 7] rfl (ci := 0) rfl rfl, zpre hK hP hD [2, 3, 4, 5, 6, 7] rfl rfl⟩ rfl rfl hl.1 rfl (lv_room (Nat.le_of_ble_eq_true rfl)) dX6_bestDrop_39 ⟨Nat.zero_le _, Nat.zero_le _⟩) hP hD hS hA [2, 3, 4, 5, 6, 7] rfl (fun H locs hP hD hS => ?_)
      refine lv_if_eq (tgt := 70) hx hb dX6_bestDrop_42 (by decide) (fun c5 => ?_) (fun c5 => ?_)
      · have hf := oi hf c5
        refine lv_iinc (v := (x.2.2.1 + 1)) (lv' := [(3, .int (x.2.2.1 + 1)), (0, .ref (a 0)), (1, .int x.1), (2, .int x.2.1)]) hx hb dX6_bestDrop_70 hl (k := 3) rfl rfl (by decide) rfl (fun ls hl => ?_)
        refine lv_goto (tgt := 17) hx hb dX6_bestDrop_73 (by decide) ?_
        exact ih (x.1, x.2.1, (x.2.2.1 + 1), x.2.2.2) (Option.some.inj hf).symm hQ _ _ hP hD hS _ (lv_sub hl [1, 2, 3, 0] rfl)
      · have hf := oe hf c5
        refine lv_aload_n hx hb dX6_bestDrop_45 rfl (lv_at hl 0 rfl) ?_
        refine lv_iload_n hx hb dX6_bestDrop_46 rfl (lv_at hl 3 rfl) ?_
        obtain ⟨u6, hu6, hf⟩ := ob hf
        refine zk_rA (va_runV (As := [.int x.2.2.1]) (rest := []) ⟨hx, hb, hml, hown, hts⟩ (c_X6_foresee l g a x.2.2.2 x.2.2.1 _ hu6 _) (zcV hw0 zm2_136 zm2_139 zm1_1 zm2_138 zs2_15 hd_X6_foresee rfl rfl ⟨Nat.le_of_ble_eq_true rfl, Nat.le_of_ble_eq_true rfl⟩) ⟨zblind, zrecvA hK hP (ci := 6) rfl rfl, zpreA hK hP hD⟩ rfl rfl hl.1 rfl (lv_room (Nat.le_of_ble_eq_true rfl)) dX6_bestDrop_47 ⟨Nat.zero_le _, Nat.zero_le _⟩) hP hD hS hA (fun H locs hP hD hS => ?_)
        have hP : va_P g.1 vwCl (zX6 g a u6) H := hP
        have hD : va_D A (zX6 g a u6) := hD
        refine va_getN (D := g.1) (ci := 2) (v := .ref (a 20)) (C := RX2) (T := TX2) (N := 11) hx hb hw0 ziX2 hown hK.1 hP 19 rfl rfl 0 (by decide) (va_Nw.use rfl (zf_21 hK)) (fun _ h9 => h9) rfl dX6_bestDrop_50 ?_
        refine lv_iconst (v := 2) hx hb dX6_bestDrop_53 (by decide) ?_
        obtain ⟨u7, hu7, hf⟩ := ob hf
        refine zk_iR (va_runVN (As := [.int 2]) (rest := []) ⟨hx, hb, hml, hown, hts⟩ (c_X0_countThatAre l g (fun k => a (k + 20)) u6.2.1.1 2 _ hu7 _) (zcN hw0 (zn_27 hK) zm2_166 zm1_3 zm2_165 zs3_2 hd_X0_countThatAre rfl rfl ⟨Nat.le_of_ble_eq_true rfl, Nat.le_of_ble_eq_true rfl⟩) ⟨zblind, zrecv (wc := zX0 g (fun k => a (k + 20)) u6.2.1.1) hK hP [20, 21, 22, 23, 24, 25] rfl (ci := 0) rfl rfl, zpre hK hP hD [20, 21, 22, 23, 24, 25] rfl rfl⟩ rfl rfl hl.1 rfl (lv_room (Nat.le_of_ble_eq_true rfl)) dX6_bestDrop_54 ⟨Nat.zero_le _, Nat.zero_le _⟩) hP hD hS hA [20, 21, 22, 23, 24, 25] rfl (fun H locs hP hD hS => ?_)
        refine lv_istore (lv' := [(4, .int u7), (0, .ref (a 0)), (1, .int x.1), (2, .int x.2.1), (3, .int x.2.2.1)]) hx hb dX6_bestDrop_57 hl (by decide) rfl (fun ls hl => ?_)
        refine lv_iload hx hb dX6_bestDrop_59 (lv_at hl 0 rfl) ?_
        refine lv_iload_n hx hb dX6_bestDrop_61 rfl (lv_at hl 3 rfl) ?_
        refine lv_icmp_le (tgt := 70) hx hb dX6_bestDrop_62 (by decide) (fun c8 => ?_) (fun c8 => ?_)
        · have hf := oi hf c8
          refine lv_iinc (v := (x.2.2.1 + 1)) (lv' := [(3, .int (x.2.2.1 + 1)), (4, .int u7), (0, .ref (a 0)), (1, .int x.1), (2, .int x.2.1)]) hx hb dX6_bestDrop_70 hl (k := 4) rfl rfl (by decide) rfl (fun ls hl => ?_)
          refine lv_goto (tgt := 17) hx hb dX6_bestDrop_73 (by decide) ?_
          exact ih (x.1, x.2.1, (x.2.2.1 + 1), u6) (Option.some.inj hf).symm hQ _ _ hP hD hS _ (lv_sub hl [2, 3, 4, 0] rfl)
        · have hf := oe hf c8
          refine lv_iload_n hx hb dX6_bestDrop_65 rfl (lv_at hl 4 rfl) ?_
          refine lv_istore_n (lv' := [(1, .int x.2.2.1), (4, .int u7), (0, .ref (a 0)), (2, .int x.2.1), (3, .int x.2.2.1)]) hx hb dX6_bestDrop_66 rfl hl (by decide) rfl (fun ls hl => ?_)
          refine lv_iload hx hb dX6_bestDrop_67 (lv_at hl 1 rfl) ?_
          refine lv_istore_n (lv' := [(2, .int u7), (1, .int x.2.2.1), (4, .int u7), (0, .ref (a 0)), (3, .int x.2.2.1)]) hx hb dX6_bestDrop_69 rfl hl (by decide) rfl (fun ls hl => ?_)
          refine lv_iinc (v := (x.2.2.1 + 1)) (lv' := [(3, .int (x.2.2.1 + 1)), (2, .int u7), (1, .int x.2.2.1), (4, .int u7), (0, .ref (a 0))]) hx hb dX6_bestDrop_70 hl (k := 4) rfl rfl (by decide) rfl (fun ls hl => ?_)
          refine lv_goto (tgt := 17) hx hb dX6_bestDrop_73 (by decide) ?_
          exact ih (x.2.2.1, u7, (x.2.2.1 + 1), u6) (Option.some.inj hf).symm hQ _ _ hP hD hS _ (lv_sub hl [4, 2, 1, 0] rfl)
  unfold f_X6_bestDrop at hf
  have hl := lv_entry ([.ref (a 0)]) (n := 5) (Nat.le_of_ble_eq_true rfl)
  rw [lg_entry_eq]
  generalize (lg_sl ([.ref (a 0)]) ++ List.replicate (5 - (lg_sl ([.ref (a 0)])).length) Slot.unset).toArray = ls at hl ⊢
  have hl : lv_has ls 5 [(0, .ref (a 0))] := hl
  refine lv_iconst (v := (-1)) hx hb dX6_bestDrop_0 (by decide) ?_
  refine lv_istore_n (lv' := [(1, .int (-1)), (0, .ref (a 0))]) hx hb dX6_bestDrop_1 rfl hl (by decide) rfl (fun ls hl => ?_)
  refine lv_aload_n hx hb dX6_bestDrop_2 rfl (lv_at hl 1 rfl) ?_
  refine lv_iconst (v := (-1)) hx hb dX6_bestDrop_3 (by decide) ?_
  obtain ⟨u1, hu1, hf⟩ := ob hf
  refine zk_rA (va_runV (As := [.int (-1)]) (rest := []) ⟨hx, hb, hml, hown, hts⟩ (c_X6_foresee l g a v (-1) _ hu1 _) (zcV hw0 zm2_136 zm2_139 zm1_1 zm2_138 zs2_15 hd_X6_foresee rfl rfl ⟨Nat.le_of_ble_eq_true rfl, Nat.le_of_ble_eq_true rfl⟩) ⟨zblind, zrecvA hK hP (ci := 6) rfl rfl, zpreA hK hP hD⟩ rfl rfl hl.1 rfl (lv_room (Nat.le_of_ble_eq_true rfl)) dX6_bestDrop_4 ⟨Nat.zero_le _, Nat.zero_le _⟩) hP hD hS hA (fun H locs hP hD hS => ?_)
  have hP : va_P g.1 vwCl (zX6 g a u1) H := hP
  have hD : va_D A (zX6 g a u1) := hD
  refine va_getN (D := g.1) (ci := 2) (v := .ref (a 20)) (C := RX2) (T := TX2) (N := 11) hx hb hw0 ziX2 hown hK.1 hP 19 rfl rfl 0 (by decide) (va_Nw.use rfl (zf_21 hK)) (fun _ h9 => h9) rfl dX6_bestDrop_7 ?_
  refine lv_iconst (v := 2) hx hb dX6_bestDrop_10 (by decide) ?_
  obtain ⟨u2, hu2, hf⟩ := ob hf
  refine zk_iR (va_runVN (As := [.int 2]) (rest := []) ⟨hx, hb, hml, hown, hts⟩ (c_X0_countThatAre l g (fun k => a (k + 20)) u1.2.1.1 2 _ hu2 _) (zcN hw0 (zn_27 hK) zm2_166 zm1_3 zm2_165 zs3_2 hd_X0_countThatAre rfl rfl ⟨Nat.le_of_ble_eq_true rfl, Nat.le_of_ble_eq_true rfl⟩) ⟨zblind, zrecv (wc := zX0 g (fun k => a (k + 20)) u1.2.1.1) hK hP [20, 21, 22, 23, 24, 25] rfl (ci := 0) rfl rfl, zpre hK hP hD [20, 21, 22, 23, 24, 25] rfl rfl⟩ rfl rfl hl.1 rfl (lv_room (Nat.le_of_ble_eq_true rfl)) dX6_bestDrop_11 ⟨Nat.zero_le _, Nat.zero_le _⟩) hP hD hS hA [20, 21, 22, 23, 24, 25] rfl (fun H locs hP hD hS => ?_)
  refine lv_istore_n (lv' := [(2, .int u2), (1, .int (-1)), (0, .ref (a 0))]) hx hb dX6_bestDrop_14 rfl hl (by decide) rfl (fun ls hl => ?_)
  refine lv_iconst (v := 0) hx hb dX6_bestDrop_15 (by decide) ?_
  refine lv_istore_n (lv' := [(3, .int 0), (2, .int u2), (1, .int (-1)), (0, .ref (a 0))]) hx hb dX6_bestDrop_16 rfl hl (by decide) rfl (fun ls hl => ?_)
  obtain ⟨u9, hu9, hf⟩ := ob hf
  refine lp17 u1 _ _ u9 hu9 (fun H locs hP hD hS ls hl => ?_) _ _ hP hD hS _ (lv_sub hl [3, 2, 1, 0] rfl)
  have hl : lv_has ls 5 [(1, .int u9.1)] := hl
  have hP : va_P g.1 vwCl (zX6 g a u9.2.2.2) H := hP
  have hD : va_D A (zX6 g a u9.2.2.2) := hD
  refine lv_iload_n hx hb dX6_bestDrop_76 rfl (lv_at hl 0 rfl) ?_
  have hR : (u9.1, u9.2.2.2) = r := Option.some.inj hf
  subst hR
  exact W.iret (v := u9.1) hx hb hr0 (fun t ht hW => ⟨⟨u9.1, (), rfl, rfl, by rw [ht]; exact hP, hD⟩, hS.F ht⟩) hS.2.2 dX6_bestDrop_77
theorem hd_X6_append : yX6_append.cls ≠ "java/lang/invoke/MethodHandle" ∧ yX6_append.cls ≠ "java/lang/invoke/VarHandle" ∧ (parseMethodDescriptor yX6_append.desc).map (fun d => d.parameters.length) = some 1 := by decide +kernel
def f_X6_append (v : CV) (p0 : Int32) : Option (Nat ⊕ (Int32 × CV)) :=
  if p0 < 0 then
    some (.inl 1)
  else
    if p0 ≤ 127 then
      if v.2.2.2.2.2.1 < 100 then
        (f_X5_put v.2.2.2.2 p0).bind (fun u4 =>
        some (.inr (u4.2.1, (v.1, v.2.1, v.2.2.1, v.2.2.2.1, u4))))
      else
        some (.inl 2)
    else
      some (.inl 1)
set_option maxHeartbeats 4000000 in
set_option maxRecDepth 100000 in
theorem c_X6_append (l : Launch) (hst9 : l.stackTraces = false) (g : zG) (a : Nat → Nat) (v : CV) (p0 : Int32) (r : Nat ⊕ (Int32 × CV)) (hf : f_X6_append v p0 = some r) : zMx zNF zNM l yX6_append (zw yX6_append cX6_append 2 (some .int)) ({ frames := 6, cells := 1, slots := 6, locals := 100 } : Room) g [.ref (a 0), .int p0] (zX6 g a v) r (fun q => q.1) (fun q => (zX6 g a q.2)) := by
  intro sz
  refine vx_ofW (cc := cX6_append) (maxL := 2) (ret := (some .int)) (by decide) rfl ?_
  intro p e s m args below meth c s₁ B hml htab hv
  obtain ⟨rfl, ⟨hsz, hP, hK, hD0⟩, hKx, hZs⟩ := hv
  have hx := B.exec
  have hb := B.bytes
  have hr0 := B.returns
  have hts := atoms_spec (ws := (zw yX6_append cX6_append 2 (some .int))) B.pre
  have hw0 : ∀ w ∈ zW, w.before ([.ref (a 0), .int p0] : List Value).toArray s = true := fun w h => hts w (List.mem_cons_of_mem _ h)
  have hown : s.vm.findClass RX6 = some m.cls := findClass_of_methodNamed B.named
  have hlocks := B.notSynchronized
  subst hsz
  have hD := hD0.self (sz := s.heap.size)
  generalize hAe : va_A (zX6 g a v) s.heap.size = A at hD hZs ⊢
  have hA : ∀ q : Nat, s.heap.size ≤ q → A q := fun q h => by rw [← hAe]; exact Or.inr h
  have hS : va_S A s.heap s.heap [] := va_S.rf
  unfold f_X6_append at hf
  have hl := lv_entry ([.ref (a 0), .int p0]) (n := 2) (Nat.le_of_ble_eq_true rfl)
  rw [lg_entry_eq]
  generalize (lg_sl ([.ref (a 0), .int p0]) ++ List.replicate (2 - (lg_sl ([.ref (a 0), .int p0])).length) Slot.unset).toArray = ls at hl ⊢
  have hl : lv_has ls 2 [(0, .ref (a 0)), (1, .int p0)] := hl
  refine lv_iload_n hx hb dX6_append_0 rfl (lv_at hl 1 rfl) ?_
  refine lv_if_lt (tgt := 10) hx hb dX6_append_1 (by decide) (fun c1 => ?_) (fun c1 => ?_)
  · have hf := oi hf c1
    have hR : (Sum.inl 1 : Nat ⊕ (Int32 × CV)) = r := Option.some.inj hf
    exact zthrow (ik := 34) (is := 183) (ic := 38) (text := "value") (k := 1) hx hb hst9 hown (hw0 _ zm3_58) (hw0 _ zm1_12) (hKx.2 ("HourClock", 183, "value") (by decide +kernel)) hKx.1 hw0 zx_w1 zx_b1 zx_o1 hZs (by decide +kernel) (by decide +kernel) hP hD hS (hl.1.trans hml.symm) htab dX6_append_10 dX6_append_13 dX6_append_14 dX6_append_16 dX6_append_19 (by decide) (by decide) (Nat.le_of_ble_eq_true rfl) (Nat.le_of_ble_eq_true rfl) hlocks hR.symm rfl
  · have hf := oe hf c1
    refine lv_iload_n hx hb dX6_append_4 rfl (lv_at hl 1 rfl) ?_
    refine lv_bipush (v := 127) hx hb dX6_append_5 (by decide) ?_
    refine lv_icmp_le (tgt := 20) hx hb dX6_append_7 (by decide) (fun c2 => ?_) (fun c2 => ?_)
    · have hf := oi hf c2
      refine lv_aload_n hx hb dX6_append_20 rfl (lv_at hl 0 rfl) ?_
      refine va_get (D := g.1) (ci := 6) (v := .ref (a 38)) (C := RX6) (T := TX6) (N := 5) hx hb hw0 ziX6 hown hK.1 hP 0 rfl rfl 4 (by decide) (hw0 _ zm1_213) (fun _ h9 => h9) rfl dX6_append_21 ?_
      refine va_getN (D := g.1) (ci := 5) (v := .int v.2.2.2.2.2.1) (C := RX5) (T := TX5) (N := 4) hx hb hw0 ziX5 hown hK.1 hP 38 rfl rfl 1 (by decide) (va_Nw.use rfl (zf_30 hK)) (fun _ h9 => h9) rfl dX6_append_24 ?_
      refine lv_bipush (v := 100) hx hb dX6_append_27 (by decide) ?_
      refine lv_icmp_lt (tgt := 42) hx hb dX6_append_29 (by decide) (fun c3 => ?_) (fun c3 => ?_)
      · have hf := oi hf c3
        refine lv_aload_n hx hb dX6_append_42 rfl (lv_at hl 0 rfl) ?_
        refine va_get (D := g.1) (ci := 6) (v := .ref (a 38)) (C := RX6) (T := TX6) (N := 5) hx hb hw0 ziX6 hown hK.1 hP 0 rfl rfl 4 (by decide) (hw0 _ zm1_213) (fun _ h9 => h9) rfl dX6_append_43 ?_
        refine lv_iload_n hx hb dX6_append_46 rfl (lv_at hl 1 rfl) ?_
        obtain ⟨u4, hu4, hf⟩ := ob hf
        refine zk_v (va_runVN (As := [.int p0]) (rest := []) ⟨hx, hb, hml, hown, hts⟩ (c_X5_put l g (fun k => a (k + 38)) v.2.2.2.2 p0 _ hu4 _) (zcN hw0 (zn_54 hK) zm4_56 zm1_7 zm4_55 zs5_0 hd_X5_put rfl rfl ⟨Nat.le_of_ble_eq_true rfl, Nat.le_of_ble_eq_true rfl⟩) ⟨zblind, zrecv (wc := zX5 g (fun k => a (k + 38)) v.2.2.2.2) hK hP [38, 39] rfl (ci := 5) rfl rfl, zpre hK hP hD [38, 39] rfl rfl⟩ rfl rfl hl.1 rfl (lv_room (Nat.le_of_ble_eq_true rfl)) dX6_append_47 ⟨Nat.zero_le _, Nat.zero_le _⟩) hP hD hS hA [38, 39] rfl rfl (fun H locs hP hD hS => ?_)
        have hP : va_P g.1 vwCl (zX6 g a (v.1, v.2.1, v.2.2.1, v.2.2.2.1, u4)) H := hP
        have hD : va_D A (zX6 g a (v.1, v.2.1, v.2.2.1, v.2.2.2.1, u4)) := hD
        refine lv_aload_n hx hb dX6_append_50 rfl (lv_at hl 0 rfl) ?_
        refine va_get (D := g.1) (ci := 6) (v := .ref (a 38)) (C := RX6) (T := TX6) (N := 5) hx hb hw0 ziX6 hown hK.1 hP 0 rfl rfl 4 (by decide) (hw0 _ zm1_213) (fun _ h9 => h9) rfl dX6_append_51 ?_
        refine va_getN (D := g.1) (ci := 5) (v := .int u4.2.1) (C := RX5) (T := TX5) (N := 4) hx hb hw0 ziX5 hown hK.1 hP 38 rfl rfl 1 (by decide) (va_Nw.use rfl (zf_30 hK)) (fun _ h9 => h9) rfl dX6_append_54 ?_
        have hR : (Sum.inr (u4.2.1, (v.1, v.2.1, v.2.2.1, v.2.2.2.1, u4)) : Nat ⊕ (Int32 × CV)) = r := Option.some.inj hf
        subst hR
        refine W.widen (k := 1) (n := 6) (Nat.zero_le _) (Nat.zero_le _) ?_
        exact vx_ret (W.iret (v := u4.2.1) hx hb hr0 (fun t ht hW => ⟨⟨u4.2.1, (), rfl, ⟨_, rfl, rfl⟩, _, rfl, by rw [ht]; exact hP, hD⟩, hS.F ht⟩) hS.2.2 dX6_append_57)
      · have hf := oe hf c3
        have hR : (Sum.inl 2 : Nat ⊕ (Int32 × CV)) = r := Option.some.inj hf
        exact zthrow (ik := 58) (is := 187) (ic := 62) (text := "the text is full") (k := 2) hx hb hst9 hown (hw0 _ zm3_128) (hw0 _ zm1_13) (hKx.2 ("HourClock", 187, "the text is full") (by decide +kernel)) hKx.1 hw0 zx_w2 zx_b2 zx_o2 hZs (by decide +kernel) (by decide +kernel) hP hD hS (hl.1.trans hml.symm) htab dX6_append_32 dX6_append_35 dX6_append_36 dX6_append_38 dX6_append_41 (by decide) (by decide) (Nat.le_of_ble_eq_true rfl) (Nat.le_of_ble_eq_true rfl) hlocks hR.symm rfl
    · have hf := oe hf c2
      have hR : (Sum.inl 1 : Nat ⊕ (Int32 × CV)) = r := Option.some.inj hf
      exact zthrow (ik := 34) (is := 183) (ic := 38) (text := "value") (k := 1) hx hb hst9 hown (hw0 _ zm3_58) (hw0 _ zm1_12) (hKx.2 ("HourClock", 183, "value") (by decide +kernel)) hKx.1 hw0 zx_w1 zx_b1 zx_o1 hZs (by decide +kernel) (by decide +kernel) hP hD hS (hl.1.trans hml.symm) htab dX6_append_10 dX6_append_13 dX6_append_14 dX6_append_16 dX6_append_19 (by decide) (by decide) (Nat.le_of_ble_eq_true rfl) (Nat.le_of_ble_eq_true rfl) hlocks hR.symm rfl
theorem hd_X6_clearText : yX6_clearText.cls ≠ "java/lang/invoke/MethodHandle" ∧ yX6_clearText.cls ≠ "java/lang/invoke/VarHandle" ∧ (parseMethodDescriptor yX6_clearText.desc).map (fun d => d.parameters.length) = some 0 := by decide +kernel
def f_X6_clearText (v : CV) : Option (Int32 × CV) :=
  some (v.2.2.2.2.2.1, (v.1, v.2.1, v.2.2.1, v.2.2.2.1, (v.2.2.2.2.1, 0, v.2.2.2.2.2.2.1, v.2.2.2.2.2.2.2)))
set_option maxHeartbeats 4000000 in
set_option maxRecDepth 100000 in
theorem c_X6_clearText (l : Launch) (g : zG) (a : Nat → Nat) (v : CV) (r : Int32 × CV) (hf : f_X6_clearText v = some r) : zMi zNF zNM l yX6_clearText (zw yX6_clearText cX6_clearText 2 (some .int)) ({ frames := 0, cells := 0, slots := 0, locals := 0 } : Room) g [.ref (a 0)] (zX6 g a v) r.1 (zX6 g a r.2) := by
  intro sz
  refine Met.ofW (cc := cX6_clearText) (maxL := 2) (ret := (some .int)) (by decide) rfl ?_
  intro p e s m args below meth c s₁ B hml hv
  obtain ⟨rfl, hsz, hP, hK, hD0⟩ := hv
  have hx := B.exec
  have hb := B.bytes
  have hr0 := B.returns
  have hts := atoms_spec (ws := (zw yX6_clearText cX6_clearText 2 (some .int))) B.pre
  have hw0 : ∀ w ∈ zW, w.before ([.ref (a 0)] : List Value).toArray s = true := fun w h => hts w (List.mem_cons_of_mem _ h)
  have hown : s.vm.findClass RX6 = some m.cls := findClass_of_methodNamed B.named
  have hlocks := B.notSynchronized
  subst hsz
  have hD := hD0.self (sz := s.heap.size)
  generalize hAe : va_A (zX6 g a v) s.heap.size = A at hD ⊢
  have hA : ∀ q : Nat, s.heap.size ≤ q → A q := fun q h => by rw [← hAe]; exact Or.inr h
  have hS : va_S A s.heap s.heap [] := va_S.rf
  unfold f_X6_clearText at hf
  have hl := lv_entry ([.ref (a 0)]) (n := 2) (Nat.le_of_ble_eq_true rfl)
  rw [lg_entry_eq]
  generalize (lg_sl ([.ref (a 0)]) ++ List.replicate (2 - (lg_sl ([.ref (a 0)])).length) Slot.unset).toArray = ls at hl ⊢
  have hl : lv_has ls 2 [(0, .ref (a 0))] := hl
  refine lv_aload_n hx hb dX6_clearText_0 rfl (lv_at hl 0 rfl) ?_
  refine va_get (D := g.1) (ci := 6) (v := .ref (a 38)) (C := RX6) (T := TX6) (N := 5) hx hb hw0 ziX6 hown hK.1 hP 0 rfl rfl 4 (by decide) (hw0 _ zm1_213) (fun _ h9 => h9) rfl dX6_clearText_1 ?_
  refine va_getN (D := g.1) (ci := 5) (v := .int v.2.2.2.2.2.1) (C := RX5) (T := TX5) (N := 4) hx hb hw0 ziX5 hown hK.1 hP 38 rfl rfl 1 (by decide) (va_Nw.use rfl (zf_30 hK)) (fun _ h9 => h9) rfl dX6_clearText_4 ?_
  refine lv_istore_n (lv' := [(1, .int v.2.2.2.2.2.1), (0, .ref (a 0))]) hx hb dX6_clearText_7 rfl hl (by decide) rfl (fun ls hl => ?_)
  refine lv_aload_n hx hb dX6_clearText_8 rfl (lv_at hl 1 rfl) ?_
  refine va_get (D := g.1) (ci := 6) (v := .ref (a 38)) (C := RX6) (T := TX6) (N := 5) hx hb hw0 ziX6 hown hK.1 hP 0 rfl rfl 4 (by decide) (hw0 _ zm1_213) (fun _ h9 => h9) rfl dX6_clearText_9 ?_
  refine lv_iconst (v := 0) hx hb dX6_clearText_12 (by decide) ?_
  refine va_putN (D := g.1) (ci := 5) (v := .int 0) (ty := .int) (C := RX5) (T := TX5) (N := 4) hx hb hw0 ziX5 tyX5 tyX5_ok nmX5 hown hK.1 hP hD hS 38 rfl rfl 1 (by decide) (va_Nw.use rfl (zf_30 hK)) (fun _ h9 => h9) rfl (tyX5_ok 1 (by decide)) rfl rfl (Nat.le_of_ble_eq_true rfl) dX6_clearText_13 (fun H locs hP hD hS => ?_)
  have hP : va_P g.1 vwCl (zX6 g a (v.1, v.2.1, v.2.2.1, v.2.2.2.1, (v.2.2.2.2.1, 0, v.2.2.2.2.2.2.1, v.2.2.2.2.2.2.2))) H := hP
  have hD : va_D A (zX6 g a (v.1, v.2.1, v.2.2.1, v.2.2.2.1, (v.2.2.2.2.1, 0, v.2.2.2.2.2.2.1, v.2.2.2.2.2.2.2))) := hD
  refine lv_iload_n hx hb dX6_clearText_16 rfl (lv_at hl 0 rfl) ?_
  have hR : (v.2.2.2.2.2.1, (v.1, v.2.1, v.2.2.1, v.2.2.2.1, (v.2.2.2.2.1, 0, v.2.2.2.2.2.2.1, v.2.2.2.2.2.2.2))) = r := Option.some.inj hf
  subst hR
  exact W.iret (v := v.2.2.2.2.2.1) hx hb hr0 (fun t ht hW => ⟨⟨v.2.2.2.2.2.1, (), rfl, rfl, by rw [ht]; exact hP, hD⟩, hS.F ht⟩) hS.2.2 dX6_clearText_17
theorem hd_X6_parse : yX6_parse.cls ≠ "java/lang/invoke/MethodHandle" ∧ yX6_parse.cls ≠ "java/lang/invoke/VarHandle" ∧ (parseMethodDescriptor yX6_parse.desc).map (fun d => d.parameters.length) = some 0 := by decide +kernel
def f_X6_parse (v : CV) : Option (Int32 × CV) :=
  (f_X5_readInto v.2.2.2.2 v.2.1).bind (fun u1 =>
  if u1.1 = (-1) then
    (f_X6_save (v.1, u1.2.2, v.2.2.1, v.2.2.2.1, u1.2.1)).bind (fun u3 =>
    (f_X2_copyFrom u3.1 u3.2.1).bind (fun u4 =>
    some (u4.1.1, (u4, u3.2.1, u3.2.2.1, u3.2.2.2.1, u3.2.2.2.2))))
  else
    some (((-10) - u1.1), (v.1, u1.2.2, v.2.2.1, v.2.2.2.1, u1.2.1)))
set_option maxHeartbeats 4000000 in
set_option maxRecDepth 100000 in
theorem c_X6_parse (l : Launch) (g : zG) (a : Nat → Nat) (v : CV) (r : Int32 × CV) (hf : f_X6_parse v = some r) : zMi zNF zNM l yX6_parse (zw yX6_parse cX6_parse 2 (some .int)) ({ frames := 6, cells := 0, slots := 0, locals := 130 } : Room) g [.ref (a 0)] (zX6 g a v) r.1 (zX6 g a r.2) := by
  intro sz
  refine Met.ofW (cc := cX6_parse) (maxL := 2) (ret := (some .int)) (by decide) rfl ?_
  intro p e s m args below meth c s₁ B hml hv
  obtain ⟨rfl, hsz, hP, hK, hD0⟩ := hv
  have hx := B.exec
  have hb := B.bytes
  have hr0 := B.returns
  have hts := atoms_spec (ws := (zw yX6_parse cX6_parse 2 (some .int))) B.pre
  have hw0 : ∀ w ∈ zW, w.before ([.ref (a 0)] : List Value).toArray s = true := fun w h => hts w (List.mem_cons_of_mem _ h)
  have hown : s.vm.findClass RX6 = some m.cls := findClass_of_methodNamed B.named
  have hlocks := B.notSynchronized
  subst hsz
  have hD := hD0.self (sz := s.heap.size)
  generalize hAe : va_A (zX6 g a v) s.heap.size = A at hD ⊢
  have hA : ∀ q : Nat, s.heap.size ≤ q → A q := fun q h => by rw [← hAe]; exact Or.inr h
  have hS : va_S A s.heap s.heap [] := va_S.rf
  unfold f_X6_parse at hf
  have hl := lv_entry ([.ref (a 0)]) (n := 2) (Nat.le_of_ble_eq_true rfl)
  rw [lg_entry_eq]
  generalize (lg_sl ([.ref (a 0)]) ++ List.replicate (2 - (lg_sl ([.ref (a 0)])).length) Slot.unset).toArray = ls at hl ⊢
  have hl : lv_has ls 2 [(0, .ref (a 0))] := hl
  refine lv_aload_n hx hb dX6_parse_0 rfl (lv_at hl 0 rfl) ?_
  refine va_get (D := g.1) (ci := 6) (v := .ref (a 38)) (C := RX6) (T := TX6) (N := 5) hx hb hw0 ziX6 hown hK.1 hP 0 rfl rfl 4 (by decide) (hw0 _ zm1_213) (fun _ h9 => h9) rfl dX6_parse_1 ?_
  refine lv_aload_n hx hb dX6_parse_4 rfl (lv_at hl 0 rfl) ?_
  refine va_get (D := g.1) (ci := 6) (v := .ref (a 19)) (C := RX6) (T := TX6) (N := 5) hx hb hw0 ziX6 hown hK.1 hP 0 rfl rfl 1 (by decide) (hw0 _ zm1_210) (fun _ h9 => h9) rfl dX6_parse_5 ?_
  obtain ⟨u1, hu1, hf⟩ := ob hf
  refine zk_iZ (va_runVN (As := [.ref (a 19)]) (rest := []) ⟨hx, hb, hml, hown, hts⟩ (c_X5_readInto l g (fun k => a (k + 38)) (fun k => a (k + 19)) v.2.2.2.2 v.2.1 _ hu1 _) (zcN hw0 (zn_28 hK) zm2_182 zm1_7 zm2_181 zs3_3 hd_X5_readInto rfl rfl ⟨Nat.le_of_ble_eq_true rfl, Nat.le_of_ble_eq_true rfl⟩) ⟨zblind, zrecv (wc := zX5 g (fun k => a (k + 38)) v.2.2.2.2 ++ zX2 g (fun k => a (k + 19)) v.2.1) hK hP [38, 39, 19, 20, 21, 22, 23, 24, 25, 26, 27, 28, 29, 30, 31, 32, 33, 34, 35, 36] rfl (ci := 5) rfl rfl, zpre hK hP hD [38, 39, 19, 20, 21, 22, 23, 24, 25, 26, 27, 28, 29, 30, 31, 32, 33, 34, 35, 36] rfl rfl⟩ rfl rfl hl.1 rfl (lv_room (Nat.le_of_ble_eq_true rfl)) dX6_parse_8 ⟨Nat.zero_le _, Nat.zero_le _⟩) hP hD hS hA [38, 39, 19, 20, 21, 22, 23, 24, 25, 26, 27, 28, 29, 30, 31, 32, 33, 34, 35, 36] rfl rfl (ztwo (is1 := List.range' 38 2) rfl (zrun (wc := zX5 g (fun k => a (k + 38)) v.2.2.2.2) (ws' := zX6 g a (v.1, v.2.1, v.2.2.1, v.2.2.2.1, u1.2.1)) 38 2 rfl rfl rfl rfl rfl) (zrun (wc := zX2 g (fun k => a (k + 19)) v.2.1) (ws' := zX6 g a (v.1, u1.2.2, v.2.2.1, v.2.2.2.1, u1.2.1)) 19 18 rfl rfl rfl rfl rfl)) (fun H locs hP hD hS => ?_)
  have hP : va_P g.1 vwCl (zX6 g a (v.1, u1.2.2, v.2.2.1, v.2.2.2.1, u1.2.1)) H := hP
  have hD : va_D A (zX6 g a (v.1, u1.2.2, v.2.2.1, v.2.2.2.1, u1.2.1)) := hD
  refine lv_istore_n (lv' := [(1, .int u1.1), (0, .ref (a 0))]) hx hb dX6_parse_11 rfl hl (by decide) rfl (fun ls hl => ?_)
  refine lv_iload_n hx hb dX6_parse_12 rfl (lv_at hl 0 rfl) ?_
  refine lv_iconst (v := (-1)) hx hb dX6_parse_13 (by decide) ?_
  refine lv_icmp_eq (tgt := 22) hx hb dX6_parse_14 (by decide) (fun c2 => ?_) (fun c2 => ?_)
  · have hf := oi hf c2
    refine lv_aload_n hx hb dX6_parse_22 rfl (lv_at hl 1 rfl) ?_
    obtain ⟨u3, hu3, hf⟩ := ob hf
    refine zk_vA (va_runV (As := []) (rest := []) ⟨hx, hb, hml, hown, hts⟩ (c_X6_save l g a (v.1, u1.2.2, v.2.2.1, v.2.2.2.1, u1.2.1) _ hu3 _) (zcV hw0 zm1_229 zm1_232 zm1_1 zm1_231 zs1_0 hd_X6_save rfl rfl ⟨Nat.le_of_ble_eq_true rfl, Nat.le_of_ble_eq_true rfl⟩) ⟨zblind, zrecvA hK hP (ci := 6) rfl rfl, zpreA hK hP hD⟩ rfl rfl hl.1 rfl (lv_room (Nat.le_of_ble_eq_true rfl)) dX6_parse_23 ⟨Nat.zero_le _, Nat.zero_le _⟩) hP hD hS hA (fun H locs hP hD hS => ?_)
    have hP : va_P g.1 vwCl (zX6 g a u3) H := hP
    have hD : va_D A (zX6 g a u3) := hD
    refine lv_aload_n hx hb dX6_parse_26 rfl (lv_at hl 1 rfl) ?_
    refine va_get (D := g.1) (ci := 6) (v := .ref (a 1)) (C := RX6) (T := TX6) (N := 5) hx hb hw0 ziX6 hown hK.1 hP 0 rfl rfl 0 (by decide) (hw0 _ zm1_209) (fun _ h9 => h9) rfl dX6_parse_27 ?_
    refine lv_aload_n hx hb dX6_parse_30 rfl (lv_at hl 1 rfl) ?_
    refine va_get (D := g.1) (ci := 6) (v := .ref (a 19)) (C := RX6) (T := TX6) (N := 5) hx hb hw0 ziX6 hown hK.1 hP 0 rfl rfl 1 (by decide) (hw0 _ zm1_210) (fun _ h9 => h9) rfl dX6_parse_31 ?_
    obtain ⟨u4, hu4, hf⟩ := ob hf
    refine zk_vZ (va_runVN (As := [.ref (a 19)]) (rest := []) ⟨hx, hb, hml, hown, hts⟩ (c_X2_copyFrom l g (fun k => a (k + 1)) (fun k => a (k + 19)) u3.1 u3.2.1 _ hu4 _) (zcN hw0 (zn_6 hK) zm2_0 zm1_2 zm1_239 zs1_2 hd_X2_copyFrom rfl rfl ⟨Nat.le_of_ble_eq_true rfl, Nat.le_of_ble_eq_true rfl⟩) ⟨zblind, zrecv (wc := zX2 g (fun k => a (k + 1)) u3.1 ++ zX2 g (fun k => a (k + 19)) u3.2.1) hK hP [1, 2, 3, 4, 5, 6, 7, 8, 9, 10, 11, 12, 13, 14, 15, 16, 17, 18, 19, 20, 21, 22, 23, 24, 25, 26, 27, 28, 29, 30, 31, 32, 33, 34, 35, 36] rfl (ci := 2) rfl rfl, zpre hK hP hD [1, 2, 3, 4, 5, 6, 7, 8, 9, 10, 11, 12, 13, 14, 15, 16, 17, 18, 19, 20, 21, 22, 23, 24, 25, 26, 27, 28, 29, 30, 31, 32, 33, 34, 35, 36] rfl rfl⟩ rfl rfl hl.1 rfl (lv_room (Nat.le_of_ble_eq_true rfl)) dX6_parse_34 ⟨Nat.zero_le _, Nat.zero_le _⟩) hP hD hS hA [1, 2, 3, 4, 5, 6, 7, 8, 9, 10, 11, 12, 13, 14, 15, 16, 17, 18, 19, 20, 21, 22, 23, 24, 25, 26, 27, 28, 29, 30, 31, 32, 33, 34, 35, 36] rfl rfl (ztwo (is1 := List.range' 1 18) rfl (zrun (wc := zX2 g (fun k => a (k + 1)) u3.1) (ws' := zX6 g a (u4, u3.2.1, u3.2.2.1, u3.2.2.2.1, u3.2.2.2.2)) 1 18 rfl rfl rfl rfl rfl) (zrun (wc := zX2 g (fun k => a (k + 19)) u3.2.1) (ws' := zX6 g a (u4, u3.2.1, u3.2.2.1, u3.2.2.2.1, u3.2.2.2.2)) 19 18 rfl rfl rfl rfl rfl)) (fun H locs hP hD hS => ?_)
    have hP : va_P g.1 vwCl (zX6 g a (u4, u3.2.1, u3.2.2.1, u3.2.2.2.1, u3.2.2.2.2)) H := hP
    have hD : va_D A (zX6 g a (u4, u3.2.1, u3.2.2.1, u3.2.2.2.1, u3.2.2.2.2)) := hD
    refine lv_aload_n hx hb dX6_parse_37 rfl (lv_at hl 1 rfl) ?_
    refine va_get (D := g.1) (ci := 6) (v := .ref (a 1)) (C := RX6) (T := TX6) (N := 5) hx hb hw0 ziX6 hown hK.1 hP 0 rfl rfl 0 (by decide) (hw0 _ zm1_209) (fun _ h9 => h9) rfl dX6_parse_38 ?_
    refine va_getN (D := g.1) (ci := 2) (v := .ref (a 2)) (C := RX2) (T := TX2) (N := 11) hx hb hw0 ziX2 hown hK.1 hP 1 rfl rfl 0 (by decide) (va_Nw.use rfl (zf_21 hK)) (fun _ h9 => h9) rfl dX6_parse_41 ?_
    refine va_getN (D := g.1) (ci := 0) (v := .int u4.1.1) (C := RX0) (T := TX0) (N := 6) hx hb hw0 ziX0 hown hK.1 hP 2 rfl rfl 0 (by decide) (va_Nw.use rfl (zf_0 hK)) (fun _ h9 => h9) rfl dX6_parse_44 ?_
    have hR : (u4.1.1, (u4, u3.2.1, u3.2.2.1, u3.2.2.2.1, u3.2.2.2.2)) = r := Option.some.inj hf
    subst hR
    exact W.iret (v := u4.1.1) hx hb hr0 (fun t ht hW => ⟨⟨u4.1.1, (), rfl, rfl, by rw [ht]; exact hP, hD⟩, hS.F ht⟩) hS.2.2 dX6_parse_47
  · have hf := oe hf c2
    refine lv_bipush (v := (-10)) hx hb dX6_parse_17 (by decide) ?_
    refine lv_iload_n hx hb dX6_parse_19 rfl (lv_at hl 0 rfl) ?_
    refine lv_isub hx hb dX6_parse_20 ?_
    have hR : (((-10) - u1.1), (v.1, u1.2.2, v.2.2.1, v.2.2.2.1, u1.2.1)) = r := Option.some.inj hf
    subst hR
    exact W.iret (v := ((-10) - u1.1)) hx hb hr0 (fun t ht hW => ⟨⟨((-10) - u1.1), (), rfl, rfl, by rw [ht]; exact hP, hD⟩, hS.F ht⟩) hS.2.2 dX6_parse_21
theorem hd_X6_undo : yX6_undo.cls ≠ "java/lang/invoke/MethodHandle" ∧ yX6_undo.cls ≠ "java/lang/invoke/VarHandle" ∧ (parseMethodDescriptor yX6_undo.desc).map (fun d => d.parameters.length) = some 0 := by decide +kernel
def f_X6_undo (v : CV) : Option (Nat ⊕ (Int32 × CV)) :=
  if 0 < v.2.2.2.1 then
    if zin (v.2.2.2.1 - 1) 4 = true then
    if (v.2.2.1.1 (v.2.2.2.1 - 1).toNatClampNeg) = 0 then
      (f_X2_copyFrom v.1 v.2.2.1.2.1).bind (fun u3 =>
      some (.inr ((v.2.2.2.1 - 1), (u3, v.2.1, v.2.2.1, (v.2.2.2.1 - 1), v.2.2.2.2))))
    else
      if (v.2.2.1.1 (v.2.2.2.1 - 1).toNatClampNeg) = 1 then
        (f_X2_copyFrom v.1 v.2.2.1.2.2.1).bind (fun u4 =>
        some (.inr ((v.2.2.2.1 - 1), (u4, v.2.1, v.2.2.1, (v.2.2.2.1 - 1), v.2.2.2.2))))
      else
        if (v.2.2.1.1 (v.2.2.2.1 - 1).toNatClampNeg) = 2 then
          (f_X2_copyFrom v.1 v.2.2.1.2.2.2.1).bind (fun u5 =>
          some (.inr ((v.2.2.2.1 - 1), (u5, v.2.1, v.2.2.1, (v.2.2.2.1 - 1), v.2.2.2.2))))
        else
          if (v.2.2.1.1 (v.2.2.2.1 - 1).toNatClampNeg) = 3 then
            (f_X2_copyFrom v.1 v.2.2.1.2.2.2.2).bind (fun u6 =>
            some (.inr ((v.2.2.2.1 - 1), (u6, v.2.1, v.2.2.1, (v.2.2.2.1 - 1), v.2.2.2.2))))
          else
            none
    else none
  else
    some (.inl 2)
set_option maxHeartbeats 4000000 in
set_option maxRecDepth 100000 in
theorem c_X6_undo (l : Launch) (hst9 : l.stackTraces = false) (g : zG) (a : Nat → Nat) (v : CV) (r : Nat ⊕ (Int32 × CV)) (hf : f_X6_undo v = some r) : zMx zNF zNM l yX6_undo (zw yX6_undo cX6_undo 1 (some .int)) ({ frames := 6, cells := 1, slots := 6, locals := 100 } : Room) g [.ref (a 0)] (zX6 g a v) r (fun q => q.1) (fun q => (zX6 g a q.2)) := by
  intro sz
  refine vx_ofW (cc := cX6_undo) (maxL := 1) (ret := (some .int)) (by decide) rfl ?_
  intro p e s m args below meth c s₁ B hml htab hv
  obtain ⟨rfl, ⟨hsz, hP, hK, hD0⟩, hKx, hZs⟩ := hv
  have hx := B.exec
  have hb := B.bytes
  have hr0 := B.returns
  have hts := atoms_spec (ws := (zw yX6_undo cX6_undo 1 (some .int))) B.pre
  have hw0 : ∀ w ∈ zW, w.before ([.ref (a 0)] : List Value).toArray s = true := fun w h => hts w (List.mem_cons_of_mem _ h)
  have hown : s.vm.findClass RX6 = some m.cls := findClass_of_methodNamed B.named
  have hlocks := B.notSynchronized
  subst hsz
  have hD := hD0.self (sz := s.heap.size)
  generalize hAe : va_A (zX6 g a v) s.heap.size = A at hD hZs ⊢
  have hA : ∀ q : Nat, s.heap.size ≤ q → A q := fun q h => by rw [← hAe]; exact Or.inr h
  have hS : va_S A s.heap s.heap [] := va_S.rf
  unfold f_X6_undo at hf
  have hl := lv_entry ([.ref (a 0)]) (n := 1) (Nat.le_of_ble_eq_true rfl)
  rw [lg_entry_eq]
  generalize (lg_sl ([.ref (a 0)]) ++ List.replicate (1 - (lg_sl ([.ref (a 0)])).length) Slot.unset).toArray = ls at hl ⊢
  have hl : lv_has ls 1 [(0, .ref (a 0))] := hl
  refine lv_aload_n hx hb dX6_undo_0 rfl (lv_at hl 0 rfl) ?_
  refine va_get (D := g.1) (ci := 6) (v := .int v.2.2.2.1) (C := RX6) (T := TX6) (N := 5) hx hb hw0 ziX6 hown hK.1 hP 0 rfl rfl 3 (by decide) (hw0 _ zm1_212) (fun _ h9 => h9) rfl dX6_undo_1 ?_
  refine lv_if_gt (tgt := 17) hx hb dX6_undo_4 (by decide) (fun c1 => ?_) (fun c1 => ?_)
  · have hf := oi hf c1
    refine lv_aload_n hx hb dX6_undo_17 rfl (lv_at hl 0 rfl) ?_
    refine lv_dup hx hb dX6_undo_18 rfl ?_
    refine va_get (D := g.1) (ci := 6) (v := .int v.2.2.2.1) (C := RX6) (T := TX6) (N := 5) hx hb hw0 ziX6 hown hK.1 hP 0 rfl rfl 3 (by decide) (hw0 _ zm1_212) (fun _ h9 => h9) rfl dX6_undo_19 ?_
    refine lv_iconst (v := 1) hx hb dX6_undo_22 (by decide) ?_
    refine lv_isub hx hb dX6_undo_23 ?_
    refine va_put (D := g.1) (ci := 6) (v := .int (v.2.2.2.1 - 1)) (ty := .int) (C := RX6) (T := TX6) (N := 5) hx hb hw0 ziX6 tyX6 tyX6_ok nmX6 hown hK.1 hP hD hS 0 rfl rfl 3 (by decide) (hw0 _ zm1_212) (fun _ h9 => h9) rfl (tyX6_ok 3 (by decide)) rfl rfl (Nat.le_of_ble_eq_true rfl) dX6_undo_24 (fun H locs hP hD hS => ?_)
    have hP : va_P g.1 vwCl (zX6 g a (v.1, v.2.1, v.2.2.1, (v.2.2.2.1 - 1), v.2.2.2.2)) H := hP
    have hD : va_D A (zX6 g a (v.1, v.2.1, v.2.2.1, (v.2.2.2.1 - 1), v.2.2.2.2)) := hD
    refine lv_aload_n hx hb dX6_undo_27 rfl (lv_at hl 0 rfl) ?_
    refine va_get (D := g.1) (ci := 6) (v := .ref (a 1)) (C := RX6) (T := TX6) (N := 5) hx hb hw0 ziX6 hown hK.1 hP 0 rfl rfl 0 (by decide) (hw0 _ zm1_209) (fun _ h9 => h9) rfl dX6_undo_28 ?_
    refine lv_aload_n hx hb dX6_undo_31 rfl (lv_at hl 0 rfl) ?_
    refine va_get (D := g.1) (ci := 6) (v := .ref (a 37)) (C := RX6) (T := TX6) (N := 5) hx hb hw0 ziX6 hown hK.1 hP 0 rfl rfl 2 (by decide) (hw0 _ zm1_211) (fun _ h9 => h9) rfl dX6_undo_32 ?_
    refine lv_aload_n hx hb dX6_undo_35 rfl (lv_at hl 0 rfl) ?_
    refine va_get (D := g.1) (ci := 6) (v := .int (v.2.2.2.1 - 1)) (C := RX6) (T := TX6) (N := 5) hx hb hw0 ziX6 hown hK.1 hP 0 rfl rfl 3 (by decide) (hw0 _ zm1_212) (fun _ h9 => h9) rfl dX6_undo_36 ?_
    obtain ⟨h2, hf⟩ := og hf
    refine zaldq (D := g.1) (f := fun j => some (a (40 + 18 * v.2.2.1.1 j))) (k := (v.2.2.2.1 - 1).toNatClampNeg) (x := a (40 + 18 * (v.2.2.1.1 (v.2.2.2.1 - 1).toNatClampNeg))) hx hb hK.1 hP 37 1 rfl rfl (zin_vp h2) rfl rfl dX6_undo_39 ?_
    by_cases d7 : (v.2.2.1.1 (v.2.2.2.1 - 1).toNatClampNeg) = 0
    · have hf := oi hf d7
      rw [d7]
      obtain ⟨u3, hu3, hf⟩ := ob hf
      refine zk_vZ (va_runVN (As := [.ref (a 40)]) (rest := []) ⟨hx, hb, hml, hown, hts⟩ (c_X2_copyFrom l g (fun k => a (k + 1)) (fun k => a (k + 40)) v.1 v.2.2.1.2.1 _ hu3 _) (zcN hw0 (zn_6 hK) zm2_0 zm1_2 zm1_239 zs1_2 hd_X2_copyFrom rfl rfl ⟨Nat.le_of_ble_eq_true rfl, Nat.le_of_ble_eq_true rfl⟩) ⟨zblind, zrecv (wc := zX2 g (fun k => a (k + 1)) v.1 ++ zX2 g (fun k => a (k + 40)) v.2.2.1.2.1) hK hP [1, 2, 3, 4, 5, 6, 7, 8, 9, 10, 11, 12, 13, 14, 15, 16, 17, 18, 40, 41, 42, 43, 44, 45, 46, 47, 48, 49, 50, 51, 52, 53, 54, 55, 56, 57] rfl (ci := 2) rfl rfl, zpre hK hP hD [1, 2, 3, 4, 5, 6, 7, 8, 9, 10, 11, 12, 13, 14, 15, 16, 17, 18, 40, 41, 42, 43, 44, 45, 46, 47, 48, 49, 50, 51, 52, 53, 54, 55, 56, 57] rfl rfl⟩ rfl rfl hl.1 rfl (lv_room (Nat.le_of_ble_eq_true rfl)) dX6_undo_40 ⟨Nat.zero_le _, Nat.zero_le _⟩) hP hD hS hA [1, 2, 3, 4, 5, 6, 7, 8, 9, 10, 11, 12, 13, 14, 15, 16, 17, 18, 40, 41, 42, 43, 44, 45, 46, 47, 48, 49, 50, 51, 52, 53, 54, 55, 56, 57] rfl rfl (ztwo (is1 := List.range' 1 18) rfl (zrun (wc := zX2 g (fun k => a (k + 1)) v.1) (ws' := zX6 g a (u3, v.2.1, v.2.2.1, (v.2.2.2.1 - 1), v.2.2.2.2)) 1 18 rfl rfl rfl rfl rfl) (zrun (wc := zX2 g (fun k => a (k + 40)) v.2.2.1.2.1) (ws' := zX6 g a (u3, v.2.1, v.2.2.1, (v.2.2.2.1 - 1), v.2.2.2.2)) 40 18 rfl rfl rfl rfl rfl)) (fun H locs hP hD hS => ?_)
      have hP : va_P g.1 vwCl (zX6 g a (u3, v.2.1, v.2.2.1, (v.2.2.2.1 - 1), v.2.2.2.2)) H := hP
      have hD : va_D A (zX6 g a (u3, v.2.1, v.2.2.1, (v.2.2.2.1 - 1), v.2.2.2.2)) := hD
      refine lv_aload_n hx hb dX6_undo_43 rfl (lv_at hl 0 rfl) ?_
      refine va_get (D := g.1) (ci := 6) (v := .int (v.2.2.2.1 - 1)) (C := RX6) (T := TX6) (N := 5) hx hb hw0 ziX6 hown hK.1 hP 0 rfl rfl 3 (by decide) (hw0 _ zm1_212) (fun _ h9 => h9) rfl dX6_undo_44 ?_
      have hR : (Sum.inr ((v.2.2.2.1 - 1), (u3, v.2.1, v.2.2.1, (v.2.2.2.1 - 1), v.2.2.2.2)) : Nat ⊕ (Int32 × CV)) = r := Option.some.inj hf
      subst hR
      refine W.widen (k := 1) (n := 6) (Nat.zero_le _) (Nat.zero_le _) ?_
      exact vx_ret (W.iret (v := (v.2.2.2.1 - 1)) hx hb hr0 (fun t ht hW => ⟨⟨(v.2.2.2.1 - 1), (), rfl, ⟨_, rfl, rfl⟩, _, rfl, by rw [ht]; exact hP, hD⟩, hS.F ht⟩) hS.2.2 dX6_undo_47)
    · have hf := oe hf d7
      by_cases d8 : (v.2.2.1.1 (v.2.2.2.1 - 1).toNatClampNeg) = 1
      · have hf := oi hf d8
        rw [d8]
        obtain ⟨u4, hu4, hf⟩ := ob hf
        refine zk_vZ (va_runVN (As := [.ref (a 58)]) (rest := []) ⟨hx, hb, hml, hown, hts⟩ (c_X2_copyFrom l g (fun k => a (k + 1)) (fun k => a (k + 58)) v.1 v.2.2.1.2.2.1 _ hu4 _) (zcN hw0 (zn_6 hK) zm2_0 zm1_2 zm1_239 zs1_2 hd_X2_copyFrom rfl rfl ⟨Nat.le_of_ble_eq_true rfl, Nat.le_of_ble_eq_true rfl⟩) ⟨zblind, zrecv (wc := zX2 g (fun k => a (k + 1)) v.1 ++ zX2 g (fun k => a (k + 58)) v.2.2.1.2.2.1) hK hP [1, 2, 3, 4, 5, 6, 7, 8, 9, 10, 11, 12, 13, 14, 15, 16, 17, 18, 58, 59, 60, 61, 62, 63, 64, 65, 66, 67, 68, 69, 70, 71, 72, 73, 74, 75] rfl (ci := 2) rfl rfl, zpre hK hP hD [1, 2, 3, 4, 5, 6, 7, 8, 9, 10, 11, 12, 13, 14, 15, 16, 17, 18, 58, 59, 60, 61, 62, 63, 64, 65, 66, 67, 68, 69, 70, 71, 72, 73, 74, 75] rfl rfl⟩ rfl rfl hl.1 rfl (lv_room (Nat.le_of_ble_eq_true rfl)) dX6_undo_40 ⟨Nat.zero_le _, Nat.zero_le _⟩) hP hD hS hA [1, 2, 3, 4, 5, 6, 7, 8, 9, 10, 11, 12, 13, 14, 15, 16, 17, 18, 58, 59, 60, 61, 62, 63, 64, 65, 66, 67, 68, 69, 70, 71, 72, 73, 74, 75] rfl rfl (ztwo (is1 := List.range' 1 18) rfl (zrun (wc := zX2 g (fun k => a (k + 1)) v.1) (ws' := zX6 g a (u4, v.2.1, v.2.2.1, (v.2.2.2.1 - 1), v.2.2.2.2)) 1 18 rfl rfl rfl rfl rfl) (zrun (wc := zX2 g (fun k => a (k + 58)) v.2.2.1.2.2.1) (ws' := zX6 g a (u4, v.2.1, v.2.2.1, (v.2.2.2.1 - 1), v.2.2.2.2)) 58 18 rfl rfl rfl rfl rfl)) (fun H locs hP hD hS => ?_)
        have hP : va_P g.1 vwCl (zX6 g a (u4, v.2.1, v.2.2.1, (v.2.2.2.1 - 1), v.2.2.2.2)) H := hP
        have hD : va_D A (zX6 g a (u4, v.2.1, v.2.2.1, (v.2.2.2.1 - 1), v.2.2.2.2)) := hD
        refine lv_aload_n hx hb dX6_undo_43 rfl (lv_at hl 0 rfl) ?_
        refine va_get (D := g.1) (ci := 6) (v := .int (v.2.2.2.1 - 1)) (C := RX6) (T := TX6) (N := 5) hx hb hw0 ziX6 hown hK.1 hP 0 rfl rfl 3 (by decide) (hw0 _ zm1_212) (fun _ h9 => h9) rfl dX6_undo_44 ?_
        have hR : (Sum.inr ((v.2.2.2.1 - 1), (u4, v.2.1, v.2.2.1, (v.2.2.2.1 - 1), v.2.2.2.2)) : Nat ⊕ (Int32 × CV)) = r := Option.some.inj hf
        subst hR
        refine W.widen (k := 1) (n := 6) (Nat.zero_le _) (Nat.zero_le _) ?_
        exact vx_ret (W.iret (v := (v.2.2.2.1 - 1)) hx hb hr0 (fun t ht hW => ⟨⟨(v.2.2.2.1 - 1), (), rfl, ⟨_, rfl, rfl⟩, _, rfl, by rw [ht]; exact hP, hD⟩, hS.F ht⟩) hS.2.2 dX6_undo_47)
      · have hf := oe hf d8
        by_cases d9 : (v.2.2.1.1 (v.2.2.2.1 - 1).toNatClampNeg) = 2
        · have hf := oi hf d9
          rw [d9]
          obtain ⟨u5, hu5, hf⟩ := ob hf
          refine zk_vZ (va_runVN (As := [.ref (a 76)]) (rest := []) ⟨hx, hb, hml, hown, hts⟩ (c_X2_copyFrom l g (fun k => a (k + 1)) (fun k => a (k + 76)) v.1 v.2.2.1.2.2.2.1 _ hu5 _) (zcN hw0 (zn_6 hK) zm2_0 zm1_2 zm1_239 zs1_2 hd_X2_copyFrom rfl rfl ⟨Nat.le_of_ble_eq_true rfl, Nat.le_of_ble_eq_true rfl⟩) ⟨zblind, zrecv (wc := zX2 g (fun k => a (k + 1)) v.1 ++ zX2 g (fun k => a (k + 76)) v.2.2.1.2.2.2.1) hK hP [1, 2, 3, 4, 5, 6, 7, 8, 9, 10, 11, 12, 13, 14, 15, 16, 17, 18, 76, 77, 78, 79, 80, 81, 82, 83, 84, 85, 86, 87, 88, 89, 90, 91, 92, 93] rfl (ci := 2) rfl rfl, zpre hK hP hD [1, 2, 3, 4, 5, 6, 7, 8, 9, 10, 11, 12, 13, 14, 15, 16, 17, 18, 76, 77, 78, 79, 80, 81, 82, 83, 84, 85, 86, 87, 88, 89, 90, 91, 92, 93] rfl rfl⟩ rfl rfl hl.1 rfl (lv_room (Nat.le_of_ble_eq_true rfl)) dX6_undo_40 ⟨Nat.zero_le _, Nat.zero_le _⟩) hP hD hS hA [1, 2, 3, 4, 5, 6, 7, 8, 9, 10, 11, 12, 13, 14, 15, 16, 17, 18, 76, 77, 78, 79, 80, 81, 82, 83, 84, 85, 86, 87, 88, 89, 90, 91, 92, 93] rfl rfl (ztwo (is1 := List.range' 1 18) rfl (zrun (wc := zX2 g (fun k => a (k + 1)) v.1) (ws' := zX6 g a (u5, v.2.1, v.2.2.1, (v.2.2.2.1 - 1), v.2.2.2.2)) 1 18 rfl rfl rfl rfl rfl) (zrun (wc := zX2 g (fun k => a (k + 76)) v.2.2.1.2.2.2.1) (ws' := zX6 g a (u5, v.2.1, v.2.2.1, (v.2.2.2.1 - 1), v.2.2.2.2)) 76 18 rfl rfl rfl rfl rfl)) (fun H locs hP hD hS => ?_)
          have hP : va_P g.1 vwCl (zX6 g a (u5, v.2.1, v.2.2.1, (v.2.2.2.1 - 1), v.2.2.2.2)) H := hP
          have hD : va_D A (zX6 g a (u5, v.2.1, v.2.2.1, (v.2.2.2.1 - 1), v.2.2.2.2)) := hD
          refine lv_aload_n hx hb dX6_undo_43 rfl (lv_at hl 0 rfl) ?_
          refine va_get (D := g.1) (ci := 6) (v := .int (v.2.2.2.1 - 1)) (C := RX6) (T := TX6) (N := 5) hx hb hw0 ziX6 hown hK.1 hP 0 rfl rfl 3 (by decide) (hw0 _ zm1_212) (fun _ h9 => h9) rfl dX6_undo_44 ?_
          have hR : (Sum.inr ((v.2.2.2.1 - 1), (u5, v.2.1, v.2.2.1, (v.2.2.2.1 - 1), v.2.2.2.2)) : Nat ⊕ (Int32 × CV)) = r := Option.some.inj hf
          subst hR
          refine W.widen (k := 1) (n := 6) (Nat.zero_le _) (Nat.zero_le _) ?_
          exact vx_ret (W.iret (v := (v.2.2.2.1 - 1)) hx hb hr0 (fun t ht hW => ⟨⟨(v.2.2.2.1 - 1), (), rfl, ⟨_, rfl, rfl⟩, _, rfl, by rw [ht]; exact hP, hD⟩, hS.F ht⟩) hS.2.2 dX6_undo_47)
        · have hf := oe hf d9
          by_cases d10 : (v.2.2.1.1 (v.2.2.2.1 - 1).toNatClampNeg) = 3
          · have hf := oi hf d10
            rw [d10]
            obtain ⟨u6, hu6, hf⟩ := ob hf
            refine zk_vZ (va_runVN (As := [.ref (a 94)]) (rest := []) ⟨hx, hb, hml, hown, hts⟩ (c_X2_copyFrom l g (fun k => a (k + 1)) (fun k => a (k + 94)) v.1 v.2.2.1.2.2.2.2 _ hu6 _) (zcN hw0 (zn_6 hK) zm2_0 zm1_2 zm1_239 zs1_2 hd_X2_copyFrom rfl rfl ⟨Nat.le_of_ble_eq_true rfl, Nat.le_of_ble_eq_true rfl⟩) ⟨zblind, zrecv (wc := zX2 g (fun k => a (k + 1)) v.1 ++ zX2 g (fun k => a (k + 94)) v.2.2.1.2.2.2.2) hK hP [1, 2, 3, 4, 5, 6, 7, 8, 9, 10, 11, 12, 13, 14, 15, 16, 17, 18, 94, 95, 96, 97, 98, 99, 100, 101, 102, 103, 104, 105, 106, 107, 108, 109, 110, 111] rfl (ci := 2) rfl rfl, zpre hK hP hD [1, 2, 3, 4, 5, 6, 7, 8, 9, 10, 11, 12, 13, 14, 15, 16, 17, 18, 94, 95, 96, 97, 98, 99, 100, 101, 102, 103, 104, 105, 106, 107, 108, 109, 110, 111] rfl rfl⟩ rfl rfl hl.1 rfl (lv_room (Nat.le_of_ble_eq_true rfl)) dX6_undo_40 ⟨Nat.zero_le _, Nat.zero_le _⟩) hP hD hS hA [1, 2, 3, 4, 5, 6, 7, 8, 9, 10, 11, 12, 13, 14, 15, 16, 17, 18, 94, 95, 96, 97, 98, 99, 100, 101, 102, 103, 104, 105, 106, 107, 108, 109, 110, 111] rfl rfl (ztwo (is1 := List.range' 1 18) rfl (zrun (wc := zX2 g (fun k => a (k + 1)) v.1) (ws' := zX6 g a (u6, v.2.1, v.2.2.1, (v.2.2.2.1 - 1), v.2.2.2.2)) 1 18 rfl rfl rfl rfl rfl) (zrun (wc := zX2 g (fun k => a (k + 94)) v.2.2.1.2.2.2.2) (ws' := zX6 g a (u6, v.2.1, v.2.2.1, (v.2.2.2.1 - 1), v.2.2.2.2)) 94 18 rfl rfl rfl rfl rfl)) (fun H locs hP hD hS => ?_)
            have hP : va_P g.1 vwCl (zX6 g a (u6, v.2.1, v.2.2.1, (v.2.2.2.1 - 1), v.2.2.2.2)) H := hP
            have hD : va_D A (zX6 g a (u6, v.2.1, v.2.2.1, (v.2.2.2.1 - 1), v.2.2.2.2)) := hD
            refine lv_aload_n hx hb dX6_undo_43 rfl (lv_at hl 0 rfl) ?_
            refine va_get (D := g.1) (ci := 6) (v := .int (v.2.2.2.1 - 1)) (C := RX6) (T := TX6) (N := 5) hx hb hw0 ziX6 hown hK.1 hP 0 rfl rfl 3 (by decide) (hw0 _ zm1_212) (fun _ h9 => h9) rfl dX6_undo_44 ?_
            have hR : (Sum.inr ((v.2.2.2.1 - 1), (u6, v.2.1, v.2.2.1, (v.2.2.2.1 - 1), v.2.2.2.2)) : Nat ⊕ (Int32 × CV)) = r := Option.some.inj hf
            subst hR
            refine W.widen (k := 1) (n := 6) (Nat.zero_le _) (Nat.zero_le _) ?_
            exact vx_ret (W.iret (v := (v.2.2.2.1 - 1)) hx hb hr0 (fun t ht hW => ⟨⟨(v.2.2.2.1 - 1), (), rfl, ⟨_, rfl, rfl⟩, _, rfl, by rw [ht]; exact hP, hD⟩, hS.F ht⟩) hS.2.2 dX6_undo_47)
          · have hf := oe hf d10
            exact absurd hf (by simp)
  · have hf := oe hf c1
    have hR : (Sum.inl 2 : Nat ⊕ (Int32 × CV)) = r := Option.some.inj hf
    exact zthrow (ik := 58) (is := 200) (ic := 62) (text := "there is no saved state") (k := 2) hx hb hst9 hown (hw0 _ zm3_128) (hw0 _ zm1_13) (hKx.2 ("HourClock", 200, "there is no saved state") (by decide +kernel)) hKx.1 hw0 zx_w2 zx_b2 zx_o2 hZs (by decide +kernel) (by decide +kernel) hP hD hS (hl.1.trans hml.symm) htab dX6_undo_7 dX6_undo_10 dX6_undo_11 dX6_undo_13 dX6_undo_16 (by decide) (by decide) (Nat.le_of_ble_eq_true rfl) (Nat.le_of_ble_eq_true rfl) hlocks hR.symm rfl
theorem hd_X6_digest : yX6_digest.cls ≠ "java/lang/invoke/MethodHandle" ∧ yX6_digest.cls ≠ "java/lang/invoke/VarHandle" ∧ (parseMethodDescriptor yX6_digest.desc).map (fun d => d.parameters.length) = some 0 := by decide +kernel
def s_X6_digest_28 (v : CV) (x : Int64 × Int32) : Option ((Int64 × Int32) ⊕ (Int64 × Int32)) :=
  if 13 < x.2 then
    some (.inr (x.1, x.2))
  else
    (f_X2_tell v.1 x.2).bind (fun u3 =>
    some (.inl ((((31 : Int64) * x.1) + (Int32.toInt64 u3)), (x.2 + 1))))
def s_X6_digest_79 (v : CV) (i4 : Int32) (x : Int64 × Int32) : Option ((Int64 × Int32) ⊕ (Int64 × Int32)) :=
  if 6 < x.2 then
    some (.inr (x.1, x.2))
  else
    (f_X0_tell v.1.1 i4 x.2).bind (fun u7 =>
    some (.inl ((((31 : Int64) * x.1) + (Int32.toInt64 u7)), (x.2 + 1))))
def s_X6_digest_61 (v : CV) (x : Int64 × Int32) : Option ((Int64 × Int32) ⊕ (Int64 × Int32)) :=
  if v.1.1.1 ≤ x.2 then
    some (.inr (x.1, x.2))
  else
    (zloop (s_X6_digest_79 v x.2) 4096 (x.1, 0)).bind (fun u8 =>
    (f_X0_latestBegin v.1.1 x.2).bind (fun u9 =>
    (f_X0_begunAt v.2.1.1 x.2).bind (fun u10 =>
    some (.inl ((((31 : Int64) * (((31 : Int64) * u8.1) + (Int32.toInt64 u9))) + (Int32.toInt64 u10)), (x.2 + 1))))))
def s_X6_digest_178 (v : CV) (i4 : Int32) (x : Int64 × Int32) : Option ((Int64 × Int32) ⊕ (Int64 × Int32)) :=
  if 2 < x.2 then
    some (.inr (x.1, x.2))
  else
    (f_X1_tell v.1.2.1 i4 x.2).bind (fun u14 =>
    some (.inl ((((31 : Int64) * x.1) + (Int32.toInt64 u14)), (x.2 + 1))))
def s_X6_digest_160 (v : CV) (x : Int64 × Int32) : Option ((Int64 × Int32) ⊕ (Int64 × Int32)) :=
  if v.1.2.1.1 ≤ x.2 then
    some (.inr (x.1, x.2))
  else
    (zloop (s_X6_digest_178 v x.2) 4096 (x.1, 0)).bind (fun u15 =>
    some (.inl (u15.1, (x.2 + 1))))
def s_X6_digest_239 (v : CV) (i4 : Int32) (x : Int64 × Int32) : Option ((Int64 × Int32) ⊕ (Int64 × Int32)) :=
  if 2 < x.2 then
    some (.inr (x.1, x.2))
  else
    (f_X3_tell v.1.2.2.1 i4 x.2).bind (fun u19 =>
    some (.inl ((((31 : Int64) * x.1) + (Int32.toInt64 u19)), (x.2 + 1))))
def s_X6_digest_221 (v : CV) (x : Int64 × Int32) : Option ((Int64 × Int32) ⊕ (Int64 × Int32)) :=
  if v.1.2.2.1.1 ≤ x.2 then
    some (.inr (x.1, x.2))
  else
    (zloop (s_X6_digest_239 v x.2) 4096 (x.1, 0)).bind (fun u20 =>
    some (.inl (u20.1, (x.2 + 1))))
def f_X6_digest (v : CV) : Option (Int64 × CV) :=
  (f_X6_foresee v (-1)).bind (fun u1 =>
  (zloop (s_X6_digest_28 u1) 4096 ((((31 : Int64) * (3559 : Int64)) + (Int32.toInt64 u1.2.2.2.2.2.1)), 0)).bind (fun u4 =>
  (zloop (s_X6_digest_61 u1) 4096 (u4.1, 0)).bind (fun u11 =>
  (zloop (s_X6_digest_160 u1) 4096 (u11.1, 0)).bind (fun u16 =>
  (zloop (s_X6_digest_221 u1) 4096 (u16.1, 0)).bind (fun u21 =>
  some ((((31 : Int64) * (((31 : Int64) * u21.1) + (Int32.toInt64 u1.2.1.2.2.2.1))) + (Int32.toInt64 u1.2.2.2.1)), u1))))))
set_option maxHeartbeats 4000000 in
set_option maxRecDepth 100000 in
theorem c_X6_digest (l : Launch) (g : zG) (a : Nat → Nat) (v : CV) (r : Int64 × CV) (hf : f_X6_digest v = some r) : zMl zNF zNM l yX6_digest (zw yX6_digest cX6_digest 6 (some .long)) ({ frames := 7, cells := 0, slots := 0, locals := 161 } : Room) g [.ref (a 0)] (zX6 g a v) r.1 (zX6 g a r.2) := by
  intro sz
  refine Met.ofW (cc := cX6_digest) (maxL := 6) (ret := (some .long)) (by decide) rfl ?_
  intro p e s m args below meth c s₁ B hml hv
  obtain ⟨rfl, hsz, hP, hK, hD0⟩ := hv
  have hx := B.exec
  have hb := B.bytes
  have hr0 := B.returns
  have hts := atoms_spec (ws := (zw yX6_digest cX6_digest 6 (some .long))) B.pre
  have hw0 : ∀ w ∈ zW, w.before ([.ref (a 0)] : List Value).toArray s = true := fun w h => hts w (List.mem_cons_of_mem _ h)
  have hown : s.vm.findClass RX6 = some m.cls := findClass_of_methodNamed B.named
  have hlocks := B.notSynchronized
  subst hsz
  have hD := hD0.self (sz := s.heap.size)
  generalize hAe : va_A (zX6 g a v) s.heap.size = A at hD ⊢
  have hA : ∀ q : Nat, s.heap.size ≤ q → A q := fun q h => by rw [← hAe]; exact Or.inr h
  have hS : va_S A s.heap s.heap [] := va_S.rf
  have lp28 : ∀ (v : CV), ∀ (n : Nat) (x : Int64 × Int32) (rr : Int64 × Int32), zloop (s_X6_digest_28 v) n x = some rr → (∀ (H : Heap) (locs : List Loc), va_P g.1 vwCl (zX6 g a v) H → va_D A (zX6 g a v) → va_S A s.heap H locs → ∀ ls : Array Slot, lv_has ls 6 [(0, .ref (a 0)), (1, .ref (a 19)), (2, .long rr.1)] → W p l e (headSpec (zw yX6_digest cX6_digest 6 (some .long)) ({ frames := 7, cells := 0, slots := 0, locals := 161 } : Room)).room s m ([.ref (a 0)] : List Value).toArray below meth c H locs 0 0 (MQ below (va_Ql (fun (x : Int64) (_ : Unit) => x = r.1) (fun _ => zEnd g A (zX6 g a r.2)) A) ([.ref (a 0)] : List Value).toArray s 0 0 A) (F0 m 58 ls [])) → ∀ (H : Heap) (locs : List Loc), va_P g.1 vwCl (zX6 g a v) H → va_D A (zX6 g a v) → va_S A s.heap H locs → ∀ ls : Array Slot, lv_has ls 6 [(0, .ref (a 0)), (1, .ref (a 19)), (2, .long x.1), (4, .int x.2)] → W p l e (headSpec (zw yX6_digest cX6_digest 6 (some .long)) ({ frames := 7, cells := 0, slots := 0, locals := 161 } : Room)).room s m ([.ref (a 0)] : List Value).toArray below meth c H locs 0 0 (MQ below (va_Ql (fun (x : Int64) (_ : Unit) => x = r.1) (fun _ => zEnd g A (zX6 g a r.2)) A) ([.ref (a 0)] : List Value).toArray s 0 0 A) (F0 m 28 ls []) := by
    intro v
    refine zloop_ind ?_
    intro x y rr hf ih hr hQ H locs hP hD hS ls hl
    unfold s_X6_digest_28 at hf
    refine lv_iload hx hb dX6_digest_28 (lv_at hl 3 rfl) ?_
    refine lv_bipush (v := 13) hx hb dX6_digest_30 (by decide) ?_
    refine lv_icmp_gt (tgt := 58) hx hb dX6_digest_32 (by decide) (fun c2 => ?_) (fun c2 => ?_)
    · have hf := oi hf c2
      have hR : (x.1, x.2) = rr := hr _ (Option.some.inj hf).symm
      subst hR
      exact hQ _ _ hP hD hS _ (lv_sub hl [0, 1, 2] rfl)
    · have hf := oe hf c2
      refine lv_ldc2 (v := 31) hx hb hown (hw0 _ zm3_8) dX6_digest_35 ?_
      refine lv_lload_n hx hb dX6_digest_38 rfl (lv_at hl 2 rfl) ?_
      refine lv_lmul hx hb dX6_digest_39 ?_
      refine lv_aload_n hx hb dX6_digest_40 rfl (lv_at hl 0 rfl) ?_
      refine va_get (D := g.1) (ci := 6) (v := .ref (a 1)) (C := RX6) (T := TX6) (N := 5) hx hb hw0 ziX6 hown hK.1 hP 0 rfl rfl 0 (by decide) (hw0 _ zm1_209) (fun _ h9 => h9) rfl dX6_digest_41 ?_
      refine lv_iload hx hb dX6_digest_44 (lv_at hl 3 rfl) ?_
      obtain ⟨u3, hu3, hf⟩ := ob hf
      refine zk_iR (va_runVN (As := [.int x.2]) (rest := [.long ((31 : Int64) * x.1)]) ⟨hx, hb, hml, hown, hts⟩ (c_X2_tell l g (fun k => a (k + 1)) v.1 x.2 _ hu3 _) (zcN hw0 (zn_34 hK) zm3_12 zm1_2 zm3_11 zs4_3 hd_X2_tell rfl rfl ⟨Nat.le_of_ble_eq_true rfl, Nat.le_of_ble_eq_true rfl⟩) ⟨zblind, zrecv (wc := zX2 g (fun k => a (k + 1)) v.1) hK hP [1, 2, 3, 4, 5, 6, 7, 8, 9, 10, 11, 12, 13, 14, 15, 16, 17, 18] rfl (ci := 2) rfl rfl, zpre hK hP hD [1, 2, 3, 4, 5, 6, 7, 8, 9, 10, 11, 12, 13, 14, 15, 16, 17, 18] rfl rfl⟩ rfl rfl hl.1 rfl (lv_room (Nat.le_of_ble_eq_true rfl)) dX6_digest_46 ⟨Nat.zero_le _, Nat.zero_le _⟩) hP hD hS hA [1, 2, 3, 4, 5, 6, 7, 8, 9, 10, 11, 12, 13, 14, 15, 16, 17, 18] rfl (fun H locs hP hD hS => ?_)
      refine lv_i2l (v := (Int32.toInt64 u3)) hx hb dX6_digest_49 rfl ?_
      refine lv_ladd hx hb dX6_digest_50 ?_
      refine lv_lstore_n (lv' := [(2, .long (((31 : Int64) * x.1) + (Int32.toInt64 u3))), (0, .ref (a 0)), (1, .ref (a 19)), (4, .int x.2)]) hx hb dX6_digest_51 rfl hl (by decide) rfl (fun ls hl => ?_)
      refine lv_iinc (v := (x.2 + 1)) (lv' := [(4, .int (x.2 + 1)), (2, .long (((31 : Int64) * x.1) + (Int32.toInt64 u3))), (0, .ref (a 0)), (1, .ref (a 19))]) hx hb dX6_digest_52 hl (k := 3) rfl rfl (by decide) rfl (fun ls hl => ?_)
      refine lv_goto (tgt := 28) hx hb dX6_digest_55 (by decide) ?_
      exact ih ((((31 : Int64) * x.1) + (Int32.toInt64 u3)), (x.2 + 1)) (Option.some.inj hf).symm hQ _ _ hP hD hS _ (lv_sub hl [2, 3, 1, 0] rfl)
  have lp79 : ∀ (v : CV) (i4 : Int32), ∀ (n : Nat) (x : Int64 × Int32) (rr : Int64 × Int32), zloop (s_X6_digest_79 v i4) n x = some rr → (∀ (H : Heap) (locs : List Loc), va_P g.1 vwCl (zX6 g a v) H → va_D A (zX6 g a v) → va_S A s.heap H locs → ∀ ls : Array Slot, lv_has ls 6 [(0, .ref (a 0)), (1, .ref (a 19)), (2, .long rr.1), (4, .int i4)] → W p l e (headSpec (zw yX6_digest cX6_digest 6 (some .long)) ({ frames := 7, cells := 0, slots := 0, locals := 161 } : Room)).room s m ([.ref (a 0)] : List Value).toArray below meth c H locs 0 0 (MQ below (va_Ql (fun (x : Int64) (_ : Unit) => x = r.1) (fun _ => zEnd g A (zX6 g a r.2)) A) ([.ref (a 0)] : List Value).toArray s 0 0 A) (F0 m 114 ls [])) → ∀ (H : Heap) (locs : List Loc), va_P g.1 vwCl (zX6 g a v) H → va_D A (zX6 g a v) → va_S A s.heap H locs → ∀ ls : Array Slot, lv_has ls 6 [(0, .ref (a 0)), (1, .ref (a 19)), (2, .long x.1), (4, .int i4), (5, .int x.2)] → W p l e (headSpec (zw yX6_digest cX6_digest 6 (some .long)) ({ frames := 7, cells := 0, slots := 0, locals := 161 } : Room)).room s m ([.ref (a 0)] : List Value).toArray below meth c H locs 0 0 (MQ below (va_Ql (fun (x : Int64) (_ : Unit) => x = r.1) (fun _ => zEnd g A (zX6 g a r.2)) A) ([.ref (a 0)] : List Value).toArray s 0 0 A) (F0 m 79 ls []) := by
    intro v i4
    refine zloop_ind ?_
    intro x y rr hf ih hr hQ H locs hP hD hS ls hl
    unfold s_X6_digest_79 at hf
    refine lv_iload hx hb dX6_digest_79 (lv_at hl 4 rfl) ?_
    refine lv_bipush (v := 6) hx hb dX6_digest_81 (by decide) ?_
    refine lv_icmp_gt (tgt := 114) hx hb dX6_digest_83 (by decide) (fun c6 => ?_) (fun c6 => ?_)
    · have hf := oi hf c6
      have hR : (x.1, x.2) = rr := hr _ (Option.some.inj hf).symm
      subst hR
      exact hQ _ _ hP hD hS _ (lv_sub hl [0, 1, 2, 3] rfl)
    · have hf := oe hf c6
      refine lv_ldc2 (v := 31) hx hb hown (hw0 _ zm3_8) dX6_digest_86 ?_
      refine lv_lload_n hx hb dX6_digest_89 rfl (lv_at hl 2 rfl) ?_
      refine lv_lmul hx hb dX6_digest_90 ?_
      refine lv_aload_n hx hb dX6_digest_91 rfl (lv_at hl 0 rfl) ?_
      refine va_get (D := g.1) (ci := 6) (v := .ref (a 1)) (C := RX6) (T := TX6) (N := 5) hx hb hw0 ziX6 hown hK.1 hP 0 rfl rfl 0 (by decide) (hw0 _ zm1_209) (fun _ h9 => h9) rfl dX6_digest_92 ?_
      refine va_getN (D := g.1) (ci := 2) (v := .ref (a 2)) (C := RX2) (T := TX2) (N := 11) hx hb hw0 ziX2 hown hK.1 hP 1 rfl rfl 0 (by decide) (va_Nw.use rfl (zf_21 hK)) (fun _ h9 => h9) rfl dX6_digest_95 ?_
      refine lv_iload hx hb dX6_digest_98 (lv_at hl 3 rfl) ?_
      refine lv_iload hx hb dX6_digest_100 (lv_at hl 4 rfl) ?_
      obtain ⟨u7, hu7, hf⟩ := ob hf
      refine zk_iR (va_runVN (As := [.int i4, .int x.2]) (rest := [.long ((31 : Int64) * x.1)]) ⟨hx, hb, hml, hown, hts⟩ (c_X0_tell l g (fun k => a (k + 2)) v.1.1 i4 x.2 _ hu7 _) (zcN hw0 (zn_37 hK) zm3_21 zm1_3 zm3_20 zs4_5 hd_X0_tell rfl rfl ⟨Nat.le_of_ble_eq_true rfl, Nat.le_of_ble_eq_true rfl⟩) ⟨zblind, zrecv (wc := zX0 g (fun k => a (k + 2)) v.1.1) hK hP [2, 3, 4, 5, 6, 7] rfl (ci := 0) rfl rfl, zpre hK hP hD [2, 3, 4, 5, 6, 7] rfl rfl⟩ rfl rfl hl.1 rfl (lv_room (Nat.le_of_ble_eq_true rfl)) dX6_digest_102 ⟨Nat.zero_le _, Nat.zero_le _⟩) hP hD hS hA [2, 3, 4, 5, 6, 7] rfl (fun H locs hP hD hS => ?_)
      refine lv_i2l (v := (Int32.toInt64 u7)) hx hb dX6_digest_105 rfl ?_
      refine lv_ladd hx hb dX6_digest_106 ?_
      refine lv_lstore_n (lv' := [(2, .long (((31 : Int64) * x.1) + (Int32.toInt64 u7))), (0, .ref (a 0)), (1, .ref (a 19)), (4, .int i4), (5, .int x.2)]) hx hb dX6_digest_107 rfl hl (by decide) rfl (fun ls hl => ?_)
      refine lv_iinc (v := (x.2 + 1)) (lv' := [(5, .int (x.2 + 1)), (2, .long (((31 : Int64) * x.1) + (Int32.toInt64 u7))), (0, .ref (a 0)), (1, .ref (a 19)), (4, .int i4)]) hx hb dX6_digest_108 hl (k := 4) rfl rfl (by decide) rfl (fun ls hl => ?_)
      refine lv_goto (tgt := 79) hx hb dX6_digest_111 (by decide) ?_
      exact ih ((((31 : Int64) * x.1) + (Int32.toInt64 u7)), (x.2 + 1)) (Option.some.inj hf).symm hQ _ _ hP hD hS _ (lv_sub hl [2, 3, 1, 4, 0] rfl)
  have lp61 : ∀ (v : CV), ∀ (n : Nat) (x : Int64 × Int32) (rr : Int64 × Int32), zloop (s_X6_digest_61 v) n x = some rr → (∀ (H : Heap) (locs : List Loc), va_P g.1 vwCl (zX6 g a v) H → va_D A (zX6 g a v) → va_S A s.heap H locs → ∀ ls : Array Slot, lv_has ls 6 [(0, .ref (a 0)), (1, .ref (a 19)), (2, .long rr.1)] → W p l e (headSpec (zw yX6_digest cX6_digest 6 (some .long)) ({ frames := 7, cells := 0, slots := 0, locals := 161 } : Room)).room s m ([.ref (a 0)] : List Value).toArray below meth c H locs 0 0 (MQ below (va_Ql (fun (x : Int64) (_ : Unit) => x = r.1) (fun _ => zEnd g A (zX6 g a r.2)) A) ([.ref (a 0)] : List Value).toArray s 0 0 A) (F0 m 157 ls [])) → ∀ (H : Heap) (locs : List Loc), va_P g.1 vwCl (zX6 g a v) H → va_D A (zX6 g a v) → va_S A s.heap H locs → ∀ ls : Array Slot, lv_has ls 6 [(0, .ref (a 0)), (1, .ref (a 19)), (2, .long x.1), (4, .int x.2)] → W p l e (headSpec (zw yX6_digest cX6_digest 6 (some .long)) ({ frames := 7, cells := 0, slots := 0, locals := 161 } : Room)).room s m ([.ref (a 0)] : List Value).toArray below meth c H locs 0 0 (MQ below (va_Ql (fun (x : Int64) (_ : Unit) => x = r.1) (fun _ => zEnd g A (zX6 g a r.2)) A) ([.ref (a 0)] : List Value).toArray s 0 0 A) (F0 m 61 ls []) := by
    intro v
    refine zloop_ind ?_
    intro x y rr hf ih hr hQ H locs hP hD hS ls hl
    unfold s_X6_digest_61 at hf
    refine lv_iload hx hb dX6_digest_61 (lv_at hl 3 rfl) ?_
    refine lv_aload_n hx hb dX6_digest_63 rfl (lv_at hl 0 rfl) ?_
    refine va_get (D := g.1) (ci := 6) (v := .ref (a 1)) (C := RX6) (T := TX6) (N := 5) hx hb hw0 ziX6 hown hK.1 hP 0 rfl rfl 0 (by decide) (hw0 _ zm1_209) (fun _ h9 => h9) rfl dX6_digest_64 ?_
    refine va_getN (D := g.1) (ci := 2) (v := .ref (a 2)) (C := RX2) (T := TX2) (N := 11) hx hb hw0 ziX2 hown hK.1 hP 1 rfl rfl 0 (by decide) (va_Nw.use rfl (zf_21 hK)) (fun _ h9 => h9) rfl dX6_digest_67 ?_
    refine va_getN (D := g.1) (ci := 0) (v := .int v.1.1.1) (C := RX0) (T := TX0) (N := 6) hx hb hw0 ziX0 hown hK.1 hP 2 rfl rfl 0 (by decide) (va_Nw.use rfl (zf_0 hK)) (fun _ h9 => h9) rfl dX6_digest_70 ?_
    refine lv_icmp_ge (tgt := 157) hx hb dX6_digest_73 (by decide) (fun c5 => ?_) (fun c5 => ?_)
    · have hf := oi hf c5
      have hR : (x.1, x.2) = rr := hr _ (Option.some.inj hf).symm
      subst hR
      exact hQ _ _ hP hD hS _ (lv_sub hl [0, 1, 2] rfl)
    · have hf := oe hf c5
      refine lv_iconst (v := 0) hx hb dX6_digest_76 (by decide) ?_
      refine lv_istore (lv' := [(5, .int 0), (0, .ref (a 0)), (1, .ref (a 19)), (2, .long x.1), (4, .int x.2)]) hx hb dX6_digest_77 hl (by decide) rfl (fun ls hl => ?_)
      obtain ⟨u8, hu8, hf⟩ := ob hf
      refine lp79 v x.2 _ _ u8 hu8 (fun H locs hP hD hS ls hl => ?_) _ _ hP hD hS _ (lv_sub hl [1, 2, 3, 4, 0] rfl)
      have hl : lv_has ls 6 [(0, .ref (a 0)), (1, .ref (a 19)), (2, .long u8.1), (4, .int x.2)] := hl
      have hP : va_P g.1 vwCl (zX6 g a v) H := hP
      have hD : va_D A (zX6 g a v) := hD
      refine lv_ldc2 (v := 31) hx hb hown (hw0 _ zm3_8) dX6_digest_114 ?_
      refine lv_lload_n hx hb dX6_digest_117 rfl (lv_at hl 2 rfl) ?_
      refine lv_lmul hx hb dX6_digest_118 ?_
      refine lv_aload_n hx hb dX6_digest_119 rfl (lv_at hl 0 rfl) ?_
      refine va_get (D := g.1) (ci := 6) (v := .ref (a 1)) (C := RX6) (T := TX6) (N := 5) hx hb hw0 ziX6 hown hK.1 hP 0 rfl rfl 0 (by decide) (hw0 _ zm1_209) (fun _ h9 => h9) rfl dX6_digest_120 ?_
      refine va_getN (D := g.1) (ci := 2) (v := .ref (a 2)) (C := RX2) (T := TX2) (N := 11) hx hb hw0 ziX2 hown hK.1 hP 1 rfl rfl 0 (by decide) (va_Nw.use rfl (zf_21 hK)) (fun _ h9 => h9) rfl dX6_digest_123 ?_
      refine lv_iload hx hb dX6_digest_126 (lv_at hl 3 rfl) ?_
      obtain ⟨u9, hu9, hf⟩ := ob hf
      refine zk_iR (va_runVN (As := [.int x.2]) (rest := [.long ((31 : Int64) * u8.1)]) ⟨hx, hb, hml, hown, hts⟩ (c_X0_latestBegin l g (fun k => a (k + 2)) v.1.1 x.2 _ hu9 _) (zcN hw0 (zn_38 hK) zm3_31 zm1_3 zm3_30 zs4_7 hd_X0_latestBegin rfl rfl ⟨Nat.le_of_ble_eq_true rfl, Nat.le_of_ble_eq_true rfl⟩) ⟨zblind, zrecv (wc := zX0 g (fun k => a (k + 2)) v.1.1) hK hP [2, 3, 4, 5, 6, 7] rfl (ci := 0) rfl rfl, zpre hK hP hD [2, 3, 4, 5, 6, 7] rfl rfl⟩ rfl rfl hl.1 rfl (lv_room (Nat.le_of_ble_eq_true rfl)) dX6_digest_128 ⟨Nat.zero_le _, Nat.zero_le _⟩) hP hD hS hA [2, 3, 4, 5, 6, 7] rfl (fun H locs hP hD hS => ?_)
      refine lv_i2l (v := (Int32.toInt64 u9)) hx hb dX6_digest_131 rfl ?_
      refine lv_ladd hx hb dX6_digest_132 ?_
      refine lv_lstore_n (lv' := [(2, .long (((31 : Int64) * u8.1) + (Int32.toInt64 u9))), (0, .ref (a 0)), (1, .ref (a 19)), (4, .int x.2)]) hx hb dX6_digest_133 rfl hl (by decide) rfl (fun ls hl => ?_)
      refine lv_ldc2 (v := 31) hx hb hown (hw0 _ zm3_8) dX6_digest_134 ?_
      refine lv_lload_n hx hb dX6_digest_137 rfl (lv_at hl 0 rfl) ?_
      refine lv_lmul hx hb dX6_digest_138 ?_
      refine lv_aload_n hx hb dX6_digest_139 rfl (lv_at hl 2 rfl) ?_
      refine va_getN (D := g.1) (ci := 2) (v := .ref (a 20)) (C := RX2) (T := TX2) (N := 11) hx hb hw0 ziX2 hown hK.1 hP 19 rfl rfl 0 (by decide) (va_Nw.use rfl (zf_21 hK)) (fun _ h9 => h9) rfl dX6_digest_140 ?_
      refine lv_iload hx hb dX6_digest_143 (lv_at hl 3 rfl) ?_
      obtain ⟨u10, hu10, hf⟩ := ob hf
      refine zk_iR (va_runVN (As := [.int x.2]) (rest := [.long ((31 : Int64) * (((31 : Int64) * u8.1) + (Int32.toInt64 u9)))]) ⟨hx, hb, hml, hown, hts⟩ (c_X0_begunAt l g (fun k => a (k + 20)) v.2.1.1 x.2 _ hu10 _) (zcN hw0 (zn_39 hK) zm3_35 zm1_3 zm3_34 zs4_8 hd_X0_begunAt rfl rfl ⟨Nat.le_of_ble_eq_true rfl, Nat.le_of_ble_eq_true rfl⟩) ⟨zblind, zrecv (wc := zX0 g (fun k => a (k + 20)) v.2.1.1) hK hP [20, 21, 22, 23, 24, 25] rfl (ci := 0) rfl rfl, zpre hK hP hD [20, 21, 22, 23, 24, 25] rfl rfl⟩ rfl rfl hl.1 rfl (lv_room (Nat.le_of_ble_eq_true rfl)) dX6_digest_145 ⟨Nat.zero_le _, Nat.zero_le _⟩) hP hD hS hA [20, 21, 22, 23, 24, 25] rfl (fun H locs hP hD hS => ?_)
      refine lv_i2l (v := (Int32.toInt64 u10)) hx hb dX6_digest_148 rfl ?_
      refine lv_ladd hx hb dX6_digest_149 ?_
      refine lv_lstore_n (lv' := [(2, .long (((31 : Int64) * (((31 : Int64) * u8.1) + (Int32.toInt64 u9))) + (Int32.toInt64 u10))), (0, .ref (a 0)), (1, .ref (a 19)), (4, .int x.2)]) hx hb dX6_digest_150 rfl hl (by decide) rfl (fun ls hl => ?_)
      refine lv_iinc (v := (x.2 + 1)) (lv' := [(4, .int (x.2 + 1)), (2, .long (((31 : Int64) * (((31 : Int64) * u8.1) + (Int32.toInt64 u9))) + (Int32.toInt64 u10))), (0, .ref (a 0)), (1, .ref (a 19))]) hx hb dX6_digest_151 hl (k := 3) rfl rfl (by decide) rfl (fun ls hl => ?_)
      refine lv_goto (tgt := 61) hx hb dX6_digest_154 (by decide) ?_
      exact ih ((((31 : Int64) * (((31 : Int64) * u8.1) + (Int32.toInt64 u9))) + (Int32.toInt64 u10)), (x.2 + 1)) (Option.some.inj hf).symm hQ _ _ hP hD hS _ (lv_sub hl [2, 3, 1, 0] rfl)
  have lp178 : ∀ (v : CV) (i4 : Int32), ∀ (n : Nat) (x : Int64 × Int32) (rr : Int64 × Int32), zloop (s_X6_digest_178 v i4) n x = some rr → (∀ (H : Heap) (locs : List Loc), va_P g.1 vwCl (zX6 g a v) H → va_D A (zX6 g a v) → va_S A s.heap H locs → ∀ ls : Array Slot, lv_has ls 6 [(0, .ref (a 0)), (1, .ref (a 19)), (2, .long rr.1), (4, .int i4)] → W p l e (headSpec (zw yX6_digest cX6_digest 6 (some .long)) ({ frames := 7, cells := 0, slots := 0, locals := 161 } : Room)).room s m ([.ref (a 0)] : List Value).toArray below meth c H locs 0 0 (MQ below (va_Ql (fun (x : Int64) (_ : Unit) => x = r.1) (fun _ => zEnd g A (zX6 g a r.2)) A) ([.ref (a 0)] : List Value).toArray s 0 0 A) (F0 m 212 ls [])) → ∀ (H : Heap) (locs : List Loc), va_P g.1 vwCl (zX6 g a v) H → va_D A (zX6 g a v) → va_S A s.heap H locs → ∀ ls : Array Slot, lv_has ls 6 [(0, .ref (a 0)), (1, .ref (a 19)), (2, .long x.1), (4, .int i4), (5, .int x.2)] → W p l e (headSpec (zw yX6_digest cX6_digest 6 (some .long)) ({ frames := 7, cells := 0, slots := 0, locals := 161 } : Room)).room s m ([.ref (a 0)] : List Value).toArray below meth c H locs 0 0 (MQ below (va_Ql (fun (x : Int64) (_ : Unit) => x = r.1) (fun _ => zEnd g A (zX6 g a r.2)) A) ([.ref (a 0)] : List Value).toArray s 0 0 A) (F0 m 178 ls []) := by
    intro v i4
    refine zloop_ind ?_
    intro x y rr hf ih hr hQ H locs hP hD hS ls hl
    unfold s_X6_digest_178 at hf
    refine lv_iload hx hb dX6_digest_178 (lv_at hl 4 rfl) ?_
    refine lv_iconst (v := 2) hx hb dX6_digest_180 (by decide) ?_
    refine lv_icmp_gt (tgt := 212) hx hb dX6_digest_181 (by decide) (fun c13 => ?_) (fun c13 => ?_)
    · have hf := oi hf c13
      have hR : (x.1, x.2) = rr := hr _ (Option.some.inj hf).symm
      subst hR
      exact hQ _ _ hP hD hS _ (lv_sub hl [0, 1, 2, 3] rfl)
    · have hf := oe hf c13
      refine lv_ldc2 (v := 31) hx hb hown (hw0 _ zm3_8) dX6_digest_184 ?_
      refine lv_lload_n hx hb dX6_digest_187 rfl (lv_at hl 2 rfl) ?_
      refine lv_lmul hx hb dX6_digest_188 ?_
      refine lv_aload_n hx hb dX6_digest_189 rfl (lv_at hl 0 rfl) ?_
      refine va_get (D := g.1) (ci := 6) (v := .ref (a 1)) (C := RX6) (T := TX6) (N := 5) hx hb hw0 ziX6 hown hK.1 hP 0 rfl rfl 0 (by decide) (hw0 _ zm1_209) (fun _ h9 => h9) rfl dX6_digest_190 ?_
      refine va_getN (D := g.1) (ci := 2) (v := .ref (a 8)) (C := RX2) (T := TX2) (N := 11) hx hb hw0 ziX2 hown hK.1 hP 1 rfl rfl 1 (by decide) (va_Nw.use rfl (zf_23 hK)) (fun _ h9 => h9) rfl dX6_digest_193 ?_
      refine lv_iload hx hb dX6_digest_196 (lv_at hl 3 rfl) ?_
      refine lv_iload hx hb dX6_digest_198 (lv_at hl 4 rfl) ?_
      obtain ⟨u14, hu14, hf⟩ := ob hf
      refine zk_iR (va_runVN (As := [.int i4, .int x.2]) (rest := [.long ((31 : Int64) * x.1)]) ⟨hx, hb, hml, hown, hts⟩ (c_X1_tell l g (fun k => a (k + 8)) v.1.2.1 i4 x.2 _ hu14 _) (zcN hw0 (zn_40 hK) zm3_39 zm1_4 zm3_38 zs4_9 hd_X1_tell rfl rfl ⟨Nat.le_of_ble_eq_true rfl, Nat.le_of_ble_eq_true rfl⟩) ⟨zblind, zrecv (wc := zX1 g (fun k => a (k + 8)) v.1.2.1) hK hP [8, 9, 10, 11, 12, 13, 14] rfl (ci := 1) rfl rfl, zpre hK hP hD [8, 9, 10, 11, 12, 13, 14] rfl rfl⟩ rfl rfl hl.1 rfl (lv_room (Nat.le_of_ble_eq_true rfl)) dX6_digest_200 ⟨Nat.zero_le _, Nat.zero_le _⟩) hP hD hS hA [8, 9, 10, 11, 12, 13, 14] rfl (fun H locs hP hD hS => ?_)
      refine lv_i2l (v := (Int32.toInt64 u14)) hx hb dX6_digest_203 rfl ?_
      refine lv_ladd hx hb dX6_digest_204 ?_
      refine lv_lstore_n (lv' := [(2, .long (((31 : Int64) * x.1) + (Int32.toInt64 u14))), (0, .ref (a 0)), (1, .ref (a 19)), (4, .int i4), (5, .int x.2)]) hx hb dX6_digest_205 rfl hl (by decide) rfl (fun ls hl => ?_)
      refine lv_iinc (v := (x.2 + 1)) (lv' := [(5, .int (x.2 + 1)), (2, .long (((31 : Int64) * x.1) + (Int32.toInt64 u14))), (0, .ref (a 0)), (1, .ref (a 19)), (4, .int i4)]) hx hb dX6_digest_206 hl (k := 4) rfl rfl (by decide) rfl (fun ls hl => ?_)
      refine lv_goto (tgt := 178) hx hb dX6_digest_209 (by decide) ?_
      exact ih ((((31 : Int64) * x.1) + (Int32.toInt64 u14)), (x.2 + 1)) (Option.some.inj hf).symm hQ _ _ hP hD hS _ (lv_sub hl [2, 3, 1, 4, 0] rfl)
  have lp160 : ∀ (v : CV), ∀ (n : Nat) (x : Int64 × Int32) (rr : Int64 × Int32), zloop (s_X6_digest_160 v) n x = some rr → (∀ (H : Heap) (locs : List Loc), va_P g.1 vwCl (zX6 g a v) H → va_D A (zX6 g a v) → va_S A s.heap H locs → ∀ ls : Array Slot, lv_has ls 6 [(0, .ref (a 0)), (1, .ref (a 19)), (2, .long rr.1)] → W p l e (headSpec (zw yX6_digest cX6_digest 6 (some .long)) ({ frames := 7, cells := 0, slots := 0, locals := 161 } : Room)).room s m ([.ref (a 0)] : List Value).toArray below meth c H locs 0 0 (MQ below (va_Ql (fun (x : Int64) (_ : Unit) => x = r.1) (fun _ => zEnd g A (zX6 g a r.2)) A) ([.ref (a 0)] : List Value).toArray s 0 0 A) (F0 m 218 ls [])) → ∀ (H : Heap) (locs : List Loc), va_P g.1 vwCl (zX6 g a v) H → va_D A (zX6 g a v) → va_S A s.heap H locs → ∀ ls : Array Slot, lv_has ls 6 [(0, .ref (a 0)), (1, .ref (a 19)), (2, .long x.1), (4, .int x.2)] → W p l e (headSpec (zw yX6_digest cX6_digest 6 (some .long)) ({ frames := 7, cells := 0, slots := 0, locals := 161 } : Room)).room s m ([.ref (a 0)] : List Value).toArray below meth c H locs 0 0 (MQ below (va_Ql (fun (x : Int64) (_ : Unit) => x = r.1) (fun _ => zEnd g A (zX6 g a r.2)) A) ([.ref (a 0)] : List Value).toArray s 0 0 A) (F0 m 160 ls []) := by
    intro v
    refine zloop_ind ?_
    intro x y rr hf ih hr hQ H locs hP hD hS ls hl
    unfold s_X6_digest_160 at hf
    refine lv_iload hx hb dX6_digest_160 (lv_at hl 3 rfl) ?_
    refine lv_aload_n hx hb dX6_digest_162 rfl (lv_at hl 0 rfl) ?_
    refine va_get (D := g.1) (ci := 6) (v := .ref (a 1)) (C := RX6) (T := TX6) (N := 5) hx hb hw0 ziX6 hown hK.1 hP 0 rfl rfl 0 (by decide) (hw0 _ zm1_209) (fun _ h9 => h9) rfl dX6_digest_163 ?_
    refine va_getN (D := g.1) (ci := 2) (v := .ref (a 8)) (C := RX2) (T := TX2) (N := 11) hx hb hw0 ziX2 hown hK.1 hP 1 rfl rfl 1 (by decide) (va_Nw.use rfl (zf_23 hK)) (fun _ h9 => h9) rfl dX6_digest_166 ?_
    refine va_getN (D := g.1) (ci := 1) (v := .int v.1.2.1.1) (C := RX1) (T := TX1) (N := 5) hx hb hw0 ziX1 hown hK.1 hP 8 rfl rfl 0 (by decide) (va_Nw.use rfl (zf_11 hK)) (fun _ h9 => h9) rfl dX6_digest_169 ?_
    refine lv_icmp_ge (tgt := 218) hx hb dX6_digest_172 (by decide) (fun c12 => ?_) (fun c12 => ?_)
    · have hf := oi hf c12
      have hR : (x.1, x.2) = rr := hr _ (Option.some.inj hf).symm
      subst hR
      exact hQ _ _ hP hD hS _ (lv_sub hl [0, 1, 2] rfl)
    · have hf := oe hf c12
      refine lv_iconst (v := 0) hx hb dX6_digest_175 (by decide) ?_
      refine lv_istore (lv' := [(5, .int 0), (0, .ref (a 0)), (1, .ref (a 19)), (2, .long x.1), (4, .int x.2)]) hx hb dX6_digest_176 hl (by decide) rfl (fun ls hl => ?_)
      obtain ⟨u15, hu15, hf⟩ := ob hf
      refine lp178 v x.2 _ _ u15 hu15 (fun H locs hP hD hS ls hl => ?_) _ _ hP hD hS _ (lv_sub hl [1, 2, 3, 4, 0] rfl)
      have hl : lv_has ls 6 [(0, .ref (a 0)), (1, .ref (a 19)), (2, .long u15.1), (4, .int x.2)] := hl
      have hP : va_P g.1 vwCl (zX6 g a v) H := hP
      have hD : va_D A (zX6 g a v) := hD
      refine lv_iinc (v := (x.2 + 1)) (lv' := [(4, .int (x.2 + 1)), (0, .ref (a 0)), (1, .ref (a 19)), (2, .long u15.1)]) hx hb dX6_digest_212 hl (k := 3) rfl rfl (by decide) rfl (fun ls hl => ?_)
      refine lv_goto (tgt := 160) hx hb dX6_digest_215 (by decide) ?_
      exact ih (u15.1, (x.2 + 1)) (Option.some.inj hf).symm hQ _ _ hP hD hS _ (lv_sub hl [1, 2, 3, 0] rfl)
  have lp239 : ∀ (v : CV) (i4 : Int32), ∀ (n : Nat) (x : Int64 × Int32) (rr : Int64 × Int32), zloop (s_X6_digest_239 v i4) n x = some rr → (∀ (H : Heap) (locs : List Loc), va_P g.1 vwCl (zX6 g a v) H → va_D A (zX6 g a v) → va_S A s.heap H locs → ∀ ls : Array Slot, lv_has ls 6 [(0, .ref (a 0)), (1, .ref (a 19)), (2, .long rr.1), (4, .int i4)] → W p l e (headSpec (zw yX6_digest cX6_digest 6 (some .long)) ({ frames := 7, cells := 0, slots := 0, locals := 161 } : Room)).room s m ([.ref (a 0)] : List Value).toArray below meth c H locs 0 0 (MQ below (va_Ql (fun (x : Int64) (_ : Unit) => x = r.1) (fun _ => zEnd g A (zX6 g a r.2)) A) ([.ref (a 0)] : List Value).toArray s 0 0 A) (F0 m 273 ls [])) → ∀ (H : Heap) (locs : List Loc), va_P g.1 vwCl (zX6 g a v) H → va_D A (zX6 g a v) → va_S A s.heap H locs → ∀ ls : Array Slot, lv_has ls 6 [(0, .ref (a 0)), (1, .ref (a 19)), (2, .long x.1), (4, .int i4), (5, .int x.2)] → W p l e (headSpec (zw yX6_digest cX6_digest 6 (some .long)) ({ frames := 7, cells := 0, slots := 0, locals := 161 } : Room)).room s m ([.ref (a 0)] : List Value).toArray below meth c H locs 0 0 (MQ below (va_Ql (fun (x : Int64) (_ : Unit) => x = r.1) (fun _ => zEnd g A (zX6 g a r.2)) A) ([.ref (a 0)] : List Value).toArray s 0 0 A) (F0 m 239 ls []) := by
    intro v i4
    refine zloop_ind ?_
    intro x y rr hf ih hr hQ H locs hP hD hS ls hl
    unfold s_X6_digest_239 at hf
    refine lv_iload hx hb dX6_digest_239 (lv_at hl 4 rfl) ?_
    refine lv_iconst (v := 2) hx hb dX6_digest_241 (by decide) ?_
    refine lv_icmp_gt (tgt := 273) hx hb dX6_digest_242 (by decide) (fun c18 => ?_) (fun c18 => ?_)
    · have hf := oi hf c18
      have hR : (x.1, x.2) = rr := hr _ (Option.some.inj hf).symm
      subst hR
      exact hQ _ _ hP hD hS _ (lv_sub hl [0, 1, 2, 3] rfl)
    · have hf := oe hf c18
      refine lv_ldc2 (v := 31) hx hb hown (hw0 _ zm3_8) dX6_digest_245 ?_
      refine lv_lload_n hx hb dX6_digest_248 rfl (lv_at hl 2 rfl) ?_
      refine lv_lmul hx hb dX6_digest_249 ?_
      refine lv_aload_n hx hb dX6_digest_250 rfl (lv_at hl 0 rfl) ?_
      refine va_get (D := g.1) (ci := 6) (v := .ref (a 1)) (C := RX6) (T := TX6) (N := 5) hx hb hw0 ziX6 hown hK.1 hP 0 rfl rfl 0 (by decide) (hw0 _ zm1_209) (fun _ h9 => h9) rfl dX6_digest_251 ?_
      refine va_getN (D := g.1) (ci := 2) (v := .ref (a 15)) (C := RX2) (T := TX2) (N := 11) hx hb hw0 ziX2 hown hK.1 hP 1 rfl rfl 2 (by decide) (va_Nw.use rfl (zf_25 hK)) (fun _ h9 => h9) rfl dX6_digest_254 ?_
      refine lv_iload hx hb dX6_digest_257 (lv_at hl 3 rfl) ?_
      refine lv_iload hx hb dX6_digest_259 (lv_at hl 4 rfl) ?_
      obtain ⟨u19, hu19, hf⟩ := ob hf
      refine zk_iR (va_runVN (As := [.int i4, .int x.2]) (rest := [.long ((31 : Int64) * x.1)]) ⟨hx, hb, hml, hown, hts⟩ (c_X3_tell l g (fun k => a (k + 15)) v.1.2.2.1 i4 x.2 _ hu19 _) (zcN hw0 (zn_41 hK) zm3_44 zm1_6 zm3_43 zs4_10 hd_X3_tell rfl rfl ⟨Nat.le_of_ble_eq_true rfl, Nat.le_of_ble_eq_true rfl⟩) ⟨zblind, zrecv (wc := zX3 g (fun k => a (k + 15)) v.1.2.2.1) hK hP [15, 16, 17, 18] rfl (ci := 3) rfl rfl, zpre hK hP hD [15, 16, 17, 18] rfl rfl⟩ rfl rfl hl.1 rfl (lv_room (Nat.le_of_ble_eq_true rfl)) dX6_digest_261 ⟨Nat.zero_le _, Nat.zero_le _⟩) hP hD hS hA [15, 16, 17, 18] rfl (fun H locs hP hD hS => ?_)
      refine lv_i2l (v := (Int32.toInt64 u19)) hx hb dX6_digest_264 rfl ?_
      refine lv_ladd hx hb dX6_digest_265 ?_
      refine lv_lstore_n (lv' := [(2, .long (((31 : Int64) * x.1) + (Int32.toInt64 u19))), (0, .ref (a 0)), (1, .ref (a 19)), (4, .int i4), (5, .int x.2)]) hx hb dX6_digest_266 rfl hl (by decide) rfl (fun ls hl => ?_)
      refine lv_iinc (v := (x.2 + 1)) (lv' := [(5, .int (x.2 + 1)), (2, .long (((31 : Int64) * x.1) + (Int32.toInt64 u19))), (0, .ref (a 0)), (1, .ref (a 19)), (4, .int i4)]) hx hb dX6_digest_267 hl (k := 4) rfl rfl (by decide) rfl (fun ls hl => ?_)
      refine lv_goto (tgt := 239) hx hb dX6_digest_270 (by decide) ?_
      exact ih ((((31 : Int64) * x.1) + (Int32.toInt64 u19)), (x.2 + 1)) (Option.some.inj hf).symm hQ _ _ hP hD hS _ (lv_sub hl [2, 3, 1, 4, 0] rfl)
  have lp221 : ∀ (v : CV), ∀ (n : Nat) (x : Int64 × Int32) (rr : Int64 × Int32), zloop (s_X6_digest_221 v) n x = some rr → (∀ (H : Heap) (locs : List Loc), va_P g.1 vwCl (zX6 g a v) H → va_D A (zX6 g a v) → va_S A s.heap H locs → ∀ ls : Array Slot, lv_has ls 6 [(0, .ref (a 0)), (1, .ref (a 19)), (2, .long rr.1)] → W p l e (headSpec (zw yX6_digest cX6_digest 6 (some .long)) ({ frames := 7, cells := 0, slots := 0, locals := 161 } : Room)).room s m ([.ref (a 0)] : List Value).toArray below meth c H locs 0 0 (MQ below (va_Ql (fun (x : Int64) (_ : Unit) => x = r.1) (fun _ => zEnd g A (zX6 g a r.2)) A) ([.ref (a 0)] : List Value).toArray s 0 0 A) (F0 m 279 ls [])) → ∀ (H : Heap) (locs : List Loc), va_P g.1 vwCl (zX6 g a v) H → va_D A (zX6 g a v) → va_S A s.heap H locs → ∀ ls : Array Slot, lv_has ls 6 [(0, .ref (a 0)), (1, .ref (a 19)), (2, .long x.1), (4, .int x.2)] → W p l e (headSpec (zw yX6_digest cX6_digest 6 (some .long)) ({ frames := 7, cells := 0, slots := 0, locals := 161 } : Room)).room s m ([.ref (a 0)] : List Value).toArray below meth c H locs 0 0 (MQ below (va_Ql (fun (x : Int64) (_ : Unit) => x = r.1) (fun _ => zEnd g A (zX6 g a r.2)) A) ([.ref (a 0)] : List Value).toArray s 0 0 A) (F0 m 221 ls []) := by
    intro v
    refine zloop_ind ?_
    intro x y rr hf ih hr hQ H locs hP hD hS ls hl
    unfold s_X6_digest_221 at hf
    refine lv_iload hx hb dX6_digest_221 (lv_at hl 3 rfl) ?_
    refine lv_aload_n hx hb dX6_digest_223 rfl (lv_at hl 0 rfl) ?_
    refine va_get (D := g.1) (ci := 6) (v := .ref (a 1)) (C := RX6) (T := TX6) (N := 5) hx hb hw0 ziX6 hown hK.1 hP 0 rfl rfl 0 (by decide) (hw0 _ zm1_209) (fun _ h9 => h9) rfl dX6_digest_224 ?_
    refine va_getN (D := g.1) (ci := 2) (v := .ref (a 15)) (C := RX2) (T := TX2) (N := 11) hx hb hw0 ziX2 hown hK.1 hP 1 rfl rfl 2 (by decide) (va_Nw.use rfl (zf_25 hK)) (fun _ h9 => h9) rfl dX6_digest_227 ?_
    refine va_getN (D := g.1) (ci := 3) (v := .int v.1.2.2.1.1) (C := RX3) (T := TX3) (N := 4) hx hb hw0 ziX3 hown hK.1 hP 15 rfl rfl 0 (by decide) (va_Nw.use rfl (zf_20 hK)) (fun _ h9 => h9) rfl dX6_digest_230 ?_
    refine lv_icmp_ge (tgt := 279) hx hb dX6_digest_233 (by decide) (fun c17 => ?_) (fun c17 => ?_)
    · have hf := oi hf c17
      have hR : (x.1, x.2) = rr := hr _ (Option.some.inj hf).symm
      subst hR
      exact hQ _ _ hP hD hS _ (lv_sub hl [0, 1, 2] rfl)
    · have hf := oe hf c17
      refine lv_iconst (v := 0) hx hb dX6_digest_236 (by decide) ?_
      refine lv_istore (lv' := [(5, .int 0), (0, .ref (a 0)), (1, .ref (a 19)), (2, .long x.1), (4, .int x.2)]) hx hb dX6_digest_237 hl (by decide) rfl (fun ls hl => ?_)
      obtain ⟨u20, hu20, hf⟩ := ob hf
      refine lp239 v x.2 _ _ u20 hu20 (fun H locs hP hD hS ls hl => ?_) _ _ hP hD hS _ (lv_sub hl [1, 2, 3, 4, 0] rfl)
      have hl : lv_has ls 6 [(0, .ref (a 0)), (1, .ref (a 19)), (2, .long u20.1), (4, .int x.2)] := hl
      have hP : va_P g.1 vwCl (zX6 g a v) H := hP
      have hD : va_D A (zX6 g a v) := hD
      refine lv_iinc (v := (x.2 + 1)) (lv' := [(4, .int (x.2 + 1)), (0, .ref (a 0)), (1, .ref (a 19)), (2, .long u20.1)]) hx hb dX6_digest_273 hl (k := 3) rfl rfl (by decide) rfl (fun ls hl => ?_)
      refine lv_goto (tgt := 221) hx hb dX6_digest_276 (by decide) ?_
      exact ih (u20.1, (x.2 + 1)) (Option.some.inj hf).symm hQ _ _ hP hD hS _ (lv_sub hl [1, 2, 3, 0] rfl)
  unfold f_X6_digest at hf
  have hl := lv_entry ([.ref (a 0)]) (n := 6) (Nat.le_of_ble_eq_true rfl)
  rw [lg_entry_eq]
  generalize (lg_sl ([.ref (a 0)]) ++ List.replicate (6 - (lg_sl ([.ref (a 0)])).length) Slot.unset).toArray = ls at hl ⊢
  have hl : lv_has ls 6 [(0, .ref (a 0))] := hl
  refine lv_aload_n hx hb dX6_digest_0 rfl (lv_at hl 0 rfl) ?_
  refine lv_iconst (v := (-1)) hx hb dX6_digest_1 (by decide) ?_
  obtain ⟨u1, hu1, hf⟩ := ob hf
  refine zk_rA (va_runV (As := [.int (-1)]) (rest := []) ⟨hx, hb, hml, hown, hts⟩ (c_X6_foresee l g a v (-1) _ hu1 _) (zcV hw0 zm2_136 zm2_139 zm1_1 zm2_138 zs2_15 hd_X6_foresee rfl rfl ⟨Nat.le_of_ble_eq_true rfl, Nat.le_of_ble_eq_true rfl⟩) ⟨zblind, zrecvA hK hP (ci := 6) rfl rfl, zpreA hK hP hD⟩ rfl rfl hl.1 rfl (lv_room (Nat.le_of_ble_eq_true rfl)) dX6_digest_2 ⟨Nat.zero_le _, Nat.zero_le _⟩) hP hD hS hA (fun H locs hP hD hS => ?_)
  have hP : va_P g.1 vwCl (zX6 g a u1) H := hP
  have hD : va_D A (zX6 g a u1) := hD
  refine lv_astore_n (lv' := [(1, .ref (a 19)), (0, .ref (a 0))]) hx hb dX6_digest_5 rfl hl (by decide) rfl (fun ls hl => ?_)
  refine lv_ldc2 (v := 3559) hx hb hown (hw0 _ zm3_7) dX6_digest_6 ?_
  refine lv_lstore_n (lv' := [(2, .long (3559 : Int64)), (1, .ref (a 19)), (0, .ref (a 0))]) hx hb dX6_digest_9 rfl hl (by decide) rfl (fun ls hl => ?_)
  refine lv_ldc2 (v := 31) hx hb hown (hw0 _ zm3_8) dX6_digest_10 ?_
  refine lv_lload_n hx hb dX6_digest_13 rfl (lv_at hl 0 rfl) ?_
  refine lv_lmul hx hb dX6_digest_14 ?_
  refine lv_aload_n hx hb dX6_digest_15 rfl (lv_at hl 2 rfl) ?_
  refine va_get (D := g.1) (ci := 6) (v := .ref (a 38)) (C := RX6) (T := TX6) (N := 5) hx hb hw0 ziX6 hown hK.1 hP 0 rfl rfl 4 (by decide) (hw0 _ zm1_213) (fun _ h9 => h9) rfl dX6_digest_16 ?_
  refine va_getN (D := g.1) (ci := 5) (v := .int u1.2.2.2.2.2.1) (C := RX5) (T := TX5) (N := 4) hx hb hw0 ziX5 hown hK.1 hP 38 rfl rfl 1 (by decide) (va_Nw.use rfl (zf_30 hK)) (fun _ h9 => h9) rfl dX6_digest_19 ?_
  refine lv_i2l (v := (Int32.toInt64 u1.2.2.2.2.2.1)) hx hb dX6_digest_22 rfl ?_
  refine lv_ladd hx hb dX6_digest_23 ?_
  refine lv_lstore_n (lv' := [(2, .long (((31 : Int64) * (3559 : Int64)) + (Int32.toInt64 u1.2.2.2.2.2.1))), (1, .ref (a 19)), (0, .ref (a 0))]) hx hb dX6_digest_24 rfl hl (by decide) rfl (fun ls hl => ?_)
  refine lv_iconst (v := 0) hx hb dX6_digest_25 (by decide) ?_
  refine lv_istore (lv' := [(4, .int 0), (2, .long (((31 : Int64) * (3559 : Int64)) + (Int32.toInt64 u1.2.2.2.2.2.1))), (1, .ref (a 19)), (0, .ref (a 0))]) hx hb dX6_digest_26 hl (by decide) rfl (fun ls hl => ?_)
  obtain ⟨u4, hu4, hf⟩ := ob hf
  refine lp28 u1 _ _ u4 hu4 (fun H locs hP hD hS ls hl => ?_) _ _ hP hD hS _ (lv_sub hl [3, 2, 1, 0] rfl)
  have hl : lv_has ls 6 [(0, .ref (a 0)), (1, .ref (a 19)), (2, .long u4.1)] := hl
  have hP : va_P g.1 vwCl (zX6 g a u1) H := hP
  have hD : va_D A (zX6 g a u1) := hD
  refine lv_iconst (v := 0) hx hb dX6_digest_58 (by decide) ?_
  refine lv_istore (lv' := [(4, .int 0), (0, .ref (a 0)), (1, .ref (a 19)), (2, .long u4.1)]) hx hb dX6_digest_59 hl (by decide) rfl (fun ls hl => ?_)
  obtain ⟨u11, hu11, hf⟩ := ob hf
  refine lp61 u1 _ _ u11 hu11 (fun H locs hP hD hS ls hl => ?_) _ _ hP hD hS _ (lv_sub hl [1, 2, 3, 0] rfl)
  have hl : lv_has ls 6 [(0, .ref (a 0)), (1, .ref (a 19)), (2, .long u11.1)] := hl
  have hP : va_P g.1 vwCl (zX6 g a u1) H := hP
  have hD : va_D A (zX6 g a u1) := hD
  refine lv_iconst (v := 0) hx hb dX6_digest_157 (by decide) ?_
  refine lv_istore (lv' := [(4, .int 0), (0, .ref (a 0)), (1, .ref (a 19)), (2, .long u11.1)]) hx hb dX6_digest_158 hl (by decide) rfl (fun ls hl => ?_)
  obtain ⟨u16, hu16, hf⟩ := ob hf
  refine lp160 u1 _ _ u16 hu16 (fun H locs hP hD hS ls hl => ?_) _ _ hP hD hS _ (lv_sub hl [1, 2, 3, 0] rfl)
  have hl : lv_has ls 6 [(0, .ref (a 0)), (1, .ref (a 19)), (2, .long u16.1)] := hl
  have hP : va_P g.1 vwCl (zX6 g a u1) H := hP
  have hD : va_D A (zX6 g a u1) := hD
  refine lv_iconst (v := 0) hx hb dX6_digest_218 (by decide) ?_
  refine lv_istore (lv' := [(4, .int 0), (0, .ref (a 0)), (1, .ref (a 19)), (2, .long u16.1)]) hx hb dX6_digest_219 hl (by decide) rfl (fun ls hl => ?_)
  obtain ⟨u21, hu21, hf⟩ := ob hf
  refine lp221 u1 _ _ u21 hu21 (fun H locs hP hD hS ls hl => ?_) _ _ hP hD hS _ (lv_sub hl [1, 2, 3, 0] rfl)
  have hl : lv_has ls 6 [(0, .ref (a 0)), (1, .ref (a 19)), (2, .long u21.1)] := hl
  have hP : va_P g.1 vwCl (zX6 g a u1) H := hP
  have hD : va_D A (zX6 g a u1) := hD
  refine lv_ldc2 (v := 31) hx hb hown (hw0 _ zm3_8) dX6_digest_279 ?_
  refine lv_lload_n hx hb dX6_digest_282 rfl (lv_at hl 2 rfl) ?_
  refine lv_lmul hx hb dX6_digest_283 ?_
  refine lv_aload_n hx hb dX6_digest_284 rfl (lv_at hl 1 rfl) ?_
  refine va_getN (D := g.1) (ci := 2) (v := .int u1.2.1.2.2.2.1) (C := RX2) (T := TX2) (N := 11) hx hb hw0 ziX2 hown hK.1 hP 19 rfl rfl 3 (by decide) (va_Nw.use rfl (zf_26 hK)) (fun _ h9 => h9) rfl dX6_digest_285 ?_
  refine lv_i2l (v := (Int32.toInt64 u1.2.1.2.2.2.1)) hx hb dX6_digest_288 rfl ?_
  refine lv_ladd hx hb dX6_digest_289 ?_
  refine lv_lstore_n (lv' := [(2, .long (((31 : Int64) * u21.1) + (Int32.toInt64 u1.2.1.2.2.2.1))), (0, .ref (a 0)), (1, .ref (a 19))]) hx hb dX6_digest_290 rfl hl (by decide) rfl (fun ls hl => ?_)
  refine lv_ldc2 (v := 31) hx hb hown (hw0 _ zm3_8) dX6_digest_291 ?_
  refine lv_lload_n hx hb dX6_digest_294 rfl (lv_at hl 0 rfl) ?_
  refine lv_lmul hx hb dX6_digest_295 ?_
  refine lv_aload_n hx hb dX6_digest_296 rfl (lv_at hl 1 rfl) ?_
  refine va_get (D := g.1) (ci := 6) (v := .int u1.2.2.2.1) (C := RX6) (T := TX6) (N := 5) hx hb hw0 ziX6 hown hK.1 hP 0 rfl rfl 3 (by decide) (hw0 _ zm1_212) (fun _ h9 => h9) rfl dX6_digest_297 ?_
  refine lv_i2l (v := (Int32.toInt64 u1.2.2.2.1)) hx hb dX6_digest_300 rfl ?_
  refine lv_ladd hx hb dX6_digest_301 ?_
  have hR : ((((31 : Int64) * (((31 : Int64) * u21.1) + (Int32.toInt64 u1.2.1.2.2.2.1))) + (Int32.toInt64 u1.2.2.2.1)), u1) = r := Option.some.inj hf
  subst hR
  exact W.lret (v := (((31 : Int64) * (((31 : Int64) * u21.1) + (Int32.toInt64 u1.2.1.2.2.2.1))) + (Int32.toInt64 u1.2.2.2.1))) hx hb hr0 (fun t ht hW => ⟨⟨(((31 : Int64) * (((31 : Int64) * u21.1) + (Int32.toInt64 u1.2.1.2.2.2.1))) + (Int32.toInt64 u1.2.2.2.1)), (), rfl, rfl, by rw [ht]; exact hP, hD⟩, hS.F ht⟩) hS.2.2 dX6_digest_302
