theorem hd_X6_forgetOldest : yX6_forgetOldest.cls ≠ "java/lang/invoke/MethodHandle" ∧ yX6_forgetOldest.cls ≠ "java/lang/invoke/VarHandle" ∧ (parseMethodDescriptor yX6_forgetOldest.desc).map (fun d => d.parameters.length) = some 0 := by decide +kernel
def f_X6_forgetOldest (v : CV) : Option (CV) :=
  if (v.2.2.1.1 1) < 4 then
  if (v.2.2.1.1 2) < 4 then
  if (v.2.2.1.1 3) < 4 then
  if (v.2.2.1.1 0) < 4 then
  some (v.1, v.2.1, ((fun j => if j = 3 then (v.2.2.1.1 0) else (fun j => if j = 2 then (v.2.2.1.1 3) else (fun j => if j = 1 then (v.2.2.1.1 2) else (fun j => if j = 0 then (v.2.2.1.1 1) else v.2.2.1.1 j) j) j) j), v.2.2.1.2.1, v.2.2.1.2.2.1, v.2.2.1.2.2.2.1, v.2.2.1.2.2.2.2), 3, v.2.2.2.2)
  else none
  else none
  else none
  else none
set_option maxHeartbeats 4000000 in
set_option maxRecDepth 100000 in
theorem c_X6_forgetOldest (l : Launch) (g : zG) (a : Nat → Nat) (v : CV) (r : CV) (hf : f_X6_forgetOldest v = some r) : zMv zNF zNM l yX6_forgetOldest (zw yX6_forgetOldest cX6_forgetOldest 3 none) ({ frames := 0, cells := 0, slots := 0, locals := 0 } : Room) g [.ref (a 0)] (zX6 g a v) (zX6 g a r) := by
  intro sz
  refine Met.ofW (cc := cX6_forgetOldest) (maxL := 3) (ret := none) (by decide) rfl ?_
  intro p e s m args below meth c s₁ B hml hv
  obtain ⟨rfl, hsz, hP, hK, hD0⟩ := hv
  have hx := B.exec
  have hb := B.bytes
  have hr0 := B.returns
  have hts := atoms_spec (ws := (zw yX6_forgetOldest cX6_forgetOldest 3 none)) B.pre
  have hw0 : ∀ w ∈ zW, w.before ([.ref (a 0)] : List Value).toArray s = true := fun w h => hts w (List.mem_cons_of_mem _ h)
  have hown : s.vm.findClass RX6 = some m.cls := findClass_of_methodNamed B.named
  have hlocks := B.notSynchronized
  subst hsz
  have hD := hD0.self (sz := s.heap.size)
  generalize hAe : va_A (zX6 g a v) s.heap.size = A at hD ⊢
  have hA : ∀ q : Nat, s.heap.size ≤ q → A q := fun q h => by rw [← hAe]; exact Or.inr h
  have hS : va_S A s.heap s.heap [] := va_S.rf
  unfold f_X6_forgetOldest at hf
  have hl := lv_entry ([.ref (a 0)]) (n := 3) (Nat.le_of_ble_eq_true rfl)
  rw [lg_entry_eq]
  generalize (lg_sl ([.ref (a 0)]) ++ List.replicate (3 - (lg_sl ([.ref (a 0)])).length) Slot.unset).toArray = ls at hl ⊢
  have hl : lv_has ls 3 [(0, .ref (a 0))] := hl
  refine lv_aload_n hx hb dX6_forgetOldest_0 rfl (lv_at hl 0 rfl) ?_
  refine va_get (D := g.1) (ci := 6) (v := .ref (a 37)) (C := RX6) (T := TX6) (N := 5) hx hb hw0 ziX6 hown hK.1 hP 0 rfl rfl 2 (by decide) (hw0 _ zm1_204) (fun _ h9 => h9) rfl dX6_forgetOldest_1 ?_
  refine lv_iconst (v := 0) hx hb dX6_forgetOldest_4 (by decide) ?_
  refine zaldq (D := g.1) (f := fun j => some (a (40 + 18 * v.2.2.1.1 j))) (k := 0) (x := a (40 + 18 * (v.2.2.1.1 0))) hx hb hK.1 hP 37 1 rfl rfl (zin_vp (i := 0) (n := 4) rfl) rfl rfl dX6_forgetOldest_5 ?_
  refine lv_astore_n (lv' := [(1, .ref (a (40 + 18 * (v.2.2.1.1 0)))), (0, .ref (a 0))]) hx hb dX6_forgetOldest_6 rfl hl (by decide) rfl (fun ls hl => ?_)
  refine lv_iconst (v := 1) hx hb dX6_forgetOldest_7 (by decide) ?_
  refine lv_istore_n (lv' := [(2, .int 1), (1, .ref (a (40 + 18 * (v.2.2.1.1 0)))), (0, .ref (a 0))]) hx hb dX6_forgetOldest_8 rfl hl (by decide) rfl (fun ls hl => ?_)
  refine lv_iload_n hx hb dX6_forgetOldest_9 rfl (lv_at hl 0 rfl) ?_
  refine lv_iconst (v := 4) hx hb dX6_forgetOldest_10 (by decide) ?_
  refine lv_icmp_ge (tgt := 34) hx hb dX6_forgetOldest_11 (by decide) (fun c9 => absurd c9 (by decide)) (fun _ => ?_)
  refine lv_aload_n hx hb dX6_forgetOldest_14 rfl (lv_at hl 2 rfl) ?_
  refine va_get (D := g.1) (ci := 6) (v := .ref (a 37)) (C := RX6) (T := TX6) (N := 5) hx hb hw0 ziX6 hown hK.1 hP 0 rfl rfl 2 (by decide) (hw0 _ zm1_204) (fun _ h9 => h9) rfl dX6_forgetOldest_15 ?_
  refine lv_iload_n hx hb dX6_forgetOldest_18 rfl (lv_at hl 0 rfl) ?_
  refine lv_iconst (v := 1) hx hb dX6_forgetOldest_19 (by decide) ?_
  refine lv_isub hx hb dX6_forgetOldest_20 ?_
  refine zeqi (y := 0) rfl ?_
  refine lv_aload_n hx hb dX6_forgetOldest_21 rfl (lv_at hl 2 rfl) ?_
  refine va_get (D := g.1) (ci := 6) (v := .ref (a 37)) (C := RX6) (T := TX6) (N := 5) hx hb hw0 ziX6 hown hK.1 hP 0 rfl rfl 2 (by decide) (hw0 _ zm1_204) (fun _ h9 => h9) rfl dX6_forgetOldest_22 ?_
  refine lv_iload_n hx hb dX6_forgetOldest_25 rfl (lv_at hl 0 rfl) ?_
  refine zaldq (D := g.1) (f := fun j => some (a (40 + 18 * v.2.2.1.1 j))) (k := 1) (x := a (40 + 18 * (v.2.2.1.1 1))) hx hb hK.1 hP 37 1 rfl rfl (zin_vp (i := 1) (n := 4) rfl) rfl rfl dX6_forgetOldest_26 ?_
  obtain ⟨h1, hf⟩ := ogp hf
  obtain ⟨q2k, q2v, q2h⟩ := zHat g a v (v.2.2.1.1 1) h1
  refine zastq (D := g.1) (f := fun j => some (a (40 + 18 * v.2.2.1.1 j))) (f2 := fun j => some (a (40 + 18 * (fun j => if j = 0 then (v.2.2.1.1 1) else v.2.2.1.1 j) j))) (k := 0) hx hb hK.1 hP hD hS 37 1 q2k 2 rfl rfl q2h rfl (zin_vp (i := 0) (n := 4) rfl) rfl zpiup dX6_forgetOldest_27 (fun H locs hP hD hS => ?_)
  have hP : va_P g.1 vwCl (zX6 g a (v.1, v.2.1, ((fun j => if j = 0 then (v.2.2.1.1 1) else v.2.2.1.1 j), v.2.2.1.2.1, v.2.2.1.2.2.1, v.2.2.1.2.2.2.1, v.2.2.1.2.2.2.2), v.2.2.2.1, v.2.2.2.2)) H := hP
  have hD : va_D A (zX6 g a (v.1, v.2.1, ((fun j => if j = 0 then (v.2.2.1.1 1) else v.2.2.1.1 j), v.2.2.1.2.1, v.2.2.1.2.2.1, v.2.2.1.2.2.2.1, v.2.2.1.2.2.2.2), v.2.2.2.1, v.2.2.2.2)) := hD
  refine lv_iinc (v := 2) (lv' := [(2, .int 2), (1, .ref (a (40 + 18 * (v.2.2.1.1 0)))), (0, .ref (a 0))]) hx hb dX6_forgetOldest_28 hl (k := 0) rfl rfl (by decide) rfl (fun ls hl => ?_)
  refine lv_goto (tgt := 9) hx hb dX6_forgetOldest_31 (by decide) ?_
  refine lv_iload_n hx hb dX6_forgetOldest_9 rfl (lv_at hl 0 rfl) ?_
  refine lv_iconst (v := 4) hx hb dX6_forgetOldest_10 (by decide) ?_
  refine lv_icmp_ge (tgt := 34) hx hb dX6_forgetOldest_11 (by decide) (fun c9 => absurd c9 (by decide)) (fun _ => ?_)
  refine lv_aload_n hx hb dX6_forgetOldest_14 rfl (lv_at hl 2 rfl) ?_
  refine va_get (D := g.1) (ci := 6) (v := .ref (a 37)) (C := RX6) (T := TX6) (N := 5) hx hb hw0 ziX6 hown hK.1 hP 0 rfl rfl 2 (by decide) (hw0 _ zm1_204) (fun _ h9 => h9) rfl dX6_forgetOldest_15 ?_
  refine lv_iload_n hx hb dX6_forgetOldest_18 rfl (lv_at hl 0 rfl) ?_
  refine lv_iconst (v := 1) hx hb dX6_forgetOldest_19 (by decide) ?_
  refine lv_isub hx hb dX6_forgetOldest_20 ?_
  refine zeqi (y := 1) rfl ?_
  refine lv_aload_n hx hb dX6_forgetOldest_21 rfl (lv_at hl 2 rfl) ?_
  refine va_get (D := g.1) (ci := 6) (v := .ref (a 37)) (C := RX6) (T := TX6) (N := 5) hx hb hw0 ziX6 hown hK.1 hP 0 rfl rfl 2 (by decide) (hw0 _ zm1_204) (fun _ h9 => h9) rfl dX6_forgetOldest_22 ?_
  refine lv_iload_n hx hb dX6_forgetOldest_25 rfl (lv_at hl 0 rfl) ?_
  refine zaldq (D := g.1) (f := fun j => some (a (40 + 18 * (fun j => if j = 0 then (v.2.2.1.1 1) else v.2.2.1.1 j) j))) (k := 2) (x := a (40 + 18 * (v.2.2.1.1 2))) hx hb hK.1 hP 37 1 rfl rfl (zin_vp (i := 2) (n := 4) rfl) rfl rfl dX6_forgetOldest_26 ?_
  obtain ⟨h3, hf⟩ := ogp hf
  obtain ⟨q4k, q4v, q4h⟩ := zHat g a (v.1, v.2.1, ((fun j => if j = 0 then (v.2.2.1.1 1) else v.2.2.1.1 j), v.2.2.1.2.1, v.2.2.1.2.2.1, v.2.2.1.2.2.2.1, v.2.2.1.2.2.2.2), v.2.2.2.1, v.2.2.2.2) (v.2.2.1.1 2) h3
  refine zastq (D := g.1) (f := fun j => some (a (40 + 18 * (fun j => if j = 0 then (v.2.2.1.1 1) else v.2.2.1.1 j) j))) (f2 := fun j => some (a (40 + 18 * (fun j => if j = 1 then (v.2.2.1.1 2) else (fun j => if j = 0 then (v.2.2.1.1 1) else v.2.2.1.1 j) j) j))) (k := 1) hx hb hK.1 hP hD hS 37 1 q4k 2 rfl rfl q4h rfl (zin_vp (i := 1) (n := 4) rfl) rfl zpiup dX6_forgetOldest_27 (fun H locs hP hD hS => ?_)
  have hP : va_P g.1 vwCl (zX6 g a (v.1, v.2.1, ((fun j => if j = 1 then (v.2.2.1.1 2) else (fun j => if j = 0 then (v.2.2.1.1 1) else v.2.2.1.1 j) j), v.2.2.1.2.1, v.2.2.1.2.2.1, v.2.2.1.2.2.2.1, v.2.2.1.2.2.2.2), v.2.2.2.1, v.2.2.2.2)) H := hP
  have hD : va_D A (zX6 g a (v.1, v.2.1, ((fun j => if j = 1 then (v.2.2.1.1 2) else (fun j => if j = 0 then (v.2.2.1.1 1) else v.2.2.1.1 j) j), v.2.2.1.2.1, v.2.2.1.2.2.1, v.2.2.1.2.2.2.1, v.2.2.1.2.2.2.2), v.2.2.2.1, v.2.2.2.2)) := hD
  refine lv_iinc (v := 3) (lv' := [(2, .int 3), (1, .ref (a (40 + 18 * (v.2.2.1.1 0)))), (0, .ref (a 0))]) hx hb dX6_forgetOldest_28 hl (k := 0) rfl rfl (by decide) rfl (fun ls hl => ?_)
  refine lv_goto (tgt := 9) hx hb dX6_forgetOldest_31 (by decide) ?_
  refine lv_iload_n hx hb dX6_forgetOldest_9 rfl (lv_at hl 0 rfl) ?_
  refine lv_iconst (v := 4) hx hb dX6_forgetOldest_10 (by decide) ?_
  refine lv_icmp_ge (tgt := 34) hx hb dX6_forgetOldest_11 (by decide) (fun c9 => absurd c9 (by decide)) (fun _ => ?_)
  refine lv_aload_n hx hb dX6_forgetOldest_14 rfl (lv_at hl 2 rfl) ?_
  refine va_get (D := g.1) (ci := 6) (v := .ref (a 37)) (C := RX6) (T := TX6) (N := 5) hx hb hw0 ziX6 hown hK.1 hP 0 rfl rfl 2 (by decide) (hw0 _ zm1_204) (fun _ h9 => h9) rfl dX6_forgetOldest_15 ?_
  refine lv_iload_n hx hb dX6_forgetOldest_18 rfl (lv_at hl 0 rfl) ?_
  refine lv_iconst (v := 1) hx hb dX6_forgetOldest_19 (by decide) ?_
  refine lv_isub hx hb dX6_forgetOldest_20 ?_
  refine zeqi (y := 2) rfl ?_
  refine lv_aload_n hx hb dX6_forgetOldest_21 rfl (lv_at hl 2 rfl) ?_
  refine va_get (D := g.1) (ci := 6) (v := .ref (a 37)) (C := RX6) (T := TX6) (N := 5) hx hb hw0 ziX6 hown hK.1 hP 0 rfl rfl 2 (by decide) (hw0 _ zm1_204) (fun _ h9 => h9) rfl dX6_forgetOldest_22 ?_
  refine lv_iload_n hx hb dX6_forgetOldest_25 rfl (lv_at hl 0 rfl) ?_
  refine zaldq (D := g.1) (f := fun j => some (a (40 + 18 * (fun j => if j = 1 then (v.2.2.1.1 2) else (fun j => if j = 0 then (v.2.2.1.1 1) else v.2.2.1.1 j) j) j))) (k := 3) (x := a (40 + 18 * (v.2.2.1.1 3))) hx hb hK.1 hP 37 1 rfl rfl (zin_vp (i := 3) (n := 4) rfl) rfl rfl dX6_forgetOldest_26 ?_
  obtain ⟨h5, hf⟩ := ogp hf
  obtain ⟨q6k, q6v, q6h⟩ := zHat g a (v.1, v.2.1, ((fun j => if j = 1 then (v.2.2.1.1 2) else (fun j => if j = 0 then (v.2.2.1.1 1) else v.2.2.1.1 j) j), v.2.2.1.2.1, v.2.2.1.2.2.1, v.2.2.1.2.2.2.1, v.2.2.1.2.2.2.2), v.2.2.2.1, v.2.2.2.2) (v.2.2.1.1 3) h5
  refine zastq (D := g.1) (f := fun j => some (a (40 + 18 * (fun j => if j = 1 then (v.2.2.1.1 2) else (fun j => if j = 0 then (v.2.2.1.1 1) else v.2.2.1.1 j) j) j))) (f2 := fun j => some (a (40 + 18 * (fun j => if j = 2 then (v.2.2.1.1 3) else (fun j => if j = 1 then (v.2.2.1.1 2) else (fun j => if j = 0 then (v.2.2.1.1 1) else v.2.2.1.1 j) j) j) j))) (k := 2) hx hb hK.1 hP hD hS 37 1 q6k 2 rfl rfl q6h rfl (zin_vp (i := 2) (n := 4) rfl) rfl zpiup dX6_forgetOldest_27 (fun H locs hP hD hS => ?_)
  have hP : va_P g.1 vwCl (zX6 g a (v.1, v.2.1, ((fun j => if j = 2 then (v.2.2.1.1 3) else (fun j => if j = 1 then (v.2.2.1.1 2) else (fun j => if j = 0 then (v.2.2.1.1 1) else v.2.2.1.1 j) j) j), v.2.2.1.2.1, v.2.2.1.2.2.1, v.2.2.1.2.2.2.1, v.2.2.1.2.2.2.2), v.2.2.2.1, v.2.2.2.2)) H := hP
  have hD : va_D A (zX6 g a (v.1, v.2.1, ((fun j => if j = 2 then (v.2.2.1.1 3) else (fun j => if j = 1 then (v.2.2.1.1 2) else (fun j => if j = 0 then (v.2.2.1.1 1) else v.2.2.1.1 j) j) j), v.2.2.1.2.1, v.2.2.1.2.2.1, v.2.2.1.2.2.2.1, v.2.2.1.2.2.2.2), v.2.2.2.1, v.2.2.2.2)) := hD
  refine lv_iinc (v := 4) (lv' := [(2, .int 4), (1, .ref (a (40 + 18 * (v.2.2.1.1 0)))), (0, .ref (a 0))]) hx hb dX6_forgetOldest_28 hl (k := 0) rfl rfl (by decide) rfl (fun ls hl => ?_)
  refine lv_goto (tgt := 9) hx hb dX6_forgetOldest_31 (by decide) ?_
  refine lv_iload_n hx hb dX6_forgetOldest_9 rfl (lv_at hl 0 rfl) ?_
  refine lv_iconst (v := 4) hx hb dX6_forgetOldest_10 (by decide) ?_
  refine lv_icmp_ge (tgt := 34) hx hb dX6_forgetOldest_11 (by decide) (fun _ => ?_) (fun c9 => absurd c9 (by decide))
  refine lv_aload_n hx hb dX6_forgetOldest_34 rfl (lv_at hl 2 rfl) ?_
  refine va_get (D := g.1) (ci := 6) (v := .ref (a 37)) (C := RX6) (T := TX6) (N := 5) hx hb hw0 ziX6 hown hK.1 hP 0 rfl rfl 2 (by decide) (hw0 _ zm1_204) (fun _ h9 => h9) rfl dX6_forgetOldest_35 ?_
  refine lv_iconst (v := 3) hx hb dX6_forgetOldest_38 (by decide) ?_
  refine lv_aload_n hx hb dX6_forgetOldest_39 rfl (lv_at hl 1 rfl) ?_
  obtain ⟨h7, hf⟩ := ogp hf
  obtain ⟨q8k, q8v, q8h⟩ := zHat g a (v.1, v.2.1, ((fun j => if j = 2 then (v.2.2.1.1 3) else (fun j => if j = 1 then (v.2.2.1.1 2) else (fun j => if j = 0 then (v.2.2.1.1 1) else v.2.2.1.1 j) j) j), v.2.2.1.2.1, v.2.2.1.2.2.1, v.2.2.1.2.2.2.1, v.2.2.1.2.2.2.2), v.2.2.2.1, v.2.2.2.2) (v.2.2.1.1 0) h7
  refine zastq (D := g.1) (f := fun j => some (a (40 + 18 * (fun j => if j = 2 then (v.2.2.1.1 3) else (fun j => if j = 1 then (v.2.2.1.1 2) else (fun j => if j = 0 then (v.2.2.1.1 1) else v.2.2.1.1 j) j) j) j))) (f2 := fun j => some (a (40 + 18 * (fun j => if j = 3 then (v.2.2.1.1 0) else (fun j => if j = 2 then (v.2.2.1.1 3) else (fun j => if j = 1 then (v.2.2.1.1 2) else (fun j => if j = 0 then (v.2.2.1.1 1) else v.2.2.1.1 j) j) j) j) j))) (k := 3) hx hb hK.1 hP hD hS 37 1 q8k 2 rfl rfl q8h rfl (zin_vp (i := 3) (n := 4) rfl) rfl zpiup dX6_forgetOldest_40 (fun H locs hP hD hS => ?_)
  have hP : va_P g.1 vwCl (zX6 g a (v.1, v.2.1, ((fun j => if j = 3 then (v.2.2.1.1 0) else (fun j => if j = 2 then (v.2.2.1.1 3) else (fun j => if j = 1 then (v.2.2.1.1 2) else (fun j => if j = 0 then (v.2.2.1.1 1) else v.2.2.1.1 j) j) j) j), v.2.2.1.2.1, v.2.2.1.2.2.1, v.2.2.1.2.2.2.1, v.2.2.1.2.2.2.2), v.2.2.2.1, v.2.2.2.2)) H := hP
  have hD : va_D A (zX6 g a (v.1, v.2.1, ((fun j => if j = 3 then (v.2.2.1.1 0) else (fun j => if j = 2 then (v.2.2.1.1 3) else (fun j => if j = 1 then (v.2.2.1.1 2) else (fun j => if j = 0 then (v.2.2.1.1 1) else v.2.2.1.1 j) j) j) j), v.2.2.1.2.1, v.2.2.1.2.2.1, v.2.2.1.2.2.2.1, v.2.2.1.2.2.2.2), v.2.2.2.1, v.2.2.2.2)) := hD
  refine lv_aload_n hx hb dX6_forgetOldest_41 rfl (lv_at hl 2 rfl) ?_
  refine lv_iconst (v := 3) hx hb dX6_forgetOldest_42 (by decide) ?_
  refine va_put (D := g.1) (ci := 6) (v := .int 3) (ty := .int) (C := RX6) (T := TX6) (N := 5) hx hb hw0 ziX6 tyX6 tyX6_ok nmX6 hown hK.1 hP hD hS 0 rfl rfl 3 (by decide) (hw0 _ zm1_205) (fun _ h9 => h9) rfl (tyX6_ok 3 (by decide)) rfl rfl (Nat.le_of_ble_eq_true rfl) dX6_forgetOldest_43 (fun H locs hP hD hS => ?_)
  have hP : va_P g.1 vwCl (zX6 g a (v.1, v.2.1, ((fun j => if j = 3 then (v.2.2.1.1 0) else (fun j => if j = 2 then (v.2.2.1.1 3) else (fun j => if j = 1 then (v.2.2.1.1 2) else (fun j => if j = 0 then (v.2.2.1.1 1) else v.2.2.1.1 j) j) j) j), v.2.2.1.2.1, v.2.2.1.2.2.1, v.2.2.1.2.2.2.1, v.2.2.1.2.2.2.2), 3, v.2.2.2.2)) H := hP
  have hD : va_D A (zX6 g a (v.1, v.2.1, ((fun j => if j = 3 then (v.2.2.1.1 0) else (fun j => if j = 2 then (v.2.2.1.1 3) else (fun j => if j = 1 then (v.2.2.1.1 2) else (fun j => if j = 0 then (v.2.2.1.1 1) else v.2.2.1.1 j) j) j) j), v.2.2.1.2.1, v.2.2.1.2.2.1, v.2.2.1.2.2.2.1, v.2.2.1.2.2.2.2), 3, v.2.2.2.2)) := hD
  have hR : (v.1, v.2.1, ((fun j => if j = 3 then (v.2.2.1.1 0) else (fun j => if j = 2 then (v.2.2.1.1 3) else (fun j => if j = 1 then (v.2.2.1.1 2) else (fun j => if j = 0 then (v.2.2.1.1 1) else v.2.2.1.1 j) j) j) j), v.2.2.1.2.1, v.2.2.1.2.2.1, v.2.2.1.2.2.2.1, v.2.2.1.2.2.2.2), 3, v.2.2.2.2) = r := Option.some.inj hf
  subst hR
  exact W.vret hx hb hr0 (fun t ht hW => ⟨⟨(), rfl, trivial, by rw [ht]; exact hP, hD⟩, hS.F ht⟩) hS.2.2 dX6_forgetOldest_46
theorem hd_X6_save : yX6_save.cls ≠ "java/lang/invoke/MethodHandle" ∧ yX6_save.cls ≠ "java/lang/invoke/VarHandle" ∧ (parseMethodDescriptor yX6_save.desc).map (fun d => d.parameters.length) = some 0 := by decide +kernel
def f_X6_save (v : CV) : Option (CV) :=
  if v.2.2.2.1 < 4 then
    if zin v.2.2.2.1 4 = true then
    if (v.2.2.1.1 v.2.2.2.1.toNatClampNeg) = 0 then
      (f_X2_copyFrom v.2.2.1.2.1 v.1).bind (fun u3 =>
      some (v.1, v.2.1, (v.2.2.1.1, u3, v.2.2.1.2.2.1, v.2.2.1.2.2.2.1, v.2.2.1.2.2.2.2), (v.2.2.2.1 + 1), v.2.2.2.2))
    else
      if (v.2.2.1.1 v.2.2.2.1.toNatClampNeg) = 1 then
        (f_X2_copyFrom v.2.2.1.2.2.1 v.1).bind (fun u4 =>
        some (v.1, v.2.1, (v.2.2.1.1, v.2.2.1.2.1, u4, v.2.2.1.2.2.2.1, v.2.2.1.2.2.2.2), (v.2.2.2.1 + 1), v.2.2.2.2))
      else
        if (v.2.2.1.1 v.2.2.2.1.toNatClampNeg) = 2 then
          (f_X2_copyFrom v.2.2.1.2.2.2.1 v.1).bind (fun u5 =>
          some (v.1, v.2.1, (v.2.2.1.1, v.2.2.1.2.1, v.2.2.1.2.2.1, u5, v.2.2.1.2.2.2.2), (v.2.2.2.1 + 1), v.2.2.2.2))
        else
          if (v.2.2.1.1 v.2.2.2.1.toNatClampNeg) = 3 then
            (f_X2_copyFrom v.2.2.1.2.2.2.2 v.1).bind (fun u6 =>
            some (v.1, v.2.1, (v.2.2.1.1, v.2.2.1.2.1, v.2.2.1.2.2.1, v.2.2.1.2.2.2.1, u6), (v.2.2.2.1 + 1), v.2.2.2.2))
          else
            none
    else none
  else
    (f_X6_forgetOldest v).bind (fun u11 =>
    if zin u11.2.2.2.1 4 = true then
    if (u11.2.2.1.1 u11.2.2.2.1.toNatClampNeg) = 0 then
      (f_X2_copyFrom u11.2.2.1.2.1 u11.1).bind (fun u13 =>
      some (u11.1, u11.2.1, (u11.2.2.1.1, u13, u11.2.2.1.2.2.1, u11.2.2.1.2.2.2.1, u11.2.2.1.2.2.2.2), (u11.2.2.2.1 + 1), u11.2.2.2.2))
    else
      if (u11.2.2.1.1 u11.2.2.2.1.toNatClampNeg) = 1 then
        (f_X2_copyFrom u11.2.2.1.2.2.1 u11.1).bind (fun u14 =>
        some (u11.1, u11.2.1, (u11.2.2.1.1, u11.2.2.1.2.1, u14, u11.2.2.1.2.2.2.1, u11.2.2.1.2.2.2.2), (u11.2.2.2.1 + 1), u11.2.2.2.2))
      else
        if (u11.2.2.1.1 u11.2.2.2.1.toNatClampNeg) = 2 then
          (f_X2_copyFrom u11.2.2.1.2.2.2.1 u11.1).bind (fun u15 =>
          some (u11.1, u11.2.1, (u11.2.2.1.1, u11.2.2.1.2.1, u11.2.2.1.2.2.1, u15, u11.2.2.1.2.2.2.2), (u11.2.2.2.1 + 1), u11.2.2.2.2))
        else
          if (u11.2.2.1.1 u11.2.2.2.1.toNatClampNeg) = 3 then
            (f_X2_copyFrom u11.2.2.1.2.2.2.2 u11.1).bind (fun u16 =>
            some (u11.1, u11.2.1, (u11.2.2.1.1, u11.2.2.1.2.1, u11.2.2.1.2.2.1, u11.2.2.1.2.2.2.1, u16), (u11.2.2.2.1 + 1), u11.2.2.2.2))
          else
            none
    else none)
set_option maxHeartbeats 4000000 in
set_option maxRecDepth 100000 in
theorem c_X6_save (l : Launch) (g : zG) (a : Nat → Nat) (v : CV) (r : CV) (hf : f_X6_save v = some r) : zMv zNF zNM l yX6_save (zw yX6_save cX6_save 1 none) ({ frames := 3, cells := 0, slots := 0, locals := 82 } : Room) g [.ref (a 0)] (zX6 g a v) (zX6 g a r) := by
  intro sz
  refine Met.ofW (cc := cX6_save) (maxL := 1) (ret := none) (by decide) rfl ?_
  intro p e s m args below meth c s₁ B hml hv
  obtain ⟨rfl, hsz, hP, hK, hD0⟩ := hv
  have hx := B.exec
  have hb := B.bytes
  have hr0 := B.returns
  have hts := atoms_spec (ws := (zw yX6_save cX6_save 1 none)) B.pre
  have hw0 : ∀ w ∈ zW, w.before ([.ref (a 0)] : List Value).toArray s = true := fun w h => hts w (List.mem_cons_of_mem _ h)
  have hown : s.vm.findClass RX6 = some m.cls := findClass_of_methodNamed B.named
  have hlocks := B.notSynchronized
  subst hsz
  have hD := hD0.self (sz := s.heap.size)
  generalize hAe : va_A (zX6 g a v) s.heap.size = A at hD ⊢
  have hA : ∀ q : Nat, s.heap.size ≤ q → A q := fun q h => by rw [← hAe]; exact Or.inr h
  have hS : va_S A s.heap s.heap [] := va_S.rf
  unfold f_X6_save at hf
  have hl := lv_entry ([.ref (a 0)]) (n := 1) (Nat.le_of_ble_eq_true rfl)
  rw [lg_entry_eq]
  generalize (lg_sl ([.ref (a 0)]) ++ List.replicate (1 - (lg_sl ([.ref (a 0)])).length) Slot.unset).toArray = ls at hl ⊢
  have hl : lv_has ls 1 [(0, .ref (a 0))] := hl
  refine lv_aload_n hx hb dX6_save_0 rfl (lv_at hl 0 rfl) ?_
  refine va_get (D := g.1) (ci := 6) (v := .int v.2.2.2.1) (C := RX6) (T := TX6) (N := 5) hx hb hw0 ziX6 hown hK.1 hP 0 rfl rfl 3 (by decide) (hw0 _ zm1_205) (fun _ h9 => h9) rfl dX6_save_1 ?_
  refine lv_iconst (v := 4) hx hb dX6_save_4 (by decide) ?_
  refine lv_icmp_lt (tgt := 12) hx hb dX6_save_5 (by decide) (fun c1 => ?_) (fun c1 => ?_)
  · have hf := oi hf c1
    refine lv_aload_n hx hb dX6_save_12 rfl (lv_at hl 0 rfl) ?_
    refine va_get (D := g.1) (ci := 6) (v := .ref (a 37)) (C := RX6) (T := TX6) (N := 5) hx hb hw0 ziX6 hown hK.1 hP 0 rfl rfl 2 (by decide) (hw0 _ zm1_204) (fun _ h9 => h9) rfl dX6_save_13 ?_
    refine lv_aload_n hx hb dX6_save_16 rfl (lv_at hl 0 rfl) ?_
    refine va_get (D := g.1) (ci := 6) (v := .int v.2.2.2.1) (C := RX6) (T := TX6) (N := 5) hx hb hw0 ziX6 hown hK.1 hP 0 rfl rfl 3 (by decide) (hw0 _ zm1_205) (fun _ h9 => h9) rfl dX6_save_17 ?_
    obtain ⟨h2, hf⟩ := og hf
    refine zaldq (D := g.1) (f := fun j => some (a (40 + 18 * v.2.2.1.1 j))) (k := v.2.2.2.1.toNatClampNeg) (x := a (40 + 18 * (v.2.2.1.1 v.2.2.2.1.toNatClampNeg))) hx hb hK.1 hP 37 1 rfl rfl (zin_vp h2) rfl rfl dX6_save_20 ?_
    refine lv_aload_n hx hb dX6_save_21 rfl (lv_at hl 0 rfl) ?_
    refine va_get (D := g.1) (ci := 6) (v := .ref (a 1)) (C := RX6) (T := TX6) (N := 5) hx hb hw0 ziX6 hown hK.1 hP 0 rfl rfl 0 (by decide) (hw0 _ zm1_202) (fun _ h9 => h9) rfl dX6_save_22 ?_
    by_cases d7 : (v.2.2.1.1 v.2.2.2.1.toNatClampNeg) = 0
    · have hf := oi hf d7
      rw [d7]
      obtain ⟨u3, hu3, hf⟩ := ob hf
      refine zk_vZ (va_runVN (As := [.ref (a 1)]) (rest := []) ⟨hx, hb, hml, hown, hts⟩ (c_X2_copyFrom l g (fun k => a (k + 40)) (fun k => a (k + 1)) v.2.2.1.2.1 v.1 _ hu3 _) (zcN hw0 (zn_6 hK) zm2_96 zm1_2 zm2_95 zs1_3 hd_X2_copyFrom rfl rfl ⟨Nat.le_of_ble_eq_true rfl, Nat.le_of_ble_eq_true rfl⟩) ⟨zblind, zrecv (wc := zX2 g (fun k => a (k + 40)) v.2.2.1.2.1 ++ zX2 g (fun k => a (k + 1)) v.1) hK hP [40, 41, 42, 43, 44, 45, 46, 47, 48, 49, 50, 51, 52, 53, 54, 55, 56, 57, 1, 2, 3, 4, 5, 6, 7, 8, 9, 10, 11, 12, 13, 14, 15, 16, 17, 18] rfl (ci := 2) rfl rfl, zpre hK hP hD [40, 41, 42, 43, 44, 45, 46, 47, 48, 49, 50, 51, 52, 53, 54, 55, 56, 57, 1, 2, 3, 4, 5, 6, 7, 8, 9, 10, 11, 12, 13, 14, 15, 16, 17, 18] rfl rfl⟩ rfl rfl hl.1 rfl (lv_room (Nat.le_of_ble_eq_true rfl)) dX6_save_25 ⟨Nat.zero_le _, Nat.zero_le _⟩) hP hD hS hA [40, 41, 42, 43, 44, 45, 46, 47, 48, 49, 50, 51, 52, 53, 54, 55, 56, 57, 1, 2, 3, 4, 5, 6, 7, 8, 9, 10, 11, 12, 13, 14, 15, 16, 17, 18] rfl rfl (ztwo (is1 := List.range' 40 18) rfl (zrun (wc := zX2 g (fun k => a (k + 40)) v.2.2.1.2.1) (ws' := zX6 g a (v.1, v.2.1, (v.2.2.1.1, u3, v.2.2.1.2.2.1, v.2.2.1.2.2.2.1, v.2.2.1.2.2.2.2), v.2.2.2.1, v.2.2.2.2)) 40 18 rfl rfl rfl rfl rfl) (zrun (wc := zX2 g (fun k => a (k + 1)) v.1) (ws' := zX6 g a (v.1, v.2.1, (v.2.2.1.1, u3, v.2.2.1.2.2.1, v.2.2.1.2.2.2.1, v.2.2.1.2.2.2.2), v.2.2.2.1, v.2.2.2.2)) 1 18 rfl rfl rfl rfl rfl)) (fun H locs hP hD hS => ?_)
      have hP : va_P g.1 vwCl (zX6 g a (v.1, v.2.1, (v.2.2.1.1, u3, v.2.2.1.2.2.1, v.2.2.1.2.2.2.1, v.2.2.1.2.2.2.2), v.2.2.2.1, v.2.2.2.2)) H := hP
      have hD : va_D A (zX6 g a (v.1, v.2.1, (v.2.2.1.1, u3, v.2.2.1.2.2.1, v.2.2.1.2.2.2.1, v.2.2.1.2.2.2.2), v.2.2.2.1, v.2.2.2.2)) := hD
      refine lv_aload_n hx hb dX6_save_28 rfl (lv_at hl 0 rfl) ?_
      refine lv_dup hx hb dX6_save_29 rfl ?_
      refine va_get (D := g.1) (ci := 6) (v := .int v.2.2.2.1) (C := RX6) (T := TX6) (N := 5) hx hb hw0 ziX6 hown hK.1 hP 0 rfl rfl 3 (by decide) (hw0 _ zm1_205) (fun _ h9 => h9) rfl dX6_save_30 ?_
      refine lv_iconst (v := 1) hx hb dX6_save_33 (by decide) ?_
      refine lv_iadd hx hb dX6_save_34 ?_
      refine va_put (D := g.1) (ci := 6) (v := .int (v.2.2.2.1 + 1)) (ty := .int) (C := RX6) (T := TX6) (N := 5) hx hb hw0 ziX6 tyX6 tyX6_ok nmX6 hown hK.1 hP hD hS 0 rfl rfl 3 (by decide) (hw0 _ zm1_205) (fun _ h9 => h9) rfl (tyX6_ok 3 (by decide)) rfl rfl (Nat.le_of_ble_eq_true rfl) dX6_save_35 (fun H locs hP hD hS => ?_)
      have hP : va_P g.1 vwCl (zX6 g a (v.1, v.2.1, (v.2.2.1.1, u3, v.2.2.1.2.2.1, v.2.2.1.2.2.2.1, v.2.2.1.2.2.2.2), (v.2.2.2.1 + 1), v.2.2.2.2)) H := hP
      have hD : va_D A (zX6 g a (v.1, v.2.1, (v.2.2.1.1, u3, v.2.2.1.2.2.1, v.2.2.1.2.2.2.1, v.2.2.1.2.2.2.2), (v.2.2.2.1 + 1), v.2.2.2.2)) := hD
      have hR : (v.1, v.2.1, (v.2.2.1.1, u3, v.2.2.1.2.2.1, v.2.2.1.2.2.2.1, v.2.2.1.2.2.2.2), (v.2.2.2.1 + 1), v.2.2.2.2) = r := Option.some.inj hf
      subst hR
      exact W.vret hx hb hr0 (fun t ht hW => ⟨⟨(), rfl, trivial, by rw [ht]; exact hP, hD⟩, hS.F ht⟩) hS.2.2 dX6_save_38
    · have hf := oe hf d7
      by_cases d8 : (v.2.2.1.1 v.2.2.2.1.toNatClampNeg) = 1
      · have hf := oi hf d8
        rw [d8]
        obtain ⟨u4, hu4, hf⟩ := ob hf
        refine zk_vZ (va_runVN (As := [.ref (a 1)]) (rest := []) ⟨hx, hb, hml, hown, hts⟩ (c_X2_copyFrom l g (fun k => a (k + 58)) (fun k => a (k + 1)) v.2.2.1.2.2.1 v.1 _ hu4 _) (zcN hw0 (zn_6 hK) zm2_96 zm1_2 zm2_95 zs1_3 hd_X2_copyFrom rfl rfl ⟨Nat.le_of_ble_eq_true rfl, Nat.le_of_ble_eq_true rfl⟩) ⟨zblind, zrecv (wc := zX2 g (fun k => a (k + 58)) v.2.2.1.2.2.1 ++ zX2 g (fun k => a (k + 1)) v.1) hK hP [58, 59, 60, 61, 62, 63, 64, 65, 66, 67, 68, 69, 70, 71, 72, 73, 74, 75, 1, 2, 3, 4, 5, 6, 7, 8, 9, 10, 11, 12, 13, 14, 15, 16, 17, 18] rfl (ci := 2) rfl rfl, zpre hK hP hD [58, 59, 60, 61, 62, 63, 64, 65, 66, 67, 68, 69, 70, 71, 72, 73, 74, 75, 1, 2, 3, 4, 5, 6, 7, 8, 9, 10, 11, 12, 13, 14, 15, 16, 17, 18] rfl rfl⟩ rfl rfl hl.1 rfl (lv_room (Nat.le_of_ble_eq_true rfl)) dX6_save_25 ⟨Nat.zero_le _, Nat.zero_le _⟩) hP hD hS hA [58, 59, 60, 61, 62, 63, 64, 65, 66, 67, 68, 69, 70, 71, 72, 73, 74, 75, 1, 2, 3, 4, 5, 6, 7, 8, 9, 10, 11, 12, 13, 14, 15, 16, 17, 18] rfl rfl (ztwo (is1 := List.range' 58 18) rfl (zrun (wc := zX2 g (fun k => a (k + 58)) v.2.2.1.2.2.1) (ws' := zX6 g a (v.1, v.2.1, (v.2.2.1.1, v.2.2.1.2.1, u4, v.2.2.1.2.2.2.1, v.2.2.1.2.2.2.2), v.2.2.2.1, v.2.2.2.2)) 58 18 rfl rfl rfl rfl rfl) (zrun (wc := zX2 g (fun k => a (k + 1)) v.1) (ws' := zX6 g a (v.1, v.2.1, (v.2.2.1.1, v.2.2.1.2.1, u4, v.2.2.1.2.2.2.1, v.2.2.1.2.2.2.2), v.2.2.2.1, v.2.2.2.2)) 1 18 rfl rfl rfl rfl rfl)) (fun H locs hP hD hS => ?_)
        have hP : va_P g.1 vwCl (zX6 g a (v.1, v.2.1, (v.2.2.1.1, v.2.2.1.2.1, u4, v.2.2.1.2.2.2.1, v.2.2.1.2.2.2.2), v.2.2.2.1, v.2.2.2.2)) H := hP
        have hD : va_D A (zX6 g a (v.1, v.2.1, (v.2.2.1.1, v.2.2.1.2.1, u4, v.2.2.1.2.2.2.1, v.2.2.1.2.2.2.2), v.2.2.2.1, v.2.2.2.2)) := hD
        refine lv_aload_n hx hb dX6_save_28 rfl (lv_at hl 0 rfl) ?_
        refine lv_dup hx hb dX6_save_29 rfl ?_
        refine va_get (D := g.1) (ci := 6) (v := .int v.2.2.2.1) (C := RX6) (T := TX6) (N := 5) hx hb hw0 ziX6 hown hK.1 hP 0 rfl rfl 3 (by decide) (hw0 _ zm1_205) (fun _ h9 => h9) rfl dX6_save_30 ?_
        refine lv_iconst (v := 1) hx hb dX6_save_33 (by decide) ?_
        refine lv_iadd hx hb dX6_save_34 ?_
        refine va_put (D := g.1) (ci := 6) (v := .int (v.2.2.2.1 + 1)) (ty := .int) (C := RX6) (T := TX6) (N := 5) hx hb hw0 ziX6 tyX6 tyX6_ok nmX6 hown hK.1 hP hD hS 0 rfl rfl 3 (by decide) (hw0 _ zm1_205) (fun _ h9 => h9) rfl (tyX6_ok 3 (by decide)) rfl rfl (Nat.le_of_ble_eq_true rfl) dX6_save_35 (fun H locs hP hD hS => ?_)
        have hP : va_P g.1 vwCl (zX6 g a (v.1, v.2.1, (v.2.2.1.1, v.2.2.1.2.1, u4, v.2.2.1.2.2.2.1, v.2.2.1.2.2.2.2), (v.2.2.2.1 + 1), v.2.2.2.2)) H := hP
        have hD : va_D A (zX6 g a (v.1, v.2.1, (v.2.2.1.1, v.2.2.1.2.1, u4, v.2.2.1.2.2.2.1, v.2.2.1.2.2.2.2), (v.2.2.2.1 + 1), v.2.2.2.2)) := hD
        have hR : (v.1, v.2.1, (v.2.2.1.1, v.2.2.1.2.1, u4, v.2.2.1.2.2.2.1, v.2.2.1.2.2.2.2), (v.2.2.2.1 + 1), v.2.2.2.2) = r := Option.some.inj hf
        subst hR
        exact W.vret hx hb hr0 (fun t ht hW => ⟨⟨(), rfl, trivial, by rw [ht]; exact hP, hD⟩, hS.F ht⟩) hS.2.2 dX6_save_38
      · have hf := oe hf d8
        by_cases d9 : (v.2.2.1.1 v.2.2.2.1.toNatClampNeg) = 2
        · have hf := oi hf d9
          rw [d9]
          obtain ⟨u5, hu5, hf⟩ := ob hf
          refine zk_vZ (va_runVN (As := [.ref (a 1)]) (rest := []) ⟨hx, hb, hml, hown, hts⟩ (c_X2_copyFrom l g (fun k => a (k + 76)) (fun k => a (k + 1)) v.2.2.1.2.2.2.1 v.1 _ hu5 _) (zcN hw0 (zn_6 hK) zm2_96 zm1_2 zm2_95 zs1_3 hd_X2_copyFrom rfl rfl ⟨Nat.le_of_ble_eq_true rfl, Nat.le_of_ble_eq_true rfl⟩) ⟨zblind, zrecv (wc := zX2 g (fun k => a (k + 76)) v.2.2.1.2.2.2.1 ++ zX2 g (fun k => a (k + 1)) v.1) hK hP [76, 77, 78, 79, 80, 81, 82, 83, 84, 85, 86, 87, 88, 89, 90, 91, 92, 93, 1, 2, 3, 4, 5, 6, 7, 8, 9, 10, 11, 12, 13, 14, 15, 16, 17, 18] rfl (ci := 2) rfl rfl, zpre hK hP hD [76, 77, 78, 79, 80, 81, 82, 83, 84, 85, 86, 87, 88, 89, 90, 91, 92, 93, 1, 2, 3, 4, 5, 6, 7, 8, 9, 10, 11, 12, 13, 14, 15, 16, 17, 18] rfl rfl⟩ rfl rfl hl.1 rfl (lv_room (Nat.le_of_ble_eq_true rfl)) dX6_save_25 ⟨Nat.zero_le _, Nat.zero_le _⟩) hP hD hS hA [76, 77, 78, 79, 80, 81, 82, 83, 84, 85, 86, 87, 88, 89, 90, 91, 92, 93, 1, 2, 3, 4, 5, 6, 7, 8, 9, 10, 11, 12, 13, 14, 15, 16, 17, 18] rfl rfl (ztwo (is1 := List.range' 76 18) rfl (zrun (wc := zX2 g (fun k => a (k + 76)) v.2.2.1.2.2.2.1) (ws' := zX6 g a (v.1, v.2.1, (v.2.2.1.1, v.2.2.1.2.1, v.2.2.1.2.2.1, u5, v.2.2.1.2.2.2.2), v.2.2.2.1, v.2.2.2.2)) 76 18 rfl rfl rfl rfl rfl) (zrun (wc := zX2 g (fun k => a (k + 1)) v.1) (ws' := zX6 g a (v.1, v.2.1, (v.2.2.1.1, v.2.2.1.2.1, v.2.2.1.2.2.1, u5, v.2.2.1.2.2.2.2), v.2.2.2.1, v.2.2.2.2)) 1 18 rfl rfl rfl rfl rfl)) (fun H locs hP hD hS => ?_)
          have hP : va_P g.1 vwCl (zX6 g a (v.1, v.2.1, (v.2.2.1.1, v.2.2.1.2.1, v.2.2.1.2.2.1, u5, v.2.2.1.2.2.2.2), v.2.2.2.1, v.2.2.2.2)) H := hP
          have hD : va_D A (zX6 g a (v.1, v.2.1, (v.2.2.1.1, v.2.2.1.2.1, v.2.2.1.2.2.1, u5, v.2.2.1.2.2.2.2), v.2.2.2.1, v.2.2.2.2)) := hD
          refine lv_aload_n hx hb dX6_save_28 rfl (lv_at hl 0 rfl) ?_
          refine lv_dup hx hb dX6_save_29 rfl ?_
          refine va_get (D := g.1) (ci := 6) (v := .int v.2.2.2.1) (C := RX6) (T := TX6) (N := 5) hx hb hw0 ziX6 hown hK.1 hP 0 rfl rfl 3 (by decide) (hw0 _ zm1_205) (fun _ h9 => h9) rfl dX6_save_30 ?_
          refine lv_iconst (v := 1) hx hb dX6_save_33 (by decide) ?_
          refine lv_iadd hx hb dX6_save_34 ?_
          refine va_put (D := g.1) (ci := 6) (v := .int (v.2.2.2.1 + 1)) (ty := .int) (C := RX6) (T := TX6) (N := 5) hx hb hw0 ziX6 tyX6 tyX6_ok nmX6 hown hK.1 hP hD hS 0 rfl rfl 3 (by decide) (hw0 _ zm1_205) (fun _ h9 => h9) rfl (tyX6_ok 3 (by decide)) rfl rfl (Nat.le_of_ble_eq_true rfl) dX6_save_35 (fun H locs hP hD hS => ?_)
          have hP : va_P g.1 vwCl (zX6 g a (v.1, v.2.1, (v.2.2.1.1, v.2.2.1.2.1, v.2.2.1.2.2.1, u5, v.2.2.1.2.2.2.2), (v.2.2.2.1 + 1), v.2.2.2.2)) H := hP
          have hD : va_D A (zX6 g a (v.1, v.2.1, (v.2.2.1.1, v.2.2.1.2.1, v.2.2.1.2.2.1, u5, v.2.2.1.2.2.2.2), (v.2.2.2.1 + 1), v.2.2.2.2)) := hD
          have hR : (v.1, v.2.1, (v.2.2.1.1, v.2.2.1.2.1, v.2.2.1.2.2.1, u5, v.2.2.1.2.2.2.2), (v.2.2.2.1 + 1), v.2.2.2.2) = r := Option.some.inj hf
          subst hR
          exact W.vret hx hb hr0 (fun t ht hW => ⟨⟨(), rfl, trivial, by rw [ht]; exact hP, hD⟩, hS.F ht⟩) hS.2.2 dX6_save_38
        · have hf := oe hf d9
          by_cases d10 : (v.2.2.1.1 v.2.2.2.1.toNatClampNeg) = 3
          · have hf := oi hf d10
            rw [d10]
            obtain ⟨u6, hu6, hf⟩ := ob hf
            refine zk_vZ (va_runVN (As := [.ref (a 1)]) (rest := []) ⟨hx, hb, hml, hown, hts⟩ (c_X2_copyFrom l g (fun k => a (k + 94)) (fun k => a (k + 1)) v.2.2.1.2.2.2.2 v.1 _ hu6 _) (zcN hw0 (zn_6 hK) zm2_96 zm1_2 zm2_95 zs1_3 hd_X2_copyFrom rfl rfl ⟨Nat.le_of_ble_eq_true rfl, Nat.le_of_ble_eq_true rfl⟩) ⟨zblind, zrecv (wc := zX2 g (fun k => a (k + 94)) v.2.2.1.2.2.2.2 ++ zX2 g (fun k => a (k + 1)) v.1) hK hP [94, 95, 96, 97, 98, 99, 100, 101, 102, 103, 104, 105, 106, 107, 108, 109, 110, 111, 1, 2, 3, 4, 5, 6, 7, 8, 9, 10, 11, 12, 13, 14, 15, 16, 17, 18] rfl (ci := 2) rfl rfl, zpre hK hP hD [94, 95, 96, 97, 98, 99, 100, 101, 102, 103, 104, 105, 106, 107, 108, 109, 110, 111, 1, 2, 3, 4, 5, 6, 7, 8, 9, 10, 11, 12, 13, 14, 15, 16, 17, 18] rfl rfl⟩ rfl rfl hl.1 rfl (lv_room (Nat.le_of_ble_eq_true rfl)) dX6_save_25 ⟨Nat.zero_le _, Nat.zero_le _⟩) hP hD hS hA [94, 95, 96, 97, 98, 99, 100, 101, 102, 103, 104, 105, 106, 107, 108, 109, 110, 111, 1, 2, 3, 4, 5, 6, 7, 8, 9, 10, 11, 12, 13, 14, 15, 16, 17, 18] rfl rfl (ztwo (is1 := List.range' 94 18) rfl (zrun (wc := zX2 g (fun k => a (k + 94)) v.2.2.1.2.2.2.2) (ws' := zX6 g a (v.1, v.2.1, (v.2.2.1.1, v.2.2.1.2.1, v.2.2.1.2.2.1, v.2.2.1.2.2.2.1, u6), v.2.2.2.1, v.2.2.2.2)) 94 18 rfl rfl rfl rfl rfl) (zrun (wc := zX2 g (fun k => a (k + 1)) v.1) (ws' := zX6 g a (v.1, v.2.1, (v.2.2.1.1, v.2.2.1.2.1, v.2.2.1.2.2.1, v.2.2.1.2.2.2.1, u6), v.2.2.2.1, v.2.2.2.2)) 1 18 rfl rfl rfl rfl rfl)) (fun H locs hP hD hS => ?_)
            have hP : va_P g.1 vwCl (zX6 g a (v.1, v.2.1, (v.2.2.1.1, v.2.2.1.2.1, v.2.2.1.2.2.1, v.2.2.1.2.2.2.1, u6), v.2.2.2.1, v.2.2.2.2)) H := hP
            have hD : va_D A (zX6 g a (v.1, v.2.1, (v.2.2.1.1, v.2.2.1.2.1, v.2.2.1.2.2.1, v.2.2.1.2.2.2.1, u6), v.2.2.2.1, v.2.2.2.2)) := hD
            refine lv_aload_n hx hb dX6_save_28 rfl (lv_at hl 0 rfl) ?_
            refine lv_dup hx hb dX6_save_29 rfl ?_
            refine va_get (D := g.1) (ci := 6) (v := .int v.2.2.2.1) (C := RX6) (T := TX6) (N := 5) hx hb hw0 ziX6 hown hK.1 hP 0 rfl rfl 3 (by decide) (hw0 _ zm1_205) (fun _ h9 => h9) rfl dX6_save_30 ?_
            refine lv_iconst (v := 1) hx hb dX6_save_33 (by decide) ?_
            refine lv_iadd hx hb dX6_save_34 ?_
            refine va_put (D := g.1) (ci := 6) (v := .int (v.2.2.2.1 + 1)) (ty := .int) (C := RX6) (T := TX6) (N := 5) hx hb hw0 ziX6 tyX6 tyX6_ok nmX6 hown hK.1 hP hD hS 0 rfl rfl 3 (by decide) (hw0 _ zm1_205) (fun _ h9 => h9) rfl (tyX6_ok 3 (by decide)) rfl rfl (Nat.le_of_ble_eq_true rfl) dX6_save_35 (fun H locs hP hD hS => ?_)
            have hP : va_P g.1 vwCl (zX6 g a (v.1, v.2.1, (v.2.2.1.1, v.2.2.1.2.1, v.2.2.1.2.2.1, v.2.2.1.2.2.2.1, u6), (v.2.2.2.1 + 1), v.2.2.2.2)) H := hP
            have hD : va_D A (zX6 g a (v.1, v.2.1, (v.2.2.1.1, v.2.2.1.2.1, v.2.2.1.2.2.1, v.2.2.1.2.2.2.1, u6), (v.2.2.2.1 + 1), v.2.2.2.2)) := hD
            have hR : (v.1, v.2.1, (v.2.2.1.1, v.2.2.1.2.1, v.2.2.1.2.2.1, v.2.2.1.2.2.2.1, u6), (v.2.2.2.1 + 1), v.2.2.2.2) = r := Option.some.inj hf
            subst hR
            exact W.vret hx hb hr0 (fun t ht hW => ⟨⟨(), rfl, trivial, by rw [ht]; exact hP, hD⟩, hS.F ht⟩) hS.2.2 dX6_save_38
          · have hf := oe hf d10
            exact absurd hf (by simp)
  · have hf := oe hf c1
    refine lv_aload_n hx hb dX6_save_8 rfl (lv_at hl 0 rfl) ?_
    obtain ⟨u11, hu11, hf⟩ := ob hf
    refine zk_vA (va_runV (As := []) (rest := []) ⟨hx, hb, hml, hown, hts⟩ (c_X6_forgetOldest l g a v _ hu11 _) (zcV hw0 zm2_89 zm2_92 zm1_1 zm2_91 zs1_2 hd_X6_forgetOldest rfl rfl ⟨Nat.le_of_ble_eq_true rfl, Nat.le_of_ble_eq_true rfl⟩) ⟨zblind, zrecvA hK hP (ci := 6) rfl rfl, zpreA hK hP hD⟩ rfl rfl hl.1 rfl (lv_room (Nat.le_of_ble_eq_true rfl)) dX6_save_9 ⟨Nat.zero_le _, Nat.zero_le _⟩) hP hD hS hA (fun H locs hP hD hS => ?_)
    have hP : va_P g.1 vwCl (zX6 g a u11) H := hP
    have hD : va_D A (zX6 g a u11) := hD
    refine lv_aload_n hx hb dX6_save_12 rfl (lv_at hl 0 rfl) ?_
    refine va_get (D := g.1) (ci := 6) (v := .ref (a 37)) (C := RX6) (T := TX6) (N := 5) hx hb hw0 ziX6 hown hK.1 hP 0 rfl rfl 2 (by decide) (hw0 _ zm1_204) (fun _ h9 => h9) rfl dX6_save_13 ?_
    refine lv_aload_n hx hb dX6_save_16 rfl (lv_at hl 0 rfl) ?_
    refine va_get (D := g.1) (ci := 6) (v := .int u11.2.2.2.1) (C := RX6) (T := TX6) (N := 5) hx hb hw0 ziX6 hown hK.1 hP 0 rfl rfl 3 (by decide) (hw0 _ zm1_205) (fun _ h9 => h9) rfl dX6_save_17 ?_
    obtain ⟨h12, hf⟩ := og hf
    refine zaldq (D := g.1) (f := fun j => some (a (40 + 18 * u11.2.2.1.1 j))) (k := u11.2.2.2.1.toNatClampNeg) (x := a (40 + 18 * (u11.2.2.1.1 u11.2.2.2.1.toNatClampNeg))) hx hb hK.1 hP 37 1 rfl rfl (zin_vp h12) rfl rfl dX6_save_20 ?_
    refine lv_aload_n hx hb dX6_save_21 rfl (lv_at hl 0 rfl) ?_
    refine va_get (D := g.1) (ci := 6) (v := .ref (a 1)) (C := RX6) (T := TX6) (N := 5) hx hb hw0 ziX6 hown hK.1 hP 0 rfl rfl 0 (by decide) (hw0 _ zm1_202) (fun _ h9 => h9) rfl dX6_save_22 ?_
    by_cases d17 : (u11.2.2.1.1 u11.2.2.2.1.toNatClampNeg) = 0
    · have hf := oi hf d17
      rw [d17]
      obtain ⟨u13, hu13, hf⟩ := ob hf
      refine zk_vZ (va_runVN (As := [.ref (a 1)]) (rest := []) ⟨hx, hb, hml, hown, hts⟩ (c_X2_copyFrom l g (fun k => a (k + 40)) (fun k => a (k + 1)) u11.2.2.1.2.1 u11.1 _ hu13 _) (zcN hw0 (zn_6 hK) zm2_96 zm1_2 zm2_95 zs1_3 hd_X2_copyFrom rfl rfl ⟨Nat.le_of_ble_eq_true rfl, Nat.le_of_ble_eq_true rfl⟩) ⟨zblind, zrecv (wc := zX2 g (fun k => a (k + 40)) u11.2.2.1.2.1 ++ zX2 g (fun k => a (k + 1)) u11.1) hK hP [40, 41, 42, 43, 44, 45, 46, 47, 48, 49, 50, 51, 52, 53, 54, 55, 56, 57, 1, 2, 3, 4, 5, 6, 7, 8, 9, 10, 11, 12, 13, 14, 15, 16, 17, 18] rfl (ci := 2) rfl rfl, zpre hK hP hD [40, 41, 42, 43, 44, 45, 46, 47, 48, 49, 50, 51, 52, 53, 54, 55, 56, 57, 1, 2, 3, 4, 5, 6, 7, 8, 9, 10, 11, 12, 13, 14, 15, 16, 17, 18] rfl rfl⟩ rfl rfl hl.1 rfl (lv_room (Nat.le_of_ble_eq_true rfl)) dX6_save_25 ⟨Nat.zero_le _, Nat.zero_le _⟩) hP hD hS hA [40, 41, 42, 43, 44, 45, 46, 47, 48, 49, 50, 51, 52, 53, 54, 55, 56, 57, 1, 2, 3, 4, 5, 6, 7, 8, 9, 10, 11, 12, 13, 14, 15, 16, 17, 18] rfl rfl (ztwo (is1 := List.range' 40 18) rfl (zrun (wc := zX2 g (fun k => a (k + 40)) u11.2.2.1.2.1) (ws' := zX6 g a (u11.1, u11.2.1, (u11.2.2.1.1, u13, u11.2.2.1.2.2.1, u11.2.2.1.2.2.2.1, u11.2.2.1.2.2.2.2), u11.2.2.2.1, u11.2.2.2.2)) 40 18 rfl rfl rfl rfl rfl) (zrun (wc := zX2 g (fun k => a (k + 1)) u11.1) (ws' := zX6 g a (u11.1, u11.2.1, (u11.2.2.1.1, u13, u11.2.2.1.2.2.1, u11.2.2.1.2.2.2.1, u11.2.2.1.2.2.2.2), u11.2.2.2.1, u11.2.2.2.2)) 1 18 rfl rfl rfl rfl rfl)) (fun H locs hP hD hS => ?_)
      have hP : va_P g.1 vwCl (zX6 g a (u11.1, u11.2.1, (u11.2.2.1.1, u13, u11.2.2.1.2.2.1, u11.2.2.1.2.2.2.1, u11.2.2.1.2.2.2.2), u11.2.2.2.1, u11.2.2.2.2)) H := hP
      have hD : va_D A (zX6 g a (u11.1, u11.2.1, (u11.2.2.1.1, u13, u11.2.2.1.2.2.1, u11.2.2.1.2.2.2.1, u11.2.2.1.2.2.2.2), u11.2.2.2.1, u11.2.2.2.2)) := hD
      refine lv_aload_n hx hb dX6_save_28 rfl (lv_at hl 0 rfl) ?_
      refine lv_dup hx hb dX6_save_29 rfl ?_
      refine va_get (D := g.1) (ci := 6) (v := .int u11.2.2.2.1) (C := RX6) (T := TX6) (N := 5) hx hb hw0 ziX6 hown hK.1 hP 0 rfl rfl 3 (by decide) (hw0 _ zm1_205) (fun _ h9 => h9) rfl dX6_save_30 ?_
      refine lv_iconst (v := 1) hx hb dX6_save_33 (by decide) ?_
      refine lv_iadd hx hb dX6_save_34 ?_
      refine va_put (D := g.1) (ci := 6) (v := .int (u11.2.2.2.1 + 1)) (ty := .int) (C := RX6) (T := TX6) (N := 5) hx hb hw0 ziX6 tyX6 tyX6_ok nmX6 hown hK.1 hP hD hS 0 rfl rfl 3 (by decide) (hw0 _ zm1_205) (fun _ h9 => h9) rfl (tyX6_ok 3 (by decide)) rfl rfl (Nat.le_of_ble_eq_true rfl) dX6_save_35 (fun H locs hP hD hS => ?_)
      have hP : va_P g.1 vwCl (zX6 g a (u11.1, u11.2.1, (u11.2.2.1.1, u13, u11.2.2.1.2.2.1, u11.2.2.1.2.2.2.1, u11.2.2.1.2.2.2.2), (u11.2.2.2.1 + 1), u11.2.2.2.2)) H := hP
      have hD : va_D A (zX6 g a (u11.1, u11.2.1, (u11.2.2.1.1, u13, u11.2.2.1.2.2.1, u11.2.2.1.2.2.2.1, u11.2.2.1.2.2.2.2), (u11.2.2.2.1 + 1), u11.2.2.2.2)) := hD
      have hR : (u11.1, u11.2.1, (u11.2.2.1.1, u13, u11.2.2.1.2.2.1, u11.2.2.1.2.2.2.1, u11.2.2.1.2.2.2.2), (u11.2.2.2.1 + 1), u11.2.2.2.2) = r := Option.some.inj hf
      subst hR
      exact W.vret hx hb hr0 (fun t ht hW => ⟨⟨(), rfl, trivial, by rw [ht]; exact hP, hD⟩, hS.F ht⟩) hS.2.2 dX6_save_38
    · have hf := oe hf d17
      by_cases d18 : (u11.2.2.1.1 u11.2.2.2.1.toNatClampNeg) = 1
      · have hf := oi hf d18
        rw [d18]
        obtain ⟨u14, hu14, hf⟩ := ob hf
        refine zk_vZ (va_runVN (As := [.ref (a 1)]) (rest := []) ⟨hx, hb, hml, hown, hts⟩ (c_X2_copyFrom l g (fun k => a (k + 58)) (fun k => a (k + 1)) u11.2.2.1.2.2.1 u11.1 _ hu14 _) (zcN hw0 (zn_6 hK) zm2_96 zm1_2 zm2_95 zs1_3 hd_X2_copyFrom rfl rfl ⟨Nat.le_of_ble_eq_true rfl, Nat.le_of_ble_eq_true rfl⟩) ⟨zblind, zrecv (wc := zX2 g (fun k => a (k + 58)) u11.2.2.1.2.2.1 ++ zX2 g (fun k => a (k + 1)) u11.1) hK hP [58, 59, 60, 61, 62, 63, 64, 65, 66, 67, 68, 69, 70, 71, 72, 73, 74, 75, 1, 2, 3, 4, 5, 6, 7, 8, 9, 10, 11, 12, 13, 14, 15, 16, 17, 18] rfl (ci := 2) rfl rfl, zpre hK hP hD [58, 59, 60, 61, 62, 63, 64, 65, 66, 67, 68, 69, 70, 71, 72, 73, 74, 75, 1, 2, 3, 4, 5, 6, 7, 8, 9, 10, 11, 12, 13, 14, 15, 16, 17, 18] rfl rfl⟩ rfl rfl hl.1 rfl (lv_room (Nat.le_of_ble_eq_true rfl)) dX6_save_25 ⟨Nat.zero_le _, Nat.zero_le _⟩) hP hD hS hA [58, 59, 60, 61, 62, 63, 64, 65, 66, 67, 68, 69, 70, 71, 72, 73, 74, 75, 1, 2, 3, 4, 5, 6, 7, 8, 9, 10, 11, 12, 13, 14, 15, 16, 17, 18] rfl rfl (ztwo (is1 := List.range' 58 18) rfl (zrun (wc := zX2 g (fun k => a (k + 58)) u11.2.2.1.2.2.1) (ws' := zX6 g a (u11.1, u11.2.1, (u11.2.2.1.1, u11.2.2.1.2.1, u14, u11.2.2.1.2.2.2.1, u11.2.2.1.2.2.2.2), u11.2.2.2.1, u11.2.2.2.2)) 58 18 rfl rfl rfl rfl rfl) (zrun (wc := zX2 g (fun k => a (k + 1)) u11.1) (ws' := zX6 g a (u11.1, u11.2.1, (u11.2.2.1.1, u11.2.2.1.2.1, u14, u11.2.2.1.2.2.2.1, u11.2.2.1.2.2.2.2), u11.2.2.2.1, u11.2.2.2.2)) 1 18 rfl rfl rfl rfl rfl)) (fun H locs hP hD hS => ?_)
        have hP : va_P g.1 vwCl (zX6 g a (u11.1, u11.2.1, (u11.2.2.1.1, u11.2.2.1.2.1, u14, u11.2.2.1.2.2.2.1, u11.2.2.1.2.2.2.2), u11.2.2.2.1, u11.2.2.2.2)) H := hP
        have hD : va_D A (zX6 g a (u11.1, u11.2.1, (u11.2.2.1.1, u11.2.2.1.2.1, u14, u11.2.2.1.2.2.2.1, u11.2.2.1.2.2.2.2), u11.2.2.2.1, u11.2.2.2.2)) := hD
        refine lv_aload_n hx hb dX6_save_28 rfl (lv_at hl 0 rfl) ?_
        refine lv_dup hx hb dX6_save_29 rfl ?_
        refine va_get (D := g.1) (ci := 6) (v := .int u11.2.2.2.1) (C := RX6) (T := TX6) (N := 5) hx hb hw0 ziX6 hown hK.1 hP 0 rfl rfl 3 (by decide) (hw0 _ zm1_205) (fun _ h9 => h9) rfl dX6_save_30 ?_
        refine lv_iconst (v := 1) hx hb dX6_save_33 (by decide) ?_
        refine lv_iadd hx hb dX6_save_34 ?_
        refine va_put (D := g.1) (ci := 6) (v := .int (u11.2.2.2.1 + 1)) (ty := .int) (C := RX6) (T := TX6) (N := 5) hx hb hw0 ziX6 tyX6 tyX6_ok nmX6 hown hK.1 hP hD hS 0 rfl rfl 3 (by decide) (hw0 _ zm1_205) (fun _ h9 => h9) rfl (tyX6_ok 3 (by decide)) rfl rfl (Nat.le_of_ble_eq_true rfl) dX6_save_35 (fun H locs hP hD hS => ?_)
        have hP : va_P g.1 vwCl (zX6 g a (u11.1, u11.2.1, (u11.2.2.1.1, u11.2.2.1.2.1, u14, u11.2.2.1.2.2.2.1, u11.2.2.1.2.2.2.2), (u11.2.2.2.1 + 1), u11.2.2.2.2)) H := hP
        have hD : va_D A (zX6 g a (u11.1, u11.2.1, (u11.2.2.1.1, u11.2.2.1.2.1, u14, u11.2.2.1.2.2.2.1, u11.2.2.1.2.2.2.2), (u11.2.2.2.1 + 1), u11.2.2.2.2)) := hD
        have hR : (u11.1, u11.2.1, (u11.2.2.1.1, u11.2.2.1.2.1, u14, u11.2.2.1.2.2.2.1, u11.2.2.1.2.2.2.2), (u11.2.2.2.1 + 1), u11.2.2.2.2) = r := Option.some.inj hf
        subst hR
        exact W.vret hx hb hr0 (fun t ht hW => ⟨⟨(), rfl, trivial, by rw [ht]; exact hP, hD⟩, hS.F ht⟩) hS.2.2 dX6_save_38
      · have hf := oe hf d18
        by_cases d19 : (u11.2.2.1.1 u11.2.2.2.1.toNatClampNeg) = 2
        · have hf := oi hf d19
          rw [d19]
          obtain ⟨u15, hu15, hf⟩ := ob hf
          refine zk_vZ (va_runVN (As := [.ref (a 1)]) (rest := []) ⟨hx, hb, hml, hown, hts⟩ (c_X2_copyFrom l g (fun k => a (k + 76)) (fun k => a (k + 1)) u11.2.2.1.2.2.2.1 u11.1 _ hu15 _) (zcN hw0 (zn_6 hK) zm2_96 zm1_2 zm2_95 zs1_3 hd_X2_copyFrom rfl rfl ⟨Nat.le_of_ble_eq_true rfl, Nat.le_of_ble_eq_true rfl⟩) ⟨zblind, zrecv (wc := zX2 g (fun k => a (k + 76)) u11.2.2.1.2.2.2.1 ++ zX2 g (fun k => a (k + 1)) u11.1) hK hP [76, 77, 78, 79, 80, 81, 82, 83, 84, 85, 86, 87, 88, 89, 90, 91, 92, 93, 1, 2, 3, 4, 5, 6, 7, 8, 9, 10, 11, 12, 13, 14, 15, 16, 17, 18] rfl (ci := 2) rfl rfl, zpre hK hP hD [76, 77, 78, 79, 80, 81, 82, 83, 84, 85, 86, 87, 88, 89, 90, 91, 92, 93, 1, 2, 3, 4, 5, 6, 7, 8, 9, 10, 11, 12, 13, 14, 15, 16, 17, 18] rfl rfl⟩ rfl rfl hl.1 rfl (lv_room (Nat.le_of_ble_eq_true rfl)) dX6_save_25 ⟨Nat.zero_le _, Nat.zero_le _⟩) hP hD hS hA [76, 77, 78, 79, 80, 81, 82, 83, 84, 85, 86, 87, 88, 89, 90, 91, 92, 93, 1, 2, 3, 4, 5, 6, 7, 8, 9, 10, 11, 12, 13, 14, 15, 16, 17, 18] rfl rfl (ztwo (is1 := List.range' 76 18) rfl (zrun (wc := zX2 g (fun k => a (k + 76)) u11.2.2.1.2.2.2.1) (ws' := zX6 g a (u11.1, u11.2.1, (u11.2.2.1.1, u11.2.2.1.2.1, u11.2.2.1.2.2.1, u15, u11.2.2.1.2.2.2.2), u11.2.2.2.1, u11.2.2.2.2)) 76 18 rfl rfl rfl rfl rfl) (zrun (wc := zX2 g (fun k => a (k + 1)) u11.1) (ws' := zX6 g a (u11.1, u11.2.1, (u11.2.2.1.1, u11.2.2.1.2.1, u11.2.2.1.2.2.1, u15, u11.2.2.1.2.2.2.2), u11.2.2.2.1, u11.2.2.2.2)) 1 18 rfl rfl rfl rfl rfl)) (fun H locs hP hD hS => ?_)
          have hP : va_P g.1 vwCl (zX6 g a (u11.1, u11.2.1, (u11.2.2.1.1, u11.2.2.1.2.1, u11.2.2.1.2.2.1, u15, u11.2.2.1.2.2.2.2), u11.2.2.2.1, u11.2.2.2.2)) H := hP
          have hD : va_D A (zX6 g a (u11.1, u11.2.1, (u11.2.2.1.1, u11.2.2.1.2.1, u11.2.2.1.2.2.1, u15, u11.2.2.1.2.2.2.2), u11.2.2.2.1, u11.2.2.2.2)) := hD
          refine lv_aload_n hx hb dX6_save_28 rfl (lv_at hl 0 rfl) ?_
          refine lv_dup hx hb dX6_save_29 rfl ?_
          refine va_get (D := g.1) (ci := 6) (v := .int u11.2.2.2.1) (C := RX6) (T := TX6) (N := 5) hx hb hw0 ziX6 hown hK.1 hP 0 rfl rfl 3 (by decide) (hw0 _ zm1_205) (fun _ h9 => h9) rfl dX6_save_30 ?_
          refine lv_iconst (v := 1) hx hb dX6_save_33 (by decide) ?_
          refine lv_iadd hx hb dX6_save_34 ?_
          refine va_put (D := g.1) (ci := 6) (v := .int (u11.2.2.2.1 + 1)) (ty := .int) (C := RX6) (T := TX6) (N := 5) hx hb hw0 ziX6 tyX6 tyX6_ok nmX6 hown hK.1 hP hD hS 0 rfl rfl 3 (by decide) (hw0 _ zm1_205) (fun _ h9 => h9) rfl (tyX6_ok 3 (by decide)) rfl rfl (Nat.le_of_ble_eq_true rfl) dX6_save_35 (fun H locs hP hD hS => ?_)
          have hP : va_P g.1 vwCl (zX6 g a (u11.1, u11.2.1, (u11.2.2.1.1, u11.2.2.1.2.1, u11.2.2.1.2.2.1, u15, u11.2.2.1.2.2.2.2), (u11.2.2.2.1 + 1), u11.2.2.2.2)) H := hP
          have hD : va_D A (zX6 g a (u11.1, u11.2.1, (u11.2.2.1.1, u11.2.2.1.2.1, u11.2.2.1.2.2.1, u15, u11.2.2.1.2.2.2.2), (u11.2.2.2.1 + 1), u11.2.2.2.2)) := hD
          have hR : (u11.1, u11.2.1, (u11.2.2.1.1, u11.2.2.1.2.1, u11.2.2.1.2.2.1, u15, u11.2.2.1.2.2.2.2), (u11.2.2.2.1 + 1), u11.2.2.2.2) = r := Option.some.inj hf
          subst hR
          exact W.vret hx hb hr0 (fun t ht hW => ⟨⟨(), rfl, trivial, by rw [ht]; exact hP, hD⟩, hS.F ht⟩) hS.2.2 dX6_save_38
        · have hf := oe hf d19
          by_cases d20 : (u11.2.2.1.1 u11.2.2.2.1.toNatClampNeg) = 3
          · have hf := oi hf d20
            rw [d20]
            obtain ⟨u16, hu16, hf⟩ := ob hf
            refine zk_vZ (va_runVN (As := [.ref (a 1)]) (rest := []) ⟨hx, hb, hml, hown, hts⟩ (c_X2_copyFrom l g (fun k => a (k + 94)) (fun k => a (k + 1)) u11.2.2.1.2.2.2.2 u11.1 _ hu16 _) (zcN hw0 (zn_6 hK) zm2_96 zm1_2 zm2_95 zs1_3 hd_X2_copyFrom rfl rfl ⟨Nat.le_of_ble_eq_true rfl, Nat.le_of_ble_eq_true rfl⟩) ⟨zblind, zrecv (wc := zX2 g (fun k => a (k + 94)) u11.2.2.1.2.2.2.2 ++ zX2 g (fun k => a (k + 1)) u11.1) hK hP [94, 95, 96, 97, 98, 99, 100, 101, 102, 103, 104, 105, 106, 107, 108, 109, 110, 111, 1, 2, 3, 4, 5, 6, 7, 8, 9, 10, 11, 12, 13, 14, 15, 16, 17, 18] rfl (ci := 2) rfl rfl, zpre hK hP hD [94, 95, 96, 97, 98, 99, 100, 101, 102, 103, 104, 105, 106, 107, 108, 109, 110, 111, 1, 2, 3, 4, 5, 6, 7, 8, 9, 10, 11, 12, 13, 14, 15, 16, 17, 18] rfl rfl⟩ rfl rfl hl.1 rfl (lv_room (Nat.le_of_ble_eq_true rfl)) dX6_save_25 ⟨Nat.zero_le _, Nat.zero_le _⟩) hP hD hS hA [94, 95, 96, 97, 98, 99, 100, 101, 102, 103, 104, 105, 106, 107, 108, 109, 110, 111, 1, 2, 3, 4, 5, 6, 7, 8, 9, 10, 11, 12, 13, 14, 15, 16, 17, 18] rfl rfl (ztwo (is1 := List.range' 94 18) rfl (zrun (wc := zX2 g (fun k => a (k + 94)) u11.2.2.1.2.2.2.2) (ws' := zX6 g a (u11.1, u11.2.1, (u11.2.2.1.1, u11.2.2.1.2.1, u11.2.2.1.2.2.1, u11.2.2.1.2.2.2.1, u16), u11.2.2.2.1, u11.2.2.2.2)) 94 18 rfl rfl rfl rfl rfl) (zrun (wc := zX2 g (fun k => a (k + 1)) u11.1) (ws' := zX6 g a (u11.1, u11.2.1, (u11.2.2.1.1, u11.2.2.1.2.1, u11.2.2.1.2.2.1, u11.2.2.1.2.2.2.1, u16), u11.2.2.2.1, u11.2.2.2.2)) 1 18 rfl rfl rfl rfl rfl)) (fun H locs hP hD hS => ?_)
            have hP : va_P g.1 vwCl (zX6 g a (u11.1, u11.2.1, (u11.2.2.1.1, u11.2.2.1.2.1, u11.2.2.1.2.2.1, u11.2.2.1.2.2.2.1, u16), u11.2.2.2.1, u11.2.2.2.2)) H := hP
            have hD : va_D A (zX6 g a (u11.1, u11.2.1, (u11.2.2.1.1, u11.2.2.1.2.1, u11.2.2.1.2.2.1, u11.2.2.1.2.2.2.1, u16), u11.2.2.2.1, u11.2.2.2.2)) := hD
            refine lv_aload_n hx hb dX6_save_28 rfl (lv_at hl 0 rfl) ?_
            refine lv_dup hx hb dX6_save_29 rfl ?_
            refine va_get (D := g.1) (ci := 6) (v := .int u11.2.2.2.1) (C := RX6) (T := TX6) (N := 5) hx hb hw0 ziX6 hown hK.1 hP 0 rfl rfl 3 (by decide) (hw0 _ zm1_205) (fun _ h9 => h9) rfl dX6_save_30 ?_
            refine lv_iconst (v := 1) hx hb dX6_save_33 (by decide) ?_
            refine lv_iadd hx hb dX6_save_34 ?_
            refine va_put (D := g.1) (ci := 6) (v := .int (u11.2.2.2.1 + 1)) (ty := .int) (C := RX6) (T := TX6) (N := 5) hx hb hw0 ziX6 tyX6 tyX6_ok nmX6 hown hK.1 hP hD hS 0 rfl rfl 3 (by decide) (hw0 _ zm1_205) (fun _ h9 => h9) rfl (tyX6_ok 3 (by decide)) rfl rfl (Nat.le_of_ble_eq_true rfl) dX6_save_35 (fun H locs hP hD hS => ?_)
            have hP : va_P g.1 vwCl (zX6 g a (u11.1, u11.2.1, (u11.2.2.1.1, u11.2.2.1.2.1, u11.2.2.1.2.2.1, u11.2.2.1.2.2.2.1, u16), (u11.2.2.2.1 + 1), u11.2.2.2.2)) H := hP
            have hD : va_D A (zX6 g a (u11.1, u11.2.1, (u11.2.2.1.1, u11.2.2.1.2.1, u11.2.2.1.2.2.1, u11.2.2.1.2.2.2.1, u16), (u11.2.2.2.1 + 1), u11.2.2.2.2)) := hD
            have hR : (u11.1, u11.2.1, (u11.2.2.1.1, u11.2.2.1.2.1, u11.2.2.1.2.2.1, u11.2.2.1.2.2.2.1, u16), (u11.2.2.2.1 + 1), u11.2.2.2.2) = r := Option.some.inj hf
            subst hR
            exact W.vret hx hb hr0 (fun t ht hW => ⟨⟨(), rfl, trivial, by rw [ht]; exact hP, hD⟩, hS.F ht⟩) hS.2.2 dX6_save_38
          · have hf := oe hf d20
            exact absurd hf (by simp)
theorem hd_X6_addElement : yX6_addElement.cls ≠ "java/lang/invoke/MethodHandle" ∧ yX6_addElement.cls ≠ "java/lang/invoke/VarHandle" ∧ (parseMethodDescriptor yX6_addElement.desc).map (fun d => d.parameters.length) = some 3 := by decide +kernel
def f_X6_addElement (v : CV) (p0 : Int32) (p1 : Int32) (p2 : Int32) : Option (Nat ⊕ (Int32 × CV)) :=
  if p0 < 1 then
    some (.inl 1)
  else
    if p0 ≤ 1800 then
      if p1 = (-1) then
        if p2 < 0 then
          some (.inl 1)
        else
          if p2 ≤ 9 then
            if (zb v.1.2.2.2.2.1) = 0 then
              if v.1.1.1 < 12 then
                (f_X6_save v).bind (fun u8 =>
                (f_X0_add u8.1.1 p0 p1 p2).bind (fun u9 =>
                some (.inr ((u9.1 - 1), ((u9, u8.1.2.1, u8.1.2.2.1, u8.1.2.2.2.1, u8.1.2.2.2.2.1, u8.1.2.2.2.2.2.1, u8.1.2.2.2.2.2.2.1, u8.1.2.2.2.2.2.2.2.1, u8.1.2.2.2.2.2.2.2.2.1, u8.1.2.2.2.2.2.2.2.2.2.1, u8.1.2.2.2.2.2.2.2.2.2.2), u8.2.1, u8.2.2.1, u8.2.2.2.1, u8.2.2.2.2)))))
              else
                some (.inl 2)
            else
              some (.inl 2)
          else
            some (.inl 1)
      else
        if p1 < 0 then
          some (.inl 1)
        else
          if p1 < 3600 then
            if p2 < 0 then
              some (.inl 1)
            else
              if p2 ≤ 9 then
                if (zb v.1.2.2.2.2.1) = 0 then
                  if v.1.1.1 < 12 then
                    (f_X6_save v).bind (fun u16 =>
                    (f_X0_add u16.1.1 p0 p1 p2).bind (fun u17 =>
                    some (.inr ((u17.1 - 1), ((u17, u16.1.2.1, u16.1.2.2.1, u16.1.2.2.2.1, u16.1.2.2.2.2.1, u16.1.2.2.2.2.2.1, u16.1.2.2.2.2.2.2.1, u16.1.2.2.2.2.2.2.2.1, u16.1.2.2.2.2.2.2.2.2.1, u16.1.2.2.2.2.2.2.2.2.2.1, u16.1.2.2.2.2.2.2.2.2.2.2), u16.2.1, u16.2.2.1, u16.2.2.2.1, u16.2.2.2.2)))))
                  else
                    some (.inl 2)
                else
                  some (.inl 2)
              else
                some (.inl 1)
          else
            some (.inl 1)
    else
      some (.inl 1)
set_option maxHeartbeats 4000000 in
set_option maxRecDepth 100000 in
theorem c_X6_addElement (l : Launch) (hst9 : l.stackTraces = false) (g : zG) (a : Nat → Nat) (v : CV) (p0 : Int32) (p1 : Int32) (p2 : Int32) (r : Nat ⊕ (Int32 × CV)) (hf : f_X6_addElement v p0 p1 p2 = some r) : zMx zNF zNM l yX6_addElement (zw yX6_addElement cX6_addElement 4 (some .int)) ({ frames := 6, cells := 1, slots := 6, locals := 102 } : Room) g [.ref (a 0), .int p0, .int p1, .int p2] (zX6 g a v) r (fun q => q.1) (fun q => (zX6 g a q.2)) := by
  intro sz
  refine vx_ofW (cc := cX6_addElement) (maxL := 4) (ret := (some .int)) (by decide) rfl ?_
  intro p e s m args below meth c s₁ B hml htab hv
  obtain ⟨rfl, ⟨hsz, hP, hK, hD0⟩, hKx, hZs⟩ := hv
  have hx := B.exec
  have hb := B.bytes
  have hr0 := B.returns
  have hts := atoms_spec (ws := (zw yX6_addElement cX6_addElement 4 (some .int))) B.pre
  have hw0 : ∀ w ∈ zW, w.before ([.ref (a 0), .int p0, .int p1, .int p2] : List Value).toArray s = true := fun w h => hts w (List.mem_cons_of_mem _ h)
  have hown : s.vm.findClass RX6 = some m.cls := findClass_of_methodNamed B.named
  have hlocks := B.notSynchronized
  subst hsz
  have hD := hD0.self (sz := s.heap.size)
  generalize hAe : va_A (zX6 g a v) s.heap.size = A at hD hZs ⊢
  have hA : ∀ q : Nat, s.heap.size ≤ q → A q := fun q h => by rw [← hAe]; exact Or.inr h
  have hS : va_S A s.heap s.heap [] := va_S.rf
  unfold f_X6_addElement at hf
  have hl := lv_entry ([.ref (a 0), .int p0, .int p1, .int p2]) (n := 4) (Nat.le_of_ble_eq_true rfl)
  rw [lg_entry_eq]
  generalize (lg_sl ([.ref (a 0), .int p0, .int p1, .int p2]) ++ List.replicate (4 - (lg_sl ([.ref (a 0), .int p0, .int p1, .int p2])).length) Slot.unset).toArray = ls at hl ⊢
  have hl : lv_has ls 4 [(0, .ref (a 0)), (1, .int p0), (2, .int p1), (3, .int p2)] := hl
  refine lv_iload_n hx hb dX6_addElement_0 rfl (lv_at hl 1 rfl) ?_
  refine lv_iconst (v := 1) hx hb dX6_addElement_1 (by decide) ?_
  refine lv_icmp_lt (tgt := 12) hx hb dX6_addElement_2 (by decide) (fun c1 => ?_) (fun c1 => ?_)
  · have hf := oi hf c1
    have hR : (Sum.inl 1 : Nat ⊕ (Int32 × CV)) = r := Option.some.inj hf
    exact zthrow (ik := 34) (is := 36) (ic := 38) (text := "length") (k := 1) hx hb hst9 hown (hw0 _ zm1_239) (hw0 _ zm1_11) (hKx.2 ("HourClock", 36, "length") (by decide +kernel)) hKx.1 hw0 zx_w1 zx_b1 zx_o1 hZs (by decide +kernel) (by decide +kernel) hP hD hS (hl.1.trans hml.symm) htab dX6_addElement_12 dX6_addElement_15 dX6_addElement_16 dX6_addElement_18 dX6_addElement_21 (by decide) (by decide) (Nat.le_of_ble_eq_true rfl) (Nat.le_of_ble_eq_true rfl) hlocks hR.symm rfl
  · have hf := oe hf c1
    refine lv_iload_n hx hb dX6_addElement_5 rfl (lv_at hl 1 rfl) ?_
    refine lv_sipush (v := 1800) hx hb dX6_addElement_6 (by decide) ?_
    refine lv_icmp_le (tgt := 22) hx hb dX6_addElement_9 (by decide) (fun c2 => ?_) (fun c2 => ?_)
    · have hf := oi hf c2
      refine lv_iload_n hx hb dX6_addElement_22 rfl (lv_at hl 2 rfl) ?_
      refine lv_iconst (v := (-1)) hx hb dX6_addElement_23 (by decide) ?_
      refine lv_icmp_eq (tgt := 48) hx hb dX6_addElement_24 (by decide) (fun c3 => ?_) (fun c3 => ?_)
      · have hf := oi hf c3
        refine lv_iload_n hx hb dX6_addElement_48 rfl (lv_at hl 3 rfl) ?_
        refine lv_if_lt (tgt := 58) hx hb dX6_addElement_49 (by decide) (fun c4 => ?_) (fun c4 => ?_)
        · have hf := oi hf c4
          have hR : (Sum.inl 1 : Nat ⊕ (Int32 × CV)) = r := Option.some.inj hf
          exact zthrow (ik := 34) (is := 43) (ic := 38) (text := "rank") (k := 1) hx hb hst9 hown (hw0 _ zm1_239) (hw0 _ zm1_11) (hKx.2 ("HourClock", 43, "rank") (by decide +kernel)) hKx.1 hw0 zx_w1 zx_b1 zx_o1 hZs (by decide +kernel) (by decide +kernel) hP hD hS (hl.1.trans hml.symm) htab dX6_addElement_58 dX6_addElement_61 dX6_addElement_62 dX6_addElement_64 dX6_addElement_67 (by decide) (by decide) (Nat.le_of_ble_eq_true rfl) (Nat.le_of_ble_eq_true rfl) hlocks hR.symm rfl
        · have hf := oe hf c4
          refine lv_iload_n hx hb dX6_addElement_52 rfl (lv_at hl 3 rfl) ?_
          refine lv_bipush (v := 9) hx hb dX6_addElement_53 (by decide) ?_
          refine lv_icmp_le (tgt := 68) hx hb dX6_addElement_55 (by decide) (fun c5 => ?_) (fun c5 => ?_)
          · have hf := oi hf c5
            refine lv_aload_n hx hb dX6_addElement_68 rfl (lv_at hl 0 rfl) ?_
            refine va_get (D := g.1) (ci := 6) (v := .ref (a 1)) (C := RX6) (T := TX6) (N := 5) hx hb hw0 ziX6 hown hK.1 hP 0 rfl rfl 0 (by decide) (hw0 _ zm1_202) (fun _ h9 => h9) rfl dX6_addElement_69 ?_
            refine va_getN (D := g.1) (ci := 2) (v := .int (zb v.1.2.2.2.2.1)) (C := RX2) (T := TX2) (N := 11) hx hb hw0 ziX2 hown hK.1 hP 1 rfl rfl 4 (by decide) (va_Nw.use rfl (zf_22 hK)) (fun _ h9 => h9) rfl dX6_addElement_72 ?_
            refine lv_if_ne (tgt := 93) hx hb dX6_addElement_75 (by decide) (fun c6 => ?_) (fun c6 => ?_)
            · have hf := oe hf c6
              have hR : (Sum.inl 2 : Nat ⊕ (Int32 × CV)) = r := Option.some.inj hf
              exact zthrow (ik := 58) (is := 60) (ic := 62) (text := "the hour takes no more elements") (k := 2) hx hb hst9 hown (hw0 _ zm2_69) (hw0 _ zm1_13) (hKx.2 ("HourClock", 60, "the hour takes no more elements") (by decide +kernel)) hKx.1 hw0 zx_w2 zx_b2 zx_o2 hZs (by decide +kernel) (by decide +kernel) hP hD hS (hl.1.trans hml.symm) htab dX6_addElement_93 dX6_addElement_96 dX6_addElement_97 dX6_addElement_99 dX6_addElement_102 (by decide) (by decide) (Nat.le_of_ble_eq_true rfl) (Nat.le_of_ble_eq_true rfl) hlocks hR.symm rfl
            · have hf := oi hf c6
              refine lv_aload_n hx hb dX6_addElement_78 rfl (lv_at hl 0 rfl) ?_
              refine va_get (D := g.1) (ci := 6) (v := .ref (a 1)) (C := RX6) (T := TX6) (N := 5) hx hb hw0 ziX6 hown hK.1 hP 0 rfl rfl 0 (by decide) (hw0 _ zm1_202) (fun _ h9 => h9) rfl dX6_addElement_79 ?_
              refine va_getN (D := g.1) (ci := 2) (v := .ref (a 2)) (C := RX2) (T := TX2) (N := 11) hx hb hw0 ziX2 hown hK.1 hP 1 rfl rfl 0 (by decide) (va_Nw.use rfl (zf_18 hK)) (fun _ h9 => h9) rfl dX6_addElement_82 ?_
              refine va_getN (D := g.1) (ci := 0) (v := .int v.1.1.1) (C := RX0) (T := TX0) (N := 6) hx hb hw0 ziX0 hown hK.1 hP 2 rfl rfl 0 (by decide) (va_Nw.use rfl (zf_0 hK)) (fun _ h9 => h9) rfl dX6_addElement_85 ?_
              refine lv_bipush (v := 12) hx hb dX6_addElement_88 (by decide) ?_
              refine lv_icmp_lt (tgt := 103) hx hb dX6_addElement_90 (by decide) (fun c7 => ?_) (fun c7 => ?_)
              · have hf := oi hf c7
                refine lv_aload_n hx hb dX6_addElement_103 rfl (lv_at hl 0 rfl) ?_
                obtain ⟨u8, hu8, hf⟩ := ob hf
                refine zk_vA (va_runV (As := []) (rest := []) ⟨hx, hb, hml, hown, hts⟩ (c_X6_save l g a v _ hu8 _) (zcV hw0 zm2_85 zm2_88 zm1_1 zm2_87 zs1_1 hd_X6_save rfl rfl ⟨Nat.le_of_ble_eq_true rfl, Nat.le_of_ble_eq_true rfl⟩) ⟨zblind, zrecvA hK hP (ci := 6) rfl rfl, zpreA hK hP hD⟩ rfl rfl hl.1 rfl (lv_room (Nat.le_of_ble_eq_true rfl)) dX6_addElement_104 ⟨Nat.zero_le _, Nat.zero_le _⟩) hP hD hS hA (fun H locs hP hD hS => ?_)
                have hP : va_P g.1 vwCl (zX6 g a u8) H := hP
                have hD : va_D A (zX6 g a u8) := hD
                refine lv_aload_n hx hb dX6_addElement_107 rfl (lv_at hl 0 rfl) ?_
                refine va_get (D := g.1) (ci := 6) (v := .ref (a 1)) (C := RX6) (T := TX6) (N := 5) hx hb hw0 ziX6 hown hK.1 hP 0 rfl rfl 0 (by decide) (hw0 _ zm1_202) (fun _ h9 => h9) rfl dX6_addElement_108 ?_
                refine va_getN (D := g.1) (ci := 2) (v := .ref (a 2)) (C := RX2) (T := TX2) (N := 11) hx hb hw0 ziX2 hown hK.1 hP 1 rfl rfl 0 (by decide) (va_Nw.use rfl (zf_18 hK)) (fun _ h9 => h9) rfl dX6_addElement_111 ?_
                refine lv_iload_n hx hb dX6_addElement_114 rfl (lv_at hl 1 rfl) ?_
                refine lv_iload_n hx hb dX6_addElement_115 rfl (lv_at hl 2 rfl) ?_
                refine lv_iload_n hx hb dX6_addElement_116 rfl (lv_at hl 3 rfl) ?_
                obtain ⟨u9, hu9, hf⟩ := ob hf
                refine zk_v (va_runVN (As := [.int p0, .int p1, .int p2]) (rest := []) ⟨hx, hb, hml, hown, hts⟩ (c_X0_add l g (fun k => a (k + 2)) u8.1.1 p0 p1 p2 _ hu9 _) (zcN hw0 (zn_10 hK) zm2_117 zm1_3 zm2_116 zs1_7 hd_X0_add rfl rfl ⟨Nat.le_of_ble_eq_true rfl, Nat.le_of_ble_eq_true rfl⟩) ⟨zblind, zrecv (wc := zX0 g (fun k => a (k + 2)) u8.1.1) hK hP [2, 3, 4, 5, 6, 7] rfl (ci := 0) rfl rfl, zpre hK hP hD [2, 3, 4, 5, 6, 7] rfl rfl⟩ rfl rfl hl.1 rfl (lv_room (Nat.le_of_ble_eq_true rfl)) dX6_addElement_117 ⟨Nat.zero_le _, Nat.zero_le _⟩) hP hD hS hA [2, 3, 4, 5, 6, 7] rfl rfl (fun H locs hP hD hS => ?_)
                have hP : va_P g.1 vwCl (zX6 g a ((u9, u8.1.2.1, u8.1.2.2.1, u8.1.2.2.2.1, u8.1.2.2.2.2.1, u8.1.2.2.2.2.2.1, u8.1.2.2.2.2.2.2.1, u8.1.2.2.2.2.2.2.2.1, u8.1.2.2.2.2.2.2.2.2.1, u8.1.2.2.2.2.2.2.2.2.2.1, u8.1.2.2.2.2.2.2.2.2.2.2), u8.2.1, u8.2.2.1, u8.2.2.2.1, u8.2.2.2.2)) H := hP
                have hD : va_D A (zX6 g a ((u9, u8.1.2.1, u8.1.2.2.1, u8.1.2.2.2.1, u8.1.2.2.2.2.1, u8.1.2.2.2.2.2.1, u8.1.2.2.2.2.2.2.1, u8.1.2.2.2.2.2.2.2.1, u8.1.2.2.2.2.2.2.2.2.1, u8.1.2.2.2.2.2.2.2.2.2.1, u8.1.2.2.2.2.2.2.2.2.2.2), u8.2.1, u8.2.2.1, u8.2.2.2.1, u8.2.2.2.2)) := hD
                refine lv_aload_n hx hb dX6_addElement_120 rfl (lv_at hl 0 rfl) ?_
                refine va_get (D := g.1) (ci := 6) (v := .ref (a 1)) (C := RX6) (T := TX6) (N := 5) hx hb hw0 ziX6 hown hK.1 hP 0 rfl rfl 0 (by decide) (hw0 _ zm1_202) (fun _ h9 => h9) rfl dX6_addElement_121 ?_
                refine va_getN (D := g.1) (ci := 2) (v := .ref (a 2)) (C := RX2) (T := TX2) (N := 11) hx hb hw0 ziX2 hown hK.1 hP 1 rfl rfl 0 (by decide) (va_Nw.use rfl (zf_18 hK)) (fun _ h9 => h9) rfl dX6_addElement_124 ?_
                refine va_getN (D := g.1) (ci := 0) (v := .int u9.1) (C := RX0) (T := TX0) (N := 6) hx hb hw0 ziX0 hown hK.1 hP 2 rfl rfl 0 (by decide) (va_Nw.use rfl (zf_0 hK)) (fun _ h9 => h9) rfl dX6_addElement_127 ?_
                refine lv_iconst (v := 1) hx hb dX6_addElement_130 (by decide) ?_
                refine lv_isub hx hb dX6_addElement_131 ?_
                have hR : (Sum.inr ((u9.1 - 1), ((u9, u8.1.2.1, u8.1.2.2.1, u8.1.2.2.2.1, u8.1.2.2.2.2.1, u8.1.2.2.2.2.2.1, u8.1.2.2.2.2.2.2.1, u8.1.2.2.2.2.2.2.2.1, u8.1.2.2.2.2.2.2.2.2.1, u8.1.2.2.2.2.2.2.2.2.2.1, u8.1.2.2.2.2.2.2.2.2.2.2), u8.2.1, u8.2.2.1, u8.2.2.2.1, u8.2.2.2.2)) : Nat ⊕ (Int32 × CV)) = r := Option.some.inj hf
                subst hR
                refine W.widen (k := 1) (n := 6) (Nat.zero_le _) (Nat.zero_le _) ?_
                exact vx_ret (W.iret (v := (u9.1 - 1)) hx hb hr0 (fun t ht hW => ⟨⟨(u9.1 - 1), (), rfl, ⟨_, rfl, rfl⟩, _, rfl, by rw [ht]; exact hP, hD⟩, hS.F ht⟩) hS.2.2 dX6_addElement_132)
              · have hf := oe hf c7
                have hR : (Sum.inl 2 : Nat ⊕ (Int32 × CV)) = r := Option.some.inj hf
                exact zthrow (ik := 58) (is := 60) (ic := 62) (text := "the hour takes no more elements") (k := 2) hx hb hst9 hown (hw0 _ zm2_69) (hw0 _ zm1_13) (hKx.2 ("HourClock", 60, "the hour takes no more elements") (by decide +kernel)) hKx.1 hw0 zx_w2 zx_b2 zx_o2 hZs (by decide +kernel) (by decide +kernel) hP hD hS (hl.1.trans hml.symm) htab dX6_addElement_93 dX6_addElement_96 dX6_addElement_97 dX6_addElement_99 dX6_addElement_102 (by decide) (by decide) (Nat.le_of_ble_eq_true rfl) (Nat.le_of_ble_eq_true rfl) hlocks hR.symm rfl
          · have hf := oe hf c5
            have hR : (Sum.inl 1 : Nat ⊕ (Int32 × CV)) = r := Option.some.inj hf
            exact zthrow (ik := 34) (is := 43) (ic := 38) (text := "rank") (k := 1) hx hb hst9 hown (hw0 _ zm1_239) (hw0 _ zm1_11) (hKx.2 ("HourClock", 43, "rank") (by decide +kernel)) hKx.1 hw0 zx_w1 zx_b1 zx_o1 hZs (by decide +kernel) (by decide +kernel) hP hD hS (hl.1.trans hml.symm) htab dX6_addElement_58 dX6_addElement_61 dX6_addElement_62 dX6_addElement_64 dX6_addElement_67 (by decide) (by decide) (Nat.le_of_ble_eq_true rfl) (Nat.le_of_ble_eq_true rfl) hlocks hR.symm rfl
      · have hf := oe hf c3
        refine lv_iload_n hx hb dX6_addElement_27 rfl (lv_at hl 2 rfl) ?_
        refine lv_if_lt (tgt := 38) hx hb dX6_addElement_28 (by decide) (fun c10 => ?_) (fun c10 => ?_)
        · have hf := oi hf c10
          have hR : (Sum.inl 1 : Nat ⊕ (Int32 × CV)) = r := Option.some.inj hf
          exact zthrow (ik := 34) (is := 41) (ic := 38) (text := "time") (k := 1) hx hb hst9 hown (hw0 _ zm1_239) (hw0 _ zm1_11) (hKx.2 ("HourClock", 41, "time") (by decide +kernel)) hKx.1 hw0 zx_w1 zx_b1 zx_o1 hZs (by decide +kernel) (by decide +kernel) hP hD hS (hl.1.trans hml.symm) htab dX6_addElement_38 dX6_addElement_41 dX6_addElement_42 dX6_addElement_44 dX6_addElement_47 (by decide) (by decide) (Nat.le_of_ble_eq_true rfl) (Nat.le_of_ble_eq_true rfl) hlocks hR.symm rfl
        · have hf := oe hf c10
          refine lv_iload_n hx hb dX6_addElement_31 rfl (lv_at hl 2 rfl) ?_
          refine lv_sipush (v := 3600) hx hb dX6_addElement_32 (by decide) ?_
          refine lv_icmp_lt (tgt := 48) hx hb dX6_addElement_35 (by decide) (fun c11 => ?_) (fun c11 => ?_)
          · have hf := oi hf c11
            refine lv_iload_n hx hb dX6_addElement_48 rfl (lv_at hl 3 rfl) ?_
            refine lv_if_lt (tgt := 58) hx hb dX6_addElement_49 (by decide) (fun c12 => ?_) (fun c12 => ?_)
            · have hf := oi hf c12
              have hR : (Sum.inl 1 : Nat ⊕ (Int32 × CV)) = r := Option.some.inj hf
              exact zthrow (ik := 34) (is := 43) (ic := 38) (text := "rank") (k := 1) hx hb hst9 hown (hw0 _ zm1_239) (hw0 _ zm1_11) (hKx.2 ("HourClock", 43, "rank") (by decide +kernel)) hKx.1 hw0 zx_w1 zx_b1 zx_o1 hZs (by decide +kernel) (by decide +kernel) hP hD hS (hl.1.trans hml.symm) htab dX6_addElement_58 dX6_addElement_61 dX6_addElement_62 dX6_addElement_64 dX6_addElement_67 (by decide) (by decide) (Nat.le_of_ble_eq_true rfl) (Nat.le_of_ble_eq_true rfl) hlocks hR.symm rfl
            · have hf := oe hf c12
              refine lv_iload_n hx hb dX6_addElement_52 rfl (lv_at hl 3 rfl) ?_
              refine lv_bipush (v := 9) hx hb dX6_addElement_53 (by decide) ?_
              refine lv_icmp_le (tgt := 68) hx hb dX6_addElement_55 (by decide) (fun c13 => ?_) (fun c13 => ?_)
              · have hf := oi hf c13
                refine lv_aload_n hx hb dX6_addElement_68 rfl (lv_at hl 0 rfl) ?_
                refine va_get (D := g.1) (ci := 6) (v := .ref (a 1)) (C := RX6) (T := TX6) (N := 5) hx hb hw0 ziX6 hown hK.1 hP 0 rfl rfl 0 (by decide) (hw0 _ zm1_202) (fun _ h9 => h9) rfl dX6_addElement_69 ?_
                refine va_getN (D := g.1) (ci := 2) (v := .int (zb v.1.2.2.2.2.1)) (C := RX2) (T := TX2) (N := 11) hx hb hw0 ziX2 hown hK.1 hP 1 rfl rfl 4 (by decide) (va_Nw.use rfl (zf_22 hK)) (fun _ h9 => h9) rfl dX6_addElement_72 ?_
                refine lv_if_ne (tgt := 93) hx hb dX6_addElement_75 (by decide) (fun c14 => ?_) (fun c14 => ?_)
                · have hf := oe hf c14
                  have hR : (Sum.inl 2 : Nat ⊕ (Int32 × CV)) = r := Option.some.inj hf
                  exact zthrow (ik := 58) (is := 60) (ic := 62) (text := "the hour takes no more elements") (k := 2) hx hb hst9 hown (hw0 _ zm2_69) (hw0 _ zm1_13) (hKx.2 ("HourClock", 60, "the hour takes no more elements") (by decide +kernel)) hKx.1 hw0 zx_w2 zx_b2 zx_o2 hZs (by decide +kernel) (by decide +kernel) hP hD hS (hl.1.trans hml.symm) htab dX6_addElement_93 dX6_addElement_96 dX6_addElement_97 dX6_addElement_99 dX6_addElement_102 (by decide) (by decide) (Nat.le_of_ble_eq_true rfl) (Nat.le_of_ble_eq_true rfl) hlocks hR.symm rfl
                · have hf := oi hf c14
                  refine lv_aload_n hx hb dX6_addElement_78 rfl (lv_at hl 0 rfl) ?_
                  refine va_get (D := g.1) (ci := 6) (v := .ref (a 1)) (C := RX6) (T := TX6) (N := 5) hx hb hw0 ziX6 hown hK.1 hP 0 rfl rfl 0 (by decide) (hw0 _ zm1_202) (fun _ h9 => h9) rfl dX6_addElement_79 ?_
                  refine va_getN (D := g.1) (ci := 2) (v := .ref (a 2)) (C := RX2) (T := TX2) (N := 11) hx hb hw0 ziX2 hown hK.1 hP 1 rfl rfl 0 (by decide) (va_Nw.use rfl (zf_18 hK)) (fun _ h9 => h9) rfl dX6_addElement_82 ?_
                  refine va_getN (D := g.1) (ci := 0) (v := .int v.1.1.1) (C := RX0) (T := TX0) (N := 6) hx hb hw0 ziX0 hown hK.1 hP 2 rfl rfl 0 (by decide) (va_Nw.use rfl (zf_0 hK)) (fun _ h9 => h9) rfl dX6_addElement_85 ?_
                  refine lv_bipush (v := 12) hx hb dX6_addElement_88 (by decide) ?_
                  refine lv_icmp_lt (tgt := 103) hx hb dX6_addElement_90 (by decide) (fun c15 => ?_) (fun c15 => ?_)
                  · have hf := oi hf c15
                    refine lv_aload_n hx hb dX6_addElement_103 rfl (lv_at hl 0 rfl) ?_
                    obtain ⟨u16, hu16, hf⟩ := ob hf
                    refine zk_vA (va_runV (As := []) (rest := []) ⟨hx, hb, hml, hown, hts⟩ (c_X6_save l g a v _ hu16 _) (zcV hw0 zm2_85 zm2_88 zm1_1 zm2_87 zs1_1 hd_X6_save rfl rfl ⟨Nat.le_of_ble_eq_true rfl, Nat.le_of_ble_eq_true rfl⟩) ⟨zblind, zrecvA hK hP (ci := 6) rfl rfl, zpreA hK hP hD⟩ rfl rfl hl.1 rfl (lv_room (Nat.le_of_ble_eq_true rfl)) dX6_addElement_104 ⟨Nat.zero_le _, Nat.zero_le _⟩) hP hD hS hA (fun H locs hP hD hS => ?_)
                    have hP : va_P g.1 vwCl (zX6 g a u16) H := hP
                    have hD : va_D A (zX6 g a u16) := hD
                    refine lv_aload_n hx hb dX6_addElement_107 rfl (lv_at hl 0 rfl) ?_
                    refine va_get (D := g.1) (ci := 6) (v := .ref (a 1)) (C := RX6) (T := TX6) (N := 5) hx hb hw0 ziX6 hown hK.1 hP 0 rfl rfl 0 (by decide) (hw0 _ zm1_202) (fun _ h9 => h9) rfl dX6_addElement_108 ?_
                    refine va_getN (D := g.1) (ci := 2) (v := .ref (a 2)) (C := RX2) (T := TX2) (N := 11) hx hb hw0 ziX2 hown hK.1 hP 1 rfl rfl 0 (by decide) (va_Nw.use rfl (zf_18 hK)) (fun _ h9 => h9) rfl dX6_addElement_111 ?_
                    refine lv_iload_n hx hb dX6_addElement_114 rfl (lv_at hl 1 rfl) ?_
                    refine lv_iload_n hx hb dX6_addElement_115 rfl (lv_at hl 2 rfl) ?_
                    refine lv_iload_n hx hb dX6_addElement_116 rfl (lv_at hl 3 rfl) ?_
                    obtain ⟨u17, hu17, hf⟩ := ob hf
                    refine zk_v (va_runVN (As := [.int p0, .int p1, .int p2]) (rest := []) ⟨hx, hb, hml, hown, hts⟩ (c_X0_add l g (fun k => a (k + 2)) u16.1.1 p0 p1 p2 _ hu17 _) (zcN hw0 (zn_10 hK) zm2_117 zm1_3 zm2_116 zs1_7 hd_X0_add rfl rfl ⟨Nat.le_of_ble_eq_true rfl, Nat.le_of_ble_eq_true rfl⟩) ⟨zblind, zrecv (wc := zX0 g (fun k => a (k + 2)) u16.1.1) hK hP [2, 3, 4, 5, 6, 7] rfl (ci := 0) rfl rfl, zpre hK hP hD [2, 3, 4, 5, 6, 7] rfl rfl⟩ rfl rfl hl.1 rfl (lv_room (Nat.le_of_ble_eq_true rfl)) dX6_addElement_117 ⟨Nat.zero_le _, Nat.zero_le _⟩) hP hD hS hA [2, 3, 4, 5, 6, 7] rfl rfl (fun H locs hP hD hS => ?_)
                    have hP : va_P g.1 vwCl (zX6 g a ((u17, u16.1.2.1, u16.1.2.2.1, u16.1.2.2.2.1, u16.1.2.2.2.2.1, u16.1.2.2.2.2.2.1, u16.1.2.2.2.2.2.2.1, u16.1.2.2.2.2.2.2.2.1, u16.1.2.2.2.2.2.2.2.2.1, u16.1.2.2.2.2.2.2.2.2.2.1, u16.1.2.2.2.2.2.2.2.2.2.2), u16.2.1, u16.2.2.1, u16.2.2.2.1, u16.2.2.2.2)) H := hP
                    have hD : va_D A (zX6 g a ((u17, u16.1.2.1, u16.1.2.2.1, u16.1.2.2.2.1, u16.1.2.2.2.2.1, u16.1.2.2.2.2.2.1, u16.1.2.2.2.2.2.2.1, u16.1.2.2.2.2.2.2.2.1, u16.1.2.2.2.2.2.2.2.2.1, u16.1.2.2.2.2.2.2.2.2.2.1, u16.1.2.2.2.2.2.2.2.2.2.2), u16.2.1, u16.2.2.1, u16.2.2.2.1, u16.2.2.2.2)) := hD
                    refine lv_aload_n hx hb dX6_addElement_120 rfl (lv_at hl 0 rfl) ?_
                    refine va_get (D := g.1) (ci := 6) (v := .ref (a 1)) (C := RX6) (T := TX6) (N := 5) hx hb hw0 ziX6 hown hK.1 hP 0 rfl rfl 0 (by decide) (hw0 _ zm1_202) (fun _ h9 => h9) rfl dX6_addElement_121 ?_
                    refine va_getN (D := g.1) (ci := 2) (v := .ref (a 2)) (C := RX2) (T := TX2) (N := 11) hx hb hw0 ziX2 hown hK.1 hP 1 rfl rfl 0 (by decide) (va_Nw.use rfl (zf_18 hK)) (fun _ h9 => h9) rfl dX6_addElement_124 ?_
                    refine va_getN (D := g.1) (ci := 0) (v := .int u17.1) (C := RX0) (T := TX0) (N := 6) hx hb hw0 ziX0 hown hK.1 hP 2 rfl rfl 0 (by decide) (va_Nw.use rfl (zf_0 hK)) (fun _ h9 => h9) rfl dX6_addElement_127 ?_
                    refine lv_iconst (v := 1) hx hb dX6_addElement_130 (by decide) ?_
                    refine lv_isub hx hb dX6_addElement_131 ?_
                    have hR : (Sum.inr ((u17.1 - 1), ((u17, u16.1.2.1, u16.1.2.2.1, u16.1.2.2.2.1, u16.1.2.2.2.2.1, u16.1.2.2.2.2.2.1, u16.1.2.2.2.2.2.2.1, u16.1.2.2.2.2.2.2.2.1, u16.1.2.2.2.2.2.2.2.2.1, u16.1.2.2.2.2.2.2.2.2.2.1, u16.1.2.2.2.2.2.2.2.2.2.2), u16.2.1, u16.2.2.1, u16.2.2.2.1, u16.2.2.2.2)) : Nat ⊕ (Int32 × CV)) = r := Option.some.inj hf
                    subst hR
                    refine W.widen (k := 1) (n := 6) (Nat.zero_le _) (Nat.zero_le _) ?_
                    exact vx_ret (W.iret (v := (u17.1 - 1)) hx hb hr0 (fun t ht hW => ⟨⟨(u17.1 - 1), (), rfl, ⟨_, rfl, rfl⟩, _, rfl, by rw [ht]; exact hP, hD⟩, hS.F ht⟩) hS.2.2 dX6_addElement_132)
                  · have hf := oe hf c15
                    have hR : (Sum.inl 2 : Nat ⊕ (Int32 × CV)) = r := Option.some.inj hf
                    exact zthrow (ik := 58) (is := 60) (ic := 62) (text := "the hour takes no more elements") (k := 2) hx hb hst9 hown (hw0 _ zm2_69) (hw0 _ zm1_13) (hKx.2 ("HourClock", 60, "the hour takes no more elements") (by decide +kernel)) hKx.1 hw0 zx_w2 zx_b2 zx_o2 hZs (by decide +kernel) (by decide +kernel) hP hD hS (hl.1.trans hml.symm) htab dX6_addElement_93 dX6_addElement_96 dX6_addElement_97 dX6_addElement_99 dX6_addElement_102 (by decide) (by decide) (Nat.le_of_ble_eq_true rfl) (Nat.le_of_ble_eq_true rfl) hlocks hR.symm rfl
              · have hf := oe hf c13
                have hR : (Sum.inl 1 : Nat ⊕ (Int32 × CV)) = r := Option.some.inj hf
                exact zthrow (ik := 34) (is := 43) (ic := 38) (text := "rank") (k := 1) hx hb hst9 hown (hw0 _ zm1_239) (hw0 _ zm1_11) (hKx.2 ("HourClock", 43, "rank") (by decide +kernel)) hKx.1 hw0 zx_w1 zx_b1 zx_o1 hZs (by decide +kernel) (by decide +kernel) hP hD hS (hl.1.trans hml.symm) htab dX6_addElement_58 dX6_addElement_61 dX6_addElement_62 dX6_addElement_64 dX6_addElement_67 (by decide) (by decide) (Nat.le_of_ble_eq_true rfl) (Nat.le_of_ble_eq_true rfl) hlocks hR.symm rfl
          · have hf := oe hf c11
            have hR : (Sum.inl 1 : Nat ⊕ (Int32 × CV)) = r := Option.some.inj hf
            exact zthrow (ik := 34) (is := 41) (ic := 38) (text := "time") (k := 1) hx hb hst9 hown (hw0 _ zm1_239) (hw0 _ zm1_11) (hKx.2 ("HourClock", 41, "time") (by decide +kernel)) hKx.1 hw0 zx_w1 zx_b1 zx_o1 hZs (by decide +kernel) (by decide +kernel) hP hD hS (hl.1.trans hml.symm) htab dX6_addElement_38 dX6_addElement_41 dX6_addElement_42 dX6_addElement_44 dX6_addElement_47 (by decide) (by decide) (Nat.le_of_ble_eq_true rfl) (Nat.le_of_ble_eq_true rfl) hlocks hR.symm rfl
    · have hf := oe hf c2
      have hR : (Sum.inl 1 : Nat ⊕ (Int32 × CV)) = r := Option.some.inj hf
      exact zthrow (ik := 34) (is := 36) (ic := 38) (text := "length") (k := 1) hx hb hst9 hown (hw0 _ zm1_239) (hw0 _ zm1_11) (hKx.2 ("HourClock", 36, "length") (by decide +kernel)) hKx.1 hw0 zx_w1 zx_b1 zx_o1 hZs (by decide +kernel) (by decide +kernel) hP hD hS (hl.1.trans hml.symm) htab dX6_addElement_12 dX6_addElement_15 dX6_addElement_16 dX6_addElement_18 dX6_addElement_21 (by decide) (by decide) (Nat.le_of_ble_eq_true rfl) (Nat.le_of_ble_eq_true rfl) hlocks hR.symm rfl
def fn_X6_addElement (v : CV) (p0 : Int32) (p1 : Int32) (p2 : Int32) : Option (Int32 × CV) :=
  if p0 < 1 then
    none
  else
    if p0 ≤ 1800 then
      if p1 = (-1) then
        if p2 < 0 then
          none
        else
          if p2 ≤ 9 then
            if (zb v.1.2.2.2.2.1) = 0 then
              if v.1.1.1 < 12 then
                (f_X6_save v).bind (fun u8 =>
                (f_X0_add u8.1.1 p0 p1 p2).bind (fun u9 =>
                some ((u9.1 - 1), ((u9, u8.1.2.1, u8.1.2.2.1, u8.1.2.2.2.1, u8.1.2.2.2.2.1, u8.1.2.2.2.2.2.1, u8.1.2.2.2.2.2.2.1, u8.1.2.2.2.2.2.2.2.1, u8.1.2.2.2.2.2.2.2.2.1, u8.1.2.2.2.2.2.2.2.2.2.1, u8.1.2.2.2.2.2.2.2.2.2.2), u8.2.1, u8.2.2.1, u8.2.2.2.1, u8.2.2.2.2))))
              else
                none
            else
              none
          else
            none
      else
        if p1 < 0 then
          none
        else
          if p1 < 3600 then
            if p2 < 0 then
              none
            else
              if p2 ≤ 9 then
                if (zb v.1.2.2.2.2.1) = 0 then
                  if v.1.1.1 < 12 then
                    (f_X6_save v).bind (fun u16 =>
                    (f_X0_add u16.1.1 p0 p1 p2).bind (fun u17 =>
                    some ((u17.1 - 1), ((u17, u16.1.2.1, u16.1.2.2.1, u16.1.2.2.2.1, u16.1.2.2.2.2.1, u16.1.2.2.2.2.2.1, u16.1.2.2.2.2.2.2.1, u16.1.2.2.2.2.2.2.2.1, u16.1.2.2.2.2.2.2.2.2.1, u16.1.2.2.2.2.2.2.2.2.2.1, u16.1.2.2.2.2.2.2.2.2.2.2), u16.2.1, u16.2.2.1, u16.2.2.2.1, u16.2.2.2.2))))
                  else
                    none
                else
                  none
              else
                none
          else
            none
    else
      none
set_option maxHeartbeats 4000000 in
set_option maxRecDepth 100000 in
theorem cn_X6_addElement (l : Launch) (g : zG) (a : Nat → Nat) (v : CV) (p0 : Int32) (p1 : Int32) (p2 : Int32) (r : Int32 × CV) (hf : fn_X6_addElement v p0 p1 p2 = some r) : zMi zNF zNM l yX6_addElement (zw yX6_addElement cX6_addElement 4 (some .int)) ({ frames := 4, cells := 0, slots := 0, locals := 102 } : Room) g [.ref (a 0), .int p0, .int p1, .int p2] (zX6 g a v) r.1 (zX6 g a r.2) := by
  intro sz
  refine Met.ofW (cc := cX6_addElement) (maxL := 4) (ret := (some .int)) (by decide) rfl ?_
  intro p e s m args below meth c s₁ B hml hv
  obtain ⟨rfl, hsz, hP, hK, hD0⟩ := hv
  have hx := B.exec
  have hb := B.bytes
  have hr0 := B.returns
  have hts := atoms_spec (ws := (zw yX6_addElement cX6_addElement 4 (some .int))) B.pre
  have hw0 : ∀ w ∈ zW, w.before ([.ref (a 0), .int p0, .int p1, .int p2] : List Value).toArray s = true := fun w h => hts w (List.mem_cons_of_mem _ h)
  have hown : s.vm.findClass RX6 = some m.cls := findClass_of_methodNamed B.named
  have hlocks := B.notSynchronized
  subst hsz
  have hD := hD0.self (sz := s.heap.size)
  generalize hAe : va_A (zX6 g a v) s.heap.size = A at hD ⊢
  have hA : ∀ q : Nat, s.heap.size ≤ q → A q := fun q h => by rw [← hAe]; exact Or.inr h
  have hS : va_S A s.heap s.heap [] := va_S.rf
  unfold fn_X6_addElement at hf
  have hl := lv_entry ([.ref (a 0), .int p0, .int p1, .int p2]) (n := 4) (Nat.le_of_ble_eq_true rfl)
  rw [lg_entry_eq]
  generalize (lg_sl ([.ref (a 0), .int p0, .int p1, .int p2]) ++ List.replicate (4 - (lg_sl ([.ref (a 0), .int p0, .int p1, .int p2])).length) Slot.unset).toArray = ls at hl ⊢
  have hl : lv_has ls 4 [(0, .ref (a 0)), (1, .int p0), (2, .int p1), (3, .int p2)] := hl
  refine lv_iload_n hx hb dX6_addElement_0 rfl (lv_at hl 1 rfl) ?_
  refine lv_iconst (v := 1) hx hb dX6_addElement_1 (by decide) ?_
  refine lv_icmp_lt (tgt := 12) hx hb dX6_addElement_2 (by decide) (fun c1 => ?_) (fun c1 => ?_)
  · have hf := oi hf c1
    exact absurd hf (by simp)
  · have hf := oe hf c1
    refine lv_iload_n hx hb dX6_addElement_5 rfl (lv_at hl 1 rfl) ?_
    refine lv_sipush (v := 1800) hx hb dX6_addElement_6 (by decide) ?_
    refine lv_icmp_le (tgt := 22) hx hb dX6_addElement_9 (by decide) (fun c2 => ?_) (fun c2 => ?_)
    · have hf := oi hf c2
      refine lv_iload_n hx hb dX6_addElement_22 rfl (lv_at hl 2 rfl) ?_
      refine lv_iconst (v := (-1)) hx hb dX6_addElement_23 (by decide) ?_
      refine lv_icmp_eq (tgt := 48) hx hb dX6_addElement_24 (by decide) (fun c3 => ?_) (fun c3 => ?_)
      · have hf := oi hf c3
        refine lv_iload_n hx hb dX6_addElement_48 rfl (lv_at hl 3 rfl) ?_
        refine lv_if_lt (tgt := 58) hx hb dX6_addElement_49 (by decide) (fun c4 => ?_) (fun c4 => ?_)
        · have hf := oi hf c4
          exact absurd hf (by simp)
        · have hf := oe hf c4
          refine lv_iload_n hx hb dX6_addElement_52 rfl (lv_at hl 3 rfl) ?_
          refine lv_bipush (v := 9) hx hb dX6_addElement_53 (by decide) ?_
          refine lv_icmp_le (tgt := 68) hx hb dX6_addElement_55 (by decide) (fun c5 => ?_) (fun c5 => ?_)
          · have hf := oi hf c5
            refine lv_aload_n hx hb dX6_addElement_68 rfl (lv_at hl 0 rfl) ?_
            refine va_get (D := g.1) (ci := 6) (v := .ref (a 1)) (C := RX6) (T := TX6) (N := 5) hx hb hw0 ziX6 hown hK.1 hP 0 rfl rfl 0 (by decide) (hw0 _ zm1_202) (fun _ h9 => h9) rfl dX6_addElement_69 ?_
            refine va_getN (D := g.1) (ci := 2) (v := .int (zb v.1.2.2.2.2.1)) (C := RX2) (T := TX2) (N := 11) hx hb hw0 ziX2 hown hK.1 hP 1 rfl rfl 4 (by decide) (va_Nw.use rfl (zf_22 hK)) (fun _ h9 => h9) rfl dX6_addElement_72 ?_
            refine lv_if_ne (tgt := 93) hx hb dX6_addElement_75 (by decide) (fun c6 => ?_) (fun c6 => ?_)
            · have hf := oe hf c6
              exact absurd hf (by simp)
            · have hf := oi hf c6
              refine lv_aload_n hx hb dX6_addElement_78 rfl (lv_at hl 0 rfl) ?_
              refine va_get (D := g.1) (ci := 6) (v := .ref (a 1)) (C := RX6) (T := TX6) (N := 5) hx hb hw0 ziX6 hown hK.1 hP 0 rfl rfl 0 (by decide) (hw0 _ zm1_202) (fun _ h9 => h9) rfl dX6_addElement_79 ?_
              refine va_getN (D := g.1) (ci := 2) (v := .ref (a 2)) (C := RX2) (T := TX2) (N := 11) hx hb hw0 ziX2 hown hK.1 hP 1 rfl rfl 0 (by decide) (va_Nw.use rfl (zf_18 hK)) (fun _ h9 => h9) rfl dX6_addElement_82 ?_
              refine va_getN (D := g.1) (ci := 0) (v := .int v.1.1.1) (C := RX0) (T := TX0) (N := 6) hx hb hw0 ziX0 hown hK.1 hP 2 rfl rfl 0 (by decide) (va_Nw.use rfl (zf_0 hK)) (fun _ h9 => h9) rfl dX6_addElement_85 ?_
              refine lv_bipush (v := 12) hx hb dX6_addElement_88 (by decide) ?_
              refine lv_icmp_lt (tgt := 103) hx hb dX6_addElement_90 (by decide) (fun c7 => ?_) (fun c7 => ?_)
              · have hf := oi hf c7
                refine lv_aload_n hx hb dX6_addElement_103 rfl (lv_at hl 0 rfl) ?_
                obtain ⟨u8, hu8, hf⟩ := ob hf
                refine zk_vA (va_runV (As := []) (rest := []) ⟨hx, hb, hml, hown, hts⟩ (c_X6_save l g a v _ hu8 _) (zcV hw0 zm2_85 zm2_88 zm1_1 zm2_87 zs1_1 hd_X6_save rfl rfl ⟨Nat.le_of_ble_eq_true rfl, Nat.le_of_ble_eq_true rfl⟩) ⟨zblind, zrecvA hK hP (ci := 6) rfl rfl, zpreA hK hP hD⟩ rfl rfl hl.1 rfl (lv_room (Nat.le_of_ble_eq_true rfl)) dX6_addElement_104 ⟨Nat.zero_le _, Nat.zero_le _⟩) hP hD hS hA (fun H locs hP hD hS => ?_)
                have hP : va_P g.1 vwCl (zX6 g a u8) H := hP
                have hD : va_D A (zX6 g a u8) := hD
                refine lv_aload_n hx hb dX6_addElement_107 rfl (lv_at hl 0 rfl) ?_
                refine va_get (D := g.1) (ci := 6) (v := .ref (a 1)) (C := RX6) (T := TX6) (N := 5) hx hb hw0 ziX6 hown hK.1 hP 0 rfl rfl 0 (by decide) (hw0 _ zm1_202) (fun _ h9 => h9) rfl dX6_addElement_108 ?_
                refine va_getN (D := g.1) (ci := 2) (v := .ref (a 2)) (C := RX2) (T := TX2) (N := 11) hx hb hw0 ziX2 hown hK.1 hP 1 rfl rfl 0 (by decide) (va_Nw.use rfl (zf_18 hK)) (fun _ h9 => h9) rfl dX6_addElement_111 ?_
                refine lv_iload_n hx hb dX6_addElement_114 rfl (lv_at hl 1 rfl) ?_
                refine lv_iload_n hx hb dX6_addElement_115 rfl (lv_at hl 2 rfl) ?_
                refine lv_iload_n hx hb dX6_addElement_116 rfl (lv_at hl 3 rfl) ?_
                obtain ⟨u9, hu9, hf⟩ := ob hf
                refine zk_v (va_runVN (As := [.int p0, .int p1, .int p2]) (rest := []) ⟨hx, hb, hml, hown, hts⟩ (c_X0_add l g (fun k => a (k + 2)) u8.1.1 p0 p1 p2 _ hu9 _) (zcN hw0 (zn_10 hK) zm2_117 zm1_3 zm2_116 zs1_7 hd_X0_add rfl rfl ⟨Nat.le_of_ble_eq_true rfl, Nat.le_of_ble_eq_true rfl⟩) ⟨zblind, zrecv (wc := zX0 g (fun k => a (k + 2)) u8.1.1) hK hP [2, 3, 4, 5, 6, 7] rfl (ci := 0) rfl rfl, zpre hK hP hD [2, 3, 4, 5, 6, 7] rfl rfl⟩ rfl rfl hl.1 rfl (lv_room (Nat.le_of_ble_eq_true rfl)) dX6_addElement_117 ⟨Nat.zero_le _, Nat.zero_le _⟩) hP hD hS hA [2, 3, 4, 5, 6, 7] rfl rfl (fun H locs hP hD hS => ?_)
                have hP : va_P g.1 vwCl (zX6 g a ((u9, u8.1.2.1, u8.1.2.2.1, u8.1.2.2.2.1, u8.1.2.2.2.2.1, u8.1.2.2.2.2.2.1, u8.1.2.2.2.2.2.2.1, u8.1.2.2.2.2.2.2.2.1, u8.1.2.2.2.2.2.2.2.2.1, u8.1.2.2.2.2.2.2.2.2.2.1, u8.1.2.2.2.2.2.2.2.2.2.2), u8.2.1, u8.2.2.1, u8.2.2.2.1, u8.2.2.2.2)) H := hP
                have hD : va_D A (zX6 g a ((u9, u8.1.2.1, u8.1.2.2.1, u8.1.2.2.2.1, u8.1.2.2.2.2.1, u8.1.2.2.2.2.2.1, u8.1.2.2.2.2.2.2.1, u8.1.2.2.2.2.2.2.2.1, u8.1.2.2.2.2.2.2.2.2.1, u8.1.2.2.2.2.2.2.2.2.2.1, u8.1.2.2.2.2.2.2.2.2.2.2), u8.2.1, u8.2.2.1, u8.2.2.2.1, u8.2.2.2.2)) := hD
                refine lv_aload_n hx hb dX6_addElement_120 rfl (lv_at hl 0 rfl) ?_
                refine va_get (D := g.1) (ci := 6) (v := .ref (a 1)) (C := RX6) (T := TX6) (N := 5) hx hb hw0 ziX6 hown hK.1 hP 0 rfl rfl 0 (by decide) (hw0 _ zm1_202) (fun _ h9 => h9) rfl dX6_addElement_121 ?_
                refine va_getN (D := g.1) (ci := 2) (v := .ref (a 2)) (C := RX2) (T := TX2) (N := 11) hx hb hw0 ziX2 hown hK.1 hP 1 rfl rfl 0 (by decide) (va_Nw.use rfl (zf_18 hK)) (fun _ h9 => h9) rfl dX6_addElement_124 ?_
                refine va_getN (D := g.1) (ci := 0) (v := .int u9.1) (C := RX0) (T := TX0) (N := 6) hx hb hw0 ziX0 hown hK.1 hP 2 rfl rfl 0 (by decide) (va_Nw.use rfl (zf_0 hK)) (fun _ h9 => h9) rfl dX6_addElement_127 ?_
                refine lv_iconst (v := 1) hx hb dX6_addElement_130 (by decide) ?_
                refine lv_isub hx hb dX6_addElement_131 ?_
                have hR : ((u9.1 - 1), ((u9, u8.1.2.1, u8.1.2.2.1, u8.1.2.2.2.1, u8.1.2.2.2.2.1, u8.1.2.2.2.2.2.1, u8.1.2.2.2.2.2.2.1, u8.1.2.2.2.2.2.2.2.1, u8.1.2.2.2.2.2.2.2.2.1, u8.1.2.2.2.2.2.2.2.2.2.1, u8.1.2.2.2.2.2.2.2.2.2.2), u8.2.1, u8.2.2.1, u8.2.2.2.1, u8.2.2.2.2)) = r := Option.some.inj hf
                subst hR
                exact W.iret (v := (u9.1 - 1)) hx hb hr0 (fun t ht hW => ⟨⟨(u9.1 - 1), (), rfl, rfl, by rw [ht]; exact hP, hD⟩, hS.F ht⟩) hS.2.2 dX6_addElement_132
              · have hf := oe hf c7
                exact absurd hf (by simp)
          · have hf := oe hf c5
            exact absurd hf (by simp)
      · have hf := oe hf c3
        refine lv_iload_n hx hb dX6_addElement_27 rfl (lv_at hl 2 rfl) ?_
        refine lv_if_lt (tgt := 38) hx hb dX6_addElement_28 (by decide) (fun c10 => ?_) (fun c10 => ?_)
        · have hf := oi hf c10
          exact absurd hf (by simp)
        · have hf := oe hf c10
          refine lv_iload_n hx hb dX6_addElement_31 rfl (lv_at hl 2 rfl) ?_
          refine lv_sipush (v := 3600) hx hb dX6_addElement_32 (by decide) ?_
          refine lv_icmp_lt (tgt := 48) hx hb dX6_addElement_35 (by decide) (fun c11 => ?_) (fun c11 => ?_)
          · have hf := oi hf c11
            refine lv_iload_n hx hb dX6_addElement_48 rfl (lv_at hl 3 rfl) ?_
            refine lv_if_lt (tgt := 58) hx hb dX6_addElement_49 (by decide) (fun c12 => ?_) (fun c12 => ?_)
            · have hf := oi hf c12
              exact absurd hf (by simp)
            · have hf := oe hf c12
              refine lv_iload_n hx hb dX6_addElement_52 rfl (lv_at hl 3 rfl) ?_
              refine lv_bipush (v := 9) hx hb dX6_addElement_53 (by decide) ?_
              refine lv_icmp_le (tgt := 68) hx hb dX6_addElement_55 (by decide) (fun c13 => ?_) (fun c13 => ?_)
              · have hf := oi hf c13
                refine lv_aload_n hx hb dX6_addElement_68 rfl (lv_at hl 0 rfl) ?_
                refine va_get (D := g.1) (ci := 6) (v := .ref (a 1)) (C := RX6) (T := TX6) (N := 5) hx hb hw0 ziX6 hown hK.1 hP 0 rfl rfl 0 (by decide) (hw0 _ zm1_202) (fun _ h9 => h9) rfl dX6_addElement_69 ?_
                refine va_getN (D := g.1) (ci := 2) (v := .int (zb v.1.2.2.2.2.1)) (C := RX2) (T := TX2) (N := 11) hx hb hw0 ziX2 hown hK.1 hP 1 rfl rfl 4 (by decide) (va_Nw.use rfl (zf_22 hK)) (fun _ h9 => h9) rfl dX6_addElement_72 ?_
                refine lv_if_ne (tgt := 93) hx hb dX6_addElement_75 (by decide) (fun c14 => ?_) (fun c14 => ?_)
                · have hf := oe hf c14
                  exact absurd hf (by simp)
                · have hf := oi hf c14
                  refine lv_aload_n hx hb dX6_addElement_78 rfl (lv_at hl 0 rfl) ?_
                  refine va_get (D := g.1) (ci := 6) (v := .ref (a 1)) (C := RX6) (T := TX6) (N := 5) hx hb hw0 ziX6 hown hK.1 hP 0 rfl rfl 0 (by decide) (hw0 _ zm1_202) (fun _ h9 => h9) rfl dX6_addElement_79 ?_
                  refine va_getN (D := g.1) (ci := 2) (v := .ref (a 2)) (C := RX2) (T := TX2) (N := 11) hx hb hw0 ziX2 hown hK.1 hP 1 rfl rfl 0 (by decide) (va_Nw.use rfl (zf_18 hK)) (fun _ h9 => h9) rfl dX6_addElement_82 ?_
                  refine va_getN (D := g.1) (ci := 0) (v := .int v.1.1.1) (C := RX0) (T := TX0) (N := 6) hx hb hw0 ziX0 hown hK.1 hP 2 rfl rfl 0 (by decide) (va_Nw.use rfl (zf_0 hK)) (fun _ h9 => h9) rfl dX6_addElement_85 ?_
                  refine lv_bipush (v := 12) hx hb dX6_addElement_88 (by decide) ?_
                  refine lv_icmp_lt (tgt := 103) hx hb dX6_addElement_90 (by decide) (fun c15 => ?_) (fun c15 => ?_)
                  · have hf := oi hf c15
                    refine lv_aload_n hx hb dX6_addElement_103 rfl (lv_at hl 0 rfl) ?_
                    obtain ⟨u16, hu16, hf⟩ := ob hf
                    refine zk_vA (va_runV (As := []) (rest := []) ⟨hx, hb, hml, hown, hts⟩ (c_X6_save l g a v _ hu16 _) (zcV hw0 zm2_85 zm2_88 zm1_1 zm2_87 zs1_1 hd_X6_save rfl rfl ⟨Nat.le_of_ble_eq_true rfl, Nat.le_of_ble_eq_true rfl⟩) ⟨zblind, zrecvA hK hP (ci := 6) rfl rfl, zpreA hK hP hD⟩ rfl rfl hl.1 rfl (lv_room (Nat.le_of_ble_eq_true rfl)) dX6_addElement_104 ⟨Nat.zero_le _, Nat.zero_le _⟩) hP hD hS hA (fun H locs hP hD hS => ?_)
                    have hP : va_P g.1 vwCl (zX6 g a u16) H := hP
                    have hD : va_D A (zX6 g a u16) := hD
                    refine lv_aload_n hx hb dX6_addElement_107 rfl (lv_at hl 0 rfl) ?_
                    refine va_get (D := g.1) (ci := 6) (v := .ref (a 1)) (C := RX6) (T := TX6) (N := 5) hx hb hw0 ziX6 hown hK.1 hP 0 rfl rfl 0 (by decide) (hw0 _ zm1_202) (fun _ h9 => h9) rfl dX6_addElement_108 ?_
                    refine va_getN (D := g.1) (ci := 2) (v := .ref (a 2)) (C := RX2) (T := TX2) (N := 11) hx hb hw0 ziX2 hown hK.1 hP 1 rfl rfl 0 (by decide) (va_Nw.use rfl (zf_18 hK)) (fun _ h9 => h9) rfl dX6_addElement_111 ?_
                    refine lv_iload_n hx hb dX6_addElement_114 rfl (lv_at hl 1 rfl) ?_
                    refine lv_iload_n hx hb dX6_addElement_115 rfl (lv_at hl 2 rfl) ?_
                    refine lv_iload_n hx hb dX6_addElement_116 rfl (lv_at hl 3 rfl) ?_
                    obtain ⟨u17, hu17, hf⟩ := ob hf
                    refine zk_v (va_runVN (As := [.int p0, .int p1, .int p2]) (rest := []) ⟨hx, hb, hml, hown, hts⟩ (c_X0_add l g (fun k => a (k + 2)) u16.1.1 p0 p1 p2 _ hu17 _) (zcN hw0 (zn_10 hK) zm2_117 zm1_3 zm2_116 zs1_7 hd_X0_add rfl rfl ⟨Nat.le_of_ble_eq_true rfl, Nat.le_of_ble_eq_true rfl⟩) ⟨zblind, zrecv (wc := zX0 g (fun k => a (k + 2)) u16.1.1) hK hP [2, 3, 4, 5, 6, 7] rfl (ci := 0) rfl rfl, zpre hK hP hD [2, 3, 4, 5, 6, 7] rfl rfl⟩ rfl rfl hl.1 rfl (lv_room (Nat.le_of_ble_eq_true rfl)) dX6_addElement_117 ⟨Nat.zero_le _, Nat.zero_le _⟩) hP hD hS hA [2, 3, 4, 5, 6, 7] rfl rfl (fun H locs hP hD hS => ?_)
                    have hP : va_P g.1 vwCl (zX6 g a ((u17, u16.1.2.1, u16.1.2.2.1, u16.1.2.2.2.1, u16.1.2.2.2.2.1, u16.1.2.2.2.2.2.1, u16.1.2.2.2.2.2.2.1, u16.1.2.2.2.2.2.2.2.1, u16.1.2.2.2.2.2.2.2.2.1, u16.1.2.2.2.2.2.2.2.2.2.1, u16.1.2.2.2.2.2.2.2.2.2.2), u16.2.1, u16.2.2.1, u16.2.2.2.1, u16.2.2.2.2)) H := hP
                    have hD : va_D A (zX6 g a ((u17, u16.1.2.1, u16.1.2.2.1, u16.1.2.2.2.1, u16.1.2.2.2.2.1, u16.1.2.2.2.2.2.1, u16.1.2.2.2.2.2.2.1, u16.1.2.2.2.2.2.2.2.1, u16.1.2.2.2.2.2.2.2.2.1, u16.1.2.2.2.2.2.2.2.2.2.1, u16.1.2.2.2.2.2.2.2.2.2.2), u16.2.1, u16.2.2.1, u16.2.2.2.1, u16.2.2.2.2)) := hD
                    refine lv_aload_n hx hb dX6_addElement_120 rfl (lv_at hl 0 rfl) ?_
                    refine va_get (D := g.1) (ci := 6) (v := .ref (a 1)) (C := RX6) (T := TX6) (N := 5) hx hb hw0 ziX6 hown hK.1 hP 0 rfl rfl 0 (by decide) (hw0 _ zm1_202) (fun _ h9 => h9) rfl dX6_addElement_121 ?_
                    refine va_getN (D := g.1) (ci := 2) (v := .ref (a 2)) (C := RX2) (T := TX2) (N := 11) hx hb hw0 ziX2 hown hK.1 hP 1 rfl rfl 0 (by decide) (va_Nw.use rfl (zf_18 hK)) (fun _ h9 => h9) rfl dX6_addElement_124 ?_
                    refine va_getN (D := g.1) (ci := 0) (v := .int u17.1) (C := RX0) (T := TX0) (N := 6) hx hb hw0 ziX0 hown hK.1 hP 2 rfl rfl 0 (by decide) (va_Nw.use rfl (zf_0 hK)) (fun _ h9 => h9) rfl dX6_addElement_127 ?_
                    refine lv_iconst (v := 1) hx hb dX6_addElement_130 (by decide) ?_
                    refine lv_isub hx hb dX6_addElement_131 ?_
                    have hR : ((u17.1 - 1), ((u17, u16.1.2.1, u16.1.2.2.1, u16.1.2.2.2.1, u16.1.2.2.2.2.1, u16.1.2.2.2.2.2.1, u16.1.2.2.2.2.2.2.1, u16.1.2.2.2.2.2.2.2.1, u16.1.2.2.2.2.2.2.2.2.1, u16.1.2.2.2.2.2.2.2.2.2.1, u16.1.2.2.2.2.2.2.2.2.2.2), u16.2.1, u16.2.2.1, u16.2.2.2.1, u16.2.2.2.2)) = r := Option.some.inj hf
                    subst hR
                    exact W.iret (v := (u17.1 - 1)) hx hb hr0 (fun t ht hW => ⟨⟨(u17.1 - 1), (), rfl, rfl, by rw [ht]; exact hP, hD⟩, hS.F ht⟩) hS.2.2 dX6_addElement_132
                  · have hf := oe hf c15
                    exact absurd hf (by simp)
              · have hf := oe hf c13
                exact absurd hf (by simp)
          · have hf := oe hf c11
            exact absurd hf (by simp)
    · have hf := oe hf c2
      exact absurd hf (by simp)
theorem hd_X6_addFiller : yX6_addFiller.cls ≠ "java/lang/invoke/MethodHandle" ∧ yX6_addFiller.cls ≠ "java/lang/invoke/VarHandle" ∧ (parseMethodDescriptor yX6_addFiller.desc).map (fun d => d.parameters.length) = some 1 := by decide +kernel
def f_X6_addFiller (v : CV) (p0 : Int32) : Option (Nat ⊕ (Int32 × CV)) :=
  if p0 < 1 then
    some (.inl 1)
  else
    if p0 ≤ 900 then
      if (zb v.1.2.2.2.2.1) = 0 then
        if v.1.2.1.1 < 10 then
          (f_X6_save v).bind (fun u5 =>
          (f_X1_add u5.1.2.1 p0).bind (fun u6 =>
          some (.inr ((u6.1 - 1), ((u5.1.1, u6, u5.1.2.2.1, u5.1.2.2.2.1, u5.1.2.2.2.2.1, u5.1.2.2.2.2.2.1, u5.1.2.2.2.2.2.2.1, u5.1.2.2.2.2.2.2.2.1, u5.1.2.2.2.2.2.2.2.2.1, u5.1.2.2.2.2.2.2.2.2.2.1, u5.1.2.2.2.2.2.2.2.2.2.2), u5.2.1, u5.2.2.1, u5.2.2.2.1, u5.2.2.2.2)))))
        else
          some (.inl 2)
      else
        some (.inl 2)
    else
      some (.inl 1)
set_option maxHeartbeats 4000000 in
set_option maxRecDepth 100000 in
theorem c_X6_addFiller (l : Launch) (hst9 : l.stackTraces = false) (g : zG) (a : Nat → Nat) (v : CV) (p0 : Int32) (r : Nat ⊕ (Int32 × CV)) (hf : f_X6_addFiller v p0 = some r) : zMx zNF zNM l yX6_addFiller (zw yX6_addFiller cX6_addFiller 2 (some .int)) ({ frames := 6, cells := 1, slots := 6, locals := 102 } : Room) g [.ref (a 0), .int p0] (zX6 g a v) r (fun q => q.1) (fun q => (zX6 g a q.2)) := by
  intro sz
  refine vx_ofW (cc := cX6_addFiller) (maxL := 2) (ret := (some .int)) (by decide) rfl ?_
  intro p e s m args below meth c s₁ B hml htab hv
  obtain ⟨rfl, ⟨hsz, hP, hK, hD0⟩, hKx, hZs⟩ := hv
  have hx := B.exec
  have hb := B.bytes
  have hr0 := B.returns
  have hts := atoms_spec (ws := (zw yX6_addFiller cX6_addFiller 2 (some .int))) B.pre
  have hw0 : ∀ w ∈ zW, w.before ([.ref (a 0), .int p0] : List Value).toArray s = true := fun w h => hts w (List.mem_cons_of_mem _ h)
  have hown : s.vm.findClass RX6 = some m.cls := findClass_of_methodNamed B.named
  have hlocks := B.notSynchronized
  subst hsz
  have hD := hD0.self (sz := s.heap.size)
  generalize hAe : va_A (zX6 g a v) s.heap.size = A at hD hZs ⊢
  have hA : ∀ q : Nat, s.heap.size ≤ q → A q := fun q h => by rw [← hAe]; exact Or.inr h
  have hS : va_S A s.heap s.heap [] := va_S.rf
  unfold f_X6_addFiller at hf
  have hl := lv_entry ([.ref (a 0), .int p0]) (n := 2) (Nat.le_of_ble_eq_true rfl)
  rw [lg_entry_eq]
  generalize (lg_sl ([.ref (a 0), .int p0]) ++ List.replicate (2 - (lg_sl ([.ref (a 0), .int p0])).length) Slot.unset).toArray = ls at hl ⊢
  have hl : lv_has ls 2 [(0, .ref (a 0)), (1, .int p0)] := hl
  refine lv_iload_n hx hb dX6_addFiller_0 rfl (lv_at hl 1 rfl) ?_
  refine lv_iconst (v := 1) hx hb dX6_addFiller_1 (by decide) ?_
  refine lv_icmp_lt (tgt := 12) hx hb dX6_addFiller_2 (by decide) (fun c1 => ?_) (fun c1 => ?_)
  · have hf := oi hf c1
    have hR : (Sum.inl 1 : Nat ⊕ (Int32 × CV)) = r := Option.some.inj hf
    exact zthrow (ik := 34) (is := 36) (ic := 38) (text := "length") (k := 1) hx hb hst9 hown (hw0 _ zm1_239) (hw0 _ zm1_11) (hKx.2 ("HourClock", 36, "length") (by decide +kernel)) hKx.1 hw0 zx_w1 zx_b1 zx_o1 hZs (by decide +kernel) (by decide +kernel) hP hD hS (hl.1.trans hml.symm) htab dX6_addFiller_12 dX6_addFiller_15 dX6_addFiller_16 dX6_addFiller_18 dX6_addFiller_21 (by decide) (by decide) (Nat.le_of_ble_eq_true rfl) (Nat.le_of_ble_eq_true rfl) hlocks hR.symm rfl
  · have hf := oe hf c1
    refine lv_iload_n hx hb dX6_addFiller_5 rfl (lv_at hl 1 rfl) ?_
    refine lv_sipush (v := 900) hx hb dX6_addFiller_6 (by decide) ?_
    refine lv_icmp_le (tgt := 22) hx hb dX6_addFiller_9 (by decide) (fun c2 => ?_) (fun c2 => ?_)
    · have hf := oi hf c2
      refine lv_aload_n hx hb dX6_addFiller_22 rfl (lv_at hl 0 rfl) ?_
      refine va_get (D := g.1) (ci := 6) (v := .ref (a 1)) (C := RX6) (T := TX6) (N := 5) hx hb hw0 ziX6 hown hK.1 hP 0 rfl rfl 0 (by decide) (hw0 _ zm1_202) (fun _ h9 => h9) rfl dX6_addFiller_23 ?_
      refine va_getN (D := g.1) (ci := 2) (v := .int (zb v.1.2.2.2.2.1)) (C := RX2) (T := TX2) (N := 11) hx hb hw0 ziX2 hown hK.1 hP 1 rfl rfl 4 (by decide) (va_Nw.use rfl (zf_22 hK)) (fun _ h9 => h9) rfl dX6_addFiller_26 ?_
      refine lv_if_ne (tgt := 47) hx hb dX6_addFiller_29 (by decide) (fun c3 => ?_) (fun c3 => ?_)
      · have hf := oe hf c3
        have hR : (Sum.inl 2 : Nat ⊕ (Int32 × CV)) = r := Option.some.inj hf
        exact zthrow (ik := 58) (is := 77) (ic := 62) (text := "the hour takes no more fillers") (k := 2) hx hb hst9 hown (hw0 _ zm2_69) (hw0 _ zm1_13) (hKx.2 ("HourClock", 77, "the hour takes no more fillers") (by decide +kernel)) hKx.1 hw0 zx_w2 zx_b2 zx_o2 hZs (by decide +kernel) (by decide +kernel) hP hD hS (hl.1.trans hml.symm) htab dX6_addFiller_47 dX6_addFiller_50 dX6_addFiller_51 dX6_addFiller_53 dX6_addFiller_56 (by decide) (by decide) (Nat.le_of_ble_eq_true rfl) (Nat.le_of_ble_eq_true rfl) hlocks hR.symm rfl
      · have hf := oi hf c3
        refine lv_aload_n hx hb dX6_addFiller_32 rfl (lv_at hl 0 rfl) ?_
        refine va_get (D := g.1) (ci := 6) (v := .ref (a 1)) (C := RX6) (T := TX6) (N := 5) hx hb hw0 ziX6 hown hK.1 hP 0 rfl rfl 0 (by decide) (hw0 _ zm1_202) (fun _ h9 => h9) rfl dX6_addFiller_33 ?_
        refine va_getN (D := g.1) (ci := 2) (v := .ref (a 8)) (C := RX2) (T := TX2) (N := 11) hx hb hw0 ziX2 hown hK.1 hP 1 rfl rfl 1 (by decide) (va_Nw.use rfl (zf_19 hK)) (fun _ h9 => h9) rfl dX6_addFiller_36 ?_
        refine va_getN (D := g.1) (ci := 1) (v := .int v.1.2.1.1) (C := RX1) (T := TX1) (N := 5) hx hb hw0 ziX1 hown hK.1 hP 8 rfl rfl 0 (by decide) (va_Nw.use rfl (zf_10 hK)) (fun _ h9 => h9) rfl dX6_addFiller_39 ?_
        refine lv_bipush (v := 10) hx hb dX6_addFiller_42 (by decide) ?_
        refine lv_icmp_lt (tgt := 57) hx hb dX6_addFiller_44 (by decide) (fun c4 => ?_) (fun c4 => ?_)
        · have hf := oi hf c4
          refine lv_aload_n hx hb dX6_addFiller_57 rfl (lv_at hl 0 rfl) ?_
          obtain ⟨u5, hu5, hf⟩ := ob hf
          refine zk_vA (va_runV (As := []) (rest := []) ⟨hx, hb, hml, hown, hts⟩ (c_X6_save l g a v _ hu5 _) (zcV hw0 zm2_85 zm2_88 zm1_1 zm2_87 zs1_1 hd_X6_save rfl rfl ⟨Nat.le_of_ble_eq_true rfl, Nat.le_of_ble_eq_true rfl⟩) ⟨zblind, zrecvA hK hP (ci := 6) rfl rfl, zpreA hK hP hD⟩ rfl rfl hl.1 rfl (lv_room (Nat.le_of_ble_eq_true rfl)) dX6_addFiller_58 ⟨Nat.zero_le _, Nat.zero_le _⟩) hP hD hS hA (fun H locs hP hD hS => ?_)
          have hP : va_P g.1 vwCl (zX6 g a u5) H := hP
          have hD : va_D A (zX6 g a u5) := hD
          refine lv_aload_n hx hb dX6_addFiller_61 rfl (lv_at hl 0 rfl) ?_
          refine va_get (D := g.1) (ci := 6) (v := .ref (a 1)) (C := RX6) (T := TX6) (N := 5) hx hb hw0 ziX6 hown hK.1 hP 0 rfl rfl 0 (by decide) (hw0 _ zm1_202) (fun _ h9 => h9) rfl dX6_addFiller_62 ?_
          refine va_getN (D := g.1) (ci := 2) (v := .ref (a 8)) (C := RX2) (T := TX2) (N := 11) hx hb hw0 ziX2 hown hK.1 hP 1 rfl rfl 1 (by decide) (va_Nw.use rfl (zf_19 hK)) (fun _ h9 => h9) rfl dX6_addFiller_65 ?_
          refine lv_iload_n hx hb dX6_addFiller_68 rfl (lv_at hl 1 rfl) ?_
          obtain ⟨u6, hu6, hf⟩ := ob hf
          refine zk_v (va_runVN (As := [.int p0]) (rest := []) ⟨hx, hb, hml, hown, hts⟩ (c_X1_add l g (fun k => a (k + 8)) u5.1.2.1 p0 _ hu6 _) (zcN hw0 (zn_11 hK) zm2_131 zm1_4 zm2_130 zs1_8 hd_X1_add rfl rfl ⟨Nat.le_of_ble_eq_true rfl, Nat.le_of_ble_eq_true rfl⟩) ⟨zblind, zrecv (wc := zX1 g (fun k => a (k + 8)) u5.1.2.1) hK hP [8, 9, 10, 11, 12, 13, 14] rfl (ci := 1) rfl rfl, zpre hK hP hD [8, 9, 10, 11, 12, 13, 14] rfl rfl⟩ rfl rfl hl.1 rfl (lv_room (Nat.le_of_ble_eq_true rfl)) dX6_addFiller_69 ⟨Nat.zero_le _, Nat.zero_le _⟩) hP hD hS hA [8, 9, 10, 11, 12, 13, 14] rfl rfl (fun H locs hP hD hS => ?_)
          have hP : va_P g.1 vwCl (zX6 g a ((u5.1.1, u6, u5.1.2.2.1, u5.1.2.2.2.1, u5.1.2.2.2.2.1, u5.1.2.2.2.2.2.1, u5.1.2.2.2.2.2.2.1, u5.1.2.2.2.2.2.2.2.1, u5.1.2.2.2.2.2.2.2.2.1, u5.1.2.2.2.2.2.2.2.2.2.1, u5.1.2.2.2.2.2.2.2.2.2.2), u5.2.1, u5.2.2.1, u5.2.2.2.1, u5.2.2.2.2)) H := hP
          have hD : va_D A (zX6 g a ((u5.1.1, u6, u5.1.2.2.1, u5.1.2.2.2.1, u5.1.2.2.2.2.1, u5.1.2.2.2.2.2.1, u5.1.2.2.2.2.2.2.1, u5.1.2.2.2.2.2.2.2.1, u5.1.2.2.2.2.2.2.2.2.1, u5.1.2.2.2.2.2.2.2.2.2.1, u5.1.2.2.2.2.2.2.2.2.2.2), u5.2.1, u5.2.2.1, u5.2.2.2.1, u5.2.2.2.2)) := hD
          refine lv_aload_n hx hb dX6_addFiller_72 rfl (lv_at hl 0 rfl) ?_
          refine va_get (D := g.1) (ci := 6) (v := .ref (a 1)) (C := RX6) (T := TX6) (N := 5) hx hb hw0 ziX6 hown hK.1 hP 0 rfl rfl 0 (by decide) (hw0 _ zm1_202) (fun _ h9 => h9) rfl dX6_addFiller_73 ?_
          refine va_getN (D := g.1) (ci := 2) (v := .ref (a 8)) (C := RX2) (T := TX2) (N := 11) hx hb hw0 ziX2 hown hK.1 hP 1 rfl rfl 1 (by decide) (va_Nw.use rfl (zf_19 hK)) (fun _ h9 => h9) rfl dX6_addFiller_76 ?_
          refine va_getN (D := g.1) (ci := 1) (v := .int u6.1) (C := RX1) (T := TX1) (N := 5) hx hb hw0 ziX1 hown hK.1 hP 8 rfl rfl 0 (by decide) (va_Nw.use rfl (zf_10 hK)) (fun _ h9 => h9) rfl dX6_addFiller_79 ?_
          refine lv_iconst (v := 1) hx hb dX6_addFiller_82 (by decide) ?_
          refine lv_isub hx hb dX6_addFiller_83 ?_
          have hR : (Sum.inr ((u6.1 - 1), ((u5.1.1, u6, u5.1.2.2.1, u5.1.2.2.2.1, u5.1.2.2.2.2.1, u5.1.2.2.2.2.2.1, u5.1.2.2.2.2.2.2.1, u5.1.2.2.2.2.2.2.2.1, u5.1.2.2.2.2.2.2.2.2.1, u5.1.2.2.2.2.2.2.2.2.2.1, u5.1.2.2.2.2.2.2.2.2.2.2), u5.2.1, u5.2.2.1, u5.2.2.2.1, u5.2.2.2.2)) : Nat ⊕ (Int32 × CV)) = r := Option.some.inj hf
          subst hR
          refine W.widen (k := 1) (n := 6) (Nat.zero_le _) (Nat.zero_le _) ?_
          exact vx_ret (W.iret (v := (u6.1 - 1)) hx hb hr0 (fun t ht hW => ⟨⟨(u6.1 - 1), (), rfl, ⟨_, rfl, rfl⟩, _, rfl, by rw [ht]; exact hP, hD⟩, hS.F ht⟩) hS.2.2 dX6_addFiller_84)
        · have hf := oe hf c4
          have hR : (Sum.inl 2 : Nat ⊕ (Int32 × CV)) = r := Option.some.inj hf
          exact zthrow (ik := 58) (is := 77) (ic := 62) (text := "the hour takes no more fillers") (k := 2) hx hb hst9 hown (hw0 _ zm2_69) (hw0 _ zm1_13) (hKx.2 ("HourClock", 77, "the hour takes no more fillers") (by decide +kernel)) hKx.1 hw0 zx_w2 zx_b2 zx_o2 hZs (by decide +kernel) (by decide +kernel) hP hD hS (hl.1.trans hml.symm) htab dX6_addFiller_47 dX6_addFiller_50 dX6_addFiller_51 dX6_addFiller_53 dX6_addFiller_56 (by decide) (by decide) (Nat.le_of_ble_eq_true rfl) (Nat.le_of_ble_eq_true rfl) hlocks hR.symm rfl
    · have hf := oe hf c2
      have hR : (Sum.inl 1 : Nat ⊕ (Int32 × CV)) = r := Option.some.inj hf
      exact zthrow (ik := 34) (is := 36) (ic := 38) (text := "length") (k := 1) hx hb hst9 hown (hw0 _ zm1_239) (hw0 _ zm1_11) (hKx.2 ("HourClock", 36, "length") (by decide +kernel)) hKx.1 hw0 zx_w1 zx_b1 zx_o1 hZs (by decide +kernel) (by decide +kernel) hP hD hS (hl.1.trans hml.symm) htab dX6_addFiller_12 dX6_addFiller_15 dX6_addFiller_16 dX6_addFiller_18 dX6_addFiller_21 (by decide) (by decide) (Nat.le_of_ble_eq_true rfl) (Nat.le_of_ble_eq_true rfl) hlocks hR.symm rfl
def fn_X6_addFiller (v : CV) (p0 : Int32) : Option (Int32 × CV) :=
  if p0 < 1 then
    none
  else
    if p0 ≤ 900 then
      if (zb v.1.2.2.2.2.1) = 0 then
        if v.1.2.1.1 < 10 then
          (f_X6_save v).bind (fun u5 =>
          (f_X1_add u5.1.2.1 p0).bind (fun u6 =>
          some ((u6.1 - 1), ((u5.1.1, u6, u5.1.2.2.1, u5.1.2.2.2.1, u5.1.2.2.2.2.1, u5.1.2.2.2.2.2.1, u5.1.2.2.2.2.2.2.1, u5.1.2.2.2.2.2.2.2.1, u5.1.2.2.2.2.2.2.2.2.1, u5.1.2.2.2.2.2.2.2.2.2.1, u5.1.2.2.2.2.2.2.2.2.2.2), u5.2.1, u5.2.2.1, u5.2.2.2.1, u5.2.2.2.2))))
        else
          none
      else
        none
    else
      none
set_option maxHeartbeats 4000000 in
set_option maxRecDepth 100000 in
theorem cn_X6_addFiller (l : Launch) (g : zG) (a : Nat → Nat) (v : CV) (p0 : Int32) (r : Int32 × CV) (hf : fn_X6_addFiller v p0 = some r) : zMi zNF zNM l yX6_addFiller (zw yX6_addFiller cX6_addFiller 2 (some .int)) ({ frames := 4, cells := 0, slots := 0, locals := 102 } : Room) g [.ref (a 0), .int p0] (zX6 g a v) r.1 (zX6 g a r.2) := by
  intro sz
  refine Met.ofW (cc := cX6_addFiller) (maxL := 2) (ret := (some .int)) (by decide) rfl ?_
  intro p e s m args below meth c s₁ B hml hv
  obtain ⟨rfl, hsz, hP, hK, hD0⟩ := hv
  have hx := B.exec
  have hb := B.bytes
  have hr0 := B.returns
  have hts := atoms_spec (ws := (zw yX6_addFiller cX6_addFiller 2 (some .int))) B.pre
  have hw0 : ∀ w ∈ zW, w.before ([.ref (a 0), .int p0] : List Value).toArray s = true := fun w h => hts w (List.mem_cons_of_mem _ h)
  have hown : s.vm.findClass RX6 = some m.cls := findClass_of_methodNamed B.named
  have hlocks := B.notSynchronized
  subst hsz
  have hD := hD0.self (sz := s.heap.size)
  generalize hAe : va_A (zX6 g a v) s.heap.size = A at hD ⊢
  have hA : ∀ q : Nat, s.heap.size ≤ q → A q := fun q h => by rw [← hAe]; exact Or.inr h
  have hS : va_S A s.heap s.heap [] := va_S.rf
  unfold fn_X6_addFiller at hf
  have hl := lv_entry ([.ref (a 0), .int p0]) (n := 2) (Nat.le_of_ble_eq_true rfl)
  rw [lg_entry_eq]
  generalize (lg_sl ([.ref (a 0), .int p0]) ++ List.replicate (2 - (lg_sl ([.ref (a 0), .int p0])).length) Slot.unset).toArray = ls at hl ⊢
  have hl : lv_has ls 2 [(0, .ref (a 0)), (1, .int p0)] := hl
  refine lv_iload_n hx hb dX6_addFiller_0 rfl (lv_at hl 1 rfl) ?_
  refine lv_iconst (v := 1) hx hb dX6_addFiller_1 (by decide) ?_
  refine lv_icmp_lt (tgt := 12) hx hb dX6_addFiller_2 (by decide) (fun c1 => ?_) (fun c1 => ?_)
  · have hf := oi hf c1
    exact absurd hf (by simp)
  · have hf := oe hf c1
    refine lv_iload_n hx hb dX6_addFiller_5 rfl (lv_at hl 1 rfl) ?_
    refine lv_sipush (v := 900) hx hb dX6_addFiller_6 (by decide) ?_
    refine lv_icmp_le (tgt := 22) hx hb dX6_addFiller_9 (by decide) (fun c2 => ?_) (fun c2 => ?_)
    · have hf := oi hf c2
      refine lv_aload_n hx hb dX6_addFiller_22 rfl (lv_at hl 0 rfl) ?_
      refine va_get (D := g.1) (ci := 6) (v := .ref (a 1)) (C := RX6) (T := TX6) (N := 5) hx hb hw0 ziX6 hown hK.1 hP 0 rfl rfl 0 (by decide) (hw0 _ zm1_202) (fun _ h9 => h9) rfl dX6_addFiller_23 ?_
      refine va_getN (D := g.1) (ci := 2) (v := .int (zb v.1.2.2.2.2.1)) (C := RX2) (T := TX2) (N := 11) hx hb hw0 ziX2 hown hK.1 hP 1 rfl rfl 4 (by decide) (va_Nw.use rfl (zf_22 hK)) (fun _ h9 => h9) rfl dX6_addFiller_26 ?_
      refine lv_if_ne (tgt := 47) hx hb dX6_addFiller_29 (by decide) (fun c3 => ?_) (fun c3 => ?_)
      · have hf := oe hf c3
        exact absurd hf (by simp)
      · have hf := oi hf c3
        refine lv_aload_n hx hb dX6_addFiller_32 rfl (lv_at hl 0 rfl) ?_
        refine va_get (D := g.1) (ci := 6) (v := .ref (a 1)) (C := RX6) (T := TX6) (N := 5) hx hb hw0 ziX6 hown hK.1 hP 0 rfl rfl 0 (by decide) (hw0 _ zm1_202) (fun _ h9 => h9) rfl dX6_addFiller_33 ?_
        refine va_getN (D := g.1) (ci := 2) (v := .ref (a 8)) (C := RX2) (T := TX2) (N := 11) hx hb hw0 ziX2 hown hK.1 hP 1 rfl rfl 1 (by decide) (va_Nw.use rfl (zf_19 hK)) (fun _ h9 => h9) rfl dX6_addFiller_36 ?_
        refine va_getN (D := g.1) (ci := 1) (v := .int v.1.2.1.1) (C := RX1) (T := TX1) (N := 5) hx hb hw0 ziX1 hown hK.1 hP 8 rfl rfl 0 (by decide) (va_Nw.use rfl (zf_10 hK)) (fun _ h9 => h9) rfl dX6_addFiller_39 ?_
        refine lv_bipush (v := 10) hx hb dX6_addFiller_42 (by decide) ?_
        refine lv_icmp_lt (tgt := 57) hx hb dX6_addFiller_44 (by decide) (fun c4 => ?_) (fun c4 => ?_)
        · have hf := oi hf c4
          refine lv_aload_n hx hb dX6_addFiller_57 rfl (lv_at hl 0 rfl) ?_
          obtain ⟨u5, hu5, hf⟩ := ob hf
          refine zk_vA (va_runV (As := []) (rest := []) ⟨hx, hb, hml, hown, hts⟩ (c_X6_save l g a v _ hu5 _) (zcV hw0 zm2_85 zm2_88 zm1_1 zm2_87 zs1_1 hd_X6_save rfl rfl ⟨Nat.le_of_ble_eq_true rfl, Nat.le_of_ble_eq_true rfl⟩) ⟨zblind, zrecvA hK hP (ci := 6) rfl rfl, zpreA hK hP hD⟩ rfl rfl hl.1 rfl (lv_room (Nat.le_of_ble_eq_true rfl)) dX6_addFiller_58 ⟨Nat.zero_le _, Nat.zero_le _⟩) hP hD hS hA (fun H locs hP hD hS => ?_)
          have hP : va_P g.1 vwCl (zX6 g a u5) H := hP
          have hD : va_D A (zX6 g a u5) := hD
          refine lv_aload_n hx hb dX6_addFiller_61 rfl (lv_at hl 0 rfl) ?_
          refine va_get (D := g.1) (ci := 6) (v := .ref (a 1)) (C := RX6) (T := TX6) (N := 5) hx hb hw0 ziX6 hown hK.1 hP 0 rfl rfl 0 (by decide) (hw0 _ zm1_202) (fun _ h9 => h9) rfl dX6_addFiller_62 ?_
          refine va_getN (D := g.1) (ci := 2) (v := .ref (a 8)) (C := RX2) (T := TX2) (N := 11) hx hb hw0 ziX2 hown hK.1 hP 1 rfl rfl 1 (by decide) (va_Nw.use rfl (zf_19 hK)) (fun _ h9 => h9) rfl dX6_addFiller_65 ?_
          refine lv_iload_n hx hb dX6_addFiller_68 rfl (lv_at hl 1 rfl) ?_
          obtain ⟨u6, hu6, hf⟩ := ob hf
          refine zk_v (va_runVN (As := [.int p0]) (rest := []) ⟨hx, hb, hml, hown, hts⟩ (c_X1_add l g (fun k => a (k + 8)) u5.1.2.1 p0 _ hu6 _) (zcN hw0 (zn_11 hK) zm2_131 zm1_4 zm2_130 zs1_8 hd_X1_add rfl rfl ⟨Nat.le_of_ble_eq_true rfl, Nat.le_of_ble_eq_true rfl⟩) ⟨zblind, zrecv (wc := zX1 g (fun k => a (k + 8)) u5.1.2.1) hK hP [8, 9, 10, 11, 12, 13, 14] rfl (ci := 1) rfl rfl, zpre hK hP hD [8, 9, 10, 11, 12, 13, 14] rfl rfl⟩ rfl rfl hl.1 rfl (lv_room (Nat.le_of_ble_eq_true rfl)) dX6_addFiller_69 ⟨Nat.zero_le _, Nat.zero_le _⟩) hP hD hS hA [8, 9, 10, 11, 12, 13, 14] rfl rfl (fun H locs hP hD hS => ?_)
          have hP : va_P g.1 vwCl (zX6 g a ((u5.1.1, u6, u5.1.2.2.1, u5.1.2.2.2.1, u5.1.2.2.2.2.1, u5.1.2.2.2.2.2.1, u5.1.2.2.2.2.2.2.1, u5.1.2.2.2.2.2.2.2.1, u5.1.2.2.2.2.2.2.2.2.1, u5.1.2.2.2.2.2.2.2.2.2.1, u5.1.2.2.2.2.2.2.2.2.2.2), u5.2.1, u5.2.2.1, u5.2.2.2.1, u5.2.2.2.2)) H := hP
          have hD : va_D A (zX6 g a ((u5.1.1, u6, u5.1.2.2.1, u5.1.2.2.2.1, u5.1.2.2.2.2.1, u5.1.2.2.2.2.2.1, u5.1.2.2.2.2.2.2.1, u5.1.2.2.2.2.2.2.2.1, u5.1.2.2.2.2.2.2.2.2.1, u5.1.2.2.2.2.2.2.2.2.2.1, u5.1.2.2.2.2.2.2.2.2.2.2), u5.2.1, u5.2.2.1, u5.2.2.2.1, u5.2.2.2.2)) := hD
          refine lv_aload_n hx hb dX6_addFiller_72 rfl (lv_at hl 0 rfl) ?_
          refine va_get (D := g.1) (ci := 6) (v := .ref (a 1)) (C := RX6) (T := TX6) (N := 5) hx hb hw0 ziX6 hown hK.1 hP 0 rfl rfl 0 (by decide) (hw0 _ zm1_202) (fun _ h9 => h9) rfl dX6_addFiller_73 ?_
          refine va_getN (D := g.1) (ci := 2) (v := .ref (a 8)) (C := RX2) (T := TX2) (N := 11) hx hb hw0 ziX2 hown hK.1 hP 1 rfl rfl 1 (by decide) (va_Nw.use rfl (zf_19 hK)) (fun _ h9 => h9) rfl dX6_addFiller_76 ?_
          refine va_getN (D := g.1) (ci := 1) (v := .int u6.1) (C := RX1) (T := TX1) (N := 5) hx hb hw0 ziX1 hown hK.1 hP 8 rfl rfl 0 (by decide) (va_Nw.use rfl (zf_10 hK)) (fun _ h9 => h9) rfl dX6_addFiller_79 ?_
          refine lv_iconst (v := 1) hx hb dX6_addFiller_82 (by decide) ?_
          refine lv_isub hx hb dX6_addFiller_83 ?_
          have hR : ((u6.1 - 1), ((u5.1.1, u6, u5.1.2.2.1, u5.1.2.2.2.1, u5.1.2.2.2.2.1, u5.1.2.2.2.2.2.1, u5.1.2.2.2.2.2.2.1, u5.1.2.2.2.2.2.2.2.1, u5.1.2.2.2.2.2.2.2.2.1, u5.1.2.2.2.2.2.2.2.2.2.1, u5.1.2.2.2.2.2.2.2.2.2.2), u5.2.1, u5.2.2.1, u5.2.2.2.1, u5.2.2.2.2)) = r := Option.some.inj hf
          subst hR
          exact W.iret (v := (u6.1 - 1)) hx hb hr0 (fun t ht hW => ⟨⟨(u6.1 - 1), (), rfl, rfl, by rw [ht]; exact hP, hD⟩, hS.F ht⟩) hS.2.2 dX6_addFiller_84
        · have hf := oe hf c4
          exact absurd hf (by simp)
    · have hf := oe hf c2
      exact absurd hf (by simp)
theorem hd_X6_stretch : yX6_stretch.cls ≠ "java/lang/invoke/MethodHandle" ∧ yX6_stretch.cls ≠ "java/lang/invoke/VarHandle" ∧ (parseMethodDescriptor yX6_stretch.desc).map (fun d => d.parameters.length) = some 2 := by decide +kernel
def f_X6_stretch (v : CV) (p0 : Int32) (p1 : Int32) : Option (Nat ⊕ (Int32 × CV)) :=
  (f_X0_has v.1.1 p0).bind (fun u1 =>
  if (zb u1) = 0 then
    some (.inl 3)
  else
    if p1 < (-1800) then
      some (.inl 1)
    else
      if p1 ≤ 1800 then
        if zin p0 12 = true then
        (f_X2_canHaveLength v.1 p0 ((v.1.1.2.1 p0.toNatClampNeg) + p1)).bind (fun u6 =>
        if (zb u6) = 0 then
          some (.inl 2)
        else
          (f_X6_save v).bind (fun u8 =>
          (f_X2_giveLength u8.1 p0 ((v.1.1.2.1 p0.toNatClampNeg) + p1)).bind (fun u9 =>
          some (.inr (((v.1.1.2.1 p0.toNatClampNeg) + p1), (u9, u8.2.1, u8.2.2.1, u8.2.2.2.1, u8.2.2.2.2))))))
        else none
      else
        some (.inl 1))
set_option maxHeartbeats 4000000 in
set_option maxRecDepth 100000 in
theorem c_X6_stretch (l : Launch) (hst9 : l.stackTraces = false) (g : zG) (a : Nat → Nat) (v : CV) (p0 : Int32) (p1 : Int32) (r : Nat ⊕ (Int32 × CV)) (hf : f_X6_stretch v p0 p1 = some r) : zMx zNF zNM l yX6_stretch (zw yX6_stretch cX6_stretch 4 (some .int)) ({ frames := 6, cells := 1, slots := 6, locals := 102 } : Room) g [.ref (a 0), .int p0, .int p1] (zX6 g a v) r (fun q => q.1) (fun q => (zX6 g a q.2)) := by
  intro sz
  refine vx_ofW (cc := cX6_stretch) (maxL := 4) (ret := (some .int)) (by decide) rfl ?_
  intro p e s m args below meth c s₁ B hml htab hv
  obtain ⟨rfl, ⟨hsz, hP, hK, hD0⟩, hKx, hZs⟩ := hv
  have hx := B.exec
  have hb := B.bytes
  have hr0 := B.returns
  have hts := atoms_spec (ws := (zw yX6_stretch cX6_stretch 4 (some .int))) B.pre
  have hw0 : ∀ w ∈ zW, w.before ([.ref (a 0), .int p0, .int p1] : List Value).toArray s = true := fun w h => hts w (List.mem_cons_of_mem _ h)
  have hown : s.vm.findClass RX6 = some m.cls := findClass_of_methodNamed B.named
  have hlocks := B.notSynchronized
  subst hsz
  have hD := hD0.self (sz := s.heap.size)
  generalize hAe : va_A (zX6 g a v) s.heap.size = A at hD hZs ⊢
  have hA : ∀ q : Nat, s.heap.size ≤ q → A q := fun q h => by rw [← hAe]; exact Or.inr h
  have hS : va_S A s.heap s.heap [] := va_S.rf
  unfold f_X6_stretch at hf
  have hl := lv_entry ([.ref (a 0), .int p0, .int p1]) (n := 4) (Nat.le_of_ble_eq_true rfl)
  rw [lg_entry_eq]
  generalize (lg_sl ([.ref (a 0), .int p0, .int p1]) ++ List.replicate (4 - (lg_sl ([.ref (a 0), .int p0, .int p1])).length) Slot.unset).toArray = ls at hl ⊢
  have hl : lv_has ls 4 [(0, .ref (a 0)), (1, .int p0), (2, .int p1)] := hl
  refine lv_aload_n hx hb dX6_stretch_0 rfl (lv_at hl 0 rfl) ?_
  refine va_get (D := g.1) (ci := 6) (v := .ref (a 1)) (C := RX6) (T := TX6) (N := 5) hx hb hw0 ziX6 hown hK.1 hP 0 rfl rfl 0 (by decide) (hw0 _ zm1_202) (fun _ h9 => h9) rfl dX6_stretch_1 ?_
  refine va_getN (D := g.1) (ci := 2) (v := .ref (a 2)) (C := RX2) (T := TX2) (N := 11) hx hb hw0 ziX2 hown hK.1 hP 1 rfl rfl 0 (by decide) (va_Nw.use rfl (zf_18 hK)) (fun _ h9 => h9) rfl dX6_stretch_4 ?_
  refine lv_iload_n hx hb dX6_stretch_7 rfl (lv_at hl 1 rfl) ?_
  obtain ⟨u1, hu1, hf⟩ := ob hf
  refine zk_iR (va_runVN (As := [.int p0]) (rest := []) ⟨hx, hb, hml, hown, hts⟩ (c_X0_has l g (fun k => a (k + 2)) v.1.1 p0 _ hu1 _) (zcN hw0 (zn_12 hK) zm2_143 zm1_3 zm2_142 zs1_9 hd_X0_has rfl rfl ⟨Nat.le_of_ble_eq_true rfl, Nat.le_of_ble_eq_true rfl⟩) ⟨zblind, zrecv (wc := zX0 g (fun k => a (k + 2)) v.1.1) hK hP [2, 3, 4, 5, 6, 7] rfl (ci := 0) rfl rfl, zpre hK hP hD [2, 3, 4, 5, 6, 7] rfl rfl⟩ rfl rfl hl.1 rfl (lv_room (Nat.le_of_ble_eq_true rfl)) dX6_stretch_8 ⟨Nat.zero_le _, Nat.zero_le _⟩) hP hD hS hA [2, 3, 4, 5, 6, 7] rfl (fun H locs hP hD hS => ?_)
  refine lv_if_ne (tgt := 24) hx hb dX6_stretch_11 (by decide) (fun c2 => ?_) (fun c2 => ?_)
  · have hf := oe hf c2
    refine lv_iload_n hx hb dX6_stretch_24 rfl (lv_at hl 2 rfl) ?_
    refine lv_sipush (v := (-1800)) hx hb dX6_stretch_25 (by decide) ?_
    refine lv_icmp_lt (tgt := 38) hx hb dX6_stretch_28 (by decide) (fun c3 => ?_) (fun c3 => ?_)
    · have hf := oi hf c3
      have hR : (Sum.inl 1 : Nat ⊕ (Int32 × CV)) = r := Option.some.inj hf
      exact zthrow (ik := 34) (is := 91) (ic := 38) (text := "by") (k := 1) hx hb hst9 hown (hw0 _ zm1_239) (hw0 _ zm1_11) (hKx.2 ("HourClock", 91, "by") (by decide +kernel)) hKx.1 hw0 zx_w1 zx_b1 zx_o1 hZs (by decide +kernel) (by decide +kernel) hP hD hS (hl.1.trans hml.symm) htab dX6_stretch_38 dX6_stretch_41 dX6_stretch_42 dX6_stretch_44 dX6_stretch_47 (by decide) (by decide) (Nat.le_of_ble_eq_true rfl) (Nat.le_of_ble_eq_true rfl) hlocks hR.symm rfl
    · have hf := oe hf c3
      refine lv_iload_n hx hb dX6_stretch_31 rfl (lv_at hl 2 rfl) ?_
      refine lv_sipush (v := 1800) hx hb dX6_stretch_32 (by decide) ?_
      refine lv_icmp_le (tgt := 48) hx hb dX6_stretch_35 (by decide) (fun c4 => ?_) (fun c4 => ?_)
      · have hf := oi hf c4
        refine lv_aload_n hx hb dX6_stretch_48 rfl (lv_at hl 0 rfl) ?_
        refine va_get (D := g.1) (ci := 6) (v := .ref (a 1)) (C := RX6) (T := TX6) (N := 5) hx hb hw0 ziX6 hown hK.1 hP 0 rfl rfl 0 (by decide) (hw0 _ zm1_202) (fun _ h9 => h9) rfl dX6_stretch_49 ?_
        refine va_getN (D := g.1) (ci := 2) (v := .ref (a 2)) (C := RX2) (T := TX2) (N := 11) hx hb hw0 ziX2 hown hK.1 hP 1 rfl rfl 0 (by decide) (va_Nw.use rfl (zf_18 hK)) (fun _ h9 => h9) rfl dX6_stretch_52 ?_
        refine va_getN (D := g.1) (ci := 0) (v := .ref (a 3)) (C := RX0) (T := TX0) (N := 6) hx hb hw0 ziX0 hown hK.1 hP 2 rfl rfl 1 (by decide) (va_Nw.use rfl (zf_2 hK)) (fun _ h9 => h9) rfl dX6_stretch_55 ?_
        refine lv_iload_n hx hb dX6_stretch_58 rfl (lv_at hl 1 rfl) ?_
        obtain ⟨h5, hf⟩ := og hf
        refine zald (D := g.1) (f := v.1.1.2.1) (k := p0.toNatClampNeg) hx hb hK.1 hP 3 0 rfl rfl (zin_vp h5) rfl dX6_stretch_59 ?_
        refine lv_iload_n hx hb dX6_stretch_60 rfl (lv_at hl 2 rfl) ?_
        refine lv_iadd hx hb dX6_stretch_61 ?_
        refine lv_istore_n (lv' := [(3, .int ((v.1.1.2.1 p0.toNatClampNeg) + p1)), (0, .ref (a 0)), (1, .int p0), (2, .int p1)]) hx hb dX6_stretch_62 rfl hl (by decide) rfl (fun ls hl => ?_)
        refine lv_aload_n hx hb dX6_stretch_63 rfl (lv_at hl 1 rfl) ?_
        refine va_get (D := g.1) (ci := 6) (v := .ref (a 1)) (C := RX6) (T := TX6) (N := 5) hx hb hw0 ziX6 hown hK.1 hP 0 rfl rfl 0 (by decide) (hw0 _ zm1_202) (fun _ h9 => h9) rfl dX6_stretch_64 ?_
        refine lv_iload_n hx hb dX6_stretch_67 rfl (lv_at hl 2 rfl) ?_
        refine lv_iload_n hx hb dX6_stretch_68 rfl (lv_at hl 0 rfl) ?_
        obtain ⟨u6, hu6, hf⟩ := ob hf
        refine zk_iR (va_runVN (As := [.int p0, .int ((v.1.1.2.1 p0.toNatClampNeg) + p1)]) (rest := []) ⟨hx, hb, hml, hown, hts⟩ (c_X2_canHaveLength l g (fun k => a (k + 1)) v.1 p0 ((v.1.1.2.1 p0.toNatClampNeg) + p1) _ hu6 _) (zcN hw0 (zn_13 hK) zm2_164 zm1_2 zm2_163 zs1_10 hd_X2_canHaveLength rfl rfl ⟨Nat.le_of_ble_eq_true rfl, Nat.le_of_ble_eq_true rfl⟩) ⟨zblind, zrecv (wc := zX2 g (fun k => a (k + 1)) v.1) hK hP [1, 2, 3, 4, 5, 6, 7, 8, 9, 10, 11, 12, 13, 14, 15, 16, 17, 18] rfl (ci := 2) rfl rfl, zpre hK hP hD [1, 2, 3, 4, 5, 6, 7, 8, 9, 10, 11, 12, 13, 14, 15, 16, 17, 18] rfl rfl⟩ rfl rfl hl.1 rfl (lv_room (Nat.le_of_ble_eq_true rfl)) dX6_stretch_69 ⟨Nat.zero_le _, Nat.zero_le _⟩) hP hD hS hA [1, 2, 3, 4, 5, 6, 7, 8, 9, 10, 11, 12, 13, 14, 15, 16, 17, 18] rfl (fun H locs hP hD hS => ?_)
        refine lv_if_ne (tgt := 85) hx hb dX6_stretch_72 (by decide) (fun c7 => ?_) (fun c7 => ?_)
        · have hf := oe hf c7
          refine lv_aload_n hx hb dX6_stretch_85 rfl (lv_at hl 1 rfl) ?_
          obtain ⟨u8, hu8, hf⟩ := ob hf
          refine zk_vA (va_runV (As := []) (rest := []) ⟨hx, hb, hml, hown, hts⟩ (c_X6_save l g a v _ hu8 _) (zcV hw0 zm2_85 zm2_88 zm1_1 zm2_87 zs1_1 hd_X6_save rfl rfl ⟨Nat.le_of_ble_eq_true rfl, Nat.le_of_ble_eq_true rfl⟩) ⟨zblind, zrecvA hK hP (ci := 6) rfl rfl, zpreA hK hP hD⟩ rfl rfl hl.1 rfl (lv_room (Nat.le_of_ble_eq_true rfl)) dX6_stretch_86 ⟨Nat.zero_le _, Nat.zero_le _⟩) hP hD hS hA (fun H locs hP hD hS => ?_)
          have hP : va_P g.1 vwCl (zX6 g a u8) H := hP
          have hD : va_D A (zX6 g a u8) := hD
          refine lv_aload_n hx hb dX6_stretch_89 rfl (lv_at hl 1 rfl) ?_
          refine va_get (D := g.1) (ci := 6) (v := .ref (a 1)) (C := RX6) (T := TX6) (N := 5) hx hb hw0 ziX6 hown hK.1 hP 0 rfl rfl 0 (by decide) (hw0 _ zm1_202) (fun _ h9 => h9) rfl dX6_stretch_90 ?_
          refine lv_iload_n hx hb dX6_stretch_93 rfl (lv_at hl 2 rfl) ?_
          refine lv_iload_n hx hb dX6_stretch_94 rfl (lv_at hl 0 rfl) ?_
          obtain ⟨u9, hu9, hf⟩ := ob hf
          refine zk_vZ (va_runVN (As := [.int p0, .int ((v.1.1.2.1 p0.toNatClampNeg) + p1)]) (rest := []) ⟨hx, hb, hml, hown, hts⟩ (c_X2_giveLength l g (fun k => a (k + 1)) u8.1 p0 ((v.1.1.2.1 p0.toNatClampNeg) + p1) _ hu9 _) (zcN hw0 (zn_17 hK) zm2_183 zm1_2 zm2_182 zs1_14 hd_X2_giveLength rfl rfl ⟨Nat.le_of_ble_eq_true rfl, Nat.le_of_ble_eq_true rfl⟩) ⟨zblind, zrecv (wc := zX2 g (fun k => a (k + 1)) u8.1) hK hP [1, 2, 3, 4, 5, 6, 7, 8, 9, 10, 11, 12, 13, 14, 15, 16, 17, 18] rfl (ci := 2) rfl rfl, zpre hK hP hD [1, 2, 3, 4, 5, 6, 7, 8, 9, 10, 11, 12, 13, 14, 15, 16, 17, 18] rfl rfl⟩ rfl rfl hl.1 rfl (lv_room (Nat.le_of_ble_eq_true rfl)) dX6_stretch_95 ⟨Nat.zero_le _, Nat.zero_le _⟩) hP hD hS hA [1, 2, 3, 4, 5, 6, 7, 8, 9, 10, 11, 12, 13, 14, 15, 16, 17, 18] rfl rfl (zrun (wc := zX2 g (fun k => a (k + 1)) u8.1) (ws' := zX6 g a (u9, u8.2.1, u8.2.2.1, u8.2.2.2.1, u8.2.2.2.2)) 1 18 rfl rfl rfl rfl rfl) (fun H locs hP hD hS => ?_)
          have hP : va_P g.1 vwCl (zX6 g a (u9, u8.2.1, u8.2.2.1, u8.2.2.2.1, u8.2.2.2.2)) H := hP
          have hD : va_D A (zX6 g a (u9, u8.2.1, u8.2.2.1, u8.2.2.2.1, u8.2.2.2.2)) := hD
          refine lv_iload_n hx hb dX6_stretch_98 rfl (lv_at hl 0 rfl) ?_
          have hR : (Sum.inr (((v.1.1.2.1 p0.toNatClampNeg) + p1), (u9, u8.2.1, u8.2.2.1, u8.2.2.2.1, u8.2.2.2.2)) : Nat ⊕ (Int32 × CV)) = r := Option.some.inj hf
          subst hR
          refine W.widen (k := 1) (n := 6) (Nat.zero_le _) (Nat.zero_le _) ?_
          exact vx_ret (W.iret (v := ((v.1.1.2.1 p0.toNatClampNeg) + p1)) hx hb hr0 (fun t ht hW => ⟨⟨((v.1.1.2.1 p0.toNatClampNeg) + p1), (), rfl, ⟨_, rfl, rfl⟩, _, rfl, by rw [ht]; exact hP, hD⟩, hS.F ht⟩) hS.2.2 dX6_stretch_99)
        · have hf := oi hf c7
          have hR : (Sum.inl 2 : Nat ⊕ (Int32 × CV)) = r := Option.some.inj hf
          exact zthrow (ik := 58) (is := 100) (ic := 62) (text := "the element cannot have this length") (k := 2) hx hb hst9 hown (hw0 _ zm2_69) (hw0 _ zm1_13) (hKx.2 ("HourClock", 100, "the element cannot have this length") (by decide +kernel)) hKx.1 hw0 zx_w2 zx_b2 zx_o2 hZs (by decide +kernel) (by decide +kernel) hP hD hS (hl.1.trans hml.symm) htab dX6_stretch_75 dX6_stretch_78 dX6_stretch_79 dX6_stretch_81 dX6_stretch_84 (by decide) (by decide) (Nat.le_of_ble_eq_true rfl) (Nat.le_of_ble_eq_true rfl) hlocks hR.symm rfl
      · have hf := oe hf c4
        have hR : (Sum.inl 1 : Nat ⊕ (Int32 × CV)) = r := Option.some.inj hf
        exact zthrow (ik := 34) (is := 91) (ic := 38) (text := "by") (k := 1) hx hb hst9 hown (hw0 _ zm1_239) (hw0 _ zm1_11) (hKx.2 ("HourClock", 91, "by") (by decide +kernel)) hKx.1 hw0 zx_w1 zx_b1 zx_o1 hZs (by decide +kernel) (by decide +kernel) hP hD hS (hl.1.trans hml.symm) htab dX6_stretch_38 dX6_stretch_41 dX6_stretch_42 dX6_stretch_44 dX6_stretch_47 (by decide) (by decide) (Nat.le_of_ble_eq_true rfl) (Nat.le_of_ble_eq_true rfl) hlocks hR.symm rfl
  · have hf := oi hf c2
    have hR : (Sum.inl 3 : Nat ⊕ (Int32 × CV)) = r := Option.some.inj hf
    exact zthrow (ik := 86) (is := 88) (ic := 90) (text := "element") (k := 3) hx hb hst9 hown (hw0 _ zm2_144) (hw0 _ zm1_12) (hKx.2 ("HourClock", 88, "element") (by decide +kernel)) hKx.1 hw0 zx_w3 zx_b3 zx_o3 hZs (by decide +kernel) (by decide +kernel) hP hD hS (hl.1.trans hml.symm) htab dX6_stretch_14 dX6_stretch_17 dX6_stretch_18 dX6_stretch_20 dX6_stretch_23 (by decide) (by decide) (Nat.le_of_ble_eq_true rfl) (Nat.le_of_ble_eq_true rfl) hlocks hR.symm rfl
def fn_X6_stretch (v : CV) (p0 : Int32) (p1 : Int32) : Option (Int32 × CV) :=
  (f_X0_has v.1.1 p0).bind (fun u1 =>
  if (zb u1) = 0 then
    none
  else
    if p1 < (-1800) then
      none
    else
      if p1 ≤ 1800 then
        if zin p0 12 = true then
        (f_X2_canHaveLength v.1 p0 ((v.1.1.2.1 p0.toNatClampNeg) + p1)).bind (fun u6 =>
        if (zb u6) = 0 then
          none
        else
          (f_X6_save v).bind (fun u8 =>
          (f_X2_giveLength u8.1 p0 ((v.1.1.2.1 p0.toNatClampNeg) + p1)).bind (fun u9 =>
          some (((v.1.1.2.1 p0.toNatClampNeg) + p1), (u9, u8.2.1, u8.2.2.1, u8.2.2.2.1, u8.2.2.2.2)))))
        else none
      else
        none)
set_option maxHeartbeats 4000000 in
set_option maxRecDepth 100000 in
theorem cn_X6_stretch (l : Launch) (g : zG) (a : Nat → Nat) (v : CV) (p0 : Int32) (p1 : Int32) (r : Int32 × CV) (hf : fn_X6_stretch v p0 p1 = some r) : zMi zNF zNM l yX6_stretch (zw yX6_stretch cX6_stretch 4 (some .int)) ({ frames := 4, cells := 0, slots := 0, locals := 102 } : Room) g [.ref (a 0), .int p0, .int p1] (zX6 g a v) r.1 (zX6 g a r.2) := by
  intro sz
  refine Met.ofW (cc := cX6_stretch) (maxL := 4) (ret := (some .int)) (by decide) rfl ?_
  intro p e s m args below meth c s₁ B hml hv
  obtain ⟨rfl, hsz, hP, hK, hD0⟩ := hv
  have hx := B.exec
  have hb := B.bytes
  have hr0 := B.returns
  have hts := atoms_spec (ws := (zw yX6_stretch cX6_stretch 4 (some .int))) B.pre
  have hw0 : ∀ w ∈ zW, w.before ([.ref (a 0), .int p0, .int p1] : List Value).toArray s = true := fun w h => hts w (List.mem_cons_of_mem _ h)
  have hown : s.vm.findClass RX6 = some m.cls := findClass_of_methodNamed B.named
  have hlocks := B.notSynchronized
  subst hsz
  have hD := hD0.self (sz := s.heap.size)
  generalize hAe : va_A (zX6 g a v) s.heap.size = A at hD ⊢
  have hA : ∀ q : Nat, s.heap.size ≤ q → A q := fun q h => by rw [← hAe]; exact Or.inr h
  have hS : va_S A s.heap s.heap [] := va_S.rf
  unfold fn_X6_stretch at hf
  have hl := lv_entry ([.ref (a 0), .int p0, .int p1]) (n := 4) (Nat.le_of_ble_eq_true rfl)
  rw [lg_entry_eq]
  generalize (lg_sl ([.ref (a 0), .int p0, .int p1]) ++ List.replicate (4 - (lg_sl ([.ref (a 0), .int p0, .int p1])).length) Slot.unset).toArray = ls at hl ⊢
  have hl : lv_has ls 4 [(0, .ref (a 0)), (1, .int p0), (2, .int p1)] := hl
  refine lv_aload_n hx hb dX6_stretch_0 rfl (lv_at hl 0 rfl) ?_
  refine va_get (D := g.1) (ci := 6) (v := .ref (a 1)) (C := RX6) (T := TX6) (N := 5) hx hb hw0 ziX6 hown hK.1 hP 0 rfl rfl 0 (by decide) (hw0 _ zm1_202) (fun _ h9 => h9) rfl dX6_stretch_1 ?_
  refine va_getN (D := g.1) (ci := 2) (v := .ref (a 2)) (C := RX2) (T := TX2) (N := 11) hx hb hw0 ziX2 hown hK.1 hP 1 rfl rfl 0 (by decide) (va_Nw.use rfl (zf_18 hK)) (fun _ h9 => h9) rfl dX6_stretch_4 ?_
  refine lv_iload_n hx hb dX6_stretch_7 rfl (lv_at hl 1 rfl) ?_
  obtain ⟨u1, hu1, hf⟩ := ob hf
  refine zk_iR (va_runVN (As := [.int p0]) (rest := []) ⟨hx, hb, hml, hown, hts⟩ (c_X0_has l g (fun k => a (k + 2)) v.1.1 p0 _ hu1 _) (zcN hw0 (zn_12 hK) zm2_143 zm1_3 zm2_142 zs1_9 hd_X0_has rfl rfl ⟨Nat.le_of_ble_eq_true rfl, Nat.le_of_ble_eq_true rfl⟩) ⟨zblind, zrecv (wc := zX0 g (fun k => a (k + 2)) v.1.1) hK hP [2, 3, 4, 5, 6, 7] rfl (ci := 0) rfl rfl, zpre hK hP hD [2, 3, 4, 5, 6, 7] rfl rfl⟩ rfl rfl hl.1 rfl (lv_room (Nat.le_of_ble_eq_true rfl)) dX6_stretch_8 ⟨Nat.zero_le _, Nat.zero_le _⟩) hP hD hS hA [2, 3, 4, 5, 6, 7] rfl (fun H locs hP hD hS => ?_)
  refine lv_if_ne (tgt := 24) hx hb dX6_stretch_11 (by decide) (fun c2 => ?_) (fun c2 => ?_)
  · have hf := oe hf c2
    refine lv_iload_n hx hb dX6_stretch_24 rfl (lv_at hl 2 rfl) ?_
    refine lv_sipush (v := (-1800)) hx hb dX6_stretch_25 (by decide) ?_
    refine lv_icmp_lt (tgt := 38) hx hb dX6_stretch_28 (by decide) (fun c3 => ?_) (fun c3 => ?_)
    · have hf := oi hf c3
      exact absurd hf (by simp)
    · have hf := oe hf c3
      refine lv_iload_n hx hb dX6_stretch_31 rfl (lv_at hl 2 rfl) ?_
      refine lv_sipush (v := 1800) hx hb dX6_stretch_32 (by decide) ?_
      refine lv_icmp_le (tgt := 48) hx hb dX6_stretch_35 (by decide) (fun c4 => ?_) (fun c4 => ?_)
      · have hf := oi hf c4
        refine lv_aload_n hx hb dX6_stretch_48 rfl (lv_at hl 0 rfl) ?_
        refine va_get (D := g.1) (ci := 6) (v := .ref (a 1)) (C := RX6) (T := TX6) (N := 5) hx hb hw0 ziX6 hown hK.1 hP 0 rfl rfl 0 (by decide) (hw0 _ zm1_202) (fun _ h9 => h9) rfl dX6_stretch_49 ?_
        refine va_getN (D := g.1) (ci := 2) (v := .ref (a 2)) (C := RX2) (T := TX2) (N := 11) hx hb hw0 ziX2 hown hK.1 hP 1 rfl rfl 0 (by decide) (va_Nw.use rfl (zf_18 hK)) (fun _ h9 => h9) rfl dX6_stretch_52 ?_
        refine va_getN (D := g.1) (ci := 0) (v := .ref (a 3)) (C := RX0) (T := TX0) (N := 6) hx hb hw0 ziX0 hown hK.1 hP 2 rfl rfl 1 (by decide) (va_Nw.use rfl (zf_2 hK)) (fun _ h9 => h9) rfl dX6_stretch_55 ?_
        refine lv_iload_n hx hb dX6_stretch_58 rfl (lv_at hl 1 rfl) ?_
        obtain ⟨h5, hf⟩ := og hf
        refine zald (D := g.1) (f := v.1.1.2.1) (k := p0.toNatClampNeg) hx hb hK.1 hP 3 0 rfl rfl (zin_vp h5) rfl dX6_stretch_59 ?_
        refine lv_iload_n hx hb dX6_stretch_60 rfl (lv_at hl 2 rfl) ?_
        refine lv_iadd hx hb dX6_stretch_61 ?_
        refine lv_istore_n (lv' := [(3, .int ((v.1.1.2.1 p0.toNatClampNeg) + p1)), (0, .ref (a 0)), (1, .int p0), (2, .int p1)]) hx hb dX6_stretch_62 rfl hl (by decide) rfl (fun ls hl => ?_)
        refine lv_aload_n hx hb dX6_stretch_63 rfl (lv_at hl 1 rfl) ?_
        refine va_get (D := g.1) (ci := 6) (v := .ref (a 1)) (C := RX6) (T := TX6) (N := 5) hx hb hw0 ziX6 hown hK.1 hP 0 rfl rfl 0 (by decide) (hw0 _ zm1_202) (fun _ h9 => h9) rfl dX6_stretch_64 ?_
        refine lv_iload_n hx hb dX6_stretch_67 rfl (lv_at hl 2 rfl) ?_
        refine lv_iload_n hx hb dX6_stretch_68 rfl (lv_at hl 0 rfl) ?_
        obtain ⟨u6, hu6, hf⟩ := ob hf
        refine zk_iR (va_runVN (As := [.int p0, .int ((v.1.1.2.1 p0.toNatClampNeg) + p1)]) (rest := []) ⟨hx, hb, hml, hown, hts⟩ (c_X2_canHaveLength l g (fun k => a (k + 1)) v.1 p0 ((v.1.1.2.1 p0.toNatClampNeg) + p1) _ hu6 _) (zcN hw0 (zn_13 hK) zm2_164 zm1_2 zm2_163 zs1_10 hd_X2_canHaveLength rfl rfl ⟨Nat.le_of_ble_eq_true rfl, Nat.le_of_ble_eq_true rfl⟩) ⟨zblind, zrecv (wc := zX2 g (fun k => a (k + 1)) v.1) hK hP [1, 2, 3, 4, 5, 6, 7, 8, 9, 10, 11, 12, 13, 14, 15, 16, 17, 18] rfl (ci := 2) rfl rfl, zpre hK hP hD [1, 2, 3, 4, 5, 6, 7, 8, 9, 10, 11, 12, 13, 14, 15, 16, 17, 18] rfl rfl⟩ rfl rfl hl.1 rfl (lv_room (Nat.le_of_ble_eq_true rfl)) dX6_stretch_69 ⟨Nat.zero_le _, Nat.zero_le _⟩) hP hD hS hA [1, 2, 3, 4, 5, 6, 7, 8, 9, 10, 11, 12, 13, 14, 15, 16, 17, 18] rfl (fun H locs hP hD hS => ?_)
        refine lv_if_ne (tgt := 85) hx hb dX6_stretch_72 (by decide) (fun c7 => ?_) (fun c7 => ?_)
        · have hf := oe hf c7
          refine lv_aload_n hx hb dX6_stretch_85 rfl (lv_at hl 1 rfl) ?_
          obtain ⟨u8, hu8, hf⟩ := ob hf
          refine zk_vA (va_runV (As := []) (rest := []) ⟨hx, hb, hml, hown, hts⟩ (c_X6_save l g a v _ hu8 _) (zcV hw0 zm2_85 zm2_88 zm1_1 zm2_87 zs1_1 hd_X6_save rfl rfl ⟨Nat.le_of_ble_eq_true rfl, Nat.le_of_ble_eq_true rfl⟩) ⟨zblind, zrecvA hK hP (ci := 6) rfl rfl, zpreA hK hP hD⟩ rfl rfl hl.1 rfl (lv_room (Nat.le_of_ble_eq_true rfl)) dX6_stretch_86 ⟨Nat.zero_le _, Nat.zero_le _⟩) hP hD hS hA (fun H locs hP hD hS => ?_)
          have hP : va_P g.1 vwCl (zX6 g a u8) H := hP
          have hD : va_D A (zX6 g a u8) := hD
          refine lv_aload_n hx hb dX6_stretch_89 rfl (lv_at hl 1 rfl) ?_
          refine va_get (D := g.1) (ci := 6) (v := .ref (a 1)) (C := RX6) (T := TX6) (N := 5) hx hb hw0 ziX6 hown hK.1 hP 0 rfl rfl 0 (by decide) (hw0 _ zm1_202) (fun _ h9 => h9) rfl dX6_stretch_90 ?_
          refine lv_iload_n hx hb dX6_stretch_93 rfl (lv_at hl 2 rfl) ?_
          refine lv_iload_n hx hb dX6_stretch_94 rfl (lv_at hl 0 rfl) ?_
          obtain ⟨u9, hu9, hf⟩ := ob hf
          refine zk_vZ (va_runVN (As := [.int p0, .int ((v.1.1.2.1 p0.toNatClampNeg) + p1)]) (rest := []) ⟨hx, hb, hml, hown, hts⟩ (c_X2_giveLength l g (fun k => a (k + 1)) u8.1 p0 ((v.1.1.2.1 p0.toNatClampNeg) + p1) _ hu9 _) (zcN hw0 (zn_17 hK) zm2_183 zm1_2 zm2_182 zs1_14 hd_X2_giveLength rfl rfl ⟨Nat.le_of_ble_eq_true rfl, Nat.le_of_ble_eq_true rfl⟩) ⟨zblind, zrecv (wc := zX2 g (fun k => a (k + 1)) u8.1) hK hP [1, 2, 3, 4, 5, 6, 7, 8, 9, 10, 11, 12, 13, 14, 15, 16, 17, 18] rfl (ci := 2) rfl rfl, zpre hK hP hD [1, 2, 3, 4, 5, 6, 7, 8, 9, 10, 11, 12, 13, 14, 15, 16, 17, 18] rfl rfl⟩ rfl rfl hl.1 rfl (lv_room (Nat.le_of_ble_eq_true rfl)) dX6_stretch_95 ⟨Nat.zero_le _, Nat.zero_le _⟩) hP hD hS hA [1, 2, 3, 4, 5, 6, 7, 8, 9, 10, 11, 12, 13, 14, 15, 16, 17, 18] rfl rfl (zrun (wc := zX2 g (fun k => a (k + 1)) u8.1) (ws' := zX6 g a (u9, u8.2.1, u8.2.2.1, u8.2.2.2.1, u8.2.2.2.2)) 1 18 rfl rfl rfl rfl rfl) (fun H locs hP hD hS => ?_)
          have hP : va_P g.1 vwCl (zX6 g a (u9, u8.2.1, u8.2.2.1, u8.2.2.2.1, u8.2.2.2.2)) H := hP
          have hD : va_D A (zX6 g a (u9, u8.2.1, u8.2.2.1, u8.2.2.2.1, u8.2.2.2.2)) := hD
          refine lv_iload_n hx hb dX6_stretch_98 rfl (lv_at hl 0 rfl) ?_
          have hR : (((v.1.1.2.1 p0.toNatClampNeg) + p1), (u9, u8.2.1, u8.2.2.1, u8.2.2.2.1, u8.2.2.2.2)) = r := Option.some.inj hf
          subst hR
          exact W.iret (v := ((v.1.1.2.1 p0.toNatClampNeg) + p1)) hx hb hr0 (fun t ht hW => ⟨⟨((v.1.1.2.1 p0.toNatClampNeg) + p1), (), rfl, rfl, by rw [ht]; exact hP, hD⟩, hS.F ht⟩) hS.2.2 dX6_stretch_99
        · have hf := oi hf c7
          exact absurd hf (by simp)
      · have hf := oe hf c4
        exact absurd hf (by simp)
  · have hf := oi hf c2
    exact absurd hf (by simp)
theorem hd_X6_drop : yX6_drop.cls ≠ "java/lang/invoke/MethodHandle" ∧ yX6_drop.cls ≠ "java/lang/invoke/VarHandle" ∧ (parseMethodDescriptor yX6_drop.desc).map (fun d => d.parameters.length) = some 1 := by decide +kernel
def f_X6_drop (v : CV) (p0 : Int32) : Option (Nat ⊕ (Int32 × CV)) :=
  (f_X0_has v.1.1 p0).bind (fun u1 =>
  if (zb u1) = 0 then
    some (.inl 3)
  else
    (f_X0_waits v.1.1 p0).bind (fun u3 =>
    if (zb u3) = 0 then
      some (.inl 2)
    else
      (f_X6_save v).bind (fun u5 =>
      (f_X2_dropElement u5.1 p0).bind (fun u6 =>
      (f_X0_countThatAre u6.1 0).bind (fun u7 =>
      some (.inr (u7, (u6, u5.2.1, u5.2.2.1, u5.2.2.2.1, u5.2.2.2.2))))))))
set_option maxHeartbeats 4000000 in
set_option maxRecDepth 100000 in
theorem c_X6_drop (l : Launch) (hst9 : l.stackTraces = false) (g : zG) (a : Nat → Nat) (v : CV) (p0 : Int32) (r : Nat ⊕ (Int32 × CV)) (hf : f_X6_drop v p0 = some r) : zMx zNF zNM l yX6_drop (zw yX6_drop cX6_drop 2 (some .int)) ({ frames := 6, cells := 1, slots := 6, locals := 102 } : Room) g [.ref (a 0), .int p0] (zX6 g a v) r (fun q => q.1) (fun q => (zX6 g a q.2)) := by
  intro sz
  refine vx_ofW (cc := cX6_drop) (maxL := 2) (ret := (some .int)) (by decide) rfl ?_
  intro p e s m args below meth c s₁ B hml htab hv
  obtain ⟨rfl, ⟨hsz, hP, hK, hD0⟩, hKx, hZs⟩ := hv
  have hx := B.exec
  have hb := B.bytes
  have hr0 := B.returns
  have hts := atoms_spec (ws := (zw yX6_drop cX6_drop 2 (some .int))) B.pre
  have hw0 : ∀ w ∈ zW, w.before ([.ref (a 0), .int p0] : List Value).toArray s = true := fun w h => hts w (List.mem_cons_of_mem _ h)
  have hown : s.vm.findClass RX6 = some m.cls := findClass_of_methodNamed B.named
  have hlocks := B.notSynchronized
  subst hsz
  have hD := hD0.self (sz := s.heap.size)
  generalize hAe : va_A (zX6 g a v) s.heap.size = A at hD hZs ⊢
  have hA : ∀ q : Nat, s.heap.size ≤ q → A q := fun q h => by rw [← hAe]; exact Or.inr h
  have hS : va_S A s.heap s.heap [] := va_S.rf
  unfold f_X6_drop at hf
  have hl := lv_entry ([.ref (a 0), .int p0]) (n := 2) (Nat.le_of_ble_eq_true rfl)
  rw [lg_entry_eq]
  generalize (lg_sl ([.ref (a 0), .int p0]) ++ List.replicate (2 - (lg_sl ([.ref (a 0), .int p0])).length) Slot.unset).toArray = ls at hl ⊢
  have hl : lv_has ls 2 [(0, .ref (a 0)), (1, .int p0)] := hl
  refine lv_aload_n hx hb dX6_drop_0 rfl (lv_at hl 0 rfl) ?_
  refine va_get (D := g.1) (ci := 6) (v := .ref (a 1)) (C := RX6) (T := TX6) (N := 5) hx hb hw0 ziX6 hown hK.1 hP 0 rfl rfl 0 (by decide) (hw0 _ zm1_202) (fun _ h9 => h9) rfl dX6_drop_1 ?_
  refine va_getN (D := g.1) (ci := 2) (v := .ref (a 2)) (C := RX2) (T := TX2) (N := 11) hx hb hw0 ziX2 hown hK.1 hP 1 rfl rfl 0 (by decide) (va_Nw.use rfl (zf_18 hK)) (fun _ h9 => h9) rfl dX6_drop_4 ?_
  refine lv_iload_n hx hb dX6_drop_7 rfl (lv_at hl 1 rfl) ?_
  obtain ⟨u1, hu1, hf⟩ := ob hf
  refine zk_iR (va_runVN (As := [.int p0]) (rest := []) ⟨hx, hb, hml, hown, hts⟩ (c_X0_has l g (fun k => a (k + 2)) v.1.1 p0 _ hu1 _) (zcN hw0 (zn_12 hK) zm2_143 zm1_3 zm2_142 zs1_9 hd_X0_has rfl rfl ⟨Nat.le_of_ble_eq_true rfl, Nat.le_of_ble_eq_true rfl⟩) ⟨zblind, zrecv (wc := zX0 g (fun k => a (k + 2)) v.1.1) hK hP [2, 3, 4, 5, 6, 7] rfl (ci := 0) rfl rfl, zpre hK hP hD [2, 3, 4, 5, 6, 7] rfl rfl⟩ rfl rfl hl.1 rfl (lv_room (Nat.le_of_ble_eq_true rfl)) dX6_drop_8 ⟨Nat.zero_le _, Nat.zero_le _⟩) hP hD hS hA [2, 3, 4, 5, 6, 7] rfl (fun H locs hP hD hS => ?_)
  refine lv_if_ne (tgt := 24) hx hb dX6_drop_11 (by decide) (fun c2 => ?_) (fun c2 => ?_)
  · have hf := oe hf c2
    refine lv_aload_n hx hb dX6_drop_24 rfl (lv_at hl 0 rfl) ?_
    refine va_get (D := g.1) (ci := 6) (v := .ref (a 1)) (C := RX6) (T := TX6) (N := 5) hx hb hw0 ziX6 hown hK.1 hP 0 rfl rfl 0 (by decide) (hw0 _ zm1_202) (fun _ h9 => h9) rfl dX6_drop_25 ?_
    refine va_getN (D := g.1) (ci := 2) (v := .ref (a 2)) (C := RX2) (T := TX2) (N := 11) hx hb hw0 ziX2 hown hK.1 hP 1 rfl rfl 0 (by decide) (va_Nw.use rfl (zf_18 hK)) (fun _ h9 => h9) rfl dX6_drop_28 ?_
    refine lv_iload_n hx hb dX6_drop_31 rfl (lv_at hl 1 rfl) ?_
    obtain ⟨u3, hu3, hf⟩ := ob hf
    refine zk_iR (va_runVN (As := [.int p0]) (rest := []) ⟨hx, hb, hml, hown, hts⟩ (c_X0_waits l g (fun k => a (k + 2)) v.1.1 p0 _ hu3 _) (zcN hw0 (zn_20 hK) zm2_177 zm1_3 zm2_176 zs1_13 hd_X0_waits rfl rfl ⟨Nat.le_of_ble_eq_true rfl, Nat.le_of_ble_eq_true rfl⟩) ⟨zblind, zrecv (wc := zX0 g (fun k => a (k + 2)) v.1.1) hK hP [2, 3, 4, 5, 6, 7] rfl (ci := 0) rfl rfl, zpre hK hP hD [2, 3, 4, 5, 6, 7] rfl rfl⟩ rfl rfl hl.1 rfl (lv_room (Nat.le_of_ble_eq_true rfl)) dX6_drop_32 ⟨Nat.zero_le _, Nat.zero_le _⟩) hP hD hS hA [2, 3, 4, 5, 6, 7] rfl (fun H locs hP hD hS => ?_)
    refine lv_if_ne (tgt := 48) hx hb dX6_drop_35 (by decide) (fun c4 => ?_) (fun c4 => ?_)
    · have hf := oe hf c4
      refine lv_aload_n hx hb dX6_drop_48 rfl (lv_at hl 0 rfl) ?_
      obtain ⟨u5, hu5, hf⟩ := ob hf
      refine zk_vA (va_runV (As := []) (rest := []) ⟨hx, hb, hml, hown, hts⟩ (c_X6_save l g a v _ hu5 _) (zcV hw0 zm2_85 zm2_88 zm1_1 zm2_87 zs1_1 hd_X6_save rfl rfl ⟨Nat.le_of_ble_eq_true rfl, Nat.le_of_ble_eq_true rfl⟩) ⟨zblind, zrecvA hK hP (ci := 6) rfl rfl, zpreA hK hP hD⟩ rfl rfl hl.1 rfl (lv_room (Nat.le_of_ble_eq_true rfl)) dX6_drop_49 ⟨Nat.zero_le _, Nat.zero_le _⟩) hP hD hS hA (fun H locs hP hD hS => ?_)
      have hP : va_P g.1 vwCl (zX6 g a u5) H := hP
      have hD : va_D A (zX6 g a u5) := hD
      refine lv_aload_n hx hb dX6_drop_52 rfl (lv_at hl 0 rfl) ?_
      refine va_get (D := g.1) (ci := 6) (v := .ref (a 1)) (C := RX6) (T := TX6) (N := 5) hx hb hw0 ziX6 hown hK.1 hP 0 rfl rfl 0 (by decide) (hw0 _ zm1_202) (fun _ h9 => h9) rfl dX6_drop_53 ?_
      refine lv_iload_n hx hb dX6_drop_56 rfl (lv_at hl 1 rfl) ?_
      obtain ⟨u6, hu6, hf⟩ := ob hf
      refine zk_vZ (va_runVN (As := [.int p0]) (rest := []) ⟨hx, hb, hml, hown, hts⟩ (c_X2_dropElement l g (fun k => a (k + 1)) u5.1 p0 _ hu6 _) (zcN hw0 (zn_21 hK) zm2_213 zm1_2 zm2_212 zs2_2 hd_X2_dropElement rfl rfl ⟨Nat.le_of_ble_eq_true rfl, Nat.le_of_ble_eq_true rfl⟩) ⟨zblind, zrecv (wc := zX2 g (fun k => a (k + 1)) u5.1) hK hP [1, 2, 3, 4, 5, 6, 7, 8, 9, 10, 11, 12, 13, 14, 15, 16, 17, 18] rfl (ci := 2) rfl rfl, zpre hK hP hD [1, 2, 3, 4, 5, 6, 7, 8, 9, 10, 11, 12, 13, 14, 15, 16, 17, 18] rfl rfl⟩ rfl rfl hl.1 rfl (lv_room (Nat.le_of_ble_eq_true rfl)) dX6_drop_57 ⟨Nat.zero_le _, Nat.zero_le _⟩) hP hD hS hA [1, 2, 3, 4, 5, 6, 7, 8, 9, 10, 11, 12, 13, 14, 15, 16, 17, 18] rfl rfl (zrun (wc := zX2 g (fun k => a (k + 1)) u5.1) (ws' := zX6 g a (u6, u5.2.1, u5.2.2.1, u5.2.2.2.1, u5.2.2.2.2)) 1 18 rfl rfl rfl rfl rfl) (fun H locs hP hD hS => ?_)
      have hP : va_P g.1 vwCl (zX6 g a (u6, u5.2.1, u5.2.2.1, u5.2.2.2.1, u5.2.2.2.2)) H := hP
      have hD : va_D A (zX6 g a (u6, u5.2.1, u5.2.2.1, u5.2.2.2.1, u5.2.2.2.2)) := hD
      refine lv_aload_n hx hb dX6_drop_60 rfl (lv_at hl 0 rfl) ?_
      refine va_get (D := g.1) (ci := 6) (v := .ref (a 1)) (C := RX6) (T := TX6) (N := 5) hx hb hw0 ziX6 hown hK.1 hP 0 rfl rfl 0 (by decide) (hw0 _ zm1_202) (fun _ h9 => h9) rfl dX6_drop_61 ?_
      refine va_getN (D := g.1) (ci := 2) (v := .ref (a 2)) (C := RX2) (T := TX2) (N := 11) hx hb hw0 ziX2 hown hK.1 hP 1 rfl rfl 0 (by decide) (va_Nw.use rfl (zf_18 hK)) (fun _ h9 => h9) rfl dX6_drop_64 ?_
      refine lv_iconst (v := 0) hx hb dX6_drop_67 (by decide) ?_
      obtain ⟨u7, hu7, hf⟩ := ob hf
      refine zk_iR (va_runVN (As := [.int 0]) (rest := []) ⟨hx, hb, hml, hown, hts⟩ (c_X0_countThatAre l g (fun k => a (k + 2)) u6.1 0 _ hu7 _) (zcN hw0 (zn_23 hK) zm2_221 zm1_3 zm2_220 zs2_4 hd_X0_countThatAre rfl rfl ⟨Nat.le_of_ble_eq_true rfl, Nat.le_of_ble_eq_true rfl⟩) ⟨zblind, zrecv (wc := zX0 g (fun k => a (k + 2)) u6.1) hK hP [2, 3, 4, 5, 6, 7] rfl (ci := 0) rfl rfl, zpre hK hP hD [2, 3, 4, 5, 6, 7] rfl rfl⟩ rfl rfl hl.1 rfl (lv_room (Nat.le_of_ble_eq_true rfl)) dX6_drop_68 ⟨Nat.zero_le _, Nat.zero_le _⟩) hP hD hS hA [2, 3, 4, 5, 6, 7] rfl (fun H locs hP hD hS => ?_)
      have hR : (Sum.inr (u7, (u6, u5.2.1, u5.2.2.1, u5.2.2.2.1, u5.2.2.2.2)) : Nat ⊕ (Int32 × CV)) = r := Option.some.inj hf
      subst hR
      refine W.widen (k := 1) (n := 6) (Nat.zero_le _) (Nat.zero_le _) ?_
      exact vx_ret (W.iret (v := u7) hx hb hr0 (fun t ht hW => ⟨⟨u7, (), rfl, ⟨_, rfl, rfl⟩, _, rfl, by rw [ht]; exact hP, hD⟩, hS.F ht⟩) hS.2.2 dX6_drop_71)
    · have hf := oi hf c4
      have hR : (Sum.inl 2 : Nat ⊕ (Int32 × CV)) = r := Option.some.inj hf
      exact zthrow (ik := 58) (is := 109) (ic := 62) (text := "the element does not wait") (k := 2) hx hb hst9 hown (hw0 _ zm2_69) (hw0 _ zm1_13) (hKx.2 ("HourClock", 109, "the element does not wait") (by decide +kernel)) hKx.1 hw0 zx_w2 zx_b2 zx_o2 hZs (by decide +kernel) (by decide +kernel) hP hD hS (hl.1.trans hml.symm) htab dX6_drop_38 dX6_drop_41 dX6_drop_42 dX6_drop_44 dX6_drop_47 (by decide) (by decide) (Nat.le_of_ble_eq_true rfl) (Nat.le_of_ble_eq_true rfl) hlocks hR.symm rfl
  · have hf := oi hf c2
    have hR : (Sum.inl 3 : Nat ⊕ (Int32 × CV)) = r := Option.some.inj hf
    exact zthrow (ik := 86) (is := 88) (ic := 90) (text := "element") (k := 3) hx hb hst9 hown (hw0 _ zm2_144) (hw0 _ zm1_12) (hKx.2 ("HourClock", 88, "element") (by decide +kernel)) hKx.1 hw0 zx_w3 zx_b3 zx_o3 hZs (by decide +kernel) (by decide +kernel) hP hD hS (hl.1.trans hml.symm) htab dX6_drop_14 dX6_drop_17 dX6_drop_18 dX6_drop_20 dX6_drop_23 (by decide) (by decide) (Nat.le_of_ble_eq_true rfl) (Nat.le_of_ble_eq_true rfl) hlocks hR.symm rfl
def fn_X6_drop (v : CV) (p0 : Int32) : Option (Int32 × CV) :=
  (f_X0_has v.1.1 p0).bind (fun u1 =>
  if (zb u1) = 0 then
    none
  else
    (f_X0_waits v.1.1 p0).bind (fun u3 =>
    if (zb u3) = 0 then
      none
    else
      (f_X6_save v).bind (fun u5 =>
      (f_X2_dropElement u5.1 p0).bind (fun u6 =>
      (f_X0_countThatAre u6.1 0).bind (fun u7 =>
      some (u7, (u6, u5.2.1, u5.2.2.1, u5.2.2.2.1, u5.2.2.2.2)))))))
set_option maxHeartbeats 4000000 in
set_option maxRecDepth 100000 in
theorem cn_X6_drop (l : Launch) (g : zG) (a : Nat → Nat) (v : CV) (p0 : Int32) (r : Int32 × CV) (hf : fn_X6_drop v p0 = some r) : zMi zNF zNM l yX6_drop (zw yX6_drop cX6_drop 2 (some .int)) ({ frames := 4, cells := 0, slots := 0, locals := 102 } : Room) g [.ref (a 0), .int p0] (zX6 g a v) r.1 (zX6 g a r.2) := by
  intro sz
  refine Met.ofW (cc := cX6_drop) (maxL := 2) (ret := (some .int)) (by decide) rfl ?_
  intro p e s m args below meth c s₁ B hml hv
  obtain ⟨rfl, hsz, hP, hK, hD0⟩ := hv
  have hx := B.exec
  have hb := B.bytes
  have hr0 := B.returns
  have hts := atoms_spec (ws := (zw yX6_drop cX6_drop 2 (some .int))) B.pre
  have hw0 : ∀ w ∈ zW, w.before ([.ref (a 0), .int p0] : List Value).toArray s = true := fun w h => hts w (List.mem_cons_of_mem _ h)
  have hown : s.vm.findClass RX6 = some m.cls := findClass_of_methodNamed B.named
  have hlocks := B.notSynchronized
  subst hsz
  have hD := hD0.self (sz := s.heap.size)
  generalize hAe : va_A (zX6 g a v) s.heap.size = A at hD ⊢
  have hA : ∀ q : Nat, s.heap.size ≤ q → A q := fun q h => by rw [← hAe]; exact Or.inr h
  have hS : va_S A s.heap s.heap [] := va_S.rf
  unfold fn_X6_drop at hf
  have hl := lv_entry ([.ref (a 0), .int p0]) (n := 2) (Nat.le_of_ble_eq_true rfl)
  rw [lg_entry_eq]
  generalize (lg_sl ([.ref (a 0), .int p0]) ++ List.replicate (2 - (lg_sl ([.ref (a 0), .int p0])).length) Slot.unset).toArray = ls at hl ⊢
  have hl : lv_has ls 2 [(0, .ref (a 0)), (1, .int p0)] := hl
  refine lv_aload_n hx hb dX6_drop_0 rfl (lv_at hl 0 rfl) ?_
  refine va_get (D := g.1) (ci := 6) (v := .ref (a 1)) (C := RX6) (T := TX6) (N := 5) hx hb hw0 ziX6 hown hK.1 hP 0 rfl rfl 0 (by decide) (hw0 _ zm1_202) (fun _ h9 => h9) rfl dX6_drop_1 ?_
  refine va_getN (D := g.1) (ci := 2) (v := .ref (a 2)) (C := RX2) (T := TX2) (N := 11) hx hb hw0 ziX2 hown hK.1 hP 1 rfl rfl 0 (by decide) (va_Nw.use rfl (zf_18 hK)) (fun _ h9 => h9) rfl dX6_drop_4 ?_
  refine lv_iload_n hx hb dX6_drop_7 rfl (lv_at hl 1 rfl) ?_
  obtain ⟨u1, hu1, hf⟩ := ob hf
  refine zk_iR (va_runVN (As := [.int p0]) (rest := []) ⟨hx, hb, hml, hown, hts⟩ (c_X0_has l g (fun k => a (k + 2)) v.1.1 p0 _ hu1 _) (zcN hw0 (zn_12 hK) zm2_143 zm1_3 zm2_142 zs1_9 hd_X0_has rfl rfl ⟨Nat.le_of_ble_eq_true rfl, Nat.le_of_ble_eq_true rfl⟩) ⟨zblind, zrecv (wc := zX0 g (fun k => a (k + 2)) v.1.1) hK hP [2, 3, 4, 5, 6, 7] rfl (ci := 0) rfl rfl, zpre hK hP hD [2, 3, 4, 5, 6, 7] rfl rfl⟩ rfl rfl hl.1 rfl (lv_room (Nat.le_of_ble_eq_true rfl)) dX6_drop_8 ⟨Nat.zero_le _, Nat.zero_le _⟩) hP hD hS hA [2, 3, 4, 5, 6, 7] rfl (fun H locs hP hD hS => ?_)
  refine lv_if_ne (tgt := 24) hx hb dX6_drop_11 (by decide) (fun c2 => ?_) (fun c2 => ?_)
  · have hf := oe hf c2
    refine lv_aload_n hx hb dX6_drop_24 rfl (lv_at hl 0 rfl) ?_
    refine va_get (D := g.1) (ci := 6) (v := .ref (a 1)) (C := RX6) (T := TX6) (N := 5) hx hb hw0 ziX6 hown hK.1 hP 0 rfl rfl 0 (by decide) (hw0 _ zm1_202) (fun _ h9 => h9) rfl dX6_drop_25 ?_
    refine va_getN (D := g.1) (ci := 2) (v := .ref (a 2)) (C := RX2) (T := TX2) (N := 11) hx hb hw0 ziX2 hown hK.1 hP 1 rfl rfl 0 (by decide) (va_Nw.use rfl (zf_18 hK)) (fun _ h9 => h9) rfl dX6_drop_28 ?_
    refine lv_iload_n hx hb dX6_drop_31 rfl (lv_at hl 1 rfl) ?_
    obtain ⟨u3, hu3, hf⟩ := ob hf
    refine zk_iR (va_runVN (As := [.int p0]) (rest := []) ⟨hx, hb, hml, hown, hts⟩ (c_X0_waits l g (fun k => a (k + 2)) v.1.1 p0 _ hu3 _) (zcN hw0 (zn_20 hK) zm2_177 zm1_3 zm2_176 zs1_13 hd_X0_waits rfl rfl ⟨Nat.le_of_ble_eq_true rfl, Nat.le_of_ble_eq_true rfl⟩) ⟨zblind, zrecv (wc := zX0 g (fun k => a (k + 2)) v.1.1) hK hP [2, 3, 4, 5, 6, 7] rfl (ci := 0) rfl rfl, zpre hK hP hD [2, 3, 4, 5, 6, 7] rfl rfl⟩ rfl rfl hl.1 rfl (lv_room (Nat.le_of_ble_eq_true rfl)) dX6_drop_32 ⟨Nat.zero_le _, Nat.zero_le _⟩) hP hD hS hA [2, 3, 4, 5, 6, 7] rfl (fun H locs hP hD hS => ?_)
    refine lv_if_ne (tgt := 48) hx hb dX6_drop_35 (by decide) (fun c4 => ?_) (fun c4 => ?_)
    · have hf := oe hf c4
      refine lv_aload_n hx hb dX6_drop_48 rfl (lv_at hl 0 rfl) ?_
      obtain ⟨u5, hu5, hf⟩ := ob hf
      refine zk_vA (va_runV (As := []) (rest := []) ⟨hx, hb, hml, hown, hts⟩ (c_X6_save l g a v _ hu5 _) (zcV hw0 zm2_85 zm2_88 zm1_1 zm2_87 zs1_1 hd_X6_save rfl rfl ⟨Nat.le_of_ble_eq_true rfl, Nat.le_of_ble_eq_true rfl⟩) ⟨zblind, zrecvA hK hP (ci := 6) rfl rfl, zpreA hK hP hD⟩ rfl rfl hl.1 rfl (lv_room (Nat.le_of_ble_eq_true rfl)) dX6_drop_49 ⟨Nat.zero_le _, Nat.zero_le _⟩) hP hD hS hA (fun H locs hP hD hS => ?_)
      have hP : va_P g.1 vwCl (zX6 g a u5) H := hP
      have hD : va_D A (zX6 g a u5) := hD
      refine lv_aload_n hx hb dX6_drop_52 rfl (lv_at hl 0 rfl) ?_
      refine va_get (D := g.1) (ci := 6) (v := .ref (a 1)) (C := RX6) (T := TX6) (N := 5) hx hb hw0 ziX6 hown hK.1 hP 0 rfl rfl 0 (by decide) (hw0 _ zm1_202) (fun _ h9 => h9) rfl dX6_drop_53 ?_
      refine lv_iload_n hx hb dX6_drop_56 rfl (lv_at hl 1 rfl) ?_
      obtain ⟨u6, hu6, hf⟩ := ob hf
      refine zk_vZ (va_runVN (As := [.int p0]) (rest := []) ⟨hx, hb, hml, hown, hts⟩ (c_X2_dropElement l g (fun k => a (k + 1)) u5.1 p0 _ hu6 _) (zcN hw0 (zn_21 hK) zm2_213 zm1_2 zm2_212 zs2_2 hd_X2_dropElement rfl rfl ⟨Nat.le_of_ble_eq_true rfl, Nat.le_of_ble_eq_true rfl⟩) ⟨zblind, zrecv (wc := zX2 g (fun k => a (k + 1)) u5.1) hK hP [1, 2, 3, 4, 5, 6, 7, 8, 9, 10, 11, 12, 13, 14, 15, 16, 17, 18] rfl (ci := 2) rfl rfl, zpre hK hP hD [1, 2, 3, 4, 5, 6, 7, 8, 9, 10, 11, 12, 13, 14, 15, 16, 17, 18] rfl rfl⟩ rfl rfl hl.1 rfl (lv_room (Nat.le_of_ble_eq_true rfl)) dX6_drop_57 ⟨Nat.zero_le _, Nat.zero_le _⟩) hP hD hS hA [1, 2, 3, 4, 5, 6, 7, 8, 9, 10, 11, 12, 13, 14, 15, 16, 17, 18] rfl rfl (zrun (wc := zX2 g (fun k => a (k + 1)) u5.1) (ws' := zX6 g a (u6, u5.2.1, u5.2.2.1, u5.2.2.2.1, u5.2.2.2.2)) 1 18 rfl rfl rfl rfl rfl) (fun H locs hP hD hS => ?_)
      have hP : va_P g.1 vwCl (zX6 g a (u6, u5.2.1, u5.2.2.1, u5.2.2.2.1, u5.2.2.2.2)) H := hP
      have hD : va_D A (zX6 g a (u6, u5.2.1, u5.2.2.1, u5.2.2.2.1, u5.2.2.2.2)) := hD
      refine lv_aload_n hx hb dX6_drop_60 rfl (lv_at hl 0 rfl) ?_
      refine va_get (D := g.1) (ci := 6) (v := .ref (a 1)) (C := RX6) (T := TX6) (N := 5) hx hb hw0 ziX6 hown hK.1 hP 0 rfl rfl 0 (by decide) (hw0 _ zm1_202) (fun _ h9 => h9) rfl dX6_drop_61 ?_
      refine va_getN (D := g.1) (ci := 2) (v := .ref (a 2)) (C := RX2) (T := TX2) (N := 11) hx hb hw0 ziX2 hown hK.1 hP 1 rfl rfl 0 (by decide) (va_Nw.use rfl (zf_18 hK)) (fun _ h9 => h9) rfl dX6_drop_64 ?_
      refine lv_iconst (v := 0) hx hb dX6_drop_67 (by decide) ?_
      obtain ⟨u7, hu7, hf⟩ := ob hf
      refine zk_iR (va_runVN (As := [.int 0]) (rest := []) ⟨hx, hb, hml, hown, hts⟩ (c_X0_countThatAre l g (fun k => a (k + 2)) u6.1 0 _ hu7 _) (zcN hw0 (zn_23 hK) zm2_221 zm1_3 zm2_220 zs2_4 hd_X0_countThatAre rfl rfl ⟨Nat.le_of_ble_eq_true rfl, Nat.le_of_ble_eq_true rfl⟩) ⟨zblind, zrecv (wc := zX0 g (fun k => a (k + 2)) u6.1) hK hP [2, 3, 4, 5, 6, 7] rfl (ci := 0) rfl rfl, zpre hK hP hD [2, 3, 4, 5, 6, 7] rfl rfl⟩ rfl rfl hl.1 rfl (lv_room (Nat.le_of_ble_eq_true rfl)) dX6_drop_68 ⟨Nat.zero_le _, Nat.zero_le _⟩) hP hD hS hA [2, 3, 4, 5, 6, 7] rfl (fun H locs hP hD hS => ?_)
      have hR : (u7, (u6, u5.2.1, u5.2.2.1, u5.2.2.2.1, u5.2.2.2.2)) = r := Option.some.inj hf
      subst hR
      exact W.iret (v := u7) hx hb hr0 (fun t ht hW => ⟨⟨u7, (), rfl, rfl, by rw [ht]; exact hP, hD⟩, hS.F ht⟩) hS.2.2 dX6_drop_71
    · have hf := oi hf c4
      exact absurd hf (by simp)
  · have hf := oi hf c2
    exact absurd hf (by simp)
theorem hd_X6_pass : yX6_pass.cls ≠ "java/lang/invoke/MethodHandle" ∧ yX6_pass.cls ≠ "java/lang/invoke/VarHandle" ∧ (parseMethodDescriptor yX6_pass.desc).map (fun d => d.parameters.length) = some 1 := by decide +kernel
def f_X6_pass (v : CV) (p0 : Int32) : Option (Nat ⊕ (Int32 × CV)) :=
  if p0 < 1 then
    some (.inl 1)
  else
    if p0 ≤ 3600 then
      (f_X6_save v).bind (fun u3 =>
      (f_X2_runTo u3.1 (u3.1.2.2.2.1 + p0)).bind (fun u4 =>
      some (.inr ((u4.2.2.2.1 - u3.1.2.2.2.1), (u4, u3.2.1, u3.2.2.1, u3.2.2.2.1, u3.2.2.2.2)))))
    else
      some (.inl 1)
set_option maxHeartbeats 4000000 in
set_option maxRecDepth 100000 in
theorem c_X6_pass (l : Launch) (hst9 : l.stackTraces = false) (g : zG) (a : Nat → Nat) (v : CV) (p0 : Int32) (r : Nat ⊕ (Int32 × CV)) (hf : f_X6_pass v p0 = some r) : zMx zNF zNM l yX6_pass (zw yX6_pass cX6_pass 3 (some .int)) ({ frames := 6, cells := 1, slots := 6, locals := 140 } : Room) g [.ref (a 0), .int p0] (zX6 g a v) r (fun q => q.1) (fun q => (zX6 g a q.2)) := by
  intro sz
  refine vx_ofW (cc := cX6_pass) (maxL := 3) (ret := (some .int)) (by decide) rfl ?_
  intro p e s m args below meth c s₁ B hml htab hv
  obtain ⟨rfl, ⟨hsz, hP, hK, hD0⟩, hKx, hZs⟩ := hv
  have hx := B.exec
  have hb := B.bytes
  have hr0 := B.returns
  have hts := atoms_spec (ws := (zw yX6_pass cX6_pass 3 (some .int))) B.pre
  have hw0 : ∀ w ∈ zW, w.before ([.ref (a 0), .int p0] : List Value).toArray s = true := fun w h => hts w (List.mem_cons_of_mem _ h)
  have hown : s.vm.findClass RX6 = some m.cls := findClass_of_methodNamed B.named
  have hlocks := B.notSynchronized
  subst hsz
  have hD := hD0.self (sz := s.heap.size)
  generalize hAe : va_A (zX6 g a v) s.heap.size = A at hD hZs ⊢
  have hA : ∀ q : Nat, s.heap.size ≤ q → A q := fun q h => by rw [← hAe]; exact Or.inr h
  have hS : va_S A s.heap s.heap [] := va_S.rf
  unfold f_X6_pass at hf
  have hl := lv_entry ([.ref (a 0), .int p0]) (n := 3) (Nat.le_of_ble_eq_true rfl)
  rw [lg_entry_eq]
  generalize (lg_sl ([.ref (a 0), .int p0]) ++ List.replicate (3 - (lg_sl ([.ref (a 0), .int p0])).length) Slot.unset).toArray = ls at hl ⊢
  have hl : lv_has ls 3 [(0, .ref (a 0)), (1, .int p0)] := hl
  refine lv_iload_n hx hb dX6_pass_0 rfl (lv_at hl 1 rfl) ?_
  refine lv_iconst (v := 1) hx hb dX6_pass_1 (by decide) ?_
  refine lv_icmp_lt (tgt := 12) hx hb dX6_pass_2 (by decide) (fun c1 => ?_) (fun c1 => ?_)
  · have hf := oi hf c1
    have hR : (Sum.inl 1 : Nat ⊕ (Int32 × CV)) = r := Option.some.inj hf
    exact zthrow (ik := 34) (is := 118) (ic := 38) (text := "seconds") (k := 1) hx hb hst9 hown (hw0 _ zm1_239) (hw0 _ zm1_11) (hKx.2 ("HourClock", 118, "seconds") (by decide +kernel)) hKx.1 hw0 zx_w1 zx_b1 zx_o1 hZs (by decide +kernel) (by decide +kernel) hP hD hS (hl.1.trans hml.symm) htab dX6_pass_12 dX6_pass_15 dX6_pass_16 dX6_pass_18 dX6_pass_21 (by decide) (by decide) (Nat.le_of_ble_eq_true rfl) (Nat.le_of_ble_eq_true rfl) hlocks hR.symm rfl
  · have hf := oe hf c1
    refine lv_iload_n hx hb dX6_pass_5 rfl (lv_at hl 1 rfl) ?_
    refine lv_sipush (v := 3600) hx hb dX6_pass_6 (by decide) ?_
    refine lv_icmp_le (tgt := 22) hx hb dX6_pass_9 (by decide) (fun c2 => ?_) (fun c2 => ?_)
    · have hf := oi hf c2
      refine lv_aload_n hx hb dX6_pass_22 rfl (lv_at hl 0 rfl) ?_
      obtain ⟨u3, hu3, hf⟩ := ob hf
      refine zk_vA (va_runV (As := []) (rest := []) ⟨hx, hb, hml, hown, hts⟩ (c_X6_save l g a v _ hu3 _) (zcV hw0 zm2_85 zm2_88 zm1_1 zm2_87 zs1_1 hd_X6_save rfl rfl ⟨Nat.le_of_ble_eq_true rfl, Nat.le_of_ble_eq_true rfl⟩) ⟨zblind, zrecvA hK hP (ci := 6) rfl rfl, zpreA hK hP hD⟩ rfl rfl hl.1 rfl (lv_room (Nat.le_of_ble_eq_true rfl)) dX6_pass_23 ⟨Nat.zero_le _, Nat.zero_le _⟩) hP hD hS hA (fun H locs hP hD hS => ?_)
      have hP : va_P g.1 vwCl (zX6 g a u3) H := hP
      have hD : va_D A (zX6 g a u3) := hD
      refine lv_aload_n hx hb dX6_pass_26 rfl (lv_at hl 0 rfl) ?_
      refine va_get (D := g.1) (ci := 6) (v := .ref (a 1)) (C := RX6) (T := TX6) (N := 5) hx hb hw0 ziX6 hown hK.1 hP 0 rfl rfl 0 (by decide) (hw0 _ zm1_202) (fun _ h9 => h9) rfl dX6_pass_27 ?_
      refine va_getN (D := g.1) (ci := 2) (v := .int u3.1.2.2.2.1) (C := RX2) (T := TX2) (N := 11) hx hb hw0 ziX2 hown hK.1 hP 1 rfl rfl 3 (by decide) (va_Nw.use rfl (zf_21 hK)) (fun _ h9 => h9) rfl dX6_pass_30 ?_
      refine lv_istore_n (lv' := [(2, .int u3.1.2.2.2.1), (0, .ref (a 0)), (1, .int p0)]) hx hb dX6_pass_33 rfl hl (by decide) rfl (fun ls hl => ?_)
      refine lv_aload_n hx hb dX6_pass_34 rfl (lv_at hl 1 rfl) ?_
      refine va_get (D := g.1) (ci := 6) (v := .ref (a 1)) (C := RX6) (T := TX6) (N := 5) hx hb hw0 ziX6 hown hK.1 hP 0 rfl rfl 0 (by decide) (hw0 _ zm1_202) (fun _ h9 => h9) rfl dX6_pass_35 ?_
      refine lv_iload_n hx hb dX6_pass_38 rfl (lv_at hl 0 rfl) ?_
      refine lv_iload_n hx hb dX6_pass_39 rfl (lv_at hl 2 rfl) ?_
      refine lv_iadd hx hb dX6_pass_40 ?_
      obtain ⟨u4, hu4, hf⟩ := ob hf
      refine zk_vZ (va_runVN (As := [.int (u3.1.2.2.2.1 + p0)]) (rest := []) ⟨hx, hb, hml, hown, hts⟩ (c_X2_runTo l g (fun k => a (k + 1)) u3.1 (u3.1.2.2.2.1 + p0) _ hu4 _) (zcN hw0 (zn_27 hK) zm3_19 zm1_2 zm3_18 zs2_8 hd_X2_runTo rfl rfl ⟨Nat.le_of_ble_eq_true rfl, Nat.le_of_ble_eq_true rfl⟩) ⟨zblind, zrecv (wc := zX2 g (fun k => a (k + 1)) u3.1) hK hP [1, 2, 3, 4, 5, 6, 7, 8, 9, 10, 11, 12, 13, 14, 15, 16, 17, 18] rfl (ci := 2) rfl rfl, zpre hK hP hD [1, 2, 3, 4, 5, 6, 7, 8, 9, 10, 11, 12, 13, 14, 15, 16, 17, 18] rfl rfl⟩ rfl rfl hl.1 rfl (lv_room (Nat.le_of_ble_eq_true rfl)) dX6_pass_41 ⟨Nat.zero_le _, Nat.zero_le _⟩) hP hD hS hA [1, 2, 3, 4, 5, 6, 7, 8, 9, 10, 11, 12, 13, 14, 15, 16, 17, 18] rfl rfl (zrun (wc := zX2 g (fun k => a (k + 1)) u3.1) (ws' := zX6 g a (u4, u3.2.1, u3.2.2.1, u3.2.2.2.1, u3.2.2.2.2)) 1 18 rfl rfl rfl rfl rfl) (fun H locs hP hD hS => ?_)
      have hP : va_P g.1 vwCl (zX6 g a (u4, u3.2.1, u3.2.2.1, u3.2.2.2.1, u3.2.2.2.2)) H := hP
      have hD : va_D A (zX6 g a (u4, u3.2.1, u3.2.2.1, u3.2.2.2.1, u3.2.2.2.2)) := hD
      refine lv_aload_n hx hb dX6_pass_44 rfl (lv_at hl 1 rfl) ?_
      refine va_get (D := g.1) (ci := 6) (v := .ref (a 1)) (C := RX6) (T := TX6) (N := 5) hx hb hw0 ziX6 hown hK.1 hP 0 rfl rfl 0 (by decide) (hw0 _ zm1_202) (fun _ h9 => h9) rfl dX6_pass_45 ?_
      refine va_getN (D := g.1) (ci := 2) (v := .int u4.2.2.2.1) (C := RX2) (T := TX2) (N := 11) hx hb hw0 ziX2 hown hK.1 hP 1 rfl rfl 3 (by decide) (va_Nw.use rfl (zf_21 hK)) (fun _ h9 => h9) rfl dX6_pass_48 ?_
      refine lv_iload_n hx hb dX6_pass_51 rfl (lv_at hl 0 rfl) ?_
      refine lv_isub hx hb dX6_pass_52 ?_
      have hR : (Sum.inr ((u4.2.2.2.1 - u3.1.2.2.2.1), (u4, u3.2.1, u3.2.2.1, u3.2.2.2.1, u3.2.2.2.2)) : Nat ⊕ (Int32 × CV)) = r := Option.some.inj hf
      subst hR
      refine W.widen (k := 1) (n := 6) (Nat.zero_le _) (Nat.zero_le _) ?_
      exact vx_ret (W.iret (v := (u4.2.2.2.1 - u3.1.2.2.2.1)) hx hb hr0 (fun t ht hW => ⟨⟨(u4.2.2.2.1 - u3.1.2.2.2.1), (), rfl, ⟨_, rfl, rfl⟩, _, rfl, by rw [ht]; exact hP, hD⟩, hS.F ht⟩) hS.2.2 dX6_pass_53)
    · have hf := oe hf c2
      have hR : (Sum.inl 1 : Nat ⊕ (Int32 × CV)) = r := Option.some.inj hf
      exact zthrow (ik := 34) (is := 118) (ic := 38) (text := "seconds") (k := 1) hx hb hst9 hown (hw0 _ zm1_239) (hw0 _ zm1_11) (hKx.2 ("HourClock", 118, "seconds") (by decide +kernel)) hKx.1 hw0 zx_w1 zx_b1 zx_o1 hZs (by decide +kernel) (by decide +kernel) hP hD hS (hl.1.trans hml.symm) htab dX6_pass_12 dX6_pass_15 dX6_pass_16 dX6_pass_18 dX6_pass_21 (by decide) (by decide) (Nat.le_of_ble_eq_true rfl) (Nat.le_of_ble_eq_true rfl) hlocks hR.symm rfl
def fn_X6_pass (v : CV) (p0 : Int32) : Option (Int32 × CV) :=
  if p0 < 1 then
    none
  else
    if p0 ≤ 3600 then
      (f_X6_save v).bind (fun u3 =>
      (f_X2_runTo u3.1 (u3.1.2.2.2.1 + p0)).bind (fun u4 =>
      some ((u4.2.2.2.1 - u3.1.2.2.2.1), (u4, u3.2.1, u3.2.2.1, u3.2.2.2.1, u3.2.2.2.2))))
    else
      none
set_option maxHeartbeats 4000000 in
set_option maxRecDepth 100000 in
theorem cn_X6_pass (l : Launch) (g : zG) (a : Nat → Nat) (v : CV) (p0 : Int32) (r : Int32 × CV) (hf : fn_X6_pass v p0 = some r) : zMi zNF zNM l yX6_pass (zw yX6_pass cX6_pass 3 (some .int)) ({ frames := 6, cells := 0, slots := 0, locals := 140 } : Room) g [.ref (a 0), .int p0] (zX6 g a v) r.1 (zX6 g a r.2) := by
  intro sz
  refine Met.ofW (cc := cX6_pass) (maxL := 3) (ret := (some .int)) (by decide) rfl ?_
  intro p e s m args below meth c s₁ B hml hv
  obtain ⟨rfl, hsz, hP, hK, hD0⟩ := hv
  have hx := B.exec
  have hb := B.bytes
  have hr0 := B.returns
  have hts := atoms_spec (ws := (zw yX6_pass cX6_pass 3 (some .int))) B.pre
  have hw0 : ∀ w ∈ zW, w.before ([.ref (a 0), .int p0] : List Value).toArray s = true := fun w h => hts w (List.mem_cons_of_mem _ h)
  have hown : s.vm.findClass RX6 = some m.cls := findClass_of_methodNamed B.named
  have hlocks := B.notSynchronized
  subst hsz
  have hD := hD0.self (sz := s.heap.size)
  generalize hAe : va_A (zX6 g a v) s.heap.size = A at hD ⊢
  have hA : ∀ q : Nat, s.heap.size ≤ q → A q := fun q h => by rw [← hAe]; exact Or.inr h
  have hS : va_S A s.heap s.heap [] := va_S.rf
  unfold fn_X6_pass at hf
  have hl := lv_entry ([.ref (a 0), .int p0]) (n := 3) (Nat.le_of_ble_eq_true rfl)
  rw [lg_entry_eq]
  generalize (lg_sl ([.ref (a 0), .int p0]) ++ List.replicate (3 - (lg_sl ([.ref (a 0), .int p0])).length) Slot.unset).toArray = ls at hl ⊢
  have hl : lv_has ls 3 [(0, .ref (a 0)), (1, .int p0)] := hl
  refine lv_iload_n hx hb dX6_pass_0 rfl (lv_at hl 1 rfl) ?_
  refine lv_iconst (v := 1) hx hb dX6_pass_1 (by decide) ?_
  refine lv_icmp_lt (tgt := 12) hx hb dX6_pass_2 (by decide) (fun c1 => ?_) (fun c1 => ?_)
  · have hf := oi hf c1
    exact absurd hf (by simp)
  · have hf := oe hf c1
    refine lv_iload_n hx hb dX6_pass_5 rfl (lv_at hl 1 rfl) ?_
    refine lv_sipush (v := 3600) hx hb dX6_pass_6 (by decide) ?_
    refine lv_icmp_le (tgt := 22) hx hb dX6_pass_9 (by decide) (fun c2 => ?_) (fun c2 => ?_)
    · have hf := oi hf c2
      refine lv_aload_n hx hb dX6_pass_22 rfl (lv_at hl 0 rfl) ?_
      obtain ⟨u3, hu3, hf⟩ := ob hf
      refine zk_vA (va_runV (As := []) (rest := []) ⟨hx, hb, hml, hown, hts⟩ (c_X6_save l g a v _ hu3 _) (zcV hw0 zm2_85 zm2_88 zm1_1 zm2_87 zs1_1 hd_X6_save rfl rfl ⟨Nat.le_of_ble_eq_true rfl, Nat.le_of_ble_eq_true rfl⟩) ⟨zblind, zrecvA hK hP (ci := 6) rfl rfl, zpreA hK hP hD⟩ rfl rfl hl.1 rfl (lv_room (Nat.le_of_ble_eq_true rfl)) dX6_pass_23 ⟨Nat.zero_le _, Nat.zero_le _⟩) hP hD hS hA (fun H locs hP hD hS => ?_)
      have hP : va_P g.1 vwCl (zX6 g a u3) H := hP
      have hD : va_D A (zX6 g a u3) := hD
      refine lv_aload_n hx hb dX6_pass_26 rfl (lv_at hl 0 rfl) ?_
      refine va_get (D := g.1) (ci := 6) (v := .ref (a 1)) (C := RX6) (T := TX6) (N := 5) hx hb hw0 ziX6 hown hK.1 hP 0 rfl rfl 0 (by decide) (hw0 _ zm1_202) (fun _ h9 => h9) rfl dX6_pass_27 ?_
      refine va_getN (D := g.1) (ci := 2) (v := .int u3.1.2.2.2.1) (C := RX2) (T := TX2) (N := 11) hx hb hw0 ziX2 hown hK.1 hP 1 rfl rfl 3 (by decide) (va_Nw.use rfl (zf_21 hK)) (fun _ h9 => h9) rfl dX6_pass_30 ?_
      refine lv_istore_n (lv' := [(2, .int u3.1.2.2.2.1), (0, .ref (a 0)), (1, .int p0)]) hx hb dX6_pass_33 rfl hl (by decide) rfl (fun ls hl => ?_)
      refine lv_aload_n hx hb dX6_pass_34 rfl (lv_at hl 1 rfl) ?_
      refine va_get (D := g.1) (ci := 6) (v := .ref (a 1)) (C := RX6) (T := TX6) (N := 5) hx hb hw0 ziX6 hown hK.1 hP 0 rfl rfl 0 (by decide) (hw0 _ zm1_202) (fun _ h9 => h9) rfl dX6_pass_35 ?_
      refine lv_iload_n hx hb dX6_pass_38 rfl (lv_at hl 0 rfl) ?_
      refine lv_iload_n hx hb dX6_pass_39 rfl (lv_at hl 2 rfl) ?_
      refine lv_iadd hx hb dX6_pass_40 ?_
      obtain ⟨u4, hu4, hf⟩ := ob hf
      refine zk_vZ (va_runVN (As := [.int (u3.1.2.2.2.1 + p0)]) (rest := []) ⟨hx, hb, hml, hown, hts⟩ (c_X2_runTo l g (fun k => a (k + 1)) u3.1 (u3.1.2.2.2.1 + p0) _ hu4 _) (zcN hw0 (zn_27 hK) zm3_19 zm1_2 zm3_18 zs2_8 hd_X2_runTo rfl rfl ⟨Nat.le_of_ble_eq_true rfl, Nat.le_of_ble_eq_true rfl⟩) ⟨zblind, zrecv (wc := zX2 g (fun k => a (k + 1)) u3.1) hK hP [1, 2, 3, 4, 5, 6, 7, 8, 9, 10, 11, 12, 13, 14, 15, 16, 17, 18] rfl (ci := 2) rfl rfl, zpre hK hP hD [1, 2, 3, 4, 5, 6, 7, 8, 9, 10, 11, 12, 13, 14, 15, 16, 17, 18] rfl rfl⟩ rfl rfl hl.1 rfl (lv_room (Nat.le_of_ble_eq_true rfl)) dX6_pass_41 ⟨Nat.zero_le _, Nat.zero_le _⟩) hP hD hS hA [1, 2, 3, 4, 5, 6, 7, 8, 9, 10, 11, 12, 13, 14, 15, 16, 17, 18] rfl rfl (zrun (wc := zX2 g (fun k => a (k + 1)) u3.1) (ws' := zX6 g a (u4, u3.2.1, u3.2.2.1, u3.2.2.2.1, u3.2.2.2.2)) 1 18 rfl rfl rfl rfl rfl) (fun H locs hP hD hS => ?_)
      have hP : va_P g.1 vwCl (zX6 g a (u4, u3.2.1, u3.2.2.1, u3.2.2.2.1, u3.2.2.2.2)) H := hP
      have hD : va_D A (zX6 g a (u4, u3.2.1, u3.2.2.1, u3.2.2.2.1, u3.2.2.2.2)) := hD
      refine lv_aload_n hx hb dX6_pass_44 rfl (lv_at hl 1 rfl) ?_
      refine va_get (D := g.1) (ci := 6) (v := .ref (a 1)) (C := RX6) (T := TX6) (N := 5) hx hb hw0 ziX6 hown hK.1 hP 0 rfl rfl 0 (by decide) (hw0 _ zm1_202) (fun _ h9 => h9) rfl dX6_pass_45 ?_
      refine va_getN (D := g.1) (ci := 2) (v := .int u4.2.2.2.1) (C := RX2) (T := TX2) (N := 11) hx hb hw0 ziX2 hown hK.1 hP 1 rfl rfl 3 (by decide) (va_Nw.use rfl (zf_21 hK)) (fun _ h9 => h9) rfl dX6_pass_48 ?_
      refine lv_iload_n hx hb dX6_pass_51 rfl (lv_at hl 0 rfl) ?_
      refine lv_isub hx hb dX6_pass_52 ?_
      have hR : ((u4.2.2.2.1 - u3.1.2.2.2.1), (u4, u3.2.1, u3.2.2.1, u3.2.2.2.1, u3.2.2.2.2)) = r := Option.some.inj hf
      subst hR
      exact W.iret (v := (u4.2.2.2.1 - u3.1.2.2.2.1)) hx hb hr0 (fun t ht hW => ⟨⟨(u4.2.2.2.1 - u3.1.2.2.2.1), (), rfl, rfl, by rw [ht]; exact hP, hD⟩, hS.F ht⟩) hS.2.2 dX6_pass_53
    · have hf := oe hf c2
      exact absurd hf (by simp)
theorem hd_X6_finish : yX6_finish.cls ≠ "java/lang/invoke/MethodHandle" ∧ yX6_finish.cls ≠ "java/lang/invoke/VarHandle" ∧ (parseMethodDescriptor yX6_finish.desc).map (fun d => d.parameters.length) = some 0 := by decide +kernel
def f_X6_finish (v : CV) : Option (Int32 × CV) :=
  (f_X6_save v).bind (fun u1 =>
  (f_X2_runTo u1.1 1000000).bind (fun u2 =>
  some ((u2.2.2.2.1 - 3600), (u2, u1.2.1, u1.2.2.1, u1.2.2.2.1, u1.2.2.2.2))))
set_option maxHeartbeats 4000000 in
set_option maxRecDepth 100000 in
theorem c_X6_finish (l : Launch) (g : zG) (a : Nat → Nat) (v : CV) (r : Int32 × CV) (hf : f_X6_finish v = some r) : zMi zNF zNM l yX6_finish (zw yX6_finish cX6_finish 1 (some .int)) ({ frames := 6, cells := 0, slots := 0, locals := 140 } : Room) g [.ref (a 0)] (zX6 g a v) r.1 (zX6 g a r.2) := by
  intro sz
  refine Met.ofW (cc := cX6_finish) (maxL := 1) (ret := (some .int)) (by decide) rfl ?_
  intro p e s m args below meth c s₁ B hml hv
  obtain ⟨rfl, hsz, hP, hK, hD0⟩ := hv
  have hx := B.exec
  have hb := B.bytes
  have hr0 := B.returns
  have hts := atoms_spec (ws := (zw yX6_finish cX6_finish 1 (some .int))) B.pre
  have hw0 : ∀ w ∈ zW, w.before ([.ref (a 0)] : List Value).toArray s = true := fun w h => hts w (List.mem_cons_of_mem _ h)
  have hown : s.vm.findClass RX6 = some m.cls := findClass_of_methodNamed B.named
  have hlocks := B.notSynchronized
  subst hsz
  have hD := hD0.self (sz := s.heap.size)
  generalize hAe : va_A (zX6 g a v) s.heap.size = A at hD ⊢
  have hA : ∀ q : Nat, s.heap.size ≤ q → A q := fun q h => by rw [← hAe]; exact Or.inr h
  have hS : va_S A s.heap s.heap [] := va_S.rf
  unfold f_X6_finish at hf
  have hl := lv_entry ([.ref (a 0)]) (n := 1) (Nat.le_of_ble_eq_true rfl)
  rw [lg_entry_eq]
  generalize (lg_sl ([.ref (a 0)]) ++ List.replicate (1 - (lg_sl ([.ref (a 0)])).length) Slot.unset).toArray = ls at hl ⊢
  have hl : lv_has ls 1 [(0, .ref (a 0))] := hl
  refine lv_aload_n hx hb dX6_finish_0 rfl (lv_at hl 0 rfl) ?_
  obtain ⟨u1, hu1, hf⟩ := ob hf
  refine zk_vA (va_runV (As := []) (rest := []) ⟨hx, hb, hml, hown, hts⟩ (c_X6_save l g a v _ hu1 _) (zcV hw0 zm2_85 zm2_88 zm1_1 zm2_87 zs1_1 hd_X6_save rfl rfl ⟨Nat.le_of_ble_eq_true rfl, Nat.le_of_ble_eq_true rfl⟩) ⟨zblind, zrecvA hK hP (ci := 6) rfl rfl, zpreA hK hP hD⟩ rfl rfl hl.1 rfl (lv_room (Nat.le_of_ble_eq_true rfl)) dX6_finish_1 ⟨Nat.zero_le _, Nat.zero_le _⟩) hP hD hS hA (fun H locs hP hD hS => ?_)
  have hP : va_P g.1 vwCl (zX6 g a u1) H := hP
  have hD : va_D A (zX6 g a u1) := hD
  refine lv_aload_n hx hb dX6_finish_4 rfl (lv_at hl 0 rfl) ?_
  refine va_get (D := g.1) (ci := 6) (v := .ref (a 1)) (C := RX6) (T := TX6) (N := 5) hx hb hw0 ziX6 hown hK.1 hP 0 rfl rfl 0 (by decide) (hw0 _ zm1_202) (fun _ h9 => h9) rfl dX6_finish_5 ?_
  refine lv_ldc (v := 1000000) hx hb hown (hw0 _ zm3_135) dX6_finish_8 ?_
  obtain ⟨u2, hu2, hf⟩ := ob hf
  refine zk_vZ (va_runVN (As := [.int 1000000]) (rest := []) ⟨hx, hb, hml, hown, hts⟩ (c_X2_runTo l g (fun k => a (k + 1)) u1.1 1000000 _ hu2 _) (zcN hw0 (zn_27 hK) zm3_19 zm1_2 zm3_18 zs2_8 hd_X2_runTo rfl rfl ⟨Nat.le_of_ble_eq_true rfl, Nat.le_of_ble_eq_true rfl⟩) ⟨zblind, zrecv (wc := zX2 g (fun k => a (k + 1)) u1.1) hK hP [1, 2, 3, 4, 5, 6, 7, 8, 9, 10, 11, 12, 13, 14, 15, 16, 17, 18] rfl (ci := 2) rfl rfl, zpre hK hP hD [1, 2, 3, 4, 5, 6, 7, 8, 9, 10, 11, 12, 13, 14, 15, 16, 17, 18] rfl rfl⟩ rfl rfl hl.1 rfl (lv_room (Nat.le_of_ble_eq_true rfl)) dX6_finish_10 ⟨Nat.zero_le _, Nat.zero_le _⟩) hP hD hS hA [1, 2, 3, 4, 5, 6, 7, 8, 9, 10, 11, 12, 13, 14, 15, 16, 17, 18] rfl rfl (zrun (wc := zX2 g (fun k => a (k + 1)) u1.1) (ws' := zX6 g a (u2, u1.2.1, u1.2.2.1, u1.2.2.2.1, u1.2.2.2.2)) 1 18 rfl rfl rfl rfl rfl) (fun H locs hP hD hS => ?_)
  have hP : va_P g.1 vwCl (zX6 g a (u2, u1.2.1, u1.2.2.1, u1.2.2.2.1, u1.2.2.2.2)) H := hP
  have hD : va_D A (zX6 g a (u2, u1.2.1, u1.2.2.1, u1.2.2.2.1, u1.2.2.2.2)) := hD
  refine lv_aload_n hx hb dX6_finish_13 rfl (lv_at hl 0 rfl) ?_
  refine va_get (D := g.1) (ci := 6) (v := .ref (a 1)) (C := RX6) (T := TX6) (N := 5) hx hb hw0 ziX6 hown hK.1 hP 0 rfl rfl 0 (by decide) (hw0 _ zm1_202) (fun _ h9 => h9) rfl dX6_finish_14 ?_
  refine va_getN (D := g.1) (ci := 2) (v := .int u2.2.2.2.1) (C := RX2) (T := TX2) (N := 11) hx hb hw0 ziX2 hown hK.1 hP 1 rfl rfl 3 (by decide) (va_Nw.use rfl (zf_21 hK)) (fun _ h9 => h9) rfl dX6_finish_17 ?_
  refine lv_sipush (v := 3600) hx hb dX6_finish_20 (by decide) ?_
  refine lv_isub hx hb dX6_finish_23 ?_
  have hR : ((u2.2.2.2.1 - 3600), (u2, u1.2.1, u1.2.2.1, u1.2.2.2.1, u1.2.2.2.2)) = r := Option.some.inj hf
  subst hR
  exact W.iret (v := (u2.2.2.2.1 - 3600)) hx hb hr0 (fun t ht hW => ⟨⟨(u2.2.2.2.1 - 3600), (), rfl, rfl, by rw [ht]; exact hP, hD⟩, hS.F ht⟩) hS.2.2 dX6_finish_24
theorem hd_X6_again : yX6_again.cls ≠ "java/lang/invoke/MethodHandle" ∧ yX6_again.cls ≠ "java/lang/invoke/VarHandle" ∧ (parseMethodDescriptor yX6_again.desc).map (fun d => d.parameters.length) = some 0 := by decide +kernel
def f_X6_again (v : CV) : Option (Nat ⊕ (Int32 × CV)) :=
  if (zb v.1.2.2.2.2.1) = 0 then
    some (.inl 2)
  else
    (f_X6_save v).bind (fun u2 =>
    (f_X2_beginAnew u2.1).bind (fun u3 =>
    some (.inr ((u3.2.2.2.2.2.2.2.1 + 1), ((u3.1, u3.2.1, u3.2.2.1, u3.2.2.2.1, u3.2.2.2.2.1, u3.2.2.2.2.2.1, u3.2.2.2.2.2.2.1, (u3.2.2.2.2.2.2.2.1 + 1), u3.2.2.2.2.2.2.2.2.1, u3.2.2.2.2.2.2.2.2.2.1, u3.2.2.2.2.2.2.2.2.2.2), u2.2.1, u2.2.2.1, u2.2.2.2.1, u2.2.2.2.2)))))
set_option maxHeartbeats 4000000 in
set_option maxRecDepth 100000 in
theorem c_X6_again (l : Launch) (hst9 : l.stackTraces = false) (g : zG) (a : Nat → Nat) (v : CV) (r : Nat ⊕ (Int32 × CV)) (hf : f_X6_again v = some r) : zMx zNF zNM l yX6_again (zw yX6_again cX6_again 1 (some .int)) ({ frames := 6, cells := 1, slots := 6, locals := 102 } : Room) g [.ref (a 0)] (zX6 g a v) r (fun q => q.1) (fun q => (zX6 g a q.2)) := by
  intro sz
  refine vx_ofW (cc := cX6_again) (maxL := 1) (ret := (some .int)) (by decide) rfl ?_
  intro p e s m args below meth c s₁ B hml htab hv
  obtain ⟨rfl, ⟨hsz, hP, hK, hD0⟩, hKx, hZs⟩ := hv
  have hx := B.exec
  have hb := B.bytes
  have hr0 := B.returns
  have hts := atoms_spec (ws := (zw yX6_again cX6_again 1 (some .int))) B.pre
  have hw0 : ∀ w ∈ zW, w.before ([.ref (a 0)] : List Value).toArray s = true := fun w h => hts w (List.mem_cons_of_mem _ h)
  have hown : s.vm.findClass RX6 = some m.cls := findClass_of_methodNamed B.named
  have hlocks := B.notSynchronized
  subst hsz
  have hD := hD0.self (sz := s.heap.size)
  generalize hAe : va_A (zX6 g a v) s.heap.size = A at hD hZs ⊢
  have hA : ∀ q : Nat, s.heap.size ≤ q → A q := fun q h => by rw [← hAe]; exact Or.inr h
  have hS : va_S A s.heap s.heap [] := va_S.rf
  unfold f_X6_again at hf
  have hl := lv_entry ([.ref (a 0)]) (n := 1) (Nat.le_of_ble_eq_true rfl)
  rw [lg_entry_eq]
  generalize (lg_sl ([.ref (a 0)]) ++ List.replicate (1 - (lg_sl ([.ref (a 0)])).length) Slot.unset).toArray = ls at hl ⊢
  have hl : lv_has ls 1 [(0, .ref (a 0))] := hl
  refine lv_aload_n hx hb dX6_again_0 rfl (lv_at hl 0 rfl) ?_
  refine va_get (D := g.1) (ci := 6) (v := .ref (a 1)) (C := RX6) (T := TX6) (N := 5) hx hb hw0 ziX6 hown hK.1 hP 0 rfl rfl 0 (by decide) (hw0 _ zm1_202) (fun _ h9 => h9) rfl dX6_again_1 ?_
  refine va_getN (D := g.1) (ci := 2) (v := .int (zb v.1.2.2.2.2.1)) (C := RX2) (T := TX2) (N := 11) hx hb hw0 ziX2 hown hK.1 hP 1 rfl rfl 4 (by decide) (va_Nw.use rfl (zf_22 hK)) (fun _ h9 => h9) rfl dX6_again_4 ?_
  refine lv_if_ne (tgt := 20) hx hb dX6_again_7 (by decide) (fun c1 => ?_) (fun c1 => ?_)
  · have hf := oe hf c1
    refine lv_aload_n hx hb dX6_again_20 rfl (lv_at hl 0 rfl) ?_
    obtain ⟨u2, hu2, hf⟩ := ob hf
    refine zk_vA (va_runV (As := []) (rest := []) ⟨hx, hb, hml, hown, hts⟩ (c_X6_save l g a v _ hu2 _) (zcV hw0 zm2_85 zm2_88 zm1_1 zm2_87 zs1_1 hd_X6_save rfl rfl ⟨Nat.le_of_ble_eq_true rfl, Nat.le_of_ble_eq_true rfl⟩) ⟨zblind, zrecvA hK hP (ci := 6) rfl rfl, zpreA hK hP hD⟩ rfl rfl hl.1 rfl (lv_room (Nat.le_of_ble_eq_true rfl)) dX6_again_21 ⟨Nat.zero_le _, Nat.zero_le _⟩) hP hD hS hA (fun H locs hP hD hS => ?_)
    have hP : va_P g.1 vwCl (zX6 g a u2) H := hP
    have hD : va_D A (zX6 g a u2) := hD
    refine lv_aload_n hx hb dX6_again_24 rfl (lv_at hl 0 rfl) ?_
    refine va_get (D := g.1) (ci := 6) (v := .ref (a 1)) (C := RX6) (T := TX6) (N := 5) hx hb hw0 ziX6 hown hK.1 hP 0 rfl rfl 0 (by decide) (hw0 _ zm1_202) (fun _ h9 => h9) rfl dX6_again_25 ?_
    obtain ⟨u3, hu3, hf⟩ := ob hf
    refine zk_vZ (va_runVN (As := []) (rest := []) ⟨hx, hb, hml, hown, hts⟩ (c_X2_beginAnew l g (fun k => a (k + 1)) u2.1 _ hu3 _) (zcN hw0 (zn_24 hK) zm2_239 zm1_2 zm2_238 zs2_5 hd_X2_beginAnew rfl rfl ⟨Nat.le_of_ble_eq_true rfl, Nat.le_of_ble_eq_true rfl⟩) ⟨zblind, zrecv (wc := zX2 g (fun k => a (k + 1)) u2.1) hK hP [1, 2, 3, 4, 5, 6, 7, 8, 9, 10, 11, 12, 13, 14, 15, 16, 17, 18] rfl (ci := 2) rfl rfl, zpre hK hP hD [1, 2, 3, 4, 5, 6, 7, 8, 9, 10, 11, 12, 13, 14, 15, 16, 17, 18] rfl rfl⟩ rfl rfl hl.1 rfl (lv_room (Nat.le_of_ble_eq_true rfl)) dX6_again_28 ⟨Nat.zero_le _, Nat.zero_le _⟩) hP hD hS hA [1, 2, 3, 4, 5, 6, 7, 8, 9, 10, 11, 12, 13, 14, 15, 16, 17, 18] rfl rfl (zrun (wc := zX2 g (fun k => a (k + 1)) u2.1) (ws' := zX6 g a (u3, u2.2.1, u2.2.2.1, u2.2.2.2.1, u2.2.2.2.2)) 1 18 rfl rfl rfl rfl rfl) (fun H locs hP hD hS => ?_)
    have hP : va_P g.1 vwCl (zX6 g a (u3, u2.2.1, u2.2.2.1, u2.2.2.2.1, u2.2.2.2.2)) H := hP
    have hD : va_D A (zX6 g a (u3, u2.2.1, u2.2.2.1, u2.2.2.2.1, u2.2.2.2.2)) := hD
    refine lv_aload_n hx hb dX6_again_31 rfl (lv_at hl 0 rfl) ?_
    refine va_get (D := g.1) (ci := 6) (v := .ref (a 1)) (C := RX6) (T := TX6) (N := 5) hx hb hw0 ziX6 hown hK.1 hP 0 rfl rfl 0 (by decide) (hw0 _ zm1_202) (fun _ h9 => h9) rfl dX6_again_32 ?_
    refine lv_dup hx hb dX6_again_35 rfl ?_
    refine va_getN (D := g.1) (ci := 2) (v := .int u3.2.2.2.2.2.2.2.1) (C := RX2) (T := TX2) (N := 11) hx hb hw0 ziX2 hown hK.1 hP 1 rfl rfl 7 (by decide) (va_Nw.use rfl (zf_24 hK)) (fun _ h9 => h9) rfl dX6_again_36 ?_
    refine lv_iconst (v := 1) hx hb dX6_again_39 (by decide) ?_
    refine lv_iadd hx hb dX6_again_40 ?_
    refine va_putN (D := g.1) (ci := 2) (v := .int (u3.2.2.2.2.2.2.2.1 + 1)) (ty := .int) (C := RX2) (T := TX2) (N := 11) hx hb hw0 ziX2 tyX2 tyX2_ok nmX2 hown hK.1 hP hD hS 1 rfl rfl 7 (by decide) (va_Nw.use rfl (zf_24 hK)) (fun _ h9 => h9) rfl (tyX2_ok 7 (by decide)) rfl rfl (Nat.le_of_ble_eq_true rfl) dX6_again_41 (fun H locs hP hD hS => ?_)
    have hP : va_P g.1 vwCl (zX6 g a ((u3.1, u3.2.1, u3.2.2.1, u3.2.2.2.1, u3.2.2.2.2.1, u3.2.2.2.2.2.1, u3.2.2.2.2.2.2.1, (u3.2.2.2.2.2.2.2.1 + 1), u3.2.2.2.2.2.2.2.2.1, u3.2.2.2.2.2.2.2.2.2.1, u3.2.2.2.2.2.2.2.2.2.2), u2.2.1, u2.2.2.1, u2.2.2.2.1, u2.2.2.2.2)) H := hP
    have hD : va_D A (zX6 g a ((u3.1, u3.2.1, u3.2.2.1, u3.2.2.2.1, u3.2.2.2.2.1, u3.2.2.2.2.2.1, u3.2.2.2.2.2.2.1, (u3.2.2.2.2.2.2.2.1 + 1), u3.2.2.2.2.2.2.2.2.1, u3.2.2.2.2.2.2.2.2.2.1, u3.2.2.2.2.2.2.2.2.2.2), u2.2.1, u2.2.2.1, u2.2.2.2.1, u2.2.2.2.2)) := hD
    refine lv_aload_n hx hb dX6_again_44 rfl (lv_at hl 0 rfl) ?_
    refine va_get (D := g.1) (ci := 6) (v := .ref (a 1)) (C := RX6) (T := TX6) (N := 5) hx hb hw0 ziX6 hown hK.1 hP 0 rfl rfl 0 (by decide) (hw0 _ zm1_202) (fun _ h9 => h9) rfl dX6_again_45 ?_
    refine va_getN (D := g.1) (ci := 2) (v := .int (u3.2.2.2.2.2.2.2.1 + 1)) (C := RX2) (T := TX2) (N := 11) hx hb hw0 ziX2 hown hK.1 hP 1 rfl rfl 7 (by decide) (va_Nw.use rfl (zf_24 hK)) (fun _ h9 => h9) rfl dX6_again_48 ?_
    have hR : (Sum.inr ((u3.2.2.2.2.2.2.2.1 + 1), ((u3.1, u3.2.1, u3.2.2.1, u3.2.2.2.1, u3.2.2.2.2.1, u3.2.2.2.2.2.1, u3.2.2.2.2.2.2.1, (u3.2.2.2.2.2.2.2.1 + 1), u3.2.2.2.2.2.2.2.2.1, u3.2.2.2.2.2.2.2.2.2.1, u3.2.2.2.2.2.2.2.2.2.2), u2.2.1, u2.2.2.1, u2.2.2.2.1, u2.2.2.2.2)) : Nat ⊕ (Int32 × CV)) = r := Option.some.inj hf
    subst hR
    refine W.widen (k := 1) (n := 6) (Nat.zero_le _) (Nat.zero_le _) ?_
    exact vx_ret (W.iret (v := (u3.2.2.2.2.2.2.2.1 + 1)) hx hb hr0 (fun t ht hW => ⟨⟨(u3.2.2.2.2.2.2.2.1 + 1), (), rfl, ⟨_, rfl, rfl⟩, _, rfl, by rw [ht]; exact hP, hD⟩, hS.F ht⟩) hS.2.2 dX6_again_51)
  · have hf := oi hf c1
    have hR : (Sum.inl 2 : Nat ⊕ (Int32 × CV)) = r := Option.some.inj hf
    exact zthrow (ik := 58) (is := 127) (ic := 62) (text := "the hour is not over") (k := 2) hx hb hst9 hown (hw0 _ zm2_69) (hw0 _ zm1_13) (hKx.2 ("HourClock", 127, "the hour is not over") (by decide +kernel)) hKx.1 hw0 zx_w2 zx_b2 zx_o2 hZs (by decide +kernel) (by decide +kernel) hP hD hS (hl.1.trans hml.symm) htab dX6_again_10 dX6_again_13 dX6_again_14 dX6_again_16 dX6_again_19 (by decide) (by decide) (Nat.le_of_ble_eq_true rfl) (Nat.le_of_ble_eq_true rfl) hlocks hR.symm rfl
def fn_X6_again (v : CV) : Option (Int32 × CV) :=
  if (zb v.1.2.2.2.2.1) = 0 then
    none
  else
    (f_X6_save v).bind (fun u2 =>
    (f_X2_beginAnew u2.1).bind (fun u3 =>
    some ((u3.2.2.2.2.2.2.2.1 + 1), ((u3.1, u3.2.1, u3.2.2.1, u3.2.2.2.1, u3.2.2.2.2.1, u3.2.2.2.2.2.1, u3.2.2.2.2.2.2.1, (u3.2.2.2.2.2.2.2.1 + 1), u3.2.2.2.2.2.2.2.2.1, u3.2.2.2.2.2.2.2.2.2.1, u3.2.2.2.2.2.2.2.2.2.2), u2.2.1, u2.2.2.1, u2.2.2.2.1, u2.2.2.2.2))))
set_option maxHeartbeats 4000000 in
set_option maxRecDepth 100000 in
theorem cn_X6_again (l : Launch) (g : zG) (a : Nat → Nat) (v : CV) (r : Int32 × CV) (hf : fn_X6_again v = some r) : zMi zNF zNM l yX6_again (zw yX6_again cX6_again 1 (some .int)) ({ frames := 4, cells := 0, slots := 0, locals := 102 } : Room) g [.ref (a 0)] (zX6 g a v) r.1 (zX6 g a r.2) := by
  intro sz
  refine Met.ofW (cc := cX6_again) (maxL := 1) (ret := (some .int)) (by decide) rfl ?_
  intro p e s m args below meth c s₁ B hml hv
  obtain ⟨rfl, hsz, hP, hK, hD0⟩ := hv
  have hx := B.exec
  have hb := B.bytes
  have hr0 := B.returns
  have hts := atoms_spec (ws := (zw yX6_again cX6_again 1 (some .int))) B.pre
  have hw0 : ∀ w ∈ zW, w.before ([.ref (a 0)] : List Value).toArray s = true := fun w h => hts w (List.mem_cons_of_mem _ h)
  have hown : s.vm.findClass RX6 = some m.cls := findClass_of_methodNamed B.named
  have hlocks := B.notSynchronized
  subst hsz
  have hD := hD0.self (sz := s.heap.size)
  generalize hAe : va_A (zX6 g a v) s.heap.size = A at hD ⊢
  have hA : ∀ q : Nat, s.heap.size ≤ q → A q := fun q h => by rw [← hAe]; exact Or.inr h
  have hS : va_S A s.heap s.heap [] := va_S.rf
  unfold fn_X6_again at hf
  have hl := lv_entry ([.ref (a 0)]) (n := 1) (Nat.le_of_ble_eq_true rfl)
  rw [lg_entry_eq]
  generalize (lg_sl ([.ref (a 0)]) ++ List.replicate (1 - (lg_sl ([.ref (a 0)])).length) Slot.unset).toArray = ls at hl ⊢
  have hl : lv_has ls 1 [(0, .ref (a 0))] := hl
  refine lv_aload_n hx hb dX6_again_0 rfl (lv_at hl 0 rfl) ?_
  refine va_get (D := g.1) (ci := 6) (v := .ref (a 1)) (C := RX6) (T := TX6) (N := 5) hx hb hw0 ziX6 hown hK.1 hP 0 rfl rfl 0 (by decide) (hw0 _ zm1_202) (fun _ h9 => h9) rfl dX6_again_1 ?_
  refine va_getN (D := g.1) (ci := 2) (v := .int (zb v.1.2.2.2.2.1)) (C := RX2) (T := TX2) (N := 11) hx hb hw0 ziX2 hown hK.1 hP 1 rfl rfl 4 (by decide) (va_Nw.use rfl (zf_22 hK)) (fun _ h9 => h9) rfl dX6_again_4 ?_
  refine lv_if_ne (tgt := 20) hx hb dX6_again_7 (by decide) (fun c1 => ?_) (fun c1 => ?_)
  · have hf := oe hf c1
    refine lv_aload_n hx hb dX6_again_20 rfl (lv_at hl 0 rfl) ?_
    obtain ⟨u2, hu2, hf⟩ := ob hf
    refine zk_vA (va_runV (As := []) (rest := []) ⟨hx, hb, hml, hown, hts⟩ (c_X6_save l g a v _ hu2 _) (zcV hw0 zm2_85 zm2_88 zm1_1 zm2_87 zs1_1 hd_X6_save rfl rfl ⟨Nat.le_of_ble_eq_true rfl, Nat.le_of_ble_eq_true rfl⟩) ⟨zblind, zrecvA hK hP (ci := 6) rfl rfl, zpreA hK hP hD⟩ rfl rfl hl.1 rfl (lv_room (Nat.le_of_ble_eq_true rfl)) dX6_again_21 ⟨Nat.zero_le _, Nat.zero_le _⟩) hP hD hS hA (fun H locs hP hD hS => ?_)
    have hP : va_P g.1 vwCl (zX6 g a u2) H := hP
    have hD : va_D A (zX6 g a u2) := hD
    refine lv_aload_n hx hb dX6_again_24 rfl (lv_at hl 0 rfl) ?_
    refine va_get (D := g.1) (ci := 6) (v := .ref (a 1)) (C := RX6) (T := TX6) (N := 5) hx hb hw0 ziX6 hown hK.1 hP 0 rfl rfl 0 (by decide) (hw0 _ zm1_202) (fun _ h9 => h9) rfl dX6_again_25 ?_
    obtain ⟨u3, hu3, hf⟩ := ob hf
    refine zk_vZ (va_runVN (As := []) (rest := []) ⟨hx, hb, hml, hown, hts⟩ (c_X2_beginAnew l g (fun k => a (k + 1)) u2.1 _ hu3 _) (zcN hw0 (zn_24 hK) zm2_239 zm1_2 zm2_238 zs2_5 hd_X2_beginAnew rfl rfl ⟨Nat.le_of_ble_eq_true rfl, Nat.le_of_ble_eq_true rfl⟩) ⟨zblind, zrecv (wc := zX2 g (fun k => a (k + 1)) u2.1) hK hP [1, 2, 3, 4, 5, 6, 7, 8, 9, 10, 11, 12, 13, 14, 15, 16, 17, 18] rfl (ci := 2) rfl rfl, zpre hK hP hD [1, 2, 3, 4, 5, 6, 7, 8, 9, 10, 11, 12, 13, 14, 15, 16, 17, 18] rfl rfl⟩ rfl rfl hl.1 rfl (lv_room (Nat.le_of_ble_eq_true rfl)) dX6_again_28 ⟨Nat.zero_le _, Nat.zero_le _⟩) hP hD hS hA [1, 2, 3, 4, 5, 6, 7, 8, 9, 10, 11, 12, 13, 14, 15, 16, 17, 18] rfl rfl (zrun (wc := zX2 g (fun k => a (k + 1)) u2.1) (ws' := zX6 g a (u3, u2.2.1, u2.2.2.1, u2.2.2.2.1, u2.2.2.2.2)) 1 18 rfl rfl rfl rfl rfl) (fun H locs hP hD hS => ?_)
    have hP : va_P g.1 vwCl (zX6 g a (u3, u2.2.1, u2.2.2.1, u2.2.2.2.1, u2.2.2.2.2)) H := hP
    have hD : va_D A (zX6 g a (u3, u2.2.1, u2.2.2.1, u2.2.2.2.1, u2.2.2.2.2)) := hD
    refine lv_aload_n hx hb dX6_again_31 rfl (lv_at hl 0 rfl) ?_
    refine va_get (D := g.1) (ci := 6) (v := .ref (a 1)) (C := RX6) (T := TX6) (N := 5) hx hb hw0 ziX6 hown hK.1 hP 0 rfl rfl 0 (by decide) (hw0 _ zm1_202) (fun _ h9 => h9) rfl dX6_again_32 ?_
    refine lv_dup hx hb dX6_again_35 rfl ?_
    refine va_getN (D := g.1) (ci := 2) (v := .int u3.2.2.2.2.2.2.2.1) (C := RX2) (T := TX2) (N := 11) hx hb hw0 ziX2 hown hK.1 hP 1 rfl rfl 7 (by decide) (va_Nw.use rfl (zf_24 hK)) (fun _ h9 => h9) rfl dX6_again_36 ?_
    refine lv_iconst (v := 1) hx hb dX6_again_39 (by decide) ?_
    refine lv_iadd hx hb dX6_again_40 ?_
    refine va_putN (D := g.1) (ci := 2) (v := .int (u3.2.2.2.2.2.2.2.1 + 1)) (ty := .int) (C := RX2) (T := TX2) (N := 11) hx hb hw0 ziX2 tyX2 tyX2_ok nmX2 hown hK.1 hP hD hS 1 rfl rfl 7 (by decide) (va_Nw.use rfl (zf_24 hK)) (fun _ h9 => h9) rfl (tyX2_ok 7 (by decide)) rfl rfl (Nat.le_of_ble_eq_true rfl) dX6_again_41 (fun H locs hP hD hS => ?_)
    have hP : va_P g.1 vwCl (zX6 g a ((u3.1, u3.2.1, u3.2.2.1, u3.2.2.2.1, u3.2.2.2.2.1, u3.2.2.2.2.2.1, u3.2.2.2.2.2.2.1, (u3.2.2.2.2.2.2.2.1 + 1), u3.2.2.2.2.2.2.2.2.1, u3.2.2.2.2.2.2.2.2.2.1, u3.2.2.2.2.2.2.2.2.2.2), u2.2.1, u2.2.2.1, u2.2.2.2.1, u2.2.2.2.2)) H := hP
    have hD : va_D A (zX6 g a ((u3.1, u3.2.1, u3.2.2.1, u3.2.2.2.1, u3.2.2.2.2.1, u3.2.2.2.2.2.1, u3.2.2.2.2.2.2.1, (u3.2.2.2.2.2.2.2.1 + 1), u3.2.2.2.2.2.2.2.2.1, u3.2.2.2.2.2.2.2.2.2.1, u3.2.2.2.2.2.2.2.2.2.2), u2.2.1, u2.2.2.1, u2.2.2.2.1, u2.2.2.2.2)) := hD
    refine lv_aload_n hx hb dX6_again_44 rfl (lv_at hl 0 rfl) ?_
    refine va_get (D := g.1) (ci := 6) (v := .ref (a 1)) (C := RX6) (T := TX6) (N := 5) hx hb hw0 ziX6 hown hK.1 hP 0 rfl rfl 0 (by decide) (hw0 _ zm1_202) (fun _ h9 => h9) rfl dX6_again_45 ?_
    refine va_getN (D := g.1) (ci := 2) (v := .int (u3.2.2.2.2.2.2.2.1 + 1)) (C := RX2) (T := TX2) (N := 11) hx hb hw0 ziX2 hown hK.1 hP 1 rfl rfl 7 (by decide) (va_Nw.use rfl (zf_24 hK)) (fun _ h9 => h9) rfl dX6_again_48 ?_
    have hR : ((u3.2.2.2.2.2.2.2.1 + 1), ((u3.1, u3.2.1, u3.2.2.1, u3.2.2.2.1, u3.2.2.2.2.1, u3.2.2.2.2.2.1, u3.2.2.2.2.2.2.1, (u3.2.2.2.2.2.2.2.1 + 1), u3.2.2.2.2.2.2.2.2.1, u3.2.2.2.2.2.2.2.2.2.1, u3.2.2.2.2.2.2.2.2.2.2), u2.2.1, u2.2.2.1, u2.2.2.2.1, u2.2.2.2.2)) = r := Option.some.inj hf
    subst hR
    exact W.iret (v := (u3.2.2.2.2.2.2.2.1 + 1)) hx hb hr0 (fun t ht hW => ⟨⟨(u3.2.2.2.2.2.2.2.1 + 1), (), rfl, rfl, by rw [ht]; exact hP, hD⟩, hS.F ht⟩) hS.2.2 dX6_again_51
  · have hf := oi hf c1
    exact absurd hf (by simp)
theorem hd_X6_element : yX6_element.cls ≠ "java/lang/invoke/MethodHandle" ∧ yX6_element.cls ≠ "java/lang/invoke/VarHandle" ∧ (parseMethodDescriptor yX6_element.desc).map (fun d => d.parameters.length) = some 2 := by decide +kernel
def f_X6_element (v : CV) (p0 : Int32) (p1 : Int32) : Option (Nat ⊕ (Int32)) :=
  (f_X0_has v.1.1 p0).bind (fun u1 =>
  if (zb u1) = 0 then
    some (.inl 3)
  else
    if p1 < 0 then
      some (.inl 1)
    else
      if p1 ≤ 6 then
        (f_X0_tell v.1.1 p0 p1).bind (fun u5 =>
        some (.inr u5))
      else
        some (.inl 1))
set_option maxHeartbeats 4000000 in
set_option maxRecDepth 100000 in
theorem c_X6_element (l : Launch) (hst9 : l.stackTraces = false) (g : zG) (a : Nat → Nat) (v : CV) (p0 : Int32) (p1 : Int32) (r : Nat ⊕ (Int32)) (hf : f_X6_element v p0 p1 = some r) : zMx zNF zNM l yX6_element (zw yX6_element cX6_element 3 (some .int)) ({ frames := 6, cells := 1, slots := 6, locals := 107 } : Room) g [.ref (a 0), .int p0, .int p1] (zX6 g a v) r (fun q => q) (fun q => (zX6 g a v)) := by
  intro sz
  refine vx_ofW (cc := cX6_element) (maxL := 3) (ret := (some .int)) (by decide) rfl ?_
  intro p e s m args below meth c s₁ B hml htab hv
  obtain ⟨rfl, ⟨hsz, hP, hK, hD0⟩, hKx, hZs⟩ := hv
  have hx := B.exec
  have hb := B.bytes
  have hr0 := B.returns
  have hts := atoms_spec (ws := (zw yX6_element cX6_element 3 (some .int))) B.pre
  have hw0 : ∀ w ∈ zW, w.before ([.ref (a 0), .int p0, .int p1] : List Value).toArray s = true := fun w h => hts w (List.mem_cons_of_mem _ h)
  have hown : s.vm.findClass RX6 = some m.cls := findClass_of_methodNamed B.named
  have hlocks := B.notSynchronized
  subst hsz
  have hD := hD0.self (sz := s.heap.size)
  generalize hAe : va_A (zX6 g a v) s.heap.size = A at hD hZs ⊢
  have hA : ∀ q : Nat, s.heap.size ≤ q → A q := fun q h => by rw [← hAe]; exact Or.inr h
  have hS : va_S A s.heap s.heap [] := va_S.rf
  unfold f_X6_element at hf
  have hl := lv_entry ([.ref (a 0), .int p0, .int p1]) (n := 3) (Nat.le_of_ble_eq_true rfl)
  rw [lg_entry_eq]
  generalize (lg_sl ([.ref (a 0), .int p0, .int p1]) ++ List.replicate (3 - (lg_sl ([.ref (a 0), .int p0, .int p1])).length) Slot.unset).toArray = ls at hl ⊢
  have hl : lv_has ls 3 [(0, .ref (a 0)), (1, .int p0), (2, .int p1)] := hl
  refine lv_aload_n hx hb dX6_element_0 rfl (lv_at hl 0 rfl) ?_
  refine va_get (D := g.1) (ci := 6) (v := .ref (a 1)) (C := RX6) (T := TX6) (N := 5) hx hb hw0 ziX6 hown hK.1 hP 0 rfl rfl 0 (by decide) (hw0 _ zm1_202) (fun _ h9 => h9) rfl dX6_element_1 ?_
  refine va_getN (D := g.1) (ci := 2) (v := .ref (a 2)) (C := RX2) (T := TX2) (N := 11) hx hb hw0 ziX2 hown hK.1 hP 1 rfl rfl 0 (by decide) (va_Nw.use rfl (zf_18 hK)) (fun _ h9 => h9) rfl dX6_element_4 ?_
  refine lv_iload_n hx hb dX6_element_7 rfl (lv_at hl 1 rfl) ?_
  obtain ⟨u1, hu1, hf⟩ := ob hf
  refine zk_iR (va_runVN (As := [.int p0]) (rest := []) ⟨hx, hb, hml, hown, hts⟩ (c_X0_has l g (fun k => a (k + 2)) v.1.1 p0 _ hu1 _) (zcN hw0 (zn_12 hK) zm2_143 zm1_3 zm2_142 zs1_9 hd_X0_has rfl rfl ⟨Nat.le_of_ble_eq_true rfl, Nat.le_of_ble_eq_true rfl⟩) ⟨zblind, zrecv (wc := zX0 g (fun k => a (k + 2)) v.1.1) hK hP [2, 3, 4, 5, 6, 7] rfl (ci := 0) rfl rfl, zpre hK hP hD [2, 3, 4, 5, 6, 7] rfl rfl⟩ rfl rfl hl.1 rfl (lv_room (Nat.le_of_ble_eq_true rfl)) dX6_element_8 ⟨Nat.zero_le _, Nat.zero_le _⟩) hP hD hS hA [2, 3, 4, 5, 6, 7] rfl (fun H locs hP hD hS => ?_)
  refine lv_if_ne (tgt := 24) hx hb dX6_element_11 (by decide) (fun c2 => ?_) (fun c2 => ?_)
  · have hf := oe hf c2
    refine lv_iload_n hx hb dX6_element_24 rfl (lv_at hl 2 rfl) ?_
    refine lv_if_lt (tgt := 34) hx hb dX6_element_25 (by decide) (fun c3 => ?_) (fun c3 => ?_)
    · have hf := oi hf c3
      have hR : (Sum.inl 1 : Nat ⊕ (Int32)) = r := Option.some.inj hf
      exact zthrow (ik := 34) (is := 135) (ic := 38) (text := "what") (k := 1) hx hb hst9 hown (hw0 _ zm1_239) (hw0 _ zm1_11) (hKx.2 ("HourClock", 135, "what") (by decide +kernel)) hKx.1 hw0 zx_w1 zx_b1 zx_o1 hZs (by decide +kernel) (by decide +kernel) hP hD hS (hl.1.trans hml.symm) htab dX6_element_34 dX6_element_37 dX6_element_38 dX6_element_40 dX6_element_43 (by decide) (by decide) (Nat.le_of_ble_eq_true rfl) (Nat.le_of_ble_eq_true rfl) hlocks hR.symm rfl
    · have hf := oe hf c3
      refine lv_iload_n hx hb dX6_element_28 rfl (lv_at hl 2 rfl) ?_
      refine lv_bipush (v := 6) hx hb dX6_element_29 (by decide) ?_
      refine lv_icmp_le (tgt := 44) hx hb dX6_element_31 (by decide) (fun c4 => ?_) (fun c4 => ?_)
      · have hf := oi hf c4
        refine lv_aload_n hx hb dX6_element_44 rfl (lv_at hl 0 rfl) ?_
        refine va_get (D := g.1) (ci := 6) (v := .ref (a 1)) (C := RX6) (T := TX6) (N := 5) hx hb hw0 ziX6 hown hK.1 hP 0 rfl rfl 0 (by decide) (hw0 _ zm1_202) (fun _ h9 => h9) rfl dX6_element_45 ?_
        refine va_getN (D := g.1) (ci := 2) (v := .ref (a 2)) (C := RX2) (T := TX2) (N := 11) hx hb hw0 ziX2 hown hK.1 hP 1 rfl rfl 0 (by decide) (va_Nw.use rfl (zf_18 hK)) (fun _ h9 => h9) rfl dX6_element_48 ?_
        refine lv_iload_n hx hb dX6_element_51 rfl (lv_at hl 1 rfl) ?_
        refine lv_iload_n hx hb dX6_element_52 rfl (lv_at hl 2 rfl) ?_
        obtain ⟨u5, hu5, hf⟩ := ob hf
        refine zk_iR (va_runVN (As := [.int p0, .int p1]) (rest := []) ⟨hx, hb, hml, hown, hts⟩ (c_X0_tell l g (fun k => a (k + 2)) v.1.1 p0 p1 _ hu5 _) (zcN hw0 (zn_40 hK) zm3_166 zm1_3 zm3_165 zs3_13 hd_X0_tell rfl rfl ⟨Nat.le_of_ble_eq_true rfl, Nat.le_of_ble_eq_true rfl⟩) ⟨zblind, zrecv (wc := zX0 g (fun k => a (k + 2)) v.1.1) hK hP [2, 3, 4, 5, 6, 7] rfl (ci := 0) rfl rfl, zpre hK hP hD [2, 3, 4, 5, 6, 7] rfl rfl⟩ rfl rfl hl.1 rfl (lv_room (Nat.le_of_ble_eq_true rfl)) dX6_element_53 ⟨Nat.zero_le _, Nat.zero_le _⟩) hP hD hS hA [2, 3, 4, 5, 6, 7] rfl (fun H locs hP hD hS => ?_)
        have hR : (Sum.inr u5 : Nat ⊕ (Int32)) = r := Option.some.inj hf
        subst hR
        refine W.widen (k := 1) (n := 6) (Nat.zero_le _) (Nat.zero_le _) ?_
        exact vx_ret (W.iret (v := u5) hx hb hr0 (fun t ht hW => ⟨⟨u5, (), rfl, ⟨_, rfl, rfl⟩, _, rfl, by rw [ht]; exact hP, hD⟩, hS.F ht⟩) hS.2.2 dX6_element_56)
      · have hf := oe hf c4
        have hR : (Sum.inl 1 : Nat ⊕ (Int32)) = r := Option.some.inj hf
        exact zthrow (ik := 34) (is := 135) (ic := 38) (text := "what") (k := 1) hx hb hst9 hown (hw0 _ zm1_239) (hw0 _ zm1_11) (hKx.2 ("HourClock", 135, "what") (by decide +kernel)) hKx.1 hw0 zx_w1 zx_b1 zx_o1 hZs (by decide +kernel) (by decide +kernel) hP hD hS (hl.1.trans hml.symm) htab dX6_element_34 dX6_element_37 dX6_element_38 dX6_element_40 dX6_element_43 (by decide) (by decide) (Nat.le_of_ble_eq_true rfl) (Nat.le_of_ble_eq_true rfl) hlocks hR.symm rfl
  · have hf := oi hf c2
    have hR : (Sum.inl 3 : Nat ⊕ (Int32)) = r := Option.some.inj hf
    exact zthrow (ik := 86) (is := 88) (ic := 90) (text := "element") (k := 3) hx hb hst9 hown (hw0 _ zm2_144) (hw0 _ zm1_12) (hKx.2 ("HourClock", 88, "element") (by decide +kernel)) hKx.1 hw0 zx_w3 zx_b3 zx_o3 hZs (by decide +kernel) (by decide +kernel) hP hD hS (hl.1.trans hml.symm) htab dX6_element_14 dX6_element_17 dX6_element_18 dX6_element_20 dX6_element_23 (by decide) (by decide) (Nat.le_of_ble_eq_true rfl) (Nat.le_of_ble_eq_true rfl) hlocks hR.symm rfl
def fn_X6_element (v : CV) (p0 : Int32) (p1 : Int32) : Option (Int32) :=
  (f_X0_has v.1.1 p0).bind (fun u1 =>
  if (zb u1) = 0 then
    none
  else
    if p1 < 0 then
      none
    else
      if p1 ≤ 6 then
        (f_X0_tell v.1.1 p0 p1).bind (fun u5 =>
        some u5)
      else
        none)
set_option maxHeartbeats 4000000 in
set_option maxRecDepth 100000 in
theorem cn_X6_element (l : Launch) (g : zG) (a : Nat → Nat) (v : CV) (p0 : Int32) (p1 : Int32) (r : Int32) (hf : fn_X6_element v p0 p1 = some r) : zMi zNF zNM l yX6_element (zw yX6_element cX6_element 3 (some .int)) ({ frames := 5, cells := 0, slots := 0, locals := 107 } : Room) g [.ref (a 0), .int p0, .int p1] (zX6 g a v) r (zX6 g a v) := by
  intro sz
  refine Met.ofW (cc := cX6_element) (maxL := 3) (ret := (some .int)) (by decide) rfl ?_
  intro p e s m args below meth c s₁ B hml hv
  obtain ⟨rfl, hsz, hP, hK, hD0⟩ := hv
  have hx := B.exec
  have hb := B.bytes
  have hr0 := B.returns
  have hts := atoms_spec (ws := (zw yX6_element cX6_element 3 (some .int))) B.pre
  have hw0 : ∀ w ∈ zW, w.before ([.ref (a 0), .int p0, .int p1] : List Value).toArray s = true := fun w h => hts w (List.mem_cons_of_mem _ h)
  have hown : s.vm.findClass RX6 = some m.cls := findClass_of_methodNamed B.named
  have hlocks := B.notSynchronized
  subst hsz
  have hD := hD0.self (sz := s.heap.size)
  generalize hAe : va_A (zX6 g a v) s.heap.size = A at hD ⊢
  have hA : ∀ q : Nat, s.heap.size ≤ q → A q := fun q h => by rw [← hAe]; exact Or.inr h
  have hS : va_S A s.heap s.heap [] := va_S.rf
  unfold fn_X6_element at hf
  have hl := lv_entry ([.ref (a 0), .int p0, .int p1]) (n := 3) (Nat.le_of_ble_eq_true rfl)
  rw [lg_entry_eq]
  generalize (lg_sl ([.ref (a 0), .int p0, .int p1]) ++ List.replicate (3 - (lg_sl ([.ref (a 0), .int p0, .int p1])).length) Slot.unset).toArray = ls at hl ⊢
  have hl : lv_has ls 3 [(0, .ref (a 0)), (1, .int p0), (2, .int p1)] := hl
  refine lv_aload_n hx hb dX6_element_0 rfl (lv_at hl 0 rfl) ?_
  refine va_get (D := g.1) (ci := 6) (v := .ref (a 1)) (C := RX6) (T := TX6) (N := 5) hx hb hw0 ziX6 hown hK.1 hP 0 rfl rfl 0 (by decide) (hw0 _ zm1_202) (fun _ h9 => h9) rfl dX6_element_1 ?_
  refine va_getN (D := g.1) (ci := 2) (v := .ref (a 2)) (C := RX2) (T := TX2) (N := 11) hx hb hw0 ziX2 hown hK.1 hP 1 rfl rfl 0 (by decide) (va_Nw.use rfl (zf_18 hK)) (fun _ h9 => h9) rfl dX6_element_4 ?_
  refine lv_iload_n hx hb dX6_element_7 rfl (lv_at hl 1 rfl) ?_
  obtain ⟨u1, hu1, hf⟩ := ob hf
  refine zk_iR (va_runVN (As := [.int p0]) (rest := []) ⟨hx, hb, hml, hown, hts⟩ (c_X0_has l g (fun k => a (k + 2)) v.1.1 p0 _ hu1 _) (zcN hw0 (zn_12 hK) zm2_143 zm1_3 zm2_142 zs1_9 hd_X0_has rfl rfl ⟨Nat.le_of_ble_eq_true rfl, Nat.le_of_ble_eq_true rfl⟩) ⟨zblind, zrecv (wc := zX0 g (fun k => a (k + 2)) v.1.1) hK hP [2, 3, 4, 5, 6, 7] rfl (ci := 0) rfl rfl, zpre hK hP hD [2, 3, 4, 5, 6, 7] rfl rfl⟩ rfl rfl hl.1 rfl (lv_room (Nat.le_of_ble_eq_true rfl)) dX6_element_8 ⟨Nat.zero_le _, Nat.zero_le _⟩) hP hD hS hA [2, 3, 4, 5, 6, 7] rfl (fun H locs hP hD hS => ?_)
  refine lv_if_ne (tgt := 24) hx hb dX6_element_11 (by decide) (fun c2 => ?_) (fun c2 => ?_)
  · have hf := oe hf c2
    refine lv_iload_n hx hb dX6_element_24 rfl (lv_at hl 2 rfl) ?_
    refine lv_if_lt (tgt := 34) hx hb dX6_element_25 (by decide) (fun c3 => ?_) (fun c3 => ?_)
    · have hf := oi hf c3
      exact absurd hf (by simp)
    · have hf := oe hf c3
      refine lv_iload_n hx hb dX6_element_28 rfl (lv_at hl 2 rfl) ?_
      refine lv_bipush (v := 6) hx hb dX6_element_29 (by decide) ?_
      refine lv_icmp_le (tgt := 44) hx hb dX6_element_31 (by decide) (fun c4 => ?_) (fun c4 => ?_)
      · have hf := oi hf c4
        refine lv_aload_n hx hb dX6_element_44 rfl (lv_at hl 0 rfl) ?_
        refine va_get (D := g.1) (ci := 6) (v := .ref (a 1)) (C := RX6) (T := TX6) (N := 5) hx hb hw0 ziX6 hown hK.1 hP 0 rfl rfl 0 (by decide) (hw0 _ zm1_202) (fun _ h9 => h9) rfl dX6_element_45 ?_
        refine va_getN (D := g.1) (ci := 2) (v := .ref (a 2)) (C := RX2) (T := TX2) (N := 11) hx hb hw0 ziX2 hown hK.1 hP 1 rfl rfl 0 (by decide) (va_Nw.use rfl (zf_18 hK)) (fun _ h9 => h9) rfl dX6_element_48 ?_
        refine lv_iload_n hx hb dX6_element_51 rfl (lv_at hl 1 rfl) ?_
        refine lv_iload_n hx hb dX6_element_52 rfl (lv_at hl 2 rfl) ?_
        obtain ⟨u5, hu5, hf⟩ := ob hf
        refine zk_iR (va_runVN (As := [.int p0, .int p1]) (rest := []) ⟨hx, hb, hml, hown, hts⟩ (c_X0_tell l g (fun k => a (k + 2)) v.1.1 p0 p1 _ hu5 _) (zcN hw0 (zn_40 hK) zm3_166 zm1_3 zm3_165 zs3_13 hd_X0_tell rfl rfl ⟨Nat.le_of_ble_eq_true rfl, Nat.le_of_ble_eq_true rfl⟩) ⟨zblind, zrecv (wc := zX0 g (fun k => a (k + 2)) v.1.1) hK hP [2, 3, 4, 5, 6, 7] rfl (ci := 0) rfl rfl, zpre hK hP hD [2, 3, 4, 5, 6, 7] rfl rfl⟩ rfl rfl hl.1 rfl (lv_room (Nat.le_of_ble_eq_true rfl)) dX6_element_53 ⟨Nat.zero_le _, Nat.zero_le _⟩) hP hD hS hA [2, 3, 4, 5, 6, 7] rfl (fun H locs hP hD hS => ?_)
        have hR : u5 = r := Option.some.inj hf
        subst hR
        exact W.iret (v := u5) hx hb hr0 (fun t ht hW => ⟨⟨u5, (), rfl, rfl, by rw [ht]; exact hP, hD⟩, hS.F ht⟩) hS.2.2 dX6_element_56
      · have hf := oe hf c4
        exact absurd hf (by simp)
  · have hf := oi hf c2
    exact absurd hf (by simp)
theorem hd_X6_filler : yX6_filler.cls ≠ "java/lang/invoke/MethodHandle" ∧ yX6_filler.cls ≠ "java/lang/invoke/VarHandle" ∧ (parseMethodDescriptor yX6_filler.desc).map (fun d => d.parameters.length) = some 2 := by decide +kernel
def f_X6_filler (v : CV) (p0 : Int32) (p1 : Int32) : Option (Nat ⊕ (Int32)) :=
  (f_X1_has v.1.2.1 p0).bind (fun u1 =>
  if (zb u1) = 0 then
    some (.inl 3)
  else
    if p1 < 0 then
      some (.inl 1)
    else
      if p1 ≤ 2 then
        (f_X1_tell v.1.2.1 p0 p1).bind (fun u5 =>
        some (.inr u5))
      else
        some (.inl 1))
set_option maxHeartbeats 4000000 in
set_option maxRecDepth 100000 in
theorem c_X6_filler (l : Launch) (hst9 : l.stackTraces = false) (g : zG) (a : Nat → Nat) (v : CV) (p0 : Int32) (p1 : Int32) (r : Nat ⊕ (Int32)) (hf : f_X6_filler v p0 p1 = some r) : zMx zNF zNM l yX6_filler (zw yX6_filler cX6_filler 3 (some .int)) ({ frames := 6, cells := 1, slots := 6, locals := 100 } : Room) g [.ref (a 0), .int p0, .int p1] (zX6 g a v) r (fun q => q) (fun q => (zX6 g a v)) := by
  intro sz
  refine vx_ofW (cc := cX6_filler) (maxL := 3) (ret := (some .int)) (by decide) rfl ?_
  intro p e s m args below meth c s₁ B hml htab hv
  obtain ⟨rfl, ⟨hsz, hP, hK, hD0⟩, hKx, hZs⟩ := hv
  have hx := B.exec
  have hb := B.bytes
  have hr0 := B.returns
  have hts := atoms_spec (ws := (zw yX6_filler cX6_filler 3 (some .int))) B.pre
  have hw0 : ∀ w ∈ zW, w.before ([.ref (a 0), .int p0, .int p1] : List Value).toArray s = true := fun w h => hts w (List.mem_cons_of_mem _ h)
  have hown : s.vm.findClass RX6 = some m.cls := findClass_of_methodNamed B.named
  have hlocks := B.notSynchronized
  subst hsz
  have hD := hD0.self (sz := s.heap.size)
  generalize hAe : va_A (zX6 g a v) s.heap.size = A at hD hZs ⊢
  have hA : ∀ q : Nat, s.heap.size ≤ q → A q := fun q h => by rw [← hAe]; exact Or.inr h
  have hS : va_S A s.heap s.heap [] := va_S.rf
  unfold f_X6_filler at hf
  have hl := lv_entry ([.ref (a 0), .int p0, .int p1]) (n := 3) (Nat.le_of_ble_eq_true rfl)
  rw [lg_entry_eq]
  generalize (lg_sl ([.ref (a 0), .int p0, .int p1]) ++ List.replicate (3 - (lg_sl ([.ref (a 0), .int p0, .int p1])).length) Slot.unset).toArray = ls at hl ⊢
  have hl : lv_has ls 3 [(0, .ref (a 0)), (1, .int p0), (2, .int p1)] := hl
  refine lv_aload_n hx hb dX6_filler_0 rfl (lv_at hl 0 rfl) ?_
  refine va_get (D := g.1) (ci := 6) (v := .ref (a 1)) (C := RX6) (T := TX6) (N := 5) hx hb hw0 ziX6 hown hK.1 hP 0 rfl rfl 0 (by decide) (hw0 _ zm1_202) (fun _ h9 => h9) rfl dX6_filler_1 ?_
  refine va_getN (D := g.1) (ci := 2) (v := .ref (a 8)) (C := RX2) (T := TX2) (N := 11) hx hb hw0 ziX2 hown hK.1 hP 1 rfl rfl 1 (by decide) (va_Nw.use rfl (zf_19 hK)) (fun _ h9 => h9) rfl dX6_filler_4 ?_
  refine lv_iload_n hx hb dX6_filler_7 rfl (lv_at hl 1 rfl) ?_
  obtain ⟨u1, hu1, hf⟩ := ob hf
  refine zk_iR (va_runVN (As := [.int p0]) (rest := []) ⟨hx, hb, hml, hown, hts⟩ (c_X1_has l g (fun k => a (k + 8)) v.1.2.1 p0 _ hu1 _) (zcN hw0 (zn_42 hK) zm2_192 zm1_4 zm2_191 zs2_0 hd_X1_has rfl rfl ⟨Nat.le_of_ble_eq_true rfl, Nat.le_of_ble_eq_true rfl⟩) ⟨zblind, zrecv (wc := zX1 g (fun k => a (k + 8)) v.1.2.1) hK hP [8, 9, 10, 11, 12, 13, 14] rfl (ci := 1) rfl rfl, zpre hK hP hD [8, 9, 10, 11, 12, 13, 14] rfl rfl⟩ rfl rfl hl.1 rfl (lv_room (Nat.le_of_ble_eq_true rfl)) dX6_filler_8 ⟨Nat.zero_le _, Nat.zero_le _⟩) hP hD hS hA [8, 9, 10, 11, 12, 13, 14] rfl (fun H locs hP hD hS => ?_)
  refine lv_if_ne (tgt := 24) hx hb dX6_filler_11 (by decide) (fun c2 => ?_) (fun c2 => ?_)
  · have hf := oe hf c2
    refine lv_iload_n hx hb dX6_filler_24 rfl (lv_at hl 2 rfl) ?_
    refine lv_if_lt (tgt := 33) hx hb dX6_filler_25 (by decide) (fun c3 => ?_) (fun c3 => ?_)
    · have hf := oi hf c3
      have hR : (Sum.inl 1 : Nat ⊕ (Int32)) = r := Option.some.inj hf
      exact zthrow (ik := 34) (is := 135) (ic := 38) (text := "what") (k := 1) hx hb hst9 hown (hw0 _ zm1_239) (hw0 _ zm1_11) (hKx.2 ("HourClock", 135, "what") (by decide +kernel)) hKx.1 hw0 zx_w1 zx_b1 zx_o1 hZs (by decide +kernel) (by decide +kernel) hP hD hS (hl.1.trans hml.symm) htab dX6_filler_33 dX6_filler_36 dX6_filler_37 dX6_filler_39 dX6_filler_42 (by decide) (by decide) (Nat.le_of_ble_eq_true rfl) (Nat.le_of_ble_eq_true rfl) hlocks hR.symm rfl
    · have hf := oe hf c3
      refine lv_iload_n hx hb dX6_filler_28 rfl (lv_at hl 2 rfl) ?_
      refine lv_iconst (v := 2) hx hb dX6_filler_29 (by decide) ?_
      refine lv_icmp_le (tgt := 43) hx hb dX6_filler_30 (by decide) (fun c4 => ?_) (fun c4 => ?_)
      · have hf := oi hf c4
        refine lv_aload_n hx hb dX6_filler_43 rfl (lv_at hl 0 rfl) ?_
        refine va_get (D := g.1) (ci := 6) (v := .ref (a 1)) (C := RX6) (T := TX6) (N := 5) hx hb hw0 ziX6 hown hK.1 hP 0 rfl rfl 0 (by decide) (hw0 _ zm1_202) (fun _ h9 => h9) rfl dX6_filler_44 ?_
        refine va_getN (D := g.1) (ci := 2) (v := .ref (a 8)) (C := RX2) (T := TX2) (N := 11) hx hb hw0 ziX2 hown hK.1 hP 1 rfl rfl 1 (by decide) (va_Nw.use rfl (zf_19 hK)) (fun _ h9 => h9) rfl dX6_filler_47 ?_
        refine lv_iload_n hx hb dX6_filler_50 rfl (lv_at hl 1 rfl) ?_
        refine lv_iload_n hx hb dX6_filler_51 rfl (lv_at hl 2 rfl) ?_
        obtain ⟨u5, hu5, hf⟩ := ob hf
        refine zk_iR (va_runVN (As := [.int p0, .int p1]) (rest := []) ⟨hx, hb, hml, hown, hts⟩ (c_X1_tell l g (fun k => a (k + 8)) v.1.2.1 p0 p1 _ hu5 _) (zcN hw0 (zn_43 hK) zm3_196 zm1_4 zm3_195 zs4_0 hd_X1_tell rfl rfl ⟨Nat.le_of_ble_eq_true rfl, Nat.le_of_ble_eq_true rfl⟩) ⟨zblind, zrecv (wc := zX1 g (fun k => a (k + 8)) v.1.2.1) hK hP [8, 9, 10, 11, 12, 13, 14] rfl (ci := 1) rfl rfl, zpre hK hP hD [8, 9, 10, 11, 12, 13, 14] rfl rfl⟩ rfl rfl hl.1 rfl (lv_room (Nat.le_of_ble_eq_true rfl)) dX6_filler_52 ⟨Nat.zero_le _, Nat.zero_le _⟩) hP hD hS hA [8, 9, 10, 11, 12, 13, 14] rfl (fun H locs hP hD hS => ?_)
        have hR : (Sum.inr u5 : Nat ⊕ (Int32)) = r := Option.some.inj hf
        subst hR
        refine W.widen (k := 1) (n := 6) (Nat.zero_le _) (Nat.zero_le _) ?_
        exact vx_ret (W.iret (v := u5) hx hb hr0 (fun t ht hW => ⟨⟨u5, (), rfl, ⟨_, rfl, rfl⟩, _, rfl, by rw [ht]; exact hP, hD⟩, hS.F ht⟩) hS.2.2 dX6_filler_55)
      · have hf := oe hf c4
        have hR : (Sum.inl 1 : Nat ⊕ (Int32)) = r := Option.some.inj hf
        exact zthrow (ik := 34) (is := 135) (ic := 38) (text := "what") (k := 1) hx hb hst9 hown (hw0 _ zm1_239) (hw0 _ zm1_11) (hKx.2 ("HourClock", 135, "what") (by decide +kernel)) hKx.1 hw0 zx_w1 zx_b1 zx_o1 hZs (by decide +kernel) (by decide +kernel) hP hD hS (hl.1.trans hml.symm) htab dX6_filler_33 dX6_filler_36 dX6_filler_37 dX6_filler_39 dX6_filler_42 (by decide) (by decide) (Nat.le_of_ble_eq_true rfl) (Nat.le_of_ble_eq_true rfl) hlocks hR.symm rfl
  · have hf := oi hf c2
    have hR : (Sum.inl 3 : Nat ⊕ (Int32)) = r := Option.some.inj hf
    exact zthrow (ik := 86) (is := 142) (ic := 90) (text := "filler") (k := 3) hx hb hst9 hown (hw0 _ zm2_144) (hw0 _ zm1_12) (hKx.2 ("HourClock", 142, "filler") (by decide +kernel)) hKx.1 hw0 zx_w3 zx_b3 zx_o3 hZs (by decide +kernel) (by decide +kernel) hP hD hS (hl.1.trans hml.symm) htab dX6_filler_14 dX6_filler_17 dX6_filler_18 dX6_filler_20 dX6_filler_23 (by decide) (by decide) (Nat.le_of_ble_eq_true rfl) (Nat.le_of_ble_eq_true rfl) hlocks hR.symm rfl
def fn_X6_filler (v : CV) (p0 : Int32) (p1 : Int32) : Option (Int32) :=
  (f_X1_has v.1.2.1 p0).bind (fun u1 =>
  if (zb u1) = 0 then
    none
  else
    if p1 < 0 then
      none
    else
      if p1 ≤ 2 then
        (f_X1_tell v.1.2.1 p0 p1).bind (fun u5 =>
        some u5)
      else
        none)
set_option maxHeartbeats 4000000 in
set_option maxRecDepth 100000 in
theorem cn_X6_filler (l : Launch) (g : zG) (a : Nat → Nat) (v : CV) (p0 : Int32) (p1 : Int32) (r : Int32) (hf : fn_X6_filler v p0 p1 = some r) : zMi zNF zNM l yX6_filler (zw yX6_filler cX6_filler 3 (some .int)) ({ frames := 2, cells := 0, slots := 0, locals := 43 } : Room) g [.ref (a 0), .int p0, .int p1] (zX6 g a v) r (zX6 g a v) := by
  intro sz
  refine Met.ofW (cc := cX6_filler) (maxL := 3) (ret := (some .int)) (by decide) rfl ?_
  intro p e s m args below meth c s₁ B hml hv
  obtain ⟨rfl, hsz, hP, hK, hD0⟩ := hv
  have hx := B.exec
  have hb := B.bytes
  have hr0 := B.returns
  have hts := atoms_spec (ws := (zw yX6_filler cX6_filler 3 (some .int))) B.pre
  have hw0 : ∀ w ∈ zW, w.before ([.ref (a 0), .int p0, .int p1] : List Value).toArray s = true := fun w h => hts w (List.mem_cons_of_mem _ h)
  have hown : s.vm.findClass RX6 = some m.cls := findClass_of_methodNamed B.named
  have hlocks := B.notSynchronized
  subst hsz
  have hD := hD0.self (sz := s.heap.size)
  generalize hAe : va_A (zX6 g a v) s.heap.size = A at hD ⊢
  have hA : ∀ q : Nat, s.heap.size ≤ q → A q := fun q h => by rw [← hAe]; exact Or.inr h
  have hS : va_S A s.heap s.heap [] := va_S.rf
  unfold fn_X6_filler at hf
  have hl := lv_entry ([.ref (a 0), .int p0, .int p1]) (n := 3) (Nat.le_of_ble_eq_true rfl)
  rw [lg_entry_eq]
  generalize (lg_sl ([.ref (a 0), .int p0, .int p1]) ++ List.replicate (3 - (lg_sl ([.ref (a 0), .int p0, .int p1])).length) Slot.unset).toArray = ls at hl ⊢
  have hl : lv_has ls 3 [(0, .ref (a 0)), (1, .int p0), (2, .int p1)] := hl
  refine lv_aload_n hx hb dX6_filler_0 rfl (lv_at hl 0 rfl) ?_
  refine va_get (D := g.1) (ci := 6) (v := .ref (a 1)) (C := RX6) (T := TX6) (N := 5) hx hb hw0 ziX6 hown hK.1 hP 0 rfl rfl 0 (by decide) (hw0 _ zm1_202) (fun _ h9 => h9) rfl dX6_filler_1 ?_
  refine va_getN (D := g.1) (ci := 2) (v := .ref (a 8)) (C := RX2) (T := TX2) (N := 11) hx hb hw0 ziX2 hown hK.1 hP 1 rfl rfl 1 (by decide) (va_Nw.use rfl (zf_19 hK)) (fun _ h9 => h9) rfl dX6_filler_4 ?_
  refine lv_iload_n hx hb dX6_filler_7 rfl (lv_at hl 1 rfl) ?_
  obtain ⟨u1, hu1, hf⟩ := ob hf
  refine zk_iR (va_runVN (As := [.int p0]) (rest := []) ⟨hx, hb, hml, hown, hts⟩ (c_X1_has l g (fun k => a (k + 8)) v.1.2.1 p0 _ hu1 _) (zcN hw0 (zn_42 hK) zm2_192 zm1_4 zm2_191 zs2_0 hd_X1_has rfl rfl ⟨Nat.le_of_ble_eq_true rfl, Nat.le_of_ble_eq_true rfl⟩) ⟨zblind, zrecv (wc := zX1 g (fun k => a (k + 8)) v.1.2.1) hK hP [8, 9, 10, 11, 12, 13, 14] rfl (ci := 1) rfl rfl, zpre hK hP hD [8, 9, 10, 11, 12, 13, 14] rfl rfl⟩ rfl rfl hl.1 rfl (lv_room (Nat.le_of_ble_eq_true rfl)) dX6_filler_8 ⟨Nat.zero_le _, Nat.zero_le _⟩) hP hD hS hA [8, 9, 10, 11, 12, 13, 14] rfl (fun H locs hP hD hS => ?_)
  refine lv_if_ne (tgt := 24) hx hb dX6_filler_11 (by decide) (fun c2 => ?_) (fun c2 => ?_)
  · have hf := oe hf c2
    refine lv_iload_n hx hb dX6_filler_24 rfl (lv_at hl 2 rfl) ?_
    refine lv_if_lt (tgt := 33) hx hb dX6_filler_25 (by decide) (fun c3 => ?_) (fun c3 => ?_)
    · have hf := oi hf c3
      exact absurd hf (by simp)
    · have hf := oe hf c3
      refine lv_iload_n hx hb dX6_filler_28 rfl (lv_at hl 2 rfl) ?_
      refine lv_iconst (v := 2) hx hb dX6_filler_29 (by decide) ?_
      refine lv_icmp_le (tgt := 43) hx hb dX6_filler_30 (by decide) (fun c4 => ?_) (fun c4 => ?_)
      · have hf := oi hf c4
        refine lv_aload_n hx hb dX6_filler_43 rfl (lv_at hl 0 rfl) ?_
        refine va_get (D := g.1) (ci := 6) (v := .ref (a 1)) (C := RX6) (T := TX6) (N := 5) hx hb hw0 ziX6 hown hK.1 hP 0 rfl rfl 0 (by decide) (hw0 _ zm1_202) (fun _ h9 => h9) rfl dX6_filler_44 ?_
        refine va_getN (D := g.1) (ci := 2) (v := .ref (a 8)) (C := RX2) (T := TX2) (N := 11) hx hb hw0 ziX2 hown hK.1 hP 1 rfl rfl 1 (by decide) (va_Nw.use rfl (zf_19 hK)) (fun _ h9 => h9) rfl dX6_filler_47 ?_
        refine lv_iload_n hx hb dX6_filler_50 rfl (lv_at hl 1 rfl) ?_
        refine lv_iload_n hx hb dX6_filler_51 rfl (lv_at hl 2 rfl) ?_
        obtain ⟨u5, hu5, hf⟩ := ob hf
        refine zk_iR (va_runVN (As := [.int p0, .int p1]) (rest := []) ⟨hx, hb, hml, hown, hts⟩ (c_X1_tell l g (fun k => a (k + 8)) v.1.2.1 p0 p1 _ hu5 _) (zcN hw0 (zn_43 hK) zm3_196 zm1_4 zm3_195 zs4_0 hd_X1_tell rfl rfl ⟨Nat.le_of_ble_eq_true rfl, Nat.le_of_ble_eq_true rfl⟩) ⟨zblind, zrecv (wc := zX1 g (fun k => a (k + 8)) v.1.2.1) hK hP [8, 9, 10, 11, 12, 13, 14] rfl (ci := 1) rfl rfl, zpre hK hP hD [8, 9, 10, 11, 12, 13, 14] rfl rfl⟩ rfl rfl hl.1 rfl (lv_room (Nat.le_of_ble_eq_true rfl)) dX6_filler_52 ⟨Nat.zero_le _, Nat.zero_le _⟩) hP hD hS hA [8, 9, 10, 11, 12, 13, 14] rfl (fun H locs hP hD hS => ?_)
        have hR : u5 = r := Option.some.inj hf
        subst hR
        exact W.iret (v := u5) hx hb hr0 (fun t ht hW => ⟨⟨u5, (), rfl, rfl, by rw [ht]; exact hP, hD⟩, hS.F ht⟩) hS.2.2 dX6_filler_55
      · have hf := oe hf c4
        exact absurd hf (by simp)
  · have hf := oi hf c2
    exact absurd hf (by simp)
theorem hd_X6_value : yX6_value.cls ≠ "java/lang/invoke/MethodHandle" ∧ yX6_value.cls ≠ "java/lang/invoke/VarHandle" ∧ (parseMethodDescriptor yX6_value.desc).map (fun d => d.parameters.length) = some 1 := by decide +kernel
def f_X6_value (v : CV) (p0 : Int32) : Option (Nat ⊕ (Int32)) :=
  if p0 < 0 then
    some (.inl 1)
  else
    if p0 ≤ 13 then
      (f_X2_tell v.1 p0).bind (fun u3 =>
      some (.inr u3))
    else
      some (.inl 1)
set_option maxHeartbeats 4000000 in
set_option maxRecDepth 100000 in
theorem c_X6_value (l : Launch) (hst9 : l.stackTraces = false) (g : zG) (a : Nat → Nat) (v : CV) (p0 : Int32) (r : Nat ⊕ (Int32)) (hf : f_X6_value v p0 = some r) : zMx zNF zNM l yX6_value (zw yX6_value cX6_value 2 (some .int)) ({ frames := 6, cells := 1, slots := 6, locals := 100 } : Room) g [.ref (a 0), .int p0] (zX6 g a v) r (fun q => q) (fun q => (zX6 g a v)) := by
  intro sz
  refine vx_ofW (cc := cX6_value) (maxL := 2) (ret := (some .int)) (by decide) rfl ?_
  intro p e s m args below meth c s₁ B hml htab hv
  obtain ⟨rfl, ⟨hsz, hP, hK, hD0⟩, hKx, hZs⟩ := hv
  have hx := B.exec
  have hb := B.bytes
  have hr0 := B.returns
  have hts := atoms_spec (ws := (zw yX6_value cX6_value 2 (some .int))) B.pre
  have hw0 : ∀ w ∈ zW, w.before ([.ref (a 0), .int p0] : List Value).toArray s = true := fun w h => hts w (List.mem_cons_of_mem _ h)
  have hown : s.vm.findClass RX6 = some m.cls := findClass_of_methodNamed B.named
  have hlocks := B.notSynchronized
  subst hsz
  have hD := hD0.self (sz := s.heap.size)
  generalize hAe : va_A (zX6 g a v) s.heap.size = A at hD hZs ⊢
  have hA : ∀ q : Nat, s.heap.size ≤ q → A q := fun q h => by rw [← hAe]; exact Or.inr h
  have hS : va_S A s.heap s.heap [] := va_S.rf
  unfold f_X6_value at hf
  have hl := lv_entry ([.ref (a 0), .int p0]) (n := 2) (Nat.le_of_ble_eq_true rfl)
  rw [lg_entry_eq]
  generalize (lg_sl ([.ref (a 0), .int p0]) ++ List.replicate (2 - (lg_sl ([.ref (a 0), .int p0])).length) Slot.unset).toArray = ls at hl ⊢
  have hl : lv_has ls 2 [(0, .ref (a 0)), (1, .int p0)] := hl
  refine lv_iload_n hx hb dX6_value_0 rfl (lv_at hl 1 rfl) ?_
  refine lv_if_lt (tgt := 10) hx hb dX6_value_1 (by decide) (fun c1 => ?_) (fun c1 => ?_)
  · have hf := oi hf c1
    have hR : (Sum.inl 1 : Nat ⊕ (Int32)) = r := Option.some.inj hf
    exact zthrow (ik := 34) (is := 135) (ic := 38) (text := "what") (k := 1) hx hb hst9 hown (hw0 _ zm1_239) (hw0 _ zm1_11) (hKx.2 ("HourClock", 135, "what") (by decide +kernel)) hKx.1 hw0 zx_w1 zx_b1 zx_o1 hZs (by decide +kernel) (by decide +kernel) hP hD hS (hl.1.trans hml.symm) htab dX6_value_10 dX6_value_13 dX6_value_14 dX6_value_16 dX6_value_19 (by decide) (by decide) (Nat.le_of_ble_eq_true rfl) (Nat.le_of_ble_eq_true rfl) hlocks hR.symm rfl
  · have hf := oe hf c1
    refine lv_iload_n hx hb dX6_value_4 rfl (lv_at hl 1 rfl) ?_
    refine lv_bipush (v := 13) hx hb dX6_value_5 (by decide) ?_
    refine lv_icmp_le (tgt := 20) hx hb dX6_value_7 (by decide) (fun c2 => ?_) (fun c2 => ?_)
    · have hf := oi hf c2
      refine lv_aload_n hx hb dX6_value_20 rfl (lv_at hl 0 rfl) ?_
      refine va_get (D := g.1) (ci := 6) (v := .ref (a 1)) (C := RX6) (T := TX6) (N := 5) hx hb hw0 ziX6 hown hK.1 hP 0 rfl rfl 0 (by decide) (hw0 _ zm1_202) (fun _ h9 => h9) rfl dX6_value_21 ?_
      refine lv_iload_n hx hb dX6_value_24 rfl (lv_at hl 1 rfl) ?_
      obtain ⟨u3, hu3, hf⟩ := ob hf
      refine zk_iR (va_runVN (As := [.int p0]) (rest := []) ⟨hx, hb, hml, hown, hts⟩ (c_X2_tell l g (fun k => a (k + 1)) v.1 p0 _ hu3 _) (zcN hw0 (zn_37 hK) zm3_147 zm1_2 zm3_146 zs3_11 hd_X2_tell rfl rfl ⟨Nat.le_of_ble_eq_true rfl, Nat.le_of_ble_eq_true rfl⟩) ⟨zblind, zrecv (wc := zX2 g (fun k => a (k + 1)) v.1) hK hP [1, 2, 3, 4, 5, 6, 7, 8, 9, 10, 11, 12, 13, 14, 15, 16, 17, 18] rfl (ci := 2) rfl rfl, zpre hK hP hD [1, 2, 3, 4, 5, 6, 7, 8, 9, 10, 11, 12, 13, 14, 15, 16, 17, 18] rfl rfl⟩ rfl rfl hl.1 rfl (lv_room (Nat.le_of_ble_eq_true rfl)) dX6_value_25 ⟨Nat.zero_le _, Nat.zero_le _⟩) hP hD hS hA [1, 2, 3, 4, 5, 6, 7, 8, 9, 10, 11, 12, 13, 14, 15, 16, 17, 18] rfl (fun H locs hP hD hS => ?_)
      have hR : (Sum.inr u3 : Nat ⊕ (Int32)) = r := Option.some.inj hf
      subst hR
      refine W.widen (k := 1) (n := 6) (Nat.zero_le _) (Nat.zero_le _) ?_
      exact vx_ret (W.iret (v := u3) hx hb hr0 (fun t ht hW => ⟨⟨u3, (), rfl, ⟨_, rfl, rfl⟩, _, rfl, by rw [ht]; exact hP, hD⟩, hS.F ht⟩) hS.2.2 dX6_value_28)
    · have hf := oe hf c2
      have hR : (Sum.inl 1 : Nat ⊕ (Int32)) = r := Option.some.inj hf
      exact zthrow (ik := 34) (is := 135) (ic := 38) (text := "what") (k := 1) hx hb hst9 hown (hw0 _ zm1_239) (hw0 _ zm1_11) (hKx.2 ("HourClock", 135, "what") (by decide +kernel)) hKx.1 hw0 zx_w1 zx_b1 zx_o1 hZs (by decide +kernel) (by decide +kernel) hP hD hS (hl.1.trans hml.symm) htab dX6_value_10 dX6_value_13 dX6_value_14 dX6_value_16 dX6_value_19 (by decide) (by decide) (Nat.le_of_ble_eq_true rfl) (Nat.le_of_ble_eq_true rfl) hlocks hR.symm rfl
def fn_X6_value (v : CV) (p0 : Int32) : Option (Int32) :=
  if p0 < 0 then
    none
  else
    if p0 ≤ 13 then
      (f_X2_tell v.1 p0).bind (fun u3 =>
      some u3)
    else
      none
set_option maxHeartbeats 4000000 in
set_option maxRecDepth 100000 in
theorem cn_X6_value (l : Launch) (g : zG) (a : Nat → Nat) (v : CV) (p0 : Int32) (r : Int32) (hf : fn_X6_value v p0 = some r) : zMi zNF zNM l yX6_value (zw yX6_value cX6_value 2 (some .int)) ({ frames := 4, cells := 0, slots := 0, locals := 83 } : Room) g [.ref (a 0), .int p0] (zX6 g a v) r (zX6 g a v) := by
  intro sz
  refine Met.ofW (cc := cX6_value) (maxL := 2) (ret := (some .int)) (by decide) rfl ?_
  intro p e s m args below meth c s₁ B hml hv
  obtain ⟨rfl, hsz, hP, hK, hD0⟩ := hv
  have hx := B.exec
  have hb := B.bytes
  have hr0 := B.returns
  have hts := atoms_spec (ws := (zw yX6_value cX6_value 2 (some .int))) B.pre
  have hw0 : ∀ w ∈ zW, w.before ([.ref (a 0), .int p0] : List Value).toArray s = true := fun w h => hts w (List.mem_cons_of_mem _ h)
  have hown : s.vm.findClass RX6 = some m.cls := findClass_of_methodNamed B.named
  have hlocks := B.notSynchronized
  subst hsz
  have hD := hD0.self (sz := s.heap.size)
  generalize hAe : va_A (zX6 g a v) s.heap.size = A at hD ⊢
  have hA : ∀ q : Nat, s.heap.size ≤ q → A q := fun q h => by rw [← hAe]; exact Or.inr h
  have hS : va_S A s.heap s.heap [] := va_S.rf
  unfold fn_X6_value at hf
  have hl := lv_entry ([.ref (a 0), .int p0]) (n := 2) (Nat.le_of_ble_eq_true rfl)
  rw [lg_entry_eq]
  generalize (lg_sl ([.ref (a 0), .int p0]) ++ List.replicate (2 - (lg_sl ([.ref (a 0), .int p0])).length) Slot.unset).toArray = ls at hl ⊢
  have hl : lv_has ls 2 [(0, .ref (a 0)), (1, .int p0)] := hl
  refine lv_iload_n hx hb dX6_value_0 rfl (lv_at hl 1 rfl) ?_
  refine lv_if_lt (tgt := 10) hx hb dX6_value_1 (by decide) (fun c1 => ?_) (fun c1 => ?_)
  · have hf := oi hf c1
    exact absurd hf (by simp)
  · have hf := oe hf c1
    refine lv_iload_n hx hb dX6_value_4 rfl (lv_at hl 1 rfl) ?_
    refine lv_bipush (v := 13) hx hb dX6_value_5 (by decide) ?_
    refine lv_icmp_le (tgt := 20) hx hb dX6_value_7 (by decide) (fun c2 => ?_) (fun c2 => ?_)
    · have hf := oi hf c2
      refine lv_aload_n hx hb dX6_value_20 rfl (lv_at hl 0 rfl) ?_
      refine va_get (D := g.1) (ci := 6) (v := .ref (a 1)) (C := RX6) (T := TX6) (N := 5) hx hb hw0 ziX6 hown hK.1 hP 0 rfl rfl 0 (by decide) (hw0 _ zm1_202) (fun _ h9 => h9) rfl dX6_value_21 ?_
      refine lv_iload_n hx hb dX6_value_24 rfl (lv_at hl 1 rfl) ?_
      obtain ⟨u3, hu3, hf⟩ := ob hf
      refine zk_iR (va_runVN (As := [.int p0]) (rest := []) ⟨hx, hb, hml, hown, hts⟩ (c_X2_tell l g (fun k => a (k + 1)) v.1 p0 _ hu3 _) (zcN hw0 (zn_37 hK) zm3_147 zm1_2 zm3_146 zs3_11 hd_X2_tell rfl rfl ⟨Nat.le_of_ble_eq_true rfl, Nat.le_of_ble_eq_true rfl⟩) ⟨zblind, zrecv (wc := zX2 g (fun k => a (k + 1)) v.1) hK hP [1, 2, 3, 4, 5, 6, 7, 8, 9, 10, 11, 12, 13, 14, 15, 16, 17, 18] rfl (ci := 2) rfl rfl, zpre hK hP hD [1, 2, 3, 4, 5, 6, 7, 8, 9, 10, 11, 12, 13, 14, 15, 16, 17, 18] rfl rfl⟩ rfl rfl hl.1 rfl (lv_room (Nat.le_of_ble_eq_true rfl)) dX6_value_25 ⟨Nat.zero_le _, Nat.zero_le _⟩) hP hD hS hA [1, 2, 3, 4, 5, 6, 7, 8, 9, 10, 11, 12, 13, 14, 15, 16, 17, 18] rfl (fun H locs hP hD hS => ?_)
      have hR : u3 = r := Option.some.inj hf
      subst hR
      exact W.iret (v := u3) hx hb hr0 (fun t ht hW => ⟨⟨u3, (), rfl, rfl, by rw [ht]; exact hP, hD⟩, hS.F ht⟩) hS.2.2 dX6_value_28
    · have hf := oe hf c2
      exact absurd hf (by simp)
theorem hd_X6_entry : yX6_entry.cls ≠ "java/lang/invoke/MethodHandle" ∧ yX6_entry.cls ≠ "java/lang/invoke/VarHandle" ∧ (parseMethodDescriptor yX6_entry.desc).map (fun d => d.parameters.length) = some 2 := by decide +kernel
def f_X6_entry (v : CV) (p0 : Int32) (p1 : Int32) : Option (Nat ⊕ (Int32)) :=
  (f_X3_has v.1.2.2.1 p0).bind (fun u1 =>
  if (zb u1) = 0 then
    some (.inl 3)
  else
    if p1 < 0 then
      some (.inl 1)
    else
      if p1 ≤ 2 then
        (f_X3_tell v.1.2.2.1 p0 p1).bind (fun u5 =>
        some (.inr u5))
      else
        some (.inl 1))
set_option maxHeartbeats 4000000 in
set_option maxRecDepth 100000 in
theorem c_X6_entry (l : Launch) (hst9 : l.stackTraces = false) (g : zG) (a : Nat → Nat) (v : CV) (p0 : Int32) (p1 : Int32) (r : Nat ⊕ (Int32)) (hf : f_X6_entry v p0 p1 = some r) : zMx zNF zNM l yX6_entry (zw yX6_entry cX6_entry 3 (some .int)) ({ frames := 6, cells := 1, slots := 6, locals := 100 } : Room) g [.ref (a 0), .int p0, .int p1] (zX6 g a v) r (fun q => q) (fun q => (zX6 g a v)) := by
  intro sz
  refine vx_ofW (cc := cX6_entry) (maxL := 3) (ret := (some .int)) (by decide) rfl ?_
  intro p e s m args below meth c s₁ B hml htab hv
  obtain ⟨rfl, ⟨hsz, hP, hK, hD0⟩, hKx, hZs⟩ := hv
  have hx := B.exec
  have hb := B.bytes
  have hr0 := B.returns
  have hts := atoms_spec (ws := (zw yX6_entry cX6_entry 3 (some .int))) B.pre
  have hw0 : ∀ w ∈ zW, w.before ([.ref (a 0), .int p0, .int p1] : List Value).toArray s = true := fun w h => hts w (List.mem_cons_of_mem _ h)
  have hown : s.vm.findClass RX6 = some m.cls := findClass_of_methodNamed B.named
  have hlocks := B.notSynchronized
  subst hsz
  have hD := hD0.self (sz := s.heap.size)
  generalize hAe : va_A (zX6 g a v) s.heap.size = A at hD hZs ⊢
  have hA : ∀ q : Nat, s.heap.size ≤ q → A q := fun q h => by rw [← hAe]; exact Or.inr h
  have hS : va_S A s.heap s.heap [] := va_S.rf
  unfold f_X6_entry at hf
  have hl := lv_entry ([.ref (a 0), .int p0, .int p1]) (n := 3) (Nat.le_of_ble_eq_true rfl)
  rw [lg_entry_eq]
  generalize (lg_sl ([.ref (a 0), .int p0, .int p1]) ++ List.replicate (3 - (lg_sl ([.ref (a 0), .int p0, .int p1])).length) Slot.unset).toArray = ls at hl ⊢
  have hl : lv_has ls 3 [(0, .ref (a 0)), (1, .int p0), (2, .int p1)] := hl
  refine lv_aload_n hx hb dX6_entry_0 rfl (lv_at hl 0 rfl) ?_
  refine va_get (D := g.1) (ci := 6) (v := .ref (a 1)) (C := RX6) (T := TX6) (N := 5) hx hb hw0 ziX6 hown hK.1 hP 0 rfl rfl 0 (by decide) (hw0 _ zm1_202) (fun _ h9 => h9) rfl dX6_entry_1 ?_
  refine va_getN (D := g.1) (ci := 2) (v := .ref (a 15)) (C := RX2) (T := TX2) (N := 11) hx hb hw0 ziX2 hown hK.1 hP 1 rfl rfl 2 (by decide) (va_Nw.use rfl (zf_20 hK)) (fun _ h9 => h9) rfl dX6_entry_4 ?_
  refine lv_iload_n hx hb dX6_entry_7 rfl (lv_at hl 1 rfl) ?_
  obtain ⟨u1, hu1, hf⟩ := ob hf
  refine zk_iR (va_runVN (As := [.int p0]) (rest := []) ⟨hx, hb, hml, hown, hts⟩ (c_X3_has l g (fun k => a (k + 15)) v.1.2.2.1 p0 _ hu1 _) (zcN hw0 (zn_44 hK) zm3_208 zm1_6 zm3_207 zs4_1 hd_X3_has rfl rfl ⟨Nat.le_of_ble_eq_true rfl, Nat.le_of_ble_eq_true rfl⟩) ⟨zblind, zrecv (wc := zX3 g (fun k => a (k + 15)) v.1.2.2.1) hK hP [15, 16, 17, 18] rfl (ci := 3) rfl rfl, zpre hK hP hD [15, 16, 17, 18] rfl rfl⟩ rfl rfl hl.1 rfl (lv_room (Nat.le_of_ble_eq_true rfl)) dX6_entry_8 ⟨Nat.zero_le _, Nat.zero_le _⟩) hP hD hS hA [15, 16, 17, 18] rfl (fun H locs hP hD hS => ?_)
  refine lv_if_ne (tgt := 24) hx hb dX6_entry_11 (by decide) (fun c2 => ?_) (fun c2 => ?_)
  · have hf := oe hf c2
    refine lv_iload_n hx hb dX6_entry_24 rfl (lv_at hl 2 rfl) ?_
    refine lv_if_lt (tgt := 33) hx hb dX6_entry_25 (by decide) (fun c3 => ?_) (fun c3 => ?_)
    · have hf := oi hf c3
      have hR : (Sum.inl 1 : Nat ⊕ (Int32)) = r := Option.some.inj hf
      exact zthrow (ik := 34) (is := 135) (ic := 38) (text := "what") (k := 1) hx hb hst9 hown (hw0 _ zm1_239) (hw0 _ zm1_11) (hKx.2 ("HourClock", 135, "what") (by decide +kernel)) hKx.1 hw0 zx_w1 zx_b1 zx_o1 hZs (by decide +kernel) (by decide +kernel) hP hD hS (hl.1.trans hml.symm) htab dX6_entry_33 dX6_entry_36 dX6_entry_37 dX6_entry_39 dX6_entry_42 (by decide) (by decide) (Nat.le_of_ble_eq_true rfl) (Nat.le_of_ble_eq_true rfl) hlocks hR.symm rfl
    · have hf := oe hf c3
      refine lv_iload_n hx hb dX6_entry_28 rfl (lv_at hl 2 rfl) ?_
      refine lv_iconst (v := 2) hx hb dX6_entry_29 (by decide) ?_
      refine lv_icmp_le (tgt := 43) hx hb dX6_entry_30 (by decide) (fun c4 => ?_) (fun c4 => ?_)
      · have hf := oi hf c4
        refine lv_aload_n hx hb dX6_entry_43 rfl (lv_at hl 0 rfl) ?_
        refine va_get (D := g.1) (ci := 6) (v := .ref (a 1)) (C := RX6) (T := TX6) (N := 5) hx hb hw0 ziX6 hown hK.1 hP 0 rfl rfl 0 (by decide) (hw0 _ zm1_202) (fun _ h9 => h9) rfl dX6_entry_44 ?_
        refine va_getN (D := g.1) (ci := 2) (v := .ref (a 15)) (C := RX2) (T := TX2) (N := 11) hx hb hw0 ziX2 hown hK.1 hP 1 rfl rfl 2 (by decide) (va_Nw.use rfl (zf_20 hK)) (fun _ h9 => h9) rfl dX6_entry_47 ?_
        refine lv_iload_n hx hb dX6_entry_50 rfl (lv_at hl 1 rfl) ?_
        refine lv_iload_n hx hb dX6_entry_51 rfl (lv_at hl 2 rfl) ?_
        obtain ⟨u5, hu5, hf⟩ := ob hf
        refine zk_iR (va_runVN (As := [.int p0, .int p1]) (rest := []) ⟨hx, hb, hml, hown, hts⟩ (c_X3_tell l g (fun k => a (k + 15)) v.1.2.2.1 p0 p1 _ hu5 _) (zcN hw0 (zn_45 hK) zm3_213 zm1_6 zm3_212 zs4_2 hd_X3_tell rfl rfl ⟨Nat.le_of_ble_eq_true rfl, Nat.le_of_ble_eq_true rfl⟩) ⟨zblind, zrecv (wc := zX3 g (fun k => a (k + 15)) v.1.2.2.1) hK hP [15, 16, 17, 18] rfl (ci := 3) rfl rfl, zpre hK hP hD [15, 16, 17, 18] rfl rfl⟩ rfl rfl hl.1 rfl (lv_room (Nat.le_of_ble_eq_true rfl)) dX6_entry_52 ⟨Nat.zero_le _, Nat.zero_le _⟩) hP hD hS hA [15, 16, 17, 18] rfl (fun H locs hP hD hS => ?_)
        have hR : (Sum.inr u5 : Nat ⊕ (Int32)) = r := Option.some.inj hf
        subst hR
        refine W.widen (k := 1) (n := 6) (Nat.zero_le _) (Nat.zero_le _) ?_
        exact vx_ret (W.iret (v := u5) hx hb hr0 (fun t ht hW => ⟨⟨u5, (), rfl, ⟨_, rfl, rfl⟩, _, rfl, by rw [ht]; exact hP, hD⟩, hS.F ht⟩) hS.2.2 dX6_entry_55)
      · have hf := oe hf c4
        have hR : (Sum.inl 1 : Nat ⊕ (Int32)) = r := Option.some.inj hf
        exact zthrow (ik := 34) (is := 135) (ic := 38) (text := "what") (k := 1) hx hb hst9 hown (hw0 _ zm1_239) (hw0 _ zm1_11) (hKx.2 ("HourClock", 135, "what") (by decide +kernel)) hKx.1 hw0 zx_w1 zx_b1 zx_o1 hZs (by decide +kernel) (by decide +kernel) hP hD hS (hl.1.trans hml.symm) htab dX6_entry_33 dX6_entry_36 dX6_entry_37 dX6_entry_39 dX6_entry_42 (by decide) (by decide) (Nat.le_of_ble_eq_true rfl) (Nat.le_of_ble_eq_true rfl) hlocks hR.symm rfl
  · have hf := oi hf c2
    have hR : (Sum.inl 3 : Nat ⊕ (Int32)) = r := Option.some.inj hf
    exact zthrow (ik := 86) (is := 154) (ic := 90) (text := "entry") (k := 3) hx hb hst9 hown (hw0 _ zm2_144) (hw0 _ zm1_12) (hKx.2 ("HourClock", 154, "entry") (by decide +kernel)) hKx.1 hw0 zx_w3 zx_b3 zx_o3 hZs (by decide +kernel) (by decide +kernel) hP hD hS (hl.1.trans hml.symm) htab dX6_entry_14 dX6_entry_17 dX6_entry_18 dX6_entry_20 dX6_entry_23 (by decide) (by decide) (Nat.le_of_ble_eq_true rfl) (Nat.le_of_ble_eq_true rfl) hlocks hR.symm rfl
def fn_X6_entry (v : CV) (p0 : Int32) (p1 : Int32) : Option (Int32) :=
  (f_X3_has v.1.2.2.1 p0).bind (fun u1 =>
  if (zb u1) = 0 then
    none
  else
    if p1 < 0 then
      none
    else
      if p1 ≤ 2 then
        (f_X3_tell v.1.2.2.1 p0 p1).bind (fun u5 =>
        some u5)
      else
        none)
set_option maxHeartbeats 4000000 in
set_option maxRecDepth 100000 in
theorem cn_X6_entry (l : Launch) (g : zG) (a : Nat → Nat) (v : CV) (p0 : Int32) (p1 : Int32) (r : Int32) (hf : fn_X6_entry v p0 p1 = some r) : zMi zNF zNM l yX6_entry (zw yX6_entry cX6_entry 3 (some .int)) ({ frames := 2, cells := 0, slots := 0, locals := 43 } : Room) g [.ref (a 0), .int p0, .int p1] (zX6 g a v) r (zX6 g a v) := by
  intro sz
  refine Met.ofW (cc := cX6_entry) (maxL := 3) (ret := (some .int)) (by decide) rfl ?_
  intro p e s m args below meth c s₁ B hml hv
  obtain ⟨rfl, hsz, hP, hK, hD0⟩ := hv
  have hx := B.exec
  have hb := B.bytes
  have hr0 := B.returns
  have hts := atoms_spec (ws := (zw yX6_entry cX6_entry 3 (some .int))) B.pre
  have hw0 : ∀ w ∈ zW, w.before ([.ref (a 0), .int p0, .int p1] : List Value).toArray s = true := fun w h => hts w (List.mem_cons_of_mem _ h)
  have hown : s.vm.findClass RX6 = some m.cls := findClass_of_methodNamed B.named
  have hlocks := B.notSynchronized
  subst hsz
  have hD := hD0.self (sz := s.heap.size)
  generalize hAe : va_A (zX6 g a v) s.heap.size = A at hD ⊢
  have hA : ∀ q : Nat, s.heap.size ≤ q → A q := fun q h => by rw [← hAe]; exact Or.inr h
  have hS : va_S A s.heap s.heap [] := va_S.rf
  unfold fn_X6_entry at hf
  have hl := lv_entry ([.ref (a 0), .int p0, .int p1]) (n := 3) (Nat.le_of_ble_eq_true rfl)
  rw [lg_entry_eq]
  generalize (lg_sl ([.ref (a 0), .int p0, .int p1]) ++ List.replicate (3 - (lg_sl ([.ref (a 0), .int p0, .int p1])).length) Slot.unset).toArray = ls at hl ⊢
  have hl : lv_has ls 3 [(0, .ref (a 0)), (1, .int p0), (2, .int p1)] := hl
  refine lv_aload_n hx hb dX6_entry_0 rfl (lv_at hl 0 rfl) ?_
  refine va_get (D := g.1) (ci := 6) (v := .ref (a 1)) (C := RX6) (T := TX6) (N := 5) hx hb hw0 ziX6 hown hK.1 hP 0 rfl rfl 0 (by decide) (hw0 _ zm1_202) (fun _ h9 => h9) rfl dX6_entry_1 ?_
  refine va_getN (D := g.1) (ci := 2) (v := .ref (a 15)) (C := RX2) (T := TX2) (N := 11) hx hb hw0 ziX2 hown hK.1 hP 1 rfl rfl 2 (by decide) (va_Nw.use rfl (zf_20 hK)) (fun _ h9 => h9) rfl dX6_entry_4 ?_
  refine lv_iload_n hx hb dX6_entry_7 rfl (lv_at hl 1 rfl) ?_
  obtain ⟨u1, hu1, hf⟩ := ob hf
  refine zk_iR (va_runVN (As := [.int p0]) (rest := []) ⟨hx, hb, hml, hown, hts⟩ (c_X3_has l g (fun k => a (k + 15)) v.1.2.2.1 p0 _ hu1 _) (zcN hw0 (zn_44 hK) zm3_208 zm1_6 zm3_207 zs4_1 hd_X3_has rfl rfl ⟨Nat.le_of_ble_eq_true rfl, Nat.le_of_ble_eq_true rfl⟩) ⟨zblind, zrecv (wc := zX3 g (fun k => a (k + 15)) v.1.2.2.1) hK hP [15, 16, 17, 18] rfl (ci := 3) rfl rfl, zpre hK hP hD [15, 16, 17, 18] rfl rfl⟩ rfl rfl hl.1 rfl (lv_room (Nat.le_of_ble_eq_true rfl)) dX6_entry_8 ⟨Nat.zero_le _, Nat.zero_le _⟩) hP hD hS hA [15, 16, 17, 18] rfl (fun H locs hP hD hS => ?_)
  refine lv_if_ne (tgt := 24) hx hb dX6_entry_11 (by decide) (fun c2 => ?_) (fun c2 => ?_)
  · have hf := oe hf c2
    refine lv_iload_n hx hb dX6_entry_24 rfl (lv_at hl 2 rfl) ?_
    refine lv_if_lt (tgt := 33) hx hb dX6_entry_25 (by decide) (fun c3 => ?_) (fun c3 => ?_)
    · have hf := oi hf c3
      exact absurd hf (by simp)
    · have hf := oe hf c3
      refine lv_iload_n hx hb dX6_entry_28 rfl (lv_at hl 2 rfl) ?_
      refine lv_iconst (v := 2) hx hb dX6_entry_29 (by decide) ?_
      refine lv_icmp_le (tgt := 43) hx hb dX6_entry_30 (by decide) (fun c4 => ?_) (fun c4 => ?_)
      · have hf := oi hf c4
        refine lv_aload_n hx hb dX6_entry_43 rfl (lv_at hl 0 rfl) ?_
        refine va_get (D := g.1) (ci := 6) (v := .ref (a 1)) (C := RX6) (T := TX6) (N := 5) hx hb hw0 ziX6 hown hK.1 hP 0 rfl rfl 0 (by decide) (hw0 _ zm1_202) (fun _ h9 => h9) rfl dX6_entry_44 ?_
        refine va_getN (D := g.1) (ci := 2) (v := .ref (a 15)) (C := RX2) (T := TX2) (N := 11) hx hb hw0 ziX2 hown hK.1 hP 1 rfl rfl 2 (by decide) (va_Nw.use rfl (zf_20 hK)) (fun _ h9 => h9) rfl dX6_entry_47 ?_
        refine lv_iload_n hx hb dX6_entry_50 rfl (lv_at hl 1 rfl) ?_
        refine lv_iload_n hx hb dX6_entry_51 rfl (lv_at hl 2 rfl) ?_
        obtain ⟨u5, hu5, hf⟩ := ob hf
        refine zk_iR (va_runVN (As := [.int p0, .int p1]) (rest := []) ⟨hx, hb, hml, hown, hts⟩ (c_X3_tell l g (fun k => a (k + 15)) v.1.2.2.1 p0 p1 _ hu5 _) (zcN hw0 (zn_45 hK) zm3_213 zm1_6 zm3_212 zs4_2 hd_X3_tell rfl rfl ⟨Nat.le_of_ble_eq_true rfl, Nat.le_of_ble_eq_true rfl⟩) ⟨zblind, zrecv (wc := zX3 g (fun k => a (k + 15)) v.1.2.2.1) hK hP [15, 16, 17, 18] rfl (ci := 3) rfl rfl, zpre hK hP hD [15, 16, 17, 18] rfl rfl⟩ rfl rfl hl.1 rfl (lv_room (Nat.le_of_ble_eq_true rfl)) dX6_entry_52 ⟨Nat.zero_le _, Nat.zero_le _⟩) hP hD hS hA [15, 16, 17, 18] rfl (fun H locs hP hD hS => ?_)
        have hR : u5 = r := Option.some.inj hf
        subst hR
        exact W.iret (v := u5) hx hb hr0 (fun t ht hW => ⟨⟨u5, (), rfl, rfl, by rw [ht]; exact hP, hD⟩, hS.F ht⟩) hS.2.2 dX6_entry_55
      · have hf := oe hf c4
        exact absurd hf (by simp)
  · have hf := oi hf c2
    exact absurd hf (by simp)
theorem hd_X6_backTime : yX6_backTime.cls ≠ "java/lang/invoke/MethodHandle" ∧ yX6_backTime.cls ≠ "java/lang/invoke/VarHandle" ∧ (parseMethodDescriptor yX6_backTime.desc).map (fun d => d.parameters.length) = some 1 := by decide +kernel
def f_X6_backTime (v : CV) (p0 : Int32) : Option (Nat ⊕ (Int32)) :=
  (f_X0_has v.1.1 p0).bind (fun u1 =>
  if (zb u1) = 0 then
    some (.inl 3)
  else
    (f_X0_latestBegin v.1.1 p0).bind (fun u3 =>
    some (.inr u3)))
set_option maxHeartbeats 4000000 in
set_option maxRecDepth 100000 in
theorem c_X6_backTime (l : Launch) (hst9 : l.stackTraces = false) (g : zG) (a : Nat → Nat) (v : CV) (p0 : Int32) (r : Nat ⊕ (Int32)) (hf : f_X6_backTime v p0 = some r) : zMx zNF zNM l yX6_backTime (zw yX6_backTime cX6_backTime 2 (some .int)) ({ frames := 6, cells := 1, slots := 6, locals := 100 } : Room) g [.ref (a 0), .int p0] (zX6 g a v) r (fun q => q) (fun q => (zX6 g a v)) := by
  intro sz
  refine vx_ofW (cc := cX6_backTime) (maxL := 2) (ret := (some .int)) (by decide) rfl ?_
  intro p e s m args below meth c s₁ B hml htab hv
  obtain ⟨rfl, ⟨hsz, hP, hK, hD0⟩, hKx, hZs⟩ := hv
  have hx := B.exec
  have hb := B.bytes
  have hr0 := B.returns
  have hts := atoms_spec (ws := (zw yX6_backTime cX6_backTime 2 (some .int))) B.pre
  have hw0 : ∀ w ∈ zW, w.before ([.ref (a 0), .int p0] : List Value).toArray s = true := fun w h => hts w (List.mem_cons_of_mem _ h)
  have hown : s.vm.findClass RX6 = some m.cls := findClass_of_methodNamed B.named
  have hlocks := B.notSynchronized
  subst hsz
  have hD := hD0.self (sz := s.heap.size)
  generalize hAe : va_A (zX6 g a v) s.heap.size = A at hD hZs ⊢
  have hA : ∀ q : Nat, s.heap.size ≤ q → A q := fun q h => by rw [← hAe]; exact Or.inr h
  have hS : va_S A s.heap s.heap [] := va_S.rf
  unfold f_X6_backTime at hf
  have hl := lv_entry ([.ref (a 0), .int p0]) (n := 2) (Nat.le_of_ble_eq_true rfl)
  rw [lg_entry_eq]
  generalize (lg_sl ([.ref (a 0), .int p0]) ++ List.replicate (2 - (lg_sl ([.ref (a 0), .int p0])).length) Slot.unset).toArray = ls at hl ⊢
  have hl : lv_has ls 2 [(0, .ref (a 0)), (1, .int p0)] := hl
  refine lv_aload_n hx hb dX6_backTime_0 rfl (lv_at hl 0 rfl) ?_
  refine va_get (D := g.1) (ci := 6) (v := .ref (a 1)) (C := RX6) (T := TX6) (N := 5) hx hb hw0 ziX6 hown hK.1 hP 0 rfl rfl 0 (by decide) (hw0 _ zm1_202) (fun _ h9 => h9) rfl dX6_backTime_1 ?_
  refine va_getN (D := g.1) (ci := 2) (v := .ref (a 2)) (C := RX2) (T := TX2) (N := 11) hx hb hw0 ziX2 hown hK.1 hP 1 rfl rfl 0 (by decide) (va_Nw.use rfl (zf_18 hK)) (fun _ h9 => h9) rfl dX6_backTime_4 ?_
  refine lv_iload_n hx hb dX6_backTime_7 rfl (lv_at hl 1 rfl) ?_
  obtain ⟨u1, hu1, hf⟩ := ob hf
  refine zk_iR (va_runVN (As := [.int p0]) (rest := []) ⟨hx, hb, hml, hown, hts⟩ (c_X0_has l g (fun k => a (k + 2)) v.1.1 p0 _ hu1 _) (zcN hw0 (zn_12 hK) zm2_143 zm1_3 zm2_142 zs1_9 hd_X0_has rfl rfl ⟨Nat.le_of_ble_eq_true rfl, Nat.le_of_ble_eq_true rfl⟩) ⟨zblind, zrecv (wc := zX0 g (fun k => a (k + 2)) v.1.1) hK hP [2, 3, 4, 5, 6, 7] rfl (ci := 0) rfl rfl, zpre hK hP hD [2, 3, 4, 5, 6, 7] rfl rfl⟩ rfl rfl hl.1 rfl (lv_room (Nat.le_of_ble_eq_true rfl)) dX6_backTime_8 ⟨Nat.zero_le _, Nat.zero_le _⟩) hP hD hS hA [2, 3, 4, 5, 6, 7] rfl (fun H locs hP hD hS => ?_)
  refine lv_if_ne (tgt := 24) hx hb dX6_backTime_11 (by decide) (fun c2 => ?_) (fun c2 => ?_)
  · have hf := oe hf c2
    refine lv_aload_n hx hb dX6_backTime_24 rfl (lv_at hl 0 rfl) ?_
    refine va_get (D := g.1) (ci := 6) (v := .ref (a 1)) (C := RX6) (T := TX6) (N := 5) hx hb hw0 ziX6 hown hK.1 hP 0 rfl rfl 0 (by decide) (hw0 _ zm1_202) (fun _ h9 => h9) rfl dX6_backTime_25 ?_
    refine va_getN (D := g.1) (ci := 2) (v := .ref (a 2)) (C := RX2) (T := TX2) (N := 11) hx hb hw0 ziX2 hown hK.1 hP 1 rfl rfl 0 (by decide) (va_Nw.use rfl (zf_18 hK)) (fun _ h9 => h9) rfl dX6_backTime_28 ?_
    refine lv_iload_n hx hb dX6_backTime_31 rfl (lv_at hl 1 rfl) ?_
    obtain ⟨u3, hu3, hf⟩ := ob hf
    refine zk_iR (va_runVN (As := [.int p0]) (rest := []) ⟨hx, hb, hml, hown, hts⟩ (c_X0_latestBegin l g (fun k => a (k + 2)) v.1.1 p0 _ hu3 _) (zcN hw0 (zn_41 hK) zm3_183 zm1_3 zm3_182 zs3_15 hd_X0_latestBegin rfl rfl ⟨Nat.le_of_ble_eq_true rfl, Nat.le_of_ble_eq_true rfl⟩) ⟨zblind, zrecv (wc := zX0 g (fun k => a (k + 2)) v.1.1) hK hP [2, 3, 4, 5, 6, 7] rfl (ci := 0) rfl rfl, zpre hK hP hD [2, 3, 4, 5, 6, 7] rfl rfl⟩ rfl rfl hl.1 rfl (lv_room (Nat.le_of_ble_eq_true rfl)) dX6_backTime_32 ⟨Nat.zero_le _, Nat.zero_le _⟩) hP hD hS hA [2, 3, 4, 5, 6, 7] rfl (fun H locs hP hD hS => ?_)
    have hR : (Sum.inr u3 : Nat ⊕ (Int32)) = r := Option.some.inj hf
    subst hR
    refine W.widen (k := 1) (n := 6) (Nat.zero_le _) (Nat.zero_le _) ?_
    exact vx_ret (W.iret (v := u3) hx hb hr0 (fun t ht hW => ⟨⟨u3, (), rfl, ⟨_, rfl, rfl⟩, _, rfl, by rw [ht]; exact hP, hD⟩, hS.F ht⟩) hS.2.2 dX6_backTime_35)
  · have hf := oi hf c2
    have hR : (Sum.inl 3 : Nat ⊕ (Int32)) = r := Option.some.inj hf
    exact zthrow (ik := 86) (is := 88) (ic := 90) (text := "element") (k := 3) hx hb hst9 hown (hw0 _ zm2_144) (hw0 _ zm1_12) (hKx.2 ("HourClock", 88, "element") (by decide +kernel)) hKx.1 hw0 zx_w3 zx_b3 zx_o3 hZs (by decide +kernel) (by decide +kernel) hP hD hS (hl.1.trans hml.symm) htab dX6_backTime_14 dX6_backTime_17 dX6_backTime_18 dX6_backTime_20 dX6_backTime_23 (by decide) (by decide) (Nat.le_of_ble_eq_true rfl) (Nat.le_of_ble_eq_true rfl) hlocks hR.symm rfl
def fn_X6_backTime (v : CV) (p0 : Int32) : Option (Int32) :=
  (f_X0_has v.1.1 p0).bind (fun u1 =>
  if (zb u1) = 0 then
    none
  else
    (f_X0_latestBegin v.1.1 p0).bind (fun u3 =>
    some u3))
set_option maxHeartbeats 4000000 in
set_option maxRecDepth 100000 in
theorem cn_X6_backTime (l : Launch) (g : zG) (a : Nat → Nat) (v : CV) (p0 : Int32) (r : Int32) (hf : fn_X6_backTime v p0 = some r) : zMi zNF zNM l yX6_backTime (zw yX6_backTime cX6_backTime 2 (some .int)) ({ frames := 4, cells := 0, slots := 0, locals := 86 } : Room) g [.ref (a 0), .int p0] (zX6 g a v) r (zX6 g a v) := by
  intro sz
  refine Met.ofW (cc := cX6_backTime) (maxL := 2) (ret := (some .int)) (by decide) rfl ?_
  intro p e s m args below meth c s₁ B hml hv
  obtain ⟨rfl, hsz, hP, hK, hD0⟩ := hv
  have hx := B.exec
  have hb := B.bytes
  have hr0 := B.returns
  have hts := atoms_spec (ws := (zw yX6_backTime cX6_backTime 2 (some .int))) B.pre
  have hw0 : ∀ w ∈ zW, w.before ([.ref (a 0), .int p0] : List Value).toArray s = true := fun w h => hts w (List.mem_cons_of_mem _ h)
  have hown : s.vm.findClass RX6 = some m.cls := findClass_of_methodNamed B.named
  have hlocks := B.notSynchronized
  subst hsz
  have hD := hD0.self (sz := s.heap.size)
  generalize hAe : va_A (zX6 g a v) s.heap.size = A at hD ⊢
  have hA : ∀ q : Nat, s.heap.size ≤ q → A q := fun q h => by rw [← hAe]; exact Or.inr h
  have hS : va_S A s.heap s.heap [] := va_S.rf
  unfold fn_X6_backTime at hf
  have hl := lv_entry ([.ref (a 0), .int p0]) (n := 2) (Nat.le_of_ble_eq_true rfl)
  rw [lg_entry_eq]
  generalize (lg_sl ([.ref (a 0), .int p0]) ++ List.replicate (2 - (lg_sl ([.ref (a 0), .int p0])).length) Slot.unset).toArray = ls at hl ⊢
  have hl : lv_has ls 2 [(0, .ref (a 0)), (1, .int p0)] := hl
  refine lv_aload_n hx hb dX6_backTime_0 rfl (lv_at hl 0 rfl) ?_
  refine va_get (D := g.1) (ci := 6) (v := .ref (a 1)) (C := RX6) (T := TX6) (N := 5) hx hb hw0 ziX6 hown hK.1 hP 0 rfl rfl 0 (by decide) (hw0 _ zm1_202) (fun _ h9 => h9) rfl dX6_backTime_1 ?_
  refine va_getN (D := g.1) (ci := 2) (v := .ref (a 2)) (C := RX2) (T := TX2) (N := 11) hx hb hw0 ziX2 hown hK.1 hP 1 rfl rfl 0 (by decide) (va_Nw.use rfl (zf_18 hK)) (fun _ h9 => h9) rfl dX6_backTime_4 ?_
  refine lv_iload_n hx hb dX6_backTime_7 rfl (lv_at hl 1 rfl) ?_
  obtain ⟨u1, hu1, hf⟩ := ob hf
  refine zk_iR (va_runVN (As := [.int p0]) (rest := []) ⟨hx, hb, hml, hown, hts⟩ (c_X0_has l g (fun k => a (k + 2)) v.1.1 p0 _ hu1 _) (zcN hw0 (zn_12 hK) zm2_143 zm1_3 zm2_142 zs1_9 hd_X0_has rfl rfl ⟨Nat.le_of_ble_eq_true rfl, Nat.le_of_ble_eq_true rfl⟩) ⟨zblind, zrecv (wc := zX0 g (fun k => a (k + 2)) v.1.1) hK hP [2, 3, 4, 5, 6, 7] rfl (ci := 0) rfl rfl, zpre hK hP hD [2, 3, 4, 5, 6, 7] rfl rfl⟩ rfl rfl hl.1 rfl (lv_room (Nat.le_of_ble_eq_true rfl)) dX6_backTime_8 ⟨Nat.zero_le _, Nat.zero_le _⟩) hP hD hS hA [2, 3, 4, 5, 6, 7] rfl (fun H locs hP hD hS => ?_)
  refine lv_if_ne (tgt := 24) hx hb dX6_backTime_11 (by decide) (fun c2 => ?_) (fun c2 => ?_)
  · have hf := oe hf c2
    refine lv_aload_n hx hb dX6_backTime_24 rfl (lv_at hl 0 rfl) ?_
    refine va_get (D := g.1) (ci := 6) (v := .ref (a 1)) (C := RX6) (T := TX6) (N := 5) hx hb hw0 ziX6 hown hK.1 hP 0 rfl rfl 0 (by decide) (hw0 _ zm1_202) (fun _ h9 => h9) rfl dX6_backTime_25 ?_
    refine va_getN (D := g.1) (ci := 2) (v := .ref (a 2)) (C := RX2) (T := TX2) (N := 11) hx hb hw0 ziX2 hown hK.1 hP 1 rfl rfl 0 (by decide) (va_Nw.use rfl (zf_18 hK)) (fun _ h9 => h9) rfl dX6_backTime_28 ?_
    refine lv_iload_n hx hb dX6_backTime_31 rfl (lv_at hl 1 rfl) ?_
    obtain ⟨u3, hu3, hf⟩ := ob hf
    refine zk_iR (va_runVN (As := [.int p0]) (rest := []) ⟨hx, hb, hml, hown, hts⟩ (c_X0_latestBegin l g (fun k => a (k + 2)) v.1.1 p0 _ hu3 _) (zcN hw0 (zn_41 hK) zm3_183 zm1_3 zm3_182 zs3_15 hd_X0_latestBegin rfl rfl ⟨Nat.le_of_ble_eq_true rfl, Nat.le_of_ble_eq_true rfl⟩) ⟨zblind, zrecv (wc := zX0 g (fun k => a (k + 2)) v.1.1) hK hP [2, 3, 4, 5, 6, 7] rfl (ci := 0) rfl rfl, zpre hK hP hD [2, 3, 4, 5, 6, 7] rfl rfl⟩ rfl rfl hl.1 rfl (lv_room (Nat.le_of_ble_eq_true rfl)) dX6_backTime_32 ⟨Nat.zero_le _, Nat.zero_le _⟩) hP hD hS hA [2, 3, 4, 5, 6, 7] rfl (fun H locs hP hD hS => ?_)
    have hR : u3 = r := Option.some.inj hf
    subst hR
    exact W.iret (v := u3) hx hb hr0 (fun t ht hW => ⟨⟨u3, (), rfl, rfl, by rw [ht]; exact hP, hD⟩, hS.F ht⟩) hS.2.2 dX6_backTime_35
  · have hf := oi hf c2
    exact absurd hf (by simp)
