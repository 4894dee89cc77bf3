theorem hd_L_goes : yL_goes.cls ≠ "java/lang/invoke/MethodHandle" ∧ yL_goes.cls ≠ "java/lang/invoke/VarHandle" ∧ (parseMethodDescriptor yL_goes.desc).map (fun d => d.parameters.length) = some 5 := by decide +kernel
def s_L_goes_3 (G0 : FF) (G1 : FF) (G2 : FF) (G3 : FF) (i4 : Int32) (x : Int32 × FF × FF × FF × FF) : Option ((Int32 × FF × FF × FF × FF) ⊕ (Int32 × FF × FF × FF × FF)) :=
  if i4 ≤ x.1 then
    some (.inr (x.1, x.2.1, x.2.2.1, x.2.2.2.1, x.2.2.2.2))
  else
    if (x.2.1 3) = 0 then
      if (x.2.1 4) = 0 then
        (f_L_next x.2.1 x.2.2.1 x.2.2.2.1 x.2.2.2.2).bind (fun u14 =>
        if (u14.1 3) = 0 then
          (if (u14.1 5) ≤ 70 then
            some 1
          else
            if (i4 - x.1) ≤ 70 then
              some 1
            else
              some 50 : Option Int32).bind (fun u16 =>
          (if (u14.1 4) = 40 then
            some u16
          else
            some 0 : Option Int32).bind (fun u18 =>
          if ((u14.1 5) - u16) = 0 then
            (f_L_done (upd (upd (upd u14.1 2 ((u14.1 2) + u16)) 5 ((u14.1 5) - u16)) 6 ((u14.1 6) + u18)) u14.2.1 u14.2.2.1).bind (fun u21 =>
            some (.inl ((x.1 + u16), u21.1, u21.2.1, u21.2.2, u14.2.2.2)))
          else
            some (.inl ((x.1 + u16), (upd (upd (upd u14.1 2 ((u14.1 2) + u16)) 5 ((u14.1 5) - u16)) 6 ((u14.1 6) + u18)), u14.2.1, u14.2.2.1, u14.2.2.2))))
        else
          some (.inl (x.1, u14.1, u14.2.1, u14.2.2.1, u14.2.2.2)))
      else
        if (x.2.1 3) = 0 then
          (if (x.2.1 5) ≤ 70 then
            some 1
          else
            if (i4 - x.1) ≤ 70 then
              some 1
            else
              some 50 : Option Int32).bind (fun u5 =>
          (if (x.2.1 4) = 40 then
            some u5
          else
            some 0 : Option Int32).bind (fun u7 =>
          if ((x.2.1 5) - u5) = 0 then
            (f_L_done (upd (upd (upd x.2.1 2 ((x.2.1 2) + u5)) 5 ((x.2.1 5) - u5)) 6 ((x.2.1 6) + u7)) x.2.2.1 x.2.2.2.1).bind (fun u10 =>
            some (.inl ((x.1 + u5), u10.1, u10.2.1, u10.2.2, x.2.2.2.2)))
          else
            some (.inl ((x.1 + u5), (upd (upd (upd x.2.1 2 ((x.2.1 2) + u5)) 5 ((x.2.1 5) - u5)) 6 ((x.2.1 6) + u7)), x.2.2.1, x.2.2.2.1, x.2.2.2.2))))
        else
          some (.inl (x.1, x.2.1, x.2.2.1, x.2.2.2.1, x.2.2.2.2))
    else
      some (.inr (x.1, x.2.1, x.2.2.1, x.2.2.2.1, x.2.2.2.2))
def f_L_goes (G0 : FF) (G1 : FF) (G2 : FF) (G3 : FF) (p0 : Int32) : Option (Int32 × FF × FF × FF × FF) :=
  (zloop (s_L_goes_3 G0 G1 G2 G3 p0) 4000000 (0, G0, G1, G2, G3)).bind (fun u25 =>
  some (u25.1, u25.2.1, u25.2.2.1, u25.2.2.2.1, u25.2.2.2.2))
set_option maxHeartbeats 4000000 in
set_option maxRecDepth 100000 in
theorem c_L_goes (l : Launch) (g : zG) (b0 : Nat) (b1 : Nat) (b2 : Nat) (b3 : Nat) (G0 : FF) (G1 : FF) (G2 : FF) (G3 : FF) (p0 : Int32) (r : Int32 × FF × FF × FF × FF) (hf : f_L_goes G0 G1 G2 G3 p0 = some r) : zMi zNF zNM l yL_goes (zw yL_goes cL_goes 7 (some .int)) ({ frames := 3, cells := 0, slots := 0, locals := 81 } : Room) g [.ref b0, .ref b1, .ref b2, .ref b3, .int p0] ([(b0, .inl (g.2.1, 9, .inl G0))] ++ [(b1, .inl (g.2.1, 30, .inl G1))] ++ [(b2, .inl (g.2.1, 15, .inl G2))] ++ [(b3, .inl (g.2.1, 63, .inl G3))]) r.1 ([(b0, .inl (g.2.1, 9, .inl r.2.1))] ++ [(b1, .inl (g.2.1, 30, .inl r.2.2.1))] ++ [(b2, .inl (g.2.1, 15, .inl r.2.2.2.1))] ++ [(b3, .inl (g.2.1, 63, .inl r.2.2.2.2))]) := by
  intro sz
  refine Met.ofW (cc := cL_goes) (maxL := 7) (ret := (some .int)) (by decide) rfl ?_
  intro p e s m args below meth c s₁ B hml hv
  obtain ⟨rfl, hsz, hP, hK, hD0⟩ := hv
  have hx := B.exec
  have hb := B.bytes
  have hr0 := B.returns
  have hts := atoms_spec (ws := (zw yL_goes cL_goes 7 (some .int))) B.pre
  have hw0 : ∀ w ∈ zW, w.before ([.ref b0, .ref b1, .ref b2, .ref b3, .int p0] : List Value).toArray s = true := fun w h => hts w (List.mem_cons_of_mem _ h)
  have hown : s.vm.findClass RL = some m.cls := findClass_of_methodNamed B.named
  have hlocks := B.notSynchronized
  subst hsz
  have hD := hD0.self (sz := s.heap.size)
  generalize hAe : va_A ([(b0, .inl (g.2.1, 9, .inl G0))] ++ [(b1, .inl (g.2.1, 30, .inl G1))] ++ [(b2, .inl (g.2.1, 15, .inl G2))] ++ [(b3, .inl (g.2.1, 63, .inl G3))]) s.heap.size = A at hD ⊢
  have hA : ∀ q : Nat, s.heap.size ≤ q → A q := fun q h => by rw [← hAe]; exact Or.inr h
  have hS : va_S A s.heap s.heap [] := va_S.rf
  have lp3 : ∀ (G0 : FF) (G1 : FF) (G2 : FF) (G3 : FF) (i4 : Int32), ∀ (n : Nat) (x : Int32 × FF × FF × FF × FF) (rr : Int32 × FF × FF × FF × FF), zloop (s_L_goes_3 G0 G1 G2 G3 i4) n x = some rr → (∀ (H : Heap) (locs : List Loc), va_P g.1 vwCl ([(b0, .inl (g.2.1, 9, .inl rr.2.1))] ++ [(b1, .inl (g.2.1, 30, .inl rr.2.2.1))] ++ [(b2, .inl (g.2.1, 15, .inl rr.2.2.2.1))] ++ [(b3, .inl (g.2.1, 63, .inl rr.2.2.2.2))]) H → va_D A ([(b0, .inl (g.2.1, 9, .inl rr.2.1))] ++ [(b1, .inl (g.2.1, 30, .inl rr.2.2.1))] ++ [(b2, .inl (g.2.1, 15, .inl rr.2.2.2.1))] ++ [(b3, .inl (g.2.1, 63, .inl rr.2.2.2.2))]) → va_S A s.heap H locs → ∀ ls : Array Slot, lv_has ls 7 [(5, .int rr.1)] → W p l e (headSpec (zw yL_goes cL_goes 7 (some .int)) ({ frames := 3, cells := 0, slots := 0, locals := 81 } : Room)).room s m ([.ref b0, .ref b1, .ref b2, .ref b3, .int p0] : List Value).toArray below meth c H locs 0 0 (MQ below (va_Qi (fun (x : Int32) (_ : Unit) => x = r.1) (fun _ => zEnd g A ([(b0, .inl (g.2.1, 9, .inl r.2.1))] ++ [(b1, .inl (g.2.1, 30, .inl r.2.2.1))] ++ [(b2, .inl (g.2.1, 15, .inl r.2.2.2.1))] ++ [(b3, .inl (g.2.1, 63, .inl r.2.2.2.2))])) A) ([.ref b0, .ref b1, .ref b2, .ref b3, .int p0] : List Value).toArray s 0 0 A) (F0 m 120 ls [])) → ∀ (H : Heap) (locs : List Loc), va_P g.1 vwCl ([(b0, .inl (g.2.1, 9, .inl x.2.1))] ++ [(b1, .inl (g.2.1, 30, .inl x.2.2.1))] ++ [(b2, .inl (g.2.1, 15, .inl x.2.2.2.1))] ++ [(b3, .inl (g.2.1, 63, .inl x.2.2.2.2))]) H → va_D A ([(b0, .inl (g.2.1, 9, .inl x.2.1))] ++ [(b1, .inl (g.2.1, 30, .inl x.2.2.1))] ++ [(b2, .inl (g.2.1, 15, .inl x.2.2.2.1))] ++ [(b3, .inl (g.2.1, 63, .inl x.2.2.2.2))]) → va_S A s.heap H locs → ∀ ls : Array Slot, lv_has ls 7 [(0, .ref b0), (1, .ref b1), (2, .ref b2), (3, .ref b3), (4, .int i4), (5, .int x.1)] → W p l e (headSpec (zw yL_goes cL_goes 7 (some .int)) ({ frames := 3, cells := 0, slots := 0, locals := 81 } : Room)).room s m ([.ref b0, .ref b1, .ref b2, .ref b3, .int p0] : List Value).toArray below meth c H locs 0 0 (MQ below (va_Qi (fun (x : Int32) (_ : Unit) => x = r.1) (fun _ => zEnd g A ([(b0, .inl (g.2.1, 9, .inl r.2.1))] ++ [(b1, .inl (g.2.1, 30, .inl r.2.2.1))] ++ [(b2, .inl (g.2.1, 15, .inl r.2.2.2.1))] ++ [(b3, .inl (g.2.1, 63, .inl r.2.2.2.2))])) A) ([.ref b0, .ref b1, .ref b2, .ref b3, .int p0] : List Value).toArray s 0 0 A) (F0 m 3 ls []) := by
    intro G0 G1 G2 G3 i4
    refine zloop_ind ?_
    intro x y rr hf ih hr hQ H locs hP hD hS ls hl
    unfold s_L_goes_3 at hf
    refine lv_iload hx hb dL_goes_3 (lv_at hl 5 rfl) ?_
    refine lv_iload hx hb dL_goes_5 (lv_at hl 4 rfl) ?_
    refine lv_icmp_ge (tgt := 120) hx hb dL_goes_7 (by decide) (fun c1 => ?_) (fun c1 => ?_)
    · have hf := oi hf c1
      have hR : (x.1, x.2.1, x.2.2.1, x.2.2.2.1, x.2.2.2.2) = rr := hr _ (Option.some.inj hf).symm
      subst hR
      exact hQ _ _ hP hD hS _ (lv_sub hl [5] rfl)
    · have hf := oe hf c1
      refine lv_aload_n hx hb dL_goes_10 rfl (lv_at hl 0 rfl) ?_
      refine lv_iconst (v := 3) hx hb dL_goes_11 (by decide) ?_
      refine zald (D := g.1) (f := x.2.1) (k := 3) hx hb hK.1 hP 0 0 rfl rfl (zin_vp (i := 3) (n := 9) rfl) rfl dL_goes_12 ?_
      refine lv_if_ne (tgt := 120) hx hb dL_goes_13 (by decide) (fun c2 => ?_) (fun c2 => ?_)
      · have hf := oe hf c2
        have hR : (x.1, x.2.1, x.2.2.1, x.2.2.2.1, x.2.2.2.2) = rr := hr _ (Option.some.inj hf).symm
        subst hR
        exact hQ _ _ hP hD hS _ (lv_sub hl [5] rfl)
      · have hf := oi hf c2
        refine lv_aload_n hx hb dL_goes_16 rfl (lv_at hl 0 rfl) ?_
        refine lv_iconst (v := 4) hx hb dL_goes_17 (by decide) ?_
        refine zald (D := g.1) (f := x.2.1) (k := 4) hx hb hK.1 hP 0 0 rfl rfl (zin_vp (i := 4) (n := 9) rfl) rfl dL_goes_18 ?_
        refine lv_if_ne (tgt := 29) hx hb dL_goes_19 (by decide) (fun c3 => ?_) (fun c3 => ?_)
        · have hf := oe hf c3
          refine lv_aload_n hx hb dL_goes_29 rfl (lv_at hl 0 rfl) ?_
          refine lv_iconst (v := 3) hx hb dL_goes_30 (by decide) ?_
          refine zald (D := g.1) (f := x.2.1) (k := 3) hx hb hK.1 hP 0 0 rfl rfl (zin_vp (i := 3) (n := 9) rfl) rfl dL_goes_31 ?_
          refine lv_if_ne (tgt := 3) hx hb dL_goes_32 (by decide) (fun c4 => ?_) (fun c4 => ?_)
          · have hf := oe hf c4
            exact ih (x.1, x.2.1, x.2.2.1, x.2.2.2.1, x.2.2.2.2) (Option.some.inj hf).symm hQ _ _ hP hD hS _ (lv_sub hl [0, 1, 2, 3, 4, 5] rfl)
          · have hf := oi hf c4
            refine lv_aload_n hx hb dL_goes_35 rfl (lv_at hl 0 rfl) ?_
            refine lv_iconst (v := 5) hx hb dL_goes_36 (by decide) ?_
            refine zald (D := g.1) (f := x.2.1) (k := 5) hx hb hK.1 hP 0 0 rfl rfl (zin_vp (i := 5) (n := 9) rfl) rfl dL_goes_37 ?_
            refine lv_bipush (v := 70) hx hb dL_goes_38 (by decide) ?_
            obtain ⟨u5, hu5, hf⟩ := ob hf
            have j6 : ∀ (H : Heap) (locs : List Loc), va_P g.1 vwCl ([(b0, .inl (g.2.1, 9, .inl x.2.1))] ++ [(b1, .inl (g.2.1, 30, .inl x.2.2.1))] ++ [(b2, .inl (g.2.1, 15, .inl x.2.2.2.1))] ++ [(b3, .inl (g.2.1, 63, .inl x.2.2.2.2))]) H → va_D A ([(b0, .inl (g.2.1, 9, .inl x.2.1))] ++ [(b1, .inl (g.2.1, 30, .inl x.2.2.1))] ++ [(b2, .inl (g.2.1, 15, .inl x.2.2.2.1))] ++ [(b3, .inl (g.2.1, 63, .inl x.2.2.2.2))]) → va_S A s.heap H locs → W p l e (headSpec (zw yL_goes cL_goes 7 (some .int)) ({ frames := 3, cells := 0, slots := 0, locals := 81 } : Room)).room s m ([.ref b0, .ref b1, .ref b2, .ref b3, .int p0] : List Value).toArray below meth c H locs 0 0 (MQ below (va_Qi (fun (x : Int32) (_ : Unit) => x = r.1) (fun _ => zEnd g A ([(b0, .inl (g.2.1, 9, .inl r.2.1))] ++ [(b1, .inl (g.2.1, 30, .inl r.2.2.1))] ++ [(b2, .inl (g.2.1, 15, .inl r.2.2.2.1))] ++ [(b3, .inl (g.2.1, 63, .inl r.2.2.2.2))])) A) ([.ref b0, .ref b1, .ref b2, .ref b3, .int p0] : List Value).toArray s 0 0 A) (F0 m 59 ls [.int u5]) := by
              intro H locs hP hD hS
              refine lv_istore (lv' := [(6, .int u5), (0, .ref b0), (1, .ref b1), (2, .ref b2), (3, .ref b3), (4, .int i4), (5, .int x.1)]) hx hb dL_goes_59 hl (by decide) rfl (fun ls hl => ?_)
              refine lv_iload hx hb dL_goes_61 (lv_at hl 6 rfl) ?_
              refine lv_iload hx hb dL_goes_63 (lv_at hl 0 rfl) ?_
              refine lv_iadd hx hb dL_goes_65 ?_
              refine lv_istore (lv' := [(5, .int (x.1 + u5)), (6, .int u5), (0, .ref b0), (1, .ref b1), (2, .ref b2), (3, .ref b3), (4, .int i4)]) hx hb dL_goes_66 hl (by decide) rfl (fun ls hl => ?_)
              refine lv_aload_n hx hb dL_goes_68 rfl (lv_at hl 2 rfl) ?_
              refine lv_iconst (v := 2) hx hb dL_goes_69 (by decide) ?_
              refine lv_dup2_11 hx hb dL_goes_70 rfl rfl ?_
              refine zald (D := g.1) (f := x.2.1) (k := 2) hx hb hK.1 hP 0 0 rfl rfl (zin_vp (i := 2) (n := 9) rfl) rfl dL_goes_71 ?_
              refine lv_iload hx hb dL_goes_72 (lv_at hl 1 rfl) ?_
              refine lv_iadd hx hb dL_goes_74 ?_
              refine zast (D := g.1) (f := x.2.1) (k := 2) (x := ((x.2.1 2) + u5)) hx hb hK.1 hP hD hS 0 0 rfl rfl (zin_vp (i := 2) (n := 9) rfl) rfl dL_goes_75 (fun H locs hP hD hS => ?_)
              have hP : va_P g.1 vwCl ([(b0, .inl (g.2.1, 9, .inl (upd x.2.1 2 ((x.2.1 2) + u5))))] ++ [(b1, .inl (g.2.1, 30, .inl x.2.2.1))] ++ [(b2, .inl (g.2.1, 15, .inl x.2.2.2.1))] ++ [(b3, .inl (g.2.1, 63, .inl x.2.2.2.2))]) H := hP
              have hD : va_D A ([(b0, .inl (g.2.1, 9, .inl (upd x.2.1 2 ((x.2.1 2) + u5))))] ++ [(b1, .inl (g.2.1, 30, .inl x.2.2.1))] ++ [(b2, .inl (g.2.1, 15, .inl x.2.2.2.1))] ++ [(b3, .inl (g.2.1, 63, .inl x.2.2.2.2))]) := hD
              refine lv_aload_n hx hb dL_goes_76 rfl (lv_at hl 2 rfl) ?_
              refine lv_iconst (v := 5) hx hb dL_goes_77 (by decide) ?_
              refine lv_dup2_11 hx hb dL_goes_78 rfl rfl ?_
              refine zald (D := g.1) (f := (upd x.2.1 2 ((x.2.1 2) + u5))) (k := 5) hx hb hK.1 hP 0 0 rfl rfl (zin_vp (i := 5) (n := 9) rfl) rfl dL_goes_79 ?_
              refine zeqi (y := (x.2.1 5)) rfl ?_
              refine lv_iload hx hb dL_goes_80 (lv_at hl 1 rfl) ?_
              refine lv_isub hx hb dL_goes_82 ?_
              refine zast (D := g.1) (f := (upd x.2.1 2 ((x.2.1 2) + u5))) (k := 5) (x := ((x.2.1 5) - u5)) hx hb hK.1 hP hD hS 0 0 rfl rfl (zin_vp (i := 5) (n := 9) rfl) rfl dL_goes_83 (fun H locs hP hD hS => ?_)
              have hP : va_P g.1 vwCl ([(b0, .inl (g.2.1, 9, .inl (upd (upd x.2.1 2 ((x.2.1 2) + u5)) 5 ((x.2.1 5) - u5))))] ++ [(b1, .inl (g.2.1, 30, .inl x.2.2.1))] ++ [(b2, .inl (g.2.1, 15, .inl x.2.2.2.1))] ++ [(b3, .inl (g.2.1, 63, .inl x.2.2.2.2))]) H := hP
              have hD : va_D A ([(b0, .inl (g.2.1, 9, .inl (upd (upd x.2.1 2 ((x.2.1 2) + u5)) 5 ((x.2.1 5) - u5))))] ++ [(b1, .inl (g.2.1, 30, .inl x.2.2.1))] ++ [(b2, .inl (g.2.1, 15, .inl x.2.2.2.1))] ++ [(b3, .inl (g.2.1, 63, .inl x.2.2.2.2))]) := hD
              refine lv_aload_n hx hb dL_goes_84 rfl (lv_at hl 2 rfl) ?_
              refine lv_bipush (v := 6) hx hb dL_goes_85 (by decide) ?_
              refine lv_dup2_11 hx hb dL_goes_87 rfl rfl ?_
              refine zald (D := g.1) (f := (upd (upd x.2.1 2 ((x.2.1 2) + u5)) 5 ((x.2.1 5) - u5))) (k := 6) hx hb hK.1 hP 0 0 rfl rfl (zin_vp (i := 6) (n := 9) rfl) rfl dL_goes_88 ?_
              refine zeqi (y := (x.2.1 6)) rfl ?_
              refine lv_aload_n hx hb dL_goes_89 rfl (lv_at hl 2 rfl) ?_
              refine lv_iconst (v := 4) hx hb dL_goes_90 (by decide) ?_
              refine zald (D := g.1) (f := (upd (upd x.2.1 2 ((x.2.1 2) + u5)) 5 ((x.2.1 5) - u5))) (k := 4) hx hb hK.1 hP 0 0 rfl rfl (zin_vp (i := 4) (n := 9) rfl) rfl dL_goes_91 ?_
              refine zeqi (y := (x.2.1 4)) rfl ?_
              refine lv_bipush (v := 40) hx hb dL_goes_92 (by decide) ?_
              obtain ⟨u7, hu7, hf⟩ := ob hf
              have j8 : ∀ (H : Heap) (locs : List Loc), va_P g.1 vwCl ([(b0, .inl (g.2.1, 9, .inl (upd (upd x.2.1 2 ((x.2.1 2) + u5)) 5 ((x.2.1 5) - u5))))] ++ [(b1, .inl (g.2.1, 30, .inl x.2.2.1))] ++ [(b2, .inl (g.2.1, 15, .inl x.2.2.2.1))] ++ [(b3, .inl (g.2.1, 63, .inl x.2.2.2.2))]) H → va_D A ([(b0, .inl (g.2.1, 9, .inl (upd (upd x.2.1 2 ((x.2.1 2) + u5)) 5 ((x.2.1 5) - u5))))] ++ [(b1, .inl (g.2.1, 30, .inl x.2.2.1))] ++ [(b2, .inl (g.2.1, 15, .inl x.2.2.2.1))] ++ [(b3, .inl (g.2.1, 63, .inl x.2.2.2.2))]) → va_S A s.heap H locs → W p l e (headSpec (zw yL_goes cL_goes 7 (some .int)) ({ frames := 3, cells := 0, slots := 0, locals := 81 } : Room)).room s m ([.ref b0, .ref b1, .ref b2, .ref b3, .int p0] : List Value).toArray below meth c H locs 0 0 (MQ below (va_Qi (fun (x : Int32) (_ : Unit) => x = r.1) (fun _ => zEnd g A ([(b0, .inl (g.2.1, 9, .inl r.2.1))] ++ [(b1, .inl (g.2.1, 30, .inl r.2.2.1))] ++ [(b2, .inl (g.2.1, 15, .inl r.2.2.2.1))] ++ [(b3, .inl (g.2.1, 63, .inl r.2.2.2.2))])) A) ([.ref b0, .ref b1, .ref b2, .ref b3, .int p0] : List Value).toArray s 0 0 A) (F0 m 103 ls [.int u7, .int (x.2.1 6), .int 6, .ref b0]) := by
                intro H locs hP hD hS
                refine lv_iadd hx hb dL_goes_103 ?_
                refine zast (D := g.1) (f := (upd (upd x.2.1 2 ((x.2.1 2) + u5)) 5 ((x.2.1 5) - u5))) (k := 6) (x := ((x.2.1 6) + u7)) hx hb hK.1 hP hD hS 0 0 rfl rfl (zin_vp (i := 6) (n := 9) rfl) rfl dL_goes_104 (fun H locs hP hD hS => ?_)
                have hP : va_P g.1 vwCl ([(b0, .inl (g.2.1, 9, .inl (upd (upd (upd x.2.1 2 ((x.2.1 2) + u5)) 5 ((x.2.1 5) - u5)) 6 ((x.2.1 6) + u7))))] ++ [(b1, .inl (g.2.1, 30, .inl x.2.2.1))] ++ [(b2, .inl (g.2.1, 15, .inl x.2.2.2.1))] ++ [(b3, .inl (g.2.1, 63, .inl x.2.2.2.2))]) H := hP
                have hD : va_D A ([(b0, .inl (g.2.1, 9, .inl (upd (upd (upd x.2.1 2 ((x.2.1 2) + u5)) 5 ((x.2.1 5) - u5)) 6 ((x.2.1 6) + u7))))] ++ [(b1, .inl (g.2.1, 30, .inl x.2.2.1))] ++ [(b2, .inl (g.2.1, 15, .inl x.2.2.2.1))] ++ [(b3, .inl (g.2.1, 63, .inl x.2.2.2.2))]) := hD
                refine lv_aload_n hx hb dL_goes_105 rfl (lv_at hl 2 rfl) ?_
                refine lv_iconst (v := 5) hx hb dL_goes_106 (by decide) ?_
                refine zald (D := g.1) (f := (upd (upd (upd x.2.1 2 ((x.2.1 2) + u5)) 5 ((x.2.1 5) - u5)) 6 ((x.2.1 6) + u7))) (k := 5) hx hb hK.1 hP 0 0 rfl rfl (zin_vp (i := 5) (n := 9) rfl) rfl dL_goes_107 ?_
                refine zeqi (y := ((x.2.1 5) - u5)) rfl ?_
                refine lv_if_ne (tgt := 117) hx hb dL_goes_108 (by decide) (fun c9 => ?_) (fun c9 => ?_)
                · have hf := oe hf c9
                  refine lv_goto (tgt := 3) hx hb dL_goes_117 (by decide) ?_
                  exact ih ((x.1 + u5), (upd (upd (upd x.2.1 2 ((x.2.1 2) + u5)) 5 ((x.2.1 5) - u5)) 6 ((x.2.1 6) + u7)), x.2.2.1, x.2.2.2.1, x.2.2.2.2) (Option.some.inj hf).symm hQ _ _ hP hD hS _ (lv_sub hl [2, 3, 4, 5, 6, 0] rfl)
                · have hf := oi hf c9
                  refine lv_aload_n hx hb dL_goes_111 rfl (lv_at hl 2 rfl) ?_
                  refine lv_aload_n hx hb dL_goes_112 rfl (lv_at hl 3 rfl) ?_
                  refine lv_aload_n hx hb dL_goes_113 rfl (lv_at hl 4 rfl) ?_
                  obtain ⟨u10, hu10, hf⟩ := ob hf
                  refine zk_v (va_runS (As := [.ref b0, .ref b1, .ref b2]) (rest := []) ⟨hx, hb, hml, hown, hts⟩ (c_L_done l g b0 b1 b2 (upd (upd (upd x.2.1 2 ((x.2.1 2) + u5)) 5 ((x.2.1 5) - u5)) 6 ((x.2.1 6) + u7)) x.2.2.1 x.2.2.2.1 _ hu10 _) (zcS hw0 zm2_198 zm2_200 zm1_0 zm2_199 hd_L_done rfl rfl ⟨Nat.le_of_ble_eq_true rfl, Nat.le_of_ble_eq_true rfl⟩) ⟨zblind, zpre hK hP hD [0, 1, 2] rfl rfl⟩ rfl rfl hl.1 rfl (lv_room (Nat.le_of_ble_eq_true rfl)) dL_goes_114 ⟨Nat.zero_le _, Nat.zero_le _⟩) hP hD hS hA [0, 1, 2] rfl rfl (fun H locs hP hD hS => ?_)
                  have hP : va_P g.1 vwCl ([(b0, .inl (g.2.1, 9, .inl u10.1))] ++ [(b1, .inl (g.2.1, 30, .inl u10.2.1))] ++ [(b2, .inl (g.2.1, 15, .inl u10.2.2))] ++ [(b3, .inl (g.2.1, 63, .inl x.2.2.2.2))]) H := hP
                  have hD : va_D A ([(b0, .inl (g.2.1, 9, .inl u10.1))] ++ [(b1, .inl (g.2.1, 30, .inl u10.2.1))] ++ [(b2, .inl (g.2.1, 15, .inl u10.2.2))] ++ [(b3, .inl (g.2.1, 63, .inl x.2.2.2.2))]) := hD
                  refine lv_goto (tgt := 3) hx hb dL_goes_117 (by decide) ?_
                  exact ih ((x.1 + u5), u10.1, u10.2.1, u10.2.2, x.2.2.2.2) (Option.some.inj hf).symm hQ _ _ hP hD hS _ (lv_sub hl [2, 3, 4, 5, 6, 0] rfl)
              have hf := hu7
              refine lv_icmp_ne (tgt := 102) hx hb dL_goes_94 (by decide) (fun c11 => ?_) (fun c11 => ?_)
              · have hf := oe hf c11
                refine lv_iconst (v := 0) hx hb dL_goes_102 (by decide) ?_
                exact zeqi (Option.some.inj hf) (j8 _ _ hP hD hS)
              · have hf := oi hf c11
                refine lv_iload hx hb dL_goes_97 (lv_at hl 1 rfl) ?_
                refine lv_goto (tgt := 103) hx hb dL_goes_99 (by decide) ?_
                exact zeqi (Option.some.inj hf) (j8 _ _ hP hD hS)
            have hf := hu5
            refine lv_icmp_le (tgt := 58) hx hb dL_goes_40 (by decide) (fun c12 => ?_) (fun c12 => ?_)
            · have hf := oi hf c12
              refine lv_iconst (v := 1) hx hb dL_goes_58 (by decide) ?_
              exact zeqi (Option.some.inj hf) (j6 _ _ hP hD hS)
            · have hf := oe hf c12
              refine lv_iload hx hb dL_goes_43 (lv_at hl 4 rfl) ?_
              refine lv_iload hx hb dL_goes_45 (lv_at hl 5 rfl) ?_
              refine lv_isub hx hb dL_goes_47 ?_
              refine lv_bipush (v := 70) hx hb dL_goes_48 (by decide) ?_
              refine lv_icmp_le (tgt := 58) hx hb dL_goes_50 (by decide) (fun c13 => ?_) (fun c13 => ?_)
              · have hf := oi hf c13
                refine lv_iconst (v := 1) hx hb dL_goes_58 (by decide) ?_
                exact zeqi (Option.some.inj hf) (j6 _ _ hP hD hS)
              · have hf := oe hf c13
                refine lv_bipush (v := 50) hx hb dL_goes_53 (by decide) ?_
                refine lv_goto (tgt := 59) hx hb dL_goes_55 (by decide) ?_
                exact zeqi (Option.some.inj hf) (j6 _ _ hP hD hS)
        · have hf := oi hf c3
          refine lv_aload_n hx hb dL_goes_22 rfl (lv_at hl 0 rfl) ?_
          refine lv_aload_n hx hb dL_goes_23 rfl (lv_at hl 1 rfl) ?_
          refine lv_aload_n hx hb dL_goes_24 rfl (lv_at hl 2 rfl) ?_
          refine lv_aload_n hx hb dL_goes_25 rfl (lv_at hl 3 rfl) ?_
          obtain ⟨u14, hu14, hf⟩ := ob hf
          refine zk_vA (va_runS (As := [.ref b0, .ref b1, .ref b2, .ref b3]) (rest := []) ⟨hx, hb, hml, hown, hts⟩ (c_L_next l g b0 b1 b2 b3 x.2.1 x.2.2.1 x.2.2.2.1 x.2.2.2.2 _ hu14 _) (zcS hw0 zm3_109 zm3_111 zm1_0 zm3_110 hd_L_next rfl rfl ⟨Nat.le_of_ble_eq_true rfl, Nat.le_of_ble_eq_true rfl⟩) ⟨zblind, zpreA hK hP hD⟩ rfl rfl hl.1 rfl (lv_room (Nat.le_of_ble_eq_true rfl)) dL_goes_26 ⟨Nat.zero_le _, Nat.zero_le _⟩) hP hD hS hA (fun H locs hP hD hS => ?_)
          have hP : va_P g.1 vwCl ([(b0, .inl (g.2.1, 9, .inl u14.1))] ++ [(b1, .inl (g.2.1, 30, .inl u14.2.1))] ++ [(b2, .inl (g.2.1, 15, .inl u14.2.2.1))] ++ [(b3, .inl (g.2.1, 63, .inl u14.2.2.2))]) H := hP
          have hD : va_D A ([(b0, .inl (g.2.1, 9, .inl u14.1))] ++ [(b1, .inl (g.2.1, 30, .inl u14.2.1))] ++ [(b2, .inl (g.2.1, 15, .inl u14.2.2.1))] ++ [(b3, .inl (g.2.1, 63, .inl u14.2.2.2))]) := hD
          refine lv_aload_n hx hb dL_goes_29 rfl (lv_at hl 0 rfl) ?_
          refine lv_iconst (v := 3) hx hb dL_goes_30 (by decide) ?_
          refine zald (D := g.1) (f := u14.1) (k := 3) hx hb hK.1 hP 0 0 rfl rfl (zin_vp (i := 3) (n := 9) rfl) rfl dL_goes_31 ?_
          refine lv_if_ne (tgt := 3) hx hb dL_goes_32 (by decide) (fun c15 => ?_) (fun c15 => ?_)
          · have hf := oe hf c15
            exact ih (x.1, u14.1, u14.2.1, u14.2.2.1, u14.2.2.2) (Option.some.inj hf).symm hQ _ _ hP hD hS _ (lv_sub hl [0, 1, 2, 3, 4, 5] rfl)
          · have hf := oi hf c15
            refine lv_aload_n hx hb dL_goes_35 rfl (lv_at hl 0 rfl) ?_
            refine lv_iconst (v := 5) hx hb dL_goes_36 (by decide) ?_
            refine zald (D := g.1) (f := u14.1) (k := 5) hx hb hK.1 hP 0 0 rfl rfl (zin_vp (i := 5) (n := 9) rfl) rfl dL_goes_37 ?_
            refine lv_bipush (v := 70) hx hb dL_goes_38 (by decide) ?_
            obtain ⟨u16, hu16, hf⟩ := ob hf
            have j17 : ∀ (H : Heap) (locs : List Loc), va_P g.1 vwCl ([(b0, .inl (g.2.1, 9, .inl u14.1))] ++ [(b1, .inl (g.2.1, 30, .inl u14.2.1))] ++ [(b2, .inl (g.2.1, 15, .inl u14.2.2.1))] ++ [(b3, .inl (g.2.1, 63, .inl u14.2.2.2))]) H → va_D A ([(b0, .inl (g.2.1, 9, .inl u14.1))] ++ [(b1, .inl (g.2.1, 30, .inl u14.2.1))] ++ [(b2, .inl (g.2.1, 15, .inl u14.2.2.1))] ++ [(b3, .inl (g.2.1, 63, .inl u14.2.2.2))]) → va_S A s.heap H locs → W p l e (headSpec (zw yL_goes cL_goes 7 (some .int)) ({ frames := 3, cells := 0, slots := 0, locals := 81 } : Room)).room s m ([.ref b0, .ref b1, .ref b2, .ref b3, .int p0] : List Value).toArray below meth c H locs 0 0 (MQ below (va_Qi (fun (x : Int32) (_ : Unit) => x = r.1) (fun _ => zEnd g A ([(b0, .inl (g.2.1, 9, .inl r.2.1))] ++ [(b1, .inl (g.2.1, 30, .inl r.2.2.1))] ++ [(b2, .inl (g.2.1, 15, .inl r.2.2.2.1))] ++ [(b3, .inl (g.2.1, 63, .inl r.2.2.2.2))])) A) ([.ref b0, .ref b1, .ref b2, .ref b3, .int p0] : List Value).toArray s 0 0 A) (F0 m 59 ls [.int u16]) := by
              intro H locs hP hD hS
              refine lv_istore (lv' := [(6, .int u16), (0, .ref b0), (1, .ref b1), (2, .ref b2), (3, .ref b3), (4, .int i4), (5, .int x.1)]) hx hb dL_goes_59 hl (by decide) rfl (fun ls hl => ?_)
              refine lv_iload hx hb dL_goes_61 (lv_at hl 6 rfl) ?_
              refine lv_iload hx hb dL_goes_63 (lv_at hl 0 rfl) ?_
              refine lv_iadd hx hb dL_goes_65 ?_
              refine lv_istore (lv' := [(5, .int (x.1 + u16)), (6, .int u16), (0, .ref b0), (1, .ref b1), (2, .ref b2), (3, .ref b3), (4, .int i4)]) hx hb dL_goes_66 hl (by decide) rfl (fun ls hl => ?_)
              refine lv_aload_n hx hb dL_goes_68 rfl (lv_at hl 2 rfl) ?_
              refine lv_iconst (v := 2) hx hb dL_goes_69 (by decide) ?_
              refine lv_dup2_11 hx hb dL_goes_70 rfl rfl ?_
              refine zald (D := g.1) (f := u14.1) (k := 2) hx hb hK.1 hP 0 0 rfl rfl (zin_vp (i := 2) (n := 9) rfl) rfl dL_goes_71 ?_
              refine lv_iload hx hb dL_goes_72 (lv_at hl 1 rfl) ?_
              refine lv_iadd hx hb dL_goes_74 ?_
              refine zast (D := g.1) (f := u14.1) (k := 2) (x := ((u14.1 2) + u16)) hx hb hK.1 hP hD hS 0 0 rfl rfl (zin_vp (i := 2) (n := 9) rfl) rfl dL_goes_75 (fun H locs hP hD hS => ?_)
              have hP : va_P g.1 vwCl ([(b0, .inl (g.2.1, 9, .inl (upd u14.1 2 ((u14.1 2) + u16))))] ++ [(b1, .inl (g.2.1, 30, .inl u14.2.1))] ++ [(b2, .inl (g.2.1, 15, .inl u14.2.2.1))] ++ [(b3, .inl (g.2.1, 63, .inl u14.2.2.2))]) H := hP
              have hD : va_D A ([(b0, .inl (g.2.1, 9, .inl (upd u14.1 2 ((u14.1 2) + u16))))] ++ [(b1, .inl (g.2.1, 30, .inl u14.2.1))] ++ [(b2, .inl (g.2.1, 15, .inl u14.2.2.1))] ++ [(b3, .inl (g.2.1, 63, .inl u14.2.2.2))]) := hD
              refine lv_aload_n hx hb dL_goes_76 rfl (lv_at hl 2 rfl) ?_
              refine lv_iconst (v := 5) hx hb dL_goes_77 (by decide) ?_
              refine lv_dup2_11 hx hb dL_goes_78 rfl rfl ?_
              refine zald (D := g.1) (f := (upd u14.1 2 ((u14.1 2) + u16))) (k := 5) hx hb hK.1 hP 0 0 rfl rfl (zin_vp (i := 5) (n := 9) rfl) rfl dL_goes_79 ?_
              refine zeqi (y := (u14.1 5)) rfl ?_
              refine lv_iload hx hb dL_goes_80 (lv_at hl 1 rfl) ?_
              refine lv_isub hx hb dL_goes_82 ?_
              refine zast (D := g.1) (f := (upd u14.1 2 ((u14.1 2) + u16))) (k := 5) (x := ((u14.1 5) - u16)) hx hb hK.1 hP hD hS 0 0 rfl rfl (zin_vp (i := 5) (n := 9) rfl) rfl dL_goes_83 (fun H locs hP hD hS => ?_)
              have hP : va_P g.1 vwCl ([(b0, .inl (g.2.1, 9, .inl (upd (upd u14.1 2 ((u14.1 2) + u16)) 5 ((u14.1 5) - u16))))] ++ [(b1, .inl (g.2.1, 30, .inl u14.2.1))] ++ [(b2, .inl (g.2.1, 15, .inl u14.2.2.1))] ++ [(b3, .inl (g.2.1, 63, .inl u14.2.2.2))]) H := hP
              have hD : va_D A ([(b0, .inl (g.2.1, 9, .inl (upd (upd u14.1 2 ((u14.1 2) + u16)) 5 ((u14.1 5) - u16))))] ++ [(b1, .inl (g.2.1, 30, .inl u14.2.1))] ++ [(b2, .inl (g.2.1, 15, .inl u14.2.2.1))] ++ [(b3, .inl (g.2.1, 63, .inl u14.2.2.2))]) := hD
              refine lv_aload_n hx hb dL_goes_84 rfl (lv_at hl 2 rfl) ?_
              refine lv_bipush (v := 6) hx hb dL_goes_85 (by decide) ?_
              refine lv_dup2_11 hx hb dL_goes_87 rfl rfl ?_
              refine zald (D := g.1) (f := (upd (upd u14.1 2 ((u14.1 2) + u16)) 5 ((u14.1 5) - u16))) (k := 6) hx hb hK.1 hP 0 0 rfl rfl (zin_vp (i := 6) (n := 9) rfl) rfl dL_goes_88 ?_
              refine zeqi (y := (u14.1 6)) rfl ?_
              refine lv_aload_n hx hb dL_goes_89 rfl (lv_at hl 2 rfl) ?_
              refine lv_iconst (v := 4) hx hb dL_goes_90 (by decide) ?_
              refine zald (D := g.1) (f := (upd (upd u14.1 2 ((u14.1 2) + u16)) 5 ((u14.1 5) - u16))) (k := 4) hx hb hK.1 hP 0 0 rfl rfl (zin_vp (i := 4) (n := 9) rfl) rfl dL_goes_91 ?_
              refine zeqi (y := (u14.1 4)) rfl ?_
              refine lv_bipush (v := 40) hx hb dL_goes_92 (by decide) ?_
              obtain ⟨u18, hu18, hf⟩ := ob hf
              have j19 : ∀ (H : Heap) (locs : List Loc), va_P g.1 vwCl ([(b0, .inl (g.2.1, 9, .inl (upd (upd u14.1 2 ((u14.1 2) + u16)) 5 ((u14.1 5) - u16))))] ++ [(b1, .inl (g.2.1, 30, .inl u14.2.1))] ++ [(b2, .inl (g.2.1, 15, .inl u14.2.2.1))] ++ [(b3, .inl (g.2.1, 63, .inl u14.2.2.2))]) H → va_D A ([(b0, .inl (g.2.1, 9, .inl (upd (upd u14.1 2 ((u14.1 2) + u16)) 5 ((u14.1 5) - u16))))] ++ [(b1, .inl (g.2.1, 30, .inl u14.2.1))] ++ [(b2, .inl (g.2.1, 15, .inl u14.2.2.1))] ++ [(b3, .inl (g.2.1, 63, .inl u14.2.2.2))]) → va_S A s.heap H locs → W p l e (headSpec (zw yL_goes cL_goes 7 (some .int)) ({ frames := 3, cells := 0, slots := 0, locals := 81 } : Room)).room s m ([.ref b0, .ref b1, .ref b2, .ref b3, .int p0] : List Value).toArray below meth c H locs 0 0 (MQ below (va_Qi (fun (x : Int32) (_ : Unit) => x = r.1) (fun _ => zEnd g A ([(b0, .inl (g.2.1, 9, .inl r.2.1))] ++ [(b1, .inl (g.2.1, 30, .inl r.2.2.1))] ++ [(b2, .inl (g.2.1, 15, .inl r.2.2.2.1))] ++ [(b3, .inl (g.2.1, 63, .inl r.2.2.2.2))])) A) ([.ref b0, .ref b1, .ref b2, .ref b3, .int p0] : List Value).toArray s 0 0 A) (F0 m 103 ls [.int u18, .int (u14.1 6), .int 6, .ref b0]) := by
                intro H locs hP hD hS
                refine lv_iadd hx hb dL_goes_103 ?_
                refine zast (D := g.1) (f := (upd (upd u14.1 2 ((u14.1 2) + u16)) 5 ((u14.1 5) - u16))) (k := 6) (x := ((u14.1 6) + u18)) hx hb hK.1 hP hD hS 0 0 rfl rfl (zin_vp (i := 6) (n := 9) rfl) rfl dL_goes_104 (fun H locs hP hD hS => ?_)
                have hP : va_P g.1 vwCl ([(b0, .inl (g.2.1, 9, .inl (upd (upd (upd u14.1 2 ((u14.1 2) + u16)) 5 ((u14.1 5) - u16)) 6 ((u14.1 6) + u18))))] ++ [(b1, .inl (g.2.1, 30, .inl u14.2.1))] ++ [(b2, .inl (g.2.1, 15, .inl u14.2.2.1))] ++ [(b3, .inl (g.2.1, 63, .inl u14.2.2.2))]) H := hP
                have hD : va_D A ([(b0, .inl (g.2.1, 9, .inl (upd (upd (upd u14.1 2 ((u14.1 2) + u16)) 5 ((u14.1 5) - u16)) 6 ((u14.1 6) + u18))))] ++ [(b1, .inl (g.2.1, 30, .inl u14.2.1))] ++ [(b2, .inl (g.2.1, 15, .inl u14.2.2.1))] ++ [(b3, .inl (g.2.1, 63, .inl u14.2.2.2))]) := hD
                refine lv_aload_n hx hb dL_goes_105 rfl (lv_at hl 2 rfl) ?_
                refine lv_iconst (v := 5) hx hb dL_goes_106 (by decide) ?_
                refine zald (D := g.1) (f := (upd (upd (upd u14.1 2 ((u14.1 2) + u16)) 5 ((u14.1 5) - u16)) 6 ((u14.1 6) + u18))) (k := 5) hx hb hK.1 hP 0 0 rfl rfl (zin_vp (i := 5) (n := 9) rfl) rfl dL_goes_107 ?_
                refine zeqi (y := ((u14.1 5) - u16)) rfl ?_
                refine lv_if_ne (tgt := 117) hx hb dL_goes_108 (by decide) (fun c20 => ?_) (fun c20 => ?_)
                · have hf := oe hf c20
                  refine lv_goto (tgt := 3) hx hb dL_goes_117 (by decide) ?_
                  exact ih ((x.1 + u16), (upd (upd (upd u14.1 2 ((u14.1 2) + u16)) 5 ((u14.1 5) - u16)) 6 ((u14.1 6) + u18)), u14.2.1, u14.2.2.1, u14.2.2.2) (Option.some.inj hf).symm hQ _ _ hP hD hS _ (lv_sub hl [2, 3, 4, 5, 6, 0] rfl)
                · have hf := oi hf c20
                  refine lv_aload_n hx hb dL_goes_111 rfl (lv_at hl 2 rfl) ?_
                  refine lv_aload_n hx hb dL_goes_112 rfl (lv_at hl 3 rfl) ?_
                  refine lv_aload_n hx hb dL_goes_113 rfl (lv_at hl 4 rfl) ?_
                  obtain ⟨u21, hu21, hf⟩ := ob hf
                  refine zk_v (va_runS (As := [.ref b0, .ref b1, .ref b2]) (rest := []) ⟨hx, hb, hml, hown, hts⟩ (c_L_done l g b0 b1 b2 (upd (upd (upd u14.1 2 ((u14.1 2) + u16)) 5 ((u14.1 5) - u16)) 6 ((u14.1 6) + u18)) u14.2.1 u14.2.2.1 _ hu21 _) (zcS hw0 zm2_198 zm2_200 zm1_0 zm2_199 hd_L_done rfl rfl ⟨Nat.le_of_ble_eq_true rfl, Nat.le_of_ble_eq_true rfl⟩) ⟨zblind, zpre hK hP hD [0, 1, 2] rfl rfl⟩ rfl rfl hl.1 rfl (lv_room (Nat.le_of_ble_eq_true rfl)) dL_goes_114 ⟨Nat.zero_le _, Nat.zero_le _⟩) hP hD hS hA [0, 1, 2] rfl rfl (fun H locs hP hD hS => ?_)
                  have hP : va_P g.1 vwCl ([(b0, .inl (g.2.1, 9, .inl u21.1))] ++ [(b1, .inl (g.2.1, 30, .inl u21.2.1))] ++ [(b2, .inl (g.2.1, 15, .inl u21.2.2))] ++ [(b3, .inl (g.2.1, 63, .inl u14.2.2.2))]) H := hP
                  have hD : va_D A ([(b0, .inl (g.2.1, 9, .inl u21.1))] ++ [(b1, .inl (g.2.1, 30, .inl u21.2.1))] ++ [(b2, .inl (g.2.1, 15, .inl u21.2.2))] ++ [(b3, .inl (g.2.1, 63, .inl u14.2.2.2))]) := hD
                  refine lv_goto (tgt := 3) hx hb dL_goes_117 (by decide) ?_
                  exact ih ((x.1 + u16), u21.1, u21.2.1, u21.2.2, u14.2.2.2) (Option.some.inj hf).symm hQ _ _ hP hD hS _ (lv_sub hl [2, 3, 4, 5, 6, 0] rfl)
              have hf := hu18
              refine lv_icmp_ne (tgt := 102) hx hb dL_goes_94 (by decide) (fun c22 => ?_) (fun c22 => ?_)
              · have hf := oe hf c22
                refine lv_iconst (v := 0) hx hb dL_goes_102 (by decide) ?_
                exact zeqi (Option.some.inj hf) (j19 _ _ hP hD hS)
              · have hf := oi hf c22
                refine lv_iload hx hb dL_goes_97 (lv_at hl 1 rfl) ?_
                refine lv_goto (tgt := 103) hx hb dL_goes_99 (by decide) ?_
                exact zeqi (Option.some.inj hf) (j19 _ _ hP hD hS)
            have hf := hu16
            refine lv_icmp_le (tgt := 58) hx hb dL_goes_40 (by decide) (fun c23 => ?_) (fun c23 => ?_)
            · have hf := oi hf c23
              refine lv_iconst (v := 1) hx hb dL_goes_58 (by decide) ?_
              exact zeqi (Option.some.inj hf) (j17 _ _ hP hD hS)
            · have hf := oe hf c23
              refine lv_iload hx hb dL_goes_43 (lv_at hl 4 rfl) ?_
              refine lv_iload hx hb dL_goes_45 (lv_at hl 5 rfl) ?_
              refine lv_isub hx hb dL_goes_47 ?_
              refine lv_bipush (v := 70) hx hb dL_goes_48 (by decide) ?_
              refine lv_icmp_le (tgt := 58) hx hb dL_goes_50 (by decide) (fun c24 => ?_) (fun c24 => ?_)
              · have hf := oi hf c24
                refine lv_iconst (v := 1) hx hb dL_goes_58 (by decide) ?_
                exact zeqi (Option.some.inj hf) (j17 _ _ hP hD hS)
              · have hf := oe hf c24
                refine lv_bipush (v := 50) hx hb dL_goes_53 (by decide) ?_
                refine lv_goto (tgt := 59) hx hb dL_goes_55 (by decide) ?_
                exact zeqi (Option.some.inj hf) (j17 _ _ hP hD hS)
  unfold f_L_goes at hf
  have hl := lv_entry ([.ref b0, .ref b1, .ref b2, .ref b3, .int p0]) (n := 7) (Nat.le_of_ble_eq_true rfl)
  rw [lg_entry_eq]
  generalize (lg_sl ([.ref b0, .ref b1, .ref b2, .ref b3, .int p0]) ++ List.replicate (7 - (lg_sl ([.ref b0, .ref b1, .ref b2, .ref b3, .int p0])).length) Slot.unset).toArray = ls at hl ⊢
  have hl : lv_has ls 7 [(0, .ref b0), (1, .ref b1), (2, .ref b2), (3, .ref b3), (4, .int p0)] := hl
  refine lv_iconst (v := 0) hx hb dL_goes_0 (by decide) ?_
  refine lv_istore (lv' := [(5, .int 0), (0, .ref b0), (1, .ref b1), (2, .ref b2), (3, .ref b3), (4, .int p0)]) hx hb dL_goes_1 hl (by decide) rfl (fun ls hl => ?_)
  obtain ⟨u25, hu25, hf⟩ := ob hf
  refine lp3 G0 G1 G2 G3 p0 _ _ u25 hu25 (fun H locs hP hD hS ls hl => ?_) _ _ hP hD hS _ (lv_sub hl [1, 2, 3, 4, 5, 0] rfl)
  have hl : lv_has ls 7 [(5, .int u25.1)] := hl
  have hP : va_P g.1 vwCl ([(b0, .inl (g.2.1, 9, .inl u25.2.1))] ++ [(b1, .inl (g.2.1, 30, .inl u25.2.2.1))] ++ [(b2, .inl (g.2.1, 15, .inl u25.2.2.2.1))] ++ [(b3, .inl (g.2.1, 63, .inl u25.2.2.2.2))]) H := hP
  have hD : va_D A ([(b0, .inl (g.2.1, 9, .inl u25.2.1))] ++ [(b1, .inl (g.2.1, 30, .inl u25.2.2.1))] ++ [(b2, .inl (g.2.1, 15, .inl u25.2.2.2.1))] ++ [(b3, .inl (g.2.1, 63, .inl u25.2.2.2.2))]) := hD
  refine lv_iload hx hb dL_goes_120 (lv_at hl 0 rfl) ?_
  have hR : (u25.1, u25.2.1, u25.2.2.1, u25.2.2.2.1, u25.2.2.2.2) = r := Option.some.inj hf
  rw [← hR]
  exact W.iret (v := u25.1) hx hb hr0 (fun t ht hW => ⟨⟨u25.1, (), rfl, rfl, by rw [ht]; exact hP, hD⟩, hS.F ht⟩) hS.2.2 dL_goes_122
theorem hd_L_inStatus : yL_inStatus.cls ≠ "java/lang/invoke/MethodHandle" ∧ yL_inStatus.cls ≠ "java/lang/invoke/VarHandle" ∧ (parseMethodDescriptor yL_inStatus.desc).map (fun d => d.parameters.length) = some 3 := by decide +kernel
def s_L_inStatus_5 (G0 : FF) (G1 : FF) (i2 : Int32) (x : Int32 × Int32) : Option ((Int32 × Int32) ⊕ (Int32 × Int32)) :=
  if (G0 0) ≤ x.2 then
    some (.inr (x.1, x.2))
  else
    if zin ((5 * x.2) + 3) 30 = true then
    (if (G1 ((5 * x.2) + 3).toNatClampNeg) = i2 then
      some 1
    else
      some 0 : Option Int32).bind (fun u3 =>
    some (.inl ((x.1 + u3), (x.2 + 1))))
    else none
def f_L_inStatus (G0 : FF) (G1 : FF) (p0 : Int32) : Option (Int32) :=
  (zloop (s_L_inStatus_5 G0 G1 p0) 4096 (0, 0)).bind (fun u6 =>
  some u6.1)
set_option maxHeartbeats 4000000 in
set_option maxRecDepth 100000 in
theorem c_L_inStatus (l : Launch) (g : zG) (b0 : Nat) (b1 : Nat) (G0 : FF) (G1 : FF) (p0 : Int32) (r : Int32) (hf : f_L_inStatus G0 G1 p0 = some r) : zMi zNF zNM l yL_inStatus (zw yL_inStatus cL_inStatus 5 (some .int)) ({ frames := 0, cells := 0, slots := 0, locals := 0 } : Room) g [.ref b0, .ref b1, .int p0] ([(b0, .inl (g.2.1, 9, .inl G0))] ++ [(b1, .inl (g.2.1, 30, .inl G1))]) r ([(b0, .inl (g.2.1, 9, .inl G0))] ++ [(b1, .inl (g.2.1, 30, .inl G1))]) := by
  intro sz
  refine Met.ofW (cc := cL_inStatus) (maxL := 5) (ret := (some .int)) (by decide) rfl ?_
  intro p e s m args below meth c s₁ B hml hv
  obtain ⟨rfl, hsz, hP, hK, hD0⟩ := hv
  have hx := B.exec
  have hb := B.bytes
  have hr0 := B.returns
  have hts := atoms_spec (ws := (zw yL_inStatus cL_inStatus 5 (some .int))) B.pre
  have hw0 : ∀ w ∈ zW, w.before ([.ref b0, .ref b1, .int p0] : List Value).toArray s = true := fun w h => hts w (List.mem_cons_of_mem _ h)
  have hown : s.vm.findClass RL = some m.cls := findClass_of_methodNamed B.named
  have hlocks := B.notSynchronized
  subst hsz
  have hD := hD0.self (sz := s.heap.size)
  generalize hAe : va_A ([(b0, .inl (g.2.1, 9, .inl G0))] ++ [(b1, .inl (g.2.1, 30, .inl G1))]) s.heap.size = A at hD ⊢
  have hA : ∀ q : Nat, s.heap.size ≤ q → A q := fun q h => by rw [← hAe]; exact Or.inr h
  have hS : va_S A s.heap s.heap [] := va_S.rf
  have lp5 : ∀ (G0 : FF) (G1 : FF) (i2 : Int32), ∀ (n : Nat) (x : Int32 × Int32) (rr : Int32 × Int32), zloop (s_L_inStatus_5 G0 G1 i2) n x = some rr → (∀ (H : Heap) (locs : List Loc), va_P g.1 vwCl ([(b0, .inl (g.2.1, 9, .inl G0))] ++ [(b1, .inl (g.2.1, 30, .inl G1))]) H → va_D A ([(b0, .inl (g.2.1, 9, .inl G0))] ++ [(b1, .inl (g.2.1, 30, .inl G1))]) → va_S A s.heap H locs → ∀ ls : Array Slot, lv_has ls 5 [(3, .int rr.1)] → W p l e (headSpec (zw yL_inStatus cL_inStatus 5 (some .int)) ({ frames := 0, cells := 0, slots := 0, locals := 0 } : Room)).room s m ([.ref b0, .ref b1, .int p0] : List Value).toArray below meth c H locs 0 0 (MQ below (va_Qi (fun (x : Int32) (_ : Unit) => x = r) (fun _ => zEnd g A ([(b0, .inl (g.2.1, 9, .inl G0))] ++ [(b1, .inl (g.2.1, 30, .inl G1))])) A) ([.ref b0, .ref b1, .int p0] : List Value).toArray s 0 0 A) (F0 m 39 ls [])) → ∀ (H : Heap) (locs : List Loc), va_P g.1 vwCl ([(b0, .inl (g.2.1, 9, .inl G0))] ++ [(b1, .inl (g.2.1, 30, .inl G1))]) H → va_D A ([(b0, .inl (g.2.1, 9, .inl G0))] ++ [(b1, .inl (g.2.1, 30, .inl G1))]) → va_S A s.heap H locs → ∀ ls : Array Slot, lv_has ls 5 [(0, .ref b0), (1, .ref b1), (2, .int i2), (3, .int x.1), (4, .int x.2)] → W p l e (headSpec (zw yL_inStatus cL_inStatus 5 (some .int)) ({ frames := 0, cells := 0, slots := 0, locals := 0 } : Room)).room s m ([.ref b0, .ref b1, .int p0] : List Value).toArray below meth c H locs 0 0 (MQ below (va_Qi (fun (x : Int32) (_ : Unit) => x = r) (fun _ => zEnd g A ([(b0, .inl (g.2.1, 9, .inl G0))] ++ [(b1, .inl (g.2.1, 30, .inl G1))])) A) ([.ref b0, .ref b1, .int p0] : List Value).toArray s 0 0 A) (F0 m 5 ls []) := by
    intro G0 G1 i2
    refine zloop_ind ?_
    intro x y rr hf ih hr hQ H locs hP hD hS ls hl
    unfold s_L_inStatus_5 at hf
    refine lv_iload hx hb dL_inStatus_5 (lv_at hl 4 rfl) ?_
    refine lv_aload_n hx hb dL_inStatus_7 rfl (lv_at hl 0 rfl) ?_
    refine lv_iconst (v := 0) hx hb dL_inStatus_8 (by decide) ?_
    refine zald (D := g.1) (f := G0) (k := 0) hx hb hK.1 hP 0 0 rfl rfl (zin_vp (i := 0) (n := 9) rfl) rfl dL_inStatus_9 ?_
    refine lv_icmp_ge (tgt := 39) hx hb dL_inStatus_10 (by decide) (fun c1 => ?_) (fun c1 => ?_)
    · have hf := oi hf c1
      have hR : (x.1, x.2) = rr := hr _ (Option.some.inj hf).symm
      subst hR
      exact hQ _ _ hP hD hS _ (lv_sub hl [3] rfl)
    · have hf := oe hf c1
      refine lv_iload_n hx hb dL_inStatus_13 rfl (lv_at hl 3 rfl) ?_
      refine lv_aload_n hx hb dL_inStatus_14 rfl (lv_at hl 1 rfl) ?_
      refine lv_iconst (v := 5) hx hb dL_inStatus_15 (by decide) ?_
      refine lv_iload hx hb dL_inStatus_16 (lv_at hl 4 rfl) ?_
      refine lv_imul hx hb dL_inStatus_18 ?_
      refine lv_iconst (v := 3) hx hb dL_inStatus_19 (by decide) ?_
      refine lv_iadd hx hb dL_inStatus_20 ?_
      obtain ⟨h2, hf⟩ := og hf
      refine zald (D := g.1) (f := G1) (k := ((5 * x.2) + 3).toNatClampNeg) hx hb hK.1 hP 1 0 rfl rfl (zin_vp h2) rfl dL_inStatus_21 ?_
      refine lv_iload_n hx hb dL_inStatus_22 rfl (lv_at hl 2 rfl) ?_
      obtain ⟨u3, hu3, hf⟩ := ob hf
      have j4 : ∀ (H : Heap) (locs : List Loc), va_P g.1 vwCl ([(b0, .inl (g.2.1, 9, .inl G0))] ++ [(b1, .inl (g.2.1, 30, .inl G1))]) H → va_D A ([(b0, .inl (g.2.1, 9, .inl G0))] ++ [(b1, .inl (g.2.1, 30, .inl G1))]) → va_S A s.heap H locs → W p l e (headSpec (zw yL_inStatus cL_inStatus 5 (some .int)) ({ frames := 0, cells := 0, slots := 0, locals := 0 } : Room)).room s m ([.ref b0, .ref b1, .int p0] : List Value).toArray below meth c H locs 0 0 (MQ below (va_Qi (fun (x : Int32) (_ : Unit) => x = r) (fun _ => zEnd g A ([(b0, .inl (g.2.1, 9, .inl G0))] ++ [(b1, .inl (g.2.1, 30, .inl G1))])) A) ([.ref b0, .ref b1, .int p0] : List Value).toArray s 0 0 A) (F0 m 31 ls [.int u3, .int x.1]) := by
        intro H locs hP hD hS
        refine lv_iadd hx hb dL_inStatus_31 ?_
        refine lv_istore_n (lv' := [(3, .int (x.1 + u3)), (0, .ref b0), (1, .ref b1), (2, .int i2), (4, .int x.2)]) hx hb dL_inStatus_32 rfl hl (by decide) rfl (fun ls hl => ?_)
        refine lv_iinc (v := (x.2 + 1)) (lv' := [(4, .int (x.2 + 1)), (3, .int (x.1 + u3)), (0, .ref b0), (1, .ref b1), (2, .int i2)]) hx hb dL_inStatus_33 hl (k := 4) rfl rfl (by decide) rfl (fun ls hl => ?_)
        refine lv_goto (tgt := 5) hx hb dL_inStatus_36 (by decide) ?_
        exact ih ((x.1 + u3), (x.2 + 1)) (Option.some.inj hf).symm hQ _ _ hP hD hS _ (lv_sub hl [2, 3, 4, 1, 0] rfl)
      have hf := hu3
      refine lv_icmp_ne (tgt := 30) hx hb dL_inStatus_23 (by decide) (fun c5 => ?_) (fun c5 => ?_)
      · have hf := oe hf c5
        refine lv_iconst (v := 0) hx hb dL_inStatus_30 (by decide) ?_
        exact zeqi (Option.some.inj hf) (j4 _ _ hP hD hS)
      · have hf := oi hf c5
        refine lv_iconst (v := 1) hx hb dL_inStatus_26 (by decide) ?_
        refine lv_goto (tgt := 31) hx hb dL_inStatus_27 (by decide) ?_
        exact zeqi (Option.some.inj hf) (j4 _ _ hP hD hS)
  unfold f_L_inStatus at hf
  have hl := lv_entry ([.ref b0, .ref b1, .int p0]) (n := 5) (Nat.le_of_ble_eq_true rfl)
  rw [lg_entry_eq]
  generalize (lg_sl ([.ref b0, .ref b1, .int p0]) ++ List.replicate (5 - (lg_sl ([.ref b0, .ref b1, .int p0])).length) Slot.unset).toArray = ls at hl ⊢
  have hl : lv_has ls 5 [(0, .ref b0), (1, .ref b1), (2, .int p0)] := hl
  refine lv_iconst (v := 0) hx hb dL_inStatus_0 (by decide) ?_
  refine lv_istore_n (lv' := [(3, .int 0), (0, .ref b0), (1, .ref b1), (2, .int p0)]) hx hb dL_inStatus_1 rfl hl (by decide) rfl (fun ls hl => ?_)
  refine lv_iconst (v := 0) hx hb dL_inStatus_2 (by decide) ?_
  refine lv_istore (lv' := [(4, .int 0), (3, .int 0), (0, .ref b0), (1, .ref b1), (2, .int p0)]) hx hb dL_inStatus_3 hl (by decide) rfl (fun ls hl => ?_)
  obtain ⟨u6, hu6, hf⟩ := ob hf
  refine lp5 G0 G1 p0 _ _ u6 hu6 (fun H locs hP hD hS ls hl => ?_) _ _ hP hD hS _ (lv_sub hl [2, 3, 4, 1, 0] rfl)
  have hl : lv_has ls 5 [(3, .int u6.1)] := hl
  have hP : va_P g.1 vwCl ([(b0, .inl (g.2.1, 9, .inl G0))] ++ [(b1, .inl (g.2.1, 30, .inl G1))]) H := hP
  have hD : va_D A ([(b0, .inl (g.2.1, 9, .inl G0))] ++ [(b1, .inl (g.2.1, 30, .inl G1))]) := hD
  refine lv_iload_n hx hb dL_inStatus_39 rfl (lv_at hl 0 rfl) ?_
  have hR : u6.1 = r := Option.some.inj hf
  rw [← hR]
  exact W.iret (v := u6.1) hx hb hr0 (fun t ht hW => ⟨⟨u6.1, (), rfl, rfl, by rw [ht]; exact hP, hD⟩, hS.F ht⟩) hS.2.2 dL_inStatus_40
