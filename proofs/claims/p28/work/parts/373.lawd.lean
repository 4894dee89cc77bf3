theorem hd_L_done : yL_done.cls ≠ "java/lang/invoke/MethodHandle" ∧ yL_done.cls ≠ "java/lang/invoke/VarHandle" ∧ (parseMethodDescriptor yL_done.desc).map (fun d => d.parameters.length) = some 3 := by decide +kernel
def f_L_done (G0 : FF) (G1 : FF) (G2 : FF) : Option (FF × FF × FF) :=
  if (G0 4) ≤ 0 then
    if 40 ≤ (G0 4) then
      some ((upd (upd G0 4 0) 5 0), G1, G2)
    else
      if (G0 4) ≤ 0 then
        some ((upd (upd G0 4 0) 5 0), G1, G2)
      else
        if zin ((3 * (G0 4)) - 62) 15 = true then
        some ((upd (upd G0 4 0) 5 0), G1, (upd G2 (((3 * (G0 4)) - 62).toNatClampNeg) 2))
        else none
  else
    if 21 ≤ (G0 4) then
      if 40 ≤ (G0 4) then
        some ((upd (upd G0 4 0) 5 0), G1, G2)
      else
        if (G0 4) ≤ 0 then
          some ((upd (upd G0 4 0) 5 0), G1, G2)
        else
          if zin ((3 * (G0 4)) - 62) 15 = true then
          some ((upd (upd G0 4 0) 5 0), G1, (upd G2 (((3 * (G0 4)) - 62).toNatClampNeg) 2))
          else none
    else
      if zin ((5 * (G0 4)) - 2) 30 = true then
      some ((upd (upd G0 4 0) 5 0), (upd G1 (((5 * (G0 4)) - 2).toNatClampNeg) 2), G2)
      else none
set_option maxHeartbeats 4000000 in
set_option maxRecDepth 100000 in
theorem c_L_done (l : Launch) (g : zG) (b0 : Nat) (b1 : Nat) (b2 : Nat) (G0 : FF) (G1 : FF) (G2 : FF) (r : FF × FF × FF) (hf : f_L_done G0 G1 G2 = some r) : zMv zNF zNM l yL_done (zw yL_done cL_done 3 none) ({ frames := 0, cells := 0, slots := 0, locals := 0 } : Room) g [.ref b0, .ref b1, .ref b2] ([(b0, .inl (g.2.1, 9, .inl G0))] ++ [(b1, .inl (g.2.1, 30, .inl G1))] ++ [(b2, .inl (g.2.1, 15, .inl G2))]) ([(b0, .inl (g.2.1, 9, .inl r.1))] ++ [(b1, .inl (g.2.1, 30, .inl r.2.1))] ++ [(b2, .inl (g.2.1, 15, .inl r.2.2))]) := by
  intro sz
  refine Met.ofW (cc := cL_done) (maxL := 3) (ret := none) (by decide) rfl ?_
  intro p e s m args below meth c s₁ B hml hv
  obtain ⟨rfl, hsz, hP, hK, hD0⟩ := hv
  have hx := B.exec
  have hb := B.bytes
  have hr0 := B.returns
  have hts := atoms_spec (ws := (zw yL_done cL_done 3 none)) B.pre
  have hw0 : ∀ w ∈ zW, w.before ([.ref b0, .ref b1, .ref b2] : List Value).toArray s = true := fun w h => hts w (List.mem_cons_of_mem _ h)
  have hown : s.vm.findClass RL = some m.cls := findClass_of_methodNamed B.named
  have hlocks := B.notSynchronized
  subst hsz
  have hD := hD0.self (sz := s.heap.size)
  generalize hAe : va_A ([(b0, .inl (g.2.1, 9, .inl G0))] ++ [(b1, .inl (g.2.1, 30, .inl G1))] ++ [(b2, .inl (g.2.1, 15, .inl G2))]) s.heap.size = A at hD ⊢
  have hA : ∀ q : Nat, s.heap.size ≤ q → A q := fun q h => by rw [← hAe]; exact Or.inr h
  have hS : va_S A s.heap s.heap [] := va_S.rf
  unfold f_L_done at hf
  have hl := lv_entry ([.ref b0, .ref b1, .ref b2]) (n := 3) (Nat.le_of_ble_eq_true rfl)
  rw [lg_entry_eq]
  generalize (lg_sl ([.ref b0, .ref b1, .ref b2]) ++ List.replicate (3 - (lg_sl ([.ref b0, .ref b1, .ref b2])).length) Slot.unset).toArray = ls at hl ⊢
  have hl : lv_has ls 3 [(0, .ref b0), (1, .ref b1), (2, .ref b2)] := hl
  refine lv_aload_n hx hb dL_done_0 rfl (lv_at hl 0 rfl) ?_
  refine lv_iconst (v := 4) hx hb dL_done_1 (by decide) ?_
  refine zald (D := g.1) (f := G0) (k := 4) hx hb hK.1 hP 0 0 rfl rfl (zin_vp (i := 4) (n := 9) rfl) rfl dL_done_2 ?_
  refine lv_if_le (tgt := 27) hx hb dL_done_3 (by decide) (fun c1 => ?_) (fun c1 => ?_)
  · have hf := oi hf c1
    refine lv_aload_n hx hb dL_done_27 rfl (lv_at hl 0 rfl) ?_
    refine lv_iconst (v := 4) hx hb dL_done_28 (by decide) ?_
    refine zald (D := g.1) (f := G0) (k := 4) hx hb hK.1 hP 0 0 rfl rfl (zin_vp (i := 4) (n := 9) rfl) rfl dL_done_29 ?_
    refine lv_bipush (v := 40) hx hb dL_done_30 (by decide) ?_
    refine lv_icmp_ge (tgt := 52) hx hb dL_done_32 (by decide) (fun c2 => ?_) (fun c2 => ?_)
    · have hf := oi hf c2
      refine lv_aload_n hx hb dL_done_52 rfl (lv_at hl 0 rfl) ?_
      refine lv_iconst (v := 4) hx hb dL_done_53 (by decide) ?_
      refine lv_iconst (v := 0) hx hb dL_done_54 (by decide) ?_
      refine zast (D := g.1) (f := G0) (k := 4) (x := 0) hx hb hK.1 hP hD hS 0 0 rfl rfl (zin_vp (i := 4) (n := 9) rfl) rfl dL_done_55 (fun H locs hP hD hS => ?_)
      have hP : va_P g.1 vwCl ([(b0, .inl (g.2.1, 9, .inl (upd G0 4 0)))] ++ [(b1, .inl (g.2.1, 30, .inl G1))] ++ [(b2, .inl (g.2.1, 15, .inl G2))]) H := hP
      have hD : va_D A ([(b0, .inl (g.2.1, 9, .inl (upd G0 4 0)))] ++ [(b1, .inl (g.2.1, 30, .inl G1))] ++ [(b2, .inl (g.2.1, 15, .inl G2))]) := hD
      refine lv_aload_n hx hb dL_done_56 rfl (lv_at hl 0 rfl) ?_
      refine lv_iconst (v := 5) hx hb dL_done_57 (by decide) ?_
      refine lv_iconst (v := 0) hx hb dL_done_58 (by decide) ?_
      refine zast (D := g.1) (f := (upd G0 4 0)) (k := 5) (x := 0) hx hb hK.1 hP hD hS 0 0 rfl rfl (zin_vp (i := 5) (n := 9) rfl) rfl dL_done_59 (fun H locs hP hD hS => ?_)
      have hP : va_P g.1 vwCl ([(b0, .inl (g.2.1, 9, .inl (upd (upd G0 4 0) 5 0)))] ++ [(b1, .inl (g.2.1, 30, .inl G1))] ++ [(b2, .inl (g.2.1, 15, .inl G2))]) H := hP
      have hD : va_D A ([(b0, .inl (g.2.1, 9, .inl (upd (upd G0 4 0) 5 0)))] ++ [(b1, .inl (g.2.1, 30, .inl G1))] ++ [(b2, .inl (g.2.1, 15, .inl G2))]) := hD
      have hR : ((upd (upd G0 4 0) 5 0), G1, G2) = r := Option.some.inj hf
      rw [← hR]
      exact W.vret hx hb hr0 (fun t ht hW => ⟨⟨(), rfl, trivial, by rw [ht]; exact hP, hD⟩, hS.F ht⟩) hS.2.2 dL_done_60
    · have hf := oe hf c2
      refine lv_aload_n hx hb dL_done_35 rfl (lv_at hl 0 rfl) ?_
      refine lv_iconst (v := 4) hx hb dL_done_36 (by decide) ?_
      refine zald (D := g.1) (f := G0) (k := 4) hx hb hK.1 hP 0 0 rfl rfl (zin_vp (i := 4) (n := 9) rfl) rfl dL_done_37 ?_
      refine lv_if_le (tgt := 52) hx hb dL_done_38 (by decide) (fun c3 => ?_) (fun c3 => ?_)
      · have hf := oi hf c3
        refine lv_aload_n hx hb dL_done_52 rfl (lv_at hl 0 rfl) ?_
        refine lv_iconst (v := 4) hx hb dL_done_53 (by decide) ?_
        refine lv_iconst (v := 0) hx hb dL_done_54 (by decide) ?_
        refine zast (D := g.1) (f := G0) (k := 4) (x := 0) hx hb hK.1 hP hD hS 0 0 rfl rfl (zin_vp (i := 4) (n := 9) rfl) rfl dL_done_55 (fun H locs hP hD hS => ?_)
        have hP : va_P g.1 vwCl ([(b0, .inl (g.2.1, 9, .inl (upd G0 4 0)))] ++ [(b1, .inl (g.2.1, 30, .inl G1))] ++ [(b2, .inl (g.2.1, 15, .inl G2))]) H := hP
        have hD : va_D A ([(b0, .inl (g.2.1, 9, .inl (upd G0 4 0)))] ++ [(b1, .inl (g.2.1, 30, .inl G1))] ++ [(b2, .inl (g.2.1, 15, .inl G2))]) := hD
        refine lv_aload_n hx hb dL_done_56 rfl (lv_at hl 0 rfl) ?_
        refine lv_iconst (v := 5) hx hb dL_done_57 (by decide) ?_
        refine lv_iconst (v := 0) hx hb dL_done_58 (by decide) ?_
        refine zast (D := g.1) (f := (upd G0 4 0)) (k := 5) (x := 0) hx hb hK.1 hP hD hS 0 0 rfl rfl (zin_vp (i := 5) (n := 9) rfl) rfl dL_done_59 (fun H locs hP hD hS => ?_)
        have hP : va_P g.1 vwCl ([(b0, .inl (g.2.1, 9, .inl (upd (upd G0 4 0) 5 0)))] ++ [(b1, .inl (g.2.1, 30, .inl G1))] ++ [(b2, .inl (g.2.1, 15, .inl G2))]) H := hP
        have hD : va_D A ([(b0, .inl (g.2.1, 9, .inl (upd (upd G0 4 0) 5 0)))] ++ [(b1, .inl (g.2.1, 30, .inl G1))] ++ [(b2, .inl (g.2.1, 15, .inl G2))]) := hD
        have hR : ((upd (upd G0 4 0) 5 0), G1, G2) = r := Option.some.inj hf
        rw [← hR]
        exact W.vret hx hb hr0 (fun t ht hW => ⟨⟨(), rfl, trivial, by rw [ht]; exact hP, hD⟩, hS.F ht⟩) hS.2.2 dL_done_60
      · have hf := oe hf c3
        refine lv_aload_n hx hb dL_done_41 rfl (lv_at hl 2 rfl) ?_
        refine lv_iconst (v := 3) hx hb dL_done_42 (by decide) ?_
        refine lv_aload_n hx hb dL_done_43 rfl (lv_at hl 0 rfl) ?_
        refine lv_iconst (v := 4) hx hb dL_done_44 (by decide) ?_
        refine zald (D := g.1) (f := G0) (k := 4) hx hb hK.1 hP 0 0 rfl rfl (zin_vp (i := 4) (n := 9) rfl) rfl dL_done_45 ?_
        refine lv_imul hx hb dL_done_46 ?_
        refine lv_bipush (v := 62) hx hb dL_done_47 (by decide) ?_
        refine lv_isub hx hb dL_done_49 ?_
        refine lv_iconst (v := 2) hx hb dL_done_50 (by decide) ?_
        obtain ⟨h4, hf⟩ := og hf
        refine zast (D := g.1) (f := G2) (k := ((3 * (G0 4)) - 62).toNatClampNeg) (x := 2) hx hb hK.1 hP hD hS 2 0 rfl rfl (zin_vp h4) rfl dL_done_51 (fun H locs hP hD hS => ?_)
        have hP : va_P g.1 vwCl ([(b0, .inl (g.2.1, 9, .inl G0))] ++ [(b1, .inl (g.2.1, 30, .inl G1))] ++ [(b2, .inl (g.2.1, 15, .inl (upd G2 (((3 * (G0 4)) - 62).toNatClampNeg) 2)))]) H := hP
        have hD : va_D A ([(b0, .inl (g.2.1, 9, .inl G0))] ++ [(b1, .inl (g.2.1, 30, .inl G1))] ++ [(b2, .inl (g.2.1, 15, .inl (upd G2 (((3 * (G0 4)) - 62).toNatClampNeg) 2)))]) := hD
        refine lv_aload_n hx hb dL_done_52 rfl (lv_at hl 0 rfl) ?_
        refine lv_iconst (v := 4) hx hb dL_done_53 (by decide) ?_
        refine lv_iconst (v := 0) hx hb dL_done_54 (by decide) ?_
        refine zast (D := g.1) (f := G0) (k := 4) (x := 0) hx hb hK.1 hP hD hS 0 0 rfl rfl (zin_vp (i := 4) (n := 9) rfl) rfl dL_done_55 (fun H locs hP hD hS => ?_)
        have hP : va_P g.1 vwCl ([(b0, .inl (g.2.1, 9, .inl (upd G0 4 0)))] ++ [(b1, .inl (g.2.1, 30, .inl G1))] ++ [(b2, .inl (g.2.1, 15, .inl (upd G2 (((3 * (G0 4)) - 62).toNatClampNeg) 2)))]) H := hP
        have hD : va_D A ([(b0, .inl (g.2.1, 9, .inl (upd G0 4 0)))] ++ [(b1, .inl (g.2.1, 30, .inl G1))] ++ [(b2, .inl (g.2.1, 15, .inl (upd G2 (((3 * (G0 4)) - 62).toNatClampNeg) 2)))]) := hD
        refine lv_aload_n hx hb dL_done_56 rfl (lv_at hl 0 rfl) ?_
        refine lv_iconst (v := 5) hx hb dL_done_57 (by decide) ?_
        refine lv_iconst (v := 0) hx hb dL_done_58 (by decide) ?_
        refine zast (D := g.1) (f := (upd G0 4 0)) (k := 5) (x := 0) hx hb hK.1 hP hD hS 0 0 rfl rfl (zin_vp (i := 5) (n := 9) rfl) rfl dL_done_59 (fun H locs hP hD hS => ?_)
        have hP : va_P g.1 vwCl ([(b0, .inl (g.2.1, 9, .inl (upd (upd G0 4 0) 5 0)))] ++ [(b1, .inl (g.2.1, 30, .inl G1))] ++ [(b2, .inl (g.2.1, 15, .inl (upd G2 (((3 * (G0 4)) - 62).toNatClampNeg) 2)))]) H := hP
        have hD : va_D A ([(b0, .inl (g.2.1, 9, .inl (upd (upd G0 4 0) 5 0)))] ++ [(b1, .inl (g.2.1, 30, .inl G1))] ++ [(b2, .inl (g.2.1, 15, .inl (upd G2 (((3 * (G0 4)) - 62).toNatClampNeg) 2)))]) := hD
        have hR : ((upd (upd G0 4 0) 5 0), G1, (upd G2 (((3 * (G0 4)) - 62).toNatClampNeg) 2)) = r := Option.some.inj hf
        rw [← hR]
        exact W.vret hx hb hr0 (fun t ht hW => ⟨⟨(), rfl, trivial, by rw [ht]; exact hP, hD⟩, hS.F ht⟩) hS.2.2 dL_done_60
  · have hf := oe hf c1
    refine lv_aload_n hx hb dL_done_6 rfl (lv_at hl 0 rfl) ?_
    refine lv_iconst (v := 4) hx hb dL_done_7 (by decide) ?_
    refine zald (D := g.1) (f := G0) (k := 4) hx hb hK.1 hP 0 0 rfl rfl (zin_vp (i := 4) (n := 9) rfl) rfl dL_done_8 ?_
    refine lv_bipush (v := 21) hx hb dL_done_9 (by decide) ?_
    refine lv_icmp_ge (tgt := 27) hx hb dL_done_11 (by decide) (fun c5 => ?_) (fun c5 => ?_)
    · have hf := oi hf c5
      refine lv_aload_n hx hb dL_done_27 rfl (lv_at hl 0 rfl) ?_
      refine lv_iconst (v := 4) hx hb dL_done_28 (by decide) ?_
      refine zald (D := g.1) (f := G0) (k := 4) hx hb hK.1 hP 0 0 rfl rfl (zin_vp (i := 4) (n := 9) rfl) rfl dL_done_29 ?_
      refine lv_bipush (v := 40) hx hb dL_done_30 (by decide) ?_
      refine lv_icmp_ge (tgt := 52) hx hb dL_done_32 (by decide) (fun c6 => ?_) (fun c6 => ?_)
      · have hf := oi hf c6
        refine lv_aload_n hx hb dL_done_52 rfl (lv_at hl 0 rfl) ?_
        refine lv_iconst (v := 4) hx hb dL_done_53 (by decide) ?_
        refine lv_iconst (v := 0) hx hb dL_done_54 (by decide) ?_
        refine zast (D := g.1) (f := G0) (k := 4) (x := 0) hx hb hK.1 hP hD hS 0 0 rfl rfl (zin_vp (i := 4) (n := 9) rfl) rfl dL_done_55 (fun H locs hP hD hS => ?_)
        have hP : va_P g.1 vwCl ([(b0, .inl (g.2.1, 9, .inl (upd G0 4 0)))] ++ [(b1, .inl (g.2.1, 30, .inl G1))] ++ [(b2, .inl (g.2.1, 15, .inl G2))]) H := hP
        have hD : va_D A ([(b0, .inl (g.2.1, 9, .inl (upd G0 4 0)))] ++ [(b1, .inl (g.2.1, 30, .inl G1))] ++ [(b2, .inl (g.2.1, 15, .inl G2))]) := hD
        refine lv_aload_n hx hb dL_done_56 rfl (lv_at hl 0 rfl) ?_
        refine lv_iconst (v := 5) hx hb dL_done_57 (by decide) ?_
        refine lv_iconst (v := 0) hx hb dL_done_58 (by decide) ?_
        refine zast (D := g.1) (f := (upd G0 4 0)) (k := 5) (x := 0) hx hb hK.1 hP hD hS 0 0 rfl rfl (zin_vp (i := 5) (n := 9) rfl) rfl dL_done_59 (fun H locs hP hD hS => ?_)
        have hP : va_P g.1 vwCl ([(b0, .inl (g.2.1, 9, .inl (upd (upd G0 4 0) 5 0)))] ++ [(b1, .inl (g.2.1, 30, .inl G1))] ++ [(b2, .inl (g.2.1, 15, .inl G2))]) H := hP
        have hD : va_D A ([(b0, .inl (g.2.1, 9, .inl (upd (upd G0 4 0) 5 0)))] ++ [(b1, .inl (g.2.1, 30, .inl G1))] ++ [(b2, .inl (g.2.1, 15, .inl G2))]) := hD
        have hR : ((upd (upd G0 4 0) 5 0), G1, G2) = r := Option.some.inj hf
        rw [← hR]
        exact W.vret hx hb hr0 (fun t ht hW => ⟨⟨(), rfl, trivial, by rw [ht]; exact hP, hD⟩, hS.F ht⟩) hS.2.2 dL_done_60
      · have hf := oe hf c6
        refine lv_aload_n hx hb dL_done_35 rfl (lv_at hl 0 rfl) ?_
        refine lv_iconst (v := 4) hx hb dL_done_36 (by decide) ?_
        refine zald (D := g.1) (f := G0) (k := 4) hx hb hK.1 hP 0 0 rfl rfl (zin_vp (i := 4) (n := 9) rfl) rfl dL_done_37 ?_
        refine lv_if_le (tgt := 52) hx hb dL_done_38 (by decide) (fun c7 => ?_) (fun c7 => ?_)
        · have hf := oi hf c7
          refine lv_aload_n hx hb dL_done_52 rfl (lv_at hl 0 rfl) ?_
          refine lv_iconst (v := 4) hx hb dL_done_53 (by decide) ?_
          refine lv_iconst (v := 0) hx hb dL_done_54 (by decide) ?_
          refine zast (D := g.1) (f := G0) (k := 4) (x := 0) hx hb hK.1 hP hD hS 0 0 rfl rfl (zin_vp (i := 4) (n := 9) rfl) rfl dL_done_55 (fun H locs hP hD hS => ?_)
          have hP : va_P g.1 vwCl ([(b0, .inl (g.2.1, 9, .inl (upd G0 4 0)))] ++ [(b1, .inl (g.2.1, 30, .inl G1))] ++ [(b2, .inl (g.2.1, 15, .inl G2))]) H := hP
          have hD : va_D A ([(b0, .inl (g.2.1, 9, .inl (upd G0 4 0)))] ++ [(b1, .inl (g.2.1, 30, .inl G1))] ++ [(b2, .inl (g.2.1, 15, .inl G2))]) := hD
          refine lv_aload_n hx hb dL_done_56 rfl (lv_at hl 0 rfl) ?_
          refine lv_iconst (v := 5) hx hb dL_done_57 (by decide) ?_
          refine lv_iconst (v := 0) hx hb dL_done_58 (by decide) ?_
          refine zast (D := g.1) (f := (upd G0 4 0)) (k := 5) (x := 0) hx hb hK.1 hP hD hS 0 0 rfl rfl (zin_vp (i := 5) (n := 9) rfl) rfl dL_done_59 (fun H locs hP hD hS => ?_)
          have hP : va_P g.1 vwCl ([(b0, .inl (g.2.1, 9, .inl (upd (upd G0 4 0) 5 0)))] ++ [(b1, .inl (g.2.1, 30, .inl G1))] ++ [(b2, .inl (g.2.1, 15, .inl G2))]) H := hP
          have hD : va_D A ([(b0, .inl (g.2.1, 9, .inl (upd (upd G0 4 0) 5 0)))] ++ [(b1, .inl (g.2.1, 30, .inl G1))] ++ [(b2, .inl (g.2.1, 15, .inl G2))]) := hD
          have hR : ((upd (upd G0 4 0) 5 0), G1, G2) = r := Option.some.inj hf
          rw [← hR]
          exact W.vret hx hb hr0 (fun t ht hW => ⟨⟨(), rfl, trivial, by rw [ht]; exact hP, hD⟩, hS.F ht⟩) hS.2.2 dL_done_60
        · have hf := oe hf c7
          refine lv_aload_n hx hb dL_done_41 rfl (lv_at hl 2 rfl) ?_
          refine lv_iconst (v := 3) hx hb dL_done_42 (by decide) ?_
          refine lv_aload_n hx hb dL_done_43 rfl (lv_at hl 0 rfl) ?_
          refine lv_iconst (v := 4) hx hb dL_done_44 (by decide) ?_
          refine zald (D := g.1) (f := G0) (k := 4) hx hb hK.1 hP 0 0 rfl rfl (zin_vp (i := 4) (n := 9) rfl) rfl dL_done_45 ?_
          refine lv_imul hx hb dL_done_46 ?_
          refine lv_bipush (v := 62) hx hb dL_done_47 (by decide) ?_
          refine lv_isub hx hb dL_done_49 ?_
          refine lv_iconst (v := 2) hx hb dL_done_50 (by decide) ?_
          obtain ⟨h8, hf⟩ := og hf
          refine zast (D := g.1) (f := G2) (k := ((3 * (G0 4)) - 62).toNatClampNeg) (x := 2) hx hb hK.1 hP hD hS 2 0 rfl rfl (zin_vp h8) rfl dL_done_51 (fun H locs hP hD hS => ?_)
          have hP : va_P g.1 vwCl ([(b0, .inl (g.2.1, 9, .inl G0))] ++ [(b1, .inl (g.2.1, 30, .inl G1))] ++ [(b2, .inl (g.2.1, 15, .inl (upd G2 (((3 * (G0 4)) - 62).toNatClampNeg) 2)))]) H := hP
          have hD : va_D A ([(b0, .inl (g.2.1, 9, .inl G0))] ++ [(b1, .inl (g.2.1, 30, .inl G1))] ++ [(b2, .inl (g.2.1, 15, .inl (upd G2 (((3 * (G0 4)) - 62).toNatClampNeg) 2)))]) := hD
          refine lv_aload_n hx hb dL_done_52 rfl (lv_at hl 0 rfl) ?_
          refine lv_iconst (v := 4) hx hb dL_done_53 (by decide) ?_
          refine lv_iconst (v := 0) hx hb dL_done_54 (by decide) ?_
          refine zast (D := g.1) (f := G0) (k := 4) (x := 0) hx hb hK.1 hP hD hS 0 0 rfl rfl (zin_vp (i := 4) (n := 9) rfl) rfl dL_done_55 (fun H locs hP hD hS => ?_)
          have hP : va_P g.1 vwCl ([(b0, .inl (g.2.1, 9, .inl (upd G0 4 0)))] ++ [(b1, .inl (g.2.1, 30, .inl G1))] ++ [(b2, .inl (g.2.1, 15, .inl (upd G2 (((3 * (G0 4)) - 62).toNatClampNeg) 2)))]) H := hP
          have hD : va_D A ([(b0, .inl (g.2.1, 9, .inl (upd G0 4 0)))] ++ [(b1, .inl (g.2.1, 30, .inl G1))] ++ [(b2, .inl (g.2.1, 15, .inl (upd G2 (((3 * (G0 4)) - 62).toNatClampNeg) 2)))]) := hD
          refine lv_aload_n hx hb dL_done_56 rfl (lv_at hl 0 rfl) ?_
          refine lv_iconst (v := 5) hx hb dL_done_57 (by decide) ?_
          refine lv_iconst (v := 0) hx hb dL_done_58 (by decide) ?_
          refine zast (D := g.1) (f := (upd G0 4 0)) (k := 5) (x := 0) hx hb hK.1 hP hD hS 0 0 rfl rfl (zin_vp (i := 5) (n := 9) rfl) rfl dL_done_59 (fun H locs hP hD hS => ?_)
          have hP : va_P g.1 vwCl ([(b0, .inl (g.2.1, 9, .inl (upd (upd G0 4 0) 5 0)))] ++ [(b1, .inl (g.2.1, 30, .inl G1))] ++ [(b2, .inl (g.2.1, 15, .inl (upd G2 (((3 * (G0 4)) - 62).toNatClampNeg) 2)))]) H := hP
          have hD : va_D A ([(b0, .inl (g.2.1, 9, .inl (upd (upd G0 4 0) 5 0)))] ++ [(b1, .inl (g.2.1, 30, .inl G1))] ++ [(b2, .inl (g.2.1, 15, .inl (upd G2 (((3 * (G0 4)) - 62).toNatClampNeg) 2)))]) := hD
          have hR : ((upd (upd G0 4 0) 5 0), G1, (upd G2 (((3 * (G0 4)) - 62).toNatClampNeg) 2)) = r := Option.some.inj hf
          rw [← hR]
          exact W.vret hx hb hr0 (fun t ht hW => ⟨⟨(), rfl, trivial, by rw [ht]; exact hP, hD⟩, hS.F ht⟩) hS.2.2 dL_done_60
    · have hf := oe hf c5
      refine lv_aload_n hx hb dL_done_14 rfl (lv_at hl 1 rfl) ?_
      refine lv_iconst (v := 5) hx hb dL_done_15 (by decide) ?_
      refine lv_aload_n hx hb dL_done_16 rfl (lv_at hl 0 rfl) ?_
      refine lv_iconst (v := 4) hx hb dL_done_17 (by decide) ?_
      refine zald (D := g.1) (f := G0) (k := 4) hx hb hK.1 hP 0 0 rfl rfl (zin_vp (i := 4) (n := 9) rfl) rfl dL_done_18 ?_
      refine lv_imul hx hb dL_done_19 ?_
      refine lv_iconst (v := 2) hx hb dL_done_20 (by decide) ?_
      refine lv_isub hx hb dL_done_21 ?_
      refine lv_iconst (v := 2) hx hb dL_done_22 (by decide) ?_
      obtain ⟨h9, hf⟩ := og hf
      refine zast (D := g.1) (f := G1) (k := ((5 * (G0 4)) - 2).toNatClampNeg) (x := 2) hx hb hK.1 hP hD hS 1 0 rfl rfl (zin_vp h9) rfl dL_done_23 (fun H locs hP hD hS => ?_)
      have hP : va_P g.1 vwCl ([(b0, .inl (g.2.1, 9, .inl G0))] ++ [(b1, .inl (g.2.1, 30, .inl (upd G1 (((5 * (G0 4)) - 2).toNatClampNeg) 2)))] ++ [(b2, .inl (g.2.1, 15, .inl G2))]) H := hP
      have hD : va_D A ([(b0, .inl (g.2.1, 9, .inl G0))] ++ [(b1, .inl (g.2.1, 30, .inl (upd G1 (((5 * (G0 4)) - 2).toNatClampNeg) 2)))] ++ [(b2, .inl (g.2.1, 15, .inl G2))]) := hD
      refine lv_goto (tgt := 52) hx hb dL_done_24 (by decide) ?_
      refine lv_aload_n hx hb dL_done_52 rfl (lv_at hl 0 rfl) ?_
      refine lv_iconst (v := 4) hx hb dL_done_53 (by decide) ?_
      refine lv_iconst (v := 0) hx hb dL_done_54 (by decide) ?_
      refine zast (D := g.1) (f := G0) (k := 4) (x := 0) hx hb hK.1 hP hD hS 0 0 rfl rfl (zin_vp (i := 4) (n := 9) rfl) rfl dL_done_55 (fun H locs hP hD hS => ?_)
      have hP : va_P g.1 vwCl ([(b0, .inl (g.2.1, 9, .inl (upd G0 4 0)))] ++ [(b1, .inl (g.2.1, 30, .inl (upd G1 (((5 * (G0 4)) - 2).toNatClampNeg) 2)))] ++ [(b2, .inl (g.2.1, 15, .inl G2))]) H := hP
      have hD : va_D A ([(b0, .inl (g.2.1, 9, .inl (upd G0 4 0)))] ++ [(b1, .inl (g.2.1, 30, .inl (upd G1 (((5 * (G0 4)) - 2).toNatClampNeg) 2)))] ++ [(b2, .inl (g.2.1, 15, .inl G2))]) := hD
      refine lv_aload_n hx hb dL_done_56 rfl (lv_at hl 0 rfl) ?_
      refine lv_iconst (v := 5) hx hb dL_done_57 (by decide) ?_
      refine lv_iconst (v := 0) hx hb dL_done_58 (by decide) ?_
      refine zast (D := g.1) (f := (upd G0 4 0)) (k := 5) (x := 0) hx hb hK.1 hP hD hS 0 0 rfl rfl (zin_vp (i := 5) (n := 9) rfl) rfl dL_done_59 (fun H locs hP hD hS => ?_)
      have hP : va_P g.1 vwCl ([(b0, .inl (g.2.1, 9, .inl (upd (upd G0 4 0) 5 0)))] ++ [(b1, .inl (g.2.1, 30, .inl (upd G1 (((5 * (G0 4)) - 2).toNatClampNeg) 2)))] ++ [(b2, .inl (g.2.1, 15, .inl G2))]) H := hP
      have hD : va_D A ([(b0, .inl (g.2.1, 9, .inl (upd (upd G0 4 0) 5 0)))] ++ [(b1, .inl (g.2.1, 30, .inl (upd G1 (((5 * (G0 4)) - 2).toNatClampNeg) 2)))] ++ [(b2, .inl (g.2.1, 15, .inl G2))]) := hD
      have hR : ((upd (upd G0 4 0) 5 0), (upd G1 (((5 * (G0 4)) - 2).toNatClampNeg) 2), G2) = r := Option.some.inj hf
      rw [← hR]
      exact W.vret hx hb hr0 (fun t ht hW => ⟨⟨(), rfl, trivial, by rw [ht]; exact hP, hD⟩, hS.F ht⟩) hS.2.2 dL_done_60
