/-! The law's wrappers: where nothing is thrown, and whatever is caught. -/
theorem zmH1_232 : (Cond.codeWith ({ cls := "HourClockLaw", name := "adds", desc := "(LHourClock;III)I" } : Jvm.MethodName) method_16_code (5 : Nat) (Option.some Jvm.ClassFile.FieldType.int) [((0 : Nat), (7 : Nat), (8 : Nat), (93 : Nat)), ((0 : Nat), (7 : Nat), (13 : Nat), (95 : Nat))]) ∈ zW := zW_mem (zt_1 (List.mem_of_getElem? (i := 232) rfl)) rfl
theorem zmH2_122 : (Cond.codeWith ({ cls := "HourClockLaw", name := "fills", desc := "(LHourClock;I)I" } : Jvm.MethodName) method_17_code (3 : Nat) (Option.some Jvm.ClassFile.FieldType.int) [((0 : Nat), (5 : Nat), (6 : Nat), (93 : Nat)), ((0 : Nat), (5 : Nat), (10 : Nat), (95 : Nat))]) ∈ zW := zW_mem (zt_2 (List.mem_of_getElem? (i := 122) rfl)) rfl
theorem zmH2_134 : (Cond.codeWith ({ cls := "HourClockLaw", name := "stretches", desc := "(LHourClock;II)I" } : Jvm.MethodName) method_18_code (4 : Nat) (Option.some Jvm.ClassFile.FieldType.int) [((0 : Nat), (6 : Nat), (7 : Nat), (104 : Nat)), ((0 : Nat), (6 : Nat), (11 : Nat), (93 : Nat)), ((0 : Nat), (6 : Nat), (15 : Nat), (95 : Nat))]) ∈ zW := zW_mem (zt_2 (List.mem_of_getElem? (i := 134) rfl)) rfl
theorem zmH2_203 : (Cond.codeWith ({ cls := "HourClockLaw", name := "drops", desc := "(LHourClock;I)I" } : Jvm.MethodName) method_19_code (3 : Nat) (Option.some Jvm.ClassFile.FieldType.int) [((0 : Nat), (5 : Nat), (6 : Nat), (104 : Nat)), ((0 : Nat), (5 : Nat), (10 : Nat), (95 : Nat))]) ∈ zW := zW_mem (zt_2 (List.mem_of_getElem? (i := 203) rfl)) rfl
theorem zmH2_230 : (Cond.codeWith ({ cls := "HourClockLaw", name := "agains", desc := "(LHourClock;)I" } : Jvm.MethodName) method_21_code (2 : Nat) (Option.some Jvm.ClassFile.FieldType.int) [((0 : Nat), (4 : Nat), (5 : Nat), (95 : Nat))]) ∈ zW := zW_mem (zt_2 (List.mem_of_getElem? (i := 230) rfl)) rfl
theorem zmH3_10 : (Cond.codeWith ({ cls := "HourClockLaw", name := "passes", desc := "(LHourClock;I)I" } : Jvm.MethodName) method_20_code (3 : Nat) (Option.some Jvm.ClassFile.FieldType.int) [((0 : Nat), (5 : Nat), (6 : Nat), (93 : Nat))]) ∈ zW := zW_mem (zt_3 (List.mem_of_getElem? (i := 10) rfl)) rfl
theorem zmH3_138 : (Cond.codeWith ({ cls := "HourClockLaw", name := "valueOf", desc := "(LHourClock;I)I" } : Jvm.MethodName) method_24_code (3 : Nat) (Option.some Jvm.ClassFile.FieldType.int) [((0 : Nat), (5 : Nat), (6 : Nat), (93 : Nat))]) ∈ zW := zW_mem (zt_3 (List.mem_of_getElem? (i := 138) rfl)) rfl
theorem zmH3_158 : (Cond.codeWith ({ cls := "HourClockLaw", name := "elementOf", desc := "(LHourClock;II)I" } : Jvm.MethodName) method_22_code (4 : Nat) (Option.some Jvm.ClassFile.FieldType.int) [((0 : Nat), (6 : Nat), (7 : Nat), (104 : Nat)), ((0 : Nat), (6 : Nat), (11 : Nat), (93 : Nat))]) ∈ zW := zW_mem (zt_3 (List.mem_of_getElem? (i := 158) rfl)) rfl
theorem zmH3_175 : (Cond.codeWith ({ cls := "HourClockLaw", name := "backOf", desc := "(LHourClock;I)I" } : Jvm.MethodName) method_26_code (3 : Nat) (Option.some Jvm.ClassFile.FieldType.int) [((0 : Nat), (5 : Nat), (6 : Nat), (104 : Nat))]) ∈ zW := zW_mem (zt_3 (List.mem_of_getElem? (i := 175) rfl)) rfl
theorem zmH3_186 : (Cond.codeWith ({ cls := "HourClockLaw", name := "fillerOf", desc := "(LHourClock;II)I" } : Jvm.MethodName) method_23_code (4 : Nat) (Option.some Jvm.ClassFile.FieldType.int) [((0 : Nat), (6 : Nat), (7 : Nat), (104 : Nat)), ((0 : Nat), (6 : Nat), (11 : Nat), (93 : Nat))]) ∈ zW := zW_mem (zt_3 (List.mem_of_getElem? (i := 186) rfl)) rfl
theorem zmH3_200 : (Cond.codeWith ({ cls := "HourClockLaw", name := "entryOf", desc := "(LHourClock;II)I" } : Jvm.MethodName) method_25_code (4 : Nat) (Option.some Jvm.ClassFile.FieldType.int) [((0 : Nat), (6 : Nat), (7 : Nat), (104 : Nat)), ((0 : Nat), (6 : Nat), (11 : Nat), (93 : Nat))]) ∈ zW := zW_mem (zt_3 (List.mem_of_getElem? (i := 200) rfl)) rfl
theorem hd_L_adds : yL_adds.cls ≠ "java/lang/invoke/MethodHandle" ∧ yL_adds.cls ≠ "java/lang/invoke/VarHandle" ∧ (parseMethodDescriptor yL_adds.desc).map (fun d => d.parameters.length) = some 4 := by decide +kernel
def fa_L_adds (v : CV) (p0 : Int32) (p1 : Int32) (p2 : Int32) : Option (Int32 × CV) := (f_X6_addElement v p0 p1 p2).bind (fun r => match r with | .inl k => if k = 1 then some (-2000002, v) else if k = 2 then some (-2000003, v) else none | .inr q => some q)
set_option maxHeartbeats 4000000 in
set_option maxRecDepth 100000 in
theorem co_L_adds (l : Launch) (g : zG) (a : Nat → Nat) (v : CV) (p0 : Int32) (p1 : Int32) (p2 : Int32) (r : Int32 × CV) (hf : fn_X6_addElement v p0 p1 p2 = some r) : zMo zNF zNM l yL_adds (zwH yL_adds cL_adds 5 (some .int) [(0, 7, 8, 93), (0, 7, 13, 95)]) ({ frames := 7, cells := 0, slots := 0, locals := 125 } : Room) g [.ref (a 0), .int p0, .int p1, .int p2] (zX6 g a v) r.1 (zX6 g a r.2) := by
  intro sz
  refine vx_ofWH (cc := cL_adds) (maxL := 5) (ret := (some .int)) (hh := [(0, 7, 8, 93), (0, 7, 13, 95)]) (by decide) rfl ?_
  intro p e s m args below meth c s₁ B hml hv
  obtain ⟨rfl, hsz, hP, hK, hD0⟩ := hv
  have hx := B.exec
  have hb := B.bytes
  have hr0 := B.returns
  have hts := atoms_spec (ws := (zwH yL_adds cL_adds 5 (some .int) [(0, 7, 8, 93), (0, 7, 13, 95)])) B.pre
  have htb : c.exceptionTable.toList = [⟨0, 7, 8, 93⟩, ⟨0, 7, 13, 95⟩] := vx_table (x := yL_adds) B (hts _ List.mem_cons_self)
  have hw0 : ∀ w ∈ zW, w.before ([.ref (a 0), .int p0, .int p1, .int p2] : List Value).toArray s = true := fun w h => hts w (List.mem_cons_of_mem _ h)
  have hown : s.vm.findClass RL = some m.cls := findClass_of_methodNamed B.named
  have hlocks := B.notSynchronized
  subst hsz
  have hD := hD0.self (sz := s.heap.size)
  generalize hAe : va_A (zX6 g a v) s.heap.size = A at hD ⊢
  have hA : ∀ q : Nat, s.heap.size ≤ q → A q := fun q h => by rw [← hAe]; exact Or.inr h
  have hS : va_S A s.heap s.heap [] := va_S.rf
  have hl := lv_entry ([.ref (a 0), .int p0, .int p1, .int p2]) (n := 5) (Nat.le_of_ble_eq_true rfl)
  rw [lg_entry_eq]
  generalize (lg_sl ([.ref (a 0), .int p0, .int p1, .int p2]) ++ List.replicate (5 - (lg_sl ([.ref (a 0), .int p0, .int p1, .int p2])).length) Slot.unset).toArray = ls at hl ⊢
  have hl : lv_has ls 5 [(0, .ref (a 0)), (1, .int p0), (2, .int p1), (3, .int p2)] := hl
  refine lv_aload_n hx hb dL_adds_0 rfl (lv_at hl 0 rfl) ?_
  refine lv_iload_n hx hb dL_adds_1 rfl (lv_at hl 1 rfl) ?_
  refine lv_iload_n hx hb dL_adds_2 rfl (lv_at hl 2 rfl) ?_
  refine lv_iload_n hx hb dL_adds_3 rfl (lv_at hl 3 rfl) ?_
  refine zk_iA (va_runV (As := [.int p0, .int p1, .int p2]) (rest := []) ⟨hx, hb, hml, hown, hts⟩ (cn_X6_addElement l g a v p0 p1 p2 r hf _) (zcVg hw0 zm1_235 zm1_238 zm1_1 zm1_236 zm1_237 hd_X6_addElement rfl rfl ⟨Nat.le_of_ble_eq_true rfl, Nat.le_of_ble_eq_true rfl⟩) ⟨zblind, zrecvA hK hP (ci := 6) rfl rfl, zpreA hK hP hD⟩ rfl rfl hl.1 rfl (lv_room (Nat.le_of_ble_eq_true rfl)) dL_adds_4 ⟨Nat.le_of_ble_eq_true rfl, Nat.le_of_ble_eq_true rfl⟩) hP hD hS hA (fun H locs hP hD hS => ?_)
  exact vx_ret (W.iret (v := r.1) hx hb hr0 (fun t ht hW => ⟨⟨r.1, (), rfl, rfl, by rw [ht]; exact hP, hD⟩, hS.F ht⟩) hS.2.2 dL_adds_7)
set_option maxHeartbeats 4000000 in
set_option maxRecDepth 100000 in
theorem ca_L_adds (l : Launch) (hst9 : l.stackTraces = false) (g : zG) (a : Nat → Nat) (v : CV) (p0 : Int32) (p1 : Int32) (p2 : Int32) (r : Int32 × CV) (hf : fa_L_adds v p0 p1 p2 = some r) : zMa zNF zNM l yL_adds (zwH yL_adds cL_adds 5 (some .int) [(0, 7, 8, 93), (0, 7, 13, 95)]) ({ frames := 7, cells := 1, slots := 6, locals := 125 } : Room) g [.ref (a 0), .int p0, .int p1, .int p2] (zX6 g a v) r.1 (zX6 g a r.2) := by
  intro sz
  refine vx_ofWH (cc := cL_adds) (maxL := 5) (ret := (some .int)) (hh := [(0, 7, 8, 93), (0, 7, 13, 95)]) (by decide) rfl ?_
  intro p e s m args below meth c s₁ B hml hv
  obtain ⟨rfl, ⟨⟨hsz, hP, hK, hD0⟩, hKx, hZs⟩, hNc⟩ := hv
  have hx := B.exec
  have hb := B.bytes
  have hr0 := B.returns
  have hts := atoms_spec (ws := (zwH yL_adds cL_adds 5 (some .int) [(0, 7, 8, 93), (0, 7, 13, 95)])) B.pre
  have htb : c.exceptionTable.toList = [⟨0, 7, 8, 93⟩, ⟨0, 7, 13, 95⟩] := vx_table (x := yL_adds) B (hts _ List.mem_cons_self)
  have hw0 : ∀ w ∈ zW, w.before ([.ref (a 0), .int p0, .int p1, .int p2] : List Value).toArray s = true := fun w h => hts w (List.mem_cons_of_mem _ h)
  have hown : s.vm.findClass RL = some m.cls := findClass_of_methodNamed B.named
  have hlocks := B.notSynchronized
  subst hsz
  have hD := hD0.self (sz := s.heap.size)
  generalize hAe : va_A (zX6 g a v) s.heap.size = A at hD hZs ⊢
  have hA : ∀ q : Nat, s.heap.size ≤ q → A q := fun q h => by rw [← hAe]; exact Or.inr h
  have hS : va_S A s.heap s.heap [] := va_S.rf
  unfold fa_L_adds at hf
  have hl := lv_entry ([.ref (a 0), .int p0, .int p1, .int p2]) (n := 5) (Nat.le_of_ble_eq_true rfl)
  rw [lg_entry_eq]
  generalize (lg_sl ([.ref (a 0), .int p0, .int p1, .int p2]) ++ List.replicate (5 - (lg_sl ([.ref (a 0), .int p0, .int p1, .int p2])).length) Slot.unset).toArray = ls at hl ⊢
  have hl : lv_has ls 5 [(0, .ref (a 0)), (1, .int p0), (2, .int p1), (3, .int p2)] := hl
  obtain ⟨r9, hr9, hf⟩ := ob hf
  refine lv_aload_n hx hb dL_adds_0 rfl (lv_at hl 0 rfl) ?_
  refine lv_iload_n hx hb dL_adds_1 rfl (lv_at hl 1 rfl) ?_
  refine lv_iload_n hx hb dL_adds_2 rfl (lv_at hl 2 rfl) ?_
  refine lv_iload_n hx hb dL_adds_3 rfl (lv_at hl 3 rfl) ?_
  refine zk_xA (vx_runV (As := [.int p0, .int p1, .int p2]) (rest := []) ⟨hx, hb, hml, hown, hts⟩ (c_X6_addElement l hst9 g a v p0 p1 p2 r9 hr9 _) (zcVg hw0 zm1_235 zm1_238 zm1_1 zm1_236 zm1_237 hd_X6_addElement rfl rfl ⟨Nat.le_of_ble_eq_true rfl, Nat.le_of_ble_eq_true rfl⟩) ⟨zblindX, zrecvA hK hP (ci := 6) rfl rfl, zpreXA hK hKx hZs hP hD hS hA⟩ rfl rfl hl.1 rfl (lv_room (Nat.le_of_ble_eq_true rfl)) dL_adds_4 ⟨Nat.le_of_ble_eq_true rfl, Nat.le_of_ble_eq_true rfl⟩) hP hD hS hA (fun q => rfl) (fun k ce q9 H locs e9 hP hD hS h1 h2 h3 => ?_) (fun q H locs e9 hP hD hS => ?_)
  · subst e9
    by_cases hk9 : k = 1
    · subst hk9
      refine vx_catch hown [] ⟨0, 7, 8, 93⟩ [⟨0, 7, 13, 95⟩] htb (fun z hz => absurd hz List.not_mem_nil) rfl (by decide) (hw0 _ zm1_233) (zcastX rfl (by decide +kernel) hKx) h1 h2 h3 ?_
      refine lv_astore (lv' := [(4, .ref q9), (0, .ref (a 0)), (1, .int p0), (2, .int p1), (3, .int p2)]) hx hb dL_adds_8 hl (by decide) rfl (fun ls hl => ?_)
      refine lv_ldc (v := -2000002) hx hb hown (hw0 _ zm2_118) dL_adds_10 ?_
      have hR : ((-2000002, v) : Int32 × CV) = r := Option.some.inj (oi hf rfl)
      subst hR
      refine W.widen (k := 1) (n := 6) (Nat.le_refl _) (Nat.le_refl _) ?_
      exact vx_ret (W.iret (v := -2000002) hx hb hr0 (fun t ht hW => ⟨⟨-2000002, (), rfl, rfl, by rw [ht]; exact hP, hD⟩, hS.F ht⟩) hS.2.2 dL_adds_12)
    · have hf := oe hf hk9
      by_cases hk9 : k = 2
      · subst hk9
        refine vx_catch hown [⟨0, 7, 8, 93⟩] ⟨0, 7, 13, 95⟩ [] htb (fun z hz => by simp only [List.mem_cons, List.not_mem_nil, or_false] at hz; rcases hz with rfl <;> first | (exact Or.inr ⟨by decide, "java/lang/IllegalArgumentException", hw0 _ zm1_233, hNc ("java/lang/IllegalStateException", "java/lang/IllegalArgumentException") (by decide +kernel)⟩)) rfl (by decide) (hw0 _ zm1_234) (zcastX rfl (by decide +kernel) hKx) h1 h2 h3 ?_
        refine lv_astore (lv' := [(4, .ref q9), (0, .ref (a 0)), (1, .int p0), (2, .int p1), (3, .int p2)]) hx hb dL_adds_13 hl (by decide) rfl (fun ls hl => ?_)
        refine lv_ldc (v := -2000003) hx hb hown (hw0 _ zm2_119) dL_adds_15 ?_
        have hR : ((-2000003, v) : Int32 × CV) = r := Option.some.inj (oi hf rfl)
        subst hR
        refine W.widen (k := 1) (n := 6) (Nat.le_refl _) (Nat.le_refl _) ?_
        exact vx_ret (W.iret (v := -2000003) hx hb hr0 (fun t ht hW => ⟨⟨-2000003, (), rfl, rfl, by rw [ht]; exact hP, hD⟩, hS.F ht⟩) hS.2.2 dL_adds_17)
      · have hf := oe hf hk9
        exact absurd hf (by simp)
  · subst e9
    have hR : q = r := Option.some.inj hf
    subst hR
    refine W.widen (k := 1) (n := 6) (Nat.le_refl _) (Nat.le_refl _) ?_
    exact vx_ret (W.iret (v := q.1) hx hb hr0 (fun t ht hW => ⟨⟨q.1, (), rfl, rfl, by rw [ht]; exact hP, hD⟩, hS.F ht⟩) hS.2.2 dL_adds_7)
theorem hd_L_fills : yL_fills.cls ≠ "java/lang/invoke/MethodHandle" ∧ yL_fills.cls ≠ "java/lang/invoke/VarHandle" ∧ (parseMethodDescriptor yL_fills.desc).map (fun d => d.parameters.length) = some 2 := by decide +kernel
def fa_L_fills (v : CV) (p0 : Int32) : Option (Int32 × CV) := (f_X6_addFiller v p0).bind (fun r => match r with | .inl k => if k = 1 then some (-2000002, v) else if k = 2 then some (-2000003, v) else none | .inr q => some q)
set_option maxHeartbeats 4000000 in
set_option maxRecDepth 100000 in
theorem co_L_fills (l : Launch) (g : zG) (a : Nat → Nat) (v : CV) (p0 : Int32) (r : Int32 × CV) (hf : fn_X6_addFiller v p0 = some r) : zMo zNF zNM l yL_fills (zwH yL_fills cL_fills 3 (some .int) [(0, 5, 6, 93), (0, 5, 10, 95)]) ({ frames := 7, cells := 0, slots := 0, locals := 123 } : Room) g [.ref (a 0), .int p0] (zX6 g a v) r.1 (zX6 g a r.2) := by
  intro sz
  refine vx_ofWH (cc := cL_fills) (maxL := 3) (ret := (some .int)) (hh := [(0, 5, 6, 93), (0, 5, 10, 95)]) (by decide) rfl ?_
  intro p e s m args below meth c s₁ B hml hv
  obtain ⟨rfl, hsz, hP, hK, hD0⟩ := hv
  have hx := B.exec
  have hb := B.bytes
  have hr0 := B.returns
  have hts := atoms_spec (ws := (zwH yL_fills cL_fills 3 (some .int) [(0, 5, 6, 93), (0, 5, 10, 95)])) B.pre
  have htb : c.exceptionTable.toList = [⟨0, 5, 6, 93⟩, ⟨0, 5, 10, 95⟩] := vx_table (x := yL_fills) B (hts _ List.mem_cons_self)
  have hw0 : ∀ w ∈ zW, w.before ([.ref (a 0), .int p0] : List Value).toArray s = true := fun w h => hts w (List.mem_cons_of_mem _ h)
  have hown : s.vm.findClass RL = some m.cls := findClass_of_methodNamed B.named
  have hlocks := B.notSynchronized
  subst hsz
  have hD := hD0.self (sz := s.heap.size)
  generalize hAe : va_A (zX6 g a v) s.heap.size = A at hD ⊢
  have hA : ∀ q : Nat, s.heap.size ≤ q → A q := fun q h => by rw [← hAe]; exact Or.inr h
  have hS : va_S A s.heap s.heap [] := va_S.rf
  have hl := lv_entry ([.ref (a 0), .int p0]) (n := 3) (Nat.le_of_ble_eq_true rfl)
  rw [lg_entry_eq]
  generalize (lg_sl ([.ref (a 0), .int p0]) ++ List.replicate (3 - (lg_sl ([.ref (a 0), .int p0])).length) Slot.unset).toArray = ls at hl ⊢
  have hl : lv_has ls 3 [(0, .ref (a 0)), (1, .int p0)] := hl
  refine lv_aload_n hx hb dL_fills_0 rfl (lv_at hl 0 rfl) ?_
  refine lv_iload_n hx hb dL_fills_1 rfl (lv_at hl 1 rfl) ?_
  refine zk_iA (va_runV (As := [.int p0]) (rest := []) ⟨hx, hb, hml, hown, hts⟩ (cn_X6_addFiller l g a v p0 r hf _) (zcVg hw0 zm2_123 zm2_126 zm1_1 zm2_124 zm2_125 hd_X6_addFiller rfl rfl ⟨Nat.le_of_ble_eq_true rfl, Nat.le_of_ble_eq_true rfl⟩) ⟨zblind, zrecvA hK hP (ci := 6) rfl rfl, zpreA hK hP hD⟩ rfl rfl hl.1 rfl (lv_room (Nat.le_of_ble_eq_true rfl)) dL_fills_2 ⟨Nat.le_of_ble_eq_true rfl, Nat.le_of_ble_eq_true rfl⟩) hP hD hS hA (fun H locs hP hD hS => ?_)
  exact vx_ret (W.iret (v := r.1) hx hb hr0 (fun t ht hW => ⟨⟨r.1, (), rfl, rfl, by rw [ht]; exact hP, hD⟩, hS.F ht⟩) hS.2.2 dL_fills_5)
set_option maxHeartbeats 4000000 in
set_option maxRecDepth 100000 in
theorem ca_L_fills (l : Launch) (hst9 : l.stackTraces = false) (g : zG) (a : Nat → Nat) (v : CV) (p0 : Int32) (r : Int32 × CV) (hf : fa_L_fills v p0 = some r) : zMa zNF zNM l yL_fills (zwH yL_fills cL_fills 3 (some .int) [(0, 5, 6, 93), (0, 5, 10, 95)]) ({ frames := 7, cells := 1, slots := 6, locals := 123 } : Room) g [.ref (a 0), .int p0] (zX6 g a v) r.1 (zX6 g a r.2) := by
  intro sz
  refine vx_ofWH (cc := cL_fills) (maxL := 3) (ret := (some .int)) (hh := [(0, 5, 6, 93), (0, 5, 10, 95)]) (by decide) rfl ?_
  intro p e s m args below meth c s₁ B hml hv
  obtain ⟨rfl, ⟨⟨hsz, hP, hK, hD0⟩, hKx, hZs⟩, hNc⟩ := hv
  have hx := B.exec
  have hb := B.bytes
  have hr0 := B.returns
  have hts := atoms_spec (ws := (zwH yL_fills cL_fills 3 (some .int) [(0, 5, 6, 93), (0, 5, 10, 95)])) B.pre
  have htb : c.exceptionTable.toList = [⟨0, 5, 6, 93⟩, ⟨0, 5, 10, 95⟩] := vx_table (x := yL_fills) B (hts _ List.mem_cons_self)
  have hw0 : ∀ w ∈ zW, w.before ([.ref (a 0), .int p0] : List Value).toArray s = true := fun w h => hts w (List.mem_cons_of_mem _ h)
  have hown : s.vm.findClass RL = some m.cls := findClass_of_methodNamed B.named
  have hlocks := B.notSynchronized
  subst hsz
  have hD := hD0.self (sz := s.heap.size)
  generalize hAe : va_A (zX6 g a v) s.heap.size = A at hD hZs ⊢
  have hA : ∀ q : Nat, s.heap.size ≤ q → A q := fun q h => by rw [← hAe]; exact Or.inr h
  have hS : va_S A s.heap s.heap [] := va_S.rf
  unfold fa_L_fills at hf
  have hl := lv_entry ([.ref (a 0), .int p0]) (n := 3) (Nat.le_of_ble_eq_true rfl)
  rw [lg_entry_eq]
  generalize (lg_sl ([.ref (a 0), .int p0]) ++ List.replicate (3 - (lg_sl ([.ref (a 0), .int p0])).length) Slot.unset).toArray = ls at hl ⊢
  have hl : lv_has ls 3 [(0, .ref (a 0)), (1, .int p0)] := hl
  obtain ⟨r9, hr9, hf⟩ := ob hf
  refine lv_aload_n hx hb dL_fills_0 rfl (lv_at hl 0 rfl) ?_
  refine lv_iload_n hx hb dL_fills_1 rfl (lv_at hl 1 rfl) ?_
  refine zk_xA (vx_runV (As := [.int p0]) (rest := []) ⟨hx, hb, hml, hown, hts⟩ (c_X6_addFiller l hst9 g a v p0 r9 hr9 _) (zcVg hw0 zm2_123 zm2_126 zm1_1 zm2_124 zm2_125 hd_X6_addFiller rfl rfl ⟨Nat.le_of_ble_eq_true rfl, Nat.le_of_ble_eq_true rfl⟩) ⟨zblindX, zrecvA hK hP (ci := 6) rfl rfl, zpreXA hK hKx hZs hP hD hS hA⟩ rfl rfl hl.1 rfl (lv_room (Nat.le_of_ble_eq_true rfl)) dL_fills_2 ⟨Nat.le_of_ble_eq_true rfl, Nat.le_of_ble_eq_true rfl⟩) hP hD hS hA (fun q => rfl) (fun k ce q9 H locs e9 hP hD hS h1 h2 h3 => ?_) (fun q H locs e9 hP hD hS => ?_)
  · subst e9
    by_cases hk9 : k = 1
    · subst hk9
      refine vx_catch hown [] ⟨0, 5, 6, 93⟩ [⟨0, 5, 10, 95⟩] htb (fun z hz => absurd hz List.not_mem_nil) rfl (by decide) (hw0 _ zm1_233) (zcastX rfl (by decide +kernel) hKx) h1 h2 h3 ?_
      refine lv_astore_n (lv' := [(2, .ref q9), (0, .ref (a 0)), (1, .int p0)]) hx hb dL_fills_6 rfl hl (by decide) rfl (fun ls hl => ?_)
      refine lv_ldc (v := -2000002) hx hb hown (hw0 _ zm2_118) dL_fills_7 ?_
      have hR : ((-2000002, v) : Int32 × CV) = r := Option.some.inj (oi hf rfl)
      subst hR
      refine W.widen (k := 1) (n := 6) (Nat.le_refl _) (Nat.le_refl _) ?_
      exact vx_ret (W.iret (v := -2000002) hx hb hr0 (fun t ht hW => ⟨⟨-2000002, (), rfl, rfl, by rw [ht]; exact hP, hD⟩, hS.F ht⟩) hS.2.2 dL_fills_9)
    · have hf := oe hf hk9
      by_cases hk9 : k = 2
      · subst hk9
        refine vx_catch hown [⟨0, 5, 6, 93⟩] ⟨0, 5, 10, 95⟩ [] htb (fun z hz => by simp only [List.mem_cons, List.not_mem_nil, or_false] at hz; rcases hz with rfl <;> first | (exact Or.inr ⟨by decide, "java/lang/IllegalArgumentException", hw0 _ zm1_233, hNc ("java/lang/IllegalStateException", "java/lang/IllegalArgumentException") (by decide +kernel)⟩)) rfl (by decide) (hw0 _ zm1_234) (zcastX rfl (by decide +kernel) hKx) h1 h2 h3 ?_
        refine lv_astore_n (lv' := [(2, .ref q9), (0, .ref (a 0)), (1, .int p0)]) hx hb dL_fills_10 rfl hl (by decide) rfl (fun ls hl => ?_)
        refine lv_ldc (v := -2000003) hx hb hown (hw0 _ zm2_119) dL_fills_11 ?_
        have hR : ((-2000003, v) : Int32 × CV) = r := Option.some.inj (oi hf rfl)
        subst hR
        refine W.widen (k := 1) (n := 6) (Nat.le_refl _) (Nat.le_refl _) ?_
        exact vx_ret (W.iret (v := -2000003) hx hb hr0 (fun t ht hW => ⟨⟨-2000003, (), rfl, rfl, by rw [ht]; exact hP, hD⟩, hS.F ht⟩) hS.2.2 dL_fills_13)
      · have hf := oe hf hk9
        exact absurd hf (by simp)
  · subst e9
    have hR : q = r := Option.some.inj hf
    subst hR
    refine W.widen (k := 1) (n := 6) (Nat.le_refl _) (Nat.le_refl _) ?_
    exact vx_ret (W.iret (v := q.1) hx hb hr0 (fun t ht hW => ⟨⟨q.1, (), rfl, rfl, by rw [ht]; exact hP, hD⟩, hS.F ht⟩) hS.2.2 dL_fills_5)
theorem hd_L_stretches : yL_stretches.cls ≠ "java/lang/invoke/MethodHandle" ∧ yL_stretches.cls ≠ "java/lang/invoke/VarHandle" ∧ (parseMethodDescriptor yL_stretches.desc).map (fun d => d.parameters.length) = some 3 := by decide +kernel
def fa_L_stretches (v : CV) (p0 : Int32) (p1 : Int32) : Option (Int32 × CV) := (f_X6_stretch v p0 p1).bind (fun r => match r with | .inl k => if k = 3 then some (-2000001, v) else if k = 1 then some (-2000002, v) else if k = 2 then some (-2000003, v) else none | .inr q => some q)
set_option maxHeartbeats 4000000 in
set_option maxRecDepth 100000 in
theorem co_L_stretches (l : Launch) (g : zG) (a : Nat → Nat) (v : CV) (p0 : Int32) (p1 : Int32) (r : Int32 × CV) (hf : fn_X6_stretch v p0 p1 = some r) : zMo zNF zNM l yL_stretches (zwH yL_stretches cL_stretches 4 (some .int) [(0, 6, 7, 104), (0, 6, 11, 93), (0, 6, 15, 95)]) ({ frames := 7, cells := 0, slots := 0, locals := 125 } : Room) g [.ref (a 0), .int p0, .int p1] (zX6 g a v) r.1 (zX6 g a r.2) := by
  intro sz
  refine vx_ofWH (cc := cL_stretches) (maxL := 4) (ret := (some .int)) (hh := [(0, 6, 7, 104), (0, 6, 11, 93), (0, 6, 15, 95)]) (by decide) rfl ?_
  intro p e s m args below meth c s₁ B hml hv
  obtain ⟨rfl, hsz, hP, hK, hD0⟩ := hv
  have hx := B.exec
  have hb := B.bytes
  have hr0 := B.returns
  have hts := atoms_spec (ws := (zwH yL_stretches cL_stretches 4 (some .int) [(0, 6, 7, 104), (0, 6, 11, 93), (0, 6, 15, 95)])) B.pre
  have htb : c.exceptionTable.toList = [⟨0, 6, 7, 104⟩, ⟨0, 6, 11, 93⟩, ⟨0, 6, 15, 95⟩] := vx_table (x := yL_stretches) B (hts _ List.mem_cons_self)
  have hw0 : ∀ w ∈ zW, w.before ([.ref (a 0), .int p0, .int p1] : List Value).toArray s = true := fun w h => hts w (List.mem_cons_of_mem _ h)
  have hown : s.vm.findClass RL = some m.cls := findClass_of_methodNamed B.named
  have hlocks := B.notSynchronized
  subst hsz
  have hD := hD0.self (sz := s.heap.size)
  generalize hAe : va_A (zX6 g a v) s.heap.size = A at hD ⊢
  have hA : ∀ q : Nat, s.heap.size ≤ q → A q := fun q h => by rw [← hAe]; exact Or.inr h
  have hS : va_S A s.heap s.heap [] := va_S.rf
  have hl := lv_entry ([.ref (a 0), .int p0, .int p1]) (n := 4) (Nat.le_of_ble_eq_true rfl)
  rw [lg_entry_eq]
  generalize (lg_sl ([.ref (a 0), .int p0, .int p1]) ++ List.replicate (4 - (lg_sl ([.ref (a 0), .int p0, .int p1])).length) Slot.unset).toArray = ls at hl ⊢
  have hl : lv_has ls 4 [(0, .ref (a 0)), (1, .int p0), (2, .int p1)] := hl
  refine lv_aload_n hx hb dL_stretches_0 rfl (lv_at hl 0 rfl) ?_
  refine lv_iload_n hx hb dL_stretches_1 rfl (lv_at hl 1 rfl) ?_
  refine lv_iload_n hx hb dL_stretches_2 rfl (lv_at hl 2 rfl) ?_
  refine zk_iA (va_runV (As := [.int p0, .int p1]) (rest := []) ⟨hx, hb, hml, hown, hts⟩ (cn_X6_stretch l g a v p0 p1 r hf _) (zcVg hw0 zm2_136 zm2_139 zm1_1 zm2_137 zm2_138 hd_X6_stretch rfl rfl ⟨Nat.le_of_ble_eq_true rfl, Nat.le_of_ble_eq_true rfl⟩) ⟨zblind, zrecvA hK hP (ci := 6) rfl rfl, zpreA hK hP hD⟩ rfl rfl hl.1 rfl (lv_room (Nat.le_of_ble_eq_true rfl)) dL_stretches_3 ⟨Nat.le_of_ble_eq_true rfl, Nat.le_of_ble_eq_true rfl⟩) hP hD hS hA (fun H locs hP hD hS => ?_)
  exact vx_ret (W.iret (v := r.1) hx hb hr0 (fun t ht hW => ⟨⟨r.1, (), rfl, rfl, by rw [ht]; exact hP, hD⟩, hS.F ht⟩) hS.2.2 dL_stretches_6)
set_option maxHeartbeats 4000000 in
set_option maxRecDepth 100000 in
theorem ca_L_stretches (l : Launch) (hst9 : l.stackTraces = false) (g : zG) (a : Nat → Nat) (v : CV) (p0 : Int32) (p1 : Int32) (r : Int32 × CV) (hf : fa_L_stretches v p0 p1 = some r) : zMa zNF zNM l yL_stretches (zwH yL_stretches cL_stretches 4 (some .int) [(0, 6, 7, 104), (0, 6, 11, 93), (0, 6, 15, 95)]) ({ frames := 7, cells := 1, slots := 6, locals := 125 } : Room) g [.ref (a 0), .int p0, .int p1] (zX6 g a v) r.1 (zX6 g a r.2) := by
  intro sz
  refine vx_ofWH (cc := cL_stretches) (maxL := 4) (ret := (some .int)) (hh := [(0, 6, 7, 104), (0, 6, 11, 93), (0, 6, 15, 95)]) (by decide) rfl ?_
  intro p e s m args below meth c s₁ B hml hv
  obtain ⟨rfl, ⟨⟨hsz, hP, hK, hD0⟩, hKx, hZs⟩, hNc⟩ := hv
  have hx := B.exec
  have hb := B.bytes
  have hr0 := B.returns
  have hts := atoms_spec (ws := (zwH yL_stretches cL_stretches 4 (some .int) [(0, 6, 7, 104), (0, 6, 11, 93), (0, 6, 15, 95)])) B.pre
  have htb : c.exceptionTable.toList = [⟨0, 6, 7, 104⟩, ⟨0, 6, 11, 93⟩, ⟨0, 6, 15, 95⟩] := vx_table (x := yL_stretches) B (hts _ List.mem_cons_self)
  have hw0 : ∀ w ∈ zW, w.before ([.ref (a 0), .int p0, .int p1] : List Value).toArray s = true := fun w h => hts w (List.mem_cons_of_mem _ h)
  have hown : s.vm.findClass RL = some m.cls := findClass_of_methodNamed B.named
  have hlocks := B.notSynchronized
  subst hsz
  have hD := hD0.self (sz := s.heap.size)
  generalize hAe : va_A (zX6 g a v) s.heap.size = A at hD hZs ⊢
  have hA : ∀ q : Nat, s.heap.size ≤ q → A q := fun q h => by rw [← hAe]; exact Or.inr h
  have hS : va_S A s.heap s.heap [] := va_S.rf
  unfold fa_L_stretches at hf
  have hl := lv_entry ([.ref (a 0), .int p0, .int p1]) (n := 4) (Nat.le_of_ble_eq_true rfl)
  rw [lg_entry_eq]
  generalize (lg_sl ([.ref (a 0), .int p0, .int p1]) ++ List.replicate (4 - (lg_sl ([.ref (a 0), .int p0, .int p1])).length) Slot.unset).toArray = ls at hl ⊢
  have hl : lv_has ls 4 [(0, .ref (a 0)), (1, .int p0), (2, .int p1)] := hl
  obtain ⟨r9, hr9, hf⟩ := ob hf
  refine lv_aload_n hx hb dL_stretches_0 rfl (lv_at hl 0 rfl) ?_
  refine lv_iload_n hx hb dL_stretches_1 rfl (lv_at hl 1 rfl) ?_
  refine lv_iload_n hx hb dL_stretches_2 rfl (lv_at hl 2 rfl) ?_
  refine zk_xA (vx_runV (As := [.int p0, .int p1]) (rest := []) ⟨hx, hb, hml, hown, hts⟩ (c_X6_stretch l hst9 g a v p0 p1 r9 hr9 _) (zcVg hw0 zm2_136 zm2_139 zm1_1 zm2_137 zm2_138 hd_X6_stretch rfl rfl ⟨Nat.le_of_ble_eq_true rfl, Nat.le_of_ble_eq_true rfl⟩) ⟨zblindX, zrecvA hK hP (ci := 6) rfl rfl, zpreXA hK hKx hZs hP hD hS hA⟩ rfl rfl hl.1 rfl (lv_room (Nat.le_of_ble_eq_true rfl)) dL_stretches_3 ⟨Nat.le_of_ble_eq_true rfl, Nat.le_of_ble_eq_true rfl⟩) hP hD hS hA (fun q => rfl) (fun k ce q9 H locs e9 hP hD hS h1 h2 h3 => ?_) (fun q H locs e9 hP hD hS => ?_)
  · subst e9
    by_cases hk9 : k = 3
    · subst hk9
      refine vx_catch hown [] ⟨0, 6, 7, 104⟩ [⟨0, 6, 11, 93⟩, ⟨0, 6, 15, 95⟩] htb (fun z hz => absurd hz List.not_mem_nil) rfl (by decide) (hw0 _ zm2_135) (zcastX rfl (by decide +kernel) hKx) h1 h2 h3 ?_
      refine lv_astore_n (lv' := [(3, .ref q9), (0, .ref (a 0)), (1, .int p0), (2, .int p1)]) hx hb dL_stretches_7 rfl hl (by decide) rfl (fun ls hl => ?_)
      refine lv_ldc (v := -2000001) hx hb hown (hw0 _ zm2_197) dL_stretches_8 ?_
      have hR : ((-2000001, v) : Int32 × CV) = r := Option.some.inj (oi hf rfl)
      subst hR
      refine W.widen (k := 1) (n := 6) (Nat.le_refl _) (Nat.le_refl _) ?_
      exact vx_ret (W.iret (v := -2000001) hx hb hr0 (fun t ht hW => ⟨⟨-2000001, (), rfl, rfl, by rw [ht]; exact hP, hD⟩, hS.F ht⟩) hS.2.2 dL_stretches_10)
    · have hf := oe hf hk9
      by_cases hk9 : k = 1
      · subst hk9
        refine vx_catch hown [⟨0, 6, 7, 104⟩] ⟨0, 6, 11, 93⟩ [⟨0, 6, 15, 95⟩] htb (fun z hz => by simp only [List.mem_cons, List.not_mem_nil, or_false] at hz; rcases hz with rfl <;> first | (exact Or.inr ⟨by decide, "java/lang/IndexOutOfBoundsException", hw0 _ zm2_135, hNc ("java/lang/IllegalArgumentException", "java/lang/IndexOutOfBoundsException") (by decide +kernel)⟩)) rfl (by decide) (hw0 _ zm1_233) (zcastX rfl (by decide +kernel) hKx) h1 h2 h3 ?_
        refine lv_astore_n (lv' := [(3, .ref q9), (0, .ref (a 0)), (1, .int p0), (2, .int p1)]) hx hb dL_stretches_11 rfl hl (by decide) rfl (fun ls hl => ?_)
        refine lv_ldc (v := -2000002) hx hb hown (hw0 _ zm2_118) dL_stretches_12 ?_
        have hR : ((-2000002, v) : Int32 × CV) = r := Option.some.inj (oi hf rfl)
        subst hR
        refine W.widen (k := 1) (n := 6) (Nat.le_refl _) (Nat.le_refl _) ?_
        exact vx_ret (W.iret (v := -2000002) hx hb hr0 (fun t ht hW => ⟨⟨-2000002, (), rfl, rfl, by rw [ht]; exact hP, hD⟩, hS.F ht⟩) hS.2.2 dL_stretches_14)
      · have hf := oe hf hk9
        by_cases hk9 : k = 2
        · subst hk9
          refine vx_catch hown [⟨0, 6, 7, 104⟩, ⟨0, 6, 11, 93⟩] ⟨0, 6, 15, 95⟩ [] htb (fun z hz => by simp only [List.mem_cons, List.not_mem_nil, or_false] at hz; rcases hz with rfl | rfl <;> first | (exact Or.inr ⟨by decide, "java/lang/IndexOutOfBoundsException", hw0 _ zm2_135, hNc ("java/lang/IllegalStateException", "java/lang/IndexOutOfBoundsException") (by decide +kernel)⟩) | (exact Or.inr ⟨by decide, "java/lang/IllegalArgumentException", hw0 _ zm1_233, hNc ("java/lang/IllegalStateException", "java/lang/IllegalArgumentException") (by decide +kernel)⟩)) rfl (by decide) (hw0 _ zm1_234) (zcastX rfl (by decide +kernel) hKx) h1 h2 h3 ?_
          refine lv_astore_n (lv' := [(3, .ref q9), (0, .ref (a 0)), (1, .int p0), (2, .int p1)]) hx hb dL_stretches_15 rfl hl (by decide) rfl (fun ls hl => ?_)
          refine lv_ldc (v := -2000003) hx hb hown (hw0 _ zm2_119) dL_stretches_16 ?_
          have hR : ((-2000003, v) : Int32 × CV) = r := Option.some.inj (oi hf rfl)
          subst hR
          refine W.widen (k := 1) (n := 6) (Nat.le_refl _) (Nat.le_refl _) ?_
          exact vx_ret (W.iret (v := -2000003) hx hb hr0 (fun t ht hW => ⟨⟨-2000003, (), rfl, rfl, by rw [ht]; exact hP, hD⟩, hS.F ht⟩) hS.2.2 dL_stretches_18)
        · have hf := oe hf hk9
          exact absurd hf (by simp)
  · subst e9
    have hR : q = r := Option.some.inj hf
    subst hR
    refine W.widen (k := 1) (n := 6) (Nat.le_refl _) (Nat.le_refl _) ?_
    exact vx_ret (W.iret (v := q.1) hx hb hr0 (fun t ht hW => ⟨⟨q.1, (), rfl, rfl, by rw [ht]; exact hP, hD⟩, hS.F ht⟩) hS.2.2 dL_stretches_6)
theorem hd_L_drops : yL_drops.cls ≠ "java/lang/invoke/MethodHandle" ∧ yL_drops.cls ≠ "java/lang/invoke/VarHandle" ∧ (parseMethodDescriptor yL_drops.desc).map (fun d => d.parameters.length) = some 2 := by decide +kernel
def fa_L_drops (v : CV) (p0 : Int32) : Option (Int32 × CV) := (f_X6_drop v p0).bind (fun r => match r with | .inl k => if k = 3 then some (-2000001, v) else if k = 2 then some (-2000003, v) else none | .inr q => some q)
set_option maxHeartbeats 4000000 in
set_option maxRecDepth 100000 in
theorem co_L_drops (l : Launch) (g : zG) (a : Nat → Nat) (v : CV) (p0 : Int32) (r : Int32 × CV) (hf : fn_X6_drop v p0 = some r) : zMo zNF zNM l yL_drops (zwH yL_drops cL_drops 3 (some .int) [(0, 5, 6, 104), (0, 5, 10, 95)]) ({ frames := 7, cells := 0, slots := 0, locals := 123 } : Room) g [.ref (a 0), .int p0] (zX6 g a v) r.1 (zX6 g a r.2) := by
  intro sz
  refine vx_ofWH (cc := cL_drops) (maxL := 3) (ret := (some .int)) (hh := [(0, 5, 6, 104), (0, 5, 10, 95)]) (by decide) rfl ?_
  intro p e s m args below meth c s₁ B hml hv
  obtain ⟨rfl, hsz, hP, hK, hD0⟩ := hv
  have hx := B.exec
  have hb := B.bytes
  have hr0 := B.returns
  have hts := atoms_spec (ws := (zwH yL_drops cL_drops 3 (some .int) [(0, 5, 6, 104), (0, 5, 10, 95)])) B.pre
  have htb : c.exceptionTable.toList = [⟨0, 5, 6, 104⟩, ⟨0, 5, 10, 95⟩] := vx_table (x := yL_drops) B (hts _ List.mem_cons_self)
  have hw0 : ∀ w ∈ zW, w.before ([.ref (a 0), .int p0] : List Value).toArray s = true := fun w h => hts w (List.mem_cons_of_mem _ h)
  have hown : s.vm.findClass RL = some m.cls := findClass_of_methodNamed B.named
  have hlocks := B.notSynchronized
  subst hsz
  have hD := hD0.self (sz := s.heap.size)
  generalize hAe : va_A (zX6 g a v) s.heap.size = A at hD ⊢
  have hA : ∀ q : Nat, s.heap.size ≤ q → A q := fun q h => by rw [← hAe]; exact Or.inr h
  have hS : va_S A s.heap s.heap [] := va_S.rf
  have hl := lv_entry ([.ref (a 0), .int p0]) (n := 3) (Nat.le_of_ble_eq_true rfl)
  rw [lg_entry_eq]
  generalize (lg_sl ([.ref (a 0), .int p0]) ++ List.replicate (3 - (lg_sl ([.ref (a 0), .int p0])).length) Slot.unset).toArray = ls at hl ⊢
  have hl : lv_has ls 3 [(0, .ref (a 0)), (1, .int p0)] := hl
  refine lv_aload_n hx hb dL_drops_0 rfl (lv_at hl 0 rfl) ?_
  refine lv_iload_n hx hb dL_drops_1 rfl (lv_at hl 1 rfl) ?_
  refine zk_iA (va_runV (As := [.int p0]) (rest := []) ⟨hx, hb, hml, hown, hts⟩ (cn_X6_drop l g a v p0 r hf _) (zcVg hw0 zm2_204 zm2_207 zm1_1 zm2_205 zm2_206 hd_X6_drop rfl rfl ⟨Nat.le_of_ble_eq_true rfl, Nat.le_of_ble_eq_true rfl⟩) ⟨zblind, zrecvA hK hP (ci := 6) rfl rfl, zpreA hK hP hD⟩ rfl rfl hl.1 rfl (lv_room (Nat.le_of_ble_eq_true rfl)) dL_drops_2 ⟨Nat.le_of_ble_eq_true rfl, Nat.le_of_ble_eq_true rfl⟩) hP hD hS hA (fun H locs hP hD hS => ?_)
  exact vx_ret (W.iret (v := r.1) hx hb hr0 (fun t ht hW => ⟨⟨r.1, (), rfl, rfl, by rw [ht]; exact hP, hD⟩, hS.F ht⟩) hS.2.2 dL_drops_5)
set_option maxHeartbeats 4000000 in
set_option maxRecDepth 100000 in
theorem ca_L_drops (l : Launch) (hst9 : l.stackTraces = false) (g : zG) (a : Nat → Nat) (v : CV) (p0 : Int32) (r : Int32 × CV) (hf : fa_L_drops v p0 = some r) : zMa zNF zNM l yL_drops (zwH yL_drops cL_drops 3 (some .int) [(0, 5, 6, 104), (0, 5, 10, 95)]) ({ frames := 7, cells := 1, slots := 6, locals := 123 } : Room) g [.ref (a 0), .int p0] (zX6 g a v) r.1 (zX6 g a r.2) := by
  intro sz
  refine vx_ofWH (cc := cL_drops) (maxL := 3) (ret := (some .int)) (hh := [(0, 5, 6, 104), (0, 5, 10, 95)]) (by decide) rfl ?_
  intro p e s m args below meth c s₁ B hml hv
  obtain ⟨rfl, ⟨⟨hsz, hP, hK, hD0⟩, hKx, hZs⟩, hNc⟩ := hv
  have hx := B.exec
  have hb := B.bytes
  have hr0 := B.returns
  have hts := atoms_spec (ws := (zwH yL_drops cL_drops 3 (some .int) [(0, 5, 6, 104), (0, 5, 10, 95)])) B.pre
  have htb : c.exceptionTable.toList = [⟨0, 5, 6, 104⟩, ⟨0, 5, 10, 95⟩] := vx_table (x := yL_drops) B (hts _ List.mem_cons_self)
  have hw0 : ∀ w ∈ zW, w.before ([.ref (a 0), .int p0] : List Value).toArray s = true := fun w h => hts w (List.mem_cons_of_mem _ h)
  have hown : s.vm.findClass RL = some m.cls := findClass_of_methodNamed B.named
  have hlocks := B.notSynchronized
  subst hsz
  have hD := hD0.self (sz := s.heap.size)
  generalize hAe : va_A (zX6 g a v) s.heap.size = A at hD hZs ⊢
  have hA : ∀ q : Nat, s.heap.size ≤ q → A q := fun q h => by rw [← hAe]; exact Or.inr h
  have hS : va_S A s.heap s.heap [] := va_S.rf
  unfold fa_L_drops at hf
  have hl := lv_entry ([.ref (a 0), .int p0]) (n := 3) (Nat.le_of_ble_eq_true rfl)
  rw [lg_entry_eq]
  generalize (lg_sl ([.ref (a 0), .int p0]) ++ List.replicate (3 - (lg_sl ([.ref (a 0), .int p0])).length) Slot.unset).toArray = ls at hl ⊢
  have hl : lv_has ls 3 [(0, .ref (a 0)), (1, .int p0)] := hl
  obtain ⟨r9, hr9, hf⟩ := ob hf
  refine lv_aload_n hx hb dL_drops_0 rfl (lv_at hl 0 rfl) ?_
  refine lv_iload_n hx hb dL_drops_1 rfl (lv_at hl 1 rfl) ?_
  refine zk_xA (vx_runV (As := [.int p0]) (rest := []) ⟨hx, hb, hml, hown, hts⟩ (c_X6_drop l hst9 g a v p0 r9 hr9 _) (zcVg hw0 zm2_204 zm2_207 zm1_1 zm2_205 zm2_206 hd_X6_drop rfl rfl ⟨Nat.le_of_ble_eq_true rfl, Nat.le_of_ble_eq_true rfl⟩) ⟨zblindX, zrecvA hK hP (ci := 6) rfl rfl, zpreXA hK hKx hZs hP hD hS hA⟩ rfl rfl hl.1 rfl (lv_room (Nat.le_of_ble_eq_true rfl)) dL_drops_2 ⟨Nat.le_of_ble_eq_true rfl, Nat.le_of_ble_eq_true rfl⟩) hP hD hS hA (fun q => rfl) (fun k ce q9 H locs e9 hP hD hS h1 h2 h3 => ?_) (fun q H locs e9 hP hD hS => ?_)
  · subst e9
    by_cases hk9 : k = 3
    · subst hk9
      refine vx_catch hown [] ⟨0, 5, 6, 104⟩ [⟨0, 5, 10, 95⟩] htb (fun z hz => absurd hz List.not_mem_nil) rfl (by decide) (hw0 _ zm2_135) (zcastX rfl (by decide +kernel) hKx) h1 h2 h3 ?_
      refine lv_astore_n (lv' := [(2, .ref q9), (0, .ref (a 0)), (1, .int p0)]) hx hb dL_drops_6 rfl hl (by decide) rfl (fun ls hl => ?_)
      refine lv_ldc (v := -2000001) hx hb hown (hw0 _ zm2_197) dL_drops_7 ?_
      have hR : ((-2000001, v) : Int32 × CV) = r := Option.some.inj (oi hf rfl)
      subst hR
      refine W.widen (k := 1) (n := 6) (Nat.le_refl _) (Nat.le_refl _) ?_
      exact vx_ret (W.iret (v := -2000001) hx hb hr0 (fun t ht hW => ⟨⟨-2000001, (), rfl, rfl, by rw [ht]; exact hP, hD⟩, hS.F ht⟩) hS.2.2 dL_drops_9)
    · have hf := oe hf hk9
      by_cases hk9 : k = 2
      · subst hk9
        refine vx_catch hown [⟨0, 5, 6, 104⟩] ⟨0, 5, 10, 95⟩ [] htb (fun z hz => by simp only [List.mem_cons, List.not_mem_nil, or_false] at hz; rcases hz with rfl <;> first | (exact Or.inr ⟨by decide, "java/lang/IndexOutOfBoundsException", hw0 _ zm2_135, hNc ("java/lang/IllegalStateException", "java/lang/IndexOutOfBoundsException") (by decide +kernel)⟩)) rfl (by decide) (hw0 _ zm1_234) (zcastX rfl (by decide +kernel) hKx) h1 h2 h3 ?_
        refine lv_astore_n (lv' := [(2, .ref q9), (0, .ref (a 0)), (1, .int p0)]) hx hb dL_drops_10 rfl hl (by decide) rfl (fun ls hl => ?_)
        refine lv_ldc (v := -2000003) hx hb hown (hw0 _ zm2_119) dL_drops_11 ?_
        have hR : ((-2000003, v) : Int32 × CV) = r := Option.some.inj (oi hf rfl)
        subst hR
        refine W.widen (k := 1) (n := 6) (Nat.le_refl _) (Nat.le_refl _) ?_
        exact vx_ret (W.iret (v := -2000003) hx hb hr0 (fun t ht hW => ⟨⟨-2000003, (), rfl, rfl, by rw [ht]; exact hP, hD⟩, hS.F ht⟩) hS.2.2 dL_drops_13)
      · have hf := oe hf hk9
        exact absurd hf (by simp)
  · subst e9
    have hR : q = r := Option.some.inj hf
    subst hR
    refine W.widen (k := 1) (n := 6) (Nat.le_refl _) (Nat.le_refl _) ?_
    exact vx_ret (W.iret (v := q.1) hx hb hr0 (fun t ht hW => ⟨⟨q.1, (), rfl, rfl, by rw [ht]; exact hP, hD⟩, hS.F ht⟩) hS.2.2 dL_drops_5)
theorem hd_L_passes : yL_passes.cls ≠ "java/lang/invoke/MethodHandle" ∧ yL_passes.cls ≠ "java/lang/invoke/VarHandle" ∧ (parseMethodDescriptor yL_passes.desc).map (fun d => d.parameters.length) = some 2 := by decide +kernel
def fa_L_passes (v : CV) (p0 : Int32) : Option (Int32 × CV) := (f_X6_pass v p0).bind (fun r => match r with | .inl k => if k = 1 then some (-2000002, v) else none | .inr q => some q)
set_option maxHeartbeats 4000000 in
set_option maxRecDepth 100000 in
theorem co_L_passes (l : Launch) (g : zG) (a : Nat → Nat) (v : CV) (p0 : Int32) (r : Int32 × CV) (hf : fn_X6_pass v p0 = some r) : zMo zNF zNM l yL_passes (zwH yL_passes cL_passes 3 (some .int) [(0, 5, 6, 93)]) ({ frames := 7, cells := 0, slots := 0, locals := 162 } : Room) g [.ref (a 0), .int p0] (zX6 g a v) r.1 (zX6 g a r.2) := by
  intro sz
  refine vx_ofWH (cc := cL_passes) (maxL := 3) (ret := (some .int)) (hh := [(0, 5, 6, 93)]) (by decide) rfl ?_
  intro p e s m args below meth c s₁ B hml hv
  obtain ⟨rfl, hsz, hP, hK, hD0⟩ := hv
  have hx := B.exec
  have hb := B.bytes
  have hr0 := B.returns
  have hts := atoms_spec (ws := (zwH yL_passes cL_passes 3 (some .int) [(0, 5, 6, 93)])) B.pre
  have htb : c.exceptionTable.toList = [⟨0, 5, 6, 93⟩] := vx_table (x := yL_passes) B (hts _ List.mem_cons_self)
  have hw0 : ∀ w ∈ zW, w.before ([.ref (a 0), .int p0] : List Value).toArray s = true := fun w h => hts w (List.mem_cons_of_mem _ h)
  have hown : s.vm.findClass RL = some m.cls := findClass_of_methodNamed B.named
  have hlocks := B.notSynchronized
  subst hsz
  have hD := hD0.self (sz := s.heap.size)
  generalize hAe : va_A (zX6 g a v) s.heap.size = A at hD ⊢
  have hA : ∀ q : Nat, s.heap.size ≤ q → A q := fun q h => by rw [← hAe]; exact Or.inr h
  have hS : va_S A s.heap s.heap [] := va_S.rf
  have hl := lv_entry ([.ref (a 0), .int p0]) (n := 3) (Nat.le_of_ble_eq_true rfl)
  rw [lg_entry_eq]
  generalize (lg_sl ([.ref (a 0), .int p0]) ++ List.replicate (3 - (lg_sl ([.ref (a 0), .int p0])).length) Slot.unset).toArray = ls at hl ⊢
  have hl : lv_has ls 3 [(0, .ref (a 0)), (1, .int p0)] := hl
  refine lv_aload_n hx hb dL_passes_0 rfl (lv_at hl 0 rfl) ?_
  refine lv_iload_n hx hb dL_passes_1 rfl (lv_at hl 1 rfl) ?_
  refine zk_iA (va_runV (As := [.int p0]) (rest := []) ⟨hx, hb, hml, hown, hts⟩ (cn_X6_pass l g a v p0 r hf _) (zcVg hw0 zm3_11 zm3_14 zm1_1 zm3_12 zm3_13 hd_X6_pass rfl rfl ⟨Nat.le_of_ble_eq_true rfl, Nat.le_of_ble_eq_true rfl⟩) ⟨zblind, zrecvA hK hP (ci := 6) rfl rfl, zpreA hK hP hD⟩ rfl rfl hl.1 rfl (lv_room (Nat.le_of_ble_eq_true rfl)) dL_passes_2 ⟨Nat.le_of_ble_eq_true rfl, Nat.le_of_ble_eq_true rfl⟩) hP hD hS hA (fun H locs hP hD hS => ?_)
  exact vx_ret (W.iret (v := r.1) hx hb hr0 (fun t ht hW => ⟨⟨r.1, (), rfl, rfl, by rw [ht]; exact hP, hD⟩, hS.F ht⟩) hS.2.2 dL_passes_5)
set_option maxHeartbeats 4000000 in
set_option maxRecDepth 100000 in
theorem ca_L_passes (l : Launch) (hst9 : l.stackTraces = false) (g : zG) (a : Nat → Nat) (v : CV) (p0 : Int32) (r : Int32 × CV) (hf : fa_L_passes v p0 = some r) : zMa zNF zNM l yL_passes (zwH yL_passes cL_passes 3 (some .int) [(0, 5, 6, 93)]) ({ frames := 7, cells := 1, slots := 6, locals := 162 } : Room) g [.ref (a 0), .int p0] (zX6 g a v) r.1 (zX6 g a r.2) := by
  intro sz
  refine vx_ofWH (cc := cL_passes) (maxL := 3) (ret := (some .int)) (hh := [(0, 5, 6, 93)]) (by decide) rfl ?_
  intro p e s m args below meth c s₁ B hml hv
  obtain ⟨rfl, ⟨⟨hsz, hP, hK, hD0⟩, hKx, hZs⟩, hNc⟩ := hv
  have hx := B.exec
  have hb := B.bytes
  have hr0 := B.returns
  have hts := atoms_spec (ws := (zwH yL_passes cL_passes 3 (some .int) [(0, 5, 6, 93)])) B.pre
  have htb : c.exceptionTable.toList = [⟨0, 5, 6, 93⟩] := vx_table (x := yL_passes) B (hts _ List.mem_cons_self)
  have hw0 : ∀ w ∈ zW, w.before ([.ref (a 0), .int p0] : List Value).toArray s = true := fun w h => hts w (List.mem_cons_of_mem _ h)
  have hown : s.vm.findClass RL = some m.cls := findClass_of_methodNamed B.named
  have hlocks := B.notSynchronized
  subst hsz
  have hD := hD0.self (sz := s.heap.size)
  generalize hAe : va_A (zX6 g a v) s.heap.size = A at hD hZs ⊢
  have hA : ∀ q : Nat, s.heap.size ≤ q → A q := fun q h => by rw [← hAe]; exact Or.inr h
  have hS : va_S A s.heap s.heap [] := va_S.rf
  unfold fa_L_passes at hf
  have hl := lv_entry ([.ref (a 0), .int p0]) (n := 3) (Nat.le_of_ble_eq_true rfl)
  rw [lg_entry_eq]
  generalize (lg_sl ([.ref (a 0), .int p0]) ++ List.replicate (3 - (lg_sl ([.ref (a 0), .int p0])).length) Slot.unset).toArray = ls at hl ⊢
  have hl : lv_has ls 3 [(0, .ref (a 0)), (1, .int p0)] := hl
  obtain ⟨r9, hr9, hf⟩ := ob hf
  refine lv_aload_n hx hb dL_passes_0 rfl (lv_at hl 0 rfl) ?_
  refine lv_iload_n hx hb dL_passes_1 rfl (lv_at hl 1 rfl) ?_
  refine zk_xA (vx_runV (As := [.int p0]) (rest := []) ⟨hx, hb, hml, hown, hts⟩ (c_X6_pass l hst9 g a v p0 r9 hr9 _) (zcVg hw0 zm3_11 zm3_14 zm1_1 zm3_12 zm3_13 hd_X6_pass rfl rfl ⟨Nat.le_of_ble_eq_true rfl, Nat.le_of_ble_eq_true rfl⟩) ⟨zblindX, zrecvA hK hP (ci := 6) rfl rfl, zpreXA hK hKx hZs hP hD hS hA⟩ rfl rfl hl.1 rfl (lv_room (Nat.le_of_ble_eq_true rfl)) dL_passes_2 ⟨Nat.le_of_ble_eq_true rfl, Nat.le_of_ble_eq_true rfl⟩) hP hD hS hA (fun q => rfl) (fun k ce q9 H locs e9 hP hD hS h1 h2 h3 => ?_) (fun q H locs e9 hP hD hS => ?_)
  · subst e9
    by_cases hk9 : k = 1
    · subst hk9
      refine vx_catch hown [] ⟨0, 5, 6, 93⟩ [] htb (fun z hz => absurd hz List.not_mem_nil) rfl (by decide) (hw0 _ zm1_233) (zcastX rfl (by decide +kernel) hKx) h1 h2 h3 ?_
      refine lv_astore_n (lv' := [(2, .ref q9), (0, .ref (a 0)), (1, .int p0)]) hx hb dL_passes_6 rfl hl (by decide) rfl (fun ls hl => ?_)
      refine lv_ldc (v := -2000002) hx hb hown (hw0 _ zm2_118) dL_passes_7 ?_
      have hR : ((-2000002, v) : Int32 × CV) = r := Option.some.inj (oi hf rfl)
      subst hR
      refine W.widen (k := 1) (n := 6) (Nat.le_refl _) (Nat.le_refl _) ?_
      exact vx_ret (W.iret (v := -2000002) hx hb hr0 (fun t ht hW => ⟨⟨-2000002, (), rfl, rfl, by rw [ht]; exact hP, hD⟩, hS.F ht⟩) hS.2.2 dL_passes_9)
    · have hf := oe hf hk9
      exact absurd hf (by simp)
  · subst e9
    have hR : q = r := Option.some.inj hf
    subst hR
    refine W.widen (k := 1) (n := 6) (Nat.le_refl _) (Nat.le_refl _) ?_
    exact vx_ret (W.iret (v := q.1) hx hb hr0 (fun t ht hW => ⟨⟨q.1, (), rfl, rfl, by rw [ht]; exact hP, hD⟩, hS.F ht⟩) hS.2.2 dL_passes_5)
theorem hd_L_agains : yL_agains.cls ≠ "java/lang/invoke/MethodHandle" ∧ yL_agains.cls ≠ "java/lang/invoke/VarHandle" ∧ (parseMethodDescriptor yL_agains.desc).map (fun d => d.parameters.length) = some 1 := by decide +kernel
def fa_L_agains (v : CV) : Option (Int32 × CV) := (f_X6_again v).bind (fun r => match r with | .inl k => if k = 2 then some (-2000003, v) else none | .inr q => some q)
set_option maxHeartbeats 4000000 in
set_option maxRecDepth 100000 in
theorem co_L_agains (l : Launch) (g : zG) (a : Nat → Nat) (v : CV) (r : Int32 × CV) (hf : fn_X6_again v = some r) : zMo zNF zNM l yL_agains (zwH yL_agains cL_agains 2 (some .int) [(0, 4, 5, 95)]) ({ frames := 7, cells := 0, slots := 0, locals := 122 } : Room) g [.ref (a 0)] (zX6 g a v) r.1 (zX6 g a r.2) := by
  intro sz
  refine vx_ofWH (cc := cL_agains) (maxL := 2) (ret := (some .int)) (hh := [(0, 4, 5, 95)]) (by decide) rfl ?_
  intro p e s m args below meth c s₁ B hml hv
  obtain ⟨rfl, hsz, hP, hK, hD0⟩ := hv
  have hx := B.exec
  have hb := B.bytes
  have hr0 := B.returns
  have hts := atoms_spec (ws := (zwH yL_agains cL_agains 2 (some .int) [(0, 4, 5, 95)])) B.pre
  have htb : c.exceptionTable.toList = [⟨0, 4, 5, 95⟩] := vx_table (x := yL_agains) B (hts _ List.mem_cons_self)
  have hw0 : ∀ w ∈ zW, w.before ([.ref (a 0)] : List Value).toArray s = true := fun w h => hts w (List.mem_cons_of_mem _ h)
  have hown : s.vm.findClass RL = some m.cls := findClass_of_methodNamed B.named
  have hlocks := B.notSynchronized
  subst hsz
  have hD := hD0.self (sz := s.heap.size)
  generalize hAe : va_A (zX6 g a v) s.heap.size = A at hD ⊢
  have hA : ∀ q : Nat, s.heap.size ≤ q → A q := fun q h => by rw [← hAe]; exact Or.inr h
  have hS : va_S A s.heap s.heap [] := va_S.rf
  have hl := lv_entry ([.ref (a 0)]) (n := 2) (Nat.le_of_ble_eq_true rfl)
  rw [lg_entry_eq]
  generalize (lg_sl ([.ref (a 0)]) ++ List.replicate (2 - (lg_sl ([.ref (a 0)])).length) Slot.unset).toArray = ls at hl ⊢
  have hl : lv_has ls 2 [(0, .ref (a 0))] := hl
  refine lv_aload_n hx hb dL_agains_0 rfl (lv_at hl 0 rfl) ?_
  refine zk_iA (va_runV (As := []) (rest := []) ⟨hx, hb, hml, hown, hts⟩ (cn_X6_again l g a v r hf _) (zcVg hw0 zm2_231 zm2_234 zm1_1 zm2_232 zm2_233 hd_X6_again rfl rfl ⟨Nat.le_of_ble_eq_true rfl, Nat.le_of_ble_eq_true rfl⟩) ⟨zblind, zrecvA hK hP (ci := 6) rfl rfl, zpreA hK hP hD⟩ rfl rfl hl.1 rfl (lv_room (Nat.le_of_ble_eq_true rfl)) dL_agains_1 ⟨Nat.le_of_ble_eq_true rfl, Nat.le_of_ble_eq_true rfl⟩) hP hD hS hA (fun H locs hP hD hS => ?_)
  exact vx_ret (W.iret (v := r.1) hx hb hr0 (fun t ht hW => ⟨⟨r.1, (), rfl, rfl, by rw [ht]; exact hP, hD⟩, hS.F ht⟩) hS.2.2 dL_agains_4)
set_option maxHeartbeats 4000000 in
set_option maxRecDepth 100000 in
theorem ca_L_agains (l : Launch) (hst9 : l.stackTraces = false) (g : zG) (a : Nat → Nat) (v : CV) (r : Int32 × CV) (hf : fa_L_agains v = some r) : zMa zNF zNM l yL_agains (zwH yL_agains cL_agains 2 (some .int) [(0, 4, 5, 95)]) ({ frames := 7, cells := 1, slots := 6, locals := 122 } : Room) g [.ref (a 0)] (zX6 g a v) r.1 (zX6 g a r.2) := by
  intro sz
  refine vx_ofWH (cc := cL_agains) (maxL := 2) (ret := (some .int)) (hh := [(0, 4, 5, 95)]) (by decide) rfl ?_
  intro p e s m args below meth c s₁ B hml hv
  obtain ⟨rfl, ⟨⟨hsz, hP, hK, hD0⟩, hKx, hZs⟩, hNc⟩ := hv
  have hx := B.exec
  have hb := B.bytes
  have hr0 := B.returns
  have hts := atoms_spec (ws := (zwH yL_agains cL_agains 2 (some .int) [(0, 4, 5, 95)])) B.pre
  have htb : c.exceptionTable.toList = [⟨0, 4, 5, 95⟩] := vx_table (x := yL_agains) B (hts _ List.mem_cons_self)
  have hw0 : ∀ w ∈ zW, w.before ([.ref (a 0)] : List Value).toArray s = true := fun w h => hts w (List.mem_cons_of_mem _ h)
  have hown : s.vm.findClass RL = some m.cls := findClass_of_methodNamed B.named
  have hlocks := B.notSynchronized
  subst hsz
  have hD := hD0.self (sz := s.heap.size)
  generalize hAe : va_A (zX6 g a v) s.heap.size = A at hD hZs ⊢
  have hA : ∀ q : Nat, s.heap.size ≤ q → A q := fun q h => by rw [← hAe]; exact Or.inr h
  have hS : va_S A s.heap s.heap [] := va_S.rf
  unfold fa_L_agains at hf
  have hl := lv_entry ([.ref (a 0)]) (n := 2) (Nat.le_of_ble_eq_true rfl)
  rw [lg_entry_eq]
  generalize (lg_sl ([.ref (a 0)]) ++ List.replicate (2 - (lg_sl ([.ref (a 0)])).length) Slot.unset).toArray = ls at hl ⊢
  have hl : lv_has ls 2 [(0, .ref (a 0))] := hl
  obtain ⟨r9, hr9, hf⟩ := ob hf
  refine lv_aload_n hx hb dL_agains_0 rfl (lv_at hl 0 rfl) ?_
  refine zk_xA (vx_runV (As := []) (rest := []) ⟨hx, hb, hml, hown, hts⟩ (c_X6_again l hst9 g a v r9 hr9 _) (zcVg hw0 zm2_231 zm2_234 zm1_1 zm2_232 zm2_233 hd_X6_again rfl rfl ⟨Nat.le_of_ble_eq_true rfl, Nat.le_of_ble_eq_true rfl⟩) ⟨zblindX, zrecvA hK hP (ci := 6) rfl rfl, zpreXA hK hKx hZs hP hD hS hA⟩ rfl rfl hl.1 rfl (lv_room (Nat.le_of_ble_eq_true rfl)) dL_agains_1 ⟨Nat.le_of_ble_eq_true rfl, Nat.le_of_ble_eq_true rfl⟩) hP hD hS hA (fun q => rfl) (fun k ce q9 H locs e9 hP hD hS h1 h2 h3 => ?_) (fun q H locs e9 hP hD hS => ?_)
  · subst e9
    by_cases hk9 : k = 2
    · subst hk9
      refine vx_catch hown [] ⟨0, 4, 5, 95⟩ [] htb (fun z hz => absurd hz List.not_mem_nil) rfl (by decide) (hw0 _ zm1_234) (zcastX rfl (by decide +kernel) hKx) h1 h2 h3 ?_
      refine lv_astore_n (lv' := [(1, .ref q9), (0, .ref (a 0))]) hx hb dL_agains_5 rfl hl (by decide) rfl (fun ls hl => ?_)
      refine lv_ldc (v := -2000003) hx hb hown (hw0 _ zm2_119) dL_agains_6 ?_
      have hR : ((-2000003, v) : Int32 × CV) = r := Option.some.inj (oi hf rfl)
      subst hR
      refine W.widen (k := 1) (n := 6) (Nat.le_refl _) (Nat.le_refl _) ?_
      exact vx_ret (W.iret (v := -2000003) hx hb hr0 (fun t ht hW => ⟨⟨-2000003, (), rfl, rfl, by rw [ht]; exact hP, hD⟩, hS.F ht⟩) hS.2.2 dL_agains_8)
    · have hf := oe hf hk9
      exact absurd hf (by simp)
  · subst e9
    have hR : q = r := Option.some.inj hf
    subst hR
    refine W.widen (k := 1) (n := 6) (Nat.le_refl _) (Nat.le_refl _) ?_
    exact vx_ret (W.iret (v := q.1) hx hb hr0 (fun t ht hW => ⟨⟨q.1, (), rfl, rfl, by rw [ht]; exact hP, hD⟩, hS.F ht⟩) hS.2.2 dL_agains_4)
theorem hd_L_elementOf : yL_elementOf.cls ≠ "java/lang/invoke/MethodHandle" ∧ yL_elementOf.cls ≠ "java/lang/invoke/VarHandle" ∧ (parseMethodDescriptor yL_elementOf.desc).map (fun d => d.parameters.length) = some 3 := by decide +kernel
def fa_L_elementOf (v : CV) (p0 : Int32) (p1 : Int32) : Option (Int32) := (f_X6_element v p0 p1).bind (fun r => match r with | .inl k => if k = 3 then some (-2000001) else if k = 1 then some (-2000002) else none | .inr q => some q)
set_option maxHeartbeats 4000000 in
set_option maxRecDepth 100000 in
theorem co_L_elementOf (l : Launch) (g : zG) (a : Nat → Nat) (v : CV) (p0 : Int32) (p1 : Int32) (r : Int32) (hf : fn_X6_element v p0 p1 = some r) : zMo zNF zNM l yL_elementOf (zwH yL_elementOf cL_elementOf 4 (some .int) [(0, 6, 7, 104), (0, 6, 11, 93)]) ({ frames := 7, cells := 0, slots := 0, locals := 129 } : Room) g [.ref (a 0), .int p0, .int p1] (zX6 g a v) r (zX6 g a v) := by
  intro sz
  refine vx_ofWH (cc := cL_elementOf) (maxL := 4) (ret := (some .int)) (hh := [(0, 6, 7, 104), (0, 6, 11, 93)]) (by decide) rfl ?_
  intro p e s m args below meth c s₁ B hml hv
  obtain ⟨rfl, hsz, hP, hK, hD0⟩ := hv
  have hx := B.exec
  have hb := B.bytes
  have hr0 := B.returns
  have hts := atoms_spec (ws := (zwH yL_elementOf cL_elementOf 4 (some .int) [(0, 6, 7, 104), (0, 6, 11, 93)])) B.pre
  have htb : c.exceptionTable.toList = [⟨0, 6, 7, 104⟩, ⟨0, 6, 11, 93⟩] := vx_table (x := yL_elementOf) B (hts _ List.mem_cons_self)
  have hw0 : ∀ w ∈ zW, w.before ([.ref (a 0), .int p0, .int p1] : List Value).toArray s = true := fun w h => hts w (List.mem_cons_of_mem _ h)
  have hown : s.vm.findClass RL = some m.cls := findClass_of_methodNamed B.named
  have hlocks := B.notSynchronized
  subst hsz
  have hD := hD0.self (sz := s.heap.size)
  generalize hAe : va_A (zX6 g a v) s.heap.size = A at hD ⊢
  have hA : ∀ q : Nat, s.heap.size ≤ q → A q := fun q h => by rw [← hAe]; exact Or.inr h
  have hS : va_S A s.heap s.heap [] := va_S.rf
  have hl := lv_entry ([.ref (a 0), .int p0, .int p1]) (n := 4) (Nat.le_of_ble_eq_true rfl)
  rw [lg_entry_eq]
  generalize (lg_sl ([.ref (a 0), .int p0, .int p1]) ++ List.replicate (4 - (lg_sl ([.ref (a 0), .int p0, .int p1])).length) Slot.unset).toArray = ls at hl ⊢
  have hl : lv_has ls 4 [(0, .ref (a 0)), (1, .int p0), (2, .int p1)] := hl
  refine lv_aload_n hx hb dL_elementOf_0 rfl (lv_at hl 0 rfl) ?_
  refine lv_iload_n hx hb dL_elementOf_1 rfl (lv_at hl 1 rfl) ?_
  refine lv_iload_n hx hb dL_elementOf_2 rfl (lv_at hl 2 rfl) ?_
  refine zk_iA (va_runV (As := [.int p0, .int p1]) (rest := []) ⟨hx, hb, hml, hown, hts⟩ (cn_X6_element l g a v p0 p1 r hf _) (zcVg hw0 zm3_159 zm3_162 zm1_1 zm3_160 zm3_161 hd_X6_element rfl rfl ⟨Nat.le_of_ble_eq_true rfl, Nat.le_of_ble_eq_true rfl⟩) ⟨zblind, zrecvA hK hP (ci := 6) rfl rfl, zpreA hK hP hD⟩ rfl rfl hl.1 rfl (lv_room (Nat.le_of_ble_eq_true rfl)) dL_elementOf_3 ⟨Nat.le_of_ble_eq_true rfl, Nat.le_of_ble_eq_true rfl⟩) hP hD hS hA (fun H locs hP hD hS => ?_)
  exact vx_ret (W.iret (v := r) hx hb hr0 (fun t ht hW => ⟨⟨r, (), rfl, rfl, by rw [ht]; exact hP, hD⟩, hS.F ht⟩) hS.2.2 dL_elementOf_6)
set_option maxHeartbeats 4000000 in
set_option maxRecDepth 100000 in
theorem ca_L_elementOf (l : Launch) (hst9 : l.stackTraces = false) (g : zG) (a : Nat → Nat) (v : CV) (p0 : Int32) (p1 : Int32) (r : Int32) (hf : fa_L_elementOf v p0 p1 = some r) : zMa zNF zNM l yL_elementOf (zwH yL_elementOf cL_elementOf 4 (some .int) [(0, 6, 7, 104), (0, 6, 11, 93)]) ({ frames := 7, cells := 1, slots := 6, locals := 129 } : Room) g [.ref (a 0), .int p0, .int p1] (zX6 g a v) r (zX6 g a v) := by
  intro sz
  refine vx_ofWH (cc := cL_elementOf) (maxL := 4) (ret := (some .int)) (hh := [(0, 6, 7, 104), (0, 6, 11, 93)]) (by decide) rfl ?_
  intro p e s m args below meth c s₁ B hml hv
  obtain ⟨rfl, ⟨⟨hsz, hP, hK, hD0⟩, hKx, hZs⟩, hNc⟩ := hv
  have hx := B.exec
  have hb := B.bytes
  have hr0 := B.returns
  have hts := atoms_spec (ws := (zwH yL_elementOf cL_elementOf 4 (some .int) [(0, 6, 7, 104), (0, 6, 11, 93)])) B.pre
  have htb : c.exceptionTable.toList = [⟨0, 6, 7, 104⟩, ⟨0, 6, 11, 93⟩] := vx_table (x := yL_elementOf) B (hts _ List.mem_cons_self)
  have hw0 : ∀ w ∈ zW, w.before ([.ref (a 0), .int p0, .int p1] : List Value).toArray s = true := fun w h => hts w (List.mem_cons_of_mem _ h)
  have hown : s.vm.findClass RL = some m.cls := findClass_of_methodNamed B.named
  have hlocks := B.notSynchronized
  subst hsz
  have hD := hD0.self (sz := s.heap.size)
  generalize hAe : va_A (zX6 g a v) s.heap.size = A at hD hZs ⊢
  have hA : ∀ q : Nat, s.heap.size ≤ q → A q := fun q h => by rw [← hAe]; exact Or.inr h
  have hS : va_S A s.heap s.heap [] := va_S.rf
  unfold fa_L_elementOf at hf
  have hl := lv_entry ([.ref (a 0), .int p0, .int p1]) (n := 4) (Nat.le_of_ble_eq_true rfl)
  rw [lg_entry_eq]
  generalize (lg_sl ([.ref (a 0), .int p0, .int p1]) ++ List.replicate (4 - (lg_sl ([.ref (a 0), .int p0, .int p1])).length) Slot.unset).toArray = ls at hl ⊢
  have hl : lv_has ls 4 [(0, .ref (a 0)), (1, .int p0), (2, .int p1)] := hl
  obtain ⟨r9, hr9, hf⟩ := ob hf
  refine lv_aload_n hx hb dL_elementOf_0 rfl (lv_at hl 0 rfl) ?_
  refine lv_iload_n hx hb dL_elementOf_1 rfl (lv_at hl 1 rfl) ?_
  refine lv_iload_n hx hb dL_elementOf_2 rfl (lv_at hl 2 rfl) ?_
  refine zk_xA (vx_runV (As := [.int p0, .int p1]) (rest := []) ⟨hx, hb, hml, hown, hts⟩ (c_X6_element l hst9 g a v p0 p1 r9 hr9 _) (zcVg hw0 zm3_159 zm3_162 zm1_1 zm3_160 zm3_161 hd_X6_element rfl rfl ⟨Nat.le_of_ble_eq_true rfl, Nat.le_of_ble_eq_true rfl⟩) ⟨zblindX, zrecvA hK hP (ci := 6) rfl rfl, zpreXA hK hKx hZs hP hD hS hA⟩ rfl rfl hl.1 rfl (lv_room (Nat.le_of_ble_eq_true rfl)) dL_elementOf_3 ⟨Nat.le_of_ble_eq_true rfl, Nat.le_of_ble_eq_true rfl⟩) hP hD hS hA (fun q => rfl) (fun k ce q9 H locs e9 hP hD hS h1 h2 h3 => ?_) (fun q H locs e9 hP hD hS => ?_)
  · subst e9
    by_cases hk9 : k = 3
    · subst hk9
      refine vx_catch hown [] ⟨0, 6, 7, 104⟩ [⟨0, 6, 11, 93⟩] htb (fun z hz => absurd hz List.not_mem_nil) rfl (by decide) (hw0 _ zm2_135) (zcastX rfl (by decide +kernel) hKx) h1 h2 h3 ?_
      refine lv_astore_n (lv' := [(3, .ref q9), (0, .ref (a 0)), (1, .int p0), (2, .int p1)]) hx hb dL_elementOf_7 rfl hl (by decide) rfl (fun ls hl => ?_)
      refine lv_ldc (v := -2000001) hx hb hown (hw0 _ zm2_197) dL_elementOf_8 ?_
      have hR : ((-2000001) : Int32) = r := Option.some.inj (oi hf rfl)
      subst hR
      refine W.widen (k := 1) (n := 6) (Nat.le_refl _) (Nat.le_refl _) ?_
      exact vx_ret (W.iret (v := -2000001) hx hb hr0 (fun t ht hW => ⟨⟨-2000001, (), rfl, rfl, by rw [ht]; exact hP, hD⟩, hS.F ht⟩) hS.2.2 dL_elementOf_10)
    · have hf := oe hf hk9
      by_cases hk9 : k = 1
      · subst hk9
        refine vx_catch hown [⟨0, 6, 7, 104⟩] ⟨0, 6, 11, 93⟩ [] htb (fun z hz => by simp only [List.mem_cons, List.not_mem_nil, or_false] at hz; rcases hz with rfl <;> first | (exact Or.inr ⟨by decide, "java/lang/IndexOutOfBoundsException", hw0 _ zm2_135, hNc ("java/lang/IllegalArgumentException", "java/lang/IndexOutOfBoundsException") (by decide +kernel)⟩)) rfl (by decide) (hw0 _ zm1_233) (zcastX rfl (by decide +kernel) hKx) h1 h2 h3 ?_
        refine lv_astore_n (lv' := [(3, .ref q9), (0, .ref (a 0)), (1, .int p0), (2, .int p1)]) hx hb dL_elementOf_11 rfl hl (by decide) rfl (fun ls hl => ?_)
        refine lv_ldc (v := -2000002) hx hb hown (hw0 _ zm2_118) dL_elementOf_12 ?_
        have hR : ((-2000002) : Int32) = r := Option.some.inj (oi hf rfl)
        subst hR
        refine W.widen (k := 1) (n := 6) (Nat.le_refl _) (Nat.le_refl _) ?_
        exact vx_ret (W.iret (v := -2000002) hx hb hr0 (fun t ht hW => ⟨⟨-2000002, (), rfl, rfl, by rw [ht]; exact hP, hD⟩, hS.F ht⟩) hS.2.2 dL_elementOf_14)
      · have hf := oe hf hk9
        exact absurd hf (by simp)
  · subst e9
    have hR : q = r := Option.some.inj hf
    subst hR
    refine W.widen (k := 1) (n := 6) (Nat.le_refl _) (Nat.le_refl _) ?_
    exact vx_ret (W.iret (v := q) hx hb hr0 (fun t ht hW => ⟨⟨q, (), rfl, rfl, by rw [ht]; exact hP, hD⟩, hS.F ht⟩) hS.2.2 dL_elementOf_6)
theorem hd_L_fillerOf : yL_fillerOf.cls ≠ "java/lang/invoke/MethodHandle" ∧ yL_fillerOf.cls ≠ "java/lang/invoke/VarHandle" ∧ (parseMethodDescriptor yL_fillerOf.desc).map (fun d => d.parameters.length) = some 3 := by decide +kernel
def fa_L_fillerOf (v : CV) (p0 : Int32) (p1 : Int32) : Option (Int32) := (f_X6_filler v p0 p1).bind (fun r => match r with | .inl k => if k = 3 then some (-2000001) else if k = 1 then some (-2000002) else none | .inr q => some q)
set_option maxHeartbeats 4000000 in
set_option maxRecDepth 100000 in
theorem co_L_fillerOf (l : Launch) (g : zG) (a : Nat → Nat) (v : CV) (p0 : Int32) (p1 : Int32) (r : Int32) (hf : fn_X6_filler v p0 p1 = some r) : zMo zNF zNM l yL_fillerOf (zwH yL_fillerOf cL_fillerOf 4 (some .int) [(0, 6, 7, 104), (0, 6, 11, 93)]) ({ frames := 7, cells := 0, slots := 0, locals := 122 } : Room) g [.ref (a 0), .int p0, .int p1] (zX6 g a v) r (zX6 g a v) := by
  intro sz
  refine vx_ofWH (cc := cL_fillerOf) (maxL := 4) (ret := (some .int)) (hh := [(0, 6, 7, 104), (0, 6, 11, 93)]) (by decide) rfl ?_
  intro p e s m args below meth c s₁ B hml hv
  obtain ⟨rfl, hsz, hP, hK, hD0⟩ := hv
  have hx := B.exec
  have hb := B.bytes
  have hr0 := B.returns
  have hts := atoms_spec (ws := (zwH yL_fillerOf cL_fillerOf 4 (some .int) [(0, 6, 7, 104), (0, 6, 11, 93)])) B.pre
  have htb : c.exceptionTable.toList = [⟨0, 6, 7, 104⟩, ⟨0, 6, 11, 93⟩] := vx_table (x := yL_fillerOf) B (hts _ List.mem_cons_self)
  have hw0 : ∀ w ∈ zW, w.before ([.ref (a 0), .int p0, .int p1] : List Value).toArray s = true := fun w h => hts w (List.mem_cons_of_mem _ h)
  have hown : s.vm.findClass RL = some m.cls := findClass_of_methodNamed B.named
  have hlocks := B.notSynchronized
  subst hsz
  have hD := hD0.self (sz := s.heap.size)
  generalize hAe : va_A (zX6 g a v) s.heap.size = A at hD ⊢
  have hA : ∀ q : Nat, s.heap.size ≤ q → A q := fun q h => by rw [← hAe]; exact Or.inr h
  have hS : va_S A s.heap s.heap [] := va_S.rf
  have hl := lv_entry ([.ref (a 0), .int p0, .int p1]) (n := 4) (Nat.le_of_ble_eq_true rfl)
  rw [lg_entry_eq]
  generalize (lg_sl ([.ref (a 0), .int p0, .int p1]) ++ List.replicate (4 - (lg_sl ([.ref (a 0), .int p0, .int p1])).length) Slot.unset).toArray = ls at hl ⊢
  have hl : lv_has ls 4 [(0, .ref (a 0)), (1, .int p0), (2, .int p1)] := hl
  refine lv_aload_n hx hb dL_fillerOf_0 rfl (lv_at hl 0 rfl) ?_
  refine lv_iload_n hx hb dL_fillerOf_1 rfl (lv_at hl 1 rfl) ?_
  refine lv_iload_n hx hb dL_fillerOf_2 rfl (lv_at hl 2 rfl) ?_
  refine zk_iA (va_runV (As := [.int p0, .int p1]) (rest := []) ⟨hx, hb, hml, hown, hts⟩ (cn_X6_filler l g a v p0 p1 r hf _) (zcVg hw0 zm3_187 zm3_190 zm1_1 zm3_188 zm3_189 hd_X6_filler rfl rfl ⟨Nat.le_of_ble_eq_true rfl, Nat.le_of_ble_eq_true rfl⟩) ⟨zblind, zrecvA hK hP (ci := 6) rfl rfl, zpreA hK hP hD⟩ rfl rfl hl.1 rfl (lv_room (Nat.le_of_ble_eq_true rfl)) dL_fillerOf_3 ⟨Nat.le_of_ble_eq_true rfl, Nat.le_of_ble_eq_true rfl⟩) hP hD hS hA (fun H locs hP hD hS => ?_)
  exact vx_ret (W.iret (v := r) hx hb hr0 (fun t ht hW => ⟨⟨r, (), rfl, rfl, by rw [ht]; exact hP, hD⟩, hS.F ht⟩) hS.2.2 dL_fillerOf_6)
set_option maxHeartbeats 4000000 in
set_option maxRecDepth 100000 in
theorem ca_L_fillerOf (l : Launch) (hst9 : l.stackTraces = false) (g : zG) (a : Nat → Nat) (v : CV) (p0 : Int32) (p1 : Int32) (r : Int32) (hf : fa_L_fillerOf v p0 p1 = some r) : zMa zNF zNM l yL_fillerOf (zwH yL_fillerOf cL_fillerOf 4 (some .int) [(0, 6, 7, 104), (0, 6, 11, 93)]) ({ frames := 7, cells := 1, slots := 6, locals := 122 } : Room) g [.ref (a 0), .int p0, .int p1] (zX6 g a v) r (zX6 g a v) := by
  intro sz
  refine vx_ofWH (cc := cL_fillerOf) (maxL := 4) (ret := (some .int)) (hh := [(0, 6, 7, 104), (0, 6, 11, 93)]) (by decide) rfl ?_
  intro p e s m args below meth c s₁ B hml hv
  obtain ⟨rfl, ⟨⟨hsz, hP, hK, hD0⟩, hKx, hZs⟩, hNc⟩ := hv
  have hx := B.exec
  have hb := B.bytes
  have hr0 := B.returns
  have hts := atoms_spec (ws := (zwH yL_fillerOf cL_fillerOf 4 (some .int) [(0, 6, 7, 104), (0, 6, 11, 93)])) B.pre
  have htb : c.exceptionTable.toList = [⟨0, 6, 7, 104⟩, ⟨0, 6, 11, 93⟩] := vx_table (x := yL_fillerOf) B (hts _ List.mem_cons_self)
  have hw0 : ∀ w ∈ zW, w.before ([.ref (a 0), .int p0, .int p1] : List Value).toArray s = true := fun w h => hts w (List.mem_cons_of_mem _ h)
  have hown : s.vm.findClass RL = some m.cls := findClass_of_methodNamed B.named
  have hlocks := B.notSynchronized
  subst hsz
  have hD := hD0.self (sz := s.heap.size)
  generalize hAe : va_A (zX6 g a v) s.heap.size = A at hD hZs ⊢
  have hA : ∀ q : Nat, s.heap.size ≤ q → A q := fun q h => by rw [← hAe]; exact Or.inr h
  have hS : va_S A s.heap s.heap [] := va_S.rf
  unfold fa_L_fillerOf at hf
  have hl := lv_entry ([.ref (a 0), .int p0, .int p1]) (n := 4) (Nat.le_of_ble_eq_true rfl)
  rw [lg_entry_eq]
  generalize (lg_sl ([.ref (a 0), .int p0, .int p1]) ++ List.replicate (4 - (lg_sl ([.ref (a 0), .int p0, .int p1])).length) Slot.unset).toArray = ls at hl ⊢
  have hl : lv_has ls 4 [(0, .ref (a 0)), (1, .int p0), (2, .int p1)] := hl
  obtain ⟨r9, hr9, hf⟩ := ob hf
  refine lv_aload_n hx hb dL_fillerOf_0 rfl (lv_at hl 0 rfl) ?_
  refine lv_iload_n hx hb dL_fillerOf_1 rfl (lv_at hl 1 rfl) ?_
  refine lv_iload_n hx hb dL_fillerOf_2 rfl (lv_at hl 2 rfl) ?_
  refine zk_xA (vx_runV (As := [.int p0, .int p1]) (rest := []) ⟨hx, hb, hml, hown, hts⟩ (c_X6_filler l hst9 g a v p0 p1 r9 hr9 _) (zcVg hw0 zm3_187 zm3_190 zm1_1 zm3_188 zm3_189 hd_X6_filler rfl rfl ⟨Nat.le_of_ble_eq_true rfl, Nat.le_of_ble_eq_true rfl⟩) ⟨zblindX, zrecvA hK hP (ci := 6) rfl rfl, zpreXA hK hKx hZs hP hD hS hA⟩ rfl rfl hl.1 rfl (lv_room (Nat.le_of_ble_eq_true rfl)) dL_fillerOf_3 ⟨Nat.le_of_ble_eq_true rfl, Nat.le_of_ble_eq_true rfl⟩) hP hD hS hA (fun q => rfl) (fun k ce q9 H locs e9 hP hD hS h1 h2 h3 => ?_) (fun q H locs e9 hP hD hS => ?_)
  · subst e9
    by_cases hk9 : k = 3
    · subst hk9
      refine vx_catch hown [] ⟨0, 6, 7, 104⟩ [⟨0, 6, 11, 93⟩] htb (fun z hz => absurd hz List.not_mem_nil) rfl (by decide) (hw0 _ zm2_135) (zcastX rfl (by decide +kernel) hKx) h1 h2 h3 ?_
      refine lv_astore_n (lv' := [(3, .ref q9), (0, .ref (a 0)), (1, .int p0), (2, .int p1)]) hx hb dL_fillerOf_7 rfl hl (by decide) rfl (fun ls hl => ?_)
      refine lv_ldc (v := -2000001) hx hb hown (hw0 _ zm2_197) dL_fillerOf_8 ?_
      have hR : ((-2000001) : Int32) = r := Option.some.inj (oi hf rfl)
      subst hR
      refine W.widen (k := 1) (n := 6) (Nat.le_refl _) (Nat.le_refl _) ?_
      exact vx_ret (W.iret (v := -2000001) hx hb hr0 (fun t ht hW => ⟨⟨-2000001, (), rfl, rfl, by rw [ht]; exact hP, hD⟩, hS.F ht⟩) hS.2.2 dL_fillerOf_10)
    · have hf := oe hf hk9
      by_cases hk9 : k = 1
      · subst hk9
        refine vx_catch hown [⟨0, 6, 7, 104⟩] ⟨0, 6, 11, 93⟩ [] htb (fun z hz => by simp only [List.mem_cons, List.not_mem_nil, or_false] at hz; rcases hz with rfl <;> first | (exact Or.inr ⟨by decide, "java/lang/IndexOutOfBoundsException", hw0 _ zm2_135, hNc ("java/lang/IllegalArgumentException", "java/lang/IndexOutOfBoundsException") (by decide +kernel)⟩)) rfl (by decide) (hw0 _ zm1_233) (zcastX rfl (by decide +kernel) hKx) h1 h2 h3 ?_
        refine lv_astore_n (lv' := [(3, .ref q9), (0, .ref (a 0)), (1, .int p0), (2, .int p1)]) hx hb dL_fillerOf_11 rfl hl (by decide) rfl (fun ls hl => ?_)
        refine lv_ldc (v := -2000002) hx hb hown (hw0 _ zm2_118) dL_fillerOf_12 ?_
        have hR : ((-2000002) : Int32) = r := Option.some.inj (oi hf rfl)
        subst hR
        refine W.widen (k := 1) (n := 6) (Nat.le_refl _) (Nat.le_refl _) ?_
        exact vx_ret (W.iret (v := -2000002) hx hb hr0 (fun t ht hW => ⟨⟨-2000002, (), rfl, rfl, by rw [ht]; exact hP, hD⟩, hS.F ht⟩) hS.2.2 dL_fillerOf_14)
      · have hf := oe hf hk9
        exact absurd hf (by simp)
  · subst e9
    have hR : q = r := Option.some.inj hf
    subst hR
    refine W.widen (k := 1) (n := 6) (Nat.le_refl _) (Nat.le_refl _) ?_
    exact vx_ret (W.iret (v := q) hx hb hr0 (fun t ht hW => ⟨⟨q, (), rfl, rfl, by rw [ht]; exact hP, hD⟩, hS.F ht⟩) hS.2.2 dL_fillerOf_6)
theorem hd_L_valueOf : yL_valueOf.cls ≠ "java/lang/invoke/MethodHandle" ∧ yL_valueOf.cls ≠ "java/lang/invoke/VarHandle" ∧ (parseMethodDescriptor yL_valueOf.desc).map (fun d => d.parameters.length) = some 2 := by decide +kernel
def fa_L_valueOf (v : CV) (p0 : Int32) : Option (Int32) := (f_X6_value v p0).bind (fun r => match r with | .inl k => if k = 1 then some (-2000002) else none | .inr q => some q)
set_option maxHeartbeats 4000000 in
set_option maxRecDepth 100000 in
theorem co_L_valueOf (l : Launch) (g : zG) (a : Nat → Nat) (v : CV) (p0 : Int32) (r : Int32) (hf : fn_X6_value v p0 = some r) : zMo zNF zNM l yL_valueOf (zwH yL_valueOf cL_valueOf 3 (some .int) [(0, 5, 6, 93)]) ({ frames := 7, cells := 0, slots := 0, locals := 121 } : Room) g [.ref (a 0), .int p0] (zX6 g a v) r (zX6 g a v) := by
  intro sz
  refine vx_ofWH (cc := cL_valueOf) (maxL := 3) (ret := (some .int)) (hh := [(0, 5, 6, 93)]) (by decide) rfl ?_
  intro p e s m args below meth c s₁ B hml hv
  obtain ⟨rfl, hsz, hP, hK, hD0⟩ := hv
  have hx := B.exec
  have hb := B.bytes
  have hr0 := B.returns
  have hts := atoms_spec (ws := (zwH yL_valueOf cL_valueOf 3 (some .int) [(0, 5, 6, 93)])) B.pre
  have htb : c.exceptionTable.toList = [⟨0, 5, 6, 93⟩] := vx_table (x := yL_valueOf) B (hts _ List.mem_cons_self)
  have hw0 : ∀ w ∈ zW, w.before ([.ref (a 0), .int p0] : List Value).toArray s = true := fun w h => hts w (List.mem_cons_of_mem _ h)
  have hown : s.vm.findClass RL = some m.cls := findClass_of_methodNamed B.named
  have hlocks := B.notSynchronized
  subst hsz
  have hD := hD0.self (sz := s.heap.size)
  generalize hAe : va_A (zX6 g a v) s.heap.size = A at hD ⊢
  have hA : ∀ q : Nat, s.heap.size ≤ q → A q := fun q h => by rw [← hAe]; exact Or.inr h
  have hS : va_S A s.heap s.heap [] := va_S.rf
  have hl := lv_entry ([.ref (a 0), .int p0]) (n := 3) (Nat.le_of_ble_eq_true rfl)
  rw [lg_entry_eq]
  generalize (lg_sl ([.ref (a 0), .int p0]) ++ List.replicate (3 - (lg_sl ([.ref (a 0), .int p0])).length) Slot.unset).toArray = ls at hl ⊢
  have hl : lv_has ls 3 [(0, .ref (a 0)), (1, .int p0)] := hl
  refine lv_aload_n hx hb dL_valueOf_0 rfl (lv_at hl 0 rfl) ?_
  refine lv_iload_n hx hb dL_valueOf_1 rfl (lv_at hl 1 rfl) ?_
  refine zk_iA (va_runV (As := [.int p0]) (rest := []) ⟨hx, hb, hml, hown, hts⟩ (cn_X6_value l g a v p0 r hf _) (zcVg hw0 zm3_139 zm3_142 zm1_1 zm3_140 zm3_141 hd_X6_value rfl rfl ⟨Nat.le_of_ble_eq_true rfl, Nat.le_of_ble_eq_true rfl⟩) ⟨zblind, zrecvA hK hP (ci := 6) rfl rfl, zpreA hK hP hD⟩ rfl rfl hl.1 rfl (lv_room (Nat.le_of_ble_eq_true rfl)) dL_valueOf_2 ⟨Nat.le_of_ble_eq_true rfl, Nat.le_of_ble_eq_true rfl⟩) hP hD hS hA (fun H locs hP hD hS => ?_)
  exact vx_ret (W.iret (v := r) hx hb hr0 (fun t ht hW => ⟨⟨r, (), rfl, rfl, by rw [ht]; exact hP, hD⟩, hS.F ht⟩) hS.2.2 dL_valueOf_5)
set_option maxHeartbeats 4000000 in
set_option maxRecDepth 100000 in
theorem ca_L_valueOf (l : Launch) (hst9 : l.stackTraces = false) (g : zG) (a : Nat → Nat) (v : CV) (p0 : Int32) (r : Int32) (hf : fa_L_valueOf v p0 = some r) : zMa zNF zNM l yL_valueOf (zwH yL_valueOf cL_valueOf 3 (some .int) [(0, 5, 6, 93)]) ({ frames := 7, cells := 1, slots := 6, locals := 121 } : Room) g [.ref (a 0), .int p0] (zX6 g a v) r (zX6 g a v) := by
  intro sz
  refine vx_ofWH (cc := cL_valueOf) (maxL := 3) (ret := (some .int)) (hh := [(0, 5, 6, 93)]) (by decide) rfl ?_
  intro p e s m args below meth c s₁ B hml hv
  obtain ⟨rfl, ⟨⟨hsz, hP, hK, hD0⟩, hKx, hZs⟩, hNc⟩ := hv
  have hx := B.exec
  have hb := B.bytes
  have hr0 := B.returns
  have hts := atoms_spec (ws := (zwH yL_valueOf cL_valueOf 3 (some .int) [(0, 5, 6, 93)])) B.pre
  have htb : c.exceptionTable.toList = [⟨0, 5, 6, 93⟩] := vx_table (x := yL_valueOf) B (hts _ List.mem_cons_self)
  have hw0 : ∀ w ∈ zW, w.before ([.ref (a 0), .int p0] : List Value).toArray s = true := fun w h => hts w (List.mem_cons_of_mem _ h)
  have hown : s.vm.findClass RL = some m.cls := findClass_of_methodNamed B.named
  have hlocks := B.notSynchronized
  subst hsz
  have hD := hD0.self (sz := s.heap.size)
  generalize hAe : va_A (zX6 g a v) s.heap.size = A at hD hZs ⊢
  have hA : ∀ q : Nat, s.heap.size ≤ q → A q := fun q h => by rw [← hAe]; exact Or.inr h
  have hS : va_S A s.heap s.heap [] := va_S.rf
  unfold fa_L_valueOf at hf
  have hl := lv_entry ([.ref (a 0), .int p0]) (n := 3) (Nat.le_of_ble_eq_true rfl)
  rw [lg_entry_eq]
  generalize (lg_sl ([.ref (a 0), .int p0]) ++ List.replicate (3 - (lg_sl ([.ref (a 0), .int p0])).length) Slot.unset).toArray = ls at hl ⊢
  have hl : lv_has ls 3 [(0, .ref (a 0)), (1, .int p0)] := hl
  obtain ⟨r9, hr9, hf⟩ := ob hf
  refine lv_aload_n hx hb dL_valueOf_0 rfl (lv_at hl 0 rfl) ?_
  refine lv_iload_n hx hb dL_valueOf_1 rfl (lv_at hl 1 rfl) ?_
  refine zk_xA (vx_runV (As := [.int p0]) (rest := []) ⟨hx, hb, hml, hown, hts⟩ (c_X6_value l hst9 g a v p0 r9 hr9 _) (zcVg hw0 zm3_139 zm3_142 zm1_1 zm3_140 zm3_141 hd_X6_value rfl rfl ⟨Nat.le_of_ble_eq_true rfl, Nat.le_of_ble_eq_true rfl⟩) ⟨zblindX, zrecvA hK hP (ci := 6) rfl rfl, zpreXA hK hKx hZs hP hD hS hA⟩ rfl rfl hl.1 rfl (lv_room (Nat.le_of_ble_eq_true rfl)) dL_valueOf_2 ⟨Nat.le_of_ble_eq_true rfl, Nat.le_of_ble_eq_true rfl⟩) hP hD hS hA (fun q => rfl) (fun k ce q9 H locs e9 hP hD hS h1 h2 h3 => ?_) (fun q H locs e9 hP hD hS => ?_)
  · subst e9
    by_cases hk9 : k = 1
    · subst hk9
      refine vx_catch hown [] ⟨0, 5, 6, 93⟩ [] htb (fun z hz => absurd hz List.not_mem_nil) rfl (by decide) (hw0 _ zm1_233) (zcastX rfl (by decide +kernel) hKx) h1 h2 h3 ?_
      refine lv_astore_n (lv' := [(2, .ref q9), (0, .ref (a 0)), (1, .int p0)]) hx hb dL_valueOf_6 rfl hl (by decide) rfl (fun ls hl => ?_)
      refine lv_ldc (v := -2000002) hx hb hown (hw0 _ zm2_118) dL_valueOf_7 ?_
      have hR : ((-2000002) : Int32) = r := Option.some.inj (oi hf rfl)
      subst hR
      refine W.widen (k := 1) (n := 6) (Nat.le_refl _) (Nat.le_refl _) ?_
      exact vx_ret (W.iret (v := -2000002) hx hb hr0 (fun t ht hW => ⟨⟨-2000002, (), rfl, rfl, by rw [ht]; exact hP, hD⟩, hS.F ht⟩) hS.2.2 dL_valueOf_9)
    · have hf := oe hf hk9
      exact absurd hf (by simp)
  · subst e9
    have hR : q = r := Option.some.inj hf
    subst hR
    refine W.widen (k := 1) (n := 6) (Nat.le_refl _) (Nat.le_refl _) ?_
    exact vx_ret (W.iret (v := q) hx hb hr0 (fun t ht hW => ⟨⟨q, (), rfl, rfl, by rw [ht]; exact hP, hD⟩, hS.F ht⟩) hS.2.2 dL_valueOf_5)
theorem hd_L_entryOf : yL_entryOf.cls ≠ "java/lang/invoke/MethodHandle" ∧ yL_entryOf.cls ≠ "java/lang/invoke/VarHandle" ∧ (parseMethodDescriptor yL_entryOf.desc).map (fun d => d.parameters.length) = some 3 := by decide +kernel
def fa_L_entryOf (v : CV) (p0 : Int32) (p1 : Int32) : Option (Int32) := (f_X6_entry v p0 p1).bind (fun r => match r with | .inl k => if k = 3 then some (-2000001) else if k = 1 then some (-2000002) else none | .inr q => some q)
set_option maxHeartbeats 4000000 in
set_option maxRecDepth 100000 in
theorem co_L_entryOf (l : Launch) (g : zG) (a : Nat → Nat) (v : CV) (p0 : Int32) (p1 : Int32) (r : Int32) (hf : fn_X6_entry v p0 p1 = some r) : zMo zNF zNM l yL_entryOf (zwH yL_entryOf cL_entryOf 4 (some .int) [(0, 6, 7, 104), (0, 6, 11, 93)]) ({ frames := 7, cells := 0, slots := 0, locals := 122 } : Room) g [.ref (a 0), .int p0, .int p1] (zX6 g a v) r (zX6 g a v) := by
  intro sz
  refine vx_ofWH (cc := cL_entryOf) (maxL := 4) (ret := (some .int)) (hh := [(0, 6, 7, 104), (0, 6, 11, 93)]) (by decide) rfl ?_
  intro p e s m args below meth c s₁ B hml hv
  obtain ⟨rfl, hsz, hP, hK, hD0⟩ := hv
  have hx := B.exec
  have hb := B.bytes
  have hr0 := B.returns
  have hts := atoms_spec (ws := (zwH yL_entryOf cL_entryOf 4 (some .int) [(0, 6, 7, 104), (0, 6, 11, 93)])) B.pre
  have htb : c.exceptionTable.toList = [⟨0, 6, 7, 104⟩, ⟨0, 6, 11, 93⟩] := vx_table (x := yL_entryOf) B (hts _ List.mem_cons_self)
  have hw0 : ∀ w ∈ zW, w.before ([.ref (a 0), .int p0, .int p1] : List Value).toArray s = true := fun w h => hts w (List.mem_cons_of_mem _ h)
  have hown : s.vm.findClass RL = some m.cls := findClass_of_methodNamed B.named
  have hlocks := B.notSynchronized
  subst hsz
  have hD := hD0.self (sz := s.heap.size)
  generalize hAe : va_A (zX6 g a v) s.heap.size = A at hD ⊢
  have hA : ∀ q : Nat, s.heap.size ≤ q → A q := fun q h => by rw [← hAe]; exact Or.inr h
  have hS : va_S A s.heap s.heap [] := va_S.rf
  have hl := lv_entry ([.ref (a 0), .int p0, .int p1]) (n := 4) (Nat.le_of_ble_eq_true rfl)
  rw [lg_entry_eq]
  generalize (lg_sl ([.ref (a 0), .int p0, .int p1]) ++ List.replicate (4 - (lg_sl ([.ref (a 0), .int p0, .int p1])).length) Slot.unset).toArray = ls at hl ⊢
  have hl : lv_has ls 4 [(0, .ref (a 0)), (1, .int p0), (2, .int p1)] := hl
  refine lv_aload_n hx hb dL_entryOf_0 rfl (lv_at hl 0 rfl) ?_
  refine lv_iload_n hx hb dL_entryOf_1 rfl (lv_at hl 1 rfl) ?_
  refine lv_iload_n hx hb dL_entryOf_2 rfl (lv_at hl 2 rfl) ?_
  refine zk_iA (va_runV (As := [.int p0, .int p1]) (rest := []) ⟨hx, hb, hml, hown, hts⟩ (cn_X6_entry l g a v p0 p1 r hf _) (zcVg hw0 zm3_201 zm3_204 zm1_1 zm3_202 zm3_203 hd_X6_entry rfl rfl ⟨Nat.le_of_ble_eq_true rfl, Nat.le_of_ble_eq_true rfl⟩) ⟨zblind, zrecvA hK hP (ci := 6) rfl rfl, zpreA hK hP hD⟩ rfl rfl hl.1 rfl (lv_room (Nat.le_of_ble_eq_true rfl)) dL_entryOf_3 ⟨Nat.le_of_ble_eq_true rfl, Nat.le_of_ble_eq_true rfl⟩) hP hD hS hA (fun H locs hP hD hS => ?_)
  exact vx_ret (W.iret (v := r) hx hb hr0 (fun t ht hW => ⟨⟨r, (), rfl, rfl, by rw [ht]; exact hP, hD⟩, hS.F ht⟩) hS.2.2 dL_entryOf_6)
set_option maxHeartbeats 4000000 in
set_option maxRecDepth 100000 in
theorem ca_L_entryOf (l : Launch) (hst9 : l.stackTraces = false) (g : zG) (a : Nat → Nat) (v : CV) (p0 : Int32) (p1 : Int32) (r : Int32) (hf : fa_L_entryOf v p0 p1 = some r) : zMa zNF zNM l yL_entryOf (zwH yL_entryOf cL_entryOf 4 (some .int) [(0, 6, 7, 104), (0, 6, 11, 93)]) ({ frames := 7, cells := 1, slots := 6, locals := 122 } : Room) g [.ref (a 0), .int p0, .int p1] (zX6 g a v) r (zX6 g a v) := by
  intro sz
  refine vx_ofWH (cc := cL_entryOf) (maxL := 4) (ret := (some .int)) (hh := [(0, 6, 7, 104), (0, 6, 11, 93)]) (by decide) rfl ?_
  intro p e s m args below meth c s₁ B hml hv
  obtain ⟨rfl, ⟨⟨hsz, hP, hK, hD0⟩, hKx, hZs⟩, hNc⟩ := hv
  have hx := B.exec
  have hb := B.bytes
  have hr0 := B.returns
  have hts := atoms_spec (ws := (zwH yL_entryOf cL_entryOf 4 (some .int) [(0, 6, 7, 104), (0, 6, 11, 93)])) B.pre
  have htb : c.exceptionTable.toList = [⟨0, 6, 7, 104⟩, ⟨0, 6, 11, 93⟩] := vx_table (x := yL_entryOf) B (hts _ List.mem_cons_self)
  have hw0 : ∀ w ∈ zW, w.before ([.ref (a 0), .int p0, .int p1] : List Value).toArray s = true := fun w h => hts w (List.mem_cons_of_mem _ h)
  have hown : s.vm.findClass RL = some m.cls := findClass_of_methodNamed B.named
  have hlocks := B.notSynchronized
  subst hsz
  have hD := hD0.self (sz := s.heap.size)
  generalize hAe : va_A (zX6 g a v) s.heap.size = A at hD hZs ⊢
  have hA : ∀ q : Nat, s.heap.size ≤ q → A q := fun q h => by rw [← hAe]; exact Or.inr h
  have hS : va_S A s.heap s.heap [] := va_S.rf
  unfold fa_L_entryOf at hf
  have hl := lv_entry ([.ref (a 0), .int p0, .int p1]) (n := 4) (Nat.le_of_ble_eq_true rfl)
  rw [lg_entry_eq]
  generalize (lg_sl ([.ref (a 0), .int p0, .int p1]) ++ List.replicate (4 - (lg_sl ([.ref (a 0), .int p0, .int p1])).length) Slot.unset).toArray = ls at hl ⊢
  have hl : lv_has ls 4 [(0, .ref (a 0)), (1, .int p0), (2, .int p1)] := hl
  obtain ⟨r9, hr9, hf⟩ := ob hf
  refine lv_aload_n hx hb dL_entryOf_0 rfl (lv_at hl 0 rfl) ?_
  refine lv_iload_n hx hb dL_entryOf_1 rfl (lv_at hl 1 rfl) ?_
  refine lv_iload_n hx hb dL_entryOf_2 rfl (lv_at hl 2 rfl) ?_
  refine zk_xA (vx_runV (As := [.int p0, .int p1]) (rest := []) ⟨hx, hb, hml, hown, hts⟩ (c_X6_entry l hst9 g a v p0 p1 r9 hr9 _) (zcVg hw0 zm3_201 zm3_204 zm1_1 zm3_202 zm3_203 hd_X6_entry rfl rfl ⟨Nat.le_of_ble_eq_true rfl, Nat.le_of_ble_eq_true rfl⟩) ⟨zblindX, zrecvA hK hP (ci := 6) rfl rfl, zpreXA hK hKx hZs hP hD hS hA⟩ rfl rfl hl.1 rfl (lv_room (Nat.le_of_ble_eq_true rfl)) dL_entryOf_3 ⟨Nat.le_of_ble_eq_true rfl, Nat.le_of_ble_eq_true rfl⟩) hP hD hS hA (fun q => rfl) (fun k ce q9 H locs e9 hP hD hS h1 h2 h3 => ?_) (fun q H locs e9 hP hD hS => ?_)
  · subst e9
    by_cases hk9 : k = 3
    · subst hk9
      refine vx_catch hown [] ⟨0, 6, 7, 104⟩ [⟨0, 6, 11, 93⟩] htb (fun z hz => absurd hz List.not_mem_nil) rfl (by decide) (hw0 _ zm2_135) (zcastX rfl (by decide +kernel) hKx) h1 h2 h3 ?_
      refine lv_astore_n (lv' := [(3, .ref q9), (0, .ref (a 0)), (1, .int p0), (2, .int p1)]) hx hb dL_entryOf_7 rfl hl (by decide) rfl (fun ls hl => ?_)
      refine lv_ldc (v := -2000001) hx hb hown (hw0 _ zm2_197) dL_entryOf_8 ?_
      have hR : ((-2000001) : Int32) = r := Option.some.inj (oi hf rfl)
      subst hR
      refine W.widen (k := 1) (n := 6) (Nat.le_refl _) (Nat.le_refl _) ?_
      exact vx_ret (W.iret (v := -2000001) hx hb hr0 (fun t ht hW => ⟨⟨-2000001, (), rfl, rfl, by rw [ht]; exact hP, hD⟩, hS.F ht⟩) hS.2.2 dL_entryOf_10)
    · have hf := oe hf hk9
      by_cases hk9 : k = 1
      · subst hk9
        refine vx_catch hown [⟨0, 6, 7, 104⟩] ⟨0, 6, 11, 93⟩ [] htb (fun z hz => by simp only [List.mem_cons, List.not_mem_nil, or_false] at hz; rcases hz with rfl <;> first | (exact Or.inr ⟨by decide, "java/lang/IndexOutOfBoundsException", hw0 _ zm2_135, hNc ("java/lang/IllegalArgumentException", "java/lang/IndexOutOfBoundsException") (by decide +kernel)⟩)) rfl (by decide) (hw0 _ zm1_233) (zcastX rfl (by decide +kernel) hKx) h1 h2 h3 ?_
        refine lv_astore_n (lv' := [(3, .ref q9), (0, .ref (a 0)), (1, .int p0), (2, .int p1)]) hx hb dL_entryOf_11 rfl hl (by decide) rfl (fun ls hl => ?_)
        refine lv_ldc (v := -2000002) hx hb hown (hw0 _ zm2_118) dL_entryOf_12 ?_
        have hR : ((-2000002) : Int32) = r := Option.some.inj (oi hf rfl)
        subst hR
        refine W.widen (k := 1) (n := 6) (Nat.le_refl _) (Nat.le_refl _) ?_
        exact vx_ret (W.iret (v := -2000002) hx hb hr0 (fun t ht hW => ⟨⟨-2000002, (), rfl, rfl, by rw [ht]; exact hP, hD⟩, hS.F ht⟩) hS.2.2 dL_entryOf_14)
      · have hf := oe hf hk9
        exact absurd hf (by simp)
  · subst e9
    have hR : q = r := Option.some.inj hf
    subst hR
    refine W.widen (k := 1) (n := 6) (Nat.le_refl _) (Nat.le_refl _) ?_
    exact vx_ret (W.iret (v := q) hx hb hr0 (fun t ht hW => ⟨⟨q, (), rfl, rfl, by rw [ht]; exact hP, hD⟩, hS.F ht⟩) hS.2.2 dL_entryOf_6)
theorem hd_L_backOf : yL_backOf.cls ≠ "java/lang/invoke/MethodHandle" ∧ yL_backOf.cls ≠ "java/lang/invoke/VarHandle" ∧ (parseMethodDescriptor yL_backOf.desc).map (fun d => d.parameters.length) = some 2 := by decide +kernel
def fa_L_backOf (v : CV) (p0 : Int32) : Option (Int32) := (f_X6_backTime v p0).bind (fun r => match r with | .inl k => if k = 3 then some (-2000001) else none | .inr q => some q)
set_option maxHeartbeats 4000000 in
set_option maxRecDepth 100000 in
theorem co_L_backOf (l : Launch) (g : zG) (a : Nat → Nat) (v : CV) (p0 : Int32) (r : Int32) (hf : fn_X6_backTime v p0 = some r) : zMo zNF zNM l yL_backOf (zwH yL_backOf cL_backOf 3 (some .int) [(0, 5, 6, 104)]) ({ frames := 7, cells := 0, slots := 0, locals := 121 } : Room) g [.ref (a 0), .int p0] (zX6 g a v) r (zX6 g a v) := by
  intro sz
  refine vx_ofWH (cc := cL_backOf) (maxL := 3) (ret := (some .int)) (hh := [(0, 5, 6, 104)]) (by decide) rfl ?_
  intro p e s m args below meth c s₁ B hml hv
  obtain ⟨rfl, hsz, hP, hK, hD0⟩ := hv
  have hx := B.exec
  have hb := B.bytes
  have hr0 := B.returns
  have hts := atoms_spec (ws := (zwH yL_backOf cL_backOf 3 (some .int) [(0, 5, 6, 104)])) B.pre
  have htb : c.exceptionTable.toList = [⟨0, 5, 6, 104⟩] := vx_table (x := yL_backOf) B (hts _ List.mem_cons_self)
  have hw0 : ∀ w ∈ zW, w.before ([.ref (a 0), .int p0] : List Value).toArray s = true := fun w h => hts w (List.mem_cons_of_mem _ h)
  have hown : s.vm.findClass RL = some m.cls := findClass_of_methodNamed B.named
  have hlocks := B.notSynchronized
  subst hsz
  have hD := hD0.self (sz := s.heap.size)
  generalize hAe : va_A (zX6 g a v) s.heap.size = A at hD ⊢
  have hA : ∀ q : Nat, s.heap.size ≤ q → A q := fun q h => by rw [← hAe]; exact Or.inr h
  have hS : va_S A s.heap s.heap [] := va_S.rf
  have hl := lv_entry ([.ref (a 0), .int p0]) (n := 3) (Nat.le_of_ble_eq_true rfl)
  rw [lg_entry_eq]
  generalize (lg_sl ([.ref (a 0), .int p0]) ++ List.replicate (3 - (lg_sl ([.ref (a 0), .int p0])).length) Slot.unset).toArray = ls at hl ⊢
  have hl : lv_has ls 3 [(0, .ref (a 0)), (1, .int p0)] := hl
  refine lv_aload_n hx hb dL_backOf_0 rfl (lv_at hl 0 rfl) ?_
  refine lv_iload_n hx hb dL_backOf_1 rfl (lv_at hl 1 rfl) ?_
  refine zk_iA (va_runV (As := [.int p0]) (rest := []) ⟨hx, hb, hml, hown, hts⟩ (cn_X6_backTime l g a v p0 r hf _) (zcVg hw0 zm3_176 zm3_179 zm1_1 zm3_177 zm3_178 hd_X6_backTime rfl rfl ⟨Nat.le_of_ble_eq_true rfl, Nat.le_of_ble_eq_true rfl⟩) ⟨zblind, zrecvA hK hP (ci := 6) rfl rfl, zpreA hK hP hD⟩ rfl rfl hl.1 rfl (lv_room (Nat.le_of_ble_eq_true rfl)) dL_backOf_2 ⟨Nat.le_of_ble_eq_true rfl, Nat.le_of_ble_eq_true rfl⟩) hP hD hS hA (fun H locs hP hD hS => ?_)
  exact vx_ret (W.iret (v := r) hx hb hr0 (fun t ht hW => ⟨⟨r, (), rfl, rfl, by rw [ht]; exact hP, hD⟩, hS.F ht⟩) hS.2.2 dL_backOf_5)
set_option maxHeartbeats 4000000 in
set_option maxRecDepth 100000 in
theorem ca_L_backOf (l : Launch) (hst9 : l.stackTraces = false) (g : zG) (a : Nat → Nat) (v : CV) (p0 : Int32) (r : Int32) (hf : fa_L_backOf v p0 = some r) : zMa zNF zNM l yL_backOf (zwH yL_backOf cL_backOf 3 (some .int) [(0, 5, 6, 104)]) ({ frames := 7, cells := 1, slots := 6, locals := 121 } : Room) g [.ref (a 0), .int p0] (zX6 g a v) r (zX6 g a v) := by
  intro sz
  refine vx_ofWH (cc := cL_backOf) (maxL := 3) (ret := (some .int)) (hh := [(0, 5, 6, 104)]) (by decide) rfl ?_
  intro p e s m args below meth c s₁ B hml hv
  obtain ⟨rfl, ⟨⟨hsz, hP, hK, hD0⟩, hKx, hZs⟩, hNc⟩ := hv
  have hx := B.exec
  have hb := B.bytes
  have hr0 := B.returns
  have hts := atoms_spec (ws := (zwH yL_backOf cL_backOf 3 (some .int) [(0, 5, 6, 104)])) B.pre
  have htb : c.exceptionTable.toList = [⟨0, 5, 6, 104⟩] := vx_table (x := yL_backOf) B (hts _ List.mem_cons_self)
  have hw0 : ∀ w ∈ zW, w.before ([.ref (a 0), .int p0] : List Value).toArray s = true := fun w h => hts w (List.mem_cons_of_mem _ h)
  have hown : s.vm.findClass RL = some m.cls := findClass_of_methodNamed B.named
  have hlocks := B.notSynchronized
  subst hsz
  have hD := hD0.self (sz := s.heap.size)
  generalize hAe : va_A (zX6 g a v) s.heap.size = A at hD hZs ⊢
  have hA : ∀ q : Nat, s.heap.size ≤ q → A q := fun q h => by rw [← hAe]; exact Or.inr h
  have hS : va_S A s.heap s.heap [] := va_S.rf
  unfold fa_L_backOf at hf
  have hl := lv_entry ([.ref (a 0), .int p0]) (n := 3) (Nat.le_of_ble_eq_true rfl)
  rw [lg_entry_eq]
  generalize (lg_sl ([.ref (a 0), .int p0]) ++ List.replicate (3 - (lg_sl ([.ref (a 0), .int p0])).length) Slot.unset).toArray = ls at hl ⊢
  have hl : lv_has ls 3 [(0, .ref (a 0)), (1, .int p0)] := hl
  obtain ⟨r9, hr9, hf⟩ := ob hf
  refine lv_aload_n hx hb dL_backOf_0 rfl (lv_at hl 0 rfl) ?_
  refine lv_iload_n hx hb dL_backOf_1 rfl (lv_at hl 1 rfl) ?_
  refine zk_xA (vx_runV (As := [.int p0]) (rest := []) ⟨hx, hb, hml, hown, hts⟩ (c_X6_backTime l hst9 g a v p0 r9 hr9 _) (zcVg hw0 zm3_176 zm3_179 zm1_1 zm3_177 zm3_178 hd_X6_backTime rfl rfl ⟨Nat.le_of_ble_eq_true rfl, Nat.le_of_ble_eq_true rfl⟩) ⟨zblindX, zrecvA hK hP (ci := 6) rfl rfl, zpreXA hK hKx hZs hP hD hS hA⟩ rfl rfl hl.1 rfl (lv_room (Nat.le_of_ble_eq_true rfl)) dL_backOf_2 ⟨Nat.le_of_ble_eq_true rfl, Nat.le_of_ble_eq_true rfl⟩) hP hD hS hA (fun q => rfl) (fun k ce q9 H locs e9 hP hD hS h1 h2 h3 => ?_) (fun q H locs e9 hP hD hS => ?_)
  · subst e9
    by_cases hk9 : k = 3
    · subst hk9
      refine vx_catch hown [] ⟨0, 5, 6, 104⟩ [] htb (fun z hz => absurd hz List.not_mem_nil) rfl (by decide) (hw0 _ zm2_135) (zcastX rfl (by decide +kernel) hKx) h1 h2 h3 ?_
      refine lv_astore_n (lv' := [(2, .ref q9), (0, .ref (a 0)), (1, .int p0)]) hx hb dL_backOf_6 rfl hl (by decide) rfl (fun ls hl => ?_)
      refine lv_ldc (v := -2000001) hx hb hown (hw0 _ zm2_197) dL_backOf_7 ?_
      have hR : ((-2000001) : Int32) = r := Option.some.inj (oi hf rfl)
      subst hR
      refine W.widen (k := 1) (n := 6) (Nat.le_refl _) (Nat.le_refl _) ?_
      exact vx_ret (W.iret (v := -2000001) hx hb hr0 (fun t ht hW => ⟨⟨-2000001, (), rfl, rfl, by rw [ht]; exact hP, hD⟩, hS.F ht⟩) hS.2.2 dL_backOf_9)
    · have hf := oe hf hk9
      exact absurd hf (by simp)
  · subst e9
    have hR : q = r := Option.some.inj hf
    subst hR
    refine W.widen (k := 1) (n := 6) (Nat.le_refl _) (Nat.le_refl _) ?_
    exact vx_ret (W.iret (v := q) hx hb hr0 (fun t ht hW => ⟨⟨q, (), rfl, rfl, by rw [ht]; exact hP, hD⟩, hS.F ht⟩) hS.2.2 dL_backOf_5)
