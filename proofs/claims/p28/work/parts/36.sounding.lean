/-! sounding(): a number. -/
def zMd (nf : List zNFt) (nm : List zNMt) (l : Launch) (y : MethodName) (ws : List Cond) (rm : Room) (g : zG) (As : List Value) (w : va_W) (r : UInt64) (w1 : va_W) : Prop := ∀ sz : Nat, Met l y ws rm (va_Pc As (zPre nf nm g w sz)) (va_Qd (fun (x : UInt64) (_ : Unit) => x = r) (fun _ => zEnd g (va_A w sz) w1) (va_A w sz)) 0 0 (va_A w sz)
theorem hd_X6_sounding : yX6_sounding.cls ≠ "java/lang/invoke/MethodHandle" ∧ yX6_sounding.cls ≠ "java/lang/invoke/VarHandle" ∧ (parseMethodDescriptor yX6_sounding.desc).map (fun d => d.parameters.length) = some 0 := by decide +kernel
def f_X6_sounding (v : CV) : Option UInt64 :=
  if v.1.2.2.2.1 = 0 then some FP.dconst1 else if zn64 (FP.ddiv (FP.i2d (v.1.2.2.2.1 - v.1.2.2.2.2.2.1)) (FP.i2d v.1.2.2.2.1)) = true then some (FP.ddiv (FP.i2d (v.1.2.2.2.1 - v.1.2.2.2.2.2.1)) (FP.i2d v.1.2.2.2.1)) else none
set_option maxHeartbeats 4000000 in
set_option maxRecDepth 100000 in
theorem c_X6_sounding (l : Launch) (g : zG) (a : Nat → Nat) (v : CV) (r : UInt64) (hf : f_X6_sounding v = some r) : zMd zNF zNM l yX6_sounding (zw yX6_sounding cX6_sounding 1 (some .double)) ({ frames := 0, cells := 0, slots := 0, locals := 0 } : Room) g [.ref (a 0)] (zX6 g a v) r (zX6 g a v) := by
  intro sz
  refine Met.ofW (cc := cX6_sounding) (maxL := 1) (ret := (some .double)) (by decide) rfl ?_
  intro p e s m args below meth c s₁ B hml hv
  obtain ⟨rfl, hsz, hP, hK, hD0⟩ := hv
  have hx := B.exec
  have hb := B.bytes
  have hr0 := B.returns
  have hts := atoms_spec (ws := (zw yX6_sounding cX6_sounding 1 (some .double))) B.pre
  have hw0 : ∀ w ∈ zW, w.before #[Value.ref (a 0)] s = true := fun w h => hts w (List.mem_cons_of_mem _ h)
  have hown : s.vm.findClass RX6 = some m.cls := findClass_of_methodNamed B.named
  have hlocks := B.notSynchronized
  subst hsz
  have hD := hD0.self (sz := s.heap.size)
  generalize hAe : va_A (zX6 g a v) s.heap.size = A at hD ⊢
  have hA : ∀ q : Nat, s.heap.size ≤ q → A q := fun q h => by rw [← hAe]; exact Or.inr h
  have hS : va_S A s.heap s.heap [] := va_S.rf
  unfold f_X6_sounding at hf
  have hl := lv_entry ([.ref (a 0)]) (n := 1) (Nat.le_of_ble_eq_true rfl)
  rw [lg_entry_eq]
  generalize (lg_sl ([.ref (a 0)]) ++ List.replicate (1 - (lg_sl ([.ref (a 0)])).length) Slot.unset).toArray = ls at hl ⊢
  have hl : lv_has ls 1 [(0, .ref (a 0))] := hl
  refine lv_aload_n hx hb dX6_sounding_0 rfl (lv_at hl 0 rfl) ?_
  refine va_get (D := g.1) (ci := 6) (v := .ref (a 1)) (C := RX6) (T := TX6) (N := 5) hx hb hw0 ziX6 hown hK.1 hP 0 rfl rfl 0 (by decide) (hw0 _ zm1_202) (fun _ h9 => h9) rfl dX6_sounding_1 ?_
  refine va_getN (D := g.1) (ci := 2) (v := .int v.1.2.2.2.1) (C := RX2) (T := TX2) (N := 11) hx hb hw0 ziX2 hown hK.1 hP 1 rfl rfl 3 (by decide) (va_Nw.use rfl (zf_21 hK)) (fun _ h9 => h9) rfl dX6_sounding_4 ?_
  refine lv_if_ne (tgt := 12) hx hb dX6_sounding_7 (by decide) (fun hc => ?_) (fun hc => ?_)
  · have hf := oe hf hc
    refine lv_aload_n hx hb dX6_sounding_12 rfl (lv_at hl 0 rfl) ?_
    refine va_get (D := g.1) (ci := 6) (v := .ref (a 1)) (C := RX6) (T := TX6) (N := 5) hx hb hw0 ziX6 hown hK.1 hP 0 rfl rfl 0 (by decide) (hw0 _ zm1_202) (fun _ h9 => h9) rfl dX6_sounding_13 ?_
    refine va_getN (D := g.1) (ci := 2) (v := .int v.1.2.2.2.1) (C := RX2) (T := TX2) (N := 11) hx hb hw0 ziX2 hown hK.1 hP 1 rfl rfl 3 (by decide) (va_Nw.use rfl (zf_21 hK)) (fun _ h9 => h9) rfl dX6_sounding_16 ?_
    refine lv_aload_n hx hb dX6_sounding_19 rfl (lv_at hl 0 rfl) ?_
    refine va_get (D := g.1) (ci := 6) (v := .ref (a 1)) (C := RX6) (T := TX6) (N := 5) hx hb hw0 ziX6 hown hK.1 hP 0 rfl rfl 0 (by decide) (hw0 _ zm1_202) (fun _ h9 => h9) rfl dX6_sounding_20 ?_
    refine va_getN (D := g.1) (ci := 2) (v := .int v.1.2.2.2.2.2.1) (C := RX2) (T := TX2) (N := 11) hx hb hw0 ziX2 hown hK.1 hP 1 rfl rfl 5 (by decide) (va_Nw.use rfl (zf_23 hK)) (fun _ h9 => h9) rfl dX6_sounding_23 ?_
    refine lv_isub hx hb dX6_sounding_26 ?_
    refine lv_i2d hx hb dX6_sounding_27 ?_
    refine lv_aload_n hx hb dX6_sounding_28 rfl (lv_at hl 0 rfl) ?_
    refine va_get (D := g.1) (ci := 6) (v := .ref (a 1)) (C := RX6) (T := TX6) (N := 5) hx hb hw0 ziX6 hown hK.1 hP 0 rfl rfl 0 (by decide) (hw0 _ zm1_202) (fun _ h9 => h9) rfl dX6_sounding_29 ?_
    refine va_getN (D := g.1) (ci := 2) (v := .int v.1.2.2.2.1) (C := RX2) (T := TX2) (N := 11) hx hb hw0 ziX2 hown hK.1 hP 1 rfl rfl 3 (by decide) (va_Nw.use rfl (zf_21 hK)) (fun _ h9 => h9) rfl dX6_sounding_32 ?_
    refine lv_i2d hx hb dX6_sounding_35 ?_
    obtain ⟨h9, hf⟩ := og hf
    refine lv_ddiv hx hb dX6_sounding_36 (zn64_n h9) ?_
    have hR := Option.some.inj hf
    rw [hR]
    exact W.dret (v := r) hx hb hr0 (fun t ht hW => ⟨⟨r, (), rfl, rfl, by rw [ht]; exact hP, hD⟩, hS.F ht⟩) hS.2.2 dX6_sounding_37
  · have hf := oi hf hc
    refine lv_dconst1 hx hb dX6_sounding_10 ?_
    have hR := Option.some.inj hf
    rw [hR]
    exact W.dret (v := r) hx hb hr0 (fun t ht hW => ⟨⟨r, (), rfl, rfl, by rw [ht]; exact hP, hD⟩, hS.F ht⟩) hS.2.2 dX6_sounding_11
