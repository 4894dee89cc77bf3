theorem zcI {R : Room} {s : State} {args : Array Value} {own host : String} {index maxL n mc ms : Nat} {y : MethodName} {bytes : ByteArray} {rm : Room} (hw : ∀ w ∈ zW, w.before args s = true) (hl : va_Nw (.methodLinkNest own index y host) s) (hc : Cond.code y bytes maxL none ∈ zW) (hi : Cond.initialized y.cls ∈ zW) (hin : Cond.instanceMethod y ∈ zW) (hn : y.name = "<init>") (hd : y.cls ≠ "java/lang/invoke/MethodHandle" ∧ y.cls ≠ "java/lang/invoke/VarHandle" ∧ (parseMethodDescriptor y.desc).map (fun d => d.parameters.length) = some n) (hrc : rm.cells = mc) (hrs : rm.slots = ms) (hR : rm.frames + 1 ≤ R.frames ∧ 8 + (maxL + 11) + rm.locals ≤ R.locals) : va_CN R s args own index y host bytes maxL none (zw y bytes maxL none) rm mc ms n ∧ y.name = "<init>" ∧ (Cond.instanceMethod y).before args s = true := by
  refine ⟨⟨⟨hrc, hrs, hR.1, hR.2, zw_pay hw hc, List.mem_cons_self⟩, hw _ hc, hw _ hi, ⟨hd.1, hd.2.1⟩, fun sig h => ?_, va_Nw.use rfl hl⟩, hn, hw _ hin⟩
  have h2 := hd.2.2
  rw [h] at h2
  exact (Option.some.inj h2).symm
theorem zarr_cg {D : va_G} {cl : List vw_C} {H : Heap} {x cA n : Nat} {f f2 : Nat → Option Nat} (h : ∀ j, j < n → f j = f2 j) : va_at D cl (x, .inl (cA, n, .inr (.inr (.inr (.inr f))))) H ↔ va_at D cl (x, .inl (cA, n, .inr (.inr (.inr (.inr f2))))) H := by
  have e : (Array.ofFn (n := n) fun j => va_rf (f j.val)) = (Array.ofFn (n := n) fun j => va_rf (f2 j.val)) := by
    congr 1
    funext j
    rw [h j.val j.isLt]
  show H[x]? = some (vp_cell cA (n, .inr (.inr (.inr (.inr f))))) ↔ H[x]? = some (vp_cell cA (n, .inr (.inr (.inr (.inr f2)))))
  unfold vp_cell arrV
  dsimp only
  rw [e]
theorem hd_X0_init : yX0_init.cls ≠ "java/lang/invoke/MethodHandle" ∧ yX0_init.cls ≠ "java/lang/invoke/VarHandle" ∧ (parseMethodDescriptor yX0_init.desc).map (fun d => d.parameters.length) = some 0 := by decide +kernel
def zV_X0 : EV := (0, fun _ => 0, fun _ => 0, fun _ => 0, fun _ => 0, fun _ => 0)
set_option maxHeartbeats 4000000 in
set_option maxRecDepth 100000 in
theorem c_X0_init (l : Launch) (g : zG) : zMc zNF zNM l yX0_init (zw yX0_init cX0_init 1 none) ({ frames := 1, cells := 5, slots := 60, locals := 20 } : Room) g 0 [.int 0, .null, .null, .null, .null, .null] (fun a => zX0 g a zV_X0) 5 60 := by
  intro h0 sz
  refine Met.ofW (cc := cX0_init) (maxL := 1) (ret := none) (by decide) rfl ?_
  intro p e s m args below meth c s₁ B hml hv
  obtain ⟨rfl, ⟨hsz, hP, hK, hD0⟩, hO⟩ := hv
  have hx := B.exec
  have hb := B.bytes
  have hr0 := B.returns
  have hts := atoms_spec (ws := (zw yX0_init cX0_init 1 none)) B.pre
  have hw0 : ∀ w ∈ zW, w.before #[Value.ref h0] s = true := fun w h => hts w (List.mem_cons_of_mem _ h)
  have hown : s.vm.findClass RX0 = some m.cls := findClass_of_methodNamed B.named
  have hlocks := B.notSynchronized
  have hin : meth.name = "<init>" := (name_of_methodNamed B.named B.method).1
  subst hsz
  have hD := hD0.self (sz := s.heap.size)
  generalize hAe : va_A [(h0, .inr (0, [.int 0, .null, .null, .null, .null, .null]))] s.heap.size = A at hD ⊢
  have hA : ∀ q : Nat, s.heap.size ≤ q → A q := fun q h => by rw [← hAe]; exact Or.inr h
  have hS : va_S A s.heap s.heap [] := va_S.rf
  have hl := lv_entry ([.ref h0]) (n := 1) (Nat.le_of_ble_eq_true rfl)
  rw [lg_entry_eq]
  generalize (lg_sl ([.ref h0]) ++ List.replicate (1 - (lg_sl ([.ref h0])).length) Slot.unset).toArray = ls at hl ⊢
  have hl : lv_has ls 1 [(0, .ref h0)] := hl
  refine lv_aload_n hx hb dX0_init_0 rfl (lv_at hl 0 rfl) ?_
  refine W.objInit hx hb hown (hw0 _ zm1_36) (hw0 _ zm1_23) (hw0 _ zm1_24) rfl (by rw [hml]; exact hl.1) rfl dX0_init_1 (Nat.le_of_ble_eq_true rfl) (Nat.le_of_ble_eq_true rfl) ?_
  refine W.eq (g2 := F0 m 4 ls []) rfl ?_
  refine lv_aload_n hx hb dX0_init_4 rfl (lv_at hl 0 rfl) ?_
  refine lv_iconst (v := 0) hx hb dX0_init_5 (by decide) ?_
  refine va_put (D := g.1) (ci := 0) (v := .int 0) (ty := .int) (C := RX0) (T := TX0) (N := 6) hx hb hw0 ziX0 tyX0 tyX0_ok nmX0 hown hK.1 hP hD hS 0 rfl rfl 0 (by decide) (hw0 _ zm1_37) (fun _ h9 => h9) rfl (tyX0_ok 0 (by decide)) rfl rfl (Nat.le_of_ble_eq_true rfl) dX0_init_6 (fun H locs hP hD hS => ?_)
  have hP : va_P g.1 vwCl ([(h0, .inr (0, [.int 0, .null, .null, .null, .null, .null]))]) H := hP
  have hD : va_D A ([(h0, .inr (0, [.int 0, .null, .null, .null, .null, .null]))]) := hD
  refine lv_aload_n hx hb dX0_init_9 rfl (lv_at hl 0 rfl) ?_
  refine lv_bipush (v := 12) hx hb dX0_init_10 (by decide) ?_
  refine znewI (N := 12) hx hb (hw0 _ zm1_62) hK hP hD hS hA (by decide) rfl (by decide) (Nat.le_of_ble_eq_true rfl) (Nat.le_of_ble_eq_true rfl) dX0_init_12 (fun q1 H hP hD hS => ?_)
  have hP : va_P g.1 vwCl ([(h0, .inr (0, [.int 0, .null, .null, .null, .null, .null]))] ++ [(q1, .inl (g.2.1, 12, .inl (fun _ => 0)))]) H := hP
  have hD : va_D A ([(h0, .inr (0, [.int 0, .null, .null, .null, .null, .null]))] ++ [(q1, .inl (g.2.1, 12, .inl (fun _ => 0)))]) := hD
  refine W.widen (k := 1) (n := 12) (Nat.le_refl _) (Nat.le_refl _) ?_
  refine va_putF (D := g.1) (ci := 0) (v := .ref q1) (ty := (.array .int)) (C := RX0) (T := TX0) (N := 6) hx hb hw0 ziX0 tyX0 tyX0_ok nmX0 hown hK.1 hP hD hS 0 rfl rfl 1 (by decide) (hw0 _ zm1_40) (fun _ h9 => h9) rfl hin rfl (tyX0_ok 1 (by decide)) rfl rfl (Nat.le_of_ble_eq_true rfl) dX0_init_14 (fun H locs hP hD hS => ?_)
  have hP : va_P g.1 vwCl ([(h0, .inr (0, [.int 0, .ref q1, .null, .null, .null, .null]))] ++ [(q1, .inl (g.2.1, 12, .inl (fun _ => 0)))]) H := hP
  have hD : va_D A ([(h0, .inr (0, [.int 0, .ref q1, .null, .null, .null, .null]))] ++ [(q1, .inl (g.2.1, 12, .inl (fun _ => 0)))]) := hD
  refine lv_aload_n hx hb dX0_init_17 rfl (lv_at hl 0 rfl) ?_
  refine lv_bipush (v := 12) hx hb dX0_init_18 (by decide) ?_
  refine znewI (N := 12) hx hb (hw0 _ zm1_62) hK hP hD hS hA (by decide) rfl (by decide) (Nat.le_of_ble_eq_true rfl) (Nat.le_of_ble_eq_true rfl) dX0_init_20 (fun q2 H hP hD hS => ?_)
  have hP : va_P g.1 vwCl (([(h0, .inr (0, [.int 0, .ref q1, .null, .null, .null, .null]))] ++ [(q1, .inl (g.2.1, 12, .inl (fun _ => 0)))]) ++ [(q2, .inl (g.2.1, 12, .inl (fun _ => 0)))]) H := hP
  have hD : va_D A (([(h0, .inr (0, [.int 0, .ref q1, .null, .null, .null, .null]))] ++ [(q1, .inl (g.2.1, 12, .inl (fun _ => 0)))]) ++ [(q2, .inl (g.2.1, 12, .inl (fun _ => 0)))]) := hD
  refine W.widen (k := 2) (n := 24) (Nat.le_refl _) (Nat.le_refl _) ?_
  refine va_putF (D := g.1) (ci := 0) (v := .ref q2) (ty := (.array .int)) (C := RX0) (T := TX0) (N := 6) hx hb hw0 ziX0 tyX0 tyX0_ok nmX0 hown hK.1 hP hD hS 0 rfl rfl 2 (by decide) (hw0 _ zm1_43) (fun _ h9 => h9) rfl hin rfl (tyX0_ok 2 (by decide)) rfl rfl (Nat.le_of_ble_eq_true rfl) dX0_init_22 (fun H locs hP hD hS => ?_)
  have hP : va_P g.1 vwCl (([(h0, .inr (0, [.int 0, .ref q1, .ref q2, .null, .null, .null]))] ++ [(q1, .inl (g.2.1, 12, .inl (fun _ => 0)))]) ++ [(q2, .inl (g.2.1, 12, .inl (fun _ => 0)))]) H := hP
  have hD : va_D A (([(h0, .inr (0, [.int 0, .ref q1, .ref q2, .null, .null, .null]))] ++ [(q1, .inl (g.2.1, 12, .inl (fun _ => 0)))]) ++ [(q2, .inl (g.2.1, 12, .inl (fun _ => 0)))]) := hD
  refine lv_aload_n hx hb dX0_init_25 rfl (lv_at hl 0 rfl) ?_
  refine lv_bipush (v := 12) hx hb dX0_init_26 (by decide) ?_
  refine znewI (N := 12) hx hb (hw0 _ zm1_62) hK hP hD hS hA (by decide) rfl (by decide) (Nat.le_of_ble_eq_true rfl) (Nat.le_of_ble_eq_true rfl) dX0_init_28 (fun q3 H hP hD hS => ?_)
  have hP : va_P g.1 vwCl ((([(h0, .inr (0, [.int 0, .ref q1, .ref q2, .null, .null, .null]))] ++ [(q1, .inl (g.2.1, 12, .inl (fun _ => 0)))]) ++ [(q2, .inl (g.2.1, 12, .inl (fun _ => 0)))]) ++ [(q3, .inl (g.2.1, 12, .inl (fun _ => 0)))]) H := hP
  have hD : va_D A ((([(h0, .inr (0, [.int 0, .ref q1, .ref q2, .null, .null, .null]))] ++ [(q1, .inl (g.2.1, 12, .inl (fun _ => 0)))]) ++ [(q2, .inl (g.2.1, 12, .inl (fun _ => 0)))]) ++ [(q3, .inl (g.2.1, 12, .inl (fun _ => 0)))]) := hD
  refine W.widen (k := 3) (n := 36) (Nat.le_refl _) (Nat.le_refl _) ?_
  refine va_putF (D := g.1) (ci := 0) (v := .ref q3) (ty := (.array .int)) (C := RX0) (T := TX0) (N := 6) hx hb hw0 ziX0 tyX0 tyX0_ok nmX0 hown hK.1 hP hD hS 0 rfl rfl 3 (by decide) (hw0 _ zm1_44) (fun _ h9 => h9) rfl hin rfl (tyX0_ok 3 (by decide)) rfl rfl (Nat.le_of_ble_eq_true rfl) dX0_init_30 (fun H locs hP hD hS => ?_)
  have hP : va_P g.1 vwCl ((([(h0, .inr (0, [.int 0, .ref q1, .ref q2, .ref q3, .null, .null]))] ++ [(q1, .inl (g.2.1, 12, .inl (fun _ => 0)))]) ++ [(q2, .inl (g.2.1, 12, .inl (fun _ => 0)))]) ++ [(q3, .inl (g.2.1, 12, .inl (fun _ => 0)))]) H := hP
  have hD : va_D A ((([(h0, .inr (0, [.int 0, .ref q1, .ref q2, .ref q3, .null, .null]))] ++ [(q1, .inl (g.2.1, 12, .inl (fun _ => 0)))]) ++ [(q2, .inl (g.2.1, 12, .inl (fun _ => 0)))]) ++ [(q3, .inl (g.2.1, 12, .inl (fun _ => 0)))]) := hD
  refine lv_aload_n hx hb dX0_init_33 rfl (lv_at hl 0 rfl) ?_
  refine lv_bipush (v := 12) hx hb dX0_init_34 (by decide) ?_
  refine znewI (N := 12) hx hb (hw0 _ zm1_62) hK hP hD hS hA (by decide) rfl (by decide) (Nat.le_of_ble_eq_true rfl) (Nat.le_of_ble_eq_true rfl) dX0_init_36 (fun q4 H hP hD hS => ?_)
  have hP : va_P g.1 vwCl (((([(h0, .inr (0, [.int 0, .ref q1, .ref q2, .ref q3, .null, .null]))] ++ [(q1, .inl (g.2.1, 12, .inl (fun _ => 0)))]) ++ [(q2, .inl (g.2.1, 12, .inl (fun _ => 0)))]) ++ [(q3, .inl (g.2.1, 12, .inl (fun _ => 0)))]) ++ [(q4, .inl (g.2.1, 12, .inl (fun _ => 0)))]) H := hP
  have hD : va_D A (((([(h0, .inr (0, [.int 0, .ref q1, .ref q2, .ref q3, .null, .null]))] ++ [(q1, .inl (g.2.1, 12, .inl (fun _ => 0)))]) ++ [(q2, .inl (g.2.1, 12, .inl (fun _ => 0)))]) ++ [(q3, .inl (g.2.1, 12, .inl (fun _ => 0)))]) ++ [(q4, .inl (g.2.1, 12, .inl (fun _ => 0)))]) := hD
  refine W.widen (k := 4) (n := 48) (Nat.le_refl _) (Nat.le_refl _) ?_
  refine va_putF (D := g.1) (ci := 0) (v := .ref q4) (ty := (.array .int)) (C := RX0) (T := TX0) (N := 6) hx hb hw0 ziX0 tyX0 tyX0_ok nmX0 hown hK.1 hP hD hS 0 rfl rfl 4 (by decide) (hw0 _ zm1_45) (fun _ h9 => h9) rfl hin rfl (tyX0_ok 4 (by decide)) rfl rfl (Nat.le_of_ble_eq_true rfl) dX0_init_38 (fun H locs hP hD hS => ?_)
  have hP : va_P g.1 vwCl (((([(h0, .inr (0, [.int 0, .ref q1, .ref q2, .ref q3, .ref q4, .null]))] ++ [(q1, .inl (g.2.1, 12, .inl (fun _ => 0)))]) ++ [(q2, .inl (g.2.1, 12, .inl (fun _ => 0)))]) ++ [(q3, .inl (g.2.1, 12, .inl (fun _ => 0)))]) ++ [(q4, .inl (g.2.1, 12, .inl (fun _ => 0)))]) H := hP
  have hD : va_D A (((([(h0, .inr (0, [.int 0, .ref q1, .ref q2, .ref q3, .ref q4, .null]))] ++ [(q1, .inl (g.2.1, 12, .inl (fun _ => 0)))]) ++ [(q2, .inl (g.2.1, 12, .inl (fun _ => 0)))]) ++ [(q3, .inl (g.2.1, 12, .inl (fun _ => 0)))]) ++ [(q4, .inl (g.2.1, 12, .inl (fun _ => 0)))]) := hD
  refine lv_aload_n hx hb dX0_init_41 rfl (lv_at hl 0 rfl) ?_
  refine lv_bipush (v := 12) hx hb dX0_init_42 (by decide) ?_
  refine znewI (N := 12) hx hb (hw0 _ zm1_62) hK hP hD hS hA (by decide) rfl (by decide) (Nat.le_of_ble_eq_true rfl) (Nat.le_of_ble_eq_true rfl) dX0_init_44 (fun q5 H hP hD hS => ?_)
  have hP : va_P g.1 vwCl ((((([(h0, .inr (0, [.int 0, .ref q1, .ref q2, .ref q3, .ref q4, .null]))] ++ [(q1, .inl (g.2.1, 12, .inl (fun _ => 0)))]) ++ [(q2, .inl (g.2.1, 12, .inl (fun _ => 0)))]) ++ [(q3, .inl (g.2.1, 12, .inl (fun _ => 0)))]) ++ [(q4, .inl (g.2.1, 12, .inl (fun _ => 0)))]) ++ [(q5, .inl (g.2.1, 12, .inl (fun _ => 0)))]) H := hP
  have hD : va_D A ((((([(h0, .inr (0, [.int 0, .ref q1, .ref q2, .ref q3, .ref q4, .null]))] ++ [(q1, .inl (g.2.1, 12, .inl (fun _ => 0)))]) ++ [(q2, .inl (g.2.1, 12, .inl (fun _ => 0)))]) ++ [(q3, .inl (g.2.1, 12, .inl (fun _ => 0)))]) ++ [(q4, .inl (g.2.1, 12, .inl (fun _ => 0)))]) ++ [(q5, .inl (g.2.1, 12, .inl (fun _ => 0)))]) := hD
  refine W.widen (k := 5) (n := 60) (Nat.le_refl _) (Nat.le_refl _) ?_
  refine va_putF (D := g.1) (ci := 0) (v := .ref q5) (ty := (.array .int)) (C := RX0) (T := TX0) (N := 6) hx hb hw0 ziX0 tyX0 tyX0_ok nmX0 hown hK.1 hP hD hS 0 rfl rfl 5 (by decide) (hw0 _ zm1_47) (fun _ h9 => h9) rfl hin rfl (tyX0_ok 5 (by decide)) rfl rfl (Nat.le_of_ble_eq_true rfl) dX0_init_46 (fun H locs hP hD hS => ?_)
  have hP : va_P g.1 vwCl ((((([(h0, .inr (0, [.int 0, .ref q1, .ref q2, .ref q3, .ref q4, .ref q5]))] ++ [(q1, .inl (g.2.1, 12, .inl (fun _ => 0)))]) ++ [(q2, .inl (g.2.1, 12, .inl (fun _ => 0)))]) ++ [(q3, .inl (g.2.1, 12, .inl (fun _ => 0)))]) ++ [(q4, .inl (g.2.1, 12, .inl (fun _ => 0)))]) ++ [(q5, .inl (g.2.1, 12, .inl (fun _ => 0)))]) H := hP
  have hD : va_D A ((((([(h0, .inr (0, [.int 0, .ref q1, .ref q2, .ref q3, .ref q4, .ref q5]))] ++ [(q1, .inl (g.2.1, 12, .inl (fun _ => 0)))]) ++ [(q2, .inl (g.2.1, 12, .inl (fun _ => 0)))]) ++ [(q3, .inl (g.2.1, 12, .inl (fun _ => 0)))]) ++ [(q4, .inl (g.2.1, 12, .inl (fun _ => 0)))]) ++ [(q5, .inl (g.2.1, 12, .inl (fun _ => 0)))]) := hD
  have hP : va_P g.1 vwCl (zX0 g (zlst [h0, q1, q2, q3, q4, q5]) zV_X0) H := hP
  have hD : va_D A (zX0 g (zlst [h0, q1, q2, q3, q4, q5]) zV_X0) := hD
  exact W.vret hx hb hr0 (fun t ht hW => ⟨⟨(zlst [h0, q1, q2, q3, q4, q5]), rfl, rfl, by rw [ht]; exact hP, hD⟩, hS.F ht⟩) hS.2.2 dX0_init_49
theorem hd_X4_init : yX4_init.cls ≠ "java/lang/invoke/MethodHandle" ∧ yX4_init.cls ≠ "java/lang/invoke/VarHandle" ∧ (parseMethodDescriptor yX4_init.desc).map (fun d => d.parameters.length) = some 0 := by decide +kernel
def zV_X4 : WV := (fun _ => 0, fun _ => 0, 0, 0, 0, 0)
set_option maxHeartbeats 4000000 in
set_option maxRecDepth 100000 in
theorem c_X4_init (l : Launch) (g : zG) : zMc zNF zNM l yX4_init (zw yX4_init cX4_init 1 none) ({ frames := 1, cells := 2, slots := 20, locals := 20 } : Room) g 4 [.null, .null, .int 0, .int 0, .int 0, .int 0] (fun a => zX4 g a zV_X4) 2 20 := by
  intro h0 sz
  refine Met.ofW (cc := cX4_init) (maxL := 1) (ret := none) (by decide) rfl ?_
  intro p e s m args below meth c s₁ B hml hv
  obtain ⟨rfl, ⟨hsz, hP, hK, hD0⟩, hO⟩ := hv
  have hx := B.exec
  have hb := B.bytes
  have hr0 := B.returns
  have hts := atoms_spec (ws := (zw yX4_init cX4_init 1 none)) B.pre
  have hw0 : ∀ w ∈ zW, w.before #[Value.ref h0] s = true := fun w h => hts w (List.mem_cons_of_mem _ h)
  have hown : s.vm.findClass RX4 = some m.cls := findClass_of_methodNamed B.named
  have hlocks := B.notSynchronized
  have hin : meth.name = "<init>" := (name_of_methodNamed B.named B.method).1
  subst hsz
  have hD := hD0.self (sz := s.heap.size)
  generalize hAe : va_A [(h0, .inr (4, [.null, .null, .int 0, .int 0, .int 0, .int 0]))] s.heap.size = A at hD ⊢
  have hA : ∀ q : Nat, s.heap.size ≤ q → A q := fun q h => by rw [← hAe]; exact Or.inr h
  have hS : va_S A s.heap s.heap [] := va_S.rf
  have hl := lv_entry ([.ref h0]) (n := 1) (Nat.le_of_ble_eq_true rfl)
  rw [lg_entry_eq]
  generalize (lg_sl ([.ref h0]) ++ List.replicate (1 - (lg_sl ([.ref h0])).length) Slot.unset).toArray = ls at hl ⊢
  have hl : lv_has ls 1 [(0, .ref h0)] := hl
  refine lv_aload_n hx hb dX4_init_0 rfl (lv_at hl 0 rfl) ?_
  refine W.objInit hx hb hown (hw0 _ zm1_74) (hw0 _ zm1_23) (hw0 _ zm1_24) rfl (by rw [hml]; exact hl.1) rfl dX4_init_1 (Nat.le_of_ble_eq_true rfl) (Nat.le_of_ble_eq_true rfl) ?_
  refine W.eq (g2 := F0 m 4 ls []) rfl ?_
  refine lv_aload_n hx hb dX4_init_4 rfl (lv_at hl 0 rfl) ?_
  refine lv_bipush (v := 10) hx hb dX4_init_5 (by decide) ?_
  refine znewI (N := 10) hx hb (hw0 _ zm1_62) hK hP hD hS hA (by decide) rfl (by decide) (Nat.le_of_ble_eq_true rfl) (Nat.le_of_ble_eq_true rfl) dX4_init_7 (fun q1 H hP hD hS => ?_)
  have hP : va_P g.1 vwCl ([(h0, .inr (4, [.null, .null, .int 0, .int 0, .int 0, .int 0]))] ++ [(q1, .inl (g.2.1, 10, .inl (fun _ => 0)))]) H := hP
  have hD : va_D A ([(h0, .inr (4, [.null, .null, .int 0, .int 0, .int 0, .int 0]))] ++ [(q1, .inl (g.2.1, 10, .inl (fun _ => 0)))]) := hD
  refine W.widen (k := 1) (n := 10) (Nat.le_refl _) (Nat.le_refl _) ?_
  refine va_putF (D := g.1) (ci := 4) (v := .ref q1) (ty := (.array .int)) (C := RX4) (T := TX4) (N := 6) hx hb hw0 ziX4 tyX4 tyX4_ok nmX4 hown hK.1 hP hD hS 0 rfl rfl 0 (by decide) (hw0 _ zm1_75) (fun _ h9 => h9) rfl hin rfl (tyX4_ok 0 (by decide)) rfl rfl (Nat.le_of_ble_eq_true rfl) dX4_init_9 (fun H locs hP hD hS => ?_)
  have hP : va_P g.1 vwCl ([(h0, .inr (4, [.ref q1, .null, .int 0, .int 0, .int 0, .int 0]))] ++ [(q1, .inl (g.2.1, 10, .inl (fun _ => 0)))]) H := hP
  have hD : va_D A ([(h0, .inr (4, [.ref q1, .null, .int 0, .int 0, .int 0, .int 0]))] ++ [(q1, .inl (g.2.1, 10, .inl (fun _ => 0)))]) := hD
  refine lv_aload_n hx hb dX4_init_12 rfl (lv_at hl 0 rfl) ?_
  refine lv_bipush (v := 10) hx hb dX4_init_13 (by decide) ?_
  refine znewI (N := 10) hx hb (hw0 _ zm1_62) hK hP hD hS hA (by decide) rfl (by decide) (Nat.le_of_ble_eq_true rfl) (Nat.le_of_ble_eq_true rfl) dX4_init_15 (fun q2 H hP hD hS => ?_)
  have hP : va_P g.1 vwCl (([(h0, .inr (4, [.ref q1, .null, .int 0, .int 0, .int 0, .int 0]))] ++ [(q1, .inl (g.2.1, 10, .inl (fun _ => 0)))]) ++ [(q2, .inl (g.2.1, 10, .inl (fun _ => 0)))]) H := hP
  have hD : va_D A (([(h0, .inr (4, [.ref q1, .null, .int 0, .int 0, .int 0, .int 0]))] ++ [(q1, .inl (g.2.1, 10, .inl (fun _ => 0)))]) ++ [(q2, .inl (g.2.1, 10, .inl (fun _ => 0)))]) := hD
  refine W.widen (k := 2) (n := 20) (Nat.le_refl _) (Nat.le_refl _) ?_
  refine va_putF (D := g.1) (ci := 4) (v := .ref q2) (ty := (.array .int)) (C := RX4) (T := TX4) (N := 6) hx hb hw0 ziX4 tyX4 tyX4_ok nmX4 hown hK.1 hP hD hS 0 rfl rfl 1 (by decide) (hw0 _ zm1_76) (fun _ h9 => h9) rfl hin rfl (tyX4_ok 1 (by decide)) rfl rfl (Nat.le_of_ble_eq_true rfl) dX4_init_17 (fun H locs hP hD hS => ?_)
  have hP : va_P g.1 vwCl (([(h0, .inr (4, [.ref q1, .ref q2, .int 0, .int 0, .int 0, .int 0]))] ++ [(q1, .inl (g.2.1, 10, .inl (fun _ => 0)))]) ++ [(q2, .inl (g.2.1, 10, .inl (fun _ => 0)))]) H := hP
  have hD : va_D A (([(h0, .inr (4, [.ref q1, .ref q2, .int 0, .int 0, .int 0, .int 0]))] ++ [(q1, .inl (g.2.1, 10, .inl (fun _ => 0)))]) ++ [(q2, .inl (g.2.1, 10, .inl (fun _ => 0)))]) := hD
  refine lv_aload_n hx hb dX4_init_20 rfl (lv_at hl 0 rfl) ?_
  refine lv_iconst (v := 0) hx hb dX4_init_21 (by decide) ?_
  refine va_put (D := g.1) (ci := 4) (v := .int 0) (ty := .int) (C := RX4) (T := TX4) (N := 6) hx hb hw0 ziX4 tyX4 tyX4_ok nmX4 hown hK.1 hP hD hS 0 rfl rfl 2 (by decide) (hw0 _ zm1_77) (fun _ h9 => h9) rfl (tyX4_ok 2 (by decide)) rfl rfl (Nat.le_of_ble_eq_true rfl) dX4_init_22 (fun H locs hP hD hS => ?_)
  have hP : va_P g.1 vwCl (([(h0, .inr (4, [.ref q1, .ref q2, .int 0, .int 0, .int 0, .int 0]))] ++ [(q1, .inl (g.2.1, 10, .inl (fun _ => 0)))]) ++ [(q2, .inl (g.2.1, 10, .inl (fun _ => 0)))]) H := hP
  have hD : va_D A (([(h0, .inr (4, [.ref q1, .ref q2, .int 0, .int 0, .int 0, .int 0]))] ++ [(q1, .inl (g.2.1, 10, .inl (fun _ => 0)))]) ++ [(q2, .inl (g.2.1, 10, .inl (fun _ => 0)))]) := hD
  refine lv_aload_n hx hb dX4_init_25 rfl (lv_at hl 0 rfl) ?_
  refine lv_iconst (v := 0) hx hb dX4_init_26 (by decide) ?_
  refine va_put (D := g.1) (ci := 4) (v := .int 0) (ty := .int) (C := RX4) (T := TX4) (N := 6) hx hb hw0 ziX4 tyX4 tyX4_ok nmX4 hown hK.1 hP hD hS 0 rfl rfl 3 (by decide) (hw0 _ zm1_78) (fun _ h9 => h9) rfl (tyX4_ok 3 (by decide)) rfl rfl (Nat.le_of_ble_eq_true rfl) dX4_init_27 (fun H locs hP hD hS => ?_)
  have hP : va_P g.1 vwCl (([(h0, .inr (4, [.ref q1, .ref q2, .int 0, .int 0, .int 0, .int 0]))] ++ [(q1, .inl (g.2.1, 10, .inl (fun _ => 0)))]) ++ [(q2, .inl (g.2.1, 10, .inl (fun _ => 0)))]) H := hP
  have hD : va_D A (([(h0, .inr (4, [.ref q1, .ref q2, .int 0, .int 0, .int 0, .int 0]))] ++ [(q1, .inl (g.2.1, 10, .inl (fun _ => 0)))]) ++ [(q2, .inl (g.2.1, 10, .inl (fun _ => 0)))]) := hD
  refine lv_aload_n hx hb dX4_init_30 rfl (lv_at hl 0 rfl) ?_
  refine lv_iconst (v := 0) hx hb dX4_init_31 (by decide) ?_
  refine va_put (D := g.1) (ci := 4) (v := .int 0) (ty := .int) (C := RX4) (T := TX4) (N := 6) hx hb hw0 ziX4 tyX4 tyX4_ok nmX4 hown hK.1 hP hD hS 0 rfl rfl 4 (by decide) (hw0 _ zm1_80) (fun _ h9 => h9) rfl (tyX4_ok 4 (by decide)) rfl rfl (Nat.le_of_ble_eq_true rfl) dX4_init_32 (fun H locs hP hD hS => ?_)
  have hP : va_P g.1 vwCl (([(h0, .inr (4, [.ref q1, .ref q2, .int 0, .int 0, .int 0, .int 0]))] ++ [(q1, .inl (g.2.1, 10, .inl (fun _ => 0)))]) ++ [(q2, .inl (g.2.1, 10, .inl (fun _ => 0)))]) H := hP
  have hD : va_D A (([(h0, .inr (4, [.ref q1, .ref q2, .int 0, .int 0, .int 0, .int 0]))] ++ [(q1, .inl (g.2.1, 10, .inl (fun _ => 0)))]) ++ [(q2, .inl (g.2.1, 10, .inl (fun _ => 0)))]) := hD
  refine lv_aload_n hx hb dX4_init_35 rfl (lv_at hl 0 rfl) ?_
  refine lv_iconst (v := 0) hx hb dX4_init_36 (by decide) ?_
  refine va_put (D := g.1) (ci := 4) (v := .int 0) (ty := .int) (C := RX4) (T := TX4) (N := 6) hx hb hw0 ziX4 tyX4 tyX4_ok nmX4 hown hK.1 hP hD hS 0 rfl rfl 5 (by decide) (hw0 _ zm1_82) (fun _ h9 => h9) rfl (tyX4_ok 5 (by decide)) rfl rfl (Nat.le_of_ble_eq_true rfl) dX4_init_37 (fun H locs hP hD hS => ?_)
  have hP : va_P g.1 vwCl (([(h0, .inr (4, [.ref q1, .ref q2, .int 0, .int 0, .int 0, .int 0]))] ++ [(q1, .inl (g.2.1, 10, .inl (fun _ => 0)))]) ++ [(q2, .inl (g.2.1, 10, .inl (fun _ => 0)))]) H := hP
  have hD : va_D A (([(h0, .inr (4, [.ref q1, .ref q2, .int 0, .int 0, .int 0, .int 0]))] ++ [(q1, .inl (g.2.1, 10, .inl (fun _ => 0)))]) ++ [(q2, .inl (g.2.1, 10, .inl (fun _ => 0)))]) := hD
  have hP : va_P g.1 vwCl (zX4 g (zlst [h0, q1, q2]) zV_X4) H := hP
  have hD : va_D A (zX4 g (zlst [h0, q1, q2]) zV_X4) := hD
  exact W.vret hx hb hr0 (fun t ht hW => ⟨⟨(zlst [h0, q1, q2]), rfl, rfl, by rw [ht]; exact hP, hD⟩, hS.F ht⟩) hS.2.2 dX4_init_40
theorem hd_X1_init : yX1_init.cls ≠ "java/lang/invoke/MethodHandle" ∧ yX1_init.cls ≠ "java/lang/invoke/VarHandle" ∧ (parseMethodDescriptor yX1_init.desc).map (fun d => d.parameters.length) = some 0 := by decide +kernel
def zV_X1 : FV := (0, fun _ => 0, fun _ => 0, fun _ => 0, zV_X4)
set_option maxHeartbeats 4000000 in
set_option maxRecDepth 100000 in
theorem c_X1_init (l : Launch) (g : zG) : zMc zNF zNM l yX1_init (zw yX1_init cX1_init 1 none) ({ frames := 2, cells := 6, slots := 56, locals := 40 } : Room) g 1 [.int 0, .null, .null, .null, .null] (fun a => zX1 g a zV_X1) 6 56 := by
  intro h0 sz
  refine Met.ofW (cc := cX1_init) (maxL := 1) (ret := none) (by decide) rfl ?_
  intro p e s m args below meth c s₁ B hml hv
  obtain ⟨rfl, ⟨hsz, hP, hK, hD0⟩, hO⟩ := hv
  have hx := B.exec
  have hb := B.bytes
  have hr0 := B.returns
  have hts := atoms_spec (ws := (zw yX1_init cX1_init 1 none)) B.pre
  have hw0 : ∀ w ∈ zW, w.before #[Value.ref h0] s = true := fun w h => hts w (List.mem_cons_of_mem _ h)
  have hown : s.vm.findClass RX1 = some m.cls := findClass_of_methodNamed B.named
  have hlocks := B.notSynchronized
  have hin : meth.name = "<init>" := (name_of_methodNamed B.named B.method).1
  subst hsz
  have hD := hD0.self (sz := s.heap.size)
  generalize hAe : va_A [(h0, .inr (1, [.int 0, .null, .null, .null, .null]))] s.heap.size = A at hD ⊢
  have hA : ∀ q : Nat, s.heap.size ≤ q → A q := fun q h => by rw [← hAe]; exact Or.inr h
  have hS : va_S A s.heap s.heap [] := va_S.rf
  have hl := lv_entry ([.ref h0]) (n := 1) (Nat.le_of_ble_eq_true rfl)
  rw [lg_entry_eq]
  generalize (lg_sl ([.ref h0]) ++ List.replicate (1 - (lg_sl ([.ref h0])).length) Slot.unset).toArray = ls at hl ⊢
  have hl : lv_has ls 1 [(0, .ref h0)] := hl
  refine lv_aload_n hx hb dX1_init_0 rfl (lv_at hl 0 rfl) ?_
  refine W.objInit hx hb hown (hw0 _ zm1_68) (hw0 _ zm1_23) (hw0 _ zm1_24) rfl (by rw [hml]; exact hl.1) rfl dX1_init_1 (Nat.le_of_ble_eq_true rfl) (Nat.le_of_ble_eq_true rfl) ?_
  refine W.eq (g2 := F0 m 4 ls []) rfl ?_
  refine lv_aload_n hx hb dX1_init_4 rfl (lv_at hl 0 rfl) ?_
  refine lv_iconst (v := 0) hx hb dX1_init_5 (by decide) ?_
  refine va_put (D := g.1) (ci := 1) (v := .int 0) (ty := .int) (C := RX1) (T := TX1) (N := 5) hx hb hw0 ziX1 tyX1 tyX1_ok nmX1 hown hK.1 hP hD hS 0 rfl rfl 0 (by decide) (hw0 _ zm1_97) (fun _ h9 => h9) rfl (tyX1_ok 0 (by decide)) rfl rfl (Nat.le_of_ble_eq_true rfl) dX1_init_6 (fun H locs hP hD hS => ?_)
  have hP : va_P g.1 vwCl ([(h0, .inr (1, [.int 0, .null, .null, .null, .null]))]) H := hP
  have hD : va_D A ([(h0, .inr (1, [.int 0, .null, .null, .null, .null]))]) := hD
  refine lv_aload_n hx hb dX1_init_9 rfl (lv_at hl 0 rfl) ?_
  refine lv_bipush (v := 10) hx hb dX1_init_10 (by decide) ?_
  refine znewI (N := 10) hx hb (hw0 _ zm1_62) hK hP hD hS hA (by decide) rfl (by decide) (Nat.le_of_ble_eq_true rfl) (Nat.le_of_ble_eq_true rfl) dX1_init_12 (fun q1 H hP hD hS => ?_)
  have hP : va_P g.1 vwCl ([(h0, .inr (1, [.int 0, .null, .null, .null, .null]))] ++ [(q1, .inl (g.2.1, 10, .inl (fun _ => 0)))]) H := hP
  have hD : va_D A ([(h0, .inr (1, [.int 0, .null, .null, .null, .null]))] ++ [(q1, .inl (g.2.1, 10, .inl (fun _ => 0)))]) := hD
  refine W.widen (k := 1) (n := 10) (Nat.le_refl _) (Nat.le_refl _) ?_
  refine va_putF (D := g.1) (ci := 1) (v := .ref q1) (ty := (.array .int)) (C := RX1) (T := TX1) (N := 5) hx hb hw0 ziX1 tyX1 tyX1_ok nmX1 hown hK.1 hP hD hS 0 rfl rfl 1 (by decide) (hw0 _ zm1_101) (fun _ h9 => h9) rfl hin rfl (tyX1_ok 1 (by decide)) rfl rfl (Nat.le_of_ble_eq_true rfl) dX1_init_14 (fun H locs hP hD hS => ?_)
  have hP : va_P g.1 vwCl ([(h0, .inr (1, [.int 0, .ref q1, .null, .null, .null]))] ++ [(q1, .inl (g.2.1, 10, .inl (fun _ => 0)))]) H := hP
  have hD : va_D A ([(h0, .inr (1, [.int 0, .ref q1, .null, .null, .null]))] ++ [(q1, .inl (g.2.1, 10, .inl (fun _ => 0)))]) := hD
  refine lv_aload_n hx hb dX1_init_17 rfl (lv_at hl 0 rfl) ?_
  refine lv_bipush (v := 10) hx hb dX1_init_18 (by decide) ?_
  refine znewI (N := 10) hx hb (hw0 _ zm1_62) hK hP hD hS hA (by decide) rfl (by decide) (Nat.le_of_ble_eq_true rfl) (Nat.le_of_ble_eq_true rfl) dX1_init_20 (fun q2 H hP hD hS => ?_)
  have hP : va_P g.1 vwCl (([(h0, .inr (1, [.int 0, .ref q1, .null, .null, .null]))] ++ [(q1, .inl (g.2.1, 10, .inl (fun _ => 0)))]) ++ [(q2, .inl (g.2.1, 10, .inl (fun _ => 0)))]) H := hP
  have hD : va_D A (([(h0, .inr (1, [.int 0, .ref q1, .null, .null, .null]))] ++ [(q1, .inl (g.2.1, 10, .inl (fun _ => 0)))]) ++ [(q2, .inl (g.2.1, 10, .inl (fun _ => 0)))]) := hD
  refine W.widen (k := 2) (n := 20) (Nat.le_refl _) (Nat.le_refl _) ?_
  refine va_putF (D := g.1) (ci := 1) (v := .ref q2) (ty := (.array .int)) (C := RX1) (T := TX1) (N := 5) hx hb hw0 ziX1 tyX1 tyX1_ok nmX1 hown hK.1 hP hD hS 0 rfl rfl 2 (by decide) (hw0 _ zm1_104) (fun _ h9 => h9) rfl hin rfl (tyX1_ok 2 (by decide)) rfl rfl (Nat.le_of_ble_eq_true rfl) dX1_init_22 (fun H locs hP hD hS => ?_)
  have hP : va_P g.1 vwCl (([(h0, .inr (1, [.int 0, .ref q1, .ref q2, .null, .null]))] ++ [(q1, .inl (g.2.1, 10, .inl (fun _ => 0)))]) ++ [(q2, .inl (g.2.1, 10, .inl (fun _ => 0)))]) H := hP
  have hD : va_D A (([(h0, .inr (1, [.int 0, .ref q1, .ref q2, .null, .null]))] ++ [(q1, .inl (g.2.1, 10, .inl (fun _ => 0)))]) ++ [(q2, .inl (g.2.1, 10, .inl (fun _ => 0)))]) := hD
  refine lv_aload_n hx hb dX1_init_25 rfl (lv_at hl 0 rfl) ?_
  refine lv_bipush (v := 10) hx hb dX1_init_26 (by decide) ?_
  refine znewI (N := 10) hx hb (hw0 _ zm1_62) hK hP hD hS hA (by decide) rfl (by decide) (Nat.le_of_ble_eq_true rfl) (Nat.le_of_ble_eq_true rfl) dX1_init_28 (fun q3 H hP hD hS => ?_)
  have hP : va_P g.1 vwCl ((([(h0, .inr (1, [.int 0, .ref q1, .ref q2, .null, .null]))] ++ [(q1, .inl (g.2.1, 10, .inl (fun _ => 0)))]) ++ [(q2, .inl (g.2.1, 10, .inl (fun _ => 0)))]) ++ [(q3, .inl (g.2.1, 10, .inl (fun _ => 0)))]) H := hP
  have hD : va_D A ((([(h0, .inr (1, [.int 0, .ref q1, .ref q2, .null, .null]))] ++ [(q1, .inl (g.2.1, 10, .inl (fun _ => 0)))]) ++ [(q2, .inl (g.2.1, 10, .inl (fun _ => 0)))]) ++ [(q3, .inl (g.2.1, 10, .inl (fun _ => 0)))]) := hD
  refine W.widen (k := 3) (n := 30) (Nat.le_refl _) (Nat.le_refl _) ?_
  refine va_putF (D := g.1) (ci := 1) (v := .ref q3) (ty := (.array .int)) (C := RX1) (T := TX1) (N := 5) hx hb hw0 ziX1 tyX1 tyX1_ok nmX1 hown hK.1 hP hD hS 0 rfl rfl 3 (by decide) (hw0 _ zm1_107) (fun _ h9 => h9) rfl hin rfl (tyX1_ok 3 (by decide)) rfl rfl (Nat.le_of_ble_eq_true rfl) dX1_init_30 (fun H locs hP hD hS => ?_)
  have hP : va_P g.1 vwCl ((([(h0, .inr (1, [.int 0, .ref q1, .ref q2, .ref q3, .null]))] ++ [(q1, .inl (g.2.1, 10, .inl (fun _ => 0)))]) ++ [(q2, .inl (g.2.1, 10, .inl (fun _ => 0)))]) ++ [(q3, .inl (g.2.1, 10, .inl (fun _ => 0)))]) H := hP
  have hD : va_D A ((([(h0, .inr (1, [.int 0, .ref q1, .ref q2, .ref q3, .null]))] ++ [(q1, .inl (g.2.1, 10, .inl (fun _ => 0)))]) ++ [(q2, .inl (g.2.1, 10, .inl (fun _ => 0)))]) ++ [(q3, .inl (g.2.1, 10, .inl (fun _ => 0)))]) := hD
  refine lv_aload_n hx hb dX1_init_33 rfl (lv_at hl 0 rfl) ?_
  refine va_new (ci := 4) (fs := [.null, .null, .int 0, .int 0, .int 0, .int 0]) (C := RX4) (T := TX4) (N := 6) hx hb hw0 ziX4 tyX4 tyX4_ok hown (hw0 _ zm1_69) (hw0 _ zm1_70) (hw0 _ zm1_5) hK.1 hP hD hS hA rfl (fun j hj => by rcases (show j = 0 ∨ j = 1 ∨ j = 2 ∨ j = 3 ∨ j = 4 ∨ j = 5 by omega) with rfl | rfl | rfl | rfl | rfl | rfl <;> rfl) (Nat.le_of_ble_eq_true rfl) (Nat.le_of_ble_eq_true rfl) dX1_init_34 (fun q4 H hP hD hS => ?_)
  have hP : va_P g.1 vwCl (((([(h0, .inr (1, [.int 0, .ref q1, .ref q2, .ref q3, .null]))] ++ [(q1, .inl (g.2.1, 10, .inl (fun _ => 0)))]) ++ [(q2, .inl (g.2.1, 10, .inl (fun _ => 0)))]) ++ [(q3, .inl (g.2.1, 10, .inl (fun _ => 0)))]) ++ [(q4, .inr (4, [.null, .null, .int 0, .int 0, .int 0, .int 0]))]) H := hP
  have hD : va_D A (((([(h0, .inr (1, [.int 0, .ref q1, .ref q2, .ref q3, .null]))] ++ [(q1, .inl (g.2.1, 10, .inl (fun _ => 0)))]) ++ [(q2, .inl (g.2.1, 10, .inl (fun _ => 0)))]) ++ [(q3, .inl (g.2.1, 10, .inl (fun _ => 0)))]) ++ [(q4, .inr (4, [.null, .null, .int 0, .int 0, .int 0, .int 0]))]) := hD
  refine W.widen (k := 4) (n := 36) (Nat.le_refl _) (Nat.le_refl _) ?_
  refine lv_dup hx hb dX1_init_37 rfl ?_
  refine zk_c (va_runIN (As := []) (rest := [.ref q4, .ref h0]) ⟨hx, hb, hml, hown, hts⟩ (c_X4_init l g q4 _) (zcI hw0 (zn_3 hK) zm1_73 zm1_5 zm1_72 rfl hd_X4_init rfl rfl ⟨Nat.le_of_ble_eq_true rfl, Nat.le_of_ble_eq_true rfl⟩) ⟨zblindC, zpreC hK hO hP hD⟩ rfl rfl hl.1 rfl (lv_room (Nat.le_of_ble_eq_true rfl)) dX1_init_38 ⟨Nat.le_of_ble_eq_true rfl, Nat.le_of_ble_eq_true rfl⟩) hP hD hS hA (fun b4 H locs hb0 hP9 hD9 hS => ?_)
  subst hb0
  have hP : va_P g.1 vwCl (((([(h0, .inr (1, [.int 0, .ref q1, .ref q2, .ref q3, .null]))] ++ [(q1, .inl (g.2.1, 10, .inl (fun _ => 0)))]) ++ [(q2, .inl (g.2.1, 10, .inl (fun _ => 0)))]) ++ [(q3, .inl (g.2.1, 10, .inl (fun _ => 0)))]) ++ zX4 g b4 zV_X4) H := hP9
  have hD : va_D A (((([(h0, .inr (1, [.int 0, .ref q1, .ref q2, .ref q3, .null]))] ++ [(q1, .inl (g.2.1, 10, .inl (fun _ => 0)))]) ++ [(q2, .inl (g.2.1, 10, .inl (fun _ => 0)))]) ++ [(q3, .inl (g.2.1, 10, .inl (fun _ => 0)))]) ++ zX4 g b4 zV_X4) := hD9
  refine W.widen (k := 6) (n := 56) (Nat.le_refl _) (Nat.le_refl _) ?_
  refine va_putF (D := g.1) (ci := 1) (v := .ref (b4 0)) (ty := (.object "HourClock$SetWalk")) (C := RX1) (T := TX1) (N := 5) hx hb hw0 ziX1 tyX1 tyX1_ok nmX1 hown hK.1 hP hD hS 0 rfl rfl 4 (by decide) (hw0 _ zm1_109) (fun _ h9 => h9) rfl hin rfl (tyX1_ok 4 (by decide)) rfl rfl (Nat.le_of_ble_eq_true rfl) dX1_init_41 (fun H locs hP hD hS => ?_)
  have hP : va_P g.1 vwCl (((([(h0, .inr (1, [.int 0, .ref q1, .ref q2, .ref q3, .ref (b4 0)]))] ++ [(q1, .inl (g.2.1, 10, .inl (fun _ => 0)))]) ++ [(q2, .inl (g.2.1, 10, .inl (fun _ => 0)))]) ++ [(q3, .inl (g.2.1, 10, .inl (fun _ => 0)))]) ++ zX4 g b4 zV_X4) H := hP
  have hD : va_D A (((([(h0, .inr (1, [.int 0, .ref q1, .ref q2, .ref q3, .ref (b4 0)]))] ++ [(q1, .inl (g.2.1, 10, .inl (fun _ => 0)))]) ++ [(q2, .inl (g.2.1, 10, .inl (fun _ => 0)))]) ++ [(q3, .inl (g.2.1, 10, .inl (fun _ => 0)))]) ++ zX4 g b4 zV_X4) := hD
  simp only [List.append_assoc] at hP hD
  have hP : va_P g.1 vwCl (zX1 g (zcat 1 (zlst [h0]) (zcat 1 (zlst [q1]) (zcat 1 (zlst [q2]) (zcat 1 (zlst [q3]) b4)))) zV_X1) H := hP
  have hD : va_D A (zX1 g (zcat 1 (zlst [h0]) (zcat 1 (zlst [q1]) (zcat 1 (zlst [q2]) (zcat 1 (zlst [q3]) b4)))) zV_X1) := hD
  exact W.vret hx hb hr0 (fun t ht hW => ⟨⟨(zcat 1 (zlst [h0]) (zcat 1 (zlst [q1]) (zcat 1 (zlst [q2]) (zcat 1 (zlst [q3]) b4)))), rfl, rfl, by rw [ht]; exact hP, hD⟩, hS.F ht⟩) hS.2.2 dX1_init_44
theorem hd_X3_init : yX3_init.cls ≠ "java/lang/invoke/MethodHandle" ∧ yX3_init.cls ≠ "java/lang/invoke/VarHandle" ∧ (parseMethodDescriptor yX3_init.desc).map (fun d => d.parameters.length) = some 0 := by decide +kernel
def zV_X3 : LV := (0, fun _ => 0, fun _ => 0, fun _ => 0)
set_option maxHeartbeats 4000000 in
set_option maxRecDepth 100000 in
theorem c_X3_init (l : Launch) (g : zG) : zMc zNF zNM l yX3_init (zw yX3_init cX3_init 1 none) ({ frames := 1, cells := 3, slots := 105, locals := 20 } : Room) g 3 [.int 0, .null, .null, .null] (fun a => zX3 g a zV_X3) 3 105 := by
  intro h0 sz
  refine Met.ofW (cc := cX3_init) (maxL := 1) (ret := none) (by decide) rfl ?_
  intro p e s m args below meth c s₁ B hml hv
  obtain ⟨rfl, ⟨hsz, hP, hK, hD0⟩, hO⟩ := hv
  have hx := B.exec
  have hb := B.bytes
  have hr0 := B.returns
  have hts := atoms_spec (ws := (zw yX3_init cX3_init 1 none)) B.pre
  have hw0 : ∀ w ∈ zW, w.before #[Value.ref h0] s = true := fun w h => hts w (List.mem_cons_of_mem _ h)
  have hown : s.vm.findClass RX3 = some m.cls := findClass_of_methodNamed B.named
  have hlocks := B.notSynchronized
  have hin : meth.name = "<init>" := (name_of_methodNamed B.named B.method).1
  subst hsz
  have hD := hD0.self (sz := s.heap.size)
  generalize hAe : va_A [(h0, .inr (3, [.int 0, .null, .null, .null]))] s.heap.size = A at hD ⊢
  have hA : ∀ q : Nat, s.heap.size ≤ q → A q := fun q h => by rw [← hAe]; exact Or.inr h
  have hS : va_S A s.heap s.heap [] := va_S.rf
  have hl := lv_entry ([.ref h0]) (n := 1) (Nat.le_of_ble_eq_true rfl)
  rw [lg_entry_eq]
  generalize (lg_sl ([.ref h0]) ++ List.replicate (1 - (lg_sl ([.ref h0])).length) Slot.unset).toArray = ls at hl ⊢
  have hl : lv_has ls 1 [(0, .ref h0)] := hl
  refine lv_aload_n hx hb dX3_init_0 rfl (lv_at hl 0 rfl) ?_
  refine W.objInit hx hb hown (hw0 _ zm1_126) (hw0 _ zm1_23) (hw0 _ zm1_24) rfl (by rw [hml]; exact hl.1) rfl dX3_init_1 (Nat.le_of_ble_eq_true rfl) (Nat.le_of_ble_eq_true rfl) ?_
  refine W.eq (g2 := F0 m 4 ls []) rfl ?_
  refine lv_aload_n hx hb dX3_init_4 rfl (lv_at hl 0 rfl) ?_
  refine lv_iconst (v := 0) hx hb dX3_init_5 (by decide) ?_
  refine va_put (D := g.1) (ci := 3) (v := .int 0) (ty := .int) (C := RX3) (T := TX3) (N := 4) hx hb hw0 ziX3 tyX3 tyX3_ok nmX3 hown hK.1 hP hD hS 0 rfl rfl 0 (by decide) (hw0 _ zm1_127) (fun _ h9 => h9) rfl (tyX3_ok 0 (by decide)) rfl rfl (Nat.le_of_ble_eq_true rfl) dX3_init_6 (fun H locs hP hD hS => ?_)
  have hP : va_P g.1 vwCl ([(h0, .inr (3, [.int 0, .null, .null, .null]))]) H := hP
  have hD : va_D A ([(h0, .inr (3, [.int 0, .null, .null, .null]))]) := hD
  refine lv_aload_n hx hb dX3_init_9 rfl (lv_at hl 0 rfl) ?_
  refine lv_bipush (v := 35) hx hb dX3_init_10 (by decide) ?_
  refine znewI (N := 35) hx hb (hw0 _ zm1_62) hK hP hD hS hA (by decide) rfl (by decide) (Nat.le_of_ble_eq_true rfl) (Nat.le_of_ble_eq_true rfl) dX3_init_12 (fun q1 H hP hD hS => ?_)
  have hP : va_P g.1 vwCl ([(h0, .inr (3, [.int 0, .null, .null, .null]))] ++ [(q1, .inl (g.2.1, 35, .inl (fun _ => 0)))]) H := hP
  have hD : va_D A ([(h0, .inr (3, [.int 0, .null, .null, .null]))] ++ [(q1, .inl (g.2.1, 35, .inl (fun _ => 0)))]) := hD
  refine W.widen (k := 1) (n := 35) (Nat.le_refl _) (Nat.le_refl _) ?_
  refine va_putF (D := g.1) (ci := 3) (v := .ref q1) (ty := (.array .int)) (C := RX3) (T := TX3) (N := 4) hx hb hw0 ziX3 tyX3 tyX3_ok nmX3 hown hK.1 hP hD hS 0 rfl rfl 1 (by decide) (hw0 _ zm1_129) (fun _ h9 => h9) rfl hin rfl (tyX3_ok 1 (by decide)) rfl rfl (Nat.le_of_ble_eq_true rfl) dX3_init_14 (fun H locs hP hD hS => ?_)
  have hP : va_P g.1 vwCl ([(h0, .inr (3, [.int 0, .ref q1, .null, .null]))] ++ [(q1, .inl (g.2.1, 35, .inl (fun _ => 0)))]) H := hP
  have hD : va_D A ([(h0, .inr (3, [.int 0, .ref q1, .null, .null]))] ++ [(q1, .inl (g.2.1, 35, .inl (fun _ => 0)))]) := hD
  refine lv_aload_n hx hb dX3_init_17 rfl (lv_at hl 0 rfl) ?_
  refine lv_bipush (v := 35) hx hb dX3_init_18 (by decide) ?_
  refine znewI (N := 35) hx hb (hw0 _ zm1_62) hK hP hD hS hA (by decide) rfl (by decide) (Nat.le_of_ble_eq_true rfl) (Nat.le_of_ble_eq_true rfl) dX3_init_20 (fun q2 H hP hD hS => ?_)
  have hP : va_P g.1 vwCl (([(h0, .inr (3, [.int 0, .ref q1, .null, .null]))] ++ [(q1, .inl (g.2.1, 35, .inl (fun _ => 0)))]) ++ [(q2, .inl (g.2.1, 35, .inl (fun _ => 0)))]) H := hP
  have hD : va_D A (([(h0, .inr (3, [.int 0, .ref q1, .null, .null]))] ++ [(q1, .inl (g.2.1, 35, .inl (fun _ => 0)))]) ++ [(q2, .inl (g.2.1, 35, .inl (fun _ => 0)))]) := hD
  refine W.widen (k := 2) (n := 70) (Nat.le_refl _) (Nat.le_refl _) ?_
  refine va_putF (D := g.1) (ci := 3) (v := .ref q2) (ty := (.array .int)) (C := RX3) (T := TX3) (N := 4) hx hb hw0 ziX3 tyX3 tyX3_ok nmX3 hown hK.1 hP hD hS 0 rfl rfl 2 (by decide) (hw0 _ zm1_130) (fun _ h9 => h9) rfl hin rfl (tyX3_ok 2 (by decide)) rfl rfl (Nat.le_of_ble_eq_true rfl) dX3_init_22 (fun H locs hP hD hS => ?_)
  have hP : va_P g.1 vwCl (([(h0, .inr (3, [.int 0, .ref q1, .ref q2, .null]))] ++ [(q1, .inl (g.2.1, 35, .inl (fun _ => 0)))]) ++ [(q2, .inl (g.2.1, 35, .inl (fun _ => 0)))]) H := hP
  have hD : va_D A (([(h0, .inr (3, [.int 0, .ref q1, .ref q2, .null]))] ++ [(q1, .inl (g.2.1, 35, .inl (fun _ => 0)))]) ++ [(q2, .inl (g.2.1, 35, .inl (fun _ => 0)))]) := hD
  refine lv_aload_n hx hb dX3_init_25 rfl (lv_at hl 0 rfl) ?_
  refine lv_bipush (v := 35) hx hb dX3_init_26 (by decide) ?_
  refine znewI (N := 35) hx hb (hw0 _ zm1_62) hK hP hD hS hA (by decide) rfl (by decide) (Nat.le_of_ble_eq_true rfl) (Nat.le_of_ble_eq_true rfl) dX3_init_28 (fun q3 H hP hD hS => ?_)
  have hP : va_P g.1 vwCl ((([(h0, .inr (3, [.int 0, .ref q1, .ref q2, .null]))] ++ [(q1, .inl (g.2.1, 35, .inl (fun _ => 0)))]) ++ [(q2, .inl (g.2.1, 35, .inl (fun _ => 0)))]) ++ [(q3, .inl (g.2.1, 35, .inl (fun _ => 0)))]) H := hP
  have hD : va_D A ((([(h0, .inr (3, [.int 0, .ref q1, .ref q2, .null]))] ++ [(q1, .inl (g.2.1, 35, .inl (fun _ => 0)))]) ++ [(q2, .inl (g.2.1, 35, .inl (fun _ => 0)))]) ++ [(q3, .inl (g.2.1, 35, .inl (fun _ => 0)))]) := hD
  refine W.widen (k := 3) (n := 105) (Nat.le_refl _) (Nat.le_refl _) ?_
  refine va_putF (D := g.1) (ci := 3) (v := .ref q3) (ty := (.array .int)) (C := RX3) (T := TX3) (N := 4) hx hb hw0 ziX3 tyX3 tyX3_ok nmX3 hown hK.1 hP hD hS 0 rfl rfl 3 (by decide) (hw0 _ zm1_131) (fun _ h9 => h9) rfl hin rfl (tyX3_ok 3 (by decide)) rfl rfl (Nat.le_of_ble_eq_true rfl) dX3_init_30 (fun H locs hP hD hS => ?_)
  have hP : va_P g.1 vwCl ((([(h0, .inr (3, [.int 0, .ref q1, .ref q2, .ref q3]))] ++ [(q1, .inl (g.2.1, 35, .inl (fun _ => 0)))]) ++ [(q2, .inl (g.2.1, 35, .inl (fun _ => 0)))]) ++ [(q3, .inl (g.2.1, 35, .inl (fun _ => 0)))]) H := hP
  have hD : va_D A ((([(h0, .inr (3, [.int 0, .ref q1, .ref q2, .ref q3]))] ++ [(q1, .inl (g.2.1, 35, .inl (fun _ => 0)))]) ++ [(q2, .inl (g.2.1, 35, .inl (fun _ => 0)))]) ++ [(q3, .inl (g.2.1, 35, .inl (fun _ => 0)))]) := hD
  have hP : va_P g.1 vwCl (zX3 g (zlst [h0, q1, q2, q3]) zV_X3) H := hP
  have hD : va_D A (zX3 g (zlst [h0, q1, q2, q3]) zV_X3) := hD
  exact W.vret hx hb hr0 (fun t ht hW => ⟨⟨(zlst [h0, q1, q2, q3]), rfl, rfl, by rw [ht]; exact hP, hD⟩, hS.F ht⟩) hS.2.2 dX3_init_33
theorem hd_X2_init : yX2_init.cls ≠ "java/lang/invoke/MethodHandle" ∧ yX2_init.cls ≠ "java/lang/invoke/VarHandle" ∧ (parseMethodDescriptor yX2_init.desc).map (fun d => d.parameters.length) = some 0 := by decide +kernel
def zV_X2 : HV := (zV_X0, zV_X1, zV_X3, 0, false, 0, 0, 0, -1, -1, 0)
set_option maxHeartbeats 4000000 in
set_option maxRecDepth 100000 in
theorem c_X2_init (l : Launch) (g : zG) : zMc zNF zNM l yX2_init (zw yX2_init cX2_init 1 none) ({ frames := 3, cells := 17, slots := 236, locals := 60 } : Room) g 2 [.null, .null, .null, .int 0, .int 0, .int 0, .int 0, .int 0, .int 0, .int 0, .int 0] (fun a => zX2 g a zV_X2) 17 236 := by
  intro h0 sz
  refine Met.ofW (cc := cX2_init) (maxL := 1) (ret := none) (by decide) rfl ?_
  intro p e s m args below meth c s₁ B hml hv
  obtain ⟨rfl, ⟨hsz, hP, hK, hD0⟩, hO⟩ := hv
  have hx := B.exec
  have hb := B.bytes
  have hr0 := B.returns
  have hts := atoms_spec (ws := (zw yX2_init cX2_init 1 none)) B.pre
  have hw0 : ∀ w ∈ zW, w.before #[Value.ref h0] s = true := fun w h => hts w (List.mem_cons_of_mem _ h)
  have hown : s.vm.findClass RX2 = some m.cls := findClass_of_methodNamed B.named
  have hlocks := B.notSynchronized
  have hin : meth.name = "<init>" := (name_of_methodNamed B.named B.method).1
  subst hsz
  have hD := hD0.self (sz := s.heap.size)
  generalize hAe : va_A [(h0, .inr (2, [.null, .null, .null, .int 0, .int 0, .int 0, .int 0, .int 0, .int 0, .int 0, .int 0]))] s.heap.size = A at hD ⊢
  have hA : ∀ q : Nat, s.heap.size ≤ q → A q := fun q h => by rw [← hAe]; exact Or.inr h
  have hS : va_S A s.heap s.heap [] := va_S.rf
  have hl := lv_entry ([.ref h0]) (n := 1) (Nat.le_of_ble_eq_true rfl)
  rw [lg_entry_eq]
  generalize (lg_sl ([.ref h0]) ++ List.replicate (1 - (lg_sl ([.ref h0])).length) Slot.unset).toArray = ls at hl ⊢
  have hl : lv_has ls 1 [(0, .ref h0)] := hl
  refine lv_aload_n hx hb dX2_init_0 rfl (lv_at hl 0 rfl) ?_
  refine W.objInit hx hb hown (hw0 _ zm1_30) (hw0 _ zm1_23) (hw0 _ zm1_24) rfl (by rw [hml]; exact hl.1) rfl dX2_init_1 (Nat.le_of_ble_eq_true rfl) (Nat.le_of_ble_eq_true rfl) ?_
  refine W.eq (g2 := F0 m 4 ls []) rfl ?_
  refine lv_aload_n hx hb dX2_init_4 rfl (lv_at hl 0 rfl) ?_
  refine va_new (ci := 0) (fs := [.int 0, .null, .null, .null, .null, .null]) (C := RX0) (T := TX0) (N := 6) hx hb hw0 ziX0 tyX0 tyX0_ok hown (hw0 _ zm1_31) (hw0 _ zm1_32) (hw0 _ zm1_3) hK.1 hP hD hS hA rfl (fun j hj => by rcases (show j = 0 ∨ j = 1 ∨ j = 2 ∨ j = 3 ∨ j = 4 ∨ j = 5 by omega) with rfl | rfl | rfl | rfl | rfl | rfl <;> rfl) (Nat.le_of_ble_eq_true rfl) (Nat.le_of_ble_eq_true rfl) dX2_init_5 (fun q1 H hP hD hS => ?_)
  have hP : va_P g.1 vwCl ([(h0, .inr (2, [.null, .null, .null, .int 0, .int 0, .int 0, .int 0, .int 0, .int 0, .int 0, .int 0]))] ++ [(q1, .inr (0, [.int 0, .null, .null, .null, .null, .null]))]) H := hP
  have hD : va_D A ([(h0, .inr (2, [.null, .null, .null, .int 0, .int 0, .int 0, .int 0, .int 0, .int 0, .int 0, .int 0]))] ++ [(q1, .inr (0, [.int 0, .null, .null, .null, .null, .null]))]) := hD
  refine W.widen (k := 1) (n := 6) (Nat.le_refl _) (Nat.le_refl _) ?_
  refine lv_dup hx hb dX2_init_8 rfl ?_
  refine zk_c (va_runIN (As := []) (rest := [.ref q1, .ref h0]) ⟨hx, hb, hml, hown, hts⟩ (c_X0_init l g q1 _) (zcI hw0 (zn_1 hK) zm1_35 zm1_3 zm1_34 rfl hd_X0_init rfl rfl ⟨Nat.le_of_ble_eq_true rfl, Nat.le_of_ble_eq_true rfl⟩) ⟨zblindC, zpreC hK hO hP hD⟩ rfl rfl hl.1 rfl (lv_room (Nat.le_of_ble_eq_true rfl)) dX2_init_9 ⟨Nat.le_of_ble_eq_true rfl, Nat.le_of_ble_eq_true rfl⟩) hP hD hS hA (fun b1 H locs hb0 hP9 hD9 hS => ?_)
  subst hb0
  have hP : va_P g.1 vwCl ([(h0, .inr (2, [.null, .null, .null, .int 0, .int 0, .int 0, .int 0, .int 0, .int 0, .int 0, .int 0]))] ++ zX0 g b1 zV_X0) H := hP9
  have hD : va_D A ([(h0, .inr (2, [.null, .null, .null, .int 0, .int 0, .int 0, .int 0, .int 0, .int 0, .int 0, .int 0]))] ++ zX0 g b1 zV_X0) := hD9
  refine W.widen (k := 6) (n := 66) (Nat.le_refl _) (Nat.le_refl _) ?_
  refine va_putF (D := g.1) (ci := 2) (v := .ref (b1 0)) (ty := (.object "HourClock$Elements")) (C := RX2) (T := TX2) (N := 11) hx hb hw0 ziX2 tyX2 tyX2_ok nmX2 hown hK.1 hP hD hS 0 rfl rfl 0 (by decide) (hw0 _ zm1_141) (fun _ h9 => h9) rfl hin rfl (tyX2_ok 0 (by decide)) rfl rfl (Nat.le_of_ble_eq_true rfl) dX2_init_12 (fun H locs hP hD hS => ?_)
  have hP : va_P g.1 vwCl ([(h0, .inr (2, [.ref (b1 0), .null, .null, .int 0, .int 0, .int 0, .int 0, .int 0, .int 0, .int 0, .int 0]))] ++ zX0 g b1 zV_X0) H := hP
  have hD : va_D A ([(h0, .inr (2, [.ref (b1 0), .null, .null, .int 0, .int 0, .int 0, .int 0, .int 0, .int 0, .int 0, .int 0]))] ++ zX0 g b1 zV_X0) := hD
  refine lv_aload_n hx hb dX2_init_15 rfl (lv_at hl 0 rfl) ?_
  refine va_new (ci := 1) (fs := [.int 0, .null, .null, .null, .null]) (C := RX1) (T := TX1) (N := 5) hx hb hw0 ziX1 tyX1 tyX1_ok hown (hw0 _ zm1_63) (hw0 _ zm1_64) (hw0 _ zm1_4) hK.1 hP hD hS hA rfl (fun j hj => by rcases (show j = 0 ∨ j = 1 ∨ j = 2 ∨ j = 3 ∨ j = 4 by omega) with rfl | rfl | rfl | rfl | rfl <;> rfl) (Nat.le_of_ble_eq_true rfl) (Nat.le_of_ble_eq_true rfl) dX2_init_16 (fun q2 H hP hD hS => ?_)
  have hP : va_P g.1 vwCl (([(h0, .inr (2, [.ref (b1 0), .null, .null, .int 0, .int 0, .int 0, .int 0, .int 0, .int 0, .int 0, .int 0]))] ++ zX0 g b1 zV_X0) ++ [(q2, .inr (1, [.int 0, .null, .null, .null, .null]))]) H := hP
  have hD : va_D A (([(h0, .inr (2, [.ref (b1 0), .null, .null, .int 0, .int 0, .int 0, .int 0, .int 0, .int 0, .int 0, .int 0]))] ++ zX0 g b1 zV_X0) ++ [(q2, .inr (1, [.int 0, .null, .null, .null, .null]))]) := hD
  refine W.widen (k := 7) (n := 71) (Nat.le_refl _) (Nat.le_refl _) ?_
  refine lv_dup hx hb dX2_init_19 rfl ?_
  refine zk_c (va_runIN (As := []) (rest := [.ref q2, .ref h0]) ⟨hx, hb, hml, hown, hts⟩ (c_X1_init l g q2 _) (zcI hw0 (zn_2 hK) zm1_67 zm1_4 zm1_66 rfl hd_X1_init rfl rfl ⟨Nat.le_of_ble_eq_true rfl, Nat.le_of_ble_eq_true rfl⟩) ⟨zblindC, zpreC hK hO hP hD⟩ rfl rfl hl.1 rfl (lv_room (Nat.le_of_ble_eq_true rfl)) dX2_init_20 ⟨Nat.le_of_ble_eq_true rfl, Nat.le_of_ble_eq_true rfl⟩) hP hD hS hA (fun b2 H locs hb0 hP9 hD9 hS => ?_)
  subst hb0
  have hP : va_P g.1 vwCl (([(h0, .inr (2, [.ref (b1 0), .null, .null, .int 0, .int 0, .int 0, .int 0, .int 0, .int 0, .int 0, .int 0]))] ++ zX0 g b1 zV_X0) ++ zX1 g b2 zV_X1) H := hP9
  have hD : va_D A (([(h0, .inr (2, [.ref (b1 0), .null, .null, .int 0, .int 0, .int 0, .int 0, .int 0, .int 0, .int 0, .int 0]))] ++ zX0 g b1 zV_X0) ++ zX1 g b2 zV_X1) := hD9
  refine W.widen (k := 13) (n := 127) (Nat.le_refl _) (Nat.le_refl _) ?_
  refine va_putF (D := g.1) (ci := 2) (v := .ref (b2 0)) (ty := (.object "HourClock$Fillers")) (C := RX2) (T := TX2) (N := 11) hx hb hw0 ziX2 tyX2 tyX2_ok nmX2 hown hK.1 hP hD hS 0 rfl rfl 1 (by decide) (hw0 _ zm1_143) (fun _ h9 => h9) rfl hin rfl (tyX2_ok 1 (by decide)) rfl rfl (Nat.le_of_ble_eq_true rfl) dX2_init_23 (fun H locs hP hD hS => ?_)
  have hP : va_P g.1 vwCl (([(h0, .inr (2, [.ref (b1 0), .ref (b2 0), .null, .int 0, .int 0, .int 0, .int 0, .int 0, .int 0, .int 0, .int 0]))] ++ zX0 g b1 zV_X0) ++ zX1 g b2 zV_X1) H := hP
  have hD : va_D A (([(h0, .inr (2, [.ref (b1 0), .ref (b2 0), .null, .int 0, .int 0, .int 0, .int 0, .int 0, .int 0, .int 0, .int 0]))] ++ zX0 g b1 zV_X0) ++ zX1 g b2 zV_X1) := hD
  refine lv_aload_n hx hb dX2_init_26 rfl (lv_at hl 0 rfl) ?_
  refine va_new (ci := 3) (fs := [.int 0, .null, .null, .null]) (C := RX3) (T := TX3) (N := 4) hx hb hw0 ziX3 tyX3 tyX3_ok hown (hw0 _ zm1_121) (hw0 _ zm1_122) (hw0 _ zm1_6) hK.1 hP hD hS hA rfl (fun j hj => by rcases (show j = 0 ∨ j = 1 ∨ j = 2 ∨ j = 3 by omega) with rfl | rfl | rfl | rfl <;> rfl) (Nat.le_of_ble_eq_true rfl) (Nat.le_of_ble_eq_true rfl) dX2_init_27 (fun q3 H hP hD hS => ?_)
  have hP : va_P g.1 vwCl ((([(h0, .inr (2, [.ref (b1 0), .ref (b2 0), .null, .int 0, .int 0, .int 0, .int 0, .int 0, .int 0, .int 0, .int 0]))] ++ zX0 g b1 zV_X0) ++ zX1 g b2 zV_X1) ++ [(q3, .inr (3, [.int 0, .null, .null, .null]))]) H := hP
  have hD : va_D A ((([(h0, .inr (2, [.ref (b1 0), .ref (b2 0), .null, .int 0, .int 0, .int 0, .int 0, .int 0, .int 0, .int 0, .int 0]))] ++ zX0 g b1 zV_X0) ++ zX1 g b2 zV_X1) ++ [(q3, .inr (3, [.int 0, .null, .null, .null]))]) := hD
  refine W.widen (k := 14) (n := 131) (Nat.le_refl _) (Nat.le_refl _) ?_
  refine lv_dup hx hb dX2_init_30 rfl ?_
  refine zk_c (va_runIN (As := []) (rest := [.ref q3, .ref h0]) ⟨hx, hb, hml, hown, hts⟩ (c_X3_init l g q3 _) (zcI hw0 (zn_4 hK) zm1_125 zm1_6 zm1_124 rfl hd_X3_init rfl rfl ⟨Nat.le_of_ble_eq_true rfl, Nat.le_of_ble_eq_true rfl⟩) ⟨zblindC, zpreC hK hO hP hD⟩ rfl rfl hl.1 rfl (lv_room (Nat.le_of_ble_eq_true rfl)) dX2_init_31 ⟨Nat.le_of_ble_eq_true rfl, Nat.le_of_ble_eq_true rfl⟩) hP hD hS hA (fun b3 H locs hb0 hP9 hD9 hS => ?_)
  subst hb0
  have hP : va_P g.1 vwCl ((([(h0, .inr (2, [.ref (b1 0), .ref (b2 0), .null, .int 0, .int 0, .int 0, .int 0, .int 0, .int 0, .int 0, .int 0]))] ++ zX0 g b1 zV_X0) ++ zX1 g b2 zV_X1) ++ zX3 g b3 zV_X3) H := hP9
  have hD : va_D A ((([(h0, .inr (2, [.ref (b1 0), .ref (b2 0), .null, .int 0, .int 0, .int 0, .int 0, .int 0, .int 0, .int 0, .int 0]))] ++ zX0 g b1 zV_X0) ++ zX1 g b2 zV_X1) ++ zX3 g b3 zV_X3) := hD9
  refine W.widen (k := 17) (n := 236) (Nat.le_refl _) (Nat.le_refl _) ?_
  refine va_putF (D := g.1) (ci := 2) (v := .ref (b3 0)) (ty := (.object "HourClock$Log")) (C := RX2) (T := TX2) (N := 11) hx hb hw0 ziX2 tyX2 tyX2_ok nmX2 hown hK.1 hP hD hS 0 rfl rfl 2 (by decide) (hw0 _ zm1_145) (fun _ h9 => h9) rfl hin rfl (tyX2_ok 2 (by decide)) rfl rfl (Nat.le_of_ble_eq_true rfl) dX2_init_34 (fun H locs hP hD hS => ?_)
  have hP : va_P g.1 vwCl ((([(h0, .inr (2, [.ref (b1 0), .ref (b2 0), .ref (b3 0), .int 0, .int 0, .int 0, .int 0, .int 0, .int 0, .int 0, .int 0]))] ++ zX0 g b1 zV_X0) ++ zX1 g b2 zV_X1) ++ zX3 g b3 zV_X3) H := hP
  have hD : va_D A ((([(h0, .inr (2, [.ref (b1 0), .ref (b2 0), .ref (b3 0), .int 0, .int 0, .int 0, .int 0, .int 0, .int 0, .int 0, .int 0]))] ++ zX0 g b1 zV_X0) ++ zX1 g b2 zV_X1) ++ zX3 g b3 zV_X3) := hD
  refine lv_aload_n hx hb dX2_init_37 rfl (lv_at hl 0 rfl) ?_
  refine lv_iconst (v := 0) hx hb dX2_init_38 (by decide) ?_
  refine va_put (D := g.1) (ci := 2) (v := .int 0) (ty := .int) (C := RX2) (T := TX2) (N := 11) hx hb hw0 ziX2 tyX2 tyX2_ok nmX2 hown hK.1 hP hD hS 0 rfl rfl 3 (by decide) (hw0 _ zm1_147) (fun _ h9 => h9) rfl (tyX2_ok 3 (by decide)) rfl rfl (Nat.le_of_ble_eq_true rfl) dX2_init_39 (fun H locs hP hD hS => ?_)
  have hP : va_P g.1 vwCl ((([(h0, .inr (2, [.ref (b1 0), .ref (b2 0), .ref (b3 0), .int 0, .int 0, .int 0, .int 0, .int 0, .int 0, .int 0, .int 0]))] ++ zX0 g b1 zV_X0) ++ zX1 g b2 zV_X1) ++ zX3 g b3 zV_X3) H := hP
  have hD : va_D A ((([(h0, .inr (2, [.ref (b1 0), .ref (b2 0), .ref (b3 0), .int 0, .int 0, .int 0, .int 0, .int 0, .int 0, .int 0, .int 0]))] ++ zX0 g b1 zV_X0) ++ zX1 g b2 zV_X1) ++ zX3 g b3 zV_X3) := hD
  refine lv_aload_n hx hb dX2_init_42 rfl (lv_at hl 0 rfl) ?_
  refine lv_iconst (v := 0) hx hb dX2_init_43 (by decide) ?_
  refine va_put (D := g.1) (ci := 2) (v := .int (zb false)) (ty := .boolean) (C := RX2) (T := TX2) (N := 11) hx hb hw0 ziX2 tyX2 tyX2_ok nmX2 hown hK.1 hP hD hS 0 rfl rfl 4 (by decide) (hw0 _ zm1_149) (fun _ h9 => h9) rfl (tyX2_ok 4 (by decide)) (zb_nar false) (zb_fit false) (Nat.le_of_ble_eq_true rfl) dX2_init_44 (fun H locs hP hD hS => ?_)
  have hP : va_P g.1 vwCl ((([(h0, .inr (2, [.ref (b1 0), .ref (b2 0), .ref (b3 0), .int 0, .int (zb false), .int 0, .int 0, .int 0, .int 0, .int 0, .int 0]))] ++ zX0 g b1 zV_X0) ++ zX1 g b2 zV_X1) ++ zX3 g b3 zV_X3) H := hP
  have hD : va_D A ((([(h0, .inr (2, [.ref (b1 0), .ref (b2 0), .ref (b3 0), .int 0, .int (zb false), .int 0, .int 0, .int 0, .int 0, .int 0, .int 0]))] ++ zX0 g b1 zV_X0) ++ zX1 g b2 zV_X1) ++ zX3 g b3 zV_X3) := hD
  refine lv_aload_n hx hb dX2_init_47 rfl (lv_at hl 0 rfl) ?_
  refine lv_iconst (v := 0) hx hb dX2_init_48 (by decide) ?_
  refine va_put (D := g.1) (ci := 2) (v := .int 0) (ty := .int) (C := RX2) (T := TX2) (N := 11) hx hb hw0 ziX2 tyX2 tyX2_ok nmX2 hown hK.1 hP hD hS 0 rfl rfl 5 (by decide) (hw0 _ zm1_151) (fun _ h9 => h9) rfl (tyX2_ok 5 (by decide)) rfl rfl (Nat.le_of_ble_eq_true rfl) dX2_init_49 (fun H locs hP hD hS => ?_)
  have hP : va_P g.1 vwCl ((([(h0, .inr (2, [.ref (b1 0), .ref (b2 0), .ref (b3 0), .int 0, .int (zb false), .int 0, .int 0, .int 0, .int 0, .int 0, .int 0]))] ++ zX0 g b1 zV_X0) ++ zX1 g b2 zV_X1) ++ zX3 g b3 zV_X3) H := hP
  have hD : va_D A ((([(h0, .inr (2, [.ref (b1 0), .ref (b2 0), .ref (b3 0), .int 0, .int (zb false), .int 0, .int 0, .int 0, .int 0, .int 0, .int 0]))] ++ zX0 g b1 zV_X0) ++ zX1 g b2 zV_X1) ++ zX3 g b3 zV_X3) := hD
  refine lv_aload_n hx hb dX2_init_52 rfl (lv_at hl 0 rfl) ?_
  refine lv_iconst (v := 0) hx hb dX2_init_53 (by decide) ?_
  refine va_put (D := g.1) (ci := 2) (v := .int 0) (ty := .int) (C := RX2) (T := TX2) (N := 11) hx hb hw0 ziX2 tyX2 tyX2_ok nmX2 hown hK.1 hP hD hS 0 rfl rfl 6 (by decide) (hw0 _ zm1_153) (fun _ h9 => h9) rfl (tyX2_ok 6 (by decide)) rfl rfl (Nat.le_of_ble_eq_true rfl) dX2_init_54 (fun H locs hP hD hS => ?_)
  have hP : va_P g.1 vwCl ((([(h0, .inr (2, [.ref (b1 0), .ref (b2 0), .ref (b3 0), .int 0, .int (zb false), .int 0, .int 0, .int 0, .int 0, .int 0, .int 0]))] ++ zX0 g b1 zV_X0) ++ zX1 g b2 zV_X1) ++ zX3 g b3 zV_X3) H := hP
  have hD : va_D A ((([(h0, .inr (2, [.ref (b1 0), .ref (b2 0), .ref (b3 0), .int 0, .int (zb false), .int 0, .int 0, .int 0, .int 0, .int 0, .int 0]))] ++ zX0 g b1 zV_X0) ++ zX1 g b2 zV_X1) ++ zX3 g b3 zV_X3) := hD
  refine lv_aload_n hx hb dX2_init_57 rfl (lv_at hl 0 rfl) ?_
  refine lv_iconst (v := 0) hx hb dX2_init_58 (by decide) ?_
  refine va_put (D := g.1) (ci := 2) (v := .int 0) (ty := .int) (C := RX2) (T := TX2) (N := 11) hx hb hw0 ziX2 tyX2 tyX2_ok nmX2 hown hK.1 hP hD hS 0 rfl rfl 7 (by decide) (hw0 _ zm1_154) (fun _ h9 => h9) rfl (tyX2_ok 7 (by decide)) rfl rfl (Nat.le_of_ble_eq_true rfl) dX2_init_59 (fun H locs hP hD hS => ?_)
  have hP : va_P g.1 vwCl ((([(h0, .inr (2, [.ref (b1 0), .ref (b2 0), .ref (b3 0), .int 0, .int (zb false), .int 0, .int 0, .int 0, .int 0, .int 0, .int 0]))] ++ zX0 g b1 zV_X0) ++ zX1 g b2 zV_X1) ++ zX3 g b3 zV_X3) H := hP
  have hD : va_D A ((([(h0, .inr (2, [.ref (b1 0), .ref (b2 0), .ref (b3 0), .int 0, .int (zb false), .int 0, .int 0, .int 0, .int 0, .int 0, .int 0]))] ++ zX0 g b1 zV_X0) ++ zX1 g b2 zV_X1) ++ zX3 g b3 zV_X3) := hD
  refine lv_aload_n hx hb dX2_init_62 rfl (lv_at hl 0 rfl) ?_
  refine lv_iconst (v := (-1)) hx hb dX2_init_63 (by decide) ?_
  refine va_put (D := g.1) (ci := 2) (v := .int (-1)) (ty := .int) (C := RX2) (T := TX2) (N := 11) hx hb hw0 ziX2 tyX2 tyX2_ok nmX2 hown hK.1 hP hD hS 0 rfl rfl 8 (by decide) (hw0 _ zm1_156) (fun _ h9 => h9) rfl (tyX2_ok 8 (by decide)) rfl rfl (Nat.le_of_ble_eq_true rfl) dX2_init_64 (fun H locs hP hD hS => ?_)
  have hP : va_P g.1 vwCl ((([(h0, .inr (2, [.ref (b1 0), .ref (b2 0), .ref (b3 0), .int 0, .int (zb false), .int 0, .int 0, .int 0, .int (-1), .int 0, .int 0]))] ++ zX0 g b1 zV_X0) ++ zX1 g b2 zV_X1) ++ zX3 g b3 zV_X3) H := hP
  have hD : va_D A ((([(h0, .inr (2, [.ref (b1 0), .ref (b2 0), .ref (b3 0), .int 0, .int (zb false), .int 0, .int 0, .int 0, .int (-1), .int 0, .int 0]))] ++ zX0 g b1 zV_X0) ++ zX1 g b2 zV_X1) ++ zX3 g b3 zV_X3) := hD
  refine lv_aload_n hx hb dX2_init_67 rfl (lv_at hl 0 rfl) ?_
  refine lv_iconst (v := (-1)) hx hb dX2_init_68 (by decide) ?_
  refine va_put (D := g.1) (ci := 2) (v := .int (-1)) (ty := .int) (C := RX2) (T := TX2) (N := 11) hx hb hw0 ziX2 tyX2 tyX2_ok nmX2 hown hK.1 hP hD hS 0 rfl rfl 9 (by decide) (hw0 _ zm1_157) (fun _ h9 => h9) rfl (tyX2_ok 9 (by decide)) rfl rfl (Nat.le_of_ble_eq_true rfl) dX2_init_69 (fun H locs hP hD hS => ?_)
  have hP : va_P g.1 vwCl ((([(h0, .inr (2, [.ref (b1 0), .ref (b2 0), .ref (b3 0), .int 0, .int (zb false), .int 0, .int 0, .int 0, .int (-1), .int (-1), .int 0]))] ++ zX0 g b1 zV_X0) ++ zX1 g b2 zV_X1) ++ zX3 g b3 zV_X3) H := hP
  have hD : va_D A ((([(h0, .inr (2, [.ref (b1 0), .ref (b2 0), .ref (b3 0), .int 0, .int (zb false), .int 0, .int 0, .int 0, .int (-1), .int (-1), .int 0]))] ++ zX0 g b1 zV_X0) ++ zX1 g b2 zV_X1) ++ zX3 g b3 zV_X3) := hD
  refine lv_aload_n hx hb dX2_init_72 rfl (lv_at hl 0 rfl) ?_
  refine lv_iconst (v := 0) hx hb dX2_init_73 (by decide) ?_
  refine va_put (D := g.1) (ci := 2) (v := .int 0) (ty := .int) (C := RX2) (T := TX2) (N := 11) hx hb hw0 ziX2 tyX2 tyX2_ok nmX2 hown hK.1 hP hD hS 0 rfl rfl 10 (by decide) (hw0 _ zm1_158) (fun _ h9 => h9) rfl (tyX2_ok 10 (by decide)) rfl rfl (Nat.le_of_ble_eq_true rfl) dX2_init_74 (fun H locs hP hD hS => ?_)
  have hP : va_P g.1 vwCl ((([(h0, .inr (2, [.ref (b1 0), .ref (b2 0), .ref (b3 0), .int 0, .int (zb false), .int 0, .int 0, .int 0, .int (-1), .int (-1), .int 0]))] ++ zX0 g b1 zV_X0) ++ zX1 g b2 zV_X1) ++ zX3 g b3 zV_X3) H := hP
  have hD : va_D A ((([(h0, .inr (2, [.ref (b1 0), .ref (b2 0), .ref (b3 0), .int 0, .int (zb false), .int 0, .int 0, .int 0, .int (-1), .int (-1), .int 0]))] ++ zX0 g b1 zV_X0) ++ zX1 g b2 zV_X1) ++ zX3 g b3 zV_X3) := hD
  simp only [List.append_assoc] at hP hD
  have hP : va_P g.1 vwCl (zX2 g (zcat 1 (zlst [h0]) (zcat 6 (b1) (zcat 7 (b2) b3))) zV_X2) H := hP
  have hD : va_D A (zX2 g (zcat 1 (zlst [h0]) (zcat 6 (b1) (zcat 7 (b2) b3))) zV_X2) := hD
  exact W.vret hx hb hr0 (fun t ht hW => ⟨⟨(zcat 1 (zlst [h0]) (zcat 6 (b1) (zcat 7 (b2) b3))), rfl, rfl, by rw [ht]; exact hP, hD⟩, hS.F ht⟩) hS.2.2 dX2_init_77
theorem hd_X5_init : yX5_init.cls ≠ "java/lang/invoke/MethodHandle" ∧ yX5_init.cls ≠ "java/lang/invoke/VarHandle" ∧ (parseMethodDescriptor yX5_init.desc).map (fun d => d.parameters.length) = some 0 := by decide +kernel
def zV_X5 : TV := (fun _ => 0, 0, 0, -1)
set_option maxHeartbeats 4000000 in
set_option maxRecDepth 100000 in
theorem c_X5_init (l : Launch) (g : zG) : zMc zNF zNM l yX5_init (zw yX5_init cX5_init 1 none) ({ frames := 1, cells := 1, slots := 100, locals := 20 } : Room) g 5 [.null, .int 0, .int 0, .int 0] (fun a => zX5 g a zV_X5) 1 100 := by
  intro h0 sz
  refine Met.ofW (cc := cX5_init) (maxL := 1) (ret := none) (by decide) rfl ?_
  intro p e s m args below meth c s₁ B hml hv
  obtain ⟨rfl, ⟨hsz, hP, hK, hD0⟩, hO⟩ := hv
  have hx := B.exec
  have hb := B.bytes
  have hr0 := B.returns
  have hts := atoms_spec (ws := (zw yX5_init cX5_init 1 none)) B.pre
  have hw0 : ∀ w ∈ zW, w.before #[Value.ref h0] s = true := fun w h => hts w (List.mem_cons_of_mem _ h)
  have hown : s.vm.findClass RX5 = some m.cls := findClass_of_methodNamed B.named
  have hlocks := B.notSynchronized
  have hin : meth.name = "<init>" := (name_of_methodNamed B.named B.method).1
  subst hsz
  have hD := hD0.self (sz := s.heap.size)
  generalize hAe : va_A [(h0, .inr (5, [.null, .int 0, .int 0, .int 0]))] s.heap.size = A at hD ⊢
  have hA : ∀ q : Nat, s.heap.size ≤ q → A q := fun q h => by rw [← hAe]; exact Or.inr h
  have hS : va_S A s.heap s.heap [] := va_S.rf
  have hl := lv_entry ([.ref h0]) (n := 1) (Nat.le_of_ble_eq_true rfl)
  rw [lg_entry_eq]
  generalize (lg_sl ([.ref h0]) ++ List.replicate (1 - (lg_sl ([.ref h0])).length) Slot.unset).toArray = ls at hl ⊢
  have hl : lv_has ls 1 [(0, .ref h0)] := hl
  refine lv_aload_n hx hb dX5_init_0 rfl (lv_at hl 0 rfl) ?_
  refine W.objInit hx hb hown (hw0 _ zm1_188) (hw0 _ zm1_23) (hw0 _ zm1_24) rfl (by rw [hml]; exact hl.1) rfl dX5_init_1 (Nat.le_of_ble_eq_true rfl) (Nat.le_of_ble_eq_true rfl) ?_
  refine W.eq (g2 := F0 m 4 ls []) rfl ?_
  refine lv_aload_n hx hb dX5_init_4 rfl (lv_at hl 0 rfl) ?_
  refine lv_bipush (v := 100) hx hb dX5_init_5 (by decide) ?_
  refine znewI (N := 100) hx hb (hw0 _ zm1_62) hK hP hD hS hA (by decide) rfl (by decide) (Nat.le_of_ble_eq_true rfl) (Nat.le_of_ble_eq_true rfl) dX5_init_7 (fun q1 H hP hD hS => ?_)
  have hP : va_P g.1 vwCl ([(h0, .inr (5, [.null, .int 0, .int 0, .int 0]))] ++ [(q1, .inl (g.2.1, 100, .inl (fun _ => 0)))]) H := hP
  have hD : va_D A ([(h0, .inr (5, [.null, .int 0, .int 0, .int 0]))] ++ [(q1, .inl (g.2.1, 100, .inl (fun _ => 0)))]) := hD
  refine W.widen (k := 1) (n := 100) (Nat.le_refl _) (Nat.le_refl _) ?_
  refine va_putF (D := g.1) (ci := 5) (v := .ref q1) (ty := (.array .int)) (C := RX5) (T := TX5) (N := 4) hx hb hw0 ziX5 tyX5 tyX5_ok nmX5 hown hK.1 hP hD hS 0 rfl rfl 0 (by decide) (hw0 _ zm1_189) (fun _ h9 => h9) rfl hin rfl (tyX5_ok 0 (by decide)) rfl rfl (Nat.le_of_ble_eq_true rfl) dX5_init_9 (fun H locs hP hD hS => ?_)
  have hP : va_P g.1 vwCl ([(h0, .inr (5, [.ref q1, .int 0, .int 0, .int 0]))] ++ [(q1, .inl (g.2.1, 100, .inl (fun _ => 0)))]) H := hP
  have hD : va_D A ([(h0, .inr (5, [.ref q1, .int 0, .int 0, .int 0]))] ++ [(q1, .inl (g.2.1, 100, .inl (fun _ => 0)))]) := hD
  refine lv_aload_n hx hb dX5_init_12 rfl (lv_at hl 0 rfl) ?_
  refine lv_iconst (v := 0) hx hb dX5_init_13 (by decide) ?_
  refine va_put (D := g.1) (ci := 5) (v := .int 0) (ty := .int) (C := RX5) (T := TX5) (N := 4) hx hb hw0 ziX5 tyX5 tyX5_ok nmX5 hown hK.1 hP hD hS 0 rfl rfl 1 (by decide) (hw0 _ zm1_190) (fun _ h9 => h9) rfl (tyX5_ok 1 (by decide)) rfl rfl (Nat.le_of_ble_eq_true rfl) dX5_init_14 (fun H locs hP hD hS => ?_)
  have hP : va_P g.1 vwCl ([(h0, .inr (5, [.ref q1, .int 0, .int 0, .int 0]))] ++ [(q1, .inl (g.2.1, 100, .inl (fun _ => 0)))]) H := hP
  have hD : va_D A ([(h0, .inr (5, [.ref q1, .int 0, .int 0, .int 0]))] ++ [(q1, .inl (g.2.1, 100, .inl (fun _ => 0)))]) := hD
  refine lv_aload_n hx hb dX5_init_17 rfl (lv_at hl 0 rfl) ?_
  refine lv_iconst (v := 0) hx hb dX5_init_18 (by decide) ?_
  refine va_put (D := g.1) (ci := 5) (v := .int 0) (ty := .int) (C := RX5) (T := TX5) (N := 4) hx hb hw0 ziX5 tyX5 tyX5_ok nmX5 hown hK.1 hP hD hS 0 rfl rfl 2 (by decide) (hw0 _ zm1_191) (fun _ h9 => h9) rfl (tyX5_ok 2 (by decide)) rfl rfl (Nat.le_of_ble_eq_true rfl) dX5_init_19 (fun H locs hP hD hS => ?_)
  have hP : va_P g.1 vwCl ([(h0, .inr (5, [.ref q1, .int 0, .int 0, .int 0]))] ++ [(q1, .inl (g.2.1, 100, .inl (fun _ => 0)))]) H := hP
  have hD : va_D A ([(h0, .inr (5, [.ref q1, .int 0, .int 0, .int 0]))] ++ [(q1, .inl (g.2.1, 100, .inl (fun _ => 0)))]) := hD
  refine lv_aload_n hx hb dX5_init_22 rfl (lv_at hl 0 rfl) ?_
  refine lv_iconst (v := (-1)) hx hb dX5_init_23 (by decide) ?_
  refine va_put (D := g.1) (ci := 5) (v := .int (-1)) (ty := .int) (C := RX5) (T := TX5) (N := 4) hx hb hw0 ziX5 tyX5 tyX5_ok nmX5 hown hK.1 hP hD hS 0 rfl rfl 3 (by decide) (hw0 _ zm1_192) (fun _ h9 => h9) rfl (tyX5_ok 3 (by decide)) rfl rfl (Nat.le_of_ble_eq_true rfl) dX5_init_24 (fun H locs hP hD hS => ?_)
  have hP : va_P g.1 vwCl ([(h0, .inr (5, [.ref q1, .int 0, .int 0, .int (-1)]))] ++ [(q1, .inl (g.2.1, 100, .inl (fun _ => 0)))]) H := hP
  have hD : va_D A ([(h0, .inr (5, [.ref q1, .int 0, .int 0, .int (-1)]))] ++ [(q1, .inl (g.2.1, 100, .inl (fun _ => 0)))]) := hD
  have hP : va_P g.1 vwCl (zX5 g (zlst [h0, q1]) zV_X5) H := hP
  have hD : va_D A (zX5 g (zlst [h0, q1]) zV_X5) := hD
  exact W.vret hx hb hr0 (fun t ht hW => ⟨⟨(zlst [h0, q1]), rfl, rfl, by rw [ht]; exact hP, hD⟩, hS.F ht⟩) hS.2.2 dX5_init_27
theorem hd_X6_init : yX6_init.cls ≠ "java/lang/invoke/MethodHandle" ∧ yX6_init.cls ≠ "java/lang/invoke/VarHandle" ∧ (parseMethodDescriptor yX6_init.desc).map (fun d => d.parameters.length) = some 0 := by decide +kernel
def zV_X6 : CV := (zV_X2, zV_X2, (fun j => j, zV_X2, zV_X2, zV_X2, zV_X2), 0, zV_X5)
set_option maxHeartbeats 4000000 in
set_option maxRecDepth 100000 in
theorem c_X6_init (l : Launch) (g : zG) : zMc zNF zNM l yX6_init (zw yX6_init cX6_init 2 none) ({ frames := 4, cells := 111, slots := 1590, locals := 80 } : Room) g 6 [.null, .null, .null, .int 0, .null] (fun a => zX6 g a zV_X6) 111 1590 := by
  intro h0 sz
  refine Met.ofW (cc := cX6_init) (maxL := 2) (ret := none) (by decide) rfl ?_
  intro p e s m args below meth c s₁ B hml hv
  obtain ⟨rfl, ⟨hsz, hP, hK, hD0⟩, hO⟩ := hv
  have hx := B.exec
  have hb := B.bytes
  have hr0 := B.returns
  have hts := atoms_spec (ws := (zw yX6_init cX6_init 2 none)) B.pre
  have hw0 : ∀ w ∈ zW, w.before #[Value.ref h0] s = true := fun w h => hts w (List.mem_cons_of_mem _ h)
  have hown : s.vm.findClass RX6 = some m.cls := findClass_of_methodNamed B.named
  have hlocks := B.notSynchronized
  have hin : meth.name = "<init>" := (name_of_methodNamed B.named B.method).1
  subst hsz
  have hD := hD0.self (sz := s.heap.size)
  generalize hAe : va_A [(h0, .inr (6, [.null, .null, .null, .int 0, .null]))] s.heap.size = A at hD ⊢
  have hA : ∀ q : Nat, s.heap.size ≤ q → A q := fun q h => by rw [← hAe]; exact Or.inr h
  have hS : va_S A s.heap s.heap [] := va_S.rf
  have hl := lv_entry ([.ref h0]) (n := 2) (Nat.le_of_ble_eq_true rfl)
  rw [lg_entry_eq]
  generalize (lg_sl ([.ref h0]) ++ List.replicate (2 - (lg_sl ([.ref h0])).length) Slot.unset).toArray = ls at hl ⊢
  have hl : lv_has ls 2 [(0, .ref h0)] := hl
  refine lv_aload_n hx hb dX6_init_0 rfl (lv_at hl 0 rfl) ?_
  refine W.objInit hx hb hown (hw0 _ zm1_22) (hw0 _ zm1_23) (hw0 _ zm1_24) rfl (by rw [hml]; exact hl.1) rfl dX6_init_1 (Nat.le_of_ble_eq_true rfl) (Nat.le_of_ble_eq_true rfl) ?_
  refine W.eq (g2 := F0 m 4 ls []) rfl ?_
  refine lv_aload_n hx hb dX6_init_4 rfl (lv_at hl 0 rfl) ?_
  refine va_new (ci := 2) (fs := [.null, .null, .null, .int 0, .int 0, .int 0, .int 0, .int 0, .int 0, .int 0, .int 0]) (C := RX2) (T := TX2) (N := 11) hx hb hw0 ziX2 tyX2 tyX2_ok hown (hw0 _ zm1_25) (hw0 _ zm1_26) (hw0 _ zm1_2) hK.1 hP hD hS hA rfl (fun j hj => by rcases (show j = 0 ∨ j = 1 ∨ j = 2 ∨ j = 3 ∨ j = 4 ∨ j = 5 ∨ j = 6 ∨ j = 7 ∨ j = 8 ∨ j = 9 ∨ j = 10 by omega) with rfl | rfl | rfl | rfl | rfl | rfl | rfl | rfl | rfl | rfl | rfl <;> rfl) (Nat.le_of_ble_eq_true rfl) (Nat.le_of_ble_eq_true rfl) dX6_init_5 (fun q1 H hP hD hS => ?_)
  have hP : va_P g.1 vwCl ([(h0, .inr (6, [.null, .null, .null, .int 0, .null]))] ++ [(q1, .inr (2, [.null, .null, .null, .int 0, .int 0, .int 0, .int 0, .int 0, .int 0, .int 0, .int 0]))]) H := hP
  have hD : va_D A ([(h0, .inr (6, [.null, .null, .null, .int 0, .null]))] ++ [(q1, .inr (2, [.null, .null, .null, .int 0, .int 0, .int 0, .int 0, .int 0, .int 0, .int 0, .int 0]))]) := hD
  refine W.widen (k := 1) (n := 11) (Nat.le_refl _) (Nat.le_refl _) ?_
  refine lv_dup hx hb dX6_init_8 rfl ?_
  refine zk_c (va_runIN (As := []) (rest := [.ref q1, .ref h0]) ⟨hx, hb, hml, hown, hts⟩ (c_X2_init l g q1 _) (zcI hw0 (zn_0 hK) zm1_29 zm1_2 zm1_28 rfl hd_X2_init rfl rfl ⟨Nat.le_of_ble_eq_true rfl, Nat.le_of_ble_eq_true rfl⟩) ⟨zblindC, zpreC hK hO hP hD⟩ rfl rfl hl.1 rfl (lv_room (Nat.le_of_ble_eq_true rfl)) dX6_init_9 ⟨Nat.le_of_ble_eq_true rfl, Nat.le_of_ble_eq_true rfl⟩) hP hD hS hA (fun b1 H locs hb0 hP9 hD9 hS => ?_)
  subst hb0
  have hP : va_P g.1 vwCl ([(h0, .inr (6, [.null, .null, .null, .int 0, .null]))] ++ zX2 g b1 zV_X2) H := hP9
  have hD : va_D A ([(h0, .inr (6, [.null, .null, .null, .int 0, .null]))] ++ zX2 g b1 zV_X2) := hD9
  refine W.widen (k := 18) (n := 247) (Nat.le_refl _) (Nat.le_refl _) ?_
  refine va_putF (D := g.1) (ci := 6) (v := .ref (b1 0)) (ty := (.object "HourClock$Hour")) (C := RX6) (T := TX6) (N := 5) hx hb hw0 ziX6 tyX6 tyX6_ok nmX6 hown hK.1 hP hD hS 0 rfl rfl 0 (by decide) (hw0 _ zm1_202) (fun _ h9 => h9) rfl hin rfl (tyX6_ok 0 (by decide)) rfl rfl (Nat.le_of_ble_eq_true rfl) dX6_init_12 (fun H locs hP hD hS => ?_)
  have hP : va_P g.1 vwCl ([(h0, .inr (6, [.ref (b1 0), .null, .null, .int 0, .null]))] ++ zX2 g b1 zV_X2) H := hP
  have hD : va_D A ([(h0, .inr (6, [.ref (b1 0), .null, .null, .int 0, .null]))] ++ zX2 g b1 zV_X2) := hD
  refine lv_aload_n hx hb dX6_init_15 rfl (lv_at hl 0 rfl) ?_
  refine va_new (ci := 2) (fs := [.null, .null, .null, .int 0, .int 0, .int 0, .int 0, .int 0, .int 0, .int 0, .int 0]) (C := RX2) (T := TX2) (N := 11) hx hb hw0 ziX2 tyX2 tyX2_ok hown (hw0 _ zm1_25) (hw0 _ zm1_26) (hw0 _ zm1_2) hK.1 hP hD hS hA rfl (fun j hj => by rcases (show j = 0 ∨ j = 1 ∨ j = 2 ∨ j = 3 ∨ j = 4 ∨ j = 5 ∨ j = 6 ∨ j = 7 ∨ j = 8 ∨ j = 9 ∨ j = 10 by omega) with rfl | rfl | rfl | rfl | rfl | rfl | rfl | rfl | rfl | rfl | rfl <;> rfl) (Nat.le_of_ble_eq_true rfl) (Nat.le_of_ble_eq_true rfl) dX6_init_16 (fun q2 H hP hD hS => ?_)
  have hP : va_P g.1 vwCl (([(h0, .inr (6, [.ref (b1 0), .null, .null, .int 0, .null]))] ++ zX2 g b1 zV_X2) ++ [(q2, .inr (2, [.null, .null, .null, .int 0, .int 0, .int 0, .int 0, .int 0, .int 0, .int 0, .int 0]))]) H := hP
  have hD : va_D A (([(h0, .inr (6, [.ref (b1 0), .null, .null, .int 0, .null]))] ++ zX2 g b1 zV_X2) ++ [(q2, .inr (2, [.null, .null, .null, .int 0, .int 0, .int 0, .int 0, .int 0, .int 0, .int 0, .int 0]))]) := hD
  refine W.widen (k := 19) (n := 258) (Nat.le_refl _) (Nat.le_refl _) ?_
  refine lv_dup hx hb dX6_init_19 rfl ?_
  refine zk_c (va_runIN (As := []) (rest := [.ref q2, .ref h0]) ⟨hx, hb, hml, hown, hts⟩ (c_X2_init l g q2 _) (zcI hw0 (zn_0 hK) zm1_29 zm1_2 zm1_28 rfl hd_X2_init rfl rfl ⟨Nat.le_of_ble_eq_true rfl, Nat.le_of_ble_eq_true rfl⟩) ⟨zblindC, zpreC hK hO hP hD⟩ rfl rfl hl.1 rfl (lv_room (Nat.le_of_ble_eq_true rfl)) dX6_init_20 ⟨Nat.le_of_ble_eq_true rfl, Nat.le_of_ble_eq_true rfl⟩) hP hD hS hA (fun b2 H locs hb0 hP9 hD9 hS => ?_)
  subst hb0
  have hP : va_P g.1 vwCl (([(h0, .inr (6, [.ref (b1 0), .null, .null, .int 0, .null]))] ++ zX2 g b1 zV_X2) ++ zX2 g b2 zV_X2) H := hP9
  have hD : va_D A (([(h0, .inr (6, [.ref (b1 0), .null, .null, .int 0, .null]))] ++ zX2 g b1 zV_X2) ++ zX2 g b2 zV_X2) := hD9
  refine W.widen (k := 36) (n := 494) (Nat.le_refl _) (Nat.le_refl _) ?_
  refine va_putF (D := g.1) (ci := 6) (v := .ref (b2 0)) (ty := (.object "HourClock$Hour")) (C := RX6) (T := TX6) (N := 5) hx hb hw0 ziX6 tyX6 tyX6_ok nmX6 hown hK.1 hP hD hS 0 rfl rfl 1 (by decide) (hw0 _ zm1_203) (fun _ h9 => h9) rfl hin rfl (tyX6_ok 1 (by decide)) rfl rfl (Nat.le_of_ble_eq_true rfl) dX6_init_23 (fun H locs hP hD hS => ?_)
  have hP : va_P g.1 vwCl (([(h0, .inr (6, [.ref (b1 0), .ref (b2 0), .null, .int 0, .null]))] ++ zX2 g b1 zV_X2) ++ zX2 g b2 zV_X2) H := hP
  have hD : va_D A (([(h0, .inr (6, [.ref (b1 0), .ref (b2 0), .null, .int 0, .null]))] ++ zX2 g b1 zV_X2) ++ zX2 g b2 zV_X2) := hD
  refine lv_aload_n hx hb dX6_init_26 rfl (lv_at hl 0 rfl) ?_
  refine lv_iconst (v := 4) hx hb dX6_init_27 (by decide) ?_
  refine znewH (N := 4) hx hb hown (hw0 _ zm1_25) hO hK hP hD hS hA (by decide) rfl (by decide) (Nat.le_of_ble_eq_true rfl) (Nat.le_of_ble_eq_true rfl) dX6_init_28 (fun q3 H hP hD hS => ?_)
  have hP : va_P g.1 vwCl ((([(h0, .inr (6, [.ref (b1 0), .ref (b2 0), .null, .int 0, .null]))] ++ zX2 g b1 zV_X2) ++ zX2 g b2 zV_X2) ++ [(q3, .inl (g.2.2.1, 4, .inr (.inr (.inr (.inr (fun _ => none))))))]) H := hP
  have hD : va_D A ((([(h0, .inr (6, [.ref (b1 0), .ref (b2 0), .null, .int 0, .null]))] ++ zX2 g b1 zV_X2) ++ zX2 g b2 zV_X2) ++ [(q3, .inl (g.2.2.1, 4, .inr (.inr (.inr (.inr (fun _ => none))))))]) := hD
  refine W.widen (k := 37) (n := 498) (Nat.le_refl _) (Nat.le_refl _) ?_
  refine va_putF (D := g.1) (ci := 6) (v := .ref q3) (ty := (.array (.object "HourClock$Hour"))) (C := RX6) (T := TX6) (N := 5) hx hb hw0 ziX6 tyX6 tyX6_ok nmX6 hown hK.1 hP hD hS 0 rfl rfl 2 (by decide) (hw0 _ zm1_204) (fun _ h9 => h9) rfl hin rfl (tyX6_ok 2 (by decide)) rfl rfl (Nat.le_of_ble_eq_true rfl) dX6_init_31 (fun H locs hP hD hS => ?_)
  have hP : va_P g.1 vwCl ((([(h0, .inr (6, [.ref (b1 0), .ref (b2 0), .ref q3, .int 0, .null]))] ++ zX2 g b1 zV_X2) ++ zX2 g b2 zV_X2) ++ [(q3, .inl (g.2.2.1, 4, .inr (.inr (.inr (.inr (fun _ => none))))))]) H := hP
  have hD : va_D A ((([(h0, .inr (6, [.ref (b1 0), .ref (b2 0), .ref q3, .int 0, .null]))] ++ zX2 g b1 zV_X2) ++ zX2 g b2 zV_X2) ++ [(q3, .inl (g.2.2.1, 4, .inr (.inr (.inr (.inr (fun _ => none))))))]) := hD
  refine lv_aload_n hx hb dX6_init_34 rfl (lv_at hl 0 rfl) ?_
  refine lv_iconst (v := 0) hx hb dX6_init_35 (by decide) ?_
  refine va_put (D := g.1) (ci := 6) (v := .int 0) (ty := .int) (C := RX6) (T := TX6) (N := 5) hx hb hw0 ziX6 tyX6 tyX6_ok nmX6 hown hK.1 hP hD hS 0 rfl rfl 3 (by decide) (hw0 _ zm1_205) (fun _ h9 => h9) rfl (tyX6_ok 3 (by decide)) rfl rfl (Nat.le_of_ble_eq_true rfl) dX6_init_36 (fun H locs hP hD hS => ?_)
  have hP : va_P g.1 vwCl ((([(h0, .inr (6, [.ref (b1 0), .ref (b2 0), .ref q3, .int 0, .null]))] ++ zX2 g b1 zV_X2) ++ zX2 g b2 zV_X2) ++ [(q3, .inl (g.2.2.1, 4, .inr (.inr (.inr (.inr (fun _ => none))))))]) H := hP
  have hD : va_D A ((([(h0, .inr (6, [.ref (b1 0), .ref (b2 0), .ref q3, .int 0, .null]))] ++ zX2 g b1 zV_X2) ++ zX2 g b2 zV_X2) ++ [(q3, .inl (g.2.2.1, 4, .inr (.inr (.inr (.inr (fun _ => none))))))]) := hD
  refine lv_aload_n hx hb dX6_init_39 rfl (lv_at hl 0 rfl) ?_
  refine va_new (ci := 5) (fs := [.null, .int 0, .int 0, .int 0]) (C := RX5) (T := TX5) (N := 4) hx hb hw0 ziX5 tyX5 tyX5_ok hown (hw0 _ zm1_183) (hw0 _ zm1_184) (hw0 _ zm1_7) hK.1 hP hD hS hA rfl (fun j hj => by rcases (show j = 0 ∨ j = 1 ∨ j = 2 ∨ j = 3 by omega) with rfl | rfl | rfl | rfl <;> rfl) (Nat.le_of_ble_eq_true rfl) (Nat.le_of_ble_eq_true rfl) dX6_init_40 (fun q4 H hP hD hS => ?_)
  have hP : va_P g.1 vwCl (((([(h0, .inr (6, [.ref (b1 0), .ref (b2 0), .ref q3, .int 0, .null]))] ++ zX2 g b1 zV_X2) ++ zX2 g b2 zV_X2) ++ [(q3, .inl (g.2.2.1, 4, .inr (.inr (.inr (.inr (fun _ => none))))))]) ++ [(q4, .inr (5, [.null, .int 0, .int 0, .int 0]))]) H := hP
  have hD : va_D A (((([(h0, .inr (6, [.ref (b1 0), .ref (b2 0), .ref q3, .int 0, .null]))] ++ zX2 g b1 zV_X2) ++ zX2 g b2 zV_X2) ++ [(q3, .inl (g.2.2.1, 4, .inr (.inr (.inr (.inr (fun _ => none))))))]) ++ [(q4, .inr (5, [.null, .int 0, .int 0, .int 0]))]) := hD
  refine W.widen (k := 38) (n := 502) (Nat.le_refl _) (Nat.le_refl _) ?_
  refine lv_dup hx hb dX6_init_43 rfl ?_
  refine zk_c (va_runIN (As := []) (rest := [.ref q4, .ref h0]) ⟨hx, hb, hml, hown, hts⟩ (c_X5_init l g q4 _) (zcI hw0 (zn_5 hK) zm1_187 zm1_7 zm1_186 rfl hd_X5_init rfl rfl ⟨Nat.le_of_ble_eq_true rfl, Nat.le_of_ble_eq_true rfl⟩) ⟨zblindC, zpreC hK hO hP hD⟩ rfl rfl hl.1 rfl (lv_room (Nat.le_of_ble_eq_true rfl)) dX6_init_44 ⟨Nat.le_of_ble_eq_true rfl, Nat.le_of_ble_eq_true rfl⟩) hP hD hS hA (fun b4 H locs hb0 hP9 hD9 hS => ?_)
  subst hb0
  have hP : va_P g.1 vwCl (((([(h0, .inr (6, [.ref (b1 0), .ref (b2 0), .ref q3, .int 0, .null]))] ++ zX2 g b1 zV_X2) ++ zX2 g b2 zV_X2) ++ [(q3, .inl (g.2.2.1, 4, .inr (.inr (.inr (.inr (fun _ => none))))))]) ++ zX5 g b4 zV_X5) H := hP9
  have hD : va_D A (((([(h0, .inr (6, [.ref (b1 0), .ref (b2 0), .ref q3, .int 0, .null]))] ++ zX2 g b1 zV_X2) ++ zX2 g b2 zV_X2) ++ [(q3, .inl (g.2.2.1, 4, .inr (.inr (.inr (.inr (fun _ => none))))))]) ++ zX5 g b4 zV_X5) := hD9
  refine W.widen (k := 39) (n := 602) (Nat.le_refl _) (Nat.le_refl _) ?_
  refine va_putF (D := g.1) (ci := 6) (v := .ref (b4 0)) (ty := (.object "HourClock$Text")) (C := RX6) (T := TX6) (N := 5) hx hb hw0 ziX6 tyX6 tyX6_ok nmX6 hown hK.1 hP hD hS 0 rfl rfl 4 (by decide) (hw0 _ zm1_206) (fun _ h9 => h9) rfl hin rfl (tyX6_ok 4 (by decide)) rfl rfl (Nat.le_of_ble_eq_true rfl) dX6_init_47 (fun H locs hP hD hS => ?_)
  have hP : va_P g.1 vwCl (((([(h0, .inr (6, [.ref (b1 0), .ref (b2 0), .ref q3, .int 0, .ref (b4 0)]))] ++ zX2 g b1 zV_X2) ++ zX2 g b2 zV_X2) ++ [(q3, .inl (g.2.2.1, 4, .inr (.inr (.inr (.inr (fun _ => none))))))]) ++ zX5 g b4 zV_X5) H := hP
  have hD : va_D A (((([(h0, .inr (6, [.ref (b1 0), .ref (b2 0), .ref q3, .int 0, .ref (b4 0)]))] ++ zX2 g b1 zV_X2) ++ zX2 g b2 zV_X2) ++ [(q3, .inl (g.2.2.1, 4, .inr (.inr (.inr (.inr (fun _ => none))))))]) ++ zX5 g b4 zV_X5) := hD
  refine lv_iconst (v := 0) hx hb dX6_init_50 (by decide) ?_
  refine lv_istore_n (lv' := [(1, .int 0), (0, .ref h0)]) hx hb dX6_init_51 rfl hl (by decide) rfl (fun ls hl => ?_)
  refine lv_iload_n hx hb dX6_init_52 rfl (lv_at hl 0 rfl) ?_
  refine lv_iconst (v := 4) hx hb dX6_init_53 (by decide) ?_
  refine lv_icmp_ge (tgt := 76) hx hb dX6_init_54 (by decide) (fun c9 => absurd c9 (by decide)) (fun _ => ?_)
  refine lv_aload_n hx hb dX6_init_57 rfl (lv_at hl 1 rfl) ?_
  refine va_get (D := g.1) (ci := 6) (v := .ref q3) (C := RX6) (T := TX6) (N := 5) hx hb hw0 ziX6 hown hK.1 hP 0 rfl rfl 2 (by decide) (hw0 _ zm1_204) (fun _ h9 => h9) rfl dX6_init_58 ?_
  refine lv_iload_n hx hb dX6_init_61 rfl (lv_at hl 0 rfl) ?_
  refine va_new (ci := 2) (fs := [.null, .null, .null, .int 0, .int 0, .int 0, .int 0, .int 0, .int 0, .int 0, .int 0]) (C := RX2) (T := TX2) (N := 11) hx hb hw0 ziX2 tyX2 tyX2_ok hown (hw0 _ zm1_25) (hw0 _ zm1_26) (hw0 _ zm1_2) hK.1 hP hD hS hA rfl (fun j hj => by rcases (show j = 0 ∨ j = 1 ∨ j = 2 ∨ j = 3 ∨ j = 4 ∨ j = 5 ∨ j = 6 ∨ j = 7 ∨ j = 8 ∨ j = 9 ∨ j = 10 by omega) with rfl | rfl | rfl | rfl | rfl | rfl | rfl | rfl | rfl | rfl | rfl <;> rfl) (Nat.le_of_ble_eq_true rfl) (Nat.le_of_ble_eq_true rfl) dX6_init_62 (fun q5 H hP hD hS => ?_)
  have hP : va_P g.1 vwCl ((((([(h0, .inr (6, [.ref (b1 0), .ref (b2 0), .ref q3, .int 0, .ref (b4 0)]))] ++ zX2 g b1 zV_X2) ++ zX2 g b2 zV_X2) ++ [(q3, .inl (g.2.2.1, 4, .inr (.inr (.inr (.inr (fun _ => none))))))]) ++ zX5 g b4 zV_X5) ++ [(q5, .inr (2, [.null, .null, .null, .int 0, .int 0, .int 0, .int 0, .int 0, .int 0, .int 0, .int 0]))]) H := hP
  have hD : va_D A ((((([(h0, .inr (6, [.ref (b1 0), .ref (b2 0), .ref q3, .int 0, .ref (b4 0)]))] ++ zX2 g b1 zV_X2) ++ zX2 g b2 zV_X2) ++ [(q3, .inl (g.2.2.1, 4, .inr (.inr (.inr (.inr (fun _ => none))))))]) ++ zX5 g b4 zV_X5) ++ [(q5, .inr (2, [.null, .null, .null, .int 0, .int 0, .int 0, .int 0, .int 0, .int 0, .int 0, .int 0]))]) := hD
  refine W.widen (k := 40) (n := 613) (Nat.le_refl _) (Nat.le_refl _) ?_
  refine lv_dup hx hb dX6_init_65 rfl ?_
  refine zk_c (va_runIN (As := []) (rest := [.ref q5, .int 0, .ref q3]) ⟨hx, hb, hml, hown, hts⟩ (c_X2_init l g q5 _) (zcI hw0 (zn_0 hK) zm1_29 zm1_2 zm1_28 rfl hd_X2_init rfl rfl ⟨Nat.le_of_ble_eq_true rfl, Nat.le_of_ble_eq_true rfl⟩) ⟨zblindC, zpreC hK hO hP hD⟩ rfl rfl hl.1 rfl (lv_room (Nat.le_of_ble_eq_true rfl)) dX6_init_66 ⟨Nat.le_of_ble_eq_true rfl, Nat.le_of_ble_eq_true rfl⟩) hP hD hS hA (fun b5 H locs hb0 hP9 hD9 hS => ?_)
  subst hb0
  have hP : va_P g.1 vwCl ((((([(h0, .inr (6, [.ref (b1 0), .ref (b2 0), .ref q3, .int 0, .ref (b4 0)]))] ++ zX2 g b1 zV_X2) ++ zX2 g b2 zV_X2) ++ [(q3, .inl (g.2.2.1, 4, .inr (.inr (.inr (.inr (fun _ => none))))))]) ++ zX5 g b4 zV_X5) ++ zX2 g b5 zV_X2) H := hP9
  have hD : va_D A ((((([(h0, .inr (6, [.ref (b1 0), .ref (b2 0), .ref q3, .int 0, .ref (b4 0)]))] ++ zX2 g b1 zV_X2) ++ zX2 g b2 zV_X2) ++ [(q3, .inl (g.2.2.1, 4, .inr (.inr (.inr (.inr (fun _ => none))))))]) ++ zX5 g b4 zV_X5) ++ zX2 g b5 zV_X2) := hD9
  refine W.widen (k := 57) (n := 849) (Nat.le_refl _) (Nat.le_refl _) ?_
  refine zastq (D := g.1) (f := (fun _ => none)) (f2 := (va_up (fun _ => none) 0 (some (b5 0)))) (k := 0) hx hb hK.1 hP hD hS 37 1 40 2 rfl rfl rfl rfl (zin_vp (i := 0) (n := 4) rfl) rfl rfl dX6_init_69 (fun H locs hP hD hS => ?_)
  have hP : va_P g.1 vwCl ((((([(h0, .inr (6, [.ref (b1 0), .ref (b2 0), .ref q3, .int 0, .ref (b4 0)]))] ++ zX2 g b1 zV_X2) ++ zX2 g b2 zV_X2) ++ [(q3, .inl (g.2.2.1, 4, .inr (.inr (.inr (.inr (va_up (fun _ => none) 0 (some (b5 0))))))))]) ++ zX5 g b4 zV_X5) ++ zX2 g b5 zV_X2) H := hP
  have hD : va_D A ((((([(h0, .inr (6, [.ref (b1 0), .ref (b2 0), .ref q3, .int 0, .ref (b4 0)]))] ++ zX2 g b1 zV_X2) ++ zX2 g b2 zV_X2) ++ [(q3, .inl (g.2.2.1, 4, .inr (.inr (.inr (.inr (va_up (fun _ => none) 0 (some (b5 0))))))))]) ++ zX5 g b4 zV_X5) ++ zX2 g b5 zV_X2) := hD
  refine lv_iinc (v := 1) (lv' := [(1, .int 1), (0, .ref h0)]) hx hb dX6_init_70 hl (k := 0) rfl rfl (by decide) rfl (fun ls hl => ?_)
  refine lv_goto (tgt := 52) hx hb dX6_init_73 (by decide) ?_
  refine lv_iload_n hx hb dX6_init_52 rfl (lv_at hl 0 rfl) ?_
  refine lv_iconst (v := 4) hx hb dX6_init_53 (by decide) ?_
  refine lv_icmp_ge (tgt := 76) hx hb dX6_init_54 (by decide) (fun c9 => absurd c9 (by decide)) (fun _ => ?_)
  refine lv_aload_n hx hb dX6_init_57 rfl (lv_at hl 1 rfl) ?_
  refine va_get (D := g.1) (ci := 6) (v := .ref q3) (C := RX6) (T := TX6) (N := 5) hx hb hw0 ziX6 hown hK.1 hP 0 rfl rfl 2 (by decide) (hw0 _ zm1_204) (fun _ h9 => h9) rfl dX6_init_58 ?_
  refine lv_iload_n hx hb dX6_init_61 rfl (lv_at hl 0 rfl) ?_
  refine va_new (ci := 2) (fs := [.null, .null, .null, .int 0, .int 0, .int 0, .int 0, .int 0, .int 0, .int 0, .int 0]) (C := RX2) (T := TX2) (N := 11) hx hb hw0 ziX2 tyX2 tyX2_ok hown (hw0 _ zm1_25) (hw0 _ zm1_26) (hw0 _ zm1_2) hK.1 hP hD hS hA rfl (fun j hj => by rcases (show j = 0 ∨ j = 1 ∨ j = 2 ∨ j = 3 ∨ j = 4 ∨ j = 5 ∨ j = 6 ∨ j = 7 ∨ j = 8 ∨ j = 9 ∨ j = 10 by omega) with rfl | rfl | rfl | rfl | rfl | rfl | rfl | rfl | rfl | rfl | rfl <;> rfl) (Nat.le_of_ble_eq_true rfl) (Nat.le_of_ble_eq_true rfl) dX6_init_62 (fun q6 H hP hD hS => ?_)
  have hP : va_P g.1 vwCl (((((([(h0, .inr (6, [.ref (b1 0), .ref (b2 0), .ref q3, .int 0, .ref (b4 0)]))] ++ zX2 g b1 zV_X2) ++ zX2 g b2 zV_X2) ++ [(q3, .inl (g.2.2.1, 4, .inr (.inr (.inr (.inr (va_up (fun _ => none) 0 (some (b5 0))))))))]) ++ zX5 g b4 zV_X5) ++ zX2 g b5 zV_X2) ++ [(q6, .inr (2, [.null, .null, .null, .int 0, .int 0, .int 0, .int 0, .int 0, .int 0, .int 0, .int 0]))]) H := hP
  have hD : va_D A (((((([(h0, .inr (6, [.ref (b1 0), .ref (b2 0), .ref q3, .int 0, .ref (b4 0)]))] ++ zX2 g b1 zV_X2) ++ zX2 g b2 zV_X2) ++ [(q3, .inl (g.2.2.1, 4, .inr (.inr (.inr (.inr (va_up (fun _ => none) 0 (some (b5 0))))))))]) ++ zX5 g b4 zV_X5) ++ zX2 g b5 zV_X2) ++ [(q6, .inr (2, [.null, .null, .null, .int 0, .int 0, .int 0, .int 0, .int 0, .int 0, .int 0, .int 0]))]) := hD
  refine W.widen (k := 58) (n := 860) (Nat.le_refl _) (Nat.le_refl _) ?_
  refine lv_dup hx hb dX6_init_65 rfl ?_
  refine zk_c (va_runIN (As := []) (rest := [.ref q6, .int 1, .ref q3]) ⟨hx, hb, hml, hown, hts⟩ (c_X2_init l g q6 _) (zcI hw0 (zn_0 hK) zm1_29 zm1_2 zm1_28 rfl hd_X2_init rfl rfl ⟨Nat.le_of_ble_eq_true rfl, Nat.le_of_ble_eq_true rfl⟩) ⟨zblindC, zpreC hK hO hP hD⟩ rfl rfl hl.1 rfl (lv_room (Nat.le_of_ble_eq_true rfl)) dX6_init_66 ⟨Nat.le_of_ble_eq_true rfl, Nat.le_of_ble_eq_true rfl⟩) hP hD hS hA (fun b6 H locs hb0 hP9 hD9 hS => ?_)
  subst hb0
  have hP : va_P g.1 vwCl (((((([(h0, .inr (6, [.ref (b1 0), .ref (b2 0), .ref q3, .int 0, .ref (b4 0)]))] ++ zX2 g b1 zV_X2) ++ zX2 g b2 zV_X2) ++ [(q3, .inl (g.2.2.1, 4, .inr (.inr (.inr (.inr (va_up (fun _ => none) 0 (some (b5 0))))))))]) ++ zX5 g b4 zV_X5) ++ zX2 g b5 zV_X2) ++ zX2 g b6 zV_X2) H := hP9
  have hD : va_D A (((((([(h0, .inr (6, [.ref (b1 0), .ref (b2 0), .ref q3, .int 0, .ref (b4 0)]))] ++ zX2 g b1 zV_X2) ++ zX2 g b2 zV_X2) ++ [(q3, .inl (g.2.2.1, 4, .inr (.inr (.inr (.inr (va_up (fun _ => none) 0 (some (b5 0))))))))]) ++ zX5 g b4 zV_X5) ++ zX2 g b5 zV_X2) ++ zX2 g b6 zV_X2) := hD9
  refine W.widen (k := 75) (n := 1096) (Nat.le_refl _) (Nat.le_refl _) ?_
  refine zastq (D := g.1) (f := (va_up (fun _ => none) 0 (some (b5 0)))) (f2 := (va_up (va_up (fun _ => none) 0 (some (b5 0))) 1 (some (b6 0)))) (k := 1) hx hb hK.1 hP hD hS 37 1 58 2 rfl rfl rfl rfl (zin_vp (i := 1) (n := 4) rfl) rfl rfl dX6_init_69 (fun H locs hP hD hS => ?_)
  have hP : va_P g.1 vwCl (((((([(h0, .inr (6, [.ref (b1 0), .ref (b2 0), .ref q3, .int 0, .ref (b4 0)]))] ++ zX2 g b1 zV_X2) ++ zX2 g b2 zV_X2) ++ [(q3, .inl (g.2.2.1, 4, .inr (.inr (.inr (.inr (va_up (va_up (fun _ => none) 0 (some (b5 0))) 1 (some (b6 0))))))))]) ++ zX5 g b4 zV_X5) ++ zX2 g b5 zV_X2) ++ zX2 g b6 zV_X2) H := hP
  have hD : va_D A (((((([(h0, .inr (6, [.ref (b1 0), .ref (b2 0), .ref q3, .int 0, .ref (b4 0)]))] ++ zX2 g b1 zV_X2) ++ zX2 g b2 zV_X2) ++ [(q3, .inl (g.2.2.1, 4, .inr (.inr (.inr (.inr (va_up (va_up (fun _ => none) 0 (some (b5 0))) 1 (some (b6 0))))))))]) ++ zX5 g b4 zV_X5) ++ zX2 g b5 zV_X2) ++ zX2 g b6 zV_X2) := hD
  refine lv_iinc (v := 2) (lv' := [(1, .int 2), (0, .ref h0)]) hx hb dX6_init_70 hl (k := 0) rfl rfl (by decide) rfl (fun ls hl => ?_)
  refine lv_goto (tgt := 52) hx hb dX6_init_73 (by decide) ?_
  refine lv_iload_n hx hb dX6_init_52 rfl (lv_at hl 0 rfl) ?_
  refine lv_iconst (v := 4) hx hb dX6_init_53 (by decide) ?_
  refine lv_icmp_ge (tgt := 76) hx hb dX6_init_54 (by decide) (fun c9 => absurd c9 (by decide)) (fun _ => ?_)
  refine lv_aload_n hx hb dX6_init_57 rfl (lv_at hl 1 rfl) ?_
  refine va_get (D := g.1) (ci := 6) (v := .ref q3) (C := RX6) (T := TX6) (N := 5) hx hb hw0 ziX6 hown hK.1 hP 0 rfl rfl 2 (by decide) (hw0 _ zm1_204) (fun _ h9 => h9) rfl dX6_init_58 ?_
  refine lv_iload_n hx hb dX6_init_61 rfl (lv_at hl 0 rfl) ?_
  refine va_new (ci := 2) (fs := [.null, .null, .null, .int 0, .int 0, .int 0, .int 0, .int 0, .int 0, .int 0, .int 0]) (C := RX2) (T := TX2) (N := 11) hx hb hw0 ziX2 tyX2 tyX2_ok hown (hw0 _ zm1_25) (hw0 _ zm1_26) (hw0 _ zm1_2) hK.1 hP hD hS hA rfl (fun j hj => by rcases (show j = 0 ∨ j = 1 ∨ j = 2 ∨ j = 3 ∨ j = 4 ∨ j = 5 ∨ j = 6 ∨ j = 7 ∨ j = 8 ∨ j = 9 ∨ j = 10 by omega) with rfl | rfl | rfl | rfl | rfl | rfl | rfl | rfl | rfl | rfl | rfl <;> rfl) (Nat.le_of_ble_eq_true rfl) (Nat.le_of_ble_eq_true rfl) dX6_init_62 (fun q7 H hP hD hS => ?_)
  have hP : va_P g.1 vwCl ((((((([(h0, .inr (6, [.ref (b1 0), .ref (b2 0), .ref q3, .int 0, .ref (b4 0)]))] ++ zX2 g b1 zV_X2) ++ zX2 g b2 zV_X2) ++ [(q3, .inl (g.2.2.1, 4, .inr (.inr (.inr (.inr (va_up (va_up (fun _ => none) 0 (some (b5 0))) 1 (some (b6 0))))))))]) ++ zX5 g b4 zV_X5) ++ zX2 g b5 zV_X2) ++ zX2 g b6 zV_X2) ++ [(q7, .inr (2, [.null, .null, .null, .int 0, .int 0, .int 0, .int 0, .int 0, .int 0, .int 0, .int 0]))]) H := hP
  have hD : va_D A ((((((([(h0, .inr (6, [.ref (b1 0), .ref (b2 0), .ref q3, .int 0, .ref (b4 0)]))] ++ zX2 g b1 zV_X2) ++ zX2 g b2 zV_X2) ++ [(q3, .inl (g.2.2.1, 4, .inr (.inr (.inr (.inr (va_up (va_up (fun _ => none) 0 (some (b5 0))) 1 (some (b6 0))))))))]) ++ zX5 g b4 zV_X5) ++ zX2 g b5 zV_X2) ++ zX2 g b6 zV_X2) ++ [(q7, .inr (2, [.null, .null, .null, .int 0, .int 0, .int 0, .int 0, .int 0, .int 0, .int 0, .int 0]))]) := hD
  refine W.widen (k := 76) (n := 1107) (Nat.le_refl _) (Nat.le_refl _) ?_
  refine lv_dup hx hb dX6_init_65 rfl ?_
  refine zk_c (va_runIN (As := []) (rest := [.ref q7, .int 2, .ref q3]) ⟨hx, hb, hml, hown, hts⟩ (c_X2_init l g q7 _) (zcI hw0 (zn_0 hK) zm1_29 zm1_2 zm1_28 rfl hd_X2_init rfl rfl ⟨Nat.le_of_ble_eq_true rfl, Nat.le_of_ble_eq_true rfl⟩) ⟨zblindC, zpreC hK hO hP hD⟩ rfl rfl hl.1 rfl (lv_room (Nat.le_of_ble_eq_true rfl)) dX6_init_66 ⟨Nat.le_of_ble_eq_true rfl, Nat.le_of_ble_eq_true rfl⟩) hP hD hS hA (fun b7 H locs hb0 hP9 hD9 hS => ?_)
  subst hb0
  have hP : va_P g.1 vwCl ((((((([(h0, .inr (6, [.ref (b1 0), .ref (b2 0), .ref q3, .int 0, .ref (b4 0)]))] ++ zX2 g b1 zV_X2) ++ zX2 g b2 zV_X2) ++ [(q3, .inl (g.2.2.1, 4, .inr (.inr (.inr (.inr (va_up (va_up (fun _ => none) 0 (some (b5 0))) 1 (some (b6 0))))))))]) ++ zX5 g b4 zV_X5) ++ zX2 g b5 zV_X2) ++ zX2 g b6 zV_X2) ++ zX2 g b7 zV_X2) H := hP9
  have hD : va_D A ((((((([(h0, .inr (6, [.ref (b1 0), .ref (b2 0), .ref q3, .int 0, .ref (b4 0)]))] ++ zX2 g b1 zV_X2) ++ zX2 g b2 zV_X2) ++ [(q3, .inl (g.2.2.1, 4, .inr (.inr (.inr (.inr (va_up (va_up (fun _ => none) 0 (some (b5 0))) 1 (some (b6 0))))))))]) ++ zX5 g b4 zV_X5) ++ zX2 g b5 zV_X2) ++ zX2 g b6 zV_X2) ++ zX2 g b7 zV_X2) := hD9
  refine W.widen (k := 93) (n := 1343) (Nat.le_refl _) (Nat.le_refl _) ?_
  refine zastq (D := g.1) (f := (va_up (va_up (fun _ => none) 0 (some (b5 0))) 1 (some (b6 0)))) (f2 := (va_up (va_up (va_up (fun _ => none) 0 (some (b5 0))) 1 (some (b6 0))) 2 (some (b7 0)))) (k := 2) hx hb hK.1 hP hD hS 37 1 76 2 rfl rfl rfl rfl (zin_vp (i := 2) (n := 4) rfl) rfl rfl dX6_init_69 (fun H locs hP hD hS => ?_)
  have hP : va_P g.1 vwCl ((((((([(h0, .inr (6, [.ref (b1 0), .ref (b2 0), .ref q3, .int 0, .ref (b4 0)]))] ++ zX2 g b1 zV_X2) ++ zX2 g b2 zV_X2) ++ [(q3, .inl (g.2.2.1, 4, .inr (.inr (.inr (.inr (va_up (va_up (va_up (fun _ => none) 0 (some (b5 0))) 1 (some (b6 0))) 2 (some (b7 0))))))))]) ++ zX5 g b4 zV_X5) ++ zX2 g b5 zV_X2) ++ zX2 g b6 zV_X2) ++ zX2 g b7 zV_X2) H := hP
  have hD : va_D A ((((((([(h0, .inr (6, [.ref (b1 0), .ref (b2 0), .ref q3, .int 0, .ref (b4 0)]))] ++ zX2 g b1 zV_X2) ++ zX2 g b2 zV_X2) ++ [(q3, .inl (g.2.2.1, 4, .inr (.inr (.inr (.inr (va_up (va_up (va_up (fun _ => none) 0 (some (b5 0))) 1 (some (b6 0))) 2 (some (b7 0))))))))]) ++ zX5 g b4 zV_X5) ++ zX2 g b5 zV_X2) ++ zX2 g b6 zV_X2) ++ zX2 g b7 zV_X2) := hD
  refine lv_iinc (v := 3) (lv' := [(1, .int 3), (0, .ref h0)]) hx hb dX6_init_70 hl (k := 0) rfl rfl (by decide) rfl (fun ls hl => ?_)
  refine lv_goto (tgt := 52) hx hb dX6_init_73 (by decide) ?_
  refine lv_iload_n hx hb dX6_init_52 rfl (lv_at hl 0 rfl) ?_
  refine lv_iconst (v := 4) hx hb dX6_init_53 (by decide) ?_
  refine lv_icmp_ge (tgt := 76) hx hb dX6_init_54 (by decide) (fun c9 => absurd c9 (by decide)) (fun _ => ?_)
  refine lv_aload_n hx hb dX6_init_57 rfl (lv_at hl 1 rfl) ?_
  refine va_get (D := g.1) (ci := 6) (v := .ref q3) (C := RX6) (T := TX6) (N := 5) hx hb hw0 ziX6 hown hK.1 hP 0 rfl rfl 2 (by decide) (hw0 _ zm1_204) (fun _ h9 => h9) rfl dX6_init_58 ?_
  refine lv_iload_n hx hb dX6_init_61 rfl (lv_at hl 0 rfl) ?_
  refine va_new (ci := 2) (fs := [.null, .null, .null, .int 0, .int 0, .int 0, .int 0, .int 0, .int 0, .int 0, .int 0]) (C := RX2) (T := TX2) (N := 11) hx hb hw0 ziX2 tyX2 tyX2_ok hown (hw0 _ zm1_25) (hw0 _ zm1_26) (hw0 _ zm1_2) hK.1 hP hD hS hA rfl (fun j hj => by rcases (show j = 0 ∨ j = 1 ∨ j = 2 ∨ j = 3 ∨ j = 4 ∨ j = 5 ∨ j = 6 ∨ j = 7 ∨ j = 8 ∨ j = 9 ∨ j = 10 by omega) with rfl | rfl | rfl | rfl | rfl | rfl | rfl | rfl | rfl | rfl | rfl <;> rfl) (Nat.le_of_ble_eq_true rfl) (Nat.le_of_ble_eq_true rfl) dX6_init_62 (fun q8 H hP hD hS => ?_)
  have hP : va_P g.1 vwCl (((((((([(h0, .inr (6, [.ref (b1 0), .ref (b2 0), .ref q3, .int 0, .ref (b4 0)]))] ++ zX2 g b1 zV_X2) ++ zX2 g b2 zV_X2) ++ [(q3, .inl (g.2.2.1, 4, .inr (.inr (.inr (.inr (va_up (va_up (va_up (fun _ => none) 0 (some (b5 0))) 1 (some (b6 0))) 2 (some (b7 0))))))))]) ++ zX5 g b4 zV_X5) ++ zX2 g b5 zV_X2) ++ zX2 g b6 zV_X2) ++ zX2 g b7 zV_X2) ++ [(q8, .inr (2, [.null, .null, .null, .int 0, .int 0, .int 0, .int 0, .int 0, .int 0, .int 0, .int 0]))]) H := hP
  have hD : va_D A (((((((([(h0, .inr (6, [.ref (b1 0), .ref (b2 0), .ref q3, .int 0, .ref (b4 0)]))] ++ zX2 g b1 zV_X2) ++ zX2 g b2 zV_X2) ++ [(q3, .inl (g.2.2.1, 4, .inr (.inr (.inr (.inr (va_up (va_up (va_up (fun _ => none) 0 (some (b5 0))) 1 (some (b6 0))) 2 (some (b7 0))))))))]) ++ zX5 g b4 zV_X5) ++ zX2 g b5 zV_X2) ++ zX2 g b6 zV_X2) ++ zX2 g b7 zV_X2) ++ [(q8, .inr (2, [.null, .null, .null, .int 0, .int 0, .int 0, .int 0, .int 0, .int 0, .int 0, .int 0]))]) := hD
  refine W.widen (k := 94) (n := 1354) (Nat.le_refl _) (Nat.le_refl _) ?_
  refine lv_dup hx hb dX6_init_65 rfl ?_
  refine zk_c (va_runIN (As := []) (rest := [.ref q8, .int 3, .ref q3]) ⟨hx, hb, hml, hown, hts⟩ (c_X2_init l g q8 _) (zcI hw0 (zn_0 hK) zm1_29 zm1_2 zm1_28 rfl hd_X2_init rfl rfl ⟨Nat.le_of_ble_eq_true rfl, Nat.le_of_ble_eq_true rfl⟩) ⟨zblindC, zpreC hK hO hP hD⟩ rfl rfl hl.1 rfl (lv_room (Nat.le_of_ble_eq_true rfl)) dX6_init_66 ⟨Nat.le_of_ble_eq_true rfl, Nat.le_of_ble_eq_true rfl⟩) hP hD hS hA (fun b8 H locs hb0 hP9 hD9 hS => ?_)
  subst hb0
  have hP : va_P g.1 vwCl (((((((([(h0, .inr (6, [.ref (b1 0), .ref (b2 0), .ref q3, .int 0, .ref (b4 0)]))] ++ zX2 g b1 zV_X2) ++ zX2 g b2 zV_X2) ++ [(q3, .inl (g.2.2.1, 4, .inr (.inr (.inr (.inr (va_up (va_up (va_up (fun _ => none) 0 (some (b5 0))) 1 (some (b6 0))) 2 (some (b7 0))))))))]) ++ zX5 g b4 zV_X5) ++ zX2 g b5 zV_X2) ++ zX2 g b6 zV_X2) ++ zX2 g b7 zV_X2) ++ zX2 g b8 zV_X2) H := hP9
  have hD : va_D A (((((((([(h0, .inr (6, [.ref (b1 0), .ref (b2 0), .ref q3, .int 0, .ref (b4 0)]))] ++ zX2 g b1 zV_X2) ++ zX2 g b2 zV_X2) ++ [(q3, .inl (g.2.2.1, 4, .inr (.inr (.inr (.inr (va_up (va_up (va_up (fun _ => none) 0 (some (b5 0))) 1 (some (b6 0))) 2 (some (b7 0))))))))]) ++ zX5 g b4 zV_X5) ++ zX2 g b5 zV_X2) ++ zX2 g b6 zV_X2) ++ zX2 g b7 zV_X2) ++ zX2 g b8 zV_X2) := hD9
  refine W.widen (k := 111) (n := 1590) (Nat.le_refl _) (Nat.le_refl _) ?_
  refine zastq (D := g.1) (f := (va_up (va_up (va_up (fun _ => none) 0 (some (b5 0))) 1 (some (b6 0))) 2 (some (b7 0)))) (f2 := (va_up (va_up (va_up (va_up (fun _ => none) 0 (some (b5 0))) 1 (some (b6 0))) 2 (some (b7 0))) 3 (some (b8 0)))) (k := 3) hx hb hK.1 hP hD hS 37 1 94 2 rfl rfl rfl rfl (zin_vp (i := 3) (n := 4) rfl) rfl rfl dX6_init_69 (fun H locs hP hD hS => ?_)
  have hP : va_P g.1 vwCl (((((((([(h0, .inr (6, [.ref (b1 0), .ref (b2 0), .ref q3, .int 0, .ref (b4 0)]))] ++ zX2 g b1 zV_X2) ++ zX2 g b2 zV_X2) ++ [(q3, .inl (g.2.2.1, 4, .inr (.inr (.inr (.inr (va_up (va_up (va_up (va_up (fun _ => none) 0 (some (b5 0))) 1 (some (b6 0))) 2 (some (b7 0))) 3 (some (b8 0))))))))]) ++ zX5 g b4 zV_X5) ++ zX2 g b5 zV_X2) ++ zX2 g b6 zV_X2) ++ zX2 g b7 zV_X2) ++ zX2 g b8 zV_X2) H := hP
  have hD : va_D A (((((((([(h0, .inr (6, [.ref (b1 0), .ref (b2 0), .ref q3, .int 0, .ref (b4 0)]))] ++ zX2 g b1 zV_X2) ++ zX2 g b2 zV_X2) ++ [(q3, .inl (g.2.2.1, 4, .inr (.inr (.inr (.inr (va_up (va_up (va_up (va_up (fun _ => none) 0 (some (b5 0))) 1 (some (b6 0))) 2 (some (b7 0))) 3 (some (b8 0))))))))]) ++ zX5 g b4 zV_X5) ++ zX2 g b5 zV_X2) ++ zX2 g b6 zV_X2) ++ zX2 g b7 zV_X2) ++ zX2 g b8 zV_X2) := hD
  refine lv_iinc (v := 4) (lv' := [(1, .int 4), (0, .ref h0)]) hx hb dX6_init_70 hl (k := 0) rfl rfl (by decide) rfl (fun ls hl => ?_)
  refine lv_goto (tgt := 52) hx hb dX6_init_73 (by decide) ?_
  refine lv_iload_n hx hb dX6_init_52 rfl (lv_at hl 0 rfl) ?_
  refine lv_iconst (v := 4) hx hb dX6_init_53 (by decide) ?_
  refine lv_icmp_ge (tgt := 76) hx hb dX6_init_54 (by decide) (fun _ => ?_) (fun c9 => absurd c9 (by decide))
  have hP := hP.set hD (p := 37) (e := .inl (g.2.2.1, 4, .inr (.inr (.inr (.inr (fun j => some ((zcat 1 (zlst [h0]) (zcat 18 (b1) (zcat 18 (b2) (zcat 1 (zlst [q3]) (zcat 2 (b4) (zcat 18 (b5) (zcat 18 (b6) (zcat 18 (b7) b8)))))))) (40 + 18 * j)))))))) rfl ((zarr_cg (fun j hj => by rcases (show j = 0 ∨ j = 1 ∨ j = 2 ∨ j = 3 by omega) with rfl | rfl | rfl | rfl <;> rfl)).mp (hP 37 _ rfl)) (fun _ _ => rfl)
  have hD := hD.set (p := 37) (e := .inl (g.2.2.1, 4, .inr (.inr (.inr (.inr (fun j => some ((zcat 1 (zlst [h0]) (zcat 18 (b1) (zcat 18 (b2) (zcat 1 (zlst [q3]) (zcat 2 (b4) (zcat 18 (b5) (zcat 18 (b6) (zcat 18 (b7) b8)))))))) (40 + 18 * j)))))))) rfl
  have hP : va_P g.1 vwCl (((((((([(h0, .inr (6, [.ref (b1 0), .ref (b2 0), .ref q3, .int 0, .ref (b4 0)]))] ++ zX2 g b1 zV_X2) ++ zX2 g b2 zV_X2) ++ [(q3, .inl (g.2.2.1, 4, .inr (.inr (.inr (.inr (fun j => some ((zcat 1 (zlst [h0]) (zcat 18 (b1) (zcat 18 (b2) (zcat 1 (zlst [q3]) (zcat 2 (b4) (zcat 18 (b5) (zcat 18 (b6) (zcat 18 (b7) b8)))))))) (40 + 18 * j))))))))]) ++ zX5 g b4 zV_X5) ++ zX2 g b5 zV_X2) ++ zX2 g b6 zV_X2) ++ zX2 g b7 zV_X2) ++ zX2 g b8 zV_X2) H := hP
  have hD : va_D A (((((((([(h0, .inr (6, [.ref (b1 0), .ref (b2 0), .ref q3, .int 0, .ref (b4 0)]))] ++ zX2 g b1 zV_X2) ++ zX2 g b2 zV_X2) ++ [(q3, .inl (g.2.2.1, 4, .inr (.inr (.inr (.inr (fun j => some ((zcat 1 (zlst [h0]) (zcat 18 (b1) (zcat 18 (b2) (zcat 1 (zlst [q3]) (zcat 2 (b4) (zcat 18 (b5) (zcat 18 (b6) (zcat 18 (b7) b8)))))))) (40 + 18 * j))))))))]) ++ zX5 g b4 zV_X5) ++ zX2 g b5 zV_X2) ++ zX2 g b6 zV_X2) ++ zX2 g b7 zV_X2) ++ zX2 g b8 zV_X2) := hD
  simp only [List.append_assoc] at hP hD
  have hP : va_P g.1 vwCl (zX6 g (zcat 1 (zlst [h0]) (zcat 18 (b1) (zcat 18 (b2) (zcat 1 (zlst [q3]) (zcat 2 (b4) (zcat 18 (b5) (zcat 18 (b6) (zcat 18 (b7) b8)))))))) zV_X6) H := hP
  have hD : va_D A (zX6 g (zcat 1 (zlst [h0]) (zcat 18 (b1) (zcat 18 (b2) (zcat 1 (zlst [q3]) (zcat 2 (b4) (zcat 18 (b5) (zcat 18 (b6) (zcat 18 (b7) b8)))))))) zV_X6) := hD
  exact W.vret hx hb hr0 (fun t ht hW => ⟨⟨(zcat 1 (zlst [h0]) (zcat 18 (b1) (zcat 18 (b2) (zcat 1 (zlst [q3]) (zcat 2 (b4) (zcat 18 (b5) (zcat 18 (b6) (zcat 18 (b7) b8)))))))), rfl, rfl, by rw [ht]; exact hP, hD⟩, hS.F ht⟩) hS.2.2 dX6_init_76
