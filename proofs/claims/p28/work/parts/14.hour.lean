theorem hd_X2_copyFrom : yX2_copyFrom.cls ≠ "java/lang/invoke/MethodHandle" ∧ yX2_copyFrom.cls ≠ "java/lang/invoke/VarHandle" ∧ (parseMethodDescriptor yX2_copyFrom.desc).map (fun d => d.parameters.length) = some 1 := by decide +kernel
def f_X2_copyFrom (v : HV) (w : HV) : Option (HV) :=
  (f_X0_copyFrom v.1 w.1).bind (fun u1 =>
  (f_X1_copyFrom v.2.1 w.2.1).bind (fun u2 =>
  (f_X3_copyFrom v.2.2.1 w.2.2.1).bind (fun u3 =>
  some (u1, u2, u3, w.2.2.2.1, w.2.2.2.2.1, w.2.2.2.2.2.1, w.2.2.2.2.2.2.1, w.2.2.2.2.2.2.2.1, w.2.2.2.2.2.2.2.2.1, w.2.2.2.2.2.2.2.2.2.1, w.2.2.2.2.2.2.2.2.2.2))))
set_option maxHeartbeats 4000000 in
set_option maxRecDepth 100000 in
theorem c_X2_copyFrom (l : Launch) (g : zG) (a : Nat → Nat) (b : Nat → Nat) (v : HV) (w : HV) (r : HV) (hf : f_X2_copyFrom v w = some r) : zMv zNF zNM l yX2_copyFrom (zw yX2_copyFrom cX2_copyFrom 2 none) ({ frames := 2, cells := 0, slots := 0, locals := 61 } : Room) g [.ref (a 0), .ref (b 0)] (zX2 g a v ++ zX2 g b w) (zX2 g a r ++ zX2 g b w) := by
  intro sz
  refine Met.ofW (cc := cX2_copyFrom) (maxL := 2) (ret := none) (by decide) rfl ?_
  intro p e s m args below meth c s₁ B hml hv
  obtain ⟨rfl, hsz, hP, hK, hD0⟩ := hv
  have hx := B.exec
  have hb := B.bytes
  have hr0 := B.returns
  have hts := atoms_spec (ws := (zw yX2_copyFrom cX2_copyFrom 2 none)) B.pre
  have hw0 : ∀ w ∈ zW, w.before ([.ref (a 0), .ref (b 0)] : List Value).toArray s = true := fun w h => hts w (List.mem_cons_of_mem _ h)
  have hown : s.vm.findClass RX2 = some m.cls := findClass_of_methodNamed B.named
  have hlocks := B.notSynchronized
  subst hsz
  have hD := hD0.self (sz := s.heap.size)
  generalize hAe : va_A (zX2 g a v ++ zX2 g b w) s.heap.size = A at hD ⊢
  have hA : ∀ q : Nat, s.heap.size ≤ q → A q := fun q h => by rw [← hAe]; exact Or.inr h
  have hS : va_S A s.heap s.heap [] := va_S.rf
  unfold f_X2_copyFrom at hf
  have hl := lv_entry ([.ref (a 0), .ref (b 0)]) (n := 2) (Nat.le_of_ble_eq_true rfl)
  rw [lg_entry_eq]
  generalize (lg_sl ([.ref (a 0), .ref (b 0)]) ++ List.replicate (2 - (lg_sl ([.ref (a 0), .ref (b 0)])).length) Slot.unset).toArray = ls at hl ⊢
  have hl : lv_has ls 2 [(0, .ref (a 0)), (1, .ref (b 0))] := hl
  refine lv_aload_n hx hb dX2_copyFrom_0 rfl (lv_at hl 0 rfl) ?_
  refine va_get (D := g.1) (ci := 2) (v := .ref (a 1)) (C := RX2) (T := TX2) (N := 11) hx hb hw0 ziX2 hown hK.1 hP 0 rfl rfl 0 (by decide) (hw0 _ zm1_141) (fun _ h9 => h9) rfl dX2_copyFrom_1 ?_
  refine lv_aload_n hx hb dX2_copyFrom_4 rfl (lv_at hl 1 rfl) ?_
  refine va_get (D := g.1) (ci := 2) (v := .ref (b 1)) (C := RX2) (T := TX2) (N := 11) hx hb hw0 ziX2 hown hK.1 hP 18 rfl rfl 0 (by decide) (hw0 _ zm1_141) (fun _ h9 => h9) rfl dX2_copyFrom_5 ?_
  obtain ⟨u1, hu1, hf⟩ := ob hf
  refine zk_vZ (va_runVN (As := [.ref (b 1)]) (rest := []) ⟨hx, hb, hml, hown, hts⟩ (c_X0_copyFrom l g (fun k => a (k + 1)) (fun k => b (k + 1)) v.1 w.1 _ hu1 _) (zcN hw0 (zn_7 hK) zm2_100 zm1_3 zm2_99 zs1_4 hd_X0_copyFrom rfl rfl ⟨Nat.le_of_ble_eq_true rfl, Nat.le_of_ble_eq_true rfl⟩) ⟨zblind, zrecv (wc := zX0 g (fun k => a (k + 1)) v.1 ++ zX0 g (fun k => b (k + 1)) w.1) hK hP [1, 2, 3, 4, 5, 6, 19, 20, 21, 22, 23, 24] rfl (ci := 0) rfl rfl, zpre hK hP hD [1, 2, 3, 4, 5, 6, 19, 20, 21, 22, 23, 24] rfl rfl⟩ rfl rfl hl.1 rfl (lv_room (Nat.le_of_ble_eq_true rfl)) dX2_copyFrom_8 ⟨Nat.zero_le _, Nat.zero_le _⟩) hP hD hS hA [1, 2, 3, 4, 5, 6, 19, 20, 21, 22, 23, 24] rfl rfl (ztwo (is1 := List.range' 1 6) rfl (zrun (wc := zX0 g (fun k => a (k + 1)) v.1) (ws' := (zX2 g a (u1, v.2.1, v.2.2.1, v.2.2.2.1, v.2.2.2.2.1, v.2.2.2.2.2.1, v.2.2.2.2.2.2.1, v.2.2.2.2.2.2.2.1, v.2.2.2.2.2.2.2.2.1, v.2.2.2.2.2.2.2.2.2.1, v.2.2.2.2.2.2.2.2.2.2) ++ zX2 g b w)) 1 6 rfl rfl rfl rfl rfl) (zrun (wc := zX0 g (fun k => b (k + 1)) w.1) (ws' := (zX2 g a (u1, v.2.1, v.2.2.1, v.2.2.2.1, v.2.2.2.2.1, v.2.2.2.2.2.1, v.2.2.2.2.2.2.1, v.2.2.2.2.2.2.2.1, v.2.2.2.2.2.2.2.2.1, v.2.2.2.2.2.2.2.2.2.1, v.2.2.2.2.2.2.2.2.2.2) ++ zX2 g b w)) 19 6 rfl rfl rfl rfl rfl)) (fun H locs hP hD hS => ?_)
  have hP : va_P g.1 vwCl (zX2 g a (u1, v.2.1, v.2.2.1, v.2.2.2.1, v.2.2.2.2.1, v.2.2.2.2.2.1, v.2.2.2.2.2.2.1, v.2.2.2.2.2.2.2.1, v.2.2.2.2.2.2.2.2.1, v.2.2.2.2.2.2.2.2.2.1, v.2.2.2.2.2.2.2.2.2.2) ++ zX2 g b w) H := hP
  have hD : va_D A (zX2 g a (u1, v.2.1, v.2.2.1, v.2.2.2.1, v.2.2.2.2.1, v.2.2.2.2.2.1, v.2.2.2.2.2.2.1, v.2.2.2.2.2.2.2.1, v.2.2.2.2.2.2.2.2.1, v.2.2.2.2.2.2.2.2.2.1, v.2.2.2.2.2.2.2.2.2.2) ++ zX2 g b w) := hD
  refine lv_aload_n hx hb dX2_copyFrom_11 rfl (lv_at hl 0 rfl) ?_
  refine va_get (D := g.1) (ci := 2) (v := .ref (a 7)) (C := RX2) (T := TX2) (N := 11) hx hb hw0 ziX2 hown hK.1 hP 0 rfl rfl 1 (by decide) (hw0 _ zm1_143) (fun _ h9 => h9) rfl dX2_copyFrom_12 ?_
  refine lv_aload_n hx hb dX2_copyFrom_15 rfl (lv_at hl 1 rfl) ?_
  refine va_get (D := g.1) (ci := 2) (v := .ref (b 7)) (C := RX2) (T := TX2) (N := 11) hx hb hw0 ziX2 hown hK.1 hP 18 rfl rfl 1 (by decide) (hw0 _ zm1_143) (fun _ h9 => h9) rfl dX2_copyFrom_16 ?_
  obtain ⟨u2, hu2, hf⟩ := ob hf
  refine zk_vZ (va_runVN (As := [.ref (b 7)]) (rest := []) ⟨hx, hb, hml, hown, hts⟩ (c_X1_copyFrom l g (fun k => a (k + 7)) (fun k => b (k + 7)) v.2.1 w.2.1 _ hu2 _) (zcN hw0 (zn_8 hK) zm2_107 zm1_4 zm2_106 zs1_5 hd_X1_copyFrom rfl rfl ⟨Nat.le_of_ble_eq_true rfl, Nat.le_of_ble_eq_true rfl⟩) ⟨zblind, zrecv (wc := zX1 g (fun k => a (k + 7)) v.2.1 ++ zX1 g (fun k => b (k + 7)) w.2.1) hK hP [7, 8, 9, 10, 11, 12, 13, 25, 26, 27, 28, 29, 30, 31] rfl (ci := 1) rfl rfl, zpre hK hP hD [7, 8, 9, 10, 11, 12, 13, 25, 26, 27, 28, 29, 30, 31] rfl rfl⟩ rfl rfl hl.1 rfl (lv_room (Nat.le_of_ble_eq_true rfl)) dX2_copyFrom_19 ⟨Nat.zero_le _, Nat.zero_le _⟩) hP hD hS hA [7, 8, 9, 10, 11, 12, 13, 25, 26, 27, 28, 29, 30, 31] rfl rfl (ztwo (is1 := List.range' 7 7) rfl (zrun (wc := zX1 g (fun k => a (k + 7)) v.2.1) (ws' := (zX2 g a (u1, u2, v.2.2.1, v.2.2.2.1, v.2.2.2.2.1, v.2.2.2.2.2.1, v.2.2.2.2.2.2.1, v.2.2.2.2.2.2.2.1, v.2.2.2.2.2.2.2.2.1, v.2.2.2.2.2.2.2.2.2.1, v.2.2.2.2.2.2.2.2.2.2) ++ zX2 g b w)) 7 7 rfl rfl rfl rfl rfl) (zrun (wc := zX1 g (fun k => b (k + 7)) w.2.1) (ws' := (zX2 g a (u1, u2, v.2.2.1, v.2.2.2.1, v.2.2.2.2.1, v.2.2.2.2.2.1, v.2.2.2.2.2.2.1, v.2.2.2.2.2.2.2.1, v.2.2.2.2.2.2.2.2.1, v.2.2.2.2.2.2.2.2.2.1, v.2.2.2.2.2.2.2.2.2.2) ++ zX2 g b w)) 25 7 rfl rfl rfl rfl rfl)) (fun H locs hP hD hS => ?_)
  have hP : va_P g.1 vwCl (zX2 g a (u1, u2, v.2.2.1, v.2.2.2.1, v.2.2.2.2.1, v.2.2.2.2.2.1, v.2.2.2.2.2.2.1, v.2.2.2.2.2.2.2.1, v.2.2.2.2.2.2.2.2.1, v.2.2.2.2.2.2.2.2.2.1, v.2.2.2.2.2.2.2.2.2.2) ++ zX2 g b w) H := hP
  have hD : va_D A (zX2 g a (u1, u2, v.2.2.1, v.2.2.2.1, v.2.2.2.2.1, v.2.2.2.2.2.1, v.2.2.2.2.2.2.1, v.2.2.2.2.2.2.2.1, v.2.2.2.2.2.2.2.2.1, v.2.2.2.2.2.2.2.2.2.1, v.2.2.2.2.2.2.2.2.2.2) ++ zX2 g b w) := hD
  refine lv_aload_n hx hb dX2_copyFrom_22 rfl (lv_at hl 0 rfl) ?_
  refine va_get (D := g.1) (ci := 2) (v := .ref (a 14)) (C := RX2) (T := TX2) (N := 11) hx hb hw0 ziX2 hown hK.1 hP 0 rfl rfl 2 (by decide) (hw0 _ zm1_145) (fun _ h9 => h9) rfl dX2_copyFrom_23 ?_
  refine lv_aload_n hx hb dX2_copyFrom_26 rfl (lv_at hl 1 rfl) ?_
  refine va_get (D := g.1) (ci := 2) (v := .ref (b 14)) (C := RX2) (T := TX2) (N := 11) hx hb hw0 ziX2 hown hK.1 hP 18 rfl rfl 2 (by decide) (hw0 _ zm1_145) (fun _ h9 => h9) rfl dX2_copyFrom_27 ?_
  obtain ⟨u3, hu3, hf⟩ := ob hf
  refine zk_vZ (va_runVN (As := [.ref (b 14)]) (rest := []) ⟨hx, hb, hml, hown, hts⟩ (c_X3_copyFrom l g (fun k => a (k + 14)) (fun k => b (k + 14)) v.2.2.1 w.2.2.1 _ hu3 _) (zcN hw0 (zn_9 hK) zm2_112 zm1_6 zm2_111 zs1_6 hd_X3_copyFrom rfl rfl ⟨Nat.le_of_ble_eq_true rfl, Nat.le_of_ble_eq_true rfl⟩) ⟨zblind, zrecv (wc := zX3 g (fun k => a (k + 14)) v.2.2.1 ++ zX3 g (fun k => b (k + 14)) w.2.2.1) hK hP [14, 15, 16, 17, 32, 33, 34, 35] rfl (ci := 3) rfl rfl, zpre hK hP hD [14, 15, 16, 17, 32, 33, 34, 35] rfl rfl⟩ rfl rfl hl.1 rfl (lv_room (Nat.le_of_ble_eq_true rfl)) dX2_copyFrom_30 ⟨Nat.zero_le _, Nat.zero_le _⟩) hP hD hS hA [14, 15, 16, 17, 32, 33, 34, 35] rfl rfl (ztwo (is1 := List.range' 14 4) rfl (zrun (wc := zX3 g (fun k => a (k + 14)) v.2.2.1) (ws' := (zX2 g a (u1, u2, u3, v.2.2.2.1, v.2.2.2.2.1, v.2.2.2.2.2.1, v.2.2.2.2.2.2.1, v.2.2.2.2.2.2.2.1, v.2.2.2.2.2.2.2.2.1, v.2.2.2.2.2.2.2.2.2.1, v.2.2.2.2.2.2.2.2.2.2) ++ zX2 g b w)) 14 4 rfl rfl rfl rfl rfl) (zrun (wc := zX3 g (fun k => b (k + 14)) w.2.2.1) (ws' := (zX2 g a (u1, u2, u3, v.2.2.2.1, v.2.2.2.2.1, v.2.2.2.2.2.1, v.2.2.2.2.2.2.1, v.2.2.2.2.2.2.2.1, v.2.2.2.2.2.2.2.2.1, v.2.2.2.2.2.2.2.2.2.1, v.2.2.2.2.2.2.2.2.2.2) ++ zX2 g b w)) 32 4 rfl rfl rfl rfl rfl)) (fun H locs hP hD hS => ?_)
  have hP : va_P g.1 vwCl (zX2 g a (u1, u2, u3, v.2.2.2.1, v.2.2.2.2.1, v.2.2.2.2.2.1, v.2.2.2.2.2.2.1, v.2.2.2.2.2.2.2.1, v.2.2.2.2.2.2.2.2.1, v.2.2.2.2.2.2.2.2.2.1, v.2.2.2.2.2.2.2.2.2.2) ++ zX2 g b w) H := hP
  have hD : va_D A (zX2 g a (u1, u2, u3, v.2.2.2.1, v.2.2.2.2.1, v.2.2.2.2.2.1, v.2.2.2.2.2.2.1, v.2.2.2.2.2.2.2.1, v.2.2.2.2.2.2.2.2.1, v.2.2.2.2.2.2.2.2.2.1, v.2.2.2.2.2.2.2.2.2.2) ++ zX2 g b w) := hD
  refine lv_aload_n hx hb dX2_copyFrom_33 rfl (lv_at hl 0 rfl) ?_
  refine lv_aload_n hx hb dX2_copyFrom_34 rfl (lv_at hl 1 rfl) ?_
  refine va_get (D := g.1) (ci := 2) (v := .int w.2.2.2.1) (C := RX2) (T := TX2) (N := 11) hx hb hw0 ziX2 hown hK.1 hP 18 rfl rfl 3 (by decide) (hw0 _ zm1_147) (fun _ h9 => h9) rfl dX2_copyFrom_35 ?_
  refine va_put (D := g.1) (ci := 2) (v := .int w.2.2.2.1) (ty := .int) (C := RX2) (T := TX2) (N := 11) hx hb hw0 ziX2 tyX2 tyX2_ok nmX2 hown hK.1 hP hD hS 0 rfl rfl 3 (by decide) (hw0 _ zm1_147) (fun _ h9 => h9) rfl (tyX2_ok 3 (by decide)) rfl rfl (Nat.le_of_ble_eq_true rfl) dX2_copyFrom_38 (fun H locs hP hD hS => ?_)
  have hP : va_P g.1 vwCl (zX2 g a (u1, u2, u3, w.2.2.2.1, v.2.2.2.2.1, v.2.2.2.2.2.1, v.2.2.2.2.2.2.1, v.2.2.2.2.2.2.2.1, v.2.2.2.2.2.2.2.2.1, v.2.2.2.2.2.2.2.2.2.1, v.2.2.2.2.2.2.2.2.2.2) ++ zX2 g b w) H := hP
  have hD : va_D A (zX2 g a (u1, u2, u3, w.2.2.2.1, v.2.2.2.2.1, v.2.2.2.2.2.1, v.2.2.2.2.2.2.1, v.2.2.2.2.2.2.2.1, v.2.2.2.2.2.2.2.2.1, v.2.2.2.2.2.2.2.2.2.1, v.2.2.2.2.2.2.2.2.2.2) ++ zX2 g b w) := hD
  refine lv_aload_n hx hb dX2_copyFrom_41 rfl (lv_at hl 0 rfl) ?_
  refine lv_aload_n hx hb dX2_copyFrom_42 rfl (lv_at hl 1 rfl) ?_
  refine va_get (D := g.1) (ci := 2) (v := .int (zb w.2.2.2.2.1)) (C := RX2) (T := TX2) (N := 11) hx hb hw0 ziX2 hown hK.1 hP 18 rfl rfl 4 (by decide) (hw0 _ zm1_149) (fun _ h9 => h9) rfl dX2_copyFrom_43 ?_
  refine va_put (D := g.1) (ci := 2) (v := .int (zb w.2.2.2.2.1)) (ty := .boolean) (C := RX2) (T := TX2) (N := 11) hx hb hw0 ziX2 tyX2 tyX2_ok nmX2 hown hK.1 hP hD hS 0 rfl rfl 4 (by decide) (hw0 _ zm1_149) (fun _ h9 => h9) rfl (tyX2_ok 4 (by decide)) (zb_nar w.2.2.2.2.1) (zb_fit w.2.2.2.2.1) (Nat.le_of_ble_eq_true rfl) dX2_copyFrom_46 (fun H locs hP hD hS => ?_)
  have hP : va_P g.1 vwCl (zX2 g a (u1, u2, u3, w.2.2.2.1, w.2.2.2.2.1, v.2.2.2.2.2.1, v.2.2.2.2.2.2.1, v.2.2.2.2.2.2.2.1, v.2.2.2.2.2.2.2.2.1, v.2.2.2.2.2.2.2.2.2.1, v.2.2.2.2.2.2.2.2.2.2) ++ zX2 g b w) H := hP
  have hD : va_D A (zX2 g a (u1, u2, u3, w.2.2.2.1, w.2.2.2.2.1, v.2.2.2.2.2.1, v.2.2.2.2.2.2.1, v.2.2.2.2.2.2.2.1, v.2.2.2.2.2.2.2.2.1, v.2.2.2.2.2.2.2.2.2.1, v.2.2.2.2.2.2.2.2.2.2) ++ zX2 g b w) := hD
  refine lv_aload_n hx hb dX2_copyFrom_49 rfl (lv_at hl 0 rfl) ?_
  refine lv_aload_n hx hb dX2_copyFrom_50 rfl (lv_at hl 1 rfl) ?_
  refine va_get (D := g.1) (ci := 2) (v := .int w.2.2.2.2.2.1) (C := RX2) (T := TX2) (N := 11) hx hb hw0 ziX2 hown hK.1 hP 18 rfl rfl 5 (by decide) (hw0 _ zm1_151) (fun _ h9 => h9) rfl dX2_copyFrom_51 ?_
  refine va_put (D := g.1) (ci := 2) (v := .int w.2.2.2.2.2.1) (ty := .int) (C := RX2) (T := TX2) (N := 11) hx hb hw0 ziX2 tyX2 tyX2_ok nmX2 hown hK.1 hP hD hS 0 rfl rfl 5 (by decide) (hw0 _ zm1_151) (fun _ h9 => h9) rfl (tyX2_ok 5 (by decide)) rfl rfl (Nat.le_of_ble_eq_true rfl) dX2_copyFrom_54 (fun H locs hP hD hS => ?_)
  have hP : va_P g.1 vwCl (zX2 g a (u1, u2, u3, w.2.2.2.1, w.2.2.2.2.1, w.2.2.2.2.2.1, v.2.2.2.2.2.2.1, v.2.2.2.2.2.2.2.1, v.2.2.2.2.2.2.2.2.1, v.2.2.2.2.2.2.2.2.2.1, v.2.2.2.2.2.2.2.2.2.2) ++ zX2 g b w) H := hP
  have hD : va_D A (zX2 g a (u1, u2, u3, w.2.2.2.1, w.2.2.2.2.1, w.2.2.2.2.2.1, v.2.2.2.2.2.2.1, v.2.2.2.2.2.2.2.1, v.2.2.2.2.2.2.2.2.1, v.2.2.2.2.2.2.2.2.2.1, v.2.2.2.2.2.2.2.2.2.2) ++ zX2 g b w) := hD
  refine lv_aload_n hx hb dX2_copyFrom_57 rfl (lv_at hl 0 rfl) ?_
  refine lv_aload_n hx hb dX2_copyFrom_58 rfl (lv_at hl 1 rfl) ?_
  refine va_get (D := g.1) (ci := 2) (v := .int w.2.2.2.2.2.2.1) (C := RX2) (T := TX2) (N := 11) hx hb hw0 ziX2 hown hK.1 hP 18 rfl rfl 6 (by decide) (hw0 _ zm1_153) (fun _ h9 => h9) rfl dX2_copyFrom_59 ?_
  refine va_put (D := g.1) (ci := 2) (v := .int w.2.2.2.2.2.2.1) (ty := .int) (C := RX2) (T := TX2) (N := 11) hx hb hw0 ziX2 tyX2 tyX2_ok nmX2 hown hK.1 hP hD hS 0 rfl rfl 6 (by decide) (hw0 _ zm1_153) (fun _ h9 => h9) rfl (tyX2_ok 6 (by decide)) rfl rfl (Nat.le_of_ble_eq_true rfl) dX2_copyFrom_62 (fun H locs hP hD hS => ?_)
  have hP : va_P g.1 vwCl (zX2 g a (u1, u2, u3, w.2.2.2.1, w.2.2.2.2.1, w.2.2.2.2.2.1, w.2.2.2.2.2.2.1, v.2.2.2.2.2.2.2.1, v.2.2.2.2.2.2.2.2.1, v.2.2.2.2.2.2.2.2.2.1, v.2.2.2.2.2.2.2.2.2.2) ++ zX2 g b w) H := hP
  have hD : va_D A (zX2 g a (u1, u2, u3, w.2.2.2.1, w.2.2.2.2.1, w.2.2.2.2.2.1, w.2.2.2.2.2.2.1, v.2.2.2.2.2.2.2.1, v.2.2.2.2.2.2.2.2.1, v.2.2.2.2.2.2.2.2.2.1, v.2.2.2.2.2.2.2.2.2.2) ++ zX2 g b w) := hD
  refine lv_aload_n hx hb dX2_copyFrom_65 rfl (lv_at hl 0 rfl) ?_
  refine lv_aload_n hx hb dX2_copyFrom_66 rfl (lv_at hl 1 rfl) ?_
  refine va_get (D := g.1) (ci := 2) (v := .int w.2.2.2.2.2.2.2.1) (C := RX2) (T := TX2) (N := 11) hx hb hw0 ziX2 hown hK.1 hP 18 rfl rfl 7 (by decide) (hw0 _ zm1_154) (fun _ h9 => h9) rfl dX2_copyFrom_67 ?_
  refine va_put (D := g.1) (ci := 2) (v := .int w.2.2.2.2.2.2.2.1) (ty := .int) (C := RX2) (T := TX2) (N := 11) hx hb hw0 ziX2 tyX2 tyX2_ok nmX2 hown hK.1 hP hD hS 0 rfl rfl 7 (by decide) (hw0 _ zm1_154) (fun _ h9 => h9) rfl (tyX2_ok 7 (by decide)) rfl rfl (Nat.le_of_ble_eq_true rfl) dX2_copyFrom_70 (fun H locs hP hD hS => ?_)
  have hP : va_P g.1 vwCl (zX2 g a (u1, u2, u3, w.2.2.2.1, w.2.2.2.2.1, w.2.2.2.2.2.1, w.2.2.2.2.2.2.1, w.2.2.2.2.2.2.2.1, v.2.2.2.2.2.2.2.2.1, v.2.2.2.2.2.2.2.2.2.1, v.2.2.2.2.2.2.2.2.2.2) ++ zX2 g b w) H := hP
  have hD : va_D A (zX2 g a (u1, u2, u3, w.2.2.2.1, w.2.2.2.2.1, w.2.2.2.2.2.1, w.2.2.2.2.2.2.1, w.2.2.2.2.2.2.2.1, v.2.2.2.2.2.2.2.2.1, v.2.2.2.2.2.2.2.2.2.1, v.2.2.2.2.2.2.2.2.2.2) ++ zX2 g b w) := hD
  refine lv_aload_n hx hb dX2_copyFrom_73 rfl (lv_at hl 0 rfl) ?_
  refine lv_aload_n hx hb dX2_copyFrom_74 rfl (lv_at hl 1 rfl) ?_
  refine va_get (D := g.1) (ci := 2) (v := .int w.2.2.2.2.2.2.2.2.1) (C := RX2) (T := TX2) (N := 11) hx hb hw0 ziX2 hown hK.1 hP 18 rfl rfl 8 (by decide) (hw0 _ zm1_156) (fun _ h9 => h9) rfl dX2_copyFrom_75 ?_
  refine va_put (D := g.1) (ci := 2) (v := .int w.2.2.2.2.2.2.2.2.1) (ty := .int) (C := RX2) (T := TX2) (N := 11) hx hb hw0 ziX2 tyX2 tyX2_ok nmX2 hown hK.1 hP hD hS 0 rfl rfl 8 (by decide) (hw0 _ zm1_156) (fun _ h9 => h9) rfl (tyX2_ok 8 (by decide)) rfl rfl (Nat.le_of_ble_eq_true rfl) dX2_copyFrom_78 (fun H locs hP hD hS => ?_)
  have hP : va_P g.1 vwCl (zX2 g a (u1, u2, u3, w.2.2.2.1, w.2.2.2.2.1, w.2.2.2.2.2.1, w.2.2.2.2.2.2.1, w.2.2.2.2.2.2.2.1, w.2.2.2.2.2.2.2.2.1, v.2.2.2.2.2.2.2.2.2.1, v.2.2.2.2.2.2.2.2.2.2) ++ zX2 g b w) H := hP
  have hD : va_D A (zX2 g a (u1, u2, u3, w.2.2.2.1, w.2.2.2.2.1, w.2.2.2.2.2.1, w.2.2.2.2.2.2.1, w.2.2.2.2.2.2.2.1, w.2.2.2.2.2.2.2.2.1, v.2.2.2.2.2.2.2.2.2.1, v.2.2.2.2.2.2.2.2.2.2) ++ zX2 g b w) := hD
  refine lv_aload_n hx hb dX2_copyFrom_81 rfl (lv_at hl 0 rfl) ?_
  refine lv_aload_n hx hb dX2_copyFrom_82 rfl (lv_at hl 1 rfl) ?_
  refine va_get (D := g.1) (ci := 2) (v := .int w.2.2.2.2.2.2.2.2.2.1) (C := RX2) (T := TX2) (N := 11) hx hb hw0 ziX2 hown hK.1 hP 18 rfl rfl 9 (by decide) (hw0 _ zm1_157) (fun _ h9 => h9) rfl dX2_copyFrom_83 ?_
  refine va_put (D := g.1) (ci := 2) (v := .int w.2.2.2.2.2.2.2.2.2.1) (ty := .int) (C := RX2) (T := TX2) (N := 11) hx hb hw0 ziX2 tyX2 tyX2_ok nmX2 hown hK.1 hP hD hS 0 rfl rfl 9 (by decide) (hw0 _ zm1_157) (fun _ h9 => h9) rfl (tyX2_ok 9 (by decide)) rfl rfl (Nat.le_of_ble_eq_true rfl) dX2_copyFrom_86 (fun H locs hP hD hS => ?_)
  have hP : va_P g.1 vwCl (zX2 g a (u1, u2, u3, w.2.2.2.1, w.2.2.2.2.1, w.2.2.2.2.2.1, w.2.2.2.2.2.2.1, w.2.2.2.2.2.2.2.1, w.2.2.2.2.2.2.2.2.1, w.2.2.2.2.2.2.2.2.2.1, v.2.2.2.2.2.2.2.2.2.2) ++ zX2 g b w) H := hP
  have hD : va_D A (zX2 g a (u1, u2, u3, w.2.2.2.1, w.2.2.2.2.1, w.2.2.2.2.2.1, w.2.2.2.2.2.2.1, w.2.2.2.2.2.2.2.1, w.2.2.2.2.2.2.2.2.1, w.2.2.2.2.2.2.2.2.2.1, v.2.2.2.2.2.2.2.2.2.2) ++ zX2 g b w) := hD
  refine lv_aload_n hx hb dX2_copyFrom_89 rfl (lv_at hl 0 rfl) ?_
  refine lv_aload_n hx hb dX2_copyFrom_90 rfl (lv_at hl 1 rfl) ?_
  refine va_get (D := g.1) (ci := 2) (v := .int w.2.2.2.2.2.2.2.2.2.2) (C := RX2) (T := TX2) (N := 11) hx hb hw0 ziX2 hown hK.1 hP 18 rfl rfl 10 (by decide) (hw0 _ zm1_158) (fun _ h9 => h9) rfl dX2_copyFrom_91 ?_
  refine va_put (D := g.1) (ci := 2) (v := .int w.2.2.2.2.2.2.2.2.2.2) (ty := .int) (C := RX2) (T := TX2) (N := 11) hx hb hw0 ziX2 tyX2 tyX2_ok nmX2 hown hK.1 hP hD hS 0 rfl rfl 10 (by decide) (hw0 _ zm1_158) (fun _ h9 => h9) rfl (tyX2_ok 10 (by decide)) rfl rfl (Nat.le_of_ble_eq_true rfl) dX2_copyFrom_94 (fun H locs hP hD hS => ?_)
  have hP : va_P g.1 vwCl (zX2 g a (u1, u2, u3, w.2.2.2.1, w.2.2.2.2.1, w.2.2.2.2.2.1, w.2.2.2.2.2.2.1, w.2.2.2.2.2.2.2.1, w.2.2.2.2.2.2.2.2.1, w.2.2.2.2.2.2.2.2.2.1, w.2.2.2.2.2.2.2.2.2.2) ++ zX2 g b w) H := hP
  have hD : va_D A (zX2 g a (u1, u2, u3, w.2.2.2.1, w.2.2.2.2.1, w.2.2.2.2.2.1, w.2.2.2.2.2.2.1, w.2.2.2.2.2.2.2.1, w.2.2.2.2.2.2.2.2.1, w.2.2.2.2.2.2.2.2.2.1, w.2.2.2.2.2.2.2.2.2.2) ++ zX2 g b w) := hD
  have hR : (u1, u2, u3, w.2.2.2.1, w.2.2.2.2.1, w.2.2.2.2.2.1, w.2.2.2.2.2.2.1, w.2.2.2.2.2.2.2.1, w.2.2.2.2.2.2.2.2.1, w.2.2.2.2.2.2.2.2.2.1, w.2.2.2.2.2.2.2.2.2.2) = r := Option.some.inj hf
  subst hR
  exact W.vret hx hb hr0 (fun t ht hW => ⟨⟨(), rfl, trivial, by rw [ht]; exact hP, hD⟩, hS.F ht⟩) hS.2.2 dX2_copyFrom_97
theorem hd_X2_clearAir : yX2_clearAir.cls ≠ "java/lang/invoke/MethodHandle" ∧ yX2_clearAir.cls ≠ "java/lang/invoke/VarHandle" ∧ (parseMethodDescriptor yX2_clearAir.desc).map (fun d => d.parameters.length) = some 0 := by decide +kernel
def f_X2_clearAir (v : HV) : Option (HV) :=
  some (v.1, v.2.1, v.2.2.1, v.2.2.2.1, v.2.2.2.2.1, v.2.2.2.2.2.1, v.2.2.2.2.2.2.1, v.2.2.2.2.2.2.2.1, (-1), (-1), 0)
set_option maxHeartbeats 4000000 in
set_option maxRecDepth 100000 in
theorem c_X2_clearAir (l : Launch) (g : zG) (a : Nat → Nat) (v : HV) (r : HV) (hf : f_X2_clearAir v = some r) : zMv zNF zNM l yX2_clearAir (zw yX2_clearAir cX2_clearAir 1 none) ({ frames := 0, cells := 0, slots := 0, locals := 0 } : Room) g [.ref (a 0)] (zX2 g a v) (zX2 g a r) := by
  intro sz
  refine Met.ofW (cc := cX2_clearAir) (maxL := 1) (ret := none) (by decide) rfl ?_
  intro p e s m args below meth c s₁ B hml hv
  obtain ⟨rfl, hsz, hP, hK, hD0⟩ := hv
  have hx := B.exec
  have hb := B.bytes
  have hr0 := B.returns
  have hts := atoms_spec (ws := (zw yX2_clearAir cX2_clearAir 1 none)) B.pre
  have hw0 : ∀ w ∈ zW, w.before ([.ref (a 0)] : List Value).toArray s = true := fun w h => hts w (List.mem_cons_of_mem _ h)
  have hown : s.vm.findClass RX2 = some m.cls := findClass_of_methodNamed B.named
  have hlocks := B.notSynchronized
  subst hsz
  have hD := hD0.self (sz := s.heap.size)
  generalize hAe : va_A (zX2 g a v) s.heap.size = A at hD ⊢
  have hA : ∀ q : Nat, s.heap.size ≤ q → A q := fun q h => by rw [← hAe]; exact Or.inr h
  have hS : va_S A s.heap s.heap [] := va_S.rf
  unfold f_X2_clearAir at hf
  have hl := lv_entry ([.ref (a 0)]) (n := 1) (Nat.le_of_ble_eq_true rfl)
  rw [lg_entry_eq]
  generalize (lg_sl ([.ref (a 0)]) ++ List.replicate (1 - (lg_sl ([.ref (a 0)])).length) Slot.unset).toArray = ls at hl ⊢
  have hl : lv_has ls 1 [(0, .ref (a 0))] := hl
  refine lv_aload_n hx hb dX2_clearAir_0 rfl (lv_at hl 0 rfl) ?_
  refine lv_iconst (v := (-1)) hx hb dX2_clearAir_1 (by decide) ?_
  refine va_put (D := g.1) (ci := 2) (v := .int (-1)) (ty := .int) (C := RX2) (T := TX2) (N := 11) hx hb hw0 ziX2 tyX2 tyX2_ok nmX2 hown hK.1 hP hD hS 0 rfl rfl 8 (by decide) (hw0 _ zm1_156) (fun _ h9 => h9) rfl (tyX2_ok 8 (by decide)) rfl rfl (Nat.le_of_ble_eq_true rfl) dX2_clearAir_2 (fun H locs hP hD hS => ?_)
  have hP : va_P g.1 vwCl (zX2 g a (v.1, v.2.1, v.2.2.1, v.2.2.2.1, v.2.2.2.2.1, v.2.2.2.2.2.1, v.2.2.2.2.2.2.1, v.2.2.2.2.2.2.2.1, (-1), v.2.2.2.2.2.2.2.2.2.1, v.2.2.2.2.2.2.2.2.2.2)) H := hP
  have hD : va_D A (zX2 g a (v.1, v.2.1, v.2.2.1, v.2.2.2.1, v.2.2.2.2.1, v.2.2.2.2.2.1, v.2.2.2.2.2.2.1, v.2.2.2.2.2.2.2.1, (-1), v.2.2.2.2.2.2.2.2.2.1, v.2.2.2.2.2.2.2.2.2.2)) := hD
  refine lv_aload_n hx hb dX2_clearAir_5 rfl (lv_at hl 0 rfl) ?_
  refine lv_iconst (v := (-1)) hx hb dX2_clearAir_6 (by decide) ?_
  refine va_put (D := g.1) (ci := 2) (v := .int (-1)) (ty := .int) (C := RX2) (T := TX2) (N := 11) hx hb hw0 ziX2 tyX2 tyX2_ok nmX2 hown hK.1 hP hD hS 0 rfl rfl 9 (by decide) (hw0 _ zm1_157) (fun _ h9 => h9) rfl (tyX2_ok 9 (by decide)) rfl rfl (Nat.le_of_ble_eq_true rfl) dX2_clearAir_7 (fun H locs hP hD hS => ?_)
  have hP : va_P g.1 vwCl (zX2 g a (v.1, v.2.1, v.2.2.1, v.2.2.2.1, v.2.2.2.2.1, v.2.2.2.2.2.1, v.2.2.2.2.2.2.1, v.2.2.2.2.2.2.2.1, (-1), (-1), v.2.2.2.2.2.2.2.2.2.2)) H := hP
  have hD : va_D A (zX2 g a (v.1, v.2.1, v.2.2.1, v.2.2.2.1, v.2.2.2.2.1, v.2.2.2.2.2.1, v.2.2.2.2.2.2.1, v.2.2.2.2.2.2.2.1, (-1), (-1), v.2.2.2.2.2.2.2.2.2.2)) := hD
  refine lv_aload_n hx hb dX2_clearAir_10 rfl (lv_at hl 0 rfl) ?_
  refine lv_iconst (v := 0) hx hb dX2_clearAir_11 (by decide) ?_
  refine va_put (D := g.1) (ci := 2) (v := .int 0) (ty := .int) (C := RX2) (T := TX2) (N := 11) hx hb hw0 ziX2 tyX2 tyX2_ok nmX2 hown hK.1 hP hD hS 0 rfl rfl 10 (by decide) (hw0 _ zm1_158) (fun _ h9 => h9) rfl (tyX2_ok 10 (by decide)) rfl rfl (Nat.le_of_ble_eq_true rfl) dX2_clearAir_12 (fun H locs hP hD hS => ?_)
  have hP : va_P g.1 vwCl (zX2 g a (v.1, v.2.1, v.2.2.1, v.2.2.2.1, v.2.2.2.2.1, v.2.2.2.2.2.1, v.2.2.2.2.2.2.1, v.2.2.2.2.2.2.2.1, (-1), (-1), 0)) H := hP
  have hD : va_D A (zX2 g a (v.1, v.2.1, v.2.2.1, v.2.2.2.1, v.2.2.2.2.1, v.2.2.2.2.2.1, v.2.2.2.2.2.2.1, v.2.2.2.2.2.2.2.1, (-1), (-1), 0)) := hD
  have hR : (v.1, v.2.1, v.2.2.1, v.2.2.2.1, v.2.2.2.2.1, v.2.2.2.2.2.1, v.2.2.2.2.2.2.1, v.2.2.2.2.2.2.2.1, (-1), (-1), 0) = r := Option.some.inj hf
  subst hR
  exact W.vret hx hb hr0 (fun t ht hW => ⟨⟨(), rfl, trivial, by rw [ht]; exact hP, hD⟩, hS.F ht⟩) hS.2.2 dX2_clearAir_15
theorem hd_X2_beginAnew : yX2_beginAnew.cls ≠ "java/lang/invoke/MethodHandle" ∧ yX2_beginAnew.cls ≠ "java/lang/invoke/VarHandle" ∧ (parseMethodDescriptor yX2_beginAnew.desc).map (fun d => d.parameters.length) = some 0 := by decide +kernel
def f_X2_beginAnew (v : HV) : Option (HV) :=
  (f_X0_allWait v.1).bind (fun u1 =>
  (f_X1_allWait v.2.1).bind (fun u2 =>
  (f_X2_clearAir (u1, u2, (0, v.2.2.1.2.1, v.2.2.1.2.2.1, v.2.2.1.2.2.2), 0, false, 0, 0, v.2.2.2.2.2.2.2.1, v.2.2.2.2.2.2.2.2.1, v.2.2.2.2.2.2.2.2.2.1, v.2.2.2.2.2.2.2.2.2.2)).bind (fun u3 =>
  some u3)))
set_option maxHeartbeats 4000000 in
set_option maxRecDepth 100000 in
theorem c_X2_beginAnew (l : Launch) (g : zG) (a : Nat → Nat) (v : HV) (r : HV) (hf : f_X2_beginAnew v = some r) : zMv zNF zNM l yX2_beginAnew (zw yX2_beginAnew cX2_beginAnew 1 none) ({ frames := 1, cells := 0, slots := 0, locals := 21 } : Room) g [.ref (a 0)] (zX2 g a v) (zX2 g a r) := by
  intro sz
  refine Met.ofW (cc := cX2_beginAnew) (maxL := 1) (ret := none) (by decide) rfl ?_
  intro p e s m args below meth c s₁ B hml hv
  obtain ⟨rfl, hsz, hP, hK, hD0⟩ := hv
  have hx := B.exec
  have hb := B.bytes
  have hr0 := B.returns
  have hts := atoms_spec (ws := (zw yX2_beginAnew cX2_beginAnew 1 none)) B.pre
  have hw0 : ∀ w ∈ zW, w.before ([.ref (a 0)] : List Value).toArray s = true := fun w h => hts w (List.mem_cons_of_mem _ h)
  have hown : s.vm.findClass RX2 = some m.cls := findClass_of_methodNamed B.named
  have hlocks := B.notSynchronized
  subst hsz
  have hD := hD0.self (sz := s.heap.size)
  generalize hAe : va_A (zX2 g a v) s.heap.size = A at hD ⊢
  have hA : ∀ q : Nat, s.heap.size ≤ q → A q := fun q h => by rw [← hAe]; exact Or.inr h
  have hS : va_S A s.heap s.heap [] := va_S.rf
  unfold f_X2_beginAnew at hf
  have hl := lv_entry ([.ref (a 0)]) (n := 1) (Nat.le_of_ble_eq_true rfl)
  rw [lg_entry_eq]
  generalize (lg_sl ([.ref (a 0)]) ++ List.replicate (1 - (lg_sl ([.ref (a 0)])).length) Slot.unset).toArray = ls at hl ⊢
  have hl : lv_has ls 1 [(0, .ref (a 0))] := hl
  refine lv_aload_n hx hb dX2_beginAnew_0 rfl (lv_at hl 0 rfl) ?_
  refine va_get (D := g.1) (ci := 2) (v := .ref (a 1)) (C := RX2) (T := TX2) (N := 11) hx hb hw0 ziX2 hown hK.1 hP 0 rfl rfl 0 (by decide) (hw0 _ zm1_141) (fun _ h9 => h9) rfl dX2_beginAnew_1 ?_
  obtain ⟨u1, hu1, hf⟩ := ob hf
  refine zk_v (va_runVN (As := []) (rest := []) ⟨hx, hb, hml, hown, hts⟩ (c_X0_allWait l g (fun k => a (k + 1)) v.1 _ hu1 _) (zcN hw0 (zn_25 hK) zm3_3 zm1_3 zm3_2 zs2_6 hd_X0_allWait rfl rfl ⟨Nat.le_of_ble_eq_true rfl, Nat.le_of_ble_eq_true rfl⟩) ⟨zblind, zrecv (wc := zX0 g (fun k => a (k + 1)) v.1) hK hP [1, 2, 3, 4, 5, 6] rfl (ci := 0) rfl rfl, zpre hK hP hD [1, 2, 3, 4, 5, 6] rfl rfl⟩ rfl rfl hl.1 rfl (lv_room (Nat.le_of_ble_eq_true rfl)) dX2_beginAnew_4 ⟨Nat.zero_le _, Nat.zero_le _⟩) hP hD hS hA [1, 2, 3, 4, 5, 6] rfl rfl (fun H locs hP hD hS => ?_)
  have hP : va_P g.1 vwCl (zX2 g a (u1, v.2.1, v.2.2.1, v.2.2.2.1, v.2.2.2.2.1, v.2.2.2.2.2.1, v.2.2.2.2.2.2.1, v.2.2.2.2.2.2.2.1, v.2.2.2.2.2.2.2.2.1, v.2.2.2.2.2.2.2.2.2.1, v.2.2.2.2.2.2.2.2.2.2)) H := hP
  have hD : va_D A (zX2 g a (u1, v.2.1, v.2.2.1, v.2.2.2.1, v.2.2.2.2.1, v.2.2.2.2.2.1, v.2.2.2.2.2.2.1, v.2.2.2.2.2.2.2.1, v.2.2.2.2.2.2.2.2.1, v.2.2.2.2.2.2.2.2.2.1, v.2.2.2.2.2.2.2.2.2.2)) := hD
  refine lv_aload_n hx hb dX2_beginAnew_7 rfl (lv_at hl 0 rfl) ?_
  refine va_get (D := g.1) (ci := 2) (v := .ref (a 7)) (C := RX2) (T := TX2) (N := 11) hx hb hw0 ziX2 hown hK.1 hP 0 rfl rfl 1 (by decide) (hw0 _ zm1_143) (fun _ h9 => h9) rfl dX2_beginAnew_8 ?_
  obtain ⟨u2, hu2, hf⟩ := ob hf
  refine zk_v (va_runVN (As := []) (rest := []) ⟨hx, hb, hml, hown, hts⟩ (c_X1_allWait l g (fun k => a (k + 7)) v.2.1 _ hu2 _) (zcN hw0 (zn_26 hK) zm3_7 zm1_4 zm3_6 zs2_7 hd_X1_allWait rfl rfl ⟨Nat.le_of_ble_eq_true rfl, Nat.le_of_ble_eq_true rfl⟩) ⟨zblind, zrecv (wc := zX1 g (fun k => a (k + 7)) v.2.1) hK hP [7, 8, 9, 10, 11, 12, 13] rfl (ci := 1) rfl rfl, zpre hK hP hD [7, 8, 9, 10, 11, 12, 13] rfl rfl⟩ rfl rfl hl.1 rfl (lv_room (Nat.le_of_ble_eq_true rfl)) dX2_beginAnew_11 ⟨Nat.zero_le _, Nat.zero_le _⟩) hP hD hS hA [7, 8, 9, 10, 11, 12, 13] rfl rfl (fun H locs hP hD hS => ?_)
  have hP : va_P g.1 vwCl (zX2 g a (u1, u2, v.2.2.1, v.2.2.2.1, v.2.2.2.2.1, v.2.2.2.2.2.1, v.2.2.2.2.2.2.1, v.2.2.2.2.2.2.2.1, v.2.2.2.2.2.2.2.2.1, v.2.2.2.2.2.2.2.2.2.1, v.2.2.2.2.2.2.2.2.2.2)) H := hP
  have hD : va_D A (zX2 g a (u1, u2, v.2.2.1, v.2.2.2.1, v.2.2.2.2.1, v.2.2.2.2.2.1, v.2.2.2.2.2.2.1, v.2.2.2.2.2.2.2.1, v.2.2.2.2.2.2.2.2.1, v.2.2.2.2.2.2.2.2.2.1, v.2.2.2.2.2.2.2.2.2.2)) := hD
  refine lv_aload_n hx hb dX2_beginAnew_14 rfl (lv_at hl 0 rfl) ?_
  refine va_get (D := g.1) (ci := 2) (v := .ref (a 14)) (C := RX2) (T := TX2) (N := 11) hx hb hw0 ziX2 hown hK.1 hP 0 rfl rfl 2 (by decide) (hw0 _ zm1_145) (fun _ h9 => h9) rfl dX2_beginAnew_15 ?_
  refine lv_iconst (v := 0) hx hb dX2_beginAnew_18 (by decide) ?_
  refine va_putN (D := g.1) (ci := 3) (v := .int 0) (ty := .int) (C := RX3) (T := TX3) (N := 4) hx hb hw0 ziX3 tyX3 tyX3_ok nmX3 hown hK.1 hP hD hS 14 rfl rfl 0 (by decide) (va_Nw.use rfl (zf_17 hK)) (fun _ h9 => h9) rfl (tyX3_ok 0 (by decide)) rfl rfl (Nat.le_of_ble_eq_true rfl) dX2_beginAnew_19 (fun H locs hP hD hS => ?_)
  have hP : va_P g.1 vwCl (zX2 g a (u1, u2, (0, v.2.2.1.2.1, v.2.2.1.2.2.1, v.2.2.1.2.2.2), v.2.2.2.1, v.2.2.2.2.1, v.2.2.2.2.2.1, v.2.2.2.2.2.2.1, v.2.2.2.2.2.2.2.1, v.2.2.2.2.2.2.2.2.1, v.2.2.2.2.2.2.2.2.2.1, v.2.2.2.2.2.2.2.2.2.2)) H := hP
  have hD : va_D A (zX2 g a (u1, u2, (0, v.2.2.1.2.1, v.2.2.1.2.2.1, v.2.2.1.2.2.2), v.2.2.2.1, v.2.2.2.2.1, v.2.2.2.2.2.1, v.2.2.2.2.2.2.1, v.2.2.2.2.2.2.2.1, v.2.2.2.2.2.2.2.2.1, v.2.2.2.2.2.2.2.2.2.1, v.2.2.2.2.2.2.2.2.2.2)) := hD
  refine lv_aload_n hx hb dX2_beginAnew_22 rfl (lv_at hl 0 rfl) ?_
  refine lv_iconst (v := 0) hx hb dX2_beginAnew_23 (by decide) ?_
  refine va_put (D := g.1) (ci := 2) (v := .int 0) (ty := .int) (C := RX2) (T := TX2) (N := 11) hx hb hw0 ziX2 tyX2 tyX2_ok nmX2 hown hK.1 hP hD hS 0 rfl rfl 3 (by decide) (hw0 _ zm1_147) (fun _ h9 => h9) rfl (tyX2_ok 3 (by decide)) rfl rfl (Nat.le_of_ble_eq_true rfl) dX2_beginAnew_24 (fun H locs hP hD hS => ?_)
  have hP : va_P g.1 vwCl (zX2 g a (u1, u2, (0, v.2.2.1.2.1, v.2.2.1.2.2.1, v.2.2.1.2.2.2), 0, v.2.2.2.2.1, v.2.2.2.2.2.1, v.2.2.2.2.2.2.1, v.2.2.2.2.2.2.2.1, v.2.2.2.2.2.2.2.2.1, v.2.2.2.2.2.2.2.2.2.1, v.2.2.2.2.2.2.2.2.2.2)) H := hP
  have hD : va_D A (zX2 g a (u1, u2, (0, v.2.2.1.2.1, v.2.2.1.2.2.1, v.2.2.1.2.2.2), 0, v.2.2.2.2.1, v.2.2.2.2.2.1, v.2.2.2.2.2.2.1, v.2.2.2.2.2.2.2.1, v.2.2.2.2.2.2.2.2.1, v.2.2.2.2.2.2.2.2.2.1, v.2.2.2.2.2.2.2.2.2.2)) := hD
  refine lv_aload_n hx hb dX2_beginAnew_27 rfl (lv_at hl 0 rfl) ?_
  refine lv_iconst (v := 0) hx hb dX2_beginAnew_28 (by decide) ?_
  refine va_put (D := g.1) (ci := 2) (v := .int (zb false)) (ty := .boolean) (C := RX2) (T := TX2) (N := 11) hx hb hw0 ziX2 tyX2 tyX2_ok nmX2 hown hK.1 hP hD hS 0 rfl rfl 4 (by decide) (hw0 _ zm1_149) (fun _ h9 => h9) rfl (tyX2_ok 4 (by decide)) (zb_nar false) (zb_fit false) (Nat.le_of_ble_eq_true rfl) dX2_beginAnew_29 (fun H locs hP hD hS => ?_)
  have hP : va_P g.1 vwCl (zX2 g a (u1, u2, (0, v.2.2.1.2.1, v.2.2.1.2.2.1, v.2.2.1.2.2.2), 0, false, v.2.2.2.2.2.1, v.2.2.2.2.2.2.1, v.2.2.2.2.2.2.2.1, v.2.2.2.2.2.2.2.2.1, v.2.2.2.2.2.2.2.2.2.1, v.2.2.2.2.2.2.2.2.2.2)) H := hP
  have hD : va_D A (zX2 g a (u1, u2, (0, v.2.2.1.2.1, v.2.2.1.2.2.1, v.2.2.1.2.2.2), 0, false, v.2.2.2.2.2.1, v.2.2.2.2.2.2.1, v.2.2.2.2.2.2.2.1, v.2.2.2.2.2.2.2.2.1, v.2.2.2.2.2.2.2.2.2.1, v.2.2.2.2.2.2.2.2.2.2)) := hD
  refine lv_aload_n hx hb dX2_beginAnew_32 rfl (lv_at hl 0 rfl) ?_
  refine lv_iconst (v := 0) hx hb dX2_beginAnew_33 (by decide) ?_
  refine va_put (D := g.1) (ci := 2) (v := .int 0) (ty := .int) (C := RX2) (T := TX2) (N := 11) hx hb hw0 ziX2 tyX2 tyX2_ok nmX2 hown hK.1 hP hD hS 0 rfl rfl 5 (by decide) (hw0 _ zm1_151) (fun _ h9 => h9) rfl (tyX2_ok 5 (by decide)) rfl rfl (Nat.le_of_ble_eq_true rfl) dX2_beginAnew_34 (fun H locs hP hD hS => ?_)
  have hP : va_P g.1 vwCl (zX2 g a (u1, u2, (0, v.2.2.1.2.1, v.2.2.1.2.2.1, v.2.2.1.2.2.2), 0, false, 0, v.2.2.2.2.2.2.1, v.2.2.2.2.2.2.2.1, v.2.2.2.2.2.2.2.2.1, v.2.2.2.2.2.2.2.2.2.1, v.2.2.2.2.2.2.2.2.2.2)) H := hP
  have hD : va_D A (zX2 g a (u1, u2, (0, v.2.2.1.2.1, v.2.2.1.2.2.1, v.2.2.1.2.2.2), 0, false, 0, v.2.2.2.2.2.2.1, v.2.2.2.2.2.2.2.1, v.2.2.2.2.2.2.2.2.1, v.2.2.2.2.2.2.2.2.2.1, v.2.2.2.2.2.2.2.2.2.2)) := hD
  refine lv_aload_n hx hb dX2_beginAnew_37 rfl (lv_at hl 0 rfl) ?_
  refine lv_iconst (v := 0) hx hb dX2_beginAnew_38 (by decide) ?_
  refine va_put (D := g.1) (ci := 2) (v := .int 0) (ty := .int) (C := RX2) (T := TX2) (N := 11) hx hb hw0 ziX2 tyX2 tyX2_ok nmX2 hown hK.1 hP hD hS 0 rfl rfl 6 (by decide) (hw0 _ zm1_153) (fun _ h9 => h9) rfl (tyX2_ok 6 (by decide)) rfl rfl (Nat.le_of_ble_eq_true rfl) dX2_beginAnew_39 (fun H locs hP hD hS => ?_)
  have hP : va_P g.1 vwCl (zX2 g a (u1, u2, (0, v.2.2.1.2.1, v.2.2.1.2.2.1, v.2.2.1.2.2.2), 0, false, 0, 0, v.2.2.2.2.2.2.2.1, v.2.2.2.2.2.2.2.2.1, v.2.2.2.2.2.2.2.2.2.1, v.2.2.2.2.2.2.2.2.2.2)) H := hP
  have hD : va_D A (zX2 g a (u1, u2, (0, v.2.2.1.2.1, v.2.2.1.2.2.1, v.2.2.1.2.2.2), 0, false, 0, 0, v.2.2.2.2.2.2.2.1, v.2.2.2.2.2.2.2.2.1, v.2.2.2.2.2.2.2.2.2.1, v.2.2.2.2.2.2.2.2.2.2)) := hD
  refine lv_aload_n hx hb dX2_beginAnew_42 rfl (lv_at hl 0 rfl) ?_
  obtain ⟨u3, hu3, hf⟩ := ob hf
  refine zk_vA (va_runV (As := []) (rest := []) ⟨hx, hb, hml, hown, hts⟩ (c_X2_clearAir l g a (u1, u2, (0, v.2.2.1.2.1, v.2.2.1.2.2.1, v.2.2.1.2.2.2), 0, false, 0, 0, v.2.2.2.2.2.2.2.1, v.2.2.2.2.2.2.2.2.1, v.2.2.2.2.2.2.2.2.2.1, v.2.2.2.2.2.2.2.2.2.2) _ hu3 _) (zcV hw0 zm2_193 zm2_196 zm1_2 zm2_195 zs2_1 hd_X2_clearAir rfl rfl ⟨Nat.le_of_ble_eq_true rfl, Nat.le_of_ble_eq_true rfl⟩) ⟨zblind, zrecvA hK hP (ci := 2) rfl rfl, zpreA hK hP hD⟩ rfl rfl hl.1 rfl (lv_room (Nat.le_of_ble_eq_true rfl)) dX2_beginAnew_43 ⟨Nat.zero_le _, Nat.zero_le _⟩) hP hD hS hA (fun H locs hP hD hS => ?_)
  have hP : va_P g.1 vwCl (zX2 g a u3) H := hP
  have hD : va_D A (zX2 g a u3) := hD
  have hR : u3 = r := Option.some.inj hf
  subst hR
  exact W.vret hx hb hr0 (fun t ht hW => ⟨⟨(), rfl, trivial, by rw [ht]; exact hP, hD⟩, hS.F ht⟩) hS.2.2 dX2_beginAnew_46
theorem hd_X2_dropElement : yX2_dropElement.cls ≠ "java/lang/invoke/MethodHandle" ∧ yX2_dropElement.cls ≠ "java/lang/invoke/VarHandle" ∧ (parseMethodDescriptor yX2_dropElement.desc).map (fun d => d.parameters.length) = some 1 := by decide +kernel
def f_X2_dropElement (v : HV) (p0 : Int32) : Option (HV) :=
  (f_X0_has v.1 p0).bind (fun u1 =>
  if (zb u1) = 0 then
    some v
  else
    if zin p0 12 = true then
    (f_X3_add v.2.2.1 v.2.2.2.1 3 p0).bind (fun u4 =>
    some ((v.1.1, v.1.2.1, v.1.2.2.1, v.1.2.2.2.1, (upd v.1.2.2.2.2.1 p0.toNatClampNeg 3), v.1.2.2.2.2.2), v.2.1, u4, v.2.2.2.1, v.2.2.2.2.1, v.2.2.2.2.2.1, v.2.2.2.2.2.2.1, v.2.2.2.2.2.2.2.1, v.2.2.2.2.2.2.2.2.1, v.2.2.2.2.2.2.2.2.2.1, v.2.2.2.2.2.2.2.2.2.2))
    else none)
set_option maxHeartbeats 4000000 in
set_option maxRecDepth 100000 in
theorem c_X2_dropElement (l : Launch) (g : zG) (a : Nat → Nat) (v : HV) (p0 : Int32) (r : HV) (hf : f_X2_dropElement v p0 = some r) : zMv zNF zNM l yX2_dropElement (zw yX2_dropElement cX2_dropElement 2 none) ({ frames := 1, cells := 0, slots := 0, locals := 23 } : Room) g [.ref (a 0), .int p0] (zX2 g a v) (zX2 g a r) := by
  intro sz
  refine Met.ofW (cc := cX2_dropElement) (maxL := 2) (ret := none) (by decide) rfl ?_
  intro p e s m args below meth c s₁ B hml hv
  obtain ⟨rfl, hsz, hP, hK, hD0⟩ := hv
  have hx := B.exec
  have hb := B.bytes
  have hr0 := B.returns
  have hts := atoms_spec (ws := (zw yX2_dropElement cX2_dropElement 2 none)) B.pre
  have hw0 : ∀ w ∈ zW, w.before ([.ref (a 0), .int p0] : List Value).toArray s = true := fun w h => hts w (List.mem_cons_of_mem _ h)
  have hown : s.vm.findClass RX2 = some m.cls := findClass_of_methodNamed B.named
  have hlocks := B.notSynchronized
  subst hsz
  have hD := hD0.self (sz := s.heap.size)
  generalize hAe : va_A (zX2 g a v) s.heap.size = A at hD ⊢
  have hA : ∀ q : Nat, s.heap.size ≤ q → A q := fun q h => by rw [← hAe]; exact Or.inr h
  have hS : va_S A s.heap s.heap [] := va_S.rf
  unfold f_X2_dropElement at hf
  have hl := lv_entry ([.ref (a 0), .int p0]) (n := 2) (Nat.le_of_ble_eq_true rfl)
  rw [lg_entry_eq]
  generalize (lg_sl ([.ref (a 0), .int p0]) ++ List.replicate (2 - (lg_sl ([.ref (a 0), .int p0])).length) Slot.unset).toArray = ls at hl ⊢
  have hl : lv_has ls 2 [(0, .ref (a 0)), (1, .int p0)] := hl
  refine lv_aload_n hx hb dX2_dropElement_0 rfl (lv_at hl 0 rfl) ?_
  refine va_get (D := g.1) (ci := 2) (v := .ref (a 1)) (C := RX2) (T := TX2) (N := 11) hx hb hw0 ziX2 hown hK.1 hP 0 rfl rfl 0 (by decide) (hw0 _ zm1_141) (fun _ h9 => h9) rfl dX2_dropElement_1 ?_
  refine lv_iload_n hx hb dX2_dropElement_4 rfl (lv_at hl 1 rfl) ?_
  obtain ⟨u1, hu1, hf⟩ := ob hf
  refine zk_iR (va_runVN (As := [.int p0]) (rest := []) ⟨hx, hb, hml, hown, hts⟩ (c_X0_has l g (fun k => a (k + 1)) v.1 p0 _ hu1 _) (zcN hw0 (zn_18 hK) zm2_143 zm1_3 zm2_142 zs1_9 hd_X0_has rfl rfl ⟨Nat.le_of_ble_eq_true rfl, Nat.le_of_ble_eq_true rfl⟩) ⟨zblind, zrecv (wc := zX0 g (fun k => a (k + 1)) v.1) hK hP [1, 2, 3, 4, 5, 6] rfl (ci := 0) rfl rfl, zpre hK hP hD [1, 2, 3, 4, 5, 6] rfl rfl⟩ rfl rfl hl.1 rfl (lv_room (Nat.le_of_ble_eq_true rfl)) dX2_dropElement_5 ⟨Nat.zero_le _, Nat.zero_le _⟩) hP hD hS hA [1, 2, 3, 4, 5, 6] rfl (fun H locs hP hD hS => ?_)
  refine lv_if_eq (tgt := 34) hx hb dX2_dropElement_8 (by decide) (fun c2 => ?_) (fun c2 => ?_)
  · have hf := oi hf c2
    have hR : v = r := Option.some.inj hf
    subst hR
    exact W.vret hx hb hr0 (fun t ht hW => ⟨⟨(), rfl, trivial, by rw [ht]; exact hP, hD⟩, hS.F ht⟩) hS.2.2 dX2_dropElement_34
  · have hf := oe hf c2
    refine lv_aload_n hx hb dX2_dropElement_11 rfl (lv_at hl 0 rfl) ?_
    refine va_get (D := g.1) (ci := 2) (v := .ref (a 1)) (C := RX2) (T := TX2) (N := 11) hx hb hw0 ziX2 hown hK.1 hP 0 rfl rfl 0 (by decide) (hw0 _ zm1_141) (fun _ h9 => h9) rfl dX2_dropElement_12 ?_
    refine va_getN (D := g.1) (ci := 0) (v := .ref (a 5)) (C := RX0) (T := TX0) (N := 6) hx hb hw0 ziX0 hown hK.1 hP 1 rfl rfl 4 (by decide) (va_Nw.use rfl (zf_4 hK)) (fun _ h9 => h9) rfl dX2_dropElement_15 ?_
    refine lv_iload_n hx hb dX2_dropElement_18 rfl (lv_at hl 1 rfl) ?_
    refine lv_iconst (v := 3) hx hb dX2_dropElement_19 (by decide) ?_
    obtain ⟨h3, hf⟩ := og hf
    refine zast (D := g.1) (f := v.1.2.2.2.2.1) (k := p0.toNatClampNeg) (x := 3) hx hb hK.1 hP hD hS 5 0 rfl rfl (zin_vp h3) rfl dX2_dropElement_20 (fun H locs hP hD hS => ?_)
    have hP : va_P g.1 vwCl (zX2 g a ((v.1.1, v.1.2.1, v.1.2.2.1, v.1.2.2.2.1, (upd v.1.2.2.2.2.1 p0.toNatClampNeg 3), v.1.2.2.2.2.2), v.2.1, v.2.2.1, v.2.2.2.1, v.2.2.2.2.1, v.2.2.2.2.2.1, v.2.2.2.2.2.2.1, v.2.2.2.2.2.2.2.1, v.2.2.2.2.2.2.2.2.1, v.2.2.2.2.2.2.2.2.2.1, v.2.2.2.2.2.2.2.2.2.2)) H := hP
    have hD : va_D A (zX2 g a ((v.1.1, v.1.2.1, v.1.2.2.1, v.1.2.2.2.1, (upd v.1.2.2.2.2.1 p0.toNatClampNeg 3), v.1.2.2.2.2.2), v.2.1, v.2.2.1, v.2.2.2.1, v.2.2.2.2.1, v.2.2.2.2.2.1, v.2.2.2.2.2.2.1, v.2.2.2.2.2.2.2.1, v.2.2.2.2.2.2.2.2.1, v.2.2.2.2.2.2.2.2.2.1, v.2.2.2.2.2.2.2.2.2.2)) := hD
    refine lv_aload_n hx hb dX2_dropElement_21 rfl (lv_at hl 0 rfl) ?_
    refine va_get (D := g.1) (ci := 2) (v := .ref (a 14)) (C := RX2) (T := TX2) (N := 11) hx hb hw0 ziX2 hown hK.1 hP 0 rfl rfl 2 (by decide) (hw0 _ zm1_145) (fun _ h9 => h9) rfl dX2_dropElement_22 ?_
    refine lv_aload_n hx hb dX2_dropElement_25 rfl (lv_at hl 0 rfl) ?_
    refine va_get (D := g.1) (ci := 2) (v := .int v.2.2.2.1) (C := RX2) (T := TX2) (N := 11) hx hb hw0 ziX2 hown hK.1 hP 0 rfl rfl 3 (by decide) (hw0 _ zm1_147) (fun _ h9 => h9) rfl dX2_dropElement_26 ?_
    refine lv_iconst (v := 3) hx hb dX2_dropElement_29 (by decide) ?_
    refine lv_iload_n hx hb dX2_dropElement_30 rfl (lv_at hl 1 rfl) ?_
    obtain ⟨u4, hu4, hf⟩ := ob hf
    refine zk_v (va_runVN (As := [.int v.2.2.2.1, .int 3, .int p0]) (rest := []) ⟨hx, hb, hml, hown, hts⟩ (c_X3_add l g (fun k => a (k + 14)) v.2.2.1 v.2.2.2.1 3 p0 _ hu4 _) (zcN hw0 (zn_22 hK) zm2_217 zm1_6 zm2_216 zs2_3 hd_X3_add rfl rfl ⟨Nat.le_of_ble_eq_true rfl, Nat.le_of_ble_eq_true rfl⟩) ⟨zblind, zrecv (wc := zX3 g (fun k => a (k + 14)) v.2.2.1) hK hP [14, 15, 16, 17] rfl (ci := 3) rfl rfl, zpre hK hP hD [14, 15, 16, 17] rfl rfl⟩ rfl rfl hl.1 rfl (lv_room (Nat.le_of_ble_eq_true rfl)) dX2_dropElement_31 ⟨Nat.zero_le _, Nat.zero_le _⟩) hP hD hS hA [14, 15, 16, 17] rfl rfl (fun H locs hP hD hS => ?_)
    have hP : va_P g.1 vwCl (zX2 g a ((v.1.1, v.1.2.1, v.1.2.2.1, v.1.2.2.2.1, (upd v.1.2.2.2.2.1 p0.toNatClampNeg 3), v.1.2.2.2.2.2), v.2.1, u4, v.2.2.2.1, v.2.2.2.2.1, v.2.2.2.2.2.1, v.2.2.2.2.2.2.1, v.2.2.2.2.2.2.2.1, v.2.2.2.2.2.2.2.2.1, v.2.2.2.2.2.2.2.2.2.1, v.2.2.2.2.2.2.2.2.2.2)) H := hP
    have hD : va_D A (zX2 g a ((v.1.1, v.1.2.1, v.1.2.2.1, v.1.2.2.2.1, (upd v.1.2.2.2.2.1 p0.toNatClampNeg 3), v.1.2.2.2.2.2), v.2.1, u4, v.2.2.2.1, v.2.2.2.2.1, v.2.2.2.2.2.1, v.2.2.2.2.2.2.1, v.2.2.2.2.2.2.2.1, v.2.2.2.2.2.2.2.2.1, v.2.2.2.2.2.2.2.2.2.1, v.2.2.2.2.2.2.2.2.2.2)) := hD
    have hR : ((v.1.1, v.1.2.1, v.1.2.2.1, v.1.2.2.2.1, (upd v.1.2.2.2.2.1 p0.toNatClampNeg 3), v.1.2.2.2.2.2), v.2.1, u4, v.2.2.2.1, v.2.2.2.2.1, v.2.2.2.2.2.1, v.2.2.2.2.2.2.1, v.2.2.2.2.2.2.2.1, v.2.2.2.2.2.2.2.2.1, v.2.2.2.2.2.2.2.2.2.1, v.2.2.2.2.2.2.2.2.2.2) = r := Option.some.inj hf
    subst hR
    exact W.vret hx hb hr0 (fun t ht hW => ⟨⟨(), rfl, trivial, by rw [ht]; exact hP, hD⟩, hS.F ht⟩) hS.2.2 dX2_dropElement_34
theorem hd_X2_dropForTime : yX2_dropForTime.cls ≠ "java/lang/invoke/MethodHandle" ∧ yX2_dropForTime.cls ≠ "java/lang/invoke/VarHandle" ∧ (parseMethodDescriptor yX2_dropForTime.desc).map (fun d => d.parameters.length) = some 0 := by decide +kernel
def s_X2_dropForTime_2 (v : HV) (x : Int32 × HV) : Option ((Int32 × HV) ⊕ (HV)) :=
  if 12 ≤ x.1 then
    some (.inr x.2)
  else
    (f_X0_leastOfSection x.2.1).bind (fun u2 =>
    if u2 = (-1) then
      some (.inr x.2)
    else
      (f_X0_sectionLength x.2.1).bind (fun u4 =>
      (f_X0_goal x.2.1).bind (fun u5 =>
      if u5 < (x.2.2.2.2.1 + u4) then
        (f_X2_dropElement x.2 u2).bind (fun u7 =>
        some (.inl ((x.1 + 1), u7)))
      else
        some (.inr x.2))))
def f_X2_dropForTime (v : HV) : Option (HV) :=
  zloop (s_X2_dropForTime_2 v) 4096 (0, v)
set_option maxHeartbeats 4000000 in
set_option maxRecDepth 100000 in
theorem c_X2_dropForTime (l : Launch) (g : zG) (a : Nat → Nat) (v : HV) (r : HV) (hf : f_X2_dropForTime v = some r) : zMv zNF zNM l yX2_dropForTime (zw yX2_dropForTime cX2_dropForTime 3 none) ({ frames := 3, cells := 0, slots := 0, locals := 62 } : Room) g [.ref (a 0)] (zX2 g a v) (zX2 g a r) := by
  intro sz
  refine Met.ofW (cc := cX2_dropForTime) (maxL := 3) (ret := none) (by decide) rfl ?_
  intro p e s m args below meth c s₁ B hml hv
  obtain ⟨rfl, hsz, hP, hK, hD0⟩ := hv
  have hx := B.exec
  have hb := B.bytes
  have hr0 := B.returns
  have hts := atoms_spec (ws := (zw yX2_dropForTime cX2_dropForTime 3 none)) B.pre
  have hw0 : ∀ w ∈ zW, w.before ([.ref (a 0)] : List Value).toArray s = true := fun w h => hts w (List.mem_cons_of_mem _ h)
  have hown : s.vm.findClass RX2 = some m.cls := findClass_of_methodNamed B.named
  have hlocks := B.notSynchronized
  subst hsz
  have hD := hD0.self (sz := s.heap.size)
  generalize hAe : va_A (zX2 g a v) s.heap.size = A at hD ⊢
  have hA : ∀ q : Nat, s.heap.size ≤ q → A q := fun q h => by rw [← hAe]; exact Or.inr h
  have hS : va_S A s.heap s.heap [] := va_S.rf
  have lp2 : ∀ (v : HV), ∀ (n : Nat) (x : Int32 × HV) (rr : HV), zloop (s_X2_dropForTime_2 v) n x = some rr → rr = r → ∀ (H : Heap) (locs : List Loc), va_P g.1 vwCl (zX2 g a x.2) H → va_D A (zX2 g a x.2) → va_S A s.heap H locs → ∀ ls : Array Slot, lv_has ls 3 [(0, .ref (a 0)), (1, .int x.1)] → W p l e (headSpec (zw yX2_dropForTime cX2_dropForTime 3 none) ({ frames := 3, cells := 0, slots := 0, locals := 62 } : Room)).room s m ([.ref (a 0)] : List Value).toArray below meth c H locs 0 0 (MQ below (va_Qv (fun (_ : Unit) => True) (fun _ => zEnd g A (zX2 g a r)) A) ([.ref (a 0)] : List Value).toArray s 0 0 A) (F0 m 2 ls []) := by
    intro v
    refine zloop_ind ?_
    intro x y rr hf ih hr he H locs hP hD hS ls hl
    unfold s_X2_dropForTime_2 at hf
    refine lv_iload_n hx hb dX2_dropForTime_2 rfl (lv_at hl 1 rfl) ?_
    refine lv_bipush (v := 12) hx hb dX2_dropForTime_3 (by decide) ?_
    refine lv_icmp_ge (tgt := 55) hx hb dX2_dropForTime_5 (by decide) (fun c1 => ?_) (fun c1 => ?_)
    · have hf := oi hf c1
      have hR : x.2 = r := (hr _ (Option.some.inj hf).symm).trans he
      subst hR
      exact W.vret hx hb hr0 (fun t ht hW => ⟨⟨(), rfl, trivial, by rw [ht]; exact hP, hD⟩, hS.F ht⟩) hS.2.2 dX2_dropForTime_55
    · have hf := oe hf c1
      refine lv_aload_n hx hb dX2_dropForTime_8 rfl (lv_at hl 0 rfl) ?_
      refine va_get (D := g.1) (ci := 2) (v := .ref (a 1)) (C := RX2) (T := TX2) (N := 11) hx hb hw0 ziX2 hown hK.1 hP 0 rfl rfl 0 (by decide) (hw0 _ zm1_141) (fun _ h9 => h9) rfl dX2_dropForTime_9 ?_
      obtain ⟨u2, hu2, hf⟩ := ob hf
      refine zk_iR (va_runVN (As := []) (rest := []) ⟨hx, hb, hml, hown, hts⟩ (c_X0_leastOfSection l g (fun k => a (k + 1)) x.2.1 _ hu2 _) (zcN hw0 (zn_28 hK) zm3_31 zm1_3 zm3_30 zs2_11 hd_X0_leastOfSection rfl rfl ⟨Nat.le_of_ble_eq_true rfl, Nat.le_of_ble_eq_true rfl⟩) ⟨zblind, zrecv (wc := zX0 g (fun k => a (k + 1)) x.2.1) hK hP [1, 2, 3, 4, 5, 6] rfl (ci := 0) rfl rfl, zpre hK hP hD [1, 2, 3, 4, 5, 6] rfl rfl⟩ rfl rfl hl.1 rfl (lv_room (Nat.le_of_ble_eq_true rfl)) dX2_dropForTime_12 ⟨Nat.zero_le _, Nat.zero_le _⟩) hP hD hS hA [1, 2, 3, 4, 5, 6] rfl (fun H locs hP hD hS => ?_)
      refine lv_istore_n (lv' := [(2, .int u2), (0, .ref (a 0)), (1, .int x.1)]) hx hb dX2_dropForTime_15 rfl hl (by decide) rfl (fun ls hl => ?_)
      refine lv_iload_n hx hb dX2_dropForTime_16 rfl (lv_at hl 0 rfl) ?_
      refine lv_iconst (v := (-1)) hx hb dX2_dropForTime_17 (by decide) ?_
      refine lv_icmp_eq (tgt := 43) hx hb dX2_dropForTime_18 (by decide) (fun c3 => ?_) (fun c3 => ?_)
      · have hf := oi hf c3
        have hR : x.2 = r := (hr _ (Option.some.inj hf).symm).trans he
        subst hR
        exact W.vret hx hb hr0 (fun t ht hW => ⟨⟨(), rfl, trivial, by rw [ht]; exact hP, hD⟩, hS.F ht⟩) hS.2.2 dX2_dropForTime_43
      · have hf := oe hf c3
        refine lv_aload_n hx hb dX2_dropForTime_21 rfl (lv_at hl 1 rfl) ?_
        refine va_get (D := g.1) (ci := 2) (v := .int x.2.2.2.2.1) (C := RX2) (T := TX2) (N := 11) hx hb hw0 ziX2 hown hK.1 hP 0 rfl rfl 3 (by decide) (hw0 _ zm1_147) (fun _ h9 => h9) rfl dX2_dropForTime_22 ?_
        refine lv_aload_n hx hb dX2_dropForTime_25 rfl (lv_at hl 1 rfl) ?_
        refine va_get (D := g.1) (ci := 2) (v := .ref (a 1)) (C := RX2) (T := TX2) (N := 11) hx hb hw0 ziX2 hown hK.1 hP 0 rfl rfl 0 (by decide) (hw0 _ zm1_141) (fun _ h9 => h9) rfl dX2_dropForTime_26 ?_
        obtain ⟨u4, hu4, hf⟩ := ob hf
        refine zk_iR (va_runVN (As := []) (rest := [.int x.2.2.2.2.1]) ⟨hx, hb, hml, hown, hts⟩ (c_X0_sectionLength l g (fun k => a (k + 1)) x.2.1 _ hu4 _) (zcN hw0 (zn_29 hK) zm3_39 zm1_3 zm3_38 zs2_13 hd_X0_sectionLength rfl rfl ⟨Nat.le_of_ble_eq_true rfl, Nat.le_of_ble_eq_true rfl⟩) ⟨zblind, zrecv (wc := zX0 g (fun k => a (k + 1)) x.2.1) hK hP [1, 2, 3, 4, 5, 6] rfl (ci := 0) rfl rfl, zpre hK hP hD [1, 2, 3, 4, 5, 6] rfl rfl⟩ rfl rfl hl.1 rfl (lv_room (Nat.le_of_ble_eq_true rfl)) dX2_dropForTime_29 ⟨Nat.zero_le _, Nat.zero_le _⟩) hP hD hS hA [1, 2, 3, 4, 5, 6] rfl (fun H locs hP hD hS => ?_)
        refine lv_iadd hx hb dX2_dropForTime_32 ?_
        refine lv_aload_n hx hb dX2_dropForTime_33 rfl (lv_at hl 1 rfl) ?_
        refine va_get (D := g.1) (ci := 2) (v := .ref (a 1)) (C := RX2) (T := TX2) (N := 11) hx hb hw0 ziX2 hown hK.1 hP 0 rfl rfl 0 (by decide) (hw0 _ zm1_141) (fun _ h9 => h9) rfl dX2_dropForTime_34 ?_
        obtain ⟨u5, hu5, hf⟩ := ob hf
        refine zk_iR (va_runVN (As := []) (rest := [.int (x.2.2.2.2.1 + u4)]) ⟨hx, hb, hml, hown, hts⟩ (c_X0_goal l g (fun k => a (k + 1)) x.2.1 _ hu5 _) (zcN hw0 (zn_30 hK) zm3_47 zm1_3 zm3_46 zs2_15 hd_X0_goal rfl rfl ⟨Nat.le_of_ble_eq_true rfl, Nat.le_of_ble_eq_true rfl⟩) ⟨zblind, zrecv (wc := zX0 g (fun k => a (k + 1)) x.2.1) hK hP [1, 2, 3, 4, 5, 6] rfl (ci := 0) rfl rfl, zpre hK hP hD [1, 2, 3, 4, 5, 6] rfl rfl⟩ rfl rfl hl.1 rfl (lv_room (Nat.le_of_ble_eq_true rfl)) dX2_dropForTime_37 ⟨Nat.zero_le _, Nat.zero_le _⟩) hP hD hS hA [1, 2, 3, 4, 5, 6] rfl (fun H locs hP hD hS => ?_)
        refine lv_icmp_gt (tgt := 44) hx hb dX2_dropForTime_40 (by decide) (fun c6 => ?_) (fun c6 => ?_)
        · have hf := oi hf c6
          refine lv_aload_n hx hb dX2_dropForTime_44 rfl (lv_at hl 1 rfl) ?_
          refine lv_iload_n hx hb dX2_dropForTime_45 rfl (lv_at hl 0 rfl) ?_
          obtain ⟨u7, hu7, hf⟩ := ob hf
          refine zk_vA (va_runV (As := [.int u2]) (rest := []) ⟨hx, hb, hml, hown, hts⟩ (c_X2_dropElement l g a x.2 u2 _ hu7 _) (zcV hw0 zm3_52 zm2_213 zm1_2 zm2_212 zs2_2 hd_X2_dropElement rfl rfl ⟨Nat.le_of_ble_eq_true rfl, Nat.le_of_ble_eq_true rfl⟩) ⟨zblind, zrecvA hK hP (ci := 2) rfl rfl, zpreA hK hP hD⟩ rfl rfl hl.1 rfl (lv_room (Nat.le_of_ble_eq_true rfl)) dX2_dropForTime_46 ⟨Nat.zero_le _, Nat.zero_le _⟩) hP hD hS hA (fun H locs hP hD hS => ?_)
          have hP : va_P g.1 vwCl (zX2 g a u7) H := hP
          have hD : va_D A (zX2 g a u7) := hD
          refine lv_iinc (v := (x.1 + 1)) (lv' := [(1, .int (x.1 + 1)), (2, .int u2), (0, .ref (a 0))]) hx hb dX2_dropForTime_49 hl (k := 2) rfl rfl (by decide) rfl (fun ls hl => ?_)
          refine lv_goto (tgt := 2) hx hb dX2_dropForTime_52 (by decide) ?_
          exact ih ((x.1 + 1), u7) (Option.some.inj hf).symm he _ _ hP hD hS _ (lv_sub hl [2, 0] rfl)
        · have hf := oe hf c6
          have hR : x.2 = r := (hr _ (Option.some.inj hf).symm).trans he
          subst hR
          exact W.vret hx hb hr0 (fun t ht hW => ⟨⟨(), rfl, trivial, by rw [ht]; exact hP, hD⟩, hS.F ht⟩) hS.2.2 dX2_dropForTime_43
  unfold f_X2_dropForTime at hf
  have hl := lv_entry ([.ref (a 0)]) (n := 3) (Nat.le_of_ble_eq_true rfl)
  rw [lg_entry_eq]
  generalize (lg_sl ([.ref (a 0)]) ++ List.replicate (3 - (lg_sl ([.ref (a 0)])).length) Slot.unset).toArray = ls at hl ⊢
  have hl : lv_has ls 3 [(0, .ref (a 0))] := hl
  refine lv_iconst (v := 0) hx hb dX2_dropForTime_0 (by decide) ?_
  refine lv_istore_n (lv' := [(1, .int 0), (0, .ref (a 0))]) hx hb dX2_dropForTime_1 rfl hl (by decide) rfl (fun ls hl => ?_)
  exact lp2 v _ _ _ hf rfl _ _ hP hD hS _ (lv_sub hl [1, 0] rfl)
theorem hd_X2_putOnAir : yX2_putOnAir.cls ≠ "java/lang/invoke/MethodHandle" ∧ yX2_putOnAir.cls ≠ "java/lang/invoke/VarHandle" ∧ (parseMethodDescriptor yX2_putOnAir.desc).map (fun d => d.parameters.length) = some 3 := by decide +kernel
def f_X2_putOnAir (v : HV) (p0 : Int32) (p1 : Int32) (p2 : Int32) : Option (HV) :=
  (f_X3_add v.2.2.1 v.2.2.2.1 p0 p1).bind (fun u1 =>
  some (v.1, v.2.1, u1, v.2.2.2.1, v.2.2.2.2.1, v.2.2.2.2.2.1, v.2.2.2.2.2.2.1, v.2.2.2.2.2.2.2.1, p0, p1, p2))
set_option maxHeartbeats 4000000 in
set_option maxRecDepth 100000 in
theorem c_X2_putOnAir (l : Launch) (g : zG) (a : Nat → Nat) (v : HV) (p0 : Int32) (p1 : Int32) (p2 : Int32) (r : HV) (hf : f_X2_putOnAir v p0 p1 p2 = some r) : zMv zNF zNM l yX2_putOnAir (zw yX2_putOnAir cX2_putOnAir 4 none) ({ frames := 1, cells := 0, slots := 0, locals := 23 } : Room) g [.ref (a 0), .int p0, .int p1, .int p2] (zX2 g a v) (zX2 g a r) := by
  intro sz
  refine Met.ofW (cc := cX2_putOnAir) (maxL := 4) (ret := none) (by decide) rfl ?_
  intro p e s m args below meth c s₁ B hml hv
  obtain ⟨rfl, hsz, hP, hK, hD0⟩ := hv
  have hx := B.exec
  have hb := B.bytes
  have hr0 := B.returns
  have hts := atoms_spec (ws := (zw yX2_putOnAir cX2_putOnAir 4 none)) B.pre
  have hw0 : ∀ w ∈ zW, w.before ([.ref (a 0), .int p0, .int p1, .int p2] : List Value).toArray s = true := fun w h => hts w (List.mem_cons_of_mem _ h)
  have hown : s.vm.findClass RX2 = some m.cls := findClass_of_methodNamed B.named
  have hlocks := B.notSynchronized
  subst hsz
  have hD := hD0.self (sz := s.heap.size)
  generalize hAe : va_A (zX2 g a v) s.heap.size = A at hD ⊢
  have hA : ∀ q : Nat, s.heap.size ≤ q → A q := fun q h => by rw [← hAe]; exact Or.inr h
  have hS : va_S A s.heap s.heap [] := va_S.rf
  unfold f_X2_putOnAir at hf
  have hl := lv_entry ([.ref (a 0), .int p0, .int p1, .int p2]) (n := 4) (Nat.le_of_ble_eq_true rfl)
  rw [lg_entry_eq]
  generalize (lg_sl ([.ref (a 0), .int p0, .int p1, .int p2]) ++ List.replicate (4 - (lg_sl ([.ref (a 0), .int p0, .int p1, .int p2])).length) Slot.unset).toArray = ls at hl ⊢
  have hl : lv_has ls 4 [(0, .ref (a 0)), (1, .int p0), (2, .int p1), (3, .int p2)] := hl
  refine lv_aload_n hx hb dX2_putOnAir_0 rfl (lv_at hl 0 rfl) ?_
  refine lv_iload_n hx hb dX2_putOnAir_1 rfl (lv_at hl 1 rfl) ?_
  refine va_put (D := g.1) (ci := 2) (v := .int p0) (ty := .int) (C := RX2) (T := TX2) (N := 11) hx hb hw0 ziX2 tyX2 tyX2_ok nmX2 hown hK.1 hP hD hS 0 rfl rfl 8 (by decide) (hw0 _ zm1_156) (fun _ h9 => h9) rfl (tyX2_ok 8 (by decide)) rfl rfl (Nat.le_of_ble_eq_true rfl) dX2_putOnAir_2 (fun H locs hP hD hS => ?_)
  have hP : va_P g.1 vwCl (zX2 g a (v.1, v.2.1, v.2.2.1, v.2.2.2.1, v.2.2.2.2.1, v.2.2.2.2.2.1, v.2.2.2.2.2.2.1, v.2.2.2.2.2.2.2.1, p0, v.2.2.2.2.2.2.2.2.2.1, v.2.2.2.2.2.2.2.2.2.2)) H := hP
  have hD : va_D A (zX2 g a (v.1, v.2.1, v.2.2.1, v.2.2.2.1, v.2.2.2.2.1, v.2.2.2.2.2.1, v.2.2.2.2.2.2.1, v.2.2.2.2.2.2.2.1, p0, v.2.2.2.2.2.2.2.2.2.1, v.2.2.2.2.2.2.2.2.2.2)) := hD
  refine lv_aload_n hx hb dX2_putOnAir_5 rfl (lv_at hl 0 rfl) ?_
  refine lv_iload_n hx hb dX2_putOnAir_6 rfl (lv_at hl 2 rfl) ?_
  refine va_put (D := g.1) (ci := 2) (v := .int p1) (ty := .int) (C := RX2) (T := TX2) (N := 11) hx hb hw0 ziX2 tyX2 tyX2_ok nmX2 hown hK.1 hP hD hS 0 rfl rfl 9 (by decide) (hw0 _ zm1_157) (fun _ h9 => h9) rfl (tyX2_ok 9 (by decide)) rfl rfl (Nat.le_of_ble_eq_true rfl) dX2_putOnAir_7 (fun H locs hP hD hS => ?_)
  have hP : va_P g.1 vwCl (zX2 g a (v.1, v.2.1, v.2.2.1, v.2.2.2.1, v.2.2.2.2.1, v.2.2.2.2.2.1, v.2.2.2.2.2.2.1, v.2.2.2.2.2.2.2.1, p0, p1, v.2.2.2.2.2.2.2.2.2.2)) H := hP
  have hD : va_D A (zX2 g a (v.1, v.2.1, v.2.2.1, v.2.2.2.1, v.2.2.2.2.1, v.2.2.2.2.2.1, v.2.2.2.2.2.2.1, v.2.2.2.2.2.2.2.1, p0, p1, v.2.2.2.2.2.2.2.2.2.2)) := hD
  refine lv_aload_n hx hb dX2_putOnAir_10 rfl (lv_at hl 0 rfl) ?_
  refine lv_iload_n hx hb dX2_putOnAir_11 rfl (lv_at hl 3 rfl) ?_
  refine va_put (D := g.1) (ci := 2) (v := .int p2) (ty := .int) (C := RX2) (T := TX2) (N := 11) hx hb hw0 ziX2 tyX2 tyX2_ok nmX2 hown hK.1 hP hD hS 0 rfl rfl 10 (by decide) (hw0 _ zm1_158) (fun _ h9 => h9) rfl (tyX2_ok 10 (by decide)) rfl rfl (Nat.le_of_ble_eq_true rfl) dX2_putOnAir_12 (fun H locs hP hD hS => ?_)
  have hP : va_P g.1 vwCl (zX2 g a (v.1, v.2.1, v.2.2.1, v.2.2.2.1, v.2.2.2.2.1, v.2.2.2.2.2.1, v.2.2.2.2.2.2.1, v.2.2.2.2.2.2.2.1, p0, p1, p2)) H := hP
  have hD : va_D A (zX2 g a (v.1, v.2.1, v.2.2.1, v.2.2.2.1, v.2.2.2.2.1, v.2.2.2.2.2.1, v.2.2.2.2.2.2.1, v.2.2.2.2.2.2.2.1, p0, p1, p2)) := hD
  refine lv_aload_n hx hb dX2_putOnAir_15 rfl (lv_at hl 0 rfl) ?_
  refine va_get (D := g.1) (ci := 2) (v := .ref (a 14)) (C := RX2) (T := TX2) (N := 11) hx hb hw0 ziX2 hown hK.1 hP 0 rfl rfl 2 (by decide) (hw0 _ zm1_145) (fun _ h9 => h9) rfl dX2_putOnAir_16 ?_
  refine lv_aload_n hx hb dX2_putOnAir_19 rfl (lv_at hl 0 rfl) ?_
  refine va_get (D := g.1) (ci := 2) (v := .int v.2.2.2.1) (C := RX2) (T := TX2) (N := 11) hx hb hw0 ziX2 hown hK.1 hP 0 rfl rfl 3 (by decide) (hw0 _ zm1_147) (fun _ h9 => h9) rfl dX2_putOnAir_20 ?_
  refine lv_iload_n hx hb dX2_putOnAir_23 rfl (lv_at hl 1 rfl) ?_
  refine lv_iload_n hx hb dX2_putOnAir_24 rfl (lv_at hl 2 rfl) ?_
  obtain ⟨u1, hu1, hf⟩ := ob hf
  refine zk_v (va_runVN (As := [.int v.2.2.2.1, .int p0, .int p1]) (rest := []) ⟨hx, hb, hml, hown, hts⟩ (c_X3_add l g (fun k => a (k + 14)) v.2.2.1 v.2.2.2.1 p0 p1 _ hu1 _) (zcN hw0 (zn_22 hK) zm2_217 zm1_6 zm2_216 zs2_3 hd_X3_add rfl rfl ⟨Nat.le_of_ble_eq_true rfl, Nat.le_of_ble_eq_true rfl⟩) ⟨zblind, zrecv (wc := zX3 g (fun k => a (k + 14)) v.2.2.1) hK hP [14, 15, 16, 17] rfl (ci := 3) rfl rfl, zpre hK hP hD [14, 15, 16, 17] rfl rfl⟩ rfl rfl hl.1 rfl (lv_room (Nat.le_of_ble_eq_true rfl)) dX2_putOnAir_25 ⟨Nat.zero_le _, Nat.zero_le _⟩) hP hD hS hA [14, 15, 16, 17] rfl rfl (fun H locs hP hD hS => ?_)
  have hP : va_P g.1 vwCl (zX2 g a (v.1, v.2.1, u1, v.2.2.2.1, v.2.2.2.2.1, v.2.2.2.2.2.1, v.2.2.2.2.2.2.1, v.2.2.2.2.2.2.2.1, p0, p1, p2)) H := hP
  have hD : va_D A (zX2 g a (v.1, v.2.1, u1, v.2.2.2.1, v.2.2.2.2.1, v.2.2.2.2.2.1, v.2.2.2.2.2.2.1, v.2.2.2.2.2.2.2.1, p0, p1, p2)) := hD
  have hR : (v.1, v.2.1, u1, v.2.2.2.1, v.2.2.2.2.1, v.2.2.2.2.2.1, v.2.2.2.2.2.2.1, v.2.2.2.2.2.2.2.1, p0, p1, p2) = r := Option.some.inj hf
  subst hR
  exact W.vret hx hb hr0 (fun t ht hW => ⟨⟨(), rfl, trivial, by rw [ht]; exact hP, hD⟩, hS.F ht⟩) hS.2.2 dX2_putOnAir_28
theorem hd_X2_fillGap : yX2_fillGap.cls ≠ "java/lang/invoke/MethodHandle" ∧ yX2_fillGap.cls ≠ "java/lang/invoke/VarHandle" ∧ (parseMethodDescriptor yX2_fillGap.desc).map (fun d => d.parameters.length) = some 1 := by decide +kernel
def f_X2_fillGap (v : HV) (p0 : Int32) : Option (HV) :=
  (f_X1_chooseFor v.2.1 (p0 - v.2.2.2.1)).bind (fun u1 =>
  (f_J6_numberOfTrailingZeros_0f7a4 u1.1).bind (fun u2 =>
  if u1.1 = 0 then
    (f_X2_putOnAir (v.1, u1.2, v.2.2.1, v.2.2.2.1, v.2.2.2.2.1, v.2.2.2.2.2.1, v.2.2.2.2.2.2.1, v.2.2.2.2.2.2.2.1, v.2.2.2.2.2.2.2.2.1, v.2.2.2.2.2.2.2.2.2.1, v.2.2.2.2.2.2.2.2.2.2) 2 (-1) p0).bind (fun u4 =>
    some u4)
  else
    (f_X1_has u1.2 u2).bind (fun u5 =>
    if (zb u5) = 0 then
      (f_X2_putOnAir (v.1, u1.2, v.2.2.1, v.2.2.2.1, v.2.2.2.2.1, v.2.2.2.2.2.1, v.2.2.2.2.2.2.1, v.2.2.2.2.2.2.2.1, v.2.2.2.2.2.2.2.2.1, v.2.2.2.2.2.2.2.2.2.1, v.2.2.2.2.2.2.2.2.2.2) 2 (-1) p0).bind (fun u7 =>
      some u7)
    else
      if zin u2 10 = true then
      if zin u2 10 = true then
      if zin u2 10 = true then
      (f_X2_putOnAir (v.1, (u1.2.1, u1.2.2.1, (upd u1.2.2.2.1 u2.toNatClampNeg 1), (upd u1.2.2.2.2.1 u2.toNatClampNeg v.2.2.2.1), u1.2.2.2.2.2), v.2.2.1, v.2.2.2.1, v.2.2.2.2.1, v.2.2.2.2.2.1, v.2.2.2.2.2.2.1, v.2.2.2.2.2.2.2.1, v.2.2.2.2.2.2.2.2.1, v.2.2.2.2.2.2.2.2.2.1, v.2.2.2.2.2.2.2.2.2.2) 1 u2 (v.2.2.2.1 + (u1.2.2.1 u2.toNatClampNeg))).bind (fun u11 =>
      some u11)
      else none
      else none
      else none)))
set_option maxHeartbeats 4000000 in
set_option maxRecDepth 100000 in
theorem c_X2_fillGap (l : Launch) (g : zG) (a : Nat → Nat) (v : HV) (p0 : Int32) (r : HV) (hf : f_X2_fillGap v p0 = some r) : zMv zNF zNM l yX2_fillGap (zw yX2_fillGap cX2_fillGap 4 none) ({ frames := 3, cells := 0, slots := 0, locals := 72 } : Room) g [.ref (a 0), .int p0] (zX2 g a v) (zX2 g a r) := by
  intro sz
  refine Met.ofW (cc := cX2_fillGap) (maxL := 4) (ret := none) (by decide) rfl ?_
  intro p e s m args below meth c s₁ B hml hv
  obtain ⟨rfl, hsz, hP, hK, hD0⟩ := hv
  have hx := B.exec
  have hb := B.bytes
  have hr0 := B.returns
  have hts := atoms_spec (ws := (zw yX2_fillGap cX2_fillGap 4 none)) B.pre
  have hw0 : ∀ w ∈ zW, w.before ([.ref (a 0), .int p0] : List Value).toArray s = true := fun w h => hts w (List.mem_cons_of_mem _ h)
  have hown : s.vm.findClass RX2 = some m.cls := findClass_of_methodNamed B.named
  have hlocks := B.notSynchronized
  subst hsz
  have hD := hD0.self (sz := s.heap.size)
  generalize hAe : va_A (zX2 g a v) s.heap.size = A at hD ⊢
  have hA : ∀ q : Nat, s.heap.size ≤ q → A q := fun q h => by rw [← hAe]; exact Or.inr h
  have hS : va_S A s.heap s.heap [] := va_S.rf
  unfold f_X2_fillGap at hf
  have hl := lv_entry ([.ref (a 0), .int p0]) (n := 4) (Nat.le_of_ble_eq_true rfl)
  rw [lg_entry_eq]
  generalize (lg_sl ([.ref (a 0), .int p0]) ++ List.replicate (4 - (lg_sl ([.ref (a 0), .int p0])).length) Slot.unset).toArray = ls at hl ⊢
  have hl : lv_has ls 4 [(0, .ref (a 0)), (1, .int p0)] := hl
  refine lv_aload_n hx hb dX2_fillGap_0 rfl (lv_at hl 0 rfl) ?_
  refine va_get (D := g.1) (ci := 2) (v := .ref (a 7)) (C := RX2) (T := TX2) (N := 11) hx hb hw0 ziX2 hown hK.1 hP 0 rfl rfl 1 (by decide) (hw0 _ zm1_143) (fun _ h9 => h9) rfl dX2_fillGap_1 ?_
  refine lv_iload_n hx hb dX2_fillGap_4 rfl (lv_at hl 1 rfl) ?_
  refine lv_aload_n hx hb dX2_fillGap_5 rfl (lv_at hl 0 rfl) ?_
  refine va_get (D := g.1) (ci := 2) (v := .int v.2.2.2.1) (C := RX2) (T := TX2) (N := 11) hx hb hw0 ziX2 hown hK.1 hP 0 rfl rfl 3 (by decide) (hw0 _ zm1_147) (fun _ h9 => h9) rfl dX2_fillGap_6 ?_
  refine lv_isub hx hb dX2_fillGap_9 ?_
  obtain ⟨u1, hu1, hf⟩ := ob hf
  refine zk_i (va_runVN (As := [.int (p0 - v.2.2.2.1)]) (rest := []) ⟨hx, hb, hml, hown, hts⟩ (c_X1_chooseFor l g (fun k => a (k + 7)) v.2.1 (p0 - v.2.2.2.1) _ hu1 _) (zcN hw0 (zn_33 hK) zm3_68 zm1_4 zm3_67 zs3_4 hd_X1_chooseFor rfl rfl ⟨Nat.le_of_ble_eq_true rfl, Nat.le_of_ble_eq_true rfl⟩) ⟨zblind, zrecv (wc := zX1 g (fun k => a (k + 7)) v.2.1) hK hP [7, 8, 9, 10, 11, 12, 13] rfl (ci := 1) rfl rfl, zpre hK hP hD [7, 8, 9, 10, 11, 12, 13] rfl rfl⟩ rfl rfl hl.1 rfl (lv_room (Nat.le_of_ble_eq_true rfl)) dX2_fillGap_10 ⟨Nat.zero_le _, Nat.zero_le _⟩) hP hD hS hA [7, 8, 9, 10, 11, 12, 13] rfl rfl (fun H locs hP hD hS => ?_)
  have hP : va_P g.1 vwCl (zX2 g a (v.1, u1.2, v.2.2.1, v.2.2.2.1, v.2.2.2.2.1, v.2.2.2.2.2.1, v.2.2.2.2.2.2.1, v.2.2.2.2.2.2.2.1, v.2.2.2.2.2.2.2.2.1, v.2.2.2.2.2.2.2.2.2.1, v.2.2.2.2.2.2.2.2.2.2)) H := hP
  have hD : va_D A (zX2 g a (v.1, u1.2, v.2.2.1, v.2.2.2.1, v.2.2.2.2.1, v.2.2.2.2.2.1, v.2.2.2.2.2.2.1, v.2.2.2.2.2.2.2.1, v.2.2.2.2.2.2.2.2.1, v.2.2.2.2.2.2.2.2.2.1, v.2.2.2.2.2.2.2.2.2.2)) := hD
  refine lv_istore_n (lv' := [(2, .int u1.1), (0, .ref (a 0)), (1, .int p0)]) hx hb dX2_fillGap_13 rfl hl (by decide) rfl (fun ls hl => ?_)
  refine lv_iload_n hx hb dX2_fillGap_14 rfl (lv_at hl 0 rfl) ?_
  obtain ⟨u2, hu2, hf⟩ := ob hf
  refine zk_iR (va_runS (As := [.int u1.1]) (rest := []) ⟨hx, hb, hml, hown, hts⟩ (c_J6_numberOfTrailingZeros_0f7a4 l g u1.1 _ hu2 _) (zcS hw0 zm3_81 zm3_79 zm1_15 zm3_78 hd_J6_numberOfTrailingZeros_0f7a4 rfl rfl ⟨Nat.le_of_ble_eq_true rfl, Nat.le_of_ble_eq_true rfl⟩) ⟨zblind, zpre hK hP hD [] rfl rfl⟩ rfl rfl hl.1 rfl (lv_room (Nat.le_of_ble_eq_true rfl)) dX2_fillGap_15 ⟨Nat.zero_le _, Nat.zero_le _⟩) hP hD hS hA [] rfl (fun H locs hP hD hS => ?_)
  refine lv_istore_n (lv' := [(3, .int u2), (2, .int u1.1), (0, .ref (a 0)), (1, .int p0)]) hx hb dX2_fillGap_18 rfl hl (by decide) rfl (fun ls hl => ?_)
  refine lv_iload_n hx hb dX2_fillGap_19 rfl (lv_at hl 1 rfl) ?_
  refine lv_if_eq (tgt := 80) hx hb dX2_fillGap_20 (by decide) (fun c3 => ?_) (fun c3 => ?_)
  · have hf := oi hf c3
    refine lv_aload_n hx hb dX2_fillGap_80 rfl (lv_at hl 2 rfl) ?_
    refine lv_iconst (v := 2) hx hb dX2_fillGap_81 (by decide) ?_
    refine lv_iconst (v := (-1)) hx hb dX2_fillGap_82 (by decide) ?_
    refine lv_iload_n hx hb dX2_fillGap_83 rfl (lv_at hl 3 rfl) ?_
    obtain ⟨u4, hu4, hf⟩ := ob hf
    refine zk_vA (va_runV (As := [.int 2, .int (-1), .int p0]) (rest := []) ⟨hx, hb, hml, hown, hts⟩ (c_X2_putOnAir l g a (v.1, u1.2, v.2.2.1, v.2.2.2.1, v.2.2.2.2.1, v.2.2.2.2.2.1, v.2.2.2.2.2.2.1, v.2.2.2.2.2.2.2.1, v.2.2.2.2.2.2.2.2.1, v.2.2.2.2.2.2.2.2.2.1, v.2.2.2.2.2.2.2.2.2.2) 2 (-1) p0 _ hu4 _) (zcV hw0 zm3_82 zm3_85 zm1_2 zm3_84 zs3_7 hd_X2_putOnAir rfl rfl ⟨Nat.le_of_ble_eq_true rfl, Nat.le_of_ble_eq_true rfl⟩) ⟨zblind, zrecvA hK hP (ci := 2) rfl rfl, zpreA hK hP hD⟩ rfl rfl hl.1 rfl (lv_room (Nat.le_of_ble_eq_true rfl)) dX2_fillGap_84 ⟨Nat.zero_le _, Nat.zero_le _⟩) hP hD hS hA (fun H locs hP hD hS => ?_)
    have hP : va_P g.1 vwCl (zX2 g a u4) H := hP
    have hD : va_D A (zX2 g a u4) := hD
    have hR : u4 = r := Option.some.inj hf
    subst hR
    exact W.vret hx hb hr0 (fun t ht hW => ⟨⟨(), rfl, trivial, by rw [ht]; exact hP, hD⟩, hS.F ht⟩) hS.2.2 dX2_fillGap_87
  · have hf := oe hf c3
    refine lv_aload_n hx hb dX2_fillGap_23 rfl (lv_at hl 2 rfl) ?_
    refine va_get (D := g.1) (ci := 2) (v := .ref (a 7)) (C := RX2) (T := TX2) (N := 11) hx hb hw0 ziX2 hown hK.1 hP 0 rfl rfl 1 (by decide) (hw0 _ zm1_143) (fun _ h9 => h9) rfl dX2_fillGap_24 ?_
    refine lv_iload_n hx hb dX2_fillGap_27 rfl (lv_at hl 0 rfl) ?_
    obtain ⟨u5, hu5, hf⟩ := ob hf
    refine zk_iR (va_runVN (As := [.int u2]) (rest := []) ⟨hx, hb, hml, hown, hts⟩ (c_X1_has l g (fun k => a (k + 7)) u1.2 u2 _ hu5 _) (zcN hw0 (zn_19 hK) zm2_192 zm1_4 zm2_191 zs2_0 hd_X1_has rfl rfl ⟨Nat.le_of_ble_eq_true rfl, Nat.le_of_ble_eq_true rfl⟩) ⟨zblind, zrecv (wc := zX1 g (fun k => a (k + 7)) u1.2) hK hP [7, 8, 9, 10, 11, 12, 13] rfl (ci := 1) rfl rfl, zpre hK hP hD [7, 8, 9, 10, 11, 12, 13] rfl rfl⟩ rfl rfl hl.1 rfl (lv_room (Nat.le_of_ble_eq_true rfl)) dX2_fillGap_28 ⟨Nat.zero_le _, Nat.zero_le _⟩) hP hD hS hA [7, 8, 9, 10, 11, 12, 13] rfl (fun H locs hP hD hS => ?_)
    refine lv_if_eq (tgt := 80) hx hb dX2_fillGap_31 (by decide) (fun c6 => ?_) (fun c6 => ?_)
    · have hf := oi hf c6
      refine lv_aload_n hx hb dX2_fillGap_80 rfl (lv_at hl 2 rfl) ?_
      refine lv_iconst (v := 2) hx hb dX2_fillGap_81 (by decide) ?_
      refine lv_iconst (v := (-1)) hx hb dX2_fillGap_82 (by decide) ?_
      refine lv_iload_n hx hb dX2_fillGap_83 rfl (lv_at hl 3 rfl) ?_
      obtain ⟨u7, hu7, hf⟩ := ob hf
      refine zk_vA (va_runV (As := [.int 2, .int (-1), .int p0]) (rest := []) ⟨hx, hb, hml, hown, hts⟩ (c_X2_putOnAir l g a (v.1, u1.2, v.2.2.1, v.2.2.2.1, v.2.2.2.2.1, v.2.2.2.2.2.1, v.2.2.2.2.2.2.1, v.2.2.2.2.2.2.2.1, v.2.2.2.2.2.2.2.2.1, v.2.2.2.2.2.2.2.2.2.1, v.2.2.2.2.2.2.2.2.2.2) 2 (-1) p0 _ hu7 _) (zcV hw0 zm3_82 zm3_85 zm1_2 zm3_84 zs3_7 hd_X2_putOnAir rfl rfl ⟨Nat.le_of_ble_eq_true rfl, Nat.le_of_ble_eq_true rfl⟩) ⟨zblind, zrecvA hK hP (ci := 2) rfl rfl, zpreA hK hP hD⟩ rfl rfl hl.1 rfl (lv_room (Nat.le_of_ble_eq_true rfl)) dX2_fillGap_84 ⟨Nat.zero_le _, Nat.zero_le _⟩) hP hD hS hA (fun H locs hP hD hS => ?_)
      have hP : va_P g.1 vwCl (zX2 g a u7) H := hP
      have hD : va_D A (zX2 g a u7) := hD
      have hR : u7 = r := Option.some.inj hf
      subst hR
      exact W.vret hx hb hr0 (fun t ht hW => ⟨⟨(), rfl, trivial, by rw [ht]; exact hP, hD⟩, hS.F ht⟩) hS.2.2 dX2_fillGap_87
    · have hf := oe hf c6
      refine lv_aload_n hx hb dX2_fillGap_34 rfl (lv_at hl 2 rfl) ?_
      refine va_get (D := g.1) (ci := 2) (v := .ref (a 7)) (C := RX2) (T := TX2) (N := 11) hx hb hw0 ziX2 hown hK.1 hP 0 rfl rfl 1 (by decide) (hw0 _ zm1_143) (fun _ h9 => h9) rfl dX2_fillGap_35 ?_
      refine va_getN (D := g.1) (ci := 1) (v := .ref (a 9)) (C := RX1) (T := TX1) (N := 5) hx hb hw0 ziX1 hown hK.1 hP 7 rfl rfl 2 (by decide) (va_Nw.use rfl (zf_15 hK)) (fun _ h9 => h9) rfl dX2_fillGap_38 ?_
      refine lv_iload_n hx hb dX2_fillGap_41 rfl (lv_at hl 0 rfl) ?_
      refine lv_iconst (v := 1) hx hb dX2_fillGap_42 (by decide) ?_
      obtain ⟨h8, hf⟩ := og hf
      refine zast (D := g.1) (f := u1.2.2.2.1) (k := u2.toNatClampNeg) (x := 1) hx hb hK.1 hP hD hS 9 0 rfl rfl (zin_vp h8) rfl dX2_fillGap_43 (fun H locs hP hD hS => ?_)
      have hP : va_P g.1 vwCl (zX2 g a (v.1, (u1.2.1, u1.2.2.1, (upd u1.2.2.2.1 u2.toNatClampNeg 1), u1.2.2.2.2.1, u1.2.2.2.2.2), v.2.2.1, v.2.2.2.1, v.2.2.2.2.1, v.2.2.2.2.2.1, v.2.2.2.2.2.2.1, v.2.2.2.2.2.2.2.1, v.2.2.2.2.2.2.2.2.1, v.2.2.2.2.2.2.2.2.2.1, v.2.2.2.2.2.2.2.2.2.2)) H := hP
      have hD : va_D A (zX2 g a (v.1, (u1.2.1, u1.2.2.1, (upd u1.2.2.2.1 u2.toNatClampNeg 1), u1.2.2.2.2.1, u1.2.2.2.2.2), v.2.2.1, v.2.2.2.1, v.2.2.2.2.1, v.2.2.2.2.2.1, v.2.2.2.2.2.2.1, v.2.2.2.2.2.2.2.1, v.2.2.2.2.2.2.2.2.1, v.2.2.2.2.2.2.2.2.2.1, v.2.2.2.2.2.2.2.2.2.2)) := hD
      refine lv_aload_n hx hb dX2_fillGap_44 rfl (lv_at hl 2 rfl) ?_
      refine va_get (D := g.1) (ci := 2) (v := .ref (a 7)) (C := RX2) (T := TX2) (N := 11) hx hb hw0 ziX2 hown hK.1 hP 0 rfl rfl 1 (by decide) (hw0 _ zm1_143) (fun _ h9 => h9) rfl dX2_fillGap_45 ?_
      refine va_getN (D := g.1) (ci := 1) (v := .ref (a 10)) (C := RX1) (T := TX1) (N := 5) hx hb hw0 ziX1 hown hK.1 hP 7 rfl rfl 3 (by decide) (va_Nw.use rfl (zf_16 hK)) (fun _ h9 => h9) rfl dX2_fillGap_48 ?_
      refine lv_iload_n hx hb dX2_fillGap_51 rfl (lv_at hl 0 rfl) ?_
      refine lv_aload_n hx hb dX2_fillGap_52 rfl (lv_at hl 2 rfl) ?_
      refine va_get (D := g.1) (ci := 2) (v := .int v.2.2.2.1) (C := RX2) (T := TX2) (N := 11) hx hb hw0 ziX2 hown hK.1 hP 0 rfl rfl 3 (by decide) (hw0 _ zm1_147) (fun _ h9 => h9) rfl dX2_fillGap_53 ?_
      obtain ⟨h9, hf⟩ := og hf
      refine zast (D := g.1) (f := u1.2.2.2.2.1) (k := u2.toNatClampNeg) (x := v.2.2.2.1) hx hb hK.1 hP hD hS 10 0 rfl rfl (zin_vp h9) rfl dX2_fillGap_56 (fun H locs hP hD hS => ?_)
      have hP : va_P g.1 vwCl (zX2 g a (v.1, (u1.2.1, u1.2.2.1, (upd u1.2.2.2.1 u2.toNatClampNeg 1), (upd u1.2.2.2.2.1 u2.toNatClampNeg v.2.2.2.1), u1.2.2.2.2.2), v.2.2.1, v.2.2.2.1, v.2.2.2.2.1, v.2.2.2.2.2.1, v.2.2.2.2.2.2.1, v.2.2.2.2.2.2.2.1, v.2.2.2.2.2.2.2.2.1, v.2.2.2.2.2.2.2.2.2.1, v.2.2.2.2.2.2.2.2.2.2)) H := hP
      have hD : va_D A (zX2 g a (v.1, (u1.2.1, u1.2.2.1, (upd u1.2.2.2.1 u2.toNatClampNeg 1), (upd u1.2.2.2.2.1 u2.toNatClampNeg v.2.2.2.1), u1.2.2.2.2.2), v.2.2.1, v.2.2.2.1, v.2.2.2.2.1, v.2.2.2.2.2.1, v.2.2.2.2.2.2.1, v.2.2.2.2.2.2.2.1, v.2.2.2.2.2.2.2.2.1, v.2.2.2.2.2.2.2.2.2.1, v.2.2.2.2.2.2.2.2.2.2)) := hD
      refine lv_aload_n hx hb dX2_fillGap_57 rfl (lv_at hl 2 rfl) ?_
      refine lv_iconst (v := 1) hx hb dX2_fillGap_58 (by decide) ?_
      refine lv_iload_n hx hb dX2_fillGap_59 rfl (lv_at hl 0 rfl) ?_
      refine lv_aload_n hx hb dX2_fillGap_60 rfl (lv_at hl 2 rfl) ?_
      refine va_get (D := g.1) (ci := 2) (v := .int v.2.2.2.1) (C := RX2) (T := TX2) (N := 11) hx hb hw0 ziX2 hown hK.1 hP 0 rfl rfl 3 (by decide) (hw0 _ zm1_147) (fun _ h9 => h9) rfl dX2_fillGap_61 ?_
      refine lv_aload_n hx hb dX2_fillGap_64 rfl (lv_at hl 2 rfl) ?_
      refine va_get (D := g.1) (ci := 2) (v := .ref (a 7)) (C := RX2) (T := TX2) (N := 11) hx hb hw0 ziX2 hown hK.1 hP 0 rfl rfl 1 (by decide) (hw0 _ zm1_143) (fun _ h9 => h9) rfl dX2_fillGap_65 ?_
      refine va_getN (D := g.1) (ci := 1) (v := .ref (a 8)) (C := RX1) (T := TX1) (N := 5) hx hb hw0 ziX1 hown hK.1 hP 7 rfl rfl 1 (by decide) (va_Nw.use rfl (zf_13 hK)) (fun _ h9 => h9) rfl dX2_fillGap_68 ?_
      refine lv_iload_n hx hb dX2_fillGap_71 rfl (lv_at hl 0 rfl) ?_
      obtain ⟨h10, hf⟩ := og hf
      refine zald (D := g.1) (f := u1.2.2.1) (k := u2.toNatClampNeg) hx hb hK.1 hP 8 0 rfl rfl (zin_vp h10) rfl dX2_fillGap_72 ?_
      refine lv_iadd hx hb dX2_fillGap_73 ?_
      obtain ⟨u11, hu11, hf⟩ := ob hf
      refine zk_vA (va_runV (As := [.int 1, .int u2, .int (v.2.2.2.1 + (u1.2.2.1 u2.toNatClampNeg))]) (rest := []) ⟨hx, hb, hml, hown, hts⟩ (c_X2_putOnAir l g a (v.1, (u1.2.1, u1.2.2.1, (upd u1.2.2.2.1 u2.toNatClampNeg 1), (upd u1.2.2.2.2.1 u2.toNatClampNeg v.2.2.2.1), u1.2.2.2.2.2), v.2.2.1, v.2.2.2.1, v.2.2.2.2.1, v.2.2.2.2.2.1, v.2.2.2.2.2.2.1, v.2.2.2.2.2.2.2.1, v.2.2.2.2.2.2.2.2.1, v.2.2.2.2.2.2.2.2.2.1, v.2.2.2.2.2.2.2.2.2.2) 1 u2 (v.2.2.2.1 + (u1.2.2.1 u2.toNatClampNeg)) _ hu11 _) (zcV hw0 zm3_82 zm3_85 zm1_2 zm3_84 zs3_7 hd_X2_putOnAir rfl rfl ⟨Nat.le_of_ble_eq_true rfl, Nat.le_of_ble_eq_true rfl⟩) ⟨zblind, zrecvA hK hP (ci := 2) rfl rfl, zpreA hK hP hD⟩ rfl rfl hl.1 rfl (lv_room (Nat.le_of_ble_eq_true rfl)) dX2_fillGap_74 ⟨Nat.zero_le _, Nat.zero_le _⟩) hP hD hS hA (fun H locs hP hD hS => ?_)
      have hP : va_P g.1 vwCl (zX2 g a u11) H := hP
      have hD : va_D A (zX2 g a u11) := hD
      refine lv_goto (tgt := 87) hx hb dX2_fillGap_77 (by decide) ?_
      have hR : u11 = r := Option.some.inj hf
      subst hR
      exact W.vret hx hb hr0 (fun t ht hW => ⟨⟨(), rfl, trivial, by rw [ht]; exact hP, hD⟩, hS.F ht⟩) hS.2.2 dX2_fillGap_87
theorem hd_X2_beginElement : yX2_beginElement.cls ≠ "java/lang/invoke/MethodHandle" ∧ yX2_beginElement.cls ≠ "java/lang/invoke/VarHandle" ∧ (parseMethodDescriptor yX2_beginElement.desc).map (fun d => d.parameters.length) = some 1 := by decide +kernel
def f_X2_beginElement (v : HV) (p0 : Int32) : Option (HV) :=
  (f_X0_has v.1 p0).bind (fun u1 =>
  if (zb u1) = 0 then
    some v
  else
    if zin p0 12 = true then
    if zin p0 12 = true then
    (f_X0_lateness (v.1.1, v.1.2.1, v.1.2.2.1, v.1.2.2.2.1, (upd v.1.2.2.2.2.1 p0.toNatClampNeg 1), (upd v.1.2.2.2.2.2 p0.toNatClampNeg v.2.2.2.1)) p0).bind (fun u5 =>
    if zin p0 12 = true then
    (f_X2_putOnAir ((v.1.1, v.1.2.1, v.1.2.2.1, v.1.2.2.2.1, (upd v.1.2.2.2.2.1 p0.toNatClampNeg 1), (upd v.1.2.2.2.2.2 p0.toNatClampNeg v.2.2.2.1)), v.2.1, v.2.2.1, v.2.2.2.1, v.2.2.2.2.1, v.2.2.2.2.2.1, (if v.2.2.2.2.2.2.1 < u5 then u5 else v.2.2.2.2.2.2.1), v.2.2.2.2.2.2.2.1, v.2.2.2.2.2.2.2.2.1, v.2.2.2.2.2.2.2.2.2.1, v.2.2.2.2.2.2.2.2.2.2) 0 p0 (v.2.2.2.1 + (v.1.2.1 p0.toNatClampNeg))).bind (fun u7 =>
    some u7)
    else none)
    else none
    else none)
set_option maxHeartbeats 4000000 in
set_option maxRecDepth 100000 in
theorem c_X2_beginElement (l : Launch) (g : zG) (a : Nat → Nat) (v : HV) (p0 : Int32) (r : HV) (hf : f_X2_beginElement v p0 = some r) : zMv zNF zNM l yX2_beginElement (zw yX2_beginElement cX2_beginElement 2 none) ({ frames := 3, cells := 0, slots := 0, locals := 63 } : Room) g [.ref (a 0), .int p0] (zX2 g a v) (zX2 g a r) := by
  intro sz
  refine Met.ofW (cc := cX2_beginElement) (maxL := 2) (ret := none) (by decide) rfl ?_
  intro p e s m args below meth c s₁ B hml hv
  obtain ⟨rfl, hsz, hP, hK, hD0⟩ := hv
  have hx := B.exec
  have hb := B.bytes
  have hr0 := B.returns
  have hts := atoms_spec (ws := (zw yX2_beginElement cX2_beginElement 2 none)) B.pre
  have hw0 : ∀ w ∈ zW, w.before ([.ref (a 0), .int p0] : List Value).toArray s = true := fun w h => hts w (List.mem_cons_of_mem _ h)
  have hown : s.vm.findClass RX2 = some m.cls := findClass_of_methodNamed B.named
  have hlocks := B.notSynchronized
  subst hsz
  have hD := hD0.self (sz := s.heap.size)
  generalize hAe : va_A (zX2 g a v) s.heap.size = A at hD ⊢
  have hA : ∀ q : Nat, s.heap.size ≤ q → A q := fun q h => by rw [← hAe]; exact Or.inr h
  have hS : va_S A s.heap s.heap [] := va_S.rf
  unfold f_X2_beginElement at hf
  have hl := lv_entry ([.ref (a 0), .int p0]) (n := 2) (Nat.le_of_ble_eq_true rfl)
  rw [lg_entry_eq]
  generalize (lg_sl ([.ref (a 0), .int p0]) ++ List.replicate (2 - (lg_sl ([.ref (a 0), .int p0])).length) Slot.unset).toArray = ls at hl ⊢
  have hl : lv_has ls 2 [(0, .ref (a 0)), (1, .int p0)] := hl
  refine lv_aload_n hx hb dX2_beginElement_0 rfl (lv_at hl 0 rfl) ?_
  refine va_get (D := g.1) (ci := 2) (v := .ref (a 1)) (C := RX2) (T := TX2) (N := 11) hx hb hw0 ziX2 hown hK.1 hP 0 rfl rfl 0 (by decide) (hw0 _ zm1_141) (fun _ h9 => h9) rfl dX2_beginElement_1 ?_
  refine lv_iload_n hx hb dX2_beginElement_4 rfl (lv_at hl 1 rfl) ?_
  obtain ⟨u1, hu1, hf⟩ := ob hf
  refine zk_iR (va_runVN (As := [.int p0]) (rest := []) ⟨hx, hb, hml, hown, hts⟩ (c_X0_has l g (fun k => a (k + 1)) v.1 p0 _ hu1 _) (zcN hw0 (zn_18 hK) zm2_143 zm1_3 zm2_142 zs1_9 hd_X0_has rfl rfl ⟨Nat.le_of_ble_eq_true rfl, Nat.le_of_ble_eq_true rfl⟩) ⟨zblind, zrecv (wc := zX0 g (fun k => a (k + 1)) v.1) hK hP [1, 2, 3, 4, 5, 6] rfl (ci := 0) rfl rfl, zpre hK hP hD [1, 2, 3, 4, 5, 6] rfl rfl⟩ rfl rfl hl.1 rfl (lv_room (Nat.le_of_ble_eq_true rfl)) dX2_beginElement_5 ⟨Nat.zero_le _, Nat.zero_le _⟩) hP hD hS hA [1, 2, 3, 4, 5, 6] rfl (fun H locs hP hD hS => ?_)
  refine lv_if_ne (tgt := 12) hx hb dX2_beginElement_8 (by decide) (fun c2 => ?_) (fun c2 => ?_)
  · have hf := oe hf c2
    refine lv_aload_n hx hb dX2_beginElement_12 rfl (lv_at hl 0 rfl) ?_
    refine va_get (D := g.1) (ci := 2) (v := .ref (a 1)) (C := RX2) (T := TX2) (N := 11) hx hb hw0 ziX2 hown hK.1 hP 0 rfl rfl 0 (by decide) (hw0 _ zm1_141) (fun _ h9 => h9) rfl dX2_beginElement_13 ?_
    refine va_getN (D := g.1) (ci := 0) (v := .ref (a 5)) (C := RX0) (T := TX0) (N := 6) hx hb hw0 ziX0 hown hK.1 hP 1 rfl rfl 4 (by decide) (va_Nw.use rfl (zf_4 hK)) (fun _ h9 => h9) rfl dX2_beginElement_16 ?_
    refine lv_iload_n hx hb dX2_beginElement_19 rfl (lv_at hl 1 rfl) ?_
    refine lv_iconst (v := 1) hx hb dX2_beginElement_20 (by decide) ?_
    obtain ⟨h3, hf⟩ := og hf
    refine zast (D := g.1) (f := v.1.2.2.2.2.1) (k := p0.toNatClampNeg) (x := 1) hx hb hK.1 hP hD hS 5 0 rfl rfl (zin_vp h3) rfl dX2_beginElement_21 (fun H locs hP hD hS => ?_)
    have hP : va_P g.1 vwCl (zX2 g a ((v.1.1, v.1.2.1, v.1.2.2.1, v.1.2.2.2.1, (upd v.1.2.2.2.2.1 p0.toNatClampNeg 1), v.1.2.2.2.2.2), v.2.1, v.2.2.1, v.2.2.2.1, v.2.2.2.2.1, v.2.2.2.2.2.1, v.2.2.2.2.2.2.1, v.2.2.2.2.2.2.2.1, v.2.2.2.2.2.2.2.2.1, v.2.2.2.2.2.2.2.2.2.1, v.2.2.2.2.2.2.2.2.2.2)) H := hP
    have hD : va_D A (zX2 g a ((v.1.1, v.1.2.1, v.1.2.2.1, v.1.2.2.2.1, (upd v.1.2.2.2.2.1 p0.toNatClampNeg 1), v.1.2.2.2.2.2), v.2.1, v.2.2.1, v.2.2.2.1, v.2.2.2.2.1, v.2.2.2.2.2.1, v.2.2.2.2.2.2.1, v.2.2.2.2.2.2.2.1, v.2.2.2.2.2.2.2.2.1, v.2.2.2.2.2.2.2.2.2.1, v.2.2.2.2.2.2.2.2.2.2)) := hD
    refine lv_aload_n hx hb dX2_beginElement_22 rfl (lv_at hl 0 rfl) ?_
    refine va_get (D := g.1) (ci := 2) (v := .ref (a 1)) (C := RX2) (T := TX2) (N := 11) hx hb hw0 ziX2 hown hK.1 hP 0 rfl rfl 0 (by decide) (hw0 _ zm1_141) (fun _ h9 => h9) rfl dX2_beginElement_23 ?_
    refine va_getN (D := g.1) (ci := 0) (v := .ref (a 6)) (C := RX0) (T := TX0) (N := 6) hx hb hw0 ziX0 hown hK.1 hP 1 rfl rfl 5 (by decide) (va_Nw.use rfl (zf_5 hK)) (fun _ h9 => h9) rfl dX2_beginElement_26 ?_
    refine lv_iload_n hx hb dX2_beginElement_29 rfl (lv_at hl 1 rfl) ?_
    refine lv_aload_n hx hb dX2_beginElement_30 rfl (lv_at hl 0 rfl) ?_
    refine va_get (D := g.1) (ci := 2) (v := .int v.2.2.2.1) (C := RX2) (T := TX2) (N := 11) hx hb hw0 ziX2 hown hK.1 hP 0 rfl rfl 3 (by decide) (hw0 _ zm1_147) (fun _ h9 => h9) rfl dX2_beginElement_31 ?_
    obtain ⟨h4, hf⟩ := og hf
    refine zast (D := g.1) (f := v.1.2.2.2.2.2) (k := p0.toNatClampNeg) (x := v.2.2.2.1) hx hb hK.1 hP hD hS 6 0 rfl rfl (zin_vp h4) rfl dX2_beginElement_34 (fun H locs hP hD hS => ?_)
    have hP : va_P g.1 vwCl (zX2 g a ((v.1.1, v.1.2.1, v.1.2.2.1, v.1.2.2.2.1, (upd v.1.2.2.2.2.1 p0.toNatClampNeg 1), (upd v.1.2.2.2.2.2 p0.toNatClampNeg v.2.2.2.1)), v.2.1, v.2.2.1, v.2.2.2.1, v.2.2.2.2.1, v.2.2.2.2.2.1, v.2.2.2.2.2.2.1, v.2.2.2.2.2.2.2.1, v.2.2.2.2.2.2.2.2.1, v.2.2.2.2.2.2.2.2.2.1, v.2.2.2.2.2.2.2.2.2.2)) H := hP
    have hD : va_D A (zX2 g a ((v.1.1, v.1.2.1, v.1.2.2.1, v.1.2.2.2.1, (upd v.1.2.2.2.2.1 p0.toNatClampNeg 1), (upd v.1.2.2.2.2.2 p0.toNatClampNeg v.2.2.2.1)), v.2.1, v.2.2.1, v.2.2.2.1, v.2.2.2.2.1, v.2.2.2.2.2.1, v.2.2.2.2.2.2.1, v.2.2.2.2.2.2.2.1, v.2.2.2.2.2.2.2.2.1, v.2.2.2.2.2.2.2.2.2.1, v.2.2.2.2.2.2.2.2.2.2)) := hD
    refine lv_aload_n hx hb dX2_beginElement_35 rfl (lv_at hl 0 rfl) ?_
    refine lv_aload_n hx hb dX2_beginElement_36 rfl (lv_at hl 0 rfl) ?_
    refine va_get (D := g.1) (ci := 2) (v := .int v.2.2.2.2.2.2.1) (C := RX2) (T := TX2) (N := 11) hx hb hw0 ziX2 hown hK.1 hP 0 rfl rfl 6 (by decide) (hw0 _ zm1_153) (fun _ h9 => h9) rfl dX2_beginElement_37 ?_
    refine lv_aload_n hx hb dX2_beginElement_40 rfl (lv_at hl 0 rfl) ?_
    refine va_get (D := g.1) (ci := 2) (v := .ref (a 1)) (C := RX2) (T := TX2) (N := 11) hx hb hw0 ziX2 hown hK.1 hP 0 rfl rfl 0 (by decide) (hw0 _ zm1_141) (fun _ h9 => h9) rfl dX2_beginElement_41 ?_
    refine lv_iload_n hx hb dX2_beginElement_44 rfl (lv_at hl 1 rfl) ?_
    obtain ⟨u5, hu5, hf⟩ := ob hf
    refine zk_iR (va_runVN (As := [.int p0]) (rest := [.int v.2.2.2.2.2.2.1, .ref (a 0)]) ⟨hx, hb, hml, hown, hts⟩ (c_X0_lateness l g (fun k => a (k + 1)) (v.1.1, v.1.2.1, v.1.2.2.1, v.1.2.2.2.1, (upd v.1.2.2.2.2.1 p0.toNatClampNeg 1), (upd v.1.2.2.2.2.2 p0.toNatClampNeg v.2.2.2.1)) p0 _ hu5 _) (zcN hw0 (zn_36 hK) zm3_93 zm1_3 zm3_92 zs3_9 hd_X0_lateness rfl rfl ⟨Nat.le_of_ble_eq_true rfl, Nat.le_of_ble_eq_true rfl⟩) ⟨zblind, zrecv (wc := zX0 g (fun k => a (k + 1)) (v.1.1, v.1.2.1, v.1.2.2.1, v.1.2.2.2.1, (upd v.1.2.2.2.2.1 p0.toNatClampNeg 1), (upd v.1.2.2.2.2.2 p0.toNatClampNeg v.2.2.2.1))) hK hP [1, 2, 3, 4, 5, 6] rfl (ci := 0) rfl rfl, zpre hK hP hD [1, 2, 3, 4, 5, 6] rfl rfl⟩ rfl rfl hl.1 rfl (lv_room (Nat.le_of_ble_eq_true rfl)) dX2_beginElement_45 ⟨Nat.zero_le _, Nat.zero_le _⟩) hP hD hS hA [1, 2, 3, 4, 5, 6] rfl (fun H locs hP hD hS => ?_)
    refine va_mmax hx hb (hml.trans hl.1.symm) hown (hw0 _ zm3_95) (hw0 _ zm3_96) (hw0 _ zm1_16) (hw0 _ zm3_97) (Nat.le_of_ble_eq_true rfl) (Nat.le_of_ble_eq_true rfl) (Nat.zero_le _) (Nat.zero_le _) dX2_beginElement_48 ?_
    refine va_put (D := g.1) (ci := 2) (v := .int (if v.2.2.2.2.2.2.1 < u5 then u5 else v.2.2.2.2.2.2.1)) (ty := .int) (C := RX2) (T := TX2) (N := 11) hx hb hw0 ziX2 tyX2 tyX2_ok nmX2 hown hK.1 hP hD hS 0 rfl rfl 6 (by decide) (hw0 _ zm1_153) (fun _ h9 => h9) rfl (tyX2_ok 6 (by decide)) rfl rfl (Nat.le_of_ble_eq_true rfl) dX2_beginElement_51 (fun H locs hP hD hS => ?_)
    have hP : va_P g.1 vwCl (zX2 g a ((v.1.1, v.1.2.1, v.1.2.2.1, v.1.2.2.2.1, (upd v.1.2.2.2.2.1 p0.toNatClampNeg 1), (upd v.1.2.2.2.2.2 p0.toNatClampNeg v.2.2.2.1)), v.2.1, v.2.2.1, v.2.2.2.1, v.2.2.2.2.1, v.2.2.2.2.2.1, (if v.2.2.2.2.2.2.1 < u5 then u5 else v.2.2.2.2.2.2.1), v.2.2.2.2.2.2.2.1, v.2.2.2.2.2.2.2.2.1, v.2.2.2.2.2.2.2.2.2.1, v.2.2.2.2.2.2.2.2.2.2)) H := hP
    have hD : va_D A (zX2 g a ((v.1.1, v.1.2.1, v.1.2.2.1, v.1.2.2.2.1, (upd v.1.2.2.2.2.1 p0.toNatClampNeg 1), (upd v.1.2.2.2.2.2 p0.toNatClampNeg v.2.2.2.1)), v.2.1, v.2.2.1, v.2.2.2.1, v.2.2.2.2.1, v.2.2.2.2.2.1, (if v.2.2.2.2.2.2.1 < u5 then u5 else v.2.2.2.2.2.2.1), v.2.2.2.2.2.2.2.1, v.2.2.2.2.2.2.2.2.1, v.2.2.2.2.2.2.2.2.2.1, v.2.2.2.2.2.2.2.2.2.2)) := hD
    refine lv_aload_n hx hb dX2_beginElement_54 rfl (lv_at hl 0 rfl) ?_
    refine lv_iconst (v := 0) hx hb dX2_beginElement_55 (by decide) ?_
    refine lv_iload_n hx hb dX2_beginElement_56 rfl (lv_at hl 1 rfl) ?_
    refine lv_aload_n hx hb dX2_beginElement_57 rfl (lv_at hl 0 rfl) ?_
    refine va_get (D := g.1) (ci := 2) (v := .int v.2.2.2.1) (C := RX2) (T := TX2) (N := 11) hx hb hw0 ziX2 hown hK.1 hP 0 rfl rfl 3 (by decide) (hw0 _ zm1_147) (fun _ h9 => h9) rfl dX2_beginElement_58 ?_
    refine lv_aload_n hx hb dX2_beginElement_61 rfl (lv_at hl 0 rfl) ?_
    refine va_get (D := g.1) (ci := 2) (v := .ref (a 1)) (C := RX2) (T := TX2) (N := 11) hx hb hw0 ziX2 hown hK.1 hP 0 rfl rfl 0 (by decide) (hw0 _ zm1_141) (fun _ h9 => h9) rfl dX2_beginElement_62 ?_
    refine va_getN (D := g.1) (ci := 0) (v := .ref (a 2)) (C := RX0) (T := TX0) (N := 6) hx hb hw0 ziX0 hown hK.1 hP 1 rfl rfl 1 (by decide) (va_Nw.use rfl (zf_3 hK)) (fun _ h9 => h9) rfl dX2_beginElement_65 ?_
    refine lv_iload_n hx hb dX2_beginElement_68 rfl (lv_at hl 1 rfl) ?_
    obtain ⟨h6, hf⟩ := og hf
    refine zald (D := g.1) (f := v.1.2.1) (k := p0.toNatClampNeg) hx hb hK.1 hP 2 0 rfl rfl (zin_vp h6) rfl dX2_beginElement_69 ?_
    refine lv_iadd hx hb dX2_beginElement_70 ?_
    obtain ⟨u7, hu7, hf⟩ := ob hf
    refine zk_vA (va_runV (As := [.int 0, .int p0, .int (v.2.2.2.1 + (v.1.2.1 p0.toNatClampNeg))]) (rest := []) ⟨hx, hb, hml, hown, hts⟩ (c_X2_putOnAir l g a ((v.1.1, v.1.2.1, v.1.2.2.1, v.1.2.2.2.1, (upd v.1.2.2.2.2.1 p0.toNatClampNeg 1), (upd v.1.2.2.2.2.2 p0.toNatClampNeg v.2.2.2.1)), v.2.1, v.2.2.1, v.2.2.2.1, v.2.2.2.2.1, v.2.2.2.2.2.1, (if v.2.2.2.2.2.2.1 < u5 then u5 else v.2.2.2.2.2.2.1), v.2.2.2.2.2.2.2.1, v.2.2.2.2.2.2.2.2.1, v.2.2.2.2.2.2.2.2.2.1, v.2.2.2.2.2.2.2.2.2.2) 0 p0 (v.2.2.2.1 + (v.1.2.1 p0.toNatClampNeg)) _ hu7 _) (zcV hw0 zm3_82 zm3_85 zm1_2 zm3_84 zs3_7 hd_X2_putOnAir rfl rfl ⟨Nat.le_of_ble_eq_true rfl, Nat.le_of_ble_eq_true rfl⟩) ⟨zblind, zrecvA hK hP (ci := 2) rfl rfl, zpreA hK hP hD⟩ rfl rfl hl.1 rfl (lv_room (Nat.le_of_ble_eq_true rfl)) dX2_beginElement_71 ⟨Nat.zero_le _, Nat.zero_le _⟩) hP hD hS hA (fun H locs hP hD hS => ?_)
    have hP : va_P g.1 vwCl (zX2 g a u7) H := hP
    have hD : va_D A (zX2 g a u7) := hD
    have hR : u7 = r := Option.some.inj hf
    subst hR
    exact W.vret hx hb hr0 (fun t ht hW => ⟨⟨(), rfl, trivial, by rw [ht]; exact hP, hD⟩, hS.F ht⟩) hS.2.2 dX2_beginElement_74
  · have hf := oi hf c2
    have hR : v = r := Option.some.inj hf
    subst hR
    exact W.vret hx hb hr0 (fun t ht hW => ⟨⟨(), rfl, trivial, by rw [ht]; exact hP, hD⟩, hS.F ht⟩) hS.2.2 dX2_beginElement_11
theorem hd_X2_findNext : yX2_findNext.cls ≠ "java/lang/invoke/MethodHandle" ∧ yX2_findNext.cls ≠ "java/lang/invoke/VarHandle" ∧ (parseMethodDescriptor yX2_findNext.desc).map (fun d => d.parameters.length) = some 0 := by decide +kernel
def f_X2_findNext (v : HV) : Option (HV) :=
  (f_X2_dropForTime v).bind (fun u1 =>
  (f_X0_firstThatWaits u1.1).bind (fun u2 =>
  if u2 = (-1) then
    (f_X0_goal u1.1).bind (fun u4 =>
    if u4 ≤ u1.2.2.2.1 then
      if u2 = (-1) then
        some (u1.1, u1.2.1, u1.2.2.1, u1.2.2.2.1, true, u1.2.2.2.2.2.1, u1.2.2.2.2.2.2.1, u1.2.2.2.2.2.2.2.1, u1.2.2.2.2.2.2.2.2.1, u1.2.2.2.2.2.2.2.2.2.1, u1.2.2.2.2.2.2.2.2.2.2)
      else
        (f_X2_beginElement u1 u2).bind (fun u7 =>
        some u7)
    else
      (f_X2_fillGap u1 u4).bind (fun u8 =>
      some u8))
  else
    (f_X0_isFixed u1.1 u2).bind (fun u9 =>
    if (zb u9) = 0 then
      (f_X0_goal u1.1).bind (fun u11 =>
      if u2 = (-1) then
        some (u1.1, u1.2.1, u1.2.2.1, u1.2.2.2.1, true, u1.2.2.2.2.2.1, u1.2.2.2.2.2.2.1, u1.2.2.2.2.2.2.2.1, u1.2.2.2.2.2.2.2.2.1, u1.2.2.2.2.2.2.2.2.2.1, u1.2.2.2.2.2.2.2.2.2.2)
      else
        (f_X2_beginElement u1 u2).bind (fun u13 =>
        some u13))
    else
      (f_X0_goal u1.1).bind (fun u14 =>
      if u14 ≤ u1.2.2.2.1 then
        if u2 = (-1) then
          some (u1.1, u1.2.1, u1.2.2.1, u1.2.2.2.1, true, u1.2.2.2.2.2.1, u1.2.2.2.2.2.2.1, u1.2.2.2.2.2.2.2.1, u1.2.2.2.2.2.2.2.2.1, u1.2.2.2.2.2.2.2.2.2.1, u1.2.2.2.2.2.2.2.2.2.2)
        else
          (f_X2_beginElement u1 u2).bind (fun u17 =>
          some u17)
      else
        (f_X2_fillGap u1 u14).bind (fun u18 =>
        some u18)))))
set_option maxHeartbeats 4000000 in
set_option maxRecDepth 100000 in
theorem c_X2_findNext (l : Launch) (g : zG) (a : Nat → Nat) (v : HV) (r : HV) (hf : f_X2_findNext v = some r) : zMv zNF zNM l yX2_findNext (zw yX2_findNext cX2_findNext 4 none) ({ frames := 4, cells := 0, slots := 0, locals := 95 } : Room) g [.ref (a 0)] (zX2 g a v) (zX2 g a r) := by
  intro sz
  refine Met.ofW (cc := cX2_findNext) (maxL := 4) (ret := none) (by decide) rfl ?_
  intro p e s m args below meth c s₁ B hml hv
  obtain ⟨rfl, hsz, hP, hK, hD0⟩ := hv
  have hx := B.exec
  have hb := B.bytes
  have hr0 := B.returns
  have hts := atoms_spec (ws := (zw yX2_findNext cX2_findNext 4 none)) B.pre
  have hw0 : ∀ w ∈ zW, w.before ([.ref (a 0)] : List Value).toArray s = true := fun w h => hts w (List.mem_cons_of_mem _ h)
  have hown : s.vm.findClass RX2 = some m.cls := findClass_of_methodNamed B.named
  have hlocks := B.notSynchronized
  subst hsz
  have hD := hD0.self (sz := s.heap.size)
  generalize hAe : va_A (zX2 g a v) s.heap.size = A at hD ⊢
  have hA : ∀ q : Nat, s.heap.size ≤ q → A q := fun q h => by rw [← hAe]; exact Or.inr h
  have hS : va_S A s.heap s.heap [] := va_S.rf
  unfold f_X2_findNext at hf
  have hl := lv_entry ([.ref (a 0)]) (n := 4) (Nat.le_of_ble_eq_true rfl)
  rw [lg_entry_eq]
  generalize (lg_sl ([.ref (a 0)]) ++ List.replicate (4 - (lg_sl ([.ref (a 0)])).length) Slot.unset).toArray = ls at hl ⊢
  have hl : lv_has ls 4 [(0, .ref (a 0))] := hl
  refine lv_aload_n hx hb dX2_findNext_0 rfl (lv_at hl 0 rfl) ?_
  obtain ⟨u1, hu1, hf⟩ := ob hf
  refine zk_vA (va_runV (As := []) (rest := []) ⟨hx, hb, hml, hown, hts⟩ (c_X2_dropForTime l g a v _ hu1 _) (zcV hw0 zm3_24 zm3_27 zm1_2 zm3_26 zs2_10 hd_X2_dropForTime rfl rfl ⟨Nat.le_of_ble_eq_true rfl, Nat.le_of_ble_eq_true rfl⟩) ⟨zblind, zrecvA hK hP (ci := 2) rfl rfl, zpreA hK hP hD⟩ rfl rfl hl.1 rfl (lv_room (Nat.le_of_ble_eq_true rfl)) dX2_findNext_1 ⟨Nat.zero_le _, Nat.zero_le _⟩) hP hD hS hA (fun H locs hP hD hS => ?_)
  have hP : va_P g.1 vwCl (zX2 g a u1) H := hP
  have hD : va_D A (zX2 g a u1) := hD
  refine lv_aload_n hx hb dX2_findNext_4 rfl (lv_at hl 0 rfl) ?_
  refine va_get (D := g.1) (ci := 2) (v := .ref (a 1)) (C := RX2) (T := TX2) (N := 11) hx hb hw0 ziX2 hown hK.1 hP 0 rfl rfl 0 (by decide) (hw0 _ zm1_141) (fun _ h9 => h9) rfl dX2_findNext_5 ?_
  obtain ⟨u2, hu2, hf⟩ := ob hf
  refine zk_iR (va_runVN (As := []) (rest := []) ⟨hx, hb, hml, hown, hts⟩ (c_X0_firstThatWaits l g (fun k => a (k + 1)) u1.1 _ hu2 _) (zcN hw0 (zn_31 hK) zm3_56 zm1_3 zm3_55 zs3_1 hd_X0_firstThatWaits rfl rfl ⟨Nat.le_of_ble_eq_true rfl, Nat.le_of_ble_eq_true rfl⟩) ⟨zblind, zrecv (wc := zX0 g (fun k => a (k + 1)) u1.1) hK hP [1, 2, 3, 4, 5, 6] rfl (ci := 0) rfl rfl, zpre hK hP hD [1, 2, 3, 4, 5, 6] rfl rfl⟩ rfl rfl hl.1 rfl (lv_room (Nat.le_of_ble_eq_true rfl)) dX2_findNext_8 ⟨Nat.zero_le _, Nat.zero_le _⟩) hP hD hS hA [1, 2, 3, 4, 5, 6] rfl (fun H locs hP hD hS => ?_)
  refine lv_istore_n (lv' := [(1, .int u2), (0, .ref (a 0))]) hx hb dX2_findNext_11 rfl hl (by decide) rfl (fun ls hl => ?_)
  refine lv_iload_n hx hb dX2_findNext_12 rfl (lv_at hl 0 rfl) ?_
  refine lv_iconst (v := (-1)) hx hb dX2_findNext_13 (by decide) ?_
  refine lv_icmp_eq (tgt := 28) hx hb dX2_findNext_14 (by decide) (fun c3 => ?_) (fun c3 => ?_)
  · have hf := oi hf c3
    refine lv_iconst (v := 1) hx hb dX2_findNext_28 (by decide) ?_
    refine lv_goto (tgt := 33) hx hb dX2_findNext_29 (by decide) ?_
    refine lv_istore_n (lv' := [(2, .int 1), (1, .int u2), (0, .ref (a 0))]) hx hb dX2_findNext_33 rfl hl (by decide) rfl (fun ls hl => ?_)
    refine lv_aload_n hx hb dX2_findNext_34 rfl (lv_at hl 2 rfl) ?_
    refine va_get (D := g.1) (ci := 2) (v := .ref (a 1)) (C := RX2) (T := TX2) (N := 11) hx hb hw0 ziX2 hown hK.1 hP 0 rfl rfl 0 (by decide) (hw0 _ zm1_141) (fun _ h9 => h9) rfl dX2_findNext_35 ?_
    obtain ⟨u4, hu4, hf⟩ := ob hf
    refine zk_iR (va_runVN (As := []) (rest := []) ⟨hx, hb, hml, hown, hts⟩ (c_X0_goal l g (fun k => a (k + 1)) u1.1 _ hu4 _) (zcN hw0 (zn_30 hK) zm3_47 zm1_3 zm3_46 zs2_15 hd_X0_goal rfl rfl ⟨Nat.le_of_ble_eq_true rfl, Nat.le_of_ble_eq_true rfl⟩) ⟨zblind, zrecv (wc := zX0 g (fun k => a (k + 1)) u1.1) hK hP [1, 2, 3, 4, 5, 6] rfl (ci := 0) rfl rfl, zpre hK hP hD [1, 2, 3, 4, 5, 6] rfl rfl⟩ rfl rfl hl.1 rfl (lv_room (Nat.le_of_ble_eq_true rfl)) dX2_findNext_38 ⟨Nat.zero_le _, Nat.zero_le _⟩) hP hD hS hA [1, 2, 3, 4, 5, 6] rfl (fun H locs hP hD hS => ?_)
    refine lv_istore_n (lv' := [(3, .int u4), (2, .int 1), (1, .int u2), (0, .ref (a 0))]) hx hb dX2_findNext_41 rfl hl (by decide) rfl (fun ls hl => ?_)
    refine lv_iload_n hx hb dX2_findNext_42 rfl (lv_at hl 1 rfl) ?_
    refine lv_if_eq (tgt := 62) hx hb dX2_findNext_43 (by decide) (fun c9 => absurd c9 (by decide)) (fun _ => ?_)
    refine lv_iload_n hx hb dX2_findNext_46 rfl (lv_at hl 0 rfl) ?_
    refine lv_aload_n hx hb dX2_findNext_47 rfl (lv_at hl 3 rfl) ?_
    refine va_get (D := g.1) (ci := 2) (v := .int u1.2.2.2.1) (C := RX2) (T := TX2) (N := 11) hx hb hw0 ziX2 hown hK.1 hP 0 rfl rfl 3 (by decide) (hw0 _ zm1_147) (fun _ h9 => h9) rfl dX2_findNext_48 ?_
    refine lv_icmp_le (tgt := 62) hx hb dX2_findNext_51 (by decide) (fun c5 => ?_) (fun c5 => ?_)
    · have hf := oi hf c5
      refine lv_iload_n hx hb dX2_findNext_62 rfl (lv_at hl 2 rfl) ?_
      refine lv_iconst (v := (-1)) hx hb dX2_findNext_63 (by decide) ?_
      refine lv_icmp_ne (tgt := 75) hx hb dX2_findNext_64 (by decide) (fun c6 => ?_) (fun c6 => ?_)
      · have hf := oe hf c6
        refine lv_aload_n hx hb dX2_findNext_75 rfl (lv_at hl 3 rfl) ?_
        refine lv_iload_n hx hb dX2_findNext_76 rfl (lv_at hl 2 rfl) ?_
        obtain ⟨u7, hu7, hf⟩ := ob hf
        refine zk_vA (va_runV (As := [.int u2]) (rest := []) ⟨hx, hb, hml, hown, hts⟩ (c_X2_beginElement l g a u1 u2 _ hu7 _) (zcV hw0 zm3_86 zm3_89 zm1_2 zm3_88 zs3_8 hd_X2_beginElement rfl rfl ⟨Nat.le_of_ble_eq_true rfl, Nat.le_of_ble_eq_true rfl⟩) ⟨zblind, zrecvA hK hP (ci := 2) rfl rfl, zpreA hK hP hD⟩ rfl rfl hl.1 rfl (lv_room (Nat.le_of_ble_eq_true rfl)) dX2_findNext_77 ⟨Nat.zero_le _, Nat.zero_le _⟩) hP hD hS hA (fun H locs hP hD hS => ?_)
        have hP : va_P g.1 vwCl (zX2 g a u7) H := hP
        have hD : va_D A (zX2 g a u7) := hD
        have hR : u7 = r := Option.some.inj hf
        subst hR
        exact W.vret hx hb hr0 (fun t ht hW => ⟨⟨(), rfl, trivial, by rw [ht]; exact hP, hD⟩, hS.F ht⟩) hS.2.2 dX2_findNext_80
      · have hf := oi hf c6
        refine lv_aload_n hx hb dX2_findNext_67 rfl (lv_at hl 3 rfl) ?_
        refine lv_iconst (v := 1) hx hb dX2_findNext_68 (by decide) ?_
        refine va_put (D := g.1) (ci := 2) (v := .int (zb true)) (ty := .boolean) (C := RX2) (T := TX2) (N := 11) hx hb hw0 ziX2 tyX2 tyX2_ok nmX2 hown hK.1 hP hD hS 0 rfl rfl 4 (by decide) (hw0 _ zm1_149) (fun _ h9 => h9) rfl (tyX2_ok 4 (by decide)) (zb_nar true) (zb_fit true) (Nat.le_of_ble_eq_true rfl) dX2_findNext_69 (fun H locs hP hD hS => ?_)
        have hP : va_P g.1 vwCl (zX2 g a (u1.1, u1.2.1, u1.2.2.1, u1.2.2.2.1, true, u1.2.2.2.2.2.1, u1.2.2.2.2.2.2.1, u1.2.2.2.2.2.2.2.1, u1.2.2.2.2.2.2.2.2.1, u1.2.2.2.2.2.2.2.2.2.1, u1.2.2.2.2.2.2.2.2.2.2)) H := hP
        have hD : va_D A (zX2 g a (u1.1, u1.2.1, u1.2.2.1, u1.2.2.2.1, true, u1.2.2.2.2.2.1, u1.2.2.2.2.2.2.1, u1.2.2.2.2.2.2.2.1, u1.2.2.2.2.2.2.2.2.1, u1.2.2.2.2.2.2.2.2.2.1, u1.2.2.2.2.2.2.2.2.2.2)) := hD
        refine lv_goto (tgt := 80) hx hb dX2_findNext_72 (by decide) ?_
        have hR : (u1.1, u1.2.1, u1.2.2.1, u1.2.2.2.1, true, u1.2.2.2.2.2.1, u1.2.2.2.2.2.2.1, u1.2.2.2.2.2.2.2.1, u1.2.2.2.2.2.2.2.2.1, u1.2.2.2.2.2.2.2.2.2.1, u1.2.2.2.2.2.2.2.2.2.2) = r := Option.some.inj hf
        subst hR
        exact W.vret hx hb hr0 (fun t ht hW => ⟨⟨(), rfl, trivial, by rw [ht]; exact hP, hD⟩, hS.F ht⟩) hS.2.2 dX2_findNext_80
    · have hf := oe hf c5
      refine lv_aload_n hx hb dX2_findNext_54 rfl (lv_at hl 3 rfl) ?_
      refine lv_iload_n hx hb dX2_findNext_55 rfl (lv_at hl 0 rfl) ?_
      obtain ⟨u8, hu8, hf⟩ := ob hf
      refine zk_vA (va_runV (As := [.int u4]) (rest := []) ⟨hx, hb, hml, hown, hts⟩ (c_X2_fillGap l g a u1 u4 _ hu8 _) (zcV hw0 zm3_61 zm3_64 zm1_2 zm3_63 zs3_3 hd_X2_fillGap rfl rfl ⟨Nat.le_of_ble_eq_true rfl, Nat.le_of_ble_eq_true rfl⟩) ⟨zblind, zrecvA hK hP (ci := 2) rfl rfl, zpreA hK hP hD⟩ rfl rfl hl.1 rfl (lv_room (Nat.le_of_ble_eq_true rfl)) dX2_findNext_56 ⟨Nat.zero_le _, Nat.zero_le _⟩) hP hD hS hA (fun H locs hP hD hS => ?_)
      have hP : va_P g.1 vwCl (zX2 g a u8) H := hP
      have hD : va_D A (zX2 g a u8) := hD
      refine lv_goto (tgt := 80) hx hb dX2_findNext_59 (by decide) ?_
      have hR : u8 = r := Option.some.inj hf
      subst hR
      exact W.vret hx hb hr0 (fun t ht hW => ⟨⟨(), rfl, trivial, by rw [ht]; exact hP, hD⟩, hS.F ht⟩) hS.2.2 dX2_findNext_80
  · have hf := oe hf c3
    refine lv_aload_n hx hb dX2_findNext_17 rfl (lv_at hl 1 rfl) ?_
    refine va_get (D := g.1) (ci := 2) (v := .ref (a 1)) (C := RX2) (T := TX2) (N := 11) hx hb hw0 ziX2 hown hK.1 hP 0 rfl rfl 0 (by decide) (hw0 _ zm1_141) (fun _ h9 => h9) rfl dX2_findNext_18 ?_
    refine lv_iload_n hx hb dX2_findNext_21 rfl (lv_at hl 0 rfl) ?_
    obtain ⟨u9, hu9, hf⟩ := ob hf
    refine zk_iR (va_runVN (As := [.int u2]) (rest := []) ⟨hx, hb, hml, hown, hts⟩ (c_X0_isFixed l g (fun k => a (k + 1)) u1.1 u2 _ hu9 _) (zcN hw0 (zn_32 hK) zm3_60 zm1_3 zm3_59 zs3_2 hd_X0_isFixed rfl rfl ⟨Nat.le_of_ble_eq_true rfl, Nat.le_of_ble_eq_true rfl⟩) ⟨zblind, zrecv (wc := zX0 g (fun k => a (k + 1)) u1.1) hK hP [1, 2, 3, 4, 5, 6] rfl (ci := 0) rfl rfl, zpre hK hP hD [1, 2, 3, 4, 5, 6] rfl rfl⟩ rfl rfl hl.1 rfl (lv_room (Nat.le_of_ble_eq_true rfl)) dX2_findNext_22 ⟨Nat.zero_le _, Nat.zero_le _⟩) hP hD hS hA [1, 2, 3, 4, 5, 6] rfl (fun H locs hP hD hS => ?_)
    refine lv_if_eq (tgt := 32) hx hb dX2_findNext_25 (by decide) (fun c10 => ?_) (fun c10 => ?_)
    · have hf := oi hf c10
      refine lv_iconst (v := 0) hx hb dX2_findNext_32 (by decide) ?_
      refine lv_istore_n (lv' := [(2, .int 0), (1, .int u2), (0, .ref (a 0))]) hx hb dX2_findNext_33 rfl hl (by decide) rfl (fun ls hl => ?_)
      refine lv_aload_n hx hb dX2_findNext_34 rfl (lv_at hl 2 rfl) ?_
      refine va_get (D := g.1) (ci := 2) (v := .ref (a 1)) (C := RX2) (T := TX2) (N := 11) hx hb hw0 ziX2 hown hK.1 hP 0 rfl rfl 0 (by decide) (hw0 _ zm1_141) (fun _ h9 => h9) rfl dX2_findNext_35 ?_
      obtain ⟨u11, hu11, hf⟩ := ob hf
      refine zk_iR (va_runVN (As := []) (rest := []) ⟨hx, hb, hml, hown, hts⟩ (c_X0_goal l g (fun k => a (k + 1)) u1.1 _ hu11 _) (zcN hw0 (zn_30 hK) zm3_47 zm1_3 zm3_46 zs2_15 hd_X0_goal rfl rfl ⟨Nat.le_of_ble_eq_true rfl, Nat.le_of_ble_eq_true rfl⟩) ⟨zblind, zrecv (wc := zX0 g (fun k => a (k + 1)) u1.1) hK hP [1, 2, 3, 4, 5, 6] rfl (ci := 0) rfl rfl, zpre hK hP hD [1, 2, 3, 4, 5, 6] rfl rfl⟩ rfl rfl hl.1 rfl (lv_room (Nat.le_of_ble_eq_true rfl)) dX2_findNext_38 ⟨Nat.zero_le _, Nat.zero_le _⟩) hP hD hS hA [1, 2, 3, 4, 5, 6] rfl (fun H locs hP hD hS => ?_)
      refine lv_istore_n (lv' := [(3, .int u11), (2, .int 0), (1, .int u2), (0, .ref (a 0))]) hx hb dX2_findNext_41 rfl hl (by decide) rfl (fun ls hl => ?_)
      refine lv_iload_n hx hb dX2_findNext_42 rfl (lv_at hl 1 rfl) ?_
      refine lv_if_eq (tgt := 62) hx hb dX2_findNext_43 (by decide) (fun _ => ?_) (fun c9 => absurd c9 (by decide))
      refine lv_iload_n hx hb dX2_findNext_62 rfl (lv_at hl 2 rfl) ?_
      refine lv_iconst (v := (-1)) hx hb dX2_findNext_63 (by decide) ?_
      refine lv_icmp_ne (tgt := 75) hx hb dX2_findNext_64 (by decide) (fun c12 => ?_) (fun c12 => ?_)
      · have hf := oe hf c12
        refine lv_aload_n hx hb dX2_findNext_75 rfl (lv_at hl 3 rfl) ?_
        refine lv_iload_n hx hb dX2_findNext_76 rfl (lv_at hl 2 rfl) ?_
        obtain ⟨u13, hu13, hf⟩ := ob hf
        refine zk_vA (va_runV (As := [.int u2]) (rest := []) ⟨hx, hb, hml, hown, hts⟩ (c_X2_beginElement l g a u1 u2 _ hu13 _) (zcV hw0 zm3_86 zm3_89 zm1_2 zm3_88 zs3_8 hd_X2_beginElement rfl rfl ⟨Nat.le_of_ble_eq_true rfl, Nat.le_of_ble_eq_true rfl⟩) ⟨zblind, zrecvA hK hP (ci := 2) rfl rfl, zpreA hK hP hD⟩ rfl rfl hl.1 rfl (lv_room (Nat.le_of_ble_eq_true rfl)) dX2_findNext_77 ⟨Nat.zero_le _, Nat.zero_le _⟩) hP hD hS hA (fun H locs hP hD hS => ?_)
        have hP : va_P g.1 vwCl (zX2 g a u13) H := hP
        have hD : va_D A (zX2 g a u13) := hD
        have hR : u13 = r := Option.some.inj hf
        subst hR
        exact W.vret hx hb hr0 (fun t ht hW => ⟨⟨(), rfl, trivial, by rw [ht]; exact hP, hD⟩, hS.F ht⟩) hS.2.2 dX2_findNext_80
      · have hf := oi hf c12
        refine lv_aload_n hx hb dX2_findNext_67 rfl (lv_at hl 3 rfl) ?_
        refine lv_iconst (v := 1) hx hb dX2_findNext_68 (by decide) ?_
        refine va_put (D := g.1) (ci := 2) (v := .int (zb true)) (ty := .boolean) (C := RX2) (T := TX2) (N := 11) hx hb hw0 ziX2 tyX2 tyX2_ok nmX2 hown hK.1 hP hD hS 0 rfl rfl 4 (by decide) (hw0 _ zm1_149) (fun _ h9 => h9) rfl (tyX2_ok 4 (by decide)) (zb_nar true) (zb_fit true) (Nat.le_of_ble_eq_true rfl) dX2_findNext_69 (fun H locs hP hD hS => ?_)
        have hP : va_P g.1 vwCl (zX2 g a (u1.1, u1.2.1, u1.2.2.1, u1.2.2.2.1, true, u1.2.2.2.2.2.1, u1.2.2.2.2.2.2.1, u1.2.2.2.2.2.2.2.1, u1.2.2.2.2.2.2.2.2.1, u1.2.2.2.2.2.2.2.2.2.1, u1.2.2.2.2.2.2.2.2.2.2)) H := hP
        have hD : va_D A (zX2 g a (u1.1, u1.2.1, u1.2.2.1, u1.2.2.2.1, true, u1.2.2.2.2.2.1, u1.2.2.2.2.2.2.1, u1.2.2.2.2.2.2.2.1, u1.2.2.2.2.2.2.2.2.1, u1.2.2.2.2.2.2.2.2.2.1, u1.2.2.2.2.2.2.2.2.2.2)) := hD
        refine lv_goto (tgt := 80) hx hb dX2_findNext_72 (by decide) ?_
        have hR : (u1.1, u1.2.1, u1.2.2.1, u1.2.2.2.1, true, u1.2.2.2.2.2.1, u1.2.2.2.2.2.2.1, u1.2.2.2.2.2.2.2.1, u1.2.2.2.2.2.2.2.2.1, u1.2.2.2.2.2.2.2.2.2.1, u1.2.2.2.2.2.2.2.2.2.2) = r := Option.some.inj hf
        subst hR
        exact W.vret hx hb hr0 (fun t ht hW => ⟨⟨(), rfl, trivial, by rw [ht]; exact hP, hD⟩, hS.F ht⟩) hS.2.2 dX2_findNext_80
    · have hf := oe hf c10
      refine lv_iconst (v := 1) hx hb dX2_findNext_28 (by decide) ?_
      refine lv_goto (tgt := 33) hx hb dX2_findNext_29 (by decide) ?_
      refine lv_istore_n (lv' := [(2, .int 1), (1, .int u2), (0, .ref (a 0))]) hx hb dX2_findNext_33 rfl hl (by decide) rfl (fun ls hl => ?_)
      refine lv_aload_n hx hb dX2_findNext_34 rfl (lv_at hl 2 rfl) ?_
      refine va_get (D := g.1) (ci := 2) (v := .ref (a 1)) (C := RX2) (T := TX2) (N := 11) hx hb hw0 ziX2 hown hK.1 hP 0 rfl rfl 0 (by decide) (hw0 _ zm1_141) (fun _ h9 => h9) rfl dX2_findNext_35 ?_
      obtain ⟨u14, hu14, hf⟩ := ob hf
      refine zk_iR (va_runVN (As := []) (rest := []) ⟨hx, hb, hml, hown, hts⟩ (c_X0_goal l g (fun k => a (k + 1)) u1.1 _ hu14 _) (zcN hw0 (zn_30 hK) zm3_47 zm1_3 zm3_46 zs2_15 hd_X0_goal rfl rfl ⟨Nat.le_of_ble_eq_true rfl, Nat.le_of_ble_eq_true rfl⟩) ⟨zblind, zrecv (wc := zX0 g (fun k => a (k + 1)) u1.1) hK hP [1, 2, 3, 4, 5, 6] rfl (ci := 0) rfl rfl, zpre hK hP hD [1, 2, 3, 4, 5, 6] rfl rfl⟩ rfl rfl hl.1 rfl (lv_room (Nat.le_of_ble_eq_true rfl)) dX2_findNext_38 ⟨Nat.zero_le _, Nat.zero_le _⟩) hP hD hS hA [1, 2, 3, 4, 5, 6] rfl (fun H locs hP hD hS => ?_)
      refine lv_istore_n (lv' := [(3, .int u14), (2, .int 1), (1, .int u2), (0, .ref (a 0))]) hx hb dX2_findNext_41 rfl hl (by decide) rfl (fun ls hl => ?_)
      refine lv_iload_n hx hb dX2_findNext_42 rfl (lv_at hl 1 rfl) ?_
      refine lv_if_eq (tgt := 62) hx hb dX2_findNext_43 (by decide) (fun c9 => absurd c9 (by decide)) (fun _ => ?_)
      refine lv_iload_n hx hb dX2_findNext_46 rfl (lv_at hl 0 rfl) ?_
      refine lv_aload_n hx hb dX2_findNext_47 rfl (lv_at hl 3 rfl) ?_
      refine va_get (D := g.1) (ci := 2) (v := .int u1.2.2.2.1) (C := RX2) (T := TX2) (N := 11) hx hb hw0 ziX2 hown hK.1 hP 0 rfl rfl 3 (by decide) (hw0 _ zm1_147) (fun _ h9 => h9) rfl dX2_findNext_48 ?_
      refine lv_icmp_le (tgt := 62) hx hb dX2_findNext_51 (by decide) (fun c15 => ?_) (fun c15 => ?_)
      · have hf := oi hf c15
        refine lv_iload_n hx hb dX2_findNext_62 rfl (lv_at hl 2 rfl) ?_
        refine lv_iconst (v := (-1)) hx hb dX2_findNext_63 (by decide) ?_
        refine lv_icmp_ne (tgt := 75) hx hb dX2_findNext_64 (by decide) (fun c16 => ?_) (fun c16 => ?_)
        · have hf := oe hf c16
          refine lv_aload_n hx hb dX2_findNext_75 rfl (lv_at hl 3 rfl) ?_
          refine lv_iload_n hx hb dX2_findNext_76 rfl (lv_at hl 2 rfl) ?_
          obtain ⟨u17, hu17, hf⟩ := ob hf
          refine zk_vA (va_runV (As := [.int u2]) (rest := []) ⟨hx, hb, hml, hown, hts⟩ (c_X2_beginElement l g a u1 u2 _ hu17 _) (zcV hw0 zm3_86 zm3_89 zm1_2 zm3_88 zs3_8 hd_X2_beginElement rfl rfl ⟨Nat.le_of_ble_eq_true rfl, Nat.le_of_ble_eq_true rfl⟩) ⟨zblind, zrecvA hK hP (ci := 2) rfl rfl, zpreA hK hP hD⟩ rfl rfl hl.1 rfl (lv_room (Nat.le_of_ble_eq_true rfl)) dX2_findNext_77 ⟨Nat.zero_le _, Nat.zero_le _⟩) hP hD hS hA (fun H locs hP hD hS => ?_)
          have hP : va_P g.1 vwCl (zX2 g a u17) H := hP
          have hD : va_D A (zX2 g a u17) := hD
          have hR : u17 = r := Option.some.inj hf
          subst hR
          exact W.vret hx hb hr0 (fun t ht hW => ⟨⟨(), rfl, trivial, by rw [ht]; exact hP, hD⟩, hS.F ht⟩) hS.2.2 dX2_findNext_80
        · have hf := oi hf c16
          refine lv_aload_n hx hb dX2_findNext_67 rfl (lv_at hl 3 rfl) ?_
          refine lv_iconst (v := 1) hx hb dX2_findNext_68 (by decide) ?_
          refine va_put (D := g.1) (ci := 2) (v := .int (zb true)) (ty := .boolean) (C := RX2) (T := TX2) (N := 11) hx hb hw0 ziX2 tyX2 tyX2_ok nmX2 hown hK.1 hP hD hS 0 rfl rfl 4 (by decide) (hw0 _ zm1_149) (fun _ h9 => h9) rfl (tyX2_ok 4 (by decide)) (zb_nar true) (zb_fit true) (Nat.le_of_ble_eq_true rfl) dX2_findNext_69 (fun H locs hP hD hS => ?_)
          have hP : va_P g.1 vwCl (zX2 g a (u1.1, u1.2.1, u1.2.2.1, u1.2.2.2.1, true, u1.2.2.2.2.2.1, u1.2.2.2.2.2.2.1, u1.2.2.2.2.2.2.2.1, u1.2.2.2.2.2.2.2.2.1, u1.2.2.2.2.2.2.2.2.2.1, u1.2.2.2.2.2.2.2.2.2.2)) H := hP
          have hD : va_D A (zX2 g a (u1.1, u1.2.1, u1.2.2.1, u1.2.2.2.1, true, u1.2.2.2.2.2.1, u1.2.2.2.2.2.2.1, u1.2.2.2.2.2.2.2.1, u1.2.2.2.2.2.2.2.2.1, u1.2.2.2.2.2.2.2.2.2.1, u1.2.2.2.2.2.2.2.2.2.2)) := hD
          refine lv_goto (tgt := 80) hx hb dX2_findNext_72 (by decide) ?_
          have hR : (u1.1, u1.2.1, u1.2.2.1, u1.2.2.2.1, true, u1.2.2.2.2.2.1, u1.2.2.2.2.2.2.1, u1.2.2.2.2.2.2.2.1, u1.2.2.2.2.2.2.2.2.1, u1.2.2.2.2.2.2.2.2.2.1, u1.2.2.2.2.2.2.2.2.2.2) = r := Option.some.inj hf
          subst hR
          exact W.vret hx hb hr0 (fun t ht hW => ⟨⟨(), rfl, trivial, by rw [ht]; exact hP, hD⟩, hS.F ht⟩) hS.2.2 dX2_findNext_80
      · have hf := oe hf c15
        refine lv_aload_n hx hb dX2_findNext_54 rfl (lv_at hl 3 rfl) ?_
        refine lv_iload_n hx hb dX2_findNext_55 rfl (lv_at hl 0 rfl) ?_
        obtain ⟨u18, hu18, hf⟩ := ob hf
        refine zk_vA (va_runV (As := [.int u14]) (rest := []) ⟨hx, hb, hml, hown, hts⟩ (c_X2_fillGap l g a u1 u14 _ hu18 _) (zcV hw0 zm3_61 zm3_64 zm1_2 zm3_63 zs3_3 hd_X2_fillGap rfl rfl ⟨Nat.le_of_ble_eq_true rfl, Nat.le_of_ble_eq_true rfl⟩) ⟨zblind, zrecvA hK hP (ci := 2) rfl rfl, zpreA hK hP hD⟩ rfl rfl hl.1 rfl (lv_room (Nat.le_of_ble_eq_true rfl)) dX2_findNext_56 ⟨Nat.zero_le _, Nat.zero_le _⟩) hP hD hS hA (fun H locs hP hD hS => ?_)
        have hP : va_P g.1 vwCl (zX2 g a u18) H := hP
        have hD : va_D A (zX2 g a u18) := hD
        refine lv_goto (tgt := 80) hx hb dX2_findNext_59 (by decide) ?_
        have hR : u18 = r := Option.some.inj hf
        subst hR
        exact W.vret hx hb hr0 (fun t ht hW => ⟨⟨(), rfl, trivial, by rw [ht]; exact hP, hD⟩, hS.F ht⟩) hS.2.2 dX2_findNext_80
theorem hd_X2_endAir : yX2_endAir.cls ≠ "java/lang/invoke/MethodHandle" ∧ yX2_endAir.cls ≠ "java/lang/invoke/VarHandle" ∧ (parseMethodDescriptor yX2_endAir.desc).map (fun d => d.parameters.length) = some 0 := by decide +kernel
def f_X2_endAir (v : HV) : Option (HV) :=
  if v.2.2.2.2.2.2.2.2.1 = 0 then
    (f_X0_has v.1 v.2.2.2.2.2.2.2.2.2.1).bind (fun u9 =>
    if (zb u9) = 0 then
      if v.2.2.2.2.2.2.2.2.1 = 1 then
        (f_X1_has v.2.1 v.2.2.2.2.2.2.2.2.2.1).bind (fun u13 =>
        if (zb u13) = 0 then
          (f_X2_clearAir v).bind (fun u15 =>
          some u15)
        else
          if zin v.2.2.2.2.2.2.2.2.2.1 10 = true then
          (f_X2_clearAir (v.1, (v.2.1.1, v.2.1.2.1, (upd v.2.1.2.2.1 v.2.2.2.2.2.2.2.2.2.1.toNatClampNeg 2), v.2.1.2.2.2.1, v.2.1.2.2.2.2), v.2.2.1, v.2.2.2.1, v.2.2.2.2.1, v.2.2.2.2.2.1, v.2.2.2.2.2.2.1, v.2.2.2.2.2.2.2.1, v.2.2.2.2.2.2.2.2.1, v.2.2.2.2.2.2.2.2.2.1, v.2.2.2.2.2.2.2.2.2.2)).bind (fun u17 =>
          some u17)
          else none)
      else
        (f_X2_clearAir v).bind (fun u12 =>
        some u12)
    else
      if zin v.2.2.2.2.2.2.2.2.2.1 12 = true then
      if v.2.2.2.2.2.2.2.2.1 = 1 then
        (f_X1_has v.2.1 v.2.2.2.2.2.2.2.2.2.1).bind (fun u21 =>
        if (zb u21) = 0 then
          (f_X2_clearAir ((v.1.1, v.1.2.1, v.1.2.2.1, v.1.2.2.2.1, (upd v.1.2.2.2.2.1 v.2.2.2.2.2.2.2.2.2.1.toNatClampNeg 2), v.1.2.2.2.2.2), v.2.1, v.2.2.1, v.2.2.2.1, v.2.2.2.2.1, v.2.2.2.2.2.1, v.2.2.2.2.2.2.1, v.2.2.2.2.2.2.2.1, v.2.2.2.2.2.2.2.2.1, v.2.2.2.2.2.2.2.2.2.1, v.2.2.2.2.2.2.2.2.2.2)).bind (fun u23 =>
          some u23)
        else
          if zin v.2.2.2.2.2.2.2.2.2.1 10 = true then
          (f_X2_clearAir ((v.1.1, v.1.2.1, v.1.2.2.1, v.1.2.2.2.1, (upd v.1.2.2.2.2.1 v.2.2.2.2.2.2.2.2.2.1.toNatClampNeg 2), v.1.2.2.2.2.2), (v.2.1.1, v.2.1.2.1, (upd v.2.1.2.2.1 v.2.2.2.2.2.2.2.2.2.1.toNatClampNeg 2), v.2.1.2.2.2.1, v.2.1.2.2.2.2), v.2.2.1, v.2.2.2.1, v.2.2.2.2.1, v.2.2.2.2.2.1, v.2.2.2.2.2.2.1, v.2.2.2.2.2.2.2.1, v.2.2.2.2.2.2.2.2.1, v.2.2.2.2.2.2.2.2.2.1, v.2.2.2.2.2.2.2.2.2.2)).bind (fun u25 =>
          some u25)
          else none)
      else
        (f_X2_clearAir ((v.1.1, v.1.2.1, v.1.2.2.1, v.1.2.2.2.1, (upd v.1.2.2.2.2.1 v.2.2.2.2.2.2.2.2.2.1.toNatClampNeg 2), v.1.2.2.2.2.2), v.2.1, v.2.2.1, v.2.2.2.1, v.2.2.2.2.1, v.2.2.2.2.2.1, v.2.2.2.2.2.2.1, v.2.2.2.2.2.2.2.1, v.2.2.2.2.2.2.2.2.1, v.2.2.2.2.2.2.2.2.2.1, v.2.2.2.2.2.2.2.2.2.2)).bind (fun u20 =>
        some u20)
      else none)
  else
    if v.2.2.2.2.2.2.2.2.1 = 1 then
      (f_X1_has v.2.1 v.2.2.2.2.2.2.2.2.2.1).bind (fun u4 =>
      if (zb u4) = 0 then
        (f_X2_clearAir v).bind (fun u6 =>
        some u6)
      else
        if zin v.2.2.2.2.2.2.2.2.2.1 10 = true then
        (f_X2_clearAir (v.1, (v.2.1.1, v.2.1.2.1, (upd v.2.1.2.2.1 v.2.2.2.2.2.2.2.2.2.1.toNatClampNeg 2), v.2.1.2.2.2.1, v.2.1.2.2.2.2), v.2.2.1, v.2.2.2.1, v.2.2.2.2.1, v.2.2.2.2.2.1, v.2.2.2.2.2.2.1, v.2.2.2.2.2.2.2.1, v.2.2.2.2.2.2.2.2.1, v.2.2.2.2.2.2.2.2.2.1, v.2.2.2.2.2.2.2.2.2.2)).bind (fun u8 =>
        some u8)
        else none)
    else
      (f_X2_clearAir v).bind (fun u3 =>
      some u3)
set_option maxHeartbeats 4000000 in
set_option maxRecDepth 100000 in
theorem c_X2_endAir (l : Launch) (g : zG) (a : Nat → Nat) (v : HV) (r : HV) (hf : f_X2_endAir v = some r) : zMv zNF zNM l yX2_endAir (zw yX2_endAir cX2_endAir 1 none) ({ frames := 1, cells := 0, slots := 0, locals := 21 } : Room) g [.ref (a 0)] (zX2 g a v) (zX2 g a r) := by
  intro sz
  refine Met.ofW (cc := cX2_endAir) (maxL := 1) (ret := none) (by decide) rfl ?_
  intro p e s m args below meth c s₁ B hml hv
  obtain ⟨rfl, hsz, hP, hK, hD0⟩ := hv
  have hx := B.exec
  have hb := B.bytes
  have hr0 := B.returns
  have hts := atoms_spec (ws := (zw yX2_endAir cX2_endAir 1 none)) B.pre
  have hw0 : ∀ w ∈ zW, w.before ([.ref (a 0)] : List Value).toArray s = true := fun w h => hts w (List.mem_cons_of_mem _ h)
  have hown : s.vm.findClass RX2 = some m.cls := findClass_of_methodNamed B.named
  have hlocks := B.notSynchronized
  subst hsz
  have hD := hD0.self (sz := s.heap.size)
  generalize hAe : va_A (zX2 g a v) s.heap.size = A at hD ⊢
  have hA : ∀ q : Nat, s.heap.size ≤ q → A q := fun q h => by rw [← hAe]; exact Or.inr h
  have hS : va_S A s.heap s.heap [] := va_S.rf
  unfold f_X2_endAir at hf
  have hl := lv_entry ([.ref (a 0)]) (n := 1) (Nat.le_of_ble_eq_true rfl)
  rw [lg_entry_eq]
  generalize (lg_sl ([.ref (a 0)]) ++ List.replicate (1 - (lg_sl ([.ref (a 0)])).length) Slot.unset).toArray = ls at hl ⊢
  have hl : lv_has ls 1 [(0, .ref (a 0))] := hl
  refine lv_aload_n hx hb dX2_endAir_0 rfl (lv_at hl 0 rfl) ?_
  refine va_get (D := g.1) (ci := 2) (v := .int v.2.2.2.2.2.2.2.2.1) (C := RX2) (T := TX2) (N := 11) hx hb hw0 ziX2 hown hK.1 hP 0 rfl rfl 8 (by decide) (hw0 _ zm1_156) (fun _ h9 => h9) rfl dX2_endAir_1 ?_
  refine lv_if_ne (tgt := 34) hx hb dX2_endAir_4 (by decide) (fun c1 => ?_) (fun c1 => ?_)
  · have hf := oe hf c1
    refine lv_aload_n hx hb dX2_endAir_34 rfl (lv_at hl 0 rfl) ?_
    refine va_get (D := g.1) (ci := 2) (v := .int v.2.2.2.2.2.2.2.2.1) (C := RX2) (T := TX2) (N := 11) hx hb hw0 ziX2 hown hK.1 hP 0 rfl rfl 8 (by decide) (hw0 _ zm1_156) (fun _ h9 => h9) rfl dX2_endAir_35 ?_
    refine lv_iconst (v := 1) hx hb dX2_endAir_38 (by decide) ?_
    refine lv_icmp_ne (tgt := 69) hx hb dX2_endAir_39 (by decide) (fun c2 => ?_) (fun c2 => ?_)
    · have hf := oe hf c2
      refine lv_aload_n hx hb dX2_endAir_69 rfl (lv_at hl 0 rfl) ?_
      obtain ⟨u3, hu3, hf⟩ := ob hf
      refine zk_vA (va_runV (As := []) (rest := []) ⟨hx, hb, hml, hown, hts⟩ (c_X2_clearAir l g a v _ hu3 _) (zcV hw0 zm2_193 zm2_196 zm1_2 zm2_195 zs2_1 hd_X2_clearAir rfl rfl ⟨Nat.le_of_ble_eq_true rfl, Nat.le_of_ble_eq_true rfl⟩) ⟨zblind, zrecvA hK hP (ci := 2) rfl rfl, zpreA hK hP hD⟩ rfl rfl hl.1 rfl (lv_room (Nat.le_of_ble_eq_true rfl)) dX2_endAir_70 ⟨Nat.zero_le _, Nat.zero_le _⟩) hP hD hS hA (fun H locs hP hD hS => ?_)
      have hP : va_P g.1 vwCl (zX2 g a u3) H := hP
      have hD : va_D A (zX2 g a u3) := hD
      have hR : u3 = r := Option.some.inj hf
      subst hR
      exact W.vret hx hb hr0 (fun t ht hW => ⟨⟨(), rfl, trivial, by rw [ht]; exact hP, hD⟩, hS.F ht⟩) hS.2.2 dX2_endAir_73
    · have hf := oi hf c2
      refine lv_aload_n hx hb dX2_endAir_42 rfl (lv_at hl 0 rfl) ?_
      refine va_get (D := g.1) (ci := 2) (v := .ref (a 7)) (C := RX2) (T := TX2) (N := 11) hx hb hw0 ziX2 hown hK.1 hP 0 rfl rfl 1 (by decide) (hw0 _ zm1_143) (fun _ h9 => h9) rfl dX2_endAir_43 ?_
      refine lv_aload_n hx hb dX2_endAir_46 rfl (lv_at hl 0 rfl) ?_
      refine va_get (D := g.1) (ci := 2) (v := .int v.2.2.2.2.2.2.2.2.2.1) (C := RX2) (T := TX2) (N := 11) hx hb hw0 ziX2 hown hK.1 hP 0 rfl rfl 9 (by decide) (hw0 _ zm1_157) (fun _ h9 => h9) rfl dX2_endAir_47 ?_
      obtain ⟨u4, hu4, hf⟩ := ob hf
      refine zk_iR (va_runVN (As := [.int v.2.2.2.2.2.2.2.2.2.1]) (rest := []) ⟨hx, hb, hml, hown, hts⟩ (c_X1_has l g (fun k => a (k + 7)) v.2.1 v.2.2.2.2.2.2.2.2.2.1 _ hu4 _) (zcN hw0 (zn_19 hK) zm2_192 zm1_4 zm2_191 zs2_0 hd_X1_has rfl rfl ⟨Nat.le_of_ble_eq_true rfl, Nat.le_of_ble_eq_true rfl⟩) ⟨zblind, zrecv (wc := zX1 g (fun k => a (k + 7)) v.2.1) hK hP [7, 8, 9, 10, 11, 12, 13] rfl (ci := 1) rfl rfl, zpre hK hP hD [7, 8, 9, 10, 11, 12, 13] rfl rfl⟩ rfl rfl hl.1 rfl (lv_room (Nat.le_of_ble_eq_true rfl)) dX2_endAir_50 ⟨Nat.zero_le _, Nat.zero_le _⟩) hP hD hS hA [7, 8, 9, 10, 11, 12, 13] rfl (fun H locs hP hD hS => ?_)
      refine lv_if_eq (tgt := 69) hx hb dX2_endAir_53 (by decide) (fun c5 => ?_) (fun c5 => ?_)
      · have hf := oi hf c5
        refine lv_aload_n hx hb dX2_endAir_69 rfl (lv_at hl 0 rfl) ?_
        obtain ⟨u6, hu6, hf⟩ := ob hf
        refine zk_vA (va_runV (As := []) (rest := []) ⟨hx, hb, hml, hown, hts⟩ (c_X2_clearAir l g a v _ hu6 _) (zcV hw0 zm2_193 zm2_196 zm1_2 zm2_195 zs2_1 hd_X2_clearAir rfl rfl ⟨Nat.le_of_ble_eq_true rfl, Nat.le_of_ble_eq_true rfl⟩) ⟨zblind, zrecvA hK hP (ci := 2) rfl rfl, zpreA hK hP hD⟩ rfl rfl hl.1 rfl (lv_room (Nat.le_of_ble_eq_true rfl)) dX2_endAir_70 ⟨Nat.zero_le _, Nat.zero_le _⟩) hP hD hS hA (fun H locs hP hD hS => ?_)
        have hP : va_P g.1 vwCl (zX2 g a u6) H := hP
        have hD : va_D A (zX2 g a u6) := hD
        have hR : u6 = r := Option.some.inj hf
        subst hR
        exact W.vret hx hb hr0 (fun t ht hW => ⟨⟨(), rfl, trivial, by rw [ht]; exact hP, hD⟩, hS.F ht⟩) hS.2.2 dX2_endAir_73
      · have hf := oe hf c5
        refine lv_aload_n hx hb dX2_endAir_56 rfl (lv_at hl 0 rfl) ?_
        refine va_get (D := g.1) (ci := 2) (v := .ref (a 7)) (C := RX2) (T := TX2) (N := 11) hx hb hw0 ziX2 hown hK.1 hP 0 rfl rfl 1 (by decide) (hw0 _ zm1_143) (fun _ h9 => h9) rfl dX2_endAir_57 ?_
        refine va_getN (D := g.1) (ci := 1) (v := .ref (a 9)) (C := RX1) (T := TX1) (N := 5) hx hb hw0 ziX1 hown hK.1 hP 7 rfl rfl 2 (by decide) (va_Nw.use rfl (zf_15 hK)) (fun _ h9 => h9) rfl dX2_endAir_60 ?_
        refine lv_aload_n hx hb dX2_endAir_63 rfl (lv_at hl 0 rfl) ?_
        refine va_get (D := g.1) (ci := 2) (v := .int v.2.2.2.2.2.2.2.2.2.1) (C := RX2) (T := TX2) (N := 11) hx hb hw0 ziX2 hown hK.1 hP 0 rfl rfl 9 (by decide) (hw0 _ zm1_157) (fun _ h9 => h9) rfl dX2_endAir_64 ?_
        refine lv_iconst (v := 2) hx hb dX2_endAir_67 (by decide) ?_
        obtain ⟨h7, hf⟩ := og hf
        refine zast (D := g.1) (f := v.2.1.2.2.1) (k := v.2.2.2.2.2.2.2.2.2.1.toNatClampNeg) (x := 2) hx hb hK.1 hP hD hS 9 0 rfl rfl (zin_vp h7) rfl dX2_endAir_68 (fun H locs hP hD hS => ?_)
        have hP : va_P g.1 vwCl (zX2 g a (v.1, (v.2.1.1, v.2.1.2.1, (upd v.2.1.2.2.1 v.2.2.2.2.2.2.2.2.2.1.toNatClampNeg 2), v.2.1.2.2.2.1, v.2.1.2.2.2.2), v.2.2.1, v.2.2.2.1, v.2.2.2.2.1, v.2.2.2.2.2.1, v.2.2.2.2.2.2.1, v.2.2.2.2.2.2.2.1, v.2.2.2.2.2.2.2.2.1, v.2.2.2.2.2.2.2.2.2.1, v.2.2.2.2.2.2.2.2.2.2)) H := hP
        have hD : va_D A (zX2 g a (v.1, (v.2.1.1, v.2.1.2.1, (upd v.2.1.2.2.1 v.2.2.2.2.2.2.2.2.2.1.toNatClampNeg 2), v.2.1.2.2.2.1, v.2.1.2.2.2.2), v.2.2.1, v.2.2.2.1, v.2.2.2.2.1, v.2.2.2.2.2.1, v.2.2.2.2.2.2.1, v.2.2.2.2.2.2.2.1, v.2.2.2.2.2.2.2.2.1, v.2.2.2.2.2.2.2.2.2.1, v.2.2.2.2.2.2.2.2.2.2)) := hD
        refine lv_aload_n hx hb dX2_endAir_69 rfl (lv_at hl 0 rfl) ?_
        obtain ⟨u8, hu8, hf⟩ := ob hf
        refine zk_vA (va_runV (As := []) (rest := []) ⟨hx, hb, hml, hown, hts⟩ (c_X2_clearAir l g a (v.1, (v.2.1.1, v.2.1.2.1, (upd v.2.1.2.2.1 v.2.2.2.2.2.2.2.2.2.1.toNatClampNeg 2), v.2.1.2.2.2.1, v.2.1.2.2.2.2), v.2.2.1, v.2.2.2.1, v.2.2.2.2.1, v.2.2.2.2.2.1, v.2.2.2.2.2.2.1, v.2.2.2.2.2.2.2.1, v.2.2.2.2.2.2.2.2.1, v.2.2.2.2.2.2.2.2.2.1, v.2.2.2.2.2.2.2.2.2.2) _ hu8 _) (zcV hw0 zm2_193 zm2_196 zm1_2 zm2_195 zs2_1 hd_X2_clearAir rfl rfl ⟨Nat.le_of_ble_eq_true rfl, Nat.le_of_ble_eq_true rfl⟩) ⟨zblind, zrecvA hK hP (ci := 2) rfl rfl, zpreA hK hP hD⟩ rfl rfl hl.1 rfl (lv_room (Nat.le_of_ble_eq_true rfl)) dX2_endAir_70 ⟨Nat.zero_le _, Nat.zero_le _⟩) hP hD hS hA (fun H locs hP hD hS => ?_)
        have hP : va_P g.1 vwCl (zX2 g a u8) H := hP
        have hD : va_D A (zX2 g a u8) := hD
        have hR : u8 = r := Option.some.inj hf
        subst hR
        exact W.vret hx hb hr0 (fun t ht hW => ⟨⟨(), rfl, trivial, by rw [ht]; exact hP, hD⟩, hS.F ht⟩) hS.2.2 dX2_endAir_73
  · have hf := oi hf c1
    refine lv_aload_n hx hb dX2_endAir_7 rfl (lv_at hl 0 rfl) ?_
    refine va_get (D := g.1) (ci := 2) (v := .ref (a 1)) (C := RX2) (T := TX2) (N := 11) hx hb hw0 ziX2 hown hK.1 hP 0 rfl rfl 0 (by decide) (hw0 _ zm1_141) (fun _ h9 => h9) rfl dX2_endAir_8 ?_
    refine lv_aload_n hx hb dX2_endAir_11 rfl (lv_at hl 0 rfl) ?_
    refine va_get (D := g.1) (ci := 2) (v := .int v.2.2.2.2.2.2.2.2.2.1) (C := RX2) (T := TX2) (N := 11) hx hb hw0 ziX2 hown hK.1 hP 0 rfl rfl 9 (by decide) (hw0 _ zm1_157) (fun _ h9 => h9) rfl dX2_endAir_12 ?_
    obtain ⟨u9, hu9, hf⟩ := ob hf
    refine zk_iR (va_runVN (As := [.int v.2.2.2.2.2.2.2.2.2.1]) (rest := []) ⟨hx, hb, hml, hown, hts⟩ (c_X0_has l g (fun k => a (k + 1)) v.1 v.2.2.2.2.2.2.2.2.2.1 _ hu9 _) (zcN hw0 (zn_18 hK) zm2_143 zm1_3 zm2_142 zs1_9 hd_X0_has rfl rfl ⟨Nat.le_of_ble_eq_true rfl, Nat.le_of_ble_eq_true rfl⟩) ⟨zblind, zrecv (wc := zX0 g (fun k => a (k + 1)) v.1) hK hP [1, 2, 3, 4, 5, 6] rfl (ci := 0) rfl rfl, zpre hK hP hD [1, 2, 3, 4, 5, 6] rfl rfl⟩ rfl rfl hl.1 rfl (lv_room (Nat.le_of_ble_eq_true rfl)) dX2_endAir_15 ⟨Nat.zero_le _, Nat.zero_le _⟩) hP hD hS hA [1, 2, 3, 4, 5, 6] rfl (fun H locs hP hD hS => ?_)
    refine lv_if_eq (tgt := 34) hx hb dX2_endAir_18 (by decide) (fun c10 => ?_) (fun c10 => ?_)
    · have hf := oi hf c10
      refine lv_aload_n hx hb dX2_endAir_34 rfl (lv_at hl 0 rfl) ?_
      refine va_get (D := g.1) (ci := 2) (v := .int v.2.2.2.2.2.2.2.2.1) (C := RX2) (T := TX2) (N := 11) hx hb hw0 ziX2 hown hK.1 hP 0 rfl rfl 8 (by decide) (hw0 _ zm1_156) (fun _ h9 => h9) rfl dX2_endAir_35 ?_
      refine lv_iconst (v := 1) hx hb dX2_endAir_38 (by decide) ?_
      refine lv_icmp_ne (tgt := 69) hx hb dX2_endAir_39 (by decide) (fun c11 => ?_) (fun c11 => ?_)
      · have hf := oe hf c11
        refine lv_aload_n hx hb dX2_endAir_69 rfl (lv_at hl 0 rfl) ?_
        obtain ⟨u12, hu12, hf⟩ := ob hf
        refine zk_vA (va_runV (As := []) (rest := []) ⟨hx, hb, hml, hown, hts⟩ (c_X2_clearAir l g a v _ hu12 _) (zcV hw0 zm2_193 zm2_196 zm1_2 zm2_195 zs2_1 hd_X2_clearAir rfl rfl ⟨Nat.le_of_ble_eq_true rfl, Nat.le_of_ble_eq_true rfl⟩) ⟨zblind, zrecvA hK hP (ci := 2) rfl rfl, zpreA hK hP hD⟩ rfl rfl hl.1 rfl (lv_room (Nat.le_of_ble_eq_true rfl)) dX2_endAir_70 ⟨Nat.zero_le _, Nat.zero_le _⟩) hP hD hS hA (fun H locs hP hD hS => ?_)
        have hP : va_P g.1 vwCl (zX2 g a u12) H := hP
        have hD : va_D A (zX2 g a u12) := hD
        have hR : u12 = r := Option.some.inj hf
        subst hR
        exact W.vret hx hb hr0 (fun t ht hW => ⟨⟨(), rfl, trivial, by rw [ht]; exact hP, hD⟩, hS.F ht⟩) hS.2.2 dX2_endAir_73
      · have hf := oi hf c11
        refine lv_aload_n hx hb dX2_endAir_42 rfl (lv_at hl 0 rfl) ?_
        refine va_get (D := g.1) (ci := 2) (v := .ref (a 7)) (C := RX2) (T := TX2) (N := 11) hx hb hw0 ziX2 hown hK.1 hP 0 rfl rfl 1 (by decide) (hw0 _ zm1_143) (fun _ h9 => h9) rfl dX2_endAir_43 ?_
        refine lv_aload_n hx hb dX2_endAir_46 rfl (lv_at hl 0 rfl) ?_
        refine va_get (D := g.1) (ci := 2) (v := .int v.2.2.2.2.2.2.2.2.2.1) (C := RX2) (T := TX2) (N := 11) hx hb hw0 ziX2 hown hK.1 hP 0 rfl rfl 9 (by decide) (hw0 _ zm1_157) (fun _ h9 => h9) rfl dX2_endAir_47 ?_
        obtain ⟨u13, hu13, hf⟩ := ob hf
        refine zk_iR (va_runVN (As := [.int v.2.2.2.2.2.2.2.2.2.1]) (rest := []) ⟨hx, hb, hml, hown, hts⟩ (c_X1_has l g (fun k => a (k + 7)) v.2.1 v.2.2.2.2.2.2.2.2.2.1 _ hu13 _) (zcN hw0 (zn_19 hK) zm2_192 zm1_4 zm2_191 zs2_0 hd_X1_has rfl rfl ⟨Nat.le_of_ble_eq_true rfl, Nat.le_of_ble_eq_true rfl⟩) ⟨zblind, zrecv (wc := zX1 g (fun k => a (k + 7)) v.2.1) hK hP [7, 8, 9, 10, 11, 12, 13] rfl (ci := 1) rfl rfl, zpre hK hP hD [7, 8, 9, 10, 11, 12, 13] rfl rfl⟩ rfl rfl hl.1 rfl (lv_room (Nat.le_of_ble_eq_true rfl)) dX2_endAir_50 ⟨Nat.zero_le _, Nat.zero_le _⟩) hP hD hS hA [7, 8, 9, 10, 11, 12, 13] rfl (fun H locs hP hD hS => ?_)
        refine lv_if_eq (tgt := 69) hx hb dX2_endAir_53 (by decide) (fun c14 => ?_) (fun c14 => ?_)
        · have hf := oi hf c14
          refine lv_aload_n hx hb dX2_endAir_69 rfl (lv_at hl 0 rfl) ?_
          obtain ⟨u15, hu15, hf⟩ := ob hf
          refine zk_vA (va_runV (As := []) (rest := []) ⟨hx, hb, hml, hown, hts⟩ (c_X2_clearAir l g a v _ hu15 _) (zcV hw0 zm2_193 zm2_196 zm1_2 zm2_195 zs2_1 hd_X2_clearAir rfl rfl ⟨Nat.le_of_ble_eq_true rfl, Nat.le_of_ble_eq_true rfl⟩) ⟨zblind, zrecvA hK hP (ci := 2) rfl rfl, zpreA hK hP hD⟩ rfl rfl hl.1 rfl (lv_room (Nat.le_of_ble_eq_true rfl)) dX2_endAir_70 ⟨Nat.zero_le _, Nat.zero_le _⟩) hP hD hS hA (fun H locs hP hD hS => ?_)
          have hP : va_P g.1 vwCl (zX2 g a u15) H := hP
          have hD : va_D A (zX2 g a u15) := hD
          have hR : u15 = r := Option.some.inj hf
          subst hR
          exact W.vret hx hb hr0 (fun t ht hW => ⟨⟨(), rfl, trivial, by rw [ht]; exact hP, hD⟩, hS.F ht⟩) hS.2.2 dX2_endAir_73
        · have hf := oe hf c14
          refine lv_aload_n hx hb dX2_endAir_56 rfl (lv_at hl 0 rfl) ?_
          refine va_get (D := g.1) (ci := 2) (v := .ref (a 7)) (C := RX2) (T := TX2) (N := 11) hx hb hw0 ziX2 hown hK.1 hP 0 rfl rfl 1 (by decide) (hw0 _ zm1_143) (fun _ h9 => h9) rfl dX2_endAir_57 ?_
          refine va_getN (D := g.1) (ci := 1) (v := .ref (a 9)) (C := RX1) (T := TX1) (N := 5) hx hb hw0 ziX1 hown hK.1 hP 7 rfl rfl 2 (by decide) (va_Nw.use rfl (zf_15 hK)) (fun _ h9 => h9) rfl dX2_endAir_60 ?_
          refine lv_aload_n hx hb dX2_endAir_63 rfl (lv_at hl 0 rfl) ?_
          refine va_get (D := g.1) (ci := 2) (v := .int v.2.2.2.2.2.2.2.2.2.1) (C := RX2) (T := TX2) (N := 11) hx hb hw0 ziX2 hown hK.1 hP 0 rfl rfl 9 (by decide) (hw0 _ zm1_157) (fun _ h9 => h9) rfl dX2_endAir_64 ?_
          refine lv_iconst (v := 2) hx hb dX2_endAir_67 (by decide) ?_
          obtain ⟨h16, hf⟩ := og hf
          refine zast (D := g.1) (f := v.2.1.2.2.1) (k := v.2.2.2.2.2.2.2.2.2.1.toNatClampNeg) (x := 2) hx hb hK.1 hP hD hS 9 0 rfl rfl (zin_vp h16) rfl dX2_endAir_68 (fun H locs hP hD hS => ?_)
          have hP : va_P g.1 vwCl (zX2 g a (v.1, (v.2.1.1, v.2.1.2.1, (upd v.2.1.2.2.1 v.2.2.2.2.2.2.2.2.2.1.toNatClampNeg 2), v.2.1.2.2.2.1, v.2.1.2.2.2.2), v.2.2.1, v.2.2.2.1, v.2.2.2.2.1, v.2.2.2.2.2.1, v.2.2.2.2.2.2.1, v.2.2.2.2.2.2.2.1, v.2.2.2.2.2.2.2.2.1, v.2.2.2.2.2.2.2.2.2.1, v.2.2.2.2.2.2.2.2.2.2)) H := hP
          have hD : va_D A (zX2 g a (v.1, (v.2.1.1, v.2.1.2.1, (upd v.2.1.2.2.1 v.2.2.2.2.2.2.2.2.2.1.toNatClampNeg 2), v.2.1.2.2.2.1, v.2.1.2.2.2.2), v.2.2.1, v.2.2.2.1, v.2.2.2.2.1, v.2.2.2.2.2.1, v.2.2.2.2.2.2.1, v.2.2.2.2.2.2.2.1, v.2.2.2.2.2.2.2.2.1, v.2.2.2.2.2.2.2.2.2.1, v.2.2.2.2.2.2.2.2.2.2)) := hD
          refine lv_aload_n hx hb dX2_endAir_69 rfl (lv_at hl 0 rfl) ?_
          obtain ⟨u17, hu17, hf⟩ := ob hf
          refine zk_vA (va_runV (As := []) (rest := []) ⟨hx, hb, hml, hown, hts⟩ (c_X2_clearAir l g a (v.1, (v.2.1.1, v.2.1.2.1, (upd v.2.1.2.2.1 v.2.2.2.2.2.2.2.2.2.1.toNatClampNeg 2), v.2.1.2.2.2.1, v.2.1.2.2.2.2), v.2.2.1, v.2.2.2.1, v.2.2.2.2.1, v.2.2.2.2.2.1, v.2.2.2.2.2.2.1, v.2.2.2.2.2.2.2.1, v.2.2.2.2.2.2.2.2.1, v.2.2.2.2.2.2.2.2.2.1, v.2.2.2.2.2.2.2.2.2.2) _ hu17 _) (zcV hw0 zm2_193 zm2_196 zm1_2 zm2_195 zs2_1 hd_X2_clearAir rfl rfl ⟨Nat.le_of_ble_eq_true rfl, Nat.le_of_ble_eq_true rfl⟩) ⟨zblind, zrecvA hK hP (ci := 2) rfl rfl, zpreA hK hP hD⟩ rfl rfl hl.1 rfl (lv_room (Nat.le_of_ble_eq_true rfl)) dX2_endAir_70 ⟨Nat.zero_le _, Nat.zero_le _⟩) hP hD hS hA (fun H locs hP hD hS => ?_)
          have hP : va_P g.1 vwCl (zX2 g a u17) H := hP
          have hD : va_D A (zX2 g a u17) := hD
          have hR : u17 = r := Option.some.inj hf
          subst hR
          exact W.vret hx hb hr0 (fun t ht hW => ⟨⟨(), rfl, trivial, by rw [ht]; exact hP, hD⟩, hS.F ht⟩) hS.2.2 dX2_endAir_73
    · have hf := oe hf c10
      refine lv_aload_n hx hb dX2_endAir_21 rfl (lv_at hl 0 rfl) ?_
      refine va_get (D := g.1) (ci := 2) (v := .ref (a 1)) (C := RX2) (T := TX2) (N := 11) hx hb hw0 ziX2 hown hK.1 hP 0 rfl rfl 0 (by decide) (hw0 _ zm1_141) (fun _ h9 => h9) rfl dX2_endAir_22 ?_
      refine va_getN (D := g.1) (ci := 0) (v := .ref (a 5)) (C := RX0) (T := TX0) (N := 6) hx hb hw0 ziX0 hown hK.1 hP 1 rfl rfl 4 (by decide) (va_Nw.use rfl (zf_4 hK)) (fun _ h9 => h9) rfl dX2_endAir_25 ?_
      refine lv_aload_n hx hb dX2_endAir_28 rfl (lv_at hl 0 rfl) ?_
      refine va_get (D := g.1) (ci := 2) (v := .int v.2.2.2.2.2.2.2.2.2.1) (C := RX2) (T := TX2) (N := 11) hx hb hw0 ziX2 hown hK.1 hP 0 rfl rfl 9 (by decide) (hw0 _ zm1_157) (fun _ h9 => h9) rfl dX2_endAir_29 ?_
      refine lv_iconst (v := 2) hx hb dX2_endAir_32 (by decide) ?_
      obtain ⟨h18, hf⟩ := og hf
      refine zast (D := g.1) (f := v.1.2.2.2.2.1) (k := v.2.2.2.2.2.2.2.2.2.1.toNatClampNeg) (x := 2) hx hb hK.1 hP hD hS 5 0 rfl rfl (zin_vp h18) rfl dX2_endAir_33 (fun H locs hP hD hS => ?_)
      have hP : va_P g.1 vwCl (zX2 g a ((v.1.1, v.1.2.1, v.1.2.2.1, v.1.2.2.2.1, (upd v.1.2.2.2.2.1 v.2.2.2.2.2.2.2.2.2.1.toNatClampNeg 2), v.1.2.2.2.2.2), v.2.1, v.2.2.1, v.2.2.2.1, v.2.2.2.2.1, v.2.2.2.2.2.1, v.2.2.2.2.2.2.1, v.2.2.2.2.2.2.2.1, v.2.2.2.2.2.2.2.2.1, v.2.2.2.2.2.2.2.2.2.1, v.2.2.2.2.2.2.2.2.2.2)) H := hP
      have hD : va_D A (zX2 g a ((v.1.1, v.1.2.1, v.1.2.2.1, v.1.2.2.2.1, (upd v.1.2.2.2.2.1 v.2.2.2.2.2.2.2.2.2.1.toNatClampNeg 2), v.1.2.2.2.2.2), v.2.1, v.2.2.1, v.2.2.2.1, v.2.2.2.2.1, v.2.2.2.2.2.1, v.2.2.2.2.2.2.1, v.2.2.2.2.2.2.2.1, v.2.2.2.2.2.2.2.2.1, v.2.2.2.2.2.2.2.2.2.1, v.2.2.2.2.2.2.2.2.2.2)) := hD
      refine lv_aload_n hx hb dX2_endAir_34 rfl (lv_at hl 0 rfl) ?_
      refine va_get (D := g.1) (ci := 2) (v := .int v.2.2.2.2.2.2.2.2.1) (C := RX2) (T := TX2) (N := 11) hx hb hw0 ziX2 hown hK.1 hP 0 rfl rfl 8 (by decide) (hw0 _ zm1_156) (fun _ h9 => h9) rfl dX2_endAir_35 ?_
      refine lv_iconst (v := 1) hx hb dX2_endAir_38 (by decide) ?_
      refine lv_icmp_ne (tgt := 69) hx hb dX2_endAir_39 (by decide) (fun c19 => ?_) (fun c19 => ?_)
      · have hf := oe hf c19
        refine lv_aload_n hx hb dX2_endAir_69 rfl (lv_at hl 0 rfl) ?_
        obtain ⟨u20, hu20, hf⟩ := ob hf
        refine zk_vA (va_runV (As := []) (rest := []) ⟨hx, hb, hml, hown, hts⟩ (c_X2_clearAir l g a ((v.1.1, v.1.2.1, v.1.2.2.1, v.1.2.2.2.1, (upd v.1.2.2.2.2.1 v.2.2.2.2.2.2.2.2.2.1.toNatClampNeg 2), v.1.2.2.2.2.2), v.2.1, v.2.2.1, v.2.2.2.1, v.2.2.2.2.1, v.2.2.2.2.2.1, v.2.2.2.2.2.2.1, v.2.2.2.2.2.2.2.1, v.2.2.2.2.2.2.2.2.1, v.2.2.2.2.2.2.2.2.2.1, v.2.2.2.2.2.2.2.2.2.2) _ hu20 _) (zcV hw0 zm2_193 zm2_196 zm1_2 zm2_195 zs2_1 hd_X2_clearAir rfl rfl ⟨Nat.le_of_ble_eq_true rfl, Nat.le_of_ble_eq_true rfl⟩) ⟨zblind, zrecvA hK hP (ci := 2) rfl rfl, zpreA hK hP hD⟩ rfl rfl hl.1 rfl (lv_room (Nat.le_of_ble_eq_true rfl)) dX2_endAir_70 ⟨Nat.zero_le _, Nat.zero_le _⟩) hP hD hS hA (fun H locs hP hD hS => ?_)
        have hP : va_P g.1 vwCl (zX2 g a u20) H := hP
        have hD : va_D A (zX2 g a u20) := hD
        have hR : u20 = r := Option.some.inj hf
        subst hR
        exact W.vret hx hb hr0 (fun t ht hW => ⟨⟨(), rfl, trivial, by rw [ht]; exact hP, hD⟩, hS.F ht⟩) hS.2.2 dX2_endAir_73
      · have hf := oi hf c19
        refine lv_aload_n hx hb dX2_endAir_42 rfl (lv_at hl 0 rfl) ?_
        refine va_get (D := g.1) (ci := 2) (v := .ref (a 7)) (C := RX2) (T := TX2) (N := 11) hx hb hw0 ziX2 hown hK.1 hP 0 rfl rfl 1 (by decide) (hw0 _ zm1_143) (fun _ h9 => h9) rfl dX2_endAir_43 ?_
        refine lv_aload_n hx hb dX2_endAir_46 rfl (lv_at hl 0 rfl) ?_
        refine va_get (D := g.1) (ci := 2) (v := .int v.2.2.2.2.2.2.2.2.2.1) (C := RX2) (T := TX2) (N := 11) hx hb hw0 ziX2 hown hK.1 hP 0 rfl rfl 9 (by decide) (hw0 _ zm1_157) (fun _ h9 => h9) rfl dX2_endAir_47 ?_
        obtain ⟨u21, hu21, hf⟩ := ob hf
        refine zk_iR (va_runVN (As := [.int v.2.2.2.2.2.2.2.2.2.1]) (rest := []) ⟨hx, hb, hml, hown, hts⟩ (c_X1_has l g (fun k => a (k + 7)) v.2.1 v.2.2.2.2.2.2.2.2.2.1 _ hu21 _) (zcN hw0 (zn_19 hK) zm2_192 zm1_4 zm2_191 zs2_0 hd_X1_has rfl rfl ⟨Nat.le_of_ble_eq_true rfl, Nat.le_of_ble_eq_true rfl⟩) ⟨zblind, zrecv (wc := zX1 g (fun k => a (k + 7)) v.2.1) hK hP [7, 8, 9, 10, 11, 12, 13] rfl (ci := 1) rfl rfl, zpre hK hP hD [7, 8, 9, 10, 11, 12, 13] rfl rfl⟩ rfl rfl hl.1 rfl (lv_room (Nat.le_of_ble_eq_true rfl)) dX2_endAir_50 ⟨Nat.zero_le _, Nat.zero_le _⟩) hP hD hS hA [7, 8, 9, 10, 11, 12, 13] rfl (fun H locs hP hD hS => ?_)
        refine lv_if_eq (tgt := 69) hx hb dX2_endAir_53 (by decide) (fun c22 => ?_) (fun c22 => ?_)
        · have hf := oi hf c22
          refine lv_aload_n hx hb dX2_endAir_69 rfl (lv_at hl 0 rfl) ?_
          obtain ⟨u23, hu23, hf⟩ := ob hf
          refine zk_vA (va_runV (As := []) (rest := []) ⟨hx, hb, hml, hown, hts⟩ (c_X2_clearAir l g a ((v.1.1, v.1.2.1, v.1.2.2.1, v.1.2.2.2.1, (upd v.1.2.2.2.2.1 v.2.2.2.2.2.2.2.2.2.1.toNatClampNeg 2), v.1.2.2.2.2.2), v.2.1, v.2.2.1, v.2.2.2.1, v.2.2.2.2.1, v.2.2.2.2.2.1, v.2.2.2.2.2.2.1, v.2.2.2.2.2.2.2.1, v.2.2.2.2.2.2.2.2.1, v.2.2.2.2.2.2.2.2.2.1, v.2.2.2.2.2.2.2.2.2.2) _ hu23 _) (zcV hw0 zm2_193 zm2_196 zm1_2 zm2_195 zs2_1 hd_X2_clearAir rfl rfl ⟨Nat.le_of_ble_eq_true rfl, Nat.le_of_ble_eq_true rfl⟩) ⟨zblind, zrecvA hK hP (ci := 2) rfl rfl, zpreA hK hP hD⟩ rfl rfl hl.1 rfl (lv_room (Nat.le_of_ble_eq_true rfl)) dX2_endAir_70 ⟨Nat.zero_le _, Nat.zero_le _⟩) hP hD hS hA (fun H locs hP hD hS => ?_)
          have hP : va_P g.1 vwCl (zX2 g a u23) H := hP
          have hD : va_D A (zX2 g a u23) := hD
          have hR : u23 = r := Option.some.inj hf
          subst hR
          exact W.vret hx hb hr0 (fun t ht hW => ⟨⟨(), rfl, trivial, by rw [ht]; exact hP, hD⟩, hS.F ht⟩) hS.2.2 dX2_endAir_73
        · have hf := oe hf c22
          refine lv_aload_n hx hb dX2_endAir_56 rfl (lv_at hl 0 rfl) ?_
          refine va_get (D := g.1) (ci := 2) (v := .ref (a 7)) (C := RX2) (T := TX2) (N := 11) hx hb hw0 ziX2 hown hK.1 hP 0 rfl rfl 1 (by decide) (hw0 _ zm1_143) (fun _ h9 => h9) rfl dX2_endAir_57 ?_
          refine va_getN (D := g.1) (ci := 1) (v := .ref (a 9)) (C := RX1) (T := TX1) (N := 5) hx hb hw0 ziX1 hown hK.1 hP 7 rfl rfl 2 (by decide) (va_Nw.use rfl (zf_15 hK)) (fun _ h9 => h9) rfl dX2_endAir_60 ?_
          refine lv_aload_n hx hb dX2_endAir_63 rfl (lv_at hl 0 rfl) ?_
          refine va_get (D := g.1) (ci := 2) (v := .int v.2.2.2.2.2.2.2.2.2.1) (C := RX2) (T := TX2) (N := 11) hx hb hw0 ziX2 hown hK.1 hP 0 rfl rfl 9 (by decide) (hw0 _ zm1_157) (fun _ h9 => h9) rfl dX2_endAir_64 ?_
          refine lv_iconst (v := 2) hx hb dX2_endAir_67 (by decide) ?_
          obtain ⟨h24, hf⟩ := og hf
          refine zast (D := g.1) (f := v.2.1.2.2.1) (k := v.2.2.2.2.2.2.2.2.2.1.toNatClampNeg) (x := 2) hx hb hK.1 hP hD hS 9 0 rfl rfl (zin_vp h24) rfl dX2_endAir_68 (fun H locs hP hD hS => ?_)
          have hP : va_P g.1 vwCl (zX2 g a ((v.1.1, v.1.2.1, v.1.2.2.1, v.1.2.2.2.1, (upd v.1.2.2.2.2.1 v.2.2.2.2.2.2.2.2.2.1.toNatClampNeg 2), v.1.2.2.2.2.2), (v.2.1.1, v.2.1.2.1, (upd v.2.1.2.2.1 v.2.2.2.2.2.2.2.2.2.1.toNatClampNeg 2), v.2.1.2.2.2.1, v.2.1.2.2.2.2), v.2.2.1, v.2.2.2.1, v.2.2.2.2.1, v.2.2.2.2.2.1, v.2.2.2.2.2.2.1, v.2.2.2.2.2.2.2.1, v.2.2.2.2.2.2.2.2.1, v.2.2.2.2.2.2.2.2.2.1, v.2.2.2.2.2.2.2.2.2.2)) H := hP
          have hD : va_D A (zX2 g a ((v.1.1, v.1.2.1, v.1.2.2.1, v.1.2.2.2.1, (upd v.1.2.2.2.2.1 v.2.2.2.2.2.2.2.2.2.1.toNatClampNeg 2), v.1.2.2.2.2.2), (v.2.1.1, v.2.1.2.1, (upd v.2.1.2.2.1 v.2.2.2.2.2.2.2.2.2.1.toNatClampNeg 2), v.2.1.2.2.2.1, v.2.1.2.2.2.2), v.2.2.1, v.2.2.2.1, v.2.2.2.2.1, v.2.2.2.2.2.1, v.2.2.2.2.2.2.1, v.2.2.2.2.2.2.2.1, v.2.2.2.2.2.2.2.2.1, v.2.2.2.2.2.2.2.2.2.1, v.2.2.2.2.2.2.2.2.2.2)) := hD
          refine lv_aload_n hx hb dX2_endAir_69 rfl (lv_at hl 0 rfl) ?_
          obtain ⟨u25, hu25, hf⟩ := ob hf
          refine zk_vA (va_runV (As := []) (rest := []) ⟨hx, hb, hml, hown, hts⟩ (c_X2_clearAir l g a ((v.1.1, v.1.2.1, v.1.2.2.1, v.1.2.2.2.1, (upd v.1.2.2.2.2.1 v.2.2.2.2.2.2.2.2.2.1.toNatClampNeg 2), v.1.2.2.2.2.2), (v.2.1.1, v.2.1.2.1, (upd v.2.1.2.2.1 v.2.2.2.2.2.2.2.2.2.1.toNatClampNeg 2), v.2.1.2.2.2.1, v.2.1.2.2.2.2), v.2.2.1, v.2.2.2.1, v.2.2.2.2.1, v.2.2.2.2.2.1, v.2.2.2.2.2.2.1, v.2.2.2.2.2.2.2.1, v.2.2.2.2.2.2.2.2.1, v.2.2.2.2.2.2.2.2.2.1, v.2.2.2.2.2.2.2.2.2.2) _ hu25 _) (zcV hw0 zm2_193 zm2_196 zm1_2 zm2_195 zs2_1 hd_X2_clearAir rfl rfl ⟨Nat.le_of_ble_eq_true rfl, Nat.le_of_ble_eq_true rfl⟩) ⟨zblind, zrecvA hK hP (ci := 2) rfl rfl, zpreA hK hP hD⟩ rfl rfl hl.1 rfl (lv_room (Nat.le_of_ble_eq_true rfl)) dX2_endAir_70 ⟨Nat.zero_le _, Nat.zero_le _⟩) hP hD hS hA (fun H locs hP hD hS => ?_)
          have hP : va_P g.1 vwCl (zX2 g a u25) H := hP
          have hD : va_D A (zX2 g a u25) := hD
          have hR : u25 = r := Option.some.inj hf
          subst hR
          exact W.vret hx hb hr0 (fun t ht hW => ⟨⟨(), rfl, trivial, by rw [ht]; exact hP, hD⟩, hS.F ht⟩) hS.2.2 dX2_endAir_73
theorem hd_X2_passAir : yX2_passAir.cls ≠ "java/lang/invoke/MethodHandle" ∧ yX2_passAir.cls ≠ "java/lang/invoke/VarHandle" ∧ (parseMethodDescriptor yX2_passAir.desc).map (fun d => d.parameters.length) = some 1 := by decide +kernel
def f_X2_passAir (v : HV) (p0 : Int32) : Option (HV) :=
  if v.2.2.2.2.2.2.2.2.1 = 2 then
    if (if p0 < v.2.2.2.2.2.2.2.2.2.2 then p0 else v.2.2.2.2.2.2.2.2.2.2) < v.2.2.2.2.2.2.2.2.2.2 then
      some (v.1, v.2.1, v.2.2.1, (if p0 < v.2.2.2.2.2.2.2.2.2.2 then p0 else v.2.2.2.2.2.2.2.2.2.2), v.2.2.2.2.1, (v.2.2.2.2.2.1 + ((if p0 < v.2.2.2.2.2.2.2.2.2.2 then p0 else v.2.2.2.2.2.2.2.2.2.2) - v.2.2.2.1)), v.2.2.2.2.2.2.1, v.2.2.2.2.2.2.2.1, v.2.2.2.2.2.2.2.2.1, v.2.2.2.2.2.2.2.2.2.1, v.2.2.2.2.2.2.2.2.2.2)
    else
      (f_X2_endAir (v.1, v.2.1, v.2.2.1, (if p0 < v.2.2.2.2.2.2.2.2.2.2 then p0 else v.2.2.2.2.2.2.2.2.2.2), v.2.2.2.2.1, (v.2.2.2.2.2.1 + ((if p0 < v.2.2.2.2.2.2.2.2.2.2 then p0 else v.2.2.2.2.2.2.2.2.2.2) - v.2.2.2.1)), v.2.2.2.2.2.2.1, v.2.2.2.2.2.2.2.1, v.2.2.2.2.2.2.2.2.1, v.2.2.2.2.2.2.2.2.2.1, v.2.2.2.2.2.2.2.2.2.2)).bind (fun u5 =>
      some u5)
  else
    if (if p0 < v.2.2.2.2.2.2.2.2.2.2 then p0 else v.2.2.2.2.2.2.2.2.2.2) < v.2.2.2.2.2.2.2.2.2.2 then
      some (v.1, v.2.1, v.2.2.1, (if p0 < v.2.2.2.2.2.2.2.2.2.2 then p0 else v.2.2.2.2.2.2.2.2.2.2), v.2.2.2.2.1, v.2.2.2.2.2.1, v.2.2.2.2.2.2.1, v.2.2.2.2.2.2.2.1, v.2.2.2.2.2.2.2.2.1, v.2.2.2.2.2.2.2.2.2.1, v.2.2.2.2.2.2.2.2.2.2)
    else
      (f_X2_endAir (v.1, v.2.1, v.2.2.1, (if p0 < v.2.2.2.2.2.2.2.2.2.2 then p0 else v.2.2.2.2.2.2.2.2.2.2), v.2.2.2.2.1, v.2.2.2.2.2.1, v.2.2.2.2.2.2.1, v.2.2.2.2.2.2.2.1, v.2.2.2.2.2.2.2.2.1, v.2.2.2.2.2.2.2.2.2.1, v.2.2.2.2.2.2.2.2.2.2)).bind (fun u3 =>
      some u3)
set_option maxHeartbeats 4000000 in
set_option maxRecDepth 100000 in
theorem c_X2_passAir (l : Launch) (g : zG) (a : Nat → Nat) (v : HV) (p0 : Int32) (r : HV) (hf : f_X2_passAir v p0 = some r) : zMv zNF zNM l yX2_passAir (zw yX2_passAir cX2_passAir 3 none) ({ frames := 2, cells := 0, slots := 0, locals := 41 } : Room) g [.ref (a 0), .int p0] (zX2 g a v) (zX2 g a r) := by
  intro sz
  refine Met.ofW (cc := cX2_passAir) (maxL := 3) (ret := none) (by decide) rfl ?_
  intro p e s m args below meth c s₁ B hml hv
  obtain ⟨rfl, hsz, hP, hK, hD0⟩ := hv
  have hx := B.exec
  have hb := B.bytes
  have hr0 := B.returns
  have hts := atoms_spec (ws := (zw yX2_passAir cX2_passAir 3 none)) B.pre
  have hw0 : ∀ w ∈ zW, w.before ([.ref (a 0), .int p0] : List Value).toArray s = true := fun w h => hts w (List.mem_cons_of_mem _ h)
  have hown : s.vm.findClass RX2 = some m.cls := findClass_of_methodNamed B.named
  have hlocks := B.notSynchronized
  subst hsz
  have hD := hD0.self (sz := s.heap.size)
  generalize hAe : va_A (zX2 g a v) s.heap.size = A at hD ⊢
  have hA : ∀ q : Nat, s.heap.size ≤ q → A q := fun q h => by rw [← hAe]; exact Or.inr h
  have hS : va_S A s.heap s.heap [] := va_S.rf
  unfold f_X2_passAir at hf
  have hl := lv_entry ([.ref (a 0), .int p0]) (n := 3) (Nat.le_of_ble_eq_true rfl)
  rw [lg_entry_eq]
  generalize (lg_sl ([.ref (a 0), .int p0]) ++ List.replicate (3 - (lg_sl ([.ref (a 0), .int p0])).length) Slot.unset).toArray = ls at hl ⊢
  have hl : lv_has ls 3 [(0, .ref (a 0)), (1, .int p0)] := hl
  refine lv_aload_n hx hb dX2_passAir_0 rfl (lv_at hl 0 rfl) ?_
  refine va_get (D := g.1) (ci := 2) (v := .int v.2.2.2.2.2.2.2.2.2.2) (C := RX2) (T := TX2) (N := 11) hx hb hw0 ziX2 hown hK.1 hP 0 rfl rfl 10 (by decide) (hw0 _ zm1_158) (fun _ h9 => h9) rfl dX2_passAir_1 ?_
  refine lv_iload_n hx hb dX2_passAir_4 rfl (lv_at hl 1 rfl) ?_
  refine va_mmin hx hb (hml.trans hl.1.symm) hown (hw0 _ zm3_102) (hw0 _ zm3_103) (hw0 _ zm1_16) (hw0 _ zm3_104) (Nat.le_of_ble_eq_true rfl) (Nat.le_of_ble_eq_true rfl) (Nat.zero_le _) (Nat.zero_le _) dX2_passAir_5 ?_
  refine lv_istore_n (lv' := [(2, .int (if p0 < v.2.2.2.2.2.2.2.2.2.2 then p0 else v.2.2.2.2.2.2.2.2.2.2)), (0, .ref (a 0)), (1, .int p0)]) hx hb dX2_passAir_8 rfl hl (by decide) rfl (fun ls hl => ?_)
  refine lv_aload_n hx hb dX2_passAir_9 rfl (lv_at hl 1 rfl) ?_
  refine va_get (D := g.1) (ci := 2) (v := .int v.2.2.2.2.2.2.2.2.1) (C := RX2) (T := TX2) (N := 11) hx hb hw0 ziX2 hown hK.1 hP 0 rfl rfl 8 (by decide) (hw0 _ zm1_156) (fun _ h9 => h9) rfl dX2_passAir_10 ?_
  refine lv_iconst (v := 2) hx hb dX2_passAir_13 (by decide) ?_
  refine lv_icmp_ne (tgt := 32) hx hb dX2_passAir_14 (by decide) (fun c1 => ?_) (fun c1 => ?_)
  · have hf := oe hf c1
    refine lv_aload_n hx hb dX2_passAir_32 rfl (lv_at hl 1 rfl) ?_
    refine lv_iload_n hx hb dX2_passAir_33 rfl (lv_at hl 0 rfl) ?_
    refine va_put (D := g.1) (ci := 2) (v := .int (if p0 < v.2.2.2.2.2.2.2.2.2.2 then p0 else v.2.2.2.2.2.2.2.2.2.2)) (ty := .int) (C := RX2) (T := TX2) (N := 11) hx hb hw0 ziX2 tyX2 tyX2_ok nmX2 hown hK.1 hP hD hS 0 rfl rfl 3 (by decide) (hw0 _ zm1_147) (fun _ h9 => h9) rfl (tyX2_ok 3 (by decide)) rfl rfl (Nat.le_of_ble_eq_true rfl) dX2_passAir_34 (fun H locs hP hD hS => ?_)
    have hP : va_P g.1 vwCl (zX2 g a (v.1, v.2.1, v.2.2.1, (if p0 < v.2.2.2.2.2.2.2.2.2.2 then p0 else v.2.2.2.2.2.2.2.2.2.2), v.2.2.2.2.1, v.2.2.2.2.2.1, v.2.2.2.2.2.2.1, v.2.2.2.2.2.2.2.1, v.2.2.2.2.2.2.2.2.1, v.2.2.2.2.2.2.2.2.2.1, v.2.2.2.2.2.2.2.2.2.2)) H := hP
    have hD : va_D A (zX2 g a (v.1, v.2.1, v.2.2.1, (if p0 < v.2.2.2.2.2.2.2.2.2.2 then p0 else v.2.2.2.2.2.2.2.2.2.2), v.2.2.2.2.1, v.2.2.2.2.2.1, v.2.2.2.2.2.2.1, v.2.2.2.2.2.2.2.1, v.2.2.2.2.2.2.2.2.1, v.2.2.2.2.2.2.2.2.2.1, v.2.2.2.2.2.2.2.2.2.2)) := hD
    refine lv_aload_n hx hb dX2_passAir_37 rfl (lv_at hl 1 rfl) ?_
    refine va_get (D := g.1) (ci := 2) (v := .int (if p0 < v.2.2.2.2.2.2.2.2.2.2 then p0 else v.2.2.2.2.2.2.2.2.2.2)) (C := RX2) (T := TX2) (N := 11) hx hb hw0 ziX2 hown hK.1 hP 0 rfl rfl 3 (by decide) (hw0 _ zm1_147) (fun _ h9 => h9) rfl dX2_passAir_38 ?_
    refine lv_aload_n hx hb dX2_passAir_41 rfl (lv_at hl 1 rfl) ?_
    refine va_get (D := g.1) (ci := 2) (v := .int v.2.2.2.2.2.2.2.2.2.2) (C := RX2) (T := TX2) (N := 11) hx hb hw0 ziX2 hown hK.1 hP 0 rfl rfl 10 (by decide) (hw0 _ zm1_158) (fun _ h9 => h9) rfl dX2_passAir_42 ?_
    refine lv_icmp_lt (tgt := 52) hx hb dX2_passAir_45 (by decide) (fun c2 => ?_) (fun c2 => ?_)
    · have hf := oi hf c2
      have hR : (v.1, v.2.1, v.2.2.1, (if p0 < v.2.2.2.2.2.2.2.2.2.2 then p0 else v.2.2.2.2.2.2.2.2.2.2), v.2.2.2.2.1, v.2.2.2.2.2.1, v.2.2.2.2.2.2.1, v.2.2.2.2.2.2.2.1, v.2.2.2.2.2.2.2.2.1, v.2.2.2.2.2.2.2.2.2.1, v.2.2.2.2.2.2.2.2.2.2) = r := Option.some.inj hf
      subst hR
      exact W.vret hx hb hr0 (fun t ht hW => ⟨⟨(), rfl, trivial, by rw [ht]; exact hP, hD⟩, hS.F ht⟩) hS.2.2 dX2_passAir_52
    · have hf := oe hf c2
      refine lv_aload_n hx hb dX2_passAir_48 rfl (lv_at hl 1 rfl) ?_
      obtain ⟨u3, hu3, hf⟩ := ob hf
      refine zk_vA (va_runV (As := []) (rest := []) ⟨hx, hb, hml, hown, hts⟩ (c_X2_endAir l g a (v.1, v.2.1, v.2.2.1, (if p0 < v.2.2.2.2.2.2.2.2.2.2 then p0 else v.2.2.2.2.2.2.2.2.2.2), v.2.2.2.2.1, v.2.2.2.2.2.1, v.2.2.2.2.2.2.1, v.2.2.2.2.2.2.2.1, v.2.2.2.2.2.2.2.2.1, v.2.2.2.2.2.2.2.2.2.1, v.2.2.2.2.2.2.2.2.2.2) _ hu3 _) (zcV hw0 zm2_185 zm2_188 zm1_2 zm2_187 zs1_15 hd_X2_endAir rfl rfl ⟨Nat.le_of_ble_eq_true rfl, Nat.le_of_ble_eq_true rfl⟩) ⟨zblind, zrecvA hK hP (ci := 2) rfl rfl, zpreA hK hP hD⟩ rfl rfl hl.1 rfl (lv_room (Nat.le_of_ble_eq_true rfl)) dX2_passAir_49 ⟨Nat.zero_le _, Nat.zero_le _⟩) hP hD hS hA (fun H locs hP hD hS => ?_)
      have hP : va_P g.1 vwCl (zX2 g a u3) H := hP
      have hD : va_D A (zX2 g a u3) := hD
      have hR : u3 = r := Option.some.inj hf
      subst hR
      exact W.vret hx hb hr0 (fun t ht hW => ⟨⟨(), rfl, trivial, by rw [ht]; exact hP, hD⟩, hS.F ht⟩) hS.2.2 dX2_passAir_52
  · have hf := oi hf c1
    refine lv_aload_n hx hb dX2_passAir_17 rfl (lv_at hl 1 rfl) ?_
    refine lv_dup hx hb dX2_passAir_18 rfl ?_
    refine va_get (D := g.1) (ci := 2) (v := .int v.2.2.2.2.2.1) (C := RX2) (T := TX2) (N := 11) hx hb hw0 ziX2 hown hK.1 hP 0 rfl rfl 5 (by decide) (hw0 _ zm1_151) (fun _ h9 => h9) rfl dX2_passAir_19 ?_
    refine lv_iload_n hx hb dX2_passAir_22 rfl (lv_at hl 0 rfl) ?_
    refine lv_aload_n hx hb dX2_passAir_23 rfl (lv_at hl 1 rfl) ?_
    refine va_get (D := g.1) (ci := 2) (v := .int v.2.2.2.1) (C := RX2) (T := TX2) (N := 11) hx hb hw0 ziX2 hown hK.1 hP 0 rfl rfl 3 (by decide) (hw0 _ zm1_147) (fun _ h9 => h9) rfl dX2_passAir_24 ?_
    refine lv_isub hx hb dX2_passAir_27 ?_
    refine lv_iadd hx hb dX2_passAir_28 ?_
    refine va_put (D := g.1) (ci := 2) (v := .int (v.2.2.2.2.2.1 + ((if p0 < v.2.2.2.2.2.2.2.2.2.2 then p0 else v.2.2.2.2.2.2.2.2.2.2) - v.2.2.2.1))) (ty := .int) (C := RX2) (T := TX2) (N := 11) hx hb hw0 ziX2 tyX2 tyX2_ok nmX2 hown hK.1 hP hD hS 0 rfl rfl 5 (by decide) (hw0 _ zm1_151) (fun _ h9 => h9) rfl (tyX2_ok 5 (by decide)) rfl rfl (Nat.le_of_ble_eq_true rfl) dX2_passAir_29 (fun H locs hP hD hS => ?_)
    have hP : va_P g.1 vwCl (zX2 g a (v.1, v.2.1, v.2.2.1, v.2.2.2.1, v.2.2.2.2.1, (v.2.2.2.2.2.1 + ((if p0 < v.2.2.2.2.2.2.2.2.2.2 then p0 else v.2.2.2.2.2.2.2.2.2.2) - v.2.2.2.1)), v.2.2.2.2.2.2.1, v.2.2.2.2.2.2.2.1, v.2.2.2.2.2.2.2.2.1, v.2.2.2.2.2.2.2.2.2.1, v.2.2.2.2.2.2.2.2.2.2)) H := hP
    have hD : va_D A (zX2 g a (v.1, v.2.1, v.2.2.1, v.2.2.2.1, v.2.2.2.2.1, (v.2.2.2.2.2.1 + ((if p0 < v.2.2.2.2.2.2.2.2.2.2 then p0 else v.2.2.2.2.2.2.2.2.2.2) - v.2.2.2.1)), v.2.2.2.2.2.2.1, v.2.2.2.2.2.2.2.1, v.2.2.2.2.2.2.2.2.1, v.2.2.2.2.2.2.2.2.2.1, v.2.2.2.2.2.2.2.2.2.2)) := hD
    refine lv_aload_n hx hb dX2_passAir_32 rfl (lv_at hl 1 rfl) ?_
    refine lv_iload_n hx hb dX2_passAir_33 rfl (lv_at hl 0 rfl) ?_
    refine va_put (D := g.1) (ci := 2) (v := .int (if p0 < v.2.2.2.2.2.2.2.2.2.2 then p0 else v.2.2.2.2.2.2.2.2.2.2)) (ty := .int) (C := RX2) (T := TX2) (N := 11) hx hb hw0 ziX2 tyX2 tyX2_ok nmX2 hown hK.1 hP hD hS 0 rfl rfl 3 (by decide) (hw0 _ zm1_147) (fun _ h9 => h9) rfl (tyX2_ok 3 (by decide)) rfl rfl (Nat.le_of_ble_eq_true rfl) dX2_passAir_34 (fun H locs hP hD hS => ?_)
    have hP : va_P g.1 vwCl (zX2 g a (v.1, v.2.1, v.2.2.1, (if p0 < v.2.2.2.2.2.2.2.2.2.2 then p0 else v.2.2.2.2.2.2.2.2.2.2), v.2.2.2.2.1, (v.2.2.2.2.2.1 + ((if p0 < v.2.2.2.2.2.2.2.2.2.2 then p0 else v.2.2.2.2.2.2.2.2.2.2) - v.2.2.2.1)), v.2.2.2.2.2.2.1, v.2.2.2.2.2.2.2.1, v.2.2.2.2.2.2.2.2.1, v.2.2.2.2.2.2.2.2.2.1, v.2.2.2.2.2.2.2.2.2.2)) H := hP
    have hD : va_D A (zX2 g a (v.1, v.2.1, v.2.2.1, (if p0 < v.2.2.2.2.2.2.2.2.2.2 then p0 else v.2.2.2.2.2.2.2.2.2.2), v.2.2.2.2.1, (v.2.2.2.2.2.1 + ((if p0 < v.2.2.2.2.2.2.2.2.2.2 then p0 else v.2.2.2.2.2.2.2.2.2.2) - v.2.2.2.1)), v.2.2.2.2.2.2.1, v.2.2.2.2.2.2.2.1, v.2.2.2.2.2.2.2.2.1, v.2.2.2.2.2.2.2.2.2.1, v.2.2.2.2.2.2.2.2.2.2)) := hD
    refine lv_aload_n hx hb dX2_passAir_37 rfl (lv_at hl 1 rfl) ?_
    refine va_get (D := g.1) (ci := 2) (v := .int (if p0 < v.2.2.2.2.2.2.2.2.2.2 then p0 else v.2.2.2.2.2.2.2.2.2.2)) (C := RX2) (T := TX2) (N := 11) hx hb hw0 ziX2 hown hK.1 hP 0 rfl rfl 3 (by decide) (hw0 _ zm1_147) (fun _ h9 => h9) rfl dX2_passAir_38 ?_
    refine lv_aload_n hx hb dX2_passAir_41 rfl (lv_at hl 1 rfl) ?_
    refine va_get (D := g.1) (ci := 2) (v := .int v.2.2.2.2.2.2.2.2.2.2) (C := RX2) (T := TX2) (N := 11) hx hb hw0 ziX2 hown hK.1 hP 0 rfl rfl 10 (by decide) (hw0 _ zm1_158) (fun _ h9 => h9) rfl dX2_passAir_42 ?_
    refine lv_icmp_lt (tgt := 52) hx hb dX2_passAir_45 (by decide) (fun c4 => ?_) (fun c4 => ?_)
    · have hf := oi hf c4
      have hR : (v.1, v.2.1, v.2.2.1, (if p0 < v.2.2.2.2.2.2.2.2.2.2 then p0 else v.2.2.2.2.2.2.2.2.2.2), v.2.2.2.2.1, (v.2.2.2.2.2.1 + ((if p0 < v.2.2.2.2.2.2.2.2.2.2 then p0 else v.2.2.2.2.2.2.2.2.2.2) - v.2.2.2.1)), v.2.2.2.2.2.2.1, v.2.2.2.2.2.2.2.1, v.2.2.2.2.2.2.2.2.1, v.2.2.2.2.2.2.2.2.2.1, v.2.2.2.2.2.2.2.2.2.2) = r := Option.some.inj hf
      subst hR
      exact W.vret hx hb hr0 (fun t ht hW => ⟨⟨(), rfl, trivial, by rw [ht]; exact hP, hD⟩, hS.F ht⟩) hS.2.2 dX2_passAir_52
    · have hf := oe hf c4
      refine lv_aload_n hx hb dX2_passAir_48 rfl (lv_at hl 1 rfl) ?_
      obtain ⟨u5, hu5, hf⟩ := ob hf
      refine zk_vA (va_runV (As := []) (rest := []) ⟨hx, hb, hml, hown, hts⟩ (c_X2_endAir l g a (v.1, v.2.1, v.2.2.1, (if p0 < v.2.2.2.2.2.2.2.2.2.2 then p0 else v.2.2.2.2.2.2.2.2.2.2), v.2.2.2.2.1, (v.2.2.2.2.2.1 + ((if p0 < v.2.2.2.2.2.2.2.2.2.2 then p0 else v.2.2.2.2.2.2.2.2.2.2) - v.2.2.2.1)), v.2.2.2.2.2.2.1, v.2.2.2.2.2.2.2.1, v.2.2.2.2.2.2.2.2.1, v.2.2.2.2.2.2.2.2.2.1, v.2.2.2.2.2.2.2.2.2.2) _ hu5 _) (zcV hw0 zm2_185 zm2_188 zm1_2 zm2_187 zs1_15 hd_X2_endAir rfl rfl ⟨Nat.le_of_ble_eq_true rfl, Nat.le_of_ble_eq_true rfl⟩) ⟨zblind, zrecvA hK hP (ci := 2) rfl rfl, zpreA hK hP hD⟩ rfl rfl hl.1 rfl (lv_room (Nat.le_of_ble_eq_true rfl)) dX2_passAir_49 ⟨Nat.zero_le _, Nat.zero_le _⟩) hP hD hS hA (fun H locs hP hD hS => ?_)
      have hP : va_P g.1 vwCl (zX2 g a u5) H := hP
      have hD : va_D A (zX2 g a u5) := hD
      have hR : u5 = r := Option.some.inj hf
      subst hR
      exact W.vret hx hb hr0 (fun t ht hW => ⟨⟨(), rfl, trivial, by rw [ht]; exact hP, hD⟩, hS.F ht⟩) hS.2.2 dX2_passAir_52
theorem hd_X2_runTo : yX2_runTo.cls ≠ "java/lang/invoke/MethodHandle" ∧ yX2_runTo.cls ≠ "java/lang/invoke/VarHandle" ∧ (parseMethodDescriptor yX2_runTo.desc).map (fun d => d.parameters.length) = some 1 := by decide +kernel
def s_X2_runTo_2 (v : HV) (i1 : Int32) (x : Int32 × HV) : Option ((Int32 × HV) ⊕ (Int32 × HV)) :=
  if 1000 ≤ x.1 then
    some (.inr (x.1, x.2))
  else
    if i1 ≤ x.2.2.2.2.1 then
      some (.inr (x.1, x.2))
    else
      if (zb x.2.2.2.2.2.1) = 0 then
        if x.2.2.2.2.2.2.2.2.2.1 = (-1) then
          (f_X2_findNext x.2).bind (fun u7 =>
          if (zb u7.2.2.2.2.1) = 0 then
            (f_X2_passAir u7 i1).bind (fun u9 =>
            some (.inl ((x.1 + 1), u9)))
          else
            some (.inl ((x.1 + 1), u7)))
        else
          if (zb x.2.2.2.2.2.1) = 0 then
            (f_X2_passAir x.2 i1).bind (fun u6 =>
            some (.inl ((x.1 + 1), u6)))
          else
            some (.inl ((x.1 + 1), x.2))
      else
        some (.inr (x.1, x.2))
def f_X2_runTo (v : HV) (p0 : Int32) : Option (HV) :=
  (zloop (s_X2_runTo_2 v p0) 4096 (0, v)).bind (fun u10 =>
  some u10.2)
set_option maxHeartbeats 4000000 in
set_option maxRecDepth 100000 in
theorem c_X2_runTo (l : Launch) (g : zG) (a : Nat → Nat) (v : HV) (p0 : Int32) (r : HV) (hf : f_X2_runTo v p0 = some r) : zMv zNF zNM l yX2_runTo (zw yX2_runTo cX2_runTo 3 none) ({ frames := 5, cells := 0, slots := 0, locals := 118 } : Room) g [.ref (a 0), .int p0] (zX2 g a v) (zX2 g a r) := by
  intro sz
  refine Met.ofW (cc := cX2_runTo) (maxL := 3) (ret := none) (by decide) rfl ?_
  intro p e s m args below meth c s₁ B hml hv
  obtain ⟨rfl, hsz, hP, hK, hD0⟩ := hv
  have hx := B.exec
  have hb := B.bytes
  have hr0 := B.returns
  have hts := atoms_spec (ws := (zw yX2_runTo cX2_runTo 3 none)) B.pre
  have hw0 : ∀ w ∈ zW, w.before ([.ref (a 0), .int p0] : List Value).toArray s = true := fun w h => hts w (List.mem_cons_of_mem _ h)
  have hown : s.vm.findClass RX2 = some m.cls := findClass_of_methodNamed B.named
  have hlocks := B.notSynchronized
  subst hsz
  have hD := hD0.self (sz := s.heap.size)
  generalize hAe : va_A (zX2 g a v) s.heap.size = A at hD ⊢
  have hA : ∀ q : Nat, s.heap.size ≤ q → A q := fun q h => by rw [← hAe]; exact Or.inr h
  have hS : va_S A s.heap s.heap [] := va_S.rf
  have lp2 : ∀ (v : HV) (i1 : Int32), ∀ (n : Nat) (x : Int32 × HV) (rr : Int32 × HV), zloop (s_X2_runTo_2 v i1) n x = some rr → (∀ (H : Heap) (locs : List Loc), va_P g.1 vwCl (zX2 g a rr.2) H → va_D A (zX2 g a rr.2) → va_S A s.heap H locs → ∀ ls : Array Slot, lv_has ls 3 [] → W p l e (headSpec (zw yX2_runTo cX2_runTo 3 none) ({ frames := 5, cells := 0, slots := 0, locals := 118 } : Room)).room s m ([.ref (a 0), .int p0] : List Value).toArray below meth c H locs 0 0 (MQ below (va_Qv (fun (_ : Unit) => True) (fun _ => zEnd g A (zX2 g a r)) A) ([.ref (a 0), .int p0] : List Value).toArray s 0 0 A) (F0 m 54 ls [])) → ∀ (H : Heap) (locs : List Loc), va_P g.1 vwCl (zX2 g a x.2) H → va_D A (zX2 g a x.2) → va_S A s.heap H locs → ∀ ls : Array Slot, lv_has ls 3 [(0, .ref (a 0)), (1, .int i1), (2, .int x.1)] → W p l e (headSpec (zw yX2_runTo cX2_runTo 3 none) ({ frames := 5, cells := 0, slots := 0, locals := 118 } : Room)).room s m ([.ref (a 0), .int p0] : List Value).toArray below meth c H locs 0 0 (MQ below (va_Qv (fun (_ : Unit) => True) (fun _ => zEnd g A (zX2 g a r)) A) ([.ref (a 0), .int p0] : List Value).toArray s 0 0 A) (F0 m 2 ls []) := by
    intro v i1
    refine zloop_ind ?_
    intro x y rr hf ih hr hQ H locs hP hD hS ls hl
    unfold s_X2_runTo_2 at hf
    refine lv_iload_n hx hb dX2_runTo_2 rfl (lv_at hl 2 rfl) ?_
    refine lv_sipush (v := 1000) hx hb dX2_runTo_3 (by decide) ?_
    refine lv_icmp_ge (tgt := 54) hx hb dX2_runTo_6 (by decide) (fun c1 => ?_) (fun c1 => ?_)
    · have hf := oi hf c1
      have hR : (x.1, x.2) = rr := hr _ (Option.some.inj hf).symm
      subst hR
      exact hQ _ _ hP hD hS _ (lv_sub hl [] rfl)
    · have hf := oe hf c1
      refine lv_aload_n hx hb dX2_runTo_9 rfl (lv_at hl 0 rfl) ?_
      refine va_get (D := g.1) (ci := 2) (v := .int x.2.2.2.2.1) (C := RX2) (T := TX2) (N := 11) hx hb hw0 ziX2 hown hK.1 hP 0 rfl rfl 3 (by decide) (hw0 _ zm1_147) (fun _ h9 => h9) rfl dX2_runTo_10 ?_
      refine lv_iload_n hx hb dX2_runTo_13 rfl (lv_at hl 1 rfl) ?_
      refine lv_icmp_ge (tgt := 54) hx hb dX2_runTo_14 (by decide) (fun c2 => ?_) (fun c2 => ?_)
      · have hf := oi hf c2
        have hR : (x.1, x.2) = rr := hr _ (Option.some.inj hf).symm
        subst hR
        exact hQ _ _ hP hD hS _ (lv_sub hl [] rfl)
      · have hf := oe hf c2
        refine lv_aload_n hx hb dX2_runTo_17 rfl (lv_at hl 0 rfl) ?_
        refine va_get (D := g.1) (ci := 2) (v := .int (zb x.2.2.2.2.2.1)) (C := RX2) (T := TX2) (N := 11) hx hb hw0 ziX2 hown hK.1 hP 0 rfl rfl 4 (by decide) (hw0 _ zm1_149) (fun _ h9 => h9) rfl dX2_runTo_18 ?_
        refine lv_if_ne (tgt := 54) hx hb dX2_runTo_21 (by decide) (fun c3 => ?_) (fun c3 => ?_)
        · have hf := oe hf c3
          have hR : (x.1, x.2) = rr := hr _ (Option.some.inj hf).symm
          subst hR
          exact hQ _ _ hP hD hS _ (lv_sub hl [] rfl)
        · have hf := oi hf c3
          refine lv_aload_n hx hb dX2_runTo_24 rfl (lv_at hl 0 rfl) ?_
          refine va_get (D := g.1) (ci := 2) (v := .int x.2.2.2.2.2.2.2.2.2.1) (C := RX2) (T := TX2) (N := 11) hx hb hw0 ziX2 hown hK.1 hP 0 rfl rfl 8 (by decide) (hw0 _ zm1_156) (fun _ h9 => h9) rfl dX2_runTo_25 ?_
          refine lv_iconst (v := (-1)) hx hb dX2_runTo_28 (by decide) ?_
          refine lv_icmp_ne (tgt := 36) hx hb dX2_runTo_29 (by decide) (fun c4 => ?_) (fun c4 => ?_)
          · have hf := oe hf c4
            refine lv_aload_n hx hb dX2_runTo_36 rfl (lv_at hl 0 rfl) ?_
            refine va_get (D := g.1) (ci := 2) (v := .int (zb x.2.2.2.2.2.1)) (C := RX2) (T := TX2) (N := 11) hx hb hw0 ziX2 hown hK.1 hP 0 rfl rfl 4 (by decide) (hw0 _ zm1_149) (fun _ h9 => h9) rfl dX2_runTo_37 ?_
            refine lv_if_ne (tgt := 48) hx hb dX2_runTo_40 (by decide) (fun c5 => ?_) (fun c5 => ?_)
            · have hf := oe hf c5
              refine lv_iinc (v := (x.1 + 1)) (lv' := [(2, .int (x.1 + 1)), (0, .ref (a 0)), (1, .int i1)]) hx hb dX2_runTo_48 hl (k := 2) rfl rfl (by decide) rfl (fun ls hl => ?_)
              refine lv_goto (tgt := 2) hx hb dX2_runTo_51 (by decide) ?_
              exact ih ((x.1 + 1), x.2) (Option.some.inj hf).symm hQ _ _ hP hD hS _ (lv_sub hl [1, 2, 0] rfl)
            · have hf := oi hf c5
              refine lv_aload_n hx hb dX2_runTo_43 rfl (lv_at hl 0 rfl) ?_
              refine lv_iload_n hx hb dX2_runTo_44 rfl (lv_at hl 1 rfl) ?_
              obtain ⟨u6, hu6, hf⟩ := ob hf
              refine zk_vA (va_runV (As := [.int i1]) (rest := []) ⟨hx, hb, hml, hown, hts⟩ (c_X2_passAir l g a x.2 i1 _ hu6 _) (zcV hw0 zm3_98 zm3_101 zm1_2 zm3_100 zs3_10 hd_X2_passAir rfl rfl ⟨Nat.le_of_ble_eq_true rfl, Nat.le_of_ble_eq_true rfl⟩) ⟨zblind, zrecvA hK hP (ci := 2) rfl rfl, zpreA hK hP hD⟩ rfl rfl hl.1 rfl (lv_room (Nat.le_of_ble_eq_true rfl)) dX2_runTo_45 ⟨Nat.zero_le _, Nat.zero_le _⟩) hP hD hS hA (fun H locs hP hD hS => ?_)
              have hP : va_P g.1 vwCl (zX2 g a u6) H := hP
              have hD : va_D A (zX2 g a u6) := hD
              refine lv_iinc (v := (x.1 + 1)) (lv' := [(2, .int (x.1 + 1)), (0, .ref (a 0)), (1, .int i1)]) hx hb dX2_runTo_48 hl (k := 2) rfl rfl (by decide) rfl (fun ls hl => ?_)
              refine lv_goto (tgt := 2) hx hb dX2_runTo_51 (by decide) ?_
              exact ih ((x.1 + 1), u6) (Option.some.inj hf).symm hQ _ _ hP hD hS _ (lv_sub hl [1, 2, 0] rfl)
          · have hf := oi hf c4
            refine lv_aload_n hx hb dX2_runTo_32 rfl (lv_at hl 0 rfl) ?_
            obtain ⟨u7, hu7, hf⟩ := ob hf
            refine zk_vA (va_runV (As := []) (rest := []) ⟨hx, hb, hml, hown, hts⟩ (c_X2_findNext l g a x.2 _ hu7 _) (zcV hw0 zm3_20 zm3_23 zm1_2 zm3_22 zs2_9 hd_X2_findNext rfl rfl ⟨Nat.le_of_ble_eq_true rfl, Nat.le_of_ble_eq_true rfl⟩) ⟨zblind, zrecvA hK hP (ci := 2) rfl rfl, zpreA hK hP hD⟩ rfl rfl hl.1 rfl (lv_room (Nat.le_of_ble_eq_true rfl)) dX2_runTo_33 ⟨Nat.zero_le _, Nat.zero_le _⟩) hP hD hS hA (fun H locs hP hD hS => ?_)
            have hP : va_P g.1 vwCl (zX2 g a u7) H := hP
            have hD : va_D A (zX2 g a u7) := hD
            refine lv_aload_n hx hb dX2_runTo_36 rfl (lv_at hl 0 rfl) ?_
            refine va_get (D := g.1) (ci := 2) (v := .int (zb u7.2.2.2.2.1)) (C := RX2) (T := TX2) (N := 11) hx hb hw0 ziX2 hown hK.1 hP 0 rfl rfl 4 (by decide) (hw0 _ zm1_149) (fun _ h9 => h9) rfl dX2_runTo_37 ?_
            refine lv_if_ne (tgt := 48) hx hb dX2_runTo_40 (by decide) (fun c8 => ?_) (fun c8 => ?_)
            · have hf := oe hf c8
              refine lv_iinc (v := (x.1 + 1)) (lv' := [(2, .int (x.1 + 1)), (0, .ref (a 0)), (1, .int i1)]) hx hb dX2_runTo_48 hl (k := 2) rfl rfl (by decide) rfl (fun ls hl => ?_)
              refine lv_goto (tgt := 2) hx hb dX2_runTo_51 (by decide) ?_
              exact ih ((x.1 + 1), u7) (Option.some.inj hf).symm hQ _ _ hP hD hS _ (lv_sub hl [1, 2, 0] rfl)
            · have hf := oi hf c8
              refine lv_aload_n hx hb dX2_runTo_43 rfl (lv_at hl 0 rfl) ?_
              refine lv_iload_n hx hb dX2_runTo_44 rfl (lv_at hl 1 rfl) ?_
              obtain ⟨u9, hu9, hf⟩ := ob hf
              refine zk_vA (va_runV (As := [.int i1]) (rest := []) ⟨hx, hb, hml, hown, hts⟩ (c_X2_passAir l g a u7 i1 _ hu9 _) (zcV hw0 zm3_98 zm3_101 zm1_2 zm3_100 zs3_10 hd_X2_passAir rfl rfl ⟨Nat.le_of_ble_eq_true rfl, Nat.le_of_ble_eq_true rfl⟩) ⟨zblind, zrecvA hK hP (ci := 2) rfl rfl, zpreA hK hP hD⟩ rfl rfl hl.1 rfl (lv_room (Nat.le_of_ble_eq_true rfl)) dX2_runTo_45 ⟨Nat.zero_le _, Nat.zero_le _⟩) hP hD hS hA (fun H locs hP hD hS => ?_)
              have hP : va_P g.1 vwCl (zX2 g a u9) H := hP
              have hD : va_D A (zX2 g a u9) := hD
              refine lv_iinc (v := (x.1 + 1)) (lv' := [(2, .int (x.1 + 1)), (0, .ref (a 0)), (1, .int i1)]) hx hb dX2_runTo_48 hl (k := 2) rfl rfl (by decide) rfl (fun ls hl => ?_)
              refine lv_goto (tgt := 2) hx hb dX2_runTo_51 (by decide) ?_
              exact ih ((x.1 + 1), u9) (Option.some.inj hf).symm hQ _ _ hP hD hS _ (lv_sub hl [1, 2, 0] rfl)
  unfold f_X2_runTo at hf
  have hl := lv_entry ([.ref (a 0), .int p0]) (n := 3) (Nat.le_of_ble_eq_true rfl)
  rw [lg_entry_eq]
  generalize (lg_sl ([.ref (a 0), .int p0]) ++ List.replicate (3 - (lg_sl ([.ref (a 0), .int p0])).length) Slot.unset).toArray = ls at hl ⊢
  have hl : lv_has ls 3 [(0, .ref (a 0)), (1, .int p0)] := hl
  refine lv_iconst (v := 0) hx hb dX2_runTo_0 (by decide) ?_
  refine lv_istore_n (lv' := [(2, .int 0), (0, .ref (a 0)), (1, .int p0)]) hx hb dX2_runTo_1 rfl hl (by decide) rfl (fun ls hl => ?_)
  obtain ⟨u10, hu10, hf⟩ := ob hf
  refine lp2 v p0 _ _ u10 hu10 (fun H locs hP hD hS ls hl => ?_) _ _ hP hD hS _ (lv_sub hl [1, 2, 0] rfl)
  have hl : lv_has ls 3 [] := hl
  have hP : va_P g.1 vwCl (zX2 g a u10.2) H := hP
  have hD : va_D A (zX2 g a u10.2) := hD
  have hR : u10.2 = r := Option.some.inj hf
  subst hR
  exact W.vret hx hb hr0 (fun t ht hW => ⟨⟨(), rfl, trivial, by rw [ht]; exact hP, hD⟩, hS.F ht⟩) hS.2.2 dX2_runTo_54
theorem hd_X2_canHaveLength : yX2_canHaveLength.cls ≠ "java/lang/invoke/MethodHandle" ∧ yX2_canHaveLength.cls ≠ "java/lang/invoke/VarHandle" ∧ (parseMethodDescriptor yX2_canHaveLength.desc).map (fun d => d.parameters.length) = some 2 := by decide +kernel
def f_X2_canHaveLength (v : HV) (p0 : Int32) (p1 : Int32) : Option (Bool) :=
  if p1 < 1 then
    some false
  else
    if p1 ≤ 3600 then
      (f_X0_is v.1 p0 1).bind (fun u3 =>
      if (zb u3) = 0 then
        (f_X0_waits v.1 p0).bind (fun u5 =>
        some u5)
      else
        (f_X0_begunAt v.1 p0).bind (fun u6 =>
        if (u6 + p1) < v.2.2.2.1 then
          some false
        else
          some true))
    else
      some false
set_option maxHeartbeats 4000000 in
set_option maxRecDepth 100000 in
theorem c_X2_canHaveLength (l : Launch) (g : zG) (a : Nat → Nat) (v : HV) (p0 : Int32) (p1 : Int32) (r : Bool) (hf : f_X2_canHaveLength v p0 p1 = some r) : zMi zNF zNM l yX2_canHaveLength (zw yX2_canHaveLength cX2_canHaveLength 3 (some .boolean)) ({ frames := 3, cells := 0, slots := 0, locals := 64 } : Room) g [.ref (a 0), .int p0, .int p1] (zX2 g a v) (zb r) (zX2 g a v) := by
  intro sz
  refine Met.ofW (cc := cX2_canHaveLength) (maxL := 3) (ret := (some .boolean)) (by decide) rfl ?_
  intro p e s m args below meth c s₁ B hml hv
  obtain ⟨rfl, hsz, hP, hK, hD0⟩ := hv
  have hx := B.exec
  have hb := B.bytes
  have hr0 := B.returns
  have hts := atoms_spec (ws := (zw yX2_canHaveLength cX2_canHaveLength 3 (some .boolean))) B.pre
  have hw0 : ∀ w ∈ zW, w.before ([.ref (a 0), .int p0, .int p1] : List Value).toArray s = true := fun w h => hts w (List.mem_cons_of_mem _ h)
  have hown : s.vm.findClass RX2 = some m.cls := findClass_of_methodNamed B.named
  have hlocks := B.notSynchronized
  subst hsz
  have hD := hD0.self (sz := s.heap.size)
  generalize hAe : va_A (zX2 g a v) s.heap.size = A at hD ⊢
  have hA : ∀ q : Nat, s.heap.size ≤ q → A q := fun q h => by rw [← hAe]; exact Or.inr h
  have hS : va_S A s.heap s.heap [] := va_S.rf
  unfold f_X2_canHaveLength at hf
  have hl := lv_entry ([.ref (a 0), .int p0, .int p1]) (n := 3) (Nat.le_of_ble_eq_true rfl)
  rw [lg_entry_eq]
  generalize (lg_sl ([.ref (a 0), .int p0, .int p1]) ++ List.replicate (3 - (lg_sl ([.ref (a 0), .int p0, .int p1])).length) Slot.unset).toArray = ls at hl ⊢
  have hl : lv_has ls 3 [(0, .ref (a 0)), (1, .int p0), (2, .int p1)] := hl
  refine lv_iload_n hx hb dX2_canHaveLength_0 rfl (lv_at hl 2 rfl) ?_
  refine lv_iconst (v := 1) hx hb dX2_canHaveLength_1 (by decide) ?_
  refine lv_icmp_lt (tgt := 12) hx hb dX2_canHaveLength_2 (by decide) (fun c1 => ?_) (fun c1 => ?_)
  · have hf := oi hf c1
    refine lv_iconst (v := 0) hx hb dX2_canHaveLength_12 (by decide) ?_
    have hR : false = r := Option.some.inj hf
    subst hR
    exact W.zret (v := zb false) hx hb hr0 (zb_nar false) (fun t ht hW => ⟨⟨zb false, (), rfl, rfl, by rw [ht]; exact hP, hD⟩, hS.F ht⟩) hS.2.2 dX2_canHaveLength_13
  · have hf := oe hf c1
    refine lv_iload_n hx hb dX2_canHaveLength_5 rfl (lv_at hl 2 rfl) ?_
    refine lv_sipush (v := 3600) hx hb dX2_canHaveLength_6 (by decide) ?_
    refine lv_icmp_le (tgt := 14) hx hb dX2_canHaveLength_9 (by decide) (fun c2 => ?_) (fun c2 => ?_)
    · have hf := oi hf c2
      refine lv_aload_n hx hb dX2_canHaveLength_14 rfl (lv_at hl 0 rfl) ?_
      refine va_get (D := g.1) (ci := 2) (v := .ref (a 1)) (C := RX2) (T := TX2) (N := 11) hx hb hw0 ziX2 hown hK.1 hP 0 rfl rfl 0 (by decide) (hw0 _ zm1_141) (fun _ h9 => h9) rfl dX2_canHaveLength_15 ?_
      refine lv_iload_n hx hb dX2_canHaveLength_18 rfl (lv_at hl 1 rfl) ?_
      refine lv_iconst (v := 1) hx hb dX2_canHaveLength_19 (by decide) ?_
      obtain ⟨u3, hu3, hf⟩ := ob hf
      refine zk_iR (va_runVN (As := [.int p0, .int 1]) (rest := []) ⟨hx, hb, hml, hown, hts⟩ (c_X0_is l g (fun k => a (k + 1)) v.1 p0 1 _ hu3 _) (zcN hw0 (zn_14 hK) zm2_168 zm1_3 zm2_167 zs1_11 hd_X0_is rfl rfl ⟨Nat.le_of_ble_eq_true rfl, Nat.le_of_ble_eq_true rfl⟩) ⟨zblind, zrecv (wc := zX0 g (fun k => a (k + 1)) v.1) hK hP [1, 2, 3, 4, 5, 6] rfl (ci := 0) rfl rfl, zpre hK hP hD [1, 2, 3, 4, 5, 6] rfl rfl⟩ rfl rfl hl.1 rfl (lv_room (Nat.le_of_ble_eq_true rfl)) dX2_canHaveLength_20 ⟨Nat.zero_le _, Nat.zero_le _⟩) hP hD hS hA [1, 2, 3, 4, 5, 6] rfl (fun H locs hP hD hS => ?_)
      refine lv_if_eq (tgt := 49) hx hb dX2_canHaveLength_23 (by decide) (fun c4 => ?_) (fun c4 => ?_)
      · have hf := oi hf c4
        refine lv_aload_n hx hb dX2_canHaveLength_49 rfl (lv_at hl 0 rfl) ?_
        refine va_get (D := g.1) (ci := 2) (v := .ref (a 1)) (C := RX2) (T := TX2) (N := 11) hx hb hw0 ziX2 hown hK.1 hP 0 rfl rfl 0 (by decide) (hw0 _ zm1_141) (fun _ h9 => h9) rfl dX2_canHaveLength_50 ?_
        refine lv_iload_n hx hb dX2_canHaveLength_53 rfl (lv_at hl 1 rfl) ?_
        obtain ⟨u5, hu5, hf⟩ := ob hf
        refine zk_iR (va_runVN (As := [.int p0]) (rest := []) ⟨hx, hb, hml, hown, hts⟩ (c_X0_waits l g (fun k => a (k + 1)) v.1 p0 _ hu5 _) (zcN hw0 (zn_16 hK) zm2_177 zm1_3 zm2_176 zs1_13 hd_X0_waits rfl rfl ⟨Nat.le_of_ble_eq_true rfl, Nat.le_of_ble_eq_true rfl⟩) ⟨zblind, zrecv (wc := zX0 g (fun k => a (k + 1)) v.1) hK hP [1, 2, 3, 4, 5, 6] rfl (ci := 0) rfl rfl, zpre hK hP hD [1, 2, 3, 4, 5, 6] rfl rfl⟩ rfl rfl hl.1 rfl (lv_room (Nat.le_of_ble_eq_true rfl)) dX2_canHaveLength_54 ⟨Nat.zero_le _, Nat.zero_le _⟩) hP hD hS hA [1, 2, 3, 4, 5, 6] rfl (fun H locs hP hD hS => ?_)
        have hR : u5 = r := Option.some.inj hf
        subst hR
        exact W.zret (v := zb u5) hx hb hr0 (zb_nar u5) (fun t ht hW => ⟨⟨zb u5, (), rfl, rfl, by rw [ht]; exact hP, hD⟩, hS.F ht⟩) hS.2.2 dX2_canHaveLength_57
      · have hf := oe hf c4
        refine lv_aload_n hx hb dX2_canHaveLength_26 rfl (lv_at hl 0 rfl) ?_
        refine va_get (D := g.1) (ci := 2) (v := .ref (a 1)) (C := RX2) (T := TX2) (N := 11) hx hb hw0 ziX2 hown hK.1 hP 0 rfl rfl 0 (by decide) (hw0 _ zm1_141) (fun _ h9 => h9) rfl dX2_canHaveLength_27 ?_
        refine lv_iload_n hx hb dX2_canHaveLength_30 rfl (lv_at hl 1 rfl) ?_
        obtain ⟨u6, hu6, hf⟩ := ob hf
        refine zk_iR (va_runVN (As := [.int p0]) (rest := []) ⟨hx, hb, hml, hown, hts⟩ (c_X0_begunAt l g (fun k => a (k + 1)) v.1 p0 _ hu6 _) (zcN hw0 (zn_15 hK) zm2_173 zm1_3 zm2_172 zs1_12 hd_X0_begunAt rfl rfl ⟨Nat.le_of_ble_eq_true rfl, Nat.le_of_ble_eq_true rfl⟩) ⟨zblind, zrecv (wc := zX0 g (fun k => a (k + 1)) v.1) hK hP [1, 2, 3, 4, 5, 6] rfl (ci := 0) rfl rfl, zpre hK hP hD [1, 2, 3, 4, 5, 6] rfl rfl⟩ rfl rfl hl.1 rfl (lv_room (Nat.le_of_ble_eq_true rfl)) dX2_canHaveLength_31 ⟨Nat.zero_le _, Nat.zero_le _⟩) hP hD hS hA [1, 2, 3, 4, 5, 6] rfl (fun H locs hP hD hS => ?_)
        refine lv_iload_n hx hb dX2_canHaveLength_34 rfl (lv_at hl 2 rfl) ?_
        refine lv_iadd hx hb dX2_canHaveLength_35 ?_
        refine lv_aload_n hx hb dX2_canHaveLength_36 rfl (lv_at hl 0 rfl) ?_
        refine va_get (D := g.1) (ci := 2) (v := .int v.2.2.2.1) (C := RX2) (T := TX2) (N := 11) hx hb hw0 ziX2 hown hK.1 hP 0 rfl rfl 3 (by decide) (hw0 _ zm1_147) (fun _ h9 => h9) rfl dX2_canHaveLength_37 ?_
        refine lv_icmp_lt (tgt := 47) hx hb dX2_canHaveLength_40 (by decide) (fun c7 => ?_) (fun c7 => ?_)
        · have hf := oi hf c7
          refine lv_iconst (v := 0) hx hb dX2_canHaveLength_47 (by decide) ?_
          have hR : false = r := Option.some.inj hf
          subst hR
          exact W.zret (v := zb false) hx hb hr0 (zb_nar false) (fun t ht hW => ⟨⟨zb false, (), rfl, rfl, by rw [ht]; exact hP, hD⟩, hS.F ht⟩) hS.2.2 dX2_canHaveLength_48
        · have hf := oe hf c7
          refine lv_iconst (v := 1) hx hb dX2_canHaveLength_43 (by decide) ?_
          refine lv_goto (tgt := 48) hx hb dX2_canHaveLength_44 (by decide) ?_
          have hR : true = r := Option.some.inj hf
          subst hR
          exact W.zret (v := zb true) hx hb hr0 (zb_nar true) (fun t ht hW => ⟨⟨zb true, (), rfl, rfl, by rw [ht]; exact hP, hD⟩, hS.F ht⟩) hS.2.2 dX2_canHaveLength_48
    · have hf := oe hf c2
      refine lv_iconst (v := 0) hx hb dX2_canHaveLength_12 (by decide) ?_
      have hR : false = r := Option.some.inj hf
      subst hR
      exact W.zret (v := zb false) hx hb hr0 (zb_nar false) (fun t ht hW => ⟨⟨zb false, (), rfl, rfl, by rw [ht]; exact hP, hD⟩, hS.F ht⟩) hS.2.2 dX2_canHaveLength_13
theorem hd_X2_giveLength : yX2_giveLength.cls ≠ "java/lang/invoke/MethodHandle" ∧ yX2_giveLength.cls ≠ "java/lang/invoke/VarHandle" ∧ (parseMethodDescriptor yX2_giveLength.desc).map (fun d => d.parameters.length) = some 2 := by decide +kernel
def f_X2_giveLength (v : HV) (p0 : Int32) (p1 : Int32) : Option (HV) :=
  (f_X0_has v.1 p0).bind (fun u1 =>
  if (zb u1) = 0 then
    some v
  else
    if zin p0 12 = true then
    (f_X0_is (v.1.1, (upd v.1.2.1 p0.toNatClampNeg p1), v.1.2.2.1, v.1.2.2.2.1, v.1.2.2.2.2.1, v.1.2.2.2.2.2) p0 1).bind (fun u4 =>
    if (zb u4) = 0 then
      some ((v.1.1, (upd v.1.2.1 p0.toNatClampNeg p1), v.1.2.2.1, v.1.2.2.2.1, v.1.2.2.2.2.1, v.1.2.2.2.2.2), v.2.1, v.2.2.1, v.2.2.2.1, v.2.2.2.2.1, v.2.2.2.2.2.1, v.2.2.2.2.2.2.1, v.2.2.2.2.2.2.2.1, v.2.2.2.2.2.2.2.2.1, v.2.2.2.2.2.2.2.2.2.1, v.2.2.2.2.2.2.2.2.2.2)
    else
      (f_X0_begunAt (v.1.1, (upd v.1.2.1 p0.toNatClampNeg p1), v.1.2.2.1, v.1.2.2.2.1, v.1.2.2.2.2.1, v.1.2.2.2.2.2) p0).bind (fun u6 =>
      if v.2.2.2.1 < (u6 + p1) then
        some ((v.1.1, (upd v.1.2.1 p0.toNatClampNeg p1), v.1.2.2.1, v.1.2.2.2.1, v.1.2.2.2.2.1, v.1.2.2.2.2.2), v.2.1, v.2.2.1, v.2.2.2.1, v.2.2.2.2.1, v.2.2.2.2.2.1, v.2.2.2.2.2.2.1, v.2.2.2.2.2.2.2.1, v.2.2.2.2.2.2.2.2.1, v.2.2.2.2.2.2.2.2.2.1, (u6 + p1))
      else
        (f_X2_endAir ((v.1.1, (upd v.1.2.1 p0.toNatClampNeg p1), v.1.2.2.1, v.1.2.2.2.1, v.1.2.2.2.2.1, v.1.2.2.2.2.2), v.2.1, v.2.2.1, v.2.2.2.1, v.2.2.2.2.1, v.2.2.2.2.2.1, v.2.2.2.2.2.2.1, v.2.2.2.2.2.2.2.1, v.2.2.2.2.2.2.2.2.1, v.2.2.2.2.2.2.2.2.2.1, (u6 + p1))).bind (fun u8 =>
        some u8)))
    else none)
set_option maxHeartbeats 4000000 in
set_option maxRecDepth 100000 in
theorem c_X2_giveLength (l : Launch) (g : zG) (a : Nat → Nat) (v : HV) (p0 : Int32) (p1 : Int32) (r : HV) (hf : f_X2_giveLength v p0 p1 = some r) : zMv zNF zNM l yX2_giveLength (zw yX2_giveLength cX2_giveLength 3 none) ({ frames := 2, cells := 0, slots := 0, locals := 43 } : Room) g [.ref (a 0), .int p0, .int p1] (zX2 g a v) (zX2 g a r) := by
  intro sz
  refine Met.ofW (cc := cX2_giveLength) (maxL := 3) (ret := none) (by decide) rfl ?_
  intro p e s m args below meth c s₁ B hml hv
  obtain ⟨rfl, hsz, hP, hK, hD0⟩ := hv
  have hx := B.exec
  have hb := B.bytes
  have hr0 := B.returns
  have hts := atoms_spec (ws := (zw yX2_giveLength cX2_giveLength 3 none)) B.pre
  have hw0 : ∀ w ∈ zW, w.before ([.ref (a 0), .int p0, .int p1] : List Value).toArray s = true := fun w h => hts w (List.mem_cons_of_mem _ h)
  have hown : s.vm.findClass RX2 = some m.cls := findClass_of_methodNamed B.named
  have hlocks := B.notSynchronized
  subst hsz
  have hD := hD0.self (sz := s.heap.size)
  generalize hAe : va_A (zX2 g a v) s.heap.size = A at hD ⊢
  have hA : ∀ q : Nat, s.heap.size ≤ q → A q := fun q h => by rw [← hAe]; exact Or.inr h
  have hS : va_S A s.heap s.heap [] := va_S.rf
  unfold f_X2_giveLength at hf
  have hl := lv_entry ([.ref (a 0), .int p0, .int p1]) (n := 3) (Nat.le_of_ble_eq_true rfl)
  rw [lg_entry_eq]
  generalize (lg_sl ([.ref (a 0), .int p0, .int p1]) ++ List.replicate (3 - (lg_sl ([.ref (a 0), .int p0, .int p1])).length) Slot.unset).toArray = ls at hl ⊢
  have hl : lv_has ls 3 [(0, .ref (a 0)), (1, .int p0), (2, .int p1)] := hl
  refine lv_aload_n hx hb dX2_giveLength_0 rfl (lv_at hl 0 rfl) ?_
  refine va_get (D := g.1) (ci := 2) (v := .ref (a 1)) (C := RX2) (T := TX2) (N := 11) hx hb hw0 ziX2 hown hK.1 hP 0 rfl rfl 0 (by decide) (hw0 _ zm1_141) (fun _ h9 => h9) rfl dX2_giveLength_1 ?_
  refine lv_iload_n hx hb dX2_giveLength_4 rfl (lv_at hl 1 rfl) ?_
  obtain ⟨u1, hu1, hf⟩ := ob hf
  refine zk_iR (va_runVN (As := [.int p0]) (rest := []) ⟨hx, hb, hml, hown, hts⟩ (c_X0_has l g (fun k => a (k + 1)) v.1 p0 _ hu1 _) (zcN hw0 (zn_18 hK) zm2_143 zm1_3 zm2_142 zs1_9 hd_X0_has rfl rfl ⟨Nat.le_of_ble_eq_true rfl, Nat.le_of_ble_eq_true rfl⟩) ⟨zblind, zrecv (wc := zX0 g (fun k => a (k + 1)) v.1) hK hP [1, 2, 3, 4, 5, 6] rfl (ci := 0) rfl rfl, zpre hK hP hD [1, 2, 3, 4, 5, 6] rfl rfl⟩ rfl rfl hl.1 rfl (lv_room (Nat.le_of_ble_eq_true rfl)) dX2_giveLength_5 ⟨Nat.zero_le _, Nat.zero_le _⟩) hP hD hS hA [1, 2, 3, 4, 5, 6] rfl (fun H locs hP hD hS => ?_)
  refine lv_if_ne (tgt := 12) hx hb dX2_giveLength_8 (by decide) (fun c2 => ?_) (fun c2 => ?_)
  · have hf := oe hf c2
    refine lv_aload_n hx hb dX2_giveLength_12 rfl (lv_at hl 0 rfl) ?_
    refine va_get (D := g.1) (ci := 2) (v := .ref (a 1)) (C := RX2) (T := TX2) (N := 11) hx hb hw0 ziX2 hown hK.1 hP 0 rfl rfl 0 (by decide) (hw0 _ zm1_141) (fun _ h9 => h9) rfl dX2_giveLength_13 ?_
    refine va_getN (D := g.1) (ci := 0) (v := .ref (a 2)) (C := RX0) (T := TX0) (N := 6) hx hb hw0 ziX0 hown hK.1 hP 1 rfl rfl 1 (by decide) (va_Nw.use rfl (zf_3 hK)) (fun _ h9 => h9) rfl dX2_giveLength_16 ?_
    refine lv_iload_n hx hb dX2_giveLength_19 rfl (lv_at hl 1 rfl) ?_
    refine lv_iload_n hx hb dX2_giveLength_20 rfl (lv_at hl 2 rfl) ?_
    obtain ⟨h3, hf⟩ := og hf
    refine zast (D := g.1) (f := v.1.2.1) (k := p0.toNatClampNeg) (x := p1) hx hb hK.1 hP hD hS 2 0 rfl rfl (zin_vp h3) rfl dX2_giveLength_21 (fun H locs hP hD hS => ?_)
    have hP : va_P g.1 vwCl (zX2 g a ((v.1.1, (upd v.1.2.1 p0.toNatClampNeg p1), v.1.2.2.1, v.1.2.2.2.1, v.1.2.2.2.2.1, v.1.2.2.2.2.2), v.2.1, v.2.2.1, v.2.2.2.1, v.2.2.2.2.1, v.2.2.2.2.2.1, v.2.2.2.2.2.2.1, v.2.2.2.2.2.2.2.1, v.2.2.2.2.2.2.2.2.1, v.2.2.2.2.2.2.2.2.2.1, v.2.2.2.2.2.2.2.2.2.2)) H := hP
    have hD : va_D A (zX2 g a ((v.1.1, (upd v.1.2.1 p0.toNatClampNeg p1), v.1.2.2.1, v.1.2.2.2.1, v.1.2.2.2.2.1, v.1.2.2.2.2.2), v.2.1, v.2.2.1, v.2.2.2.1, v.2.2.2.2.1, v.2.2.2.2.2.1, v.2.2.2.2.2.2.1, v.2.2.2.2.2.2.2.1, v.2.2.2.2.2.2.2.2.1, v.2.2.2.2.2.2.2.2.2.1, v.2.2.2.2.2.2.2.2.2.2)) := hD
    refine lv_aload_n hx hb dX2_giveLength_22 rfl (lv_at hl 0 rfl) ?_
    refine va_get (D := g.1) (ci := 2) (v := .ref (a 1)) (C := RX2) (T := TX2) (N := 11) hx hb hw0 ziX2 hown hK.1 hP 0 rfl rfl 0 (by decide) (hw0 _ zm1_141) (fun _ h9 => h9) rfl dX2_giveLength_23 ?_
    refine lv_iload_n hx hb dX2_giveLength_26 rfl (lv_at hl 1 rfl) ?_
    refine lv_iconst (v := 1) hx hb dX2_giveLength_27 (by decide) ?_
    obtain ⟨u4, hu4, hf⟩ := ob hf
    refine zk_iR (va_runVN (As := [.int p0, .int 1]) (rest := []) ⟨hx, hb, hml, hown, hts⟩ (c_X0_is l g (fun k => a (k + 1)) (v.1.1, (upd v.1.2.1 p0.toNatClampNeg p1), v.1.2.2.1, v.1.2.2.2.1, v.1.2.2.2.2.1, v.1.2.2.2.2.2) p0 1 _ hu4 _) (zcN hw0 (zn_14 hK) zm2_168 zm1_3 zm2_167 zs1_11 hd_X0_is rfl rfl ⟨Nat.le_of_ble_eq_true rfl, Nat.le_of_ble_eq_true rfl⟩) ⟨zblind, zrecv (wc := zX0 g (fun k => a (k + 1)) (v.1.1, (upd v.1.2.1 p0.toNatClampNeg p1), v.1.2.2.1, v.1.2.2.2.1, v.1.2.2.2.2.1, v.1.2.2.2.2.2)) hK hP [1, 2, 3, 4, 5, 6] rfl (ci := 0) rfl rfl, zpre hK hP hD [1, 2, 3, 4, 5, 6] rfl rfl⟩ rfl rfl hl.1 rfl (lv_room (Nat.le_of_ble_eq_true rfl)) dX2_giveLength_28 ⟨Nat.zero_le _, Nat.zero_le _⟩) hP hD hS hA [1, 2, 3, 4, 5, 6] rfl (fun H locs hP hD hS => ?_)
    refine lv_if_eq (tgt := 63) hx hb dX2_giveLength_31 (by decide) (fun c5 => ?_) (fun c5 => ?_)
    · have hf := oi hf c5
      have hR : ((v.1.1, (upd v.1.2.1 p0.toNatClampNeg p1), v.1.2.2.1, v.1.2.2.2.1, v.1.2.2.2.2.1, v.1.2.2.2.2.2), v.2.1, v.2.2.1, v.2.2.2.1, v.2.2.2.2.1, v.2.2.2.2.2.1, v.2.2.2.2.2.2.1, v.2.2.2.2.2.2.2.1, v.2.2.2.2.2.2.2.2.1, v.2.2.2.2.2.2.2.2.2.1, v.2.2.2.2.2.2.2.2.2.2) = r := Option.some.inj hf
      subst hR
      exact W.vret hx hb hr0 (fun t ht hW => ⟨⟨(), rfl, trivial, by rw [ht]; exact hP, hD⟩, hS.F ht⟩) hS.2.2 dX2_giveLength_63
    · have hf := oe hf c5
      refine lv_aload_n hx hb dX2_giveLength_34 rfl (lv_at hl 0 rfl) ?_
      refine lv_aload_n hx hb dX2_giveLength_35 rfl (lv_at hl 0 rfl) ?_
      refine va_get (D := g.1) (ci := 2) (v := .ref (a 1)) (C := RX2) (T := TX2) (N := 11) hx hb hw0 ziX2 hown hK.1 hP 0 rfl rfl 0 (by decide) (hw0 _ zm1_141) (fun _ h9 => h9) rfl dX2_giveLength_36 ?_
      refine lv_iload_n hx hb dX2_giveLength_39 rfl (lv_at hl 1 rfl) ?_
      obtain ⟨u6, hu6, hf⟩ := ob hf
      refine zk_iR (va_runVN (As := [.int p0]) (rest := [.ref (a 0)]) ⟨hx, hb, hml, hown, hts⟩ (c_X0_begunAt l g (fun k => a (k + 1)) (v.1.1, (upd v.1.2.1 p0.toNatClampNeg p1), v.1.2.2.1, v.1.2.2.2.1, v.1.2.2.2.2.1, v.1.2.2.2.2.2) p0 _ hu6 _) (zcN hw0 (zn_15 hK) zm2_173 zm1_3 zm2_172 zs1_12 hd_X0_begunAt rfl rfl ⟨Nat.le_of_ble_eq_true rfl, Nat.le_of_ble_eq_true rfl⟩) ⟨zblind, zrecv (wc := zX0 g (fun k => a (k + 1)) (v.1.1, (upd v.1.2.1 p0.toNatClampNeg p1), v.1.2.2.1, v.1.2.2.2.1, v.1.2.2.2.2.1, v.1.2.2.2.2.2)) hK hP [1, 2, 3, 4, 5, 6] rfl (ci := 0) rfl rfl, zpre hK hP hD [1, 2, 3, 4, 5, 6] rfl rfl⟩ rfl rfl hl.1 rfl (lv_room (Nat.le_of_ble_eq_true rfl)) dX2_giveLength_40 ⟨Nat.zero_le _, Nat.zero_le _⟩) hP hD hS hA [1, 2, 3, 4, 5, 6] rfl (fun H locs hP hD hS => ?_)
      refine lv_iload_n hx hb dX2_giveLength_43 rfl (lv_at hl 2 rfl) ?_
      refine lv_iadd hx hb dX2_giveLength_44 ?_
      refine va_put (D := g.1) (ci := 2) (v := .int (u6 + p1)) (ty := .int) (C := RX2) (T := TX2) (N := 11) hx hb hw0 ziX2 tyX2 tyX2_ok nmX2 hown hK.1 hP hD hS 0 rfl rfl 10 (by decide) (hw0 _ zm1_158) (fun _ h9 => h9) rfl (tyX2_ok 10 (by decide)) rfl rfl (Nat.le_of_ble_eq_true rfl) dX2_giveLength_45 (fun H locs hP hD hS => ?_)
      have hP : va_P g.1 vwCl (zX2 g a ((v.1.1, (upd v.1.2.1 p0.toNatClampNeg p1), v.1.2.2.1, v.1.2.2.2.1, v.1.2.2.2.2.1, v.1.2.2.2.2.2), v.2.1, v.2.2.1, v.2.2.2.1, v.2.2.2.2.1, v.2.2.2.2.2.1, v.2.2.2.2.2.2.1, v.2.2.2.2.2.2.2.1, v.2.2.2.2.2.2.2.2.1, v.2.2.2.2.2.2.2.2.2.1, (u6 + p1))) H := hP
      have hD : va_D A (zX2 g a ((v.1.1, (upd v.1.2.1 p0.toNatClampNeg p1), v.1.2.2.1, v.1.2.2.2.1, v.1.2.2.2.2.1, v.1.2.2.2.2.2), v.2.1, v.2.2.1, v.2.2.2.1, v.2.2.2.2.1, v.2.2.2.2.2.1, v.2.2.2.2.2.2.1, v.2.2.2.2.2.2.2.1, v.2.2.2.2.2.2.2.2.1, v.2.2.2.2.2.2.2.2.2.1, (u6 + p1))) := hD
      refine lv_aload_n hx hb dX2_giveLength_48 rfl (lv_at hl 0 rfl) ?_
      refine va_get (D := g.1) (ci := 2) (v := .int (u6 + p1)) (C := RX2) (T := TX2) (N := 11) hx hb hw0 ziX2 hown hK.1 hP 0 rfl rfl 10 (by decide) (hw0 _ zm1_158) (fun _ h9 => h9) rfl dX2_giveLength_49 ?_
      refine lv_aload_n hx hb dX2_giveLength_52 rfl (lv_at hl 0 rfl) ?_
      refine va_get (D := g.1) (ci := 2) (v := .int v.2.2.2.1) (C := RX2) (T := TX2) (N := 11) hx hb hw0 ziX2 hown hK.1 hP 0 rfl rfl 3 (by decide) (hw0 _ zm1_147) (fun _ h9 => h9) rfl dX2_giveLength_53 ?_
      refine lv_icmp_gt (tgt := 63) hx hb dX2_giveLength_56 (by decide) (fun c7 => ?_) (fun c7 => ?_)
      · have hf := oi hf c7
        have hR : ((v.1.1, (upd v.1.2.1 p0.toNatClampNeg p1), v.1.2.2.1, v.1.2.2.2.1, v.1.2.2.2.2.1, v.1.2.2.2.2.2), v.2.1, v.2.2.1, v.2.2.2.1, v.2.2.2.2.1, v.2.2.2.2.2.1, v.2.2.2.2.2.2.1, v.2.2.2.2.2.2.2.1, v.2.2.2.2.2.2.2.2.1, v.2.2.2.2.2.2.2.2.2.1, (u6 + p1)) = r := Option.some.inj hf
        subst hR
        exact W.vret hx hb hr0 (fun t ht hW => ⟨⟨(), rfl, trivial, by rw [ht]; exact hP, hD⟩, hS.F ht⟩) hS.2.2 dX2_giveLength_63
      · have hf := oe hf c7
        refine lv_aload_n hx hb dX2_giveLength_59 rfl (lv_at hl 0 rfl) ?_
        obtain ⟨u8, hu8, hf⟩ := ob hf
        refine zk_vA (va_runV (As := []) (rest := []) ⟨hx, hb, hml, hown, hts⟩ (c_X2_endAir l g a ((v.1.1, (upd v.1.2.1 p0.toNatClampNeg p1), v.1.2.2.1, v.1.2.2.2.1, v.1.2.2.2.2.1, v.1.2.2.2.2.2), v.2.1, v.2.2.1, v.2.2.2.1, v.2.2.2.2.1, v.2.2.2.2.2.1, v.2.2.2.2.2.2.1, v.2.2.2.2.2.2.2.1, v.2.2.2.2.2.2.2.2.1, v.2.2.2.2.2.2.2.2.2.1, (u6 + p1)) _ hu8 _) (zcV hw0 zm2_185 zm2_188 zm1_2 zm2_187 zs1_15 hd_X2_endAir rfl rfl ⟨Nat.le_of_ble_eq_true rfl, Nat.le_of_ble_eq_true rfl⟩) ⟨zblind, zrecvA hK hP (ci := 2) rfl rfl, zpreA hK hP hD⟩ rfl rfl hl.1 rfl (lv_room (Nat.le_of_ble_eq_true rfl)) dX2_giveLength_60 ⟨Nat.zero_le _, Nat.zero_le _⟩) hP hD hS hA (fun H locs hP hD hS => ?_)
        have hP : va_P g.1 vwCl (zX2 g a u8) H := hP
        have hD : va_D A (zX2 g a u8) := hD
        have hR : u8 = r := Option.some.inj hf
        subst hR
        exact W.vret hx hb hr0 (fun t ht hW => ⟨⟨(), rfl, trivial, by rw [ht]; exact hP, hD⟩, hS.F ht⟩) hS.2.2 dX2_giveLength_63
  · have hf := oi hf c2
    have hR : v = r := Option.some.inj hf
    subst hR
    exact W.vret hx hb hr0 (fun t ht hW => ⟨⟨(), rfl, trivial, by rw [ht]; exact hP, hD⟩, hS.F ht⟩) hS.2.2 dX2_giveLength_11
theorem hd_X2_tell : yX2_tell.cls ≠ "java/lang/invoke/MethodHandle" ∧ yX2_tell.cls ≠ "java/lang/invoke/VarHandle" ∧ (parseMethodDescriptor yX2_tell.desc).map (fun d => d.parameters.length) = some 1 := by decide +kernel
def f_X2_tell (v : HV) (p0 : Int32) : Option (Int32) :=
  if p0 = 0 then
    some v.1.1
  else
    if p0 = 1 then
      some v.2.1.1
    else
      if p0 = 2 then
        some v.2.2.2.1
      else
        if p0 = 3 then
          if (zb v.2.2.2.2.1) = 0 then
            some 0
          else
            some 1
        else
          if p0 = 4 then
            (f_X0_countThatAre v.1 0).bind (fun u2 =>
            some u2)
          else
            if p0 = 5 then
              (f_X0_countThatAre v.1 3).bind (fun u3 =>
              some u3)
            else
              if p0 = 6 then
                (f_X1_countThatWait v.2.1).bind (fun u4 =>
                some u4)
              else
                if p0 = 7 then
                  some v.2.2.2.2.2.1
                else
                  if p0 = 8 then
                    (f_X0_goal v.1).bind (fun u5 =>
                    some u5)
                  else
                    if p0 = 9 then
                      if (zb v.2.2.2.2.1) = 0 then
                        some (-1)
                      else
                        some (v.2.2.2.1 - 3600)
                    else
                      if p0 = 10 then
                        some v.2.2.2.2.2.2.1
                      else
                        if p0 = 11 then
                          some v.2.2.1.1
                        else
                          if p0 = 12 then
                            some v.2.2.2.2.2.2.2.1
                          else
                            if v.2.2.2.2.2.2.2.2.1 = (-1) then
                              some 0
                            else
                              some (v.2.2.2.2.2.2.2.2.2.2 - v.2.2.2.1)
set_option maxHeartbeats 4000000 in
set_option maxRecDepth 100000 in
theorem c_X2_tell (l : Launch) (g : zG) (a : Nat → Nat) (v : HV) (p0 : Int32) (r : Int32) (hf : f_X2_tell v p0 = some r) : zMi zNF zNM l yX2_tell (zw yX2_tell cX2_tell 2 (some .int)) ({ frames := 3, cells := 0, slots := 0, locals := 62 } : Room) g [.ref (a 0), .int p0] (zX2 g a v) r (zX2 g a v) := by
  intro sz
  refine Met.ofW (cc := cX2_tell) (maxL := 2) (ret := (some .int)) (by decide) rfl ?_
  intro p e s m args below meth c s₁ B hml hv
  obtain ⟨rfl, hsz, hP, hK, hD0⟩ := hv
  have hx := B.exec
  have hb := B.bytes
  have hr0 := B.returns
  have hts := atoms_spec (ws := (zw yX2_tell cX2_tell 2 (some .int))) B.pre
  have hw0 : ∀ w ∈ zW, w.before ([.ref (a 0), .int p0] : List Value).toArray s = true := fun w h => hts w (List.mem_cons_of_mem _ h)
  have hown : s.vm.findClass RX2 = some m.cls := findClass_of_methodNamed B.named
  have hlocks := B.notSynchronized
  subst hsz
  have hD := hD0.self (sz := s.heap.size)
  generalize hAe : va_A (zX2 g a v) s.heap.size = A at hD ⊢
  have hA : ∀ q : Nat, s.heap.size ≤ q → A q := fun q h => by rw [← hAe]; exact Or.inr h
  have hS : va_S A s.heap s.heap [] := va_S.rf
  unfold f_X2_tell at hf
  have hl := lv_entry ([.ref (a 0), .int p0]) (n := 2) (Nat.le_of_ble_eq_true rfl)
  rw [lg_entry_eq]
  generalize (lg_sl ([.ref (a 0), .int p0]) ++ List.replicate (2 - (lg_sl ([.ref (a 0), .int p0])).length) Slot.unset).toArray = ls at hl ⊢
  have hl : lv_has ls 2 [(0, .ref (a 0)), (1, .int p0)] := hl
  refine lv_iload_n hx hb dX2_tell_0 rfl (lv_at hl 1 rfl) ?_
  by_cases c8 : p0 = 0
  · have hf := oi hf c8
    refine lv_tableIn (tgt := 68) hx hb dX2_tell_1 (off := 67) (by rw [c8]; decide) (by rw [c8]; decide) (by first | (rw [c8]; done) | (rw [c8]; rfl)) (by decide) ?_
    refine lv_aload_n hx hb dX2_tell_68 rfl (lv_at hl 0 rfl) ?_
    refine va_get (D := g.1) (ci := 2) (v := .ref (a 1)) (C := RX2) (T := TX2) (N := 11) hx hb hw0 ziX2 hown hK.1 hP 0 rfl rfl 0 (by decide) (hw0 _ zm1_141) (fun _ h9 => h9) rfl dX2_tell_69 ?_
    refine va_getN (D := g.1) (ci := 0) (v := .int v.1.1) (C := RX0) (T := TX0) (N := 6) hx hb hw0 ziX0 hown hK.1 hP 1 rfl rfl 0 (by decide) (va_Nw.use rfl (zf_1 hK)) (fun _ h9 => h9) rfl dX2_tell_72 ?_
    have hR : v.1.1 = r := Option.some.inj hf
    subst hR
    exact W.iret (v := v.1.1) hx hb hr0 (fun t ht hW => ⟨⟨v.1.1, (), rfl, rfl, by rw [ht]; exact hP, hD⟩, hS.F ht⟩) hS.2.2 dX2_tell_75
  · have hf := oe hf c8
    by_cases c9 : p0 = 1
    · have hf := oi hf c9
      refine lv_tableIn (tgt := 76) hx hb dX2_tell_1 (off := 75) (by rw [c9]; decide) (by rw [c9]; decide) (by first | (rw [c9]; done) | (rw [c9]; rfl)) (by decide) ?_
      refine lv_aload_n hx hb dX2_tell_76 rfl (lv_at hl 0 rfl) ?_
      refine va_get (D := g.1) (ci := 2) (v := .ref (a 7)) (C := RX2) (T := TX2) (N := 11) hx hb hw0 ziX2 hown hK.1 hP 0 rfl rfl 1 (by decide) (hw0 _ zm1_143) (fun _ h9 => h9) rfl dX2_tell_77 ?_
      refine va_getN (D := g.1) (ci := 1) (v := .int v.2.1.1) (C := RX1) (T := TX1) (N := 5) hx hb hw0 ziX1 hown hK.1 hP 7 rfl rfl 0 (by decide) (va_Nw.use rfl (zf_11 hK)) (fun _ h9 => h9) rfl dX2_tell_80 ?_
      have hR : v.2.1.1 = r := Option.some.inj hf
      subst hR
      exact W.iret (v := v.2.1.1) hx hb hr0 (fun t ht hW => ⟨⟨v.2.1.1, (), rfl, rfl, by rw [ht]; exact hP, hD⟩, hS.F ht⟩) hS.2.2 dX2_tell_83
    · have hf := oe hf c9
      by_cases c10 : p0 = 2
      · have hf := oi hf c10
        refine lv_tableIn (tgt := 84) hx hb dX2_tell_1 (off := 83) (by rw [c10]; decide) (by rw [c10]; decide) (by first | (rw [c10]; done) | (rw [c10]; rfl)) (by decide) ?_
        refine lv_aload_n hx hb dX2_tell_84 rfl (lv_at hl 0 rfl) ?_
        refine va_get (D := g.1) (ci := 2) (v := .int v.2.2.2.1) (C := RX2) (T := TX2) (N := 11) hx hb hw0 ziX2 hown hK.1 hP 0 rfl rfl 3 (by decide) (hw0 _ zm1_147) (fun _ h9 => h9) rfl dX2_tell_85 ?_
        have hR : v.2.2.2.1 = r := Option.some.inj hf
        subst hR
        exact W.iret (v := v.2.2.2.1) hx hb hr0 (fun t ht hW => ⟨⟨v.2.2.2.1, (), rfl, rfl, by rw [ht]; exact hP, hD⟩, hS.F ht⟩) hS.2.2 dX2_tell_88
      · have hf := oe hf c10
        by_cases c11 : p0 = 3
        · have hf := oi hf c11
          refine lv_tableIn (tgt := 89) hx hb dX2_tell_1 (off := 88) (by rw [c11]; decide) (by rw [c11]; decide) (by first | (rw [c11]; done) | (rw [c11]; rfl)) (by decide) ?_
          refine lv_aload_n hx hb dX2_tell_89 rfl (lv_at hl 0 rfl) ?_
          refine va_get (D := g.1) (ci := 2) (v := .int (zb v.2.2.2.2.1)) (C := RX2) (T := TX2) (N := 11) hx hb hw0 ziX2 hown hK.1 hP 0 rfl rfl 4 (by decide) (hw0 _ zm1_149) (fun _ h9 => h9) rfl dX2_tell_90 ?_
          refine lv_if_eq (tgt := 100) hx hb dX2_tell_93 (by decide) (fun c1 => ?_) (fun c1 => ?_)
          · have hf := oi hf c1
            refine lv_iconst (v := 0) hx hb dX2_tell_100 (by decide) ?_
            have hR : 0 = r := Option.some.inj hf
            subst hR
            exact W.iret (v := 0) hx hb hr0 (fun t ht hW => ⟨⟨0, (), rfl, rfl, by rw [ht]; exact hP, hD⟩, hS.F ht⟩) hS.2.2 dX2_tell_101
          · have hf := oe hf c1
            refine lv_iconst (v := 1) hx hb dX2_tell_96 (by decide) ?_
            refine lv_goto (tgt := 101) hx hb dX2_tell_97 (by decide) ?_
            have hR : 1 = r := Option.some.inj hf
            subst hR
            exact W.iret (v := 1) hx hb hr0 (fun t ht hW => ⟨⟨1, (), rfl, rfl, by rw [ht]; exact hP, hD⟩, hS.F ht⟩) hS.2.2 dX2_tell_101
        · have hf := oe hf c11
          by_cases c12 : p0 = 4
          · have hf := oi hf c12
            refine lv_tableIn (tgt := 102) hx hb dX2_tell_1 (off := 101) (by rw [c12]; decide) (by rw [c12]; decide) (by first | (rw [c12]; done) | (rw [c12]; rfl)) (by decide) ?_
            refine lv_aload_n hx hb dX2_tell_102 rfl (lv_at hl 0 rfl) ?_
            refine va_get (D := g.1) (ci := 2) (v := .ref (a 1)) (C := RX2) (T := TX2) (N := 11) hx hb hw0 ziX2 hown hK.1 hP 0 rfl rfl 0 (by decide) (hw0 _ zm1_141) (fun _ h9 => h9) rfl dX2_tell_103 ?_
            refine lv_iconst (v := 0) hx hb dX2_tell_106 (by decide) ?_
            obtain ⟨u2, hu2, hf⟩ := ob hf
            refine zk_iR (va_runVN (As := [.int 0]) (rest := []) ⟨hx, hb, hml, hown, hts⟩ (c_X0_countThatAre l g (fun k => a (k + 1)) v.1 0 _ hu2 _) (zcN hw0 (zn_38 hK) zm2_221 zm1_3 zm2_220 zs2_4 hd_X0_countThatAre rfl rfl ⟨Nat.le_of_ble_eq_true rfl, Nat.le_of_ble_eq_true rfl⟩) ⟨zblind, zrecv (wc := zX0 g (fun k => a (k + 1)) v.1) hK hP [1, 2, 3, 4, 5, 6] rfl (ci := 0) rfl rfl, zpre hK hP hD [1, 2, 3, 4, 5, 6] rfl rfl⟩ rfl rfl hl.1 rfl (lv_room (Nat.le_of_ble_eq_true rfl)) dX2_tell_107 ⟨Nat.zero_le _, Nat.zero_le _⟩) hP hD hS hA [1, 2, 3, 4, 5, 6] rfl (fun H locs hP hD hS => ?_)
            have hR : u2 = r := Option.some.inj hf
            subst hR
            exact W.iret (v := u2) hx hb hr0 (fun t ht hW => ⟨⟨u2, (), rfl, rfl, by rw [ht]; exact hP, hD⟩, hS.F ht⟩) hS.2.2 dX2_tell_110
          · have hf := oe hf c12
            by_cases c13 : p0 = 5
            · have hf := oi hf c13
              refine lv_tableIn (tgt := 111) hx hb dX2_tell_1 (off := 110) (by rw [c13]; decide) (by rw [c13]; decide) (by first | (rw [c13]; done) | (rw [c13]; rfl)) (by decide) ?_
              refine lv_aload_n hx hb dX2_tell_111 rfl (lv_at hl 0 rfl) ?_
              refine va_get (D := g.1) (ci := 2) (v := .ref (a 1)) (C := RX2) (T := TX2) (N := 11) hx hb hw0 ziX2 hown hK.1 hP 0 rfl rfl 0 (by decide) (hw0 _ zm1_141) (fun _ h9 => h9) rfl dX2_tell_112 ?_
              refine lv_iconst (v := 3) hx hb dX2_tell_115 (by decide) ?_
              obtain ⟨u3, hu3, hf⟩ := ob hf
              refine zk_iR (va_runVN (As := [.int 3]) (rest := []) ⟨hx, hb, hml, hown, hts⟩ (c_X0_countThatAre l g (fun k => a (k + 1)) v.1 3 _ hu3 _) (zcN hw0 (zn_38 hK) zm2_221 zm1_3 zm2_220 zs2_4 hd_X0_countThatAre rfl rfl ⟨Nat.le_of_ble_eq_true rfl, Nat.le_of_ble_eq_true rfl⟩) ⟨zblind, zrecv (wc := zX0 g (fun k => a (k + 1)) v.1) hK hP [1, 2, 3, 4, 5, 6] rfl (ci := 0) rfl rfl, zpre hK hP hD [1, 2, 3, 4, 5, 6] rfl rfl⟩ rfl rfl hl.1 rfl (lv_room (Nat.le_of_ble_eq_true rfl)) dX2_tell_116 ⟨Nat.zero_le _, Nat.zero_le _⟩) hP hD hS hA [1, 2, 3, 4, 5, 6] rfl (fun H locs hP hD hS => ?_)
              have hR : u3 = r := Option.some.inj hf
              subst hR
              exact W.iret (v := u3) hx hb hr0 (fun t ht hW => ⟨⟨u3, (), rfl, rfl, by rw [ht]; exact hP, hD⟩, hS.F ht⟩) hS.2.2 dX2_tell_119
            · have hf := oe hf c13
              by_cases c14 : p0 = 6
              · have hf := oi hf c14
                refine lv_tableIn (tgt := 120) hx hb dX2_tell_1 (off := 119) (by rw [c14]; decide) (by rw [c14]; decide) (by first | (rw [c14]; done) | (rw [c14]; rfl)) (by decide) ?_
                refine lv_aload_n hx hb dX2_tell_120 rfl (lv_at hl 0 rfl) ?_
                refine va_get (D := g.1) (ci := 2) (v := .ref (a 7)) (C := RX2) (T := TX2) (N := 11) hx hb hw0 ziX2 hown hK.1 hP 0 rfl rfl 1 (by decide) (hw0 _ zm1_143) (fun _ h9 => h9) rfl dX2_tell_121 ?_
                obtain ⟨u4, hu4, hf⟩ := ob hf
                refine zk_iR (va_runVN (As := []) (rest := []) ⟨hx, hb, hml, hown, hts⟩ (c_X1_countThatWait l g (fun k => a (k + 7)) v.2.1 _ hu4 _) (zcN hw0 (zn_39 hK) zm3_152 zm1_4 zm3_151 zs3_12 hd_X1_countThatWait rfl rfl ⟨Nat.le_of_ble_eq_true rfl, Nat.le_of_ble_eq_true rfl⟩) ⟨zblind, zrecv (wc := zX1 g (fun k => a (k + 7)) v.2.1) hK hP [7, 8, 9, 10, 11, 12, 13] rfl (ci := 1) rfl rfl, zpre hK hP hD [7, 8, 9, 10, 11, 12, 13] rfl rfl⟩ rfl rfl hl.1 rfl (lv_room (Nat.le_of_ble_eq_true rfl)) dX2_tell_124 ⟨Nat.zero_le _, Nat.zero_le _⟩) hP hD hS hA [7, 8, 9, 10, 11, 12, 13] rfl (fun H locs hP hD hS => ?_)
                have hR : u4 = r := Option.some.inj hf
                subst hR
                exact W.iret (v := u4) hx hb hr0 (fun t ht hW => ⟨⟨u4, (), rfl, rfl, by rw [ht]; exact hP, hD⟩, hS.F ht⟩) hS.2.2 dX2_tell_127
              · have hf := oe hf c14
                by_cases c15 : p0 = 7
                · have hf := oi hf c15
                  refine lv_tableIn (tgt := 128) hx hb dX2_tell_1 (off := 127) (by rw [c15]; decide) (by rw [c15]; decide) (by first | (rw [c15]; done) | (rw [c15]; rfl)) (by decide) ?_
                  refine lv_aload_n hx hb dX2_tell_128 rfl (lv_at hl 0 rfl) ?_
                  refine va_get (D := g.1) (ci := 2) (v := .int v.2.2.2.2.2.1) (C := RX2) (T := TX2) (N := 11) hx hb hw0 ziX2 hown hK.1 hP 0 rfl rfl 5 (by decide) (hw0 _ zm1_151) (fun _ h9 => h9) rfl dX2_tell_129 ?_
                  have hR : v.2.2.2.2.2.1 = r := Option.some.inj hf
                  subst hR
                  exact W.iret (v := v.2.2.2.2.2.1) hx hb hr0 (fun t ht hW => ⟨⟨v.2.2.2.2.2.1, (), rfl, rfl, by rw [ht]; exact hP, hD⟩, hS.F ht⟩) hS.2.2 dX2_tell_132
                · have hf := oe hf c15
                  by_cases c16 : p0 = 8
                  · have hf := oi hf c16
                    refine lv_tableIn (tgt := 133) hx hb dX2_tell_1 (off := 132) (by rw [c16]; decide) (by rw [c16]; decide) (by first | (rw [c16]; done) | (rw [c16]; rfl)) (by decide) ?_
                    refine lv_aload_n hx hb dX2_tell_133 rfl (lv_at hl 0 rfl) ?_
                    refine va_get (D := g.1) (ci := 2) (v := .ref (a 1)) (C := RX2) (T := TX2) (N := 11) hx hb hw0 ziX2 hown hK.1 hP 0 rfl rfl 0 (by decide) (hw0 _ zm1_141) (fun _ h9 => h9) rfl dX2_tell_134 ?_
                    obtain ⟨u5, hu5, hf⟩ := ob hf
                    refine zk_iR (va_runVN (As := []) (rest := []) ⟨hx, hb, hml, hown, hts⟩ (c_X0_goal l g (fun k => a (k + 1)) v.1 _ hu5 _) (zcN hw0 (zn_30 hK) zm3_47 zm1_3 zm3_46 zs2_15 hd_X0_goal rfl rfl ⟨Nat.le_of_ble_eq_true rfl, Nat.le_of_ble_eq_true rfl⟩) ⟨zblind, zrecv (wc := zX0 g (fun k => a (k + 1)) v.1) hK hP [1, 2, 3, 4, 5, 6] rfl (ci := 0) rfl rfl, zpre hK hP hD [1, 2, 3, 4, 5, 6] rfl rfl⟩ rfl rfl hl.1 rfl (lv_room (Nat.le_of_ble_eq_true rfl)) dX2_tell_137 ⟨Nat.zero_le _, Nat.zero_le _⟩) hP hD hS hA [1, 2, 3, 4, 5, 6] rfl (fun H locs hP hD hS => ?_)
                    have hR : u5 = r := Option.some.inj hf
                    subst hR
                    exact W.iret (v := u5) hx hb hr0 (fun t ht hW => ⟨⟨u5, (), rfl, rfl, by rw [ht]; exact hP, hD⟩, hS.F ht⟩) hS.2.2 dX2_tell_140
                  · have hf := oe hf c16
                    by_cases c17 : p0 = 9
                    · have hf := oi hf c17
                      refine lv_tableIn (tgt := 141) hx hb dX2_tell_1 (off := 140) (by rw [c17]; decide) (by rw [c17]; decide) (by first | (rw [c17]; done) | (rw [c17]; rfl)) (by decide) ?_
                      refine lv_aload_n hx hb dX2_tell_141 rfl (lv_at hl 0 rfl) ?_
                      refine va_get (D := g.1) (ci := 2) (v := .int (zb v.2.2.2.2.1)) (C := RX2) (T := TX2) (N := 11) hx hb hw0 ziX2 hown hK.1 hP 0 rfl rfl 4 (by decide) (hw0 _ zm1_149) (fun _ h9 => h9) rfl dX2_tell_142 ?_
                      refine lv_if_eq (tgt := 159) hx hb dX2_tell_145 (by decide) (fun c6 => ?_) (fun c6 => ?_)
                      · have hf := oi hf c6
                        refine lv_iconst (v := (-1)) hx hb dX2_tell_159 (by decide) ?_
                        have hR : (-1) = r := Option.some.inj hf
                        subst hR
                        exact W.iret (v := (-1)) hx hb hr0 (fun t ht hW => ⟨⟨(-1), (), rfl, rfl, by rw [ht]; exact hP, hD⟩, hS.F ht⟩) hS.2.2 dX2_tell_160
                      · have hf := oe hf c6
                        refine lv_aload_n hx hb dX2_tell_148 rfl (lv_at hl 0 rfl) ?_
                        refine va_get (D := g.1) (ci := 2) (v := .int v.2.2.2.1) (C := RX2) (T := TX2) (N := 11) hx hb hw0 ziX2 hown hK.1 hP 0 rfl rfl 3 (by decide) (hw0 _ zm1_147) (fun _ h9 => h9) rfl dX2_tell_149 ?_
                        refine lv_sipush (v := 3600) hx hb dX2_tell_152 (by decide) ?_
                        refine lv_isub hx hb dX2_tell_155 ?_
                        refine lv_goto (tgt := 160) hx hb dX2_tell_156 (by decide) ?_
                        have hR : (v.2.2.2.1 - 3600) = r := Option.some.inj hf
                        subst hR
                        exact W.iret (v := (v.2.2.2.1 - 3600)) hx hb hr0 (fun t ht hW => ⟨⟨(v.2.2.2.1 - 3600), (), rfl, rfl, by rw [ht]; exact hP, hD⟩, hS.F ht⟩) hS.2.2 dX2_tell_160
                    · have hf := oe hf c17
                      by_cases c18 : p0 = 10
                      · have hf := oi hf c18
                        refine lv_tableIn (tgt := 161) hx hb dX2_tell_1 (off := 160) (by rw [c18]; decide) (by rw [c18]; decide) (by first | (rw [c18]; done) | (rw [c18]; rfl)) (by decide) ?_
                        refine lv_aload_n hx hb dX2_tell_161 rfl (lv_at hl 0 rfl) ?_
                        refine va_get (D := g.1) (ci := 2) (v := .int v.2.2.2.2.2.2.1) (C := RX2) (T := TX2) (N := 11) hx hb hw0 ziX2 hown hK.1 hP 0 rfl rfl 6 (by decide) (hw0 _ zm1_153) (fun _ h9 => h9) rfl dX2_tell_162 ?_
                        have hR : v.2.2.2.2.2.2.1 = r := Option.some.inj hf
                        subst hR
                        exact W.iret (v := v.2.2.2.2.2.2.1) hx hb hr0 (fun t ht hW => ⟨⟨v.2.2.2.2.2.2.1, (), rfl, rfl, by rw [ht]; exact hP, hD⟩, hS.F ht⟩) hS.2.2 dX2_tell_165
                      · have hf := oe hf c18
                        by_cases c19 : p0 = 11
                        · have hf := oi hf c19
                          refine lv_tableIn (tgt := 166) hx hb dX2_tell_1 (off := 165) (by rw [c19]; decide) (by rw [c19]; decide) (by first | (rw [c19]; done) | (rw [c19]; rfl)) (by decide) ?_
                          refine lv_aload_n hx hb dX2_tell_166 rfl (lv_at hl 0 rfl) ?_
                          refine va_get (D := g.1) (ci := 2) (v := .ref (a 14)) (C := RX2) (T := TX2) (N := 11) hx hb hw0 ziX2 hown hK.1 hP 0 rfl rfl 2 (by decide) (hw0 _ zm1_145) (fun _ h9 => h9) rfl dX2_tell_167 ?_
                          refine va_getN (D := g.1) (ci := 3) (v := .int v.2.2.1.1) (C := RX3) (T := TX3) (N := 4) hx hb hw0 ziX3 hown hK.1 hP 14 rfl rfl 0 (by decide) (va_Nw.use rfl (zf_17 hK)) (fun _ h9 => h9) rfl dX2_tell_170 ?_
                          have hR : v.2.2.1.1 = r := Option.some.inj hf
                          subst hR
                          exact W.iret (v := v.2.2.1.1) hx hb hr0 (fun t ht hW => ⟨⟨v.2.2.1.1, (), rfl, rfl, by rw [ht]; exact hP, hD⟩, hS.F ht⟩) hS.2.2 dX2_tell_173
                        · have hf := oe hf c19
                          by_cases c20 : p0 = 12
                          · have hf := oi hf c20
                            refine lv_tableIn (tgt := 174) hx hb dX2_tell_1 (off := 173) (by rw [c20]; decide) (by rw [c20]; decide) (by first | (rw [c20]; done) | (rw [c20]; rfl)) (by decide) ?_
                            refine lv_aload_n hx hb dX2_tell_174 rfl (lv_at hl 0 rfl) ?_
                            refine va_get (D := g.1) (ci := 2) (v := .int v.2.2.2.2.2.2.2.1) (C := RX2) (T := TX2) (N := 11) hx hb hw0 ziX2 hown hK.1 hP 0 rfl rfl 7 (by decide) (hw0 _ zm1_154) (fun _ h9 => h9) rfl dX2_tell_175 ?_
                            have hR : v.2.2.2.2.2.2.2.1 = r := Option.some.inj hf
                            subst hR
                            exact W.iret (v := v.2.2.2.2.2.2.2.1) hx hb hr0 (fun t ht hW => ⟨⟨v.2.2.2.2.2.2.2.1, (), rfl, rfl, by rw [ht]; exact hP, hD⟩, hS.F ht⟩) hS.2.2 dX2_tell_178
                          · have hf := oe hf c20
                            refine lv_tableOut (tgt := 179) hx hb dX2_tell_1 (zsw 12 (by decide) (fun k hk => by rcases (show k = 0 ∨ k = 1 ∨ k = 2 ∨ k = 3 ∨ k = 4 ∨ k = 5 ∨ k = 6 ∨ k = 7 ∨ k = 8 ∨ k = 9 ∨ k = 10 ∨ k = 11 ∨ k = 12 by omega) with rfl | rfl | rfl | rfl | rfl | rfl | rfl | rfl | rfl | rfl | rfl | rfl | rfl <;> assumption)) (by decide) ?_
                            refine lv_aload_n hx hb dX2_tell_179 rfl (lv_at hl 0 rfl) ?_
                            refine va_get (D := g.1) (ci := 2) (v := .int v.2.2.2.2.2.2.2.2.1) (C := RX2) (T := TX2) (N := 11) hx hb hw0 ziX2 hown hK.1 hP 0 rfl rfl 8 (by decide) (hw0 _ zm1_156) (fun _ h9 => h9) rfl dX2_tell_180 ?_
                            refine lv_iconst (v := (-1)) hx hb dX2_tell_183 (by decide) ?_
                            refine lv_icmp_ne (tgt := 191) hx hb dX2_tell_184 (by decide) (fun c7 => ?_) (fun c7 => ?_)
                            · have hf := oe hf c7
                              refine lv_aload_n hx hb dX2_tell_191 rfl (lv_at hl 0 rfl) ?_
                              refine va_get (D := g.1) (ci := 2) (v := .int v.2.2.2.2.2.2.2.2.2.2) (C := RX2) (T := TX2) (N := 11) hx hb hw0 ziX2 hown hK.1 hP 0 rfl rfl 10 (by decide) (hw0 _ zm1_158) (fun _ h9 => h9) rfl dX2_tell_192 ?_
                              refine lv_aload_n hx hb dX2_tell_195 rfl (lv_at hl 0 rfl) ?_
                              refine va_get (D := g.1) (ci := 2) (v := .int v.2.2.2.1) (C := RX2) (T := TX2) (N := 11) hx hb hw0 ziX2 hown hK.1 hP 0 rfl rfl 3 (by decide) (hw0 _ zm1_147) (fun _ h9 => h9) rfl dX2_tell_196 ?_
                              refine lv_isub hx hb dX2_tell_199 ?_
                              have hR : (v.2.2.2.2.2.2.2.2.2.2 - v.2.2.2.1) = r := Option.some.inj hf
                              subst hR
                              exact W.iret (v := (v.2.2.2.2.2.2.2.2.2.2 - v.2.2.2.1)) hx hb hr0 (fun t ht hW => ⟨⟨(v.2.2.2.2.2.2.2.2.2.2 - v.2.2.2.1), (), rfl, rfl, by rw [ht]; exact hP, hD⟩, hS.F ht⟩) hS.2.2 dX2_tell_200
                            · have hf := oi hf c7
                              refine lv_iconst (v := 0) hx hb dX2_tell_187 (by decide) ?_
                              refine lv_goto (tgt := 200) hx hb dX2_tell_188 (by decide) ?_
                              have hR : 0 = r := Option.some.inj hf
                              subst hR
                              exact W.iret (v := 0) hx hb hr0 (fun t ht hW => ⟨⟨0, (), rfl, rfl, by rw [ht]; exact hP, hD⟩, hS.F ht⟩) hS.2.2 dX2_tell_200
