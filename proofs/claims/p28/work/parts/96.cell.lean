/-! cell: a word of the script, or a number; the law's calls of acts and isSo. -/
theorem hd_L_cell : yL_cell.cls ≠ "java/lang/invoke/MethodHandle" ∧ yL_cell.cls ≠ "java/lang/invoke/VarHandle" ∧ (parseMethodDescriptor yL_cell.desc).map (fun d => d.parameters.length) = some 2 := by decide +kernel
def zPreC (b L : Nat) (xs : FF) (sz : Nat) : State → Prop := fun U => U.heap.size = sz ∧ va_X b L xs U U.heap ∧ b < sz
theorem zblindCell {As : List Value} {b L : Nat} {xs : FF} {sz : Nat} : FrameBlind (va_Pc As (zPreC b L xs sz)) := fun a U fr mk q => by
  obtain ⟨q0, q1, q2, q3⟩ := q
  exact ⟨q0, q1, va_X.moved (u := U) (U := U.calling fr mk a) (Vm.Alike.refl U.vm) q2, q3⟩
section ZE
variable {p : Program} {l : Launch} {e : Env} {R : Room} {s : State} {m : MethodId} {args : Array Value} {below : List Frame} {meth : Method} {c : Code} {H : Heap} {locs : List Loc} {cells slots mc ms : Nat} {Q : State → Prop}
variable {pc : Nat} {ls : Array Slot} {rest st0 : List Value} {a : Array Value} {A0 : Nat → Prop} {H0 : Heap} {g : zG} {ws : va_W} {b L : Nat} {xs : FF}
theorem zpreCell {As : List Value} (hX : va_X b L xs s s.heap) (hbl : b < s.heap.size) (hbA : ¬ A0 b) (hS : va_S A0 s.heap H locs) : ∀ U : State, U.heap = H → s.WarmedH U.vm → va_Pc As (zPreC b L xs H.size) As.toArray U := fun U hU hW =>
  ⟨rfl, by rw [hU], va_X.moved hW.alike (hX.kept (by rw [hU]; exact hS.2.1 b hbl hbA)), Nat.lt_of_lt_of_le hbl hS.1⟩
theorem zk_cell (hr : va_Run p l e R s m args below meth c H locs cells slots 0 0 (F0 m pc ls st0) rest (va_Qi (fun (_ : Int32) (_ : Unit) => True) (fun _ _ => True) (fun q => H.size ≤ q) a) (fun q => H.size ≤ q)) (hP : va_P g.1 vwCl ws H) (hD : va_D A0 ws) (hS : va_S A0 H0 H locs) (hA : ∀ q, H0.size ≤ q → A0 q)
    (kk : ∀ (z : Int32) (H1 : Heap) (locs1 : List Loc), va_P g.1 vwCl ws H1 → va_D A0 ws → va_S A0 H0 H1 locs1 → W p l e R s m args below meth c H1 locs1 cells slots Q (F0 m (pc + 3) ls (.int z :: rest))) : W p l e R s m args below meth c H locs cells slots Q (F0 m pc ls st0) := by
  refine va_calli hr hS (fun q h1 h2 => absurd h2 (Nat.not_le.mpr h1)) (fun q h => hA q (Nat.le_trans hS.1 h)) (fun z u t H1 locs1 ht hvm hp hB hz hk hS' => ?_)
  exact kk z H1 locs1 (fun k q hq => (hP k q hq).kept (hk q.1 (hP k q hq).lt (Nat.not_le.mpr (hP k q hq).lt))) hD hS'
theorem zcSB {own : String} {index maxL n mc ms : Nat} {y : MethodName} {bytes : ByteArray} {ret : Option FieldType} {rm : Room} (hw : ∀ w ∈ zW, w.before args s = true) (hl : Cond.methodLink own index y ∈ zW) (hc : Cond.code y bytes maxL ret ∈ zW) (hi : Cond.initialized y.cls ∈ zW) (hin : Cond.static y ∈ zW) (hd : y.cls ≠ "java/lang/invoke/MethodHandle" ∧ y.cls ≠ "java/lang/invoke/VarHandle" ∧ (parseMethodDescriptor y.desc).map (fun d => d.parameters.length) = some n) (hrc : rm.cells = mc) (hrs : rm.slots = ms) (hR : rm.frames + 1 ≤ R.frames ∧ 8 + (maxL + 11) + rm.locals ≤ R.locals) : CallB R s args own index y bytes maxL ret (zw y bytes maxL ret) rm mc ms n ∧ (Cond.static y).before args s = true := by
  refine ⟨⟨hrc, hrs, hR.1, hR.2, zw_pay hw hc, List.mem_cons_self, hw _ hc, hw _ hi, ⟨hd.1, hd.2.1⟩, fun sig h => ?_, hw _ hl⟩, hw _ hin⟩
  have h2 := hd.2.2
  rw [h] at h2
  exact (Option.some.inj h2).symm
end ZE
set_option maxHeartbeats 4000000 in
set_option maxRecDepth 100000 in
theorem c_L_cell (l : Launch) (b L : Nat) (xs : FF) (k : Nat) (hk : k ≤ 1000) (hL : L ≤ 260) (sz : Nat) : Met l yL_cell (zw yL_cell cL_cell 2 (some .int)) ({ frames := 0, cells := 0, slots := 0, locals := 0 } : Room) (va_Pc [.ref b, .int (nI k)] (zPreC b L xs sz)) (va_Qi (fun (_ : Int32) (_ : Unit) => True) (fun _ _ => True) (fun q => sz ≤ q)) 0 0 (fun q => sz ≤ q) := by
  refine Met.ofW (cc := cL_cell) (maxL := 2) (ret := (some .int)) (by decide) rfl ?_
  intro p e s m args below meth c s₁ B hml hv
  obtain ⟨rfl, hsz, hX, hbl⟩ := hv
  have hx := B.exec
  have hb := B.bytes
  have hr0 := B.returns
  have hts := atoms_spec (ws := (zw yL_cell cL_cell 2 (some .int))) B.pre
  have hw0 : ∀ w ∈ zW, w.before ([.ref b, .int (nI k)] : List Value).toArray s = true := fun w h => hts w (List.mem_cons_of_mem _ h)
  have hown : s.vm.findClass RL = some m.cls := findClass_of_methodNamed B.named
  have hlocks := B.notSynchronized
  subst hsz
  obtain ⟨A, hAe⟩ : ∃ A : Nat → Prop, A = (fun q => s.heap.size ≤ q) := ⟨_, rfl⟩
  rw [← hAe]
  have hbA : ¬ A b := fun h9 => by rw [hAe] at h9; exact absurd h9 (Nat.not_le.mpr hbl)
  have hS : va_S A s.heap s.heap [] := va_S.rf
  have hl := lv_entry ([.ref b, .int (nI k)]) (n := 2) (Nat.le_of_ble_eq_true rfl)
  rw [lg_entry_eq]
  generalize (lg_sl ([.ref b, .int (nI k)]) ++ List.replicate (2 - (lg_sl ([.ref b, .int (nI k)])).length) Slot.unset).toArray = ls at hl ⊢
  have hl : lv_has ls 2 [(0, .ref b), (1, .int (nI k))] := hl
  refine lv_iload_n hx hb dL_cell_0 rfl (lv_at hl 1 rfl) ?_
  refine lv_aload_n hx hb dL_cell_1 rfl (lv_at hl 0 rfl) ?_
  refine va_slen hx hb hX hbl hbA hS dL_cell_2 ?_
  refine lv_icmp_ge (tgt := 12) hx hb dL_cell_3 (by decide) (fun c9 => ?_) (fun c9 => ?_)
  · refine lv_ldc (v := 40503) hx hb hown (hw0 _ zm1_221) dL_cell_12 ?_
    refine lv_iload_n hx hb dL_cell_14 rfl (lv_at hl 1 rfl) ?_
    refine lv_iconst (v := 3) hx hb dL_cell_15 (by decide) ?_
    refine lv_iadd hx hb dL_cell_16 ?_
    refine lv_imul hx hb dL_cell_17 ?_
    exact W.iret (v := _) hx hb hr0 (fun t ht hW => ⟨⟨_, (), rfl, trivial, trivial⟩, hS.F ht⟩) hS.2.2 dL_cell_18
  · have hlt : k < L := by
      have h : ¬ nI L ≤ nI k := c9
      rw [nI_leI (by omega) (by omega)] at h
      omega
    refine lv_aload_n hx hb dL_cell_6 rfl (lv_at hl 0 rfl) ?_
    refine lv_iload_n hx hb dL_cell_7 rfl (lv_at hl 1 rfl) ?_
    refine va_sld hx hb hX hbl hbA hS (vp_in_nI hlt (by omega)) dL_cell_8 ?_
    refine lv_goto (tgt := 18) hx hb dL_cell_9 (by decide) ?_
    exact W.iret (v := _) hx hb hr0 (fun t ht hW => ⟨⟨_, (), rfl, trivial, trivial⟩, hS.F ht⟩) hS.2.2 dL_cell_18
