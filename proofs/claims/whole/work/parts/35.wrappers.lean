/-! The law's wrappers: they return 0 with the answer in out, or which of the exceptions was caught. -/
def zNcL : List (String × String) := [("java/lang/IllegalArgumentException", "java/lang/IllegalStateException"), ("java/lang/IllegalArgumentException", "java/lang/IndexOutOfBoundsException"), ("java/lang/IllegalStateException", "java/lang/IllegalArgumentException"), ("java/lang/IllegalStateException", "java/lang/IndexOutOfBoundsException"), ("java/lang/IndexOutOfBoundsException", "java/lang/IllegalArgumentException"), ("java/lang/IndexOutOfBoundsException", "java/lang/IllegalStateException")]
def zPreL (nf : List zNFt) (nm : List zNMt) (g : zG) (w : va_W) (sz : Nat) : State → Prop := fun U => zPreX nf nm g w sz U ∧ ∀ q ∈ zNcL, va_Nc q.1 q.2 U
abbrev FJ := Nat → Int64
theorem zblindL {nf : List zNFt} {nm : List zNMt} {g : zG} {As : List Value} {w : va_W} {sz : Nat} : FrameBlind (va_Pc As (zPreL nf nm g w sz)) := fun a U fr mk q => by
  obtain ⟨q0, q1, q2⟩ := q
  exact ⟨q0, (zblindX (As := As) a U fr mk ⟨q0, q1⟩).2, fun x hx => va_Nc.moved (u := U) (U := U.calling fr mk a) (Vm.Alike.refl U.vm) (q2 x hx)⟩
section ZL
variable {nf : List zNFt} {nm : List zNMt}
variable {p : Program} {l : Launch} {e : Env} {R : Room} {s : State} {m : MethodId} {args : Array Value} {below : List Frame} {meth : Method} {c : Code} {H : Heap} {locs : List Loc} {cells slots : Nat} {Q : State → Prop}
variable {pc : Nat} {ls : Array Slot} {rest st0 : List Value} {a : Array Value} {A0 : Nat → Prop} {H0 : Heap} {g : zG} {ws wc x : va_W}
theorem zZs.go {A B : Nat → Prop} {s U : State} {locs : List Loc} (h : zZs A s) (hS : va_S A s.heap U.heap locs) (hW : s.WarmedH U.vm) (hBA : ∀ q, B q → A q) : zZs B U :=
  ⟨((h.1.kept (H1 := U.heap) hS.2.1).moved hW.alike).narrow hBA, ((h.2.kept (H1 := U.heap) hS.2.1).moved hW.alike).narrow hBA⟩
theorem zpreX {As : List Value} (hK : zK nf nm g s) (hKx : zKx s) (hZs : zZs A0 s) (hP : va_P g.1 vwCl (wc ++ x) H) (hD : va_D A0 (wc ++ x)) (hS : va_S A0 s.heap H locs) (hA : ∀ q, s.heap.size ≤ q → A0 q) : ∀ U : State, U.heap = H → s.WarmedH U.vm → va_Pc As (zPreX nf nm g wc H.size) As.toArray U := by
  intro U hU hW
  have h1 := zpre (As := As) hK hP hD (List.range wc.length) zrangeL (znd_range _) U hU hW
  refine ⟨rfl, h1.2, hKx.warm hW, hZs.go (by rw [hU]; exact hS) hW (va_free hD hS hA (List.range wc.length) zrangeL)⟩
theorem zrecvX (hK : zK nf nm g s) (hP : va_P g.1 vwCl (wc ++ x) H) {b ci : Nat} {fs : List Value} {q : vw_C} (hc : vwCl[ci]? = some q) (he : wc[0]? = some (b, .inr (ci, fs))) : ∃ cell : Cell, H[b]? = some cell ∧ cell.vm.isStatics = false ∧ s.vm.findClass q.1 = some cell.cls := zrecv hK hP (List.range wc.length) zrangeL hc he
theorem zputX {w1 : va_W} (h : w1.length = wc.length) : zput (wc ++ x) (List.range wc.length) w1 = w1 ++ x := by
  have := zput_run wc.length [] wc x w1 rfl h
  rw [List.nil_append, List.nil_append] at this
  rw [List.range_eq_range']
  exact this
theorem zk_x {ρ : Type} {r : Nat ⊕ ρ} {res : ρ → Int32} {w1 : ρ → va_W} (hr : vx_Run p l e R s m args below meth c H locs cells slots 1 6 (F0 m pc ls st0) rest (va_Qi (fun (x : Int32) (_ : Unit) => ∃ q, r = .inr q ∧ x = res q) (fun _ t => ∃ q, r = .inr q ∧ zEnd g (va_A wc H.size) (w1 q) t) (va_A wc H.size) a) (vx_X (fun (_ : Unit) => True) (fun E _ t => ∃ k, r = .inl k ∧ E = zexc k ∧ zEnd g (va_A wc H.size) wc t) (va_A wc H.size)) (va_A wc H.size)) (hP : va_P g.1 vwCl (wc ++ x) H) (hD : va_D A0 (wc ++ x)) (hS : va_S A0 H0 H locs) (hA : ∀ q, H0.size ≤ q → A0 q) (hs : ∀ q, (w1 q).map Prod.fst = wc.map Prod.fst)
    (kx : ∀ (k : Nat) (ce : Cell) (q9 : Addr) (H1 : Heap) (locs1 : List Loc), r = .inl k → va_P g.1 vwCl (wc ++ x) H1 → va_D A0 (wc ++ x) → va_S A0 H0 H1 locs1 → H1[q9]? = some ce → ce.vm = .none → s.vm.findClass (zexc k) = some ce.cls → vx_W p l e R s m args below meth c H1 locs1 (cells + 1) (slots + 6) Q (F0 m pc ls rest) q9)
    (kk : ∀ (q : ρ) (H1 : Heap) (locs1 : List Loc), r = .inr q → va_P g.1 vwCl (w1 q ++ x) H1 → va_D A0 (w1 q ++ x) → va_S A0 H0 H1 locs1 → W p l e R s m args below meth c H1 locs1 (cells + 1) (slots + 6) Q (F0 m (pc + 3) ls (.int (res q) :: rest))) : W p l e R s m args below meth c H locs cells slots Q (F0 m pc ls st0) := by
  have hF := va_free hD hS hA (List.range wc.length) (zrangeL (x := x))
  have hln : ∀ q, (w1 q).length = wc.length := fun q => by have := congrArg List.length (hs q); simpa using this
  refine vx_calli hr hS (fun q _ h => hF q h) hF (fun q _ h => hF q h) (fun E ce q9 u t H1 locs1 ht hvm hp hB hz hk hS' h1 h2 h3 => ?_) (fun y u t H1 locs1 ht hvm hp hB hz hk hS' => ?_)
  · obtain ⟨k, e1, e2, hP1, hD1⟩ := hB
    rw [ht] at hP1
    subst e2
    obtain ⟨g1, g2⟩ := zput_ok hP hD (List.range wc.length) zrangeL rfl hk hP1
    rw [zputX rfl] at g1 g2
    exact kx k ce q9 H1 locs1 e1 g1 g2 hS' h1 h2 h3
  · obtain ⟨q, e1, e2⟩ := hp
    obtain ⟨q', e3, hP1, hD1⟩ := hB
    have e4 : q' = q := by rw [e1] at e3; exact (Sum.inr.inj e3).symm
    subst e4
    subst e2
    rw [ht] at hP1
    obtain ⟨g1, g2⟩ := zput_ok hP hD (List.range wc.length) zrangeL (hs q') hk hP1
    rw [zputX (hln q')] at g1 g2
    exact kk q' H1 locs1 e1 g1 g2 hS'
theorem zcVg {own C : String} {index maxL n mc ms : Nat} {y : MethodName} {bytes : ByteArray} {ret : Option FieldType} {rm : Room} (hw : ∀ w ∈ zW, w.before args s = true) (hl : Cond.methodLink own index y ∈ zW) (hc : Cond.code y bytes maxL ret ∈ zW) (hi : Cond.initialized y.cls ∈ zW) (hin : Cond.instanceMethod y ∈ zW) (hse : Cond.selects C y y ∈ zW) (hd : y.cls ≠ "java/lang/invoke/MethodHandle" ∧ y.cls ≠ "java/lang/invoke/VarHandle" ∧ (parseMethodDescriptor y.desc).map (fun d => d.parameters.length) = some n) (hrc : rm.cells = mc) (hrs : rm.slots = ms) (hR : rm.frames + 1 ≤ R.frames ∧ 8 + (maxL + 11) + rm.locals ≤ R.locals) : CallW R s args own C index y bytes maxL ret (zw y bytes maxL ret) rm mc ms n := by
  refine ⟨⟨hrc, hrs, hR.1, hR.2, zw_pay hw hc, List.mem_cons_self, hw _ hc, hw _ hi, ⟨hd.1, hd.2.1⟩, fun sig h => ?_, hw _ hl⟩, hw _ hin, hw _ hse⟩
  have h2 := hd.2.2
  rw [h] at h2
  exact (Option.some.inj h2).symm
/-- a method with a table: its words -/
abbrev zwH (y : MethodName) (c : ByteArray) (m : Nat) (r : Option FieldType) (hh : List (Nat × Nat × Nat × Nat)) : List Cond := Cond.codeWith y c m r hh :: zW
theorem zcSX {own : String} {index maxL n mc ms : Nat} {y : MethodName} {bytes : ByteArray} {ret : Option FieldType} {hh : List (Nat × Nat × Nat × Nat)} {rm : Room} (hw : ∀ w ∈ zW, w.before args s = true) (hl : Cond.methodLink own index y ∈ zW) (hc : Cond.codeWith y bytes maxL ret hh ∈ zW) (hi : Cond.initialized y.cls ∈ zW) (hin : Cond.static y ∈ zW) (hd : y.cls ≠ "java/lang/invoke/MethodHandle" ∧ y.cls ≠ "java/lang/invoke/VarHandle" ∧ (parseMethodDescriptor y.desc).map (fun d => d.parameters.length) = some n) (hrc : rm.cells = mc) (hrs : rm.slots = ms) (hR : rm.frames + 1 ≤ R.frames ∧ 8 + (maxL + 11) + rm.locals ≤ R.locals) : vx_CSW R s args own index y bytes maxL ret hh (zwH y bytes maxL ret hh) rm mc ms n := by
  refine ⟨⟨hrc, hrs, hR.1, hR.2, pay_in (big := zW) hw (fun w h => (List.mem_cons.mp h).elim (fun e => e ▸ ⟨hc, good_of_word (zW_good _ hc)⟩) (fun h => ⟨h, good_of_word (zW_good _ h)⟩)), List.mem_cons_self⟩, hw _ hc, hw _ hi, ⟨hd.1, hd.2.1⟩, fun sig h => ?_, hw _ hl, hw _ hin⟩
  have h2 := hd.2.2
  rw [h] at h2
  exact (Option.some.inj h2).symm
/-- a wrapper's contract: it answers r.1, the hour is r.2.1, the row r.2.2 -/
def zML (nf : List zNFt) (nm : List zNMt) (l : Launch) (y : MethodName) (ws : List Cond) (rm : Room) (g : zG) (As : List Value) (a : Nat → Nat) (o : Nat) (v : CV) (F : FJ) (r : Int32 × CV × FJ) : Prop := ∀ sz : Nat, vx_Met l y ws rm (va_Pc As (zPreL nf nm g (zX6 g a v ++ [(o, .inl (g.2.2.2, 1, .inr (.inl F)))]) sz)) (va_Qi (fun (x : Int32) (_ : Unit) => x = r.1) (fun _ => zEnd g (va_A (zX6 g a v ++ [(o, .inl (g.2.2.2, 1, .inr (.inl F)))]) sz) (zX6 g a r.2.1 ++ [(o, .inl (g.2.2.2, 1, .inr (.inl r.2.2)))])) (va_A (zX6 g a v ++ [(o, .inl (g.2.2.2, 1, .inr (.inl F)))]) sz)) (fun _ _ _ => False) 1 6 (va_A (zX6 g a v ++ [(o, .inl (g.2.2.2, 1, .inr (.inl F)))]) sz)
theorem zcastX {k : Nat} {X : String} (hX : zexc k = X) (hm : Cond.castable X X ∈ zXB) (hKx : zKx s) : (Cond.castable (zexc k) X).before args s = true := by
  rw [hX]
  exact va_Nw.use rfl (hKx.1 _ hm)
end ZL
section ZJ
variable {p : Program} {l : Launch} {e : Env} {R : Room} {s : State} {m : MethodId} {args : Array Value} {below : List Frame} {meth : Method} {c : Code} {H : Heap} {locs : List Loc} {cells slots : Nat} {Q : State → Prop}
variable {cc : ByteArray} {pc : Nat} {ls : Array Slot} {rest : List Value} {D : va_G} {cl : List vw_C} {A : Nat → Prop} {a : Nat} {tys : List (ClassId × FieldType)} {ws : va_W} {H0 : Heap}
theorem zlast_ (hexec : p.tables.exec = Jvm.exec) (hb : c.code = cc) (hK : va_K D cl tys s) (hP : va_P D cl ws H) (hD : va_D A ws) (hS : va_S A H0 H locs) (q0 t0 : Nat) {cA : ClassId} {n : Nat} {f : Nat → Int64} (ha : ws[q0]? = some (a, .inl (cA, n, .inr (.inl f)))) (ht : tys[t0]? = some (cA, .long)) {i : Int32} {x : Int64} (hin : vp_in i n) {k : Nat} (hk : i.toNatClampNeg = k) (hdg : decode cc pc = .ok (.lastore, 1))
    (kk : ∀ (H1 : Heap) (locs1 : List Loc), va_P D cl (ws.set q0 (a, .inl (cA, n, .inr (.inl (vp_updL f k x))))) H1 → va_D A (ws.set q0 (a, .inl (cA, n, .inr (.inl (vp_updL f k x))))) → va_S A H0 H1 locs1 → W p l e R s m args below meth c H1 locs1 cells slots Q (F0 m (pc + 1) ls rest)) : W p l e R s m args below meth c H locs cells slots Q (F0 m pc ls (.long x :: .int i :: .ref a :: rest)) := by
  subst hk
  exact va_last hexec hb hK hP hD hS q0 t0 ha ht hin hdg kk
theorem zset_last {w : va_W} {x y : Nat × va_E} (h : w.length = 112) : (w ++ [x]).set 112 y = w ++ [y] := by
  simp [List.set_append, h]
end ZJ
theorem zmH3_51 : (Cond.codeWith ({ cls := "HourClockLaw", name := "addElement", desc := "(LHourClock;III[J)I" } : Jvm.MethodName) method_3_code (6 : Nat) (Option.some Jvm.ClassFile.FieldType.int) [((0 : Nat), (12 : Nat), (15 : Nat), (13 : Nat)), ((0 : Nat), (12 : Nat), (19 : Nat), (15 : Nat))]) ∈ zW := zW_mem (zt_3 (List.mem_of_getElem? (i := 51) rfl)) rfl
theorem zmH3_147 : (Cond.codeWith ({ cls := "HourClockLaw", name := "addFiller", desc := "(LHourClock;I[J)I" } : Jvm.MethodName) method_4_code (4 : Nat) (Option.some Jvm.ClassFile.FieldType.int) [((0 : Nat), (9 : Nat), (12 : Nat), (13 : Nat)), ((0 : Nat), (9 : Nat), (15 : Nat), (15 : Nat))]) ∈ zW := zW_mem (zt_3 (List.mem_of_getElem? (i := 147) rfl)) rfl
theorem zmH3_156 : (Cond.codeWith ({ cls := "HourClockLaw", name := "stretch", desc := "(LHourClock;II[J)I" } : Jvm.MethodName) method_5_code (5 : Nat) (Option.some Jvm.ClassFile.FieldType.int) [((0 : Nat), (10 : Nat), (13 : Nat), (25 : Nat)), ((0 : Nat), (10 : Nat), (17 : Nat), (13 : Nat)), ((0 : Nat), (10 : Nat), (21 : Nat), (15 : Nat))]) ∈ zW := zW_mem (zt_3 (List.mem_of_getElem? (i := 156) rfl)) rfl
theorem zmH3_193 : (Cond.codeWith ({ cls := "HourClockLaw", name := "drop", desc := "(LHourClock;I[J)I" } : Jvm.MethodName) method_6_code (4 : Nat) (Option.some Jvm.ClassFile.FieldType.int) [((0 : Nat), (9 : Nat), (12 : Nat), (25 : Nat)), ((0 : Nat), (9 : Nat), (15 : Nat), (15 : Nat))]) ∈ zW := zW_mem (zt_3 (List.mem_of_getElem? (i := 193) rfl)) rfl
theorem zmH3_201 : (Cond.codeWith ({ cls := "HourClockLaw", name := "pass", desc := "(LHourClock;I[J)I" } : Jvm.MethodName) method_7_code (4 : Nat) (Option.some Jvm.ClassFile.FieldType.int) [((0 : Nat), (9 : Nat), (12 : Nat), (13 : Nat))]) ∈ zW := zW_mem (zt_3 (List.mem_of_getElem? (i := 201) rfl)) rfl
theorem zmH3_209 : (Cond.codeWith ({ cls := "HourClockLaw", name := "again", desc := "(LHourClock;[J)I" } : Jvm.MethodName) method_8_code (3 : Nat) (Option.some Jvm.ClassFile.FieldType.int) [((0 : Nat), (8 : Nat), (11 : Nat), (15 : Nat))]) ∈ zW := zW_mem (zt_3 (List.mem_of_getElem? (i := 209) rfl)) rfl
theorem zmH3_218 : (Cond.codeWith ({ cls := "HourClockLaw", name := "element", desc := "(LHourClock;II[J)I" } : Jvm.MethodName) method_9_code (5 : Nat) (Option.some Jvm.ClassFile.FieldType.int) [((0 : Nat), (10 : Nat), (13 : Nat), (25 : Nat)), ((0 : Nat), (10 : Nat), (17 : Nat), (13 : Nat))]) ∈ zW := zW_mem (zt_3 (List.mem_of_getElem? (i := 218) rfl)) rfl
theorem zmH3_226 : (Cond.codeWith ({ cls := "HourClockLaw", name := "filler", desc := "(LHourClock;II[J)I" } : Jvm.MethodName) method_10_code (5 : Nat) (Option.some Jvm.ClassFile.FieldType.int) [((0 : Nat), (10 : Nat), (13 : Nat), (25 : Nat)), ((0 : Nat), (10 : Nat), (17 : Nat), (13 : Nat))]) ∈ zW := zW_mem (zt_3 (List.mem_of_getElem? (i := 226) rfl)) rfl
theorem zmH3_235 : (Cond.codeWith ({ cls := "HourClockLaw", name := "value", desc := "(LHourClock;I[J)I" } : Jvm.MethodName) method_11_code (4 : Nat) (Option.some Jvm.ClassFile.FieldType.int) [((0 : Nat), (9 : Nat), (12 : Nat), (13 : Nat))]) ∈ zW := zW_mem (zt_3 (List.mem_of_getElem? (i := 235) rfl)) rfl
theorem zmH4_2 : (Cond.codeWith ({ cls := "HourClockLaw", name := "entry", desc := "(LHourClock;II[J)I" } : Jvm.MethodName) method_12_code (5 : Nat) (Option.some Jvm.ClassFile.FieldType.int) [((0 : Nat), (10 : Nat), (13 : Nat), (25 : Nat)), ((0 : Nat), (10 : Nat), (17 : Nat), (13 : Nat))]) ∈ zW := zW_mem (zt_4 (List.mem_of_getElem? (i := 2) rfl)) rfl
theorem zmH4_11 : (Cond.codeWith ({ cls := "HourClockLaw", name := "backTime", desc := "(LHourClock;I[J)I" } : Jvm.MethodName) method_13_code (4 : Nat) (Option.some Jvm.ClassFile.FieldType.int) [((0 : Nat), (9 : Nat), (12 : Nat), (25 : Nat))]) ∈ zW := zW_mem (zt_4 (List.mem_of_getElem? (i := 11) rfl)) rfl
theorem zmH4_18 : (Cond.codeWith ({ cls := "HourClockLaw", name := "beginOf", desc := "(LHourClock;I[J)I" } : Jvm.MethodName) method_14_code (4 : Nat) (Option.some Jvm.ClassFile.FieldType.int) [((0 : Nat), (9 : Nat), (12 : Nat), (25 : Nat))]) ∈ zW := zW_mem (zt_4 (List.mem_of_getElem? (i := 18) rfl)) rfl
theorem zmH4_25 : (Cond.codeWith ({ cls := "HourClockLaw", name := "choice", desc := "(LHourClock;I[J)I" } : Jvm.MethodName) method_15_code (4 : Nat) (Option.some Jvm.ClassFile.FieldType.int) [((0 : Nat), (9 : Nat), (12 : Nat), (13 : Nat))]) ∈ zW := zW_mem (zt_4 (List.mem_of_getElem? (i := 25) rfl)) rfl
theorem zmH4_34 : (Cond.codeWith ({ cls := "HourClockLaw", name := "nextFull", desc := "(LHourClock;I[J)I" } : Jvm.MethodName) method_16_code (4 : Nat) (Option.some Jvm.ClassFile.FieldType.int) [((0 : Nat), (9 : Nat), (12 : Nat), (13 : Nat))]) ∈ zW := zW_mem (zt_4 (List.mem_of_getElem? (i := 34) rfl)) rfl
theorem zmH4_46 : (Cond.codeWith ({ cls := "HourClockLaw", name := "append", desc := "(LHourClock;I[J)I" } : Jvm.MethodName) method_17_code (4 : Nat) (Option.some Jvm.ClassFile.FieldType.int) [((0 : Nat), (9 : Nat), (12 : Nat), (13 : Nat)), ((0 : Nat), (9 : Nat), (15 : Nat), (15 : Nat))]) ∈ zW := zW_mem (zt_4 (List.mem_of_getElem? (i := 46) rfl)) rfl
theorem zmH4_59 : (Cond.codeWith ({ cls := "HourClockLaw", name := "undo", desc := "(LHourClock;[J)I" } : Jvm.MethodName) method_18_code (3 : Nat) (Option.some Jvm.ClassFile.FieldType.int) [((0 : Nat), (8 : Nat), (11 : Nat), (15 : Nat))]) ∈ zW := zW_mem (zt_4 (List.mem_of_getElem? (i := 59) rfl)) rfl
theorem hd_L_addElement : yL_addElement.cls ≠ "java/lang/invoke/MethodHandle" ∧ yL_addElement.cls ≠ "java/lang/invoke/VarHandle" ∧ (parseMethodDescriptor yL_addElement.desc).map (fun d => d.parameters.length) = some 5 := by decide +kernel
def f_L_addElement (v : CV) (p0 : Int32) (p1 : Int32) (p2 : Int32) (F : FJ) : Option (Int32 × CV × FJ) := (f_X6_addElement v p0 p1 p2).bind (fun r => match r with | .inl k => if k = 1 then some (1, v, F) else if k = 2 then some (2, v, F) else none | .inr q => some (0, q.2, vp_updL F 0 (Int32.toInt64 q.1)))
set_option maxHeartbeats 4000000 in
set_option maxRecDepth 100000 in
theorem c_L_addElement (l : Launch) (hst9 : l.stackTraces = false) (g : zG) (a : Nat → Nat) (o : Nat) (v : CV) (p0 : Int32) (p1 : Int32) (p2 : Int32) (F : FJ) (r : Int32 × CV × FJ) (hf : f_L_addElement v p0 p1 p2 F = some r) : zML zNF zNM l yL_addElement (zwH yL_addElement cL_addElement 6 (some .int) [(0, 12, 15, 13), (0, 12, 19, 15)]) ({ frames := 7, cells := 1, slots := 6, locals := 125 } : Room) g [.ref (a 0), .int p0, .int p1, .int p2, .ref o] a o v F r := by
  intro sz
  refine vx_ofWH (cc := cL_addElement) (maxL := 6) (ret := (some .int)) (hh := [(0, 12, 15, 13), (0, 12, 19, 15)]) (by decide) rfl ?_
  intro p e s m args below meth c s₁ B hml hv
  obtain ⟨rfl, ⟨⟨hsz, hP, hK, hD0⟩, hKx, hZs⟩, hNc⟩ := hv
  have hx := B.exec
  have hb := B.bytes
  have hr0 := B.returns
  have hts := atoms_spec (ws := (zwH yL_addElement cL_addElement 6 (some .int) [(0, 12, 15, 13), (0, 12, 19, 15)])) B.pre
  have htb : c.exceptionTable.toList = [⟨0, 12, 15, 13⟩, ⟨0, 12, 19, 15⟩] := vx_table (x := yL_addElement) B (hts _ List.mem_cons_self)
  have hw0 : ∀ w ∈ zW, w.before ([.ref (a 0), .int p0, .int p1, .int p2, .ref o] : List Value).toArray s = true := fun w h => hts w (List.mem_cons_of_mem _ h)
  have hown : s.vm.findClass RL = some m.cls := findClass_of_methodNamed B.named
  have hlocks := B.notSynchronized
  subst hsz
  have hD := hD0.self (sz := s.heap.size)
  generalize hAe : va_A (zX6 g a v ++ [(o, .inl (g.2.2.2, 1, .inr (.inl F)))]) s.heap.size = A at hD hZs ⊢
  have hA : ∀ q : Nat, s.heap.size ≤ q → A q := fun q h => by rw [← hAe]; exact Or.inr h
  have hS : va_S A s.heap s.heap [] := va_S.rf
  unfold f_L_addElement at hf
  have hl := lv_entry ([.ref (a 0), .int p0, .int p1, .int p2, .ref o]) (n := 6) (Nat.le_of_ble_eq_true rfl)
  rw [lg_entry_eq]
  generalize (lg_sl ([.ref (a 0), .int p0, .int p1, .int p2, .ref o]) ++ List.replicate (6 - (lg_sl ([.ref (a 0), .int p0, .int p1, .int p2, .ref o])).length) Slot.unset).toArray = ls at hl ⊢
  have hl : lv_has ls 6 [(0, .ref (a 0)), (1, .int p0), (2, .int p1), (3, .int p2), (4, .ref o)] := hl
  obtain ⟨r9, hr9, hf⟩ := ob hf
  refine lv_aload hx hb dL_addElement_0 (lv_at hl 4 rfl) ?_
  refine lv_iconst (v := 0) hx hb dL_addElement_2 (by decide) ?_
  refine lv_aload_n hx hb dL_addElement_3 rfl (lv_at hl 0 rfl) ?_
  refine lv_iload_n hx hb dL_addElement_4 rfl (lv_at hl 1 rfl) ?_
  refine lv_iload_n hx hb dL_addElement_5 rfl (lv_at hl 2 rfl) ?_
  refine lv_iload_n hx hb dL_addElement_6 rfl (lv_at hl 3 rfl) ?_
  refine zk_x (vx_runV (As := [.int p0, .int p1, .int p2]) (rest := [.int 0, .ref o]) ⟨hx, hb, hml, hown, hts⟩ (c_X6_addElement l hst9 g a v p0 p1 p2 r9 hr9 _) (zcVg hw0 zm3_54 zm3_57 zm1_1 zm3_55 zm3_56 hd_X6_addElement rfl rfl ⟨Nat.le_of_ble_eq_true rfl, Nat.le_of_ble_eq_true rfl⟩) ⟨zblindX, zrecvX hK hP (ci := 6) rfl rfl, zpreX hK hKx hZs hP hD hS hA⟩ rfl rfl hl.1 rfl (lv_room (Nat.le_of_ble_eq_true rfl)) dL_addElement_7 ⟨Nat.le_of_ble_eq_true rfl, Nat.le_of_ble_eq_true rfl⟩) hP hD hS hA (fun q => rfl) (fun k ce q9 H locs e9 hP hD hS h1 h2 h3 => ?_) (fun q H locs e9 hP hD hS => ?_)
  · subst e9
    by_cases hk9 : k = 1
    · subst hk9
      refine vx_catch hown [] ⟨0, 12, 15, 13⟩ [⟨0, 12, 19, 15⟩] htb (fun z hz => absurd hz List.not_mem_nil) rfl (by decide) (hw0 _ zm3_52) (zcastX rfl (by decide +kernel) hKx) h1 h2 h3 ?_
      refine lv_astore (lv' := [(5, .ref q9), (0, .ref (a 0)), (1, .int p0), (2, .int p1), (3, .int p2), (4, .ref o)]) hx hb dL_addElement_15 hl (by decide) rfl (fun ls hl => ?_)
      refine lv_iconst (v := 1) hx hb dL_addElement_17 (by decide) ?_
      have hR : ((1, v, F) : Int32 × CV × FJ) = r := Option.some.inj (oi hf rfl)
      subst hR
      refine W.widen (k := 1) (n := 6) (Nat.le_refl _) (Nat.le_refl _) ?_
      exact vx_ret (W.iret (v := 1) hx hb hr0 (fun t ht hW => ⟨⟨1, (), rfl, rfl, by rw [ht]; exact hP, hD⟩, hS.F ht⟩) hS.2.2 dL_addElement_18)
    · have hf := oe hf hk9
      by_cases hk9 : k = 2
      · subst hk9
        refine vx_catch hown [⟨0, 12, 15, 13⟩] ⟨0, 12, 19, 15⟩ [] htb (fun z hz => by simp only [List.mem_cons, List.not_mem_nil, or_false] at hz; rcases hz with rfl <;> first | (exact Or.inr ⟨by decide, "java/lang/IllegalArgumentException", hw0 _ zm3_52, hNc ("java/lang/IllegalStateException", "java/lang/IllegalArgumentException") (by decide +kernel)⟩)) rfl (by decide) (hw0 _ zm3_53) (zcastX rfl (by decide +kernel) hKx) h1 h2 h3 ?_
        refine lv_astore (lv' := [(5, .ref q9), (0, .ref (a 0)), (1, .int p0), (2, .int p1), (3, .int p2), (4, .ref o)]) hx hb dL_addElement_19 hl (by decide) rfl (fun ls hl => ?_)
        refine lv_iconst (v := 2) hx hb dL_addElement_21 (by decide) ?_
        have hR : ((2, v, F) : Int32 × CV × FJ) = r := Option.some.inj (oi hf rfl)
        subst hR
        refine W.widen (k := 1) (n := 6) (Nat.le_refl _) (Nat.le_refl _) ?_
        exact vx_ret (W.iret (v := 2) hx hb hr0 (fun t ht hW => ⟨⟨2, (), rfl, rfl, by rw [ht]; exact hP, hD⟩, hS.F ht⟩) hS.2.2 dL_addElement_22)
      · have hf := oe hf hk9
        exact absurd hf (by simp)
  · subst e9
    refine lv_i2l (v := (Int32.toInt64 q.1)) hx hb dL_addElement_10 rfl ?_
    refine zlast_ (f := F) (k := 0) (x := Int32.toInt64 q.1) hx hb hK.1 hP hD hS 112 2 rfl rfl (zin_vp (i := 0) (n := 1) rfl) rfl dL_addElement_11 (fun H locs hP hD hS => ?_)
    have hR : ((0, q.2, vp_updL F 0 (Int32.toInt64 q.1)) : Int32 × CV × FJ) = r := Option.some.inj hf
    rw [zset_last (by rfl)] at hP hD
    refine lv_goto (tgt := 23) hx hb dL_addElement_12 (by decide) ?_
    refine lv_iconst (v := 0) hx hb dL_addElement_23 (by decide) ?_
    subst hR
    refine W.widen (k := 1) (n := 6) (Nat.le_refl _) (Nat.le_refl _) ?_
    exact vx_ret (W.iret (v := 0) hx hb hr0 (fun t ht hW => ⟨⟨0, (), rfl, rfl, by rw [ht]; exact hP, hD⟩, hS.F ht⟩) hS.2.2 dL_addElement_24)
theorem hd_L_addFiller : yL_addFiller.cls ≠ "java/lang/invoke/MethodHandle" ∧ yL_addFiller.cls ≠ "java/lang/invoke/VarHandle" ∧ (parseMethodDescriptor yL_addFiller.desc).map (fun d => d.parameters.length) = some 3 := by decide +kernel
def f_L_addFiller (v : CV) (p0 : Int32) (F : FJ) : Option (Int32 × CV × FJ) := (f_X6_addFiller v p0).bind (fun r => match r with | .inl k => if k = 1 then some (1, v, F) else if k = 2 then some (2, v, F) else none | .inr q => some (0, q.2, vp_updL F 0 (Int32.toInt64 q.1)))
set_option maxHeartbeats 4000000 in
set_option maxRecDepth 100000 in
theorem c_L_addFiller (l : Launch) (hst9 : l.stackTraces = false) (g : zG) (a : Nat → Nat) (o : Nat) (v : CV) (p0 : Int32) (F : FJ) (r : Int32 × CV × FJ) (hf : f_L_addFiller v p0 F = some r) : zML zNF zNM l yL_addFiller (zwH yL_addFiller cL_addFiller 4 (some .int) [(0, 9, 12, 13), (0, 9, 15, 15)]) ({ frames := 7, cells := 1, slots := 6, locals := 123 } : Room) g [.ref (a 0), .int p0, .ref o] a o v F r := by
  intro sz
  refine vx_ofWH (cc := cL_addFiller) (maxL := 4) (ret := (some .int)) (hh := [(0, 9, 12, 13), (0, 9, 15, 15)]) (by decide) rfl ?_
  intro p e s m args below meth c s₁ B hml hv
  obtain ⟨rfl, ⟨⟨hsz, hP, hK, hD0⟩, hKx, hZs⟩, hNc⟩ := hv
  have hx := B.exec
  have hb := B.bytes
  have hr0 := B.returns
  have hts := atoms_spec (ws := (zwH yL_addFiller cL_addFiller 4 (some .int) [(0, 9, 12, 13), (0, 9, 15, 15)])) B.pre
  have htb : c.exceptionTable.toList = [⟨0, 9, 12, 13⟩, ⟨0, 9, 15, 15⟩] := vx_table (x := yL_addFiller) B (hts _ List.mem_cons_self)
  have hw0 : ∀ w ∈ zW, w.before ([.ref (a 0), .int p0, .ref o] : List Value).toArray s = true := fun w h => hts w (List.mem_cons_of_mem _ h)
  have hown : s.vm.findClass RL = some m.cls := findClass_of_methodNamed B.named
  have hlocks := B.notSynchronized
  subst hsz
  have hD := hD0.self (sz := s.heap.size)
  generalize hAe : va_A (zX6 g a v ++ [(o, .inl (g.2.2.2, 1, .inr (.inl F)))]) s.heap.size = A at hD hZs ⊢
  have hA : ∀ q : Nat, s.heap.size ≤ q → A q := fun q h => by rw [← hAe]; exact Or.inr h
  have hS : va_S A s.heap s.heap [] := va_S.rf
  unfold f_L_addFiller at hf
  have hl := lv_entry ([.ref (a 0), .int p0, .ref o]) (n := 4) (Nat.le_of_ble_eq_true rfl)
  rw [lg_entry_eq]
  generalize (lg_sl ([.ref (a 0), .int p0, .ref o]) ++ List.replicate (4 - (lg_sl ([.ref (a 0), .int p0, .ref o])).length) Slot.unset).toArray = ls at hl ⊢
  have hl : lv_has ls 4 [(0, .ref (a 0)), (1, .int p0), (2, .ref o)] := hl
  obtain ⟨r9, hr9, hf⟩ := ob hf
  refine lv_aload_n hx hb dL_addFiller_0 rfl (lv_at hl 2 rfl) ?_
  refine lv_iconst (v := 0) hx hb dL_addFiller_1 (by decide) ?_
  refine lv_aload_n hx hb dL_addFiller_2 rfl (lv_at hl 0 rfl) ?_
  refine lv_iload_n hx hb dL_addFiller_3 rfl (lv_at hl 1 rfl) ?_
  refine zk_x (vx_runV (As := [.int p0]) (rest := [.int 0, .ref o]) ⟨hx, hb, hml, hown, hts⟩ (c_X6_addFiller l hst9 g a v p0 r9 hr9 _) (zcVg hw0 zm3_148 zm3_151 zm1_1 zm3_149 zm3_150 hd_X6_addFiller rfl rfl ⟨Nat.le_of_ble_eq_true rfl, Nat.le_of_ble_eq_true rfl⟩) ⟨zblindX, zrecvX hK hP (ci := 6) rfl rfl, zpreX hK hKx hZs hP hD hS hA⟩ rfl rfl hl.1 rfl (lv_room (Nat.le_of_ble_eq_true rfl)) dL_addFiller_4 ⟨Nat.le_of_ble_eq_true rfl, Nat.le_of_ble_eq_true rfl⟩) hP hD hS hA (fun q => rfl) (fun k ce q9 H locs e9 hP hD hS h1 h2 h3 => ?_) (fun q H locs e9 hP hD hS => ?_)
  · subst e9
    by_cases hk9 : k = 1
    · subst hk9
      refine vx_catch hown [] ⟨0, 9, 12, 13⟩ [⟨0, 9, 15, 15⟩] htb (fun z hz => absurd hz List.not_mem_nil) rfl (by decide) (hw0 _ zm3_52) (zcastX rfl (by decide +kernel) hKx) h1 h2 h3 ?_
      refine lv_astore_n (lv' := [(3, .ref q9), (0, .ref (a 0)), (1, .int p0), (2, .ref o)]) hx hb dL_addFiller_12 rfl hl (by decide) rfl (fun ls hl => ?_)
      refine lv_iconst (v := 1) hx hb dL_addFiller_13 (by decide) ?_
      have hR : ((1, v, F) : Int32 × CV × FJ) = r := Option.some.inj (oi hf rfl)
      subst hR
      refine W.widen (k := 1) (n := 6) (Nat.le_refl _) (Nat.le_refl _) ?_
      exact vx_ret (W.iret (v := 1) hx hb hr0 (fun t ht hW => ⟨⟨1, (), rfl, rfl, by rw [ht]; exact hP, hD⟩, hS.F ht⟩) hS.2.2 dL_addFiller_14)
    · have hf := oe hf hk9
      by_cases hk9 : k = 2
      · subst hk9
        refine vx_catch hown [⟨0, 9, 12, 13⟩] ⟨0, 9, 15, 15⟩ [] htb (fun z hz => by simp only [List.mem_cons, List.not_mem_nil, or_false] at hz; rcases hz with rfl <;> first | (exact Or.inr ⟨by decide, "java/lang/IllegalArgumentException", hw0 _ zm3_52, hNc ("java/lang/IllegalStateException", "java/lang/IllegalArgumentException") (by decide +kernel)⟩)) rfl (by decide) (hw0 _ zm3_53) (zcastX rfl (by decide +kernel) hKx) h1 h2 h3 ?_
        refine lv_astore_n (lv' := [(3, .ref q9), (0, .ref (a 0)), (1, .int p0), (2, .ref o)]) hx hb dL_addFiller_15 rfl hl (by decide) rfl (fun ls hl => ?_)
        refine lv_iconst (v := 2) hx hb dL_addFiller_16 (by decide) ?_
        have hR : ((2, v, F) : Int32 × CV × FJ) = r := Option.some.inj (oi hf rfl)
        subst hR
        refine W.widen (k := 1) (n := 6) (Nat.le_refl _) (Nat.le_refl _) ?_
        exact vx_ret (W.iret (v := 2) hx hb hr0 (fun t ht hW => ⟨⟨2, (), rfl, rfl, by rw [ht]; exact hP, hD⟩, hS.F ht⟩) hS.2.2 dL_addFiller_17)
      · have hf := oe hf hk9
        exact absurd hf (by simp)
  · subst e9
    refine lv_i2l (v := (Int32.toInt64 q.1)) hx hb dL_addFiller_7 rfl ?_
    refine zlast_ (f := F) (k := 0) (x := Int32.toInt64 q.1) hx hb hK.1 hP hD hS 112 2 rfl rfl (zin_vp (i := 0) (n := 1) rfl) rfl dL_addFiller_8 (fun H locs hP hD hS => ?_)
    have hR : ((0, q.2, vp_updL F 0 (Int32.toInt64 q.1)) : Int32 × CV × FJ) = r := Option.some.inj hf
    rw [zset_last (by rfl)] at hP hD
    refine lv_goto (tgt := 18) hx hb dL_addFiller_9 (by decide) ?_
    refine lv_iconst (v := 0) hx hb dL_addFiller_18 (by decide) ?_
    subst hR
    refine W.widen (k := 1) (n := 6) (Nat.le_refl _) (Nat.le_refl _) ?_
    exact vx_ret (W.iret (v := 0) hx hb hr0 (fun t ht hW => ⟨⟨0, (), rfl, rfl, by rw [ht]; exact hP, hD⟩, hS.F ht⟩) hS.2.2 dL_addFiller_19)
theorem hd_L_stretch : yL_stretch.cls ≠ "java/lang/invoke/MethodHandle" ∧ yL_stretch.cls ≠ "java/lang/invoke/VarHandle" ∧ (parseMethodDescriptor yL_stretch.desc).map (fun d => d.parameters.length) = some 4 := by decide +kernel
def f_L_stretch (v : CV) (p0 : Int32) (p1 : Int32) (F : FJ) : Option (Int32 × CV × FJ) := (f_X6_stretch v p0 p1).bind (fun r => match r with | .inl k => if k = 3 then some (1, v, F) else if k = 1 then some (2, v, F) else if k = 2 then some (3, v, F) else none | .inr q => some (0, q.2, vp_updL F 0 (Int32.toInt64 q.1)))
set_option maxHeartbeats 4000000 in
set_option maxRecDepth 100000 in
theorem c_L_stretch (l : Launch) (hst9 : l.stackTraces = false) (g : zG) (a : Nat → Nat) (o : Nat) (v : CV) (p0 : Int32) (p1 : Int32) (F : FJ) (r : Int32 × CV × FJ) (hf : f_L_stretch v p0 p1 F = some r) : zML zNF zNM l yL_stretch (zwH yL_stretch cL_stretch 5 (some .int) [(0, 10, 13, 25), (0, 10, 17, 13), (0, 10, 21, 15)]) ({ frames := 7, cells := 1, slots := 6, locals := 125 } : Room) g [.ref (a 0), .int p0, .int p1, .ref o] a o v F r := by
  intro sz
  refine vx_ofWH (cc := cL_stretch) (maxL := 5) (ret := (some .int)) (hh := [(0, 10, 13, 25), (0, 10, 17, 13), (0, 10, 21, 15)]) (by decide) rfl ?_
  intro p e s m args below meth c s₁ B hml hv
  obtain ⟨rfl, ⟨⟨hsz, hP, hK, hD0⟩, hKx, hZs⟩, hNc⟩ := hv
  have hx := B.exec
  have hb := B.bytes
  have hr0 := B.returns
  have hts := atoms_spec (ws := (zwH yL_stretch cL_stretch 5 (some .int) [(0, 10, 13, 25), (0, 10, 17, 13), (0, 10, 21, 15)])) B.pre
  have htb : c.exceptionTable.toList = [⟨0, 10, 13, 25⟩, ⟨0, 10, 17, 13⟩, ⟨0, 10, 21, 15⟩] := vx_table (x := yL_stretch) B (hts _ List.mem_cons_self)
  have hw0 : ∀ w ∈ zW, w.before ([.ref (a 0), .int p0, .int p1, .ref o] : List Value).toArray s = true := fun w h => hts w (List.mem_cons_of_mem _ h)
  have hown : s.vm.findClass RL = some m.cls := findClass_of_methodNamed B.named
  have hlocks := B.notSynchronized
  subst hsz
  have hD := hD0.self (sz := s.heap.size)
  generalize hAe : va_A (zX6 g a v ++ [(o, .inl (g.2.2.2, 1, .inr (.inl F)))]) s.heap.size = A at hD hZs ⊢
  have hA : ∀ q : Nat, s.heap.size ≤ q → A q := fun q h => by rw [← hAe]; exact Or.inr h
  have hS : va_S A s.heap s.heap [] := va_S.rf
  unfold f_L_stretch at hf
  have hl := lv_entry ([.ref (a 0), .int p0, .int p1, .ref o]) (n := 5) (Nat.le_of_ble_eq_true rfl)
  rw [lg_entry_eq]
  generalize (lg_sl ([.ref (a 0), .int p0, .int p1, .ref o]) ++ List.replicate (5 - (lg_sl ([.ref (a 0), .int p0, .int p1, .ref o])).length) Slot.unset).toArray = ls at hl ⊢
  have hl : lv_has ls 5 [(0, .ref (a 0)), (1, .int p0), (2, .int p1), (3, .ref o)] := hl
  obtain ⟨r9, hr9, hf⟩ := ob hf
  refine lv_aload_n hx hb dL_stretch_0 rfl (lv_at hl 3 rfl) ?_
  refine lv_iconst (v := 0) hx hb dL_stretch_1 (by decide) ?_
  refine lv_aload_n hx hb dL_stretch_2 rfl (lv_at hl 0 rfl) ?_
  refine lv_iload_n hx hb dL_stretch_3 rfl (lv_at hl 1 rfl) ?_
  refine lv_iload_n hx hb dL_stretch_4 rfl (lv_at hl 2 rfl) ?_
  refine zk_x (vx_runV (As := [.int p0, .int p1]) (rest := [.int 0, .ref o]) ⟨hx, hb, hml, hown, hts⟩ (c_X6_stretch l hst9 g a v p0 p1 r9 hr9 _) (zcVg hw0 zm3_158 zm3_161 zm1_1 zm3_159 zm3_160 hd_X6_stretch rfl rfl ⟨Nat.le_of_ble_eq_true rfl, Nat.le_of_ble_eq_true rfl⟩) ⟨zblindX, zrecvX hK hP (ci := 6) rfl rfl, zpreX hK hKx hZs hP hD hS hA⟩ rfl rfl hl.1 rfl (lv_room (Nat.le_of_ble_eq_true rfl)) dL_stretch_5 ⟨Nat.le_of_ble_eq_true rfl, Nat.le_of_ble_eq_true rfl⟩) hP hD hS hA (fun q => rfl) (fun k ce q9 H locs e9 hP hD hS h1 h2 h3 => ?_) (fun q H locs e9 hP hD hS => ?_)
  · subst e9
    by_cases hk9 : k = 3
    · subst hk9
      refine vx_catch hown [] ⟨0, 10, 13, 25⟩ [⟨0, 10, 17, 13⟩, ⟨0, 10, 21, 15⟩] htb (fun z hz => absurd hz List.not_mem_nil) rfl (by decide) (hw0 _ zm3_157) (zcastX rfl (by decide +kernel) hKx) h1 h2 h3 ?_
      refine lv_astore (lv' := [(4, .ref q9), (0, .ref (a 0)), (1, .int p0), (2, .int p1), (3, .ref o)]) hx hb dL_stretch_13 hl (by decide) rfl (fun ls hl => ?_)
      refine lv_iconst (v := 1) hx hb dL_stretch_15 (by decide) ?_
      have hR : ((1, v, F) : Int32 × CV × FJ) = r := Option.some.inj (oi hf rfl)
      subst hR
      refine W.widen (k := 1) (n := 6) (Nat.le_refl _) (Nat.le_refl _) ?_
      exact vx_ret (W.iret (v := 1) hx hb hr0 (fun t ht hW => ⟨⟨1, (), rfl, rfl, by rw [ht]; exact hP, hD⟩, hS.F ht⟩) hS.2.2 dL_stretch_16)
    · have hf := oe hf hk9
      by_cases hk9 : k = 1
      · subst hk9
        refine vx_catch hown [⟨0, 10, 13, 25⟩] ⟨0, 10, 17, 13⟩ [⟨0, 10, 21, 15⟩] htb (fun z hz => by simp only [List.mem_cons, List.not_mem_nil, or_false] at hz; rcases hz with rfl <;> first | (exact Or.inr ⟨by decide, "java/lang/IndexOutOfBoundsException", hw0 _ zm3_157, hNc ("java/lang/IllegalArgumentException", "java/lang/IndexOutOfBoundsException") (by decide +kernel)⟩)) rfl (by decide) (hw0 _ zm3_52) (zcastX rfl (by decide +kernel) hKx) h1 h2 h3 ?_
        refine lv_astore (lv' := [(4, .ref q9), (0, .ref (a 0)), (1, .int p0), (2, .int p1), (3, .ref o)]) hx hb dL_stretch_17 hl (by decide) rfl (fun ls hl => ?_)
        refine lv_iconst (v := 2) hx hb dL_stretch_19 (by decide) ?_
        have hR : ((2, v, F) : Int32 × CV × FJ) = r := Option.some.inj (oi hf rfl)
        subst hR
        refine W.widen (k := 1) (n := 6) (Nat.le_refl _) (Nat.le_refl _) ?_
        exact vx_ret (W.iret (v := 2) hx hb hr0 (fun t ht hW => ⟨⟨2, (), rfl, rfl, by rw [ht]; exact hP, hD⟩, hS.F ht⟩) hS.2.2 dL_stretch_20)
      · have hf := oe hf hk9
        by_cases hk9 : k = 2
        · subst hk9
          refine vx_catch hown [⟨0, 10, 13, 25⟩, ⟨0, 10, 17, 13⟩] ⟨0, 10, 21, 15⟩ [] htb (fun z hz => by simp only [List.mem_cons, List.not_mem_nil, or_false] at hz; rcases hz with rfl | rfl <;> first | (exact Or.inr ⟨by decide, "java/lang/IndexOutOfBoundsException", hw0 _ zm3_157, hNc ("java/lang/IllegalStateException", "java/lang/IndexOutOfBoundsException") (by decide +kernel)⟩) | (exact Or.inr ⟨by decide, "java/lang/IllegalArgumentException", hw0 _ zm3_52, hNc ("java/lang/IllegalStateException", "java/lang/IllegalArgumentException") (by decide +kernel)⟩)) rfl (by decide) (hw0 _ zm3_53) (zcastX rfl (by decide +kernel) hKx) h1 h2 h3 ?_
          refine lv_astore (lv' := [(4, .ref q9), (0, .ref (a 0)), (1, .int p0), (2, .int p1), (3, .ref o)]) hx hb dL_stretch_21 hl (by decide) rfl (fun ls hl => ?_)
          refine lv_iconst (v := 3) hx hb dL_stretch_23 (by decide) ?_
          have hR : ((3, v, F) : Int32 × CV × FJ) = r := Option.some.inj (oi hf rfl)
          subst hR
          refine W.widen (k := 1) (n := 6) (Nat.le_refl _) (Nat.le_refl _) ?_
          exact vx_ret (W.iret (v := 3) hx hb hr0 (fun t ht hW => ⟨⟨3, (), rfl, rfl, by rw [ht]; exact hP, hD⟩, hS.F ht⟩) hS.2.2 dL_stretch_24)
        · have hf := oe hf hk9
          exact absurd hf (by simp)
  · subst e9
    refine lv_i2l (v := (Int32.toInt64 q.1)) hx hb dL_stretch_8 rfl ?_
    refine zlast_ (f := F) (k := 0) (x := Int32.toInt64 q.1) hx hb hK.1 hP hD hS 112 2 rfl rfl (zin_vp (i := 0) (n := 1) rfl) rfl dL_stretch_9 (fun H locs hP hD hS => ?_)
    have hR : ((0, q.2, vp_updL F 0 (Int32.toInt64 q.1)) : Int32 × CV × FJ) = r := Option.some.inj hf
    rw [zset_last (by rfl)] at hP hD
    refine lv_goto (tgt := 25) hx hb dL_stretch_10 (by decide) ?_
    refine lv_iconst (v := 0) hx hb dL_stretch_25 (by decide) ?_
    subst hR
    refine W.widen (k := 1) (n := 6) (Nat.le_refl _) (Nat.le_refl _) ?_
    exact vx_ret (W.iret (v := 0) hx hb hr0 (fun t ht hW => ⟨⟨0, (), rfl, rfl, by rw [ht]; exact hP, hD⟩, hS.F ht⟩) hS.2.2 dL_stretch_26)
theorem hd_L_drop : yL_drop.cls ≠ "java/lang/invoke/MethodHandle" ∧ yL_drop.cls ≠ "java/lang/invoke/VarHandle" ∧ (parseMethodDescriptor yL_drop.desc).map (fun d => d.parameters.length) = some 3 := by decide +kernel
def f_L_drop (v : CV) (p0 : Int32) (F : FJ) : Option (Int32 × CV × FJ) := (f_X6_drop v p0).bind (fun r => match r with | .inl k => if k = 3 then some (1, v, F) else if k = 2 then some (2, v, F) else none | .inr q => some (0, q.2, vp_updL F 0 (Int32.toInt64 q.1)))
set_option maxHeartbeats 4000000 in
set_option maxRecDepth 100000 in
theorem c_L_drop (l : Launch) (hst9 : l.stackTraces = false) (g : zG) (a : Nat → Nat) (o : Nat) (v : CV) (p0 : Int32) (F : FJ) (r : Int32 × CV × FJ) (hf : f_L_drop v p0 F = some r) : zML zNF zNM l yL_drop (zwH yL_drop cL_drop 4 (some .int) [(0, 9, 12, 25), (0, 9, 15, 15)]) ({ frames := 7, cells := 1, slots := 6, locals := 123 } : Room) g [.ref (a 0), .int p0, .ref o] a o v F r := by
  intro sz
  refine vx_ofWH (cc := cL_drop) (maxL := 4) (ret := (some .int)) (hh := [(0, 9, 12, 25), (0, 9, 15, 15)]) (by decide) rfl ?_
  intro p e s m args below meth c s₁ B hml hv
  obtain ⟨rfl, ⟨⟨hsz, hP, hK, hD0⟩, hKx, hZs⟩, hNc⟩ := hv
  have hx := B.exec
  have hb := B.bytes
  have hr0 := B.returns
  have hts := atoms_spec (ws := (zwH yL_drop cL_drop 4 (some .int) [(0, 9, 12, 25), (0, 9, 15, 15)])) B.pre
  have htb : c.exceptionTable.toList = [⟨0, 9, 12, 25⟩, ⟨0, 9, 15, 15⟩] := vx_table (x := yL_drop) B (hts _ List.mem_cons_self)
  have hw0 : ∀ w ∈ zW, w.before ([.ref (a 0), .int p0, .ref o] : List Value).toArray s = true := fun w h => hts w (List.mem_cons_of_mem _ h)
  have hown : s.vm.findClass RL = some m.cls := findClass_of_methodNamed B.named
  have hlocks := B.notSynchronized
  subst hsz
  have hD := hD0.self (sz := s.heap.size)
  generalize hAe : va_A (zX6 g a v ++ [(o, .inl (g.2.2.2, 1, .inr (.inl F)))]) s.heap.size = A at hD hZs ⊢
  have hA : ∀ q : Nat, s.heap.size ≤ q → A q := fun q h => by rw [← hAe]; exact Or.inr h
  have hS : va_S A s.heap s.heap [] := va_S.rf
  unfold f_L_drop at hf
  have hl := lv_entry ([.ref (a 0), .int p0, .ref o]) (n := 4) (Nat.le_of_ble_eq_true rfl)
  rw [lg_entry_eq]
  generalize (lg_sl ([.ref (a 0), .int p0, .ref o]) ++ List.replicate (4 - (lg_sl ([.ref (a 0), .int p0, .ref o])).length) Slot.unset).toArray = ls at hl ⊢
  have hl : lv_has ls 4 [(0, .ref (a 0)), (1, .int p0), (2, .ref o)] := hl
  obtain ⟨r9, hr9, hf⟩ := ob hf
  refine lv_aload_n hx hb dL_drop_0 rfl (lv_at hl 2 rfl) ?_
  refine lv_iconst (v := 0) hx hb dL_drop_1 (by decide) ?_
  refine lv_aload_n hx hb dL_drop_2 rfl (lv_at hl 0 rfl) ?_
  refine lv_iload_n hx hb dL_drop_3 rfl (lv_at hl 1 rfl) ?_
  refine zk_x (vx_runV (As := [.int p0]) (rest := [.int 0, .ref o]) ⟨hx, hb, hml, hown, hts⟩ (c_X6_drop l hst9 g a v p0 r9 hr9 _) (zcVg hw0 zm3_194 zm3_197 zm1_1 zm3_195 zm3_196 hd_X6_drop rfl rfl ⟨Nat.le_of_ble_eq_true rfl, Nat.le_of_ble_eq_true rfl⟩) ⟨zblindX, zrecvX hK hP (ci := 6) rfl rfl, zpreX hK hKx hZs hP hD hS hA⟩ rfl rfl hl.1 rfl (lv_room (Nat.le_of_ble_eq_true rfl)) dL_drop_4 ⟨Nat.le_of_ble_eq_true rfl, Nat.le_of_ble_eq_true rfl⟩) hP hD hS hA (fun q => rfl) (fun k ce q9 H locs e9 hP hD hS h1 h2 h3 => ?_) (fun q H locs e9 hP hD hS => ?_)
  · subst e9
    by_cases hk9 : k = 3
    · subst hk9
      refine vx_catch hown [] ⟨0, 9, 12, 25⟩ [⟨0, 9, 15, 15⟩] htb (fun z hz => absurd hz List.not_mem_nil) rfl (by decide) (hw0 _ zm3_157) (zcastX rfl (by decide +kernel) hKx) h1 h2 h3 ?_
      refine lv_astore_n (lv' := [(3, .ref q9), (0, .ref (a 0)), (1, .int p0), (2, .ref o)]) hx hb dL_drop_12 rfl hl (by decide) rfl (fun ls hl => ?_)
      refine lv_iconst (v := 1) hx hb dL_drop_13 (by decide) ?_
      have hR : ((1, v, F) : Int32 × CV × FJ) = r := Option.some.inj (oi hf rfl)
      subst hR
      refine W.widen (k := 1) (n := 6) (Nat.le_refl _) (Nat.le_refl _) ?_
      exact vx_ret (W.iret (v := 1) hx hb hr0 (fun t ht hW => ⟨⟨1, (), rfl, rfl, by rw [ht]; exact hP, hD⟩, hS.F ht⟩) hS.2.2 dL_drop_14)
    · have hf := oe hf hk9
      by_cases hk9 : k = 2
      · subst hk9
        refine vx_catch hown [⟨0, 9, 12, 25⟩] ⟨0, 9, 15, 15⟩ [] htb (fun z hz => by simp only [List.mem_cons, List.not_mem_nil, or_false] at hz; rcases hz with rfl <;> first | (exact Or.inr ⟨by decide, "java/lang/IndexOutOfBoundsException", hw0 _ zm3_157, hNc ("java/lang/IllegalStateException", "java/lang/IndexOutOfBoundsException") (by decide +kernel)⟩)) rfl (by decide) (hw0 _ zm3_53) (zcastX rfl (by decide +kernel) hKx) h1 h2 h3 ?_
        refine lv_astore_n (lv' := [(3, .ref q9), (0, .ref (a 0)), (1, .int p0), (2, .ref o)]) hx hb dL_drop_15 rfl hl (by decide) rfl (fun ls hl => ?_)
        refine lv_iconst (v := 2) hx hb dL_drop_16 (by decide) ?_
        have hR : ((2, v, F) : Int32 × CV × FJ) = r := Option.some.inj (oi hf rfl)
        subst hR
        refine W.widen (k := 1) (n := 6) (Nat.le_refl _) (Nat.le_refl _) ?_
        exact vx_ret (W.iret (v := 2) hx hb hr0 (fun t ht hW => ⟨⟨2, (), rfl, rfl, by rw [ht]; exact hP, hD⟩, hS.F ht⟩) hS.2.2 dL_drop_17)
      · have hf := oe hf hk9
        exact absurd hf (by simp)
  · subst e9
    refine lv_i2l (v := (Int32.toInt64 q.1)) hx hb dL_drop_7 rfl ?_
    refine zlast_ (f := F) (k := 0) (x := Int32.toInt64 q.1) hx hb hK.1 hP hD hS 112 2 rfl rfl (zin_vp (i := 0) (n := 1) rfl) rfl dL_drop_8 (fun H locs hP hD hS => ?_)
    have hR : ((0, q.2, vp_updL F 0 (Int32.toInt64 q.1)) : Int32 × CV × FJ) = r := Option.some.inj hf
    rw [zset_last (by rfl)] at hP hD
    refine lv_goto (tgt := 18) hx hb dL_drop_9 (by decide) ?_
    refine lv_iconst (v := 0) hx hb dL_drop_18 (by decide) ?_
    subst hR
    refine W.widen (k := 1) (n := 6) (Nat.le_refl _) (Nat.le_refl _) ?_
    exact vx_ret (W.iret (v := 0) hx hb hr0 (fun t ht hW => ⟨⟨0, (), rfl, rfl, by rw [ht]; exact hP, hD⟩, hS.F ht⟩) hS.2.2 dL_drop_19)
theorem hd_L_pass : yL_pass.cls ≠ "java/lang/invoke/MethodHandle" ∧ yL_pass.cls ≠ "java/lang/invoke/VarHandle" ∧ (parseMethodDescriptor yL_pass.desc).map (fun d => d.parameters.length) = some 3 := by decide +kernel
def f_L_pass (v : CV) (p0 : Int32) (F : FJ) : Option (Int32 × CV × FJ) := (f_X6_pass v p0).bind (fun r => match r with | .inl k => if k = 1 then some (1, v, F) else none | .inr q => some (0, q.2, vp_updL F 0 (Int32.toInt64 q.1)))
set_option maxHeartbeats 4000000 in
set_option maxRecDepth 100000 in
theorem c_L_pass (l : Launch) (hst9 : l.stackTraces = false) (g : zG) (a : Nat → Nat) (o : Nat) (v : CV) (p0 : Int32) (F : FJ) (r : Int32 × CV × FJ) (hf : f_L_pass v p0 F = some r) : zML zNF zNM l yL_pass (zwH yL_pass cL_pass 4 (some .int) [(0, 9, 12, 13)]) ({ frames := 7, cells := 1, slots := 6, locals := 162 } : Room) g [.ref (a 0), .int p0, .ref o] a o v F r := by
  intro sz
  refine vx_ofWH (cc := cL_pass) (maxL := 4) (ret := (some .int)) (hh := [(0, 9, 12, 13)]) (by decide) rfl ?_
  intro p e s m args below meth c s₁ B hml hv
  obtain ⟨rfl, ⟨⟨hsz, hP, hK, hD0⟩, hKx, hZs⟩, hNc⟩ := hv
  have hx := B.exec
  have hb := B.bytes
  have hr0 := B.returns
  have hts := atoms_spec (ws := (zwH yL_pass cL_pass 4 (some .int) [(0, 9, 12, 13)])) B.pre
  have htb : c.exceptionTable.toList = [⟨0, 9, 12, 13⟩] := vx_table (x := yL_pass) B (hts _ List.mem_cons_self)
  have hw0 : ∀ w ∈ zW, w.before ([.ref (a 0), .int p0, .ref o] : List Value).toArray s = true := fun w h => hts w (List.mem_cons_of_mem _ h)
  have hown : s.vm.findClass RL = some m.cls := findClass_of_methodNamed B.named
  have hlocks := B.notSynchronized
  subst hsz
  have hD := hD0.self (sz := s.heap.size)
  generalize hAe : va_A (zX6 g a v ++ [(o, .inl (g.2.2.2, 1, .inr (.inl F)))]) s.heap.size = A at hD hZs ⊢
  have hA : ∀ q : Nat, s.heap.size ≤ q → A q := fun q h => by rw [← hAe]; exact Or.inr h
  have hS : va_S A s.heap s.heap [] := va_S.rf
  unfold f_L_pass at hf
  have hl := lv_entry ([.ref (a 0), .int p0, .ref o]) (n := 4) (Nat.le_of_ble_eq_true rfl)
  rw [lg_entry_eq]
  generalize (lg_sl ([.ref (a 0), .int p0, .ref o]) ++ List.replicate (4 - (lg_sl ([.ref (a 0), .int p0, .ref o])).length) Slot.unset).toArray = ls at hl ⊢
  have hl : lv_has ls 4 [(0, .ref (a 0)), (1, .int p0), (2, .ref o)] := hl
  obtain ⟨r9, hr9, hf⟩ := ob hf
  refine lv_aload_n hx hb dL_pass_0 rfl (lv_at hl 2 rfl) ?_
  refine lv_iconst (v := 0) hx hb dL_pass_1 (by decide) ?_
  refine lv_aload_n hx hb dL_pass_2 rfl (lv_at hl 0 rfl) ?_
  refine lv_iload_n hx hb dL_pass_3 rfl (lv_at hl 1 rfl) ?_
  refine zk_x (vx_runV (As := [.int p0]) (rest := [.int 0, .ref o]) ⟨hx, hb, hml, hown, hts⟩ (c_X6_pass l hst9 g a v p0 r9 hr9 _) (zcVg hw0 zm3_202 zm3_205 zm1_1 zm3_203 zm3_204 hd_X6_pass rfl rfl ⟨Nat.le_of_ble_eq_true rfl, Nat.le_of_ble_eq_true rfl⟩) ⟨zblindX, zrecvX hK hP (ci := 6) rfl rfl, zpreX hK hKx hZs hP hD hS hA⟩ rfl rfl hl.1 rfl (lv_room (Nat.le_of_ble_eq_true rfl)) dL_pass_4 ⟨Nat.le_of_ble_eq_true rfl, Nat.le_of_ble_eq_true rfl⟩) hP hD hS hA (fun q => rfl) (fun k ce q9 H locs e9 hP hD hS h1 h2 h3 => ?_) (fun q H locs e9 hP hD hS => ?_)
  · subst e9
    by_cases hk9 : k = 1
    · subst hk9
      refine vx_catch hown [] ⟨0, 9, 12, 13⟩ [] htb (fun z hz => absurd hz List.not_mem_nil) rfl (by decide) (hw0 _ zm3_52) (zcastX rfl (by decide +kernel) hKx) h1 h2 h3 ?_
      refine lv_astore_n (lv' := [(3, .ref q9), (0, .ref (a 0)), (1, .int p0), (2, .ref o)]) hx hb dL_pass_12 rfl hl (by decide) rfl (fun ls hl => ?_)
      refine lv_iconst (v := 1) hx hb dL_pass_13 (by decide) ?_
      have hR : ((1, v, F) : Int32 × CV × FJ) = r := Option.some.inj (oi hf rfl)
      subst hR
      refine W.widen (k := 1) (n := 6) (Nat.le_refl _) (Nat.le_refl _) ?_
      exact vx_ret (W.iret (v := 1) hx hb hr0 (fun t ht hW => ⟨⟨1, (), rfl, rfl, by rw [ht]; exact hP, hD⟩, hS.F ht⟩) hS.2.2 dL_pass_14)
    · have hf := oe hf hk9
      exact absurd hf (by simp)
  · subst e9
    refine lv_i2l (v := (Int32.toInt64 q.1)) hx hb dL_pass_7 rfl ?_
    refine zlast_ (f := F) (k := 0) (x := Int32.toInt64 q.1) hx hb hK.1 hP hD hS 112 2 rfl rfl (zin_vp (i := 0) (n := 1) rfl) rfl dL_pass_8 (fun H locs hP hD hS => ?_)
    have hR : ((0, q.2, vp_updL F 0 (Int32.toInt64 q.1)) : Int32 × CV × FJ) = r := Option.some.inj hf
    rw [zset_last (by rfl)] at hP hD
    refine lv_goto (tgt := 15) hx hb dL_pass_9 (by decide) ?_
    refine lv_iconst (v := 0) hx hb dL_pass_15 (by decide) ?_
    subst hR
    refine W.widen (k := 1) (n := 6) (Nat.le_refl _) (Nat.le_refl _) ?_
    exact vx_ret (W.iret (v := 0) hx hb hr0 (fun t ht hW => ⟨⟨0, (), rfl, rfl, by rw [ht]; exact hP, hD⟩, hS.F ht⟩) hS.2.2 dL_pass_16)
theorem hd_L_again : yL_again.cls ≠ "java/lang/invoke/MethodHandle" ∧ yL_again.cls ≠ "java/lang/invoke/VarHandle" ∧ (parseMethodDescriptor yL_again.desc).map (fun d => d.parameters.length) = some 2 := by decide +kernel
def f_L_again (v : CV) (F : FJ) : Option (Int32 × CV × FJ) := (f_X6_again v).bind (fun r => match r with | .inl k => if k = 2 then some (1, v, F) else none | .inr q => some (0, q.2, vp_updL F 0 (Int32.toInt64 q.1)))
set_option maxHeartbeats 4000000 in
set_option maxRecDepth 100000 in
theorem c_L_again (l : Launch) (hst9 : l.stackTraces = false) (g : zG) (a : Nat → Nat) (o : Nat) (v : CV) (F : FJ) (r : Int32 × CV × FJ) (hf : f_L_again v F = some r) : zML zNF zNM l yL_again (zwH yL_again cL_again 3 (some .int) [(0, 8, 11, 15)]) ({ frames := 7, cells := 1, slots := 6, locals := 122 } : Room) g [.ref (a 0), .ref o] a o v F r := by
  intro sz
  refine vx_ofWH (cc := cL_again) (maxL := 3) (ret := (some .int)) (hh := [(0, 8, 11, 15)]) (by decide) rfl ?_
  intro p e s m args below meth c s₁ B hml hv
  obtain ⟨rfl, ⟨⟨hsz, hP, hK, hD0⟩, hKx, hZs⟩, hNc⟩ := hv
  have hx := B.exec
  have hb := B.bytes
  have hr0 := B.returns
  have hts := atoms_spec (ws := (zwH yL_again cL_again 3 (some .int) [(0, 8, 11, 15)])) B.pre
  have htb : c.exceptionTable.toList = [⟨0, 8, 11, 15⟩] := vx_table (x := yL_again) B (hts _ List.mem_cons_self)
  have hw0 : ∀ w ∈ zW, w.before ([.ref (a 0), .ref o] : List Value).toArray s = true := fun w h => hts w (List.mem_cons_of_mem _ h)
  have hown : s.vm.findClass RL = some m.cls := findClass_of_methodNamed B.named
  have hlocks := B.notSynchronized
  subst hsz
  have hD := hD0.self (sz := s.heap.size)
  generalize hAe : va_A (zX6 g a v ++ [(o, .inl (g.2.2.2, 1, .inr (.inl F)))]) s.heap.size = A at hD hZs ⊢
  have hA : ∀ q : Nat, s.heap.size ≤ q → A q := fun q h => by rw [← hAe]; exact Or.inr h
  have hS : va_S A s.heap s.heap [] := va_S.rf
  unfold f_L_again at hf
  have hl := lv_entry ([.ref (a 0), .ref o]) (n := 3) (Nat.le_of_ble_eq_true rfl)
  rw [lg_entry_eq]
  generalize (lg_sl ([.ref (a 0), .ref o]) ++ List.replicate (3 - (lg_sl ([.ref (a 0), .ref o])).length) Slot.unset).toArray = ls at hl ⊢
  have hl : lv_has ls 3 [(0, .ref (a 0)), (1, .ref o)] := hl
  obtain ⟨r9, hr9, hf⟩ := ob hf
  refine lv_aload_n hx hb dL_again_0 rfl (lv_at hl 1 rfl) ?_
  refine lv_iconst (v := 0) hx hb dL_again_1 (by decide) ?_
  refine lv_aload_n hx hb dL_again_2 rfl (lv_at hl 0 rfl) ?_
  refine zk_x (vx_runV (As := []) (rest := [.int 0, .ref o]) ⟨hx, hb, hml, hown, hts⟩ (c_X6_again l hst9 g a v r9 hr9 _) (zcVg hw0 zm3_210 zm3_213 zm1_1 zm3_211 zm3_212 hd_X6_again rfl rfl ⟨Nat.le_of_ble_eq_true rfl, Nat.le_of_ble_eq_true rfl⟩) ⟨zblindX, zrecvX hK hP (ci := 6) rfl rfl, zpreX hK hKx hZs hP hD hS hA⟩ rfl rfl hl.1 rfl (lv_room (Nat.le_of_ble_eq_true rfl)) dL_again_3 ⟨Nat.le_of_ble_eq_true rfl, Nat.le_of_ble_eq_true rfl⟩) hP hD hS hA (fun q => rfl) (fun k ce q9 H locs e9 hP hD hS h1 h2 h3 => ?_) (fun q H locs e9 hP hD hS => ?_)
  · subst e9
    by_cases hk9 : k = 2
    · subst hk9
      refine vx_catch hown [] ⟨0, 8, 11, 15⟩ [] htb (fun z hz => absurd hz List.not_mem_nil) rfl (by decide) (hw0 _ zm3_53) (zcastX rfl (by decide +kernel) hKx) h1 h2 h3 ?_
      refine lv_astore_n (lv' := [(2, .ref q9), (0, .ref (a 0)), (1, .ref o)]) hx hb dL_again_11 rfl hl (by decide) rfl (fun ls hl => ?_)
      refine lv_iconst (v := 1) hx hb dL_again_12 (by decide) ?_
      have hR : ((1, v, F) : Int32 × CV × FJ) = r := Option.some.inj (oi hf rfl)
      subst hR
      refine W.widen (k := 1) (n := 6) (Nat.le_refl _) (Nat.le_refl _) ?_
      exact vx_ret (W.iret (v := 1) hx hb hr0 (fun t ht hW => ⟨⟨1, (), rfl, rfl, by rw [ht]; exact hP, hD⟩, hS.F ht⟩) hS.2.2 dL_again_13)
    · have hf := oe hf hk9
      exact absurd hf (by simp)
  · subst e9
    refine lv_i2l (v := (Int32.toInt64 q.1)) hx hb dL_again_6 rfl ?_
    refine zlast_ (f := F) (k := 0) (x := Int32.toInt64 q.1) hx hb hK.1 hP hD hS 112 2 rfl rfl (zin_vp (i := 0) (n := 1) rfl) rfl dL_again_7 (fun H locs hP hD hS => ?_)
    have hR : ((0, q.2, vp_updL F 0 (Int32.toInt64 q.1)) : Int32 × CV × FJ) = r := Option.some.inj hf
    rw [zset_last (by rfl)] at hP hD
    refine lv_goto (tgt := 14) hx hb dL_again_8 (by decide) ?_
    refine lv_iconst (v := 0) hx hb dL_again_14 (by decide) ?_
    subst hR
    refine W.widen (k := 1) (n := 6) (Nat.le_refl _) (Nat.le_refl _) ?_
    exact vx_ret (W.iret (v := 0) hx hb hr0 (fun t ht hW => ⟨⟨0, (), rfl, rfl, by rw [ht]; exact hP, hD⟩, hS.F ht⟩) hS.2.2 dL_again_15)
theorem hd_L_element : yL_element.cls ≠ "java/lang/invoke/MethodHandle" ∧ yL_element.cls ≠ "java/lang/invoke/VarHandle" ∧ (parseMethodDescriptor yL_element.desc).map (fun d => d.parameters.length) = some 4 := by decide +kernel
def f_L_element (v : CV) (p0 : Int32) (p1 : Int32) (F : FJ) : Option (Int32 × CV × FJ) := (f_X6_element v p0 p1).bind (fun r => match r with | .inl k => if k = 3 then some (1, v, F) else if k = 1 then some (2, v, F) else none | .inr q => some (0, v, vp_updL F 0 (Int32.toInt64 q)))
set_option maxHeartbeats 4000000 in
set_option maxRecDepth 100000 in
theorem c_L_element (l : Launch) (hst9 : l.stackTraces = false) (g : zG) (a : Nat → Nat) (o : Nat) (v : CV) (p0 : Int32) (p1 : Int32) (F : FJ) (r : Int32 × CV × FJ) (hf : f_L_element v p0 p1 F = some r) : zML zNF zNM l yL_element (zwH yL_element cL_element 5 (some .int) [(0, 10, 13, 25), (0, 10, 17, 13)]) ({ frames := 7, cells := 1, slots := 6, locals := 129 } : Room) g [.ref (a 0), .int p0, .int p1, .ref o] a o v F r := by
  intro sz
  refine vx_ofWH (cc := cL_element) (maxL := 5) (ret := (some .int)) (hh := [(0, 10, 13, 25), (0, 10, 17, 13)]) (by decide) rfl ?_
  intro p e s m args below meth c s₁ B hml hv
  obtain ⟨rfl, ⟨⟨hsz, hP, hK, hD0⟩, hKx, hZs⟩, hNc⟩ := hv
  have hx := B.exec
  have hb := B.bytes
  have hr0 := B.returns
  have hts := atoms_spec (ws := (zwH yL_element cL_element 5 (some .int) [(0, 10, 13, 25), (0, 10, 17, 13)])) B.pre
  have htb : c.exceptionTable.toList = [⟨0, 10, 13, 25⟩, ⟨0, 10, 17, 13⟩] := vx_table (x := yL_element) B (hts _ List.mem_cons_self)
  have hw0 : ∀ w ∈ zW, w.before ([.ref (a 0), .int p0, .int p1, .ref o] : List Value).toArray s = true := fun w h => hts w (List.mem_cons_of_mem _ h)
  have hown : s.vm.findClass RL = some m.cls := findClass_of_methodNamed B.named
  have hlocks := B.notSynchronized
  subst hsz
  have hD := hD0.self (sz := s.heap.size)
  generalize hAe : va_A (zX6 g a v ++ [(o, .inl (g.2.2.2, 1, .inr (.inl F)))]) s.heap.size = A at hD hZs ⊢
  have hA : ∀ q : Nat, s.heap.size ≤ q → A q := fun q h => by rw [← hAe]; exact Or.inr h
  have hS : va_S A s.heap s.heap [] := va_S.rf
  unfold f_L_element at hf
  have hl := lv_entry ([.ref (a 0), .int p0, .int p1, .ref o]) (n := 5) (Nat.le_of_ble_eq_true rfl)
  rw [lg_entry_eq]
  generalize (lg_sl ([.ref (a 0), .int p0, .int p1, .ref o]) ++ List.replicate (5 - (lg_sl ([.ref (a 0), .int p0, .int p1, .ref o])).length) Slot.unset).toArray = ls at hl ⊢
  have hl : lv_has ls 5 [(0, .ref (a 0)), (1, .int p0), (2, .int p1), (3, .ref o)] := hl
  obtain ⟨r9, hr9, hf⟩ := ob hf
  refine lv_aload_n hx hb dL_element_0 rfl (lv_at hl 3 rfl) ?_
  refine lv_iconst (v := 0) hx hb dL_element_1 (by decide) ?_
  refine lv_aload_n hx hb dL_element_2 rfl (lv_at hl 0 rfl) ?_
  refine lv_iload_n hx hb dL_element_3 rfl (lv_at hl 1 rfl) ?_
  refine lv_iload_n hx hb dL_element_4 rfl (lv_at hl 2 rfl) ?_
  refine zk_x (vx_runV (As := [.int p0, .int p1]) (rest := [.int 0, .ref o]) ⟨hx, hb, hml, hown, hts⟩ (c_X6_element l hst9 g a v p0 p1 r9 hr9 _) (zcVg hw0 zm3_219 zm3_222 zm1_1 zm3_220 zm3_221 hd_X6_element rfl rfl ⟨Nat.le_of_ble_eq_true rfl, Nat.le_of_ble_eq_true rfl⟩) ⟨zblindX, zrecvX hK hP (ci := 6) rfl rfl, zpreX hK hKx hZs hP hD hS hA⟩ rfl rfl hl.1 rfl (lv_room (Nat.le_of_ble_eq_true rfl)) dL_element_5 ⟨Nat.le_of_ble_eq_true rfl, Nat.le_of_ble_eq_true rfl⟩) hP hD hS hA (fun q => rfl) (fun k ce q9 H locs e9 hP hD hS h1 h2 h3 => ?_) (fun q H locs e9 hP hD hS => ?_)
  · subst e9
    by_cases hk9 : k = 3
    · subst hk9
      refine vx_catch hown [] ⟨0, 10, 13, 25⟩ [⟨0, 10, 17, 13⟩] htb (fun z hz => absurd hz List.not_mem_nil) rfl (by decide) (hw0 _ zm3_157) (zcastX rfl (by decide +kernel) hKx) h1 h2 h3 ?_
      refine lv_astore (lv' := [(4, .ref q9), (0, .ref (a 0)), (1, .int p0), (2, .int p1), (3, .ref o)]) hx hb dL_element_13 hl (by decide) rfl (fun ls hl => ?_)
      refine lv_iconst (v := 1) hx hb dL_element_15 (by decide) ?_
      have hR : ((1, v, F) : Int32 × CV × FJ) = r := Option.some.inj (oi hf rfl)
      subst hR
      refine W.widen (k := 1) (n := 6) (Nat.le_refl _) (Nat.le_refl _) ?_
      exact vx_ret (W.iret (v := 1) hx hb hr0 (fun t ht hW => ⟨⟨1, (), rfl, rfl, by rw [ht]; exact hP, hD⟩, hS.F ht⟩) hS.2.2 dL_element_16)
    · have hf := oe hf hk9
      by_cases hk9 : k = 1
      · subst hk9
        refine vx_catch hown [⟨0, 10, 13, 25⟩] ⟨0, 10, 17, 13⟩ [] htb (fun z hz => by simp only [List.mem_cons, List.not_mem_nil, or_false] at hz; rcases hz with rfl <;> first | (exact Or.inr ⟨by decide, "java/lang/IndexOutOfBoundsException", hw0 _ zm3_157, hNc ("java/lang/IllegalArgumentException", "java/lang/IndexOutOfBoundsException") (by decide +kernel)⟩)) rfl (by decide) (hw0 _ zm3_52) (zcastX rfl (by decide +kernel) hKx) h1 h2 h3 ?_
        refine lv_astore (lv' := [(4, .ref q9), (0, .ref (a 0)), (1, .int p0), (2, .int p1), (3, .ref o)]) hx hb dL_element_17 hl (by decide) rfl (fun ls hl => ?_)
        refine lv_iconst (v := 2) hx hb dL_element_19 (by decide) ?_
        have hR : ((2, v, F) : Int32 × CV × FJ) = r := Option.some.inj (oi hf rfl)
        subst hR
        refine W.widen (k := 1) (n := 6) (Nat.le_refl _) (Nat.le_refl _) ?_
        exact vx_ret (W.iret (v := 2) hx hb hr0 (fun t ht hW => ⟨⟨2, (), rfl, rfl, by rw [ht]; exact hP, hD⟩, hS.F ht⟩) hS.2.2 dL_element_20)
      · have hf := oe hf hk9
        exact absurd hf (by simp)
  · subst e9
    refine lv_i2l (v := (Int32.toInt64 q)) hx hb dL_element_8 rfl ?_
    refine zlast_ (f := F) (k := 0) (x := Int32.toInt64 q) hx hb hK.1 hP hD hS 112 2 rfl rfl (zin_vp (i := 0) (n := 1) rfl) rfl dL_element_9 (fun H locs hP hD hS => ?_)
    have hR : ((0, v, vp_updL F 0 (Int32.toInt64 q)) : Int32 × CV × FJ) = r := Option.some.inj hf
    rw [zset_last (by rfl)] at hP hD
    refine lv_goto (tgt := 21) hx hb dL_element_10 (by decide) ?_
    refine lv_iconst (v := 0) hx hb dL_element_21 (by decide) ?_
    subst hR
    refine W.widen (k := 1) (n := 6) (Nat.le_refl _) (Nat.le_refl _) ?_
    exact vx_ret (W.iret (v := 0) hx hb hr0 (fun t ht hW => ⟨⟨0, (), rfl, rfl, by rw [ht]; exact hP, hD⟩, hS.F ht⟩) hS.2.2 dL_element_22)
theorem hd_L_filler : yL_filler.cls ≠ "java/lang/invoke/MethodHandle" ∧ yL_filler.cls ≠ "java/lang/invoke/VarHandle" ∧ (parseMethodDescriptor yL_filler.desc).map (fun d => d.parameters.length) = some 4 := by decide +kernel
def f_L_filler (v : CV) (p0 : Int32) (p1 : Int32) (F : FJ) : Option (Int32 × CV × FJ) := (f_X6_filler v p0 p1).bind (fun r => match r with | .inl k => if k = 3 then some (1, v, F) else if k = 1 then some (2, v, F) else none | .inr q => some (0, v, vp_updL F 0 (Int32.toInt64 q)))
set_option maxHeartbeats 4000000 in
set_option maxRecDepth 100000 in
theorem c_L_filler (l : Launch) (hst9 : l.stackTraces = false) (g : zG) (a : Nat → Nat) (o : Nat) (v : CV) (p0 : Int32) (p1 : Int32) (F : FJ) (r : Int32 × CV × FJ) (hf : f_L_filler v p0 p1 F = some r) : zML zNF zNM l yL_filler (zwH yL_filler cL_filler 5 (some .int) [(0, 10, 13, 25), (0, 10, 17, 13)]) ({ frames := 7, cells := 1, slots := 6, locals := 122 } : Room) g [.ref (a 0), .int p0, .int p1, .ref o] a o v F r := by
  intro sz
  refine vx_ofWH (cc := cL_filler) (maxL := 5) (ret := (some .int)) (hh := [(0, 10, 13, 25), (0, 10, 17, 13)]) (by decide) rfl ?_
  intro p e s m args below meth c s₁ B hml hv
  obtain ⟨rfl, ⟨⟨hsz, hP, hK, hD0⟩, hKx, hZs⟩, hNc⟩ := hv
  have hx := B.exec
  have hb := B.bytes
  have hr0 := B.returns
  have hts := atoms_spec (ws := (zwH yL_filler cL_filler 5 (some .int) [(0, 10, 13, 25), (0, 10, 17, 13)])) B.pre
  have htb : c.exceptionTable.toList = [⟨0, 10, 13, 25⟩, ⟨0, 10, 17, 13⟩] := vx_table (x := yL_filler) B (hts _ List.mem_cons_self)
  have hw0 : ∀ w ∈ zW, w.before ([.ref (a 0), .int p0, .int p1, .ref o] : List Value).toArray s = true := fun w h => hts w (List.mem_cons_of_mem _ h)
  have hown : s.vm.findClass RL = some m.cls := findClass_of_methodNamed B.named
  have hlocks := B.notSynchronized
  subst hsz
  have hD := hD0.self (sz := s.heap.size)
  generalize hAe : va_A (zX6 g a v ++ [(o, .inl (g.2.2.2, 1, .inr (.inl F)))]) s.heap.size = A at hD hZs ⊢
  have hA : ∀ q : Nat, s.heap.size ≤ q → A q := fun q h => by rw [← hAe]; exact Or.inr h
  have hS : va_S A s.heap s.heap [] := va_S.rf
  unfold f_L_filler at hf
  have hl := lv_entry ([.ref (a 0), .int p0, .int p1, .ref o]) (n := 5) (Nat.le_of_ble_eq_true rfl)
  rw [lg_entry_eq]
  generalize (lg_sl ([.ref (a 0), .int p0, .int p1, .ref o]) ++ List.replicate (5 - (lg_sl ([.ref (a 0), .int p0, .int p1, .ref o])).length) Slot.unset).toArray = ls at hl ⊢
  have hl : lv_has ls 5 [(0, .ref (a 0)), (1, .int p0), (2, .int p1), (3, .ref o)] := hl
  obtain ⟨r9, hr9, hf⟩ := ob hf
  refine lv_aload_n hx hb dL_filler_0 rfl (lv_at hl 3 rfl) ?_
  refine lv_iconst (v := 0) hx hb dL_filler_1 (by decide) ?_
  refine lv_aload_n hx hb dL_filler_2 rfl (lv_at hl 0 rfl) ?_
  refine lv_iload_n hx hb dL_filler_3 rfl (lv_at hl 1 rfl) ?_
  refine lv_iload_n hx hb dL_filler_4 rfl (lv_at hl 2 rfl) ?_
  refine zk_x (vx_runV (As := [.int p0, .int p1]) (rest := [.int 0, .ref o]) ⟨hx, hb, hml, hown, hts⟩ (c_X6_filler l hst9 g a v p0 p1 r9 hr9 _) (zcVg hw0 zm3_227 zm3_230 zm1_1 zm3_228 zm3_229 hd_X6_filler rfl rfl ⟨Nat.le_of_ble_eq_true rfl, Nat.le_of_ble_eq_true rfl⟩) ⟨zblindX, zrecvX hK hP (ci := 6) rfl rfl, zpreX hK hKx hZs hP hD hS hA⟩ rfl rfl hl.1 rfl (lv_room (Nat.le_of_ble_eq_true rfl)) dL_filler_5 ⟨Nat.le_of_ble_eq_true rfl, Nat.le_of_ble_eq_true rfl⟩) hP hD hS hA (fun q => rfl) (fun k ce q9 H locs e9 hP hD hS h1 h2 h3 => ?_) (fun q H locs e9 hP hD hS => ?_)
  · subst e9
    by_cases hk9 : k = 3
    · subst hk9
      refine vx_catch hown [] ⟨0, 10, 13, 25⟩ [⟨0, 10, 17, 13⟩] htb (fun z hz => absurd hz List.not_mem_nil) rfl (by decide) (hw0 _ zm3_157) (zcastX rfl (by decide +kernel) hKx) h1 h2 h3 ?_
      refine lv_astore (lv' := [(4, .ref q9), (0, .ref (a 0)), (1, .int p0), (2, .int p1), (3, .ref o)]) hx hb dL_filler_13 hl (by decide) rfl (fun ls hl => ?_)
      refine lv_iconst (v := 1) hx hb dL_filler_15 (by decide) ?_
      have hR : ((1, v, F) : Int32 × CV × FJ) = r := Option.some.inj (oi hf rfl)
      subst hR
      refine W.widen (k := 1) (n := 6) (Nat.le_refl _) (Nat.le_refl _) ?_
      exact vx_ret (W.iret (v := 1) hx hb hr0 (fun t ht hW => ⟨⟨1, (), rfl, rfl, by rw [ht]; exact hP, hD⟩, hS.F ht⟩) hS.2.2 dL_filler_16)
    · have hf := oe hf hk9
      by_cases hk9 : k = 1
      · subst hk9
        refine vx_catch hown [⟨0, 10, 13, 25⟩] ⟨0, 10, 17, 13⟩ [] htb (fun z hz => by simp only [List.mem_cons, List.not_mem_nil, or_false] at hz; rcases hz with rfl <;> first | (exact Or.inr ⟨by decide, "java/lang/IndexOutOfBoundsException", hw0 _ zm3_157, hNc ("java/lang/IllegalArgumentException", "java/lang/IndexOutOfBoundsException") (by decide +kernel)⟩)) rfl (by decide) (hw0 _ zm3_52) (zcastX rfl (by decide +kernel) hKx) h1 h2 h3 ?_
        refine lv_astore (lv' := [(4, .ref q9), (0, .ref (a 0)), (1, .int p0), (2, .int p1), (3, .ref o)]) hx hb dL_filler_17 hl (by decide) rfl (fun ls hl => ?_)
        refine lv_iconst (v := 2) hx hb dL_filler_19 (by decide) ?_
        have hR : ((2, v, F) : Int32 × CV × FJ) = r := Option.some.inj (oi hf rfl)
        subst hR
        refine W.widen (k := 1) (n := 6) (Nat.le_refl _) (Nat.le_refl _) ?_
        exact vx_ret (W.iret (v := 2) hx hb hr0 (fun t ht hW => ⟨⟨2, (), rfl, rfl, by rw [ht]; exact hP, hD⟩, hS.F ht⟩) hS.2.2 dL_filler_20)
      · have hf := oe hf hk9
        exact absurd hf (by simp)
  · subst e9
    refine lv_i2l (v := (Int32.toInt64 q)) hx hb dL_filler_8 rfl ?_
    refine zlast_ (f := F) (k := 0) (x := Int32.toInt64 q) hx hb hK.1 hP hD hS 112 2 rfl rfl (zin_vp (i := 0) (n := 1) rfl) rfl dL_filler_9 (fun H locs hP hD hS => ?_)
    have hR : ((0, v, vp_updL F 0 (Int32.toInt64 q)) : Int32 × CV × FJ) = r := Option.some.inj hf
    rw [zset_last (by rfl)] at hP hD
    refine lv_goto (tgt := 21) hx hb dL_filler_10 (by decide) ?_
    refine lv_iconst (v := 0) hx hb dL_filler_21 (by decide) ?_
    subst hR
    refine W.widen (k := 1) (n := 6) (Nat.le_refl _) (Nat.le_refl _) ?_
    exact vx_ret (W.iret (v := 0) hx hb hr0 (fun t ht hW => ⟨⟨0, (), rfl, rfl, by rw [ht]; exact hP, hD⟩, hS.F ht⟩) hS.2.2 dL_filler_22)
theorem hd_L_value : yL_value.cls ≠ "java/lang/invoke/MethodHandle" ∧ yL_value.cls ≠ "java/lang/invoke/VarHandle" ∧ (parseMethodDescriptor yL_value.desc).map (fun d => d.parameters.length) = some 3 := by decide +kernel
def f_L_value (v : CV) (p0 : Int32) (F : FJ) : Option (Int32 × CV × FJ) := (f_X6_value v p0).bind (fun r => match r with | .inl k => if k = 1 then some (1, v, F) else none | .inr q => some (0, v, vp_updL F 0 (Int32.toInt64 q)))
set_option maxHeartbeats 4000000 in
set_option maxRecDepth 100000 in
theorem c_L_value (l : Launch) (hst9 : l.stackTraces = false) (g : zG) (a : Nat → Nat) (o : Nat) (v : CV) (p0 : Int32) (F : FJ) (r : Int32 × CV × FJ) (hf : f_L_value v p0 F = some r) : zML zNF zNM l yL_value (zwH yL_value cL_value 4 (some .int) [(0, 9, 12, 13)]) ({ frames := 7, cells := 1, slots := 6, locals := 121 } : Room) g [.ref (a 0), .int p0, .ref o] a o v F r := by
  intro sz
  refine vx_ofWH (cc := cL_value) (maxL := 4) (ret := (some .int)) (hh := [(0, 9, 12, 13)]) (by decide) rfl ?_
  intro p e s m args below meth c s₁ B hml hv
  obtain ⟨rfl, ⟨⟨hsz, hP, hK, hD0⟩, hKx, hZs⟩, hNc⟩ := hv
  have hx := B.exec
  have hb := B.bytes
  have hr0 := B.returns
  have hts := atoms_spec (ws := (zwH yL_value cL_value 4 (some .int) [(0, 9, 12, 13)])) B.pre
  have htb : c.exceptionTable.toList = [⟨0, 9, 12, 13⟩] := vx_table (x := yL_value) B (hts _ List.mem_cons_self)
  have hw0 : ∀ w ∈ zW, w.before ([.ref (a 0), .int p0, .ref o] : List Value).toArray s = true := fun w h => hts w (List.mem_cons_of_mem _ h)
  have hown : s.vm.findClass RL = some m.cls := findClass_of_methodNamed B.named
  have hlocks := B.notSynchronized
  subst hsz
  have hD := hD0.self (sz := s.heap.size)
  generalize hAe : va_A (zX6 g a v ++ [(o, .inl (g.2.2.2, 1, .inr (.inl F)))]) s.heap.size = A at hD hZs ⊢
  have hA : ∀ q : Nat, s.heap.size ≤ q → A q := fun q h => by rw [← hAe]; exact Or.inr h
  have hS : va_S A s.heap s.heap [] := va_S.rf
  unfold f_L_value at hf
  have hl := lv_entry ([.ref (a 0), .int p0, .ref o]) (n := 4) (Nat.le_of_ble_eq_true rfl)
  rw [lg_entry_eq]
  generalize (lg_sl ([.ref (a 0), .int p0, .ref o]) ++ List.replicate (4 - (lg_sl ([.ref (a 0), .int p0, .ref o])).length) Slot.unset).toArray = ls at hl ⊢
  have hl : lv_has ls 4 [(0, .ref (a 0)), (1, .int p0), (2, .ref o)] := hl
  obtain ⟨r9, hr9, hf⟩ := ob hf
  refine lv_aload_n hx hb dL_value_0 rfl (lv_at hl 2 rfl) ?_
  refine lv_iconst (v := 0) hx hb dL_value_1 (by decide) ?_
  refine lv_aload_n hx hb dL_value_2 rfl (lv_at hl 0 rfl) ?_
  refine lv_iload_n hx hb dL_value_3 rfl (lv_at hl 1 rfl) ?_
  refine zk_x (vx_runV (As := [.int p0]) (rest := [.int 0, .ref o]) ⟨hx, hb, hml, hown, hts⟩ (c_X6_value l hst9 g a v p0 r9 hr9 _) (zcVg hw0 zm3_236 zm3_239 zm1_1 zm3_237 zm3_238 hd_X6_value rfl rfl ⟨Nat.le_of_ble_eq_true rfl, Nat.le_of_ble_eq_true rfl⟩) ⟨zblindX, zrecvX hK hP (ci := 6) rfl rfl, zpreX hK hKx hZs hP hD hS hA⟩ rfl rfl hl.1 rfl (lv_room (Nat.le_of_ble_eq_true rfl)) dL_value_4 ⟨Nat.le_of_ble_eq_true rfl, Nat.le_of_ble_eq_true rfl⟩) hP hD hS hA (fun q => rfl) (fun k ce q9 H locs e9 hP hD hS h1 h2 h3 => ?_) (fun q H locs e9 hP hD hS => ?_)
  · subst e9
    by_cases hk9 : k = 1
    · subst hk9
      refine vx_catch hown [] ⟨0, 9, 12, 13⟩ [] htb (fun z hz => absurd hz List.not_mem_nil) rfl (by decide) (hw0 _ zm3_52) (zcastX rfl (by decide +kernel) hKx) h1 h2 h3 ?_
      refine lv_astore_n (lv' := [(3, .ref q9), (0, .ref (a 0)), (1, .int p0), (2, .ref o)]) hx hb dL_value_12 rfl hl (by decide) rfl (fun ls hl => ?_)
      refine lv_iconst (v := 1) hx hb dL_value_13 (by decide) ?_
      have hR : ((1, v, F) : Int32 × CV × FJ) = r := Option.some.inj (oi hf rfl)
      subst hR
      refine W.widen (k := 1) (n := 6) (Nat.le_refl _) (Nat.le_refl _) ?_
      exact vx_ret (W.iret (v := 1) hx hb hr0 (fun t ht hW => ⟨⟨1, (), rfl, rfl, by rw [ht]; exact hP, hD⟩, hS.F ht⟩) hS.2.2 dL_value_14)
    · have hf := oe hf hk9
      exact absurd hf (by simp)
  · subst e9
    refine lv_i2l (v := (Int32.toInt64 q)) hx hb dL_value_7 rfl ?_
    refine zlast_ (f := F) (k := 0) (x := Int32.toInt64 q) hx hb hK.1 hP hD hS 112 2 rfl rfl (zin_vp (i := 0) (n := 1) rfl) rfl dL_value_8 (fun H locs hP hD hS => ?_)
    have hR : ((0, v, vp_updL F 0 (Int32.toInt64 q)) : Int32 × CV × FJ) = r := Option.some.inj hf
    rw [zset_last (by rfl)] at hP hD
    refine lv_goto (tgt := 15) hx hb dL_value_9 (by decide) ?_
    refine lv_iconst (v := 0) hx hb dL_value_15 (by decide) ?_
    subst hR
    refine W.widen (k := 1) (n := 6) (Nat.le_refl _) (Nat.le_refl _) ?_
    exact vx_ret (W.iret (v := 0) hx hb hr0 (fun t ht hW => ⟨⟨0, (), rfl, rfl, by rw [ht]; exact hP, hD⟩, hS.F ht⟩) hS.2.2 dL_value_16)
theorem hd_L_entry : yL_entry.cls ≠ "java/lang/invoke/MethodHandle" ∧ yL_entry.cls ≠ "java/lang/invoke/VarHandle" ∧ (parseMethodDescriptor yL_entry.desc).map (fun d => d.parameters.length) = some 4 := by decide +kernel
def f_L_entry (v : CV) (p0 : Int32) (p1 : Int32) (F : FJ) : Option (Int32 × CV × FJ) := (f_X6_entry v p0 p1).bind (fun r => match r with | .inl k => if k = 3 then some (1, v, F) else if k = 1 then some (2, v, F) else none | .inr q => some (0, v, vp_updL F 0 (Int32.toInt64 q)))
set_option maxHeartbeats 4000000 in
set_option maxRecDepth 100000 in
theorem c_L_entry (l : Launch) (hst9 : l.stackTraces = false) (g : zG) (a : Nat → Nat) (o : Nat) (v : CV) (p0 : Int32) (p1 : Int32) (F : FJ) (r : Int32 × CV × FJ) (hf : f_L_entry v p0 p1 F = some r) : zML zNF zNM l yL_entry (zwH yL_entry cL_entry 5 (some .int) [(0, 10, 13, 25), (0, 10, 17, 13)]) ({ frames := 7, cells := 1, slots := 6, locals := 122 } : Room) g [.ref (a 0), .int p0, .int p1, .ref o] a o v F r := by
  intro sz
  refine vx_ofWH (cc := cL_entry) (maxL := 5) (ret := (some .int)) (hh := [(0, 10, 13, 25), (0, 10, 17, 13)]) (by decide) rfl ?_
  intro p e s m args below meth c s₁ B hml hv
  obtain ⟨rfl, ⟨⟨hsz, hP, hK, hD0⟩, hKx, hZs⟩, hNc⟩ := hv
  have hx := B.exec
  have hb := B.bytes
  have hr0 := B.returns
  have hts := atoms_spec (ws := (zwH yL_entry cL_entry 5 (some .int) [(0, 10, 13, 25), (0, 10, 17, 13)])) B.pre
  have htb : c.exceptionTable.toList = [⟨0, 10, 13, 25⟩, ⟨0, 10, 17, 13⟩] := vx_table (x := yL_entry) B (hts _ List.mem_cons_self)
  have hw0 : ∀ w ∈ zW, w.before ([.ref (a 0), .int p0, .int p1, .ref o] : List Value).toArray s = true := fun w h => hts w (List.mem_cons_of_mem _ h)
  have hown : s.vm.findClass RL = some m.cls := findClass_of_methodNamed B.named
  have hlocks := B.notSynchronized
  subst hsz
  have hD := hD0.self (sz := s.heap.size)
  generalize hAe : va_A (zX6 g a v ++ [(o, .inl (g.2.2.2, 1, .inr (.inl F)))]) s.heap.size = A at hD hZs ⊢
  have hA : ∀ q : Nat, s.heap.size ≤ q → A q := fun q h => by rw [← hAe]; exact Or.inr h
  have hS : va_S A s.heap s.heap [] := va_S.rf
  unfold f_L_entry at hf
  have hl := lv_entry ([.ref (a 0), .int p0, .int p1, .ref o]) (n := 5) (Nat.le_of_ble_eq_true rfl)
  rw [lg_entry_eq]
  generalize (lg_sl ([.ref (a 0), .int p0, .int p1, .ref o]) ++ List.replicate (5 - (lg_sl ([.ref (a 0), .int p0, .int p1, .ref o])).length) Slot.unset).toArray = ls at hl ⊢
  have hl : lv_has ls 5 [(0, .ref (a 0)), (1, .int p0), (2, .int p1), (3, .ref o)] := hl
  obtain ⟨r9, hr9, hf⟩ := ob hf
  refine lv_aload_n hx hb dL_entry_0 rfl (lv_at hl 3 rfl) ?_
  refine lv_iconst (v := 0) hx hb dL_entry_1 (by decide) ?_
  refine lv_aload_n hx hb dL_entry_2 rfl (lv_at hl 0 rfl) ?_
  refine lv_iload_n hx hb dL_entry_3 rfl (lv_at hl 1 rfl) ?_
  refine lv_iload_n hx hb dL_entry_4 rfl (lv_at hl 2 rfl) ?_
  refine zk_x (vx_runV (As := [.int p0, .int p1]) (rest := [.int 0, .ref o]) ⟨hx, hb, hml, hown, hts⟩ (c_X6_entry l hst9 g a v p0 p1 r9 hr9 _) (zcVg hw0 zm4_3 zm4_6 zm1_1 zm4_4 zm4_5 hd_X6_entry rfl rfl ⟨Nat.le_of_ble_eq_true rfl, Nat.le_of_ble_eq_true rfl⟩) ⟨zblindX, zrecvX hK hP (ci := 6) rfl rfl, zpreX hK hKx hZs hP hD hS hA⟩ rfl rfl hl.1 rfl (lv_room (Nat.le_of_ble_eq_true rfl)) dL_entry_5 ⟨Nat.le_of_ble_eq_true rfl, Nat.le_of_ble_eq_true rfl⟩) hP hD hS hA (fun q => rfl) (fun k ce q9 H locs e9 hP hD hS h1 h2 h3 => ?_) (fun q H locs e9 hP hD hS => ?_)
  · subst e9
    by_cases hk9 : k = 3
    · subst hk9
      refine vx_catch hown [] ⟨0, 10, 13, 25⟩ [⟨0, 10, 17, 13⟩] htb (fun z hz => absurd hz List.not_mem_nil) rfl (by decide) (hw0 _ zm3_157) (zcastX rfl (by decide +kernel) hKx) h1 h2 h3 ?_
      refine lv_astore (lv' := [(4, .ref q9), (0, .ref (a 0)), (1, .int p0), (2, .int p1), (3, .ref o)]) hx hb dL_entry_13 hl (by decide) rfl (fun ls hl => ?_)
      refine lv_iconst (v := 1) hx hb dL_entry_15 (by decide) ?_
      have hR : ((1, v, F) : Int32 × CV × FJ) = r := Option.some.inj (oi hf rfl)
      subst hR
      refine W.widen (k := 1) (n := 6) (Nat.le_refl _) (Nat.le_refl _) ?_
      exact vx_ret (W.iret (v := 1) hx hb hr0 (fun t ht hW => ⟨⟨1, (), rfl, rfl, by rw [ht]; exact hP, hD⟩, hS.F ht⟩) hS.2.2 dL_entry_16)
    · have hf := oe hf hk9
      by_cases hk9 : k = 1
      · subst hk9
        refine vx_catch hown [⟨0, 10, 13, 25⟩] ⟨0, 10, 17, 13⟩ [] htb (fun z hz => by simp only [List.mem_cons, List.not_mem_nil, or_false] at hz; rcases hz with rfl <;> first | (exact Or.inr ⟨by decide, "java/lang/IndexOutOfBoundsException", hw0 _ zm3_157, hNc ("java/lang/IllegalArgumentException", "java/lang/IndexOutOfBoundsException") (by decide +kernel)⟩)) rfl (by decide) (hw0 _ zm3_52) (zcastX rfl (by decide +kernel) hKx) h1 h2 h3 ?_
        refine lv_astore (lv' := [(4, .ref q9), (0, .ref (a 0)), (1, .int p0), (2, .int p1), (3, .ref o)]) hx hb dL_entry_17 hl (by decide) rfl (fun ls hl => ?_)
        refine lv_iconst (v := 2) hx hb dL_entry_19 (by decide) ?_
        have hR : ((2, v, F) : Int32 × CV × FJ) = r := Option.some.inj (oi hf rfl)
        subst hR
        refine W.widen (k := 1) (n := 6) (Nat.le_refl _) (Nat.le_refl _) ?_
        exact vx_ret (W.iret (v := 2) hx hb hr0 (fun t ht hW => ⟨⟨2, (), rfl, rfl, by rw [ht]; exact hP, hD⟩, hS.F ht⟩) hS.2.2 dL_entry_20)
      · have hf := oe hf hk9
        exact absurd hf (by simp)
  · subst e9
    refine lv_i2l (v := (Int32.toInt64 q)) hx hb dL_entry_8 rfl ?_
    refine zlast_ (f := F) (k := 0) (x := Int32.toInt64 q) hx hb hK.1 hP hD hS 112 2 rfl rfl (zin_vp (i := 0) (n := 1) rfl) rfl dL_entry_9 (fun H locs hP hD hS => ?_)
    have hR : ((0, v, vp_updL F 0 (Int32.toInt64 q)) : Int32 × CV × FJ) = r := Option.some.inj hf
    rw [zset_last (by rfl)] at hP hD
    refine lv_goto (tgt := 21) hx hb dL_entry_10 (by decide) ?_
    refine lv_iconst (v := 0) hx hb dL_entry_21 (by decide) ?_
    subst hR
    refine W.widen (k := 1) (n := 6) (Nat.le_refl _) (Nat.le_refl _) ?_
    exact vx_ret (W.iret (v := 0) hx hb hr0 (fun t ht hW => ⟨⟨0, (), rfl, rfl, by rw [ht]; exact hP, hD⟩, hS.F ht⟩) hS.2.2 dL_entry_22)
theorem hd_L_backTime : yL_backTime.cls ≠ "java/lang/invoke/MethodHandle" ∧ yL_backTime.cls ≠ "java/lang/invoke/VarHandle" ∧ (parseMethodDescriptor yL_backTime.desc).map (fun d => d.parameters.length) = some 3 := by decide +kernel
def f_L_backTime (v : CV) (p0 : Int32) (F : FJ) : Option (Int32 × CV × FJ) := (f_X6_backTime v p0).bind (fun r => match r with | .inl k => if k = 3 then some (1, v, F) else none | .inr q => some (0, v, vp_updL F 0 (Int32.toInt64 q)))
set_option maxHeartbeats 4000000 in
set_option maxRecDepth 100000 in
theorem c_L_backTime (l : Launch) (hst9 : l.stackTraces = false) (g : zG) (a : Nat → Nat) (o : Nat) (v : CV) (p0 : Int32) (F : FJ) (r : Int32 × CV × FJ) (hf : f_L_backTime v p0 F = some r) : zML zNF zNM l yL_backTime (zwH yL_backTime cL_backTime 4 (some .int) [(0, 9, 12, 25)]) ({ frames := 7, cells := 1, slots := 6, locals := 121 } : Room) g [.ref (a 0), .int p0, .ref o] a o v F r := by
  intro sz
  refine vx_ofWH (cc := cL_backTime) (maxL := 4) (ret := (some .int)) (hh := [(0, 9, 12, 25)]) (by decide) rfl ?_
  intro p e s m args below meth c s₁ B hml hv
  obtain ⟨rfl, ⟨⟨hsz, hP, hK, hD0⟩, hKx, hZs⟩, hNc⟩ := hv
  have hx := B.exec
  have hb := B.bytes
  have hr0 := B.returns
  have hts := atoms_spec (ws := (zwH yL_backTime cL_backTime 4 (some .int) [(0, 9, 12, 25)])) B.pre
  have htb : c.exceptionTable.toList = [⟨0, 9, 12, 25⟩] := vx_table (x := yL_backTime) B (hts _ List.mem_cons_self)
  have hw0 : ∀ w ∈ zW, w.before ([.ref (a 0), .int p0, .ref o] : List Value).toArray s = true := fun w h => hts w (List.mem_cons_of_mem _ h)
  have hown : s.vm.findClass RL = some m.cls := findClass_of_methodNamed B.named
  have hlocks := B.notSynchronized
  subst hsz
  have hD := hD0.self (sz := s.heap.size)
  generalize hAe : va_A (zX6 g a v ++ [(o, .inl (g.2.2.2, 1, .inr (.inl F)))]) s.heap.size = A at hD hZs ⊢
  have hA : ∀ q : Nat, s.heap.size ≤ q → A q := fun q h => by rw [← hAe]; exact Or.inr h
  have hS : va_S A s.heap s.heap [] := va_S.rf
  unfold f_L_backTime at hf
  have hl := lv_entry ([.ref (a 0), .int p0, .ref o]) (n := 4) (Nat.le_of_ble_eq_true rfl)
  rw [lg_entry_eq]
  generalize (lg_sl ([.ref (a 0), .int p0, .ref o]) ++ List.replicate (4 - (lg_sl ([.ref (a 0), .int p0, .ref o])).length) Slot.unset).toArray = ls at hl ⊢
  have hl : lv_has ls 4 [(0, .ref (a 0)), (1, .int p0), (2, .ref o)] := hl
  obtain ⟨r9, hr9, hf⟩ := ob hf
  refine lv_aload_n hx hb dL_backTime_0 rfl (lv_at hl 2 rfl) ?_
  refine lv_iconst (v := 0) hx hb dL_backTime_1 (by decide) ?_
  refine lv_aload_n hx hb dL_backTime_2 rfl (lv_at hl 0 rfl) ?_
  refine lv_iload_n hx hb dL_backTime_3 rfl (lv_at hl 1 rfl) ?_
  refine zk_x (vx_runV (As := [.int p0]) (rest := [.int 0, .ref o]) ⟨hx, hb, hml, hown, hts⟩ (c_X6_backTime l hst9 g a v p0 r9 hr9 _) (zcVg hw0 zm4_12 zm4_15 zm1_1 zm4_13 zm4_14 hd_X6_backTime rfl rfl ⟨Nat.le_of_ble_eq_true rfl, Nat.le_of_ble_eq_true rfl⟩) ⟨zblindX, zrecvX hK hP (ci := 6) rfl rfl, zpreX hK hKx hZs hP hD hS hA⟩ rfl rfl hl.1 rfl (lv_room (Nat.le_of_ble_eq_true rfl)) dL_backTime_4 ⟨Nat.le_of_ble_eq_true rfl, Nat.le_of_ble_eq_true rfl⟩) hP hD hS hA (fun q => rfl) (fun k ce q9 H locs e9 hP hD hS h1 h2 h3 => ?_) (fun q H locs e9 hP hD hS => ?_)
  · subst e9
    by_cases hk9 : k = 3
    · subst hk9
      refine vx_catch hown [] ⟨0, 9, 12, 25⟩ [] htb (fun z hz => absurd hz List.not_mem_nil) rfl (by decide) (hw0 _ zm3_157) (zcastX rfl (by decide +kernel) hKx) h1 h2 h3 ?_
      refine lv_astore_n (lv' := [(3, .ref q9), (0, .ref (a 0)), (1, .int p0), (2, .ref o)]) hx hb dL_backTime_12 rfl hl (by decide) rfl (fun ls hl => ?_)
      refine lv_iconst (v := 1) hx hb dL_backTime_13 (by decide) ?_
      have hR : ((1, v, F) : Int32 × CV × FJ) = r := Option.some.inj (oi hf rfl)
      subst hR
      refine W.widen (k := 1) (n := 6) (Nat.le_refl _) (Nat.le_refl _) ?_
      exact vx_ret (W.iret (v := 1) hx hb hr0 (fun t ht hW => ⟨⟨1, (), rfl, rfl, by rw [ht]; exact hP, hD⟩, hS.F ht⟩) hS.2.2 dL_backTime_14)
    · have hf := oe hf hk9
      exact absurd hf (by simp)
  · subst e9
    refine lv_i2l (v := (Int32.toInt64 q)) hx hb dL_backTime_7 rfl ?_
    refine zlast_ (f := F) (k := 0) (x := Int32.toInt64 q) hx hb hK.1 hP hD hS 112 2 rfl rfl (zin_vp (i := 0) (n := 1) rfl) rfl dL_backTime_8 (fun H locs hP hD hS => ?_)
    have hR : ((0, v, vp_updL F 0 (Int32.toInt64 q)) : Int32 × CV × FJ) = r := Option.some.inj hf
    rw [zset_last (by rfl)] at hP hD
    refine lv_goto (tgt := 15) hx hb dL_backTime_9 (by decide) ?_
    refine lv_iconst (v := 0) hx hb dL_backTime_15 (by decide) ?_
    subst hR
    refine W.widen (k := 1) (n := 6) (Nat.le_refl _) (Nat.le_refl _) ?_
    exact vx_ret (W.iret (v := 0) hx hb hr0 (fun t ht hW => ⟨⟨0, (), rfl, rfl, by rw [ht]; exact hP, hD⟩, hS.F ht⟩) hS.2.2 dL_backTime_16)
theorem hd_L_beginOf : yL_beginOf.cls ≠ "java/lang/invoke/MethodHandle" ∧ yL_beginOf.cls ≠ "java/lang/invoke/VarHandle" ∧ (parseMethodDescriptor yL_beginOf.desc).map (fun d => d.parameters.length) = some 3 := by decide +kernel
def f_L_beginOf (v : CV) (p0 : Int32) (F : FJ) : Option (Int32 × CV × FJ) := (f_X6_beginOf v p0).bind (fun r => match r with | .inl k => if k = 3 then some (1, v, F) else none | .inr q => some (0, q.2, vp_updL F 0 (Int32.toInt64 q.1)))
set_option maxHeartbeats 4000000 in
set_option maxRecDepth 100000 in
theorem c_L_beginOf (l : Launch) (hst9 : l.stackTraces = false) (g : zG) (a : Nat → Nat) (o : Nat) (v : CV) (p0 : Int32) (F : FJ) (r : Int32 × CV × FJ) (hf : f_L_beginOf v p0 F = some r) : zML zNF zNM l yL_beginOf (zwH yL_beginOf cL_beginOf 4 (some .int) [(0, 9, 12, 25)]) ({ frames := 8, cells := 1, slots := 6, locals := 182 } : Room) g [.ref (a 0), .int p0, .ref o] a o v F r := by
  intro sz
  refine vx_ofWH (cc := cL_beginOf) (maxL := 4) (ret := (some .int)) (hh := [(0, 9, 12, 25)]) (by decide) rfl ?_
  intro p e s m args below meth c s₁ B hml hv
  obtain ⟨rfl, ⟨⟨hsz, hP, hK, hD0⟩, hKx, hZs⟩, hNc⟩ := hv
  have hx := B.exec
  have hb := B.bytes
  have hr0 := B.returns
  have hts := atoms_spec (ws := (zwH yL_beginOf cL_beginOf 4 (some .int) [(0, 9, 12, 25)])) B.pre
  have htb : c.exceptionTable.toList = [⟨0, 9, 12, 25⟩] := vx_table (x := yL_beginOf) B (hts _ List.mem_cons_self)
  have hw0 : ∀ w ∈ zW, w.before ([.ref (a 0), .int p0, .ref o] : List Value).toArray s = true := fun w h => hts w (List.mem_cons_of_mem _ h)
  have hown : s.vm.findClass RL = some m.cls := findClass_of_methodNamed B.named
  have hlocks := B.notSynchronized
  subst hsz
  have hD := hD0.self (sz := s.heap.size)
  generalize hAe : va_A (zX6 g a v ++ [(o, .inl (g.2.2.2, 1, .inr (.inl F)))]) s.heap.size = A at hD hZs ⊢
  have hA : ∀ q : Nat, s.heap.size ≤ q → A q := fun q h => by rw [← hAe]; exact Or.inr h
  have hS : va_S A s.heap s.heap [] := va_S.rf
  unfold f_L_beginOf at hf
  have hl := lv_entry ([.ref (a 0), .int p0, .ref o]) (n := 4) (Nat.le_of_ble_eq_true rfl)
  rw [lg_entry_eq]
  generalize (lg_sl ([.ref (a 0), .int p0, .ref o]) ++ List.replicate (4 - (lg_sl ([.ref (a 0), .int p0, .ref o])).length) Slot.unset).toArray = ls at hl ⊢
  have hl : lv_has ls 4 [(0, .ref (a 0)), (1, .int p0), (2, .ref o)] := hl
  obtain ⟨r9, hr9, hf⟩ := ob hf
  refine lv_aload_n hx hb dL_beginOf_0 rfl (lv_at hl 2 rfl) ?_
  refine lv_iconst (v := 0) hx hb dL_beginOf_1 (by decide) ?_
  refine lv_aload_n hx hb dL_beginOf_2 rfl (lv_at hl 0 rfl) ?_
  refine lv_iload_n hx hb dL_beginOf_3 rfl (lv_at hl 1 rfl) ?_
  refine zk_x (vx_runV (As := [.int p0]) (rest := [.int 0, .ref o]) ⟨hx, hb, hml, hown, hts⟩ (c_X6_beginOf l hst9 g a v p0 r9 hr9 _) (zcVg hw0 zm4_19 zm4_22 zm1_1 zm4_20 zm4_21 hd_X6_beginOf rfl rfl ⟨Nat.le_of_ble_eq_true rfl, Nat.le_of_ble_eq_true rfl⟩) ⟨zblindX, zrecvX hK hP (ci := 6) rfl rfl, zpreX hK hKx hZs hP hD hS hA⟩ rfl rfl hl.1 rfl (lv_room (Nat.le_of_ble_eq_true rfl)) dL_beginOf_4 ⟨Nat.le_of_ble_eq_true rfl, Nat.le_of_ble_eq_true rfl⟩) hP hD hS hA (fun q => rfl) (fun k ce q9 H locs e9 hP hD hS h1 h2 h3 => ?_) (fun q H locs e9 hP hD hS => ?_)
  · subst e9
    by_cases hk9 : k = 3
    · subst hk9
      refine vx_catch hown [] ⟨0, 9, 12, 25⟩ [] htb (fun z hz => absurd hz List.not_mem_nil) rfl (by decide) (hw0 _ zm3_157) (zcastX rfl (by decide +kernel) hKx) h1 h2 h3 ?_
      refine lv_astore_n (lv' := [(3, .ref q9), (0, .ref (a 0)), (1, .int p0), (2, .ref o)]) hx hb dL_beginOf_12 rfl hl (by decide) rfl (fun ls hl => ?_)
      refine lv_iconst (v := 1) hx hb dL_beginOf_13 (by decide) ?_
      have hR : ((1, v, F) : Int32 × CV × FJ) = r := Option.some.inj (oi hf rfl)
      subst hR
      refine W.widen (k := 1) (n := 6) (Nat.le_refl _) (Nat.le_refl _) ?_
      exact vx_ret (W.iret (v := 1) hx hb hr0 (fun t ht hW => ⟨⟨1, (), rfl, rfl, by rw [ht]; exact hP, hD⟩, hS.F ht⟩) hS.2.2 dL_beginOf_14)
    · have hf := oe hf hk9
      exact absurd hf (by simp)
  · subst e9
    refine lv_i2l (v := (Int32.toInt64 q.1)) hx hb dL_beginOf_7 rfl ?_
    refine zlast_ (f := F) (k := 0) (x := Int32.toInt64 q.1) hx hb hK.1 hP hD hS 112 2 rfl rfl (zin_vp (i := 0) (n := 1) rfl) rfl dL_beginOf_8 (fun H locs hP hD hS => ?_)
    have hR : ((0, q.2, vp_updL F 0 (Int32.toInt64 q.1)) : Int32 × CV × FJ) = r := Option.some.inj hf
    rw [zset_last (by rfl)] at hP hD
    refine lv_goto (tgt := 15) hx hb dL_beginOf_9 (by decide) ?_
    refine lv_iconst (v := 0) hx hb dL_beginOf_15 (by decide) ?_
    subst hR
    refine W.widen (k := 1) (n := 6) (Nat.le_refl _) (Nat.le_refl _) ?_
    exact vx_ret (W.iret (v := 0) hx hb hr0 (fun t ht hW => ⟨⟨0, (), rfl, rfl, by rw [ht]; exact hP, hD⟩, hS.F ht⟩) hS.2.2 dL_beginOf_16)
theorem hd_L_choice : yL_choice.cls ≠ "java/lang/invoke/MethodHandle" ∧ yL_choice.cls ≠ "java/lang/invoke/VarHandle" ∧ (parseMethodDescriptor yL_choice.desc).map (fun d => d.parameters.length) = some 3 := by decide +kernel
def f_L_choice (v : CV) (p0 : Int32) (F : FJ) : Option (Int32 × CV × FJ) := (f_X6_choice v p0).bind (fun r => match r with | .inl k => if k = 1 then some (1, v, F) else none | .inr q => some (0, q.2, vp_updL F 0 (Int32.toInt64 q.1)))
set_option maxHeartbeats 4000000 in
set_option maxRecDepth 100000 in
theorem c_L_choice (l : Launch) (hst9 : l.stackTraces = false) (g : zG) (a : Nat → Nat) (o : Nat) (v : CV) (p0 : Int32) (F : FJ) (r : Int32 × CV × FJ) (hf : f_L_choice v p0 F = some r) : zML zNF zNM l yL_choice (zwH yL_choice cL_choice 4 (some .int) [(0, 9, 12, 13)]) ({ frames := 7, cells := 1, slots := 6, locals := 121 } : Room) g [.ref (a 0), .int p0, .ref o] a o v F r := by
  intro sz
  refine vx_ofWH (cc := cL_choice) (maxL := 4) (ret := (some .int)) (hh := [(0, 9, 12, 13)]) (by decide) rfl ?_
  intro p e s m args below meth c s₁ B hml hv
  obtain ⟨rfl, ⟨⟨hsz, hP, hK, hD0⟩, hKx, hZs⟩, hNc⟩ := hv
  have hx := B.exec
  have hb := B.bytes
  have hr0 := B.returns
  have hts := atoms_spec (ws := (zwH yL_choice cL_choice 4 (some .int) [(0, 9, 12, 13)])) B.pre
  have htb : c.exceptionTable.toList = [⟨0, 9, 12, 13⟩] := vx_table (x := yL_choice) B (hts _ List.mem_cons_self)
  have hw0 : ∀ w ∈ zW, w.before ([.ref (a 0), .int p0, .ref o] : List Value).toArray s = true := fun w h => hts w (List.mem_cons_of_mem _ h)
  have hown : s.vm.findClass RL = some m.cls := findClass_of_methodNamed B.named
  have hlocks := B.notSynchronized
  subst hsz
  have hD := hD0.self (sz := s.heap.size)
  generalize hAe : va_A (zX6 g a v ++ [(o, .inl (g.2.2.2, 1, .inr (.inl F)))]) s.heap.size = A at hD hZs ⊢
  have hA : ∀ q : Nat, s.heap.size ≤ q → A q := fun q h => by rw [← hAe]; exact Or.inr h
  have hS : va_S A s.heap s.heap [] := va_S.rf
  unfold f_L_choice at hf
  have hl := lv_entry ([.ref (a 0), .int p0, .ref o]) (n := 4) (Nat.le_of_ble_eq_true rfl)
  rw [lg_entry_eq]
  generalize (lg_sl ([.ref (a 0), .int p0, .ref o]) ++ List.replicate (4 - (lg_sl ([.ref (a 0), .int p0, .ref o])).length) Slot.unset).toArray = ls at hl ⊢
  have hl : lv_has ls 4 [(0, .ref (a 0)), (1, .int p0), (2, .ref o)] := hl
  obtain ⟨r9, hr9, hf⟩ := ob hf
  refine lv_aload_n hx hb dL_choice_0 rfl (lv_at hl 2 rfl) ?_
  refine lv_iconst (v := 0) hx hb dL_choice_1 (by decide) ?_
  refine lv_aload_n hx hb dL_choice_2 rfl (lv_at hl 0 rfl) ?_
  refine lv_iload_n hx hb dL_choice_3 rfl (lv_at hl 1 rfl) ?_
  refine zk_x (vx_runV (As := [.int p0]) (rest := [.int 0, .ref o]) ⟨hx, hb, hml, hown, hts⟩ (c_X6_choice l hst9 g a v p0 r9 hr9 _) (zcVg hw0 zm4_26 zm4_29 zm1_1 zm4_27 zm4_28 hd_X6_choice rfl rfl ⟨Nat.le_of_ble_eq_true rfl, Nat.le_of_ble_eq_true rfl⟩) ⟨zblindX, zrecvX hK hP (ci := 6) rfl rfl, zpreX hK hKx hZs hP hD hS hA⟩ rfl rfl hl.1 rfl (lv_room (Nat.le_of_ble_eq_true rfl)) dL_choice_4 ⟨Nat.le_of_ble_eq_true rfl, Nat.le_of_ble_eq_true rfl⟩) hP hD hS hA (fun q => rfl) (fun k ce q9 H locs e9 hP hD hS h1 h2 h3 => ?_) (fun q H locs e9 hP hD hS => ?_)
  · subst e9
    by_cases hk9 : k = 1
    · subst hk9
      refine vx_catch hown [] ⟨0, 9, 12, 13⟩ [] htb (fun z hz => absurd hz List.not_mem_nil) rfl (by decide) (hw0 _ zm3_52) (zcastX rfl (by decide +kernel) hKx) h1 h2 h3 ?_
      refine lv_astore_n (lv' := [(3, .ref q9), (0, .ref (a 0)), (1, .int p0), (2, .ref o)]) hx hb dL_choice_12 rfl hl (by decide) rfl (fun ls hl => ?_)
      refine lv_iconst (v := 1) hx hb dL_choice_13 (by decide) ?_
      have hR : ((1, v, F) : Int32 × CV × FJ) = r := Option.some.inj (oi hf rfl)
      subst hR
      refine W.widen (k := 1) (n := 6) (Nat.le_refl _) (Nat.le_refl _) ?_
      exact vx_ret (W.iret (v := 1) hx hb hr0 (fun t ht hW => ⟨⟨1, (), rfl, rfl, by rw [ht]; exact hP, hD⟩, hS.F ht⟩) hS.2.2 dL_choice_14)
    · have hf := oe hf hk9
      exact absurd hf (by simp)
  · subst e9
    refine lv_i2l (v := (Int32.toInt64 q.1)) hx hb dL_choice_7 rfl ?_
    refine zlast_ (f := F) (k := 0) (x := Int32.toInt64 q.1) hx hb hK.1 hP hD hS 112 2 rfl rfl (zin_vp (i := 0) (n := 1) rfl) rfl dL_choice_8 (fun H locs hP hD hS => ?_)
    have hR : ((0, q.2, vp_updL F 0 (Int32.toInt64 q.1)) : Int32 × CV × FJ) = r := Option.some.inj hf
    rw [zset_last (by rfl)] at hP hD
    refine lv_goto (tgt := 15) hx hb dL_choice_9 (by decide) ?_
    refine lv_iconst (v := 0) hx hb dL_choice_15 (by decide) ?_
    subst hR
    refine W.widen (k := 1) (n := 6) (Nat.le_refl _) (Nat.le_refl _) ?_
    exact vx_ret (W.iret (v := 0) hx hb hr0 (fun t ht hW => ⟨⟨0, (), rfl, rfl, by rw [ht]; exact hP, hD⟩, hS.F ht⟩) hS.2.2 dL_choice_16)
theorem hd_L_nextFull : yL_nextFull.cls ≠ "java/lang/invoke/MethodHandle" ∧ yL_nextFull.cls ≠ "java/lang/invoke/VarHandle" ∧ (parseMethodDescriptor yL_nextFull.desc).map (fun d => d.parameters.length) = some 3 := by decide +kernel
def f_L_nextFull (v : CV) (p0 : Int32) (F : FJ) : Option (Int32 × CV × FJ) := (f_X6_nextFull v p0).bind (fun r => match r with | .inl k => if k = 1 then some (1, v, F) else none | .inr q => some (0, q.2, vp_updL F 0 (Int32.toInt64 q.1)))
set_option maxHeartbeats 4000000 in
set_option maxRecDepth 100000 in
theorem c_L_nextFull (l : Launch) (hst9 : l.stackTraces = false) (g : zG) (a : Nat → Nat) (o : Nat) (v : CV) (p0 : Int32) (F : FJ) (r : Int32 × CV × FJ) (hf : f_L_nextFull v p0 F = some r) : zML zNF zNM l yL_nextFull (zwH yL_nextFull cL_nextFull 4 (some .int) [(0, 9, 12, 13)]) ({ frames := 7, cells := 1, slots := 6, locals := 121 } : Room) g [.ref (a 0), .int p0, .ref o] a o v F r := by
  intro sz
  refine vx_ofWH (cc := cL_nextFull) (maxL := 4) (ret := (some .int)) (hh := [(0, 9, 12, 13)]) (by decide) rfl ?_
  intro p e s m args below meth c s₁ B hml hv
  obtain ⟨rfl, ⟨⟨hsz, hP, hK, hD0⟩, hKx, hZs⟩, hNc⟩ := hv
  have hx := B.exec
  have hb := B.bytes
  have hr0 := B.returns
  have hts := atoms_spec (ws := (zwH yL_nextFull cL_nextFull 4 (some .int) [(0, 9, 12, 13)])) B.pre
  have htb : c.exceptionTable.toList = [⟨0, 9, 12, 13⟩] := vx_table (x := yL_nextFull) B (hts _ List.mem_cons_self)
  have hw0 : ∀ w ∈ zW, w.before ([.ref (a 0), .int p0, .ref o] : List Value).toArray s = true := fun w h => hts w (List.mem_cons_of_mem _ h)
  have hown : s.vm.findClass RL = some m.cls := findClass_of_methodNamed B.named
  have hlocks := B.notSynchronized
  subst hsz
  have hD := hD0.self (sz := s.heap.size)
  generalize hAe : va_A (zX6 g a v ++ [(o, .inl (g.2.2.2, 1, .inr (.inl F)))]) s.heap.size = A at hD hZs ⊢
  have hA : ∀ q : Nat, s.heap.size ≤ q → A q := fun q h => by rw [← hAe]; exact Or.inr h
  have hS : va_S A s.heap s.heap [] := va_S.rf
  unfold f_L_nextFull at hf
  have hl := lv_entry ([.ref (a 0), .int p0, .ref o]) (n := 4) (Nat.le_of_ble_eq_true rfl)
  rw [lg_entry_eq]
  generalize (lg_sl ([.ref (a 0), .int p0, .ref o]) ++ List.replicate (4 - (lg_sl ([.ref (a 0), .int p0, .ref o])).length) Slot.unset).toArray = ls at hl ⊢
  have hl : lv_has ls 4 [(0, .ref (a 0)), (1, .int p0), (2, .ref o)] := hl
  obtain ⟨r9, hr9, hf⟩ := ob hf
  refine lv_aload_n hx hb dL_nextFull_0 rfl (lv_at hl 2 rfl) ?_
  refine lv_iconst (v := 0) hx hb dL_nextFull_1 (by decide) ?_
  refine lv_aload_n hx hb dL_nextFull_2 rfl (lv_at hl 0 rfl) ?_
  refine lv_iload_n hx hb dL_nextFull_3 rfl (lv_at hl 1 rfl) ?_
  refine zk_x (vx_runV (As := [.int p0]) (rest := [.int 0, .ref o]) ⟨hx, hb, hml, hown, hts⟩ (c_X6_nextFull l hst9 g a v p0 r9 hr9 _) (zcVg hw0 zm4_35 zm4_38 zm1_1 zm4_36 zm4_37 hd_X6_nextFull rfl rfl ⟨Nat.le_of_ble_eq_true rfl, Nat.le_of_ble_eq_true rfl⟩) ⟨zblindX, zrecvX hK hP (ci := 6) rfl rfl, zpreX hK hKx hZs hP hD hS hA⟩ rfl rfl hl.1 rfl (lv_room (Nat.le_of_ble_eq_true rfl)) dL_nextFull_4 ⟨Nat.le_of_ble_eq_true rfl, Nat.le_of_ble_eq_true rfl⟩) hP hD hS hA (fun q => rfl) (fun k ce q9 H locs e9 hP hD hS h1 h2 h3 => ?_) (fun q H locs e9 hP hD hS => ?_)
  · subst e9
    by_cases hk9 : k = 1
    · subst hk9
      refine vx_catch hown [] ⟨0, 9, 12, 13⟩ [] htb (fun z hz => absurd hz List.not_mem_nil) rfl (by decide) (hw0 _ zm3_52) (zcastX rfl (by decide +kernel) hKx) h1 h2 h3 ?_
      refine lv_astore_n (lv' := [(3, .ref q9), (0, .ref (a 0)), (1, .int p0), (2, .ref o)]) hx hb dL_nextFull_12 rfl hl (by decide) rfl (fun ls hl => ?_)
      refine lv_iconst (v := 1) hx hb dL_nextFull_13 (by decide) ?_
      have hR : ((1, v, F) : Int32 × CV × FJ) = r := Option.some.inj (oi hf rfl)
      subst hR
      refine W.widen (k := 1) (n := 6) (Nat.le_refl _) (Nat.le_refl _) ?_
      exact vx_ret (W.iret (v := 1) hx hb hr0 (fun t ht hW => ⟨⟨1, (), rfl, rfl, by rw [ht]; exact hP, hD⟩, hS.F ht⟩) hS.2.2 dL_nextFull_14)
    · have hf := oe hf hk9
      exact absurd hf (by simp)
  · subst e9
    refine lv_i2l (v := (Int32.toInt64 q.1)) hx hb dL_nextFull_7 rfl ?_
    refine zlast_ (f := F) (k := 0) (x := Int32.toInt64 q.1) hx hb hK.1 hP hD hS 112 2 rfl rfl (zin_vp (i := 0) (n := 1) rfl) rfl dL_nextFull_8 (fun H locs hP hD hS => ?_)
    have hR : ((0, q.2, vp_updL F 0 (Int32.toInt64 q.1)) : Int32 × CV × FJ) = r := Option.some.inj hf
    rw [zset_last (by rfl)] at hP hD
    refine lv_goto (tgt := 15) hx hb dL_nextFull_9 (by decide) ?_
    refine lv_iconst (v := 0) hx hb dL_nextFull_15 (by decide) ?_
    subst hR
    refine W.widen (k := 1) (n := 6) (Nat.le_refl _) (Nat.le_refl _) ?_
    exact vx_ret (W.iret (v := 0) hx hb hr0 (fun t ht hW => ⟨⟨0, (), rfl, rfl, by rw [ht]; exact hP, hD⟩, hS.F ht⟩) hS.2.2 dL_nextFull_16)
theorem hd_L_append : yL_append.cls ≠ "java/lang/invoke/MethodHandle" ∧ yL_append.cls ≠ "java/lang/invoke/VarHandle" ∧ (parseMethodDescriptor yL_append.desc).map (fun d => d.parameters.length) = some 3 := by decide +kernel
def f_L_append (v : CV) (p0 : Int32) (F : FJ) : Option (Int32 × CV × FJ) := (f_X6_append v p0).bind (fun r => match r with | .inl k => if k = 1 then some (1, v, F) else if k = 2 then some (2, v, F) else none | .inr q => some (0, q.2, vp_updL F 0 (Int32.toInt64 q.1)))
set_option maxHeartbeats 4000000 in
set_option maxRecDepth 100000 in
theorem c_L_append (l : Launch) (hst9 : l.stackTraces = false) (g : zG) (a : Nat → Nat) (o : Nat) (v : CV) (p0 : Int32) (F : FJ) (r : Int32 × CV × FJ) (hf : f_L_append v p0 F = some r) : zML zNF zNM l yL_append (zwH yL_append cL_append 4 (some .int) [(0, 9, 12, 13), (0, 9, 15, 15)]) ({ frames := 7, cells := 1, slots := 6, locals := 121 } : Room) g [.ref (a 0), .int p0, .ref o] a o v F r := by
  intro sz
  refine vx_ofWH (cc := cL_append) (maxL := 4) (ret := (some .int)) (hh := [(0, 9, 12, 13), (0, 9, 15, 15)]) (by decide) rfl ?_
  intro p e s m args below meth c s₁ B hml hv
  obtain ⟨rfl, ⟨⟨hsz, hP, hK, hD0⟩, hKx, hZs⟩, hNc⟩ := hv
  have hx := B.exec
  have hb := B.bytes
  have hr0 := B.returns
  have hts := atoms_spec (ws := (zwH yL_append cL_append 4 (some .int) [(0, 9, 12, 13), (0, 9, 15, 15)])) B.pre
  have htb : c.exceptionTable.toList = [⟨0, 9, 12, 13⟩, ⟨0, 9, 15, 15⟩] := vx_table (x := yL_append) B (hts _ List.mem_cons_self)
  have hw0 : ∀ w ∈ zW, w.before ([.ref (a 0), .int p0, .ref o] : List Value).toArray s = true := fun w h => hts w (List.mem_cons_of_mem _ h)
  have hown : s.vm.findClass RL = some m.cls := findClass_of_methodNamed B.named
  have hlocks := B.notSynchronized
  subst hsz
  have hD := hD0.self (sz := s.heap.size)
  generalize hAe : va_A (zX6 g a v ++ [(o, .inl (g.2.2.2, 1, .inr (.inl F)))]) s.heap.size = A at hD hZs ⊢
  have hA : ∀ q : Nat, s.heap.size ≤ q → A q := fun q h => by rw [← hAe]; exact Or.inr h
  have hS : va_S A s.heap s.heap [] := va_S.rf
  unfold f_L_append at hf
  have hl := lv_entry ([.ref (a 0), .int p0, .ref o]) (n := 4) (Nat.le_of_ble_eq_true rfl)
  rw [lg_entry_eq]
  generalize (lg_sl ([.ref (a 0), .int p0, .ref o]) ++ List.replicate (4 - (lg_sl ([.ref (a 0), .int p0, .ref o])).length) Slot.unset).toArray = ls at hl ⊢
  have hl : lv_has ls 4 [(0, .ref (a 0)), (1, .int p0), (2, .ref o)] := hl
  obtain ⟨r9, hr9, hf⟩ := ob hf
  refine lv_aload_n hx hb dL_append_0 rfl (lv_at hl 2 rfl) ?_
  refine lv_iconst (v := 0) hx hb dL_append_1 (by decide) ?_
  refine lv_aload_n hx hb dL_append_2 rfl (lv_at hl 0 rfl) ?_
  refine lv_iload_n hx hb dL_append_3 rfl (lv_at hl 1 rfl) ?_
  refine zk_x (vx_runV (As := [.int p0]) (rest := [.int 0, .ref o]) ⟨hx, hb, hml, hown, hts⟩ (c_X6_append l hst9 g a v p0 r9 hr9 _) (zcVg hw0 zm4_47 zm4_50 zm1_1 zm4_48 zm4_49 hd_X6_append rfl rfl ⟨Nat.le_of_ble_eq_true rfl, Nat.le_of_ble_eq_true rfl⟩) ⟨zblindX, zrecvX hK hP (ci := 6) rfl rfl, zpreX hK hKx hZs hP hD hS hA⟩ rfl rfl hl.1 rfl (lv_room (Nat.le_of_ble_eq_true rfl)) dL_append_4 ⟨Nat.le_of_ble_eq_true rfl, Nat.le_of_ble_eq_true rfl⟩) hP hD hS hA (fun q => rfl) (fun k ce q9 H locs e9 hP hD hS h1 h2 h3 => ?_) (fun q H locs e9 hP hD hS => ?_)
  · subst e9
    by_cases hk9 : k = 1
    · subst hk9
      refine vx_catch hown [] ⟨0, 9, 12, 13⟩ [⟨0, 9, 15, 15⟩] htb (fun z hz => absurd hz List.not_mem_nil) rfl (by decide) (hw0 _ zm3_52) (zcastX rfl (by decide +kernel) hKx) h1 h2 h3 ?_
      refine lv_astore_n (lv' := [(3, .ref q9), (0, .ref (a 0)), (1, .int p0), (2, .ref o)]) hx hb dL_append_12 rfl hl (by decide) rfl (fun ls hl => ?_)
      refine lv_iconst (v := 1) hx hb dL_append_13 (by decide) ?_
      have hR : ((1, v, F) : Int32 × CV × FJ) = r := Option.some.inj (oi hf rfl)
      subst hR
      refine W.widen (k := 1) (n := 6) (Nat.le_refl _) (Nat.le_refl _) ?_
      exact vx_ret (W.iret (v := 1) hx hb hr0 (fun t ht hW => ⟨⟨1, (), rfl, rfl, by rw [ht]; exact hP, hD⟩, hS.F ht⟩) hS.2.2 dL_append_14)
    · have hf := oe hf hk9
      by_cases hk9 : k = 2
      · subst hk9
        refine vx_catch hown [⟨0, 9, 12, 13⟩] ⟨0, 9, 15, 15⟩ [] htb (fun z hz => by simp only [List.mem_cons, List.not_mem_nil, or_false] at hz; rcases hz with rfl <;> first | (exact Or.inr ⟨by decide, "java/lang/IllegalArgumentException", hw0 _ zm3_52, hNc ("java/lang/IllegalStateException", "java/lang/IllegalArgumentException") (by decide +kernel)⟩)) rfl (by decide) (hw0 _ zm3_53) (zcastX rfl (by decide +kernel) hKx) h1 h2 h3 ?_
        refine lv_astore_n (lv' := [(3, .ref q9), (0, .ref (a 0)), (1, .int p0), (2, .ref o)]) hx hb dL_append_15 rfl hl (by decide) rfl (fun ls hl => ?_)
        refine lv_iconst (v := 2) hx hb dL_append_16 (by decide) ?_
        have hR : ((2, v, F) : Int32 × CV × FJ) = r := Option.some.inj (oi hf rfl)
        subst hR
        refine W.widen (k := 1) (n := 6) (Nat.le_refl _) (Nat.le_refl _) ?_
        exact vx_ret (W.iret (v := 2) hx hb hr0 (fun t ht hW => ⟨⟨2, (), rfl, rfl, by rw [ht]; exact hP, hD⟩, hS.F ht⟩) hS.2.2 dL_append_17)
      · have hf := oe hf hk9
        exact absurd hf (by simp)
  · subst e9
    refine lv_i2l (v := (Int32.toInt64 q.1)) hx hb dL_append_7 rfl ?_
    refine zlast_ (f := F) (k := 0) (x := Int32.toInt64 q.1) hx hb hK.1 hP hD hS 112 2 rfl rfl (zin_vp (i := 0) (n := 1) rfl) rfl dL_append_8 (fun H locs hP hD hS => ?_)
    have hR : ((0, q.2, vp_updL F 0 (Int32.toInt64 q.1)) : Int32 × CV × FJ) = r := Option.some.inj hf
    rw [zset_last (by rfl)] at hP hD
    refine lv_goto (tgt := 18) hx hb dL_append_9 (by decide) ?_
    refine lv_iconst (v := 0) hx hb dL_append_18 (by decide) ?_
    subst hR
    refine W.widen (k := 1) (n := 6) (Nat.le_refl _) (Nat.le_refl _) ?_
    exact vx_ret (W.iret (v := 0) hx hb hr0 (fun t ht hW => ⟨⟨0, (), rfl, rfl, by rw [ht]; exact hP, hD⟩, hS.F ht⟩) hS.2.2 dL_append_19)
theorem hd_L_undo : yL_undo.cls ≠ "java/lang/invoke/MethodHandle" ∧ yL_undo.cls ≠ "java/lang/invoke/VarHandle" ∧ (parseMethodDescriptor yL_undo.desc).map (fun d => d.parameters.length) = some 2 := by decide +kernel
def f_L_undo (v : CV) (F : FJ) : Option (Int32 × CV × FJ) := (f_X6_undo v).bind (fun r => match r with | .inl k => if k = 2 then some (1, v, F) else none | .inr q => some (0, q.2, vp_updL F 0 (Int32.toInt64 q.1)))
set_option maxHeartbeats 4000000 in
set_option maxRecDepth 100000 in
theorem c_L_undo (l : Launch) (hst9 : l.stackTraces = false) (g : zG) (a : Nat → Nat) (o : Nat) (v : CV) (F : FJ) (r : Int32 × CV × FJ) (hf : f_L_undo v F = some r) : zML zNF zNM l yL_undo (zwH yL_undo cL_undo 3 (some .int) [(0, 8, 11, 15)]) ({ frames := 7, cells := 1, slots := 6, locals := 120 } : Room) g [.ref (a 0), .ref o] a o v F r := by
  intro sz
  refine vx_ofWH (cc := cL_undo) (maxL := 3) (ret := (some .int)) (hh := [(0, 8, 11, 15)]) (by decide) rfl ?_
  intro p e s m args below meth c s₁ B hml hv
  obtain ⟨rfl, ⟨⟨hsz, hP, hK, hD0⟩, hKx, hZs⟩, hNc⟩ := hv
  have hx := B.exec
  have hb := B.bytes
  have hr0 := B.returns
  have hts := atoms_spec (ws := (zwH yL_undo cL_undo 3 (some .int) [(0, 8, 11, 15)])) B.pre
  have htb : c.exceptionTable.toList = [⟨0, 8, 11, 15⟩] := vx_table (x := yL_undo) B (hts _ List.mem_cons_self)
  have hw0 : ∀ w ∈ zW, w.before ([.ref (a 0), .ref o] : List Value).toArray s = true := fun w h => hts w (List.mem_cons_of_mem _ h)
  have hown : s.vm.findClass RL = some m.cls := findClass_of_methodNamed B.named
  have hlocks := B.notSynchronized
  subst hsz
  have hD := hD0.self (sz := s.heap.size)
  generalize hAe : va_A (zX6 g a v ++ [(o, .inl (g.2.2.2, 1, .inr (.inl F)))]) s.heap.size = A at hD hZs ⊢
  have hA : ∀ q : Nat, s.heap.size ≤ q → A q := fun q h => by rw [← hAe]; exact Or.inr h
  have hS : va_S A s.heap s.heap [] := va_S.rf
  unfold f_L_undo at hf
  have hl := lv_entry ([.ref (a 0), .ref o]) (n := 3) (Nat.le_of_ble_eq_true rfl)
  rw [lg_entry_eq]
  generalize (lg_sl ([.ref (a 0), .ref o]) ++ List.replicate (3 - (lg_sl ([.ref (a 0), .ref o])).length) Slot.unset).toArray = ls at hl ⊢
  have hl : lv_has ls 3 [(0, .ref (a 0)), (1, .ref o)] := hl
  obtain ⟨r9, hr9, hf⟩ := ob hf
  refine lv_aload_n hx hb dL_undo_0 rfl (lv_at hl 1 rfl) ?_
  refine lv_iconst (v := 0) hx hb dL_undo_1 (by decide) ?_
  refine lv_aload_n hx hb dL_undo_2 rfl (lv_at hl 0 rfl) ?_
  refine zk_x (vx_runV (As := []) (rest := [.int 0, .ref o]) ⟨hx, hb, hml, hown, hts⟩ (c_X6_undo l hst9 g a v r9 hr9 _) (zcVg hw0 zm4_60 zm4_63 zm1_1 zm4_61 zm4_62 hd_X6_undo rfl rfl ⟨Nat.le_of_ble_eq_true rfl, Nat.le_of_ble_eq_true rfl⟩) ⟨zblindX, zrecvX hK hP (ci := 6) rfl rfl, zpreX hK hKx hZs hP hD hS hA⟩ rfl rfl hl.1 rfl (lv_room (Nat.le_of_ble_eq_true rfl)) dL_undo_3 ⟨Nat.le_of_ble_eq_true rfl, Nat.le_of_ble_eq_true rfl⟩) hP hD hS hA (fun q => rfl) (fun k ce q9 H locs e9 hP hD hS h1 h2 h3 => ?_) (fun q H locs e9 hP hD hS => ?_)
  · subst e9
    by_cases hk9 : k = 2
    · subst hk9
      refine vx_catch hown [] ⟨0, 8, 11, 15⟩ [] htb (fun z hz => absurd hz List.not_mem_nil) rfl (by decide) (hw0 _ zm3_53) (zcastX rfl (by decide +kernel) hKx) h1 h2 h3 ?_
      refine lv_astore_n (lv' := [(2, .ref q9), (0, .ref (a 0)), (1, .ref o)]) hx hb dL_undo_11 rfl hl (by decide) rfl (fun ls hl => ?_)
      refine lv_iconst (v := 1) hx hb dL_undo_12 (by decide) ?_
      have hR : ((1, v, F) : Int32 × CV × FJ) = r := Option.some.inj (oi hf rfl)
      subst hR
      refine W.widen (k := 1) (n := 6) (Nat.le_refl _) (Nat.le_refl _) ?_
      exact vx_ret (W.iret (v := 1) hx hb hr0 (fun t ht hW => ⟨⟨1, (), rfl, rfl, by rw [ht]; exact hP, hD⟩, hS.F ht⟩) hS.2.2 dL_undo_13)
    · have hf := oe hf hk9
      exact absurd hf (by simp)
  · subst e9
    refine lv_i2l (v := (Int32.toInt64 q.1)) hx hb dL_undo_6 rfl ?_
    refine zlast_ (f := F) (k := 0) (x := Int32.toInt64 q.1) hx hb hK.1 hP hD hS 112 2 rfl rfl (zin_vp (i := 0) (n := 1) rfl) rfl dL_undo_7 (fun H locs hP hD hS => ?_)
    have hR : ((0, q.2, vp_updL F 0 (Int32.toInt64 q.1)) : Int32 × CV × FJ) = r := Option.some.inj hf
    rw [zset_last (by rfl)] at hP hD
    refine lv_goto (tgt := 14) hx hb dL_undo_8 (by decide) ?_
    refine lv_iconst (v := 0) hx hb dL_undo_14 (by decide) ?_
    subst hR
    refine W.widen (k := 1) (n := 6) (Nat.le_refl _) (Nat.le_refl _) ?_
    exact vx_ret (W.iret (v := 0) hx hb hr0 (fun t ht hW => ⟨⟨0, (), rfl, rfl, by rw [ht]; exact hP, hD⟩, hS.F ht⟩) hS.2.2 dL_undo_15)
