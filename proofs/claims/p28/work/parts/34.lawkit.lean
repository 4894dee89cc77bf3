/-! The law's wrappers: they return 0 with the answer in out, or which of the exceptions was caught. -/
def zNcL : List (String × String) := [("java/lang/IllegalArgumentException", "java/lang/IllegalStateException"), ("java/lang/IllegalArgumentException", "java/lang/IndexOutOfBoundsException"), ("java/lang/IllegalStateException", "java/lang/IllegalArgumentException"), ("java/lang/IllegalStateException", "java/lang/IndexOutOfBoundsException"), ("java/lang/IndexOutOfBoundsException", "java/lang/IllegalArgumentException"), ("java/lang/IndexOutOfBoundsException", "java/lang/IllegalStateException")]
def zPreL (nf : List zNFt) (nm : List zNMt) (g : zG) (w : va_W) (sz : Nat) : State → Prop := fun U => zPreX nf nm g w sz U ∧ ∀ q ∈ zNcL, va_Nc q.1 q.2 U
abbrev FJ := Nat → Int64
theorem zblindL {nf : List zNFt} {nm : List zNMt} {g : zG} {As : List Value} {w : va_W} {sz : Nat} : FrameBlind (va_Pc As (zPreL nf nm g w sz)) := fun a U fr mk q => by
  obtain ⟨q0, q1, q2⟩ := q
  exact ⟨q0, (zblindX (As := As) a U fr mk ⟨q0, q1⟩).2, fun x hx => va_Nc.moved (u := U) (U := U.calling fr mk a) (Vm.Alike.refl U.vm) (q2 x hx)⟩
section ZL
variable {nf : List zNFt} {nm : List zNMt}
variable {p : Program} {l : Launch} {e : Env} {R : Room} {s : State} {m : MethodId} {args : Array Value} {below : List Frame} {meth : Method} {c : Code} {H : Heap} {locs : List Loc} {cells slots : Nat} {Q : State → Prop}
variable {pc : Nat} {ls : Array Slot} {rest st0 : List Value} {a : Array Value} {A0 : Nat → Prop} {H0 : Heap} {g : zG} {ws wc x : va_W}
theorem zZs.go {A B : Nat → Prop} {s U : State} {locs : List Loc} (h : zZs A s) (hS : va_S A s.heap U.heap locs) (hW : s.WarmedH U.vm) (hBA : ∀ q, B q → A q) : zZs B U :=
  ⟨((h.1.kept (H1 := U.heap) hS.2.1).moved hW.alike).narrow hBA, ((h.2.kept (H1 := U.heap) hS.2.1).moved hW.alike).narrow hBA⟩
theorem zpreX {As : List Value} (hK : zK nf nm g s) (hKx : zKx s) (hZs : zZs A0 s) (hP : va_P g.1 vwCl (wc ++ x) H) (hD : va_D A0 (wc ++ x)) (hS : va_S A0 s.heap H locs) (hA : ∀ q, s.heap.size ≤ q → A0 q) : ∀ U : State, U.heap = H → s.WarmedH U.vm → va_Pc As (zPreX nf nm g wc H.size) As.toArray U := by
  intro U hU hW
  have h1 := zpre (As := As) hK hP hD (List.range wc.length) zrangeL (znd_range _) U hU hW
  refine ⟨rfl, h1.2, hKx.warm hW, hZs.go (by rw [hU]; exact hS) hW (va_free hD hS hA (List.range wc.length) zrangeL)⟩
theorem zrecvX (hK : zK nf nm g s) (hP : va_P g.1 vwCl (wc ++ x) H) {b ci : Nat} {fs : List Value} {q : vw_C} (hc : vwCl[ci]? = some q) (he : wc[0]? = some (b, .inr (ci, fs))) : ∃ cell : Cell, H[b]? = some cell ∧ cell.vm.isStatics = false ∧ s.vm.findClass q.1 = some cell.cls := zrecv hK hP (List.range wc.length) zrangeL hc he
theorem zputX {w1 : va_W} (h : w1.length = wc.length) : zput (wc ++ x) (List.range wc.length) w1 = w1 ++ x := by
  have := zput_run wc.length [] wc x w1 rfl h
  rw [List.nil_append, List.nil_append] at this
  rw [List.range_eq_range']
  exact this
theorem zk_x {ρ : Type} {r : Nat ⊕ ρ} {res : ρ → Int32} {w1 : ρ → va_W} (hr : vx_Run p l e R s m args below meth c H locs cells slots 1 6 (F0 m pc ls st0) rest (va_Qi (fun (x : Int32) (_ : Unit) => ∃ q, r = .inr q ∧ x = res q) (fun _ t => ∃ q, r = .inr q ∧ zEnd g (va_A wc H.size) (w1 q) t) (va_A wc H.size) a) (vx_X (fun (_ : Unit) => True) (fun E _ t => ∃ k, r = .inl k ∧ E = zexc k ∧ zEnd g (va_A wc H.size) wc t) (va_A wc H.size)) (va_A wc H.size)) (hP : va_P g.1 vwCl (wc ++ x) H) (hD : va_D A0 (wc ++ x)) (hS : va_S A0 H0 H locs) (hA : ∀ q, H0.size ≤ q → A0 q) (hs : ∀ q, (w1 q).map Prod.fst = wc.map Prod.fst)
    (kx : ∀ (k : Nat) (ce : Cell) (q9 : Addr) (H1 : Heap) (locs1 : List Loc), r = .inl k → va_P g.1 vwCl (wc ++ x) H1 → va_D A0 (wc ++ x) → va_S A0 H0 H1 locs1 → H1[q9]? = some ce → ce.vm = .none → s.vm.findClass (zexc k) = some ce.cls → vx_W p l e R s m args below meth c H1 locs1 (cells + 1) (slots + 6) Q (F0 m pc ls rest) q9)
    (kk : ∀ (q : ρ) (H1 : Heap) (locs1 : List Loc), r = .inr q → va_P g.1 vwCl (w1 q ++ x) H1 → va_D A0 (w1 q ++ x) → va_S A0 H0 H1 locs1 → W p l e R s m args below meth c H1 locs1 (cells + 1) (slots + 6) Q (F0 m (pc + 3) ls (.int (res q) :: rest))) : W p l e R s m args below meth c H locs cells slots Q (F0 m pc ls st0) := by
  have hF := va_free hD hS hA (List.range wc.length) (zrangeL (x := x))
  have hln : ∀ q, (w1 q).length = wc.length := fun q => by have := congrArg List.length (hs q); simpa using this
  refine vx_calli hr hS (fun q _ h => hF q h) hF (fun q _ h => hF q h) (fun E ce q9 u t H1 locs1 ht hvm hp hB hz hk hS' h1 h2 h3 => ?_) (fun y u t H1 locs1 ht hvm hp hB hz hk hS' => ?_)
  · obtain ⟨k, e1, e2, hP1, hD1⟩ := hB
    rw [ht] at hP1
    subst e2
    obtain ⟨g1, g2⟩ := zput_ok hP hD (List.range wc.length) zrangeL rfl hk hP1
    rw [zputX rfl] at g1 g2
    exact kx k ce q9 H1 locs1 e1 g1 g2 hS' h1 h2 h3
  · obtain ⟨q, e1, e2⟩ := hp
    obtain ⟨q', e3, hP1, hD1⟩ := hB
    have e4 : q' = q := by rw [e1] at e3; exact (Sum.inr.inj e3).symm
    subst e4
    subst e2
    rw [ht] at hP1
    obtain ⟨g1, g2⟩ := zput_ok hP hD (List.range wc.length) zrangeL (hs q') hk hP1
    rw [zputX (hln q')] at g1 g2
    exact kk q' H1 locs1 e1 g1 g2 hS'
theorem zcVg {own C : String} {index maxL n mc ms : Nat} {y : MethodName} {bytes : ByteArray} {ret : Option FieldType} {rm : Room} (hw : ∀ w ∈ zW, w.before args s = true) (hl : Cond.methodLink own index y ∈ zW) (hc : Cond.code y bytes maxL ret ∈ zW) (hi : Cond.initialized y.cls ∈ zW) (hin : Cond.instanceMethod y ∈ zW) (hse : Cond.selects C y y ∈ zW) (hd : y.cls ≠ "java/lang/invoke/MethodHandle" ∧ y.cls ≠ "java/lang/invoke/VarHandle" ∧ (parseMethodDescriptor y.desc).map (fun d => d.parameters.length) = some n) (hrc : rm.cells = mc) (hrs : rm.slots = ms) (hR : rm.frames + 1 ≤ R.frames ∧ 8 + (maxL + 11) + rm.locals ≤ R.locals) : CallW R s args own C index y bytes maxL ret (zw y bytes maxL ret) rm mc ms n := by
  refine ⟨⟨hrc, hrs, hR.1, hR.2, zw_pay hw hc, List.mem_cons_self, hw _ hc, hw _ hi, ⟨hd.1, hd.2.1⟩, fun sig h => ?_, hw _ hl⟩, hw _ hin, hw _ hse⟩
  have h2 := hd.2.2
  rw [h] at h2
  exact (Option.some.inj h2).symm
/-- a method with a table: its words -/
abbrev zwH (y : MethodName) (c : ByteArray) (m : Nat) (r : Option FieldType) (hh : List (Nat × Nat × Nat × Nat)) : List Cond := Cond.codeWith y c m r hh :: zW
theorem zcSX {own : String} {index maxL n mc ms : Nat} {y : MethodName} {bytes : ByteArray} {ret : Option FieldType} {hh : List (Nat × Nat × Nat × Nat)} {rm : Room} (hw : ∀ w ∈ zW, w.before args s = true) (hl : Cond.methodLink own index y ∈ zW) (hc : Cond.codeWith y bytes maxL ret hh ∈ zW) (hi : Cond.initialized y.cls ∈ zW) (hin : Cond.static y ∈ zW) (hd : y.cls ≠ "java/lang/invoke/MethodHandle" ∧ y.cls ≠ "java/lang/invoke/VarHandle" ∧ (parseMethodDescriptor y.desc).map (fun d => d.parameters.length) = some n) (hrc : rm.cells = mc) (hrs : rm.slots = ms) (hR : rm.frames + 1 ≤ R.frames ∧ 8 + (maxL + 11) + rm.locals ≤ R.locals) : vx_CSW R s args own index y bytes maxL ret hh (zwH y bytes maxL ret hh) rm mc ms n := by
  refine ⟨⟨hrc, hrs, hR.1, hR.2, pay_in (big := zW) hw (fun w h => (List.mem_cons.mp h).elim (fun e => e ▸ ⟨hc, good_of_word (zW_good _ hc)⟩) (fun h => ⟨h, good_of_word (zW_good _ h)⟩)), List.mem_cons_self⟩, hw _ hc, hw _ hi, ⟨hd.1, hd.2.1⟩, fun sig h => ?_, hw _ hl, hw _ hin⟩
  have h2 := hd.2.2
  rw [h] at h2
  exact (Option.some.inj h2).symm
/-- a wrapper's contract where nothing is thrown: it answers r, the hour is w1 -/
def zMo (nf : List zNFt) (nm : List zNMt) (l : Launch) (y : MethodName) (ws : List Cond) (rm : Room) (g : zG) (As : List Value) (w : va_W) (r : Int32) (w1 : va_W) : Prop := ∀ sz : Nat, vx_Met l y ws rm (va_Pc As (zPre nf nm g w sz)) (va_Qi (fun (x : Int32) (_ : Unit) => x = r) (fun _ => zEnd g (va_A w sz) w1) (va_A w sz)) (fun _ _ _ => False) 0 0 (va_A w sz)
/-- a wrapper's contract, whatever is caught: it answers r, the hour is w1; one cell more -/
def zMa (nf : List zNFt) (nm : List zNMt) (l : Launch) (y : MethodName) (ws : List Cond) (rm : Room) (g : zG) (As : List Value) (w : va_W) (r : Int32) (w1 : va_W) : Prop := ∀ sz : Nat, vx_Met l y ws rm (va_Pc As (zPreL nf nm g w sz)) (va_Qi (fun (x : Int32) (_ : Unit) => x = r) (fun _ => zEnd g (va_A w sz) w1) (va_A w sz)) (fun _ _ _ => False) 1 6 (va_A w sz)
/-- a method that calls such: mc cells more -/
def zMB (nf : List zNFt) (nm : List zNMt) (l : Launch) (y : MethodName) (ws : List Cond) (rm : Room) (g : zG) (As : List Value) (w : va_W) (r : Int32) (w1 : va_W) (mc ms : Nat) : Prop := ∀ sz : Nat, Met l y ws rm (va_Pc As (zPreL nf nm g w sz)) (va_Qi (fun (x : Int32) (_ : Unit) => x = r) (fun _ => zEnd g (va_A w sz) w1) (va_A w sz)) mc ms (va_A w sz)
theorem zcastX {k : Nat} {X : String} (hX : zexc k = X) (hm : Cond.castable X X ∈ zXB) (hKx : zKx s) : (Cond.castable (zexc k) X).before args s = true := by
  rw [hX]
  exact va_Nw.use rfl (hKx.1 _ hm)
end ZL
theorem znd_of {l : List Nat} (h : l.Nodup) : va_nd l = true := by
  induction l with
  | nil => rfl
  | cons x l ih =>
    have h1 := List.nodup_cons.mp h
    simp only [va_nd, Bool.and_eq_true]
    exact ⟨by simpa using h1.1, ih h1.2⟩
theorem zrangeQ {y wc : va_W} : (List.range' y.length wc.length).map (fun i => (y ++ wc)[i]?) = wc.map some := by
  apply List.ext_getElem
  · simp
  · intro i h1 h2
    have hi : i < wc.length := by simpa using h2
    simp [List.getElem?_append_right, List.getElem?_eq_getElem hi]
theorem zputQ {y wc w1 : va_W} (h : w1.length = wc.length) : zput (y ++ wc) (List.range' y.length wc.length) w1 = y ++ w1 := by
  have := zput_run wc.length y wc [] w1 rfl h
  rw [List.append_nil, List.append_nil] at this
  exact this
section ZQ
variable {nf : List zNFt} {nm : List zNMt}
variable {p : Program} {l : Launch} {e : Env} {R : Room} {s : State} {m : MethodId} {args : Array Value} {below : List Frame} {meth : Method} {c : Code} {H : Heap} {locs : List Loc} {cells slots mc ms : Nat} {Q : State → Prop}
variable {cc : ByteArray} {pc : Nat} {ls : Array Slot} {rest st0 : List Value} {a : Array Value} {A A0 : Nat → Prop} {H0 : Heap} {g : zG} {wc w1 x y : va_W} {b L : Nat} {xs : Nat → Int32}
theorem zsld (hexec : p.tables.exec = Jvm.exec) (hb : c.code = cc) (hX : va_X b L xs s H0) (hbl : b < H0.size) (hbA : ¬ A b) (hS : va_S A H0 H locs) {i v : Int32} (hin : vp_in i L) (hv : xs i.toNatClampNeg = v) (hdg : decode cc pc = .ok (.iaload, 1))
    (kk : W p l e R s m args below meth c H locs cells slots Q (F0 m (pc + 1) ls (.int v :: rest))) : W p l e R s m args below meth c H locs cells slots Q (F0 m pc ls (.int i :: .ref b :: rest)) := by
  subst hv
  exact va_sld hexec hb hX hbl hbA hS hin hdg kk
theorem zpreQ {As : List Value} (hK : zK nf nm g s) (hP : va_P g.1 vwCl (y ++ wc) H) (hD : va_D A0 (y ++ wc)) : ∀ U : State, U.heap = H → s.WarmedH U.vm → va_Pc As (zPre nf nm g wc H.size) As.toArray U := zpre hK hP hD (List.range' y.length wc.length) zrangeQ (znd_of (List.nodup_range' 1))
theorem zrecvQ (hK : zK nf nm g s) (hP : va_P g.1 vwCl (y ++ wc) H) {b ci : Nat} {fs : List Value} {q : vw_C} (hc : vwCl[ci]? = some q) (he : wc[0]? = some (b, .inr (ci, fs))) : ∃ cell : Cell, H[b]? = some cell ∧ cell.vm.isStatics = false ∧ s.vm.findClass q.1 = some cell.cls := zrecv hK hP (List.range' y.length wc.length) zrangeQ hc he
theorem zrun_w {g9 : JFrame} {Qa : State → Outcome → State → Prop} {free : Addr → Prop} (hr : vx_Run p l e R s m args below meth c H locs cells slots mc ms g9 rest Qa (fun _ _ _ => False) free) : va_Run p l e R s m args below meth c H locs cells slots mc ms g9 rest Qa free := by
  intro T hT X
  rcases hr T hT X with h | h
  · exact h
  · obtain ⟨q, st₀, t, T', L, E, ce, h⟩ := h
    simp at h
theorem zkQ_i {r : Int32} (hr : va_Run p l e R s m args below meth c H locs cells slots mc ms (F0 m pc ls st0) rest (va_Qi (fun (x : Int32) (_ : Unit) => x = r) (fun _ => zEnd g (va_A wc H.size) w1) (va_A wc H.size) a) (va_A wc H.size)) (hP : va_P g.1 vwCl (y ++ wc) H) (hD : va_D A0 (y ++ wc)) (hS : va_S A0 H0 H locs) (hA : ∀ q, H0.size ≤ q → A0 q) (hs : w1.map Prod.fst = wc.map Prod.fst)
    (kk : ∀ (H1 : Heap) (locs1 : List Loc), va_P g.1 vwCl (y ++ w1) H1 → va_D A0 (y ++ w1) → va_S A0 H0 H1 locs1 → W p l e R s m args below meth c H1 locs1 (cells + mc) (slots + ms) Q (F0 m (pc + 3) ls (.int r :: rest))) : W p l e R s m args below meth c H locs cells slots Q (F0 m pc ls st0) := by
  have hF := va_free hD hS hA (List.range' y.length wc.length) zrangeQ
  have hln : w1.length = wc.length := by have := congrArg List.length hs; simpa using this
  refine va_calli hr hS (fun q _ h => hF q h) hF (fun z u t H1 locs1 ht hvm hp hB hz hk hS' => ?_)
  subst hp
  obtain ⟨hP1, hD1⟩ := hB
  rw [ht] at hP1
  obtain ⟨g1, g2⟩ := zput_ok hP hD (List.range' y.length wc.length) zrangeQ hs hk hP1
  rw [zputQ hln] at g1 g2
  exact kk H1 locs1 g1 g2 hS'
theorem zkQ_f {r : UInt64} (hr : va_Run p l e R s m args below meth c H locs cells slots mc ms (F0 m pc ls st0) rest (va_Qd (fun (x : UInt64) (_ : Unit) => x = r) (fun _ => zEnd g (va_A wc H.size) w1) (va_A wc H.size) a) (va_A wc H.size)) (hP : va_P g.1 vwCl (y ++ wc) H) (hD : va_D A0 (y ++ wc)) (hS : va_S A0 H0 H locs) (hA : ∀ q, H0.size ≤ q → A0 q) (hs : w1.map Prod.fst = wc.map Prod.fst)
    (kk : ∀ (H1 : Heap) (locs1 : List Loc), va_P g.1 vwCl (y ++ w1) H1 → va_D A0 (y ++ w1) → va_S A0 H0 H1 locs1 → W p l e R s m args below meth c H1 locs1 (cells + mc) (slots + ms) Q (F0 m (pc + 3) ls (.double r :: rest))) : W p l e R s m args below meth c H locs cells slots Q (F0 m pc ls st0) := by
  have hF := va_free hD hS hA (List.range' y.length wc.length) zrangeQ
  have hln : w1.length = wc.length := by have := congrArg List.length hs; simpa using this
  refine va_calld hr hS (fun q _ h => hF q h) hF (fun z u t H1 locs1 ht hvm hp hB hz hk hS' => ?_)
  subst hp
  obtain ⟨hP1, hD1⟩ := hB
  rw [ht] at hP1
  obtain ⟨g1, g2⟩ := zput_ok hP hD (List.range' y.length wc.length) zrangeQ hs hk hP1
  rw [zputQ hln] at g1 g2
  exact kk H1 locs1 g1 g2 hS'
theorem zpreWQ {As : List Value} (hK : zK nf nm g s) (hKx : zKx s) (hZs : zZs A0 s) (hNc : ∀ q ∈ zNcL, va_Nc q.1 q.2 s) (hP : va_P g.1 vwCl (y ++ wc) H) (hD : va_D A0 (y ++ wc)) (hS : va_S A0 s.heap H locs) (hA : ∀ q, s.heap.size ≤ q → A0 q) : ∀ U : State, U.heap = H → s.WarmedH U.vm → va_Pc As (zPreL nf nm g wc H.size) As.toArray U := by
  intro U hU hW
  have h1 := zpreQ (As := As) hK hP hD U hU hW
  exact ⟨rfl, ⟨h1.2, hKx.warm hW, hZs.go (by rw [hU]; exact hS) hW (va_free hD hS hA (List.range' y.length wc.length) zrangeQ)⟩, fun q hq => va_Nc.moved hW.alike (hNc q hq)⟩
theorem zpreXA {As : List Value} (hK : zK nf nm g s) (hKx : zKx s) (hZs : zZs A0 s) (hP : va_P g.1 vwCl wc H) (hD : va_D A0 wc) (hS : va_S A0 s.heap H locs) (hA : ∀ q, s.heap.size ≤ q → A0 q) : ∀ U : State, U.heap = H → s.WarmedH U.vm → va_Pc As (zPreX nf nm g wc H.size) As.toArray U :=
  zpreX (x := []) hK hKx hZs (by rw [List.append_nil]; exact hP) (by rw [List.append_nil]; exact hD) hS hA
theorem zk_xA {ρ : Type} {r : Nat ⊕ ρ} {res : ρ → Int32} {w1 : ρ → va_W} (hr : vx_Run p l e R s m args below meth c H locs cells slots 1 6 (F0 m pc ls st0) rest (va_Qi (fun (x : Int32) (_ : Unit) => ∃ q, r = .inr q ∧ x = res q) (fun _ t => ∃ q, r = .inr q ∧ zEnd g (va_A wc H.size) (w1 q) t) (va_A wc H.size) a) (vx_X (fun (_ : Unit) => True) (fun E _ t => ∃ k, r = .inl k ∧ E = zexc k ∧ zEnd g (va_A wc H.size) wc t) (va_A wc H.size)) (va_A wc H.size)) (hP : va_P g.1 vwCl wc H) (hD : va_D A0 wc) (hS : va_S A0 H0 H locs) (hA : ∀ q, H0.size ≤ q → A0 q) (hs : ∀ q, (w1 q).map Prod.fst = wc.map Prod.fst)
    (kx : ∀ (k : Nat) (ce : Cell) (q9 : Addr) (H1 : Heap) (locs1 : List Loc), r = .inl k → va_P g.1 vwCl wc H1 → va_D A0 wc → va_S A0 H0 H1 locs1 → H1[q9]? = some ce → ce.vm = .none → s.vm.findClass (zexc k) = some ce.cls → vx_W p l e R s m args below meth c H1 locs1 (cells + 1) (slots + 6) Q (F0 m pc ls rest) q9)
    (kk : ∀ (q : ρ) (H1 : Heap) (locs1 : List Loc), r = .inr q → va_P g.1 vwCl (w1 q) H1 → va_D A0 (w1 q) → va_S A0 H0 H1 locs1 → W p l e R s m args below meth c H1 locs1 (cells + 1) (slots + 6) Q (F0 m (pc + 3) ls (.int (res q) :: rest))) : W p l e R s m args below meth c H locs cells slots Q (F0 m pc ls st0) :=
  zk_x (x := []) hr (by rw [List.append_nil]; exact hP) (by rw [List.append_nil]; exact hD) hS hA hs
    (fun k ce q9 H1 locs1 h1 h2 h3 h4 h5 h6 h7 => by rw [List.append_nil] at h2 h3; exact kx k ce q9 H1 locs1 h1 h2 h3 h4 h5 h6 h7)
    (fun q H1 locs1 h1 h2 h3 h4 => by rw [List.append_nil] at h2 h3; exact kk q H1 locs1 h1 h2 h3 h4)
theorem zeqf {x y : UInt64} (h : x = y) (kk : W p l e R s m args below meth c H locs cells slots Q (F0 m pc ls (.double y :: rest))) : W p l e R s m args below meth c H locs cells slots Q (F0 m pc ls (.double x :: rest)) := h ▸ kk
end ZQ
theorem onn {α : Type} {c : Prop} [Decidable c] {x : Option α} {r : α} (h : (if c then none else x) = some r) : ¬ c ∧ x = some r := by
  by_cases hc : c
  · rw [if_pos hc] at h; exact absurd h (by simp)
  · rw [if_neg hc] at h; exact ⟨hc, h⟩
/-- a number, no NaN -/
def zn64 (r : UInt64) : Bool := decide (r &&& 0x7fffffffffffffff ≤ 0x7ff0000000000000)
theorem zn64_n {r : UInt64} (h : zn64 r = true) : vf_n64 r := (of_decide_eq_true (p := r &&& 0x7fffffffffffffff ≤ 0x7ff0000000000000) h : r &&& 0x7fffffffffffffff ≤ 0x7ff0000000000000)
