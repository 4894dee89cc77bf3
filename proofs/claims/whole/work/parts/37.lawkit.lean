/-! The law's calls: the clock and the row in front, the reference behind. -/
theorem znd_of {l : List Nat} (h : l.Nodup) : va_nd l = true := by
  induction l with
  | nil => rfl
  | cons x l ih =>
    have h1 := List.nodup_cons.mp h
    simp only [va_nd, Bool.and_eq_true]
    exact ⟨by simpa using h1.1, ih h1.2⟩
theorem zrangeQ {y wc : va_W} : (List.range' y.length wc.length).map (fun i => (y ++ wc)[i]?) = wc.map some := by
  apply List.ext_getElem
  · simp
  · intro i h1 h2
    have hi : i < wc.length := by simpa using h2
    simp [List.getElem?_append_right, List.getElem?_eq_getElem hi]
theorem zputQ {y wc w1 : va_W} (h : w1.length = wc.length) : zput (y ++ wc) (List.range' y.length wc.length) w1 = y ++ w1 := by
  have := zput_run wc.length y wc [] w1 rfl h
  rw [List.append_nil, List.append_nil] at this
  exact this
section ZQ
variable {nf : List zNFt} {nm : List zNMt}
variable {p : Program} {l : Launch} {e : Env} {R : Room} {s : State} {m : MethodId} {args : Array Value} {below : List Frame} {meth : Method} {c : Code} {H : Heap} {locs : List Loc} {cells slots mc ms : Nat} {Q : State → Prop}
variable {cc : ByteArray} {pc : Nat} {ls : Array Slot} {rest st0 : List Value} {a : Array Value} {A A0 : Nat → Prop} {H0 : Heap} {g : zG} {wc w1 x y : va_W} {b L : Nat} {xs : Nat → Int32}
theorem zsld (hexec : p.tables.exec = Jvm.exec) (hb : c.code = cc) (hX : va_X b L xs s H0) (hbl : b < H0.size) (hbA : ¬ A b) (hS : va_S A H0 H locs) {i v : Int32} (hin : vp_in i L) (hv : xs i.toNatClampNeg = v) (hdg : decode cc pc = .ok (.iaload, 1))
    (kk : W p l e R s m args below meth c H locs cells slots Q (F0 m (pc + 1) ls (.int v :: rest))) : W p l e R s m args below meth c H locs cells slots Q (F0 m pc ls (.int i :: .ref b :: rest)) := by
  subst hv
  exact va_sld hexec hb hX hbl hbA hS hin hdg kk
theorem zald_J (hexec : p.tables.exec = Jvm.exec) (hb : c.code = cc) {D : va_G} {cl : List vw_C} {tys : List (ClassId × FieldType)} {ws : va_W} {a : Nat} (hK : va_K D cl tys s) (hP : va_P D cl ws H) (q0 t0 : Nat) {cA : ClassId} {n : Nat} {f : Nat → Int64} (ha : ws[q0]? = some (a, .inl (cA, n, .inr (.inl f)))) (ht : tys[t0]? = some (cA, .long)) {i : Int32} (hin : vp_in i n) {k : Nat} (hk : i.toNatClampNeg = k) (hdg : decode cc pc = .ok (.laload, 1))
    (kk : W p l e R s m args below meth c H locs cells slots Q (F0 m (pc + 1) ls (.long (f k) :: rest))) : W p l e R s m args below meth c H locs cells slots Q (F0 m pc ls (.int i :: .ref a :: rest)) := by
  subst hk
  exact va_lald hexec hb hK hP q0 t0 ha ht hin hdg kk
theorem zpreP {As : List Value} (hK : zK nf nm g s) (hP : va_P g.1 vwCl (wc ++ x) H) (hD : va_D A0 (wc ++ x)) : ∀ U : State, U.heap = H → s.WarmedH U.vm → va_Pc As (zPre nf nm g wc H.size) As.toArray U := zpre hK hP hD (List.range wc.length) zrangeL (znd_range _)
theorem zpreQ {As : List Value} (hK : zK nf nm g s) (hP : va_P g.1 vwCl (y ++ wc) H) (hD : va_D A0 (y ++ wc)) : ∀ U : State, U.heap = H → s.WarmedH U.vm → va_Pc As (zPre nf nm g wc H.size) As.toArray U := zpre hK hP hD (List.range' y.length wc.length) zrangeQ (znd_of (List.nodup_range' 1))
theorem zrecvQ (hK : zK nf nm g s) (hP : va_P g.1 vwCl (y ++ wc) H) {b ci : Nat} {fs : List Value} {q : vw_C} (hc : vwCl[ci]? = some q) (he : wc[0]? = some (b, .inr (ci, fs))) : ∃ cell : Cell, H[b]? = some cell ∧ cell.vm.isStatics = false ∧ s.vm.findClass q.1 = some cell.cls := zrecv hK hP (List.range' y.length wc.length) zrangeQ hc he
theorem zpreW {As : List Value} (hK : zK nf nm g s) (hKx : zKx s) (hZs : zZs A0 s) (hNc : ∀ q ∈ zNcL, va_Nc q.1 q.2 s) (hP : va_P g.1 vwCl (wc ++ x) H) (hD : va_D A0 (wc ++ x)) (hS : va_S A0 s.heap H locs) (hA : ∀ q, s.heap.size ≤ q → A0 q) : ∀ U : State, U.heap = H → s.WarmedH U.vm → va_Pc As (zPreL nf nm g wc H.size) As.toArray U := fun U hU hW =>
  ⟨rfl, (zpreX (As := As) hK hKx hZs hP hD hS hA U hU hW).2, fun q hq => va_Nc.moved hW.alike (hNc q hq)⟩
theorem zrun_w {g9 : JFrame} {Qa : State → Outcome → State → Prop} {free : Addr → Prop} (hr : vx_Run p l e R s m args below meth c H locs cells slots mc ms g9 rest Qa (fun _ _ _ => False) free) : va_Run p l e R s m args below meth c H locs cells slots mc ms g9 rest Qa free := by
  intro T hT X
  rcases hr T hT X with h | h
  · exact h
  · obtain ⟨q, st₀, t, T', L, E, ce, h⟩ := h
    simp at h
theorem zkP_i {r : Int32} (hr : va_Run p l e R s m args below meth c H locs cells slots mc ms (F0 m pc ls st0) rest (va_Qi (fun (x : Int32) (_ : Unit) => x = r) (fun _ => zEnd g (va_A wc H.size) w1) (va_A wc H.size) a) (va_A wc H.size)) (hP : va_P g.1 vwCl (wc ++ x) H) (hD : va_D A0 (wc ++ x)) (hS : va_S A0 H0 H locs) (hA : ∀ q, H0.size ≤ q → A0 q) (hs : w1.map Prod.fst = wc.map Prod.fst)
    (kk : ∀ (H1 : Heap) (locs1 : List Loc), va_P g.1 vwCl (w1 ++ x) H1 → va_D A0 (w1 ++ x) → va_S A0 H0 H1 locs1 → W p l e R s m args below meth c H1 locs1 (cells + mc) (slots + ms) Q (F0 m (pc + 3) ls (.int r :: rest))) : W p l e R s m args below meth c H locs cells slots Q (F0 m pc ls st0) := by
  have hF := va_free hD hS hA (List.range wc.length) (zrangeL (x := x))
  have hln : w1.length = wc.length := by have := congrArg List.length hs; simpa using this
  refine va_calli hr hS (fun q _ h => hF q h) hF (fun z u t H1 locs1 ht hvm hp hB hz hk hS' => ?_)
  subst hp
  obtain ⟨hP1, hD1⟩ := hB
  rw [ht] at hP1
  obtain ⟨g1, g2⟩ := zput_ok hP hD (List.range wc.length) zrangeL hs hk hP1
  rw [zputX hln] at g1 g2
  exact kk H1 locs1 g1 g2 hS'
theorem zkP_l {r : Int64} (hr : va_Run p l e R s m args below meth c H locs cells slots mc ms (F0 m pc ls st0) rest (va_Ql (fun (x : Int64) (_ : Unit) => x = r) (fun _ => zEnd g (va_A wc H.size) w1) (va_A wc H.size) a) (va_A wc H.size)) (hP : va_P g.1 vwCl (wc ++ x) H) (hD : va_D A0 (wc ++ x)) (hS : va_S A0 H0 H locs) (hA : ∀ q, H0.size ≤ q → A0 q) (hs : w1.map Prod.fst = wc.map Prod.fst)
    (kk : ∀ (H1 : Heap) (locs1 : List Loc), va_P g.1 vwCl (w1 ++ x) H1 → va_D A0 (w1 ++ x) → va_S A0 H0 H1 locs1 → W p l e R s m args below meth c H1 locs1 (cells + mc) (slots + ms) Q (F0 m (pc + 3) ls (.long r :: rest))) : W p l e R s m args below meth c H locs cells slots Q (F0 m pc ls st0) := by
  have hF := va_free hD hS hA (List.range wc.length) (zrangeL (x := x))
  have hln : w1.length = wc.length := by have := congrArg List.length hs; simpa using this
  refine va_calll hr hS (fun q _ h => hF q h) hF (fun z u t H1 locs1 ht hvm hp hB hz hk hS' => ?_)
  subst hp
  obtain ⟨hP1, hD1⟩ := hB
  rw [ht] at hP1
  obtain ⟨g1, g2⟩ := zput_ok hP hD (List.range wc.length) zrangeL hs hk hP1
  rw [zputX hln] at g1 g2
  exact kk H1 locs1 g1 g2 hS'
theorem zkQ_i {r : Int32} (hr : va_Run p l e R s m args below meth c H locs cells slots mc ms (F0 m pc ls st0) rest (va_Qi (fun (x : Int32) (_ : Unit) => x = r) (fun _ => zEnd g (va_A wc H.size) w1) (va_A wc H.size) a) (va_A wc H.size)) (hP : va_P g.1 vwCl (y ++ wc) H) (hD : va_D A0 (y ++ wc)) (hS : va_S A0 H0 H locs) (hA : ∀ q, H0.size ≤ q → A0 q) (hs : w1.map Prod.fst = wc.map Prod.fst)
    (kk : ∀ (H1 : Heap) (locs1 : List Loc), va_P g.1 vwCl (y ++ w1) H1 → va_D A0 (y ++ w1) → va_S A0 H0 H1 locs1 → W p l e R s m args below meth c H1 locs1 (cells + mc) (slots + ms) Q (F0 m (pc + 3) ls (.int r :: rest))) : W p l e R s m args below meth c H locs cells slots Q (F0 m pc ls st0) := by
  have hF := va_free hD hS hA (List.range' y.length wc.length) zrangeQ
  have hln : w1.length = wc.length := by have := congrArg List.length hs; simpa using this
  refine va_calli hr hS (fun q _ h => hF q h) hF (fun z u t H1 locs1 ht hvm hp hB hz hk hS' => ?_)
  subst hp
  obtain ⟨hP1, hD1⟩ := hB
  rw [ht] at hP1
  obtain ⟨g1, g2⟩ := zput_ok hP hD (List.range' y.length wc.length) zrangeQ hs hk hP1
  rw [zputQ hln] at g1 g2
  exact kk H1 locs1 g1 g2 hS'
theorem zkQ_l {r : Int64} (hr : va_Run p l e R s m args below meth c H locs cells slots mc ms (F0 m pc ls st0) rest (va_Ql (fun (x : Int64) (_ : Unit) => x = r) (fun _ => zEnd g (va_A wc H.size) w1) (va_A wc H.size) a) (va_A wc H.size)) (hP : va_P g.1 vwCl (y ++ wc) H) (hD : va_D A0 (y ++ wc)) (hS : va_S A0 H0 H locs) (hA : ∀ q, H0.size ≤ q → A0 q) (hs : w1.map Prod.fst = wc.map Prod.fst)
    (kk : ∀ (H1 : Heap) (locs1 : List Loc), va_P g.1 vwCl (y ++ w1) H1 → va_D A0 (y ++ w1) → va_S A0 H0 H1 locs1 → W p l e R s m args below meth c H1 locs1 (cells + mc) (slots + ms) Q (F0 m (pc + 3) ls (.long r :: rest))) : W p l e R s m args below meth c H locs cells slots Q (F0 m pc ls st0) := by
  have hF := va_free hD hS hA (List.range' y.length wc.length) zrangeQ
  have hln : w1.length = wc.length := by have := congrArg List.length hs; simpa using this
  refine va_calll hr hS (fun q _ h => hF q h) hF (fun z u t H1 locs1 ht hvm hp hB hz hk hS' => ?_)
  subst hp
  obtain ⟨hP1, hD1⟩ := hB
  rw [ht] at hP1
  obtain ⟨g1, g2⟩ := zput_ok hP hD (List.range' y.length wc.length) zrangeQ hs hk hP1
  rw [zputQ hln] at g1 g2
  exact kk H1 locs1 g1 g2 hS'
theorem zkP_d {P9 : UInt64 → Prop} {cs : List Choice} {d0 : Drawn} (hd0 : s.drawn.sameBut d0 cs) (hr : va_RunD cs p l e R (s.setDrawn d0) m args below meth c H locs cells slots 0 0 (F0 m pc ls st0) rest (va_Qd (fun (x : UInt64) (_ : Unit) => P9 x) (fun _ => zEnd g (va_A wc H.size) w1) (va_A wc H.size) a) (va_A wc H.size)) (hP : va_P g.1 vwCl (wc ++ x) H) (hD : va_D A0 (wc ++ x)) (hS : va_S A0 H0 H locs) (hA : ∀ q, H0.size ≤ q → A0 q) (hs : w1.map Prod.fst = wc.map Prod.fst)
    (kk : ∀ (z : UInt64) (H1 : Heap) (locs1 : List Loc) (d1 : Drawn), P9 z → s.drawn.sameBut d1 cs → va_P g.1 vwCl (w1 ++ x) H1 → va_D A0 (w1 ++ x) → va_S A0 H0 H1 locs1 → W p l e R (s.setDrawn d1) m args below meth c H1 locs1 cells slots Q (F0 m (pc + 3) ls (.double z :: rest))) : W p l e R (s.setDrawn d0) m args below meth c H locs cells slots Q (F0 m pc ls st0) := by
  have hF := va_free hD hS hA (List.range wc.length) (zrangeL (x := x))
  have hln : w1.length = wc.length := by have := congrArg List.length hs; simpa using this
  refine va_calldD hd0 hr hS (fun q _ h => hF q h) hF (fun z u t H1 locs1 ht hvm hp hB hz hk hS' d1 hd1 => ?_)
  obtain ⟨hP1, hD1⟩ := hB
  rw [ht] at hP1
  obtain ⟨g1, g2⟩ := zput_ok hP hD (List.range wc.length) zrangeL hs hk hP1
  rw [zputX hln] at g1 g2
  exact kk z H1 locs1 d1 hp hd1 g1 g2 hS'
theorem zkQ_d {P9 : UInt64 → Prop} {cs : List Choice} {d0 : Drawn} (hd0 : s.drawn.sameBut d0 cs) (hr : va_RunD cs p l e R (s.setDrawn d0) m args below meth c H locs cells slots 0 0 (F0 m pc ls st0) rest (va_Qd (fun (x : UInt64) (_ : Unit) => P9 x) (fun _ => zEnd g (va_A wc H.size) w1) (va_A wc H.size) a) (va_A wc H.size)) (hP : va_P g.1 vwCl (y ++ wc) H) (hD : va_D A0 (y ++ wc)) (hS : va_S A0 H0 H locs) (hA : ∀ q, H0.size ≤ q → A0 q) (hs : w1.map Prod.fst = wc.map Prod.fst)
    (kk : ∀ (z : UInt64) (H1 : Heap) (locs1 : List Loc) (d1 : Drawn), P9 z → s.drawn.sameBut d1 cs → va_P g.1 vwCl (y ++ w1) H1 → va_D A0 (y ++ w1) → va_S A0 H0 H1 locs1 → W p l e R (s.setDrawn d1) m args below meth c H1 locs1 cells slots Q (F0 m (pc + 3) ls (.double z :: rest))) : W p l e R (s.setDrawn d0) m args below meth c H locs cells slots Q (F0 m pc ls st0) := by
  have hF := va_free hD hS hA (List.range' y.length wc.length) zrangeQ
  have hln : w1.length = wc.length := by have := congrArg List.length hs; simpa using this
  refine va_calldD hd0 hr hS (fun q _ h => hF q h) hF (fun z u t H1 locs1 ht hvm hp hB hz hk hS' d1 hd1 => ?_)
  obtain ⟨hP1, hD1⟩ := hB
  rw [ht] at hP1
  obtain ⟨g1, g2⟩ := zput_ok hP hD (List.range' y.length wc.length) zrangeQ hs hk hP1
  rw [zputQ hln] at g1 g2
  exact kk z H1 locs1 d1 hp hd1 g1 g2 hS'
end ZQ
/-- what the pure part owes: the clock's functions and the reference's agree under a relation -/
def zThr (u : MV) : Int32 := u.2.2.2.2.2.2.2.1
def zAgL (Rel : CV → MV → Prop) (x : Option (Int32 × CV × FJ)) (y : Option (Int32 × MV)) : Prop := ∃ (k : Int32) (v : CV) (F : FJ) (b : Int32) (u : MV), x = some (k, v, F) ∧ y = some (b, u) ∧ zThr u = k ∧ (k = 0 → F 0 = Int32.toInt64 b) ∧ Rel v u
def zAgI (Rel : CV → MV → Prop) (x : Option (Int32 × CV)) (y : Option (Int32 × MV)) : Prop := ∃ (b : Int32) (v : CV) (u : MV), x = some (b, v) ∧ y = some (b, u) ∧ Rel v u
def zAgJ (Rel : CV → MV → Prop) (x : Option (Int64 × CV)) (y : Option (Int64 × MV)) : Prop := ∃ (b : Int64) (v : CV) (u : MV), x = some (b, v) ∧ y = some (b, u) ∧ Rel v u
