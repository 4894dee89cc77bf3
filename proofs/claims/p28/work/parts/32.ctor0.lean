/-! Making objects: rows of ints, rows of hours, a part made by another constructor. -/
def zcat (n : Nat) (f h : Nat → Nat) : Nat → Nat := fun k => if k < n then f k else h (k - n)
def zlst (L : List Nat) : Nat → Nat := fun k => L.getD k 0
section ZN
variable {nf : List zNFt} {nm : List zNMt}
variable {p : Program} {l : Launch} {e : Env} {R : Room} {s : State} {m : MethodId} {args : Array Value} {below : List Frame} {meth : Method} {c : Code} {H : Heap} {locs : List Loc} {cells slots : Nat} {Q : State → Prop}
variable {cc : ByteArray} {pc : Nat} {ls : Array Slot} {rest st0 : List Value} {A : Nat → Prop} {ws : va_W} {H0 : Heap} {g : zG} {a : Array Value}
theorem znewI (hexec : p.tables.exec = Jvm.exec) (hb : c.code = cc) (harr : (Cond.arrayClass .int).before args s = true) (hK : zK nf nm g s) (hP : va_P g.1 vwCl ws H) (hD : va_D A ws) (hS : va_S A H0 H locs) (hA : ∀ q, H0.size ≤ q → A q) {n : Int32} {N : Nat} (hn : ¬ n < 0) (hN : n.toNatClampNeg = N) (hbytes : N * componentBytes .int ≤ 536870912) (hcells : cells + 1 ≤ R.cells) (hslots : slots + N ≤ R.slots) (hdg : decode cc pc = .ok (.newarray .int, 2))
    (kk : ∀ (q : Nat) (H1 : Heap), va_P g.1 vwCl (ws ++ [(q, .inl (g.2.1, N, .inl (fun _ => 0)))]) H1 → va_D A (ws ++ [(q, .inl (g.2.1, N, .inl (fun _ => 0)))]) → va_S A H0 H1 locs → W p l e R s m args below meth c H1 locs (cells + 1) (slots + N) Q (F0 m (pc + 2) ls (.ref q :: rest))) : W p l e R s m args below meth c H locs cells slots Q (F0 m pc ls (.int n :: rest)) := by
  refine va_newa (atype := .int) (ty := .int) (a0 := (N, .inl (fun _ => 0))) hexec hb harr rfl hK.1 hP hD hS hA (fun _ => rfl) hn hN hbytes hcells hslots hdg (fun q cA H1 hK1 hP1 hD1 hS1 => ?_)
  have e1 := (hK1.2 2 (cA, .int) rfl).2
  have e2 := (hK.1.2 0 (g.2.1, .int) rfl).2
  have e : cA = g.2.1 := Option.some.inj (Eq.trans (Eq.symm e1) e2)
  subst e
  exact kk q H1 hP1 hD1 hS1
theorem znewH (hexec : p.tables.exec = Jvm.exec) (hb : c.code = cc) {own : String} {index : Nat} (hown : s.vm.findClass own = some m.cls) (hclink : (Cond.classLink own index "HourClock$Hour").before args s = true) (hover : va_AO "HourClock$Hour" s) (hK : zK nf nm g s) (hP : va_P g.1 vwCl ws H) (hD : va_D A ws) (hS : va_S A H0 H locs) (hA : ∀ q, H0.size ≤ q → A q) {n : Int32} {N : Nat} (hn : ¬ n < 0) (hN : n.toNatClampNeg = N) (hbytes : N * 4 ≤ 536870912) (hcells : cells + 1 ≤ R.cells) (hslots : slots + N ≤ R.slots) (hdg : decode cc pc = .ok (.anewarray index, 3))
    (kk : ∀ (q : Nat) (H1 : Heap), va_P g.1 vwCl (ws ++ [(q, .inl (g.2.2.1, N, .inr (.inr (.inr (.inr (fun _ => none))))))]) H1 → va_D A (ws ++ [(q, .inl (g.2.2.1, N, .inr (.inr (.inr (.inr (fun _ => none))))))]) → va_S A H0 H1 locs → W p l e R s m args below meth c H1 locs (cells + 1) (slots + N) Q (F0 m (pc + 3) ls (.ref q :: rest))) : W p l e R s m args below meth c H locs cells slots Q (F0 m pc ls (.int n :: rest)) := by
  refine va_newq hexec hb hown hclink hover hK.1 hP hD hS hA hn hN hbytes hcells hslots hdg (fun q cA H1 hK1 hP1 hD1 hS1 => ?_)
  obtain ⟨kA, comp, -, -, -, e1⟩ := (hK1.2 2 (cA, .object "HourClock$Hour") rfl).2
  obtain ⟨kB, comp2, -, -, -, e2⟩ := (hK.1.2 1 (g.2.2.1, .object "HourClock$Hour") rfl).2
  have e : cA = g.2.2.1 := Option.some.inj (Eq.trans (Eq.symm e1) e2)
  subst e
  exact kk q H1 hP1 hD1 hS1
/-- a constructor's contract: over its own fresh cell it makes the world w1 at addresses of its own -/
def zMc (nf : List zNFt) (nm : List zNMt) (l : Launch) (y : MethodName) (ws : List Cond) (rm : Room) (g : zG) (ci : Nat) (fs : List Value) (w1 : (Nat → Nat) → va_W) (mc ms : Nat) : Prop := ∀ (h0 sz : Nat), Met l y ws rm (va_Pc [.ref h0] (fun U => zPre nf nm g [(h0, .inr (ci, fs))] sz U ∧ va_AO "HourClock$Hour" U)) (va_Qv (fun (a : Nat → Nat) => a 0 = h0) (fun a t => zEnd g (va_A [(h0, .inr (ci, fs))] sz) (w1 a) t) (va_A [(h0, .inr (ci, fs))] sz)) mc ms (va_A [(h0, .inr (ci, fs))] sz)
theorem zblindC {As : List Value} {w : va_W} {sz : Nat} : FrameBlind (va_Pc As (fun U => zPre nf nm g w sz U ∧ va_AO "HourClock$Hour" U)) := fun a U fr mk q => by
  obtain ⟨q0, ⟨q1, qP, qK, qD⟩, q2⟩ := q
  exact ⟨q0, ⟨q1, qP, zK.call fr mk a qK, qD⟩, va_AO.moved (u := U) (U := U.calling fr mk a) (Vm.Alike.refl U.vm) q2⟩
theorem zlast {W0 : va_W} {x : Nat × va_E} : ([W0.length] : List Nat).map (fun i => (W0 ++ [x])[i]?) = ([x] : va_W).map some := by simp
theorem zpreC {q ci : Nat} {fs : List Value} (hK : zK nf nm g s) (hO : va_AO "HourClock$Hour" s) (hP : va_P g.1 vwCl (ws ++ [(q, .inr (ci, fs))]) H) (hD : va_D A (ws ++ [(q, .inr (ci, fs))])) : ∀ U : State, U.heap = H → s.WarmedH U.vm → va_Pc [.ref q] (fun U => zPre nf nm g [(q, .inr (ci, fs))] H.size U ∧ va_AO "HourClock$Hour" U) ([.ref q] : List Value).toArray U := fun U hU hW => ⟨rfl, ⟨by rw [hU], by rw [hU]; exact zsub hP [ws.length] zlast, hK.warm hW, (hD.sub [ws.length] rfl zlast).weaken (fun _ _ _ _ => trivial)⟩, va_AO.moved hW.alike hO⟩
theorem znd_range (n : Nat) : va_nd (List.range n) = true := by
  have key : ∀ (l : List Nat), l.Nodup → va_nd l = true := by
    intro l
    induction l with
    | nil => intro _; rfl
    | cons x l ih =>
      intro h
      have h1 := List.nodup_cons.mp h
      simp only [va_nd, Bool.and_eq_true]
      exact ⟨by simpa using h1.1, ih h1.2⟩
  exact key _ List.nodup_range
theorem zrangeL {ws x : va_W} : (List.range ws.length).map (fun i => (ws ++ x)[i]?) = ws.map some := by
  apply List.ext_getElem
  · simp
  · intro i h1 h2
    have hi : i < ws.length := by simpa using h1
    simp [List.getElem?_append_left hi, List.getElem?_eq_getElem hi]
theorem zk_c {q ci mc ms : Nat} {fs : List Value} {w1 : (Nat → Nat) → va_W} (hr : va_Run p l e R s m args below meth c H locs cells slots mc ms (F0 m pc ls st0) rest (va_Qv (fun (a : Nat → Nat) => a 0 = q) (fun a t => zEnd g (va_A [(q, .inr (ci, fs))] H.size) (w1 a) t) (va_A [(q, .inr (ci, fs))] H.size) a) (va_A [(q, .inr (ci, fs))] H.size)) (hP : va_P g.1 vwCl (ws ++ [(q, .inr (ci, fs))]) H) (hD : va_D A (ws ++ [(q, .inr (ci, fs))])) (hS : va_S A H0 H locs) (hA : ∀ q, H0.size ≤ q → A q)
    (kk : ∀ (b : Nat → Nat) (H1 : Heap) (locs1 : List Loc), b 0 = q → va_P g.1 vwCl (ws ++ w1 b) H1 → va_D A (ws ++ w1 b) → va_S A H0 H1 locs1 → W p l e R s m args below meth c H1 locs1 (cells + mc) (slots + ms) Q (F0 m (pc + 3) ls rest)) : W p l e R s m args below meth c H locs cells slots Q (F0 m pc ls st0) := by
  have hF := va_free (wc := [(q, .inr (ci, fs))]) hD hS hA [ws.length] zlast
  refine va_callv hr hS (fun q _ h => hF q h) hF (fun b t H1 locs1 ht hvm hp hB hz hk hS' => ?_)
  obtain ⟨hP1, hD1⟩ := hB
  rw [ht] at hP1
  obtain ⟨h1, h2⟩ := va_join (wr := ws) hP hD [ws.length] (List.range ws.length) zlast zrangeL (znd_range _) (by intro i hi h; simp at hi h; omega) hk hF hP1 hD1
  exact kk b H1 locs1 hp h1 h2 hS'
end ZN
