/-! Methods that throw: contracts that return or throw, the throw itself, the row of saved hours. -/
theorem ogp {α : Type} {c : Prop} [Decidable c] {x : Option α} {r : α} (h : (if c then x else none) = some r) : c ∧ x = some r := by
  by_cases hc : c
  · rw [if_pos hc] at h; exact ⟨hc, h⟩
  · rw [if_neg hc] at h; exact absurd h (by simp)
def zexc (k : Nat) : String := if k = 1 then "java/lang/IllegalArgumentException" else if k = 2 then "java/lang/IllegalStateException" else "java/lang/IndexOutOfBoundsException"
def zNames (k : Nat) : List String := if k = 3 then ["java/lang/RuntimeException", "java/lang/Exception"] else ["java/lang/RuntimeException", "java/lang/Exception"]
def zST : List (String × Nat × String) := [("HourClock", 36, "length"), ("HourClock", 41, "time"), ("HourClock", 43, "rank"), ("HourClock", 60, "the hour takes no more elements"), ("HourClock", 77, "the hour takes no more fillers"), ("HourClock", 88, "element"), ("HourClock", 91, "by"), ("HourClock", 100, "the element cannot have this length"), ("HourClock", 109, "the element does not wait"), ("HourClock", 127, "the hour is not over"), ("HourClock", 118, "seconds"), ("HourClock", 135, "what"), ("HourClock", 142, "filler"), ("HourClock", 154, "entry")]
def zCa : List (String × String) := [("java/lang/IllegalArgumentException", "java/lang/IllegalArgumentException"), ("java/lang/IllegalStateException", "java/lang/IllegalStateException"), ("java/lang/IndexOutOfBoundsException", "java/lang/IndexOutOfBoundsException")]
def zDe : List MethodName := [⟨"java/lang/RuntimeException", "<init>", "()V"⟩, ⟨"java/lang/RuntimeException", "<init>", "(Ljava/lang/String;)V"⟩, ⟨"java/lang/Exception", "<init>", "()V"⟩, ⟨"java/lang/Exception", "<init>", "(Ljava/lang/String;)V"⟩, ⟨"java/lang/Throwable", "<init>", "()V"⟩, ⟨"java/lang/Throwable", "<init>", "(Ljava/lang/String;)V"⟩]
def zXB : List Cond := zCa.map (fun q => Cond.castable q.1 q.2) ++ zDe.map (fun y => Cond.declares y)
theorem zx_w10 : ∀ w ∈ (vx_atS "HourClock" 38 "java/lang/IllegalArgumentException" ["java/lang/RuntimeException", "java/lang/Exception"]).filter goodWord, w ∈ lw_tbl := by decide +kernel
theorem zx_w1 : ∀ w ∈ (vx_atS "HourClock" 38 "java/lang/IllegalArgumentException" ["java/lang/RuntimeException", "java/lang/Exception"]).filter goodWord, w ∈ zW := fun w h => zW_mem (zx_w10 w h) (List.mem_filter.mp h).2
theorem zx_b1 : ∀ w ∈ (vx_atS "HourClock" 38 "java/lang/IllegalArgumentException" ["java/lang/RuntimeException", "java/lang/Exception"]).filter (fun w => !goodWord w), w ∈ zXB := by decide +kernel
theorem zx_o1 : ∀ w ∈ Cond.classLink "HourClock" 34 "java/lang/IllegalArgumentException" :: Cond.initialized "java/lang/IllegalArgumentException" :: vx_atS "HourClock" 38 "java/lang/IllegalArgumentException" ["java/lang/RuntimeException", "java/lang/Exception"], vx_ot w = true := by decide +kernel
theorem zx_w20 : ∀ w ∈ (vx_atS "HourClock" 62 "java/lang/IllegalStateException" ["java/lang/RuntimeException", "java/lang/Exception"]).filter goodWord, w ∈ lw_tbl := by decide +kernel
theorem zx_w2 : ∀ w ∈ (vx_atS "HourClock" 62 "java/lang/IllegalStateException" ["java/lang/RuntimeException", "java/lang/Exception"]).filter goodWord, w ∈ zW := fun w h => zW_mem (zx_w20 w h) (List.mem_filter.mp h).2
theorem zx_b2 : ∀ w ∈ (vx_atS "HourClock" 62 "java/lang/IllegalStateException" ["java/lang/RuntimeException", "java/lang/Exception"]).filter (fun w => !goodWord w), w ∈ zXB := by decide +kernel
theorem zx_o2 : ∀ w ∈ Cond.classLink "HourClock" 58 "java/lang/IllegalStateException" :: Cond.initialized "java/lang/IllegalStateException" :: vx_atS "HourClock" 62 "java/lang/IllegalStateException" ["java/lang/RuntimeException", "java/lang/Exception"], vx_ot w = true := by decide +kernel
theorem zx_w30 : ∀ w ∈ (vx_atS "HourClock" 90 "java/lang/IndexOutOfBoundsException" ["java/lang/RuntimeException", "java/lang/Exception"]).filter goodWord, w ∈ lw_tbl := by decide +kernel
theorem zx_w3 : ∀ w ∈ (vx_atS "HourClock" 90 "java/lang/IndexOutOfBoundsException" ["java/lang/RuntimeException", "java/lang/Exception"]).filter goodWord, w ∈ zW := fun w h => zW_mem (zx_w30 w h) (List.mem_filter.mp h).2
theorem zx_b3 : ∀ w ∈ (vx_atS "HourClock" 90 "java/lang/IndexOutOfBoundsException" ["java/lang/RuntimeException", "java/lang/Exception"]).filter (fun w => !goodWord w), w ∈ zXB := by decide +kernel
theorem zx_o3 : ∀ w ∈ Cond.classLink "HourClock" 86 "java/lang/IndexOutOfBoundsException" :: Cond.initialized "java/lang/IndexOutOfBoundsException" :: vx_atS "HourClock" 90 "java/lang/IndexOutOfBoundsException" ["java/lang/RuntimeException", "java/lang/Exception"], vx_ot w = true := by decide +kernel
def zKx (U : State) : Prop := (∀ w ∈ zXB, va_Nw w U) ∧ (∀ q ∈ zST, ∃ sa : Nat, vk_R q.1 q.2.1 q.2.2 sa U)
theorem zKx.warm {s U : State} (hW : s.WarmedH U.vm) (h : zKx s) : zKx U := by
  refine ⟨fun w hw => ?_, fun q hq => ?_⟩
  · have h1 := h.1 w hw
    rcases List.mem_append.mp hw with hw | hw
    · obtain ⟨q, -, rfl⟩ := List.mem_map.mp hw
      exact va_Nw.warmC hW h1
    · obtain ⟨y, -, rfl⟩ := List.mem_map.mp hw
      exact va_Nw.warmD hW h1
  · obtain ⟨sa, h2⟩ := h.2 q hq
    exact ⟨sa, h2.warm hW⟩
theorem zKx.call {U : State} (fr : JFrame) (mk : MethodId) (a : Array Value) (h : zKx U) : zKx (U.calling fr mk a) := by
  refine ⟨fun w hw => ?_, fun q hq => ?_⟩
  · have h1 := h.1 w hw
    rcases List.mem_append.mp hw with hw | hw
    · obtain ⟨q, -, rfl⟩ := List.mem_map.mp hw
      exact va_Nw.same rfl (rfl : U.vm = (U.calling fr mk a).vm) h1
    · obtain ⟨y, -, rfl⟩ := List.mem_map.mp hw
      exact va_Nw.same rfl (rfl : U.vm = (U.calling fr mk a).vm) h1
  · obtain ⟨sa, h2⟩ := h.2 q hq
    exact ⟨sa, h2.same (rfl : (U.calling fr mk a).vm = U.vm)⟩
def zZs (A : Nat → Prop) (U : State) : Prop := vx_Zq Bundle.tN "UNASSIGNED_STACK" Bundle.steD A U U.heap ∧ vx_Zq Bundle.tN "SUPPRESSED_SENTINEL" Bundle.listD A U U.heap
def zPreX (nf : List zNFt) (nm : List zNMt) (g : zG) (w : va_W) (sz : Nat) : State → Prop := fun U => zPre nf nm g w sz U ∧ zKx U ∧ zZs (va_A w sz) U
theorem zblindX {nf : List zNFt} {nm : List zNMt} {g : zG} {As : List Value} {w : va_W} {sz : Nat} : FrameBlind (va_Pc As (zPreX nf nm g w sz)) := fun a U fr mk q => by
  obtain ⟨q0, ⟨q1, qP, qK, qD⟩, q2, q3⟩ := q
  exact ⟨q0, ⟨q1, qP, zK.call fr mk a qK, qD⟩, zKx.call fr mk a q2, vx_Zq.moved (u := U) (U := U.calling fr mk a) (Vm.Alike.refl U.vm) q3.1, vx_Zq.moved (u := U) (U := U.calling fr mk a) (Vm.Alike.refl U.vm) q3.2⟩
/-- a contract that answers (r = .inr q) or throws (r = .inl k) -/
def zMx {ρ : Type} (nf : List zNFt) (nm : List zNMt) (l : Launch) (y : MethodName) (ws : List Cond) (rm : Room) (g : zG) (As : List Value) (w : va_W) (r : Nat ⊕ ρ) (res : ρ → Int32) (w1 : ρ → va_W) : Prop := ∀ sz : Nat, vx_Met l y ws rm (va_Pc As (zPreX nf nm g w sz)) (va_Qi (fun (x : Int32) (_ : Unit) => ∃ q, r = .inr q ∧ x = res q) (fun _ t => ∃ q, r = .inr q ∧ zEnd g (va_A w sz) (w1 q) t) (va_A w sz)) (vx_X (fun (_ : Unit) => True) (fun E _ t => ∃ k, r = .inl k ∧ E = zexc k ∧ zEnd g (va_A w sz) w t) (va_A w sz)) 1 6 (va_A w sz)
section ZX
variable {p : Program} {l : Launch} {e : Env} {R : Room} {s : State} {m : MethodId} {args : Array Value} {below : List Frame} {meth : Method} {c : Code} {H : Heap} {locs : List Loc} {cells slots : Nat} {Q : State → Prop}
variable {cc : ByteArray} {pc : Nat} {ls : Array Slot} {rest : List Value} {D : va_G} {cl : List vw_C} {A : Nat → Prop} {a : Nat} {tys : List (ClassId × FieldType)} {ws : va_W} {H0 : Heap} {g : zG}
theorem zeqi {x y : Int32} (h : x = y) (kk : W p l e R s m args below meth c H locs cells slots Q (F0 m pc ls (.int y :: rest))) : W p l e R s m args below meth c H locs cells slots Q (F0 m pc ls (.int x :: rest)) := h ▸ kk
theorem zaldq (hexec : p.tables.exec = Jvm.exec) (hb : c.code = cc) (hK : va_K D cl tys s) (hP : va_P D cl ws H) (q0 t0 : Nat) {cA : ClassId} {C : String} {n : Nat} {f : Nat → Option Nat} (ha : ws[q0]? = some (a, .inl (cA, n, .inr (.inr (.inr (.inr f)))))) (ht : tys[t0]? = some (cA, .object C)) {i : Int32} (hin : vp_in i n) {k x : Nat} (hk : i.toNatClampNeg = k) (hx : f k = some x) (hdg : decode cc pc = .ok (.aaload, 1))
    (kk : W p l e R s m args below meth c H locs cells slots Q (F0 m (pc + 1) ls (.ref x :: rest))) : W p l e R s m args below meth c H locs cells slots Q (F0 m pc ls (.int i :: .ref a :: rest)) := by
  subst hk
  refine va_aldq hexec hb hK hP q0 t0 ha ht hin hdg ?_
  rw [hx]
  exact kk
theorem zastq (hexec : p.tables.exec = Jvm.exec) (hb : c.code = cc) (hK : va_K D cl tys s) (hP : va_P D cl ws H) (hD : va_D A ws) (hS : va_S A H0 H locs) (q0 t0 qk ci : Nat) {cA : ClassId} {r : vw_C} {n v : Nat} {vs : List Value} {f f2 : Nat → Option Nat} (ha : ws[q0]? = some (a, .inl (cA, n, .inr (.inr (.inr (.inr f)))))) (ht : tys[t0]? = some (cA, .object r.1)) (hv : ws[qk]? = some (v, .inr (ci, vs))) (hc : cl[ci]? = some r) {i : Int32} (hin : vp_in i n) {k : Nat} (hk : i.toNatClampNeg = k) (hf : va_up f k (some v) = f2) (hdg : decode cc pc = .ok (.aastore, 1))
    (kk : ∀ (H1 : Heap) (locs1 : List Loc), va_P D cl (ws.set q0 (a, .inl (cA, n, .inr (.inr (.inr (.inr f2)))))) H1 → va_D A (ws.set q0 (a, .inl (cA, n, .inr (.inr (.inr (.inr f2)))))) → va_S A H0 H1 locs1 → W p l e R s m args below meth c H1 locs1 cells slots Q (F0 m (pc + 1) ls rest)) : W p l e R s m args below meth c H locs cells slots Q (F0 m pc ls (.ref v :: .int i :: .ref a :: rest)) := by
  subst hk
  subst hf
  exact va_astq hexec hb hK hP hD hS q0 t0 qk ci ha ht hv hc hin hdg kk
theorem zHat (g : zG) (a : Nat → Nat) (v : CV) (i : Nat) (hi : i < 4) : ∃ (qk : Nat) (vs : List Value), (zX6 g a v)[qk]? = some (a (40 + 18 * i), .inr (2, vs)) := by
  rcases (show i = 0 ∨ i = 1 ∨ i = 2 ∨ i = 3 by omega) with rfl | rfl | rfl | rfl
  · exact ⟨40, _, rfl⟩
  · exact ⟨58, _, rfl⟩
  · exact ⟨76, _, rfl⟩
  · exact ⟨94, _, rfl⟩
theorem zthrow {ρ : Type} {ik is ic : Nat} {text X : String} {k : Nat} {r : Nat ⊕ ρ} (hexec : p.tables.exec = Jvm.exec) (hb : c.code = cc) (hst9 : l.stackTraces = false) (hown : s.vm.findClass "HourClock" = some m.cls) (hk : (Cond.classLink "HourClock" ik X).before args s = true) (hini : (Cond.initialized X).before args s = true) (hstr : ∃ sa : Nat, vk_R "HourClock" is text sa s) (hB : ∀ w ∈ zXB, va_Nw w s) (hw0 : ∀ w ∈ zW, w.before args s = true)
    (h1 : ∀ w ∈ (vx_atS "HourClock" ic X ["java/lang/RuntimeException", "java/lang/Exception"]).filter goodWord, w ∈ zW) (h2 : ∀ w ∈ (vx_atS "HourClock" ic X ["java/lang/RuntimeException", "java/lang/Exception"]).filter (fun w => !goodWord w), w ∈ zXB) (h3 : ∀ w ∈ Cond.classLink "HourClock" ik X :: Cond.initialized X :: vx_atS "HourClock" ic X ["java/lang/RuntimeException", "java/lang/Exception"], vx_ot w = true)
    (hZs : zZs A s) (hcls : Bundle.fit X = true) (hnames : ∀ n ∈ ["java/lang/RuntimeException", "java/lang/Exception"], Bundle.fit n = true) {w : va_W} (hP : va_P g.1 vwCl w H) (hD : va_D A w) (hS : va_S A s.heap H locs) (hsize : ls.size = c.maxLocals) (htab : ∀ x ∈ c.exceptionTable.toList, False)
    (d0 : decode cc pc = .ok (.new ik, 3)) (d3 : decode cc (pc + 3) = .ok (.dup, 1)) (d4 : decode cc (pc + 4) = .ok (.ldc is, 2)) (d6 : decode cc (pc + 6) = .ok (.invokespecial ic, 3)) (d9 : decode cc (pc + 9) = .ok (.athrow, 1))
    (hRframes : 5 < R.frames) (hRlocals : (rest.map fun v => v.category).sum + 82 ≤ R.locals) (hRcells : 1 ≤ R.cells) (hRslots : 6 ≤ R.slots) (hlocks : meth.locks = false) (hr : r = .inl k) (hX : X = zexc k) {Qc : Array Value → State → Outcome → State → Prop} :
    W p l e R s m args below meth c H locs 0 0 (vx_MQ below Qc (vx_X (fun (_ : Unit) => True) (fun E _ t => ∃ k, r = .inl k ∧ E = zexc k ∧ zEnd g A w t) A) args s 1 6 A) (F0 m pc ls rest) := by
  obtain ⟨sa, hsa⟩ := hstr
  have hat : ∀ w ∈ vx_atS "HourClock" ic X ["java/lang/RuntimeException", "java/lang/Exception"], w.before args s = true := vx_hat (fun w hw => hw0 w (h1 w hw)) h2 (fun w hw => by
    have hq := hB w hw
    rcases List.mem_append.mp hw with hw | hw
    · obtain ⟨q, -, rfl⟩ := List.mem_map.mp hw
      exact va_Nw.use rfl hq
    · obtain ⟨y, -, rfl⟩ := List.mem_map.mp hw
      exact va_Nw.use rfl hq)
  refine vx_throwS (sa := sa) (A := A) hexec hb hst9 hown hcls hnames hk hini hsa hat h3 hZs.1 hZs.2 hS hsize d0 d3 d4 d6 d9 (fun x hx => (htab x hx).elim) (by simpa using hRframes) (by simpa using hRlocals) (by simpa using hRcells) (by simpa using hRslots) hlocks (fun t hal hz hk => ?_) hS.2.2 (Nat.le_refl _) (Nat.le_refl _)
  refine ⟨(), trivial, ⟨k, hr, hX, ?_, hD⟩, ?_⟩
  · exact hP.kept (fun j q hq => hk q.1 ((hP j q hq).lt))
  · exact ⟨Nat.le_trans hS.1 hz, fun q h1 h2 => by rw [hk q (Nat.lt_of_lt_of_le h1 hS.1)]; exact hS.2.1 q h1 h2⟩
end ZX
