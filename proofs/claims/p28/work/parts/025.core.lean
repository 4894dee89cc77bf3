/-! The core: a world's cells put back behind a call, contracts as pictures, the call rows over them. -/
abbrev FF := Nat → Int32
/-- what the store knows of classes: numbers of classes and slots, the classes of int[], Hour[] and long[] -/
abbrev zG : Type := va_G × ClassId × ClassId × ClassId
abbrev zT (g : zG) : List (ClassId × FieldType) := [(g.2.1, .int), (g.2.2.1, .object "HourClock$Hour")]
/-- the answer of a boolean -/
def zb (b : Bool) : Int32 := if b then 1 else 0
theorem zb_t : zb true = 1 := rfl
theorem zb_f : zb false = 0 := rfl
theorem zb_nar (b : Bool) : narrow .boolean (.int (zb b)) = .int (zb b) := by cases b <;> rfl
theorem zb_fit (b : Bool) : fits .boolean (.int (zb b)) = true := by cases b <;> rfl
/-- an index is in its row -/
def zin (i : Int32) (n : Nat) : Bool := decide (¬ (i < 0 ∨ n ≤ i.toNatClampNeg))
theorem zin_vp {i : Int32} {n : Nat} (h : zin i n = true) : vp_in i n := (of_decide_eq_true (p := ¬ (i < 0 ∨ n ≤ i.toNatClampNeg)) h : ¬ (i < 0 ∨ n ≤ i.toNatClampNeg))
theorem og {α : Type} {b : Bool} {x : Option α} {r : α} (h : (if b = true then x else none) = some r) : b = true ∧ x = some r := by
  cases b with
  | true => exact ⟨rfl, h⟩
  | false => exact absurd h (by simp)
theorem ob {α β : Type} {x : Option α} {k : α → Option β} {r : β} (h : x.bind k = some r) : ∃ u, x = some u ∧ k u = some r := by
  cases x with
  | none => exact absurd h (by simp)
  | some u => exact ⟨u, rfl, h⟩
theorem oi {α : Type} {c : Prop} [Decidable c] {x y : Option α} {r : α} (h : (if c then x else y) = some r) (hc : c) : x = some r := by rw [if_pos hc] at h; exact h
theorem oe {α : Type} {c : Prop} [Decidable c] {x y : Option α} {r : α} (h : (if c then x else y) = some r) (hc : ¬ c) : y = some r := by rw [if_neg hc] at h; exact h
/-- cells put back at their places -/
def zput : va_W → List Nat → va_W → va_W
  | ws, i :: is, q :: qs => zput (ws.set i q) is qs
  | ws, _, _ => ws
theorem zput_get : ∀ (is : List Nat) (qs ws : va_W), is.length = qs.length → ∀ (k : Nat) (q : Nat × va_E), (zput ws is qs)[k]? = some q → (∃ j : Nat, is[j]? = some k ∧ qs[j]? = some q) ∨ (k ∉ is ∧ ws[k]? = some q) := by
  intro is
  induction is with
  | nil => intro qs ws _ k q h; exact Or.inr ⟨List.not_mem_nil, by simpa [zput] using h⟩
  | cons i is ih =>
    intro qs ws hl k q h
    cases qs with
    | nil => simp at hl
    | cons q0 qs =>
      have hl' : is.length = qs.length := by simpa using hl
      rcases ih qs (ws.set i q0) hl' k q h with ⟨j, h1, h2⟩ | ⟨h1, h2⟩
      · exact Or.inl ⟨j + 1, by simpa using h1, by simpa using h2⟩
      · by_cases hki : k = i
        · subst hki
          have hlt : k < ws.length := by
            have := (List.getElem?_eq_some_iff.mp h2).1
            simpa using this
          rw [List.getElem?_set_self hlt] at h2
          exact Or.inl ⟨0, by simp, by simpa using h2⟩
        · rw [List.getElem?_set_ne (Ne.symm hki)] at h2
          exact Or.inr ⟨fun hm => (List.mem_cons.mp hm).elim hki h1, h2⟩
theorem zput_ok {A0 : Nat → Prop} {D : va_G} {cl : List vw_C} {ws wc w1 : va_W} {H H1 : Heap} (hP : va_P D cl ws H) (hD : va_D A0 ws) (isC : List Nat) (hC : isC.map (fun i => ws[i]?) = wc.map some) (hs : w1.map Prod.fst = wc.map Prod.fst)
    (hk : ∀ q : Nat, q < H.size → ¬ va_A wc H.size q → H1[q]? = H[q]?) (hP1 : va_P D cl w1 H1) : va_P D cl (zput ws isC w1) H1 ∧ va_D A0 (zput ws isC w1) := by
  have hlen : isC.length = wc.length := by have := congrArg List.length hC; simpa using this
  have hlen1 : w1.length = wc.length := by have := congrArg List.length hs; simpa using this
  have hl : isC.length = w1.length := hlen.trans hlen1.symm
  have at' : ∀ (j : Nat) (q : Nat × va_E), wc[j]? = some q → ∃ i, isC[j]? = some i ∧ ws[i]? = some q := by
    intro j q hq
    have h1 : (isC.map (fun i => ws[i]?))[j]? = some (some q) := by rw [hC, List.getElem?_map, hq]; rfl
    rw [List.getElem?_map] at h1
    cases hi : isC[j]? with
    | none => rw [hi] at h1; cases h1
    | some i => rw [hi] at h1; exact ⟨i, rfl, Option.some.inj h1⟩
  have adr : ∀ (k : Nat) (q : Nat × va_E), (zput ws isC w1)[k]? = some q → ∃ q0, ws[k]? = some q0 ∧ q0.1 = q.1 := by
    intro k q hq
    rcases zput_get isC w1 ws hl k q hq with ⟨j, h1, h2⟩ | ⟨-, h2⟩
    · have h3 : (w1.map Prod.fst)[j]? = some q.1 := by rw [List.getElem?_map, h2]; rfl
      rw [hs, List.getElem?_map] at h3
      cases hw : wc[j]? with
      | none => rw [hw] at h3; cases h3
      | some q0 =>
        rw [hw] at h3
        obtain ⟨i, g1, g2⟩ := at' j q0 hw
        rw [h1] at g1
        cases g1
        exact ⟨q0, g2, Option.some.inj h3⟩
    · exact ⟨q, h2, rfl⟩
  refine ⟨fun k q hq => ?_, fun i j p q hp hq hpq => ?_, fun k q hq => ?_⟩
  · rcases zput_get isC w1 ws hl k q hq with ⟨j, h1, h2⟩ | ⟨h1, h2⟩
    · exact hP1 j q h2
    · have hlt := (hP k q h2).lt
      refine (hP k q h2).kept (hk q.1 hlt (fun h => ?_))
      rcases h with ⟨j, e, h⟩ | h
      · obtain ⟨i, g1, g2⟩ := at' j (q.1, e) h
        have := hD.1 i k (q.1, e) q g2 h2 rfl
        subst this
        exact h1 (List.mem_of_getElem? g1)
      · omega
  · obtain ⟨p0, h1, h2⟩ := adr i p hp
    obtain ⟨q0, h3, h4⟩ := adr j q hq
    exact hD.1 i j p0 q0 h1 h3 (h2.trans (hpq.trans h4.symm))
  · obtain ⟨q0, h1, h2⟩ := adr k q hq
    rw [← h2]
    exact hD.2 k q0 h1
theorem zsub {D : va_G} {cl : List vw_C} {ws wc : va_W} {H : Heap} (hP : va_P D cl ws H) (isC : List Nat) (hC : isC.map (fun i => ws[i]?) = wc.map some) : va_P D cl wc H := by
  intro j q hq
  have h1 : (isC.map (fun i => ws[i]?))[j]? = some (some q) := by rw [hC, List.getElem?_map, hq]; rfl
  rw [List.getElem?_map] at h1
  cases hi : isC[j]? with
  | none => rw [hi] at h1; cases h1
  | some i => rw [hi] at h1; exact hP i q (Option.some.inj h1)
/-- the links between nest mates: fields (own class, place, class, name, descriptor, host), methods (own class, place, name, host) -/
abbrev zNFt : Type := String × Nat × String × String × String × String
abbrev zNMt : Type := String × Nat × MethodName × String
def zK (nf : List zNFt) (nm : List zNMt) (g : zG) (U : State) : Prop := va_K g.1 vwCl (zT g) U ∧ (∀ q ∈ nf, va_Nw (.fieldLinkNest q.1 q.2.1 q.2.2.1 q.2.2.2.1 q.2.2.2.2.1 q.2.2.2.2.2) U) ∧ (∀ q ∈ nm, va_Nw (.methodLinkNest q.1 q.2.1 q.2.2.1 q.2.2.2) U)
theorem zK.warm {nf : List zNFt} {nm : List zNMt} {g : zG} {s U : State} (hW : s.WarmedH U.vm) (h : zK nf nm g s) : zK nf nm g U := ⟨va_K.moved hW.alike h.1, fun q hq => va_Nw.warmF hW (h.2.1 q hq), fun q hq => va_Nw.warmM hW (h.2.2 q hq)⟩
theorem zK.call {nf : List zNFt} {nm : List zNMt} {g : zG} {U : State} (fr : JFrame) (mk : MethodId) (a : Array Value) (h : zK nf nm g U) : zK nf nm g (U.calling fr mk a) := ⟨va_K.moved (u := U) (U := U.calling fr mk a) (Vm.Alike.refl U.vm) h.1, fun q hq => va_Nw.same rfl (rfl : U.vm = (U.calling fr mk a).vm) (h.2.1 q hq), fun q hq => va_Nw.same rfl (rfl : U.vm = (U.calling fr mk a).vm) (h.2.2 q hq)⟩
section ZC
variable {nf : List zNFt} {nm : List zNMt}
def zPre (nf : List zNFt) (nm : List zNMt) (g : zG) (w : va_W) (sz : Nat) : State → Prop := fun U => U.heap.size = sz ∧ va_P g.1 vwCl w U.heap ∧ zK nf nm g U ∧ va_D (fun _ => True) w
def zEnd (g : zG) (A : Nat → Prop) (w1 : va_W) : State → Prop := fun t => va_P g.1 vwCl w1 t.heap ∧ va_D A w1
/-- contracts: over the world w the method answers r and leaves the world w1 -/
def zMi (nf : List zNFt) (nm : List zNMt) (l : Launch) (y : MethodName) (ws : List Cond) (rm : Room) (g : zG) (As : List Value) (w : va_W) (r : Int32) (w1 : va_W) : Prop := ∀ sz : Nat, Met l y ws rm (va_Pc As (zPre nf nm g w sz)) (va_Qi (fun (x : Int32) (_ : Unit) => x = r) (fun _ => zEnd g (va_A w sz) w1) (va_A w sz)) 0 0 (va_A w sz)
def zMl (nf : List zNFt) (nm : List zNMt) (l : Launch) (y : MethodName) (ws : List Cond) (rm : Room) (g : zG) (As : List Value) (w : va_W) (r : Int64) (w1 : va_W) : Prop := ∀ sz : Nat, Met l y ws rm (va_Pc As (zPre nf nm g w sz)) (va_Ql (fun (x : Int64) (_ : Unit) => x = r) (fun _ => zEnd g (va_A w sz) w1) (va_A w sz)) 0 0 (va_A w sz)
def zMv (nf : List zNFt) (nm : List zNMt) (l : Launch) (y : MethodName) (ws : List Cond) (rm : Room) (g : zG) (As : List Value) (w w1 : va_W) : Prop := ∀ sz : Nat, Met l y ws rm (va_Pc As (zPre nf nm g w sz)) (va_Qv (fun (_ : Unit) => True) (fun _ => zEnd g (va_A w sz) w1) (va_A w sz)) 0 0 (va_A w sz)
def zMr (nf : List zNFt) (nm : List zNMt) (l : Launch) (y : MethodName) (ws : List Cond) (rm : Room) (g : zG) (As : List Value) (w : va_W) (r : Nat) (w1 : va_W) : Prop := ∀ sz : Nat, Met l y ws rm (va_Pc As (zPre nf nm g w sz)) (va_Qr (fun (_ : Unit) => True) (fun _ ra t => ra = r ∧ zEnd g (va_A w sz) w1 t) (va_A w sz)) 0 0 (va_A w sz)
theorem zblind {g : zG} {As : List Value} {w : va_W} {sz : Nat} : FrameBlind (va_Pc As (zPre nf nm g w sz)) := fun a U fr mk q => by
  obtain ⟨q0, q1, qP, qK, qD⟩ := q
  exact ⟨q0, q1, qP, zK.call fr mk a qK, qD⟩
theorem zpre {A0 : Nat → Prop} {g : zG} {ws wc : va_W} {s : State} {H : Heap} {As : List Value} (hK : zK nf nm g s) (hP : va_P g.1 vwCl ws H) (hD : va_D A0 ws) (isC : List Nat) (hC : isC.map (fun i => ws[i]?) = wc.map some) (hn : va_nd isC = true) : ∀ U : State, U.heap = H → s.WarmedH U.vm → va_Pc As (zPre nf nm g wc H.size) As.toArray U := by
  intro U hU hW
  refine ⟨rfl, by rw [hU], by rw [hU]; exact zsub hP isC hC, hK.warm hW, ?_⟩
  exact (hD.sub isC hn hC).weaken (fun _ _ _ _ => trivial)
theorem zrecv {g : zG} {ws wc : va_W} {s : State} {H : Heap} (hK : zK nf nm g s) (hP : va_P g.1 vwCl ws H) (isC : List Nat) (hC : isC.map (fun i => ws[i]?) = wc.map some) {b ci : Nat} {fs : List Value} {q : vw_C} (hc : vwCl[ci]? = some q) (he : wc[0]? = some (b, .inr (ci, fs))) : ∃ cell : Cell, H[b]? = some cell ∧ cell.vm.isStatics = false ∧ s.vm.findClass q.1 = some cell.cls := va_recv hK.1 (zsub hP isC hC) hc he
variable {p : Program} {l : Launch} {e : Env} {R : Room} {s : State} {m : MethodId} {args : Array Value} {below : List Frame} {meth : Method} {c : Code} {H : Heap} {locs : List Loc} {cells slots : Nat} {Q : State → Prop}
variable {pc : Nat} {ls : Array Slot} {rest st0 : List Value} {a : Array Value} {A0 : Nat → Prop} {H0 : Heap} {g : zG} {ws wc w1 : va_W}
theorem zk_i {r : Int32} (hr : va_Run p l e R s m args below meth c H locs cells slots 0 0 (F0 m pc ls st0) rest (va_Qi (fun (x : Int32) (_ : Unit) => x = r) (fun _ => zEnd g (va_A wc H.size) w1) (va_A wc H.size) a) (va_A wc H.size)) (hP : va_P g.1 vwCl ws H) (hD : va_D A0 ws) (hS : va_S A0 H0 H locs) (hA : ∀ q, H0.size ≤ q → A0 q) (isC : List Nat) (hC : isC.map (fun i => ws[i]?) = wc.map some) (hs : w1.map Prod.fst = wc.map Prod.fst)
    (kk : ∀ (H1 : Heap) (locs1 : List Loc), va_P g.1 vwCl (zput ws isC w1) H1 → va_D A0 (zput ws isC w1) → va_S A0 H0 H1 locs1 → W p l e R s m args below meth c H1 locs1 cells slots Q (F0 m (pc + 3) ls (.int r :: rest))) : W p l e R s m args below meth c H locs cells slots Q (F0 m pc ls st0) := by
  refine va_calli hr hS (fun q _ h => va_free hD hS hA isC hC q h) (va_free hD hS hA isC hC) (fun x u t H1 locs1 ht hvm hp hB hz hk hS' => ?_)
  subst hp
  obtain ⟨hP1, hD1⟩ := hB
  rw [ht] at hP1
  obtain ⟨h1, h2⟩ := zput_ok hP hD isC hC hs hk hP1
  exact kk H1 locs1 h1 h2 hS'
theorem zk_l {r : Int64} (hr : va_Run p l e R s m args below meth c H locs cells slots 0 0 (F0 m pc ls st0) rest (va_Ql (fun (x : Int64) (_ : Unit) => x = r) (fun _ => zEnd g (va_A wc H.size) w1) (va_A wc H.size) a) (va_A wc H.size)) (hP : va_P g.1 vwCl ws H) (hD : va_D A0 ws) (hS : va_S A0 H0 H locs) (hA : ∀ q, H0.size ≤ q → A0 q) (isC : List Nat) (hC : isC.map (fun i => ws[i]?) = wc.map some) (hs : w1.map Prod.fst = wc.map Prod.fst)
    (kk : ∀ (H1 : Heap) (locs1 : List Loc), va_P g.1 vwCl (zput ws isC w1) H1 → va_D A0 (zput ws isC w1) → va_S A0 H0 H1 locs1 → W p l e R s m args below meth c H1 locs1 cells slots Q (F0 m (pc + 3) ls (.long r :: rest))) : W p l e R s m args below meth c H locs cells slots Q (F0 m pc ls st0) := by
  refine va_calll hr hS (fun q _ h => va_free hD hS hA isC hC q h) (va_free hD hS hA isC hC) (fun x u t H1 locs1 ht hvm hp hB hz hk hS' => ?_)
  subst hp
  obtain ⟨hP1, hD1⟩ := hB
  rw [ht] at hP1
  obtain ⟨h1, h2⟩ := zput_ok hP hD isC hC hs hk hP1
  exact kk H1 locs1 h1 h2 hS'
theorem zk_v (hr : va_Run p l e R s m args below meth c H locs cells slots 0 0 (F0 m pc ls st0) rest (va_Qv (fun (_ : Unit) => True) (fun _ => zEnd g (va_A wc H.size) w1) (va_A wc H.size) a) (va_A wc H.size)) (hP : va_P g.1 vwCl ws H) (hD : va_D A0 ws) (hS : va_S A0 H0 H locs) (hA : ∀ q, H0.size ≤ q → A0 q) (isC : List Nat) (hC : isC.map (fun i => ws[i]?) = wc.map some) (hs : w1.map Prod.fst = wc.map Prod.fst)
    (kk : ∀ (H1 : Heap) (locs1 : List Loc), va_P g.1 vwCl (zput ws isC w1) H1 → va_D A0 (zput ws isC w1) → va_S A0 H0 H1 locs1 → W p l e R s m args below meth c H1 locs1 cells slots Q (F0 m (pc + 3) ls rest)) : W p l e R s m args below meth c H locs cells slots Q (F0 m pc ls st0) := by
  refine va_callv hr hS (fun q _ h => va_free hD hS hA isC hC q h) (va_free hD hS hA isC hC) (fun u t H1 locs1 ht hvm hp hB hz hk hS' => ?_)
  obtain ⟨hP1, hD1⟩ := hB
  rw [ht] at hP1
  obtain ⟨h1, h2⟩ := zput_ok hP hD isC hC hs hk hP1
  exact kk H1 locs1 h1 h2 hS'
theorem zk_r {r : Nat} (hr : va_Run p l e R s m args below meth c H locs cells slots 0 0 (F0 m pc ls st0) rest (va_Qr (fun (_ : Unit) => True) (fun _ ra t => ra = r ∧ zEnd g (va_A wc H.size) w1 t) (va_A wc H.size) a) (va_A wc H.size)) (hP : va_P g.1 vwCl ws H) (hD : va_D A0 ws) (hS : va_S A0 H0 H locs) (hA : ∀ q, H0.size ≤ q → A0 q) (isC : List Nat) (hC : isC.map (fun i => ws[i]?) = wc.map some) (hs : w1.map Prod.fst = wc.map Prod.fst)
    (kk : ∀ (H1 : Heap) (locs1 : List Loc), va_P g.1 vwCl (zput ws isC w1) H1 → va_D A0 (zput ws isC w1) → va_S A0 H0 H1 locs1 → W p l e R s m args below meth c H1 locs1 cells slots Q (F0 m (pc + 3) ls (.ref r :: rest))) : W p l e R s m args below meth c H locs cells slots Q (F0 m pc ls st0) := by
  refine va_callr hr hS (fun q _ h => va_free hD hS hA isC hC q h) (va_free hD hS hA isC hC) (fun u ra t H1 locs1 ht hvm hp hB hz hk hS' => ?_)
  obtain ⟨he, hP1, hD1⟩ := hB
  subst he
  rw [ht] at hP1
  obtain ⟨h1, h2⟩ := zput_ok hP hD isC hC hs hk hP1
  exact kk H1 locs1 h1 h2 hS'
end ZC
theorem zput_set : ∀ (is : List Nat) (qs ws : va_W), is.map (fun i => ws[i]?) = qs.map some → zput ws is qs = ws := by
  intro is
  induction is with
  | nil => intro qs ws _; cases qs <;> rfl
  | cons i is ih =>
    intro qs ws h
    cases qs with
    | nil => rfl
    | cons q qs =>
      have h1 : ws[i]? = some q ∧ is.map (fun i => ws[i]?) = qs.map some := by simpa using h
      have h2 : ws.set i q = ws := by
        obtain ⟨hl, he⟩ := List.getElem?_eq_some_iff.mp h1.1
        rw [← he]
        exact List.set_getElem_self hl
      show zput (ws.set i q) is qs = ws
      rw [h2]
      exact ih qs ws h1.2
section ZR
variable {p : Program} {l : Launch} {e : Env} {R : Room} {s : State} {m : MethodId} {args : Array Value} {below : List Frame} {meth : Method} {c : Code} {H : Heap} {locs : List Loc} {cells slots : Nat} {Q : State → Prop}
variable {pc : Nat} {ls : Array Slot} {rest st0 : List Value} {a : Array Value} {A0 : Nat → Prop} {H0 : Heap} {g : zG} {ws wc : va_W}
theorem zk_iR {r : Int32} (hr : va_Run p l e R s m args below meth c H locs cells slots 0 0 (F0 m pc ls st0) rest (va_Qi (fun (x : Int32) (_ : Unit) => x = r) (fun _ => zEnd g (va_A wc H.size) wc) (va_A wc H.size) a) (va_A wc H.size)) (hP : va_P g.1 vwCl ws H) (hD : va_D A0 ws) (hS : va_S A0 H0 H locs) (hA : ∀ q, H0.size ≤ q → A0 q) (isC : List Nat) (hC : isC.map (fun i => ws[i]?) = wc.map some)
    (kk : ∀ (H1 : Heap) (locs1 : List Loc), va_P g.1 vwCl ws H1 → va_D A0 ws → va_S A0 H0 H1 locs1 → W p l e R s m args below meth c H1 locs1 cells slots Q (F0 m (pc + 3) ls (.int r :: rest))) : W p l e R s m args below meth c H locs cells slots Q (F0 m pc ls st0) :=
  zk_i hr hP hD hS hA isC hC rfl (fun H1 locs1 h1 h2 h3 => by rw [zput_set isC wc ws hC] at h1 h2; exact kk H1 locs1 h1 h2 h3)
theorem zk_lR {r : Int64} (hr : va_Run p l e R s m args below meth c H locs cells slots 0 0 (F0 m pc ls st0) rest (va_Ql (fun (x : Int64) (_ : Unit) => x = r) (fun _ => zEnd g (va_A wc H.size) wc) (va_A wc H.size) a) (va_A wc H.size)) (hP : va_P g.1 vwCl ws H) (hD : va_D A0 ws) (hS : va_S A0 H0 H locs) (hA : ∀ q, H0.size ≤ q → A0 q) (isC : List Nat) (hC : isC.map (fun i => ws[i]?) = wc.map some)
    (kk : ∀ (H1 : Heap) (locs1 : List Loc), va_P g.1 vwCl ws H1 → va_D A0 ws → va_S A0 H0 H1 locs1 → W p l e R s m args below meth c H1 locs1 cells slots Q (F0 m (pc + 3) ls (.long r :: rest))) : W p l e R s m args below meth c H locs cells slots Q (F0 m pc ls st0) :=
  zk_l hr hP hD hS hA isC hC rfl (fun H1 locs1 h1 h2 h3 => by rw [zput_set isC wc ws hC] at h1 h2; exact kk H1 locs1 h1 h2 h3)
end ZR
theorem zfreeA {A0 : Nat → Prop} {ws : va_W} {H0 H : Heap} {locs : List Loc} (hD : va_D A0 ws) (hS : va_S A0 H0 H locs) (hA : ∀ q, H0.size ≤ q → A0 q) : ∀ q, va_A ws H.size q → A0 q := by
  intro q h
  rcases h with ⟨k, e, h⟩ | h
  · exact hD.2 k (q, e) h
  · exact hA q (Nat.le_trans hS.1 h)
section ZAll
variable {nf : List zNFt} {nm : List zNMt}
variable {p : Program} {l : Launch} {e : Env} {R : Room} {s : State} {m : MethodId} {args : Array Value} {below : List Frame} {meth : Method} {c : Code} {H : Heap} {locs : List Loc} {cells slots : Nat} {Q : State → Prop}
variable {pc : Nat} {ls : Array Slot} {rest st0 : List Value} {a : Array Value} {A0 : Nat → Prop} {H0 : Heap} {g : zG} {ws w1 : va_W}
theorem zpreA {As : List Value} (hK : zK nf nm g s) (hP : va_P g.1 vwCl ws H) (hD : va_D A0 ws) : ∀ U : State, U.heap = H → s.WarmedH U.vm → va_Pc As (zPre nf nm g ws H.size) As.toArray U := fun U hU hW => ⟨rfl, by rw [hU], by rw [hU]; exact hP, hK.warm hW, hD.weaken (fun _ _ _ _ => trivial)⟩
theorem zrecvA (hK : zK nf nm g s) (hP : va_P g.1 vwCl ws H) {b ci : Nat} {fs : List Value} {q : vw_C} (hc : vwCl[ci]? = some q) (he : ws[0]? = some (b, .inr (ci, fs))) : ∃ cell : Cell, H[b]? = some cell ∧ cell.vm.isStatics = false ∧ s.vm.findClass q.1 = some cell.cls := va_recv hK.1 hP hc he
theorem zk_iA {r : Int32} (hr : va_Run p l e R s m args below meth c H locs cells slots 0 0 (F0 m pc ls st0) rest (va_Qi (fun (x : Int32) (_ : Unit) => x = r) (fun _ => zEnd g (va_A ws H.size) w1) (va_A ws H.size) a) (va_A ws H.size)) (hP : va_P g.1 vwCl ws H) (hD : va_D A0 ws) (hS : va_S A0 H0 H locs) (hA : ∀ q, H0.size ≤ q → A0 q)
    (kk : ∀ (H1 : Heap) (locs1 : List Loc), va_P g.1 vwCl w1 H1 → va_D A0 w1 → va_S A0 H0 H1 locs1 → W p l e R s m args below meth c H1 locs1 cells slots Q (F0 m (pc + 3) ls (.int r :: rest))) : W p l e R s m args below meth c H locs cells slots Q (F0 m pc ls st0) := by
  have hF := zfreeA hD hS hA
  refine va_calli hr hS (fun q _ h => hF q h) hF (fun x u t H1 locs1 ht hvm hp hB hz hk hS' => ?_)
  subst hp
  obtain ⟨hP1, hD1⟩ := hB
  rw [ht] at hP1
  exact kk H1 locs1 hP1 (hD1.weaken (fun k q _ h => hF q.1 h)) hS'
theorem zk_lA {r : Int64} (hr : va_Run p l e R s m args below meth c H locs cells slots 0 0 (F0 m pc ls st0) rest (va_Ql (fun (x : Int64) (_ : Unit) => x = r) (fun _ => zEnd g (va_A ws H.size) w1) (va_A ws H.size) a) (va_A ws H.size)) (hP : va_P g.1 vwCl ws H) (hD : va_D A0 ws) (hS : va_S A0 H0 H locs) (hA : ∀ q, H0.size ≤ q → A0 q)
    (kk : ∀ (H1 : Heap) (locs1 : List Loc), va_P g.1 vwCl w1 H1 → va_D A0 w1 → va_S A0 H0 H1 locs1 → W p l e R s m args below meth c H1 locs1 cells slots Q (F0 m (pc + 3) ls (.long r :: rest))) : W p l e R s m args below meth c H locs cells slots Q (F0 m pc ls st0) := by
  have hF := zfreeA hD hS hA
  refine va_calll hr hS (fun q _ h => hF q h) hF (fun x u t H1 locs1 ht hvm hp hB hz hk hS' => ?_)
  subst hp
  obtain ⟨hP1, hD1⟩ := hB
  rw [ht] at hP1
  exact kk H1 locs1 hP1 (hD1.weaken (fun k q _ h => hF q.1 h)) hS'
theorem zk_vA (hr : va_Run p l e R s m args below meth c H locs cells slots 0 0 (F0 m pc ls st0) rest (va_Qv (fun (_ : Unit) => True) (fun _ => zEnd g (va_A ws H.size) w1) (va_A ws H.size) a) (va_A ws H.size)) (hP : va_P g.1 vwCl ws H) (hD : va_D A0 ws) (hS : va_S A0 H0 H locs) (hA : ∀ q, H0.size ≤ q → A0 q)
    (kk : ∀ (H1 : Heap) (locs1 : List Loc), va_P g.1 vwCl w1 H1 → va_D A0 w1 → va_S A0 H0 H1 locs1 → W p l e R s m args below meth c H1 locs1 cells slots Q (F0 m (pc + 3) ls (rest))) : W p l e R s m args below meth c H locs cells slots Q (F0 m pc ls st0) := by
  have hF := zfreeA hD hS hA
  refine va_callv hr hS (fun q _ h => hF q h) hF (fun u t H1 locs1 ht hvm hp hB hz hk hS' => ?_)
  obtain ⟨hP1, hD1⟩ := hB
  rw [ht] at hP1
  exact kk H1 locs1 hP1 (hD1.weaken (fun k q _ h => hF q.1 h)) hS'
theorem zk_rA {r : Nat} (hr : va_Run p l e R s m args below meth c H locs cells slots 0 0 (F0 m pc ls st0) rest (va_Qr (fun (_ : Unit) => True) (fun _ ra t => ra = r ∧ zEnd g (va_A ws H.size) w1 t) (va_A ws H.size) a) (va_A ws H.size)) (hP : va_P g.1 vwCl ws H) (hD : va_D A0 ws) (hS : va_S A0 H0 H locs) (hA : ∀ q, H0.size ≤ q → A0 q)
    (kk : ∀ (H1 : Heap) (locs1 : List Loc), va_P g.1 vwCl w1 H1 → va_D A0 w1 → va_S A0 H0 H1 locs1 → W p l e R s m args below meth c H1 locs1 cells slots Q (F0 m (pc + 3) ls (.ref r :: rest))) : W p l e R s m args below meth c H locs cells slots Q (F0 m pc ls st0) := by
  have hF := zfreeA hD hS hA
  refine va_callr hr hS (fun q _ h => hF q h) hF (fun u ra t H1 locs1 ht hvm hp hB hz hk hS' => ?_)
  obtain ⟨he, hP1, hD1⟩ := hB
  subst he
  rw [ht] at hP1
  exact kk H1 locs1 hP1 (hD1.weaken (fun k q _ h => hF q.1 h)) hS'
end ZAll
