/-! Calls: every method's words are its own code and all good words of the tables. -/
abbrev zw (y : MethodName) (c : ByteArray) (m : Nat) (r : Option FieldType) : List Cond := Cond.code y c m r :: zW
section ZW
variable {R : Room} {s : State} {args : Array Value} {own C host : String} {index maxL n : Nat} {y : MethodName} {bytes : ByteArray} {ret : Option FieldType} {rm : Room}
theorem zw_pay (hw : ∀ w ∈ zW, w.before args s = true) (hc : Cond.code y bytes maxL ret ∈ zW) : ∀ w ∈ zw y bytes maxL ret, ∀ (a' : Array Value) (U : State), s.WarmedH U.vm → w.before a' U = true :=
  pay_in (big := zW) hw (fun w h => (List.mem_cons.mp h).elim (fun e => e ▸ ⟨hc, good_of_word (zW_good _ hc)⟩) (fun h => ⟨h, good_of_word (zW_good _ h)⟩))
theorem zcB (hw : ∀ w ∈ zW, w.before args s = true) (hl : Cond.methodLink own index y ∈ zW) (hc : Cond.code y bytes maxL ret ∈ zW) (hi : Cond.initialized y.cls ∈ zW) (hd : y.cls ≠ "java/lang/invoke/MethodHandle" ∧ y.cls ≠ "java/lang/invoke/VarHandle" ∧ (parseMethodDescriptor y.desc).map (fun d => d.parameters.length) = some n) (hrc : rm.cells = 0) (hrs : rm.slots = 0) (hR : rm.frames + 1 ≤ R.frames ∧ 8 + (maxL + 11) + rm.locals ≤ R.locals) : CallB R s args own index y bytes maxL ret (zw y bytes maxL ret) rm 0 0 n := by
  refine ⟨hrc, hrs, hR.1, hR.2, zw_pay hw hc, List.mem_cons_self, hw _ hc, hw _ hi, ⟨hd.1, hd.2.1⟩, fun sig h => ?_, hw _ hl⟩
  have h2 := hd.2.2
  rw [h] at h2
  exact (Option.some.inj h2).symm
theorem zcV (hw : ∀ w ∈ zW, w.before args s = true) (hl : Cond.methodLink own index y ∈ zW) (hc : Cond.code y bytes maxL ret ∈ zW) (hi : Cond.initialized y.cls ∈ zW) (hin : Cond.instanceMethod y ∈ zW) (hse : Cond.selects C y y ∈ zW) (hd : y.cls ≠ "java/lang/invoke/MethodHandle" ∧ y.cls ≠ "java/lang/invoke/VarHandle" ∧ (parseMethodDescriptor y.desc).map (fun d => d.parameters.length) = some n) (hrc : rm.cells = 0) (hrs : rm.slots = 0) (hR : rm.frames + 1 ≤ R.frames ∧ 8 + (maxL + 11) + rm.locals ≤ R.locals) : CallW R s args own C index y bytes maxL ret (zw y bytes maxL ret) rm 0 0 n :=
  ⟨zcB hw hl hc hi hd hrc hrs hR, hw _ hin, hw _ hse⟩
theorem zcS (hw : ∀ w ∈ zW, w.before args s = true) (hl : Cond.methodLink own index y ∈ zW) (hc : Cond.code y bytes maxL ret ∈ zW) (hi : Cond.initialized y.cls ∈ zW) (hin : Cond.static y ∈ zW) (hd : y.cls ≠ "java/lang/invoke/MethodHandle" ∧ y.cls ≠ "java/lang/invoke/VarHandle" ∧ (parseMethodDescriptor y.desc).map (fun d => d.parameters.length) = some n) (hrc : rm.cells = 0) (hrs : rm.slots = 0) (hR : rm.frames + 1 ≤ R.frames ∧ 8 + (maxL + 11) + rm.locals ≤ R.locals) : CallB R s args own index y bytes maxL ret (zw y bytes maxL ret) rm 0 0 n ∧ (Cond.static y).before args s = true :=
  ⟨zcB hw hl hc hi hd hrc hrs hR, hw _ hin⟩
theorem zcN (hw : ∀ w ∈ zW, w.before args s = true) (hl : va_Nw (.methodLinkNest own index y host) s) (hc : Cond.code y bytes maxL ret ∈ zW) (hi : Cond.initialized y.cls ∈ zW) (hin : Cond.instanceMethod y ∈ zW) (hse : Cond.selects C y y ∈ zW) (hd : y.cls ≠ "java/lang/invoke/MethodHandle" ∧ y.cls ≠ "java/lang/invoke/VarHandle" ∧ (parseMethodDescriptor y.desc).map (fun d => d.parameters.length) = some n) (hrc : rm.cells = 0) (hrs : rm.slots = 0) (hR : rm.frames + 1 ≤ R.frames ∧ 8 + (maxL + 11) + rm.locals ≤ R.locals) : va_CN R s args own index y host bytes maxL ret (zw y bytes maxL ret) rm 0 0 n ∧ (Cond.instanceMethod y).before args s = true ∧ (Cond.selects C y y).before args s = true := by
  refine ⟨⟨⟨hrc, hrs, hR.1, hR.2, zw_pay hw hc, List.mem_cons_self⟩, hw _ hc, hw _ hi, ⟨hd.1, hd.2.1⟩, fun sig h => ?_, va_Nw.use rfl hl⟩, hw _ hin, hw _ hse⟩
  have h2 := hd.2.2
  rw [h] at h2
  exact (Option.some.inj h2).symm
end ZW
section ZA
variable {p : Program} {l : Launch} {e : Env} {R : Room} {s : State} {m : MethodId} {args : Array Value} {below : List Frame} {meth : Method} {c : Code} {H : Heap} {locs : List Loc} {cells slots : Nat} {Q : State → Prop}
variable {cc : ByteArray} {pc : Nat} {ls : Array Slot} {rest : List Value} {D : va_G} {cl : List vw_C} {A : Nat → Prop} {a : Nat} {tys : List (ClassId × FieldType)} {ws : va_W} {H0 : Heap}
theorem zald (hexec : p.tables.exec = Jvm.exec) (hb : c.code = cc) (hK : va_K D cl tys s) (hP : va_P D cl ws H) (q0 t0 : Nat) {cA : ClassId} {n : Nat} {f : Nat → Int32} (ha : ws[q0]? = some (a, .inl (cA, n, .inl f))) (ht : tys[t0]? = some (cA, .int)) {i : Int32} (hin : vp_in i n) {k : Nat} (hk : i.toNatClampNeg = k) (hdg : decode cc pc = .ok (.iaload, 1))
    (kk : W p l e R s m args below meth c H locs cells slots Q (F0 m (pc + 1) ls (.int (f k) :: rest))) : W p l e R s m args below meth c H locs cells slots Q (F0 m pc ls (.int i :: .ref a :: rest)) := by
  subst hk
  exact va_iald hexec hb hK hP q0 t0 ha ht hin hdg kk
theorem zast (hexec : p.tables.exec = Jvm.exec) (hb : c.code = cc) (hK : va_K D cl tys s) (hP : va_P D cl ws H) (hD : va_D A ws) (hS : va_S A H0 H locs) (q0 t0 : Nat) {cA : ClassId} {n : Nat} {f : Nat → Int32} (ha : ws[q0]? = some (a, .inl (cA, n, .inl f))) (ht : tys[t0]? = some (cA, .int)) {i : Int32} {x : Int32} (hin : vp_in i n) {k : Nat} (hk : i.toNatClampNeg = k) (hdg : decode cc pc = .ok (.iastore, 1))
    (kk : ∀ (H1 : Heap) (locs1 : List Loc), va_P D cl (ws.set q0 (a, .inl (cA, n, .inl (upd f k x)))) H1 → va_D A (ws.set q0 (a, .inl (cA, n, .inl (upd f k x)))) → va_S A H0 H1 locs1 → W p l e R s m args below meth c H1 locs1 cells slots Q (F0 m (pc + 1) ls rest)) : W p l e R s m args below meth c H locs cells slots Q (F0 m pc ls (.int x :: .int i :: .ref a :: rest)) := by
  subst hk
  exact va_iast hexec hb hK hP hD hS q0 t0 ha ht hin hdg kk
end ZA
/-- a loop, step by step: .inl goes on, .inr leaves it -/
def zloop {σ ρ : Type} (step : σ → Option (σ ⊕ ρ)) : Nat → σ → Option ρ
  | 0, _ => none
  | n + 1, x => (step x).bind (fun y => match y with | .inl x' => zloop step n x' | .inr r => some r)
theorem zloop_ind {σ ρ : Type} {step : σ → Option (σ ⊕ ρ)} {P : σ → ρ → Prop} (hs : ∀ (x : σ) (y : σ ⊕ ρ) (r : ρ), step x = some y → (∀ x' : σ, y = .inl x' → P x' r) → (∀ r' : ρ, y = .inr r' → r' = r) → P x r) : ∀ (n : Nat) (x : σ) (r : ρ), zloop step n x = some r → P x r := by
  intro n
  induction n with
  | zero => intro x r h; exact absurd h (by simp [zloop])
  | succ n ih =>
    intro x r h
    rw [zloop] at h
    obtain ⟨y, hy, h2⟩ := ob h
    cases y with
    | inl x' => exact hs x _ r hy (fun x'' e => by cases e; exact ih x' r h2) (fun r' e => by cases e)
    | inr r' => exact hs x _ r hy (fun x'' e => by cases e) (fun r'' e => by cases e; exact Option.some.inj h2)
theorem zsw {x : Int32} (n : Nat) (hn : n < 2 ^ 31) (h : ∀ k : Nat, k ≤ n → ¬ x = nI k) : x.toInt < 0 ∨ (n : Int) < x.toInt := by
  by_cases h0 : x.toInt < 0
  · exact Or.inl h0
  · by_cases h1 : (n : Int) < x.toInt
    · exact Or.inr h1
    · refine absurd ?_ (h x.toInt.toNat (by omega))
      apply Int32.toInt_inj.mp
      rw [nI_toInt (by omega)]
      omega
