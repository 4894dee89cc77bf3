/-! THE CLAIM OUT OF ONE WALK OF THE LAW'S BODY. Your part is whole_start (and what it stands on); all else here is the same for every law, but numbers. -/
def R_law : String := "HourClockLaw"
def lw_P (b : Addr) (xs : List Int32) (args : Array Value) (s : State) : Prop := args = #[.ref b] ∧ s.IntsAt b xs ∧ xs.length ≤ 260 ∧ (Jvm.Cond.and given_1 narrow_1).before args s = true
/-- what a walk over the start with the record d0 says of its end, said of the start itself -/
theorem lw_closed {s t : State} {o : Outcome} {d0 : Drawn} {L : List Loc} {k n : Nat} (hd0 : s.drawn.sameBut d0 lw_cs) (hv : ∃ v, o = .returned v) (hW : (s.setDrawn d0).WarmedH t.vm) (hs : (s.setDrawn d0).sameButNew ({ t with vm := s.vm } : State) L k n) : State.butDraws s t lw_cs (fun t1 => Framed s o t1 L k n) := by
  have h2 : t.drawn = d0 := congrArg State.drawn hs.1
  refine ⟨⟨hv, hW, State.sameButNew.setDrawn hs s.drawn⟩, ?_, by decide⟩
  rw [h2]
  exact hd0
def lw_Q (_ : Array Value) (s : State) (o : Outcome) (t : State) : Prop := o = .returned (some (.int 1)) ∧ State.butDraws s t lw_cs (fun t1 => Framed s o t1 [] 673158 7081995)
def lw_Z (below : List Frame) (a : Array Value) (s : State) : State → Prop := fun t => ∃ o, t.status = .running ∧ Ended t below o ∧ lw_Q a s o t
/-- the law's own end, with 1 on the stack, nothing written that was there before, its room as the claim has it; d0: the record of draws at this point (at the entry s.drawn: begin with 'refine W.base ?_' and 'have hd0 := Drawn.sameBut.refl s.drawn lw_cs') -/
theorem lw_ret {p : Program} {l : Launch} {e : Env} {s : State} {m : MethodId} {below : List Frame} {meth : Method} {c : Code} {b : Nat} {d0 : Drawn} (hd0 : s.drawn.sameBut d0 lw_cs) (hx : p.tables.exec = Jvm.exec) (hb : c.code = code) (hr : meth.sig.returnType = ret) (hlocks : meth.locks = false) {pc : Nat} {H : Heap} {ls : Array Slot} (hdg : decode code pc = .ok (.ireturn, 1)) : W p l e room_1 (s.setDrawn d0) m #[Value.ref b] below meth c H [] 673158 7081995 (lw_Z below #[Value.ref b] s) (F0 m pc ls [.int 1]) := by
  intro T hT X
  obtain ⟨fs, hret, hrun, hended, hW, hframe⟩ := X.leave (v := some (.int 1)) (hlocks := hlocks) (fun h => by rw [hr] at h; cases h)
  have hmeth' : T.vm.method? m = some meth := X.method'
  refine ⟨T.setFrames fs, ?_, .returned (some (.int 1)), hrun, hended, rfl, lw_closed hd0 ⟨_, rfl⟩ hW hframe⟩
  jvm_step X.here [X.here.top, hx, hb, hdg, hmeth', hr, ret, narrow_b1]
  (try refine ⟨rfl, ?_⟩); (try refine ⟨rfl, ?_⟩)
  first | (intro acts; rw [hret _ acts rfl rfl rfl]) | rw [hret _ _ rfl rfl rfl]
  exact Steps.refl _
/-- what holds at the law's entry: the machine, the code, the tables' words (any of lw_tbl by 'hts w (by decide +kernel)'), the script of L ints xs at the cell b, what the Statement gives of the start (any of its parts by flat_of_before) -/
def lw_At (p : Program) (s : State) (m : MethodId) (meth : Method) (c : Code) (b L : Nat) (xs : Nat → Int32) : Prop :=
  p.tables.exec = Jvm.exec ∧ c.code = code ∧ meth.sig.returnType = ret ∧ c.maxLocals = 9 ∧ s.vm.findClass R_law = some m.cls ∧ (∀ w ∈ lw_tbl, w.before #[Value.ref b] s = true) ∧ va_X b L xs s s.heap ∧ b < s.heap.size ∧ meth.locks = false ∧ (Jvm.Cond.and given_1 narrow_1).before #[Value.ref b] s = true
theorem va_P_mem {D : va_G} {cl : List vw_C} {ws ws' : va_W} {H : Heap} (h : va_P D cl ws H) (hm : ∀ q, q ∈ ws' → q ∈ ws) : va_P D cl ws' H := fun k q hk => by
  obtain ⟨i, hi⟩ := List.getElem?_of_mem (hm q (List.mem_of_getElem? hk))
  exact h i q hi
theorem va_D_nodup {A : Nat → Prop} {ws : va_W} : va_D A ws ↔ (ws.map Prod.fst).Nodup ∧ ∀ q, q ∈ ws → A q.1 := by
  constructor
  · intro h
    refine ⟨?_, fun q hq => ?_⟩
    · rw [List.Nodup, List.pairwise_iff_getElem]
      intro i j hi hj hij he
      rw [List.length_map] at hi hj
      rw [List.getElem_map, List.getElem_map] at he
      have := h.1 i j ws[i] ws[j] (List.getElem?_eq_getElem hi) (List.getElem?_eq_getElem hj) he
      omega
    · obtain ⟨i, hi⟩ := List.getElem?_of_mem hq
      exact h.2 i q hi
  · intro h
    refine ⟨fun i j p q hp hq hpq => ?_, fun k q hk => h.2 q (List.mem_of_getElem? hk)⟩
    obtain ⟨hi, ei⟩ := List.getElem?_eq_some_iff.mp hp
    obtain ⟨hj, ej⟩ := List.getElem?_eq_some_iff.mp hq
    have hpw := h.1
    rw [List.Nodup, List.pairwise_iff_getElem] at hpw
    rcases Nat.lt_trichotomy i j with hlt | he | hgt
    · exact absurd (by rw [List.getElem_map, List.getElem_map, ei, ej]; exact hpq) (hpw i j (by simpa using hi) (by simpa using hj) hlt)
    · exact he
    · exact absurd (by rw [List.getElem_map, List.getElem_map, ei, ej]; exact hpq.symm) (hpw j i (by simpa using hj) (by simpa using hi) hgt)
theorem va_D_perm {A : Nat → Prop} {ws ws' : va_W} (h : va_D A ws) (hp : ws.Perm ws') : va_D A ws' := by
  rw [va_D_nodup] at h ⊢
  exact ⟨(hp.map Prod.fst).nodup_iff.mp h.1, fun q hq => h.2 q (hp.mem_iff.mpr hq)⟩
theorem zswapA_perm {x : va_W} {p q r t : Nat × va_E} : ((((x ++ [p]) ++ [q]) ++ [r]) ++ [t]).Perm (((([p] ++ [q]) ++ [r]) ++ [t]) ++ x) := by
  have e : ((((x ++ [p]) ++ [q]) ++ [r]) ++ [t]) = x ++ ((([p] ++ [q]) ++ [r]) ++ [t]) := by simp only [List.append_assoc]
  rw [e]
  exact List.perm_append_comm
theorem zcBI {R : Room} {s : State} {args : Array Value} {own : String} {index maxL n mc ms : Nat} {y : MethodName} {bytes : ByteArray} {rm : Room} (hw : ∀ w ∈ zW, w.before args s = true) (hl : Cond.methodLink own index y ∈ zW) (hc : Cond.code y bytes maxL none ∈ zW) (hi : Cond.initialized y.cls ∈ zW) (hin : Cond.instanceMethod y ∈ zW) (hn : y.name = "<init>") (hd : y.cls ≠ "java/lang/invoke/MethodHandle" ∧ y.cls ≠ "java/lang/invoke/VarHandle" ∧ (parseMethodDescriptor y.desc).map (fun d => d.parameters.length) = some n) (hrc : rm.cells = mc) (hrs : rm.slots = ms) (hR : rm.frames + 1 ≤ R.frames ∧ 8 + (maxL + 11) + rm.locals ≤ R.locals) : CallB R s args own index y bytes maxL none (zw y bytes maxL none) rm mc ms n ∧ y.name = "<init>" ∧ (Cond.instanceMethod y).before args s = true := by
  refine ⟨⟨hrc, hrs, hR.1, hR.2, zw_pay hw hc, List.mem_cons_self, hw _ hc, hw _ hi, ⟨hd.1, hd.2.1⟩, fun sig h => ?_, hw _ hl⟩, hn, hw _ hin⟩
  have h2 := hd.2.2
  rw [h] at h2
  exact (Option.some.inj h2).symm
theorem zstr {args : Array Value} {s : State} {own tx : String} {k cur : Nat} (hc : s.vm.findClass own = some cur) (h : (Cond.stringRef own k tx).before args s = true) : ∃ sa : Nat, vk_R own k tx sa s := by
  obtain ⟨_, _, _, a, _, _, _, _, _, h2⟩ := Cond.stringRef_spec hc h
  exact ⟨a, vk_R.of h h2⟩
set_option maxHeartbeats 20000000 in
set_option maxRecDepth 100000 in
theorem whole_start {p : Program} {e : Env} {s : State} {m : MethodId} {below : List Frame} {meth : Method} {c : Code} (l : Launch) (hflags : l.flags = flags0) {b L : Nat} {xs : Nat → Int32} (hL : L ≤ 260) (C0 : lw_At p s m meth c b L xs) : W p l e room_1 s m #[Value.ref b] below meth c s.heap [] 0 0 (lw_Z below #[Value.ref b] s) (entryFrame m ([Value.ref b] : List Value).toArray 9) := by
  obtain ⟨hx, hb, hr, hml, hown, hts, hX, hbl, hlocks, hgv⟩ := id C0
  have hw0 : ∀ w ∈ zW, w.before #[Value.ref b] s = true := fun w h9 => hts w (zW_tbl w h9)
  have hgf := flat_of_before _ hgv
  have hown : s.vm.findClass RL = some m.cls := hown
  have hst9 : l.stackTraces = false := by unfold Launch.stackTraces; rw [hflags]; decide +kernel
  obtain ⟨c0, iS0, hKn0⟩ := u_known (C := RX0) (T := TX0) (N := 6) (n := 6) hw0 ziX0 (hw0 _ zm1_32)
  obtain ⟨c1, iS1, hKn1⟩ := u_known (C := RX1) (T := TX1) (N := 5) (n := 5) hw0 ziX1 (hw0 _ zm1_64)
  obtain ⟨c2, iS2, hKn2⟩ := u_known (C := RX2) (T := TX2) (N := 11) (n := 11) hw0 ziX2 (hw0 _ zm1_26)
  obtain ⟨c3, iS3, hKn3⟩ := u_known (C := RX3) (T := TX3) (N := 4) (n := 4) hw0 ziX3 (hw0 _ zm1_122)
  obtain ⟨c4, iS4, hKn4⟩ := u_known (C := RX4) (T := TX4) (N := 6) (n := 6) hw0 ziX4 (hw0 _ zm1_70)
  obtain ⟨c5, iS5, hKn5⟩ := u_known (C := RX5) (T := TX5) (N := 4) (n := 4) hw0 ziX5 (hw0 _ zm1_184)
  obtain ⟨c6, iS6, hKn6⟩ := u_known (C := RX6) (T := TX6) (N := 5) (n := 5) hw0 ziX6 (hw0 _ zm1_18)
  obtain ⟨dC, dI, hKc⟩ : ∃ (dC : Nat → ClassId) (dI : Nat → Nat → Nat), ∀ (k : Nat) (q : vw_C), vwCl[k]? = some q → u_Kn s q.1 q.2.1 q.2.2 (dC k) (dI k) := by
    refine ⟨fun k => if k = 0 then c0 else if k = 1 then c1 else if k = 2 then c2 else if k = 3 then c3 else if k = 4 then c4 else if k = 5 then c5 else c6, fun k => if k = 0 then iS0 else if k = 1 then iS1 else if k = 2 then iS2 else if k = 3 then iS3 else if k = 4 then iS4 else if k = 5 then iS5 else iS6, ?_⟩
    intro k q hq
    match k, hq with
    | 0, hq => cases hq; exact hKn0
    | 1, hq => cases hq; exact hKn1
    | 2, hq => cases hq; exact hKn2
    | 3, hq => cases hq; exact hKn3
    | 4, hq => cases hq; exact hKn4
    | 5, hq => cases hq; exact hKn5
    | 6, hq => cases hq; exact hKn6
    | k + 7, hq => simp [vwCl] at hq
  obtain ⟨cI, kI, comI, i1, i2, i3⟩ := Cond.arrayClass_spec (hw0 _ zm1_62)
  have hO := va_AO.of (hts _ (zt_1 (List.mem_of_getElem? (i := 182) rfl)))
  obtain ⟨comH, cH, kH, g1, g2, g3, g4, g5⟩ := Cond.arrayOver_spec hO
  obtain ⟨g, hg⟩ : ∃ g : zG, g = ((dC, dI), cI, cH, cI) := ⟨_, rfl⟩
  have hK : zK zNF zNM g s := by
    subst hg
    refine ⟨⟨hKc, fun k q hq => ?_⟩, ?_, ?_⟩
    · match k, hq with
      | 0, hq => cases hq; exact ⟨fun n z => ⟨fun k h => (by cases h), kI, i2, comI, i3⟩, i1⟩
      | 1, hq => cases hq; exact ⟨fun n z => ⟨fun k h => (by cases h), kH, g3, comH, g4⟩, kH, comH, g3, g4, g1, g5⟩
      | k + 2, hq => simp at hq
    · exact List.forall_mem_cons.mpr ⟨va_Nw.of rfl (hts _ (zt_1 (List.mem_of_getElem? (i := 38) rfl))), List.forall_mem_cons.mpr ⟨va_Nw.of rfl (hts _ (zt_1 (List.mem_of_getElem? (i := 39) rfl))), List.forall_mem_cons.mpr ⟨va_Nw.of rfl (hts _ (zt_1 (List.mem_of_getElem? (i := 41) rfl))), List.forall_mem_cons.mpr ⟨va_Nw.of rfl (hts _ (zt_1 (List.mem_of_getElem? (i := 42) rfl))), List.forall_mem_cons.mpr ⟨va_Nw.of rfl (hts _ (zt_1 (List.mem_of_getElem? (i := 46) rfl))), List.forall_mem_cons.mpr ⟨va_Nw.of rfl (hts _ (zt_1 (List.mem_of_getElem? (i := 48) rfl))), List.forall_mem_cons.mpr ⟨va_Nw.of rfl (hts _ (zt_1 (List.mem_of_getElem? (i := 79) rfl))), List.forall_mem_cons.mpr ⟨va_Nw.of rfl (hts _ (zt_1 (List.mem_of_getElem? (i := 81) rfl))), List.forall_mem_cons.mpr ⟨va_Nw.of rfl (hts _ (zt_1 (List.mem_of_getElem? (i := 83) rfl))), List.forall_mem_cons.mpr ⟨va_Nw.of rfl (hts _ (zt_1 (List.mem_of_getElem? (i := 98) rfl))), List.forall_mem_cons.mpr ⟨va_Nw.of rfl (hts _ (zt_1 (List.mem_of_getElem? (i := 99) rfl))), List.forall_mem_cons.mpr ⟨va_Nw.of rfl (hts _ (zt_1 (List.mem_of_getElem? (i := 100) rfl))), List.forall_mem_cons.mpr ⟨va_Nw.of rfl (hts _ (zt_1 (List.mem_of_getElem? (i := 102) rfl))), List.forall_mem_cons.mpr ⟨va_Nw.of rfl (hts _ (zt_1 (List.mem_of_getElem? (i := 103) rfl))), List.forall_mem_cons.mpr ⟨va_Nw.of rfl (hts _ (zt_1 (List.mem_of_getElem? (i := 105) rfl))), List.forall_mem_cons.mpr ⟨va_Nw.of rfl (hts _ (zt_1 (List.mem_of_getElem? (i := 106) rfl))), List.forall_mem_cons.mpr ⟨va_Nw.of rfl (hts _ (zt_1 (List.mem_of_getElem? (i := 108) rfl))), List.forall_mem_cons.mpr ⟨va_Nw.of rfl (hts _ (zt_1 (List.mem_of_getElem? (i := 128) rfl))), List.forall_mem_cons.mpr ⟨va_Nw.of rfl (hts _ (zt_1 (List.mem_of_getElem? (i := 142) rfl))), List.forall_mem_cons.mpr ⟨va_Nw.of rfl (hts _ (zt_1 (List.mem_of_getElem? (i := 144) rfl))), List.forall_mem_cons.mpr ⟨va_Nw.of rfl (hts _ (zt_1 (List.mem_of_getElem? (i := 146) rfl))), List.forall_mem_cons.mpr ⟨va_Nw.of rfl (hts _ (zt_1 (List.mem_of_getElem? (i := 148) rfl))), List.forall_mem_cons.mpr ⟨va_Nw.of rfl (hts _ (zt_1 (List.mem_of_getElem? (i := 150) rfl))), List.forall_mem_cons.mpr ⟨va_Nw.of rfl (hts _ (zt_1 (List.mem_of_getElem? (i := 152) rfl))), List.forall_mem_cons.mpr ⟨va_Nw.of rfl (hts _ (zt_1 (List.mem_of_getElem? (i := 155) rfl))), fun _ h9 => absurd h9 List.not_mem_nil⟩⟩⟩⟩⟩⟩⟩⟩⟩⟩⟩⟩⟩⟩⟩⟩⟩⟩⟩⟩⟩⟩⟩⟩⟩
    · exact List.forall_mem_cons.mpr ⟨va_Nw.of rfl (hts _ (zt_1 (List.mem_of_getElem? (i := 27) rfl))), List.forall_mem_cons.mpr ⟨va_Nw.of rfl (hts _ (zt_1 (List.mem_of_getElem? (i := 33) rfl))), List.forall_mem_cons.mpr ⟨va_Nw.of rfl (hts _ (zt_1 (List.mem_of_getElem? (i := 65) rfl))), List.forall_mem_cons.mpr ⟨va_Nw.of rfl (hts _ (zt_1 (List.mem_of_getElem? (i := 71) rfl))), List.forall_mem_cons.mpr ⟨va_Nw.of rfl (hts _ (zt_1 (List.mem_of_getElem? (i := 123) rfl))), List.forall_mem_cons.mpr ⟨va_Nw.of rfl (hts _ (zt_1 (List.mem_of_getElem? (i := 185) rfl))), List.forall_mem_cons.mpr ⟨va_Nw.of rfl (hts _ (zt_2 (List.mem_of_getElem? (i := 93) rfl))), List.forall_mem_cons.mpr ⟨va_Nw.of rfl (hts _ (zt_2 (List.mem_of_getElem? (i := 97) rfl))), List.forall_mem_cons.mpr ⟨va_Nw.of rfl (hts _ (zt_2 (List.mem_of_getElem? (i := 104) rfl))), List.forall_mem_cons.mpr ⟨va_Nw.of rfl (hts _ (zt_2 (List.mem_of_getElem? (i := 109) rfl))), List.forall_mem_cons.mpr ⟨va_Nw.of rfl (hts _ (zt_2 (List.mem_of_getElem? (i := 114) rfl))), List.forall_mem_cons.mpr ⟨va_Nw.of rfl (hts _ (zt_2 (List.mem_of_getElem? (i := 128) rfl))), List.forall_mem_cons.mpr ⟨va_Nw.of rfl (hts _ (zt_2 (List.mem_of_getElem? (i := 140) rfl))), List.forall_mem_cons.mpr ⟨va_Nw.of rfl (hts _ (zt_2 (List.mem_of_getElem? (i := 161) rfl))), List.forall_mem_cons.mpr ⟨va_Nw.of rfl (hts _ (zt_2 (List.mem_of_getElem? (i := 165) rfl))), List.forall_mem_cons.mpr ⟨va_Nw.of rfl (hts _ (zt_2 (List.mem_of_getElem? (i := 170) rfl))), List.forall_mem_cons.mpr ⟨va_Nw.of rfl (hts _ (zt_2 (List.mem_of_getElem? (i := 174) rfl))), List.forall_mem_cons.mpr ⟨va_Nw.of rfl (hts _ (zt_2 (List.mem_of_getElem? (i := 180) rfl))), List.forall_mem_cons.mpr ⟨va_Nw.of rfl (hts _ (zt_2 (List.mem_of_getElem? (i := 184) rfl))), List.forall_mem_cons.mpr ⟨va_Nw.of rfl (hts _ (zt_2 (List.mem_of_getElem? (i := 189) rfl))), List.forall_mem_cons.mpr ⟨va_Nw.of rfl (hts _ (zt_2 (List.mem_of_getElem? (i := 208) rfl))), List.forall_mem_cons.mpr ⟨va_Nw.of rfl (hts _ (zt_2 (List.mem_of_getElem? (i := 210) rfl))), List.forall_mem_cons.mpr ⟨va_Nw.of rfl (hts _ (zt_2 (List.mem_of_getElem? (i := 214) rfl))), List.forall_mem_cons.mpr ⟨va_Nw.of rfl (hts _ (zt_2 (List.mem_of_getElem? (i := 218) rfl))), List.forall_mem_cons.mpr ⟨va_Nw.of rfl (hts _ (zt_2 (List.mem_of_getElem? (i := 236) rfl))), List.forall_mem_cons.mpr ⟨va_Nw.of rfl (hts _ (zt_3 (List.mem_of_getElem? (i := 0) rfl))), List.forall_mem_cons.mpr ⟨va_Nw.of rfl (hts _ (zt_3 (List.mem_of_getElem? (i := 4) rfl))), List.forall_mem_cons.mpr ⟨va_Nw.of rfl (hts _ (zt_3 (List.mem_of_getElem? (i := 16) rfl))), List.forall_mem_cons.mpr ⟨va_Nw.of rfl (hts _ (zt_3 (List.mem_of_getElem? (i := 28) rfl))), List.forall_mem_cons.mpr ⟨va_Nw.of rfl (hts _ (zt_3 (List.mem_of_getElem? (i := 36) rfl))), List.forall_mem_cons.mpr ⟨va_Nw.of rfl (hts _ (zt_3 (List.mem_of_getElem? (i := 44) rfl))), List.forall_mem_cons.mpr ⟨va_Nw.of rfl (hts _ (zt_3 (List.mem_of_getElem? (i := 53) rfl))), List.forall_mem_cons.mpr ⟨va_Nw.of rfl (hts _ (zt_3 (List.mem_of_getElem? (i := 57) rfl))), List.forall_mem_cons.mpr ⟨va_Nw.of rfl (hts _ (zt_3 (List.mem_of_getElem? (i := 65) rfl))), List.forall_mem_cons.mpr ⟨va_Nw.of rfl (hts _ (zt_3 (List.mem_of_getElem? (i := 69) rfl))), List.forall_mem_cons.mpr ⟨va_Nw.of rfl (hts _ (zt_3 (List.mem_of_getElem? (i := 73) rfl))), List.forall_mem_cons.mpr ⟨va_Nw.of rfl (hts _ (zt_3 (List.mem_of_getElem? (i := 90) rfl))), List.forall_mem_cons.mpr ⟨va_Nw.of rfl (hts _ (zt_3 (List.mem_of_getElem? (i := 144) rfl))), List.forall_mem_cons.mpr ⟨va_Nw.of rfl (hts _ (zt_3 (List.mem_of_getElem? (i := 148) rfl))), List.forall_mem_cons.mpr ⟨va_Nw.of rfl (hts _ (zt_3 (List.mem_of_getElem? (i := 149) rfl))), List.forall_mem_cons.mpr ⟨va_Nw.of rfl (hts _ (zt_3 (List.mem_of_getElem? (i := 163) rfl))), List.forall_mem_cons.mpr ⟨va_Nw.of rfl (hts _ (zt_3 (List.mem_of_getElem? (i := 180) rfl))), List.forall_mem_cons.mpr ⟨va_Nw.of rfl (hts _ (zt_3 (List.mem_of_getElem? (i := 191) rfl))), List.forall_mem_cons.mpr ⟨va_Nw.of rfl (hts _ (zt_3 (List.mem_of_getElem? (i := 193) rfl))), List.forall_mem_cons.mpr ⟨va_Nw.of rfl (hts _ (zt_3 (List.mem_of_getElem? (i := 205) rfl))), List.forall_mem_cons.mpr ⟨va_Nw.of rfl (hts _ (zt_3 (List.mem_of_getElem? (i := 210) rfl))), fun _ h9 => absurd h9 List.not_mem_nil⟩⟩⟩⟩⟩⟩⟩⟩⟩⟩⟩⟩⟩⟩⟩⟩⟩⟩⟩⟩⟩⟩⟩⟩⟩⟩⟩⟩⟩⟩⟩⟩⟩⟩⟩⟩⟩⟩⟩⟩⟩⟩⟩⟩⟩⟩
  obtain ⟨cHC, hHC⟩ : ∃ cur, s.vm.findClass "HourClock" = some cur := ⟨c6, hKn6.2.1⟩
  have hKx : zKx s := by
    refine ⟨fun w hw => ?_, ?_⟩
    · rcases List.mem_append.mp hw with hw | hw
      · obtain ⟨q, hq, rfl⟩ := List.mem_map.mp hw
        exact (List.forall_mem_cons.mpr ⟨va_Nw.of rfl (hts _ (zt_2 (List.mem_of_getElem? (i := 1) rfl))), List.forall_mem_cons.mpr ⟨va_Nw.of rfl (hts _ (zt_2 (List.mem_of_getElem? (i := 71) rfl))), List.forall_mem_cons.mpr ⟨va_Nw.of rfl (hts _ (zt_2 (List.mem_of_getElem? (i := 146) rfl))), fun _ h9 => absurd h9 List.not_mem_nil⟩⟩⟩ : ∀ q ∈ zCa, va_Nw (Cond.castable q.1 q.2) s) q hq
      · obtain ⟨q, hq, rfl⟩ := List.mem_map.mp hw
        exact (List.forall_mem_cons.mpr ⟨va_Nw.of rfl (hts _ (zt_2 (List.mem_of_getElem? (i := 2) rfl))), List.forall_mem_cons.mpr ⟨va_Nw.of rfl (hts _ (zt_2 (List.mem_of_getElem? (i := 3) rfl))), List.forall_mem_cons.mpr ⟨va_Nw.of rfl (hts _ (zt_2 (List.mem_of_getElem? (i := 4) rfl))), List.forall_mem_cons.mpr ⟨va_Nw.of rfl (hts _ (zt_2 (List.mem_of_getElem? (i := 5) rfl))), List.forall_mem_cons.mpr ⟨va_Nw.of rfl (hts _ (zt_2 (List.mem_of_getElem? (i := 6) rfl))), List.forall_mem_cons.mpr ⟨va_Nw.of rfl (hts _ (zt_2 (List.mem_of_getElem? (i := 7) rfl))), fun _ h9 => absurd h9 List.not_mem_nil⟩⟩⟩⟩⟩⟩ : ∀ y ∈ zDe, va_Nw (Cond.declares y) s) q hq
    · exact List.forall_mem_cons.mpr ⟨zstr hHC (hts _ (zt_2 (List.mem_of_getElem? (i := 40) rfl))), List.forall_mem_cons.mpr ⟨zstr hHC (hts _ (zt_2 (List.mem_of_getElem? (i := 67) rfl))), List.forall_mem_cons.mpr ⟨zstr hHC (hts _ (zt_2 (List.mem_of_getElem? (i := 68) rfl))), List.forall_mem_cons.mpr ⟨zstr hHC (hts _ (zt_2 (List.mem_of_getElem? (i := 78) rfl))), List.forall_mem_cons.mpr ⟨zstr hHC (hts _ (zt_2 (List.mem_of_getElem? (i := 127) rfl))), List.forall_mem_cons.mpr ⟨zstr hHC (hts _ (zt_2 (List.mem_of_getElem? (i := 153) rfl))), List.forall_mem_cons.mpr ⟨zstr hHC (hts _ (zt_2 (List.mem_of_getElem? (i := 160) rfl))), List.forall_mem_cons.mpr ⟨zstr hHC (hts _ (zt_2 (List.mem_of_getElem? (i := 179) rfl))), List.forall_mem_cons.mpr ⟨zstr hHC (hts _ (zt_2 (List.mem_of_getElem? (i := 209) rfl))), List.forall_mem_cons.mpr ⟨zstr hHC (hts _ (zt_2 (List.mem_of_getElem? (i := 235) rfl))), List.forall_mem_cons.mpr ⟨zstr hHC (hts _ (zt_3 (List.mem_of_getElem? (i := 15) rfl))), List.forall_mem_cons.mpr ⟨zstr hHC (hts _ (zt_3 (List.mem_of_getElem? (i := 143) rfl))), List.forall_mem_cons.mpr ⟨zstr hHC (hts _ (zt_3 (List.mem_of_getElem? (i := 192) rfl))), List.forall_mem_cons.mpr ⟨zstr hHC (hts _ (zt_3 (List.mem_of_getElem? (i := 209) rfl))), fun _ h9 => absurd h9 List.not_mem_nil⟩⟩⟩⟩⟩⟩⟩⟩⟩⟩⟩⟩⟩⟩
  have hNc : ∀ q ∈ zNcL, va_Nc q.1 q.2 s := List.forall_mem_cons.mpr ⟨va_Nc.of (hgf _ (by decide +kernel)), List.forall_mem_cons.mpr ⟨va_Nc.of (hgf _ (by decide +kernel)), List.forall_mem_cons.mpr ⟨va_Nc.of (hgf _ (by decide +kernel)), List.forall_mem_cons.mpr ⟨va_Nc.of (hgf _ (by decide +kernel)), List.forall_mem_cons.mpr ⟨va_Nc.of (hgf _ (by decide +kernel)), List.forall_mem_cons.mpr ⟨va_Nc.of (hgf _ (by decide +kernel)), fun _ h9 => absurd h9 List.not_mem_nil⟩⟩⟩⟩⟩⟩
  obtain ⟨A, hAe⟩ : ∃ A : Nat → Prop, A = (fun q => s.heap.size ≤ q) := ⟨_, rfl⟩
  have hA : ∀ q : Nat, s.heap.size ≤ q → A q := fun q h9 => by rw [hAe]; exact h9
  have hAi : ∀ q : Nat, A q → s.heap.size ≤ q := fun q h9 => by rw [hAe] at h9; exact h9
  have hbA : ¬ A b := fun h9 => absurd (hAi b h9) (Nat.not_le.mpr hbl)
  have hZs : zZs A s := ⟨vx_Zqof (hts _ (zt_2 (List.mem_of_getElem? (i := 26) rfl))) (hw0 _ zm1_8) (hgf _ (by decide +kernel)) (fun q h1 h2 => absurd (hAi q h2) (Nat.not_le.mpr h1)), vx_Zqof (hts _ (zt_2 (List.mem_of_getElem? (i := 28) rfl))) (hw0 _ zm1_8) (hgf _ (by decide +kernel)) (fun q h1 h2 => absurd (hAi q h2) (Nat.not_le.mpr h1))⟩
  have hS : va_S A s.heap s.heap [] := va_S.rf
  have hP : va_P g.1 vwCl [] s.heap := fun k q h => by simp at h
  have hD : va_D A [] := ⟨fun i j p q h => by simp at h, fun k q h => by simp at h⟩
  have hl := lv_entry ([.ref b]) (n := 9) (Nat.le_of_ble_eq_true rfl)
  rw [lg_entry_eq]
  generalize (lg_sl ([.ref b]) ++ List.replicate (9 - (lg_sl ([.ref b])).length) Slot.unset).toArray = ls at hl ⊢
  have hl : lv_has ls 9 [(0, .ref b)] := hl
  refine va_new (ci := 6) (fs := [.null, .null, .null, .int 0, .null]) (C := RX6) (T := TX6) (N := 5) hx hb hw0 ziX6 tyX6 tyX6_ok hown (hw0 _ zm1_17) (hw0 _ zm1_18) (hw0 _ zm1_1) hK.1 hP hD hS hA rfl (fun j hj => by rcases (show j = 0 ∨ j = 1 ∨ j = 2 ∨ j = 3 ∨ j = 4 by omega) with rfl | rfl | rfl | rfl | rfl <;> rfl) (Nat.le_of_ble_eq_true rfl) (Nat.le_of_ble_eq_true rfl) dL_law_0 (fun qa H hP hD hS => ?_)
  refine W.widen (k := 1) (n := 5) (Nat.le_refl _) (Nat.le_refl _) ?_
  refine lv_dup hx hb dL_law_3 rfl ?_
  refine zk_c (ws := []) (va_runI (As := []) (rest := [.ref qa]) ⟨hx, hb, hml, hown, hw0⟩ (c_X6_init l g qa _) (zcBI hw0 zm1_19 zm1_21 zm1_1 zm1_20 rfl hd_X6_init rfl rfl ⟨Nat.le_of_ble_eq_true rfl, Nat.le_of_ble_eq_true rfl⟩) ⟨zblindC, zpreC (ws := []) hK hO hP hD⟩ rfl rfl hl.1 rfl (lv_room (Nat.le_of_ble_eq_true rfl)) dL_law_4 ⟨Nat.le_of_ble_eq_true rfl, Nat.le_of_ble_eq_true rfl⟩) hP hD hS hA (fun a H locs hb0 hP9 hD9 hS => ?_)
  subst hb0
  have hP : va_P g.1 vwCl (zX6 g a zV_X6) H := hP9
  have hD : va_D A (zX6 g a zV_X6) := hD9
  refine W.widen (k := 112) (n := 1595) (Nat.le_refl _) (Nat.le_refl _) ?_
  refine lv_astore_n (lv' := [(1, .ref (a 0)), (0, .ref b)]) hx hb dL_law_7 rfl hl (by decide) rfl (fun ls hl => ?_)
  refine lv_bipush (v := 9) hx hb dL_law_8 (by decide) ?_
  refine znewI (N := 9) hx hb (hw0 _ zm1_62) hK hP hD hS hA (by decide) rfl (by decide) (Nat.le_of_ble_eq_true rfl) (Nat.le_of_ble_eq_true rfl) dL_law_10 (fun b0 H hP hD hS => ?_)
  refine W.widen (k := 113) (n := 1604) (Nat.le_refl _) (Nat.le_refl _) ?_
  refine lv_astore_n (lv' := [(2, .ref b0), (1, .ref (a 0)), (0, .ref b)]) hx hb dL_law_12 rfl hl (by decide) rfl (fun ls hl => ?_)
  refine lv_bipush (v := 30) hx hb dL_law_13 (by decide) ?_
  refine znewI (N := 30) hx hb (hw0 _ zm1_62) hK hP hD hS hA (by decide) rfl (by decide) (Nat.le_of_ble_eq_true rfl) (Nat.le_of_ble_eq_true rfl) dL_law_15 (fun b1 H hP hD hS => ?_)
  refine W.widen (k := 114) (n := 1634) (Nat.le_refl _) (Nat.le_refl _) ?_
  refine lv_astore_n (lv' := [(3, .ref b1), (2, .ref b0), (1, .ref (a 0)), (0, .ref b)]) hx hb dL_law_17 rfl hl (by decide) rfl (fun ls hl => ?_)
  refine lv_bipush (v := 15) hx hb dL_law_18 (by decide) ?_
  refine znewI (N := 15) hx hb (hw0 _ zm1_62) hK hP hD hS hA (by decide) rfl (by decide) (Nat.le_of_ble_eq_true rfl) (Nat.le_of_ble_eq_true rfl) dL_law_20 (fun b2 H hP hD hS => ?_)
  refine W.widen (k := 115) (n := 1649) (Nat.le_refl _) (Nat.le_refl _) ?_
  refine lv_astore (lv' := [(4, .ref b2), (3, .ref b1), (2, .ref b0), (1, .ref (a 0)), (0, .ref b)]) hx hb dL_law_22 hl (by decide) rfl (fun ls hl => ?_)
  refine lv_bipush (v := 63) hx hb dL_law_24 (by decide) ?_
  refine znewI (N := 63) hx hb (hw0 _ zm1_62) hK hP hD hS hA (by decide) rfl (by decide) (Nat.le_of_ble_eq_true rfl) (Nat.le_of_ble_eq_true rfl) dL_law_26 (fun b3 H hP hD hS => ?_)
  refine W.widen (k := 116) (n := 1712) (Nat.le_refl _) (Nat.le_refl _) ?_
  refine lv_astore (lv' := [(5, .ref b3), (4, .ref b2), (3, .ref b1), (2, .ref b0), (1, .ref (a 0)), (0, .ref b)]) hx hb dL_law_28 hl (by decide) rfl (fun ls hl => ?_)
  have hP : va_P g.1 vwCl ([(b0, .inl (g.2.1, 9, .inl (fun _ => 0)))] ++ [(b1, .inl (g.2.1, 30, .inl (fun _ => 0)))] ++ [(b2, .inl (g.2.1, 15, .inl (fun _ => 0)))] ++ [(b3, .inl (g.2.1, 63, .inl (fun _ => 0)))] ++ zX6 g a zV_X6) H := va_P_mem hP (fun q hq => (zswapA_perm.mem_iff).mpr hq)
  have hD : va_D A ([(b0, .inl (g.2.1, 9, .inl (fun _ => 0)))] ++ [(b1, .inl (g.2.1, 30, .inl (fun _ => 0)))] ++ [(b2, .inl (g.2.1, 15, .inl (fun _ => 0)))] ++ [(b3, .inl (g.2.1, 63, .inl (fun _ => 0)))] ++ zX6 g a zV_X6) := va_D_perm hD zswapA_perm
  refine lv_aload_n hx hb dL_law_30 rfl (lv_at hl 4 rfl) ?_
  refine lv_aload_n hx hb dL_law_31 rfl (lv_at hl 3 rfl) ?_
  refine lv_aload_n hx hb dL_law_32 rfl (lv_at hl 2 rfl) ?_
  refine lv_aload hx hb dL_law_33 (lv_at hl 1 rfl) ?_
  refine lv_aload hx hb dL_law_35 (lv_at hl 0 rfl) ?_
  refine zkQ_i (y := []) (va_runS (As := [.ref (a 0), .ref b0, .ref b1, .ref b2, .ref b3]) (rest := []) ⟨hx, hb, hml, hown, hw0⟩ (c_L_isSo l hst9 g b0 b1 b2 b3 a (fun _ => 0) (fun _ => 0) (fun _ => 0) (fun _ => 0) zV_X6 _ (A_isSo JJ_0) _) (zcSB hw0 zm3_153 zm3_155 zm1_0 zm3_154 hd_L_isSo rfl rfl ⟨Nat.le_of_ble_eq_true rfl, Nat.le_of_ble_eq_true rfl⟩) ⟨zblindL, zpreWQ (y := []) hK hKx hZs hNc hP hD hS hA⟩ rfl rfl hl.1 rfl (lv_room (Nat.le_of_ble_eq_true rfl)) dL_law_37 ⟨Nat.le_of_ble_eq_true rfl, Nat.le_of_ble_eq_true rfl⟩) hP hD hS hA rfl (fun H locs hP hD hS => ?_)
  have hP : va_P g.1 vwCl ([(b0, .inl (g.2.1, 9, .inl (fun _ => 0)))] ++ [(b1, .inl (g.2.1, 30, .inl (fun _ => 0)))] ++ [(b2, .inl (g.2.1, 15, .inl (fun _ => 0)))] ++ [(b3, .inl (g.2.1, 63, .inl (fun _ => 0)))] ++ zX6 g a zV_X6) H := hP
  have hD : va_D A ([(b0, .inl (g.2.1, 9, .inl (fun _ => 0)))] ++ [(b1, .inl (g.2.1, 30, .inl (fun _ => 0)))] ++ [(b2, .inl (g.2.1, 15, .inl (fun _ => 0)))] ++ [(b3, .inl (g.2.1, 63, .inl (fun _ => 0)))] ++ zX6 g a zV_X6) := hD
  refine W.widen (k := 120 + 2 * 0) (n := 1736 + 12 * 0) (Nat.le_of_ble_eq_true rfl) (Nat.le_of_ble_eq_true rfl) ?_
  refine lv_istore (lv' := [(6, .int 1), (5, .ref b3), (4, .ref b2), (3, .ref b1), (2, .ref b0), (1, .ref (a 0)), (0, .ref b)]) hx hb dL_law_40 hl (by decide) rfl (fun ls hl => ?_)
  refine lv_iconst (v := 0) hx hb dL_law_42 (by decide) ?_
  refine lv_istore (lv' := [(7, .int (nI 0)), (6, .int 1), (5, .ref b3), (4, .ref b2), (3, .ref b1), (2, .ref b0), (1, .ref (a 0)), (0, .ref b)]) hx hb dL_law_43 hl (by decide) rfl (fun ls hl => ?_)
  have hend : ∀ (v : CV) (G0 G1 G2 G3 : FF), JJ v G0 G1 G2 G3 → ∀ (H : Heap) (locs : List Loc), va_P g.1 vwCl ([(b0, .inl (g.2.1, 9, .inl G0))] ++ [(b1, .inl (g.2.1, 30, .inl G1))] ++ [(b2, .inl (g.2.1, 15, .inl G2))] ++ [(b3, .inl (g.2.1, 63, .inl G3))] ++ zX6 g a v) H → va_D A ([(b0, .inl (g.2.1, 9, .inl G0))] ++ [(b1, .inl (g.2.1, 30, .inl G1))] ++ [(b2, .inl (g.2.1, 15, .inl G2))] ++ [(b3, .inl (g.2.1, 63, .inl G3))] ++ zX6 g a v) → va_S A s.heap H locs → ∀ ls : Array Slot, lv_has ls 9 [(0, .ref b), (1, .ref (a 0)), (2, .ref b0), (3, .ref b1), (4, .ref b2), (5, .ref b3), (6, .int 1)] → W p l e room_1 s m #[Value.ref b] below meth c H locs (500) (4000) (lw_Z below #[Value.ref b] s) (F0 m 191 ls []) := by
    intro v G0 G1 G2 G3 hJ H locs hP hD hS ls hl
    refine lv_iload hx hb dL_law_191 (lv_at hl 6 rfl) ?_
    refine lv_if_eq (tgt := 211) hx hb dL_law_193 (by decide) (fun c9 => absurd c9 (by decide)) (fun _ => ?_)
    refine lv_aload_n hx hb dL_law_196 rfl (lv_at hl 1 rfl) ?_
    refine lv_bipush (v := 14) hx hb dL_law_197 (by decide) ?_
    have hv9 : fa_L_valueOf v 14 = some (-2000002) := by
      unfold fa_L_valueOf f_X6_value
      rw [if_neg (by decide), if_neg (by decide)]
      rfl
    refine zkQ_i (y := ([(b0, .inl (g.2.1, 9, .inl G0))] ++ [(b1, .inl (g.2.1, 30, .inl G1))] ++ [(b2, .inl (g.2.1, 15, .inl G2))] ++ [(b3, .inl (g.2.1, 63, .inl G3))])) (zrun_w (vx_runSX (As := [.ref (a 0), .int 14]) (rest := []) ⟨hx, hb, hml, hown, hw0⟩ (ca_L_valueOf l hst9 g a v 14 _ hv9 _) (zcSX hw0 zm3_136 zmH3_138 zm1_0 zm3_137 hd_L_valueOf rfl rfl ⟨Nat.le_of_ble_eq_true rfl, Nat.le_of_ble_eq_true rfl⟩) ⟨zblindL, zpreWQ (y := ([(b0, .inl (g.2.1, 9, .inl G0))] ++ [(b1, .inl (g.2.1, 30, .inl G1))] ++ [(b2, .inl (g.2.1, 15, .inl G2))] ++ [(b3, .inl (g.2.1, 63, .inl G3))])) hK hKx hZs hNc hP hD hS hA⟩ rfl rfl hl.1 rfl (lv_room (Nat.le_of_ble_eq_true rfl)) dL_law_199 ⟨Nat.le_of_ble_eq_true rfl, Nat.le_of_ble_eq_true rfl⟩)) hP hD hS hA rfl (fun H locs hP hD hS => ?_)
    refine lv_ldc (v := -2000002) hx hb hown (hw0 _ zm2_118) dL_law_202 ?_
    refine lv_icmp_ne (tgt := 211) hx hb dL_law_204 (by decide) (fun c9 => absurd rfl c9) (fun _ => ?_)
    refine lv_iconst (v := 1) hx hb dL_law_207 (by decide) ?_
    refine lv_goto (tgt := 212) hx hb dL_law_208 (by decide) ?_
    refine va_forget (fun q hq => hAi _ (hS.2.2 q hq)) ?_
    refine W.widen (k := 673158) (n := 7081995) (Nat.le_of_ble_eq_true rfl) (Nat.le_of_ble_eq_true rfl) ?_
    exact lw_ret (Drawn.sameBut.refl s.drawn lw_cs) hx hb hr hlocks dL_law_212
  exact law_1 l hst9 hL hx hb hml hown hw0 hX hbl hK hKx hA hbA hZs hNc a b0 b1 b2 b3 (law_m l hst9 hL hx hb hml hown hw0 hX hbl hK hKx hA hbA hZs hNc a b0 b1 b2 b3 hend) 7 0 (by omega) zV_X6 (fun _ => 0) (fun _ => 0) (fun _ => 0) (fun _ => 0) JJ_0 H locs hP hD hS ls (lv_sub hl [7, 6, 5, 4, 3, 2, 1, 0] rfl)
