theorem zKx.draw {s : State} (d : Drawn) (h : zKx s) : zKx (s.setDrawn d) := ⟨fun w hw => (Cond.before_setDrawn #[] s d w).trans (h.1 w hw), fun q hq => by
  obtain ⟨sa, h2⟩ := h.2 q hq
  exact ⟨sa, h2.same (rfl : (s.setDrawn d).vm = s.vm)⟩⟩
theorem zl_cond {L j : Nat} (hL : L ≤ 2048) (hj : 4 * j ≤ 2048) (h : ¬ (Int32.ofNat L - 4) < nI (4 * j)) : 4 * j + 4 ≤ L := by
  rw [Int32.lt_iff_toInt_lt] at h
  have e1 : (Int32.ofNat L - 4).toInt = (L : Int) - 4 := pk_sub_toInt (a := L) (b := 4) (by omega) (by omega)
  rw [e1, nI_toInt (by omega)] at h
  omega
def zA_addElement (Rel : CV → MV → Prop) : Prop := ∀ (v : CV) (u : MV), Rel v u → ∀ (p1 p2 p3 : Int32) (F : FJ), zAgL Rel (f_L_addElement v p1 p2 p3 F) (f_X7_addElement u p1 p2 p3)
def zA_addFiller (Rel : CV → MV → Prop) : Prop := ∀ (v : CV) (u : MV), Rel v u → ∀ (p1 : Int32) (F : FJ), zAgL Rel (f_L_addFiller v p1 F) (f_X7_addFiller u p1)
def zA_stretch (Rel : CV → MV → Prop) : Prop := ∀ (v : CV) (u : MV), Rel v u → ∀ (p1 p2 : Int32) (F : FJ), zAgL Rel (f_L_stretch v p1 p2 F) (f_X7_stretch u p1 p2)
def zA_drop (Rel : CV → MV → Prop) : Prop := ∀ (v : CV) (u : MV), Rel v u → ∀ (p1 : Int32) (F : FJ), zAgL Rel (f_L_drop v p1 F) (f_X7_drop u p1)
def zA_pass (Rel : CV → MV → Prop) : Prop := ∀ (v : CV) (u : MV), Rel v u → ∀ (p1 : Int32) (F : FJ), zAgL Rel (f_L_pass v p1 F) (f_X7_pass u p1)
def zA_finish (Rel : CV → MV → Prop) : Prop := ∀ (v : CV) (u : MV), Rel v u → zAgI Rel (f_X6_finish v) (f_X7_finish u)
def zA_again (Rel : CV → MV → Prop) : Prop := ∀ (v : CV) (u : MV), Rel v u → ∀ (F : FJ), zAgL Rel (f_L_again v F) (f_X7_again u)
def zA_element (Rel : CV → MV → Prop) : Prop := ∀ (v : CV) (u : MV), Rel v u → ∀ (p1 p2 : Int32) (F : FJ), zAgL Rel (f_L_element v p1 p2 F) (f_X7_element u p1 p2)
def zA_filler (Rel : CV → MV → Prop) : Prop := ∀ (v : CV) (u : MV), Rel v u → ∀ (p1 p2 : Int32) (F : FJ), zAgL Rel (f_L_filler v p1 p2 F) (f_X7_filler u p1 p2)
def zA_value (Rel : CV → MV → Prop) : Prop := ∀ (v : CV) (u : MV), Rel v u → ∀ (p1 : Int32) (F : FJ), zAgL Rel (f_L_value v p1 F) (f_X7_value u p1)
def zA_entry (Rel : CV → MV → Prop) : Prop := ∀ (v : CV) (u : MV), Rel v u → ∀ (p1 p2 : Int32) (F : FJ), zAgL Rel (f_L_entry v p1 p2 F) (f_X7_entry u p1 p2)
def zA_backTime (Rel : CV → MV → Prop) : Prop := ∀ (v : CV) (u : MV), Rel v u → ∀ (p1 : Int32) (F : FJ), zAgL Rel (f_L_backTime v p1 F) (f_X7_backTime u p1)
def zA_beginOf (Rel : CV → MV → Prop) : Prop := ∀ (v : CV) (u : MV), Rel v u → ∀ (p1 : Int32) (F : FJ), zAgL Rel (f_L_beginOf v p1 F) (f_X7_beginOf u p1)
def zA_endOfHour (Rel : CV → MV → Prop) : Prop := ∀ (v : CV) (u : MV), Rel v u → zAgI Rel (f_X6_endOfHour v) (f_X7_endOfHour u)
def zA_drops (Rel : CV → MV → Prop) : Prop := ∀ (v : CV) (u : MV), Rel v u → zAgI Rel (f_X6_drops v) (f_X7_drops u)
def zA_silence (Rel : CV → MV → Prop) : Prop := ∀ (v : CV) (u : MV), Rel v u → zAgI Rel (f_X6_silence v) (f_X7_silence u)
def zA_choice (Rel : CV → MV → Prop) : Prop := ∀ (v : CV) (u : MV), Rel v u → ∀ (p1 : Int32) (F : FJ), zAgL Rel (f_L_choice v p1 F) (f_X7_choice u p1)
def zA_nextFull (Rel : CV → MV → Prop) : Prop := ∀ (v : CV) (u : MV), Rel v u → ∀ (p1 : Int32) (F : FJ), zAgL Rel (f_L_nextFull v p1 F) (f_X7_nextFull u p1)
def zA_bestDrop (Rel : CV → MV → Prop) : Prop := ∀ (v : CV) (u : MV), Rel v u → zAgI Rel (f_X6_bestDrop v) (f_X7_bestDrop u)
def zA_sounding (Rel : CV → MV → Prop) : Prop := ∀ (v : CV) (u : MV), Rel v u → u.1 0 = v.1.2.2.2.1 ∧ u.1 5 = v.1.2.2.2.2.2.1 ∧ Rel v (u.1, u.2.1, u.2.2.1, u.2.2.2.1, u.2.2.2.2.1, u.2.2.2.2.2.1, u.2.2.2.2.2.2.1, 0, u.2.2.2.2.2.2.2.2.1, u.2.2.2.2.2.2.2.2.2.1, u.2.2.2.2.2.2.2.2.2.2)
def zA_append (Rel : CV → MV → Prop) : Prop := ∀ (v : CV) (u : MV), Rel v u → ∀ (p1 : Int32) (F : FJ), zAgL Rel (f_L_append v p1 F) (f_X7_append u p1)
def zA_clearText (Rel : CV → MV → Prop) : Prop := ∀ (v : CV) (u : MV), Rel v u → zAgI Rel (f_X6_clearText v) (f_X7_clearText u)
def zA_parse (Rel : CV → MV → Prop) : Prop := ∀ (v : CV) (u : MV), Rel v u → zAgI Rel (f_X6_parse v) (f_X7_parse u)
def zA_undo (Rel : CV → MV → Prop) : Prop := ∀ (v : CV) (u : MV), Rel v u → ∀ (F : FJ), zAgL Rel (f_L_undo v F) (f_X7_undo u)
def zA_digest (Rel : CV → MV → Prop) : Prop := ∀ (v : CV) (u : MV), Rel v u → zAgJ Rel (f_X6_digest v) (f_X7_digest u)
def zAll (Rel : CV → MV → Prop) : Prop := zA_addElement Rel ∧ zA_addFiller Rel ∧ zA_stretch Rel ∧ zA_drop Rel ∧ zA_pass Rel ∧ zA_finish Rel ∧ zA_again Rel ∧ zA_element Rel ∧ zA_filler Rel ∧ zA_value Rel ∧ zA_entry Rel ∧ zA_backTime Rel ∧ zA_beginOf Rel ∧ zA_endOfHour Rel ∧ zA_drops Rel ∧ zA_silence Rel ∧ zA_choice Rel ∧ zA_nextFull Rel ∧ zA_bestDrop Rel ∧ zA_sounding Rel ∧ zA_append Rel ∧ zA_clearText Rel ∧ zA_parse Rel ∧ zA_undo Rel ∧ zA_digest Rel
def R_law : String := "HourClockLaw"
def lw_P (b : Addr) (xs : List Int32) (args : Array Value) (s : State) : Prop := args = #[.ref b] ∧ s.IntsAt b xs ∧ xs.length ≤ 2048 ∧ (Jvm.Cond.and given_1 narrow_1).before args s = true
/-- what a walk over the start with the record d0 says of its end, said of the start itself -/
theorem lw_closed {s t : State} {o : Outcome} {d0 : Drawn} {L : List Loc} {k n : Nat} (hd0 : s.drawn.sameBut d0 lw_cs) (hv : ∃ v, o = .returned v) (hW : (s.setDrawn d0).WarmedH t.vm) (hs : (s.setDrawn d0).sameButNew ({ t with vm := s.vm } : State) L k n) : State.butDraws s t lw_cs (fun t1 => Framed s o t1 L k n) := by
  have h2 : t.drawn = d0 := congrArg State.drawn hs.1
  refine ⟨⟨hv, hW, State.sameButNew.setDrawn hs s.drawn⟩, ?_, by decide⟩
  rw [h2]
  exact hd0
def lw_Q (_ : Array Value) (s : State) (o : Outcome) (t : State) : Prop := o = .returned (some (.int 1)) ∧ State.butDraws s t lw_cs (fun t1 => Framed s o t1 [] 601024 7293034)
def lw_Z (below : List Frame) (a : Array Value) (s : State) : State → Prop := fun t => ∃ o, t.status = .running ∧ Ended t below o ∧ lw_Q a s o t
/-- the law's own end, with 1 on the stack, nothing written that was there before, its room as the claim has it; d0: the record of draws at this point (at the entry s.drawn: begin with 'refine W.base ?_' and 'have hd0 := Drawn.sameBut.refl s.drawn lw_cs') -/
theorem lw_ret {p : Program} {l : Launch} {e : Env} {s : State} {m : MethodId} {below : List Frame} {meth : Method} {c : Code} {b : Nat} {d0 : Drawn} (hd0 : s.drawn.sameBut d0 lw_cs) (hx : p.tables.exec = Jvm.exec) (hb : c.code = code) (hr : meth.sig.returnType = ret) (hlocks : meth.locks = false) {pc : Nat} {H : Heap} {ls : Array Slot} (hdg : decode code pc = .ok (.ireturn, 1)) : W p l e room_1 (s.setDrawn d0) m #[Value.ref b] below meth c H [] 601024 7293034 (lw_Z below #[Value.ref b] s) (F0 m pc ls [.int 1]) := by
  intro T hT X
  obtain ⟨fs, hret, hrun, hended, hW, hframe⟩ := X.leave (v := some (.int 1)) (hlocks := hlocks) (fun h => by rw [hr] at h; cases h)
  have hmeth' : T.vm.method? m = some meth := X.method'
  refine ⟨T.setFrames fs, ?_, .returned (some (.int 1)), hrun, hended, rfl, lw_closed hd0 ⟨_, rfl⟩ hW hframe⟩
  jvm_step X.here [X.here.top, hx, hb, hdg, hmeth', hr, ret, narrow_b1]
  (try refine ⟨rfl, ?_⟩); (try refine ⟨rfl, ?_⟩)
  first | (intro acts; rw [hret _ acts rfl rfl rfl]) | rw [hret _ _ rfl rfl rfl]
  exact Steps.refl _
/-- what holds at the law's entry: the machine, the code, the tables' words (any of lw_tbl by 'hts w (by decide +kernel)'), the script of L ints xs at the cell b, what the Statement gives of the start (any of its parts by flat_of_before) -/
def lw_At (p : Program) (s : State) (m : MethodId) (meth : Method) (c : Code) (b L : Nat) (xs : Nat → Int32) : Prop :=
  p.tables.exec = Jvm.exec ∧ c.code = code ∧ meth.sig.returnType = ret ∧ c.maxLocals = 9 ∧ s.vm.findClass R_law = some m.cls ∧ (∀ w ∈ lw_tbl, w.before #[Value.ref b] s = true) ∧ va_X b L xs s s.heap ∧ b < s.heap.size ∧ meth.locks = false ∧ (Jvm.Cond.and given_1 narrow_1).before #[Value.ref b] s = true
set_option maxHeartbeats 20000000 in
set_option maxRecDepth 100000 in
theorem law_loop {p : Program} {e : Env} {s : State} {m : MethodId} {below : List Frame} {meth : Method} {c : Code} (l : Launch) (hst9 : l.stackTraces = false) {b L : Nat} {xs : Nat → Int32} (hL : L ≤ 2048) (C0 : lw_At p s m meth c b L xs) (Rel : CV → MV → Prop) (hAll : zAll Rel) (g : zG) (a h : Nat → Nat) (o : Nat) (hKs : zK zNF zNM g s) (hKxs : zKx s) (hZss : zZs (fun q => s.heap.size ≤ q) s) (hNcs : ∀ q ∈ zNcL, va_Nc q.1 q.2 s) : ∀ (n j : Nat), 4 * j ≤ 2048 → 513 ≤ j + n → ∀ (v : CV) (u : MV) (F : FJ), Rel v u → ∀ d0 : Drawn, s.drawn.sameBut d0 lw_cs → ∀ (H : Heap) (locs : List Loc), va_P g.1 vwCl ((zX6 g a v ++ [(o, .inl (g.2.2.2, 1, .inr (.inl F)))]) ++ zX7 g h u) H → va_D (fun q => s.heap.size ≤ q) ((zX6 g a v ++ [(o, .inl (g.2.2.2, 1, .inr (.inl F)))]) ++ zX7 g h u) → va_S (fun q => s.heap.size ≤ q) s.heap H locs → ∀ ls : Array Slot, lv_has ls 9 [(0, .ref b), (1, .ref (a 0)), (2, .ref (h 0)), (3, .ref o), (4, .int (nI (4 * j)))] → W p l e room_1 (s.setDrawn d0) m #[Value.ref b] below meth c H locs (119 + j) (3247 + 6 * j) (lw_Z below #[Value.ref b] s) (F0 m 23 ls []) := by
  obtain ⟨hx, hb, hr, hml, hown, hts, hX, hbl, hlocks, hgv⟩ := C0
  obtain ⟨hA_addElement, hA_addFiller, hA_stretch, hA_drop, hA_pass, hA_finish, hA_again, hA_element, hA_filler, hA_value, hA_entry, hA_backTime, hA_beginOf, hA_endOfHour, hA_drops, hA_silence, hA_choice, hA_nextFull, hA_bestDrop, hA_sounding, hA_append, hA_clearText, hA_parse, hA_undo, hA_digest⟩ := hAll
  have hw0s : ∀ w ∈ zW, w.before #[Value.ref b] s = true := fun w h9 => hts w (zW_tbl w h9)
  obtain ⟨A, hAe⟩ : ∃ A : Nat → Prop, A = (fun q => s.heap.size ≤ q) := ⟨_, rfl⟩
  rw [← hAe] at hZss ⊢
  have hA : ∀ q : Nat, s.heap.size ≤ q → A q := fun q h9 => by rw [hAe]; exact h9
  have hAi : ∀ q : Nat, A q → s.heap.size ≤ q := fun q h9 => by rw [hAe] at h9; exact h9
  have hbA : ¬ A b := fun h9 => absurd (hAi b h9) (Nat.not_le.mpr hbl)
  intro n
  induction n with
  | zero => intro j h1 h2; exact absurd h2 (by omega)
  | succ n ih =>
    intro j hj hn v u F hRel d0 hd0 H locs hP hD hS ls hl
    have hX : va_X b L xs (s.setDrawn d0) (s.setDrawn d0).heap := hX
    have hw0 := dr_words hw0s d0
    have hK := hKs.draw d0
    have hKx : zKx (s.setDrawn d0) := hKxs.draw d0
    have hZs : zZs A (s.setDrawn d0) := hZss
    have hNc : ∀ q ∈ zNcL, va_Nc q.1 q.2 (s.setDrawn d0) := hNcs
    refine lv_iload hx hb dL_law_23 (lv_at hl 4 rfl) ?_
    refine lv_aload_n hx hb dL_law_25 rfl (lv_at hl 0 rfl) ?_
    refine va_slen hx hb hX hbl hbA hS dL_law_26 ?_
    refine lv_iconst (v := 4) hx hb dL_law_27 (by decide) ?_
    refine lv_isub hx hb dL_law_28 ?_
    refine lv_icmp_gt (tgt := 1248) hx hb dL_law_29 (by decide) (fun _ => ?_) (fun c9 => ?_)
    · refine lv_iconst (v := 1) hx hb dL_law_1248 (by decide) ?_
      refine va_forget (fun q hq => hAi _ (hS.2.2 q hq)) ?_
      refine W.widen (k := 601024) (n := 7293034) (Nat.le_trans (show 119 + j ≤ 1000 by omega) (Nat.le_of_ble_eq_true rfl)) (Nat.le_trans (show 3247 + 6 * j ≤ 10000 by omega) (Nat.le_of_ble_eq_true rfl)) ?_
      exact lw_ret hd0 hx hb hr hlocks dL_law_1249
    · have hlt : 4 * j + 4 ≤ L := zl_cond hL (by omega) c9
      have hin0 : vp_in (nI (4 * j)) L := vp_in_nI (by omega) (by omega)
      have hin1 : vp_in (nI (4 * j) + 1) L := by rw [nI_1]; exact vp_in_nI (by omega) (by omega)
      have hin2 : vp_in (nI (4 * j) + 2) L := by rw [show (2 : Int32) = nI 2 from rfl, nI_add]; exact vp_in_nI (by omega) (by omega)
      have hin3 : vp_in (nI (4 * j) + 3) L := by rw [show (3 : Int32) = nI 3 from rfl, nI_add]; exact vp_in_nI (by omega) (by omega)
      obtain ⟨p0, hp0⟩ : ∃ y : Int32, xs (nI (4 * j)).toNatClampNeg = y := ⟨_, rfl⟩
      obtain ⟨p1, hp1⟩ : ∃ y : Int32, xs (nI (4 * j) + 1).toNatClampNeg = y := ⟨_, rfl⟩
      obtain ⟨p2, hp2⟩ : ∃ y : Int32, xs (nI (4 * j) + 2).toNatClampNeg = y := ⟨_, rfl⟩
      obtain ⟨p3, hp3⟩ : ∃ y : Int32, xs (nI (4 * j) + 3).toNatClampNeg = y := ⟨_, rfl⟩
      have hj9 : j ≤ 511 := by omega
      have hc0 : 119 + j + 0 ≤ room_1.cells := Nat.le_trans (show 119 + j + 0 ≤ 1000 by omega) (Nat.le_of_ble_eq_true rfl)
      have hs0 : 3247 + 6 * j + 0 ≤ room_1.slots := Nat.le_trans (show 3247 + 6 * j + 0 ≤ 10000 by omega) (Nat.le_of_ble_eq_true rfl)
      have hc2 : 119 + (j + 1) + 0 ≤ room_1.cells := Nat.le_trans (show 119 + (j + 1) + 0 ≤ 1000 by omega) (Nat.le_of_ble_eq_true rfl)
      have hs2 : 3247 + 6 * (j + 1) + 0 ≤ room_1.slots := Nat.le_trans (show 3247 + 6 * (j + 1) + 0 ≤ 10000 by omega) (Nat.le_of_ble_eq_true rfl)
      have hc1 : 119 + j + 1 ≤ room_1.cells := Nat.le_trans (show 119 + j + 1 ≤ 1000 by omega) (Nat.le_of_ble_eq_true rfl)
      have hs1 : 3247 + 6 * j + 6 ≤ room_1.slots := Nat.le_trans (show 3247 + 6 * j + 6 ≤ 10000 by omega) (Nat.le_of_ble_eq_true rfl)
      have tail : ∀ (v : CV) (u : MV) (F : FJ), Rel v u → ∀ d0 : Drawn, s.drawn.sameBut d0 lw_cs → ∀ (H : Heap) (locs : List Loc), va_P g.1 vwCl ((zX6 g a v ++ [(o, .inl (g.2.2.2, 1, .inr (.inl F)))]) ++ zX7 g h u) H → va_D A ((zX6 g a v ++ [(o, .inl (g.2.2.2, 1, .inr (.inl F)))]) ++ zX7 g h u) → va_S A s.heap H locs → ∀ ls : Array Slot, lv_has ls 9 [(0, .ref b), (1, .ref (a 0)), (2, .ref (h 0)), (3, .ref o), (4, .int (nI (4 * j)))] → W p l e room_1 (s.setDrawn d0) m #[Value.ref b] below meth c H locs (119 + (j + 1)) (3247 + 6 * (j + 1)) (lw_Z below #[Value.ref b] s) (F0 m 1242 ls []) := by
        intro v u F hRel d0 hd0 H locs hP hD hS ls hl
        refine lv_iinc (v := nI (4 * (j + 1))) (lv' := [(4, .int (nI (4 * (j + 1)))), (0, .ref b), (1, .ref (a 0)), (2, .ref (h 0)), (3, .ref o)]) hx hb dL_law_1242 hl (k := 4) rfl (nI_add (4 * j) 4) (by decide) rfl (fun ls hl => ?_)
        refine lv_goto (tgt := 23) hx hb dL_law_1245 (by decide) ?_
        exact ih (j + 1) (by omega) (by omega) v u F hRel d0 hd0 H locs hP hD hS ls (lv_sub hl [1, 2, 3, 4, 0] rfl)
      refine lv_aload_n hx hb dL_law_32 rfl (lv_at hl 0 rfl) ?_
      refine lv_iload hx hb dL_law_33 (lv_at hl 4 rfl) ?_
      refine zsld hx hb hX hbl hbA hS hin0 hp0 dL_law_35 ?_
      refine lv_bipush (v := 31) hx hb dL_law_36 (by decide) ?_
      refine lv_iand hx hb dL_law_38 ?_
      by_cases c0 : (p0 &&& 31) = 0
      · refine lv_tableIn (tgt := 152) (off := 113) hx hb dL_law_39 (by rw [c0]; decide) (by rw [c0]; decide) (by first | (rw [c0]; done) | (rw [c0]; rfl)) (by decide) ?_
        obtain ⟨k9, v1, F1, b9, u1, hv, hu, hth, hF, hR1⟩ := hA_addElement v u hRel p1 p2 p3 F
        refine lv_aload_n hx hb dL_law_152 rfl (lv_at hl 1 rfl) ?_
        refine lv_aload_n hx hb dL_law_153 rfl (lv_at hl 0 rfl) ?_
        refine lv_iload hx hb dL_law_154 (lv_at hl 4 rfl) ?_
        refine lv_iconst (v := 1) hx hb dL_law_156 (by decide) ?_
        refine lv_iadd hx hb dL_law_157 ?_
        refine zsld hx hb hX hbl hbA hS hin1 hp1 dL_law_158 ?_
        refine lv_aload_n hx hb dL_law_159 rfl (lv_at hl 0 rfl) ?_
        refine lv_iload hx hb dL_law_160 (lv_at hl 4 rfl) ?_
        refine lv_iconst (v := 2) hx hb dL_law_162 (by decide) ?_
        refine lv_iadd hx hb dL_law_163 ?_
        refine zsld hx hb hX hbl hbA hS hin2 hp2 dL_law_164 ?_
        refine lv_aload_n hx hb dL_law_165 rfl (lv_at hl 0 rfl) ?_
        refine lv_iload hx hb dL_law_166 (lv_at hl 4 rfl) ?_
        refine lv_iconst (v := 3) hx hb dL_law_168 (by decide) ?_
        refine lv_iadd hx hb dL_law_169 ?_
        refine zsld hx hb hX hbl hbA hS hin3 hp3 dL_law_170 ?_
        refine lv_aload_n hx hb dL_law_171 rfl (lv_at hl 3 rfl) ?_
        refine zkP_i (zrun_w (vx_runSX (As := [.ref (a 0), .int p1, .int p2, .int p3, .ref o]) (rest := []) ⟨hx, hb, hml, hown, hw0⟩ (c_L_addElement l hst9 g a o v p1 p2 p3 F _ hv _) (zcSX hw0 zm3_49 zmH3_51 zm1_0 zm3_50 hd_L_addElement rfl rfl ⟨Nat.le_of_ble_eq_true rfl, Nat.le_of_ble_eq_true rfl⟩) ⟨zblindL, zpreW hK hKx hZs hNc hP hD hS hA⟩ rfl rfl hl.1 rfl (lv_room (Nat.le_of_ble_eq_true rfl)) dL_law_172 ⟨hc1, hs1⟩)) hP hD hS hA rfl (fun H locs hP hD hS => ?_)
        refine W.widen (k := 119 + (j + 1)) (n := 3247 + 6 * (j + 1)) (by omega) (by omega) ?_
        have hP : va_P g.1 vwCl ((zX6 g a v1 ++ [(o, .inl (g.2.2.2, 1, .inr (.inl F1)))]) ++ zX7 g h u) H := hP
        have hD : va_D A ((zX6 g a v1 ++ [(o, .inl (g.2.2.2, 1, .inr (.inl F1)))]) ++ zX7 g h u) := hD
        refine lv_istore (lv' := [(5, .int k9), (0, .ref b), (1, .ref (a 0)), (2, .ref (h 0)), (3, .ref o), (4, .int (nI (4 * j)))]) hx hb dL_law_175 hl (by decide) rfl (fun ls hl => ?_)
        refine lv_aload_n hx hb dL_law_177 rfl (lv_at hl 3 rfl) ?_
        refine lv_aload_n hx hb dL_law_178 rfl (lv_at hl 1 rfl) ?_
        refine lv_iload hx hb dL_law_179 (lv_at hl 5 rfl) ?_
        refine lv_iconst (v := 1) hx hb dL_law_181 (by decide) ?_
        refine lv_iadd hx hb dL_law_182 ?_
        refine zsld hx hb hX hbl hbA hS hin1 hp1 dL_law_183 ?_
        refine lv_aload_n hx hb dL_law_184 rfl (lv_at hl 1 rfl) ?_
        refine lv_iload hx hb dL_law_185 (lv_at hl 5 rfl) ?_
        refine lv_iconst (v := 2) hx hb dL_law_187 (by decide) ?_
        refine lv_iadd hx hb dL_law_188 ?_
        refine zsld hx hb hX hbl hbA hS hin2 hp2 dL_law_189 ?_
        refine lv_aload_n hx hb dL_law_190 rfl (lv_at hl 1 rfl) ?_
        refine lv_iload hx hb dL_law_191 (lv_at hl 5 rfl) ?_
        refine lv_iconst (v := 3) hx hb dL_law_193 (by decide) ?_
        refine lv_iadd hx hb dL_law_194 ?_
        refine zsld hx hb hX hbl hbA hS hin3 hp3 dL_law_195 ?_
        refine zkQ_i (va_runV (As := [.int p1, .int p2, .int p3]) (rest := []) ⟨hx, hb, hml, hown, hw0⟩ (c_X7_addElement l g h u p1 p2 p3 _ hu _) (zcVg hw0 zm4_109 zm4_112 zm1_8 zm4_110 zm4_111 hd_X7_addElement rfl rfl ⟨Nat.le_of_ble_eq_true rfl, Nat.le_of_ble_eq_true rfl⟩) ⟨zblind, zrecvQ hK hP (ci := 7) rfl rfl, zpreQ hK hP hD⟩ rfl rfl hl.1 rfl (lv_room (Nat.le_of_ble_eq_true rfl)) dL_law_196 ⟨hc2, hs2⟩) hP hD hS hA rfl (fun H locs hP hD hS => ?_)
        have hP : va_P g.1 vwCl ((zX6 g a v1 ++ [(o, .inl (g.2.2.2, 1, .inr (.inl F1)))]) ++ zX7 g h u1) H := hP
        have hD : va_D A ((zX6 g a v1 ++ [(o, .inl (g.2.2.2, 1, .inr (.inl F1)))]) ++ zX7 g h u1) := hD
        refine lv_istore (lv' := [(6, .int b9), (5, .int k9), (0, .ref b), (1, .ref (a 0)), (2, .ref (h 0)), (3, .ref o), (4, .int (nI (4 * j)))]) hx hb dL_law_199 hl (by decide) rfl (fun ls hl => ?_)
        refine lv_aload_n hx hb dL_law_201 rfl (lv_at hl 4 rfl) ?_
        refine zkQ_i (va_runV (As := []) (rest := []) ⟨hx, hb, hml, hown, hw0⟩ (c_X7_thrown l g h u1 _ (rfl : f_X7_thrown u1 = some (zThr u1)) _) (zcVg hw0 zm4_105 zm4_108 zm1_8 zm4_106 zm4_107 hd_X7_thrown rfl rfl ⟨Nat.le_of_ble_eq_true rfl, Nat.le_of_ble_eq_true rfl⟩) ⟨zblind, zrecvQ hK hP (ci := 7) rfl rfl, zpreQ hK hP hD⟩ rfl rfl hl.1 rfl (lv_room (Nat.le_of_ble_eq_true rfl)) dL_law_202 ⟨hc2, hs2⟩) hP hD hS hA rfl (fun H locs hP hD hS => ?_)
        have hP : va_P g.1 vwCl ((zX6 g a v1 ++ [(o, .inl (g.2.2.2, 1, .inr (.inl F1)))]) ++ zX7 g h u1) H := hP
        have hD : va_D A ((zX6 g a v1 ++ [(o, .inl (g.2.2.2, 1, .inr (.inl F1)))]) ++ zX7 g h u1) := hD
        refine lv_iload hx hb dL_law_205 (lv_at hl 1 rfl) ?_
        refine lv_icmp_eq (tgt := 212) hx hb dL_law_207 (by decide) (fun _ => ?_) (fun c9 => absurd hth c9)
        refine lv_iload hx hb dL_law_212 (lv_at hl 1 rfl) ?_
        refine lv_if_ne (tgt := 229) hx hb dL_law_214 (by decide) (fun _ => ?_) (fun c8 => ?_)
        · refine lv_goto (tgt := 1242) hx hb dL_law_229 (by decide) ?_
          exact tail v1 u1 F1 hR1 d0 hd0 H locs hP hD hS ls (lv_sub hl [2, 3, 4, 5, 6] rfl)
        · refine lv_aload_n hx hb dL_law_217 rfl (lv_at hl 5 rfl) ?_
          refine lv_iconst (v := 0) hx hb dL_law_218 (by decide) ?_
          refine zald_J (D := g.1) (f := F1) (k := 0) hx hb hK.1 hP 112 2 rfl rfl (zin_vp (i := 0) (n := 1) rfl) rfl dL_law_219 ?_
          refine lv_iload hx hb dL_law_220 (lv_at hl 0 rfl) ?_
          refine lv_i2l (v := Int32.toInt64 b9) hx hb dL_law_222 rfl ?_
          refine W.lcmp hx hb dL_law_223 ?_
          refine lv_if_eq (tgt := 229) hx hb dL_law_224 (by decide) (fun _ => ?_) (fun c9 => absurd (by rw [hF c8]; exact zlc _) c9)
          refine lv_goto (tgt := 1242) hx hb dL_law_229 (by decide) ?_
          exact tail v1 u1 F1 hR1 d0 hd0 H locs hP hD hS ls (lv_sub hl [2, 3, 4, 5, 6] rfl)
      · by_cases c1 : (p0 &&& 31) = 1
        · refine lv_tableIn (tgt := 232) (off := 193) hx hb dL_law_39 (by rw [c1]; decide) (by rw [c1]; decide) (by first | (rw [c1]; done) | (rw [c1]; rfl)) (by decide) ?_
          obtain ⟨k9, v1, F1, b9, u1, hv, hu, hth, hF, hR1⟩ := hA_addFiller v u hRel p1 F
          refine lv_aload_n hx hb dL_law_232 rfl (lv_at hl 1 rfl) ?_
          refine lv_aload_n hx hb dL_law_233 rfl (lv_at hl 0 rfl) ?_
          refine lv_iload hx hb dL_law_234 (lv_at hl 4 rfl) ?_
          refine lv_iconst (v := 1) hx hb dL_law_236 (by decide) ?_
          refine lv_iadd hx hb dL_law_237 ?_
          refine zsld hx hb hX hbl hbA hS hin1 hp1 dL_law_238 ?_
          refine lv_aload_n hx hb dL_law_239 rfl (lv_at hl 3 rfl) ?_
          refine zkP_i (zrun_w (vx_runSX (As := [.ref (a 0), .int p1, .ref o]) (rest := []) ⟨hx, hb, hml, hown, hw0⟩ (c_L_addFiller l hst9 g a o v p1 F _ hv _) (zcSX hw0 zm3_145 zmH3_147 zm1_0 zm3_146 hd_L_addFiller rfl rfl ⟨Nat.le_of_ble_eq_true rfl, Nat.le_of_ble_eq_true rfl⟩) ⟨zblindL, zpreW hK hKx hZs hNc hP hD hS hA⟩ rfl rfl hl.1 rfl (lv_room (Nat.le_of_ble_eq_true rfl)) dL_law_240 ⟨hc1, hs1⟩)) hP hD hS hA rfl (fun H locs hP hD hS => ?_)
          refine W.widen (k := 119 + (j + 1)) (n := 3247 + 6 * (j + 1)) (by omega) (by omega) ?_
          have hP : va_P g.1 vwCl ((zX6 g a v1 ++ [(o, .inl (g.2.2.2, 1, .inr (.inl F1)))]) ++ zX7 g h u) H := hP
          have hD : va_D A ((zX6 g a v1 ++ [(o, .inl (g.2.2.2, 1, .inr (.inl F1)))]) ++ zX7 g h u) := hD
          refine lv_istore (lv' := [(5, .int k9), (0, .ref b), (1, .ref (a 0)), (2, .ref (h 0)), (3, .ref o), (4, .int (nI (4 * j)))]) hx hb dL_law_243 hl (by decide) rfl (fun ls hl => ?_)
          refine lv_aload_n hx hb dL_law_245 rfl (lv_at hl 3 rfl) ?_
          refine lv_aload_n hx hb dL_law_246 rfl (lv_at hl 1 rfl) ?_
          refine lv_iload hx hb dL_law_247 (lv_at hl 5 rfl) ?_
          refine lv_iconst (v := 1) hx hb dL_law_249 (by decide) ?_
          refine lv_iadd hx hb dL_law_250 ?_
          refine zsld hx hb hX hbl hbA hS hin1 hp1 dL_law_251 ?_
          refine zkQ_i (va_runV (As := [.int p1]) (rest := []) ⟨hx, hb, hml, hown, hw0⟩ (c_X7_addFiller l g h u p1 _ hu _) (zcVg hw0 zm4_128 zm4_131 zm1_8 zm4_129 zm4_130 hd_X7_addFiller rfl rfl ⟨Nat.le_of_ble_eq_true rfl, Nat.le_of_ble_eq_true rfl⟩) ⟨zblind, zrecvQ hK hP (ci := 7) rfl rfl, zpreQ hK hP hD⟩ rfl rfl hl.1 rfl (lv_room (Nat.le_of_ble_eq_true rfl)) dL_law_252 ⟨hc2, hs2⟩) hP hD hS hA rfl (fun H locs hP hD hS => ?_)
          have hP : va_P g.1 vwCl ((zX6 g a v1 ++ [(o, .inl (g.2.2.2, 1, .inr (.inl F1)))]) ++ zX7 g h u1) H := hP
          have hD : va_D A ((zX6 g a v1 ++ [(o, .inl (g.2.2.2, 1, .inr (.inl F1)))]) ++ zX7 g h u1) := hD
          refine lv_istore (lv' := [(6, .int b9), (5, .int k9), (0, .ref b), (1, .ref (a 0)), (2, .ref (h 0)), (3, .ref o), (4, .int (nI (4 * j)))]) hx hb dL_law_255 hl (by decide) rfl (fun ls hl => ?_)
          refine lv_aload_n hx hb dL_law_257 rfl (lv_at hl 4 rfl) ?_
          refine zkQ_i (va_runV (As := []) (rest := []) ⟨hx, hb, hml, hown, hw0⟩ (c_X7_thrown l g h u1 _ (rfl : f_X7_thrown u1 = some (zThr u1)) _) (zcVg hw0 zm4_105 zm4_108 zm1_8 zm4_106 zm4_107 hd_X7_thrown rfl rfl ⟨Nat.le_of_ble_eq_true rfl, Nat.le_of_ble_eq_true rfl⟩) ⟨zblind, zrecvQ hK hP (ci := 7) rfl rfl, zpreQ hK hP hD⟩ rfl rfl hl.1 rfl (lv_room (Nat.le_of_ble_eq_true rfl)) dL_law_258 ⟨hc2, hs2⟩) hP hD hS hA rfl (fun H locs hP hD hS => ?_)
          have hP : va_P g.1 vwCl ((zX6 g a v1 ++ [(o, .inl (g.2.2.2, 1, .inr (.inl F1)))]) ++ zX7 g h u1) H := hP
          have hD : va_D A ((zX6 g a v1 ++ [(o, .inl (g.2.2.2, 1, .inr (.inl F1)))]) ++ zX7 g h u1) := hD
          refine lv_iload hx hb dL_law_261 (lv_at hl 1 rfl) ?_
          refine lv_icmp_eq (tgt := 268) hx hb dL_law_263 (by decide) (fun _ => ?_) (fun c9 => absurd hth c9)
          refine lv_iload hx hb dL_law_268 (lv_at hl 1 rfl) ?_
          refine lv_if_ne (tgt := 285) hx hb dL_law_270 (by decide) (fun _ => ?_) (fun c8 => ?_)
          · refine lv_goto (tgt := 1242) hx hb dL_law_285 (by decide) ?_
            exact tail v1 u1 F1 hR1 d0 hd0 H locs hP hD hS ls (lv_sub hl [2, 3, 4, 5, 6] rfl)
          · refine lv_aload_n hx hb dL_law_273 rfl (lv_at hl 5 rfl) ?_
            refine lv_iconst (v := 0) hx hb dL_law_274 (by decide) ?_
            refine zald_J (D := g.1) (f := F1) (k := 0) hx hb hK.1 hP 112 2 rfl rfl (zin_vp (i := 0) (n := 1) rfl) rfl dL_law_275 ?_
            refine lv_iload hx hb dL_law_276 (lv_at hl 0 rfl) ?_
            refine lv_i2l (v := Int32.toInt64 b9) hx hb dL_law_278 rfl ?_
            refine W.lcmp hx hb dL_law_279 ?_
            refine lv_if_eq (tgt := 285) hx hb dL_law_280 (by decide) (fun _ => ?_) (fun c9 => absurd (by rw [hF c8]; exact zlc _) c9)
            refine lv_goto (tgt := 1242) hx hb dL_law_285 (by decide) ?_
            exact tail v1 u1 F1 hR1 d0 hd0 H locs hP hD hS ls (lv_sub hl [2, 3, 4, 5, 6] rfl)
        · by_cases c2 : (p0 &&& 31) = 2
          · refine lv_tableIn (tgt := 288) (off := 249) hx hb dL_law_39 (by rw [c2]; decide) (by rw [c2]; decide) (by first | (rw [c2]; done) | (rw [c2]; rfl)) (by decide) ?_
            obtain ⟨k9, v1, F1, b9, u1, hv, hu, hth, hF, hR1⟩ := hA_stretch v u hRel p1 p2 F
            refine lv_aload_n hx hb dL_law_288 rfl (lv_at hl 1 rfl) ?_
            refine lv_aload_n hx hb dL_law_289 rfl (lv_at hl 0 rfl) ?_
            refine lv_iload hx hb dL_law_290 (lv_at hl 4 rfl) ?_
            refine lv_iconst (v := 1) hx hb dL_law_292 (by decide) ?_
            refine lv_iadd hx hb dL_law_293 ?_
            refine zsld hx hb hX hbl hbA hS hin1 hp1 dL_law_294 ?_
            refine lv_aload_n hx hb dL_law_295 rfl (lv_at hl 0 rfl) ?_
            refine lv_iload hx hb dL_law_296 (lv_at hl 4 rfl) ?_
            refine lv_iconst (v := 2) hx hb dL_law_298 (by decide) ?_
            refine lv_iadd hx hb dL_law_299 ?_
            refine zsld hx hb hX hbl hbA hS hin2 hp2 dL_law_300 ?_
            refine lv_aload_n hx hb dL_law_301 rfl (lv_at hl 3 rfl) ?_
            refine zkP_i (zrun_w (vx_runSX (As := [.ref (a 0), .int p1, .int p2, .ref o]) (rest := []) ⟨hx, hb, hml, hown, hw0⟩ (c_L_stretch l hst9 g a o v p1 p2 F _ hv _) (zcSX hw0 zm3_154 zmH3_156 zm1_0 zm3_155 hd_L_stretch rfl rfl ⟨Nat.le_of_ble_eq_true rfl, Nat.le_of_ble_eq_true rfl⟩) ⟨zblindL, zpreW hK hKx hZs hNc hP hD hS hA⟩ rfl rfl hl.1 rfl (lv_room (Nat.le_of_ble_eq_true rfl)) dL_law_302 ⟨hc1, hs1⟩)) hP hD hS hA rfl (fun H locs hP hD hS => ?_)
            refine W.widen (k := 119 + (j + 1)) (n := 3247 + 6 * (j + 1)) (by omega) (by omega) ?_
            have hP : va_P g.1 vwCl ((zX6 g a v1 ++ [(o, .inl (g.2.2.2, 1, .inr (.inl F1)))]) ++ zX7 g h u) H := hP
            have hD : va_D A ((zX6 g a v1 ++ [(o, .inl (g.2.2.2, 1, .inr (.inl F1)))]) ++ zX7 g h u) := hD
            refine lv_istore (lv' := [(5, .int k9), (0, .ref b), (1, .ref (a 0)), (2, .ref (h 0)), (3, .ref o), (4, .int (nI (4 * j)))]) hx hb dL_law_305 hl (by decide) rfl (fun ls hl => ?_)
            refine lv_aload_n hx hb dL_law_307 rfl (lv_at hl 3 rfl) ?_
            refine lv_aload_n hx hb dL_law_308 rfl (lv_at hl 1 rfl) ?_
            refine lv_iload hx hb dL_law_309 (lv_at hl 5 rfl) ?_
            refine lv_iconst (v := 1) hx hb dL_law_311 (by decide) ?_
            refine lv_iadd hx hb dL_law_312 ?_
            refine zsld hx hb hX hbl hbA hS hin1 hp1 dL_law_313 ?_
            refine lv_aload_n hx hb dL_law_314 rfl (lv_at hl 1 rfl) ?_
            refine lv_iload hx hb dL_law_315 (lv_at hl 5 rfl) ?_
            refine lv_iconst (v := 2) hx hb dL_law_317 (by decide) ?_
            refine lv_iadd hx hb dL_law_318 ?_
            refine zsld hx hb hX hbl hbA hS hin2 hp2 dL_law_319 ?_
            refine zkQ_i (va_runV (As := [.int p1, .int p2]) (rest := []) ⟨hx, hb, hml, hown, hw0⟩ (c_X7_stretch l g h u p1 p2 _ hu _) (zcVg hw0 zm4_136 zm4_139 zm1_8 zm4_137 zm4_138 hd_X7_stretch rfl rfl ⟨Nat.le_of_ble_eq_true rfl, Nat.le_of_ble_eq_true rfl⟩) ⟨zblind, zrecvQ hK hP (ci := 7) rfl rfl, zpreQ hK hP hD⟩ rfl rfl hl.1 rfl (lv_room (Nat.le_of_ble_eq_true rfl)) dL_law_320 ⟨hc2, hs2⟩) hP hD hS hA rfl (fun H locs hP hD hS => ?_)
            have hP : va_P g.1 vwCl ((zX6 g a v1 ++ [(o, .inl (g.2.2.2, 1, .inr (.inl F1)))]) ++ zX7 g h u1) H := hP
            have hD : va_D A ((zX6 g a v1 ++ [(o, .inl (g.2.2.2, 1, .inr (.inl F1)))]) ++ zX7 g h u1) := hD
            refine lv_istore (lv' := [(6, .int b9), (5, .int k9), (0, .ref b), (1, .ref (a 0)), (2, .ref (h 0)), (3, .ref o), (4, .int (nI (4 * j)))]) hx hb dL_law_323 hl (by decide) rfl (fun ls hl => ?_)
            refine lv_aload_n hx hb dL_law_325 rfl (lv_at hl 4 rfl) ?_
            refine zkQ_i (va_runV (As := []) (rest := []) ⟨hx, hb, hml, hown, hw0⟩ (c_X7_thrown l g h u1 _ (rfl : f_X7_thrown u1 = some (zThr u1)) _) (zcVg hw0 zm4_105 zm4_108 zm1_8 zm4_106 zm4_107 hd_X7_thrown rfl rfl ⟨Nat.le_of_ble_eq_true rfl, Nat.le_of_ble_eq_true rfl⟩) ⟨zblind, zrecvQ hK hP (ci := 7) rfl rfl, zpreQ hK hP hD⟩ rfl rfl hl.1 rfl (lv_room (Nat.le_of_ble_eq_true rfl)) dL_law_326 ⟨hc2, hs2⟩) hP hD hS hA rfl (fun H locs hP hD hS => ?_)
            have hP : va_P g.1 vwCl ((zX6 g a v1 ++ [(o, .inl (g.2.2.2, 1, .inr (.inl F1)))]) ++ zX7 g h u1) H := hP
            have hD : va_D A ((zX6 g a v1 ++ [(o, .inl (g.2.2.2, 1, .inr (.inl F1)))]) ++ zX7 g h u1) := hD
            refine lv_iload hx hb dL_law_329 (lv_at hl 1 rfl) ?_
            refine lv_icmp_eq (tgt := 336) hx hb dL_law_331 (by decide) (fun _ => ?_) (fun c9 => absurd hth c9)
            refine lv_iload hx hb dL_law_336 (lv_at hl 1 rfl) ?_
            refine lv_if_ne (tgt := 353) hx hb dL_law_338 (by decide) (fun _ => ?_) (fun c8 => ?_)
            · refine lv_goto (tgt := 1242) hx hb dL_law_353 (by decide) ?_
              exact tail v1 u1 F1 hR1 d0 hd0 H locs hP hD hS ls (lv_sub hl [2, 3, 4, 5, 6] rfl)
            · refine lv_aload_n hx hb dL_law_341 rfl (lv_at hl 5 rfl) ?_
              refine lv_iconst (v := 0) hx hb dL_law_342 (by decide) ?_
              refine zald_J (D := g.1) (f := F1) (k := 0) hx hb hK.1 hP 112 2 rfl rfl (zin_vp (i := 0) (n := 1) rfl) rfl dL_law_343 ?_
              refine lv_iload hx hb dL_law_344 (lv_at hl 0 rfl) ?_
              refine lv_i2l (v := Int32.toInt64 b9) hx hb dL_law_346 rfl ?_
              refine W.lcmp hx hb dL_law_347 ?_
              refine lv_if_eq (tgt := 353) hx hb dL_law_348 (by decide) (fun _ => ?_) (fun c9 => absurd (by rw [hF c8]; exact zlc _) c9)
              refine lv_goto (tgt := 1242) hx hb dL_law_353 (by decide) ?_
              exact tail v1 u1 F1 hR1 d0 hd0 H locs hP hD hS ls (lv_sub hl [2, 3, 4, 5, 6] rfl)
          · by_cases c3 : (p0 &&& 31) = 3
            · refine lv_tableIn (tgt := 356) (off := 317) hx hb dL_law_39 (by rw [c3]; decide) (by rw [c3]; decide) (by first | (rw [c3]; done) | (rw [c3]; rfl)) (by decide) ?_
              obtain ⟨k9, v1, F1, b9, u1, hv, hu, hth, hF, hR1⟩ := hA_drop v u hRel p1 F
              refine lv_aload_n hx hb dL_law_356 rfl (lv_at hl 1 rfl) ?_
              refine lv_aload_n hx hb dL_law_357 rfl (lv_at hl 0 rfl) ?_
              refine lv_iload hx hb dL_law_358 (lv_at hl 4 rfl) ?_
              refine lv_iconst (v := 1) hx hb dL_law_360 (by decide) ?_
              refine lv_iadd hx hb dL_law_361 ?_
              refine zsld hx hb hX hbl hbA hS hin1 hp1 dL_law_362 ?_
              refine lv_aload_n hx hb dL_law_363 rfl (lv_at hl 3 rfl) ?_
              refine zkP_i (zrun_w (vx_runSX (As := [.ref (a 0), .int p1, .ref o]) (rest := []) ⟨hx, hb, hml, hown, hw0⟩ (c_L_drop l hst9 g a o v p1 F _ hv _) (zcSX hw0 zm3_191 zmH3_193 zm1_0 zm3_192 hd_L_drop rfl rfl ⟨Nat.le_of_ble_eq_true rfl, Nat.le_of_ble_eq_true rfl⟩) ⟨zblindL, zpreW hK hKx hZs hNc hP hD hS hA⟩ rfl rfl hl.1 rfl (lv_room (Nat.le_of_ble_eq_true rfl)) dL_law_364 ⟨hc1, hs1⟩)) hP hD hS hA rfl (fun H locs hP hD hS => ?_)
              refine W.widen (k := 119 + (j + 1)) (n := 3247 + 6 * (j + 1)) (by omega) (by omega) ?_
              have hP : va_P g.1 vwCl ((zX6 g a v1 ++ [(o, .inl (g.2.2.2, 1, .inr (.inl F1)))]) ++ zX7 g h u) H := hP
              have hD : va_D A ((zX6 g a v1 ++ [(o, .inl (g.2.2.2, 1, .inr (.inl F1)))]) ++ zX7 g h u) := hD
              refine lv_istore (lv' := [(5, .int k9), (0, .ref b), (1, .ref (a 0)), (2, .ref (h 0)), (3, .ref o), (4, .int (nI (4 * j)))]) hx hb dL_law_367 hl (by decide) rfl (fun ls hl => ?_)
              refine lv_aload_n hx hb dL_law_369 rfl (lv_at hl 3 rfl) ?_
              refine lv_aload_n hx hb dL_law_370 rfl (lv_at hl 1 rfl) ?_
              refine lv_iload hx hb dL_law_371 (lv_at hl 5 rfl) ?_
              refine lv_iconst (v := 1) hx hb dL_law_373 (by decide) ?_
              refine lv_iadd hx hb dL_law_374 ?_
              refine zsld hx hb hX hbl hbA hS hin1 hp1 dL_law_375 ?_
              refine zkQ_i (va_runV (As := [.int p1]) (rest := []) ⟨hx, hb, hml, hown, hw0⟩ (c_X7_drop l g h u p1 _ hu _) (zcVg hw0 zm4_156 zm4_159 zm1_8 zm4_157 zm4_158 hd_X7_drop rfl rfl ⟨Nat.le_of_ble_eq_true rfl, Nat.le_of_ble_eq_true rfl⟩) ⟨zblind, zrecvQ hK hP (ci := 7) rfl rfl, zpreQ hK hP hD⟩ rfl rfl hl.1 rfl (lv_room (Nat.le_of_ble_eq_true rfl)) dL_law_376 ⟨hc2, hs2⟩) hP hD hS hA rfl (fun H locs hP hD hS => ?_)
              have hP : va_P g.1 vwCl ((zX6 g a v1 ++ [(o, .inl (g.2.2.2, 1, .inr (.inl F1)))]) ++ zX7 g h u1) H := hP
              have hD : va_D A ((zX6 g a v1 ++ [(o, .inl (g.2.2.2, 1, .inr (.inl F1)))]) ++ zX7 g h u1) := hD
              refine lv_istore (lv' := [(6, .int b9), (5, .int k9), (0, .ref b), (1, .ref (a 0)), (2, .ref (h 0)), (3, .ref o), (4, .int (nI (4 * j)))]) hx hb dL_law_379 hl (by decide) rfl (fun ls hl => ?_)
              refine lv_aload_n hx hb dL_law_381 rfl (lv_at hl 4 rfl) ?_
              refine zkQ_i (va_runV (As := []) (rest := []) ⟨hx, hb, hml, hown, hw0⟩ (c_X7_thrown l g h u1 _ (rfl : f_X7_thrown u1 = some (zThr u1)) _) (zcVg hw0 zm4_105 zm4_108 zm1_8 zm4_106 zm4_107 hd_X7_thrown rfl rfl ⟨Nat.le_of_ble_eq_true rfl, Nat.le_of_ble_eq_true rfl⟩) ⟨zblind, zrecvQ hK hP (ci := 7) rfl rfl, zpreQ hK hP hD⟩ rfl rfl hl.1 rfl (lv_room (Nat.le_of_ble_eq_true rfl)) dL_law_382 ⟨hc2, hs2⟩) hP hD hS hA rfl (fun H locs hP hD hS => ?_)
              have hP : va_P g.1 vwCl ((zX6 g a v1 ++ [(o, .inl (g.2.2.2, 1, .inr (.inl F1)))]) ++ zX7 g h u1) H := hP
              have hD : va_D A ((zX6 g a v1 ++ [(o, .inl (g.2.2.2, 1, .inr (.inl F1)))]) ++ zX7 g h u1) := hD
              refine lv_iload hx hb dL_law_385 (lv_at hl 1 rfl) ?_
              refine lv_icmp_eq (tgt := 392) hx hb dL_law_387 (by decide) (fun _ => ?_) (fun c9 => absurd hth c9)
              refine lv_iload hx hb dL_law_392 (lv_at hl 1 rfl) ?_
              refine lv_if_ne (tgt := 409) hx hb dL_law_394 (by decide) (fun _ => ?_) (fun c8 => ?_)
              · refine lv_goto (tgt := 1242) hx hb dL_law_409 (by decide) ?_
                exact tail v1 u1 F1 hR1 d0 hd0 H locs hP hD hS ls (lv_sub hl [2, 3, 4, 5, 6] rfl)
              · refine lv_aload_n hx hb dL_law_397 rfl (lv_at hl 5 rfl) ?_
                refine lv_iconst (v := 0) hx hb dL_law_398 (by decide) ?_
                refine zald_J (D := g.1) (f := F1) (k := 0) hx hb hK.1 hP 112 2 rfl rfl (zin_vp (i := 0) (n := 1) rfl) rfl dL_law_399 ?_
                refine lv_iload hx hb dL_law_400 (lv_at hl 0 rfl) ?_
                refine lv_i2l (v := Int32.toInt64 b9) hx hb dL_law_402 rfl ?_
                refine W.lcmp hx hb dL_law_403 ?_
                refine lv_if_eq (tgt := 409) hx hb dL_law_404 (by decide) (fun _ => ?_) (fun c9 => absurd (by rw [hF c8]; exact zlc _) c9)
                refine lv_goto (tgt := 1242) hx hb dL_law_409 (by decide) ?_
                exact tail v1 u1 F1 hR1 d0 hd0 H locs hP hD hS ls (lv_sub hl [2, 3, 4, 5, 6] rfl)
            · by_cases c4 : (p0 &&& 31) = 4
              · refine lv_tableIn (tgt := 412) (off := 373) hx hb dL_law_39 (by rw [c4]; decide) (by rw [c4]; decide) (by first | (rw [c4]; done) | (rw [c4]; rfl)) (by decide) ?_
                obtain ⟨k9, v1, F1, b9, u1, hv, hu, hth, hF, hR1⟩ := hA_pass v u hRel p1 F
                refine lv_aload_n hx hb dL_law_412 rfl (lv_at hl 1 rfl) ?_
                refine lv_aload_n hx hb dL_law_413 rfl (lv_at hl 0 rfl) ?_
                refine lv_iload hx hb dL_law_414 (lv_at hl 4 rfl) ?_
                refine lv_iconst (v := 1) hx hb dL_law_416 (by decide) ?_
                refine lv_iadd hx hb dL_law_417 ?_
                refine zsld hx hb hX hbl hbA hS hin1 hp1 dL_law_418 ?_
                refine lv_aload_n hx hb dL_law_419 rfl (lv_at hl 3 rfl) ?_
                refine zkP_i (zrun_w (vx_runSX (As := [.ref (a 0), .int p1, .ref o]) (rest := []) ⟨hx, hb, hml, hown, hw0⟩ (c_L_pass l hst9 g a o v p1 F _ hv _) (zcSX hw0 zm3_199 zmH3_201 zm1_0 zm3_200 hd_L_pass rfl rfl ⟨Nat.le_of_ble_eq_true rfl, Nat.le_of_ble_eq_true rfl⟩) ⟨zblindL, zpreW hK hKx hZs hNc hP hD hS hA⟩ rfl rfl hl.1 rfl (lv_room (Nat.le_of_ble_eq_true rfl)) dL_law_420 ⟨hc1, hs1⟩)) hP hD hS hA rfl (fun H locs hP hD hS => ?_)
                refine W.widen (k := 119 + (j + 1)) (n := 3247 + 6 * (j + 1)) (by omega) (by omega) ?_
                have hP : va_P g.1 vwCl ((zX6 g a v1 ++ [(o, .inl (g.2.2.2, 1, .inr (.inl F1)))]) ++ zX7 g h u) H := hP
                have hD : va_D A ((zX6 g a v1 ++ [(o, .inl (g.2.2.2, 1, .inr (.inl F1)))]) ++ zX7 g h u) := hD
                refine lv_istore (lv' := [(5, .int k9), (0, .ref b), (1, .ref (a 0)), (2, .ref (h 0)), (3, .ref o), (4, .int (nI (4 * j)))]) hx hb dL_law_423 hl (by decide) rfl (fun ls hl => ?_)
                refine lv_aload_n hx hb dL_law_425 rfl (lv_at hl 3 rfl) ?_
                refine lv_aload_n hx hb dL_law_426 rfl (lv_at hl 1 rfl) ?_
                refine lv_iload hx hb dL_law_427 (lv_at hl 5 rfl) ?_
                refine lv_iconst (v := 1) hx hb dL_law_429 (by decide) ?_
                refine lv_iadd hx hb dL_law_430 ?_
                refine zsld hx hb hX hbl hbA hS hin1 hp1 dL_law_431 ?_
                refine zkQ_i (va_runV (As := [.int p1]) (rest := []) ⟨hx, hb, hml, hown, hw0⟩ (c_X7_pass l g h u p1 _ hu _) (zcVg hw0 zm4_176 zm4_179 zm1_8 zm4_177 zm4_178 hd_X7_pass rfl rfl ⟨Nat.le_of_ble_eq_true rfl, Nat.le_of_ble_eq_true rfl⟩) ⟨zblind, zrecvQ hK hP (ci := 7) rfl rfl, zpreQ hK hP hD⟩ rfl rfl hl.1 rfl (lv_room (Nat.le_of_ble_eq_true rfl)) dL_law_432 ⟨hc2, hs2⟩) hP hD hS hA rfl (fun H locs hP hD hS => ?_)
                have hP : va_P g.1 vwCl ((zX6 g a v1 ++ [(o, .inl (g.2.2.2, 1, .inr (.inl F1)))]) ++ zX7 g h u1) H := hP
                have hD : va_D A ((zX6 g a v1 ++ [(o, .inl (g.2.2.2, 1, .inr (.inl F1)))]) ++ zX7 g h u1) := hD
                refine lv_istore (lv' := [(6, .int b9), (5, .int k9), (0, .ref b), (1, .ref (a 0)), (2, .ref (h 0)), (3, .ref o), (4, .int (nI (4 * j)))]) hx hb dL_law_435 hl (by decide) rfl (fun ls hl => ?_)
                refine lv_aload_n hx hb dL_law_437 rfl (lv_at hl 4 rfl) ?_
                refine zkQ_i (va_runV (As := []) (rest := []) ⟨hx, hb, hml, hown, hw0⟩ (c_X7_thrown l g h u1 _ (rfl : f_X7_thrown u1 = some (zThr u1)) _) (zcVg hw0 zm4_105 zm4_108 zm1_8 zm4_106 zm4_107 hd_X7_thrown rfl rfl ⟨Nat.le_of_ble_eq_true rfl, Nat.le_of_ble_eq_true rfl⟩) ⟨zblind, zrecvQ hK hP (ci := 7) rfl rfl, zpreQ hK hP hD⟩ rfl rfl hl.1 rfl (lv_room (Nat.le_of_ble_eq_true rfl)) dL_law_438 ⟨hc2, hs2⟩) hP hD hS hA rfl (fun H locs hP hD hS => ?_)
                have hP : va_P g.1 vwCl ((zX6 g a v1 ++ [(o, .inl (g.2.2.2, 1, .inr (.inl F1)))]) ++ zX7 g h u1) H := hP
                have hD : va_D A ((zX6 g a v1 ++ [(o, .inl (g.2.2.2, 1, .inr (.inl F1)))]) ++ zX7 g h u1) := hD
                refine lv_iload hx hb dL_law_441 (lv_at hl 1 rfl) ?_
                refine lv_icmp_eq (tgt := 448) hx hb dL_law_443 (by decide) (fun _ => ?_) (fun c9 => absurd hth c9)
                refine lv_iload hx hb dL_law_448 (lv_at hl 1 rfl) ?_
                refine lv_if_ne (tgt := 465) hx hb dL_law_450 (by decide) (fun _ => ?_) (fun c8 => ?_)
                · refine lv_goto (tgt := 1242) hx hb dL_law_465 (by decide) ?_
                  exact tail v1 u1 F1 hR1 d0 hd0 H locs hP hD hS ls (lv_sub hl [2, 3, 4, 5, 6] rfl)
                · refine lv_aload_n hx hb dL_law_453 rfl (lv_at hl 5 rfl) ?_
                  refine lv_iconst (v := 0) hx hb dL_law_454 (by decide) ?_
                  refine zald_J (D := g.1) (f := F1) (k := 0) hx hb hK.1 hP 112 2 rfl rfl (zin_vp (i := 0) (n := 1) rfl) rfl dL_law_455 ?_
                  refine lv_iload hx hb dL_law_456 (lv_at hl 0 rfl) ?_
                  refine lv_i2l (v := Int32.toInt64 b9) hx hb dL_law_458 rfl ?_
                  refine W.lcmp hx hb dL_law_459 ?_
                  refine lv_if_eq (tgt := 465) hx hb dL_law_460 (by decide) (fun _ => ?_) (fun c9 => absurd (by rw [hF c8]; exact zlc _) c9)
                  refine lv_goto (tgt := 1242) hx hb dL_law_465 (by decide) ?_
                  exact tail v1 u1 F1 hR1 d0 hd0 H locs hP hD hS ls (lv_sub hl [2, 3, 4, 5, 6] rfl)
              · by_cases c5 : (p0 &&& 31) = 5
                · refine lv_tableIn (tgt := 468) (off := 429) hx hb dL_law_39 (by rw [c5]; decide) (by rw [c5]; decide) (by first | (rw [c5]; done) | (rw [c5]; rfl)) (by decide) ?_
                  obtain ⟨b9, v1, u1, hv, hu, hR1⟩ := hA_finish v u hRel
                  refine lv_aload_n hx hb dL_law_468 rfl (lv_at hl 1 rfl) ?_
                  rw [List.append_assoc] at hP hD
                  refine zkP_i (va_runV (As := []) (rest := []) ⟨hx, hb, hml, hown, hw0⟩ (c_X6_finish l g a v _ hv _) (zcVg hw0 zm1_225 zm1_228 zm1_1 zm1_226 zm1_227 hd_X6_finish rfl rfl ⟨Nat.le_of_ble_eq_true rfl, Nat.le_of_ble_eq_true rfl⟩) ⟨zblind, zrecvX hK hP (ci := 6) rfl rfl, zpreP hK hP hD⟩ rfl rfl hl.1 rfl (lv_room (Nat.le_of_ble_eq_true rfl)) dL_law_469 ⟨hc0, hs0⟩) hP hD hS hA rfl (fun H locs hP hD hS => ?_)
                  rw [← List.append_assoc] at hP hD
                  have hP : va_P g.1 vwCl ((zX6 g a v1 ++ [(o, .inl (g.2.2.2, 1, .inr (.inl F)))]) ++ zX7 g h u) H := hP
                  have hD : va_D A ((zX6 g a v1 ++ [(o, .inl (g.2.2.2, 1, .inr (.inl F)))]) ++ zX7 g h u) := hD
                  refine lv_aload_n hx hb dL_law_472 rfl (lv_at hl 2 rfl) ?_
                  refine zkQ_i (va_runV (As := []) (rest := [.int b9]) ⟨hx, hb, hml, hown, hw0⟩ (c_X7_finish l g h u _ hu _) (zcVg hw0 zm5_6 zm5_9 zm1_8 zm5_7 zm5_8 hd_X7_finish rfl rfl ⟨Nat.le_of_ble_eq_true rfl, Nat.le_of_ble_eq_true rfl⟩) ⟨zblind, zrecvQ hK hP (ci := 7) rfl rfl, zpreQ hK hP hD⟩ rfl rfl hl.1 rfl (lv_room (Nat.le_of_ble_eq_true rfl)) dL_law_473 ⟨hc0, hs0⟩) hP hD hS hA rfl (fun H locs hP hD hS => ?_)
                  have hP : va_P g.1 vwCl ((zX6 g a v1 ++ [(o, .inl (g.2.2.2, 1, .inr (.inl F)))]) ++ zX7 g h u1) H := hP
                  have hD : va_D A ((zX6 g a v1 ++ [(o, .inl (g.2.2.2, 1, .inr (.inl F)))]) ++ zX7 g h u1) := hD
                  refine lv_icmp_eq (tgt := 1242) hx hb dL_law_476 (by decide) (fun _ => ?_) (fun c9 => absurd rfl c9)
                  refine W.widen (k := 119 + (j + 1)) (n := 3247 + 6 * (j + 1)) (by omega) (by omega) ?_
                  exact tail v1 u1 F hR1 d0 hd0 H locs hP hD hS ls (lv_sub hl [0, 1, 2, 3, 4] rfl)
                · by_cases c6 : (p0 &&& 31) = 6
                  · refine lv_tableIn (tgt := 481) (off := 442) hx hb dL_law_39 (by rw [c6]; decide) (by rw [c6]; decide) (by first | (rw [c6]; done) | (rw [c6]; rfl)) (by decide) ?_
                    obtain ⟨k9, v1, F1, b9, u1, hv, hu, hth, hF, hR1⟩ := hA_again v u hRel F
                    refine lv_aload_n hx hb dL_law_481 rfl (lv_at hl 1 rfl) ?_
                    refine lv_aload_n hx hb dL_law_482 rfl (lv_at hl 3 rfl) ?_
                    refine zkP_i (zrun_w (vx_runSX (As := [.ref (a 0), .ref o]) (rest := []) ⟨hx, hb, hml, hown, hw0⟩ (c_L_again l hst9 g a o v F _ hv _) (zcSX hw0 zm3_207 zmH3_209 zm1_0 zm3_208 hd_L_again rfl rfl ⟨Nat.le_of_ble_eq_true rfl, Nat.le_of_ble_eq_true rfl⟩) ⟨zblindL, zpreW hK hKx hZs hNc hP hD hS hA⟩ rfl rfl hl.1 rfl (lv_room (Nat.le_of_ble_eq_true rfl)) dL_law_483 ⟨hc1, hs1⟩)) hP hD hS hA rfl (fun H locs hP hD hS => ?_)
                    refine W.widen (k := 119 + (j + 1)) (n := 3247 + 6 * (j + 1)) (by omega) (by omega) ?_
                    have hP : va_P g.1 vwCl ((zX6 g a v1 ++ [(o, .inl (g.2.2.2, 1, .inr (.inl F1)))]) ++ zX7 g h u) H := hP
                    have hD : va_D A ((zX6 g a v1 ++ [(o, .inl (g.2.2.2, 1, .inr (.inl F1)))]) ++ zX7 g h u) := hD
                    refine lv_istore (lv' := [(5, .int k9), (0, .ref b), (1, .ref (a 0)), (2, .ref (h 0)), (3, .ref o), (4, .int (nI (4 * j)))]) hx hb dL_law_486 hl (by decide) rfl (fun ls hl => ?_)
                    refine lv_aload_n hx hb dL_law_488 rfl (lv_at hl 3 rfl) ?_
                    refine zkQ_i (va_runV (As := []) (rest := []) ⟨hx, hb, hml, hown, hw0⟩ (c_X7_again l g h u _ hu _) (zcVg hw0 zm5_11 zm5_14 zm1_8 zm5_12 zm5_13 hd_X7_again rfl rfl ⟨Nat.le_of_ble_eq_true rfl, Nat.le_of_ble_eq_true rfl⟩) ⟨zblind, zrecvQ hK hP (ci := 7) rfl rfl, zpreQ hK hP hD⟩ rfl rfl hl.1 rfl (lv_room (Nat.le_of_ble_eq_true rfl)) dL_law_489 ⟨hc2, hs2⟩) hP hD hS hA rfl (fun H locs hP hD hS => ?_)
                    have hP : va_P g.1 vwCl ((zX6 g a v1 ++ [(o, .inl (g.2.2.2, 1, .inr (.inl F1)))]) ++ zX7 g h u1) H := hP
                    have hD : va_D A ((zX6 g a v1 ++ [(o, .inl (g.2.2.2, 1, .inr (.inl F1)))]) ++ zX7 g h u1) := hD
                    refine lv_istore (lv' := [(6, .int b9), (5, .int k9), (0, .ref b), (1, .ref (a 0)), (2, .ref (h 0)), (3, .ref o), (4, .int (nI (4 * j)))]) hx hb dL_law_492 hl (by decide) rfl (fun ls hl => ?_)
                    refine lv_aload_n hx hb dL_law_494 rfl (lv_at hl 4 rfl) ?_
                    refine zkQ_i (va_runV (As := []) (rest := []) ⟨hx, hb, hml, hown, hw0⟩ (c_X7_thrown l g h u1 _ (rfl : f_X7_thrown u1 = some (zThr u1)) _) (zcVg hw0 zm4_105 zm4_108 zm1_8 zm4_106 zm4_107 hd_X7_thrown rfl rfl ⟨Nat.le_of_ble_eq_true rfl, Nat.le_of_ble_eq_true rfl⟩) ⟨zblind, zrecvQ hK hP (ci := 7) rfl rfl, zpreQ hK hP hD⟩ rfl rfl hl.1 rfl (lv_room (Nat.le_of_ble_eq_true rfl)) dL_law_495 ⟨hc2, hs2⟩) hP hD hS hA rfl (fun H locs hP hD hS => ?_)
                    have hP : va_P g.1 vwCl ((zX6 g a v1 ++ [(o, .inl (g.2.2.2, 1, .inr (.inl F1)))]) ++ zX7 g h u1) H := hP
                    have hD : va_D A ((zX6 g a v1 ++ [(o, .inl (g.2.2.2, 1, .inr (.inl F1)))]) ++ zX7 g h u1) := hD
                    refine lv_iload hx hb dL_law_498 (lv_at hl 1 rfl) ?_
                    refine lv_icmp_eq (tgt := 505) hx hb dL_law_500 (by decide) (fun _ => ?_) (fun c9 => absurd hth c9)
                    refine lv_iload hx hb dL_law_505 (lv_at hl 1 rfl) ?_
                    refine lv_if_ne (tgt := 522) hx hb dL_law_507 (by decide) (fun _ => ?_) (fun c8 => ?_)
                    · refine lv_goto (tgt := 1242) hx hb dL_law_522 (by decide) ?_
                      exact tail v1 u1 F1 hR1 d0 hd0 H locs hP hD hS ls (lv_sub hl [2, 3, 4, 5, 6] rfl)
                    · refine lv_aload_n hx hb dL_law_510 rfl (lv_at hl 5 rfl) ?_
                      refine lv_iconst (v := 0) hx hb dL_law_511 (by decide) ?_
                      refine zald_J (D := g.1) (f := F1) (k := 0) hx hb hK.1 hP 112 2 rfl rfl (zin_vp (i := 0) (n := 1) rfl) rfl dL_law_512 ?_
                      refine lv_iload hx hb dL_law_513 (lv_at hl 0 rfl) ?_
                      refine lv_i2l (v := Int32.toInt64 b9) hx hb dL_law_515 rfl ?_
                      refine W.lcmp hx hb dL_law_516 ?_
                      refine lv_if_eq (tgt := 522) hx hb dL_law_517 (by decide) (fun _ => ?_) (fun c9 => absurd (by rw [hF c8]; exact zlc _) c9)
                      refine lv_goto (tgt := 1242) hx hb dL_law_522 (by decide) ?_
                      exact tail v1 u1 F1 hR1 d0 hd0 H locs hP hD hS ls (lv_sub hl [2, 3, 4, 5, 6] rfl)
                  · by_cases c7 : (p0 &&& 31) = 7
                    · refine lv_tableIn (tgt := 525) (off := 486) hx hb dL_law_39 (by rw [c7]; decide) (by rw [c7]; decide) (by first | (rw [c7]; done) | (rw [c7]; rfl)) (by decide) ?_
                      obtain ⟨k9, v1, F1, b9, u1, hv, hu, hth, hF, hR1⟩ := hA_element v u hRel p1 p2 F
                      refine lv_aload_n hx hb dL_law_525 rfl (lv_at hl 1 rfl) ?_
                      refine lv_aload_n hx hb dL_law_526 rfl (lv_at hl 0 rfl) ?_
                      refine lv_iload hx hb dL_law_527 (lv_at hl 4 rfl) ?_
                      refine lv_iconst (v := 1) hx hb dL_law_529 (by decide) ?_
                      refine lv_iadd hx hb dL_law_530 ?_
                      refine zsld hx hb hX hbl hbA hS hin1 hp1 dL_law_531 ?_
                      refine lv_aload_n hx hb dL_law_532 rfl (lv_at hl 0 rfl) ?_
                      refine lv_iload hx hb dL_law_533 (lv_at hl 4 rfl) ?_
                      refine lv_iconst (v := 2) hx hb dL_law_535 (by decide) ?_
                      refine lv_iadd hx hb dL_law_536 ?_
                      refine zsld hx hb hX hbl hbA hS hin2 hp2 dL_law_537 ?_
                      refine lv_aload_n hx hb dL_law_538 rfl (lv_at hl 3 rfl) ?_
                      refine zkP_i (zrun_w (vx_runSX (As := [.ref (a 0), .int p1, .int p2, .ref o]) (rest := []) ⟨hx, hb, hml, hown, hw0⟩ (c_L_element l hst9 g a o v p1 p2 F _ hv _) (zcSX hw0 zm3_216 zmH3_218 zm1_0 zm3_217 hd_L_element rfl rfl ⟨Nat.le_of_ble_eq_true rfl, Nat.le_of_ble_eq_true rfl⟩) ⟨zblindL, zpreW hK hKx hZs hNc hP hD hS hA⟩ rfl rfl hl.1 rfl (lv_room (Nat.le_of_ble_eq_true rfl)) dL_law_539 ⟨hc1, hs1⟩)) hP hD hS hA rfl (fun H locs hP hD hS => ?_)
                      refine W.widen (k := 119 + (j + 1)) (n := 3247 + 6 * (j + 1)) (by omega) (by omega) ?_
                      have hP : va_P g.1 vwCl ((zX6 g a v1 ++ [(o, .inl (g.2.2.2, 1, .inr (.inl F1)))]) ++ zX7 g h u) H := hP
                      have hD : va_D A ((zX6 g a v1 ++ [(o, .inl (g.2.2.2, 1, .inr (.inl F1)))]) ++ zX7 g h u) := hD
                      refine lv_istore (lv' := [(5, .int k9), (0, .ref b), (1, .ref (a 0)), (2, .ref (h 0)), (3, .ref o), (4, .int (nI (4 * j)))]) hx hb dL_law_542 hl (by decide) rfl (fun ls hl => ?_)
                      refine lv_aload_n hx hb dL_law_544 rfl (lv_at hl 3 rfl) ?_
                      refine lv_aload_n hx hb dL_law_545 rfl (lv_at hl 1 rfl) ?_
                      refine lv_iload hx hb dL_law_546 (lv_at hl 5 rfl) ?_
                      refine lv_iconst (v := 1) hx hb dL_law_548 (by decide) ?_
                      refine lv_iadd hx hb dL_law_549 ?_
                      refine zsld hx hb hX hbl hbA hS hin1 hp1 dL_law_550 ?_
                      refine lv_aload_n hx hb dL_law_551 rfl (lv_at hl 1 rfl) ?_
                      refine lv_iload hx hb dL_law_552 (lv_at hl 5 rfl) ?_
                      refine lv_iconst (v := 2) hx hb dL_law_554 (by decide) ?_
                      refine lv_iadd hx hb dL_law_555 ?_
                      refine zsld hx hb hX hbl hbA hS hin2 hp2 dL_law_556 ?_
                      refine zkQ_i (va_runV (As := [.int p1, .int p2]) (rest := []) ⟨hx, hb, hml, hown, hw0⟩ (c_X7_element l g h u p1 p2 _ hu _) (zcVg hw0 zm5_19 zm5_22 zm1_8 zm5_20 zm5_21 hd_X7_element rfl rfl ⟨Nat.le_of_ble_eq_true rfl, Nat.le_of_ble_eq_true rfl⟩) ⟨zblind, zrecvQ hK hP (ci := 7) rfl rfl, zpreQ hK hP hD⟩ rfl rfl hl.1 rfl (lv_room (Nat.le_of_ble_eq_true rfl)) dL_law_557 ⟨hc2, hs2⟩) hP hD hS hA rfl (fun H locs hP hD hS => ?_)
                      have hP : va_P g.1 vwCl ((zX6 g a v1 ++ [(o, .inl (g.2.2.2, 1, .inr (.inl F1)))]) ++ zX7 g h u1) H := hP
                      have hD : va_D A ((zX6 g a v1 ++ [(o, .inl (g.2.2.2, 1, .inr (.inl F1)))]) ++ zX7 g h u1) := hD
                      refine lv_istore (lv' := [(6, .int b9), (5, .int k9), (0, .ref b), (1, .ref (a 0)), (2, .ref (h 0)), (3, .ref o), (4, .int (nI (4 * j)))]) hx hb dL_law_560 hl (by decide) rfl (fun ls hl => ?_)
                      refine lv_aload_n hx hb dL_law_562 rfl (lv_at hl 4 rfl) ?_
                      refine zkQ_i (va_runV (As := []) (rest := []) ⟨hx, hb, hml, hown, hw0⟩ (c_X7_thrown l g h u1 _ (rfl : f_X7_thrown u1 = some (zThr u1)) _) (zcVg hw0 zm4_105 zm4_108 zm1_8 zm4_106 zm4_107 hd_X7_thrown rfl rfl ⟨Nat.le_of_ble_eq_true rfl, Nat.le_of_ble_eq_true rfl⟩) ⟨zblind, zrecvQ hK hP (ci := 7) rfl rfl, zpreQ hK hP hD⟩ rfl rfl hl.1 rfl (lv_room (Nat.le_of_ble_eq_true rfl)) dL_law_563 ⟨hc2, hs2⟩) hP hD hS hA rfl (fun H locs hP hD hS => ?_)
                      have hP : va_P g.1 vwCl ((zX6 g a v1 ++ [(o, .inl (g.2.2.2, 1, .inr (.inl F1)))]) ++ zX7 g h u1) H := hP
                      have hD : va_D A ((zX6 g a v1 ++ [(o, .inl (g.2.2.2, 1, .inr (.inl F1)))]) ++ zX7 g h u1) := hD
                      refine lv_iload hx hb dL_law_566 (lv_at hl 1 rfl) ?_
                      refine lv_icmp_eq (tgt := 573) hx hb dL_law_568 (by decide) (fun _ => ?_) (fun c9 => absurd hth c9)
                      refine lv_iload hx hb dL_law_573 (lv_at hl 1 rfl) ?_
                      refine lv_if_ne (tgt := 590) hx hb dL_law_575 (by decide) (fun _ => ?_) (fun c8 => ?_)
                      · refine lv_goto (tgt := 1242) hx hb dL_law_590 (by decide) ?_
                        exact tail v1 u1 F1 hR1 d0 hd0 H locs hP hD hS ls (lv_sub hl [2, 3, 4, 5, 6] rfl)
                      · refine lv_aload_n hx hb dL_law_578 rfl (lv_at hl 5 rfl) ?_
                        refine lv_iconst (v := 0) hx hb dL_law_579 (by decide) ?_
                        refine zald_J (D := g.1) (f := F1) (k := 0) hx hb hK.1 hP 112 2 rfl rfl (zin_vp (i := 0) (n := 1) rfl) rfl dL_law_580 ?_
                        refine lv_iload hx hb dL_law_581 (lv_at hl 0 rfl) ?_
                        refine lv_i2l (v := Int32.toInt64 b9) hx hb dL_law_583 rfl ?_
                        refine W.lcmp hx hb dL_law_584 ?_
                        refine lv_if_eq (tgt := 590) hx hb dL_law_585 (by decide) (fun _ => ?_) (fun c9 => absurd (by rw [hF c8]; exact zlc _) c9)
                        refine lv_goto (tgt := 1242) hx hb dL_law_590 (by decide) ?_
                        exact tail v1 u1 F1 hR1 d0 hd0 H locs hP hD hS ls (lv_sub hl [2, 3, 4, 5, 6] rfl)
                    · by_cases c8 : (p0 &&& 31) = 8
                      · refine lv_tableIn (tgt := 593) (off := 554) hx hb dL_law_39 (by rw [c8]; decide) (by rw [c8]; decide) (by first | (rw [c8]; done) | (rw [c8]; rfl)) (by decide) ?_
                        obtain ⟨k9, v1, F1, b9, u1, hv, hu, hth, hF, hR1⟩ := hA_filler v u hRel p1 p2 F
                        refine lv_aload_n hx hb dL_law_593 rfl (lv_at hl 1 rfl) ?_
                        refine lv_aload_n hx hb dL_law_594 rfl (lv_at hl 0 rfl) ?_
                        refine lv_iload hx hb dL_law_595 (lv_at hl 4 rfl) ?_
                        refine lv_iconst (v := 1) hx hb dL_law_597 (by decide) ?_
                        refine lv_iadd hx hb dL_law_598 ?_
                        refine zsld hx hb hX hbl hbA hS hin1 hp1 dL_law_599 ?_
                        refine lv_aload_n hx hb dL_law_600 rfl (lv_at hl 0 rfl) ?_
                        refine lv_iload hx hb dL_law_601 (lv_at hl 4 rfl) ?_
                        refine lv_iconst (v := 2) hx hb dL_law_603 (by decide) ?_
                        refine lv_iadd hx hb dL_law_604 ?_
                        refine zsld hx hb hX hbl hbA hS hin2 hp2 dL_law_605 ?_
                        refine lv_aload_n hx hb dL_law_606 rfl (lv_at hl 3 rfl) ?_
                        refine zkP_i (zrun_w (vx_runSX (As := [.ref (a 0), .int p1, .int p2, .ref o]) (rest := []) ⟨hx, hb, hml, hown, hw0⟩ (c_L_filler l hst9 g a o v p1 p2 F _ hv _) (zcSX hw0 zm3_224 zmH3_226 zm1_0 zm3_225 hd_L_filler rfl rfl ⟨Nat.le_of_ble_eq_true rfl, Nat.le_of_ble_eq_true rfl⟩) ⟨zblindL, zpreW hK hKx hZs hNc hP hD hS hA⟩ rfl rfl hl.1 rfl (lv_room (Nat.le_of_ble_eq_true rfl)) dL_law_607 ⟨hc1, hs1⟩)) hP hD hS hA rfl (fun H locs hP hD hS => ?_)
                        refine W.widen (k := 119 + (j + 1)) (n := 3247 + 6 * (j + 1)) (by omega) (by omega) ?_
                        have hP : va_P g.1 vwCl ((zX6 g a v1 ++ [(o, .inl (g.2.2.2, 1, .inr (.inl F1)))]) ++ zX7 g h u) H := hP
                        have hD : va_D A ((zX6 g a v1 ++ [(o, .inl (g.2.2.2, 1, .inr (.inl F1)))]) ++ zX7 g h u) := hD
                        refine lv_istore (lv' := [(5, .int k9), (0, .ref b), (1, .ref (a 0)), (2, .ref (h 0)), (3, .ref o), (4, .int (nI (4 * j)))]) hx hb dL_law_610 hl (by decide) rfl (fun ls hl => ?_)
                        refine lv_aload_n hx hb dL_law_612 rfl (lv_at hl 3 rfl) ?_
                        refine lv_aload_n hx hb dL_law_613 rfl (lv_at hl 1 rfl) ?_
                        refine lv_iload hx hb dL_law_614 (lv_at hl 5 rfl) ?_
                        refine lv_iconst (v := 1) hx hb dL_law_616 (by decide) ?_
                        refine lv_iadd hx hb dL_law_617 ?_
                        refine zsld hx hb hX hbl hbA hS hin1 hp1 dL_law_618 ?_
                        refine lv_aload_n hx hb dL_law_619 rfl (lv_at hl 1 rfl) ?_
                        refine lv_iload hx hb dL_law_620 (lv_at hl 5 rfl) ?_
                        refine lv_iconst (v := 2) hx hb dL_law_622 (by decide) ?_
                        refine lv_iadd hx hb dL_law_623 ?_
                        refine zsld hx hb hX hbl hbA hS hin2 hp2 dL_law_624 ?_
                        refine zkQ_i (va_runV (As := [.int p1, .int p2]) (rest := []) ⟨hx, hb, hml, hown, hw0⟩ (c_X7_filler l g h u p1 p2 _ hu _) (zcVg hw0 zm5_39 zm5_42 zm1_8 zm5_40 zm5_41 hd_X7_filler rfl rfl ⟨Nat.le_of_ble_eq_true rfl, Nat.le_of_ble_eq_true rfl⟩) ⟨zblind, zrecvQ hK hP (ci := 7) rfl rfl, zpreQ hK hP hD⟩ rfl rfl hl.1 rfl (lv_room (Nat.le_of_ble_eq_true rfl)) dL_law_625 ⟨hc2, hs2⟩) hP hD hS hA rfl (fun H locs hP hD hS => ?_)
                        have hP : va_P g.1 vwCl ((zX6 g a v1 ++ [(o, .inl (g.2.2.2, 1, .inr (.inl F1)))]) ++ zX7 g h u1) H := hP
                        have hD : va_D A ((zX6 g a v1 ++ [(o, .inl (g.2.2.2, 1, .inr (.inl F1)))]) ++ zX7 g h u1) := hD
                        refine lv_istore (lv' := [(6, .int b9), (5, .int k9), (0, .ref b), (1, .ref (a 0)), (2, .ref (h 0)), (3, .ref o), (4, .int (nI (4 * j)))]) hx hb dL_law_628 hl (by decide) rfl (fun ls hl => ?_)
                        refine lv_aload_n hx hb dL_law_630 rfl (lv_at hl 4 rfl) ?_
                        refine zkQ_i (va_runV (As := []) (rest := []) ⟨hx, hb, hml, hown, hw0⟩ (c_X7_thrown l g h u1 _ (rfl : f_X7_thrown u1 = some (zThr u1)) _) (zcVg hw0 zm4_105 zm4_108 zm1_8 zm4_106 zm4_107 hd_X7_thrown rfl rfl ⟨Nat.le_of_ble_eq_true rfl, Nat.le_of_ble_eq_true rfl⟩) ⟨zblind, zrecvQ hK hP (ci := 7) rfl rfl, zpreQ hK hP hD⟩ rfl rfl hl.1 rfl (lv_room (Nat.le_of_ble_eq_true rfl)) dL_law_631 ⟨hc2, hs2⟩) hP hD hS hA rfl (fun H locs hP hD hS => ?_)
                        have hP : va_P g.1 vwCl ((zX6 g a v1 ++ [(o, .inl (g.2.2.2, 1, .inr (.inl F1)))]) ++ zX7 g h u1) H := hP
                        have hD : va_D A ((zX6 g a v1 ++ [(o, .inl (g.2.2.2, 1, .inr (.inl F1)))]) ++ zX7 g h u1) := hD
                        refine lv_iload hx hb dL_law_634 (lv_at hl 1 rfl) ?_
                        refine lv_icmp_eq (tgt := 641) hx hb dL_law_636 (by decide) (fun _ => ?_) (fun c9 => absurd hth c9)
                        refine lv_iload hx hb dL_law_641 (lv_at hl 1 rfl) ?_
                        refine lv_if_ne (tgt := 658) hx hb dL_law_643 (by decide) (fun _ => ?_) (fun c8 => ?_)
                        · refine lv_goto (tgt := 1242) hx hb dL_law_658 (by decide) ?_
                          exact tail v1 u1 F1 hR1 d0 hd0 H locs hP hD hS ls (lv_sub hl [2, 3, 4, 5, 6] rfl)
                        · refine lv_aload_n hx hb dL_law_646 rfl (lv_at hl 5 rfl) ?_
                          refine lv_iconst (v := 0) hx hb dL_law_647 (by decide) ?_
                          refine zald_J (D := g.1) (f := F1) (k := 0) hx hb hK.1 hP 112 2 rfl rfl (zin_vp (i := 0) (n := 1) rfl) rfl dL_law_648 ?_
                          refine lv_iload hx hb dL_law_649 (lv_at hl 0 rfl) ?_
                          refine lv_i2l (v := Int32.toInt64 b9) hx hb dL_law_651 rfl ?_
                          refine W.lcmp hx hb dL_law_652 ?_
                          refine lv_if_eq (tgt := 658) hx hb dL_law_653 (by decide) (fun _ => ?_) (fun c9 => absurd (by rw [hF c8]; exact zlc _) c9)
                          refine lv_goto (tgt := 1242) hx hb dL_law_658 (by decide) ?_
                          exact tail v1 u1 F1 hR1 d0 hd0 H locs hP hD hS ls (lv_sub hl [2, 3, 4, 5, 6] rfl)
                      · by_cases c9 : (p0 &&& 31) = 9
                        · refine lv_tableIn (tgt := 661) (off := 622) hx hb dL_law_39 (by rw [c9]; decide) (by rw [c9]; decide) (by first | (rw [c9]; done) | (rw [c9]; rfl)) (by decide) ?_
                          obtain ⟨k9, v1, F1, b9, u1, hv, hu, hth, hF, hR1⟩ := hA_value v u hRel p1 F
                          refine lv_aload_n hx hb dL_law_661 rfl (lv_at hl 1 rfl) ?_
                          refine lv_aload_n hx hb dL_law_662 rfl (lv_at hl 0 rfl) ?_
                          refine lv_iload hx hb dL_law_663 (lv_at hl 4 rfl) ?_
                          refine lv_iconst (v := 1) hx hb dL_law_665 (by decide) ?_
                          refine lv_iadd hx hb dL_law_666 ?_
                          refine zsld hx hb hX hbl hbA hS hin1 hp1 dL_law_667 ?_
                          refine lv_aload_n hx hb dL_law_668 rfl (lv_at hl 3 rfl) ?_
                          refine zkP_i (zrun_w (vx_runSX (As := [.ref (a 0), .int p1, .ref o]) (rest := []) ⟨hx, hb, hml, hown, hw0⟩ (c_L_value l hst9 g a o v p1 F _ hv _) (zcSX hw0 zm3_233 zmH3_235 zm1_0 zm3_234 hd_L_value rfl rfl ⟨Nat.le_of_ble_eq_true rfl, Nat.le_of_ble_eq_true rfl⟩) ⟨zblindL, zpreW hK hKx hZs hNc hP hD hS hA⟩ rfl rfl hl.1 rfl (lv_room (Nat.le_of_ble_eq_true rfl)) dL_law_669 ⟨hc1, hs1⟩)) hP hD hS hA rfl (fun H locs hP hD hS => ?_)
                          refine W.widen (k := 119 + (j + 1)) (n := 3247 + 6 * (j + 1)) (by omega) (by omega) ?_
                          have hP : va_P g.1 vwCl ((zX6 g a v1 ++ [(o, .inl (g.2.2.2, 1, .inr (.inl F1)))]) ++ zX7 g h u) H := hP
                          have hD : va_D A ((zX6 g a v1 ++ [(o, .inl (g.2.2.2, 1, .inr (.inl F1)))]) ++ zX7 g h u) := hD
                          refine lv_istore (lv' := [(5, .int k9), (0, .ref b), (1, .ref (a 0)), (2, .ref (h 0)), (3, .ref o), (4, .int (nI (4 * j)))]) hx hb dL_law_672 hl (by decide) rfl (fun ls hl => ?_)
                          refine lv_aload_n hx hb dL_law_674 rfl (lv_at hl 3 rfl) ?_
                          refine lv_aload_n hx hb dL_law_675 rfl (lv_at hl 1 rfl) ?_
                          refine lv_iload hx hb dL_law_676 (lv_at hl 5 rfl) ?_
                          refine lv_iconst (v := 1) hx hb dL_law_678 (by decide) ?_
                          refine lv_iadd hx hb dL_law_679 ?_
                          refine zsld hx hb hX hbl hbA hS hin1 hp1 dL_law_680 ?_
                          refine zkQ_i (va_runV (As := [.int p1]) (rest := []) ⟨hx, hb, hml, hown, hw0⟩ (c_X7_value l g h u p1 _ hu _) (zcVg hw0 zm5_47 zm5_50 zm1_8 zm5_48 zm5_49 hd_X7_value rfl rfl ⟨Nat.le_of_ble_eq_true rfl, Nat.le_of_ble_eq_true rfl⟩) ⟨zblind, zrecvQ hK hP (ci := 7) rfl rfl, zpreQ hK hP hD⟩ rfl rfl hl.1 rfl (lv_room (Nat.le_of_ble_eq_true rfl)) dL_law_681 ⟨hc2, hs2⟩) hP hD hS hA rfl (fun H locs hP hD hS => ?_)
                          have hP : va_P g.1 vwCl ((zX6 g a v1 ++ [(o, .inl (g.2.2.2, 1, .inr (.inl F1)))]) ++ zX7 g h u1) H := hP
                          have hD : va_D A ((zX6 g a v1 ++ [(o, .inl (g.2.2.2, 1, .inr (.inl F1)))]) ++ zX7 g h u1) := hD
                          refine lv_istore (lv' := [(6, .int b9), (5, .int k9), (0, .ref b), (1, .ref (a 0)), (2, .ref (h 0)), (3, .ref o), (4, .int (nI (4 * j)))]) hx hb dL_law_684 hl (by decide) rfl (fun ls hl => ?_)
                          refine lv_aload_n hx hb dL_law_686 rfl (lv_at hl 4 rfl) ?_
                          refine zkQ_i (va_runV (As := []) (rest := []) ⟨hx, hb, hml, hown, hw0⟩ (c_X7_thrown l g h u1 _ (rfl : f_X7_thrown u1 = some (zThr u1)) _) (zcVg hw0 zm4_105 zm4_108 zm1_8 zm4_106 zm4_107 hd_X7_thrown rfl rfl ⟨Nat.le_of_ble_eq_true rfl, Nat.le_of_ble_eq_true rfl⟩) ⟨zblind, zrecvQ hK hP (ci := 7) rfl rfl, zpreQ hK hP hD⟩ rfl rfl hl.1 rfl (lv_room (Nat.le_of_ble_eq_true rfl)) dL_law_687 ⟨hc2, hs2⟩) hP hD hS hA rfl (fun H locs hP hD hS => ?_)
                          have hP : va_P g.1 vwCl ((zX6 g a v1 ++ [(o, .inl (g.2.2.2, 1, .inr (.inl F1)))]) ++ zX7 g h u1) H := hP
                          have hD : va_D A ((zX6 g a v1 ++ [(o, .inl (g.2.2.2, 1, .inr (.inl F1)))]) ++ zX7 g h u1) := hD
                          refine lv_iload hx hb dL_law_690 (lv_at hl 1 rfl) ?_
                          refine lv_icmp_eq (tgt := 697) hx hb dL_law_692 (by decide) (fun _ => ?_) (fun c9 => absurd hth c9)
                          refine lv_iload hx hb dL_law_697 (lv_at hl 1 rfl) ?_
                          refine lv_if_ne (tgt := 714) hx hb dL_law_699 (by decide) (fun _ => ?_) (fun c8 => ?_)
                          · refine lv_goto (tgt := 1242) hx hb dL_law_714 (by decide) ?_
                            exact tail v1 u1 F1 hR1 d0 hd0 H locs hP hD hS ls (lv_sub hl [2, 3, 4, 5, 6] rfl)
                          · refine lv_aload_n hx hb dL_law_702 rfl (lv_at hl 5 rfl) ?_
                            refine lv_iconst (v := 0) hx hb dL_law_703 (by decide) ?_
                            refine zald_J (D := g.1) (f := F1) (k := 0) hx hb hK.1 hP 112 2 rfl rfl (zin_vp (i := 0) (n := 1) rfl) rfl dL_law_704 ?_
                            refine lv_iload hx hb dL_law_705 (lv_at hl 0 rfl) ?_
                            refine lv_i2l (v := Int32.toInt64 b9) hx hb dL_law_707 rfl ?_
                            refine W.lcmp hx hb dL_law_708 ?_
                            refine lv_if_eq (tgt := 714) hx hb dL_law_709 (by decide) (fun _ => ?_) (fun c9 => absurd (by rw [hF c8]; exact zlc _) c9)
                            refine lv_goto (tgt := 1242) hx hb dL_law_714 (by decide) ?_
                            exact tail v1 u1 F1 hR1 d0 hd0 H locs hP hD hS ls (lv_sub hl [2, 3, 4, 5, 6] rfl)
                        · by_cases c10 : (p0 &&& 31) = 10
                          · refine lv_tableIn (tgt := 717) (off := 678) hx hb dL_law_39 (by rw [c10]; decide) (by rw [c10]; decide) (by first | (rw [c10]; done) | (rw [c10]; rfl)) (by decide) ?_
                            obtain ⟨k9, v1, F1, b9, u1, hv, hu, hth, hF, hR1⟩ := hA_entry v u hRel p1 p2 F
                            refine lv_aload_n hx hb dL_law_717 rfl (lv_at hl 1 rfl) ?_
                            refine lv_aload_n hx hb dL_law_718 rfl (lv_at hl 0 rfl) ?_
                            refine lv_iload hx hb dL_law_719 (lv_at hl 4 rfl) ?_
                            refine lv_iconst (v := 1) hx hb dL_law_721 (by decide) ?_
                            refine lv_iadd hx hb dL_law_722 ?_
                            refine zsld hx hb hX hbl hbA hS hin1 hp1 dL_law_723 ?_
                            refine lv_aload_n hx hb dL_law_724 rfl (lv_at hl 0 rfl) ?_
                            refine lv_iload hx hb dL_law_725 (lv_at hl 4 rfl) ?_
                            refine lv_iconst (v := 2) hx hb dL_law_727 (by decide) ?_
                            refine lv_iadd hx hb dL_law_728 ?_
                            refine zsld hx hb hX hbl hbA hS hin2 hp2 dL_law_729 ?_
                            refine lv_aload_n hx hb dL_law_730 rfl (lv_at hl 3 rfl) ?_
                            refine zkP_i (zrun_w (vx_runSX (As := [.ref (a 0), .int p1, .int p2, .ref o]) (rest := []) ⟨hx, hb, hml, hown, hw0⟩ (c_L_entry l hst9 g a o v p1 p2 F _ hv _) (zcSX hw0 zm4_0 zmH4_2 zm1_0 zm4_1 hd_L_entry rfl rfl ⟨Nat.le_of_ble_eq_true rfl, Nat.le_of_ble_eq_true rfl⟩) ⟨zblindL, zpreW hK hKx hZs hNc hP hD hS hA⟩ rfl rfl hl.1 rfl (lv_room (Nat.le_of_ble_eq_true rfl)) dL_law_731 ⟨hc1, hs1⟩)) hP hD hS hA rfl (fun H locs hP hD hS => ?_)
                            refine W.widen (k := 119 + (j + 1)) (n := 3247 + 6 * (j + 1)) (by omega) (by omega) ?_
                            have hP : va_P g.1 vwCl ((zX6 g a v1 ++ [(o, .inl (g.2.2.2, 1, .inr (.inl F1)))]) ++ zX7 g h u) H := hP
                            have hD : va_D A ((zX6 g a v1 ++ [(o, .inl (g.2.2.2, 1, .inr (.inl F1)))]) ++ zX7 g h u) := hD
                            refine lv_istore (lv' := [(5, .int k9), (0, .ref b), (1, .ref (a 0)), (2, .ref (h 0)), (3, .ref o), (4, .int (nI (4 * j)))]) hx hb dL_law_734 hl (by decide) rfl (fun ls hl => ?_)
                            refine lv_aload_n hx hb dL_law_736 rfl (lv_at hl 3 rfl) ?_
                            refine lv_aload_n hx hb dL_law_737 rfl (lv_at hl 1 rfl) ?_
                            refine lv_iload hx hb dL_law_738 (lv_at hl 5 rfl) ?_
                            refine lv_iconst (v := 1) hx hb dL_law_740 (by decide) ?_
                            refine lv_iadd hx hb dL_law_741 ?_
                            refine zsld hx hb hX hbl hbA hS hin1 hp1 dL_law_742 ?_
                            refine lv_aload_n hx hb dL_law_743 rfl (lv_at hl 1 rfl) ?_
                            refine lv_iload hx hb dL_law_744 (lv_at hl 5 rfl) ?_
                            refine lv_iconst (v := 2) hx hb dL_law_746 (by decide) ?_
                            refine lv_iadd hx hb dL_law_747 ?_
                            refine zsld hx hb hX hbl hbA hS hin2 hp2 dL_law_748 ?_
                            refine zkQ_i (va_runV (As := [.int p1, .int p2]) (rest := []) ⟨hx, hb, hml, hown, hw0⟩ (c_X7_entry l g h u p1 p2 _ hu _) (zcVg hw0 zm5_63 zm5_66 zm1_8 zm5_64 zm5_65 hd_X7_entry rfl rfl ⟨Nat.le_of_ble_eq_true rfl, Nat.le_of_ble_eq_true rfl⟩) ⟨zblind, zrecvQ hK hP (ci := 7) rfl rfl, zpreQ hK hP hD⟩ rfl rfl hl.1 rfl (lv_room (Nat.le_of_ble_eq_true rfl)) dL_law_749 ⟨hc2, hs2⟩) hP hD hS hA rfl (fun H locs hP hD hS => ?_)
                            have hP : va_P g.1 vwCl ((zX6 g a v1 ++ [(o, .inl (g.2.2.2, 1, .inr (.inl F1)))]) ++ zX7 g h u1) H := hP
                            have hD : va_D A ((zX6 g a v1 ++ [(o, .inl (g.2.2.2, 1, .inr (.inl F1)))]) ++ zX7 g h u1) := hD
                            refine lv_istore (lv' := [(6, .int b9), (5, .int k9), (0, .ref b), (1, .ref (a 0)), (2, .ref (h 0)), (3, .ref o), (4, .int (nI (4 * j)))]) hx hb dL_law_752 hl (by decide) rfl (fun ls hl => ?_)
                            refine lv_aload_n hx hb dL_law_754 rfl (lv_at hl 4 rfl) ?_
                            refine zkQ_i (va_runV (As := []) (rest := []) ⟨hx, hb, hml, hown, hw0⟩ (c_X7_thrown l g h u1 _ (rfl : f_X7_thrown u1 = some (zThr u1)) _) (zcVg hw0 zm4_105 zm4_108 zm1_8 zm4_106 zm4_107 hd_X7_thrown rfl rfl ⟨Nat.le_of_ble_eq_true rfl, Nat.le_of_ble_eq_true rfl⟩) ⟨zblind, zrecvQ hK hP (ci := 7) rfl rfl, zpreQ hK hP hD⟩ rfl rfl hl.1 rfl (lv_room (Nat.le_of_ble_eq_true rfl)) dL_law_755 ⟨hc2, hs2⟩) hP hD hS hA rfl (fun H locs hP hD hS => ?_)
                            have hP : va_P g.1 vwCl ((zX6 g a v1 ++ [(o, .inl (g.2.2.2, 1, .inr (.inl F1)))]) ++ zX7 g h u1) H := hP
                            have hD : va_D A ((zX6 g a v1 ++ [(o, .inl (g.2.2.2, 1, .inr (.inl F1)))]) ++ zX7 g h u1) := hD
                            refine lv_iload hx hb dL_law_758 (lv_at hl 1 rfl) ?_
                            refine lv_icmp_eq (tgt := 765) hx hb dL_law_760 (by decide) (fun _ => ?_) (fun c9 => absurd hth c9)
                            refine lv_iload hx hb dL_law_765 (lv_at hl 1 rfl) ?_
                            refine lv_if_ne (tgt := 782) hx hb dL_law_767 (by decide) (fun _ => ?_) (fun c8 => ?_)
                            · refine lv_goto (tgt := 1242) hx hb dL_law_782 (by decide) ?_
                              exact tail v1 u1 F1 hR1 d0 hd0 H locs hP hD hS ls (lv_sub hl [2, 3, 4, 5, 6] rfl)
                            · refine lv_aload_n hx hb dL_law_770 rfl (lv_at hl 5 rfl) ?_
                              refine lv_iconst (v := 0) hx hb dL_law_771 (by decide) ?_
                              refine zald_J (D := g.1) (f := F1) (k := 0) hx hb hK.1 hP 112 2 rfl rfl (zin_vp (i := 0) (n := 1) rfl) rfl dL_law_772 ?_
                              refine lv_iload hx hb dL_law_773 (lv_at hl 0 rfl) ?_
                              refine lv_i2l (v := Int32.toInt64 b9) hx hb dL_law_775 rfl ?_
                              refine W.lcmp hx hb dL_law_776 ?_
                              refine lv_if_eq (tgt := 782) hx hb dL_law_777 (by decide) (fun _ => ?_) (fun c9 => absurd (by rw [hF c8]; exact zlc _) c9)
                              refine lv_goto (tgt := 1242) hx hb dL_law_782 (by decide) ?_
                              exact tail v1 u1 F1 hR1 d0 hd0 H locs hP hD hS ls (lv_sub hl [2, 3, 4, 5, 6] rfl)
                          · by_cases c11 : (p0 &&& 31) = 11
                            · refine lv_tableIn (tgt := 785) (off := 746) hx hb dL_law_39 (by rw [c11]; decide) (by rw [c11]; decide) (by first | (rw [c11]; done) | (rw [c11]; rfl)) (by decide) ?_
                              obtain ⟨k9, v1, F1, b9, u1, hv, hu, hth, hF, hR1⟩ := hA_backTime v u hRel p1 F
                              refine lv_aload_n hx hb dL_law_785 rfl (lv_at hl 1 rfl) ?_
                              refine lv_aload_n hx hb dL_law_786 rfl (lv_at hl 0 rfl) ?_
                              refine lv_iload hx hb dL_law_787 (lv_at hl 4 rfl) ?_
                              refine lv_iconst (v := 1) hx hb dL_law_789 (by decide) ?_
                              refine lv_iadd hx hb dL_law_790 ?_
                              refine zsld hx hb hX hbl hbA hS hin1 hp1 dL_law_791 ?_
                              refine lv_aload_n hx hb dL_law_792 rfl (lv_at hl 3 rfl) ?_
                              refine zkP_i (zrun_w (vx_runSX (As := [.ref (a 0), .int p1, .ref o]) (rest := []) ⟨hx, hb, hml, hown, hw0⟩ (c_L_backTime l hst9 g a o v p1 F _ hv _) (zcSX hw0 zm4_9 zmH4_11 zm1_0 zm4_10 hd_L_backTime rfl rfl ⟨Nat.le_of_ble_eq_true rfl, Nat.le_of_ble_eq_true rfl⟩) ⟨zblindL, zpreW hK hKx hZs hNc hP hD hS hA⟩ rfl rfl hl.1 rfl (lv_room (Nat.le_of_ble_eq_true rfl)) dL_law_793 ⟨hc1, hs1⟩)) hP hD hS hA rfl (fun H locs hP hD hS => ?_)
                              refine W.widen (k := 119 + (j + 1)) (n := 3247 + 6 * (j + 1)) (by omega) (by omega) ?_
                              have hP : va_P g.1 vwCl ((zX6 g a v1 ++ [(o, .inl (g.2.2.2, 1, .inr (.inl F1)))]) ++ zX7 g h u) H := hP
                              have hD : va_D A ((zX6 g a v1 ++ [(o, .inl (g.2.2.2, 1, .inr (.inl F1)))]) ++ zX7 g h u) := hD
                              refine lv_istore (lv' := [(5, .int k9), (0, .ref b), (1, .ref (a 0)), (2, .ref (h 0)), (3, .ref o), (4, .int (nI (4 * j)))]) hx hb dL_law_796 hl (by decide) rfl (fun ls hl => ?_)
                              refine lv_aload_n hx hb dL_law_798 rfl (lv_at hl 3 rfl) ?_
                              refine lv_aload_n hx hb dL_law_799 rfl (lv_at hl 1 rfl) ?_
                              refine lv_iload hx hb dL_law_800 (lv_at hl 5 rfl) ?_
                              refine lv_iconst (v := 1) hx hb dL_law_802 (by decide) ?_
                              refine lv_iadd hx hb dL_law_803 ?_
                              refine zsld hx hb hX hbl hbA hS hin1 hp1 dL_law_804 ?_
                              refine zkQ_i (va_runV (As := [.int p1]) (rest := []) ⟨hx, hb, hml, hown, hw0⟩ (c_X7_backTime l g h u p1 _ hu _) (zcVg hw0 zm5_67 zm5_70 zm1_8 zm5_68 zm5_69 hd_X7_backTime rfl rfl ⟨Nat.le_of_ble_eq_true rfl, Nat.le_of_ble_eq_true rfl⟩) ⟨zblind, zrecvQ hK hP (ci := 7) rfl rfl, zpreQ hK hP hD⟩ rfl rfl hl.1 rfl (lv_room (Nat.le_of_ble_eq_true rfl)) dL_law_805 ⟨hc2, hs2⟩) hP hD hS hA rfl (fun H locs hP hD hS => ?_)
                              have hP : va_P g.1 vwCl ((zX6 g a v1 ++ [(o, .inl (g.2.2.2, 1, .inr (.inl F1)))]) ++ zX7 g h u1) H := hP
                              have hD : va_D A ((zX6 g a v1 ++ [(o, .inl (g.2.2.2, 1, .inr (.inl F1)))]) ++ zX7 g h u1) := hD
                              refine lv_istore (lv' := [(6, .int b9), (5, .int k9), (0, .ref b), (1, .ref (a 0)), (2, .ref (h 0)), (3, .ref o), (4, .int (nI (4 * j)))]) hx hb dL_law_808 hl (by decide) rfl (fun ls hl => ?_)
                              refine lv_aload_n hx hb dL_law_810 rfl (lv_at hl 4 rfl) ?_
                              refine zkQ_i (va_runV (As := []) (rest := []) ⟨hx, hb, hml, hown, hw0⟩ (c_X7_thrown l g h u1 _ (rfl : f_X7_thrown u1 = some (zThr u1)) _) (zcVg hw0 zm4_105 zm4_108 zm1_8 zm4_106 zm4_107 hd_X7_thrown rfl rfl ⟨Nat.le_of_ble_eq_true rfl, Nat.le_of_ble_eq_true rfl⟩) ⟨zblind, zrecvQ hK hP (ci := 7) rfl rfl, zpreQ hK hP hD⟩ rfl rfl hl.1 rfl (lv_room (Nat.le_of_ble_eq_true rfl)) dL_law_811 ⟨hc2, hs2⟩) hP hD hS hA rfl (fun H locs hP hD hS => ?_)
                              have hP : va_P g.1 vwCl ((zX6 g a v1 ++ [(o, .inl (g.2.2.2, 1, .inr (.inl F1)))]) ++ zX7 g h u1) H := hP
                              have hD : va_D A ((zX6 g a v1 ++ [(o, .inl (g.2.2.2, 1, .inr (.inl F1)))]) ++ zX7 g h u1) := hD
                              refine lv_iload hx hb dL_law_814 (lv_at hl 1 rfl) ?_
                              refine lv_icmp_eq (tgt := 821) hx hb dL_law_816 (by decide) (fun _ => ?_) (fun c9 => absurd hth c9)
                              refine lv_iload hx hb dL_law_821 (lv_at hl 1 rfl) ?_
                              refine lv_if_ne (tgt := 838) hx hb dL_law_823 (by decide) (fun _ => ?_) (fun c8 => ?_)
                              · refine lv_goto (tgt := 1242) hx hb dL_law_838 (by decide) ?_
                                exact tail v1 u1 F1 hR1 d0 hd0 H locs hP hD hS ls (lv_sub hl [2, 3, 4, 5, 6] rfl)
                              · refine lv_aload_n hx hb dL_law_826 rfl (lv_at hl 5 rfl) ?_
                                refine lv_iconst (v := 0) hx hb dL_law_827 (by decide) ?_
                                refine zald_J (D := g.1) (f := F1) (k := 0) hx hb hK.1 hP 112 2 rfl rfl (zin_vp (i := 0) (n := 1) rfl) rfl dL_law_828 ?_
                                refine lv_iload hx hb dL_law_829 (lv_at hl 0 rfl) ?_
                                refine lv_i2l (v := Int32.toInt64 b9) hx hb dL_law_831 rfl ?_
                                refine W.lcmp hx hb dL_law_832 ?_
                                refine lv_if_eq (tgt := 838) hx hb dL_law_833 (by decide) (fun _ => ?_) (fun c9 => absurd (by rw [hF c8]; exact zlc _) c9)
                                refine lv_goto (tgt := 1242) hx hb dL_law_838 (by decide) ?_
                                exact tail v1 u1 F1 hR1 d0 hd0 H locs hP hD hS ls (lv_sub hl [2, 3, 4, 5, 6] rfl)
                            · by_cases c12 : (p0 &&& 31) = 12
                              · refine lv_tableIn (tgt := 841) (off := 802) hx hb dL_law_39 (by rw [c12]; decide) (by rw [c12]; decide) (by first | (rw [c12]; done) | (rw [c12]; rfl)) (by decide) ?_
                                obtain ⟨k9, v1, F1, b9, u1, hv, hu, hth, hF, hR1⟩ := hA_beginOf v u hRel p1 F
                                refine lv_aload_n hx hb dL_law_841 rfl (lv_at hl 1 rfl) ?_
                                refine lv_aload_n hx hb dL_law_842 rfl (lv_at hl 0 rfl) ?_
                                refine lv_iload hx hb dL_law_843 (lv_at hl 4 rfl) ?_
                                refine lv_iconst (v := 1) hx hb dL_law_845 (by decide) ?_
                                refine lv_iadd hx hb dL_law_846 ?_
                                refine zsld hx hb hX hbl hbA hS hin1 hp1 dL_law_847 ?_
                                refine lv_aload_n hx hb dL_law_848 rfl (lv_at hl 3 rfl) ?_
                                refine zkP_i (zrun_w (vx_runSX (As := [.ref (a 0), .int p1, .ref o]) (rest := []) ⟨hx, hb, hml, hown, hw0⟩ (c_L_beginOf l hst9 g a o v p1 F _ hv _) (zcSX hw0 zm4_16 zmH4_18 zm1_0 zm4_17 hd_L_beginOf rfl rfl ⟨Nat.le_of_ble_eq_true rfl, Nat.le_of_ble_eq_true rfl⟩) ⟨zblindL, zpreW hK hKx hZs hNc hP hD hS hA⟩ rfl rfl hl.1 rfl (lv_room (Nat.le_of_ble_eq_true rfl)) dL_law_849 ⟨hc1, hs1⟩)) hP hD hS hA rfl (fun H locs hP hD hS => ?_)
                                refine W.widen (k := 119 + (j + 1)) (n := 3247 + 6 * (j + 1)) (by omega) (by omega) ?_
                                have hP : va_P g.1 vwCl ((zX6 g a v1 ++ [(o, .inl (g.2.2.2, 1, .inr (.inl F1)))]) ++ zX7 g h u) H := hP
                                have hD : va_D A ((zX6 g a v1 ++ [(o, .inl (g.2.2.2, 1, .inr (.inl F1)))]) ++ zX7 g h u) := hD
                                refine lv_istore (lv' := [(5, .int k9), (0, .ref b), (1, .ref (a 0)), (2, .ref (h 0)), (3, .ref o), (4, .int (nI (4 * j)))]) hx hb dL_law_852 hl (by decide) rfl (fun ls hl => ?_)
                                refine lv_aload_n hx hb dL_law_854 rfl (lv_at hl 3 rfl) ?_
                                refine lv_aload_n hx hb dL_law_855 rfl (lv_at hl 1 rfl) ?_
                                refine lv_iload hx hb dL_law_856 (lv_at hl 5 rfl) ?_
                                refine lv_iconst (v := 1) hx hb dL_law_858 (by decide) ?_
                                refine lv_iadd hx hb dL_law_859 ?_
                                refine zsld hx hb hX hbl hbA hS hin1 hp1 dL_law_860 ?_
                                refine zkQ_i (va_runV (As := [.int p1]) (rest := []) ⟨hx, hb, hml, hown, hw0⟩ (c_X7_beginOf l g h u p1 _ hu _) (zcVg hw0 zm5_75 zm5_78 zm1_8 zm5_76 zm5_77 hd_X7_beginOf rfl rfl ⟨Nat.le_of_ble_eq_true rfl, Nat.le_of_ble_eq_true rfl⟩) ⟨zblind, zrecvQ hK hP (ci := 7) rfl rfl, zpreQ hK hP hD⟩ rfl rfl hl.1 rfl (lv_room (Nat.le_of_ble_eq_true rfl)) dL_law_861 ⟨hc2, hs2⟩) hP hD hS hA rfl (fun H locs hP hD hS => ?_)
                                have hP : va_P g.1 vwCl ((zX6 g a v1 ++ [(o, .inl (g.2.2.2, 1, .inr (.inl F1)))]) ++ zX7 g h u1) H := hP
                                have hD : va_D A ((zX6 g a v1 ++ [(o, .inl (g.2.2.2, 1, .inr (.inl F1)))]) ++ zX7 g h u1) := hD
                                refine lv_istore (lv' := [(6, .int b9), (5, .int k9), (0, .ref b), (1, .ref (a 0)), (2, .ref (h 0)), (3, .ref o), (4, .int (nI (4 * j)))]) hx hb dL_law_864 hl (by decide) rfl (fun ls hl => ?_)
                                refine lv_aload_n hx hb dL_law_866 rfl (lv_at hl 4 rfl) ?_
                                refine zkQ_i (va_runV (As := []) (rest := []) ⟨hx, hb, hml, hown, hw0⟩ (c_X7_thrown l g h u1 _ (rfl : f_X7_thrown u1 = some (zThr u1)) _) (zcVg hw0 zm4_105 zm4_108 zm1_8 zm4_106 zm4_107 hd_X7_thrown rfl rfl ⟨Nat.le_of_ble_eq_true rfl, Nat.le_of_ble_eq_true rfl⟩) ⟨zblind, zrecvQ hK hP (ci := 7) rfl rfl, zpreQ hK hP hD⟩ rfl rfl hl.1 rfl (lv_room (Nat.le_of_ble_eq_true rfl)) dL_law_867 ⟨hc2, hs2⟩) hP hD hS hA rfl (fun H locs hP hD hS => ?_)
                                have hP : va_P g.1 vwCl ((zX6 g a v1 ++ [(o, .inl (g.2.2.2, 1, .inr (.inl F1)))]) ++ zX7 g h u1) H := hP
                                have hD : va_D A ((zX6 g a v1 ++ [(o, .inl (g.2.2.2, 1, .inr (.inl F1)))]) ++ zX7 g h u1) := hD
                                refine lv_iload hx hb dL_law_870 (lv_at hl 1 rfl) ?_
                                refine lv_icmp_eq (tgt := 877) hx hb dL_law_872 (by decide) (fun _ => ?_) (fun c9 => absurd hth c9)
                                refine lv_iload hx hb dL_law_877 (lv_at hl 1 rfl) ?_
                                refine lv_if_ne (tgt := 894) hx hb dL_law_879 (by decide) (fun _ => ?_) (fun c8 => ?_)
                                · refine lv_goto (tgt := 1242) hx hb dL_law_894 (by decide) ?_
                                  exact tail v1 u1 F1 hR1 d0 hd0 H locs hP hD hS ls (lv_sub hl [2, 3, 4, 5, 6] rfl)
                                · refine lv_aload_n hx hb dL_law_882 rfl (lv_at hl 5 rfl) ?_
                                  refine lv_iconst (v := 0) hx hb dL_law_883 (by decide) ?_
                                  refine zald_J (D := g.1) (f := F1) (k := 0) hx hb hK.1 hP 112 2 rfl rfl (zin_vp (i := 0) (n := 1) rfl) rfl dL_law_884 ?_
                                  refine lv_iload hx hb dL_law_885 (lv_at hl 0 rfl) ?_
                                  refine lv_i2l (v := Int32.toInt64 b9) hx hb dL_law_887 rfl ?_
                                  refine W.lcmp hx hb dL_law_888 ?_
                                  refine lv_if_eq (tgt := 894) hx hb dL_law_889 (by decide) (fun _ => ?_) (fun c9 => absurd (by rw [hF c8]; exact zlc _) c9)
                                  refine lv_goto (tgt := 1242) hx hb dL_law_894 (by decide) ?_
                                  exact tail v1 u1 F1 hR1 d0 hd0 H locs hP hD hS ls (lv_sub hl [2, 3, 4, 5, 6] rfl)
                              · by_cases c13 : (p0 &&& 31) = 13
                                · refine lv_tableIn (tgt := 897) (off := 858) hx hb dL_law_39 (by rw [c13]; decide) (by rw [c13]; decide) (by first | (rw [c13]; done) | (rw [c13]; rfl)) (by decide) ?_
                                  obtain ⟨b9, v1, u1, hv, hu, hR1⟩ := hA_endOfHour v u hRel
                                  refine lv_aload_n hx hb dL_law_897 rfl (lv_at hl 1 rfl) ?_
                                  rw [List.append_assoc] at hP hD
                                  refine zkP_i (va_runV (As := []) (rest := []) ⟨hx, hb, hml, hown, hw0⟩ (c_X6_endOfHour l g a v _ hv _) (zcVg hw0 zm2_132 zm2_135 zm1_1 zm2_133 zm2_134 hd_X6_endOfHour rfl rfl ⟨Nat.le_of_ble_eq_true rfl, Nat.le_of_ble_eq_true rfl⟩) ⟨zblind, zrecvX hK hP (ci := 6) rfl rfl, zpreP hK hP hD⟩ rfl rfl hl.1 rfl (lv_room (Nat.le_of_ble_eq_true rfl)) dL_law_898 ⟨hc0, hs0⟩) hP hD hS hA rfl (fun H locs hP hD hS => ?_)
                                  rw [← List.append_assoc] at hP hD
                                  have hP : va_P g.1 vwCl ((zX6 g a v1 ++ [(o, .inl (g.2.2.2, 1, .inr (.inl F)))]) ++ zX7 g h u) H := hP
                                  have hD : va_D A ((zX6 g a v1 ++ [(o, .inl (g.2.2.2, 1, .inr (.inl F)))]) ++ zX7 g h u) := hD
                                  refine lv_aload_n hx hb dL_law_901 rfl (lv_at hl 2 rfl) ?_
                                  refine zkQ_i (va_runV (As := []) (rest := [.int b9]) ⟨hx, hb, hml, hown, hw0⟩ (c_X7_endOfHour l g h u _ hu _) (zcVg hw0 zm5_86 zm5_89 zm1_8 zm5_87 zm5_88 hd_X7_endOfHour rfl rfl ⟨Nat.le_of_ble_eq_true rfl, Nat.le_of_ble_eq_true rfl⟩) ⟨zblind, zrecvQ hK hP (ci := 7) rfl rfl, zpreQ hK hP hD⟩ rfl rfl hl.1 rfl (lv_room (Nat.le_of_ble_eq_true rfl)) dL_law_902 ⟨hc0, hs0⟩) hP hD hS hA rfl (fun H locs hP hD hS => ?_)
                                  have hP : va_P g.1 vwCl ((zX6 g a v1 ++ [(o, .inl (g.2.2.2, 1, .inr (.inl F)))]) ++ zX7 g h u1) H := hP
                                  have hD : va_D A ((zX6 g a v1 ++ [(o, .inl (g.2.2.2, 1, .inr (.inl F)))]) ++ zX7 g h u1) := hD
                                  refine lv_icmp_eq (tgt := 1242) hx hb dL_law_905 (by decide) (fun _ => ?_) (fun c9 => absurd rfl c9)
                                  refine W.widen (k := 119 + (j + 1)) (n := 3247 + 6 * (j + 1)) (by omega) (by omega) ?_
                                  exact tail v1 u1 F hR1 d0 hd0 H locs hP hD hS ls (lv_sub hl [0, 1, 2, 3, 4] rfl)
                                · by_cases c14 : (p0 &&& 31) = 14
                                  · refine lv_tableIn (tgt := 910) (off := 871) hx hb dL_law_39 (by rw [c14]; decide) (by rw [c14]; decide) (by first | (rw [c14]; done) | (rw [c14]; rfl)) (by decide) ?_
                                    obtain ⟨b9, v1, u1, hv, hu, hR1⟩ := hA_drops v u hRel
                                    refine lv_aload_n hx hb dL_law_910 rfl (lv_at hl 1 rfl) ?_
                                    rw [List.append_assoc] at hP hD
                                    refine zkP_i (va_runV (As := []) (rest := []) ⟨hx, hb, hml, hown, hw0⟩ (c_X6_drops l g a v _ hv _) (zcVg hw0 zm2_142 zm2_145 zm1_1 zm2_143 zm2_144 hd_X6_drops rfl rfl ⟨Nat.le_of_ble_eq_true rfl, Nat.le_of_ble_eq_true rfl⟩) ⟨zblind, zrecvX hK hP (ci := 6) rfl rfl, zpreP hK hP hD⟩ rfl rfl hl.1 rfl (lv_room (Nat.le_of_ble_eq_true rfl)) dL_law_911 ⟨hc0, hs0⟩) hP hD hS hA rfl (fun H locs hP hD hS => ?_)
                                    rw [← List.append_assoc] at hP hD
                                    have hP : va_P g.1 vwCl ((zX6 g a v1 ++ [(o, .inl (g.2.2.2, 1, .inr (.inl F)))]) ++ zX7 g h u) H := hP
                                    have hD : va_D A ((zX6 g a v1 ++ [(o, .inl (g.2.2.2, 1, .inr (.inl F)))]) ++ zX7 g h u) := hD
                                    refine lv_aload_n hx hb dL_law_914 rfl (lv_at hl 2 rfl) ?_
                                    refine zkQ_i (va_runV (As := []) (rest := [.int b9]) ⟨hx, hb, hml, hown, hw0⟩ (c_X7_drops l g h u _ hu _) (zcVg hw0 zm5_90 zm5_93 zm1_8 zm5_91 zm5_92 hd_X7_drops rfl rfl ⟨Nat.le_of_ble_eq_true rfl, Nat.le_of_ble_eq_true rfl⟩) ⟨zblind, zrecvQ hK hP (ci := 7) rfl rfl, zpreQ hK hP hD⟩ rfl rfl hl.1 rfl (lv_room (Nat.le_of_ble_eq_true rfl)) dL_law_915 ⟨hc0, hs0⟩) hP hD hS hA rfl (fun H locs hP hD hS => ?_)
                                    have hP : va_P g.1 vwCl ((zX6 g a v1 ++ [(o, .inl (g.2.2.2, 1, .inr (.inl F)))]) ++ zX7 g h u1) H := hP
                                    have hD : va_D A ((zX6 g a v1 ++ [(o, .inl (g.2.2.2, 1, .inr (.inl F)))]) ++ zX7 g h u1) := hD
                                    refine lv_icmp_eq (tgt := 1242) hx hb dL_law_918 (by decide) (fun _ => ?_) (fun c9 => absurd rfl c9)
                                    refine W.widen (k := 119 + (j + 1)) (n := 3247 + 6 * (j + 1)) (by omega) (by omega) ?_
                                    exact tail v1 u1 F hR1 d0 hd0 H locs hP hD hS ls (lv_sub hl [0, 1, 2, 3, 4] rfl)
                                  · by_cases c15 : (p0 &&& 31) = 15
                                    · refine lv_tableIn (tgt := 923) (off := 884) hx hb dL_law_39 (by rw [c15]; decide) (by rw [c15]; decide) (by first | (rw [c15]; done) | (rw [c15]; rfl)) (by decide) ?_
                                      obtain ⟨b9, v1, u1, hv, hu, hR1⟩ := hA_silence v u hRel
                                      refine lv_aload_n hx hb dL_law_923 rfl (lv_at hl 1 rfl) ?_
                                      rw [List.append_assoc] at hP hD
                                      refine zkP_i (va_runV (As := []) (rest := []) ⟨hx, hb, hml, hown, hw0⟩ (c_X6_silence l g a v _ hv _) (zcVg hw0 zm2_155 zm2_158 zm1_1 zm2_156 zm2_157 hd_X6_silence rfl rfl ⟨Nat.le_of_ble_eq_true rfl, Nat.le_of_ble_eq_true rfl⟩) ⟨zblind, zrecvX hK hP (ci := 6) rfl rfl, zpreP hK hP hD⟩ rfl rfl hl.1 rfl (lv_room (Nat.le_of_ble_eq_true rfl)) dL_law_924 ⟨hc0, hs0⟩) hP hD hS hA rfl (fun H locs hP hD hS => ?_)
                                      rw [← List.append_assoc] at hP hD
                                      have hP : va_P g.1 vwCl ((zX6 g a v1 ++ [(o, .inl (g.2.2.2, 1, .inr (.inl F)))]) ++ zX7 g h u) H := hP
                                      have hD : va_D A ((zX6 g a v1 ++ [(o, .inl (g.2.2.2, 1, .inr (.inl F)))]) ++ zX7 g h u) := hD
                                      refine lv_aload_n hx hb dL_law_927 rfl (lv_at hl 2 rfl) ?_
                                      refine zkQ_i (va_runV (As := []) (rest := [.int b9]) ⟨hx, hb, hml, hown, hw0⟩ (c_X7_silence l g h u _ hu _) (zcVg hw0 zm5_94 zm5_97 zm1_8 zm5_95 zm5_96 hd_X7_silence rfl rfl ⟨Nat.le_of_ble_eq_true rfl, Nat.le_of_ble_eq_true rfl⟩) ⟨zblind, zrecvQ hK hP (ci := 7) rfl rfl, zpreQ hK hP hD⟩ rfl rfl hl.1 rfl (lv_room (Nat.le_of_ble_eq_true rfl)) dL_law_928 ⟨hc0, hs0⟩) hP hD hS hA rfl (fun H locs hP hD hS => ?_)
                                      have hP : va_P g.1 vwCl ((zX6 g a v1 ++ [(o, .inl (g.2.2.2, 1, .inr (.inl F)))]) ++ zX7 g h u1) H := hP
                                      have hD : va_D A ((zX6 g a v1 ++ [(o, .inl (g.2.2.2, 1, .inr (.inl F)))]) ++ zX7 g h u1) := hD
                                      refine lv_icmp_eq (tgt := 1242) hx hb dL_law_931 (by decide) (fun _ => ?_) (fun c9 => absurd rfl c9)
                                      refine W.widen (k := 119 + (j + 1)) (n := 3247 + 6 * (j + 1)) (by omega) (by omega) ?_
                                      exact tail v1 u1 F hR1 d0 hd0 H locs hP hD hS ls (lv_sub hl [0, 1, 2, 3, 4] rfl)
                                    · by_cases c16 : (p0 &&& 31) = 16
                                      · refine lv_tableIn (tgt := 936) (off := 897) hx hb dL_law_39 (by rw [c16]; decide) (by rw [c16]; decide) (by first | (rw [c16]; done) | (rw [c16]; rfl)) (by decide) ?_
                                        obtain ⟨k9, v1, F1, b9, u1, hv, hu, hth, hF, hR1⟩ := hA_choice v u hRel p1 F
                                        refine lv_aload_n hx hb dL_law_936 rfl (lv_at hl 1 rfl) ?_
                                        refine lv_aload_n hx hb dL_law_937 rfl (lv_at hl 0 rfl) ?_
                                        refine lv_iload hx hb dL_law_938 (lv_at hl 4 rfl) ?_
                                        refine lv_iconst (v := 1) hx hb dL_law_940 (by decide) ?_
                                        refine lv_iadd hx hb dL_law_941 ?_
                                        refine zsld hx hb hX hbl hbA hS hin1 hp1 dL_law_942 ?_
                                        refine lv_aload_n hx hb dL_law_943 rfl (lv_at hl 3 rfl) ?_
                                        refine zkP_i (zrun_w (vx_runSX (As := [.ref (a 0), .int p1, .ref o]) (rest := []) ⟨hx, hb, hml, hown, hw0⟩ (c_L_choice l hst9 g a o v p1 F _ hv _) (zcSX hw0 zm4_23 zmH4_25 zm1_0 zm4_24 hd_L_choice rfl rfl ⟨Nat.le_of_ble_eq_true rfl, Nat.le_of_ble_eq_true rfl⟩) ⟨zblindL, zpreW hK hKx hZs hNc hP hD hS hA⟩ rfl rfl hl.1 rfl (lv_room (Nat.le_of_ble_eq_true rfl)) dL_law_944 ⟨hc1, hs1⟩)) hP hD hS hA rfl (fun H locs hP hD hS => ?_)
                                        refine W.widen (k := 119 + (j + 1)) (n := 3247 + 6 * (j + 1)) (by omega) (by omega) ?_
                                        have hP : va_P g.1 vwCl ((zX6 g a v1 ++ [(o, .inl (g.2.2.2, 1, .inr (.inl F1)))]) ++ zX7 g h u) H := hP
                                        have hD : va_D A ((zX6 g a v1 ++ [(o, .inl (g.2.2.2, 1, .inr (.inl F1)))]) ++ zX7 g h u) := hD
                                        refine lv_istore (lv' := [(5, .int k9), (0, .ref b), (1, .ref (a 0)), (2, .ref (h 0)), (3, .ref o), (4, .int (nI (4 * j)))]) hx hb dL_law_947 hl (by decide) rfl (fun ls hl => ?_)
                                        refine lv_aload_n hx hb dL_law_949 rfl (lv_at hl 3 rfl) ?_
                                        refine lv_aload_n hx hb dL_law_950 rfl (lv_at hl 1 rfl) ?_
                                        refine lv_iload hx hb dL_law_951 (lv_at hl 5 rfl) ?_
                                        refine lv_iconst (v := 1) hx hb dL_law_953 (by decide) ?_
                                        refine lv_iadd hx hb dL_law_954 ?_
                                        refine zsld hx hb hX hbl hbA hS hin1 hp1 dL_law_955 ?_
                                        refine zkQ_i (va_runV (As := [.int p1]) (rest := []) ⟨hx, hb, hml, hown, hw0⟩ (c_X7_choice l g h u p1 _ hu _) (zcVg hw0 zm5_98 zm5_101 zm1_8 zm5_99 zm5_100 hd_X7_choice rfl rfl ⟨Nat.le_of_ble_eq_true rfl, Nat.le_of_ble_eq_true rfl⟩) ⟨zblind, zrecvQ hK hP (ci := 7) rfl rfl, zpreQ hK hP hD⟩ rfl rfl hl.1 rfl (lv_room (Nat.le_of_ble_eq_true rfl)) dL_law_956 ⟨hc2, hs2⟩) hP hD hS hA rfl (fun H locs hP hD hS => ?_)
                                        have hP : va_P g.1 vwCl ((zX6 g a v1 ++ [(o, .inl (g.2.2.2, 1, .inr (.inl F1)))]) ++ zX7 g h u1) H := hP
                                        have hD : va_D A ((zX6 g a v1 ++ [(o, .inl (g.2.2.2, 1, .inr (.inl F1)))]) ++ zX7 g h u1) := hD
                                        refine lv_istore (lv' := [(6, .int b9), (5, .int k9), (0, .ref b), (1, .ref (a 0)), (2, .ref (h 0)), (3, .ref o), (4, .int (nI (4 * j)))]) hx hb dL_law_959 hl (by decide) rfl (fun ls hl => ?_)
                                        refine lv_aload_n hx hb dL_law_961 rfl (lv_at hl 4 rfl) ?_
                                        refine zkQ_i (va_runV (As := []) (rest := []) ⟨hx, hb, hml, hown, hw0⟩ (c_X7_thrown l g h u1 _ (rfl : f_X7_thrown u1 = some (zThr u1)) _) (zcVg hw0 zm4_105 zm4_108 zm1_8 zm4_106 zm4_107 hd_X7_thrown rfl rfl ⟨Nat.le_of_ble_eq_true rfl, Nat.le_of_ble_eq_true rfl⟩) ⟨zblind, zrecvQ hK hP (ci := 7) rfl rfl, zpreQ hK hP hD⟩ rfl rfl hl.1 rfl (lv_room (Nat.le_of_ble_eq_true rfl)) dL_law_962 ⟨hc2, hs2⟩) hP hD hS hA rfl (fun H locs hP hD hS => ?_)
                                        have hP : va_P g.1 vwCl ((zX6 g a v1 ++ [(o, .inl (g.2.2.2, 1, .inr (.inl F1)))]) ++ zX7 g h u1) H := hP
                                        have hD : va_D A ((zX6 g a v1 ++ [(o, .inl (g.2.2.2, 1, .inr (.inl F1)))]) ++ zX7 g h u1) := hD
                                        refine lv_iload hx hb dL_law_965 (lv_at hl 1 rfl) ?_
                                        refine lv_icmp_eq (tgt := 972) hx hb dL_law_967 (by decide) (fun _ => ?_) (fun c9 => absurd hth c9)
                                        refine lv_iload hx hb dL_law_972 (lv_at hl 1 rfl) ?_
                                        refine lv_if_ne (tgt := 989) hx hb dL_law_974 (by decide) (fun _ => ?_) (fun c8 => ?_)
                                        · refine lv_goto (tgt := 1242) hx hb dL_law_989 (by decide) ?_
                                          exact tail v1 u1 F1 hR1 d0 hd0 H locs hP hD hS ls (lv_sub hl [2, 3, 4, 5, 6] rfl)
                                        · refine lv_aload_n hx hb dL_law_977 rfl (lv_at hl 5 rfl) ?_
                                          refine lv_iconst (v := 0) hx hb dL_law_978 (by decide) ?_
                                          refine zald_J (D := g.1) (f := F1) (k := 0) hx hb hK.1 hP 112 2 rfl rfl (zin_vp (i := 0) (n := 1) rfl) rfl dL_law_979 ?_
                                          refine lv_iload hx hb dL_law_980 (lv_at hl 0 rfl) ?_
                                          refine lv_i2l (v := Int32.toInt64 b9) hx hb dL_law_982 rfl ?_
                                          refine W.lcmp hx hb dL_law_983 ?_
                                          refine lv_if_eq (tgt := 989) hx hb dL_law_984 (by decide) (fun _ => ?_) (fun c9 => absurd (by rw [hF c8]; exact zlc _) c9)
                                          refine lv_goto (tgt := 1242) hx hb dL_law_989 (by decide) ?_
                                          exact tail v1 u1 F1 hR1 d0 hd0 H locs hP hD hS ls (lv_sub hl [2, 3, 4, 5, 6] rfl)
                                      · by_cases c17 : (p0 &&& 31) = 17
                                        · refine lv_tableIn (tgt := 992) (off := 953) hx hb dL_law_39 (by rw [c17]; decide) (by rw [c17]; decide) (by first | (rw [c17]; done) | (rw [c17]; rfl)) (by decide) ?_
                                          obtain ⟨k9, v1, F1, b9, u1, hv, hu, hth, hF, hR1⟩ := hA_nextFull v u hRel p1 F
                                          refine lv_aload_n hx hb dL_law_992 rfl (lv_at hl 1 rfl) ?_
                                          refine lv_aload_n hx hb dL_law_993 rfl (lv_at hl 0 rfl) ?_
                                          refine lv_iload hx hb dL_law_994 (lv_at hl 4 rfl) ?_
                                          refine lv_iconst (v := 1) hx hb dL_law_996 (by decide) ?_
                                          refine lv_iadd hx hb dL_law_997 ?_
                                          refine zsld hx hb hX hbl hbA hS hin1 hp1 dL_law_998 ?_
                                          refine lv_aload_n hx hb dL_law_999 rfl (lv_at hl 3 rfl) ?_
                                          refine zkP_i (zrun_w (vx_runSX (As := [.ref (a 0), .int p1, .ref o]) (rest := []) ⟨hx, hb, hml, hown, hw0⟩ (c_L_nextFull l hst9 g a o v p1 F _ hv _) (zcSX hw0 zm4_32 zmH4_34 zm1_0 zm4_33 hd_L_nextFull rfl rfl ⟨Nat.le_of_ble_eq_true rfl, Nat.le_of_ble_eq_true rfl⟩) ⟨zblindL, zpreW hK hKx hZs hNc hP hD hS hA⟩ rfl rfl hl.1 rfl (lv_room (Nat.le_of_ble_eq_true rfl)) dL_law_1000 ⟨hc1, hs1⟩)) hP hD hS hA rfl (fun H locs hP hD hS => ?_)
                                          refine W.widen (k := 119 + (j + 1)) (n := 3247 + 6 * (j + 1)) (by omega) (by omega) ?_
                                          have hP : va_P g.1 vwCl ((zX6 g a v1 ++ [(o, .inl (g.2.2.2, 1, .inr (.inl F1)))]) ++ zX7 g h u) H := hP
                                          have hD : va_D A ((zX6 g a v1 ++ [(o, .inl (g.2.2.2, 1, .inr (.inl F1)))]) ++ zX7 g h u) := hD
                                          refine lv_istore (lv' := [(5, .int k9), (0, .ref b), (1, .ref (a 0)), (2, .ref (h 0)), (3, .ref o), (4, .int (nI (4 * j)))]) hx hb dL_law_1003 hl (by decide) rfl (fun ls hl => ?_)
                                          refine lv_aload_n hx hb dL_law_1005 rfl (lv_at hl 3 rfl) ?_
                                          refine lv_aload_n hx hb dL_law_1006 rfl (lv_at hl 1 rfl) ?_
                                          refine lv_iload hx hb dL_law_1007 (lv_at hl 5 rfl) ?_
                                          refine lv_iconst (v := 1) hx hb dL_law_1009 (by decide) ?_
                                          refine lv_iadd hx hb dL_law_1010 ?_
                                          refine zsld hx hb hX hbl hbA hS hin1 hp1 dL_law_1011 ?_
                                          refine zkQ_i (va_runV (As := [.int p1]) (rest := []) ⟨hx, hb, hml, hown, hw0⟩ (c_X7_nextFull l g h u p1 _ hu _) (zcVg hw0 zm5_102 zm5_105 zm1_8 zm5_103 zm5_104 hd_X7_nextFull rfl rfl ⟨Nat.le_of_ble_eq_true rfl, Nat.le_of_ble_eq_true rfl⟩) ⟨zblind, zrecvQ hK hP (ci := 7) rfl rfl, zpreQ hK hP hD⟩ rfl rfl hl.1 rfl (lv_room (Nat.le_of_ble_eq_true rfl)) dL_law_1012 ⟨hc2, hs2⟩) hP hD hS hA rfl (fun H locs hP hD hS => ?_)
                                          have hP : va_P g.1 vwCl ((zX6 g a v1 ++ [(o, .inl (g.2.2.2, 1, .inr (.inl F1)))]) ++ zX7 g h u1) H := hP
                                          have hD : va_D A ((zX6 g a v1 ++ [(o, .inl (g.2.2.2, 1, .inr (.inl F1)))]) ++ zX7 g h u1) := hD
                                          refine lv_istore (lv' := [(6, .int b9), (5, .int k9), (0, .ref b), (1, .ref (a 0)), (2, .ref (h 0)), (3, .ref o), (4, .int (nI (4 * j)))]) hx hb dL_law_1015 hl (by decide) rfl (fun ls hl => ?_)
                                          refine lv_aload_n hx hb dL_law_1017 rfl (lv_at hl 4 rfl) ?_
                                          refine zkQ_i (va_runV (As := []) (rest := []) ⟨hx, hb, hml, hown, hw0⟩ (c_X7_thrown l g h u1 _ (rfl : f_X7_thrown u1 = some (zThr u1)) _) (zcVg hw0 zm4_105 zm4_108 zm1_8 zm4_106 zm4_107 hd_X7_thrown rfl rfl ⟨Nat.le_of_ble_eq_true rfl, Nat.le_of_ble_eq_true rfl⟩) ⟨zblind, zrecvQ hK hP (ci := 7) rfl rfl, zpreQ hK hP hD⟩ rfl rfl hl.1 rfl (lv_room (Nat.le_of_ble_eq_true rfl)) dL_law_1018 ⟨hc2, hs2⟩) hP hD hS hA rfl (fun H locs hP hD hS => ?_)
                                          have hP : va_P g.1 vwCl ((zX6 g a v1 ++ [(o, .inl (g.2.2.2, 1, .inr (.inl F1)))]) ++ zX7 g h u1) H := hP
                                          have hD : va_D A ((zX6 g a v1 ++ [(o, .inl (g.2.2.2, 1, .inr (.inl F1)))]) ++ zX7 g h u1) := hD
                                          refine lv_iload hx hb dL_law_1021 (lv_at hl 1 rfl) ?_
                                          refine lv_icmp_eq (tgt := 1028) hx hb dL_law_1023 (by decide) (fun _ => ?_) (fun c9 => absurd hth c9)
                                          refine lv_iload hx hb dL_law_1028 (lv_at hl 1 rfl) ?_
                                          refine lv_if_ne (tgt := 1045) hx hb dL_law_1030 (by decide) (fun _ => ?_) (fun c8 => ?_)
                                          · refine lv_goto (tgt := 1242) hx hb dL_law_1045 (by decide) ?_
                                            exact tail v1 u1 F1 hR1 d0 hd0 H locs hP hD hS ls (lv_sub hl [2, 3, 4, 5, 6] rfl)
                                          · refine lv_aload_n hx hb dL_law_1033 rfl (lv_at hl 5 rfl) ?_
                                            refine lv_iconst (v := 0) hx hb dL_law_1034 (by decide) ?_
                                            refine zald_J (D := g.1) (f := F1) (k := 0) hx hb hK.1 hP 112 2 rfl rfl (zin_vp (i := 0) (n := 1) rfl) rfl dL_law_1035 ?_
                                            refine lv_iload hx hb dL_law_1036 (lv_at hl 0 rfl) ?_
                                            refine lv_i2l (v := Int32.toInt64 b9) hx hb dL_law_1038 rfl ?_
                                            refine W.lcmp hx hb dL_law_1039 ?_
                                            refine lv_if_eq (tgt := 1045) hx hb dL_law_1040 (by decide) (fun _ => ?_) (fun c9 => absurd (by rw [hF c8]; exact zlc _) c9)
                                            refine lv_goto (tgt := 1242) hx hb dL_law_1045 (by decide) ?_
                                            exact tail v1 u1 F1 hR1 d0 hd0 H locs hP hD hS ls (lv_sub hl [2, 3, 4, 5, 6] rfl)
                                        · by_cases c18 : (p0 &&& 31) = 18
                                          · refine lv_tableIn (tgt := 1048) (off := 1009) hx hb dL_law_39 (by rw [c18]; decide) (by rw [c18]; decide) (by first | (rw [c18]; done) | (rw [c18]; rfl)) (by decide) ?_
                                            obtain ⟨b9, v1, u1, hv, hu, hR1⟩ := hA_bestDrop v u hRel
                                            refine lv_aload_n hx hb dL_law_1048 rfl (lv_at hl 1 rfl) ?_
                                            rw [List.append_assoc] at hP hD
                                            refine zkP_i (va_runV (As := []) (rest := []) ⟨hx, hb, hml, hown, hw0⟩ (c_X6_bestDrop l g a v _ hv _) (zcVg hw0 zm2_159 zm2_162 zm1_1 zm2_160 zm2_161 hd_X6_bestDrop rfl rfl ⟨Nat.le_of_ble_eq_true rfl, Nat.le_of_ble_eq_true rfl⟩) ⟨zblind, zrecvX hK hP (ci := 6) rfl rfl, zpreP hK hP hD⟩ rfl rfl hl.1 rfl (lv_room (Nat.le_of_ble_eq_true rfl)) dL_law_1049 ⟨hc0, hs0⟩) hP hD hS hA rfl (fun H locs hP hD hS => ?_)
                                            rw [← List.append_assoc] at hP hD
                                            have hP : va_P g.1 vwCl ((zX6 g a v1 ++ [(o, .inl (g.2.2.2, 1, .inr (.inl F)))]) ++ zX7 g h u) H := hP
                                            have hD : va_D A ((zX6 g a v1 ++ [(o, .inl (g.2.2.2, 1, .inr (.inl F)))]) ++ zX7 g h u) := hD
                                            refine lv_aload_n hx hb dL_law_1052 rfl (lv_at hl 2 rfl) ?_
                                            refine zkQ_i (va_runV (As := []) (rest := [.int b9]) ⟨hx, hb, hml, hown, hw0⟩ (c_X7_bestDrop l g h u _ hu _) (zcVg hw0 zm5_110 zm5_113 zm1_8 zm5_111 zm5_112 hd_X7_bestDrop rfl rfl ⟨Nat.le_of_ble_eq_true rfl, Nat.le_of_ble_eq_true rfl⟩) ⟨zblind, zrecvQ hK hP (ci := 7) rfl rfl, zpreQ hK hP hD⟩ rfl rfl hl.1 rfl (lv_room (Nat.le_of_ble_eq_true rfl)) dL_law_1053 ⟨hc0, hs0⟩) hP hD hS hA rfl (fun H locs hP hD hS => ?_)
                                            have hP : va_P g.1 vwCl ((zX6 g a v1 ++ [(o, .inl (g.2.2.2, 1, .inr (.inl F)))]) ++ zX7 g h u1) H := hP
                                            have hD : va_D A ((zX6 g a v1 ++ [(o, .inl (g.2.2.2, 1, .inr (.inl F)))]) ++ zX7 g h u1) := hD
                                            refine lv_icmp_eq (tgt := 1242) hx hb dL_law_1056 (by decide) (fun _ => ?_) (fun c9 => absurd rfl c9)
                                            refine W.widen (k := 119 + (j + 1)) (n := 3247 + 6 * (j + 1)) (by omega) (by omega) ?_
                                            exact tail v1 u1 F hR1 d0 hd0 H locs hP hD hS ls (lv_sub hl [0, 1, 2, 3, 4] rfl)
                                          · by_cases c19 : (p0 &&& 31) = 19
                                            · refine lv_tableIn (tgt := 1061) (off := 1022) hx hb dL_law_39 (by rw [c19]; decide) (by rw [c19]; decide) (by first | (rw [c19]; done) | (rw [c19]; rfl)) (by decide) ?_
                                              obtain ⟨e1, e2, hR1⟩ := hA_sounding v u hRel
                                              refine lv_aload_n hx hb dL_law_1061 rfl (lv_at hl 1 rfl) ?_
                                              rw [List.append_assoc] at hP hD
                                              refine zkP_d (P9 := zsnd v.1.2.2.2.1 v.1.2.2.2.2.2.1) hd0 (va_runV_D (As := []) (rest := []) ⟨hx, hb, hml, hown, hw0⟩ (c_X6_sounding l g a v _) (zcVg hw0 zm2_167 zm2_170 zm1_1 zm2_168 zm2_169 hd_X6_sounding rfl rfl ⟨Nat.le_of_ble_eq_true rfl, Nat.le_of_ble_eq_true rfl⟩) ⟨zblind, zrecvX hK hP (ci := 6) rfl rfl, zpreP hK hP hD⟩ rfl rfl hl.1 rfl (lv_room (Nat.le_of_ble_eq_true rfl)) dL_law_1062 ⟨hc0, hs0⟩) hP hD hS hA rfl (fun z6 H locs d0 hz6 hd0 hP hD hS => ?_)
                                              have hw0 := dr_words hw0s d0
                                              have hK := hKs.draw d0
                                              rw [← List.append_assoc] at hP hD
                                              have hP : va_P g.1 vwCl ((zX6 g a v ++ [(o, .inl (g.2.2.2, 1, .inr (.inl F)))]) ++ zX7 g h u) H := hP
                                              have hD : va_D A ((zX6 g a v ++ [(o, .inl (g.2.2.2, 1, .inr (.inl F)))]) ++ zX7 g h u) := hD
                                              refine lv_dstore (lv' := [(5, .double z6), (0, .ref b), (1, .ref (a 0)), (2, .ref (h 0)), (3, .ref o), (4, .int (nI (4 * j)))]) hx hb dL_law_1065 hl (by decide) rfl (fun ls hl => ?_)
                                              refine lv_aload_n hx hb dL_law_1067 rfl (lv_at hl 3 rfl) ?_
                                              refine zkQ_d (P9 := zsnd (u.1 0) (u.1 5)) hd0 (va_runV_D (As := []) (rest := []) ⟨hx, hb, hml, hown, hw0⟩ (c_X7_sounding l g h u _) (zcVg hw0 zm5_118 zm5_121 zm1_8 zm5_119 zm5_120 hd_X7_sounding rfl rfl ⟨Nat.le_of_ble_eq_true rfl, Nat.le_of_ble_eq_true rfl⟩) ⟨zblind, zrecvQ hK hP (ci := 7) rfl rfl, zpreQ hK hP hD⟩ rfl rfl hl.1 rfl (lv_room (Nat.le_of_ble_eq_true rfl)) dL_law_1068 ⟨hc0, hs0⟩) hP hD hS hA rfl (fun z7 H locs d0 hz7 hd0 hP hD hS => ?_)
                                              have hw0 := dr_words hw0s d0
                                              have hK := hKs.draw d0
                                              have hP : va_P g.1 vwCl ((zX6 g a v ++ [(o, .inl (g.2.2.2, 1, .inr (.inl F)))]) ++ zX7 g h (u.1, u.2.1, u.2.2.1, u.2.2.2.1, u.2.2.2.2.1, u.2.2.2.2.2.1, u.2.2.2.2.2.2.1, 0, u.2.2.2.2.2.2.2.2.1, u.2.2.2.2.2.2.2.2.2.1, u.2.2.2.2.2.2.2.2.2.2)) H := hP
                                              have hD : va_D A ((zX6 g a v ++ [(o, .inl (g.2.2.2, 1, .inr (.inl F)))]) ++ zX7 g h (u.1, u.2.1, u.2.2.1, u.2.2.2.1, u.2.2.2.2.1, u.2.2.2.2.2.1, u.2.2.2.2.2.2.1, 0, u.2.2.2.2.2.2.2.2.1, u.2.2.2.2.2.2.2.2.2.1, u.2.2.2.2.2.2.2.2.2.2)) := hD
                                              refine lv_dstore (lv' := [(7, .double z7), (5, .double z6), (0, .ref b), (1, .ref (a 0)), (2, .ref (h 0)), (3, .ref o), (4, .int (nI (4 * j)))]) hx hb dL_law_1071 hl (by decide) rfl (fun ls hl => ?_)
                                              rw [e1, e2] at hz7
                                              refine lv_dload hx hb dL_law_1073 (lv_at hl 1 rfl) ?_
                                              refine lv_dload hx hb dL_law_1075 (lv_at hl 0 rfl) ?_
                                              refine lv_dcmp hx hb dL_law_1077 ?_
                                              refine lv_if_eq (tgt := 1099) hx hb dL_law_1078 (by decide) (fun _ => ?_) (fun c9 => ?_)
                                              · refine lv_goto (tgt := 1242) hx hb dL_law_1099 (by decide) ?_
                                                refine W.widen (k := 119 + (j + 1)) (n := 3247 + 6 * (j + 1)) (by omega) (by omega) ?_
                                                exact tail v (u.1, u.2.1, u.2.2.1, u.2.2.2.1, u.2.2.2.2.1, u.2.2.2.2.2.1, u.2.2.2.2.2.2.1, 0, u.2.2.2.2.2.2.2.2.1, u.2.2.2.2.2.2.2.2.2.1, u.2.2.2.2.2.2.2.2.2.2) F hR1 d0 hd0 H locs hP hD hS ls (lv_sub hl [2, 3, 4, 5, 6] rfl)
                                              · obtain ⟨g1, g2⟩ := zsnd_cmp hz6 hz7 c9
                                                refine lv_dload hx hb dL_law_1081 (lv_at hl 1 rfl) ?_
                                                refine lv_dload hx hb dL_law_1083 (lv_at hl 1 rfl) ?_
                                                refine lv_dcmp hx hb dL_law_1085 ?_
                                                refine lv_if_eq (tgt := 1097) hx hb dL_law_1086 (by decide) (fun c8 => absurd c8 g1) (fun _ => ?_)
                                                refine lv_dload hx hb dL_law_1089 (lv_at hl 0 rfl) ?_
                                                refine lv_dload hx hb dL_law_1091 (lv_at hl 0 rfl) ?_
                                                refine lv_dcmp hx hb dL_law_1093 ?_
                                                refine lv_if_ne (tgt := 1099) hx hb dL_law_1094 (by decide) (fun _ => ?_) (fun c8 => absurd c8 g2)
                                                refine lv_goto (tgt := 1242) hx hb dL_law_1099 (by decide) ?_
                                                refine W.widen (k := 119 + (j + 1)) (n := 3247 + 6 * (j + 1)) (by omega) (by omega) ?_
                                                exact tail v (u.1, u.2.1, u.2.2.1, u.2.2.2.1, u.2.2.2.2.1, u.2.2.2.2.2.1, u.2.2.2.2.2.2.1, 0, u.2.2.2.2.2.2.2.2.1, u.2.2.2.2.2.2.2.2.2.1, u.2.2.2.2.2.2.2.2.2.2) F hR1 d0 hd0 H locs hP hD hS ls (lv_sub hl [2, 3, 4, 5, 6] rfl)
                                            · by_cases c20 : (p0 &&& 31) = 20
                                              · refine lv_tableIn (tgt := 1102) (off := 1063) hx hb dL_law_39 (by rw [c20]; decide) (by rw [c20]; decide) (by first | (rw [c20]; done) | (rw [c20]; rfl)) (by decide) ?_
                                                obtain ⟨k9, v1, F1, b9, u1, hv, hu, hth, hF, hR1⟩ := hA_append v u hRel p1 F
                                                refine lv_aload_n hx hb dL_law_1102 rfl (lv_at hl 1 rfl) ?_
                                                refine lv_aload_n hx hb dL_law_1103 rfl (lv_at hl 0 rfl) ?_
                                                refine lv_iload hx hb dL_law_1104 (lv_at hl 4 rfl) ?_
                                                refine lv_iconst (v := 1) hx hb dL_law_1106 (by decide) ?_
                                                refine lv_iadd hx hb dL_law_1107 ?_
                                                refine zsld hx hb hX hbl hbA hS hin1 hp1 dL_law_1108 ?_
                                                refine lv_aload_n hx hb dL_law_1109 rfl (lv_at hl 3 rfl) ?_
                                                refine zkP_i (zrun_w (vx_runSX (As := [.ref (a 0), .int p1, .ref o]) (rest := []) ⟨hx, hb, hml, hown, hw0⟩ (c_L_append l hst9 g a o v p1 F _ hv _) (zcSX hw0 zm4_44 zmH4_46 zm1_0 zm4_45 hd_L_append rfl rfl ⟨Nat.le_of_ble_eq_true rfl, Nat.le_of_ble_eq_true rfl⟩) ⟨zblindL, zpreW hK hKx hZs hNc hP hD hS hA⟩ rfl rfl hl.1 rfl (lv_room (Nat.le_of_ble_eq_true rfl)) dL_law_1110 ⟨hc1, hs1⟩)) hP hD hS hA rfl (fun H locs hP hD hS => ?_)
                                                refine W.widen (k := 119 + (j + 1)) (n := 3247 + 6 * (j + 1)) (by omega) (by omega) ?_
                                                have hP : va_P g.1 vwCl ((zX6 g a v1 ++ [(o, .inl (g.2.2.2, 1, .inr (.inl F1)))]) ++ zX7 g h u) H := hP
                                                have hD : va_D A ((zX6 g a v1 ++ [(o, .inl (g.2.2.2, 1, .inr (.inl F1)))]) ++ zX7 g h u) := hD
                                                refine lv_istore (lv' := [(5, .int k9), (0, .ref b), (1, .ref (a 0)), (2, .ref (h 0)), (3, .ref o), (4, .int (nI (4 * j)))]) hx hb dL_law_1113 hl (by decide) rfl (fun ls hl => ?_)
                                                refine lv_aload_n hx hb dL_law_1115 rfl (lv_at hl 3 rfl) ?_
                                                refine lv_aload_n hx hb dL_law_1116 rfl (lv_at hl 1 rfl) ?_
                                                refine lv_iload hx hb dL_law_1117 (lv_at hl 5 rfl) ?_
                                                refine lv_iconst (v := 1) hx hb dL_law_1119 (by decide) ?_
                                                refine lv_iadd hx hb dL_law_1120 ?_
                                                refine zsld hx hb hX hbl hbA hS hin1 hp1 dL_law_1121 ?_
                                                refine zkQ_i (va_runV (As := [.int p1]) (rest := []) ⟨hx, hb, hml, hown, hw0⟩ (c_X7_append l g h u p1 _ hu _) (zcVg hw0 zm5_122 zm5_125 zm1_8 zm5_123 zm5_124 hd_X7_append rfl rfl ⟨Nat.le_of_ble_eq_true rfl, Nat.le_of_ble_eq_true rfl⟩) ⟨zblind, zrecvQ hK hP (ci := 7) rfl rfl, zpreQ hK hP hD⟩ rfl rfl hl.1 rfl (lv_room (Nat.le_of_ble_eq_true rfl)) dL_law_1122 ⟨hc2, hs2⟩) hP hD hS hA rfl (fun H locs hP hD hS => ?_)
                                                have hP : va_P g.1 vwCl ((zX6 g a v1 ++ [(o, .inl (g.2.2.2, 1, .inr (.inl F1)))]) ++ zX7 g h u1) H := hP
                                                have hD : va_D A ((zX6 g a v1 ++ [(o, .inl (g.2.2.2, 1, .inr (.inl F1)))]) ++ zX7 g h u1) := hD
                                                refine lv_istore (lv' := [(6, .int b9), (5, .int k9), (0, .ref b), (1, .ref (a 0)), (2, .ref (h 0)), (3, .ref o), (4, .int (nI (4 * j)))]) hx hb dL_law_1125 hl (by decide) rfl (fun ls hl => ?_)
                                                refine lv_aload_n hx hb dL_law_1127 rfl (lv_at hl 4 rfl) ?_
                                                refine zkQ_i (va_runV (As := []) (rest := []) ⟨hx, hb, hml, hown, hw0⟩ (c_X7_thrown l g h u1 _ (rfl : f_X7_thrown u1 = some (zThr u1)) _) (zcVg hw0 zm4_105 zm4_108 zm1_8 zm4_106 zm4_107 hd_X7_thrown rfl rfl ⟨Nat.le_of_ble_eq_true rfl, Nat.le_of_ble_eq_true rfl⟩) ⟨zblind, zrecvQ hK hP (ci := 7) rfl rfl, zpreQ hK hP hD⟩ rfl rfl hl.1 rfl (lv_room (Nat.le_of_ble_eq_true rfl)) dL_law_1128 ⟨hc2, hs2⟩) hP hD hS hA rfl (fun H locs hP hD hS => ?_)
                                                have hP : va_P g.1 vwCl ((zX6 g a v1 ++ [(o, .inl (g.2.2.2, 1, .inr (.inl F1)))]) ++ zX7 g h u1) H := hP
                                                have hD : va_D A ((zX6 g a v1 ++ [(o, .inl (g.2.2.2, 1, .inr (.inl F1)))]) ++ zX7 g h u1) := hD
                                                refine lv_iload hx hb dL_law_1131 (lv_at hl 1 rfl) ?_
                                                refine lv_icmp_eq (tgt := 1138) hx hb dL_law_1133 (by decide) (fun _ => ?_) (fun c9 => absurd hth c9)
                                                refine lv_iload hx hb dL_law_1138 (lv_at hl 1 rfl) ?_
                                                refine lv_if_ne (tgt := 1155) hx hb dL_law_1140 (by decide) (fun _ => ?_) (fun c8 => ?_)
                                                · refine lv_goto (tgt := 1242) hx hb dL_law_1155 (by decide) ?_
                                                  exact tail v1 u1 F1 hR1 d0 hd0 H locs hP hD hS ls (lv_sub hl [2, 3, 4, 5, 6] rfl)
                                                · refine lv_aload_n hx hb dL_law_1143 rfl (lv_at hl 5 rfl) ?_
                                                  refine lv_iconst (v := 0) hx hb dL_law_1144 (by decide) ?_
                                                  refine zald_J (D := g.1) (f := F1) (k := 0) hx hb hK.1 hP 112 2 rfl rfl (zin_vp (i := 0) (n := 1) rfl) rfl dL_law_1145 ?_
                                                  refine lv_iload hx hb dL_law_1146 (lv_at hl 0 rfl) ?_
                                                  refine lv_i2l (v := Int32.toInt64 b9) hx hb dL_law_1148 rfl ?_
                                                  refine W.lcmp hx hb dL_law_1149 ?_
                                                  refine lv_if_eq (tgt := 1155) hx hb dL_law_1150 (by decide) (fun _ => ?_) (fun c9 => absurd (by rw [hF c8]; exact zlc _) c9)
                                                  refine lv_goto (tgt := 1242) hx hb dL_law_1155 (by decide) ?_
                                                  exact tail v1 u1 F1 hR1 d0 hd0 H locs hP hD hS ls (lv_sub hl [2, 3, 4, 5, 6] rfl)
                                              · by_cases c21 : (p0 &&& 31) = 21
                                                · refine lv_tableIn (tgt := 1158) (off := 1119) hx hb dL_law_39 (by rw [c21]; decide) (by rw [c21]; decide) (by first | (rw [c21]; done) | (rw [c21]; rfl)) (by decide) ?_
                                                  obtain ⟨b9, v1, u1, hv, hu, hR1⟩ := hA_clearText v u hRel
                                                  refine lv_aload_n hx hb dL_law_1158 rfl (lv_at hl 1 rfl) ?_
                                                  rw [List.append_assoc] at hP hD
                                                  refine zkP_i (va_runV (As := []) (rest := []) ⟨hx, hb, hml, hown, hw0⟩ (c_X6_clearText l g a v _ hv _) (zcVg hw0 zm2_171 zm2_174 zm1_1 zm2_172 zm2_173 hd_X6_clearText rfl rfl ⟨Nat.le_of_ble_eq_true rfl, Nat.le_of_ble_eq_true rfl⟩) ⟨zblind, zrecvX hK hP (ci := 6) rfl rfl, zpreP hK hP hD⟩ rfl rfl hl.1 rfl (lv_room (Nat.le_of_ble_eq_true rfl)) dL_law_1159 ⟨hc0, hs0⟩) hP hD hS hA rfl (fun H locs hP hD hS => ?_)
                                                  rw [← List.append_assoc] at hP hD
                                                  have hP : va_P g.1 vwCl ((zX6 g a v1 ++ [(o, .inl (g.2.2.2, 1, .inr (.inl F)))]) ++ zX7 g h u) H := hP
                                                  have hD : va_D A ((zX6 g a v1 ++ [(o, .inl (g.2.2.2, 1, .inr (.inl F)))]) ++ zX7 g h u) := hD
                                                  refine lv_aload_n hx hb dL_law_1162 rfl (lv_at hl 2 rfl) ?_
                                                  refine zkQ_i (va_runV (As := []) (rest := [.int b9]) ⟨hx, hb, hml, hown, hw0⟩ (c_X7_clearText l g h u _ hu _) (zcVg hw0 zm5_126 zm5_129 zm1_8 zm5_127 zm5_128 hd_X7_clearText rfl rfl ⟨Nat.le_of_ble_eq_true rfl, Nat.le_of_ble_eq_true rfl⟩) ⟨zblind, zrecvQ hK hP (ci := 7) rfl rfl, zpreQ hK hP hD⟩ rfl rfl hl.1 rfl (lv_room (Nat.le_of_ble_eq_true rfl)) dL_law_1163 ⟨hc0, hs0⟩) hP hD hS hA rfl (fun H locs hP hD hS => ?_)
                                                  have hP : va_P g.1 vwCl ((zX6 g a v1 ++ [(o, .inl (g.2.2.2, 1, .inr (.inl F)))]) ++ zX7 g h u1) H := hP
                                                  have hD : va_D A ((zX6 g a v1 ++ [(o, .inl (g.2.2.2, 1, .inr (.inl F)))]) ++ zX7 g h u1) := hD
                                                  refine lv_icmp_eq (tgt := 1242) hx hb dL_law_1166 (by decide) (fun _ => ?_) (fun c9 => absurd rfl c9)
                                                  refine W.widen (k := 119 + (j + 1)) (n := 3247 + 6 * (j + 1)) (by omega) (by omega) ?_
                                                  exact tail v1 u1 F hR1 d0 hd0 H locs hP hD hS ls (lv_sub hl [0, 1, 2, 3, 4] rfl)
                                                · by_cases c22 : (p0 &&& 31) = 22
                                                  · refine lv_tableIn (tgt := 1171) (off := 1132) hx hb dL_law_39 (by rw [c22]; decide) (by rw [c22]; decide) (by first | (rw [c22]; done) | (rw [c22]; rfl)) (by decide) ?_
                                                    obtain ⟨b9, v1, u1, hv, hu, hR1⟩ := hA_parse v u hRel
                                                    refine lv_aload_n hx hb dL_law_1171 rfl (lv_at hl 1 rfl) ?_
                                                    rw [List.append_assoc] at hP hD
                                                    refine zkP_i (va_runV (As := []) (rest := []) ⟨hx, hb, hml, hown, hw0⟩ (c_X6_parse l g a v _ hv _) (zcVg hw0 zm2_175 zm2_178 zm1_1 zm2_176 zm2_177 hd_X6_parse rfl rfl ⟨Nat.le_of_ble_eq_true rfl, Nat.le_of_ble_eq_true rfl⟩) ⟨zblind, zrecvX hK hP (ci := 6) rfl rfl, zpreP hK hP hD⟩ rfl rfl hl.1 rfl (lv_room (Nat.le_of_ble_eq_true rfl)) dL_law_1172 ⟨hc0, hs0⟩) hP hD hS hA rfl (fun H locs hP hD hS => ?_)
                                                    rw [← List.append_assoc] at hP hD
                                                    have hP : va_P g.1 vwCl ((zX6 g a v1 ++ [(o, .inl (g.2.2.2, 1, .inr (.inl F)))]) ++ zX7 g h u) H := hP
                                                    have hD : va_D A ((zX6 g a v1 ++ [(o, .inl (g.2.2.2, 1, .inr (.inl F)))]) ++ zX7 g h u) := hD
                                                    refine lv_aload_n hx hb dL_law_1175 rfl (lv_at hl 2 rfl) ?_
                                                    refine zkQ_i (va_runV (As := []) (rest := [.int b9]) ⟨hx, hb, hml, hown, hw0⟩ (c_X7_parse l g h u _ hu _) (zcVg hw0 zm5_130 zm5_133 zm1_8 zm5_131 zm5_132 hd_X7_parse rfl rfl ⟨Nat.le_of_ble_eq_true rfl, Nat.le_of_ble_eq_true rfl⟩) ⟨zblind, zrecvQ hK hP (ci := 7) rfl rfl, zpreQ hK hP hD⟩ rfl rfl hl.1 rfl (lv_room (Nat.le_of_ble_eq_true rfl)) dL_law_1176 ⟨hc0, hs0⟩) hP hD hS hA rfl (fun H locs hP hD hS => ?_)
                                                    have hP : va_P g.1 vwCl ((zX6 g a v1 ++ [(o, .inl (g.2.2.2, 1, .inr (.inl F)))]) ++ zX7 g h u1) H := hP
                                                    have hD : va_D A ((zX6 g a v1 ++ [(o, .inl (g.2.2.2, 1, .inr (.inl F)))]) ++ zX7 g h u1) := hD
                                                    refine lv_icmp_eq (tgt := 1242) hx hb dL_law_1179 (by decide) (fun _ => ?_) (fun c9 => absurd rfl c9)
                                                    refine W.widen (k := 119 + (j + 1)) (n := 3247 + 6 * (j + 1)) (by omega) (by omega) ?_
                                                    exact tail v1 u1 F hR1 d0 hd0 H locs hP hD hS ls (lv_sub hl [0, 1, 2, 3, 4] rfl)
                                                  · by_cases c23 : (p0 &&& 31) = 23
                                                    · refine lv_tableIn (tgt := 1184) (off := 1145) hx hb dL_law_39 (by rw [c23]; decide) (by rw [c23]; decide) (by first | (rw [c23]; done) | (rw [c23]; rfl)) (by decide) ?_
                                                      obtain ⟨k9, v1, F1, b9, u1, hv, hu, hth, hF, hR1⟩ := hA_undo v u hRel F
                                                      refine lv_aload_n hx hb dL_law_1184 rfl (lv_at hl 1 rfl) ?_
                                                      refine lv_aload_n hx hb dL_law_1185 rfl (lv_at hl 3 rfl) ?_
                                                      refine zkP_i (zrun_w (vx_runSX (As := [.ref (a 0), .ref o]) (rest := []) ⟨hx, hb, hml, hown, hw0⟩ (c_L_undo l hst9 g a o v F _ hv _) (zcSX hw0 zm4_57 zmH4_59 zm1_0 zm4_58 hd_L_undo rfl rfl ⟨Nat.le_of_ble_eq_true rfl, Nat.le_of_ble_eq_true rfl⟩) ⟨zblindL, zpreW hK hKx hZs hNc hP hD hS hA⟩ rfl rfl hl.1 rfl (lv_room (Nat.le_of_ble_eq_true rfl)) dL_law_1186 ⟨hc1, hs1⟩)) hP hD hS hA rfl (fun H locs hP hD hS => ?_)
                                                      refine W.widen (k := 119 + (j + 1)) (n := 3247 + 6 * (j + 1)) (by omega) (by omega) ?_
                                                      have hP : va_P g.1 vwCl ((zX6 g a v1 ++ [(o, .inl (g.2.2.2, 1, .inr (.inl F1)))]) ++ zX7 g h u) H := hP
                                                      have hD : va_D A ((zX6 g a v1 ++ [(o, .inl (g.2.2.2, 1, .inr (.inl F1)))]) ++ zX7 g h u) := hD
                                                      refine lv_istore (lv' := [(5, .int k9), (0, .ref b), (1, .ref (a 0)), (2, .ref (h 0)), (3, .ref o), (4, .int (nI (4 * j)))]) hx hb dL_law_1189 hl (by decide) rfl (fun ls hl => ?_)
                                                      refine lv_aload_n hx hb dL_law_1191 rfl (lv_at hl 3 rfl) ?_
                                                      refine zkQ_i (va_runV (As := []) (rest := []) ⟨hx, hb, hml, hown, hw0⟩ (c_X7_undo l g h u _ hu _) (zcVg hw0 zm5_158 zm5_161 zm1_8 zm5_159 zm5_160 hd_X7_undo rfl rfl ⟨Nat.le_of_ble_eq_true rfl, Nat.le_of_ble_eq_true rfl⟩) ⟨zblind, zrecvQ hK hP (ci := 7) rfl rfl, zpreQ hK hP hD⟩ rfl rfl hl.1 rfl (lv_room (Nat.le_of_ble_eq_true rfl)) dL_law_1192 ⟨hc2, hs2⟩) hP hD hS hA rfl (fun H locs hP hD hS => ?_)
                                                      have hP : va_P g.1 vwCl ((zX6 g a v1 ++ [(o, .inl (g.2.2.2, 1, .inr (.inl F1)))]) ++ zX7 g h u1) H := hP
                                                      have hD : va_D A ((zX6 g a v1 ++ [(o, .inl (g.2.2.2, 1, .inr (.inl F1)))]) ++ zX7 g h u1) := hD
                                                      refine lv_istore (lv' := [(6, .int b9), (5, .int k9), (0, .ref b), (1, .ref (a 0)), (2, .ref (h 0)), (3, .ref o), (4, .int (nI (4 * j)))]) hx hb dL_law_1195 hl (by decide) rfl (fun ls hl => ?_)
                                                      refine lv_aload_n hx hb dL_law_1197 rfl (lv_at hl 4 rfl) ?_
                                                      refine zkQ_i (va_runV (As := []) (rest := []) ⟨hx, hb, hml, hown, hw0⟩ (c_X7_thrown l g h u1 _ (rfl : f_X7_thrown u1 = some (zThr u1)) _) (zcVg hw0 zm4_105 zm4_108 zm1_8 zm4_106 zm4_107 hd_X7_thrown rfl rfl ⟨Nat.le_of_ble_eq_true rfl, Nat.le_of_ble_eq_true rfl⟩) ⟨zblind, zrecvQ hK hP (ci := 7) rfl rfl, zpreQ hK hP hD⟩ rfl rfl hl.1 rfl (lv_room (Nat.le_of_ble_eq_true rfl)) dL_law_1198 ⟨hc2, hs2⟩) hP hD hS hA rfl (fun H locs hP hD hS => ?_)
                                                      have hP : va_P g.1 vwCl ((zX6 g a v1 ++ [(o, .inl (g.2.2.2, 1, .inr (.inl F1)))]) ++ zX7 g h u1) H := hP
                                                      have hD : va_D A ((zX6 g a v1 ++ [(o, .inl (g.2.2.2, 1, .inr (.inl F1)))]) ++ zX7 g h u1) := hD
                                                      refine lv_iload hx hb dL_law_1201 (lv_at hl 1 rfl) ?_
                                                      refine lv_icmp_eq (tgt := 1208) hx hb dL_law_1203 (by decide) (fun _ => ?_) (fun c9 => absurd hth c9)
                                                      refine lv_iload hx hb dL_law_1208 (lv_at hl 1 rfl) ?_
                                                      refine lv_if_ne (tgt := 1225) hx hb dL_law_1210 (by decide) (fun _ => ?_) (fun c8 => ?_)
                                                      · refine lv_goto (tgt := 1242) hx hb dL_law_1225 (by decide) ?_
                                                        exact tail v1 u1 F1 hR1 d0 hd0 H locs hP hD hS ls (lv_sub hl [2, 3, 4, 5, 6] rfl)
                                                      · refine lv_aload_n hx hb dL_law_1213 rfl (lv_at hl 5 rfl) ?_
                                                        refine lv_iconst (v := 0) hx hb dL_law_1214 (by decide) ?_
                                                        refine zald_J (D := g.1) (f := F1) (k := 0) hx hb hK.1 hP 112 2 rfl rfl (zin_vp (i := 0) (n := 1) rfl) rfl dL_law_1215 ?_
                                                        refine lv_iload hx hb dL_law_1216 (lv_at hl 0 rfl) ?_
                                                        refine lv_i2l (v := Int32.toInt64 b9) hx hb dL_law_1218 rfl ?_
                                                        refine W.lcmp hx hb dL_law_1219 ?_
                                                        refine lv_if_eq (tgt := 1225) hx hb dL_law_1220 (by decide) (fun _ => ?_) (fun c9 => absurd (by rw [hF c8]; exact zlc _) c9)
                                                        refine lv_goto (tgt := 1242) hx hb dL_law_1225 (by decide) ?_
                                                        exact tail v1 u1 F1 hR1 d0 hd0 H locs hP hD hS ls (lv_sub hl [2, 3, 4, 5, 6] rfl)
                                                    · by_cases c24 : (p0 &&& 31) = 24
                                                      · refine lv_tableIn (tgt := 1228) (off := 1189) hx hb dL_law_39 (by rw [c24]; decide) (by rw [c24]; decide) (by first | (rw [c24]; done) | (rw [c24]; rfl)) (by decide) ?_
                                                        obtain ⟨b9, v1, u1, hv, hu, hR1⟩ := hA_digest v u hRel
                                                        refine lv_aload_n hx hb dL_law_1228 rfl (lv_at hl 1 rfl) ?_
                                                        rw [List.append_assoc] at hP hD
                                                        refine zkP_l (va_runV (As := []) (rest := []) ⟨hx, hb, hml, hown, hw0⟩ (c_X6_digest l g a v _ hv _) (zcVg hw0 zm3_3 zm3_6 zm1_1 zm3_4 zm3_5 hd_X6_digest rfl rfl ⟨Nat.le_of_ble_eq_true rfl, Nat.le_of_ble_eq_true rfl⟩) ⟨zblind, zrecvX hK hP (ci := 6) rfl rfl, zpreP hK hP hD⟩ rfl rfl hl.1 rfl (lv_room (Nat.le_of_ble_eq_true rfl)) dL_law_1229 ⟨hc0, hs0⟩) hP hD hS hA rfl (fun H locs hP hD hS => ?_)
                                                        rw [← List.append_assoc] at hP hD
                                                        have hP : va_P g.1 vwCl ((zX6 g a v1 ++ [(o, .inl (g.2.2.2, 1, .inr (.inl F)))]) ++ zX7 g h u) H := hP
                                                        have hD : va_D A ((zX6 g a v1 ++ [(o, .inl (g.2.2.2, 1, .inr (.inl F)))]) ++ zX7 g h u) := hD
                                                        refine lv_aload_n hx hb dL_law_1232 rfl (lv_at hl 2 rfl) ?_
                                                        refine zkQ_l (va_runV (As := []) (rest := [.long b9]) ⟨hx, hb, hml, hown, hw0⟩ (c_X7_digest l g h u _ hu _) (zcVg hw0 zm5_162 zm5_165 zm1_8 zm5_163 zm5_164 hd_X7_digest rfl rfl ⟨Nat.le_of_ble_eq_true rfl, Nat.le_of_ble_eq_true rfl⟩) ⟨zblind, zrecvQ hK hP (ci := 7) rfl rfl, zpreQ hK hP hD⟩ rfl rfl hl.1 rfl (lv_room (Nat.le_of_ble_eq_true rfl)) dL_law_1233 ⟨hc0, hs0⟩) hP hD hS hA rfl (fun H locs hP hD hS => ?_)
                                                        have hP : va_P g.1 vwCl ((zX6 g a v1 ++ [(o, .inl (g.2.2.2, 1, .inr (.inl F)))]) ++ zX7 g h u1) H := hP
                                                        have hD : va_D A ((zX6 g a v1 ++ [(o, .inl (g.2.2.2, 1, .inr (.inl F)))]) ++ zX7 g h u1) := hD
                                                        refine W.lcmp hx hb dL_law_1236 ?_
                                                        refine lv_if_eq (tgt := 1242) hx hb dL_law_1237 (by decide) (fun _ => ?_) (fun c9 => absurd (zlc _) c9)
                                                        refine W.widen (k := 119 + (j + 1)) (n := 3247 + 6 * (j + 1)) (by omega) (by omega) ?_
                                                        exact tail v1 u1 F hR1 d0 hd0 H locs hP hD hS ls (lv_sub hl [0, 1, 2, 3, 4] rfl)
                                                      · refine lv_tableOut (tgt := 1242) hx hb dL_law_39 (zsw 24 (by decide) (fun k hk => by rcases (show k = 0 ∨ k = 1 ∨ k = 2 ∨ k = 3 ∨ k = 4 ∨ k = 5 ∨ k = 6 ∨ k = 7 ∨ k = 8 ∨ k = 9 ∨ k = 10 ∨ k = 11 ∨ k = 12 ∨ k = 13 ∨ k = 14 ∨ k = 15 ∨ k = 16 ∨ k = 17 ∨ k = 18 ∨ k = 19 ∨ k = 20 ∨ k = 21 ∨ k = 22 ∨ k = 23 ∨ k = 24 by omega) with rfl | rfl | rfl | rfl | rfl | rfl | rfl | rfl | rfl | rfl | rfl | rfl | rfl | rfl | rfl | rfl | rfl | rfl | rfl | rfl | rfl | rfl | rfl | rfl | rfl <;> assumption)) (by decide) ?_
                                                        refine W.widen (k := 119 + (j + 1)) (n := 3247 + 6 * (j + 1)) (by omega) (by omega) ?_
                                                        exact tail v u F hRel d0 hd0 H locs hP hD hS ls hl
