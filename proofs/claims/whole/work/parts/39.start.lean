theorem va_P_mem {D : va_G} {cl : List vw_C} {ws ws' : va_W} {H : Heap} (h : va_P D cl ws H) (hm : ∀ q, q ∈ ws' → q ∈ ws) : va_P D cl ws' H := fun k q hk => by
  obtain ⟨i, hi⟩ := List.getElem?_of_mem (hm q (List.mem_of_getElem? hk))
  exact h i q hi
theorem va_D_nodup {A : Nat → Prop} {ws : va_W} : va_D A ws ↔ (ws.map Prod.fst).Nodup ∧ ∀ q, q ∈ ws → A q.1 := by
  constructor
  · intro h
    refine ⟨?_, fun q hq => ?_⟩
    · rw [List.Nodup, List.pairwise_iff_getElem]
      intro i j hi hj hij he
      rw [List.length_map] at hi hj
      rw [List.getElem_map, List.getElem_map] at he
      have := h.1 i j ws[i] ws[j] (List.getElem?_eq_getElem hi) (List.getElem?_eq_getElem hj) he
      omega
    · obtain ⟨i, hi⟩ := List.getElem?_of_mem hq
      exact h.2 i q hi
  · intro h
    refine ⟨fun i j p q hp hq hpq => ?_, fun k q hk => h.2 q (List.mem_of_getElem? hk)⟩
    obtain ⟨hi, ei⟩ := List.getElem?_eq_some_iff.mp hp
    obtain ⟨hj, ej⟩ := List.getElem?_eq_some_iff.mp hq
    have hpw := h.1
    rw [List.Nodup, List.pairwise_iff_getElem] at hpw
    rcases Nat.lt_trichotomy i j with hlt | he | hgt
    · exact absurd (by rw [List.getElem_map, List.getElem_map, ei, ej]; exact hpq) (hpw i j (by simpa using hi) (by simpa using hj) hlt)
    · exact he
    · exact absurd (by rw [List.getElem_map, List.getElem_map, ei, ej]; exact hpq.symm) (hpw j i (by simpa using hj) (by simpa using hi) hgt)
theorem va_D_perm {A : Nat → Prop} {ws ws' : va_W} (h : va_D A ws) (hp : ws.Perm ws') : va_D A ws' := by
  rw [va_D_nodup] at h ⊢
  exact ⟨(hp.map Prod.fst).nodup_iff.mp h.1, fun q hq => h.2 q (hp.mem_iff.mpr hq)⟩
theorem zswap_perm {x y z : va_W} : ((x ++ y) ++ z).Perm ((x ++ z) ++ y) := by
  rw [List.append_assoc, List.append_assoc]
  exact List.Perm.append_left x List.perm_append_comm
theorem zcBI {R : Room} {s : State} {args : Array Value} {own : String} {index maxL n mc ms : Nat} {y : MethodName} {bytes : ByteArray} {rm : Room} (hw : ∀ w ∈ zW, w.before args s = true) (hl : Cond.methodLink own index y ∈ zW) (hc : Cond.code y bytes maxL none ∈ zW) (hi : Cond.initialized y.cls ∈ zW) (hin : Cond.instanceMethod y ∈ zW) (hn : y.name = "<init>") (hd : y.cls ≠ "java/lang/invoke/MethodHandle" ∧ y.cls ≠ "java/lang/invoke/VarHandle" ∧ (parseMethodDescriptor y.desc).map (fun d => d.parameters.length) = some n) (hrc : rm.cells = mc) (hrs : rm.slots = ms) (hR : rm.frames + 1 ≤ R.frames ∧ 8 + (maxL + 11) + rm.locals ≤ R.locals) : CallB R s args own index y bytes maxL none (zw y bytes maxL none) rm mc ms n ∧ y.name = "<init>" ∧ (Cond.instanceMethod y).before args s = true := by
  refine ⟨⟨hrc, hrs, hR.1, hR.2, zw_pay hw hc, List.mem_cons_self, hw _ hc, hw _ hi, ⟨hd.1, hd.2.1⟩, fun sig h => ?_, hw _ hl⟩, hn, hw _ hin⟩
  have h2 := hd.2.2
  rw [h] at h2
  exact (Option.some.inj h2).symm
theorem zstr {args : Array Value} {s : State} {own tx : String} {k cur : Nat} (hc : s.vm.findClass own = some cur) (h : (Cond.stringRef own k tx).before args s = true) : ∃ sa : Nat, vk_R own k tx sa s := by
  obtain ⟨_, _, _, a, _, _, _, _, _, h2⟩ := Cond.stringRef_spec hc h
  exact ⟨a, vk_R.of h h2⟩
set_option maxHeartbeats 20000000 in
set_option maxRecDepth 100000 in
theorem whole_open (Rel : CV → MV → Prop) (hAll : zAll Rel) (hR0 : Rel zV_X6 zV_X7) {p : Program} {e : Env} {s : State} {m : MethodId} {below : List Frame} {meth : Method} {c : Code} (l : Launch) (hflags : l.flags = flags0) {b L : Nat} {xs : Nat → Int32} (hL : L ≤ 2048) (C0 : lw_At p s m meth c b L xs) : W p l e room_1 s m #[Value.ref b] below meth c s.heap [] 0 0 (lw_Z below #[Value.ref b] s) (entryFrame m ([Value.ref b] : List Value).toArray 9) := by
  obtain ⟨hx, hb, hr, hml, hown, hts, hX, hbl, hlocks, hgv⟩ := id C0
  have hw0s : ∀ w ∈ zW, w.before #[Value.ref b] s = true := fun w h9 => hts w (zW_tbl w h9)
  have hgf := flat_of_before _ hgv
  have hst9 : l.stackTraces = false := by unfold Launch.stackTraces; rw [hflags]; decide +kernel
  obtain ⟨c0, iS0, hKn0⟩ := u_known (C := RX0) (T := TX0) (N := 6) (n := 6) hw0s ziX0 (hw0s _ zm1_33)
  obtain ⟨c1, iS1, hKn1⟩ := u_known (C := RX1) (T := TX1) (N := 5) (n := 5) hw0s ziX1 (hw0s _ zm1_66)
  obtain ⟨c2, iS2, hKn2⟩ := u_known (C := RX2) (T := TX2) (N := 11) (n := 11) hw0s ziX2 (hw0s _ zm1_27)
  obtain ⟨c3, iS3, hKn3⟩ := u_known (C := RX3) (T := TX3) (N := 4) (n := 4) hw0s ziX3 (hw0s _ zm1_125)
  obtain ⟨c4, iS4, hKn4⟩ := u_known (C := RX4) (T := TX4) (N := 6) (n := 6) hw0s ziX4 (hw0s _ zm1_72)
  obtain ⟨c5, iS5, hKn5⟩ := u_known (C := RX5) (T := TX5) (N := 4) (n := 4) hw0s ziX5 (hw0s _ zm1_190)
  obtain ⟨c6, iS6, hKn6⟩ := u_known (C := RX6) (T := TX6) (N := 5) (n := 5) hw0s ziX6 (hw0s _ zm1_19)
  obtain ⟨c7, iS7, hKn7⟩ := u_known (C := RX7) (T := TX7) (N := 11) (n := 11) hw0s ziX7 (hw0s _ zm4_66)
  obtain ⟨dC, dI, hKc⟩ : ∃ (dC : Nat → ClassId) (dI : Nat → Nat → Nat), ∀ (k : Nat) (q : vw_C), vwCl[k]? = some q → u_Kn s q.1 q.2.1 q.2.2 (dC k) (dI k) := by
    refine ⟨fun k => if k = 0 then c0 else if k = 1 then c1 else if k = 2 then c2 else if k = 3 then c3 else if k = 4 then c4 else if k = 5 then c5 else if k = 6 then c6 else c7, fun k => if k = 0 then iS0 else if k = 1 then iS1 else if k = 2 then iS2 else if k = 3 then iS3 else if k = 4 then iS4 else if k = 5 then iS5 else if k = 6 then iS6 else iS7, ?_⟩
    intro k q hq
    match k, hq with
    | 0, hq => cases hq; exact hKn0
    | 1, hq => cases hq; exact hKn1
    | 2, hq => cases hq; exact hKn2
    | 3, hq => cases hq; exact hKn3
    | 4, hq => cases hq; exact hKn4
    | 5, hq => cases hq; exact hKn5
    | 6, hq => cases hq; exact hKn6
    | 7, hq => cases hq; exact hKn7
    | k + 8, hq => simp [vwCl] at hq
  obtain ⟨cI, kI, comI, i1, i2, i3⟩ := Cond.arrayClass_spec (hw0s _ zm1_64)
  obtain ⟨cJ, kJ, comJ, j1, j2, j3⟩ := Cond.arrayClass_spec (hw0s _ zm5_172)
  have hO := va_AO.of (hts _ (zt_1 (List.mem_of_getElem? (i := 188) rfl)))
  obtain ⟨comH, cH, kH, g1, g2, g3, g4, g5⟩ := Cond.arrayOver_spec hO
  obtain ⟨g, hg⟩ : ∃ g : zG, g = ((dC, dI), cI, cH, cJ) := ⟨_, rfl⟩
  have hKs : zK zNF zNM g s := by
    subst hg
    refine ⟨⟨hKc, fun k q hq => ?_⟩, ?_, ?_⟩
    · match k, hq with
      | 0, hq => cases hq; exact ⟨fun n z => ⟨fun k h => (by cases h), kI, i2, comI, i3⟩, i1⟩
      | 1, hq => cases hq; exact ⟨fun n z => ⟨fun k h => (by cases h), kH, g3, comH, g4⟩, kH, comH, g3, g4, g1, g5⟩
      | 2, hq => cases hq; exact ⟨fun n z => ⟨fun k h => (by cases h), kJ, j2, comJ, j3⟩, j1⟩
      | k + 3, hq => simp at hq
    · exact List.forall_mem_cons.mpr ⟨va_Nw.of rfl (hts _ (zt_1 (List.mem_of_getElem? (i := 39) rfl))), List.forall_mem_cons.mpr ⟨va_Nw.of rfl (hts _ (zt_1 (List.mem_of_getElem? (i := 40) rfl))), List.forall_mem_cons.mpr ⟨va_Nw.of rfl (hts _ (zt_1 (List.mem_of_getElem? (i := 41) rfl))), List.forall_mem_cons.mpr ⟨va_Nw.of rfl (hts _ (zt_1 (List.mem_of_getElem? (i := 43) rfl))), List.forall_mem_cons.mpr ⟨va_Nw.of rfl (hts _ (zt_1 (List.mem_of_getElem? (i := 44) rfl))), List.forall_mem_cons.mpr ⟨va_Nw.of rfl (hts _ (zt_1 (List.mem_of_getElem? (i := 48) rfl))), List.forall_mem_cons.mpr ⟨va_Nw.of rfl (hts _ (zt_1 (List.mem_of_getElem? (i := 50) rfl))), List.forall_mem_cons.mpr ⟨va_Nw.of rfl (hts _ (zt_1 (List.mem_of_getElem? (i := 81) rfl))), List.forall_mem_cons.mpr ⟨va_Nw.of rfl (hts _ (zt_1 (List.mem_of_getElem? (i := 83) rfl))), List.forall_mem_cons.mpr ⟨va_Nw.of rfl (hts _ (zt_1 (List.mem_of_getElem? (i := 85) rfl))), List.forall_mem_cons.mpr ⟨va_Nw.of rfl (hts _ (zt_1 (List.mem_of_getElem? (i := 100) rfl))), List.forall_mem_cons.mpr ⟨va_Nw.of rfl (hts _ (zt_1 (List.mem_of_getElem? (i := 101) rfl))), List.forall_mem_cons.mpr ⟨va_Nw.of rfl (hts _ (zt_1 (List.mem_of_getElem? (i := 102) rfl))), List.forall_mem_cons.mpr ⟨va_Nw.of rfl (hts _ (zt_1 (List.mem_of_getElem? (i := 103) rfl))), List.forall_mem_cons.mpr ⟨va_Nw.of rfl (hts _ (zt_1 (List.mem_of_getElem? (i := 105) rfl))), List.forall_mem_cons.mpr ⟨va_Nw.of rfl (hts _ (zt_1 (List.mem_of_getElem? (i := 106) rfl))), List.forall_mem_cons.mpr ⟨va_Nw.of rfl (hts _ (zt_1 (List.mem_of_getElem? (i := 108) rfl))), List.forall_mem_cons.mpr ⟨va_Nw.of rfl (hts _ (zt_1 (List.mem_of_getElem? (i := 109) rfl))), List.forall_mem_cons.mpr ⟨va_Nw.of rfl (hts _ (zt_1 (List.mem_of_getElem? (i := 111) rfl))), List.forall_mem_cons.mpr ⟨va_Nw.of rfl (hts _ (zt_1 (List.mem_of_getElem? (i := 131) rfl))), List.forall_mem_cons.mpr ⟨va_Nw.of rfl (hts _ (zt_1 (List.mem_of_getElem? (i := 132) rfl))), List.forall_mem_cons.mpr ⟨va_Nw.of rfl (hts _ (zt_1 (List.mem_of_getElem? (i := 146) rfl))), List.forall_mem_cons.mpr ⟨va_Nw.of rfl (hts _ (zt_1 (List.mem_of_getElem? (i := 147) rfl))), List.forall_mem_cons.mpr ⟨va_Nw.of rfl (hts _ (zt_1 (List.mem_of_getElem? (i := 149) rfl))), List.forall_mem_cons.mpr ⟨va_Nw.of rfl (hts _ (zt_1 (List.mem_of_getElem? (i := 150) rfl))), List.forall_mem_cons.mpr ⟨va_Nw.of rfl (hts _ (zt_1 (List.mem_of_getElem? (i := 152) rfl))), List.forall_mem_cons.mpr ⟨va_Nw.of rfl (hts _ (zt_1 (List.mem_of_getElem? (i := 154) rfl))), List.forall_mem_cons.mpr ⟨va_Nw.of rfl (hts _ (zt_1 (List.mem_of_getElem? (i := 156) rfl))), List.forall_mem_cons.mpr ⟨va_Nw.of rfl (hts _ (zt_1 (List.mem_of_getElem? (i := 158) rfl))), List.forall_mem_cons.mpr ⟨va_Nw.of rfl (hts _ (zt_1 (List.mem_of_getElem? (i := 161) rfl))), List.forall_mem_cons.mpr ⟨va_Nw.of rfl (hts _ (zt_1 (List.mem_of_getElem? (i := 197) rfl))), fun _ h9 => absurd h9 List.not_mem_nil⟩⟩⟩⟩⟩⟩⟩⟩⟩⟩⟩⟩⟩⟩⟩⟩⟩⟩⟩⟩⟩⟩⟩⟩⟩⟩⟩⟩⟩⟩⟩
    · exact List.forall_mem_cons.mpr ⟨va_Nw.of rfl (hts _ (zt_1 (List.mem_of_getElem? (i := 28) rfl))), List.forall_mem_cons.mpr ⟨va_Nw.of rfl (hts _ (zt_1 (List.mem_of_getElem? (i := 34) rfl))), List.forall_mem_cons.mpr ⟨va_Nw.of rfl (hts _ (zt_1 (List.mem_of_getElem? (i := 67) rfl))), List.forall_mem_cons.mpr ⟨va_Nw.of rfl (hts _ (zt_1 (List.mem_of_getElem? (i := 73) rfl))), List.forall_mem_cons.mpr ⟨va_Nw.of rfl (hts _ (zt_1 (List.mem_of_getElem? (i := 126) rfl))), List.forall_mem_cons.mpr ⟨va_Nw.of rfl (hts _ (zt_1 (List.mem_of_getElem? (i := 191) rfl))), List.forall_mem_cons.mpr ⟨va_Nw.of rfl (hts _ (zt_1 (List.mem_of_getElem? (i := 237) rfl))), List.forall_mem_cons.mpr ⟨va_Nw.of rfl (hts _ (zt_2 (List.mem_of_getElem? (i := 1) rfl))), List.forall_mem_cons.mpr ⟨va_Nw.of rfl (hts _ (zt_2 (List.mem_of_getElem? (i := 8) rfl))), List.forall_mem_cons.mpr ⟨va_Nw.of rfl (hts _ (zt_2 (List.mem_of_getElem? (i := 13) rfl))), List.forall_mem_cons.mpr ⟨va_Nw.of rfl (hts _ (zt_2 (List.mem_of_getElem? (i := 19) rfl))), List.forall_mem_cons.mpr ⟨va_Nw.of rfl (hts _ (zt_2 (List.mem_of_getElem? (i := 31) rfl))), List.forall_mem_cons.mpr ⟨va_Nw.of rfl (hts _ (zt_2 (List.mem_of_getElem? (i := 39) rfl))), List.forall_mem_cons.mpr ⟨va_Nw.of rfl (hts _ (zt_2 (List.mem_of_getElem? (i := 47) rfl))), List.forall_mem_cons.mpr ⟨va_Nw.of rfl (hts _ (zt_2 (List.mem_of_getElem? (i := 63) rfl))), List.forall_mem_cons.mpr ⟨va_Nw.of rfl (hts _ (zt_2 (List.mem_of_getElem? (i := 64) rfl))), List.forall_mem_cons.mpr ⟨va_Nw.of rfl (hts _ (zt_2 (List.mem_of_getElem? (i := 68) rfl))), List.forall_mem_cons.mpr ⟨va_Nw.of rfl (hts _ (zt_2 (List.mem_of_getElem? (i := 72) rfl))), List.forall_mem_cons.mpr ⟨va_Nw.of rfl (hts _ (zt_2 (List.mem_of_getElem? (i := 80) rfl))), List.forall_mem_cons.mpr ⟨va_Nw.of rfl (hts _ (zt_2 (List.mem_of_getElem? (i := 84) rfl))), List.forall_mem_cons.mpr ⟨va_Nw.of rfl (hts _ (zt_2 (List.mem_of_getElem? (i := 88) rfl))), List.forall_mem_cons.mpr ⟨va_Nw.of rfl (hts _ (zt_2 (List.mem_of_getElem? (i := 97) rfl))), List.forall_mem_cons.mpr ⟨va_Nw.of rfl (hts _ (zt_2 (List.mem_of_getElem? (i := 109) rfl))), List.forall_mem_cons.mpr ⟨va_Nw.of rfl (hts _ (zt_2 (List.mem_of_getElem? (i := 140) rfl))), List.forall_mem_cons.mpr ⟨va_Nw.of rfl (hts _ (zt_2 (List.mem_of_getElem? (i := 141) rfl))), List.forall_mem_cons.mpr ⟨va_Nw.of rfl (hts _ (zt_2 (List.mem_of_getElem? (i := 146) rfl))), List.forall_mem_cons.mpr ⟨va_Nw.of rfl (hts _ (zt_2 (List.mem_of_getElem? (i := 154) rfl))), List.forall_mem_cons.mpr ⟨va_Nw.of rfl (hts _ (zt_2 (List.mem_of_getElem? (i := 163) rfl))), List.forall_mem_cons.mpr ⟨va_Nw.of rfl (hts _ (zt_2 (List.mem_of_getElem? (i := 179) rfl))), List.forall_mem_cons.mpr ⟨va_Nw.of rfl (hts _ (zt_2 (List.mem_of_getElem? (i := 183) rfl))), List.forall_mem_cons.mpr ⟨va_Nw.of rfl (hts _ (zt_2 (List.mem_of_getElem? (i := 191) rfl))), List.forall_mem_cons.mpr ⟨va_Nw.of rfl (hts _ (zt_2 (List.mem_of_getElem? (i := 195) rfl))), List.forall_mem_cons.mpr ⟨va_Nw.of rfl (hts _ (zt_2 (List.mem_of_getElem? (i := 231) rfl))), List.forall_mem_cons.mpr ⟨va_Nw.of rfl (hts _ (zt_2 (List.mem_of_getElem? (i := 239) rfl))), List.forall_mem_cons.mpr ⟨va_Nw.of rfl (hts _ (zt_3 (List.mem_of_getElem? (i := 9) rfl))), List.forall_mem_cons.mpr ⟨va_Nw.of rfl (hts _ (zt_3 (List.mem_of_getElem? (i := 13) rfl))), List.forall_mem_cons.mpr ⟨va_Nw.of rfl (hts _ (zt_3 (List.mem_of_getElem? (i := 14) rfl))), List.forall_mem_cons.mpr ⟨va_Nw.of rfl (hts _ (zt_3 (List.mem_of_getElem? (i := 18) rfl))), List.forall_mem_cons.mpr ⟨va_Nw.of rfl (hts _ (zt_3 (List.mem_of_getElem? (i := 28) rfl))), List.forall_mem_cons.mpr ⟨va_Nw.of rfl (hts _ (zt_3 (List.mem_of_getElem? (i := 32) rfl))), List.forall_mem_cons.mpr ⟨va_Nw.of rfl (hts _ (zt_3 (List.mem_of_getElem? (i := 36) rfl))), List.forall_mem_cons.mpr ⟨va_Nw.of rfl (hts _ (zt_3 (List.mem_of_getElem? (i := 41) rfl))), List.forall_mem_cons.mpr ⟨va_Nw.of rfl (hts _ (zt_3 (List.mem_of_getElem? (i := 144) rfl))), List.forall_mem_cons.mpr ⟨va_Nw.of rfl (hts _ (zt_3 (List.mem_of_getElem? (i := 153) rfl))), List.forall_mem_cons.mpr ⟨va_Nw.of rfl (hts _ (zt_3 (List.mem_of_getElem? (i := 179) rfl))), List.forall_mem_cons.mpr ⟨va_Nw.of rfl (hts _ (zt_3 (List.mem_of_getElem? (i := 183) rfl))), List.forall_mem_cons.mpr ⟨va_Nw.of rfl (hts _ (zt_3 (List.mem_of_getElem? (i := 184) rfl))), List.forall_mem_cons.mpr ⟨va_Nw.of rfl (hts _ (zt_3 (List.mem_of_getElem? (i := 185) rfl))), List.forall_mem_cons.mpr ⟨va_Nw.of rfl (hts _ (zt_3 (List.mem_of_getElem? (i := 187) rfl))), List.forall_mem_cons.mpr ⟨va_Nw.of rfl (hts _ (zt_3 (List.mem_of_getElem? (i := 215) rfl))), List.forall_mem_cons.mpr ⟨va_Nw.of rfl (hts _ (zt_3 (List.mem_of_getElem? (i := 231) rfl))), List.forall_mem_cons.mpr ⟨va_Nw.of rfl (hts _ (zt_4 (List.mem_of_getElem? (i := 7) rfl))), List.forall_mem_cons.mpr ⟨va_Nw.of rfl (hts _ (zt_4 (List.mem_of_getElem? (i := 31) rfl))), List.forall_mem_cons.mpr ⟨va_Nw.of rfl (hts _ (zt_4 (List.mem_of_getElem? (i := 40) rfl))), List.forall_mem_cons.mpr ⟨va_Nw.of rfl (hts _ (zt_4 (List.mem_of_getElem? (i := 53) rfl))), fun _ h9 => absurd h9 List.not_mem_nil⟩⟩⟩⟩⟩⟩⟩⟩⟩⟩⟩⟩⟩⟩⟩⟩⟩⟩⟩⟩⟩⟩⟩⟩⟩⟩⟩⟩⟩⟩⟩⟩⟩⟩⟩⟩⟩⟩⟩⟩⟩⟩⟩⟩⟩⟩⟩⟩⟩⟩⟩⟩⟩⟩⟩
  obtain ⟨cHC, hHC⟩ : ∃ cur, s.vm.findClass "HourClock" = some cur := ⟨c6, hKn6.2.1⟩
  have hKxs : zKx s := by
    refine ⟨fun w hw => ?_, ?_⟩
    · rcases List.mem_append.mp hw with hw | hw
      · obtain ⟨q, hq, rfl⟩ := List.mem_map.mp hw
        exact (List.forall_mem_cons.mpr ⟨va_Nw.of rfl (hts _ (zt_3 (List.mem_of_getElem? (i := 60) rfl))), List.forall_mem_cons.mpr ⟨va_Nw.of rfl (hts _ (zt_3 (List.mem_of_getElem? (i := 130) rfl))), List.forall_mem_cons.mpr ⟨va_Nw.of rfl (hts _ (zt_3 (List.mem_of_getElem? (i := 164) rfl))), fun _ h9 => absurd h9 List.not_mem_nil⟩⟩⟩ : ∀ q ∈ zCa, va_Nw (Cond.castable q.1 q.2) s) q hq
      · obtain ⟨q, hq, rfl⟩ := List.mem_map.mp hw
        exact (List.forall_mem_cons.mpr ⟨va_Nw.of rfl (hts _ (zt_3 (List.mem_of_getElem? (i := 61) rfl))), List.forall_mem_cons.mpr ⟨va_Nw.of rfl (hts _ (zt_3 (List.mem_of_getElem? (i := 62) rfl))), List.forall_mem_cons.mpr ⟨va_Nw.of rfl (hts _ (zt_3 (List.mem_of_getElem? (i := 63) rfl))), List.forall_mem_cons.mpr ⟨va_Nw.of rfl (hts _ (zt_3 (List.mem_of_getElem? (i := 64) rfl))), List.forall_mem_cons.mpr ⟨va_Nw.of rfl (hts _ (zt_3 (List.mem_of_getElem? (i := 65) rfl))), List.forall_mem_cons.mpr ⟨va_Nw.of rfl (hts _ (zt_3 (List.mem_of_getElem? (i := 66) rfl))), fun _ h9 => absurd h9 List.not_mem_nil⟩⟩⟩⟩⟩⟩ : ∀ y ∈ zDe, va_Nw (Cond.declares y) s) q hq
    · exact List.forall_mem_cons.mpr ⟨zstr hHC (hts _ (zt_3 (List.mem_of_getElem? (i := 99) rfl))), List.forall_mem_cons.mpr ⟨zstr hHC (hts _ (zt_3 (List.mem_of_getElem? (i := 126) rfl))), List.forall_mem_cons.mpr ⟨zstr hHC (hts _ (zt_3 (List.mem_of_getElem? (i := 127) rfl))), List.forall_mem_cons.mpr ⟨zstr hHC (hts _ (zt_3 (List.mem_of_getElem? (i := 137) rfl))), List.forall_mem_cons.mpr ⟨zstr hHC (hts _ (zt_3 (List.mem_of_getElem? (i := 152) rfl))), List.forall_mem_cons.mpr ⟨zstr hHC (hts _ (zt_3 (List.mem_of_getElem? (i := 171) rfl))), List.forall_mem_cons.mpr ⟨zstr hHC (hts _ (zt_3 (List.mem_of_getElem? (i := 178) rfl))), List.forall_mem_cons.mpr ⟨zstr hHC (hts _ (zt_3 (List.mem_of_getElem? (i := 186) rfl))), List.forall_mem_cons.mpr ⟨zstr hHC (hts _ (zt_3 (List.mem_of_getElem? (i := 198) rfl))), List.forall_mem_cons.mpr ⟨zstr hHC (hts _ (zt_3 (List.mem_of_getElem? (i := 206) rfl))), List.forall_mem_cons.mpr ⟨zstr hHC (hts _ (zt_3 (List.mem_of_getElem? (i := 214) rfl))), List.forall_mem_cons.mpr ⟨zstr hHC (hts _ (zt_3 (List.mem_of_getElem? (i := 223) rfl))), List.forall_mem_cons.mpr ⟨zstr hHC (hts _ (zt_3 (List.mem_of_getElem? (i := 232) rfl))), List.forall_mem_cons.mpr ⟨zstr hHC (hts _ (zt_4 (List.mem_of_getElem? (i := 8) rfl))), List.forall_mem_cons.mpr ⟨zstr hHC (hts _ (zt_4 (List.mem_of_getElem? (i := 30) rfl))), List.forall_mem_cons.mpr ⟨zstr hHC (hts _ (zt_4 (List.mem_of_getElem? (i := 39) rfl))), List.forall_mem_cons.mpr ⟨zstr hHC (hts _ (zt_4 (List.mem_of_getElem? (i := 51) rfl))), List.forall_mem_cons.mpr ⟨zstr hHC (hts _ (zt_4 (List.mem_of_getElem? (i := 52) rfl))), List.forall_mem_cons.mpr ⟨zstr hHC (hts _ (zt_4 (List.mem_of_getElem? (i := 64) rfl))), fun _ h9 => absurd h9 List.not_mem_nil⟩⟩⟩⟩⟩⟩⟩⟩⟩⟩⟩⟩⟩⟩⟩⟩⟩⟩⟩
  have hNcs : ∀ q ∈ zNcL, va_Nc q.1 q.2 s := List.forall_mem_cons.mpr ⟨va_Nc.of (hgf _ (by decide +kernel)), List.forall_mem_cons.mpr ⟨va_Nc.of (hgf _ (by decide +kernel)), List.forall_mem_cons.mpr ⟨va_Nc.of (hgf _ (by decide +kernel)), List.forall_mem_cons.mpr ⟨va_Nc.of (hgf _ (by decide +kernel)), List.forall_mem_cons.mpr ⟨va_Nc.of (hgf _ (by decide +kernel)), List.forall_mem_cons.mpr ⟨va_Nc.of (hgf _ (by decide +kernel)), fun _ h9 => absurd h9 List.not_mem_nil⟩⟩⟩⟩⟩⟩
  obtain ⟨A, hAe⟩ : ∃ A : Nat → Prop, A = (fun q => s.heap.size ≤ q) := ⟨_, rfl⟩
  have hA : ∀ q : Nat, s.heap.size ≤ q → A q := fun q h9 => by rw [hAe]; exact h9
  have hAi : ∀ q : Nat, A q → s.heap.size ≤ q := fun q h9 => by rw [hAe] at h9; exact h9
  have hZss : zZs A s := ⟨vx_Zqof (hts _ (zt_3 (List.mem_of_getElem? (i := 85) rfl))) (hw0s _ zm1_9) (hgf _ (by decide +kernel)) (fun q h1 h2 => absurd (hAi q h2) (Nat.not_le.mpr h1)), vx_Zqof (hts _ (zt_3 (List.mem_of_getElem? (i := 87) rfl))) (hw0s _ zm1_9) (hgf _ (by decide +kernel)) (fun q h1 h2 => absurd (hAi q h2) (Nat.not_le.mpr h1))⟩
  have hd0 := Drawn.sameBut.refl s.drawn lw_cs
  refine W.base ?_
  have hw0 := dr_words hw0s s.drawn
  have hK := hKs.draw s.drawn
  have hO : va_AO "HourClock$Hour" (s.setDrawn s.drawn) := hO
  have hS : va_S A s.heap s.heap [] := va_S.rf
  have hP : va_P g.1 vwCl [] s.heap := fun k q h => by simp at h
  have hD : va_D A [] := ⟨fun i j p q h => by simp at h, fun k q h => by simp at h⟩
  have hl := lv_entry ([.ref b]) (n := 9) (Nat.le_of_ble_eq_true rfl)
  rw [lg_entry_eq]
  generalize (lg_sl ([.ref b]) ++ List.replicate (9 - (lg_sl ([.ref b])).length) Slot.unset).toArray = ls at hl ⊢
  have hl : lv_has ls 9 [(0, .ref b)] := hl
  refine va_new (ci := 6) (fs := [.null, .null, .null, .int 0, .null]) (C := RX6) (T := TX6) (N := 5) hx hb hw0 ziX6 tyX6 tyX6_ok hown (hw0 _ zm1_18) (hw0 _ zm1_19) (hw0 _ zm1_1) hK.1 hP hD hS hA rfl (fun j hj => by rcases (show j = 0 ∨ j = 1 ∨ j = 2 ∨ j = 3 ∨ j = 4 by omega) with rfl | rfl | rfl | rfl | rfl <;> rfl) (Nat.le_of_ble_eq_true rfl) (Nat.le_of_ble_eq_true rfl) dL_law_0 (fun qa H hP hD hS => ?_)
  refine W.widen (k := 1) (n := 5) (Nat.le_refl _) (Nat.le_refl _) ?_
  refine lv_dup hx hb dL_law_3 rfl ?_
  refine zk_c (ws := []) (va_runI (As := []) (rest := [.ref qa]) ⟨hx, hb, hml, hown, hw0⟩ (c_X6_init l g qa _) (zcBI hw0 zm1_20 zm1_22 zm1_1 zm1_21 rfl hd_X6_init rfl rfl ⟨Nat.le_of_ble_eq_true rfl, Nat.le_of_ble_eq_true rfl⟩) ⟨zblindC, zpreC (ws := []) hK hO hP hD⟩ rfl rfl hl.1 rfl (lv_room (Nat.le_of_ble_eq_true rfl)) dL_law_4 ⟨Nat.le_of_ble_eq_true rfl, Nat.le_of_ble_eq_true rfl⟩) hP hD hS hA (fun a H locs hb0 hP9 hD9 hS => ?_)
  subst hb0
  have hP : va_P g.1 vwCl (zX6 g a zV_X6) H := hP9
  have hD : va_D A (zX6 g a zV_X6) := hD9
  refine W.widen (k := 112) (n := 1595) (Nat.le_refl _) (Nat.le_refl _) ?_
  refine lv_astore_n (lv' := [(1, .ref (a 0)), (0, .ref b)]) hx hb dL_law_7 rfl hl (by decide) rfl (fun ls hl => ?_)
  refine va_new (ci := 7) (fs := [.null, .null, .null, .null, .int 0, .null, .int 0, .int 0, .int 0, .int 0, .long 0]) (C := RX7) (T := TX7) (N := 11) hx hb hw0 ziX7 tyX7 tyX7_ok hown (hw0 _ zm4_65) (hw0 _ zm4_66) (hw0 _ zm1_8) hK.1 hP hD hS hA rfl (fun j hj => by rcases (show j = 0 ∨ j = 1 ∨ j = 2 ∨ j = 3 ∨ j = 4 ∨ j = 5 ∨ j = 6 ∨ j = 7 ∨ j = 8 ∨ j = 9 ∨ j = 10 by omega) with rfl | rfl | rfl | rfl | rfl | rfl | rfl | rfl | rfl | rfl | rfl <;> rfl) (Nat.le_of_ble_eq_true rfl) (Nat.le_of_ble_eq_true rfl) dL_law_8 (fun qh H hP hD hS => ?_)
  refine W.widen (k := 113) (n := 1606) (Nat.le_refl _) (Nat.le_refl _) ?_
  refine lv_dup hx hb dL_law_11 rfl ?_
  refine zk_c (ws := zX6 g a zV_X6) (va_runI (As := []) (rest := [.ref qh]) ⟨hx, hb, hml, hown, hw0⟩ (c_X7_init l g qh _) (zcBI hw0 zm4_67 zm4_69 zm1_8 zm4_68 rfl hd_X7_init rfl rfl ⟨Nat.le_of_ble_eq_true rfl, Nat.le_of_ble_eq_true rfl⟩) ⟨zblindC, zpreC (ws := zX6 g a zV_X6) hK hO hP hD⟩ rfl rfl hl.1 rfl (lv_room (Nat.le_of_ble_eq_true rfl)) dL_law_12 ⟨Nat.le_of_ble_eq_true rfl, Nat.le_of_ble_eq_true rfl⟩) hP hD hS hA (fun h H locs hb0 hP9 hD9 hS => ?_)
  subst hb0
  have hP : va_P g.1 vwCl (zX6 g a zV_X6 ++ zX7 g h zV_X7) H := hP9
  have hD : va_D A (zX6 g a zV_X6 ++ zX7 g h zV_X7) := hD9
  refine W.widen (k := 118) (n := 3246) (Nat.le_refl _) (Nat.le_refl _) ?_
  refine lv_astore_n (lv' := [(2, .ref (h 0)), (1, .ref (a 0)), (0, .ref b)]) hx hb dL_law_15 rfl hl (by decide) rfl (fun ls hl => ?_)
  refine lv_iconst (v := 1) hx hb dL_law_16 (by decide) ?_
  refine znewJ (N := 1) hx hb (hw0 _ zm5_172) hK hP hD hS hA (by decide) rfl (by decide) (Nat.le_of_ble_eq_true rfl) (Nat.le_of_ble_eq_true rfl) dL_law_17 (fun o H hP hD hS => ?_)
  refine W.widen (k := 119) (n := 3247) (Nat.le_refl _) (Nat.le_refl _) ?_
  refine lv_astore_n (lv' := [(3, .ref o), (2, .ref (h 0)), (1, .ref (a 0)), (0, .ref b)]) hx hb dL_law_19 rfl hl (by decide) rfl (fun ls hl => ?_)
  refine lv_iconst (v := 0) hx hb dL_law_20 (by decide) ?_
  refine lv_istore (lv' := [(4, .int 0), (3, .ref o), (2, .ref (h 0)), (1, .ref (a 0)), (0, .ref b)]) hx hb dL_law_21 hl (by decide) rfl (fun ls hl => ?_)
  have hP := va_P_mem hP (fun q hq => (zswap_perm.mem_iff).mpr hq)
  have hD := va_D_perm hD zswap_perm
  rw [hAe] at hD hS hZss
  exact law_loop l hst9 hL C0 Rel hAll g a h o hKs hKxs hZss hNcs 513 0 (by omega) (by omega) zV_X6 zV_X7 (fun _ => 0) hR0 s.drawn hd0 H _ hP hD hS ls (lv_sub hl [4, 3, 2, 1, 0] rfl)
