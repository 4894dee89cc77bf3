set_option maxHeartbeats 20000000 in
set_option maxRecDepth 100000 in
theorem law_1 {p : Program} {e : Env} {s : State} {m : MethodId} {below : List Frame} {meth : Method} {c : Code} {Q : State → Prop} (l : Launch) (hst9 : l.stackTraces = false) {b L : Nat} {xs : FF} (hL : L ≤ 260) (hx : p.tables.exec = Jvm.exec) (hb : c.code = code) (hml : c.maxLocals = 9) (hown : s.vm.findClass RL = some m.cls) (hw0 : ∀ w ∈ zW, w.before #[Value.ref b] s = true) (hX : va_X b L xs s s.heap) (hbl : b < s.heap.size) {g : zG} (hK : zK zNF zNM g s) (hKx : zKx s) {A : Nat → Prop} (hA : ∀ q : Nat, s.heap.size ≤ q → A q) (hbA : ¬ A b) (hZs : zZs A s) (hNc : ∀ q ∈ zNcL, va_Nc q.1 q.2 s) (a : Nat → Nat) (b0 b1 b2 b3 : Nat) (kk : ∀ (v : CV) (G0 G1 G2 G3 : FF), JJ v G0 G1 G2 G3 → ∀ (H : Heap) (locs : List Loc), va_P g.1 vwCl ([(b0, .inl (g.2.1, 9, .inl G0))] ++ [(b1, .inl (g.2.1, 30, .inl G1))] ++ [(b2, .inl (g.2.1, 15, .inl G2))] ++ [(b3, .inl (g.2.1, 63, .inl G3))] ++ zX6 g a v) H → va_D A ([(b0, .inl (g.2.1, 9, .inl G0))] ++ [(b1, .inl (g.2.1, 30, .inl G1))] ++ [(b2, .inl (g.2.1, 15, .inl G2))] ++ [(b3, .inl (g.2.1, 63, .inl G3))] ++ zX6 g a v) → va_S A s.heap H locs → ∀ ls : Array Slot, lv_has ls 9 [(0, .ref b), (1, .ref (a 0)), (2, .ref b0), (3, .ref b1), (4, .ref b2), (5, .ref b3), (6, .int 1)] → W p l e room_1 s m #[Value.ref b] below meth c H locs (134) (1820) Q (F0 m 106 ls [])) : ∀ (n j : Nat), j + n = 7 → ∀ (v : CV) (G0 G1 G2 G3 : FF), JJ v G0 G1 G2 G3 → ∀ (H : Heap) (locs : List Loc), va_P g.1 vwCl ([(b0, .inl (g.2.1, 9, .inl G0))] ++ [(b1, .inl (g.2.1, 30, .inl G1))] ++ [(b2, .inl (g.2.1, 15, .inl G2))] ++ [(b3, .inl (g.2.1, 63, .inl G3))] ++ zX6 g a v) H → va_D A ([(b0, .inl (g.2.1, 9, .inl G0))] ++ [(b1, .inl (g.2.1, 30, .inl G1))] ++ [(b2, .inl (g.2.1, 15, .inl G2))] ++ [(b3, .inl (g.2.1, 63, .inl G3))] ++ zX6 g a v) → va_S A s.heap H locs → ∀ ls : Array Slot, lv_has ls 9 [(0, .ref b), (1, .ref (a 0)), (2, .ref b0), (3, .ref b1), (4, .ref b2), (5, .ref b3), (6, .int 1), (7, .int (nI j))] → W p l e room_1 s m #[Value.ref b] below meth c H locs (120 + 2 * j) (1736 + 12 * j) Q (F0 m 45 ls []) := by
  intro n
  induction n with
  | zero =>
    intro j hj v G0 G1 G2 G3 hJ H locs hP hD hS ls hl
    obtain rfl : j = 7 := by omega
    refine lv_iload hx hb dL_law_45 (lv_at hl 7 rfl) ?_
    refine lv_bipush (v := 7) hx hb dL_law_47 (by decide) ?_
    refine lv_icmp_ge (tgt := 106) hx hb dL_law_49 (by decide) (fun _ => ?_) (fun c9 => absurd (show (7 : Int32) ≤ nI 7 from Int32.le_refl _) c9)
    exact kk v G0 G1 G2 G3 hJ H locs hP hD hS ls (lv_sub hl [0, 1, 2, 3, 4, 5, 6] rfl)
  | succ n ih =>
    intro j hj v G0 G1 G2 G3 hJ H locs hP hD hS ls hl
    refine lv_iload hx hb dL_law_45 (lv_at hl 7 rfl) ?_
    refine lv_bipush (v := 7) hx hb dL_law_47 (by decide) ?_
    refine lv_icmp_ge (tgt := 106) hx hb dL_law_49 (by decide) (fun c9 => absurd ((nI_leI (a := 7) (b := j) (by omega) (by omega)).mp c9) (by omega)) (fun _ => ?_)
    refine lv_iload hx hb dL_law_52 (lv_at hl 6 rfl) ?_
    refine lv_if_eq (tgt := 106) hx hb dL_law_54 (by decide) (fun c9 => absurd c9 (by decide)) (fun _ => ?_)
    refine lv_aload_n hx hb dL_law_57 rfl (lv_at hl 1 rfl) ?_
    refine lv_aload_n hx hb dL_law_58 rfl (lv_at hl 2 rfl) ?_
    refine lv_aload_n hx hb dL_law_59 rfl (lv_at hl 3 rfl) ?_
    refine lv_aload hx hb dL_law_60 (lv_at hl 4 rfl) ?_
    refine lv_aload hx hb dL_law_62 (lv_at hl 5 rfl) ?_
    refine lv_aload_n hx hb dL_law_64 rfl (lv_at hl 0 rfl) ?_
    refine lv_iconst (v := 1) hx hb dL_law_65 (by decide) ?_
    refine lv_iload hx hb dL_law_66 (lv_at hl 7 rfl) ?_
    refine lv_iadd hx hb dL_law_68 ?_
    rw [show (1 : Int32) + nI j = nI (1 + j) from nI_add 1 j]
    refine zk_cell (va_runS (As := [.ref b, .int (nI (1 + j))]) (rest := [.ref b3, .ref b2, .ref b1, .ref b0, .ref (a 0)]) ⟨hx, hb, hml, hown, hw0⟩ (c_L_cell l b L xs (1 + j) (by omega) hL _) (zcS hw0 zm1_218 zm1_220 zm1_0 zm1_219 hd_L_cell rfl rfl ⟨Nat.le_of_ble_eq_true rfl, Nat.le_of_ble_eq_true rfl⟩) ⟨zblindCell, zpreCell hX hbl hbA hS⟩ rfl rfl hl.1 rfl (lv_room (Nat.le_of_ble_eq_true rfl)) dL_law_69 ⟨Nat.le_trans (show 120 + 2 * j + 0 ≤ 1000 by omega) (Nat.le_of_ble_eq_true rfl), Nat.le_trans (show 1736 + 12 * j + 0 ≤ 10000 by omega) (Nat.le_of_ble_eq_true rfl)⟩) hP hD hS hA (fun z H locs hP hD hS => ?_)
    refine lv_ldc (v := 2147483647) hx hb hown (hw0 _ zm1_225) dL_law_72 ?_
    refine lv_iand hx hb dL_law_74 ?_
    refine lv_sipush (v := 576) hx hb dL_law_75 (by decide) ?_
    refine lv_idiv hx hb dL_law_78 (by decide) ?_
    refine lv_sipush (v := 576) hx hb dL_law_79 (by decide) ?_
    refine lv_imul hx hb dL_law_82 ?_
    generalize (z &&& 2147483647) / 576 * 576 = zz
    have fin : ∀ q : Int32, W p l e room_1 s m #[Value.ref b] below meth c H locs (120 + 2 * j) (1736 + 12 * j) Q (F0 m 94 ls (.int q :: .int zz :: [.ref b3, .ref b2, .ref b1, .ref b0, .ref (a 0)])) := by
      intro q
      refine lv_iadd hx hb dL_law_94 ?_
      obtain ⟨v', g', e', f', l', hf9, hJ'⟩ := A_acts hJ (zz + q)
      refine zkQ_i (y := []) (va_runS (As := [.ref (a 0), .ref b0, .ref b1, .ref b2, .ref b3, .int (zz + q)]) (rest := []) ⟨hx, hb, hml, hown, hw0⟩ (c_L_acts l hst9 g b0 b1 b2 b3 a G0 G1 G2 G3 v (zz + q) _ hf9 _) (zcSB hw0 zm1_226 zm1_228 zm1_0 zm1_227 hd_L_acts rfl rfl ⟨Nat.le_of_ble_eq_true rfl, Nat.le_of_ble_eq_true rfl⟩) ⟨zblindL, zpreWQ (y := []) hK hKx hZs hNc hP hD hS hA⟩ rfl rfl hl.1 rfl (lv_room (Nat.le_of_ble_eq_true rfl)) dL_law_95 ⟨Nat.le_trans (show 120 + 2 * j + 2 ≤ 1000 by omega) (Nat.le_of_ble_eq_true rfl), Nat.le_trans (show 1736 + 12 * j + 12 ≤ 10000 by omega) (Nat.le_of_ble_eq_true rfl)⟩) hP hD hS hA rfl (fun H locs hP hD hS => ?_)
      have hP : va_P g.1 vwCl ([(b0, .inl (g.2.1, 9, .inl g'))] ++ [(b1, .inl (g.2.1, 30, .inl e'))] ++ [(b2, .inl (g.2.1, 15, .inl f'))] ++ [(b3, .inl (g.2.1, 63, .inl l'))] ++ zX6 g a v') H := hP
      have hD : va_D A ([(b0, .inl (g.2.1, 9, .inl g'))] ++ [(b1, .inl (g.2.1, 30, .inl e'))] ++ [(b2, .inl (g.2.1, 15, .inl f'))] ++ [(b3, .inl (g.2.1, 63, .inl l'))] ++ zX6 g a v') := hD
      refine W.widen (k := 120 + 2 * (j + 1)) (n := 1736 + 12 * (j + 1)) (by omega) (by omega) ?_
      refine lv_istore (lv' := [(6, .int 1), (0, .ref b), (1, .ref (a 0)), (2, .ref b0), (3, .ref b1), (4, .ref b2), (5, .ref b3), (7, .int (nI j))]) hx hb dL_law_98 hl (by decide) rfl (fun ls hl => ?_)
      refine lv_iinc (v := nI (j + 1)) (lv' := [(7, .int (nI (j + 1))), (6, .int 1), (0, .ref b), (1, .ref (a 0)), (2, .ref b0), (3, .ref b1), (4, .ref b2), (5, .ref b3)]) hx hb dL_law_100 hl (k := 7) rfl (nI_add j 1) (by decide) rfl (fun ls hl => ?_)
      refine lv_goto (tgt := 45) hx hb dL_law_103 (by decide) ?_
      exact ih (j + 1) (by omega) v' g' e' f' l' hJ' H locs hP hD hS ls (lv_sub hl [2, 3, 4, 5, 6, 7, 1, 0] rfl)
    refine lv_iload hx hb dL_law_83 (lv_at hl 7 rfl) ?_
    refine lv_iconst (v := 4) hx hb dL_law_85 (by decide) ?_
    refine lv_icmp_ge (tgt := 93) hx hb dL_law_86 (by decide) (fun _ => ?_) (fun _ => ?_)
    · refine lv_iconst (v := 3) hx hb dL_law_93 (by decide) ?_
      exact fin 3
    · refine lv_iconst (v := 1) hx hb dL_law_89 (by decide) ?_
      refine lv_goto (tgt := 94) hx hb dL_law_90 (by decide) ?_
      exact fin 1
set_option maxHeartbeats 20000000 in
set_option maxRecDepth 100000 in
theorem law_2 {p : Program} {e : Env} {s : State} {m : MethodId} {below : List Frame} {meth : Method} {c : Code} {Q : State → Prop} (l : Launch) (hst9 : l.stackTraces = false) {b L : Nat} {xs : FF} (hL : L ≤ 260) (hx : p.tables.exec = Jvm.exec) (hb : c.code = code) (hml : c.maxLocals = 9) (hown : s.vm.findClass RL = some m.cls) (hw0 : ∀ w ∈ zW, w.before #[Value.ref b] s = true) (hX : va_X b L xs s s.heap) (hbl : b < s.heap.size) {g : zG} (hK : zK zNF zNM g s) (hKx : zKx s) {A : Nat → Prop} (hA : ∀ q : Nat, s.heap.size ≤ q → A q) (hbA : ¬ A b) (hZs : zZs A s) (hNc : ∀ q ∈ zNcL, va_Nc q.1 q.2 s) (a : Nat → Nat) (b0 b1 b2 b3 : Nat) (N : Nat) (hN : N ≤ 60) (kk : ∀ (v : CV) (G0 G1 G2 G3 : FF), JJ v G0 G1 G2 G3 → ∀ (H : Heap) (locs : List Loc), va_P g.1 vwCl ([(b0, .inl (g.2.1, 9, .inl G0))] ++ [(b1, .inl (g.2.1, 30, .inl G1))] ++ [(b2, .inl (g.2.1, 15, .inl G2))] ++ [(b3, .inl (g.2.1, 63, .inl G3))] ++ zX6 g a v) H → va_D A ([(b0, .inl (g.2.1, 9, .inl G0))] ++ [(b1, .inl (g.2.1, 30, .inl G1))] ++ [(b2, .inl (g.2.1, 15, .inl G2))] ++ [(b3, .inl (g.2.1, 63, .inl G3))] ++ zX6 g a v) → va_S A s.heap H locs → ∀ ls : Array Slot, lv_has ls 9 [(0, .ref b), (1, .ref (a 0)), (2, .ref b0), (3, .ref b1), (4, .ref b2), (5, .ref b3), (6, .int 1)] → W p l e room_1 s m #[Value.ref b] below meth c H locs (500) (4000) Q (F0 m 191 ls [])) : ∀ (n j : Nat), j + n = N → ∀ (v : CV) (G0 G1 G2 G3 : FF), JJ v G0 G1 G2 G3 → ∀ (H : Heap) (locs : List Loc), va_P g.1 vwCl ([(b0, .inl (g.2.1, 9, .inl G0))] ++ [(b1, .inl (g.2.1, 30, .inl G1))] ++ [(b2, .inl (g.2.1, 15, .inl G2))] ++ [(b3, .inl (g.2.1, 63, .inl G3))] ++ zX6 g a v) H → va_D A ([(b0, .inl (g.2.1, 9, .inl G0))] ++ [(b1, .inl (g.2.1, 30, .inl G1))] ++ [(b2, .inl (g.2.1, 15, .inl G2))] ++ [(b3, .inl (g.2.1, 63, .inl G3))] ++ zX6 g a v) → va_S A s.heap H locs → ∀ ls : Array Slot, lv_has ls 9 [(0, .ref b), (1, .ref (a 0)), (2, .ref b0), (3, .ref b1), (4, .ref b2), (5, .ref b3), (6, .int 1), (7, .int (nI N)), (8, .int (nI j))] → W p l e room_1 s m #[Value.ref b] below meth c H locs (134 + 6 * j) (1820 + 36 * j) Q (F0 m 124 ls []) := by
  intro n
  induction n with
  | zero =>
    intro j hj v G0 G1 G2 G3 hJ H locs hP hD hS ls hl
    refine lv_iload hx hb dL_law_124 (lv_at hl 8 rfl) ?_
    refine lv_iload hx hb dL_law_126 (lv_at hl 7 rfl) ?_
    refine lv_icmp_ge (tgt := 191) hx hb dL_law_128 (by decide) (fun _ => ?_) (fun c9 => absurd ((nI_leI (a := N) (b := j) (by omega) (by omega)).mpr (by omega)) c9)
    refine W.widen (k := 500) (n := 4000) (by omega) (by omega) ?_
    exact kk v G0 G1 G2 G3 hJ H locs hP hD hS ls (lv_sub hl [0, 1, 2, 3, 4, 5, 6] rfl)
  | succ n ih =>
    intro j hj v G0 G1 G2 G3 hJ H locs hP hD hS ls hl
    refine lv_iload hx hb dL_law_124 (lv_at hl 8 rfl) ?_
    refine lv_iload hx hb dL_law_126 (lv_at hl 7 rfl) ?_
    refine lv_icmp_ge (tgt := 191) hx hb dL_law_128 (by decide) (fun c9 => absurd ((nI_leI (a := N) (b := j) (by omega) (by omega)).mp c9) (by omega)) (fun _ => ?_)
    refine lv_iload hx hb dL_law_131 (lv_at hl 6 rfl) ?_
    refine lv_if_eq (tgt := 191) hx hb dL_law_133 (by decide) (fun c9 => absurd c9 (by decide)) (fun _ => ?_)
    refine lv_aload_n hx hb dL_law_136 rfl (lv_at hl 1 rfl) ?_
    refine lv_aload_n hx hb dL_law_137 rfl (lv_at hl 2 rfl) ?_
    refine lv_aload_n hx hb dL_law_138 rfl (lv_at hl 3 rfl) ?_
    refine lv_aload hx hb dL_law_139 (lv_at hl 4 rfl) ?_
    refine lv_aload hx hb dL_law_141 (lv_at hl 5 rfl) ?_
    refine lv_aload_n hx hb dL_law_143 rfl (lv_at hl 0 rfl) ?_
    refine lv_bipush (v := 8) hx hb dL_law_144 (by decide) ?_
    refine lv_iload hx hb dL_law_146 (lv_at hl 8 rfl) ?_
    refine lv_iadd hx hb dL_law_148 ?_
    rw [show (8 : Int32) + nI j = nI (8 + j) from nI_add 8 j]
    refine zk_cell (va_runS (As := [.ref b, .int (nI (8 + j))]) (rest := [.ref b3, .ref b2, .ref b1, .ref b0, .ref (a 0)]) ⟨hx, hb, hml, hown, hw0⟩ (c_L_cell l b L xs (8 + j) (by omega) hL _) (zcS hw0 zm1_218 zm1_220 zm1_0 zm1_219 hd_L_cell rfl rfl ⟨Nat.le_of_ble_eq_true rfl, Nat.le_of_ble_eq_true rfl⟩) ⟨zblindCell, zpreCell hX hbl hbA hS⟩ rfl rfl hl.1 rfl (lv_room (Nat.le_of_ble_eq_true rfl)) dL_law_149 ⟨Nat.le_trans (show 134 + 6 * j + 0 ≤ 1000 by omega) (Nat.le_of_ble_eq_true rfl), Nat.le_trans (show 1820 + 36 * j + 0 ≤ 10000 by omega) (Nat.le_of_ble_eq_true rfl)⟩) hP hD hS hA (fun z H locs hP hD hS => ?_)
    refine lv_sipush (v := 7919) hx hb dL_law_152 (by decide) ?_
    refine lv_iload hx hb dL_law_155 (lv_at hl 8 rfl) ?_
    refine lv_imul hx hb dL_law_157 ?_
    refine lv_ixor hx hb dL_law_158 ?_
    generalize z ^^^ (7919 * nI j) = zz
    obtain ⟨v', g', e', f', l', hf9, hJ'⟩ := A_acts hJ zz
    refine zkQ_i (y := []) (va_runS (As := [.ref (a 0), .ref b0, .ref b1, .ref b2, .ref b3, .int zz]) (rest := []) ⟨hx, hb, hml, hown, hw0⟩ (c_L_acts l hst9 g b0 b1 b2 b3 a G0 G1 G2 G3 v zz _ hf9 _) (zcSB hw0 zm1_226 zm1_228 zm1_0 zm1_227 hd_L_acts rfl rfl ⟨Nat.le_of_ble_eq_true rfl, Nat.le_of_ble_eq_true rfl⟩) ⟨zblindL, zpreWQ (y := []) hK hKx hZs hNc hP hD hS hA⟩ rfl rfl hl.1 rfl (lv_room (Nat.le_of_ble_eq_true rfl)) dL_law_159 ⟨Nat.le_trans (show 134 + 6 * j + 2 ≤ 1000 by omega) (Nat.le_of_ble_eq_true rfl), Nat.le_trans (show 1820 + 36 * j + 12 ≤ 10000 by omega) (Nat.le_of_ble_eq_true rfl)⟩) hP hD hS hA rfl (fun H locs hP hD hS => ?_)
    have hP : va_P g.1 vwCl ([(b0, .inl (g.2.1, 9, .inl g'))] ++ [(b1, .inl (g.2.1, 30, .inl e'))] ++ [(b2, .inl (g.2.1, 15, .inl f'))] ++ [(b3, .inl (g.2.1, 63, .inl l'))] ++ zX6 g a v') H := hP
    have hD : va_D A ([(b0, .inl (g.2.1, 9, .inl g'))] ++ [(b1, .inl (g.2.1, 30, .inl e'))] ++ [(b2, .inl (g.2.1, 15, .inl f'))] ++ [(b3, .inl (g.2.1, 63, .inl l'))] ++ zX6 g a v') := hD
    refine lv_if_eq (tgt := 182) hx hb dL_law_162 (by decide) (fun c9 => absurd c9 zb1) (fun _ => ?_)
    refine lv_aload_n hx hb dL_law_165 rfl (lv_at hl 1 rfl) ?_
    refine lv_aload_n hx hb dL_law_166 rfl (lv_at hl 2 rfl) ?_
    refine lv_aload_n hx hb dL_law_167 rfl (lv_at hl 3 rfl) ?_
    refine lv_aload hx hb dL_law_168 (lv_at hl 4 rfl) ?_
    refine lv_aload hx hb dL_law_170 (lv_at hl 5 rfl) ?_
    refine zkQ_i (y := []) (va_runS (As := [.ref (a 0), .ref b0, .ref b1, .ref b2, .ref b3]) (rest := []) ⟨hx, hb, hml, hown, hw0⟩ (c_L_isSo l hst9 g b0 b1 b2 b3 a g' e' f' l' v' _ (A_isSo hJ') _) (zcSB hw0 zm3_153 zm3_155 zm1_0 zm3_154 hd_L_isSo rfl rfl ⟨Nat.le_of_ble_eq_true rfl, Nat.le_of_ble_eq_true rfl⟩) ⟨zblindL, zpreWQ (y := []) hK hKx hZs hNc hP hD hS hA⟩ rfl rfl hl.1 rfl (lv_room (Nat.le_of_ble_eq_true rfl)) dL_law_172 ⟨Nat.le_trans (show 134 + 6 * j + 2 + 4 ≤ 1000 by omega) (Nat.le_of_ble_eq_true rfl), Nat.le_trans (show 1820 + 36 * j + 12 + 24 ≤ 10000 by omega) (Nat.le_of_ble_eq_true rfl)⟩) hP hD hS hA rfl (fun H locs hP hD hS => ?_)
    have hP : va_P g.1 vwCl ([(b0, .inl (g.2.1, 9, .inl g'))] ++ [(b1, .inl (g.2.1, 30, .inl e'))] ++ [(b2, .inl (g.2.1, 15, .inl f'))] ++ [(b3, .inl (g.2.1, 63, .inl l'))] ++ zX6 g a v') H := hP
    have hD : va_D A ([(b0, .inl (g.2.1, 9, .inl g'))] ++ [(b1, .inl (g.2.1, 30, .inl e'))] ++ [(b2, .inl (g.2.1, 15, .inl f'))] ++ [(b3, .inl (g.2.1, 63, .inl l'))] ++ zX6 g a v') := hD
    refine lv_if_eq (tgt := 182) hx hb dL_law_175 (by decide) (fun c9 => absurd c9 zb1) (fun _ => ?_)
    refine lv_iconst (v := 1) hx hb dL_law_178 (by decide) ?_
    refine lv_goto (tgt := 183) hx hb dL_law_179 (by decide) ?_
    refine W.widen (k := 134 + 6 * (j + 1)) (n := 1820 + 36 * (j + 1)) (by omega) (by omega) ?_
    refine lv_istore (lv' := [(6, .int 1), (0, .ref b), (1, .ref (a 0)), (2, .ref b0), (3, .ref b1), (4, .ref b2), (5, .ref b3), (7, .int (nI N)), (8, .int (nI j))]) hx hb dL_law_183 hl (by decide) rfl (fun ls hl => ?_)
    refine lv_iinc (v := nI (j + 1)) (lv' := [(8, .int (nI (j + 1))), (6, .int 1), (0, .ref b), (1, .ref (a 0)), (2, .ref b0), (3, .ref b1), (4, .ref b2), (5, .ref b3), (7, .int (nI N))]) hx hb dL_law_185 hl (k := 8) rfl (nI_add j 1) (by decide) rfl (fun ls hl => ?_)
    refine lv_goto (tgt := 124) hx hb dL_law_188 (by decide) ?_
    exact ih (j + 1) (by omega) v' g' e' f' l' hJ' H locs hP hD hS ls (lv_sub hl [2, 3, 4, 5, 6, 7, 1, 8, 0] rfl)
set_option maxHeartbeats 20000000 in
set_option maxRecDepth 100000 in
theorem law_m {p : Program} {e : Env} {s : State} {m : MethodId} {below : List Frame} {meth : Method} {c : Code} {Q : State → Prop} (l : Launch) (hst9 : l.stackTraces = false) {b L : Nat} {xs : FF} (hL : L ≤ 260) (hx : p.tables.exec = Jvm.exec) (hb : c.code = code) (hml : c.maxLocals = 9) (hown : s.vm.findClass RL = some m.cls) (hw0 : ∀ w ∈ zW, w.before #[Value.ref b] s = true) (hX : va_X b L xs s s.heap) (hbl : b < s.heap.size) {g : zG} (hK : zK zNF zNM g s) (hKx : zKx s) {A : Nat → Prop} (hA : ∀ q : Nat, s.heap.size ≤ q → A q) (hbA : ¬ A b) (hZs : zZs A s) (hNc : ∀ q ∈ zNcL, va_Nc q.1 q.2 s) (a : Nat → Nat) (b0 b1 b2 b3 : Nat) (kk : ∀ (v : CV) (G0 G1 G2 G3 : FF), JJ v G0 G1 G2 G3 → ∀ (H : Heap) (locs : List Loc), va_P g.1 vwCl ([(b0, .inl (g.2.1, 9, .inl G0))] ++ [(b1, .inl (g.2.1, 30, .inl G1))] ++ [(b2, .inl (g.2.1, 15, .inl G2))] ++ [(b3, .inl (g.2.1, 63, .inl G3))] ++ zX6 g a v) H → va_D A ([(b0, .inl (g.2.1, 9, .inl G0))] ++ [(b1, .inl (g.2.1, 30, .inl G1))] ++ [(b2, .inl (g.2.1, 15, .inl G2))] ++ [(b3, .inl (g.2.1, 63, .inl G3))] ++ zX6 g a v) → va_S A s.heap H locs → ∀ ls : Array Slot, lv_has ls 9 [(0, .ref b), (1, .ref (a 0)), (2, .ref b0), (3, .ref b1), (4, .ref b2), (5, .ref b3), (6, .int 1)] → W p l e room_1 s m #[Value.ref b] below meth c H locs (500) (4000) Q (F0 m 191 ls [])) : ∀ (v : CV) (G0 G1 G2 G3 : FF), JJ v G0 G1 G2 G3 → ∀ (H : Heap) (locs : List Loc), va_P g.1 vwCl ([(b0, .inl (g.2.1, 9, .inl G0))] ++ [(b1, .inl (g.2.1, 30, .inl G1))] ++ [(b2, .inl (g.2.1, 15, .inl G2))] ++ [(b3, .inl (g.2.1, 63, .inl G3))] ++ zX6 g a v) H → va_D A ([(b0, .inl (g.2.1, 9, .inl G0))] ++ [(b1, .inl (g.2.1, 30, .inl G1))] ++ [(b2, .inl (g.2.1, 15, .inl G2))] ++ [(b3, .inl (g.2.1, 63, .inl G3))] ++ zX6 g a v) → va_S A s.heap H locs → ∀ ls : Array Slot, lv_has ls 9 [(0, .ref b), (1, .ref (a 0)), (2, .ref b0), (3, .ref b1), (4, .ref b2), (5, .ref b3), (6, .int 1)] → W p l e room_1 s m #[Value.ref b] below meth c H locs (134) (1820) Q (F0 m 106 ls []) := by
  intro v G0 G1 G2 G3 hJ H locs hP hD hS ls hl
  refine lv_bipush (v := 8) hx hb dL_law_106 (by decide) ?_
  refine lv_aload_n hx hb dL_law_108 rfl (lv_at hl 0 rfl) ?_
  refine lv_iconst (v := 0) hx hb dL_law_109 (by decide) ?_
  refine zk_cell (va_runS (As := [.ref b, .int (nI (0))]) (rest := [.int 8]) ⟨hx, hb, hml, hown, hw0⟩ (c_L_cell l b L xs (0) (by omega) hL _) (zcS hw0 zm1_218 zm1_220 zm1_0 zm1_219 hd_L_cell rfl rfl ⟨Nat.le_of_ble_eq_true rfl, Nat.le_of_ble_eq_true rfl⟩) ⟨zblindCell, zpreCell hX hbl hbA hS⟩ rfl rfl hl.1 rfl (lv_room (Nat.le_of_ble_eq_true rfl)) dL_law_110 ⟨Nat.le_trans (show 134 + 0 ≤ 1000 by omega) (Nat.le_of_ble_eq_true rfl), Nat.le_trans (show 1820 + 0 ≤ 10000 by omega) (Nat.le_of_ble_eq_true rfl)⟩) hP hD hS hA (fun z H locs hP hD hS => ?_)
  refine lv_bipush (v := 50) hx hb dL_law_113 (by decide) ?_
  obtain ⟨V, hV, hlow⟩ := low_c (x := z) (M := 50) (by omega) (by omega)
  have hlow : f_L_low z 50 = some (nI V) := hlow
  refine zk_iR (va_runS (As := [.int z, .int 50]) (rest := [.int 8]) ⟨hx, hb, hml, hown, hw0⟩ (c_L_low l g z 50 _ hlow _) (zcS hw0 zm1_222 zm1_224 zm1_0 zm1_223 hd_L_low rfl rfl ⟨Nat.le_of_ble_eq_true rfl, Nat.le_of_ble_eq_true rfl⟩) ⟨zblind, zpre hK hP hD [] rfl rfl⟩ rfl rfl hl.1 rfl (lv_room (Nat.le_of_ble_eq_true rfl)) dL_law_115 ⟨Nat.le_trans (show 134 + 0 ≤ 1000 by omega) (Nat.le_of_ble_eq_true rfl), Nat.le_trans (show 1820 + 0 ≤ 10000 by omega) (Nat.le_of_ble_eq_true rfl)⟩) hP hD hS hA [] rfl (fun H locs hP hD hS => ?_)
  refine lv_iadd hx hb dL_law_118 ?_
  rw [show (8 : Int32) + nI V = nI (8 + V) from nI_add 8 V]
  refine lv_istore (lv' := [(7, .int (nI (8 + V))), (0, .ref b), (1, .ref (a 0)), (2, .ref b0), (3, .ref b1), (4, .ref b2), (5, .ref b3), (6, .int 1)]) hx hb dL_law_119 hl (by decide) rfl (fun ls hl => ?_)
  refine lv_iconst (v := 0) hx hb dL_law_121 (by decide) ?_
  refine lv_istore (lv' := [(8, .int (nI 0)), (7, .int (nI (8 + V))), (0, .ref b), (1, .ref (a 0)), (2, .ref b0), (3, .ref b1), (4, .ref b2), (5, .ref b3), (6, .int 1)]) hx hb dL_law_122 hl (by decide) rfl (fun ls hl => ?_)
  exact law_2 l hst9 hL hx hb hml hown hw0 hX hbl hK hKx hA hbA hZs hNc a b0 b1 b2 b3 (8 + V) (by omega) kk (8 + V) 0 (by omega) v G0 G1 G2 G3 hJ H locs hP hD hS ls (lv_sub hl [2, 3, 4, 5, 6, 7, 8, 1, 0] rfl)
